section
/-- a private method of a class that the tables say can be made, by its rows of tables_1 -/
def lw_okq (q : MethodName × Nat) : Prop := (q.1.cls ≠ "java/lang/invoke/MethodHandle" ∧ q.1.cls ≠ "java/lang/invoke/VarHandle") ∧ Cond.instantiable q.1.cls q.2 ∈ tables_1 ∧ Cond.privateMethod q.1 ∈ tables_1 ∧ Cond.instanceMethod q.1 ∈ tables_1
theorem lw_p0 : lw_okq (⟨"KeptHeap$Ager", "meetByRemembered", "()V"⟩, 8) := ⟨⟨by decide +kernel, by decide +kernel⟩, List.mem_of_getElem? (i := 161) (by decide +kernel), List.mem_of_getElem? (i := 265) (by decide +kernel), List.mem_of_getElem? (i := 266) (by decide +kernel)⟩
theorem lw_p1 : lw_okq (⟨"KeptHeap$Ager", "reserve", "()I"⟩, 8) := ⟨⟨by decide +kernel, by decide +kernel⟩, List.mem_of_getElem? (i := 161) (by decide +kernel), List.mem_of_getElem? (i := 294) (by decide +kernel), List.mem_of_getElem? (i := 295) (by decide +kernel)⟩
theorem lw_p2 : lw_okq (⟨"KeptHeap$Ager", "giveBack", "(I)V"⟩, 8) := ⟨⟨by decide +kernel, by decide +kernel⟩, List.mem_of_getElem? (i := 161) (by decide +kernel), List.mem_of_getElem? (i := 316) (by decide +kernel), List.mem_of_getElem? (i := 317) (by decide +kernel)⟩
theorem lw_p3 : lw_okq (⟨"KeptHeap$Ager", "goOver", "()V"⟩, 8) := ⟨⟨by decide +kernel, by decide +kernel⟩, List.mem_of_getElem? (i := 161) (by decide +kernel), List.mem_of_getElem? (i := 325) (by decide +kernel), List.mem_of_getElem? (i := 326) (by decide +kernel)⟩
theorem lw_p4 : lw_okq (⟨"KeptHeap$Ager", "forget", "()V"⟩, 8) := ⟨⟨by decide +kernel, by decide +kernel⟩, List.mem_of_getElem? (i := 161) (by decide +kernel), List.mem_of_getElem? (i := 329) (by decide +kernel), List.mem_of_getElem? (i := 330) (by decide +kernel)⟩
theorem lw_p5 : lw_okq (⟨"KeptHeap", "holderOf", "(II)LKeptHeap$Thing;"⟩, 4) := ⟨⟨by decide +kernel, by decide +kernel⟩, List.mem_of_getElem? (i := 14) (by decide +kernel), List.mem_of_getElem? (i := 453) (by decide +kernel), List.mem_of_getElem? (i := 454) (by decide +kernel)⟩
theorem lw_p6 : lw_okq (⟨"KeptHeap", "whyNoHolder", "(II)I"⟩, 4) := ⟨⟨by decide +kernel, by decide +kernel⟩, List.mem_of_getElem? (i := 14) (by decide +kernel), List.mem_of_getElem? (i := 462) (by decide +kernel), List.mem_of_getElem? (i := 463) (by decide +kernel)⟩
theorem lw_p7 : lw_okq (⟨"KeptHeapModel", "room", "(I)I"⟩, 20) := ⟨⟨by decide +kernel, by decide +kernel⟩, List.mem_of_getElem? (i := 599) (by decide +kernel), List.mem_of_getElem? (i := 677) (by decide +kernel), List.mem_of_getElem? (i := 678) (by decide +kernel)⟩
theorem lw_p8 : lw_okq (⟨"KeptHeapModel", "fit", "(II)I"⟩, 20) := ⟨⟨by decide +kernel, by decide +kernel⟩, List.mem_of_getElem? (i := 599) (by decide +kernel), List.mem_of_getElem? (i := 681) (by decide +kernel), List.mem_of_getElem? (i := 682) (by decide +kernel)⟩
theorem lw_p9 : lw_okq (⟨"KeptHeapModel", "collectNow", "()I"⟩, 20) := ⟨⟨by decide +kernel, by decide +kernel⟩, List.mem_of_getElem? (i := 599) (by decide +kernel), List.mem_of_getElem? (i := 685) (by decide +kernel), List.mem_of_getElem? (i := 686) (by decide +kernel)⟩
theorem lw_p10 : lw_okq (⟨"KeptHeapModel", "copyAll", "()I"⟩, 20) := ⟨⟨by decide +kernel, by decide +kernel⟩, List.mem_of_getElem? (i := 599) (by decide +kernel), List.mem_of_getElem? (i := 689) (by decide +kernel), List.mem_of_getElem? (i := 690) (by decide +kernel)⟩
theorem lw_p11 : lw_okq (⟨"KeptHeapModel", "reach", "()V"⟩, 20) := ⟨⟨by decide +kernel, by decide +kernel⟩, List.mem_of_getElem? (i := 599) (by decide +kernel), List.mem_of_getElem? (i := 693) (by decide +kernel), List.mem_of_getElem? (i := 694) (by decide +kernel)⟩
theorem lw_p12 : lw_okq (⟨"KeptHeapModel", "begin", "()V"⟩, 20) := ⟨⟨by decide +kernel, by decide +kernel⟩, List.mem_of_getElem? (i := 599) (by decide +kernel), List.mem_of_getElem? (i := 697) (by decide +kernel), List.mem_of_getElem? (i := 698) (by decide +kernel)⟩
theorem lw_p13 : lw_okq (⟨"KeptHeapModel", "meet", "(I)V"⟩, 20) := ⟨⟨by decide +kernel, by decide +kernel⟩, List.mem_of_getElem? (i := 599) (by decide +kernel), List.mem_of_getElem? (i := 701) (by decide +kernel), List.mem_of_getElem? (i := 702) (by decide +kernel)⟩
theorem lw_p14 : lw_okq (⟨"KeptHeapModel", "follow", "()V"⟩, 20) := ⟨⟨by decide +kernel, by decide +kernel⟩, List.mem_of_getElem? (i := 599) (by decide +kernel), List.mem_of_getElem? (i := 705) (by decide +kernel), List.mem_of_getElem? (i := 706) (by decide +kernel)⟩
theorem lw_p15 : lw_okq (⟨"KeptHeapModel", "sweep", "(Z)I"⟩, 20) := ⟨⟨by decide +kernel, by decide +kernel⟩, List.mem_of_getElem? (i := 599) (by decide +kernel), List.mem_of_getElem? (i := 709) (by decide +kernel), List.mem_of_getElem? (i := 710) (by decide +kernel)⟩
def lw_privs_1 : List (MethodName × Nat) := [(⟨"KeptHeap$Ager", "meetByRemembered", "()V"⟩, 8), (⟨"KeptHeap$Ager", "reserve", "()I"⟩, 8), (⟨"KeptHeap$Ager", "giveBack", "(I)V"⟩, 8), (⟨"KeptHeap$Ager", "goOver", "()V"⟩, 8), (⟨"KeptHeap$Ager", "forget", "()V"⟩, 8), (⟨"KeptHeap", "holderOf", "(II)LKeptHeap$Thing;"⟩, 4), (⟨"KeptHeap", "whyNoHolder", "(II)I"⟩, 4), (⟨"KeptHeapModel", "room", "(I)I"⟩, 20), (⟨"KeptHeapModel", "fit", "(II)I"⟩, 20), (⟨"KeptHeapModel", "collectNow", "()I"⟩, 20), (⟨"KeptHeapModel", "copyAll", "()I"⟩, 20), (⟨"KeptHeapModel", "reach", "()V"⟩, 20), (⟨"KeptHeapModel", "begin", "()V"⟩, 20), (⟨"KeptHeapModel", "meet", "(I)V"⟩, 20), (⟨"KeptHeapModel", "follow", "()V"⟩, 20), (⟨"KeptHeapModel", "sweep", "(Z)I"⟩, 20)]
theorem lw_r1 : ∀ q ∈ lw_privs_1, lw_okq q := List.forall_mem_cons.mpr ⟨lw_p0, List.forall_mem_cons.mpr ⟨lw_p1, List.forall_mem_cons.mpr ⟨lw_p2, List.forall_mem_cons.mpr ⟨lw_p3, List.forall_mem_cons.mpr ⟨lw_p4, List.forall_mem_cons.mpr ⟨lw_p5, List.forall_mem_cons.mpr ⟨lw_p6, List.forall_mem_cons.mpr ⟨lw_p7, List.forall_mem_cons.mpr ⟨lw_p8, List.forall_mem_cons.mpr ⟨lw_p9, List.forall_mem_cons.mpr ⟨lw_p10, List.forall_mem_cons.mpr ⟨lw_p11, List.forall_mem_cons.mpr ⟨lw_p12, List.forall_mem_cons.mpr ⟨lw_p13, List.forall_mem_cons.mpr ⟨lw_p14, List.forall_mem_cons.mpr ⟨lw_p15, fun _ h => absurd h List.not_mem_nil⟩⟩⟩⟩⟩⟩⟩⟩⟩⟩⟩⟩⟩⟩⟩⟩
theorem lw_p16 : lw_okq (⟨"KeptHeapModel", "isOld", "(I)Z"⟩, 20) := ⟨⟨by decide +kernel, by decide +kernel⟩, List.mem_of_getElem? (i := 599) (by decide +kernel), List.mem_of_getElem? (i := 713) (by decide +kernel), List.mem_of_getElem? (i := 714) (by decide +kernel)⟩
theorem lw_p17 : lw_okq (⟨"KeptHeapModel", "go", "(I)V"⟩, 20) := ⟨⟨by decide +kernel, by decide +kernel⟩, List.mem_of_getElem? (i := 599) (by decide +kernel), List.mem_of_getElem? (i := 717) (by decide +kernel), List.mem_of_getElem? (i := 718) (by decide +kernel)⟩
theorem lw_p18 : lw_okq (⟨"KeptHeapModel", "leave", "(I)V"⟩, 20) := ⟨⟨by decide +kernel, by decide +kernel⟩, List.mem_of_getElem? (i := 599) (by decide +kernel), List.mem_of_getElem? (i := 721) (by decide +kernel), List.mem_of_getElem? (i := 722) (by decide +kernel)⟩
theorem lw_p19 : lw_okq (⟨"KeptHeapModel", "lie", "(II)V"⟩, 20) := ⟨⟨by decide +kernel, by decide +kernel⟩, List.mem_of_getElem? (i := 599) (by decide +kernel), List.mem_of_getElem? (i := 725) (by decide +kernel), List.mem_of_getElem? (i := 726) (by decide +kernel)⟩
theorem lw_p20 : lw_okq (⟨"KeptHeapModel", "minorNow", "()I"⟩, 20) := ⟨⟨by decide +kernel, by decide +kernel⟩, List.mem_of_getElem? (i := 599) (by decide +kernel), List.mem_of_getElem? (i := 729) (by decide +kernel), List.mem_of_getElem? (i := 730) (by decide +kernel)⟩
theorem lw_p21 : lw_okq (⟨"KeptHeapModel", "raise", "(I)Z"⟩, 20) := ⟨⟨by decide +kernel, by decide +kernel⟩, List.mem_of_getElem? (i := 599) (by decide +kernel), List.mem_of_getElem? (i := 733) (by decide +kernel), List.mem_of_getElem? (i := 734) (by decide +kernel)⟩
theorem lw_p22 : lw_okq (⟨"KeptHeapModel", "raiseFields", "(I)Z"⟩, 20) := ⟨⟨by decide +kernel, by decide +kernel⟩, List.mem_of_getElem? (i := 599) (by decide +kernel), List.mem_of_getElem? (i := 737) (by decide +kernel), List.mem_of_getElem? (i := 738) (by decide +kernel)⟩
theorem lw_p23 : lw_okq (⟨"KeptHeapModel", "wrong", "(II)I"⟩, 20) := ⟨⟨by decide +kernel, by decide +kernel⟩, List.mem_of_getElem? (i := 599) (by decide +kernel), List.mem_of_getElem? (i := 745) (by decide +kernel), List.mem_of_getElem? (i := 746) (by decide +kernel)⟩
def lw_privs_2 : List (MethodName × Nat) := [(⟨"KeptHeapModel", "isOld", "(I)Z"⟩, 20), (⟨"KeptHeapModel", "go", "(I)V"⟩, 20), (⟨"KeptHeapModel", "leave", "(I)V"⟩, 20), (⟨"KeptHeapModel", "lie", "(II)V"⟩, 20), (⟨"KeptHeapModel", "minorNow", "()I"⟩, 20), (⟨"KeptHeapModel", "raise", "(I)Z"⟩, 20), (⟨"KeptHeapModel", "raiseFields", "(I)Z"⟩, 20), (⟨"KeptHeapModel", "wrong", "(II)I"⟩, 20)]
theorem lw_r2 : ∀ q ∈ lw_privs_2, lw_okq q := List.forall_mem_cons.mpr ⟨lw_p16, List.forall_mem_cons.mpr ⟨lw_p17, List.forall_mem_cons.mpr ⟨lw_p18, List.forall_mem_cons.mpr ⟨lw_p19, List.forall_mem_cons.mpr ⟨lw_p20, List.forall_mem_cons.mpr ⟨lw_p21, List.forall_mem_cons.mpr ⟨lw_p22, List.forall_mem_cons.mpr ⟨lw_p23, fun _ h => absurd h List.not_mem_nil⟩⟩⟩⟩⟩⟩⟩⟩
def lw_privs : List (MethodName × Nat) := lw_privs_1 ++ (lw_privs_2)
def lw_tbl : List Cond := k2_sels lw_privs ++ tables_1
theorem lw_privs_ok : ∀ q ∈ lw_privs, lw_okq q := by
  show ∀ q ∈ lw_privs_1 ++ (lw_privs_2), lw_okq q
  exact List.forall_mem_append.mpr ⟨lw_r1, lw_r2⟩
end
section
/-! ===== BEGIN words of one list among another's, by their places ===== -/
theorem goodIn_r {big : List Cond} (ws : List Cond) (ps : List Nat) (hp : ws = ps.filterMap (fun i => big[i]?)) (h : ws.all goodWord = true) : GoodIn big ws := by
  intro w hw
  have h1 := List.all_eq_true.mp h w hw
  rw [hp] at hw
  obtain ⟨i, -, hi⟩ := List.mem_filterMap.mp hw
  have hm : w ∈ big := by first | exact List.mem_of_getElem? hi | exact List.getElem?_mem hi
  exact ⟨hm, good_of_word h1⟩
theorem goodIn_app {big a b : List Cond} (ha : GoodIn big a) (hb : GoodIn big b) : GoodIn big (a ++ b) := fun w h => (List.mem_append.mp h).elim (ha w) (hb w)
theorem goodIn_ca {big a b : List Cond} {c : Cond} (ha : GoodIn big (c :: a)) (hb : GoodIn big b) : GoodIn big (c :: (a ++ b)) := fun w h => (List.mem_cons.mp h).elim (fun e => ha w (List.mem_cons.mpr (Or.inl e))) (fun h => (List.mem_append.mp h).elim (fun h => ha w (List.mem_cons.mpr (Or.inr h))) (hb w))
theorem goodIn_sub {big ws : List Cond} (hm : ∀ w ∈ ws, w ∈ big) (h : ws.all goodWord = true) : GoodIn big ws := fun w hw => ⟨hm w hw, good_of_word (List.all_eq_true.mp h w hw)⟩
/-! ===== END ===== -/

def RX0 : String := "KeptHeap$Ager"
def TX0 : u_T := fun k => match k with
  | 0 => ("KeptHeap$Keeper", "words", "LKeptHeap$Words;", true)
  | 1 => ("KeptHeap$Keeper", "roots", "LKeptHeap$Roots;", true)
  | 2 => ("KeptHeap$Keeper", "walk", "LKeptHeap$Walk;", true)
  | 3 => ("KeptHeap$Keeper", "gathered", "I", false)
  | 4 => ("KeptHeap$Keeper", "gatheredYoung", "I", false)
  | 5 => ("KeptHeap$Keeper", "moved", "I", false)
  | 6 => ("KeptHeap$Ager", "oldStart", "I", true)
  | _ => ("KeptHeap$Ager", "young", "LKeptHeap$Part;", true)
def tyX0 : Nat → FieldType := fun k => match k with
  | 0 => .object "KeptHeap$Words"
  | 1 => .object "KeptHeap$Roots"
  | 2 => .object "KeptHeap$Walk"
  | 3 => .int
  | 4 => .int
  | 5 => .int
  | 6 => .int
  | _ => .object "KeptHeap$Part"
abbrev wsX00 : List Cond := u_ws RX0 TX0 8
theorem nmX0 : ∀ a, a < 8 → ∀ b, b < 8 → a ≠ b → (TX0 a).2.1 ≠ (TX0 b).2.1 := by decide +kernel
theorem tyX0_ok : ∀ k, k < 8 → parseFieldDescriptor (TX0 k).2.2.1 = some (tyX0 k) := by decide +kernel
abbrev cX0_init : ByteArray := prog_2_method_1_code
def yX0_init : MethodName := ⟨RX0, "<init>", "(LKeptHeap$Words;LKeptHeap$Roots;)V"⟩
abbrev cX0_take : ByteArray := prog_2_method_2_code
def yX0_take : MethodName := ⟨RX0, "take", "(I)I"⟩
abbrev cX0_clearRoomFor : ByteArray := prog_2_method_3_code
def yX0_clearRoomFor : MethodName := ⟨RX0, "clearRoomFor", "(I)V"⟩
abbrev cX0_isOld : ByteArray := prog_2_method_4_code
def yX0_isOld : MethodName := ⟨RX0, "isOld", "(LKeptHeap$Thing;)Z"⟩
abbrev cX0_gather : ByteArray := prog_2_method_5_code
def yX0_gather : MethodName := ⟨RX0, "gather", "()I"⟩
abbrev cX0_gatherYoung : ByteArray := prog_2_method_6_code
def yX0_gatherYoung : MethodName := ⟨RX0, "gatherYoung", "()I"⟩
abbrev cX0_meetByRemembered : ByteArray := prog_2_method_7_code
def yX0_meetByRemembered : MethodName := ⟨RX0, "meetByRemembered", "()V"⟩
abbrev cX0_reserve : ByteArray := prog_2_method_8_code
def yX0_reserve : MethodName := ⟨RX0, "reserve", "()I"⟩
abbrev cX0_giveBack : ByteArray := prog_2_method_9_code
def yX0_giveBack : MethodName := ⟨RX0, "giveBack", "(I)V"⟩
abbrev cX0_goOver : ByteArray := prog_2_method_10_code
def yX0_goOver : MethodName := ⟨RX0, "goOver", "()V"⟩
abbrev cX0_forget : ByteArray := prog_2_method_11_code
def yX0_forget : MethodName := ⟨RX0, "forget", "()V"⟩
def RX1 : String := "KeptHeap$Copier"
def TX1 : u_T := fun k => match k with
  | 0 => ("KeptHeap$Keeper", "words", "LKeptHeap$Words;", true)
  | 1 => ("KeptHeap$Keeper", "roots", "LKeptHeap$Roots;", true)
  | 2 => ("KeptHeap$Keeper", "walk", "LKeptHeap$Walk;", true)
  | 3 => ("KeptHeap$Keeper", "gathered", "I", false)
  | 4 => ("KeptHeap$Keeper", "gatheredYoung", "I", false)
  | 5 => ("KeptHeap$Keeper", "moved", "I", false)
  | 6 => ("KeptHeap$Copier", "half", "I", true)
  | 7 => ("KeptHeap$Copier", "inUse", "LKeptHeap$Part;", true)
  | _ => ("KeptHeap$Copier", "start", "I", false)
def tyX1 : Nat → FieldType := fun k => match k with
  | 0 => .object "KeptHeap$Words"
  | 1 => .object "KeptHeap$Roots"
  | 2 => .object "KeptHeap$Walk"
  | 3 => .int
  | 4 => .int
  | 5 => .int
  | 6 => .int
  | 7 => .object "KeptHeap$Part"
  | _ => .int
abbrev wsX10 : List Cond := u_ws RX1 TX1 9
theorem nmX1 : ∀ a, a < 9 → ∀ b, b < 9 → a ≠ b → (TX1 a).2.1 ≠ (TX1 b).2.1 := by decide +kernel
theorem tyX1_ok : ∀ k, k < 9 → parseFieldDescriptor (TX1 k).2.2.1 = some (tyX1 k) := by decide +kernel
abbrev cX1_init : ByteArray := prog_3_method_1_code
def yX1_init : MethodName := ⟨RX1, "<init>", "(LKeptHeap$Words;LKeptHeap$Roots;)V"⟩
abbrev cX1_take : ByteArray := prog_3_method_2_code
def yX1_take : MethodName := ⟨RX1, "take", "(I)I"⟩
abbrev cX1_clearRoomFor : ByteArray := prog_3_method_3_code
def yX1_clearRoomFor : MethodName := ⟨RX1, "clearRoomFor", "(I)V"⟩
abbrev cX1_gather : ByteArray := prog_3_method_4_code
def yX1_gather : MethodName := ⟨RX1, "gather", "()I"⟩
def RX2 : String := "KeptHeap$Keeper"
def TX2 : u_T := fun k => match k with
  | _ => ("", "", "", false)
def tyX2 : Nat → FieldType := fun k => match k with
  | _ => .int
abbrev wsX20 : List Cond := u_ws RX2 TX2 0
theorem nmX2 : ∀ a, a < 0 → ∀ b, b < 0 → a ≠ b → (TX2 a).2.1 ≠ (TX2 b).2.1 := by decide +kernel
theorem tyX2_ok : ∀ k, k < 0 → parseFieldDescriptor (TX2 k).2.2.1 = some (tyX2 k) := by decide +kernel
abbrev cX2_init : ByteArray := prog_4_method_1_code
def yX2_init : MethodName := ⟨RX2, "<init>", "(LKeptHeap$Words;LKeptHeap$Roots;)V"⟩
abbrev cX2_gatherYoung : ByteArray := prog_4_method_5_code
def yX2_gatherYoung : MethodName := ⟨RX2, "gatherYoung", "()I"⟩
abbrev cX2_isOld : ByteArray := prog_4_method_6_code
def yX2_isOld : MethodName := ⟨RX2, "isOld", "(LKeptHeap$Thing;)Z"⟩
abbrev cX2_reachedThings : ByteArray := prog_4_method_7_code
def yX2_reachedThings : MethodName := ⟨RX2, "reachedThings", "()I"⟩
abbrev cX2_walkFromRoots : ByteArray := prog_4_method_8_code
def yX2_walkFromRoots : MethodName := ⟨RX2, "walkFromRoots", "()V"⟩
abbrev cX2_sweepFrom : ByteArray := prog_4_method_9_code
def yX2_sweepFrom : MethodName := ⟨RX2, "sweepFrom", "(I)I"⟩
abbrev cX2_sumFrom : ByteArray := prog_4_method_10_code
def yX2_sumFrom : MethodName := ⟨RX2, "sumFrom", "(LKeptHeap$Thing;)J"⟩
abbrev cX2_sumWith : ByteArray := prog_4_method_11_code
def yX2_sumWith : MethodName := ⟨RX2, "sumWith", "(JLKeptHeap$Thing;)J"⟩
def RX3 : String := "KeptHeap$Part"
def TX3 : u_T := fun k => match k with
  | 0 => ("KeptHeap$Part", "next", "I", false)
  | _ => ("KeptHeap$Part", "end", "I", false)
def tyX3 : Nat → FieldType := fun k => match k with
  | 0 => .int
  | _ => .int
abbrev wsX30 : List Cond := u_ws RX3 TX3 2
theorem nmX3 : ∀ a, a < 2 → ∀ b, b < 2 → a ≠ b → (TX3 a).2.1 ≠ (TX3 b).2.1 := by decide +kernel
theorem tyX3_ok : ∀ k, k < 2 → parseFieldDescriptor (TX3 k).2.2.1 = some (tyX3 k) := by decide +kernel
abbrev cX3_init : ByteArray := prog_5_method_1_code
def yX3_init : MethodName := ⟨RX3, "<init>", "(II)V"⟩
abbrev cX3_restart : ByteArray := prog_5_method_2_code
def yX3_restart : MethodName := ⟨RX3, "restart", "(II)V"⟩
abbrev cX3_take : ByteArray := prog_5_method_3_code
def yX3_take : MethodName := ⟨RX3, "take", "(I)I"⟩
def RX4 : String := "KeptHeap$Roots"
def TX4 : u_T := fun k => match k with
  | _ => ("KeptHeap$Roots", "things", "[LKeptHeap$Thing;", true)
def tyX4 : Nat → FieldType := fun k => match k with
  | _ => .array (.object "KeptHeap$Thing")
abbrev wsX40 : List Cond := u_ws RX4 TX4 1
theorem nmX4 : ∀ a, a < 1 → ∀ b, b < 1 → a ≠ b → (TX4 a).2.1 ≠ (TX4 b).2.1 := by decide +kernel
theorem tyX4_ok : ∀ k, k < 1 → parseFieldDescriptor (TX4 k).2.2.1 = some (tyX4 k) := by decide +kernel
abbrev cX4_init : ByteArray := prog_6_method_1_code
def yX4_init : MethodName := ⟨RX4, "<init>", "()V"⟩
abbrev cX4_has : ByteArray := prog_6_method_2_code
def yX4_has : MethodName := ⟨RX4, "has", "(I)Z"⟩
abbrev cX4_thingOf : ByteArray := prog_6_method_3_code
def yX4_thingOf : MethodName := ⟨RX4, "thingOf", "(I)LKeptHeap$Thing;"⟩
abbrev cX4_refer : ByteArray := prog_6_method_4_code
def yX4_refer : MethodName := ⟨RX4, "refer", "(ILKeptHeap$Thing;)V"⟩
def RX5 : String := "KeptHeap$Sweeper"
def TX5 : u_T := fun k => match k with
  | 0 => ("KeptHeap$Keeper", "words", "LKeptHeap$Words;", true)
  | 1 => ("KeptHeap$Keeper", "roots", "LKeptHeap$Roots;", true)
  | 2 => ("KeptHeap$Keeper", "walk", "LKeptHeap$Walk;", true)
  | 3 => ("KeptHeap$Keeper", "gathered", "I", false)
  | 4 => ("KeptHeap$Keeper", "gatheredYoung", "I", false)
  | _ => ("KeptHeap$Keeper", "moved", "I", false)
def tyX5 : Nat → FieldType := fun k => match k with
  | 0 => .object "KeptHeap$Words"
  | 1 => .object "KeptHeap$Roots"
  | 2 => .object "KeptHeap$Walk"
  | 3 => .int
  | 4 => .int
  | _ => .int
abbrev wsX50 : List Cond := u_ws RX5 TX5 6
theorem nmX5 : ∀ a, a < 6 → ∀ b, b < 6 → a ≠ b → (TX5 a).2.1 ≠ (TX5 b).2.1 := by decide +kernel
theorem tyX5_ok : ∀ k, k < 6 → parseFieldDescriptor (TX5 k).2.2.1 = some (tyX5 k) := by decide +kernel
abbrev cX5_init : ByteArray := prog_7_method_1_code
def yX5_init : MethodName := ⟨RX5, "<init>", "(LKeptHeap$Words;LKeptHeap$Roots;)V"⟩
abbrev cX5_take : ByteArray := prog_7_method_2_code
def yX5_take : MethodName := ⟨RX5, "take", "(I)I"⟩
abbrev cX5_clearRoomFor : ByteArray := prog_7_method_3_code
def yX5_clearRoomFor : MethodName := ⟨RX5, "clearRoomFor", "(I)V"⟩
abbrev cX5_gather : ByteArray := prog_7_method_4_code
def yX5_gather : MethodName := ⟨RX5, "gather", "()I"⟩
def RX6 : String := "KeptHeap$Thing"
def TX6 : u_T := fun k => match k with
  | 0 => ("KeptHeap$Thing", "name", "I", true)
  | 1 => ("KeptHeap$Thing", "numbers", "[I", true)
  | 2 => ("KeptHeap$Thing", "targets", "[LKeptHeap$Thing;", true)
  | 3 => ("KeptHeap$Thing", "address", "I", false)
  | 4 => ("KeptHeap$Thing", "remembered", "Z", false)
  | 5 => ("KeptHeap$Thing", "place", "I", false)
  | 6 => ("KeptHeap$Thing", "walk", "I", false)
  | _ => ("KeptHeap$Thing", "order", "I", false)
def tyX6 : Nat → FieldType := fun k => match k with
  | 0 => .int
  | 1 => .array .int
  | 2 => .array (.object "KeptHeap$Thing")
  | 3 => .int
  | 4 => .boolean
  | 5 => .int
  | 6 => .int
  | _ => .int
abbrev wsX60 : List Cond := u_ws RX6 TX6 8
theorem nmX6 : ∀ a, a < 8 → ∀ b, b < 8 → a ≠ b → (TX6 a).2.1 ≠ (TX6 b).2.1 := by decide +kernel
theorem tyX6_ok : ∀ k, k < 8 → parseFieldDescriptor (TX6 k).2.2.1 = some (tyX6 k) := by decide +kernel
abbrev cX6_init : ByteArray := prog_8_method_1_code
def yX6_init : MethodName := ⟨RX6, "<init>", "(II)V"⟩
abbrev cX6_fields : ByteArray := prog_8_method_2_code
def yX6_fields : MethodName := ⟨RX6, "fields", "()I"⟩
abbrev cX6_size : ByteArray := prog_8_method_3_code
def yX6_size : MethodName := ⟨RX6, "size", "()I"⟩
abbrev cX6_has : ByteArray := prog_8_method_4_code
def yX6_has : MethodName := ⟨RX6, "has", "(I)Z"⟩
abbrev cX6_numberOf : ByteArray := prog_8_method_5_code
def yX6_numberOf : MethodName := ⟨RX6, "numberOf", "(I)I"⟩
abbrev cX6_targetOf : ByteArray := prog_8_method_6_code
def yX6_targetOf : MethodName := ⟨RX6, "targetOf", "(I)LKeptHeap$Thing;"⟩
abbrev cX6_hold : ByteArray := prog_8_method_7_code
def yX6_hold : MethodName := ⟨RX6, "hold", "(IILKeptHeap$Thing;)V"⟩
def RX7 : String := "KeptHeap$Walk"
def TX7 : u_T := fun k => match k with
  | 0 => ("KeptHeap$Walk", "met", "[LKeptHeap$Thing;", true)
  | 1 => ("KeptHeap$Walk", "size", "I", false)
  | 2 => ("KeptHeap$Walk", "current", "I", false)
  | _ => ("KeptHeap$Walk", "end", "I", false)
def tyX7 : Nat → FieldType := fun k => match k with
  | 0 => .array (.object "KeptHeap$Thing")
  | 1 => .int
  | 2 => .int
  | _ => .int
abbrev wsX70 : List Cond := u_ws RX7 TX7 4
theorem nmX7 : ∀ a, a < 4 → ∀ b, b < 4 → a ≠ b → (TX7 a).2.1 ≠ (TX7 b).2.1 := by decide +kernel
theorem tyX7_ok : ∀ k, k < 4 → parseFieldDescriptor (TX7 k).2.2.1 = some (tyX7 k) := by decide +kernel
abbrev cX7_init : ByteArray := prog_9_method_1_code
def yX7_init : MethodName := ⟨RX7, "<init>", "(I)V"⟩
abbrev cX7_begin : ByteArray := prog_9_method_2_code
def yX7_begin : MethodName := ⟨RX7, "begin", "(I)V"⟩
abbrev cX7_meet : ByteArray := prog_9_method_3_code
def yX7_meet : MethodName := ⟨RX7, "meet", "(LKeptHeap$Thing;)V"⟩
abbrev cX7_meetTargetsOf : ByteArray := prog_9_method_4_code
def yX7_meetTargetsOf : MethodName := ⟨RX7, "meetTargetsOf", "(LKeptHeap$Thing;)V"⟩
abbrev cX7_meetRoots : ByteArray := prog_9_method_5_code
def yX7_meetRoots : MethodName := ⟨RX7, "meetRoots", "(LKeptHeap$Roots;)V"⟩
abbrev cX7_follow : ByteArray := prog_9_method_6_code
def yX7_follow : MethodName := ⟨RX7, "follow", "()V"⟩
abbrev cX7_hasMet : ByteArray := prog_9_method_7_code
def yX7_hasMet : MethodName := ⟨RX7, "hasMet", "(LKeptHeap$Thing;)Z"⟩
abbrev cX7_size : ByteArray := prog_9_method_8_code
def yX7_size : MethodName := ⟨RX7, "size", "()I"⟩
abbrev cX7_thingOf : ByteArray := prog_9_method_9_code
def yX7_thingOf : MethodName := ⟨RX7, "thingOf", "(I)LKeptHeap$Thing;"⟩
def RX8 : String := "KeptHeap$Words"
def TX8 : u_T := fun k => match k with
  | _ => ("KeptHeap$Words", "things", "[LKeptHeap$Thing;", true)
def tyX8 : Nat → FieldType := fun k => match k with
  | _ => .array (.object "KeptHeap$Thing")
abbrev wsX80 : List Cond := u_ws RX8 TX8 1
theorem nmX8 : ∀ a, a < 1 → ∀ b, b < 1 → a ≠ b → (TX8 a).2.1 ≠ (TX8 b).2.1 := by decide +kernel
theorem tyX8_ok : ∀ k, k < 1 → parseFieldDescriptor (TX8 k).2.2.1 = some (tyX8 k) := by decide +kernel
abbrev cX8_init : ByteArray := prog_10_method_1_code
def yX8_init : MethodName := ⟨RX8, "<init>", "(I)V"⟩
abbrev cX8_length : ByteArray := prog_10_method_2_code
def yX8_length : MethodName := ⟨RX8, "length", "()I"⟩
abbrev cX8_lyingAt : ByteArray := prog_10_method_3_code
def yX8_lyingAt : MethodName := ⟨RX8, "lyingAt", "(I)LKeptHeap$Thing;"⟩
abbrev cX8_beginningAt : ByteArray := prog_10_method_4_code
def yX8_beginningAt : MethodName := ⟨RX8, "beginningAt", "(I)LKeptHeap$Thing;"⟩
abbrev cX8_put : ByteArray := prog_10_method_5_code
def yX8_put : MethodName := ⟨RX8, "put", "(LKeptHeap$Thing;I)V"⟩
abbrev cX8_fill : ByteArray := prog_10_method_6_code
def yX8_fill : MethodName := ⟨RX8, "fill", "(IILKeptHeap$Thing;)V"⟩
abbrev cX8_gapFrom : ByteArray := prog_10_method_7_code
def yX8_gapFrom : MethodName := ⟨RX8, "gapFrom", "(II)I"⟩
abbrev cX8_thingsBelow : ByteArray := prog_10_method_8_code
def yX8_thingsBelow : MethodName := ⟨RX8, "thingsBelow", "(I)I"⟩
abbrev cX8_taken : ByteArray := prog_10_method_9_code
def yX8_taken : MethodName := ⟨RX8, "taken", "()I"⟩
abbrev cX8_rememberedThings : ByteArray := prog_10_method_10_code
def yX8_rememberedThings : MethodName := ⟨RX8, "rememberedThings", "()I"⟩
def RX9 : String := "KeptHeap"
def TX9 : u_T := fun k => match k with
  | 0 => ("KeptHeap", "words", "LKeptHeap$Words;", true)
  | 1 => ("KeptHeap", "roots", "LKeptHeap$Roots;", true)
  | 2 => ("KeptHeap", "keeper", "LKeptHeap$Keeper;", true)
  | _ => ("KeptHeap", "made", "I", false)
def tyX9 : Nat → FieldType := fun k => match k with
  | 0 => .object "KeptHeap$Words"
  | 1 => .object "KeptHeap$Roots"
  | 2 => .object "KeptHeap$Keeper"
  | _ => .int
abbrev wsX90 : List Cond := u_ws RX9 TX9 4
theorem nmX9 : ∀ a, a < 4 → ∀ b, b < 4 → a ≠ b → (TX9 a).2.1 ≠ (TX9 b).2.1 := by decide +kernel
theorem tyX9_ok : ∀ k, k < 4 → parseFieldDescriptor (TX9 k).2.2.1 = some (tyX9 k) := by decide +kernel
abbrev cX9_init : ByteArray := prog_1_method_1_code
def yX9_init : MethodName := ⟨RX9, "<init>", "(II)V"⟩
abbrev cX9_make : ByteArray := prog_1_method_2_code
def yX9_make : MethodName := ⟨RX9, "make", "(II)I"⟩
abbrev cX9_set : ByteArray := prog_1_method_3_code
def yX9_set : MethodName := ⟨RX9, "set", "(III)I"⟩
abbrev cX9_link : ByteArray := prog_1_method_4_code
def yX9_link : MethodName := ⟨RX9, "link", "(III)I"⟩
abbrev cX9_refers : ByteArray := prog_1_method_5_code
def yX9_refers : MethodName := ⟨RX9, "refers", "(II)I"⟩
abbrev cX9_number : ByteArray := prog_1_method_6_code
def yX9_number : MethodName := ⟨RX9, "number", "(II)I"⟩
abbrev cX9_load : ByteArray := prog_1_method_7_code
def yX9_load : MethodName := ⟨RX9, "load", "(III)I"⟩
abbrev cX9_copy : ByteArray := prog_1_method_8_code
def yX9_copy : MethodName := ⟨RX9, "copy", "(II)I"⟩
abbrev cX9_drop : ByteArray := prog_1_method_9_code
def yX9_drop : MethodName := ⟨RX9, "drop", "(I)I"⟩
abbrev cX9_collect : ByteArray := prog_1_method_10_code
def yX9_collect : MethodName := ⟨RX9, "collect", "()I"⟩
abbrev cX9_minor : ByteArray := prog_1_method_11_code
def yX9_minor : MethodName := ⟨RX9, "minor", "()I"⟩
abbrev cX9_object : ByteArray := prog_1_method_12_code
def yX9_object : MethodName := ⟨RX9, "object", "(II)I"⟩
abbrev cX9_at : ByteArray := prog_1_method_13_code
def yX9_at : MethodName := ⟨RX9, "at", "(I)I"⟩
abbrev cX9_count : ByteArray := prog_1_method_14_code
def yX9_count : MethodName := ⟨RX9, "count", "(I)I"⟩
abbrev cX9_same : ByteArray := prog_1_method_15_code
def yX9_same : MethodName := ⟨RX9, "same", "(II)I"⟩
abbrev cX9_sum : ByteArray := prog_1_method_16_code
def yX9_sum : MethodName := ⟨RX9, "sum", "(I)J"⟩
abbrev cX9_wordsFor : ByteArray := prog_1_method_17_code
def yX9_wordsFor : MethodName := ⟨RX9, "wordsFor", "(I)I"⟩
abbrev cX9_keeperFor : ByteArray := prog_1_method_18_code
def yX9_keeperFor : MethodName := ⟨RX9, "keeperFor", "(ILKeptHeap$Words;LKeptHeap$Roots;)LKeptHeap$Keeper;"⟩
abbrev cX9_asNumber : ByteArray := prog_1_method_19_code
def yX9_asNumber : MethodName := ⟨RX9, "asNumber", "(Z)I"⟩
abbrev cX9_nameOf : ByteArray := prog_1_method_20_code
def yX9_nameOf : MethodName := ⟨RX9, "nameOf", "(LKeptHeap$Thing;)I"⟩
abbrev cX9_holderOf : ByteArray := prog_1_method_21_code
def yX9_holderOf : MethodName := ⟨RX9, "holderOf", "(II)LKeptHeap$Thing;"⟩
abbrev cX9_whyNoHolder : ByteArray := prog_1_method_22_code
def yX9_whyNoHolder : MethodName := ⟨RX9, "whyNoHolder", "(II)I"⟩
def RX10 : String := "KeptHeapModel"
def TX10 : u_T := fun k => match k with
  | 0 => ("KeptHeapModel", "thrown", "I", false)
  | 1 => ("KeptHeapModel", "keeper", "I", true)
  | 2 => ("KeptHeapModel", "words", "I", true)
  | 3 => ("KeptHeapModel", "made", "I", false)
  | 4 => ("KeptHeapModel", "address", "[I", true)
  | 5 => ("KeptHeapModel", "fields", "[I", true)
  | 6 => ("KeptHeapModel", "remembered", "[Z", true)
  | 7 => ("KeptHeapModel", "number", "[I", true)
  | 8 => ("KeptHeapModel", "refers", "[I", true)
  | 9 => ("KeptHeapModel", "root", "[I", true)
  | 10 => ("KeptHeapModel", "owner", "[I", true)
  | 11 => ("KeptHeapModel", "half", "I", false)
  | 12 => ("KeptHeapModel", "top", "I", false)
  | 13 => ("KeptHeapModel", "collected", "I", false)
  | 14 => ("KeptHeapModel", "minors", "I", false)
  | 15 => ("KeptHeapModel", "moved", "I", false)
  | 16 => ("KeptHeapModel", "size", "I", false)
  | 17 => ("KeptHeapModel", "row", "[I", true)
  | 18 => ("KeptHeapModel", "place", "[I", true)
  | _ => ("KeptHeapModel", "oldAddress", "[I", true)
def tyX10 : Nat → FieldType := fun k => match k with
  | 0 => .int
  | 1 => .int
  | 2 => .int
  | 3 => .int
  | 4 => .array .int
  | 5 => .array .int
  | 6 => .array .boolean
  | 7 => .array .int
  | 8 => .array .int
  | 9 => .array .int
  | 10 => .array .int
  | 11 => .int
  | 12 => .int
  | 13 => .int
  | 14 => .int
  | 15 => .int
  | 16 => .int
  | 17 => .array .int
  | 18 => .array .int
  | _ => .array .int
abbrev wsX100 : List Cond := u_ws RX10 TX10 20
theorem nmX10 : ∀ a, a < 20 → ∀ b, b < 20 → a ≠ b → (TX10 a).2.1 ≠ (TX10 b).2.1 := by decide +kernel
theorem tyX10_ok : ∀ k, k < 20 → parseFieldDescriptor (TX10 k).2.2.1 = some (tyX10 k) := by decide +kernel
abbrev cX10_init : ByteArray := prog_12_method_1_code
def yX10_init : MethodName := ⟨RX10, "<init>", "(II)V"⟩
abbrev cX10_in : ByteArray := prog_12_method_3_code
def yX10_in : MethodName := ⟨RX10, "in", "(III)Z"⟩
abbrev cX10_isRoot : ByteArray := prog_12_method_4_code
def yX10_isRoot : MethodName := ⟨RX10, "isRoot", "(I)Z"⟩
abbrev cX10_isOld : ByteArray := prog_12_method_5_code
def yX10_isOld : MethodName := ⟨RX10, "isOld", "(I)Z"⟩
abbrev cX10_lie : ByteArray := prog_12_method_6_code
def yX10_lie : MethodName := ⟨RX10, "lie", "(II)V"⟩
abbrev cX10_leave : ByteArray := prog_12_method_7_code
def yX10_leave : MethodName := ⟨RX10, "leave", "(I)V"⟩
abbrev cX10_go : ByteArray := prog_12_method_8_code
def yX10_go : MethodName := ⟨RX10, "go", "(I)V"⟩
abbrev cX10_fit : ByteArray := prog_12_method_9_code
def yX10_fit : MethodName := ⟨RX10, "fit", "(II)I"⟩
abbrev cX10_begin : ByteArray := prog_12_method_10_code
def yX10_begin : MethodName := ⟨RX10, "begin", "()V"⟩
abbrev cX10_meet : ByteArray := prog_12_method_11_code
def yX10_meet : MethodName := ⟨RX10, "meet", "(I)V"⟩
abbrev cX10_follow : ByteArray := prog_12_method_12_code
def yX10_follow : MethodName := ⟨RX10, "follow", "()V"⟩
abbrev cX10_reach : ByteArray := prog_12_method_13_code
def yX10_reach : MethodName := ⟨RX10, "reach", "()V"⟩
abbrev cX10_sweep : ByteArray := prog_12_method_14_code
def yX10_sweep : MethodName := ⟨RX10, "sweep", "(Z)I"⟩
abbrev cX10_copyAll : ByteArray := prog_12_method_15_code
def yX10_copyAll : MethodName := ⟨RX10, "copyAll", "()I"⟩
abbrev cX10_raise : ByteArray := prog_12_method_16_code
def yX10_raise : MethodName := ⟨RX10, "raise", "(I)Z"⟩
abbrev cX10_raiseFields : ByteArray := prog_12_method_17_code
def yX10_raiseFields : MethodName := ⟨RX10, "raiseFields", "(I)Z"⟩
abbrev cX10_minorNow : ByteArray := prog_12_method_18_code
def yX10_minorNow : MethodName := ⟨RX10, "minorNow", "()I"⟩
abbrev cX10_collectNow : ByteArray := prog_12_method_19_code
def yX10_collectNow : MethodName := ⟨RX10, "collectNow", "()I"⟩
abbrev cX10_room : ByteArray := prog_12_method_20_code
def yX10_room : MethodName := ⟨RX10, "room", "(I)I"⟩
abbrev cX10_make : ByteArray := prog_12_method_21_code
def yX10_make : MethodName := ⟨RX10, "make", "(II)I"⟩
abbrev cX10_wrong : ByteArray := prog_12_method_22_code
def yX10_wrong : MethodName := ⟨RX10, "wrong", "(II)I"⟩
abbrev cX10_set : ByteArray := prog_12_method_23_code
def yX10_set : MethodName := ⟨RX10, "set", "(III)I"⟩
abbrev cX10_link : ByteArray := prog_12_method_24_code
def yX10_link : MethodName := ⟨RX10, "link", "(III)I"⟩
abbrev cX10_refers : ByteArray := prog_12_method_25_code
def yX10_refers : MethodName := ⟨RX10, "refers", "(II)I"⟩
abbrev cX10_number : ByteArray := prog_12_method_26_code
def yX10_number : MethodName := ⟨RX10, "number", "(II)I"⟩
abbrev cX10_load : ByteArray := prog_12_method_27_code
def yX10_load : MethodName := ⟨RX10, "load", "(III)I"⟩
abbrev cX10_copy : ByteArray := prog_12_method_28_code
def yX10_copy : MethodName := ⟨RX10, "copy", "(II)I"⟩
abbrev cX10_drop : ByteArray := prog_12_method_29_code
def yX10_drop : MethodName := ⟨RX10, "drop", "(I)I"⟩
abbrev cX10_collect : ByteArray := prog_12_method_30_code
def yX10_collect : MethodName := ⟨RX10, "collect", "()I"⟩
abbrev cX10_minor : ByteArray := prog_12_method_31_code
def yX10_minor : MethodName := ⟨RX10, "minor", "()I"⟩
abbrev cX10_object : ByteArray := prog_12_method_32_code
def yX10_object : MethodName := ⟨RX10, "object", "(II)I"⟩
abbrev cX10_at : ByteArray := prog_12_method_33_code
def yX10_at : MethodName := ⟨RX10, "at", "(I)I"⟩
abbrev cX10_count : ByteArray := prog_12_method_34_code
def yX10_count : MethodName := ⟨RX10, "count", "(I)I"⟩
abbrev cX10_same : ByteArray := prog_12_method_35_code
def yX10_same : MethodName := ⟨RX10, "same", "(II)I"⟩
abbrev cX10_sum : ByteArray := prog_12_method_36_code
def yX10_sum : MethodName := ⟨RX10, "sum", "(I)J"⟩
def RJ9 : String := "java/lang/Math"
def TJ9 : u_T := fun k => match k with
  | _ => ("", "", "", false)
def tyJ9 : Nat → FieldType := fun k => match k with
  | _ => .int
abbrev wsJ90 : List Cond := u_ws RJ9 TJ9 0
theorem nmJ9 : ∀ a, a < 0 → ∀ b, b < 0 → a ≠ b → (TJ9 a).2.1 ≠ (TJ9 b).2.1 := by decide +kernel
theorem tyJ9_ok : ∀ k, k < 0 → parseFieldDescriptor (TJ9 k).2.2.1 = some (tyJ9 k) := by decide +kernel
abbrev cJ9_max_7cf53 : ByteArray := prog_13_method_65_code
def yJ9_max_7cf53 : MethodName := ⟨RJ9, "max", "(II)I"⟩
abbrev cJ9_min_7cf53 : ByteArray := prog_13_method_69_code
def yJ9_min_7cf53 : MethodName := ⟨RJ9, "min", "(II)I"⟩
def RL : String := "KeptHeapLaw"
abbrev cL_cell : ByteArray := method_2_code
def yL_cell : MethodName := ⟨RL, "cell", "([II)I"⟩
abbrev cL_law : ByteArray := code
def yL_law : MethodName := ⟨RL, "law", "([I)Z"⟩
def wsL_law_r1 : List Cond := [Cond.classLink RL 7 RX9, Cond.instantiable RX9 4, Cond.initialized RX9, Cond.classLink RL 18 RX10, Cond.instantiable RX10 20, Cond.initialized RX10, Cond.methodLink RL 9 yL_cell, Cond.static yL_cell, Cond.initialized RL, Cond.code yL_cell cL_cell 2 (some .int), Cond.methodLink RL 15 yX9_init, Cond.instanceMethod yX9_init, Cond.code yX9_init cX9_init 5 none, Cond.methodLink RX9 1 objectInit, Cond.instanceMethod objectInit, Cond.code objectInit ⟨#[0xb1]⟩ 1 none, Cond.classLink RX9 7 RX8, Cond.instantiable RX8 1, Cond.initialized RX8, Cond.classLink RX9 18 RX4, Cond.instantiable RX4 1, Cond.initialized RX4, Cond.fieldLink RX9 21 "KeptHeap" "words" "LKeptHeap$Words;", Cond.fieldLink RX9 25 "KeptHeap" "roots" "LKeptHeap$Roots;"]
def wsL_law_r2 : List Cond := [Cond.fieldLink RX9 33 "KeptHeap" "keeper" "LKeptHeap$Keeper;", Cond.fieldLink RX9 37 "KeptHeap" "made" "I", Cond.methodLink RX9 9 yX9_wordsFor, Cond.static yX9_wordsFor, Cond.code yX9_wordsFor cX9_wordsFor 2 (some .int), Cond.methodLink RX9 153 Lib.Math.min.name, Cond.static Lib.Math.min.name, Cond.initialized "java/lang/Math", Cond.code Lib.Math.min.name Lib.Math.min.code 2 (some .int), Cond.methodLink RX9 158 Lib.Math.max.name, Cond.static Lib.Math.max.name, Cond.code Lib.Math.max.name Lib.Math.max.code 2 (some .int), Cond.methodLink RX9 15 yX8_init, Cond.instanceMethod yX8_init, Cond.code yX8_init cX8_init 2 none, Cond.methodLink RX8 3 objectInit, Cond.methodLink RX8 9 Lib.Math.max.name, Cond.classLink RX8 15 RX6, Cond.fieldLink RX8 17 "KeptHeap$Words" "things" "[LKeptHeap$Thing;", Cond.methodLink RX9 20 yX4_init, Cond.instanceMethod yX4_init, Cond.code yX4_init cX4_init 1 none, Cond.methodLink RX4 3 objectInit, Cond.classLink RX4 9 RX6]
def wsL_law_r3 : List Cond := [Cond.fieldLink RX4 11 "KeptHeap$Roots" "things" "[LKeptHeap$Thing;", Cond.methodLink RX9 29 yX9_keeperFor, Cond.static yX9_keeperFor, Cond.code yX9_keeperFor cX9_keeperFor 3 (some (.object "KeptHeap$Keeper")), Cond.classLink RX9 161 RX1, Cond.instantiable RX1 9, Cond.initialized RX1, Cond.classLink RX9 166 RX0, Cond.instantiable RX0 8, Cond.initialized RX0, Cond.classLink RX9 169 RX5, Cond.instantiable RX5 6, Cond.initialized RX5, Cond.methodLink RX9 163 yX1_init, Cond.instanceMethod yX1_init, Cond.code yX1_init cX1_init 3 none, Cond.fieldLink RX1 13 "KeptHeap$Copier" "half" "I", Cond.classLink RX1 19 RX3, Cond.instantiable RX3 2, Cond.initialized RX3, Cond.fieldLink RX1 24 "KeptHeap$Copier" "inUse" "LKeptHeap$Part;", Cond.fieldLink RX1 28 "KeptHeap$Copier" "start" "I", Cond.methodLink RX1 1 yX2_init, Cond.instanceMethod yX2_init]
def wsL_law_r4 : List Cond := [Cond.initialized RX2, Cond.code yX2_init cX2_init 3 none, Cond.methodLink RX2 3 objectInit, Cond.fieldLink RX2 9 "KeptHeap$Keeper" "words" "LKeptHeap$Words;", Cond.fieldLink RX2 15 "KeptHeap$Keeper" "roots" "LKeptHeap$Roots;", Cond.classLink RX2 19 RX7, Cond.instantiable RX7 4, Cond.initialized RX7, Cond.fieldLink RX2 30 "KeptHeap$Keeper" "walk" "LKeptHeap$Walk;", Cond.fieldLink RX2 34 "KeptHeap$Keeper" "gathered" "I", Cond.fieldLink RX2 38 "KeptHeap$Keeper" "gatheredYoung" "I", Cond.fieldLink RX2 41 "KeptHeap$Keeper" "moved" "I", Cond.methodLink RX2 21 yX8_length, Cond.instanceMethod yX8_length, Cond.selects RX8 yX8_length yX8_length, Cond.code yX8_length cX8_length 1 (some .int), Cond.methodLink RX2 27 yX7_init, Cond.instanceMethod yX7_init, Cond.code yX7_init cX7_init 2 none, Cond.methodLink RX7 3 objectInit, Cond.methodLink RX7 9 Lib.Math.max.name, Cond.classLink RX7 15 RX6, Cond.fieldLink RX7 17 "KeptHeap$Walk" "met" "[LKeptHeap$Thing;", Cond.fieldLink RX7 23 "KeptHeap$Walk" "size" "I"]
def wsL_law_r5 : List Cond := [Cond.fieldLink RX7 27 "KeptHeap$Walk" "current" "I", Cond.fieldLink RX7 30 "KeptHeap$Walk" "end" "I", Cond.methodLink RX1 7 yX8_length, Cond.methodLink RX1 21 yX3_init, Cond.instanceMethod yX3_init, Cond.code yX3_init cX3_init 3 none, Cond.methodLink RX3 3 objectInit, Cond.fieldLink RX3 9 "KeptHeap$Part" "next" "I", Cond.fieldLink RX3 15 "KeptHeap$Part" "end" "I", Cond.methodLink RX9 168 yX0_init, Cond.instanceMethod yX0_init, Cond.code yX0_init cX0_init 3 none, Cond.fieldLink RX0 15 "KeptHeap$Ager" "oldStart" "I", Cond.classLink RX0 21 RX3, Cond.fieldLink RX0 26 "KeptHeap$Ager" "young" "LKeptHeap$Part;", Cond.methodLink RX0 3 yX2_init, Cond.methodLink RX0 9 yX8_length, Cond.methodLink RX0 23 yX3_init, Cond.methodLink RX9 171 yX5_init, Cond.instanceMethod yX5_init, Cond.code yX5_init cX5_init 3 none, Cond.methodLink RX5 1 yX2_init, Cond.methodLink RL 20 yX10_init, Cond.instanceMethod yX10_init]
def wsL_law_r6 : List Cond := [Cond.code yX10_init cX10_init 5 none, Cond.methodLink RX10 1 objectInit, Cond.arrayClass .int, Cond.fieldLink RX10 7 "KeptHeapModel" "address" "[I", Cond.fieldLink RX10 13 "KeptHeapModel" "fields" "[I", Cond.arrayClass .boolean, Cond.fieldLink RX10 16 "KeptHeapModel" "remembered" "[Z", Cond.fieldLink RX10 20 "KeptHeapModel" "number" "[I", Cond.fieldLink RX10 23 "KeptHeapModel" "refers" "[I", Cond.fieldLink RX10 26 "KeptHeapModel" "root" "[I", Cond.fieldLink RX10 29 "KeptHeapModel" "owner" "[I", Cond.fieldLink RX10 32 "KeptHeapModel" "row" "[I", Cond.fieldLink RX10 35 "KeptHeapModel" "place" "[I", Cond.fieldLink RX10 38 "KeptHeapModel" "oldAddress" "[I", Cond.fieldLink RX10 41 "KeptHeapModel" "keeper" "I", Cond.fieldLink RX10 45 "KeptHeapModel" "words" "I", Cond.methodLink RL 21 yX9_make, Cond.instanceMethod yX9_make, Cond.selects RX9 yX9_make yX9_make, Cond.code yX9_make cX9_make 5 (some .int), Cond.classLink RX9 53 RX6, Cond.instantiable RX6 8, Cond.initialized RX6, Cond.fieldLink RX9 66 "KeptHeap$Thing" "name" "I"]
def wsL_law_r7 : List Cond := [Cond.methodLink RX9 41 yX4_has, Cond.instanceMethod yX4_has, Cond.selects RX4 yX4_has yX4_has, Cond.code yX4_has cX4_has 2 (some .boolean), Cond.methodLink RX9 45 ⟨"KeptHeap$Keeper", "take", "(I)I"⟩, Cond.sameMethod "KeptHeap$Keeper" "KeptHeap$Keeper" "take" "(I)I", Cond.selects RX0 ⟨"KeptHeap$Keeper", "take", "(I)I"⟩ yX0_take, Cond.instanceMethod yX0_take, Cond.code yX0_take cX0_take 2 (some .int), Cond.methodLink RX0 30 yX3_take, Cond.instanceMethod yX3_take, Cond.selects RX3 yX3_take yX3_take, Cond.code yX3_take cX3_take 3 (some .int), Cond.selects RX1 ⟨"KeptHeap$Keeper", "take", "(I)I"⟩ yX1_take, Cond.instanceMethod yX1_take, Cond.code yX1_take cX1_take 2 (some .int), Cond.methodLink RX1 31 yX3_take, Cond.selects RX5 ⟨"KeptHeap$Keeper", "take", "(I)I"⟩ yX5_take, Cond.instanceMethod yX5_take, Cond.code yX5_take cX5_take 2 (some .int), Cond.fieldLink RX5 7 "KeptHeap$Sweeper" "words" "LKeptHeap$Words;", Cond.sameField "KeptHeap$Sweeper" "KeptHeap$Keeper" "words" "LKeptHeap$Words;", Cond.methodLink RX5 13 yX8_gapFrom, Cond.instanceMethod yX8_gapFrom]
def wsL_law_r8 : List Cond := [Cond.selects RX8 yX8_gapFrom yX8_gapFrom, Cond.code yX8_gapFrom cX8_gapFrom 5 (some .int), Cond.methodLink RX9 50 ⟨"KeptHeap$Keeper", "clearRoomFor", "(I)V"⟩, Cond.sameMethod "KeptHeap$Keeper" "KeptHeap$Keeper" "clearRoomFor" "(I)V", Cond.selects RX0 ⟨"KeptHeap$Keeper", "clearRoomFor", "(I)V"⟩ yX0_clearRoomFor, Cond.instanceMethod yX0_clearRoomFor, Cond.code yX0_clearRoomFor cX0_clearRoomFor 2 none, Cond.methodLink RX0 34 yX0_gatherYoung, Cond.instanceMethod yX0_gatherYoung, Cond.selects RX0 yX0_gatherYoung yX0_gatherYoung, Cond.code yX0_gatherYoung cX0_gatherYoung 3 (some .int), Cond.fieldLink RX0 55 "KeptHeap$Ager" "walk" "LKeptHeap$Walk;", Cond.sameField "KeptHeap$Ager" "KeptHeap$Keeper" "walk" "LKeptHeap$Walk;", Cond.fieldLink RX0 65 "KeptHeap$Ager" "roots" "LKeptHeap$Roots;", Cond.sameField "KeptHeap$Ager" "KeptHeap$Keeper" "roots" "LKeptHeap$Roots;", Cond.fieldLink RX0 88 "KeptHeap$Ager" "words" "LKeptHeap$Words;", Cond.sameField "KeptHeap$Ager" "KeptHeap$Keeper" "words" "LKeptHeap$Words;", Cond.fieldLink RX0 108 "KeptHeap$Ager" "gatheredYoung" "I", Cond.sameField "KeptHeap$Ager" "KeptHeap$Keeper" "gatheredYoung" "I", Cond.methodLink RX0 59 yX7_begin, Cond.instanceMethod yX7_begin, Cond.selects RX7 yX7_begin yX7_begin, Cond.code yX7_begin cX7_begin 2 none, Cond.methodLink RX0 69 yX7_meetRoots]
def wsL_law_r9 : List Cond := [Cond.instanceMethod yX7_meetRoots, Cond.selects RX7 yX7_meetRoots yX7_meetRoots, Cond.code yX7_meetRoots cX7_meetRoots 3 none, Cond.methodLink RX7 54 yX4_thingOf, Cond.instanceMethod yX4_thingOf, Cond.selects RX4 yX4_thingOf yX4_thingOf, Cond.code yX4_thingOf cX4_thingOf 2 (some (.object "KeptHeap$Thing")), Cond.methodLink RX4 17 yX4_has, Cond.methodLink RX7 50 yX7_meet, Cond.instanceMethod yX7_meet, Cond.selects RX7 yX7_meet yX7_meet, Cond.code yX7_meet cX7_meet 2 none, Cond.fieldLink RX7 33 "KeptHeap$Thing" "address" "I", Cond.fieldLink RX7 36 "KeptHeap$Thing" "walk" "I", Cond.fieldLink RX7 39 "KeptHeap$Thing" "order" "I", Cond.methodLink RX0 73 yX0_meetByRemembered, Cond.instanceMethod yX0_meetByRemembered, Cond.selects RX0 yX0_meetByRemembered yX0_meetByRemembered, Cond.code yX0_meetByRemembered cX0_meetByRemembered 3 none, Cond.fieldLink RX0 115 "KeptHeap$Thing" "remembered" "Z", Cond.methodLink RX0 111 yX8_beginningAt, Cond.instanceMethod yX8_beginningAt, Cond.selects RX8 yX8_beginningAt yX8_beginningAt, Cond.code yX8_beginningAt cX8_beginningAt 3 (some (.object "KeptHeap$Thing"))]
def wsL_law_r10 : List Cond := [Cond.fieldLink RX8 27 "KeptHeap$Thing" "address" "I", Cond.methodLink RX8 23 yX8_lyingAt, Cond.instanceMethod yX8_lyingAt, Cond.selects RX8 yX8_lyingAt yX8_lyingAt, Cond.code yX8_lyingAt cX8_lyingAt 2 (some (.object "KeptHeap$Thing")), Cond.methodLink RX0 119 yX7_meetTargetsOf, Cond.instanceMethod yX7_meetTargetsOf, Cond.selects RX7 yX7_meetTargetsOf yX7_meetTargetsOf, Cond.code yX7_meetTargetsOf cX7_meetTargetsOf 3 none, Cond.methodLink RX7 42 yX6_fields, Cond.instanceMethod yX6_fields, Cond.selects RX6 yX6_fields yX6_fields, Cond.code yX6_fields cX6_fields 1 (some .int), Cond.fieldLink RX6 19 "KeptHeap$Thing" "numbers" "[I", Cond.methodLink RX7 46 yX6_targetOf, Cond.instanceMethod yX6_targetOf, Cond.selects RX6 yX6_targetOf yX6_targetOf, Cond.code yX6_targetOf cX6_targetOf 2 (some (.object "KeptHeap$Thing")), Cond.fieldLink RX6 23 "KeptHeap$Thing" "targets" "[LKeptHeap$Thing;", Cond.methodLink RX0 76 yX7_follow, Cond.instanceMethod yX7_follow, Cond.selects RX7 yX7_follow yX7_follow, Cond.code yX7_follow cX7_follow 2 none, Cond.methodLink RX7 59 yX7_meetTargetsOf]
def wsL_law_r11 : List Cond := [Cond.methodLink RX0 79 yX0_reserve, Cond.instanceMethod yX0_reserve, Cond.selects RX0 yX0_reserve yX0_reserve, Cond.code yX0_reserve cX0_reserve 4 (some .int), Cond.fieldLink RX0 131 "KeptHeap$Thing" "place" "I", Cond.methodLink RX0 82 yX7_size, Cond.instanceMethod yX7_size, Cond.selects RX7 yX7_size yX7_size, Cond.code yX7_size cX7_size 1 (some .int), Cond.methodLink RX0 123 yX7_thingOf, Cond.instanceMethod yX7_thingOf, Cond.selects RX7 yX7_thingOf yX7_thingOf, Cond.code yX7_thingOf cX7_thingOf 2 (some (.object "KeptHeap$Thing")), Cond.methodLink RX0 126 yX6_size, Cond.instanceMethod yX6_size, Cond.selects RX6 yX6_size yX6_size, Cond.code yX6_size cX6_size 1 (some .int), Cond.methodLink RX0 127 yX8_gapFrom, Cond.methodLink RX0 95 yX8_fill, Cond.instanceMethod yX8_fill, Cond.selects RX8 yX8_fill yX8_fill, Cond.code yX8_fill cX8_fill 7 none, Cond.methodLink RX8 39 Lib.Math.min.name, Cond.methodLink RX0 85 yX0_giveBack]
def wsL_law_r12 : List Cond := [Cond.instanceMethod yX0_giveBack, Cond.selects RX0 yX0_giveBack yX0_giveBack, Cond.code yX0_giveBack cX0_giveBack 4 none, Cond.methodLink RX0 92 yX8_thingsBelow, Cond.instanceMethod yX8_thingsBelow, Cond.selects RX8 yX8_thingsBelow yX8_thingsBelow, Cond.code yX8_thingsBelow cX8_thingsBelow 4 (some .int), Cond.methodLink RX8 42 yX8_beginningAt, Cond.methodLink RX0 99 yX0_goOver, Cond.instanceMethod yX0_goOver, Cond.selects RX0 yX0_goOver yX0_goOver, Cond.code yX0_goOver cX0_goOver 3 none, Cond.fieldLink RX0 40 "KeptHeap$Thing" "address" "I", Cond.fieldLink RX0 134 "KeptHeap$Ager" "moved" "I", Cond.sameField "KeptHeap$Ager" "KeptHeap$Keeper" "moved" "I", Cond.methodLink RX0 102 yX0_forget, Cond.instanceMethod yX0_forget, Cond.selects RX0 yX0_forget yX0_forget, Cond.code yX0_forget cX0_forget 3 none, Cond.methodLink RX0 105 yX3_restart, Cond.instanceMethod yX3_restart, Cond.selects RX3 yX3_restart yX3_restart, Cond.code yX3_restart cX3_restart 3 none, Cond.methodLink RX0 37 yX0_gather]
def wsL_law_r13 : List Cond := [Cond.instanceMethod yX0_gather, Cond.selects RX0 yX0_gather yX0_gather, Cond.code yX0_gather cX0_gather 3 (some .int), Cond.fieldLink RX0 45 "KeptHeap$Ager" "gathered" "I", Cond.sameField "KeptHeap$Ager" "KeptHeap$Keeper" "gathered" "I", Cond.methodLink RX0 48 ⟨"KeptHeap$Ager", "walkFromRoots", "()V"⟩, Cond.sameMethod "KeptHeap$Ager" "KeptHeap$Keeper" "walkFromRoots" "()V", Cond.selects RX0 ⟨"KeptHeap$Ager", "walkFromRoots", "()V"⟩ yX2_walkFromRoots, Cond.instanceMethod yX2_walkFromRoots, Cond.code yX2_walkFromRoots cX2_walkFromRoots 1 none, Cond.methodLink RX2 50 yX7_begin, Cond.methodLink RX2 53 yX7_meetRoots, Cond.methodLink RX2 57 yX7_follow, Cond.methodLink RX0 52 ⟨"KeptHeap$Ager", "sweepFrom", "(I)I"⟩, Cond.sameMethod "KeptHeap$Ager" "KeptHeap$Keeper" "sweepFrom" "(I)I", Cond.selects RX0 ⟨"KeptHeap$Ager", "sweepFrom", "(I)I"⟩ yX2_sweepFrom, Cond.instanceMethod yX2_sweepFrom, Cond.code yX2_sweepFrom cX2_sweepFrom 5 (some .int), Cond.methodLink RX2 60 yX8_beginningAt, Cond.methodLink RX2 64 yX7_hasMet, Cond.instanceMethod yX7_hasMet, Cond.selects RX7 yX7_hasMet yX7_hasMet, Cond.code yX7_hasMet cX7_hasMet 2 (some .boolean), Cond.methodLink RX2 68 yX6_size]
def wsL_law_r14 : List Cond := [Cond.methodLink RX2 71 yX8_fill, Cond.selects RX1 ⟨"KeptHeap$Keeper", "clearRoomFor", "(I)V"⟩ yX1_clearRoomFor, Cond.instanceMethod yX1_clearRoomFor, Cond.code yX1_clearRoomFor cX1_clearRoomFor 2 none, Cond.methodLink RX1 35 yX1_gather, Cond.instanceMethod yX1_gather, Cond.selects RX1 yX1_gather yX1_gather, Cond.code yX1_gather cX1_gather 4 (some .int), Cond.fieldLink RX1 38 "KeptHeap$Copier" "gathered" "I", Cond.sameField "KeptHeap$Copier" "KeptHeap$Keeper" "gathered" "I", Cond.fieldLink RX1 41 "KeptHeap$Copier" "words" "LKeptHeap$Words;", Cond.sameField "KeptHeap$Copier" "KeptHeap$Keeper" "words" "LKeptHeap$Words;", Cond.fieldLink RX1 59 "KeptHeap$Copier" "walk" "LKeptHeap$Walk;", Cond.sameField "KeptHeap$Copier" "KeptHeap$Keeper" "walk" "LKeptHeap$Walk;", Cond.fieldLink RX1 79 "KeptHeap$Copier" "moved" "I", Cond.sameField "KeptHeap$Copier" "KeptHeap$Keeper" "moved" "I", Cond.methodLink RX1 45 yX8_thingsBelow, Cond.methodLink RX1 48 ⟨"KeptHeap$Copier", "walkFromRoots", "()V"⟩, Cond.sameMethod "KeptHeap$Copier" "KeptHeap$Keeper" "walkFromRoots" "()V", Cond.selects RX1 ⟨"KeptHeap$Copier", "walkFromRoots", "()V"⟩ yX2_walkFromRoots, Cond.methodLink RX1 52 yX8_fill, Cond.methodLink RX1 56 yX3_restart, Cond.methodLink RX1 63 yX7_size, Cond.methodLink RX1 68 yX7_thingOf]
def wsL_law_r15 : List Cond := [Cond.methodLink RX1 72 yX6_size, Cond.methodLink RX1 75 yX8_put, Cond.instanceMethod yX8_put, Cond.selects RX8 yX8_put yX8_put, Cond.code yX8_put cX8_put 3 none, Cond.methodLink RX8 31 yX6_size, Cond.methodLink RX8 35 yX8_fill, Cond.selects RX5 ⟨"KeptHeap$Keeper", "clearRoomFor", "(I)V"⟩ yX5_clearRoomFor, Cond.instanceMethod yX5_clearRoomFor, Cond.code yX5_clearRoomFor cX5_clearRoomFor 2 none, Cond.methodLink RX5 19 yX5_gather, Cond.instanceMethod yX5_gather, Cond.selects RX5 yX5_gather yX5_gather, Cond.code yX5_gather cX5_gather 1 (some .int), Cond.fieldLink RX5 23 "KeptHeap$Sweeper" "gathered" "I", Cond.sameField "KeptHeap$Sweeper" "KeptHeap$Keeper" "gathered" "I", Cond.methodLink RX5 27 ⟨"KeptHeap$Sweeper", "walkFromRoots", "()V"⟩, Cond.sameMethod "KeptHeap$Sweeper" "KeptHeap$Keeper" "walkFromRoots" "()V", Cond.selects RX5 ⟨"KeptHeap$Sweeper", "walkFromRoots", "()V"⟩ yX2_walkFromRoots, Cond.methodLink RX5 31 ⟨"KeptHeap$Sweeper", "sweepFrom", "(I)I"⟩, Cond.sameMethod "KeptHeap$Sweeper" "KeptHeap$Keeper" "sweepFrom" "(I)I", Cond.selects RX5 ⟨"KeptHeap$Sweeper", "sweepFrom", "(I)I"⟩ yX2_sweepFrom, Cond.methodLink RX9 55 yX6_init, Cond.instanceMethod yX6_init]
def wsL_law_r16 : List Cond := [Cond.code yX6_init cX6_init 4 none, Cond.methodLink RX6 1 objectInit, Cond.methodLink RX6 7 Lib.Math.max.name, Cond.fieldLink RX6 13 "KeptHeap$Thing" "name" "I", Cond.classLink RX6 14 RX6, Cond.fieldLink RX6 27 "KeptHeap$Thing" "address" "I", Cond.fieldLink RX6 30 "KeptHeap$Thing" "remembered" "Z", Cond.fieldLink RX6 34 "KeptHeap$Thing" "place" "I", Cond.fieldLink RX6 37 "KeptHeap$Thing" "walk" "I", Cond.fieldLink RX6 40 "KeptHeap$Thing" "order" "I", Cond.methodLink RX9 58 yX8_put, Cond.methodLink RX9 62 yX4_refer, Cond.instanceMethod yX4_refer, Cond.selects RX4 yX4_refer yX4_refer, Cond.code yX4_refer cX4_refer 3 none, Cond.methodLink RL 25 yX10_make, Cond.instanceMethod yX10_make, Cond.selects RX10 yX10_make yX10_make, Cond.code yX10_make cX10_make 7 (some .int), Cond.fieldLink RX10 48 "KeptHeapModel" "thrown" "I", Cond.fieldLink RX10 62 "KeptHeapModel" "made" "I", Cond.fieldLink RX10 91 "KeptHeapModel" "top" "I", Cond.methodLink RX10 124 yX10_isRoot, Cond.static yX10_isRoot]
def wsL_law_r17 : List Cond := [Cond.code yX10_isRoot cX10_isRoot 1 (some .boolean), Cond.methodLink RX10 51 yX10_in, Cond.static yX10_in, Cond.code yX10_in cX10_in 3 (some .boolean), Cond.methodLink RX10 127 yX10_room, Cond.instanceMethod yX10_room, Cond.selects RX10 yX10_room yX10_room, Cond.code yX10_room cX10_room 3 (some .int), Cond.fieldLink RX10 88 "KeptHeapModel" "half" "I", Cond.methodLink RX10 101 yX10_fit, Cond.instanceMethod yX10_fit, Cond.selects RX10 yX10_fit yX10_fit, Cond.code yX10_fit cX10_fit 5 (some .int), Cond.methodLink RX10 131 yX10_collectNow, Cond.instanceMethod yX10_collectNow, Cond.selects RX10 yX10_collectNow yX10_collectNow, Cond.code yX10_collectNow cX10_collectNow 3 (some .int), Cond.fieldLink RX10 114 "KeptHeapModel" "collected" "I", Cond.methodLink RX10 117 yX10_copyAll, Cond.instanceMethod yX10_copyAll, Cond.selects RX10 yX10_copyAll yX10_copyAll, Cond.code yX10_copyAll cX10_copyAll 3 (some .int), Cond.fieldLink RX10 59 "KeptHeapModel" "size" "I", Cond.fieldLink RX10 98 "KeptHeapModel" "moved" "I"]
def wsL_law_r18 : List Cond := [Cond.methodLink RX10 81 yX10_reach, Cond.instanceMethod yX10_reach, Cond.selects RX10 yX10_reach yX10_reach, Cond.code yX10_reach cX10_reach 2 none, Cond.methodLink RX10 68 yX10_begin, Cond.instanceMethod yX10_begin, Cond.selects RX10 yX10_begin yX10_begin, Cond.code yX10_begin cX10_begin 2 none, Cond.methodLink RX10 65 yX10_meet, Cond.instanceMethod yX10_meet, Cond.selects RX10 yX10_meet yX10_meet, Cond.code yX10_meet cX10_meet 2 none, Cond.methodLink RX10 71 yX10_follow, Cond.instanceMethod yX10_follow, Cond.selects RX10 yX10_follow yX10_follow, Cond.code yX10_follow cX10_follow 3 none, Cond.methodLink RX10 84 yX10_sweep, Cond.instanceMethod yX10_sweep, Cond.selects RX10 yX10_sweep yX10_sweep, Cond.code yX10_sweep cX10_sweep 4 (some .int), Cond.methodLink RX10 74 yX10_isOld, Cond.instanceMethod yX10_isOld, Cond.selects RX10 yX10_isOld yX10_isOld, Cond.code yX10_isOld cX10_isOld 2 (some .boolean)]
def wsL_law_r19 : List Cond := [Cond.methodLink RX10 78 yX10_go, Cond.instanceMethod yX10_go, Cond.selects RX10 yX10_go yX10_go, Cond.code yX10_go cX10_go 2 none, Cond.methodLink RX10 55 yX10_leave, Cond.instanceMethod yX10_leave, Cond.selects RX10 yX10_leave yX10_leave, Cond.code yX10_leave cX10_leave 3 none, Cond.methodLink RX10 94 yX10_lie, Cond.instanceMethod yX10_lie, Cond.selects RX10 yX10_lie yX10_lie, Cond.code yX10_lie cX10_lie 4 none, Cond.methodLink RX10 121 yX10_minorNow, Cond.instanceMethod yX10_minorNow, Cond.selects RX10 yX10_minorNow yX10_minorNow, Cond.code yX10_minorNow cX10_minorNow 4 (some .int), Cond.fieldLink RX10 111 "KeptHeapModel" "minors" "I", Cond.methodLink RX10 105 yX10_raise, Cond.instanceMethod yX10_raise, Cond.selects RX10 yX10_raise yX10_raise, Cond.code yX10_raise cX10_raise 3 (some .boolean), Cond.methodLink RX10 108 yX10_raiseFields, Cond.instanceMethod yX10_raiseFields, Cond.selects RX10 yX10_raiseFields yX10_raiseFields]
def wsL_law_r20 : List Cond := [Cond.code yX10_raiseFields cX10_raiseFields 4 (some .boolean), Cond.methodLink RL 26 yX9_set, Cond.instanceMethod yX9_set, Cond.selects RX9 yX9_set yX9_set, Cond.code yX9_set cX9_set 5 (some .int), Cond.methodLink RX9 69 yX9_holderOf, Cond.instanceMethod yX9_holderOf, Cond.selects RX9 yX9_holderOf yX9_holderOf, Cond.code yX9_holderOf cX9_holderOf 4 (some (.object "KeptHeap$Thing")), Cond.methodLink RX9 81 yX4_thingOf, Cond.methodLink RX9 172 yX6_has, Cond.instanceMethod yX6_has, Cond.selects RX6 yX6_has yX6_has, Cond.code yX6_has cX6_has 2 (some .boolean), Cond.methodLink RX9 73 yX9_whyNoHolder, Cond.instanceMethod yX9_whyNoHolder, Cond.selects RX9 yX9_whyNoHolder yX9_whyNoHolder, Cond.code yX9_whyNoHolder cX9_whyNoHolder 3 (some .int), Cond.methodLink RX9 77 yX6_hold, Cond.instanceMethod yX6_hold, Cond.selects RX6 yX6_hold yX6_hold, Cond.code yX6_hold cX6_hold 4 none, Cond.methodLink RX6 43 yX6_has, Cond.methodLink RL 30 yX10_set]
def wsL_law_r21 : List Cond := [Cond.instanceMethod yX10_set, Cond.selects RX10 yX10_set yX10_set, Cond.code yX10_set cX10_set 5 (some .int), Cond.methodLink RX10 134 yX10_wrong, Cond.instanceMethod yX10_wrong, Cond.selects RX10 yX10_wrong yX10_wrong, Cond.code yX10_wrong cX10_wrong 3 (some .int), Cond.methodLink RL 31 yX9_link, Cond.instanceMethod yX9_link, Cond.selects RX9 yX9_link yX9_link, Cond.code yX9_link cX9_link 6 (some .int), Cond.fieldLink RX9 89 "KeptHeap$Thing" "remembered" "Z", Cond.methodLink RX9 85 ⟨"KeptHeap$Keeper", "isOld", "(LKeptHeap$Thing;)Z"⟩, Cond.sameMethod "KeptHeap$Keeper" "KeptHeap$Keeper" "isOld" "(LKeptHeap$Thing;)Z", Cond.instanceMethod ⟨"KeptHeap$Keeper", "isOld", "(LKeptHeap$Thing;)Z"⟩, Cond.selects RX0 ⟨"KeptHeap$Keeper", "isOld", "(LKeptHeap$Thing;)Z"⟩ yX0_isOld, Cond.instanceMethod yX0_isOld, Cond.code yX0_isOld cX0_isOld 2 (some .boolean), Cond.code yX2_isOld cX2_isOld 2 (some .boolean), Cond.selects RX1 ⟨"KeptHeap$Keeper", "isOld", "(LKeptHeap$Thing;)Z"⟩ yX2_isOld, Cond.instanceMethod yX2_isOld, Cond.selects RX5 ⟨"KeptHeap$Keeper", "isOld", "(LKeptHeap$Thing;)Z"⟩ yX2_isOld, Cond.methodLink RL 34 yX10_link, Cond.instanceMethod yX10_link]
def wsL_law_r22 : List Cond := [Cond.selects RX10 yX10_link yX10_link, Cond.code yX10_link cX10_link 6 (some .int), Cond.methodLink RL 35 yX9_refers, Cond.instanceMethod yX9_refers, Cond.selects RX9 yX9_refers yX9_refers, Cond.code yX9_refers cX9_refers 4 (some .int), Cond.methodLink RX9 93 yX6_targetOf, Cond.methodLink RX9 96 yX9_asNumber, Cond.static yX9_asNumber, Cond.code yX9_asNumber cX9_asNumber 1 (some .int), Cond.methodLink RL 38 yX10_refers, Cond.instanceMethod yX10_refers, Cond.selects RX10 yX10_refers yX10_refers, Cond.code yX10_refers cX10_refers 4 (some .int), Cond.methodLink RL 39 yX9_number, Cond.instanceMethod yX9_number, Cond.selects RX9 yX9_number yX9_number, Cond.code yX9_number cX9_number 4 (some .int), Cond.methodLink RX9 100 yX6_numberOf, Cond.instanceMethod yX6_numberOf, Cond.selects RX6 yX6_numberOf yX6_numberOf, Cond.code yX6_numberOf cX6_numberOf 2 (some .int), Cond.methodLink RL 42 yX10_number, Cond.instanceMethod yX10_number]
def wsL_law_r23 : List Cond := [Cond.selects RX10 yX10_number yX10_number, Cond.code yX10_number cX10_number 3 (some .int), Cond.methodLink RL 43 yX9_load, Cond.instanceMethod yX9_load, Cond.selects RX9 yX9_load yX9_load, Cond.code yX9_load cX9_load 6 (some .int), Cond.methodLink RL 46 yX10_load, Cond.instanceMethod yX10_load, Cond.selects RX10 yX10_load yX10_load, Cond.code yX10_load cX10_load 6 (some .int), Cond.methodLink RL 47 yX9_copy, Cond.instanceMethod yX9_copy, Cond.selects RX9 yX9_copy yX9_copy, Cond.code yX9_copy cX9_copy 4 (some .int), Cond.methodLink RX9 103 yX9_nameOf, Cond.static yX9_nameOf, Cond.code yX9_nameOf cX9_nameOf 1 (some .int), Cond.methodLink RL 50 yX10_copy, Cond.instanceMethod yX10_copy, Cond.selects RX10 yX10_copy yX10_copy, Cond.code yX10_copy cX10_copy 3 (some .int), Cond.methodLink RL 51 yX9_drop, Cond.instanceMethod yX9_drop, Cond.selects RX9 yX9_drop yX9_drop]
def wsL_law_r24 : List Cond := [Cond.code yX9_drop cX9_drop 3 (some .int), Cond.methodLink RL 55 yX10_drop, Cond.instanceMethod yX10_drop, Cond.selects RX10 yX10_drop yX10_drop, Cond.code yX10_drop cX10_drop 3 (some .int), Cond.methodLink RL 56 yX9_collect, Cond.instanceMethod yX9_collect, Cond.selects RX9 yX9_collect yX9_collect, Cond.code yX9_collect cX9_collect 1 (some .int), Cond.methodLink RX9 107 ⟨"KeptHeap$Keeper", "gather", "()I"⟩, Cond.sameMethod "KeptHeap$Keeper" "KeptHeap$Keeper" "gather" "()I", Cond.selects RX0 ⟨"KeptHeap$Keeper", "gather", "()I"⟩ yX0_gather, Cond.selects RX1 ⟨"KeptHeap$Keeper", "gather", "()I"⟩ yX1_gather, Cond.selects RX5 ⟨"KeptHeap$Keeper", "gather", "()I"⟩ yX5_gather, Cond.methodLink RL 60 yX10_collect, Cond.instanceMethod yX10_collect, Cond.selects RX10 yX10_collect yX10_collect, Cond.code yX10_collect cX10_collect 2 (some .int), Cond.methodLink RL 61 yX9_minor, Cond.instanceMethod yX9_minor, Cond.selects RX9 yX9_minor yX9_minor, Cond.code yX9_minor cX9_minor 1 (some .int), Cond.methodLink RX9 111 ⟨"KeptHeap$Keeper", "gatherYoung", "()I"⟩, Cond.sameMethod "KeptHeap$Keeper" "KeptHeap$Keeper" "gatherYoung" "()I"]
def wsL_law_r25 : List Cond := [Cond.instanceMethod ⟨"KeptHeap$Keeper", "gatherYoung", "()I"⟩, Cond.selects RX0 ⟨"KeptHeap$Keeper", "gatherYoung", "()I"⟩ yX0_gatherYoung, Cond.code yX2_gatherYoung cX2_gatherYoung 1 (some .int), Cond.selects RX1 ⟨"KeptHeap$Keeper", "gatherYoung", "()I"⟩ yX2_gatherYoung, Cond.instanceMethod yX2_gatherYoung, Cond.selects RX5 ⟨"KeptHeap$Keeper", "gatherYoung", "()I"⟩ yX2_gatherYoung, Cond.methodLink RL 64 yX10_minor, Cond.instanceMethod yX10_minor, Cond.selects RX10 yX10_minor yX10_minor, Cond.code yX10_minor cX10_minor 2 (some .int), Cond.methodLink RL 65 yX9_object, Cond.instanceMethod yX9_object, Cond.selects RX9 yX9_object yX9_object, Cond.code yX9_object cX9_object 4 (some .int), Cond.fieldLink RX9 114 "KeptHeap$Thing" "address" "I", Cond.methodLink RX9 117 yX6_fields, Cond.methodLink RL 68 yX10_object, Cond.instanceMethod yX10_object, Cond.selects RX10 yX10_object yX10_object, Cond.code yX10_object cX10_object 4 (some .int), Cond.methodLink RL 69 yX9_at, Cond.instanceMethod yX9_at, Cond.selects RX9 yX9_at yX9_at, Cond.code yX9_at cX9_at 2 (some .int)]
def wsL_law_r26 : List Cond := [Cond.methodLink RX9 120 yX8_length, Cond.methodLink RX9 123 yX8_lyingAt, Cond.methodLink RL 72 yX10_at, Cond.instanceMethod yX10_at, Cond.selects RX10 yX10_at yX10_at, Cond.code yX10_at cX10_at 2 (some .int), Cond.methodLink RL 73 yX9_count, Cond.instanceMethod yX9_count, Cond.selects RX9 yX9_count yX9_count, Cond.code yX9_count cX9_count 2 (some .int), Cond.fieldLink RX9 132 "KeptHeap$Keeper" "gathered" "I", Cond.fieldLink RX9 135 "KeptHeap$Keeper" "gatheredYoung" "I", Cond.fieldLink RX9 138 "KeptHeap$Keeper" "moved" "I", Cond.methodLink RX9 126 yX8_thingsBelow, Cond.methodLink RX9 129 yX8_taken, Cond.instanceMethod yX8_taken, Cond.selects RX8 yX8_taken yX8_taken, Cond.code yX8_taken cX8_taken 3 (some .int), Cond.methodLink RX9 141 yX8_rememberedThings, Cond.instanceMethod yX8_rememberedThings, Cond.selects RX8 yX8_rememberedThings yX8_rememberedThings, Cond.code yX8_rememberedThings cX8_rememberedThings 4 (some .int), Cond.fieldLink RX8 45 "KeptHeap$Thing" "remembered" "Z", Cond.methodLink RX9 144 ⟨"KeptHeap$Keeper", "reachedThings", "()I"⟩]
def wsL_law_r27 : List Cond := [Cond.sameMethod "KeptHeap$Keeper" "KeptHeap$Keeper" "reachedThings" "()I", Cond.selects RX0 ⟨"KeptHeap$Keeper", "reachedThings", "()I"⟩ yX2_reachedThings, Cond.instanceMethod yX2_reachedThings, Cond.code yX2_reachedThings cX2_reachedThings 1 (some .int), Cond.methodLink RX2 44 ⟨"KeptHeap$Keeper", "walkFromRoots", "()V"⟩, Cond.sameMethod "KeptHeap$Keeper" "KeptHeap$Keeper" "walkFromRoots" "()V", Cond.selects RX0 ⟨"KeptHeap$Keeper", "walkFromRoots", "()V"⟩ yX2_walkFromRoots, Cond.selects RX1 ⟨"KeptHeap$Keeper", "walkFromRoots", "()V"⟩ yX2_walkFromRoots, Cond.selects RX5 ⟨"KeptHeap$Keeper", "walkFromRoots", "()V"⟩ yX2_walkFromRoots, Cond.methodLink RX2 47 yX7_size, Cond.selects RX1 ⟨"KeptHeap$Keeper", "reachedThings", "()I"⟩ yX2_reachedThings, Cond.selects RX5 ⟨"KeptHeap$Keeper", "reachedThings", "()I"⟩ yX2_reachedThings, Cond.methodLink RL 76 yX10_count, Cond.instanceMethod yX10_count, Cond.selects RX10 yX10_count yX10_count, Cond.code yX10_count cX10_count 6 (some .int), Cond.methodLink RL 77 yX9_same, Cond.instanceMethod yX9_same, Cond.selects RX9 yX9_same yX9_same, Cond.code yX9_same cX9_same 3 (some .int), Cond.methodLink RL 80 yX10_same, Cond.instanceMethod yX10_same, Cond.selects RX10 yX10_same yX10_same, Cond.code yX10_same cX10_same 3 (some .int)]
def wsL_law_r28 : List Cond := [Cond.methodLink RL 81 yX9_sum, Cond.instanceMethod yX9_sum, Cond.selects RX9 yX9_sum yX9_sum, Cond.code yX9_sum cX9_sum 3 (some .long), Cond.constantLong RX9 147 (-2), Cond.methodLink RX9 149 ⟨"KeptHeap$Keeper", "sumFrom", "(LKeptHeap$Thing;)J"⟩, Cond.sameMethod "KeptHeap$Keeper" "KeptHeap$Keeper" "sumFrom" "(LKeptHeap$Thing;)J", Cond.selects RX0 ⟨"KeptHeap$Keeper", "sumFrom", "(LKeptHeap$Thing;)J"⟩ yX2_sumFrom, Cond.instanceMethod yX2_sumFrom, Cond.code yX2_sumFrom cX2_sumFrom 6 (some .long), Cond.constantLong RX2 79 (7), Cond.methodLink RX2 75 yX7_meet, Cond.methodLink RX2 81 yX7_thingOf, Cond.methodLink RX2 84 yX2_sumWith, Cond.static yX2_sumWith, Cond.code yX2_sumWith cX2_sumWith 9 (some .long), Cond.constantLong RX2 88 (31), Cond.constantLong RX2 96 (2), Cond.fieldLink RX2 102 "KeptHeap$Thing" "order" "I", Cond.methodLink RX2 90 yX6_fields, Cond.methodLink RX2 93 yX6_targetOf, Cond.methodLink RX2 98 yX6_numberOf, Cond.selects RX1 ⟨"KeptHeap$Keeper", "sumFrom", "(LKeptHeap$Thing;)J"⟩ yX2_sumFrom, Cond.selects RX5 ⟨"KeptHeap$Keeper", "sumFrom", "(LKeptHeap$Thing;)J"⟩ yX2_sumFrom]
def wsL_law_r29 : List Cond := [Cond.methodLink RL 85 yX10_sum, Cond.instanceMethod yX10_sum, Cond.selects RX10 yX10_sum yX10_sum, Cond.code yX10_sum cX10_sum 8 (some .long), Cond.constantLong RX10 137 (-2), Cond.constantLong RX10 139 (7), Cond.constantLong RX10 141 (31), Cond.constantLong RX10 143 (2)]
def wsL_law : List Cond := (wsL_law_r1 ++ (wsL_law_r2 ++ (wsL_law_r3 ++ (wsL_law_r4 ++ (wsL_law_r5 ++ (wsL_law_r6 ++ (wsL_law_r7 ++ (wsL_law_r8 ++ (wsL_law_r9 ++ (wsL_law_r10 ++ (wsL_law_r11 ++ (wsL_law_r12 ++ (wsL_law_r13 ++ (wsL_law_r14 ++ (wsL_law_r15 ++ (wsL_law_r16 ++ (wsL_law_r17 ++ (wsL_law_r18 ++ (wsL_law_r19 ++ (wsL_law_r20 ++ (wsL_law_r21 ++ (wsL_law_r22 ++ (wsL_law_r23 ++ (wsL_law_r24 ++ (wsL_law_r25 ++ (wsL_law_r26 ++ (wsL_law_r27 ++ (wsL_law_r28 ++ wsL_law_r29)))))))))))))))))))))))))))) ++ wsX90 ++ wsX100 ++ wsX80 ++ wsX40 ++ wsX10 ++ wsX00 ++ wsX50 ++ wsX30 ++ wsX70 ++ wsX60 ++ ([] : List Cond)
abbrev vwCl : List vw_C := [(RX0, TX0, 8), (RX1, TX1, 9), (RX3, TX3, 2), (RX4, TX4, 1), (RX5, TX5, 6), (RX6, TX6, 8), (RX7, TX7, 4), (RX8, TX8, 1), (RX9, TX9, 4), (RX10, TX10, 20)]
theorem inlX0 : ∀ w ∈ wsX00, w ∈ wsL_law := fun _ h => List.mem_append_left _ (List.mem_append_left _ (List.mem_append_left _ (List.mem_append_left _ (List.mem_append_left _ (List.mem_append_right _ h)))))
theorem inlX1 : ∀ w ∈ wsX10, w ∈ wsL_law := fun _ h => List.mem_append_left _ (List.mem_append_left _ (List.mem_append_left _ (List.mem_append_left _ (List.mem_append_left _ (List.mem_append_left _ (List.mem_append_right _ h))))))
theorem inlX3 : ∀ w ∈ wsX30, w ∈ wsL_law := fun _ h => List.mem_append_left _ (List.mem_append_left _ (List.mem_append_left _ (List.mem_append_right _ h)))
theorem inlX4 : ∀ w ∈ wsX40, w ∈ wsL_law := fun _ h => List.mem_append_left _ (List.mem_append_left _ (List.mem_append_left _ (List.mem_append_left _ (List.mem_append_left _ (List.mem_append_left _ (List.mem_append_left _ (List.mem_append_right _ h)))))))
theorem inlX5 : ∀ w ∈ wsX50, w ∈ wsL_law := fun _ h => List.mem_append_left _ (List.mem_append_left _ (List.mem_append_left _ (List.mem_append_left _ (List.mem_append_right _ h))))
theorem inlX6 : ∀ w ∈ wsX60, w ∈ wsL_law := fun _ h => List.mem_append_left _ (List.mem_append_right _ h)
theorem inlX7 : ∀ w ∈ wsX70, w ∈ wsL_law := fun _ h => List.mem_append_left _ (List.mem_append_left _ (List.mem_append_right _ h))
theorem inlX8 : ∀ w ∈ wsX80, w ∈ wsL_law := fun _ h => List.mem_append_left _ (List.mem_append_left _ (List.mem_append_left _ (List.mem_append_left _ (List.mem_append_left _ (List.mem_append_left _ (List.mem_append_left _ (List.mem_append_left _ (List.mem_append_right _ h))))))))
theorem inlX9 : ∀ w ∈ wsX90, w ∈ wsL_law := fun _ h => List.mem_append_left _ (List.mem_append_left _ (List.mem_append_left _ (List.mem_append_left _ (List.mem_append_left _ (List.mem_append_left _ (List.mem_append_left _ (List.mem_append_left _ (List.mem_append_left _ (List.mem_append_left _ (List.mem_append_right _ h))))))))))
theorem inlX10 : ∀ w ∈ wsX100, w ∈ wsL_law := fun _ h => List.mem_append_left _ (List.mem_append_left _ (List.mem_append_left _ (List.mem_append_left _ (List.mem_append_left _ (List.mem_append_left _ (List.mem_append_left _ (List.mem_append_left _ (List.mem_append_left _ (List.mem_append_right _ h)))))))))
end
section
abbrev wsL : List Cond := wsL_law
theorem sub_0 : ∀ w ∈ wsL_law_r1, w ∈ wsL := fun _ h => (List.mem_append_left _ (List.mem_append_left _ (List.mem_append_left _ (List.mem_append_left _ (List.mem_append_left _ (List.mem_append_left _ (List.mem_append_left _ (List.mem_append_left _ (List.mem_append_left _ (List.mem_append_left _ (List.mem_append_left _ (List.mem_append_left _ h))))))))))))
theorem in_0 : Cond.classLink RL 7 RX9 ∈ wsL := sub_0 _ (List.mem_of_getElem? (i := 0) rfl)
theorem in_1 : Cond.instantiable RX9 4 ∈ wsL := sub_0 _ (List.mem_of_getElem? (i := 1) rfl)
theorem in_2 : Cond.initialized RX9 ∈ wsL := sub_0 _ (List.mem_of_getElem? (i := 2) rfl)
theorem in_3 : Cond.classLink RL 18 RX10 ∈ wsL := sub_0 _ (List.mem_of_getElem? (i := 3) rfl)
theorem in_4 : Cond.instantiable RX10 20 ∈ wsL := sub_0 _ (List.mem_of_getElem? (i := 4) rfl)
theorem in_5 : Cond.initialized RX10 ∈ wsL := sub_0 _ (List.mem_of_getElem? (i := 5) rfl)
theorem in_6 : Cond.methodLink RL 9 yL_cell ∈ wsL := sub_0 _ (List.mem_of_getElem? (i := 6) rfl)
theorem in_7 : Cond.static yL_cell ∈ wsL := sub_0 _ (List.mem_of_getElem? (i := 7) rfl)
theorem in_8 : Cond.initialized RL ∈ wsL := sub_0 _ (List.mem_of_getElem? (i := 8) rfl)
theorem in_9 : Cond.code yL_cell cL_cell 2 (some .int) ∈ wsL := sub_0 _ (List.mem_of_getElem? (i := 9) rfl)
theorem in_10 : Cond.methodLink RL 15 yX9_init ∈ wsL := sub_0 _ (List.mem_of_getElem? (i := 10) rfl)
theorem in_11 : Cond.instanceMethod yX9_init ∈ wsL := sub_0 _ (List.mem_of_getElem? (i := 11) rfl)
theorem in_12 : Cond.code yX9_init cX9_init 5 none ∈ wsL := sub_0 _ (List.mem_of_getElem? (i := 12) rfl)
theorem in_13 : Cond.methodLink RX9 1 objectInit ∈ wsL := sub_0 _ (List.mem_of_getElem? (i := 13) rfl)
theorem in_14 : Cond.instanceMethod objectInit ∈ wsL := sub_0 _ (List.mem_of_getElem? (i := 14) rfl)
theorem in_15 : Cond.code objectInit ⟨#[0xb1]⟩ 1 none ∈ wsL := sub_0 _ (List.mem_of_getElem? (i := 15) rfl)
theorem in_16 : Cond.classLink RX9 7 RX8 ∈ wsL := sub_0 _ (List.mem_of_getElem? (i := 16) rfl)
theorem in_17 : Cond.instantiable RX8 1 ∈ wsL := sub_0 _ (List.mem_of_getElem? (i := 17) rfl)
theorem in_18 : Cond.initialized RX8 ∈ wsL := sub_0 _ (List.mem_of_getElem? (i := 18) rfl)
theorem in_19 : Cond.classLink RX9 18 RX4 ∈ wsL := sub_0 _ (List.mem_of_getElem? (i := 19) rfl)
theorem in_20 : Cond.instantiable RX4 1 ∈ wsL := sub_0 _ (List.mem_of_getElem? (i := 20) rfl)
theorem in_21 : Cond.initialized RX4 ∈ wsL := sub_0 _ (List.mem_of_getElem? (i := 21) rfl)
theorem in_22 : Cond.fieldLink RX9 21 "KeptHeap" "words" "LKeptHeap$Words;" ∈ wsL := sub_0 _ (List.mem_of_getElem? (i := 22) rfl)
theorem in_23 : Cond.fieldLink RX9 25 "KeptHeap" "roots" "LKeptHeap$Roots;" ∈ wsL := sub_0 _ (List.mem_of_getElem? (i := 23) rfl)
theorem sub_1 : ∀ w ∈ wsL_law_r2, w ∈ wsL := fun _ h => (List.mem_append_left _ (List.mem_append_left _ (List.mem_append_left _ (List.mem_append_left _ (List.mem_append_left _ (List.mem_append_left _ (List.mem_append_left _ (List.mem_append_left _ (List.mem_append_left _ (List.mem_append_left _ (List.mem_append_left _ (List.mem_append_right _ (List.mem_append_left _ h)))))))))))))
theorem in_24 : Cond.fieldLink RX9 33 "KeptHeap" "keeper" "LKeptHeap$Keeper;" ∈ wsL := sub_1 _ (List.mem_of_getElem? (i := 0) rfl)
theorem in_25 : Cond.fieldLink RX9 37 "KeptHeap" "made" "I" ∈ wsL := sub_1 _ (List.mem_of_getElem? (i := 1) rfl)
theorem in_26 : Cond.methodLink RX9 9 yX9_wordsFor ∈ wsL := sub_1 _ (List.mem_of_getElem? (i := 2) rfl)
theorem in_27 : Cond.static yX9_wordsFor ∈ wsL := sub_1 _ (List.mem_of_getElem? (i := 3) rfl)
theorem in_28 : Cond.code yX9_wordsFor cX9_wordsFor 2 (some .int) ∈ wsL := sub_1 _ (List.mem_of_getElem? (i := 4) rfl)
theorem in_29 : Cond.methodLink RX9 153 Lib.Math.min.name ∈ wsL := sub_1 _ (List.mem_of_getElem? (i := 5) rfl)
theorem in_30 : Cond.static Lib.Math.min.name ∈ wsL := sub_1 _ (List.mem_of_getElem? (i := 6) rfl)
theorem in_31 : Cond.initialized "java/lang/Math" ∈ wsL := sub_1 _ (List.mem_of_getElem? (i := 7) rfl)
theorem in_32 : Cond.code Lib.Math.min.name Lib.Math.min.code 2 (some .int) ∈ wsL := sub_1 _ (List.mem_of_getElem? (i := 8) rfl)
theorem in_33 : Cond.methodLink RX9 158 Lib.Math.max.name ∈ wsL := sub_1 _ (List.mem_of_getElem? (i := 9) rfl)
theorem in_34 : Cond.static Lib.Math.max.name ∈ wsL := sub_1 _ (List.mem_of_getElem? (i := 10) rfl)
theorem in_35 : Cond.code Lib.Math.max.name Lib.Math.max.code 2 (some .int) ∈ wsL := sub_1 _ (List.mem_of_getElem? (i := 11) rfl)
theorem in_36 : Cond.methodLink RX9 15 yX8_init ∈ wsL := sub_1 _ (List.mem_of_getElem? (i := 12) rfl)
theorem in_37 : Cond.instanceMethod yX8_init ∈ wsL := sub_1 _ (List.mem_of_getElem? (i := 13) rfl)
theorem in_38 : Cond.code yX8_init cX8_init 2 none ∈ wsL := sub_1 _ (List.mem_of_getElem? (i := 14) rfl)
theorem in_39 : Cond.methodLink RX8 3 objectInit ∈ wsL := sub_1 _ (List.mem_of_getElem? (i := 15) rfl)
theorem in_40 : Cond.methodLink RX8 9 Lib.Math.max.name ∈ wsL := sub_1 _ (List.mem_of_getElem? (i := 16) rfl)
theorem in_41 : Cond.classLink RX8 15 RX6 ∈ wsL := sub_1 _ (List.mem_of_getElem? (i := 17) rfl)
theorem in_42 : Cond.fieldLink RX8 17 "KeptHeap$Words" "things" "[LKeptHeap$Thing;" ∈ wsL := sub_1 _ (List.mem_of_getElem? (i := 18) rfl)
theorem in_43 : Cond.methodLink RX9 20 yX4_init ∈ wsL := sub_1 _ (List.mem_of_getElem? (i := 19) rfl)
theorem in_44 : Cond.instanceMethod yX4_init ∈ wsL := sub_1 _ (List.mem_of_getElem? (i := 20) rfl)
theorem in_45 : Cond.code yX4_init cX4_init 1 none ∈ wsL := sub_1 _ (List.mem_of_getElem? (i := 21) rfl)
theorem in_46 : Cond.methodLink RX4 3 objectInit ∈ wsL := sub_1 _ (List.mem_of_getElem? (i := 22) rfl)
theorem in_47 : Cond.classLink RX4 9 RX6 ∈ wsL := sub_1 _ (List.mem_of_getElem? (i := 23) rfl)
theorem sub_2 : ∀ w ∈ wsL_law_r3, w ∈ wsL := fun _ h => (List.mem_append_left _ (List.mem_append_left _ (List.mem_append_left _ (List.mem_append_left _ (List.mem_append_left _ (List.mem_append_left _ (List.mem_append_left _ (List.mem_append_left _ (List.mem_append_left _ (List.mem_append_left _ (List.mem_append_left _ (List.mem_append_right _ (List.mem_append_right _ (List.mem_append_left _ h))))))))))))))
theorem in_48 : Cond.fieldLink RX4 11 "KeptHeap$Roots" "things" "[LKeptHeap$Thing;" ∈ wsL := sub_2 _ (List.mem_of_getElem? (i := 0) rfl)
theorem in_49 : Cond.methodLink RX9 29 yX9_keeperFor ∈ wsL := sub_2 _ (List.mem_of_getElem? (i := 1) rfl)
theorem in_50 : Cond.static yX9_keeperFor ∈ wsL := sub_2 _ (List.mem_of_getElem? (i := 2) rfl)
theorem in_51 : Cond.code yX9_keeperFor cX9_keeperFor 3 (some (.object "KeptHeap$Keeper")) ∈ wsL := sub_2 _ (List.mem_of_getElem? (i := 3) rfl)
theorem in_52 : Cond.classLink RX9 161 RX1 ∈ wsL := sub_2 _ (List.mem_of_getElem? (i := 4) rfl)
theorem in_53 : Cond.instantiable RX1 9 ∈ wsL := sub_2 _ (List.mem_of_getElem? (i := 5) rfl)
theorem in_54 : Cond.initialized RX1 ∈ wsL := sub_2 _ (List.mem_of_getElem? (i := 6) rfl)
theorem in_55 : Cond.classLink RX9 166 RX0 ∈ wsL := sub_2 _ (List.mem_of_getElem? (i := 7) rfl)
theorem in_56 : Cond.instantiable RX0 8 ∈ wsL := sub_2 _ (List.mem_of_getElem? (i := 8) rfl)
theorem in_57 : Cond.initialized RX0 ∈ wsL := sub_2 _ (List.mem_of_getElem? (i := 9) rfl)
theorem in_58 : Cond.classLink RX9 169 RX5 ∈ wsL := sub_2 _ (List.mem_of_getElem? (i := 10) rfl)
theorem in_59 : Cond.instantiable RX5 6 ∈ wsL := sub_2 _ (List.mem_of_getElem? (i := 11) rfl)
theorem in_60 : Cond.initialized RX5 ∈ wsL := sub_2 _ (List.mem_of_getElem? (i := 12) rfl)
theorem in_61 : Cond.methodLink RX9 163 yX1_init ∈ wsL := sub_2 _ (List.mem_of_getElem? (i := 13) rfl)
theorem in_62 : Cond.instanceMethod yX1_init ∈ wsL := sub_2 _ (List.mem_of_getElem? (i := 14) rfl)
theorem in_63 : Cond.code yX1_init cX1_init 3 none ∈ wsL := sub_2 _ (List.mem_of_getElem? (i := 15) rfl)
theorem in_64 : Cond.fieldLink RX1 13 "KeptHeap$Copier" "half" "I" ∈ wsL := sub_2 _ (List.mem_of_getElem? (i := 16) rfl)
theorem in_65 : Cond.classLink RX1 19 RX3 ∈ wsL := sub_2 _ (List.mem_of_getElem? (i := 17) rfl)
theorem in_66 : Cond.instantiable RX3 2 ∈ wsL := sub_2 _ (List.mem_of_getElem? (i := 18) rfl)
theorem in_67 : Cond.initialized RX3 ∈ wsL := sub_2 _ (List.mem_of_getElem? (i := 19) rfl)
theorem in_68 : Cond.fieldLink RX1 24 "KeptHeap$Copier" "inUse" "LKeptHeap$Part;" ∈ wsL := sub_2 _ (List.mem_of_getElem? (i := 20) rfl)
theorem in_69 : Cond.fieldLink RX1 28 "KeptHeap$Copier" "start" "I" ∈ wsL := sub_2 _ (List.mem_of_getElem? (i := 21) rfl)
theorem in_70 : Cond.methodLink RX1 1 yX2_init ∈ wsL := sub_2 _ (List.mem_of_getElem? (i := 22) rfl)
theorem in_71 : Cond.instanceMethod yX2_init ∈ wsL := sub_2 _ (List.mem_of_getElem? (i := 23) rfl)
theorem sub_3 : ∀ w ∈ wsL_law_r4, w ∈ wsL := fun _ h => (List.mem_append_left _ (List.mem_append_left _ (List.mem_append_left _ (List.mem_append_left _ (List.mem_append_left _ (List.mem_append_left _ (List.mem_append_left _ (List.mem_append_left _ (List.mem_append_left _ (List.mem_append_left _ (List.mem_append_left _ (List.mem_append_right _ (List.mem_append_right _ (List.mem_append_right _ (List.mem_append_left _ h)))))))))))))))
theorem in_72 : Cond.initialized RX2 ∈ wsL := sub_3 _ (List.mem_of_getElem? (i := 0) rfl)
theorem in_73 : Cond.code yX2_init cX2_init 3 none ∈ wsL := sub_3 _ (List.mem_of_getElem? (i := 1) rfl)
theorem in_74 : Cond.methodLink RX2 3 objectInit ∈ wsL := sub_3 _ (List.mem_of_getElem? (i := 2) rfl)
theorem in_75 : Cond.fieldLink RX2 9 "KeptHeap$Keeper" "words" "LKeptHeap$Words;" ∈ wsL := sub_3 _ (List.mem_of_getElem? (i := 3) rfl)
theorem in_76 : Cond.fieldLink RX2 15 "KeptHeap$Keeper" "roots" "LKeptHeap$Roots;" ∈ wsL := sub_3 _ (List.mem_of_getElem? (i := 4) rfl)
theorem in_77 : Cond.classLink RX2 19 RX7 ∈ wsL := sub_3 _ (List.mem_of_getElem? (i := 5) rfl)
theorem in_78 : Cond.instantiable RX7 4 ∈ wsL := sub_3 _ (List.mem_of_getElem? (i := 6) rfl)
theorem in_79 : Cond.initialized RX7 ∈ wsL := sub_3 _ (List.mem_of_getElem? (i := 7) rfl)
theorem in_80 : Cond.fieldLink RX2 30 "KeptHeap$Keeper" "walk" "LKeptHeap$Walk;" ∈ wsL := sub_3 _ (List.mem_of_getElem? (i := 8) rfl)
theorem in_81 : Cond.fieldLink RX2 34 "KeptHeap$Keeper" "gathered" "I" ∈ wsL := sub_3 _ (List.mem_of_getElem? (i := 9) rfl)
theorem in_82 : Cond.fieldLink RX2 38 "KeptHeap$Keeper" "gatheredYoung" "I" ∈ wsL := sub_3 _ (List.mem_of_getElem? (i := 10) rfl)
theorem in_83 : Cond.fieldLink RX2 41 "KeptHeap$Keeper" "moved" "I" ∈ wsL := sub_3 _ (List.mem_of_getElem? (i := 11) rfl)
theorem in_84 : Cond.methodLink RX2 21 yX8_length ∈ wsL := sub_3 _ (List.mem_of_getElem? (i := 12) rfl)
theorem in_85 : Cond.instanceMethod yX8_length ∈ wsL := sub_3 _ (List.mem_of_getElem? (i := 13) rfl)
theorem in_86 : Cond.selects RX8 yX8_length yX8_length ∈ wsL := sub_3 _ (List.mem_of_getElem? (i := 14) rfl)
theorem in_87 : Cond.code yX8_length cX8_length 1 (some .int) ∈ wsL := sub_3 _ (List.mem_of_getElem? (i := 15) rfl)
theorem in_88 : Cond.methodLink RX2 27 yX7_init ∈ wsL := sub_3 _ (List.mem_of_getElem? (i := 16) rfl)
theorem in_89 : Cond.instanceMethod yX7_init ∈ wsL := sub_3 _ (List.mem_of_getElem? (i := 17) rfl)
theorem in_90 : Cond.code yX7_init cX7_init 2 none ∈ wsL := sub_3 _ (List.mem_of_getElem? (i := 18) rfl)
theorem in_91 : Cond.methodLink RX7 3 objectInit ∈ wsL := sub_3 _ (List.mem_of_getElem? (i := 19) rfl)
theorem in_92 : Cond.methodLink RX7 9 Lib.Math.max.name ∈ wsL := sub_3 _ (List.mem_of_getElem? (i := 20) rfl)
theorem in_93 : Cond.classLink RX7 15 RX6 ∈ wsL := sub_3 _ (List.mem_of_getElem? (i := 21) rfl)
theorem in_94 : Cond.fieldLink RX7 17 "KeptHeap$Walk" "met" "[LKeptHeap$Thing;" ∈ wsL := sub_3 _ (List.mem_of_getElem? (i := 22) rfl)
theorem in_95 : Cond.fieldLink RX7 23 "KeptHeap$Walk" "size" "I" ∈ wsL := sub_3 _ (List.mem_of_getElem? (i := 23) rfl)
theorem sub_4 : ∀ w ∈ wsL_law_r5, w ∈ wsL := fun _ h => (List.mem_append_left _ (List.mem_append_left _ (List.mem_append_left _ (List.mem_append_left _ (List.mem_append_left _ (List.mem_append_left _ (List.mem_append_left _ (List.mem_append_left _ (List.mem_append_left _ (List.mem_append_left _ (List.mem_append_left _ (List.mem_append_right _ (List.mem_append_right _ (List.mem_append_right _ (List.mem_append_right _ (List.mem_append_left _ h))))))))))))))))
theorem in_96 : Cond.fieldLink RX7 27 "KeptHeap$Walk" "current" "I" ∈ wsL := sub_4 _ (List.mem_of_getElem? (i := 0) rfl)
theorem in_97 : Cond.fieldLink RX7 30 "KeptHeap$Walk" "end" "I" ∈ wsL := sub_4 _ (List.mem_of_getElem? (i := 1) rfl)
theorem in_98 : Cond.methodLink RX1 7 yX8_length ∈ wsL := sub_4 _ (List.mem_of_getElem? (i := 2) rfl)
theorem in_99 : Cond.methodLink RX1 21 yX3_init ∈ wsL := sub_4 _ (List.mem_of_getElem? (i := 3) rfl)
theorem in_100 : Cond.instanceMethod yX3_init ∈ wsL := sub_4 _ (List.mem_of_getElem? (i := 4) rfl)
theorem in_101 : Cond.code yX3_init cX3_init 3 none ∈ wsL := sub_4 _ (List.mem_of_getElem? (i := 5) rfl)
theorem in_102 : Cond.methodLink RX3 3 objectInit ∈ wsL := sub_4 _ (List.mem_of_getElem? (i := 6) rfl)
theorem in_103 : Cond.fieldLink RX3 9 "KeptHeap$Part" "next" "I" ∈ wsL := sub_4 _ (List.mem_of_getElem? (i := 7) rfl)
theorem in_104 : Cond.fieldLink RX3 15 "KeptHeap$Part" "end" "I" ∈ wsL := sub_4 _ (List.mem_of_getElem? (i := 8) rfl)
theorem in_105 : Cond.methodLink RX9 168 yX0_init ∈ wsL := sub_4 _ (List.mem_of_getElem? (i := 9) rfl)
theorem in_106 : Cond.instanceMethod yX0_init ∈ wsL := sub_4 _ (List.mem_of_getElem? (i := 10) rfl)
theorem in_107 : Cond.code yX0_init cX0_init 3 none ∈ wsL := sub_4 _ (List.mem_of_getElem? (i := 11) rfl)
theorem in_108 : Cond.fieldLink RX0 15 "KeptHeap$Ager" "oldStart" "I" ∈ wsL := sub_4 _ (List.mem_of_getElem? (i := 12) rfl)
theorem in_109 : Cond.classLink RX0 21 RX3 ∈ wsL := sub_4 _ (List.mem_of_getElem? (i := 13) rfl)
theorem in_110 : Cond.fieldLink RX0 26 "KeptHeap$Ager" "young" "LKeptHeap$Part;" ∈ wsL := sub_4 _ (List.mem_of_getElem? (i := 14) rfl)
theorem in_111 : Cond.methodLink RX0 3 yX2_init ∈ wsL := sub_4 _ (List.mem_of_getElem? (i := 15) rfl)
theorem in_112 : Cond.methodLink RX0 9 yX8_length ∈ wsL := sub_4 _ (List.mem_of_getElem? (i := 16) rfl)
theorem in_113 : Cond.methodLink RX0 23 yX3_init ∈ wsL := sub_4 _ (List.mem_of_getElem? (i := 17) rfl)
theorem in_114 : Cond.methodLink RX9 171 yX5_init ∈ wsL := sub_4 _ (List.mem_of_getElem? (i := 18) rfl)
theorem in_115 : Cond.instanceMethod yX5_init ∈ wsL := sub_4 _ (List.mem_of_getElem? (i := 19) rfl)
theorem in_116 : Cond.code yX5_init cX5_init 3 none ∈ wsL := sub_4 _ (List.mem_of_getElem? (i := 20) rfl)
theorem in_117 : Cond.methodLink RX5 1 yX2_init ∈ wsL := sub_4 _ (List.mem_of_getElem? (i := 21) rfl)
theorem in_118 : Cond.methodLink RL 20 yX10_init ∈ wsL := sub_4 _ (List.mem_of_getElem? (i := 22) rfl)
theorem in_119 : Cond.instanceMethod yX10_init ∈ wsL := sub_4 _ (List.mem_of_getElem? (i := 23) rfl)
theorem sub_5 : ∀ w ∈ wsL_law_r6, w ∈ wsL := fun _ h => (List.mem_append_left _ (List.mem_append_left _ (List.mem_append_left _ (List.mem_append_left _ (List.mem_append_left _ (List.mem_append_left _ (List.mem_append_left _ (List.mem_append_left _ (List.mem_append_left _ (List.mem_append_left _ (List.mem_append_left _ (List.mem_append_right _ (List.mem_append_right _ (List.mem_append_right _ (List.mem_append_right _ (List.mem_append_right _ (List.mem_append_left _ h)))))))))))))))))
theorem in_120 : Cond.code yX10_init cX10_init 5 none ∈ wsL := sub_5 _ (List.mem_of_getElem? (i := 0) rfl)
theorem in_121 : Cond.methodLink RX10 1 objectInit ∈ wsL := sub_5 _ (List.mem_of_getElem? (i := 1) rfl)
theorem in_122 : Cond.arrayClass .int ∈ wsL := sub_5 _ (List.mem_of_getElem? (i := 2) rfl)
theorem in_123 : Cond.fieldLink RX10 7 "KeptHeapModel" "address" "[I" ∈ wsL := sub_5 _ (List.mem_of_getElem? (i := 3) rfl)
theorem in_124 : Cond.fieldLink RX10 13 "KeptHeapModel" "fields" "[I" ∈ wsL := sub_5 _ (List.mem_of_getElem? (i := 4) rfl)
theorem in_125 : Cond.arrayClass .boolean ∈ wsL := sub_5 _ (List.mem_of_getElem? (i := 5) rfl)
theorem in_126 : Cond.fieldLink RX10 16 "KeptHeapModel" "remembered" "[Z" ∈ wsL := sub_5 _ (List.mem_of_getElem? (i := 6) rfl)
theorem in_127 : Cond.fieldLink RX10 20 "KeptHeapModel" "number" "[I" ∈ wsL := sub_5 _ (List.mem_of_getElem? (i := 7) rfl)
theorem in_128 : Cond.fieldLink RX10 23 "KeptHeapModel" "refers" "[I" ∈ wsL := sub_5 _ (List.mem_of_getElem? (i := 8) rfl)
theorem in_129 : Cond.fieldLink RX10 26 "KeptHeapModel" "root" "[I" ∈ wsL := sub_5 _ (List.mem_of_getElem? (i := 9) rfl)
theorem in_130 : Cond.fieldLink RX10 29 "KeptHeapModel" "owner" "[I" ∈ wsL := sub_5 _ (List.mem_of_getElem? (i := 10) rfl)
theorem in_131 : Cond.fieldLink RX10 32 "KeptHeapModel" "row" "[I" ∈ wsL := sub_5 _ (List.mem_of_getElem? (i := 11) rfl)
theorem in_132 : Cond.fieldLink RX10 35 "KeptHeapModel" "place" "[I" ∈ wsL := sub_5 _ (List.mem_of_getElem? (i := 12) rfl)
theorem in_133 : Cond.fieldLink RX10 38 "KeptHeapModel" "oldAddress" "[I" ∈ wsL := sub_5 _ (List.mem_of_getElem? (i := 13) rfl)
theorem in_134 : Cond.fieldLink RX10 41 "KeptHeapModel" "keeper" "I" ∈ wsL := sub_5 _ (List.mem_of_getElem? (i := 14) rfl)
theorem in_135 : Cond.fieldLink RX10 45 "KeptHeapModel" "words" "I" ∈ wsL := sub_5 _ (List.mem_of_getElem? (i := 15) rfl)
theorem in_136 : Cond.methodLink RL 21 yX9_make ∈ wsL := sub_5 _ (List.mem_of_getElem? (i := 16) rfl)
theorem in_137 : Cond.instanceMethod yX9_make ∈ wsL := sub_5 _ (List.mem_of_getElem? (i := 17) rfl)
theorem in_138 : Cond.selects RX9 yX9_make yX9_make ∈ wsL := sub_5 _ (List.mem_of_getElem? (i := 18) rfl)
theorem in_139 : Cond.code yX9_make cX9_make 5 (some .int) ∈ wsL := sub_5 _ (List.mem_of_getElem? (i := 19) rfl)
theorem in_140 : Cond.classLink RX9 53 RX6 ∈ wsL := sub_5 _ (List.mem_of_getElem? (i := 20) rfl)
theorem in_141 : Cond.instantiable RX6 8 ∈ wsL := sub_5 _ (List.mem_of_getElem? (i := 21) rfl)
theorem in_142 : Cond.initialized RX6 ∈ wsL := sub_5 _ (List.mem_of_getElem? (i := 22) rfl)
theorem in_143 : Cond.fieldLink RX9 66 "KeptHeap$Thing" "name" "I" ∈ wsL := sub_5 _ (List.mem_of_getElem? (i := 23) rfl)
theorem sub_6 : ∀ w ∈ wsL_law_r7, w ∈ wsL := fun _ h => (List.mem_append_left _ (List.mem_append_left _ (List.mem_append_left _ (List.mem_append_left _ (List.mem_append_left _ (List.mem_append_left _ (List.mem_append_left _ (List.mem_append_left _ (List.mem_append_left _ (List.mem_append_left _ (List.mem_append_left _ (List.mem_append_right _ (List.mem_append_right _ (List.mem_append_right _ (List.mem_append_right _ (List.mem_append_right _ (List.mem_append_right _ (List.mem_append_left _ h))))))))))))))))))
theorem in_144 : Cond.methodLink RX9 41 yX4_has ∈ wsL := sub_6 _ (List.mem_of_getElem? (i := 0) rfl)
theorem in_145 : Cond.instanceMethod yX4_has ∈ wsL := sub_6 _ (List.mem_of_getElem? (i := 1) rfl)
theorem in_146 : Cond.selects RX4 yX4_has yX4_has ∈ wsL := sub_6 _ (List.mem_of_getElem? (i := 2) rfl)
theorem in_147 : Cond.code yX4_has cX4_has 2 (some .boolean) ∈ wsL := sub_6 _ (List.mem_of_getElem? (i := 3) rfl)
theorem in_148 : Cond.methodLink RX9 45 ⟨"KeptHeap$Keeper", "take", "(I)I"⟩ ∈ wsL := sub_6 _ (List.mem_of_getElem? (i := 4) rfl)
theorem in_149 : Cond.sameMethod "KeptHeap$Keeper" "KeptHeap$Keeper" "take" "(I)I" ∈ wsL := sub_6 _ (List.mem_of_getElem? (i := 5) rfl)
theorem in_150 : Cond.selects RX0 ⟨"KeptHeap$Keeper", "take", "(I)I"⟩ yX0_take ∈ wsL := sub_6 _ (List.mem_of_getElem? (i := 6) rfl)
theorem in_151 : Cond.instanceMethod yX0_take ∈ wsL := sub_6 _ (List.mem_of_getElem? (i := 7) rfl)
theorem in_152 : Cond.code yX0_take cX0_take 2 (some .int) ∈ wsL := sub_6 _ (List.mem_of_getElem? (i := 8) rfl)
theorem in_153 : Cond.methodLink RX0 30 yX3_take ∈ wsL := sub_6 _ (List.mem_of_getElem? (i := 9) rfl)
theorem in_154 : Cond.instanceMethod yX3_take ∈ wsL := sub_6 _ (List.mem_of_getElem? (i := 10) rfl)
theorem in_155 : Cond.selects RX3 yX3_take yX3_take ∈ wsL := sub_6 _ (List.mem_of_getElem? (i := 11) rfl)
theorem in_156 : Cond.code yX3_take cX3_take 3 (some .int) ∈ wsL := sub_6 _ (List.mem_of_getElem? (i := 12) rfl)
theorem in_157 : Cond.selects RX1 ⟨"KeptHeap$Keeper", "take", "(I)I"⟩ yX1_take ∈ wsL := sub_6 _ (List.mem_of_getElem? (i := 13) rfl)
theorem in_158 : Cond.instanceMethod yX1_take ∈ wsL := sub_6 _ (List.mem_of_getElem? (i := 14) rfl)
theorem in_159 : Cond.code yX1_take cX1_take 2 (some .int) ∈ wsL := sub_6 _ (List.mem_of_getElem? (i := 15) rfl)
theorem in_160 : Cond.methodLink RX1 31 yX3_take ∈ wsL := sub_6 _ (List.mem_of_getElem? (i := 16) rfl)
theorem in_161 : Cond.selects RX5 ⟨"KeptHeap$Keeper", "take", "(I)I"⟩ yX5_take ∈ wsL := sub_6 _ (List.mem_of_getElem? (i := 17) rfl)
theorem in_162 : Cond.instanceMethod yX5_take ∈ wsL := sub_6 _ (List.mem_of_getElem? (i := 18) rfl)
theorem in_163 : Cond.code yX5_take cX5_take 2 (some .int) ∈ wsL := sub_6 _ (List.mem_of_getElem? (i := 19) rfl)
theorem in_164 : Cond.fieldLink RX5 7 "KeptHeap$Sweeper" "words" "LKeptHeap$Words;" ∈ wsL := sub_6 _ (List.mem_of_getElem? (i := 20) rfl)
theorem in_165 : Cond.sameField "KeptHeap$Sweeper" "KeptHeap$Keeper" "words" "LKeptHeap$Words;" ∈ wsL := sub_6 _ (List.mem_of_getElem? (i := 21) rfl)
theorem in_166 : Cond.methodLink RX5 13 yX8_gapFrom ∈ wsL := sub_6 _ (List.mem_of_getElem? (i := 22) rfl)
theorem in_167 : Cond.instanceMethod yX8_gapFrom ∈ wsL := sub_6 _ (List.mem_of_getElem? (i := 23) rfl)
theorem sub_7 : ∀ w ∈ wsL_law_r8, w ∈ wsL := fun _ h => (List.mem_append_left _ (List.mem_append_left _ (List.mem_append_left _ (List.mem_append_left _ (List.mem_append_left _ (List.mem_append_left _ (List.mem_append_left _ (List.mem_append_left _ (List.mem_append_left _ (List.mem_append_left _ (List.mem_append_left _ (List.mem_append_right _ (List.mem_append_right _ (List.mem_append_right _ (List.mem_append_right _ (List.mem_append_right _ (List.mem_append_right _ (List.mem_append_right _ (List.mem_append_left _ h)))))))))))))))))))
theorem in_168 : Cond.selects RX8 yX8_gapFrom yX8_gapFrom ∈ wsL := sub_7 _ (List.mem_of_getElem? (i := 0) rfl)
theorem in_169 : Cond.code yX8_gapFrom cX8_gapFrom 5 (some .int) ∈ wsL := sub_7 _ (List.mem_of_getElem? (i := 1) rfl)
theorem in_170 : Cond.methodLink RX9 50 ⟨"KeptHeap$Keeper", "clearRoomFor", "(I)V"⟩ ∈ wsL := sub_7 _ (List.mem_of_getElem? (i := 2) rfl)
theorem in_171 : Cond.sameMethod "KeptHeap$Keeper" "KeptHeap$Keeper" "clearRoomFor" "(I)V" ∈ wsL := sub_7 _ (List.mem_of_getElem? (i := 3) rfl)
theorem in_172 : Cond.selects RX0 ⟨"KeptHeap$Keeper", "clearRoomFor", "(I)V"⟩ yX0_clearRoomFor ∈ wsL := sub_7 _ (List.mem_of_getElem? (i := 4) rfl)
theorem in_173 : Cond.instanceMethod yX0_clearRoomFor ∈ wsL := sub_7 _ (List.mem_of_getElem? (i := 5) rfl)
theorem in_174 : Cond.code yX0_clearRoomFor cX0_clearRoomFor 2 none ∈ wsL := sub_7 _ (List.mem_of_getElem? (i := 6) rfl)
theorem in_175 : Cond.methodLink RX0 34 yX0_gatherYoung ∈ wsL := sub_7 _ (List.mem_of_getElem? (i := 7) rfl)
theorem in_176 : Cond.instanceMethod yX0_gatherYoung ∈ wsL := sub_7 _ (List.mem_of_getElem? (i := 8) rfl)
theorem in_177 : Cond.selects RX0 yX0_gatherYoung yX0_gatherYoung ∈ wsL := sub_7 _ (List.mem_of_getElem? (i := 9) rfl)
theorem in_178 : Cond.code yX0_gatherYoung cX0_gatherYoung 3 (some .int) ∈ wsL := sub_7 _ (List.mem_of_getElem? (i := 10) rfl)
theorem in_179 : Cond.fieldLink RX0 55 "KeptHeap$Ager" "walk" "LKeptHeap$Walk;" ∈ wsL := sub_7 _ (List.mem_of_getElem? (i := 11) rfl)
theorem in_180 : Cond.sameField "KeptHeap$Ager" "KeptHeap$Keeper" "walk" "LKeptHeap$Walk;" ∈ wsL := sub_7 _ (List.mem_of_getElem? (i := 12) rfl)
theorem in_181 : Cond.fieldLink RX0 65 "KeptHeap$Ager" "roots" "LKeptHeap$Roots;" ∈ wsL := sub_7 _ (List.mem_of_getElem? (i := 13) rfl)
theorem in_182 : Cond.sameField "KeptHeap$Ager" "KeptHeap$Keeper" "roots" "LKeptHeap$Roots;" ∈ wsL := sub_7 _ (List.mem_of_getElem? (i := 14) rfl)
theorem in_183 : Cond.fieldLink RX0 88 "KeptHeap$Ager" "words" "LKeptHeap$Words;" ∈ wsL := sub_7 _ (List.mem_of_getElem? (i := 15) rfl)
theorem in_184 : Cond.sameField "KeptHeap$Ager" "KeptHeap$Keeper" "words" "LKeptHeap$Words;" ∈ wsL := sub_7 _ (List.mem_of_getElem? (i := 16) rfl)
theorem in_185 : Cond.fieldLink RX0 108 "KeptHeap$Ager" "gatheredYoung" "I" ∈ wsL := sub_7 _ (List.mem_of_getElem? (i := 17) rfl)
theorem in_186 : Cond.sameField "KeptHeap$Ager" "KeptHeap$Keeper" "gatheredYoung" "I" ∈ wsL := sub_7 _ (List.mem_of_getElem? (i := 18) rfl)
theorem in_187 : Cond.methodLink RX0 59 yX7_begin ∈ wsL := sub_7 _ (List.mem_of_getElem? (i := 19) rfl)
theorem in_188 : Cond.instanceMethod yX7_begin ∈ wsL := sub_7 _ (List.mem_of_getElem? (i := 20) rfl)
theorem in_189 : Cond.selects RX7 yX7_begin yX7_begin ∈ wsL := sub_7 _ (List.mem_of_getElem? (i := 21) rfl)
theorem in_190 : Cond.code yX7_begin cX7_begin 2 none ∈ wsL := sub_7 _ (List.mem_of_getElem? (i := 22) rfl)
theorem in_191 : Cond.methodLink RX0 69 yX7_meetRoots ∈ wsL := sub_7 _ (List.mem_of_getElem? (i := 23) rfl)
theorem sub_8 : ∀ w ∈ wsL_law_r9, w ∈ wsL := fun _ h => (List.mem_append_left _ (List.mem_append_left _ (List.mem_append_left _ (List.mem_append_left _ (List.mem_append_left _ (List.mem_append_left _ (List.mem_append_left _ (List.mem_append_left _ (List.mem_append_left _ (List.mem_append_left _ (List.mem_append_left _ (List.mem_append_right _ (List.mem_append_right _ (List.mem_append_right _ (List.mem_append_right _ (List.mem_append_right _ (List.mem_append_right _ (List.mem_append_right _ (List.mem_append_right _ (List.mem_append_left _ h))))))))))))))))))))
theorem in_192 : Cond.instanceMethod yX7_meetRoots ∈ wsL := sub_8 _ (List.mem_of_getElem? (i := 0) rfl)
theorem in_193 : Cond.selects RX7 yX7_meetRoots yX7_meetRoots ∈ wsL := sub_8 _ (List.mem_of_getElem? (i := 1) rfl)
theorem in_194 : Cond.code yX7_meetRoots cX7_meetRoots 3 none ∈ wsL := sub_8 _ (List.mem_of_getElem? (i := 2) rfl)
theorem in_195 : Cond.methodLink RX7 54 yX4_thingOf ∈ wsL := sub_8 _ (List.mem_of_getElem? (i := 3) rfl)
theorem in_196 : Cond.instanceMethod yX4_thingOf ∈ wsL := sub_8 _ (List.mem_of_getElem? (i := 4) rfl)
theorem in_197 : Cond.selects RX4 yX4_thingOf yX4_thingOf ∈ wsL := sub_8 _ (List.mem_of_getElem? (i := 5) rfl)
theorem in_198 : Cond.code yX4_thingOf cX4_thingOf 2 (some (.object "KeptHeap$Thing")) ∈ wsL := sub_8 _ (List.mem_of_getElem? (i := 6) rfl)
theorem in_199 : Cond.methodLink RX4 17 yX4_has ∈ wsL := sub_8 _ (List.mem_of_getElem? (i := 7) rfl)
theorem in_200 : Cond.methodLink RX7 50 yX7_meet ∈ wsL := sub_8 _ (List.mem_of_getElem? (i := 8) rfl)
theorem in_201 : Cond.instanceMethod yX7_meet ∈ wsL := sub_8 _ (List.mem_of_getElem? (i := 9) rfl)
theorem in_202 : Cond.selects RX7 yX7_meet yX7_meet ∈ wsL := sub_8 _ (List.mem_of_getElem? (i := 10) rfl)
theorem in_203 : Cond.code yX7_meet cX7_meet 2 none ∈ wsL := sub_8 _ (List.mem_of_getElem? (i := 11) rfl)
theorem in_204 : Cond.fieldLink RX7 33 "KeptHeap$Thing" "address" "I" ∈ wsL := sub_8 _ (List.mem_of_getElem? (i := 12) rfl)
theorem in_205 : Cond.fieldLink RX7 36 "KeptHeap$Thing" "walk" "I" ∈ wsL := sub_8 _ (List.mem_of_getElem? (i := 13) rfl)
theorem in_206 : Cond.fieldLink RX7 39 "KeptHeap$Thing" "order" "I" ∈ wsL := sub_8 _ (List.mem_of_getElem? (i := 14) rfl)
theorem in_207 : Cond.methodLink RX0 73 yX0_meetByRemembered ∈ wsL := sub_8 _ (List.mem_of_getElem? (i := 15) rfl)
theorem in_208 : Cond.instanceMethod yX0_meetByRemembered ∈ wsL := sub_8 _ (List.mem_of_getElem? (i := 16) rfl)
theorem in_209 : Cond.selects RX0 yX0_meetByRemembered yX0_meetByRemembered ∈ wsL := sub_8 _ (List.mem_of_getElem? (i := 17) rfl)
theorem in_210 : Cond.code yX0_meetByRemembered cX0_meetByRemembered 3 none ∈ wsL := sub_8 _ (List.mem_of_getElem? (i := 18) rfl)
theorem in_211 : Cond.fieldLink RX0 115 "KeptHeap$Thing" "remembered" "Z" ∈ wsL := sub_8 _ (List.mem_of_getElem? (i := 19) rfl)
theorem in_212 : Cond.methodLink RX0 111 yX8_beginningAt ∈ wsL := sub_8 _ (List.mem_of_getElem? (i := 20) rfl)
theorem in_213 : Cond.instanceMethod yX8_beginningAt ∈ wsL := sub_8 _ (List.mem_of_getElem? (i := 21) rfl)
theorem in_214 : Cond.selects RX8 yX8_beginningAt yX8_beginningAt ∈ wsL := sub_8 _ (List.mem_of_getElem? (i := 22) rfl)
theorem in_215 : Cond.code yX8_beginningAt cX8_beginningAt 3 (some (.object "KeptHeap$Thing")) ∈ wsL := sub_8 _ (List.mem_of_getElem? (i := 23) rfl)
theorem sub_9 : ∀ w ∈ wsL_law_r10, w ∈ wsL := fun _ h => (List.mem_append_left _ (List.mem_append_left _ (List.mem_append_left _ (List.mem_append_left _ (List.mem_append_left _ (List.mem_append_left _ (List.mem_append_left _ (List.mem_append_left _ (List.mem_append_left _ (List.mem_append_left _ (List.mem_append_left _ (List.mem_append_right _ (List.mem_append_right _ (List.mem_append_right _ (List.mem_append_right _ (List.mem_append_right _ (List.mem_append_right _ (List.mem_append_right _ (List.mem_append_right _ (List.mem_append_right _ (List.mem_append_left _ h)))))))))))))))))))))
theorem in_216 : Cond.fieldLink RX8 27 "KeptHeap$Thing" "address" "I" ∈ wsL := sub_9 _ (List.mem_of_getElem? (i := 0) rfl)
theorem in_217 : Cond.methodLink RX8 23 yX8_lyingAt ∈ wsL := sub_9 _ (List.mem_of_getElem? (i := 1) rfl)
theorem in_218 : Cond.instanceMethod yX8_lyingAt ∈ wsL := sub_9 _ (List.mem_of_getElem? (i := 2) rfl)
theorem in_219 : Cond.selects RX8 yX8_lyingAt yX8_lyingAt ∈ wsL := sub_9 _ (List.mem_of_getElem? (i := 3) rfl)
theorem in_220 : Cond.code yX8_lyingAt cX8_lyingAt 2 (some (.object "KeptHeap$Thing")) ∈ wsL := sub_9 _ (List.mem_of_getElem? (i := 4) rfl)
theorem in_221 : Cond.methodLink RX0 119 yX7_meetTargetsOf ∈ wsL := sub_9 _ (List.mem_of_getElem? (i := 5) rfl)
theorem in_222 : Cond.instanceMethod yX7_meetTargetsOf ∈ wsL := sub_9 _ (List.mem_of_getElem? (i := 6) rfl)
theorem in_223 : Cond.selects RX7 yX7_meetTargetsOf yX7_meetTargetsOf ∈ wsL := sub_9 _ (List.mem_of_getElem? (i := 7) rfl)
theorem in_224 : Cond.code yX7_meetTargetsOf cX7_meetTargetsOf 3 none ∈ wsL := sub_9 _ (List.mem_of_getElem? (i := 8) rfl)
theorem in_225 : Cond.methodLink RX7 42 yX6_fields ∈ wsL := sub_9 _ (List.mem_of_getElem? (i := 9) rfl)
theorem in_226 : Cond.instanceMethod yX6_fields ∈ wsL := sub_9 _ (List.mem_of_getElem? (i := 10) rfl)
theorem in_227 : Cond.selects RX6 yX6_fields yX6_fields ∈ wsL := sub_9 _ (List.mem_of_getElem? (i := 11) rfl)
theorem in_228 : Cond.code yX6_fields cX6_fields 1 (some .int) ∈ wsL := sub_9 _ (List.mem_of_getElem? (i := 12) rfl)
theorem in_229 : Cond.fieldLink RX6 19 "KeptHeap$Thing" "numbers" "[I" ∈ wsL := sub_9 _ (List.mem_of_getElem? (i := 13) rfl)
theorem in_230 : Cond.methodLink RX7 46 yX6_targetOf ∈ wsL := sub_9 _ (List.mem_of_getElem? (i := 14) rfl)
theorem in_231 : Cond.instanceMethod yX6_targetOf ∈ wsL := sub_9 _ (List.mem_of_getElem? (i := 15) rfl)
theorem in_232 : Cond.selects RX6 yX6_targetOf yX6_targetOf ∈ wsL := sub_9 _ (List.mem_of_getElem? (i := 16) rfl)
theorem in_233 : Cond.code yX6_targetOf cX6_targetOf 2 (some (.object "KeptHeap$Thing")) ∈ wsL := sub_9 _ (List.mem_of_getElem? (i := 17) rfl)
theorem in_234 : Cond.fieldLink RX6 23 "KeptHeap$Thing" "targets" "[LKeptHeap$Thing;" ∈ wsL := sub_9 _ (List.mem_of_getElem? (i := 18) rfl)
theorem in_235 : Cond.methodLink RX0 76 yX7_follow ∈ wsL := sub_9 _ (List.mem_of_getElem? (i := 19) rfl)
theorem in_236 : Cond.instanceMethod yX7_follow ∈ wsL := sub_9 _ (List.mem_of_getElem? (i := 20) rfl)
theorem in_237 : Cond.selects RX7 yX7_follow yX7_follow ∈ wsL := sub_9 _ (List.mem_of_getElem? (i := 21) rfl)
theorem in_238 : Cond.code yX7_follow cX7_follow 2 none ∈ wsL := sub_9 _ (List.mem_of_getElem? (i := 22) rfl)
theorem in_239 : Cond.methodLink RX7 59 yX7_meetTargetsOf ∈ wsL := sub_9 _ (List.mem_of_getElem? (i := 23) rfl)
theorem sub_10 : ∀ w ∈ wsL_law_r11, w ∈ wsL := fun _ h => (List.mem_append_left _ (List.mem_append_left _ (List.mem_append_left _ (List.mem_append_left _ (List.mem_append_left _ (List.mem_append_left _ (List.mem_append_left _ (List.mem_append_left _ (List.mem_append_left _ (List.mem_append_left _ (List.mem_append_left _ (List.mem_append_right _ (List.mem_append_right _ (List.mem_append_right _ (List.mem_append_right _ (List.mem_append_right _ (List.mem_append_right _ (List.mem_append_right _ (List.mem_append_right _ (List.mem_append_right _ (List.mem_append_right _ (List.mem_append_left _ h))))))))))))))))))))))
theorem in_240 : Cond.methodLink RX0 79 yX0_reserve ∈ wsL := sub_10 _ (List.mem_of_getElem? (i := 0) rfl)
theorem in_241 : Cond.instanceMethod yX0_reserve ∈ wsL := sub_10 _ (List.mem_of_getElem? (i := 1) rfl)
theorem in_242 : Cond.selects RX0 yX0_reserve yX0_reserve ∈ wsL := sub_10 _ (List.mem_of_getElem? (i := 2) rfl)
theorem in_243 : Cond.code yX0_reserve cX0_reserve 4 (some .int) ∈ wsL := sub_10 _ (List.mem_of_getElem? (i := 3) rfl)
theorem in_244 : Cond.fieldLink RX0 131 "KeptHeap$Thing" "place" "I" ∈ wsL := sub_10 _ (List.mem_of_getElem? (i := 4) rfl)
theorem in_245 : Cond.methodLink RX0 82 yX7_size ∈ wsL := sub_10 _ (List.mem_of_getElem? (i := 5) rfl)
theorem in_246 : Cond.instanceMethod yX7_size ∈ wsL := sub_10 _ (List.mem_of_getElem? (i := 6) rfl)
theorem in_247 : Cond.selects RX7 yX7_size yX7_size ∈ wsL := sub_10 _ (List.mem_of_getElem? (i := 7) rfl)
theorem in_248 : Cond.code yX7_size cX7_size 1 (some .int) ∈ wsL := sub_10 _ (List.mem_of_getElem? (i := 8) rfl)
theorem in_249 : Cond.methodLink RX0 123 yX7_thingOf ∈ wsL := sub_10 _ (List.mem_of_getElem? (i := 9) rfl)
theorem in_250 : Cond.instanceMethod yX7_thingOf ∈ wsL := sub_10 _ (List.mem_of_getElem? (i := 10) rfl)
theorem in_251 : Cond.selects RX7 yX7_thingOf yX7_thingOf ∈ wsL := sub_10 _ (List.mem_of_getElem? (i := 11) rfl)
theorem in_252 : Cond.code yX7_thingOf cX7_thingOf 2 (some (.object "KeptHeap$Thing")) ∈ wsL := sub_10 _ (List.mem_of_getElem? (i := 12) rfl)
theorem in_253 : Cond.methodLink RX0 126 yX6_size ∈ wsL := sub_10 _ (List.mem_of_getElem? (i := 13) rfl)
theorem in_254 : Cond.instanceMethod yX6_size ∈ wsL := sub_10 _ (List.mem_of_getElem? (i := 14) rfl)
theorem in_255 : Cond.selects RX6 yX6_size yX6_size ∈ wsL := sub_10 _ (List.mem_of_getElem? (i := 15) rfl)
theorem in_256 : Cond.code yX6_size cX6_size 1 (some .int) ∈ wsL := sub_10 _ (List.mem_of_getElem? (i := 16) rfl)
theorem in_257 : Cond.methodLink RX0 127 yX8_gapFrom ∈ wsL := sub_10 _ (List.mem_of_getElem? (i := 17) rfl)
theorem in_258 : Cond.methodLink RX0 95 yX8_fill ∈ wsL := sub_10 _ (List.mem_of_getElem? (i := 18) rfl)
theorem in_259 : Cond.instanceMethod yX8_fill ∈ wsL := sub_10 _ (List.mem_of_getElem? (i := 19) rfl)
theorem in_260 : Cond.selects RX8 yX8_fill yX8_fill ∈ wsL := sub_10 _ (List.mem_of_getElem? (i := 20) rfl)
theorem in_261 : Cond.code yX8_fill cX8_fill 7 none ∈ wsL := sub_10 _ (List.mem_of_getElem? (i := 21) rfl)
theorem in_262 : Cond.methodLink RX8 39 Lib.Math.min.name ∈ wsL := sub_10 _ (List.mem_of_getElem? (i := 22) rfl)
theorem in_263 : Cond.methodLink RX0 85 yX0_giveBack ∈ wsL := sub_10 _ (List.mem_of_getElem? (i := 23) rfl)
theorem sub_11 : ∀ w ∈ wsL_law_r12, w ∈ wsL := fun _ h => (List.mem_append_left _ (List.mem_append_left _ (List.mem_append_left _ (List.mem_append_left _ (List.mem_append_left _ (List.mem_append_left _ (List.mem_append_left _ (List.mem_append_left _ (List.mem_append_left _ (List.mem_append_left _ (List.mem_append_left _ (List.mem_append_right _ (List.mem_append_right _ (List.mem_append_right _ (List.mem_append_right _ (List.mem_append_right _ (List.mem_append_right _ (List.mem_append_right _ (List.mem_append_right _ (List.mem_append_right _ (List.mem_append_right _ (List.mem_append_right _ (List.mem_append_left _ h)))))))))))))))))))))))
theorem in_264 : Cond.instanceMethod yX0_giveBack ∈ wsL := sub_11 _ (List.mem_of_getElem? (i := 0) rfl)
theorem in_265 : Cond.selects RX0 yX0_giveBack yX0_giveBack ∈ wsL := sub_11 _ (List.mem_of_getElem? (i := 1) rfl)
theorem in_266 : Cond.code yX0_giveBack cX0_giveBack 4 none ∈ wsL := sub_11 _ (List.mem_of_getElem? (i := 2) rfl)
theorem in_267 : Cond.methodLink RX0 92 yX8_thingsBelow ∈ wsL := sub_11 _ (List.mem_of_getElem? (i := 3) rfl)
theorem in_268 : Cond.instanceMethod yX8_thingsBelow ∈ wsL := sub_11 _ (List.mem_of_getElem? (i := 4) rfl)
theorem in_269 : Cond.selects RX8 yX8_thingsBelow yX8_thingsBelow ∈ wsL := sub_11 _ (List.mem_of_getElem? (i := 5) rfl)
theorem in_270 : Cond.code yX8_thingsBelow cX8_thingsBelow 4 (some .int) ∈ wsL := sub_11 _ (List.mem_of_getElem? (i := 6) rfl)
theorem in_271 : Cond.methodLink RX8 42 yX8_beginningAt ∈ wsL := sub_11 _ (List.mem_of_getElem? (i := 7) rfl)
theorem in_272 : Cond.methodLink RX0 99 yX0_goOver ∈ wsL := sub_11 _ (List.mem_of_getElem? (i := 8) rfl)
theorem in_273 : Cond.instanceMethod yX0_goOver ∈ wsL := sub_11 _ (List.mem_of_getElem? (i := 9) rfl)
theorem in_274 : Cond.selects RX0 yX0_goOver yX0_goOver ∈ wsL := sub_11 _ (List.mem_of_getElem? (i := 10) rfl)
theorem in_275 : Cond.code yX0_goOver cX0_goOver 3 none ∈ wsL := sub_11 _ (List.mem_of_getElem? (i := 11) rfl)
theorem in_276 : Cond.fieldLink RX0 40 "KeptHeap$Thing" "address" "I" ∈ wsL := sub_11 _ (List.mem_of_getElem? (i := 12) rfl)
theorem in_277 : Cond.fieldLink RX0 134 "KeptHeap$Ager" "moved" "I" ∈ wsL := sub_11 _ (List.mem_of_getElem? (i := 13) rfl)
theorem in_278 : Cond.sameField "KeptHeap$Ager" "KeptHeap$Keeper" "moved" "I" ∈ wsL := sub_11 _ (List.mem_of_getElem? (i := 14) rfl)
theorem in_279 : Cond.methodLink RX0 102 yX0_forget ∈ wsL := sub_11 _ (List.mem_of_getElem? (i := 15) rfl)
theorem in_280 : Cond.instanceMethod yX0_forget ∈ wsL := sub_11 _ (List.mem_of_getElem? (i := 16) rfl)
theorem in_281 : Cond.selects RX0 yX0_forget yX0_forget ∈ wsL := sub_11 _ (List.mem_of_getElem? (i := 17) rfl)
theorem in_282 : Cond.code yX0_forget cX0_forget 3 none ∈ wsL := sub_11 _ (List.mem_of_getElem? (i := 18) rfl)
theorem in_283 : Cond.methodLink RX0 105 yX3_restart ∈ wsL := sub_11 _ (List.mem_of_getElem? (i := 19) rfl)
theorem in_284 : Cond.instanceMethod yX3_restart ∈ wsL := sub_11 _ (List.mem_of_getElem? (i := 20) rfl)
theorem in_285 : Cond.selects RX3 yX3_restart yX3_restart ∈ wsL := sub_11 _ (List.mem_of_getElem? (i := 21) rfl)
theorem in_286 : Cond.code yX3_restart cX3_restart 3 none ∈ wsL := sub_11 _ (List.mem_of_getElem? (i := 22) rfl)
theorem in_287 : Cond.methodLink RX0 37 yX0_gather ∈ wsL := sub_11 _ (List.mem_of_getElem? (i := 23) rfl)
theorem sub_12 : ∀ w ∈ wsL_law_r13, w ∈ wsL := fun _ h => (List.mem_append_left _ (List.mem_append_left _ (List.mem_append_left _ (List.mem_append_left _ (List.mem_append_left _ (List.mem_append_left _ (List.mem_append_left _ (List.mem_append_left _ (List.mem_append_left _ (List.mem_append_left _ (List.mem_append_left _ (List.mem_append_right _ (List.mem_append_right _ (List.mem_append_right _ (List.mem_append_right _ (List.mem_append_right _ (List.mem_append_right _ (List.mem_append_right _ (List.mem_append_right _ (List.mem_append_right _ (List.mem_append_right _ (List.mem_append_right _ (List.mem_append_right _ (List.mem_append_left _ h))))))))))))))))))))))))
theorem in_288 : Cond.instanceMethod yX0_gather ∈ wsL := sub_12 _ (List.mem_of_getElem? (i := 0) rfl)
theorem in_289 : Cond.selects RX0 yX0_gather yX0_gather ∈ wsL := sub_12 _ (List.mem_of_getElem? (i := 1) rfl)
theorem in_290 : Cond.code yX0_gather cX0_gather 3 (some .int) ∈ wsL := sub_12 _ (List.mem_of_getElem? (i := 2) rfl)
theorem in_291 : Cond.fieldLink RX0 45 "KeptHeap$Ager" "gathered" "I" ∈ wsL := sub_12 _ (List.mem_of_getElem? (i := 3) rfl)
theorem in_292 : Cond.sameField "KeptHeap$Ager" "KeptHeap$Keeper" "gathered" "I" ∈ wsL := sub_12 _ (List.mem_of_getElem? (i := 4) rfl)
theorem in_293 : Cond.methodLink RX0 48 ⟨"KeptHeap$Ager", "walkFromRoots", "()V"⟩ ∈ wsL := sub_12 _ (List.mem_of_getElem? (i := 5) rfl)
theorem in_294 : Cond.sameMethod "KeptHeap$Ager" "KeptHeap$Keeper" "walkFromRoots" "()V" ∈ wsL := sub_12 _ (List.mem_of_getElem? (i := 6) rfl)
theorem in_295 : Cond.selects RX0 ⟨"KeptHeap$Ager", "walkFromRoots", "()V"⟩ yX2_walkFromRoots ∈ wsL := sub_12 _ (List.mem_of_getElem? (i := 7) rfl)
theorem in_296 : Cond.instanceMethod yX2_walkFromRoots ∈ wsL := sub_12 _ (List.mem_of_getElem? (i := 8) rfl)
theorem in_297 : Cond.code yX2_walkFromRoots cX2_walkFromRoots 1 none ∈ wsL := sub_12 _ (List.mem_of_getElem? (i := 9) rfl)
theorem in_298 : Cond.methodLink RX2 50 yX7_begin ∈ wsL := sub_12 _ (List.mem_of_getElem? (i := 10) rfl)
theorem in_299 : Cond.methodLink RX2 53 yX7_meetRoots ∈ wsL := sub_12 _ (List.mem_of_getElem? (i := 11) rfl)
theorem in_300 : Cond.methodLink RX2 57 yX7_follow ∈ wsL := sub_12 _ (List.mem_of_getElem? (i := 12) rfl)
theorem in_301 : Cond.methodLink RX0 52 ⟨"KeptHeap$Ager", "sweepFrom", "(I)I"⟩ ∈ wsL := sub_12 _ (List.mem_of_getElem? (i := 13) rfl)
theorem in_302 : Cond.sameMethod "KeptHeap$Ager" "KeptHeap$Keeper" "sweepFrom" "(I)I" ∈ wsL := sub_12 _ (List.mem_of_getElem? (i := 14) rfl)
theorem in_303 : Cond.selects RX0 ⟨"KeptHeap$Ager", "sweepFrom", "(I)I"⟩ yX2_sweepFrom ∈ wsL := sub_12 _ (List.mem_of_getElem? (i := 15) rfl)
theorem in_304 : Cond.instanceMethod yX2_sweepFrom ∈ wsL := sub_12 _ (List.mem_of_getElem? (i := 16) rfl)
theorem in_305 : Cond.code yX2_sweepFrom cX2_sweepFrom 5 (some .int) ∈ wsL := sub_12 _ (List.mem_of_getElem? (i := 17) rfl)
theorem in_306 : Cond.methodLink RX2 60 yX8_beginningAt ∈ wsL := sub_12 _ (List.mem_of_getElem? (i := 18) rfl)
theorem in_307 : Cond.methodLink RX2 64 yX7_hasMet ∈ wsL := sub_12 _ (List.mem_of_getElem? (i := 19) rfl)
theorem in_308 : Cond.instanceMethod yX7_hasMet ∈ wsL := sub_12 _ (List.mem_of_getElem? (i := 20) rfl)
theorem in_309 : Cond.selects RX7 yX7_hasMet yX7_hasMet ∈ wsL := sub_12 _ (List.mem_of_getElem? (i := 21) rfl)
theorem in_310 : Cond.code yX7_hasMet cX7_hasMet 2 (some .boolean) ∈ wsL := sub_12 _ (List.mem_of_getElem? (i := 22) rfl)
theorem in_311 : Cond.methodLink RX2 68 yX6_size ∈ wsL := sub_12 _ (List.mem_of_getElem? (i := 23) rfl)
theorem sub_13 : ∀ w ∈ wsL_law_r14, w ∈ wsL := fun _ h => (List.mem_append_left _ (List.mem_append_left _ (List.mem_append_left _ (List.mem_append_left _ (List.mem_append_left _ (List.mem_append_left _ (List.mem_append_left _ (List.mem_append_left _ (List.mem_append_left _ (List.mem_append_left _ (List.mem_append_left _ (List.mem_append_right _ (List.mem_append_right _ (List.mem_append_right _ (List.mem_append_right _ (List.mem_append_right _ (List.mem_append_right _ (List.mem_append_right _ (List.mem_append_right _ (List.mem_append_right _ (List.mem_append_right _ (List.mem_append_right _ (List.mem_append_right _ (List.mem_append_right _ (List.mem_append_left _ h)))))))))))))))))))))))))
theorem in_312 : Cond.methodLink RX2 71 yX8_fill ∈ wsL := sub_13 _ (List.mem_of_getElem? (i := 0) rfl)
theorem in_313 : Cond.selects RX1 ⟨"KeptHeap$Keeper", "clearRoomFor", "(I)V"⟩ yX1_clearRoomFor ∈ wsL := sub_13 _ (List.mem_of_getElem? (i := 1) rfl)
theorem in_314 : Cond.instanceMethod yX1_clearRoomFor ∈ wsL := sub_13 _ (List.mem_of_getElem? (i := 2) rfl)
theorem in_315 : Cond.code yX1_clearRoomFor cX1_clearRoomFor 2 none ∈ wsL := sub_13 _ (List.mem_of_getElem? (i := 3) rfl)
theorem in_316 : Cond.methodLink RX1 35 yX1_gather ∈ wsL := sub_13 _ (List.mem_of_getElem? (i := 4) rfl)
theorem in_317 : Cond.instanceMethod yX1_gather ∈ wsL := sub_13 _ (List.mem_of_getElem? (i := 5) rfl)
theorem in_318 : Cond.selects RX1 yX1_gather yX1_gather ∈ wsL := sub_13 _ (List.mem_of_getElem? (i := 6) rfl)
theorem in_319 : Cond.code yX1_gather cX1_gather 4 (some .int) ∈ wsL := sub_13 _ (List.mem_of_getElem? (i := 7) rfl)
theorem in_320 : Cond.fieldLink RX1 38 "KeptHeap$Copier" "gathered" "I" ∈ wsL := sub_13 _ (List.mem_of_getElem? (i := 8) rfl)
theorem in_321 : Cond.sameField "KeptHeap$Copier" "KeptHeap$Keeper" "gathered" "I" ∈ wsL := sub_13 _ (List.mem_of_getElem? (i := 9) rfl)
theorem in_322 : Cond.fieldLink RX1 41 "KeptHeap$Copier" "words" "LKeptHeap$Words;" ∈ wsL := sub_13 _ (List.mem_of_getElem? (i := 10) rfl)
theorem in_323 : Cond.sameField "KeptHeap$Copier" "KeptHeap$Keeper" "words" "LKeptHeap$Words;" ∈ wsL := sub_13 _ (List.mem_of_getElem? (i := 11) rfl)
theorem in_324 : Cond.fieldLink RX1 59 "KeptHeap$Copier" "walk" "LKeptHeap$Walk;" ∈ wsL := sub_13 _ (List.mem_of_getElem? (i := 12) rfl)
theorem in_325 : Cond.sameField "KeptHeap$Copier" "KeptHeap$Keeper" "walk" "LKeptHeap$Walk;" ∈ wsL := sub_13 _ (List.mem_of_getElem? (i := 13) rfl)
theorem in_326 : Cond.fieldLink RX1 79 "KeptHeap$Copier" "moved" "I" ∈ wsL := sub_13 _ (List.mem_of_getElem? (i := 14) rfl)
theorem in_327 : Cond.sameField "KeptHeap$Copier" "KeptHeap$Keeper" "moved" "I" ∈ wsL := sub_13 _ (List.mem_of_getElem? (i := 15) rfl)
theorem in_328 : Cond.methodLink RX1 45 yX8_thingsBelow ∈ wsL := sub_13 _ (List.mem_of_getElem? (i := 16) rfl)
theorem in_329 : Cond.methodLink RX1 48 ⟨"KeptHeap$Copier", "walkFromRoots", "()V"⟩ ∈ wsL := sub_13 _ (List.mem_of_getElem? (i := 17) rfl)
theorem in_330 : Cond.sameMethod "KeptHeap$Copier" "KeptHeap$Keeper" "walkFromRoots" "()V" ∈ wsL := sub_13 _ (List.mem_of_getElem? (i := 18) rfl)
theorem in_331 : Cond.selects RX1 ⟨"KeptHeap$Copier", "walkFromRoots", "()V"⟩ yX2_walkFromRoots ∈ wsL := sub_13 _ (List.mem_of_getElem? (i := 19) rfl)
theorem in_332 : Cond.methodLink RX1 52 yX8_fill ∈ wsL := sub_13 _ (List.mem_of_getElem? (i := 20) rfl)
theorem in_333 : Cond.methodLink RX1 56 yX3_restart ∈ wsL := sub_13 _ (List.mem_of_getElem? (i := 21) rfl)
theorem in_334 : Cond.methodLink RX1 63 yX7_size ∈ wsL := sub_13 _ (List.mem_of_getElem? (i := 22) rfl)
theorem in_335 : Cond.methodLink RX1 68 yX7_thingOf ∈ wsL := sub_13 _ (List.mem_of_getElem? (i := 23) rfl)
theorem sub_14 : ∀ w ∈ wsL_law_r15, w ∈ wsL := fun _ h => (List.mem_append_left _ (List.mem_append_left _ (List.mem_append_left _ (List.mem_append_left _ (List.mem_append_left _ (List.mem_append_left _ (List.mem_append_left _ (List.mem_append_left _ (List.mem_append_left _ (List.mem_append_left _ (List.mem_append_left _ (List.mem_append_right _ (List.mem_append_right _ (List.mem_append_right _ (List.mem_append_right _ (List.mem_append_right _ (List.mem_append_right _ (List.mem_append_right _ (List.mem_append_right _ (List.mem_append_right _ (List.mem_append_right _ (List.mem_append_right _ (List.mem_append_right _ (List.mem_append_right _ (List.mem_append_right _ (List.mem_append_left _ h))))))))))))))))))))))))))
theorem in_336 : Cond.methodLink RX1 72 yX6_size ∈ wsL := sub_14 _ (List.mem_of_getElem? (i := 0) rfl)
theorem in_337 : Cond.methodLink RX1 75 yX8_put ∈ wsL := sub_14 _ (List.mem_of_getElem? (i := 1) rfl)
theorem in_338 : Cond.instanceMethod yX8_put ∈ wsL := sub_14 _ (List.mem_of_getElem? (i := 2) rfl)
theorem in_339 : Cond.selects RX8 yX8_put yX8_put ∈ wsL := sub_14 _ (List.mem_of_getElem? (i := 3) rfl)
theorem in_340 : Cond.code yX8_put cX8_put 3 none ∈ wsL := sub_14 _ (List.mem_of_getElem? (i := 4) rfl)
theorem in_341 : Cond.methodLink RX8 31 yX6_size ∈ wsL := sub_14 _ (List.mem_of_getElem? (i := 5) rfl)
theorem in_342 : Cond.methodLink RX8 35 yX8_fill ∈ wsL := sub_14 _ (List.mem_of_getElem? (i := 6) rfl)
theorem in_343 : Cond.selects RX5 ⟨"KeptHeap$Keeper", "clearRoomFor", "(I)V"⟩ yX5_clearRoomFor ∈ wsL := sub_14 _ (List.mem_of_getElem? (i := 7) rfl)
theorem in_344 : Cond.instanceMethod yX5_clearRoomFor ∈ wsL := sub_14 _ (List.mem_of_getElem? (i := 8) rfl)
theorem in_345 : Cond.code yX5_clearRoomFor cX5_clearRoomFor 2 none ∈ wsL := sub_14 _ (List.mem_of_getElem? (i := 9) rfl)
theorem in_346 : Cond.methodLink RX5 19 yX5_gather ∈ wsL := sub_14 _ (List.mem_of_getElem? (i := 10) rfl)
theorem in_347 : Cond.instanceMethod yX5_gather ∈ wsL := sub_14 _ (List.mem_of_getElem? (i := 11) rfl)
theorem in_348 : Cond.selects RX5 yX5_gather yX5_gather ∈ wsL := sub_14 _ (List.mem_of_getElem? (i := 12) rfl)
theorem in_349 : Cond.code yX5_gather cX5_gather 1 (some .int) ∈ wsL := sub_14 _ (List.mem_of_getElem? (i := 13) rfl)
theorem in_350 : Cond.fieldLink RX5 23 "KeptHeap$Sweeper" "gathered" "I" ∈ wsL := sub_14 _ (List.mem_of_getElem? (i := 14) rfl)
theorem in_351 : Cond.sameField "KeptHeap$Sweeper" "KeptHeap$Keeper" "gathered" "I" ∈ wsL := sub_14 _ (List.mem_of_getElem? (i := 15) rfl)
theorem in_352 : Cond.methodLink RX5 27 ⟨"KeptHeap$Sweeper", "walkFromRoots", "()V"⟩ ∈ wsL := sub_14 _ (List.mem_of_getElem? (i := 16) rfl)
theorem in_353 : Cond.sameMethod "KeptHeap$Sweeper" "KeptHeap$Keeper" "walkFromRoots" "()V" ∈ wsL := sub_14 _ (List.mem_of_getElem? (i := 17) rfl)
theorem in_354 : Cond.selects RX5 ⟨"KeptHeap$Sweeper", "walkFromRoots", "()V"⟩ yX2_walkFromRoots ∈ wsL := sub_14 _ (List.mem_of_getElem? (i := 18) rfl)
theorem in_355 : Cond.methodLink RX5 31 ⟨"KeptHeap$Sweeper", "sweepFrom", "(I)I"⟩ ∈ wsL := sub_14 _ (List.mem_of_getElem? (i := 19) rfl)
theorem in_356 : Cond.sameMethod "KeptHeap$Sweeper" "KeptHeap$Keeper" "sweepFrom" "(I)I" ∈ wsL := sub_14 _ (List.mem_of_getElem? (i := 20) rfl)
theorem in_357 : Cond.selects RX5 ⟨"KeptHeap$Sweeper", "sweepFrom", "(I)I"⟩ yX2_sweepFrom ∈ wsL := sub_14 _ (List.mem_of_getElem? (i := 21) rfl)
theorem in_358 : Cond.methodLink RX9 55 yX6_init ∈ wsL := sub_14 _ (List.mem_of_getElem? (i := 22) rfl)
theorem in_359 : Cond.instanceMethod yX6_init ∈ wsL := sub_14 _ (List.mem_of_getElem? (i := 23) rfl)
theorem sub_15 : ∀ w ∈ wsL_law_r16, w ∈ wsL := fun _ h => (List.mem_append_left _ (List.mem_append_left _ (List.mem_append_left _ (List.mem_append_left _ (List.mem_append_left _ (List.mem_append_left _ (List.mem_append_left _ (List.mem_append_left _ (List.mem_append_left _ (List.mem_append_left _ (List.mem_append_left _ (List.mem_append_right _ (List.mem_append_right _ (List.mem_append_right _ (List.mem_append_right _ (List.mem_append_right _ (List.mem_append_right _ (List.mem_append_right _ (List.mem_append_right _ (List.mem_append_right _ (List.mem_append_right _ (List.mem_append_right _ (List.mem_append_right _ (List.mem_append_right _ (List.mem_append_right _ (List.mem_append_right _ (List.mem_append_left _ h)))))))))))))))))))))))))))
theorem in_360 : Cond.code yX6_init cX6_init 4 none ∈ wsL := sub_15 _ (List.mem_of_getElem? (i := 0) rfl)
theorem in_361 : Cond.methodLink RX6 1 objectInit ∈ wsL := sub_15 _ (List.mem_of_getElem? (i := 1) rfl)
theorem in_362 : Cond.methodLink RX6 7 Lib.Math.max.name ∈ wsL := sub_15 _ (List.mem_of_getElem? (i := 2) rfl)
theorem in_363 : Cond.fieldLink RX6 13 "KeptHeap$Thing" "name" "I" ∈ wsL := sub_15 _ (List.mem_of_getElem? (i := 3) rfl)
theorem in_364 : Cond.classLink RX6 14 RX6 ∈ wsL := sub_15 _ (List.mem_of_getElem? (i := 4) rfl)
theorem in_365 : Cond.fieldLink RX6 27 "KeptHeap$Thing" "address" "I" ∈ wsL := sub_15 _ (List.mem_of_getElem? (i := 5) rfl)
theorem in_366 : Cond.fieldLink RX6 30 "KeptHeap$Thing" "remembered" "Z" ∈ wsL := sub_15 _ (List.mem_of_getElem? (i := 6) rfl)
theorem in_367 : Cond.fieldLink RX6 34 "KeptHeap$Thing" "place" "I" ∈ wsL := sub_15 _ (List.mem_of_getElem? (i := 7) rfl)
theorem in_368 : Cond.fieldLink RX6 37 "KeptHeap$Thing" "walk" "I" ∈ wsL := sub_15 _ (List.mem_of_getElem? (i := 8) rfl)
theorem in_369 : Cond.fieldLink RX6 40 "KeptHeap$Thing" "order" "I" ∈ wsL := sub_15 _ (List.mem_of_getElem? (i := 9) rfl)
theorem in_370 : Cond.methodLink RX9 58 yX8_put ∈ wsL := sub_15 _ (List.mem_of_getElem? (i := 10) rfl)
theorem in_371 : Cond.methodLink RX9 62 yX4_refer ∈ wsL := sub_15 _ (List.mem_of_getElem? (i := 11) rfl)
theorem in_372 : Cond.instanceMethod yX4_refer ∈ wsL := sub_15 _ (List.mem_of_getElem? (i := 12) rfl)
theorem in_373 : Cond.selects RX4 yX4_refer yX4_refer ∈ wsL := sub_15 _ (List.mem_of_getElem? (i := 13) rfl)
theorem in_374 : Cond.code yX4_refer cX4_refer 3 none ∈ wsL := sub_15 _ (List.mem_of_getElem? (i := 14) rfl)
theorem in_375 : Cond.methodLink RL 25 yX10_make ∈ wsL := sub_15 _ (List.mem_of_getElem? (i := 15) rfl)
theorem in_376 : Cond.instanceMethod yX10_make ∈ wsL := sub_15 _ (List.mem_of_getElem? (i := 16) rfl)
theorem in_377 : Cond.selects RX10 yX10_make yX10_make ∈ wsL := sub_15 _ (List.mem_of_getElem? (i := 17) rfl)
theorem in_378 : Cond.code yX10_make cX10_make 7 (some .int) ∈ wsL := sub_15 _ (List.mem_of_getElem? (i := 18) rfl)
theorem in_379 : Cond.fieldLink RX10 48 "KeptHeapModel" "thrown" "I" ∈ wsL := sub_15 _ (List.mem_of_getElem? (i := 19) rfl)
theorem in_380 : Cond.fieldLink RX10 62 "KeptHeapModel" "made" "I" ∈ wsL := sub_15 _ (List.mem_of_getElem? (i := 20) rfl)
theorem in_381 : Cond.fieldLink RX10 91 "KeptHeapModel" "top" "I" ∈ wsL := sub_15 _ (List.mem_of_getElem? (i := 21) rfl)
theorem in_382 : Cond.methodLink RX10 124 yX10_isRoot ∈ wsL := sub_15 _ (List.mem_of_getElem? (i := 22) rfl)
theorem in_383 : Cond.static yX10_isRoot ∈ wsL := sub_15 _ (List.mem_of_getElem? (i := 23) rfl)
theorem sub_16 : ∀ w ∈ wsL_law_r17, w ∈ wsL := fun _ h => (List.mem_append_left _ (List.mem_append_left _ (List.mem_append_left _ (List.mem_append_left _ (List.mem_append_left _ (List.mem_append_left _ (List.mem_append_left _ (List.mem_append_left _ (List.mem_append_left _ (List.mem_append_left _ (List.mem_append_left _ (List.mem_append_right _ (List.mem_append_right _ (List.mem_append_right _ (List.mem_append_right _ (List.mem_append_right _ (List.mem_append_right _ (List.mem_append_right _ (List.mem_append_right _ (List.mem_append_right _ (List.mem_append_right _ (List.mem_append_right _ (List.mem_append_right _ (List.mem_append_right _ (List.mem_append_right _ (List.mem_append_right _ (List.mem_append_right _ (List.mem_append_left _ h))))))))))))))))))))))))))))
theorem in_384 : Cond.code yX10_isRoot cX10_isRoot 1 (some .boolean) ∈ wsL := sub_16 _ (List.mem_of_getElem? (i := 0) rfl)
theorem in_385 : Cond.methodLink RX10 51 yX10_in ∈ wsL := sub_16 _ (List.mem_of_getElem? (i := 1) rfl)
theorem in_386 : Cond.static yX10_in ∈ wsL := sub_16 _ (List.mem_of_getElem? (i := 2) rfl)
theorem in_387 : Cond.code yX10_in cX10_in 3 (some .boolean) ∈ wsL := sub_16 _ (List.mem_of_getElem? (i := 3) rfl)
theorem in_388 : Cond.methodLink RX10 127 yX10_room ∈ wsL := sub_16 _ (List.mem_of_getElem? (i := 4) rfl)
theorem in_389 : Cond.instanceMethod yX10_room ∈ wsL := sub_16 _ (List.mem_of_getElem? (i := 5) rfl)
theorem in_390 : Cond.selects RX10 yX10_room yX10_room ∈ wsL := sub_16 _ (List.mem_of_getElem? (i := 6) rfl)
theorem in_391 : Cond.code yX10_room cX10_room 3 (some .int) ∈ wsL := sub_16 _ (List.mem_of_getElem? (i := 7) rfl)
theorem in_392 : Cond.fieldLink RX10 88 "KeptHeapModel" "half" "I" ∈ wsL := sub_16 _ (List.mem_of_getElem? (i := 8) rfl)
theorem in_393 : Cond.methodLink RX10 101 yX10_fit ∈ wsL := sub_16 _ (List.mem_of_getElem? (i := 9) rfl)
theorem in_394 : Cond.instanceMethod yX10_fit ∈ wsL := sub_16 _ (List.mem_of_getElem? (i := 10) rfl)
theorem in_395 : Cond.selects RX10 yX10_fit yX10_fit ∈ wsL := sub_16 _ (List.mem_of_getElem? (i := 11) rfl)
theorem in_396 : Cond.code yX10_fit cX10_fit 5 (some .int) ∈ wsL := sub_16 _ (List.mem_of_getElem? (i := 12) rfl)
theorem in_397 : Cond.methodLink RX10 131 yX10_collectNow ∈ wsL := sub_16 _ (List.mem_of_getElem? (i := 13) rfl)
theorem in_398 : Cond.instanceMethod yX10_collectNow ∈ wsL := sub_16 _ (List.mem_of_getElem? (i := 14) rfl)
theorem in_399 : Cond.selects RX10 yX10_collectNow yX10_collectNow ∈ wsL := sub_16 _ (List.mem_of_getElem? (i := 15) rfl)
theorem in_400 : Cond.code yX10_collectNow cX10_collectNow 3 (some .int) ∈ wsL := sub_16 _ (List.mem_of_getElem? (i := 16) rfl)
theorem in_401 : Cond.fieldLink RX10 114 "KeptHeapModel" "collected" "I" ∈ wsL := sub_16 _ (List.mem_of_getElem? (i := 17) rfl)
theorem in_402 : Cond.methodLink RX10 117 yX10_copyAll ∈ wsL := sub_16 _ (List.mem_of_getElem? (i := 18) rfl)
theorem in_403 : Cond.instanceMethod yX10_copyAll ∈ wsL := sub_16 _ (List.mem_of_getElem? (i := 19) rfl)
theorem in_404 : Cond.selects RX10 yX10_copyAll yX10_copyAll ∈ wsL := sub_16 _ (List.mem_of_getElem? (i := 20) rfl)
theorem in_405 : Cond.code yX10_copyAll cX10_copyAll 3 (some .int) ∈ wsL := sub_16 _ (List.mem_of_getElem? (i := 21) rfl)
theorem in_406 : Cond.fieldLink RX10 59 "KeptHeapModel" "size" "I" ∈ wsL := sub_16 _ (List.mem_of_getElem? (i := 22) rfl)
theorem in_407 : Cond.fieldLink RX10 98 "KeptHeapModel" "moved" "I" ∈ wsL := sub_16 _ (List.mem_of_getElem? (i := 23) rfl)
theorem sub_17 : ∀ w ∈ wsL_law_r18, w ∈ wsL := fun _ h => (List.mem_append_left _ (List.mem_append_left _ (List.mem_append_left _ (List.mem_append_left _ (List.mem_append_left _ (List.mem_append_left _ (List.mem_append_left _ (List.mem_append_left _ (List.mem_append_left _ (List.mem_append_left _ (List.mem_append_left _ (List.mem_append_right _ (List.mem_append_right _ (List.mem_append_right _ (List.mem_append_right _ (List.mem_append_right _ (List.mem_append_right _ (List.mem_append_right _ (List.mem_append_right _ (List.mem_append_right _ (List.mem_append_right _ (List.mem_append_right _ (List.mem_append_right _ (List.mem_append_right _ (List.mem_append_right _ (List.mem_append_right _ (List.mem_append_right _ (List.mem_append_right _ (List.mem_append_left _ h)))))))))))))))))))))))))))))
theorem in_408 : Cond.methodLink RX10 81 yX10_reach ∈ wsL := sub_17 _ (List.mem_of_getElem? (i := 0) rfl)
theorem in_409 : Cond.instanceMethod yX10_reach ∈ wsL := sub_17 _ (List.mem_of_getElem? (i := 1) rfl)
theorem in_410 : Cond.selects RX10 yX10_reach yX10_reach ∈ wsL := sub_17 _ (List.mem_of_getElem? (i := 2) rfl)
theorem in_411 : Cond.code yX10_reach cX10_reach 2 none ∈ wsL := sub_17 _ (List.mem_of_getElem? (i := 3) rfl)
theorem in_412 : Cond.methodLink RX10 68 yX10_begin ∈ wsL := sub_17 _ (List.mem_of_getElem? (i := 4) rfl)
theorem in_413 : Cond.instanceMethod yX10_begin ∈ wsL := sub_17 _ (List.mem_of_getElem? (i := 5) rfl)
theorem in_414 : Cond.selects RX10 yX10_begin yX10_begin ∈ wsL := sub_17 _ (List.mem_of_getElem? (i := 6) rfl)
theorem in_415 : Cond.code yX10_begin cX10_begin 2 none ∈ wsL := sub_17 _ (List.mem_of_getElem? (i := 7) rfl)
theorem in_416 : Cond.methodLink RX10 65 yX10_meet ∈ wsL := sub_17 _ (List.mem_of_getElem? (i := 8) rfl)
theorem in_417 : Cond.instanceMethod yX10_meet ∈ wsL := sub_17 _ (List.mem_of_getElem? (i := 9) rfl)
theorem in_418 : Cond.selects RX10 yX10_meet yX10_meet ∈ wsL := sub_17 _ (List.mem_of_getElem? (i := 10) rfl)
theorem in_419 : Cond.code yX10_meet cX10_meet 2 none ∈ wsL := sub_17 _ (List.mem_of_getElem? (i := 11) rfl)
theorem in_420 : Cond.methodLink RX10 71 yX10_follow ∈ wsL := sub_17 _ (List.mem_of_getElem? (i := 12) rfl)
theorem in_421 : Cond.instanceMethod yX10_follow ∈ wsL := sub_17 _ (List.mem_of_getElem? (i := 13) rfl)
theorem in_422 : Cond.selects RX10 yX10_follow yX10_follow ∈ wsL := sub_17 _ (List.mem_of_getElem? (i := 14) rfl)
theorem in_423 : Cond.code yX10_follow cX10_follow 3 none ∈ wsL := sub_17 _ (List.mem_of_getElem? (i := 15) rfl)
theorem in_424 : Cond.methodLink RX10 84 yX10_sweep ∈ wsL := sub_17 _ (List.mem_of_getElem? (i := 16) rfl)
theorem in_425 : Cond.instanceMethod yX10_sweep ∈ wsL := sub_17 _ (List.mem_of_getElem? (i := 17) rfl)
theorem in_426 : Cond.selects RX10 yX10_sweep yX10_sweep ∈ wsL := sub_17 _ (List.mem_of_getElem? (i := 18) rfl)
theorem in_427 : Cond.code yX10_sweep cX10_sweep 4 (some .int) ∈ wsL := sub_17 _ (List.mem_of_getElem? (i := 19) rfl)
theorem in_428 : Cond.methodLink RX10 74 yX10_isOld ∈ wsL := sub_17 _ (List.mem_of_getElem? (i := 20) rfl)
theorem in_429 : Cond.instanceMethod yX10_isOld ∈ wsL := sub_17 _ (List.mem_of_getElem? (i := 21) rfl)
theorem in_430 : Cond.selects RX10 yX10_isOld yX10_isOld ∈ wsL := sub_17 _ (List.mem_of_getElem? (i := 22) rfl)
theorem in_431 : Cond.code yX10_isOld cX10_isOld 2 (some .boolean) ∈ wsL := sub_17 _ (List.mem_of_getElem? (i := 23) rfl)
theorem sub_18 : ∀ w ∈ wsL_law_r19, w ∈ wsL := fun _ h => (List.mem_append_left _ (List.mem_append_left _ (List.mem_append_left _ (List.mem_append_left _ (List.mem_append_left _ (List.mem_append_left _ (List.mem_append_left _ (List.mem_append_left _ (List.mem_append_left _ (List.mem_append_left _ (List.mem_append_left _ (List.mem_append_right _ (List.mem_append_right _ (List.mem_append_right _ (List.mem_append_right _ (List.mem_append_right _ (List.mem_append_right _ (List.mem_append_right _ (List.mem_append_right _ (List.mem_append_right _ (List.mem_append_right _ (List.mem_append_right _ (List.mem_append_right _ (List.mem_append_right _ (List.mem_append_right _ (List.mem_append_right _ (List.mem_append_right _ (List.mem_append_right _ (List.mem_append_right _ (List.mem_append_left _ h))))))))))))))))))))))))))))))
theorem in_432 : Cond.methodLink RX10 78 yX10_go ∈ wsL := sub_18 _ (List.mem_of_getElem? (i := 0) rfl)
theorem in_433 : Cond.instanceMethod yX10_go ∈ wsL := sub_18 _ (List.mem_of_getElem? (i := 1) rfl)
theorem in_434 : Cond.selects RX10 yX10_go yX10_go ∈ wsL := sub_18 _ (List.mem_of_getElem? (i := 2) rfl)
theorem in_435 : Cond.code yX10_go cX10_go 2 none ∈ wsL := sub_18 _ (List.mem_of_getElem? (i := 3) rfl)
theorem in_436 : Cond.methodLink RX10 55 yX10_leave ∈ wsL := sub_18 _ (List.mem_of_getElem? (i := 4) rfl)
theorem in_437 : Cond.instanceMethod yX10_leave ∈ wsL := sub_18 _ (List.mem_of_getElem? (i := 5) rfl)
theorem in_438 : Cond.selects RX10 yX10_leave yX10_leave ∈ wsL := sub_18 _ (List.mem_of_getElem? (i := 6) rfl)
theorem in_439 : Cond.code yX10_leave cX10_leave 3 none ∈ wsL := sub_18 _ (List.mem_of_getElem? (i := 7) rfl)
theorem in_440 : Cond.methodLink RX10 94 yX10_lie ∈ wsL := sub_18 _ (List.mem_of_getElem? (i := 8) rfl)
theorem in_441 : Cond.instanceMethod yX10_lie ∈ wsL := sub_18 _ (List.mem_of_getElem? (i := 9) rfl)
theorem in_442 : Cond.selects RX10 yX10_lie yX10_lie ∈ wsL := sub_18 _ (List.mem_of_getElem? (i := 10) rfl)
theorem in_443 : Cond.code yX10_lie cX10_lie 4 none ∈ wsL := sub_18 _ (List.mem_of_getElem? (i := 11) rfl)
theorem in_444 : Cond.methodLink RX10 121 yX10_minorNow ∈ wsL := sub_18 _ (List.mem_of_getElem? (i := 12) rfl)
theorem in_445 : Cond.instanceMethod yX10_minorNow ∈ wsL := sub_18 _ (List.mem_of_getElem? (i := 13) rfl)
theorem in_446 : Cond.selects RX10 yX10_minorNow yX10_minorNow ∈ wsL := sub_18 _ (List.mem_of_getElem? (i := 14) rfl)
theorem in_447 : Cond.code yX10_minorNow cX10_minorNow 4 (some .int) ∈ wsL := sub_18 _ (List.mem_of_getElem? (i := 15) rfl)
theorem in_448 : Cond.fieldLink RX10 111 "KeptHeapModel" "minors" "I" ∈ wsL := sub_18 _ (List.mem_of_getElem? (i := 16) rfl)
theorem in_449 : Cond.methodLink RX10 105 yX10_raise ∈ wsL := sub_18 _ (List.mem_of_getElem? (i := 17) rfl)
theorem in_450 : Cond.instanceMethod yX10_raise ∈ wsL := sub_18 _ (List.mem_of_getElem? (i := 18) rfl)
theorem in_451 : Cond.selects RX10 yX10_raise yX10_raise ∈ wsL := sub_18 _ (List.mem_of_getElem? (i := 19) rfl)
theorem in_452 : Cond.code yX10_raise cX10_raise 3 (some .boolean) ∈ wsL := sub_18 _ (List.mem_of_getElem? (i := 20) rfl)
theorem in_453 : Cond.methodLink RX10 108 yX10_raiseFields ∈ wsL := sub_18 _ (List.mem_of_getElem? (i := 21) rfl)
theorem in_454 : Cond.instanceMethod yX10_raiseFields ∈ wsL := sub_18 _ (List.mem_of_getElem? (i := 22) rfl)
theorem in_455 : Cond.selects RX10 yX10_raiseFields yX10_raiseFields ∈ wsL := sub_18 _ (List.mem_of_getElem? (i := 23) rfl)
theorem sub_19 : ∀ w ∈ wsL_law_r20, w ∈ wsL := fun _ h => (List.mem_append_left _ (List.mem_append_left _ (List.mem_append_left _ (List.mem_append_left _ (List.mem_append_left _ (List.mem_append_left _ (List.mem_append_left _ (List.mem_append_left _ (List.mem_append_left _ (List.mem_append_left _ (List.mem_append_left _ (List.mem_append_right _ (List.mem_append_right _ (List.mem_append_right _ (List.mem_append_right _ (List.mem_append_right _ (List.mem_append_right _ (List.mem_append_right _ (List.mem_append_right _ (List.mem_append_right _ (List.mem_append_right _ (List.mem_append_right _ (List.mem_append_right _ (List.mem_append_right _ (List.mem_append_right _ (List.mem_append_right _ (List.mem_append_right _ (List.mem_append_right _ (List.mem_append_right _ (List.mem_append_right _ (List.mem_append_left _ h)))))))))))))))))))))))))))))))
theorem in_456 : Cond.code yX10_raiseFields cX10_raiseFields 4 (some .boolean) ∈ wsL := sub_19 _ (List.mem_of_getElem? (i := 0) rfl)
theorem in_457 : Cond.methodLink RL 26 yX9_set ∈ wsL := sub_19 _ (List.mem_of_getElem? (i := 1) rfl)
theorem in_458 : Cond.instanceMethod yX9_set ∈ wsL := sub_19 _ (List.mem_of_getElem? (i := 2) rfl)
theorem in_459 : Cond.selects RX9 yX9_set yX9_set ∈ wsL := sub_19 _ (List.mem_of_getElem? (i := 3) rfl)
theorem in_460 : Cond.code yX9_set cX9_set 5 (some .int) ∈ wsL := sub_19 _ (List.mem_of_getElem? (i := 4) rfl)
theorem in_461 : Cond.methodLink RX9 69 yX9_holderOf ∈ wsL := sub_19 _ (List.mem_of_getElem? (i := 5) rfl)
theorem in_462 : Cond.instanceMethod yX9_holderOf ∈ wsL := sub_19 _ (List.mem_of_getElem? (i := 6) rfl)
theorem in_463 : Cond.selects RX9 yX9_holderOf yX9_holderOf ∈ wsL := sub_19 _ (List.mem_of_getElem? (i := 7) rfl)
theorem in_464 : Cond.code yX9_holderOf cX9_holderOf 4 (some (.object "KeptHeap$Thing")) ∈ wsL := sub_19 _ (List.mem_of_getElem? (i := 8) rfl)
theorem in_465 : Cond.methodLink RX9 81 yX4_thingOf ∈ wsL := sub_19 _ (List.mem_of_getElem? (i := 9) rfl)
theorem in_466 : Cond.methodLink RX9 172 yX6_has ∈ wsL := sub_19 _ (List.mem_of_getElem? (i := 10) rfl)
theorem in_467 : Cond.instanceMethod yX6_has ∈ wsL := sub_19 _ (List.mem_of_getElem? (i := 11) rfl)
theorem in_468 : Cond.selects RX6 yX6_has yX6_has ∈ wsL := sub_19 _ (List.mem_of_getElem? (i := 12) rfl)
theorem in_469 : Cond.code yX6_has cX6_has 2 (some .boolean) ∈ wsL := sub_19 _ (List.mem_of_getElem? (i := 13) rfl)
theorem in_470 : Cond.methodLink RX9 73 yX9_whyNoHolder ∈ wsL := sub_19 _ (List.mem_of_getElem? (i := 14) rfl)
theorem in_471 : Cond.instanceMethod yX9_whyNoHolder ∈ wsL := sub_19 _ (List.mem_of_getElem? (i := 15) rfl)
theorem in_472 : Cond.selects RX9 yX9_whyNoHolder yX9_whyNoHolder ∈ wsL := sub_19 _ (List.mem_of_getElem? (i := 16) rfl)
theorem in_473 : Cond.code yX9_whyNoHolder cX9_whyNoHolder 3 (some .int) ∈ wsL := sub_19 _ (List.mem_of_getElem? (i := 17) rfl)
theorem in_474 : Cond.methodLink RX9 77 yX6_hold ∈ wsL := sub_19 _ (List.mem_of_getElem? (i := 18) rfl)
theorem in_475 : Cond.instanceMethod yX6_hold ∈ wsL := sub_19 _ (List.mem_of_getElem? (i := 19) rfl)
theorem in_476 : Cond.selects RX6 yX6_hold yX6_hold ∈ wsL := sub_19 _ (List.mem_of_getElem? (i := 20) rfl)
theorem in_477 : Cond.code yX6_hold cX6_hold 4 none ∈ wsL := sub_19 _ (List.mem_of_getElem? (i := 21) rfl)
theorem in_478 : Cond.methodLink RX6 43 yX6_has ∈ wsL := sub_19 _ (List.mem_of_getElem? (i := 22) rfl)
theorem in_479 : Cond.methodLink RL 30 yX10_set ∈ wsL := sub_19 _ (List.mem_of_getElem? (i := 23) rfl)
theorem sub_20 : ∀ w ∈ wsL_law_r21, w ∈ wsL := fun _ h => (List.mem_append_left _ (List.mem_append_left _ (List.mem_append_left _ (List.mem_append_left _ (List.mem_append_left _ (List.mem_append_left _ (List.mem_append_left _ (List.mem_append_left _ (List.mem_append_left _ (List.mem_append_left _ (List.mem_append_left _ (List.mem_append_right _ (List.mem_append_right _ (List.mem_append_right _ (List.mem_append_right _ (List.mem_append_right _ (List.mem_append_right _ (List.mem_append_right _ (List.mem_append_right _ (List.mem_append_right _ (List.mem_append_right _ (List.mem_append_right _ (List.mem_append_right _ (List.mem_append_right _ (List.mem_append_right _ (List.mem_append_right _ (List.mem_append_right _ (List.mem_append_right _ (List.mem_append_right _ (List.mem_append_right _ (List.mem_append_right _ (List.mem_append_left _ h))))))))))))))))))))))))))))))))
theorem in_480 : Cond.instanceMethod yX10_set ∈ wsL := sub_20 _ (List.mem_of_getElem? (i := 0) rfl)
theorem in_481 : Cond.selects RX10 yX10_set yX10_set ∈ wsL := sub_20 _ (List.mem_of_getElem? (i := 1) rfl)
theorem in_482 : Cond.code yX10_set cX10_set 5 (some .int) ∈ wsL := sub_20 _ (List.mem_of_getElem? (i := 2) rfl)
theorem in_483 : Cond.methodLink RX10 134 yX10_wrong ∈ wsL := sub_20 _ (List.mem_of_getElem? (i := 3) rfl)
theorem in_484 : Cond.instanceMethod yX10_wrong ∈ wsL := sub_20 _ (List.mem_of_getElem? (i := 4) rfl)
theorem in_485 : Cond.selects RX10 yX10_wrong yX10_wrong ∈ wsL := sub_20 _ (List.mem_of_getElem? (i := 5) rfl)
theorem in_486 : Cond.code yX10_wrong cX10_wrong 3 (some .int) ∈ wsL := sub_20 _ (List.mem_of_getElem? (i := 6) rfl)
theorem in_487 : Cond.methodLink RL 31 yX9_link ∈ wsL := sub_20 _ (List.mem_of_getElem? (i := 7) rfl)
theorem in_488 : Cond.instanceMethod yX9_link ∈ wsL := sub_20 _ (List.mem_of_getElem? (i := 8) rfl)
theorem in_489 : Cond.selects RX9 yX9_link yX9_link ∈ wsL := sub_20 _ (List.mem_of_getElem? (i := 9) rfl)
theorem in_490 : Cond.code yX9_link cX9_link 6 (some .int) ∈ wsL := sub_20 _ (List.mem_of_getElem? (i := 10) rfl)
theorem in_491 : Cond.fieldLink RX9 89 "KeptHeap$Thing" "remembered" "Z" ∈ wsL := sub_20 _ (List.mem_of_getElem? (i := 11) rfl)
theorem in_492 : Cond.methodLink RX9 85 ⟨"KeptHeap$Keeper", "isOld", "(LKeptHeap$Thing;)Z"⟩ ∈ wsL := sub_20 _ (List.mem_of_getElem? (i := 12) rfl)
theorem in_493 : Cond.sameMethod "KeptHeap$Keeper" "KeptHeap$Keeper" "isOld" "(LKeptHeap$Thing;)Z" ∈ wsL := sub_20 _ (List.mem_of_getElem? (i := 13) rfl)
theorem in_494 : Cond.instanceMethod ⟨"KeptHeap$Keeper", "isOld", "(LKeptHeap$Thing;)Z"⟩ ∈ wsL := sub_20 _ (List.mem_of_getElem? (i := 14) rfl)
theorem in_495 : Cond.selects RX0 ⟨"KeptHeap$Keeper", "isOld", "(LKeptHeap$Thing;)Z"⟩ yX0_isOld ∈ wsL := sub_20 _ (List.mem_of_getElem? (i := 15) rfl)
theorem in_496 : Cond.instanceMethod yX0_isOld ∈ wsL := sub_20 _ (List.mem_of_getElem? (i := 16) rfl)
theorem in_497 : Cond.code yX0_isOld cX0_isOld 2 (some .boolean) ∈ wsL := sub_20 _ (List.mem_of_getElem? (i := 17) rfl)
theorem in_498 : Cond.code yX2_isOld cX2_isOld 2 (some .boolean) ∈ wsL := sub_20 _ (List.mem_of_getElem? (i := 18) rfl)
theorem in_499 : Cond.selects RX1 ⟨"KeptHeap$Keeper", "isOld", "(LKeptHeap$Thing;)Z"⟩ yX2_isOld ∈ wsL := sub_20 _ (List.mem_of_getElem? (i := 19) rfl)
theorem in_500 : Cond.instanceMethod yX2_isOld ∈ wsL := sub_20 _ (List.mem_of_getElem? (i := 20) rfl)
theorem in_501 : Cond.selects RX5 ⟨"KeptHeap$Keeper", "isOld", "(LKeptHeap$Thing;)Z"⟩ yX2_isOld ∈ wsL := sub_20 _ (List.mem_of_getElem? (i := 21) rfl)
theorem in_502 : Cond.methodLink RL 34 yX10_link ∈ wsL := sub_20 _ (List.mem_of_getElem? (i := 22) rfl)
theorem in_503 : Cond.instanceMethod yX10_link ∈ wsL := sub_20 _ (List.mem_of_getElem? (i := 23) rfl)
theorem sub_21 : ∀ w ∈ wsL_law_r22, w ∈ wsL := fun _ h => (List.mem_append_left _ (List.mem_append_left _ (List.mem_append_left _ (List.mem_append_left _ (List.mem_append_left _ (List.mem_append_left _ (List.mem_append_left _ (List.mem_append_left _ (List.mem_append_left _ (List.mem_append_left _ (List.mem_append_left _ (List.mem_append_right _ (List.mem_append_right _ (List.mem_append_right _ (List.mem_append_right _ (List.mem_append_right _ (List.mem_append_right _ (List.mem_append_right _ (List.mem_append_right _ (List.mem_append_right _ (List.mem_append_right _ (List.mem_append_right _ (List.mem_append_right _ (List.mem_append_right _ (List.mem_append_right _ (List.mem_append_right _ (List.mem_append_right _ (List.mem_append_right _ (List.mem_append_right _ (List.mem_append_right _ (List.mem_append_right _ (List.mem_append_right _ (List.mem_append_left _ h)))))))))))))))))))))))))))))))))
theorem in_504 : Cond.selects RX10 yX10_link yX10_link ∈ wsL := sub_21 _ (List.mem_of_getElem? (i := 0) rfl)
theorem in_505 : Cond.code yX10_link cX10_link 6 (some .int) ∈ wsL := sub_21 _ (List.mem_of_getElem? (i := 1) rfl)
theorem in_506 : Cond.methodLink RL 35 yX9_refers ∈ wsL := sub_21 _ (List.mem_of_getElem? (i := 2) rfl)
theorem in_507 : Cond.instanceMethod yX9_refers ∈ wsL := sub_21 _ (List.mem_of_getElem? (i := 3) rfl)
theorem in_508 : Cond.selects RX9 yX9_refers yX9_refers ∈ wsL := sub_21 _ (List.mem_of_getElem? (i := 4) rfl)
theorem in_509 : Cond.code yX9_refers cX9_refers 4 (some .int) ∈ wsL := sub_21 _ (List.mem_of_getElem? (i := 5) rfl)
theorem in_510 : Cond.methodLink RX9 93 yX6_targetOf ∈ wsL := sub_21 _ (List.mem_of_getElem? (i := 6) rfl)
theorem in_511 : Cond.methodLink RX9 96 yX9_asNumber ∈ wsL := sub_21 _ (List.mem_of_getElem? (i := 7) rfl)
theorem in_512 : Cond.static yX9_asNumber ∈ wsL := sub_21 _ (List.mem_of_getElem? (i := 8) rfl)
theorem in_513 : Cond.code yX9_asNumber cX9_asNumber 1 (some .int) ∈ wsL := sub_21 _ (List.mem_of_getElem? (i := 9) rfl)
theorem in_514 : Cond.methodLink RL 38 yX10_refers ∈ wsL := sub_21 _ (List.mem_of_getElem? (i := 10) rfl)
theorem in_515 : Cond.instanceMethod yX10_refers ∈ wsL := sub_21 _ (List.mem_of_getElem? (i := 11) rfl)
theorem in_516 : Cond.selects RX10 yX10_refers yX10_refers ∈ wsL := sub_21 _ (List.mem_of_getElem? (i := 12) rfl)
theorem in_517 : Cond.code yX10_refers cX10_refers 4 (some .int) ∈ wsL := sub_21 _ (List.mem_of_getElem? (i := 13) rfl)
theorem in_518 : Cond.methodLink RL 39 yX9_number ∈ wsL := sub_21 _ (List.mem_of_getElem? (i := 14) rfl)
theorem in_519 : Cond.instanceMethod yX9_number ∈ wsL := sub_21 _ (List.mem_of_getElem? (i := 15) rfl)
theorem in_520 : Cond.selects RX9 yX9_number yX9_number ∈ wsL := sub_21 _ (List.mem_of_getElem? (i := 16) rfl)
theorem in_521 : Cond.code yX9_number cX9_number 4 (some .int) ∈ wsL := sub_21 _ (List.mem_of_getElem? (i := 17) rfl)
theorem in_522 : Cond.methodLink RX9 100 yX6_numberOf ∈ wsL := sub_21 _ (List.mem_of_getElem? (i := 18) rfl)
theorem in_523 : Cond.instanceMethod yX6_numberOf ∈ wsL := sub_21 _ (List.mem_of_getElem? (i := 19) rfl)
theorem in_524 : Cond.selects RX6 yX6_numberOf yX6_numberOf ∈ wsL := sub_21 _ (List.mem_of_getElem? (i := 20) rfl)
theorem in_525 : Cond.code yX6_numberOf cX6_numberOf 2 (some .int) ∈ wsL := sub_21 _ (List.mem_of_getElem? (i := 21) rfl)
theorem in_526 : Cond.methodLink RL 42 yX10_number ∈ wsL := sub_21 _ (List.mem_of_getElem? (i := 22) rfl)
theorem in_527 : Cond.instanceMethod yX10_number ∈ wsL := sub_21 _ (List.mem_of_getElem? (i := 23) rfl)
theorem sub_22 : ∀ w ∈ wsL_law_r23, w ∈ wsL := fun _ h => (List.mem_append_left _ (List.mem_append_left _ (List.mem_append_left _ (List.mem_append_left _ (List.mem_append_left _ (List.mem_append_left _ (List.mem_append_left _ (List.mem_append_left _ (List.mem_append_left _ (List.mem_append_left _ (List.mem_append_left _ (List.mem_append_right _ (List.mem_append_right _ (List.mem_append_right _ (List.mem_append_right _ (List.mem_append_right _ (List.mem_append_right _ (List.mem_append_right _ (List.mem_append_right _ (List.mem_append_right _ (List.mem_append_right _ (List.mem_append_right _ (List.mem_append_right _ (List.mem_append_right _ (List.mem_append_right _ (List.mem_append_right _ (List.mem_append_right _ (List.mem_append_right _ (List.mem_append_right _ (List.mem_append_right _ (List.mem_append_right _ (List.mem_append_right _ (List.mem_append_right _ (List.mem_append_left _ h))))))))))))))))))))))))))))))))))
theorem in_528 : Cond.selects RX10 yX10_number yX10_number ∈ wsL := sub_22 _ (List.mem_of_getElem? (i := 0) rfl)
theorem in_529 : Cond.code yX10_number cX10_number 3 (some .int) ∈ wsL := sub_22 _ (List.mem_of_getElem? (i := 1) rfl)
theorem in_530 : Cond.methodLink RL 43 yX9_load ∈ wsL := sub_22 _ (List.mem_of_getElem? (i := 2) rfl)
theorem in_531 : Cond.instanceMethod yX9_load ∈ wsL := sub_22 _ (List.mem_of_getElem? (i := 3) rfl)
theorem in_532 : Cond.selects RX9 yX9_load yX9_load ∈ wsL := sub_22 _ (List.mem_of_getElem? (i := 4) rfl)
theorem in_533 : Cond.code yX9_load cX9_load 6 (some .int) ∈ wsL := sub_22 _ (List.mem_of_getElem? (i := 5) rfl)
theorem in_534 : Cond.methodLink RL 46 yX10_load ∈ wsL := sub_22 _ (List.mem_of_getElem? (i := 6) rfl)
theorem in_535 : Cond.instanceMethod yX10_load ∈ wsL := sub_22 _ (List.mem_of_getElem? (i := 7) rfl)
theorem in_536 : Cond.selects RX10 yX10_load yX10_load ∈ wsL := sub_22 _ (List.mem_of_getElem? (i := 8) rfl)
theorem in_537 : Cond.code yX10_load cX10_load 6 (some .int) ∈ wsL := sub_22 _ (List.mem_of_getElem? (i := 9) rfl)
theorem in_538 : Cond.methodLink RL 47 yX9_copy ∈ wsL := sub_22 _ (List.mem_of_getElem? (i := 10) rfl)
theorem in_539 : Cond.instanceMethod yX9_copy ∈ wsL := sub_22 _ (List.mem_of_getElem? (i := 11) rfl)
theorem in_540 : Cond.selects RX9 yX9_copy yX9_copy ∈ wsL := sub_22 _ (List.mem_of_getElem? (i := 12) rfl)
theorem in_541 : Cond.code yX9_copy cX9_copy 4 (some .int) ∈ wsL := sub_22 _ (List.mem_of_getElem? (i := 13) rfl)
theorem in_542 : Cond.methodLink RX9 103 yX9_nameOf ∈ wsL := sub_22 _ (List.mem_of_getElem? (i := 14) rfl)
theorem in_543 : Cond.static yX9_nameOf ∈ wsL := sub_22 _ (List.mem_of_getElem? (i := 15) rfl)
theorem in_544 : Cond.code yX9_nameOf cX9_nameOf 1 (some .int) ∈ wsL := sub_22 _ (List.mem_of_getElem? (i := 16) rfl)
theorem in_545 : Cond.methodLink RL 50 yX10_copy ∈ wsL := sub_22 _ (List.mem_of_getElem? (i := 17) rfl)
theorem in_546 : Cond.instanceMethod yX10_copy ∈ wsL := sub_22 _ (List.mem_of_getElem? (i := 18) rfl)
theorem in_547 : Cond.selects RX10 yX10_copy yX10_copy ∈ wsL := sub_22 _ (List.mem_of_getElem? (i := 19) rfl)
theorem in_548 : Cond.code yX10_copy cX10_copy 3 (some .int) ∈ wsL := sub_22 _ (List.mem_of_getElem? (i := 20) rfl)
theorem in_549 : Cond.methodLink RL 51 yX9_drop ∈ wsL := sub_22 _ (List.mem_of_getElem? (i := 21) rfl)
theorem in_550 : Cond.instanceMethod yX9_drop ∈ wsL := sub_22 _ (List.mem_of_getElem? (i := 22) rfl)
theorem in_551 : Cond.selects RX9 yX9_drop yX9_drop ∈ wsL := sub_22 _ (List.mem_of_getElem? (i := 23) rfl)
theorem sub_23 : ∀ w ∈ wsL_law_r24, w ∈ wsL := fun _ h => (List.mem_append_left _ (List.mem_append_left _ (List.mem_append_left _ (List.mem_append_left _ (List.mem_append_left _ (List.mem_append_left _ (List.mem_append_left _ (List.mem_append_left _ (List.mem_append_left _ (List.mem_append_left _ (List.mem_append_left _ (List.mem_append_right _ (List.mem_append_right _ (List.mem_append_right _ (List.mem_append_right _ (List.mem_append_right _ (List.mem_append_right _ (List.mem_append_right _ (List.mem_append_right _ (List.mem_append_right _ (List.mem_append_right _ (List.mem_append_right _ (List.mem_append_right _ (List.mem_append_right _ (List.mem_append_right _ (List.mem_append_right _ (List.mem_append_right _ (List.mem_append_right _ (List.mem_append_right _ (List.mem_append_right _ (List.mem_append_right _ (List.mem_append_right _ (List.mem_append_right _ (List.mem_append_right _ (List.mem_append_left _ h)))))))))))))))))))))))))))))))))))
theorem in_552 : Cond.code yX9_drop cX9_drop 3 (some .int) ∈ wsL := sub_23 _ (List.mem_of_getElem? (i := 0) rfl)
theorem in_553 : Cond.methodLink RL 55 yX10_drop ∈ wsL := sub_23 _ (List.mem_of_getElem? (i := 1) rfl)
theorem in_554 : Cond.instanceMethod yX10_drop ∈ wsL := sub_23 _ (List.mem_of_getElem? (i := 2) rfl)
theorem in_555 : Cond.selects RX10 yX10_drop yX10_drop ∈ wsL := sub_23 _ (List.mem_of_getElem? (i := 3) rfl)
theorem in_556 : Cond.code yX10_drop cX10_drop 3 (some .int) ∈ wsL := sub_23 _ (List.mem_of_getElem? (i := 4) rfl)
theorem in_557 : Cond.methodLink RL 56 yX9_collect ∈ wsL := sub_23 _ (List.mem_of_getElem? (i := 5) rfl)
theorem in_558 : Cond.instanceMethod yX9_collect ∈ wsL := sub_23 _ (List.mem_of_getElem? (i := 6) rfl)
theorem in_559 : Cond.selects RX9 yX9_collect yX9_collect ∈ wsL := sub_23 _ (List.mem_of_getElem? (i := 7) rfl)
theorem in_560 : Cond.code yX9_collect cX9_collect 1 (some .int) ∈ wsL := sub_23 _ (List.mem_of_getElem? (i := 8) rfl)
theorem in_561 : Cond.methodLink RX9 107 ⟨"KeptHeap$Keeper", "gather", "()I"⟩ ∈ wsL := sub_23 _ (List.mem_of_getElem? (i := 9) rfl)
theorem in_562 : Cond.sameMethod "KeptHeap$Keeper" "KeptHeap$Keeper" "gather" "()I" ∈ wsL := sub_23 _ (List.mem_of_getElem? (i := 10) rfl)
theorem in_563 : Cond.selects RX0 ⟨"KeptHeap$Keeper", "gather", "()I"⟩ yX0_gather ∈ wsL := sub_23 _ (List.mem_of_getElem? (i := 11) rfl)
theorem in_564 : Cond.selects RX1 ⟨"KeptHeap$Keeper", "gather", "()I"⟩ yX1_gather ∈ wsL := sub_23 _ (List.mem_of_getElem? (i := 12) rfl)
theorem in_565 : Cond.selects RX5 ⟨"KeptHeap$Keeper", "gather", "()I"⟩ yX5_gather ∈ wsL := sub_23 _ (List.mem_of_getElem? (i := 13) rfl)
theorem in_566 : Cond.methodLink RL 60 yX10_collect ∈ wsL := sub_23 _ (List.mem_of_getElem? (i := 14) rfl)
theorem in_567 : Cond.instanceMethod yX10_collect ∈ wsL := sub_23 _ (List.mem_of_getElem? (i := 15) rfl)
theorem in_568 : Cond.selects RX10 yX10_collect yX10_collect ∈ wsL := sub_23 _ (List.mem_of_getElem? (i := 16) rfl)
theorem in_569 : Cond.code yX10_collect cX10_collect 2 (some .int) ∈ wsL := sub_23 _ (List.mem_of_getElem? (i := 17) rfl)
theorem in_570 : Cond.methodLink RL 61 yX9_minor ∈ wsL := sub_23 _ (List.mem_of_getElem? (i := 18) rfl)
theorem in_571 : Cond.instanceMethod yX9_minor ∈ wsL := sub_23 _ (List.mem_of_getElem? (i := 19) rfl)
theorem in_572 : Cond.selects RX9 yX9_minor yX9_minor ∈ wsL := sub_23 _ (List.mem_of_getElem? (i := 20) rfl)
theorem in_573 : Cond.code yX9_minor cX9_minor 1 (some .int) ∈ wsL := sub_23 _ (List.mem_of_getElem? (i := 21) rfl)
theorem in_574 : Cond.methodLink RX9 111 ⟨"KeptHeap$Keeper", "gatherYoung", "()I"⟩ ∈ wsL := sub_23 _ (List.mem_of_getElem? (i := 22) rfl)
theorem in_575 : Cond.sameMethod "KeptHeap$Keeper" "KeptHeap$Keeper" "gatherYoung" "()I" ∈ wsL := sub_23 _ (List.mem_of_getElem? (i := 23) rfl)
theorem sub_24 : ∀ w ∈ wsL_law_r25, w ∈ wsL := fun _ h => (List.mem_append_left _ (List.mem_append_left _ (List.mem_append_left _ (List.mem_append_left _ (List.mem_append_left _ (List.mem_append_left _ (List.mem_append_left _ (List.mem_append_left _ (List.mem_append_left _ (List.mem_append_left _ (List.mem_append_left _ (List.mem_append_right _ (List.mem_append_right _ (List.mem_append_right _ (List.mem_append_right _ (List.mem_append_right _ (List.mem_append_right _ (List.mem_append_right _ (List.mem_append_right _ (List.mem_append_right _ (List.mem_append_right _ (List.mem_append_right _ (List.mem_append_right _ (List.mem_append_right _ (List.mem_append_right _ (List.mem_append_right _ (List.mem_append_right _ (List.mem_append_right _ (List.mem_append_right _ (List.mem_append_right _ (List.mem_append_right _ (List.mem_append_right _ (List.mem_append_right _ (List.mem_append_right _ (List.mem_append_right _ (List.mem_append_left _ h))))))))))))))))))))))))))))))))))))
theorem in_576 : Cond.instanceMethod ⟨"KeptHeap$Keeper", "gatherYoung", "()I"⟩ ∈ wsL := sub_24 _ (List.mem_of_getElem? (i := 0) rfl)
theorem in_577 : Cond.selects RX0 ⟨"KeptHeap$Keeper", "gatherYoung", "()I"⟩ yX0_gatherYoung ∈ wsL := sub_24 _ (List.mem_of_getElem? (i := 1) rfl)
theorem in_578 : Cond.code yX2_gatherYoung cX2_gatherYoung 1 (some .int) ∈ wsL := sub_24 _ (List.mem_of_getElem? (i := 2) rfl)
theorem in_579 : Cond.selects RX1 ⟨"KeptHeap$Keeper", "gatherYoung", "()I"⟩ yX2_gatherYoung ∈ wsL := sub_24 _ (List.mem_of_getElem? (i := 3) rfl)
theorem in_580 : Cond.instanceMethod yX2_gatherYoung ∈ wsL := sub_24 _ (List.mem_of_getElem? (i := 4) rfl)
theorem in_581 : Cond.selects RX5 ⟨"KeptHeap$Keeper", "gatherYoung", "()I"⟩ yX2_gatherYoung ∈ wsL := sub_24 _ (List.mem_of_getElem? (i := 5) rfl)
theorem in_582 : Cond.methodLink RL 64 yX10_minor ∈ wsL := sub_24 _ (List.mem_of_getElem? (i := 6) rfl)
theorem in_583 : Cond.instanceMethod yX10_minor ∈ wsL := sub_24 _ (List.mem_of_getElem? (i := 7) rfl)
theorem in_584 : Cond.selects RX10 yX10_minor yX10_minor ∈ wsL := sub_24 _ (List.mem_of_getElem? (i := 8) rfl)
theorem in_585 : Cond.code yX10_minor cX10_minor 2 (some .int) ∈ wsL := sub_24 _ (List.mem_of_getElem? (i := 9) rfl)
theorem in_586 : Cond.methodLink RL 65 yX9_object ∈ wsL := sub_24 _ (List.mem_of_getElem? (i := 10) rfl)
theorem in_587 : Cond.instanceMethod yX9_object ∈ wsL := sub_24 _ (List.mem_of_getElem? (i := 11) rfl)
theorem in_588 : Cond.selects RX9 yX9_object yX9_object ∈ wsL := sub_24 _ (List.mem_of_getElem? (i := 12) rfl)
theorem in_589 : Cond.code yX9_object cX9_object 4 (some .int) ∈ wsL := sub_24 _ (List.mem_of_getElem? (i := 13) rfl)
theorem in_590 : Cond.fieldLink RX9 114 "KeptHeap$Thing" "address" "I" ∈ wsL := sub_24 _ (List.mem_of_getElem? (i := 14) rfl)
theorem in_591 : Cond.methodLink RX9 117 yX6_fields ∈ wsL := sub_24 _ (List.mem_of_getElem? (i := 15) rfl)
theorem in_592 : Cond.methodLink RL 68 yX10_object ∈ wsL := sub_24 _ (List.mem_of_getElem? (i := 16) rfl)
theorem in_593 : Cond.instanceMethod yX10_object ∈ wsL := sub_24 _ (List.mem_of_getElem? (i := 17) rfl)
theorem in_594 : Cond.selects RX10 yX10_object yX10_object ∈ wsL := sub_24 _ (List.mem_of_getElem? (i := 18) rfl)
theorem in_595 : Cond.code yX10_object cX10_object 4 (some .int) ∈ wsL := sub_24 _ (List.mem_of_getElem? (i := 19) rfl)
theorem in_596 : Cond.methodLink RL 69 yX9_at ∈ wsL := sub_24 _ (List.mem_of_getElem? (i := 20) rfl)
theorem in_597 : Cond.instanceMethod yX9_at ∈ wsL := sub_24 _ (List.mem_of_getElem? (i := 21) rfl)
theorem in_598 : Cond.selects RX9 yX9_at yX9_at ∈ wsL := sub_24 _ (List.mem_of_getElem? (i := 22) rfl)
theorem in_599 : Cond.code yX9_at cX9_at 2 (some .int) ∈ wsL := sub_24 _ (List.mem_of_getElem? (i := 23) rfl)
theorem sub_25 : ∀ w ∈ wsL_law_r26, w ∈ wsL := fun _ h => (List.mem_append_left _ (List.mem_append_left _ (List.mem_append_left _ (List.mem_append_left _ (List.mem_append_left _ (List.mem_append_left _ (List.mem_append_left _ (List.mem_append_left _ (List.mem_append_left _ (List.mem_append_left _ (List.mem_append_left _ (List.mem_append_right _ (List.mem_append_right _ (List.mem_append_right _ (List.mem_append_right _ (List.mem_append_right _ (List.mem_append_right _ (List.mem_append_right _ (List.mem_append_right _ (List.mem_append_right _ (List.mem_append_right _ (List.mem_append_right _ (List.mem_append_right _ (List.mem_append_right _ (List.mem_append_right _ (List.mem_append_right _ (List.mem_append_right _ (List.mem_append_right _ (List.mem_append_right _ (List.mem_append_right _ (List.mem_append_right _ (List.mem_append_right _ (List.mem_append_right _ (List.mem_append_right _ (List.mem_append_right _ (List.mem_append_right _ (List.mem_append_left _ h)))))))))))))))))))))))))))))))))))))
theorem in_600 : Cond.methodLink RX9 120 yX8_length ∈ wsL := sub_25 _ (List.mem_of_getElem? (i := 0) rfl)
theorem in_601 : Cond.methodLink RX9 123 yX8_lyingAt ∈ wsL := sub_25 _ (List.mem_of_getElem? (i := 1) rfl)
theorem in_602 : Cond.methodLink RL 72 yX10_at ∈ wsL := sub_25 _ (List.mem_of_getElem? (i := 2) rfl)
theorem in_603 : Cond.instanceMethod yX10_at ∈ wsL := sub_25 _ (List.mem_of_getElem? (i := 3) rfl)
theorem in_604 : Cond.selects RX10 yX10_at yX10_at ∈ wsL := sub_25 _ (List.mem_of_getElem? (i := 4) rfl)
theorem in_605 : Cond.code yX10_at cX10_at 2 (some .int) ∈ wsL := sub_25 _ (List.mem_of_getElem? (i := 5) rfl)
theorem in_606 : Cond.methodLink RL 73 yX9_count ∈ wsL := sub_25 _ (List.mem_of_getElem? (i := 6) rfl)
theorem in_607 : Cond.instanceMethod yX9_count ∈ wsL := sub_25 _ (List.mem_of_getElem? (i := 7) rfl)
theorem in_608 : Cond.selects RX9 yX9_count yX9_count ∈ wsL := sub_25 _ (List.mem_of_getElem? (i := 8) rfl)
theorem in_609 : Cond.code yX9_count cX9_count 2 (some .int) ∈ wsL := sub_25 _ (List.mem_of_getElem? (i := 9) rfl)
theorem in_610 : Cond.fieldLink RX9 132 "KeptHeap$Keeper" "gathered" "I" ∈ wsL := sub_25 _ (List.mem_of_getElem? (i := 10) rfl)
theorem in_611 : Cond.fieldLink RX9 135 "KeptHeap$Keeper" "gatheredYoung" "I" ∈ wsL := sub_25 _ (List.mem_of_getElem? (i := 11) rfl)
theorem in_612 : Cond.fieldLink RX9 138 "KeptHeap$Keeper" "moved" "I" ∈ wsL := sub_25 _ (List.mem_of_getElem? (i := 12) rfl)
theorem in_613 : Cond.methodLink RX9 126 yX8_thingsBelow ∈ wsL := sub_25 _ (List.mem_of_getElem? (i := 13) rfl)
theorem in_614 : Cond.methodLink RX9 129 yX8_taken ∈ wsL := sub_25 _ (List.mem_of_getElem? (i := 14) rfl)
theorem in_615 : Cond.instanceMethod yX8_taken ∈ wsL := sub_25 _ (List.mem_of_getElem? (i := 15) rfl)
theorem in_616 : Cond.selects RX8 yX8_taken yX8_taken ∈ wsL := sub_25 _ (List.mem_of_getElem? (i := 16) rfl)
theorem in_617 : Cond.code yX8_taken cX8_taken 3 (some .int) ∈ wsL := sub_25 _ (List.mem_of_getElem? (i := 17) rfl)
theorem in_618 : Cond.methodLink RX9 141 yX8_rememberedThings ∈ wsL := sub_25 _ (List.mem_of_getElem? (i := 18) rfl)
theorem in_619 : Cond.instanceMethod yX8_rememberedThings ∈ wsL := sub_25 _ (List.mem_of_getElem? (i := 19) rfl)
theorem in_620 : Cond.selects RX8 yX8_rememberedThings yX8_rememberedThings ∈ wsL := sub_25 _ (List.mem_of_getElem? (i := 20) rfl)
theorem in_621 : Cond.code yX8_rememberedThings cX8_rememberedThings 4 (some .int) ∈ wsL := sub_25 _ (List.mem_of_getElem? (i := 21) rfl)
theorem in_622 : Cond.fieldLink RX8 45 "KeptHeap$Thing" "remembered" "Z" ∈ wsL := sub_25 _ (List.mem_of_getElem? (i := 22) rfl)
theorem in_623 : Cond.methodLink RX9 144 ⟨"KeptHeap$Keeper", "reachedThings", "()I"⟩ ∈ wsL := sub_25 _ (List.mem_of_getElem? (i := 23) rfl)
theorem sub_26 : ∀ w ∈ wsL_law_r27, w ∈ wsL := fun _ h => (List.mem_append_left _ (List.mem_append_left _ (List.mem_append_left _ (List.mem_append_left _ (List.mem_append_left _ (List.mem_append_left _ (List.mem_append_left _ (List.mem_append_left _ (List.mem_append_left _ (List.mem_append_left _ (List.mem_append_left _ (List.mem_append_right _ (List.mem_append_right _ (List.mem_append_right _ (List.mem_append_right _ (List.mem_append_right _ (List.mem_append_right _ (List.mem_append_right _ (List.mem_append_right _ (List.mem_append_right _ (List.mem_append_right _ (List.mem_append_right _ (List.mem_append_right _ (List.mem_append_right _ (List.mem_append_right _ (List.mem_append_right _ (List.mem_append_right _ (List.mem_append_right _ (List.mem_append_right _ (List.mem_append_right _ (List.mem_append_right _ (List.mem_append_right _ (List.mem_append_right _ (List.mem_append_right _ (List.mem_append_right _ (List.mem_append_right _ (List.mem_append_right _ (List.mem_append_left _ h))))))))))))))))))))))))))))))))))))))
theorem in_624 : Cond.sameMethod "KeptHeap$Keeper" "KeptHeap$Keeper" "reachedThings" "()I" ∈ wsL := sub_26 _ (List.mem_of_getElem? (i := 0) rfl)
theorem in_625 : Cond.selects RX0 ⟨"KeptHeap$Keeper", "reachedThings", "()I"⟩ yX2_reachedThings ∈ wsL := sub_26 _ (List.mem_of_getElem? (i := 1) rfl)
theorem in_626 : Cond.instanceMethod yX2_reachedThings ∈ wsL := sub_26 _ (List.mem_of_getElem? (i := 2) rfl)
theorem in_627 : Cond.code yX2_reachedThings cX2_reachedThings 1 (some .int) ∈ wsL := sub_26 _ (List.mem_of_getElem? (i := 3) rfl)
theorem in_628 : Cond.methodLink RX2 44 ⟨"KeptHeap$Keeper", "walkFromRoots", "()V"⟩ ∈ wsL := sub_26 _ (List.mem_of_getElem? (i := 4) rfl)
theorem in_629 : Cond.sameMethod "KeptHeap$Keeper" "KeptHeap$Keeper" "walkFromRoots" "()V" ∈ wsL := sub_26 _ (List.mem_of_getElem? (i := 5) rfl)
theorem in_630 : Cond.selects RX0 ⟨"KeptHeap$Keeper", "walkFromRoots", "()V"⟩ yX2_walkFromRoots ∈ wsL := sub_26 _ (List.mem_of_getElem? (i := 6) rfl)
theorem in_631 : Cond.selects RX1 ⟨"KeptHeap$Keeper", "walkFromRoots", "()V"⟩ yX2_walkFromRoots ∈ wsL := sub_26 _ (List.mem_of_getElem? (i := 7) rfl)
theorem in_632 : Cond.selects RX5 ⟨"KeptHeap$Keeper", "walkFromRoots", "()V"⟩ yX2_walkFromRoots ∈ wsL := sub_26 _ (List.mem_of_getElem? (i := 8) rfl)
theorem in_633 : Cond.methodLink RX2 47 yX7_size ∈ wsL := sub_26 _ (List.mem_of_getElem? (i := 9) rfl)
theorem in_634 : Cond.selects RX1 ⟨"KeptHeap$Keeper", "reachedThings", "()I"⟩ yX2_reachedThings ∈ wsL := sub_26 _ (List.mem_of_getElem? (i := 10) rfl)
theorem in_635 : Cond.selects RX5 ⟨"KeptHeap$Keeper", "reachedThings", "()I"⟩ yX2_reachedThings ∈ wsL := sub_26 _ (List.mem_of_getElem? (i := 11) rfl)
theorem in_636 : Cond.methodLink RL 76 yX10_count ∈ wsL := sub_26 _ (List.mem_of_getElem? (i := 12) rfl)
theorem in_637 : Cond.instanceMethod yX10_count ∈ wsL := sub_26 _ (List.mem_of_getElem? (i := 13) rfl)
theorem in_638 : Cond.selects RX10 yX10_count yX10_count ∈ wsL := sub_26 _ (List.mem_of_getElem? (i := 14) rfl)
theorem in_639 : Cond.code yX10_count cX10_count 6 (some .int) ∈ wsL := sub_26 _ (List.mem_of_getElem? (i := 15) rfl)
theorem in_640 : Cond.methodLink RL 77 yX9_same ∈ wsL := sub_26 _ (List.mem_of_getElem? (i := 16) rfl)
theorem in_641 : Cond.instanceMethod yX9_same ∈ wsL := sub_26 _ (List.mem_of_getElem? (i := 17) rfl)
theorem in_642 : Cond.selects RX9 yX9_same yX9_same ∈ wsL := sub_26 _ (List.mem_of_getElem? (i := 18) rfl)
theorem in_643 : Cond.code yX9_same cX9_same 3 (some .int) ∈ wsL := sub_26 _ (List.mem_of_getElem? (i := 19) rfl)
theorem in_644 : Cond.methodLink RL 80 yX10_same ∈ wsL := sub_26 _ (List.mem_of_getElem? (i := 20) rfl)
theorem in_645 : Cond.instanceMethod yX10_same ∈ wsL := sub_26 _ (List.mem_of_getElem? (i := 21) rfl)
theorem in_646 : Cond.selects RX10 yX10_same yX10_same ∈ wsL := sub_26 _ (List.mem_of_getElem? (i := 22) rfl)
theorem in_647 : Cond.code yX10_same cX10_same 3 (some .int) ∈ wsL := sub_26 _ (List.mem_of_getElem? (i := 23) rfl)
theorem sub_27 : ∀ w ∈ wsL_law_r28, w ∈ wsL := fun _ h => (List.mem_append_left _ (List.mem_append_left _ (List.mem_append_left _ (List.mem_append_left _ (List.mem_append_left _ (List.mem_append_left _ (List.mem_append_left _ (List.mem_append_left _ (List.mem_append_left _ (List.mem_append_left _ (List.mem_append_left _ (List.mem_append_right _ (List.mem_append_right _ (List.mem_append_right _ (List.mem_append_right _ (List.mem_append_right _ (List.mem_append_right _ (List.mem_append_right _ (List.mem_append_right _ (List.mem_append_right _ (List.mem_append_right _ (List.mem_append_right _ (List.mem_append_right _ (List.mem_append_right _ (List.mem_append_right _ (List.mem_append_right _ (List.mem_append_right _ (List.mem_append_right _ (List.mem_append_right _ (List.mem_append_right _ (List.mem_append_right _ (List.mem_append_right _ (List.mem_append_right _ (List.mem_append_right _ (List.mem_append_right _ (List.mem_append_right _ (List.mem_append_right _ (List.mem_append_right _ (List.mem_append_left _ h)))))))))))))))))))))))))))))))))))))))
theorem in_648 : Cond.methodLink RL 81 yX9_sum ∈ wsL := sub_27 _ (List.mem_of_getElem? (i := 0) rfl)
theorem in_649 : Cond.instanceMethod yX9_sum ∈ wsL := sub_27 _ (List.mem_of_getElem? (i := 1) rfl)
theorem in_650 : Cond.selects RX9 yX9_sum yX9_sum ∈ wsL := sub_27 _ (List.mem_of_getElem? (i := 2) rfl)
theorem in_651 : Cond.code yX9_sum cX9_sum 3 (some .long) ∈ wsL := sub_27 _ (List.mem_of_getElem? (i := 3) rfl)
theorem in_652 : Cond.constantLong RX9 147 (-2) ∈ wsL := sub_27 _ (List.mem_of_getElem? (i := 4) rfl)
theorem in_653 : Cond.methodLink RX9 149 ⟨"KeptHeap$Keeper", "sumFrom", "(LKeptHeap$Thing;)J"⟩ ∈ wsL := sub_27 _ (List.mem_of_getElem? (i := 5) rfl)
theorem in_654 : Cond.sameMethod "KeptHeap$Keeper" "KeptHeap$Keeper" "sumFrom" "(LKeptHeap$Thing;)J" ∈ wsL := sub_27 _ (List.mem_of_getElem? (i := 6) rfl)
theorem in_655 : Cond.selects RX0 ⟨"KeptHeap$Keeper", "sumFrom", "(LKeptHeap$Thing;)J"⟩ yX2_sumFrom ∈ wsL := sub_27 _ (List.mem_of_getElem? (i := 7) rfl)
theorem in_656 : Cond.instanceMethod yX2_sumFrom ∈ wsL := sub_27 _ (List.mem_of_getElem? (i := 8) rfl)
theorem in_657 : Cond.code yX2_sumFrom cX2_sumFrom 6 (some .long) ∈ wsL := sub_27 _ (List.mem_of_getElem? (i := 9) rfl)
theorem in_658 : Cond.constantLong RX2 79 (7) ∈ wsL := sub_27 _ (List.mem_of_getElem? (i := 10) rfl)
theorem in_659 : Cond.methodLink RX2 75 yX7_meet ∈ wsL := sub_27 _ (List.mem_of_getElem? (i := 11) rfl)
theorem in_660 : Cond.methodLink RX2 81 yX7_thingOf ∈ wsL := sub_27 _ (List.mem_of_getElem? (i := 12) rfl)
theorem in_661 : Cond.methodLink RX2 84 yX2_sumWith ∈ wsL := sub_27 _ (List.mem_of_getElem? (i := 13) rfl)
theorem in_662 : Cond.static yX2_sumWith ∈ wsL := sub_27 _ (List.mem_of_getElem? (i := 14) rfl)
theorem in_663 : Cond.code yX2_sumWith cX2_sumWith 9 (some .long) ∈ wsL := sub_27 _ (List.mem_of_getElem? (i := 15) rfl)
theorem in_664 : Cond.constantLong RX2 88 (31) ∈ wsL := sub_27 _ (List.mem_of_getElem? (i := 16) rfl)
theorem in_665 : Cond.constantLong RX2 96 (2) ∈ wsL := sub_27 _ (List.mem_of_getElem? (i := 17) rfl)
theorem in_666 : Cond.fieldLink RX2 102 "KeptHeap$Thing" "order" "I" ∈ wsL := sub_27 _ (List.mem_of_getElem? (i := 18) rfl)
theorem in_667 : Cond.methodLink RX2 90 yX6_fields ∈ wsL := sub_27 _ (List.mem_of_getElem? (i := 19) rfl)
theorem in_668 : Cond.methodLink RX2 93 yX6_targetOf ∈ wsL := sub_27 _ (List.mem_of_getElem? (i := 20) rfl)
theorem in_669 : Cond.methodLink RX2 98 yX6_numberOf ∈ wsL := sub_27 _ (List.mem_of_getElem? (i := 21) rfl)
theorem in_670 : Cond.selects RX1 ⟨"KeptHeap$Keeper", "sumFrom", "(LKeptHeap$Thing;)J"⟩ yX2_sumFrom ∈ wsL := sub_27 _ (List.mem_of_getElem? (i := 22) rfl)
theorem in_671 : Cond.selects RX5 ⟨"KeptHeap$Keeper", "sumFrom", "(LKeptHeap$Thing;)J"⟩ yX2_sumFrom ∈ wsL := sub_27 _ (List.mem_of_getElem? (i := 23) rfl)
theorem sub_28 : ∀ w ∈ wsL_law_r29, w ∈ wsL := fun _ h => (List.mem_append_left _ (List.mem_append_left _ (List.mem_append_left _ (List.mem_append_left _ (List.mem_append_left _ (List.mem_append_left _ (List.mem_append_left _ (List.mem_append_left _ (List.mem_append_left _ (List.mem_append_left _ (List.mem_append_left _ (List.mem_append_right _ (List.mem_append_right _ (List.mem_append_right _ (List.mem_append_right _ (List.mem_append_right _ (List.mem_append_right _ (List.mem_append_right _ (List.mem_append_right _ (List.mem_append_right _ (List.mem_append_right _ (List.mem_append_right _ (List.mem_append_right _ (List.mem_append_right _ (List.mem_append_right _ (List.mem_append_right _ (List.mem_append_right _ (List.mem_append_right _ (List.mem_append_right _ (List.mem_append_right _ (List.mem_append_right _ (List.mem_append_right _ (List.mem_append_right _ (List.mem_append_right _ (List.mem_append_right _ (List.mem_append_right _ (List.mem_append_right _ (List.mem_append_right _ (List.mem_append_right _ h)))))))))))))))))))))))))))))))))))))))
theorem in_672 : Cond.methodLink RL 85 yX10_sum ∈ wsL := sub_28 _ (List.mem_of_getElem? (i := 0) rfl)
theorem in_673 : Cond.instanceMethod yX10_sum ∈ wsL := sub_28 _ (List.mem_of_getElem? (i := 1) rfl)
theorem in_674 : Cond.selects RX10 yX10_sum yX10_sum ∈ wsL := sub_28 _ (List.mem_of_getElem? (i := 2) rfl)
theorem in_675 : Cond.code yX10_sum cX10_sum 8 (some .long) ∈ wsL := sub_28 _ (List.mem_of_getElem? (i := 3) rfl)
theorem in_676 : Cond.constantLong RX10 137 (-2) ∈ wsL := sub_28 _ (List.mem_of_getElem? (i := 4) rfl)
theorem in_677 : Cond.constantLong RX10 139 (7) ∈ wsL := sub_28 _ (List.mem_of_getElem? (i := 5) rfl)
theorem in_678 : Cond.constantLong RX10 141 (31) ∈ wsL := sub_28 _ (List.mem_of_getElem? (i := 6) rfl)
theorem in_679 : Cond.constantLong RX10 143 (2) ∈ wsL := sub_28 _ (List.mem_of_getElem? (i := 7) rfl)
set_option maxRecDepth 20000 in
theorem gAll : wsL.all goodWord = true := by decide +kernel
theorem gL (ws : List Cond) (h : ∀ w ∈ ws, w ∈ wsL) : GoodIn wsL ws := fun w hw => ⟨h w hw, good_of_word (List.all_eq_true.mp gAll w (h w hw))⟩
end
section
theorem dX0_init_0 : decode cX0_init 0 = .ok (.aload_n 0, 1) := by decide +kernel
theorem dX0_init_1 : decode cX0_init 1 = .ok (.aload_n 1, 1) := by decide +kernel
theorem dX0_init_2 : decode cX0_init 2 = .ok (.aload_n 2, 1) := by decide +kernel
theorem dX0_init_3 : decode cX0_init 3 = .ok (.invokespecial 3, 3) := by decide +kernel
theorem dX0_init_6 : decode cX0_init 6 = .ok (.aload_n 0, 1) := by decide +kernel
theorem dX0_init_7 : decode cX0_init 7 = .ok (.aload_n 1, 1) := by decide +kernel
theorem dX0_init_8 : decode cX0_init 8 = .ok (.invokevirtual 9, 3) := by decide +kernel
theorem dX0_init_11 : decode cX0_init 11 = .ok (.iconst 4, 1) := by decide +kernel
theorem dX0_init_12 : decode cX0_init 12 = .ok (.idiv, 1) := by decide +kernel
theorem dX0_init_13 : decode cX0_init 13 = .ok (.putfield 15, 3) := by decide +kernel
theorem dX0_init_16 : decode cX0_init 16 = .ok (.aload_n 0, 1) := by decide +kernel
theorem dX0_init_17 : decode cX0_init 17 = .ok (.new 21, 3) := by decide +kernel
theorem dX0_init_20 : decode cX0_init 20 = .ok (.dup, 1) := by decide +kernel
theorem dX0_init_21 : decode cX0_init 21 = .ok (.iconst 0, 1) := by decide +kernel
theorem dX0_init_22 : decode cX0_init 22 = .ok (.aload_n 0, 1) := by decide +kernel
theorem dX0_init_23 : decode cX0_init 23 = .ok (.getfield 15, 3) := by decide +kernel
theorem dX0_init_26 : decode cX0_init 26 = .ok (.invokespecial 23, 3) := by decide +kernel
theorem dX0_init_29 : decode cX0_init 29 = .ok (.putfield 26, 3) := by decide +kernel
theorem dX0_init_32 : decode cX0_init 32 = .ok (.return_, 1) := by decide +kernel
theorem dX0_take_0 : decode cX0_take 0 = .ok (.aload_n 0, 1) := by decide +kernel
theorem dX0_take_1 : decode cX0_take 1 = .ok (.getfield 26, 3) := by decide +kernel
theorem dX0_take_4 : decode cX0_take 4 = .ok (.iload_n 1, 1) := by decide +kernel
theorem dX0_take_5 : decode cX0_take 5 = .ok (.invokevirtual 30, 3) := by decide +kernel
theorem dX0_take_8 : decode cX0_take 8 = .ok (.ireturn, 1) := by decide +kernel
theorem dX0_clearRoomFor_0 : decode cX0_clearRoomFor 0 = .ok (.iload_n 1, 1) := by decide +kernel
theorem dX0_clearRoomFor_1 : decode cX0_clearRoomFor 1 = .ok (.aload_n 0, 1) := by decide +kernel
theorem dX0_clearRoomFor_2 : decode cX0_clearRoomFor 2 = .ok (.getfield 15, 3) := by decide +kernel
theorem dX0_clearRoomFor_5 : decode cX0_clearRoomFor 5 = .ok (.if_icmp .gt 17, 3) := by decide +kernel
theorem dX0_clearRoomFor_8 : decode cX0_clearRoomFor 8 = .ok (.aload_n 0, 1) := by decide +kernel
theorem dX0_clearRoomFor_9 : decode cX0_clearRoomFor 9 = .ok (.invokevirtual 34, 3) := by decide +kernel
theorem dX0_clearRoomFor_12 : decode cX0_clearRoomFor 12 = .ok (.bipush (-4), 2) := by decide +kernel
theorem dX0_clearRoomFor_14 : decode cX0_clearRoomFor 14 = .ok (.if_icmp .ne 8, 3) := by decide +kernel
theorem dX0_clearRoomFor_17 : decode cX0_clearRoomFor 17 = .ok (.aload_n 0, 1) := by decide +kernel
theorem dX0_clearRoomFor_18 : decode cX0_clearRoomFor 18 = .ok (.invokevirtual 37, 3) := by decide +kernel
theorem dX0_clearRoomFor_21 : decode cX0_clearRoomFor 21 = .ok (.pop, 1) := by decide +kernel
theorem dX0_clearRoomFor_22 : decode cX0_clearRoomFor 22 = .ok (.return_, 1) := by decide +kernel
theorem dX0_isOld_0 : decode cX0_isOld 0 = .ok (.aload_n 1, 1) := by decide +kernel
theorem dX0_isOld_1 : decode cX0_isOld 1 = .ok (.getfield 40, 3) := by decide +kernel
theorem dX0_isOld_4 : decode cX0_isOld 4 = .ok (.aload_n 0, 1) := by decide +kernel
theorem dX0_isOld_5 : decode cX0_isOld 5 = .ok (.getfield 15, 3) := by decide +kernel
theorem dX0_isOld_8 : decode cX0_isOld 8 = .ok (.if_icmp .lt 7, 3) := by decide +kernel
theorem dX0_isOld_11 : decode cX0_isOld 11 = .ok (.iconst 1, 1) := by decide +kernel
theorem dX0_isOld_12 : decode cX0_isOld 12 = .ok (.goto 4, 3) := by decide +kernel
theorem dX0_isOld_15 : decode cX0_isOld 15 = .ok (.iconst 0, 1) := by decide +kernel
theorem dX0_isOld_16 : decode cX0_isOld 16 = .ok (.ireturn, 1) := by decide +kernel
theorem dX0_gather_0 : decode cX0_gather 0 = .ok (.aload_n 0, 1) := by decide +kernel
theorem dX0_gather_1 : decode cX0_gather 1 = .ok (.dup, 1) := by decide +kernel
theorem dX0_gather_2 : decode cX0_gather 2 = .ok (.getfield 45, 3) := by decide +kernel
theorem dX0_gather_5 : decode cX0_gather 5 = .ok (.iconst 1, 1) := by decide +kernel
theorem dX0_gather_6 : decode cX0_gather 6 = .ok (.iadd, 1) := by decide +kernel
theorem dX0_gather_7 : decode cX0_gather 7 = .ok (.putfield 45, 3) := by decide +kernel
theorem dX0_gather_10 : decode cX0_gather 10 = .ok (.aload_n 0, 1) := by decide +kernel
theorem dX0_gather_11 : decode cX0_gather 11 = .ok (.invokevirtual 48, 3) := by decide +kernel
theorem dX0_gather_14 : decode cX0_gather 14 = .ok (.aload_n 0, 1) := by decide +kernel
theorem dX0_gather_15 : decode cX0_gather 15 = .ok (.aload_n 0, 1) := by decide +kernel
theorem dX0_gather_16 : decode cX0_gather 16 = .ok (.getfield 15, 3) := by decide +kernel
theorem dX0_gather_19 : decode cX0_gather 19 = .ok (.invokevirtual 52, 3) := by decide +kernel
theorem dX0_gather_22 : decode cX0_gather 22 = .ok (.istore_n 1, 1) := by decide +kernel
theorem dX0_gather_23 : decode cX0_gather 23 = .ok (.aload_n 0, 1) := by decide +kernel
theorem dX0_gather_24 : decode cX0_gather 24 = .ok (.invokevirtual 34, 3) := by decide +kernel
theorem dX0_gather_27 : decode cX0_gather 27 = .ok (.istore_n 2, 1) := by decide +kernel
theorem dX0_gather_28 : decode cX0_gather 28 = .ok (.iload_n 2, 1) := by decide +kernel
theorem dX0_gather_29 : decode cX0_gather 29 = .ok (.bipush (-4), 2) := by decide +kernel
theorem dX0_gather_31 : decode cX0_gather 31 = .ok (.if_icmp .ne 8, 3) := by decide +kernel
theorem dX0_gather_34 : decode cX0_gather 34 = .ok (.bipush (-4), 2) := by decide +kernel
theorem dX0_gather_36 : decode cX0_gather 36 = .ok (.goto 6, 3) := by decide +kernel
theorem dX0_gather_39 : decode cX0_gather 39 = .ok (.iload_n 1, 1) := by decide +kernel
theorem dX0_gather_40 : decode cX0_gather 40 = .ok (.iload_n 2, 1) := by decide +kernel
theorem dX0_gather_41 : decode cX0_gather 41 = .ok (.iadd, 1) := by decide +kernel
theorem dX0_gather_42 : decode cX0_gather 42 = .ok (.ireturn, 1) := by decide +kernel
theorem dX0_gatherYoung_0 : decode cX0_gatherYoung 0 = .ok (.aload_n 0, 1) := by decide +kernel
theorem dX0_gatherYoung_1 : decode cX0_gatherYoung 1 = .ok (.getfield 55, 3) := by decide +kernel
theorem dX0_gatherYoung_4 : decode cX0_gatherYoung 4 = .ok (.aload_n 0, 1) := by decide +kernel
theorem dX0_gatherYoung_5 : decode cX0_gatherYoung 5 = .ok (.getfield 15, 3) := by decide +kernel
theorem dX0_gatherYoung_8 : decode cX0_gatherYoung 8 = .ok (.invokevirtual 59, 3) := by decide +kernel
theorem dX0_gatherYoung_11 : decode cX0_gatherYoung 11 = .ok (.aload_n 0, 1) := by decide +kernel
theorem dX0_gatherYoung_12 : decode cX0_gatherYoung 12 = .ok (.getfield 55, 3) := by decide +kernel
theorem dX0_gatherYoung_15 : decode cX0_gatherYoung 15 = .ok (.aload_n 0, 1) := by decide +kernel
theorem dX0_gatherYoung_16 : decode cX0_gatherYoung 16 = .ok (.getfield 65, 3) := by decide +kernel
theorem dX0_gatherYoung_19 : decode cX0_gatherYoung 19 = .ok (.invokevirtual 69, 3) := by decide +kernel
theorem dX0_gatherYoung_22 : decode cX0_gatherYoung 22 = .ok (.aload_n 0, 1) := by decide +kernel
theorem dX0_gatherYoung_23 : decode cX0_gatherYoung 23 = .ok (.invokevirtual 73, 3) := by decide +kernel
theorem dX0_gatherYoung_26 : decode cX0_gatherYoung 26 = .ok (.aload_n 0, 1) := by decide +kernel
theorem dX0_gatherYoung_27 : decode cX0_gatherYoung 27 = .ok (.getfield 55, 3) := by decide +kernel
theorem dX0_gatherYoung_30 : decode cX0_gatherYoung 30 = .ok (.invokevirtual 76, 3) := by decide +kernel
theorem dX0_gatherYoung_33 : decode cX0_gatherYoung 33 = .ok (.aload_n 0, 1) := by decide +kernel
theorem dX0_gatherYoung_34 : decode cX0_gatherYoung 34 = .ok (.invokevirtual 79, 3) := by decide +kernel
theorem dX0_gatherYoung_37 : decode cX0_gatherYoung 37 = .ok (.istore_n 1, 1) := by decide +kernel
theorem dX0_gatherYoung_38 : decode cX0_gatherYoung 38 = .ok (.iload_n 1, 1) := by decide +kernel
theorem dX0_gatherYoung_39 : decode cX0_gatherYoung 39 = .ok (.aload_n 0, 1) := by decide +kernel
theorem dX0_gatherYoung_40 : decode cX0_gatherYoung 40 = .ok (.getfield 55, 3) := by decide +kernel
theorem dX0_gatherYoung_43 : decode cX0_gatherYoung 43 = .ok (.invokevirtual 82, 3) := by decide +kernel
theorem dX0_gatherYoung_46 : decode cX0_gatherYoung 46 = .ok (.if_icmp .ge 11, 3) := by decide +kernel
theorem dX0_gatherYoung_49 : decode cX0_gatherYoung 49 = .ok (.aload_n 0, 1) := by decide +kernel
theorem dX0_gatherYoung_50 : decode cX0_gatherYoung 50 = .ok (.iload_n 1, 1) := by decide +kernel
theorem dX0_gatherYoung_51 : decode cX0_gatherYoung 51 = .ok (.invokevirtual 85, 3) := by decide +kernel
theorem dX0_gatherYoung_54 : decode cX0_gatherYoung 54 = .ok (.bipush (-4), 2) := by decide +kernel
theorem dX0_gatherYoung_56 : decode cX0_gatherYoung 56 = .ok (.ireturn, 1) := by decide +kernel
theorem dX0_gatherYoung_57 : decode cX0_gatherYoung 57 = .ok (.aload_n 0, 1) := by decide +kernel
theorem dX0_gatherYoung_58 : decode cX0_gatherYoung 58 = .ok (.getfield 88, 3) := by decide +kernel
theorem dX0_gatherYoung_61 : decode cX0_gatherYoung 61 = .ok (.aload_n 0, 1) := by decide +kernel
theorem dX0_gatherYoung_62 : decode cX0_gatherYoung 62 = .ok (.getfield 15, 3) := by decide +kernel
theorem dX0_gatherYoung_65 : decode cX0_gatherYoung 65 = .ok (.invokevirtual 92, 3) := by decide +kernel
theorem dX0_gatherYoung_68 : decode cX0_gatherYoung 68 = .ok (.istore_n 2, 1) := by decide +kernel
theorem dX0_gatherYoung_69 : decode cX0_gatherYoung 69 = .ok (.aload_n 0, 1) := by decide +kernel
theorem dX0_gatherYoung_70 : decode cX0_gatherYoung 70 = .ok (.getfield 88, 3) := by decide +kernel
theorem dX0_gatherYoung_73 : decode cX0_gatherYoung 73 = .ok (.iconst 0, 1) := by decide +kernel
theorem dX0_gatherYoung_74 : decode cX0_gatherYoung 74 = .ok (.aload_n 0, 1) := by decide +kernel
theorem dX0_gatherYoung_75 : decode cX0_gatherYoung 75 = .ok (.getfield 15, 3) := by decide +kernel
theorem dX0_gatherYoung_78 : decode cX0_gatherYoung 78 = .ok (.aconst_null, 1) := by decide +kernel
theorem dX0_gatherYoung_79 : decode cX0_gatherYoung 79 = .ok (.invokevirtual 95, 3) := by decide +kernel
theorem dX0_gatherYoung_82 : decode cX0_gatherYoung 82 = .ok (.aload_n 0, 1) := by decide +kernel
theorem dX0_gatherYoung_83 : decode cX0_gatherYoung 83 = .ok (.invokevirtual 99, 3) := by decide +kernel
theorem dX0_gatherYoung_86 : decode cX0_gatherYoung 86 = .ok (.aload_n 0, 1) := by decide +kernel
theorem dX0_gatherYoung_87 : decode cX0_gatherYoung 87 = .ok (.invokevirtual 102, 3) := by decide +kernel
theorem dX0_gatherYoung_90 : decode cX0_gatherYoung 90 = .ok (.aload_n 0, 1) := by decide +kernel
theorem dX0_gatherYoung_91 : decode cX0_gatherYoung 91 = .ok (.getfield 26, 3) := by decide +kernel
theorem dX0_gatherYoung_94 : decode cX0_gatherYoung 94 = .ok (.iconst 0, 1) := by decide +kernel
theorem dX0_gatherYoung_95 : decode cX0_gatherYoung 95 = .ok (.aload_n 0, 1) := by decide +kernel
theorem dX0_gatherYoung_96 : decode cX0_gatherYoung 96 = .ok (.getfield 15, 3) := by decide +kernel
theorem dX0_gatherYoung_99 : decode cX0_gatherYoung 99 = .ok (.invokevirtual 105, 3) := by decide +kernel
theorem dX0_gatherYoung_102 : decode cX0_gatherYoung 102 = .ok (.aload_n 0, 1) := by decide +kernel
theorem dX0_gatherYoung_103 : decode cX0_gatherYoung 103 = .ok (.dup, 1) := by decide +kernel
theorem dX0_gatherYoung_104 : decode cX0_gatherYoung 104 = .ok (.getfield 108, 3) := by decide +kernel
theorem dX0_gatherYoung_107 : decode cX0_gatherYoung 107 = .ok (.iconst 1, 1) := by decide +kernel
theorem dX0_gatherYoung_108 : decode cX0_gatherYoung 108 = .ok (.iadd, 1) := by decide +kernel
theorem dX0_gatherYoung_109 : decode cX0_gatherYoung 109 = .ok (.putfield 108, 3) := by decide +kernel
theorem dX0_gatherYoung_112 : decode cX0_gatherYoung 112 = .ok (.iload_n 2, 1) := by decide +kernel
theorem dX0_gatherYoung_113 : decode cX0_gatherYoung 113 = .ok (.iload_n 1, 1) := by decide +kernel
theorem dX0_gatherYoung_114 : decode cX0_gatherYoung 114 = .ok (.isub, 1) := by decide +kernel
theorem dX0_gatherYoung_115 : decode cX0_gatherYoung 115 = .ok (.ireturn, 1) := by decide +kernel
theorem dX0_meetByRemembered_0 : decode cX0_meetByRemembered 0 = .ok (.aload_n 0, 1) := by decide +kernel
theorem dX0_meetByRemembered_1 : decode cX0_meetByRemembered 1 = .ok (.getfield 15, 3) := by decide +kernel
theorem dX0_meetByRemembered_4 : decode cX0_meetByRemembered 4 = .ok (.istore_n 1, 1) := by decide +kernel
theorem dX0_meetByRemembered_5 : decode cX0_meetByRemembered 5 = .ok (.iload_n 1, 1) := by decide +kernel
theorem dX0_meetByRemembered_6 : decode cX0_meetByRemembered 6 = .ok (.aload_n 0, 1) := by decide +kernel
theorem dX0_meetByRemembered_7 : decode cX0_meetByRemembered 7 = .ok (.getfield 88, 3) := by decide +kernel
theorem dX0_meetByRemembered_10 : decode cX0_meetByRemembered 10 = .ok (.invokevirtual 9, 3) := by decide +kernel
theorem dX0_meetByRemembered_13 : decode cX0_meetByRemembered 13 = .ok (.if_icmp .ge 37, 3) := by decide +kernel
theorem dX0_meetByRemembered_16 : decode cX0_meetByRemembered 16 = .ok (.aload_n 0, 1) := by decide +kernel
theorem dX0_meetByRemembered_17 : decode cX0_meetByRemembered 17 = .ok (.getfield 88, 3) := by decide +kernel
theorem dX0_meetByRemembered_20 : decode cX0_meetByRemembered 20 = .ok (.iload_n 1, 1) := by decide +kernel
theorem dX0_meetByRemembered_21 : decode cX0_meetByRemembered 21 = .ok (.invokevirtual 111, 3) := by decide +kernel
theorem dX0_meetByRemembered_24 : decode cX0_meetByRemembered 24 = .ok (.astore_n 2, 1) := by decide +kernel
theorem dX0_meetByRemembered_25 : decode cX0_meetByRemembered 25 = .ok (.aload_n 2, 1) := by decide +kernel
theorem dX0_meetByRemembered_26 : decode cX0_meetByRemembered 26 = .ok (.ifnull 18, 3) := by decide +kernel
theorem dX0_meetByRemembered_29 : decode cX0_meetByRemembered 29 = .ok (.aload_n 2, 1) := by decide +kernel
theorem dX0_meetByRemembered_30 : decode cX0_meetByRemembered 30 = .ok (.getfield 115, 3) := by decide +kernel
theorem dX0_meetByRemembered_33 : decode cX0_meetByRemembered 33 = .ok (.ifCond .eq 11, 3) := by decide +kernel
theorem dX0_meetByRemembered_36 : decode cX0_meetByRemembered 36 = .ok (.aload_n 0, 1) := by decide +kernel
theorem dX0_meetByRemembered_37 : decode cX0_meetByRemembered 37 = .ok (.getfield 55, 3) := by decide +kernel
theorem dX0_meetByRemembered_40 : decode cX0_meetByRemembered 40 = .ok (.aload_n 2, 1) := by decide +kernel
theorem dX0_meetByRemembered_41 : decode cX0_meetByRemembered 41 = .ok (.invokevirtual 119, 3) := by decide +kernel
theorem dX0_meetByRemembered_44 : decode cX0_meetByRemembered 44 = .ok (.iinc 1 1, 3) := by decide +kernel
theorem dX0_meetByRemembered_47 : decode cX0_meetByRemembered 47 = .ok (.goto (-42), 3) := by decide +kernel
theorem dX0_meetByRemembered_50 : decode cX0_meetByRemembered 50 = .ok (.return_, 1) := by decide +kernel
theorem dX0_reserve_0 : decode cX0_reserve 0 = .ok (.iconst 0, 1) := by decide +kernel
theorem dX0_reserve_1 : decode cX0_reserve 1 = .ok (.istore_n 1, 1) := by decide +kernel
theorem dX0_reserve_2 : decode cX0_reserve 2 = .ok (.iload_n 1, 1) := by decide +kernel
theorem dX0_reserve_3 : decode cX0_reserve 3 = .ok (.aload_n 0, 1) := by decide +kernel
theorem dX0_reserve_4 : decode cX0_reserve 4 = .ok (.getfield 55, 3) := by decide +kernel
theorem dX0_reserve_7 : decode cX0_reserve 7 = .ok (.invokevirtual 82, 3) := by decide +kernel
theorem dX0_reserve_10 : decode cX0_reserve 10 = .ok (.if_icmp .ge 71, 3) := by decide +kernel
theorem dX0_reserve_13 : decode cX0_reserve 13 = .ok (.aload_n 0, 1) := by decide +kernel
theorem dX0_reserve_14 : decode cX0_reserve 14 = .ok (.getfield 55, 3) := by decide +kernel
theorem dX0_reserve_17 : decode cX0_reserve 17 = .ok (.iload_n 1, 1) := by decide +kernel
theorem dX0_reserve_18 : decode cX0_reserve 18 = .ok (.invokevirtual 123, 3) := by decide +kernel
theorem dX0_reserve_21 : decode cX0_reserve 21 = .ok (.astore_n 2, 1) := by decide +kernel
theorem dX0_reserve_22 : decode cX0_reserve 22 = .ok (.aload_n 2, 1) := by decide +kernel
theorem dX0_reserve_23 : decode cX0_reserve 23 = .ok (.ifnonnull 7, 3) := by decide +kernel
theorem dX0_reserve_26 : decode cX0_reserve 26 = .ok (.iconst (-1), 1) := by decide +kernel
theorem dX0_reserve_27 : decode cX0_reserve 27 = .ok (.goto 18, 3) := by decide +kernel
theorem dX0_reserve_30 : decode cX0_reserve 30 = .ok (.aload_n 0, 1) := by decide +kernel
theorem dX0_reserve_31 : decode cX0_reserve 31 = .ok (.getfield 88, 3) := by decide +kernel
theorem dX0_reserve_34 : decode cX0_reserve 34 = .ok (.aload_n 0, 1) := by decide +kernel
theorem dX0_reserve_35 : decode cX0_reserve 35 = .ok (.getfield 15, 3) := by decide +kernel
theorem dX0_reserve_38 : decode cX0_reserve 38 = .ok (.aload_n 2, 1) := by decide +kernel
theorem dX0_reserve_39 : decode cX0_reserve 39 = .ok (.invokevirtual 126, 3) := by decide +kernel
theorem dX0_reserve_42 : decode cX0_reserve 42 = .ok (.invokevirtual 127, 3) := by decide +kernel
theorem dX0_reserve_45 : decode cX0_reserve 45 = .ok (.istore_n 3, 1) := by decide +kernel
theorem dX0_reserve_46 : decode cX0_reserve 46 = .ok (.aload_n 2, 1) := by decide +kernel
theorem dX0_reserve_47 : decode cX0_reserve 47 = .ok (.ifnull 8, 3) := by decide +kernel
theorem dX0_reserve_50 : decode cX0_reserve 50 = .ok (.iload_n 3, 1) := by decide +kernel
theorem dX0_reserve_51 : decode cX0_reserve 51 = .ok (.iconst (-1), 1) := by decide +kernel
theorem dX0_reserve_52 : decode cX0_reserve 52 = .ok (.if_icmp .ne 5, 3) := by decide +kernel
theorem dX0_reserve_55 : decode cX0_reserve 55 = .ok (.iload_n 1, 1) := by decide +kernel
theorem dX0_reserve_56 : decode cX0_reserve 56 = .ok (.ireturn, 1) := by decide +kernel
theorem dX0_reserve_57 : decode cX0_reserve 57 = .ok (.aload_n 2, 1) := by decide +kernel
theorem dX0_reserve_58 : decode cX0_reserve 58 = .ok (.iload_n 3, 1) := by decide +kernel
theorem dX0_reserve_59 : decode cX0_reserve 59 = .ok (.putfield 131, 3) := by decide +kernel
theorem dX0_reserve_62 : decode cX0_reserve 62 = .ok (.aload_n 0, 1) := by decide +kernel
theorem dX0_reserve_63 : decode cX0_reserve 63 = .ok (.getfield 88, 3) := by decide +kernel
theorem dX0_reserve_66 : decode cX0_reserve 66 = .ok (.iload_n 3, 1) := by decide +kernel
theorem dX0_reserve_67 : decode cX0_reserve 67 = .ok (.aload_n 2, 1) := by decide +kernel
theorem dX0_reserve_68 : decode cX0_reserve 68 = .ok (.invokevirtual 126, 3) := by decide +kernel
theorem dX0_reserve_71 : decode cX0_reserve 71 = .ok (.aload_n 2, 1) := by decide +kernel
theorem dX0_reserve_72 : decode cX0_reserve 72 = .ok (.invokevirtual 95, 3) := by decide +kernel
theorem dX0_reserve_75 : decode cX0_reserve 75 = .ok (.iinc 1 1, 3) := by decide +kernel
theorem dX0_reserve_78 : decode cX0_reserve 78 = .ok (.goto (-76), 3) := by decide +kernel
theorem dX0_reserve_81 : decode cX0_reserve 81 = .ok (.aload_n 0, 1) := by decide +kernel
theorem dX0_reserve_82 : decode cX0_reserve 82 = .ok (.getfield 55, 3) := by decide +kernel
theorem dX0_reserve_85 : decode cX0_reserve 85 = .ok (.invokevirtual 82, 3) := by decide +kernel
theorem dX0_reserve_88 : decode cX0_reserve 88 = .ok (.ireturn, 1) := by decide +kernel
theorem dX0_giveBack_0 : decode cX0_giveBack 0 = .ok (.iconst 0, 1) := by decide +kernel
theorem dX0_giveBack_1 : decode cX0_giveBack 1 = .ok (.istore_n 2, 1) := by decide +kernel
theorem dX0_giveBack_2 : decode cX0_giveBack 2 = .ok (.iload_n 2, 1) := by decide +kernel
theorem dX0_giveBack_3 : decode cX0_giveBack 3 = .ok (.iload_n 1, 1) := by decide +kernel
theorem dX0_giveBack_4 : decode cX0_giveBack 4 = .ok (.if_icmp .ge 38, 3) := by decide +kernel
theorem dX0_giveBack_7 : decode cX0_giveBack 7 = .ok (.aload_n 0, 1) := by decide +kernel
theorem dX0_giveBack_8 : decode cX0_giveBack 8 = .ok (.getfield 55, 3) := by decide +kernel
theorem dX0_giveBack_11 : decode cX0_giveBack 11 = .ok (.iload_n 2, 1) := by decide +kernel
theorem dX0_giveBack_12 : decode cX0_giveBack 12 = .ok (.invokevirtual 123, 3) := by decide +kernel
theorem dX0_giveBack_15 : decode cX0_giveBack 15 = .ok (.astore_n 3, 1) := by decide +kernel
theorem dX0_giveBack_16 : decode cX0_giveBack 16 = .ok (.aload_n 3, 1) := by decide +kernel
theorem dX0_giveBack_17 : decode cX0_giveBack 17 = .ok (.ifnull 19, 3) := by decide +kernel
theorem dX0_giveBack_20 : decode cX0_giveBack 20 = .ok (.aload_n 0, 1) := by decide +kernel
theorem dX0_giveBack_21 : decode cX0_giveBack 21 = .ok (.getfield 88, 3) := by decide +kernel
theorem dX0_giveBack_24 : decode cX0_giveBack 24 = .ok (.aload_n 3, 1) := by decide +kernel
theorem dX0_giveBack_25 : decode cX0_giveBack 25 = .ok (.getfield 131, 3) := by decide +kernel
theorem dX0_giveBack_28 : decode cX0_giveBack 28 = .ok (.aload_n 3, 1) := by decide +kernel
theorem dX0_giveBack_29 : decode cX0_giveBack 29 = .ok (.invokevirtual 126, 3) := by decide +kernel
theorem dX0_giveBack_32 : decode cX0_giveBack 32 = .ok (.aconst_null, 1) := by decide +kernel
theorem dX0_giveBack_33 : decode cX0_giveBack 33 = .ok (.invokevirtual 95, 3) := by decide +kernel
theorem dX0_giveBack_36 : decode cX0_giveBack 36 = .ok (.iinc 2 1, 3) := by decide +kernel
theorem dX0_giveBack_39 : decode cX0_giveBack 39 = .ok (.goto (-37), 3) := by decide +kernel
theorem dX0_giveBack_42 : decode cX0_giveBack 42 = .ok (.return_, 1) := by decide +kernel
theorem dX0_goOver_0 : decode cX0_goOver 0 = .ok (.iconst 0, 1) := by decide +kernel
theorem dX0_goOver_1 : decode cX0_goOver 1 = .ok (.istore_n 1, 1) := by decide +kernel
theorem dX0_goOver_2 : decode cX0_goOver 2 = .ok (.iload_n 1, 1) := by decide +kernel
theorem dX0_goOver_3 : decode cX0_goOver 3 = .ok (.aload_n 0, 1) := by decide +kernel
theorem dX0_goOver_4 : decode cX0_goOver 4 = .ok (.getfield 55, 3) := by decide +kernel
theorem dX0_goOver_7 : decode cX0_goOver 7 = .ok (.invokevirtual 82, 3) := by decide +kernel
theorem dX0_goOver_10 : decode cX0_goOver 10 = .ok (.if_icmp .ge 40, 3) := by decide +kernel
theorem dX0_goOver_13 : decode cX0_goOver 13 = .ok (.aload_n 0, 1) := by decide +kernel
theorem dX0_goOver_14 : decode cX0_goOver 14 = .ok (.getfield 55, 3) := by decide +kernel
theorem dX0_goOver_17 : decode cX0_goOver 17 = .ok (.iload_n 1, 1) := by decide +kernel
theorem dX0_goOver_18 : decode cX0_goOver 18 = .ok (.invokevirtual 123, 3) := by decide +kernel
theorem dX0_goOver_21 : decode cX0_goOver 21 = .ok (.astore_n 2, 1) := by decide +kernel
theorem dX0_goOver_22 : decode cX0_goOver 22 = .ok (.aload_n 2, 1) := by decide +kernel
theorem dX0_goOver_23 : decode cX0_goOver 23 = .ok (.ifnull 21, 3) := by decide +kernel
theorem dX0_goOver_26 : decode cX0_goOver 26 = .ok (.aload_n 2, 1) := by decide +kernel
theorem dX0_goOver_27 : decode cX0_goOver 27 = .ok (.aload_n 2, 1) := by decide +kernel
theorem dX0_goOver_28 : decode cX0_goOver 28 = .ok (.getfield 131, 3) := by decide +kernel
theorem dX0_goOver_31 : decode cX0_goOver 31 = .ok (.putfield 40, 3) := by decide +kernel
theorem dX0_goOver_34 : decode cX0_goOver 34 = .ok (.aload_n 0, 1) := by decide +kernel
theorem dX0_goOver_35 : decode cX0_goOver 35 = .ok (.dup, 1) := by decide +kernel
theorem dX0_goOver_36 : decode cX0_goOver 36 = .ok (.getfield 134, 3) := by decide +kernel
theorem dX0_goOver_39 : decode cX0_goOver 39 = .ok (.iconst 1, 1) := by decide +kernel
theorem dX0_goOver_40 : decode cX0_goOver 40 = .ok (.iadd, 1) := by decide +kernel
theorem dX0_goOver_41 : decode cX0_goOver 41 = .ok (.putfield 134, 3) := by decide +kernel
theorem dX0_goOver_44 : decode cX0_goOver 44 = .ok (.iinc 1 1, 3) := by decide +kernel
theorem dX0_goOver_47 : decode cX0_goOver 47 = .ok (.goto (-45), 3) := by decide +kernel
theorem dX0_goOver_50 : decode cX0_goOver 50 = .ok (.return_, 1) := by decide +kernel
theorem dX0_forget_0 : decode cX0_forget 0 = .ok (.aload_n 0, 1) := by decide +kernel
theorem dX0_forget_1 : decode cX0_forget 1 = .ok (.getfield 15, 3) := by decide +kernel
theorem dX0_forget_4 : decode cX0_forget 4 = .ok (.istore_n 1, 1) := by decide +kernel
theorem dX0_forget_5 : decode cX0_forget 5 = .ok (.iload_n 1, 1) := by decide +kernel
theorem dX0_forget_6 : decode cX0_forget 6 = .ok (.aload_n 0, 1) := by decide +kernel
theorem dX0_forget_7 : decode cX0_forget 7 = .ok (.getfield 88, 3) := by decide +kernel
theorem dX0_forget_10 : decode cX0_forget 10 = .ok (.invokevirtual 9, 3) := by decide +kernel
theorem dX0_forget_13 : decode cX0_forget 13 = .ok (.if_icmp .ge 27, 3) := by decide +kernel
theorem dX0_forget_16 : decode cX0_forget 16 = .ok (.aload_n 0, 1) := by decide +kernel
theorem dX0_forget_17 : decode cX0_forget 17 = .ok (.getfield 88, 3) := by decide +kernel
theorem dX0_forget_20 : decode cX0_forget 20 = .ok (.iload_n 1, 1) := by decide +kernel
theorem dX0_forget_21 : decode cX0_forget 21 = .ok (.invokevirtual 111, 3) := by decide +kernel
theorem dX0_forget_24 : decode cX0_forget 24 = .ok (.astore_n 2, 1) := by decide +kernel
theorem dX0_forget_25 : decode cX0_forget 25 = .ok (.aload_n 2, 1) := by decide +kernel
theorem dX0_forget_26 : decode cX0_forget 26 = .ok (.ifnull 8, 3) := by decide +kernel
theorem dX0_forget_29 : decode cX0_forget 29 = .ok (.aload_n 2, 1) := by decide +kernel
theorem dX0_forget_30 : decode cX0_forget 30 = .ok (.iconst 0, 1) := by decide +kernel
theorem dX0_forget_31 : decode cX0_forget 31 = .ok (.putfield 115, 3) := by decide +kernel
theorem dX0_forget_34 : decode cX0_forget 34 = .ok (.iinc 1 1, 3) := by decide +kernel
theorem dX0_forget_37 : decode cX0_forget 37 = .ok (.goto (-32), 3) := by decide +kernel
theorem dX0_forget_40 : decode cX0_forget 40 = .ok (.return_, 1) := by decide +kernel
theorem dX1_init_0 : decode cX1_init 0 = .ok (.aload_n 0, 1) := by decide +kernel
theorem dX1_init_1 : decode cX1_init 1 = .ok (.aload_n 1, 1) := by decide +kernel
theorem dX1_init_2 : decode cX1_init 2 = .ok (.aload_n 2, 1) := by decide +kernel
theorem dX1_init_3 : decode cX1_init 3 = .ok (.invokespecial 1, 3) := by decide +kernel
theorem dX1_init_6 : decode cX1_init 6 = .ok (.aload_n 0, 1) := by decide +kernel
theorem dX1_init_7 : decode cX1_init 7 = .ok (.aload_n 1, 1) := by decide +kernel
theorem dX1_init_8 : decode cX1_init 8 = .ok (.invokevirtual 7, 3) := by decide +kernel
theorem dX1_init_11 : decode cX1_init 11 = .ok (.iconst 2, 1) := by decide +kernel
theorem dX1_init_12 : decode cX1_init 12 = .ok (.idiv, 1) := by decide +kernel
theorem dX1_init_13 : decode cX1_init 13 = .ok (.putfield 13, 3) := by decide +kernel
theorem dX1_init_16 : decode cX1_init 16 = .ok (.aload_n 0, 1) := by decide +kernel
theorem dX1_init_17 : decode cX1_init 17 = .ok (.new 19, 3) := by decide +kernel
theorem dX1_init_20 : decode cX1_init 20 = .ok (.dup, 1) := by decide +kernel
theorem dX1_init_21 : decode cX1_init 21 = .ok (.iconst 0, 1) := by decide +kernel
theorem dX1_init_22 : decode cX1_init 22 = .ok (.aload_n 0, 1) := by decide +kernel
theorem dX1_init_23 : decode cX1_init 23 = .ok (.getfield 13, 3) := by decide +kernel
theorem dX1_init_26 : decode cX1_init 26 = .ok (.invokespecial 21, 3) := by decide +kernel
theorem dX1_init_29 : decode cX1_init 29 = .ok (.putfield 24, 3) := by decide +kernel
theorem dX1_init_32 : decode cX1_init 32 = .ok (.aload_n 0, 1) := by decide +kernel
theorem dX1_init_33 : decode cX1_init 33 = .ok (.iconst 0, 1) := by decide +kernel
theorem dX1_init_34 : decode cX1_init 34 = .ok (.putfield 28, 3) := by decide +kernel
theorem dX1_init_37 : decode cX1_init 37 = .ok (.return_, 1) := by decide +kernel
theorem dX1_take_0 : decode cX1_take 0 = .ok (.aload_n 0, 1) := by decide +kernel
theorem dX1_take_1 : decode cX1_take 1 = .ok (.getfield 24, 3) := by decide +kernel
theorem dX1_take_4 : decode cX1_take 4 = .ok (.iload_n 1, 1) := by decide +kernel
theorem dX1_take_5 : decode cX1_take 5 = .ok (.invokevirtual 31, 3) := by decide +kernel
theorem dX1_take_8 : decode cX1_take 8 = .ok (.ireturn, 1) := by decide +kernel
theorem dX1_clearRoomFor_0 : decode cX1_clearRoomFor 0 = .ok (.aload_n 0, 1) := by decide +kernel
theorem dX1_clearRoomFor_1 : decode cX1_clearRoomFor 1 = .ok (.invokevirtual 35, 3) := by decide +kernel
theorem dX1_clearRoomFor_4 : decode cX1_clearRoomFor 4 = .ok (.pop, 1) := by decide +kernel
theorem dX1_clearRoomFor_5 : decode cX1_clearRoomFor 5 = .ok (.return_, 1) := by decide +kernel
theorem dX1_gather_0 : decode cX1_gather 0 = .ok (.aload_n 0, 1) := by decide +kernel
theorem dX1_gather_1 : decode cX1_gather 1 = .ok (.dup, 1) := by decide +kernel
theorem dX1_gather_2 : decode cX1_gather 2 = .ok (.getfield 38, 3) := by decide +kernel
theorem dX1_gather_5 : decode cX1_gather 5 = .ok (.iconst 1, 1) := by decide +kernel
theorem dX1_gather_6 : decode cX1_gather 6 = .ok (.iadd, 1) := by decide +kernel
theorem dX1_gather_7 : decode cX1_gather 7 = .ok (.putfield 38, 3) := by decide +kernel
theorem dX1_gather_10 : decode cX1_gather 10 = .ok (.aload_n 0, 1) := by decide +kernel
theorem dX1_gather_11 : decode cX1_gather 11 = .ok (.getfield 41, 3) := by decide +kernel
theorem dX1_gather_14 : decode cX1_gather 14 = .ok (.aload_n 0, 1) := by decide +kernel
theorem dX1_gather_15 : decode cX1_gather 15 = .ok (.getfield 41, 3) := by decide +kernel
theorem dX1_gather_18 : decode cX1_gather 18 = .ok (.invokevirtual 7, 3) := by decide +kernel
theorem dX1_gather_21 : decode cX1_gather 21 = .ok (.invokevirtual 45, 3) := by decide +kernel
theorem dX1_gather_24 : decode cX1_gather 24 = .ok (.istore_n 1, 1) := by decide +kernel
theorem dX1_gather_25 : decode cX1_gather 25 = .ok (.aload_n 0, 1) := by decide +kernel
theorem dX1_gather_26 : decode cX1_gather 26 = .ok (.invokevirtual 48, 3) := by decide +kernel
theorem dX1_gather_29 : decode cX1_gather 29 = .ok (.aload_n 0, 1) := by decide +kernel
theorem dX1_gather_30 : decode cX1_gather 30 = .ok (.getfield 41, 3) := by decide +kernel
theorem dX1_gather_33 : decode cX1_gather 33 = .ok (.iconst 0, 1) := by decide +kernel
theorem dX1_gather_34 : decode cX1_gather 34 = .ok (.aload_n 0, 1) := by decide +kernel
theorem dX1_gather_35 : decode cX1_gather 35 = .ok (.getfield 41, 3) := by decide +kernel
theorem dX1_gather_38 : decode cX1_gather 38 = .ok (.invokevirtual 7, 3) := by decide +kernel
theorem dX1_gather_41 : decode cX1_gather 41 = .ok (.aconst_null, 1) := by decide +kernel
theorem dX1_gather_42 : decode cX1_gather 42 = .ok (.invokevirtual 52, 3) := by decide +kernel
theorem dX1_gather_45 : decode cX1_gather 45 = .ok (.aload_n 0, 1) := by decide +kernel
theorem dX1_gather_46 : decode cX1_gather 46 = .ok (.aload_n 0, 1) := by decide +kernel
theorem dX1_gather_47 : decode cX1_gather 47 = .ok (.getfield 28, 3) := by decide +kernel
theorem dX1_gather_50 : decode cX1_gather 50 = .ok (.ifCond .ne 10, 3) := by decide +kernel
theorem dX1_gather_53 : decode cX1_gather 53 = .ok (.aload_n 0, 1) := by decide +kernel
theorem dX1_gather_54 : decode cX1_gather 54 = .ok (.getfield 13, 3) := by decide +kernel
theorem dX1_gather_57 : decode cX1_gather 57 = .ok (.goto 4, 3) := by decide +kernel
theorem dX1_gather_60 : decode cX1_gather 60 = .ok (.iconst 0, 1) := by decide +kernel
theorem dX1_gather_61 : decode cX1_gather 61 = .ok (.putfield 28, 3) := by decide +kernel
theorem dX1_gather_64 : decode cX1_gather 64 = .ok (.aload_n 0, 1) := by decide +kernel
theorem dX1_gather_65 : decode cX1_gather 65 = .ok (.getfield 24, 3) := by decide +kernel
theorem dX1_gather_68 : decode cX1_gather 68 = .ok (.aload_n 0, 1) := by decide +kernel
theorem dX1_gather_69 : decode cX1_gather 69 = .ok (.getfield 28, 3) := by decide +kernel
theorem dX1_gather_72 : decode cX1_gather 72 = .ok (.aload_n 0, 1) := by decide +kernel
theorem dX1_gather_73 : decode cX1_gather 73 = .ok (.getfield 13, 3) := by decide +kernel
theorem dX1_gather_76 : decode cX1_gather 76 = .ok (.invokevirtual 56, 3) := by decide +kernel
theorem dX1_gather_79 : decode cX1_gather 79 = .ok (.iconst 0, 1) := by decide +kernel
theorem dX1_gather_80 : decode cX1_gather 80 = .ok (.istore_n 2, 1) := by decide +kernel
theorem dX1_gather_81 : decode cX1_gather 81 = .ok (.iload_n 2, 1) := by decide +kernel
theorem dX1_gather_82 : decode cX1_gather 82 = .ok (.aload_n 0, 1) := by decide +kernel
theorem dX1_gather_83 : decode cX1_gather 83 = .ok (.getfield 59, 3) := by decide +kernel
theorem dX1_gather_86 : decode cX1_gather 86 = .ok (.invokevirtual 63, 3) := by decide +kernel
theorem dX1_gather_89 : decode cX1_gather 89 = .ok (.if_icmp .ge 51, 3) := by decide +kernel
theorem dX1_gather_92 : decode cX1_gather 92 = .ok (.aload_n 0, 1) := by decide +kernel
theorem dX1_gather_93 : decode cX1_gather 93 = .ok (.getfield 59, 3) := by decide +kernel
theorem dX1_gather_96 : decode cX1_gather 96 = .ok (.iload_n 2, 1) := by decide +kernel
theorem dX1_gather_97 : decode cX1_gather 97 = .ok (.invokevirtual 68, 3) := by decide +kernel
theorem dX1_gather_100 : decode cX1_gather 100 = .ok (.astore_n 3, 1) := by decide +kernel
theorem dX1_gather_101 : decode cX1_gather 101 = .ok (.aload_n 3, 1) := by decide +kernel
theorem dX1_gather_102 : decode cX1_gather 102 = .ok (.ifnull 32, 3) := by decide +kernel
theorem dX1_gather_105 : decode cX1_gather 105 = .ok (.aload_n 0, 1) := by decide +kernel
theorem dX1_gather_106 : decode cX1_gather 106 = .ok (.getfield 41, 3) := by decide +kernel
theorem dX1_gather_109 : decode cX1_gather 109 = .ok (.aload_n 3, 1) := by decide +kernel
theorem dX1_gather_110 : decode cX1_gather 110 = .ok (.aload_n 0, 1) := by decide +kernel
theorem dX1_gather_111 : decode cX1_gather 111 = .ok (.getfield 24, 3) := by decide +kernel
theorem dX1_gather_114 : decode cX1_gather 114 = .ok (.aload_n 3, 1) := by decide +kernel
theorem dX1_gather_115 : decode cX1_gather 115 = .ok (.invokevirtual 72, 3) := by decide +kernel
theorem dX1_gather_118 : decode cX1_gather 118 = .ok (.invokevirtual 31, 3) := by decide +kernel
theorem dX1_gather_121 : decode cX1_gather 121 = .ok (.invokevirtual 75, 3) := by decide +kernel
theorem dX1_gather_124 : decode cX1_gather 124 = .ok (.aload_n 0, 1) := by decide +kernel
theorem dX1_gather_125 : decode cX1_gather 125 = .ok (.dup, 1) := by decide +kernel
theorem dX1_gather_126 : decode cX1_gather 126 = .ok (.getfield 79, 3) := by decide +kernel
theorem dX1_gather_129 : decode cX1_gather 129 = .ok (.iconst 1, 1) := by decide +kernel
theorem dX1_gather_130 : decode cX1_gather 130 = .ok (.iadd, 1) := by decide +kernel
theorem dX1_gather_131 : decode cX1_gather 131 = .ok (.putfield 79, 3) := by decide +kernel
theorem dX1_gather_134 : decode cX1_gather 134 = .ok (.iinc 2 1, 3) := by decide +kernel
theorem dX1_gather_137 : decode cX1_gather 137 = .ok (.goto (-56), 3) := by decide +kernel
theorem dX1_gather_140 : decode cX1_gather 140 = .ok (.iload_n 1, 1) := by decide +kernel
theorem dX1_gather_141 : decode cX1_gather 141 = .ok (.aload_n 0, 1) := by decide +kernel
theorem dX1_gather_142 : decode cX1_gather 142 = .ok (.getfield 59, 3) := by decide +kernel
theorem dX1_gather_145 : decode cX1_gather 145 = .ok (.invokevirtual 63, 3) := by decide +kernel
theorem dX1_gather_148 : decode cX1_gather 148 = .ok (.isub, 1) := by decide +kernel
theorem dX1_gather_149 : decode cX1_gather 149 = .ok (.ireturn, 1) := by decide +kernel
theorem dX2_init_0 : decode cX2_init 0 = .ok (.aload_n 0, 1) := by decide +kernel
theorem dX2_init_1 : decode cX2_init 1 = .ok (.invokespecial 3, 3) := by decide +kernel
theorem dX2_init_4 : decode cX2_init 4 = .ok (.aload_n 0, 1) := by decide +kernel
theorem dX2_init_5 : decode cX2_init 5 = .ok (.aload_n 1, 1) := by decide +kernel
theorem dX2_init_6 : decode cX2_init 6 = .ok (.putfield 9, 3) := by decide +kernel
theorem dX2_init_9 : decode cX2_init 9 = .ok (.aload_n 0, 1) := by decide +kernel
theorem dX2_init_10 : decode cX2_init 10 = .ok (.aload_n 2, 1) := by decide +kernel
theorem dX2_init_11 : decode cX2_init 11 = .ok (.putfield 15, 3) := by decide +kernel
theorem dX2_init_14 : decode cX2_init 14 = .ok (.aload_n 0, 1) := by decide +kernel
theorem dX2_init_15 : decode cX2_init 15 = .ok (.new 19, 3) := by decide +kernel
theorem dX2_init_18 : decode cX2_init 18 = .ok (.dup, 1) := by decide +kernel
theorem dX2_init_19 : decode cX2_init 19 = .ok (.aload_n 1, 1) := by decide +kernel
theorem dX2_init_20 : decode cX2_init 20 = .ok (.invokevirtual 21, 3) := by decide +kernel
theorem dX2_init_23 : decode cX2_init 23 = .ok (.invokespecial 27, 3) := by decide +kernel
theorem dX2_init_26 : decode cX2_init 26 = .ok (.putfield 30, 3) := by decide +kernel
theorem dX2_init_29 : decode cX2_init 29 = .ok (.aload_n 0, 1) := by decide +kernel
theorem dX2_init_30 : decode cX2_init 30 = .ok (.iconst 0, 1) := by decide +kernel
theorem dX2_init_31 : decode cX2_init 31 = .ok (.putfield 34, 3) := by decide +kernel
theorem dX2_init_34 : decode cX2_init 34 = .ok (.aload_n 0, 1) := by decide +kernel
theorem dX2_init_35 : decode cX2_init 35 = .ok (.iconst 0, 1) := by decide +kernel
theorem dX2_init_36 : decode cX2_init 36 = .ok (.putfield 38, 3) := by decide +kernel
theorem dX2_init_39 : decode cX2_init 39 = .ok (.aload_n 0, 1) := by decide +kernel
theorem dX2_init_40 : decode cX2_init 40 = .ok (.iconst 0, 1) := by decide +kernel
theorem dX2_init_41 : decode cX2_init 41 = .ok (.putfield 41, 3) := by decide +kernel
theorem dX2_init_44 : decode cX2_init 44 = .ok (.return_, 1) := by decide +kernel
theorem dX2_gatherYoung_0 : decode cX2_gatherYoung 0 = .ok (.bipush (-2), 2) := by decide +kernel
theorem dX2_gatherYoung_2 : decode cX2_gatherYoung 2 = .ok (.ireturn, 1) := by decide +kernel
theorem dX2_isOld_0 : decode cX2_isOld 0 = .ok (.iconst 0, 1) := by decide +kernel
theorem dX2_isOld_1 : decode cX2_isOld 1 = .ok (.ireturn, 1) := by decide +kernel
theorem dX2_reachedThings_0 : decode cX2_reachedThings 0 = .ok (.aload_n 0, 1) := by decide +kernel
theorem dX2_reachedThings_1 : decode cX2_reachedThings 1 = .ok (.invokevirtual 44, 3) := by decide +kernel
theorem dX2_reachedThings_4 : decode cX2_reachedThings 4 = .ok (.aload_n 0, 1) := by decide +kernel
theorem dX2_reachedThings_5 : decode cX2_reachedThings 5 = .ok (.getfield 30, 3) := by decide +kernel
theorem dX2_reachedThings_8 : decode cX2_reachedThings 8 = .ok (.invokevirtual 47, 3) := by decide +kernel
theorem dX2_reachedThings_11 : decode cX2_reachedThings 11 = .ok (.ireturn, 1) := by decide +kernel
theorem dX2_walkFromRoots_0 : decode cX2_walkFromRoots 0 = .ok (.aload_n 0, 1) := by decide +kernel
theorem dX2_walkFromRoots_1 : decode cX2_walkFromRoots 1 = .ok (.getfield 30, 3) := by decide +kernel
theorem dX2_walkFromRoots_4 : decode cX2_walkFromRoots 4 = .ok (.aload_n 0, 1) := by decide +kernel
theorem dX2_walkFromRoots_5 : decode cX2_walkFromRoots 5 = .ok (.getfield 9, 3) := by decide +kernel
theorem dX2_walkFromRoots_8 : decode cX2_walkFromRoots 8 = .ok (.invokevirtual 21, 3) := by decide +kernel
theorem dX2_walkFromRoots_11 : decode cX2_walkFromRoots 11 = .ok (.invokevirtual 50, 3) := by decide +kernel
theorem dX2_walkFromRoots_14 : decode cX2_walkFromRoots 14 = .ok (.aload_n 0, 1) := by decide +kernel
theorem dX2_walkFromRoots_15 : decode cX2_walkFromRoots 15 = .ok (.getfield 30, 3) := by decide +kernel
theorem dX2_walkFromRoots_18 : decode cX2_walkFromRoots 18 = .ok (.aload_n 0, 1) := by decide +kernel
theorem dX2_walkFromRoots_19 : decode cX2_walkFromRoots 19 = .ok (.getfield 15, 3) := by decide +kernel
theorem dX2_walkFromRoots_22 : decode cX2_walkFromRoots 22 = .ok (.invokevirtual 53, 3) := by decide +kernel
theorem dX2_walkFromRoots_25 : decode cX2_walkFromRoots 25 = .ok (.aload_n 0, 1) := by decide +kernel
theorem dX2_walkFromRoots_26 : decode cX2_walkFromRoots 26 = .ok (.getfield 30, 3) := by decide +kernel
theorem dX2_walkFromRoots_29 : decode cX2_walkFromRoots 29 = .ok (.invokevirtual 57, 3) := by decide +kernel
theorem dX2_walkFromRoots_32 : decode cX2_walkFromRoots 32 = .ok (.return_, 1) := by decide +kernel
theorem dX2_sweepFrom_0 : decode cX2_sweepFrom 0 = .ok (.iconst 0, 1) := by decide +kernel
theorem dX2_sweepFrom_1 : decode cX2_sweepFrom 1 = .ok (.istore_n 2, 1) := by decide +kernel
theorem dX2_sweepFrom_2 : decode cX2_sweepFrom 2 = .ok (.iload_n 1, 1) := by decide +kernel
theorem dX2_sweepFrom_3 : decode cX2_sweepFrom 3 = .ok (.istore_n 3, 1) := by decide +kernel
theorem dX2_sweepFrom_4 : decode cX2_sweepFrom 4 = .ok (.iload_n 3, 1) := by decide +kernel
theorem dX2_sweepFrom_5 : decode cX2_sweepFrom 5 = .ok (.aload_n 0, 1) := by decide +kernel
theorem dX2_sweepFrom_6 : decode cX2_sweepFrom 6 = .ok (.getfield 9, 3) := by decide +kernel
theorem dX2_sweepFrom_9 : decode cX2_sweepFrom 9 = .ok (.invokevirtual 21, 3) := by decide +kernel
theorem dX2_sweepFrom_12 : decode cX2_sweepFrom 12 = .ok (.if_icmp .ge 53, 3) := by decide +kernel
theorem dX2_sweepFrom_15 : decode cX2_sweepFrom 15 = .ok (.aload_n 0, 1) := by decide +kernel
theorem dX2_sweepFrom_16 : decode cX2_sweepFrom 16 = .ok (.getfield 9, 3) := by decide +kernel
theorem dX2_sweepFrom_19 : decode cX2_sweepFrom 19 = .ok (.iload_n 3, 1) := by decide +kernel
theorem dX2_sweepFrom_20 : decode cX2_sweepFrom 20 = .ok (.invokevirtual 60, 3) := by decide +kernel
theorem dX2_sweepFrom_23 : decode cX2_sweepFrom 23 = .ok (.astore 4, 2) := by decide +kernel
theorem dX2_sweepFrom_25 : decode cX2_sweepFrom 25 = .ok (.aload 4, 2) := by decide +kernel
theorem dX2_sweepFrom_27 : decode cX2_sweepFrom 27 = .ok (.ifnull 32, 3) := by decide +kernel
theorem dX2_sweepFrom_30 : decode cX2_sweepFrom 30 = .ok (.aload_n 0, 1) := by decide +kernel
theorem dX2_sweepFrom_31 : decode cX2_sweepFrom 31 = .ok (.getfield 30, 3) := by decide +kernel
theorem dX2_sweepFrom_34 : decode cX2_sweepFrom 34 = .ok (.aload 4, 2) := by decide +kernel
theorem dX2_sweepFrom_36 : decode cX2_sweepFrom 36 = .ok (.invokevirtual 64, 3) := by decide +kernel
theorem dX2_sweepFrom_39 : decode cX2_sweepFrom 39 = .ok (.ifCond .ne 20, 3) := by decide +kernel
theorem dX2_sweepFrom_42 : decode cX2_sweepFrom 42 = .ok (.aload_n 0, 1) := by decide +kernel
theorem dX2_sweepFrom_43 : decode cX2_sweepFrom 43 = .ok (.getfield 9, 3) := by decide +kernel
theorem dX2_sweepFrom_46 : decode cX2_sweepFrom 46 = .ok (.iload_n 3, 1) := by decide +kernel
theorem dX2_sweepFrom_47 : decode cX2_sweepFrom 47 = .ok (.aload 4, 2) := by decide +kernel
theorem dX2_sweepFrom_49 : decode cX2_sweepFrom 49 = .ok (.invokevirtual 68, 3) := by decide +kernel
theorem dX2_sweepFrom_52 : decode cX2_sweepFrom 52 = .ok (.aconst_null, 1) := by decide +kernel
theorem dX2_sweepFrom_53 : decode cX2_sweepFrom 53 = .ok (.invokevirtual 71, 3) := by decide +kernel
theorem dX2_sweepFrom_56 : decode cX2_sweepFrom 56 = .ok (.iinc 2 1, 3) := by decide +kernel
theorem dX2_sweepFrom_59 : decode cX2_sweepFrom 59 = .ok (.iinc 3 1, 3) := by decide +kernel
theorem dX2_sweepFrom_62 : decode cX2_sweepFrom 62 = .ok (.goto (-58), 3) := by decide +kernel
theorem dX2_sweepFrom_65 : decode cX2_sweepFrom 65 = .ok (.iload_n 2, 1) := by decide +kernel
theorem dX2_sweepFrom_66 : decode cX2_sweepFrom 66 = .ok (.ireturn, 1) := by decide +kernel
theorem dX2_sumFrom_0 : decode cX2_sumFrom 0 = .ok (.aload_n 0, 1) := by decide +kernel
theorem dX2_sumFrom_1 : decode cX2_sumFrom 1 = .ok (.getfield 30, 3) := by decide +kernel
theorem dX2_sumFrom_4 : decode cX2_sumFrom 4 = .ok (.aload_n 0, 1) := by decide +kernel
theorem dX2_sumFrom_5 : decode cX2_sumFrom 5 = .ok (.getfield 9, 3) := by decide +kernel
theorem dX2_sumFrom_8 : decode cX2_sumFrom 8 = .ok (.invokevirtual 21, 3) := by decide +kernel
theorem dX2_sumFrom_11 : decode cX2_sumFrom 11 = .ok (.invokevirtual 50, 3) := by decide +kernel
theorem dX2_sumFrom_14 : decode cX2_sumFrom 14 = .ok (.aload_n 0, 1) := by decide +kernel
theorem dX2_sumFrom_15 : decode cX2_sumFrom 15 = .ok (.getfield 30, 3) := by decide +kernel
theorem dX2_sumFrom_18 : decode cX2_sumFrom 18 = .ok (.aload_n 1, 1) := by decide +kernel
theorem dX2_sumFrom_19 : decode cX2_sumFrom 19 = .ok (.invokevirtual 75, 3) := by decide +kernel
theorem dX2_sumFrom_22 : decode cX2_sumFrom 22 = .ok (.aload_n 0, 1) := by decide +kernel
theorem dX2_sumFrom_23 : decode cX2_sumFrom 23 = .ok (.getfield 30, 3) := by decide +kernel
theorem dX2_sumFrom_26 : decode cX2_sumFrom 26 = .ok (.invokevirtual 57, 3) := by decide +kernel
theorem dX2_sumFrom_29 : decode cX2_sumFrom 29 = .ok (.ldc2_w 79, 3) := by decide +kernel
theorem dX2_sumFrom_32 : decode cX2_sumFrom 32 = .ok (.lstore_n 2, 1) := by decide +kernel
theorem dX2_sumFrom_33 : decode cX2_sumFrom 33 = .ok (.iconst 0, 1) := by decide +kernel
theorem dX2_sumFrom_34 : decode cX2_sumFrom 34 = .ok (.istore 4, 2) := by decide +kernel
theorem dX2_sumFrom_36 : decode cX2_sumFrom 36 = .ok (.iload 4, 2) := by decide +kernel
theorem dX2_sumFrom_38 : decode cX2_sumFrom 38 = .ok (.aload_n 0, 1) := by decide +kernel
theorem dX2_sumFrom_39 : decode cX2_sumFrom 39 = .ok (.getfield 30, 3) := by decide +kernel
theorem dX2_sumFrom_42 : decode cX2_sumFrom 42 = .ok (.invokevirtual 47, 3) := by decide +kernel
theorem dX2_sumFrom_45 : decode cX2_sumFrom 45 = .ok (.if_icmp .ge 32, 3) := by decide +kernel
theorem dX2_sumFrom_48 : decode cX2_sumFrom 48 = .ok (.aload_n 0, 1) := by decide +kernel
theorem dX2_sumFrom_49 : decode cX2_sumFrom 49 = .ok (.getfield 30, 3) := by decide +kernel
theorem dX2_sumFrom_52 : decode cX2_sumFrom 52 = .ok (.iload 4, 2) := by decide +kernel
theorem dX2_sumFrom_54 : decode cX2_sumFrom 54 = .ok (.invokevirtual 81, 3) := by decide +kernel
theorem dX2_sumFrom_57 : decode cX2_sumFrom 57 = .ok (.astore 5, 2) := by decide +kernel
theorem dX2_sumFrom_59 : decode cX2_sumFrom 59 = .ok (.aload 5, 2) := by decide +kernel
theorem dX2_sumFrom_61 : decode cX2_sumFrom 61 = .ok (.ifnull 10, 3) := by decide +kernel
theorem dX2_sumFrom_64 : decode cX2_sumFrom 64 = .ok (.lload_n 2, 1) := by decide +kernel
theorem dX2_sumFrom_65 : decode cX2_sumFrom 65 = .ok (.aload 5, 2) := by decide +kernel
theorem dX2_sumFrom_67 : decode cX2_sumFrom 67 = .ok (.invokestatic 84, 3) := by decide +kernel
theorem dX2_sumFrom_70 : decode cX2_sumFrom 70 = .ok (.lstore_n 2, 1) := by decide +kernel
theorem dX2_sumFrom_71 : decode cX2_sumFrom 71 = .ok (.iinc 4 1, 3) := by decide +kernel
theorem dX2_sumFrom_74 : decode cX2_sumFrom 74 = .ok (.goto (-38), 3) := by decide +kernel
theorem dX2_sumFrom_77 : decode cX2_sumFrom 77 = .ok (.lload_n 2, 1) := by decide +kernel
theorem dX2_sumFrom_78 : decode cX2_sumFrom 78 = .ok (.lreturn, 1) := by decide +kernel
theorem dX2_sumWith_0 : decode cX2_sumWith 0 = .ok (.ldc2_w 88, 3) := by decide +kernel
theorem dX2_sumWith_3 : decode cX2_sumWith 3 = .ok (.lload_n 0, 1) := by decide +kernel
theorem dX2_sumWith_4 : decode cX2_sumWith 4 = .ok (.lmul, 1) := by decide +kernel
theorem dX2_sumWith_5 : decode cX2_sumWith 5 = .ok (.aload_n 2, 1) := by decide +kernel
theorem dX2_sumWith_6 : decode cX2_sumWith 6 = .ok (.invokevirtual 90, 3) := by decide +kernel
theorem dX2_sumWith_9 : decode cX2_sumWith 9 = .ok (.i2l, 1) := by decide +kernel
theorem dX2_sumWith_10 : decode cX2_sumWith 10 = .ok (.ladd, 1) := by decide +kernel
theorem dX2_sumWith_11 : decode cX2_sumWith 11 = .ok (.lstore_n 3, 1) := by decide +kernel
theorem dX2_sumWith_12 : decode cX2_sumWith 12 = .ok (.iconst 0, 1) := by decide +kernel
theorem dX2_sumWith_13 : decode cX2_sumWith 13 = .ok (.istore 5, 2) := by decide +kernel
theorem dX2_sumWith_15 : decode cX2_sumWith 15 = .ok (.iload 5, 2) := by decide +kernel
theorem dX2_sumWith_17 : decode cX2_sumWith 17 = .ok (.aload_n 2, 1) := by decide +kernel
theorem dX2_sumWith_18 : decode cX2_sumWith 18 = .ok (.invokevirtual 90, 3) := by decide +kernel
theorem dX2_sumWith_21 : decode cX2_sumWith 21 = .ok (.if_icmp .ge 59, 3) := by decide +kernel
theorem dX2_sumWith_24 : decode cX2_sumWith 24 = .ok (.aload_n 2, 1) := by decide +kernel
theorem dX2_sumWith_25 : decode cX2_sumWith 25 = .ok (.iload 5, 2) := by decide +kernel
theorem dX2_sumWith_27 : decode cX2_sumWith 27 = .ok (.invokevirtual 93, 3) := by decide +kernel
theorem dX2_sumWith_30 : decode cX2_sumWith 30 = .ok (.astore 6, 2) := by decide +kernel
theorem dX2_sumWith_32 : decode cX2_sumWith 32 = .ok (.aload 6, 2) := by decide +kernel
theorem dX2_sumWith_34 : decode cX2_sumWith 34 = .ok (.ifnonnull 17, 3) := by decide +kernel
theorem dX2_sumWith_37 : decode cX2_sumWith 37 = .ok (.ldc2_w 96, 3) := by decide +kernel
theorem dX2_sumWith_40 : decode cX2_sumWith 40 = .ok (.aload_n 2, 1) := by decide +kernel
theorem dX2_sumWith_41 : decode cX2_sumWith 41 = .ok (.iload 5, 2) := by decide +kernel
theorem dX2_sumWith_43 : decode cX2_sumWith 43 = .ok (.invokevirtual 98, 3) := by decide +kernel
theorem dX2_sumWith_46 : decode cX2_sumWith 46 = .ok (.i2l, 1) := by decide +kernel
theorem dX2_sumWith_47 : decode cX2_sumWith 47 = .ok (.lmul, 1) := by decide +kernel
theorem dX2_sumWith_48 : decode cX2_sumWith 48 = .ok (.goto 15, 3) := by decide +kernel
theorem dX2_sumWith_51 : decode cX2_sumWith 51 = .ok (.ldc2_w 96, 3) := by decide +kernel
theorem dX2_sumWith_54 : decode cX2_sumWith 54 = .ok (.aload 6, 2) := by decide +kernel
theorem dX2_sumWith_56 : decode cX2_sumWith 56 = .ok (.getfield 102, 3) := by decide +kernel
theorem dX2_sumWith_59 : decode cX2_sumWith 59 = .ok (.i2l, 1) := by decide +kernel
theorem dX2_sumWith_60 : decode cX2_sumWith 60 = .ok (.lmul, 1) := by decide +kernel
theorem dX2_sumWith_61 : decode cX2_sumWith 61 = .ok (.lconst 1, 1) := by decide +kernel
theorem dX2_sumWith_62 : decode cX2_sumWith 62 = .ok (.ladd, 1) := by decide +kernel
theorem dX2_sumWith_63 : decode cX2_sumWith 63 = .ok (.lstore 7, 2) := by decide +kernel
theorem dX2_sumWith_65 : decode cX2_sumWith 65 = .ok (.ldc2_w 88, 3) := by decide +kernel
theorem dX2_sumWith_68 : decode cX2_sumWith 68 = .ok (.lload_n 3, 1) := by decide +kernel
theorem dX2_sumWith_69 : decode cX2_sumWith 69 = .ok (.lmul, 1) := by decide +kernel
theorem dX2_sumWith_70 : decode cX2_sumWith 70 = .ok (.lload 7, 2) := by decide +kernel
theorem dX2_sumWith_72 : decode cX2_sumWith 72 = .ok (.ladd, 1) := by decide +kernel
theorem dX2_sumWith_73 : decode cX2_sumWith 73 = .ok (.lstore_n 3, 1) := by decide +kernel
theorem dX2_sumWith_74 : decode cX2_sumWith 74 = .ok (.iinc 5 1, 3) := by decide +kernel
theorem dX2_sumWith_77 : decode cX2_sumWith 77 = .ok (.goto (-62), 3) := by decide +kernel
theorem dX2_sumWith_80 : decode cX2_sumWith 80 = .ok (.lload_n 3, 1) := by decide +kernel
theorem dX2_sumWith_81 : decode cX2_sumWith 81 = .ok (.lreturn, 1) := by decide +kernel
theorem dX3_init_0 : decode cX3_init 0 = .ok (.aload_n 0, 1) := by decide +kernel
theorem dX3_init_1 : decode cX3_init 1 = .ok (.invokespecial 3, 3) := by decide +kernel
theorem dX3_init_4 : decode cX3_init 4 = .ok (.aload_n 0, 1) := by decide +kernel
theorem dX3_init_5 : decode cX3_init 5 = .ok (.iload_n 1, 1) := by decide +kernel
theorem dX3_init_6 : decode cX3_init 6 = .ok (.putfield 9, 3) := by decide +kernel
theorem dX3_init_9 : decode cX3_init 9 = .ok (.aload_n 0, 1) := by decide +kernel
theorem dX3_init_10 : decode cX3_init 10 = .ok (.iload_n 1, 1) := by decide +kernel
theorem dX3_init_11 : decode cX3_init 11 = .ok (.iload_n 2, 1) := by decide +kernel
theorem dX3_init_12 : decode cX3_init 12 = .ok (.iadd, 1) := by decide +kernel
theorem dX3_init_13 : decode cX3_init 13 = .ok (.putfield 15, 3) := by decide +kernel
theorem dX3_init_16 : decode cX3_init 16 = .ok (.return_, 1) := by decide +kernel
theorem dX3_restart_0 : decode cX3_restart 0 = .ok (.aload_n 0, 1) := by decide +kernel
theorem dX3_restart_1 : decode cX3_restart 1 = .ok (.iload_n 1, 1) := by decide +kernel
theorem dX3_restart_2 : decode cX3_restart 2 = .ok (.putfield 9, 3) := by decide +kernel
theorem dX3_restart_5 : decode cX3_restart 5 = .ok (.aload_n 0, 1) := by decide +kernel
theorem dX3_restart_6 : decode cX3_restart 6 = .ok (.iload_n 1, 1) := by decide +kernel
theorem dX3_restart_7 : decode cX3_restart 7 = .ok (.iload_n 2, 1) := by decide +kernel
theorem dX3_restart_8 : decode cX3_restart 8 = .ok (.iadd, 1) := by decide +kernel
theorem dX3_restart_9 : decode cX3_restart 9 = .ok (.putfield 15, 3) := by decide +kernel
theorem dX3_restart_12 : decode cX3_restart 12 = .ok (.return_, 1) := by decide +kernel
theorem dX3_take_0 : decode cX3_take 0 = .ok (.aload_n 0, 1) := by decide +kernel
theorem dX3_take_1 : decode cX3_take 1 = .ok (.getfield 9, 3) := by decide +kernel
theorem dX3_take_4 : decode cX3_take 4 = .ok (.iload_n 1, 1) := by decide +kernel
theorem dX3_take_5 : decode cX3_take 5 = .ok (.iadd, 1) := by decide +kernel
theorem dX3_take_6 : decode cX3_take 6 = .ok (.aload_n 0, 1) := by decide +kernel
theorem dX3_take_7 : decode cX3_take 7 = .ok (.getfield 15, 3) := by decide +kernel
theorem dX3_take_10 : decode cX3_take 10 = .ok (.if_icmp .le 5, 3) := by decide +kernel
theorem dX3_take_13 : decode cX3_take 13 = .ok (.iconst (-1), 1) := by decide +kernel
theorem dX3_take_14 : decode cX3_take 14 = .ok (.ireturn, 1) := by decide +kernel
theorem dX3_take_15 : decode cX3_take 15 = .ok (.aload_n 0, 1) := by decide +kernel
theorem dX3_take_16 : decode cX3_take 16 = .ok (.getfield 9, 3) := by decide +kernel
theorem dX3_take_19 : decode cX3_take 19 = .ok (.istore_n 2, 1) := by decide +kernel
theorem dX3_take_20 : decode cX3_take 20 = .ok (.aload_n 0, 1) := by decide +kernel
theorem dX3_take_21 : decode cX3_take 21 = .ok (.dup, 1) := by decide +kernel
theorem dX3_take_22 : decode cX3_take 22 = .ok (.getfield 9, 3) := by decide +kernel
theorem dX3_take_25 : decode cX3_take 25 = .ok (.iload_n 1, 1) := by decide +kernel
theorem dX3_take_26 : decode cX3_take 26 = .ok (.iadd, 1) := by decide +kernel
theorem dX3_take_27 : decode cX3_take 27 = .ok (.putfield 9, 3) := by decide +kernel
theorem dX3_take_30 : decode cX3_take 30 = .ok (.iload_n 2, 1) := by decide +kernel
theorem dX3_take_31 : decode cX3_take 31 = .ok (.ireturn, 1) := by decide +kernel
theorem dX4_init_0 : decode cX4_init 0 = .ok (.aload_n 0, 1) := by decide +kernel
theorem dX4_init_1 : decode cX4_init 1 = .ok (.invokespecial 3, 3) := by decide +kernel
theorem dX4_init_4 : decode cX4_init 4 = .ok (.aload_n 0, 1) := by decide +kernel
theorem dX4_init_5 : decode cX4_init 5 = .ok (.bipush 16, 2) := by decide +kernel
theorem dX4_init_7 : decode cX4_init 7 = .ok (.anewarray 9, 3) := by decide +kernel
theorem dX4_init_10 : decode cX4_init 10 = .ok (.putfield 11, 3) := by decide +kernel
theorem dX4_init_13 : decode cX4_init 13 = .ok (.return_, 1) := by decide +kernel
theorem dX4_has_0 : decode cX4_has 0 = .ok (.iload_n 1, 1) := by decide +kernel
theorem dX4_has_1 : decode cX4_has 1 = .ok (.ifCond .lt 16, 3) := by decide +kernel
theorem dX4_has_4 : decode cX4_has 4 = .ok (.iload_n 1, 1) := by decide +kernel
theorem dX4_has_5 : decode cX4_has 5 = .ok (.aload_n 0, 1) := by decide +kernel
theorem dX4_has_6 : decode cX4_has 6 = .ok (.getfield 11, 3) := by decide +kernel
theorem dX4_has_9 : decode cX4_has 9 = .ok (.arraylength, 1) := by decide +kernel
theorem dX4_has_10 : decode cX4_has 10 = .ok (.if_icmp .ge 7, 3) := by decide +kernel
theorem dX4_has_13 : decode cX4_has 13 = .ok (.iconst 1, 1) := by decide +kernel
theorem dX4_has_14 : decode cX4_has 14 = .ok (.goto 4, 3) := by decide +kernel
theorem dX4_has_17 : decode cX4_has 17 = .ok (.iconst 0, 1) := by decide +kernel
theorem dX4_has_18 : decode cX4_has 18 = .ok (.ireturn, 1) := by decide +kernel
theorem dX4_thingOf_0 : decode cX4_thingOf 0 = .ok (.aload_n 0, 1) := by decide +kernel
theorem dX4_thingOf_1 : decode cX4_thingOf 1 = .ok (.iload_n 1, 1) := by decide +kernel
theorem dX4_thingOf_2 : decode cX4_thingOf 2 = .ok (.invokevirtual 17, 3) := by decide +kernel
theorem dX4_thingOf_5 : decode cX4_thingOf 5 = .ok (.ifCond .eq 12, 3) := by decide +kernel
theorem dX4_thingOf_8 : decode cX4_thingOf 8 = .ok (.aload_n 0, 1) := by decide +kernel
theorem dX4_thingOf_9 : decode cX4_thingOf 9 = .ok (.getfield 11, 3) := by decide +kernel
theorem dX4_thingOf_12 : decode cX4_thingOf 12 = .ok (.iload_n 1, 1) := by decide +kernel
theorem dX4_thingOf_13 : decode cX4_thingOf 13 = .ok (.aaload, 1) := by decide +kernel
theorem dX4_thingOf_14 : decode cX4_thingOf 14 = .ok (.goto 4, 3) := by decide +kernel
theorem dX4_thingOf_17 : decode cX4_thingOf 17 = .ok (.aconst_null, 1) := by decide +kernel
theorem dX4_thingOf_18 : decode cX4_thingOf 18 = .ok (.areturn, 1) := by decide +kernel
theorem dX4_refer_0 : decode cX4_refer 0 = .ok (.aload_n 0, 1) := by decide +kernel
theorem dX4_refer_1 : decode cX4_refer 1 = .ok (.iload_n 1, 1) := by decide +kernel
theorem dX4_refer_2 : decode cX4_refer 2 = .ok (.invokevirtual 17, 3) := by decide +kernel
theorem dX4_refer_5 : decode cX4_refer 5 = .ok (.ifCond .eq 10, 3) := by decide +kernel
theorem dX4_refer_8 : decode cX4_refer 8 = .ok (.aload_n 0, 1) := by decide +kernel
theorem dX4_refer_9 : decode cX4_refer 9 = .ok (.getfield 11, 3) := by decide +kernel
theorem dX4_refer_12 : decode cX4_refer 12 = .ok (.iload_n 1, 1) := by decide +kernel
theorem dX4_refer_13 : decode cX4_refer 13 = .ok (.aload_n 2, 1) := by decide +kernel
theorem dX4_refer_14 : decode cX4_refer 14 = .ok (.aastore, 1) := by decide +kernel
theorem dX4_refer_15 : decode cX4_refer 15 = .ok (.return_, 1) := by decide +kernel
theorem dX5_init_0 : decode cX5_init 0 = .ok (.aload_n 0, 1) := by decide +kernel
theorem dX5_init_1 : decode cX5_init 1 = .ok (.aload_n 1, 1) := by decide +kernel
theorem dX5_init_2 : decode cX5_init 2 = .ok (.aload_n 2, 1) := by decide +kernel
theorem dX5_init_3 : decode cX5_init 3 = .ok (.invokespecial 1, 3) := by decide +kernel
theorem dX5_init_6 : decode cX5_init 6 = .ok (.return_, 1) := by decide +kernel
theorem dX5_take_0 : decode cX5_take 0 = .ok (.aload_n 0, 1) := by decide +kernel
theorem dX5_take_1 : decode cX5_take 1 = .ok (.getfield 7, 3) := by decide +kernel
theorem dX5_take_4 : decode cX5_take 4 = .ok (.iconst 0, 1) := by decide +kernel
theorem dX5_take_5 : decode cX5_take 5 = .ok (.iload_n 1, 1) := by decide +kernel
theorem dX5_take_6 : decode cX5_take 6 = .ok (.invokevirtual 13, 3) := by decide +kernel
theorem dX5_take_9 : decode cX5_take 9 = .ok (.ireturn, 1) := by decide +kernel
theorem dX5_clearRoomFor_0 : decode cX5_clearRoomFor 0 = .ok (.aload_n 0, 1) := by decide +kernel
theorem dX5_clearRoomFor_1 : decode cX5_clearRoomFor 1 = .ok (.invokevirtual 19, 3) := by decide +kernel
theorem dX5_clearRoomFor_4 : decode cX5_clearRoomFor 4 = .ok (.pop, 1) := by decide +kernel
theorem dX5_clearRoomFor_5 : decode cX5_clearRoomFor 5 = .ok (.return_, 1) := by decide +kernel
theorem dX5_gather_0 : decode cX5_gather 0 = .ok (.aload_n 0, 1) := by decide +kernel
theorem dX5_gather_1 : decode cX5_gather 1 = .ok (.dup, 1) := by decide +kernel
theorem dX5_gather_2 : decode cX5_gather 2 = .ok (.getfield 23, 3) := by decide +kernel
theorem dX5_gather_5 : decode cX5_gather 5 = .ok (.iconst 1, 1) := by decide +kernel
theorem dX5_gather_6 : decode cX5_gather 6 = .ok (.iadd, 1) := by decide +kernel
theorem dX5_gather_7 : decode cX5_gather 7 = .ok (.putfield 23, 3) := by decide +kernel
theorem dX5_gather_10 : decode cX5_gather 10 = .ok (.aload_n 0, 1) := by decide +kernel
theorem dX5_gather_11 : decode cX5_gather 11 = .ok (.invokevirtual 27, 3) := by decide +kernel
theorem dX5_gather_14 : decode cX5_gather 14 = .ok (.aload_n 0, 1) := by decide +kernel
theorem dX5_gather_15 : decode cX5_gather 15 = .ok (.iconst 0, 1) := by decide +kernel
theorem dX5_gather_16 : decode cX5_gather 16 = .ok (.invokevirtual 31, 3) := by decide +kernel
theorem dX5_gather_19 : decode cX5_gather 19 = .ok (.ireturn, 1) := by decide +kernel
theorem dX6_init_0 : decode cX6_init 0 = .ok (.aload_n 0, 1) := by decide +kernel
theorem dX6_init_1 : decode cX6_init 1 = .ok (.invokespecial 1, 3) := by decide +kernel
theorem dX6_init_4 : decode cX6_init 4 = .ok (.iconst 0, 1) := by decide +kernel
theorem dX6_init_5 : decode cX6_init 5 = .ok (.iload_n 2, 1) := by decide +kernel
theorem dX6_init_6 : decode cX6_init 6 = .ok (.invokestatic 7, 3) := by decide +kernel
theorem dX6_init_9 : decode cX6_init 9 = .ok (.istore_n 3, 1) := by decide +kernel
theorem dX6_init_10 : decode cX6_init 10 = .ok (.aload_n 0, 1) := by decide +kernel
theorem dX6_init_11 : decode cX6_init 11 = .ok (.iload_n 1, 1) := by decide +kernel
theorem dX6_init_12 : decode cX6_init 12 = .ok (.putfield 13, 3) := by decide +kernel
theorem dX6_init_15 : decode cX6_init 15 = .ok (.aload_n 0, 1) := by decide +kernel
theorem dX6_init_16 : decode cX6_init 16 = .ok (.iload_n 3, 1) := by decide +kernel
theorem dX6_init_17 : decode cX6_init 17 = .ok (.newarray .int, 2) := by decide +kernel
theorem dX6_init_19 : decode cX6_init 19 = .ok (.putfield 19, 3) := by decide +kernel
theorem dX6_init_22 : decode cX6_init 22 = .ok (.aload_n 0, 1) := by decide +kernel
theorem dX6_init_23 : decode cX6_init 23 = .ok (.iload_n 3, 1) := by decide +kernel
theorem dX6_init_24 : decode cX6_init 24 = .ok (.anewarray 14, 3) := by decide +kernel
theorem dX6_init_27 : decode cX6_init 27 = .ok (.putfield 23, 3) := by decide +kernel
theorem dX6_init_30 : decode cX6_init 30 = .ok (.aload_n 0, 1) := by decide +kernel
theorem dX6_init_31 : decode cX6_init 31 = .ok (.iconst 0, 1) := by decide +kernel
theorem dX6_init_32 : decode cX6_init 32 = .ok (.putfield 27, 3) := by decide +kernel
theorem dX6_init_35 : decode cX6_init 35 = .ok (.aload_n 0, 1) := by decide +kernel
theorem dX6_init_36 : decode cX6_init 36 = .ok (.iconst 0, 1) := by decide +kernel
theorem dX6_init_37 : decode cX6_init 37 = .ok (.putfield 30, 3) := by decide +kernel
theorem dX6_init_40 : decode cX6_init 40 = .ok (.aload_n 0, 1) := by decide +kernel
theorem dX6_init_41 : decode cX6_init 41 = .ok (.iconst 0, 1) := by decide +kernel
theorem dX6_init_42 : decode cX6_init 42 = .ok (.putfield 34, 3) := by decide +kernel
theorem dX6_init_45 : decode cX6_init 45 = .ok (.aload_n 0, 1) := by decide +kernel
theorem dX6_init_46 : decode cX6_init 46 = .ok (.iconst 0, 1) := by decide +kernel
theorem dX6_init_47 : decode cX6_init 47 = .ok (.putfield 37, 3) := by decide +kernel
theorem dX6_init_50 : decode cX6_init 50 = .ok (.aload_n 0, 1) := by decide +kernel
theorem dX6_init_51 : decode cX6_init 51 = .ok (.iconst 0, 1) := by decide +kernel
theorem dX6_init_52 : decode cX6_init 52 = .ok (.putfield 40, 3) := by decide +kernel
theorem dX6_init_55 : decode cX6_init 55 = .ok (.return_, 1) := by decide +kernel
theorem dX6_fields_0 : decode cX6_fields 0 = .ok (.aload_n 0, 1) := by decide +kernel
theorem dX6_fields_1 : decode cX6_fields 1 = .ok (.getfield 19, 3) := by decide +kernel
theorem dX6_fields_4 : decode cX6_fields 4 = .ok (.arraylength, 1) := by decide +kernel
theorem dX6_fields_5 : decode cX6_fields 5 = .ok (.ireturn, 1) := by decide +kernel
theorem dX6_size_0 : decode cX6_size 0 = .ok (.aload_n 0, 1) := by decide +kernel
theorem dX6_size_1 : decode cX6_size 1 = .ok (.getfield 19, 3) := by decide +kernel
theorem dX6_size_4 : decode cX6_size 4 = .ok (.arraylength, 1) := by decide +kernel
theorem dX6_size_5 : decode cX6_size 5 = .ok (.iconst 1, 1) := by decide +kernel
theorem dX6_size_6 : decode cX6_size 6 = .ok (.iadd, 1) := by decide +kernel
theorem dX6_size_7 : decode cX6_size 7 = .ok (.ireturn, 1) := by decide +kernel
theorem dX6_has_0 : decode cX6_has 0 = .ok (.iload_n 1, 1) := by decide +kernel
theorem dX6_has_1 : decode cX6_has 1 = .ok (.ifCond .lt 16, 3) := by decide +kernel
theorem dX6_has_4 : decode cX6_has 4 = .ok (.iload_n 1, 1) := by decide +kernel
theorem dX6_has_5 : decode cX6_has 5 = .ok (.aload_n 0, 1) := by decide +kernel
theorem dX6_has_6 : decode cX6_has 6 = .ok (.getfield 19, 3) := by decide +kernel
theorem dX6_has_9 : decode cX6_has 9 = .ok (.arraylength, 1) := by decide +kernel
theorem dX6_has_10 : decode cX6_has 10 = .ok (.if_icmp .ge 7, 3) := by decide +kernel
theorem dX6_has_13 : decode cX6_has 13 = .ok (.iconst 1, 1) := by decide +kernel
theorem dX6_has_14 : decode cX6_has 14 = .ok (.goto 4, 3) := by decide +kernel
theorem dX6_has_17 : decode cX6_has 17 = .ok (.iconst 0, 1) := by decide +kernel
theorem dX6_has_18 : decode cX6_has 18 = .ok (.ireturn, 1) := by decide +kernel
theorem dX6_numberOf_0 : decode cX6_numberOf 0 = .ok (.iload_n 1, 1) := by decide +kernel
theorem dX6_numberOf_1 : decode cX6_numberOf 1 = .ok (.ifCond .lt 21, 3) := by decide +kernel
theorem dX6_numberOf_4 : decode cX6_numberOf 4 = .ok (.iload_n 1, 1) := by decide +kernel
theorem dX6_numberOf_5 : decode cX6_numberOf 5 = .ok (.aload_n 0, 1) := by decide +kernel
theorem dX6_numberOf_6 : decode cX6_numberOf 6 = .ok (.getfield 19, 3) := by decide +kernel
theorem dX6_numberOf_9 : decode cX6_numberOf 9 = .ok (.arraylength, 1) := by decide +kernel
theorem dX6_numberOf_10 : decode cX6_numberOf 10 = .ok (.if_icmp .ge 12, 3) := by decide +kernel
theorem dX6_numberOf_13 : decode cX6_numberOf 13 = .ok (.aload_n 0, 1) := by decide +kernel
theorem dX6_numberOf_14 : decode cX6_numberOf 14 = .ok (.getfield 19, 3) := by decide +kernel
theorem dX6_numberOf_17 : decode cX6_numberOf 17 = .ok (.iload_n 1, 1) := by decide +kernel
theorem dX6_numberOf_18 : decode cX6_numberOf 18 = .ok (.iaload, 1) := by decide +kernel
theorem dX6_numberOf_19 : decode cX6_numberOf 19 = .ok (.goto 4, 3) := by decide +kernel
theorem dX6_numberOf_22 : decode cX6_numberOf 22 = .ok (.iconst 0, 1) := by decide +kernel
theorem dX6_numberOf_23 : decode cX6_numberOf 23 = .ok (.ireturn, 1) := by decide +kernel
theorem dX6_targetOf_0 : decode cX6_targetOf 0 = .ok (.iload_n 1, 1) := by decide +kernel
theorem dX6_targetOf_1 : decode cX6_targetOf 1 = .ok (.ifCond .lt 21, 3) := by decide +kernel
theorem dX6_targetOf_4 : decode cX6_targetOf 4 = .ok (.iload_n 1, 1) := by decide +kernel
theorem dX6_targetOf_5 : decode cX6_targetOf 5 = .ok (.aload_n 0, 1) := by decide +kernel
theorem dX6_targetOf_6 : decode cX6_targetOf 6 = .ok (.getfield 23, 3) := by decide +kernel
theorem dX6_targetOf_9 : decode cX6_targetOf 9 = .ok (.arraylength, 1) := by decide +kernel
theorem dX6_targetOf_10 : decode cX6_targetOf 10 = .ok (.if_icmp .ge 12, 3) := by decide +kernel
theorem dX6_targetOf_13 : decode cX6_targetOf 13 = .ok (.aload_n 0, 1) := by decide +kernel
theorem dX6_targetOf_14 : decode cX6_targetOf 14 = .ok (.getfield 23, 3) := by decide +kernel
theorem dX6_targetOf_17 : decode cX6_targetOf 17 = .ok (.iload_n 1, 1) := by decide +kernel
theorem dX6_targetOf_18 : decode cX6_targetOf 18 = .ok (.aaload, 1) := by decide +kernel
theorem dX6_targetOf_19 : decode cX6_targetOf 19 = .ok (.goto 4, 3) := by decide +kernel
theorem dX6_targetOf_22 : decode cX6_targetOf 22 = .ok (.aconst_null, 1) := by decide +kernel
theorem dX6_targetOf_23 : decode cX6_targetOf 23 = .ok (.areturn, 1) := by decide +kernel
theorem dX6_hold_0 : decode cX6_hold 0 = .ok (.aload_n 0, 1) := by decide +kernel
theorem dX6_hold_1 : decode cX6_hold 1 = .ok (.iload_n 1, 1) := by decide +kernel
theorem dX6_hold_2 : decode cX6_hold 2 = .ok (.invokevirtual 43, 3) := by decide +kernel
theorem dX6_hold_5 : decode cX6_hold 5 = .ok (.ifCond .eq 17, 3) := by decide +kernel
theorem dX6_hold_8 : decode cX6_hold 8 = .ok (.aload_n 0, 1) := by decide +kernel
theorem dX6_hold_9 : decode cX6_hold 9 = .ok (.getfield 19, 3) := by decide +kernel
theorem dX6_hold_12 : decode cX6_hold 12 = .ok (.iload_n 1, 1) := by decide +kernel
theorem dX6_hold_13 : decode cX6_hold 13 = .ok (.iload_n 2, 1) := by decide +kernel
theorem dX6_hold_14 : decode cX6_hold 14 = .ok (.iastore, 1) := by decide +kernel
theorem dX6_hold_15 : decode cX6_hold 15 = .ok (.aload_n 0, 1) := by decide +kernel
theorem dX6_hold_16 : decode cX6_hold 16 = .ok (.getfield 23, 3) := by decide +kernel
theorem dX6_hold_19 : decode cX6_hold 19 = .ok (.iload_n 1, 1) := by decide +kernel
theorem dX6_hold_20 : decode cX6_hold 20 = .ok (.aload_n 3, 1) := by decide +kernel
theorem dX6_hold_21 : decode cX6_hold 21 = .ok (.aastore, 1) := by decide +kernel
theorem dX6_hold_22 : decode cX6_hold 22 = .ok (.return_, 1) := by decide +kernel
theorem dX7_init_0 : decode cX7_init 0 = .ok (.aload_n 0, 1) := by decide +kernel
theorem dX7_init_1 : decode cX7_init 1 = .ok (.invokespecial 3, 3) := by decide +kernel
theorem dX7_init_4 : decode cX7_init 4 = .ok (.aload_n 0, 1) := by decide +kernel
theorem dX7_init_5 : decode cX7_init 5 = .ok (.iconst 0, 1) := by decide +kernel
theorem dX7_init_6 : decode cX7_init 6 = .ok (.iload_n 1, 1) := by decide +kernel
theorem dX7_init_7 : decode cX7_init 7 = .ok (.invokestatic 9, 3) := by decide +kernel
theorem dX7_init_10 : decode cX7_init 10 = .ok (.anewarray 15, 3) := by decide +kernel
theorem dX7_init_13 : decode cX7_init 13 = .ok (.putfield 17, 3) := by decide +kernel
theorem dX7_init_16 : decode cX7_init 16 = .ok (.aload_n 0, 1) := by decide +kernel
theorem dX7_init_17 : decode cX7_init 17 = .ok (.iconst 0, 1) := by decide +kernel
theorem dX7_init_18 : decode cX7_init 18 = .ok (.putfield 23, 3) := by decide +kernel
theorem dX7_init_21 : decode cX7_init 21 = .ok (.aload_n 0, 1) := by decide +kernel
theorem dX7_init_22 : decode cX7_init 22 = .ok (.iconst 0, 1) := by decide +kernel
theorem dX7_init_23 : decode cX7_init 23 = .ok (.putfield 27, 3) := by decide +kernel
theorem dX7_init_26 : decode cX7_init 26 = .ok (.aload_n 0, 1) := by decide +kernel
theorem dX7_init_27 : decode cX7_init 27 = .ok (.iconst 0, 1) := by decide +kernel
theorem dX7_init_28 : decode cX7_init 28 = .ok (.putfield 30, 3) := by decide +kernel
theorem dX7_init_31 : decode cX7_init 31 = .ok (.return_, 1) := by decide +kernel
theorem dX7_begin_0 : decode cX7_begin 0 = .ok (.aload_n 0, 1) := by decide +kernel
theorem dX7_begin_1 : decode cX7_begin 1 = .ok (.dup, 1) := by decide +kernel
theorem dX7_begin_2 : decode cX7_begin 2 = .ok (.getfield 27, 3) := by decide +kernel
theorem dX7_begin_5 : decode cX7_begin 5 = .ok (.iconst 1, 1) := by decide +kernel
theorem dX7_begin_6 : decode cX7_begin 6 = .ok (.iadd, 1) := by decide +kernel
theorem dX7_begin_7 : decode cX7_begin 7 = .ok (.putfield 27, 3) := by decide +kernel
theorem dX7_begin_10 : decode cX7_begin 10 = .ok (.aload_n 0, 1) := by decide +kernel
theorem dX7_begin_11 : decode cX7_begin 11 = .ok (.iconst 0, 1) := by decide +kernel
theorem dX7_begin_12 : decode cX7_begin 12 = .ok (.putfield 23, 3) := by decide +kernel
theorem dX7_begin_15 : decode cX7_begin 15 = .ok (.aload_n 0, 1) := by decide +kernel
theorem dX7_begin_16 : decode cX7_begin 16 = .ok (.iload_n 1, 1) := by decide +kernel
theorem dX7_begin_17 : decode cX7_begin 17 = .ok (.putfield 30, 3) := by decide +kernel
theorem dX7_begin_20 : decode cX7_begin 20 = .ok (.return_, 1) := by decide +kernel
theorem dX7_meet_0 : decode cX7_meet 0 = .ok (.aload_n 1, 1) := by decide +kernel
theorem dX7_meet_1 : decode cX7_meet 1 = .ok (.ifnull 25, 3) := by decide +kernel
theorem dX7_meet_4 : decode cX7_meet 4 = .ok (.aload_n 1, 1) := by decide +kernel
theorem dX7_meet_5 : decode cX7_meet 5 = .ok (.getfield 33, 3) := by decide +kernel
theorem dX7_meet_8 : decode cX7_meet 8 = .ok (.aload_n 0, 1) := by decide +kernel
theorem dX7_meet_9 : decode cX7_meet 9 = .ok (.getfield 30, 3) := by decide +kernel
theorem dX7_meet_12 : decode cX7_meet 12 = .ok (.if_icmp .ge 14, 3) := by decide +kernel
theorem dX7_meet_15 : decode cX7_meet 15 = .ok (.aload_n 1, 1) := by decide +kernel
theorem dX7_meet_16 : decode cX7_meet 16 = .ok (.getfield 36, 3) := by decide +kernel
theorem dX7_meet_19 : decode cX7_meet 19 = .ok (.aload_n 0, 1) := by decide +kernel
theorem dX7_meet_20 : decode cX7_meet 20 = .ok (.getfield 27, 3) := by decide +kernel
theorem dX7_meet_23 : decode cX7_meet 23 = .ok (.if_icmp .ne 4, 3) := by decide +kernel
theorem dX7_meet_26 : decode cX7_meet 26 = .ok (.return_, 1) := by decide +kernel
theorem dX7_meet_27 : decode cX7_meet 27 = .ok (.aload_n 0, 1) := by decide +kernel
theorem dX7_meet_28 : decode cX7_meet 28 = .ok (.getfield 23, 3) := by decide +kernel
theorem dX7_meet_31 : decode cX7_meet 31 = .ok (.ifCond .lt 51, 3) := by decide +kernel
theorem dX7_meet_34 : decode cX7_meet 34 = .ok (.aload_n 0, 1) := by decide +kernel
theorem dX7_meet_35 : decode cX7_meet 35 = .ok (.getfield 23, 3) := by decide +kernel
theorem dX7_meet_38 : decode cX7_meet 38 = .ok (.aload_n 0, 1) := by decide +kernel
theorem dX7_meet_39 : decode cX7_meet 39 = .ok (.getfield 17, 3) := by decide +kernel
theorem dX7_meet_42 : decode cX7_meet 42 = .ok (.arraylength, 1) := by decide +kernel
theorem dX7_meet_43 : decode cX7_meet 43 = .ok (.if_icmp .ge 39, 3) := by decide +kernel
theorem dX7_meet_46 : decode cX7_meet 46 = .ok (.aload_n 1, 1) := by decide +kernel
theorem dX7_meet_47 : decode cX7_meet 47 = .ok (.aload_n 0, 1) := by decide +kernel
theorem dX7_meet_48 : decode cX7_meet 48 = .ok (.getfield 27, 3) := by decide +kernel
theorem dX7_meet_51 : decode cX7_meet 51 = .ok (.putfield 36, 3) := by decide +kernel
theorem dX7_meet_54 : decode cX7_meet 54 = .ok (.aload_n 1, 1) := by decide +kernel
theorem dX7_meet_55 : decode cX7_meet 55 = .ok (.aload_n 0, 1) := by decide +kernel
theorem dX7_meet_56 : decode cX7_meet 56 = .ok (.getfield 23, 3) := by decide +kernel
theorem dX7_meet_59 : decode cX7_meet 59 = .ok (.putfield 39, 3) := by decide +kernel
theorem dX7_meet_62 : decode cX7_meet 62 = .ok (.aload_n 0, 1) := by decide +kernel
theorem dX7_meet_63 : decode cX7_meet 63 = .ok (.getfield 17, 3) := by decide +kernel
theorem dX7_meet_66 : decode cX7_meet 66 = .ok (.aload_n 0, 1) := by decide +kernel
theorem dX7_meet_67 : decode cX7_meet 67 = .ok (.getfield 23, 3) := by decide +kernel
theorem dX7_meet_70 : decode cX7_meet 70 = .ok (.aload_n 1, 1) := by decide +kernel
theorem dX7_meet_71 : decode cX7_meet 71 = .ok (.aastore, 1) := by decide +kernel
theorem dX7_meet_72 : decode cX7_meet 72 = .ok (.aload_n 0, 1) := by decide +kernel
theorem dX7_meet_73 : decode cX7_meet 73 = .ok (.dup, 1) := by decide +kernel
theorem dX7_meet_74 : decode cX7_meet 74 = .ok (.getfield 23, 3) := by decide +kernel
theorem dX7_meet_77 : decode cX7_meet 77 = .ok (.iconst 1, 1) := by decide +kernel
theorem dX7_meet_78 : decode cX7_meet 78 = .ok (.iadd, 1) := by decide +kernel
theorem dX7_meet_79 : decode cX7_meet 79 = .ok (.putfield 23, 3) := by decide +kernel
theorem dX7_meet_82 : decode cX7_meet 82 = .ok (.return_, 1) := by decide +kernel
theorem dX7_meetTargetsOf_0 : decode cX7_meetTargetsOf 0 = .ok (.aload_n 1, 1) := by decide +kernel
theorem dX7_meetTargetsOf_1 : decode cX7_meetTargetsOf 1 = .ok (.ifnonnull 4, 3) := by decide +kernel
theorem dX7_meetTargetsOf_4 : decode cX7_meetTargetsOf 4 = .ok (.return_, 1) := by decide +kernel
theorem dX7_meetTargetsOf_5 : decode cX7_meetTargetsOf 5 = .ok (.iconst 0, 1) := by decide +kernel
theorem dX7_meetTargetsOf_6 : decode cX7_meetTargetsOf 6 = .ok (.istore_n 2, 1) := by decide +kernel
theorem dX7_meetTargetsOf_7 : decode cX7_meetTargetsOf 7 = .ok (.iload_n 2, 1) := by decide +kernel
theorem dX7_meetTargetsOf_8 : decode cX7_meetTargetsOf 8 = .ok (.aload_n 1, 1) := by decide +kernel
theorem dX7_meetTargetsOf_9 : decode cX7_meetTargetsOf 9 = .ok (.invokevirtual 42, 3) := by decide +kernel
theorem dX7_meetTargetsOf_12 : decode cX7_meetTargetsOf 12 = .ok (.if_icmp .ge 18, 3) := by decide +kernel
theorem dX7_meetTargetsOf_15 : decode cX7_meetTargetsOf 15 = .ok (.aload_n 0, 1) := by decide +kernel
theorem dX7_meetTargetsOf_16 : decode cX7_meetTargetsOf 16 = .ok (.aload_n 1, 1) := by decide +kernel
theorem dX7_meetTargetsOf_17 : decode cX7_meetTargetsOf 17 = .ok (.iload_n 2, 1) := by decide +kernel
theorem dX7_meetTargetsOf_18 : decode cX7_meetTargetsOf 18 = .ok (.invokevirtual 46, 3) := by decide +kernel
theorem dX7_meetTargetsOf_21 : decode cX7_meetTargetsOf 21 = .ok (.invokevirtual 50, 3) := by decide +kernel
theorem dX7_meetTargetsOf_24 : decode cX7_meetTargetsOf 24 = .ok (.iinc 2 1, 3) := by decide +kernel
theorem dX7_meetTargetsOf_27 : decode cX7_meetTargetsOf 27 = .ok (.goto (-20), 3) := by decide +kernel
theorem dX7_meetTargetsOf_30 : decode cX7_meetTargetsOf 30 = .ok (.return_, 1) := by decide +kernel
theorem dX7_meetRoots_0 : decode cX7_meetRoots 0 = .ok (.iconst 0, 1) := by decide +kernel
theorem dX7_meetRoots_1 : decode cX7_meetRoots 1 = .ok (.istore_n 2, 1) := by decide +kernel
theorem dX7_meetRoots_2 : decode cX7_meetRoots 2 = .ok (.iload_n 2, 1) := by decide +kernel
theorem dX7_meetRoots_3 : decode cX7_meetRoots 3 = .ok (.bipush 16, 2) := by decide +kernel
theorem dX7_meetRoots_5 : decode cX7_meetRoots 5 = .ok (.if_icmp .ge 18, 3) := by decide +kernel
theorem dX7_meetRoots_8 : decode cX7_meetRoots 8 = .ok (.aload_n 0, 1) := by decide +kernel
theorem dX7_meetRoots_9 : decode cX7_meetRoots 9 = .ok (.aload_n 1, 1) := by decide +kernel
theorem dX7_meetRoots_10 : decode cX7_meetRoots 10 = .ok (.iload_n 2, 1) := by decide +kernel
theorem dX7_meetRoots_11 : decode cX7_meetRoots 11 = .ok (.invokevirtual 54, 3) := by decide +kernel
theorem dX7_meetRoots_14 : decode cX7_meetRoots 14 = .ok (.invokevirtual 50, 3) := by decide +kernel
theorem dX7_meetRoots_17 : decode cX7_meetRoots 17 = .ok (.iinc 2 1, 3) := by decide +kernel
theorem dX7_meetRoots_20 : decode cX7_meetRoots 20 = .ok (.goto (-18), 3) := by decide +kernel
theorem dX7_meetRoots_23 : decode cX7_meetRoots 23 = .ok (.return_, 1) := by decide +kernel
theorem dX7_follow_0 : decode cX7_follow 0 = .ok (.iconst 0, 1) := by decide +kernel
theorem dX7_follow_1 : decode cX7_follow 1 = .ok (.istore_n 1, 1) := by decide +kernel
theorem dX7_follow_2 : decode cX7_follow 2 = .ok (.iload_n 1, 1) := by decide +kernel
theorem dX7_follow_3 : decode cX7_follow 3 = .ok (.aload_n 0, 1) := by decide +kernel
theorem dX7_follow_4 : decode cX7_follow 4 = .ok (.getfield 23, 3) := by decide +kernel
theorem dX7_follow_7 : decode cX7_follow 7 = .ok (.if_icmp .ge 28, 3) := by decide +kernel
theorem dX7_follow_10 : decode cX7_follow 10 = .ok (.iload_n 1, 1) := by decide +kernel
theorem dX7_follow_11 : decode cX7_follow 11 = .ok (.aload_n 0, 1) := by decide +kernel
theorem dX7_follow_12 : decode cX7_follow 12 = .ok (.getfield 17, 3) := by decide +kernel
theorem dX7_follow_15 : decode cX7_follow 15 = .ok (.arraylength, 1) := by decide +kernel
theorem dX7_follow_16 : decode cX7_follow 16 = .ok (.if_icmp .ge 19, 3) := by decide +kernel
theorem dX7_follow_19 : decode cX7_follow 19 = .ok (.aload_n 0, 1) := by decide +kernel
theorem dX7_follow_20 : decode cX7_follow 20 = .ok (.aload_n 0, 1) := by decide +kernel
theorem dX7_follow_21 : decode cX7_follow 21 = .ok (.getfield 17, 3) := by decide +kernel
theorem dX7_follow_24 : decode cX7_follow 24 = .ok (.iload_n 1, 1) := by decide +kernel
theorem dX7_follow_25 : decode cX7_follow 25 = .ok (.aaload, 1) := by decide +kernel
theorem dX7_follow_26 : decode cX7_follow 26 = .ok (.invokevirtual 59, 3) := by decide +kernel
theorem dX7_follow_29 : decode cX7_follow 29 = .ok (.iinc 1 1, 3) := by decide +kernel
theorem dX7_follow_32 : decode cX7_follow 32 = .ok (.goto (-30), 3) := by decide +kernel
theorem dX7_follow_35 : decode cX7_follow 35 = .ok (.return_, 1) := by decide +kernel
theorem dX7_hasMet_0 : decode cX7_hasMet 0 = .ok (.aload_n 1, 1) := by decide +kernel
theorem dX7_hasMet_1 : decode cX7_hasMet 1 = .ok (.getfield 36, 3) := by decide +kernel
theorem dX7_hasMet_4 : decode cX7_hasMet 4 = .ok (.aload_n 0, 1) := by decide +kernel
theorem dX7_hasMet_5 : decode cX7_hasMet 5 = .ok (.getfield 27, 3) := by decide +kernel
theorem dX7_hasMet_8 : decode cX7_hasMet 8 = .ok (.if_icmp .ne 7, 3) := by decide +kernel
theorem dX7_hasMet_11 : decode cX7_hasMet 11 = .ok (.iconst 1, 1) := by decide +kernel
theorem dX7_hasMet_12 : decode cX7_hasMet 12 = .ok (.goto 4, 3) := by decide +kernel
theorem dX7_hasMet_15 : decode cX7_hasMet 15 = .ok (.iconst 0, 1) := by decide +kernel
theorem dX7_hasMet_16 : decode cX7_hasMet 16 = .ok (.ireturn, 1) := by decide +kernel
theorem dX7_size_0 : decode cX7_size 0 = .ok (.aload_n 0, 1) := by decide +kernel
theorem dX7_size_1 : decode cX7_size 1 = .ok (.getfield 23, 3) := by decide +kernel
theorem dX7_size_4 : decode cX7_size 4 = .ok (.ireturn, 1) := by decide +kernel
theorem dX7_thingOf_0 : decode cX7_thingOf 0 = .ok (.iload_n 1, 1) := by decide +kernel
theorem dX7_thingOf_1 : decode cX7_thingOf 1 = .ok (.ifCond .lt 29, 3) := by decide +kernel
theorem dX7_thingOf_4 : decode cX7_thingOf 4 = .ok (.iload_n 1, 1) := by decide +kernel
theorem dX7_thingOf_5 : decode cX7_thingOf 5 = .ok (.aload_n 0, 1) := by decide +kernel
theorem dX7_thingOf_6 : decode cX7_thingOf 6 = .ok (.getfield 23, 3) := by decide +kernel
theorem dX7_thingOf_9 : decode cX7_thingOf 9 = .ok (.if_icmp .ge 21, 3) := by decide +kernel
theorem dX7_thingOf_12 : decode cX7_thingOf 12 = .ok (.iload_n 1, 1) := by decide +kernel
theorem dX7_thingOf_13 : decode cX7_thingOf 13 = .ok (.aload_n 0, 1) := by decide +kernel
theorem dX7_thingOf_14 : decode cX7_thingOf 14 = .ok (.getfield 17, 3) := by decide +kernel
theorem dX7_thingOf_17 : decode cX7_thingOf 17 = .ok (.arraylength, 1) := by decide +kernel
theorem dX7_thingOf_18 : decode cX7_thingOf 18 = .ok (.if_icmp .ge 12, 3) := by decide +kernel
theorem dX7_thingOf_21 : decode cX7_thingOf 21 = .ok (.aload_n 0, 1) := by decide +kernel
theorem dX7_thingOf_22 : decode cX7_thingOf 22 = .ok (.getfield 17, 3) := by decide +kernel
theorem dX7_thingOf_25 : decode cX7_thingOf 25 = .ok (.iload_n 1, 1) := by decide +kernel
theorem dX7_thingOf_26 : decode cX7_thingOf 26 = .ok (.aaload, 1) := by decide +kernel
end
section
theorem dX7_thingOf_27 : decode cX7_thingOf 27 = .ok (.goto 4, 3) := by decide +kernel
theorem dX7_thingOf_30 : decode cX7_thingOf 30 = .ok (.aconst_null, 1) := by decide +kernel
theorem dX7_thingOf_31 : decode cX7_thingOf 31 = .ok (.areturn, 1) := by decide +kernel
theorem dX8_init_0 : decode cX8_init 0 = .ok (.aload_n 0, 1) := by decide +kernel
theorem dX8_init_1 : decode cX8_init 1 = .ok (.invokespecial 3, 3) := by decide +kernel
theorem dX8_init_4 : decode cX8_init 4 = .ok (.aload_n 0, 1) := by decide +kernel
theorem dX8_init_5 : decode cX8_init 5 = .ok (.iconst 0, 1) := by decide +kernel
theorem dX8_init_6 : decode cX8_init 6 = .ok (.iload_n 1, 1) := by decide +kernel
theorem dX8_init_7 : decode cX8_init 7 = .ok (.invokestatic 9, 3) := by decide +kernel
theorem dX8_init_10 : decode cX8_init 10 = .ok (.anewarray 15, 3) := by decide +kernel
theorem dX8_init_13 : decode cX8_init 13 = .ok (.putfield 17, 3) := by decide +kernel
theorem dX8_init_16 : decode cX8_init 16 = .ok (.return_, 1) := by decide +kernel
theorem dX8_length_0 : decode cX8_length 0 = .ok (.aload_n 0, 1) := by decide +kernel
theorem dX8_length_1 : decode cX8_length 1 = .ok (.getfield 17, 3) := by decide +kernel
theorem dX8_length_4 : decode cX8_length 4 = .ok (.arraylength, 1) := by decide +kernel
theorem dX8_length_5 : decode cX8_length 5 = .ok (.ireturn, 1) := by decide +kernel
theorem dX8_lyingAt_0 : decode cX8_lyingAt 0 = .ok (.iload_n 1, 1) := by decide +kernel
theorem dX8_lyingAt_1 : decode cX8_lyingAt 1 = .ok (.ifCond .lt 21, 3) := by decide +kernel
theorem dX8_lyingAt_4 : decode cX8_lyingAt 4 = .ok (.iload_n 1, 1) := by decide +kernel
theorem dX8_lyingAt_5 : decode cX8_lyingAt 5 = .ok (.aload_n 0, 1) := by decide +kernel
theorem dX8_lyingAt_6 : decode cX8_lyingAt 6 = .ok (.getfield 17, 3) := by decide +kernel
theorem dX8_lyingAt_9 : decode cX8_lyingAt 9 = .ok (.arraylength, 1) := by decide +kernel
theorem dX8_lyingAt_10 : decode cX8_lyingAt 10 = .ok (.if_icmp .ge 12, 3) := by decide +kernel
theorem dX8_lyingAt_13 : decode cX8_lyingAt 13 = .ok (.aload_n 0, 1) := by decide +kernel
theorem dX8_lyingAt_14 : decode cX8_lyingAt 14 = .ok (.getfield 17, 3) := by decide +kernel
theorem dX8_lyingAt_17 : decode cX8_lyingAt 17 = .ok (.iload_n 1, 1) := by decide +kernel
theorem dX8_lyingAt_18 : decode cX8_lyingAt 18 = .ok (.aaload, 1) := by decide +kernel
theorem dX8_lyingAt_19 : decode cX8_lyingAt 19 = .ok (.goto 4, 3) := by decide +kernel
theorem dX8_lyingAt_22 : decode cX8_lyingAt 22 = .ok (.aconst_null, 1) := by decide +kernel
theorem dX8_lyingAt_23 : decode cX8_lyingAt 23 = .ok (.areturn, 1) := by decide +kernel
theorem dX8_beginningAt_0 : decode cX8_beginningAt 0 = .ok (.aload_n 0, 1) := by decide +kernel
theorem dX8_beginningAt_1 : decode cX8_beginningAt 1 = .ok (.iload_n 1, 1) := by decide +kernel
theorem dX8_beginningAt_2 : decode cX8_beginningAt 2 = .ok (.invokevirtual 23, 3) := by decide +kernel
theorem dX8_beginningAt_5 : decode cX8_beginningAt 5 = .ok (.astore_n 2, 1) := by decide +kernel
theorem dX8_beginningAt_6 : decode cX8_beginningAt 6 = .ok (.aload_n 2, 1) := by decide +kernel
theorem dX8_beginningAt_7 : decode cX8_beginningAt 7 = .ok (.ifnull 15, 3) := by decide +kernel
theorem dX8_beginningAt_10 : decode cX8_beginningAt 10 = .ok (.aload_n 2, 1) := by decide +kernel
theorem dX8_beginningAt_11 : decode cX8_beginningAt 11 = .ok (.getfield 27, 3) := by decide +kernel
theorem dX8_beginningAt_14 : decode cX8_beginningAt 14 = .ok (.iload_n 1, 1) := by decide +kernel
theorem dX8_beginningAt_15 : decode cX8_beginningAt 15 = .ok (.if_icmp .ne 7, 3) := by decide +kernel
theorem dX8_beginningAt_18 : decode cX8_beginningAt 18 = .ok (.aload_n 2, 1) := by decide +kernel
theorem dX8_beginningAt_19 : decode cX8_beginningAt 19 = .ok (.goto 4, 3) := by decide +kernel
theorem dX8_beginningAt_22 : decode cX8_beginningAt 22 = .ok (.aconst_null, 1) := by decide +kernel
theorem dX8_beginningAt_23 : decode cX8_beginningAt 23 = .ok (.areturn, 1) := by decide +kernel
theorem dX8_put_0 : decode cX8_put 0 = .ok (.aload_n 1, 1) := by decide +kernel
theorem dX8_put_1 : decode cX8_put 1 = .ok (.iload_n 2, 1) := by decide +kernel
theorem dX8_put_2 : decode cX8_put 2 = .ok (.putfield 27, 3) := by decide +kernel
theorem dX8_put_5 : decode cX8_put 5 = .ok (.aload_n 0, 1) := by decide +kernel
theorem dX8_put_6 : decode cX8_put 6 = .ok (.iload_n 2, 1) := by decide +kernel
theorem dX8_put_7 : decode cX8_put 7 = .ok (.aload_n 1, 1) := by decide +kernel
theorem dX8_put_8 : decode cX8_put 8 = .ok (.invokevirtual 31, 3) := by decide +kernel
theorem dX8_put_11 : decode cX8_put 11 = .ok (.aload_n 1, 1) := by decide +kernel
theorem dX8_put_12 : decode cX8_put 12 = .ok (.invokevirtual 35, 3) := by decide +kernel
theorem dX8_put_15 : decode cX8_put 15 = .ok (.return_, 1) := by decide +kernel
theorem dX8_fill_0 : decode cX8_fill 0 = .ok (.iconst 0, 1) := by decide +kernel
theorem dX8_fill_1 : decode cX8_fill 1 = .ok (.iload_n 1, 1) := by decide +kernel
theorem dX8_fill_2 : decode cX8_fill 2 = .ok (.invokestatic 9, 3) := by decide +kernel
theorem dX8_fill_5 : decode cX8_fill 5 = .ok (.istore 4, 2) := by decide +kernel
theorem dX8_fill_7 : decode cX8_fill 7 = .ok (.aload_n 0, 1) := by decide +kernel
theorem dX8_fill_8 : decode cX8_fill 8 = .ok (.getfield 17, 3) := by decide +kernel
theorem dX8_fill_11 : decode cX8_fill 11 = .ok (.arraylength, 1) := by decide +kernel
theorem dX8_fill_12 : decode cX8_fill 12 = .ok (.iload 4, 2) := by decide +kernel
theorem dX8_fill_14 : decode cX8_fill 14 = .ok (.iload_n 2, 1) := by decide +kernel
theorem dX8_fill_15 : decode cX8_fill 15 = .ok (.iadd, 1) := by decide +kernel
theorem dX8_fill_16 : decode cX8_fill 16 = .ok (.invokestatic 39, 3) := by decide +kernel
theorem dX8_fill_19 : decode cX8_fill 19 = .ok (.istore 5, 2) := by decide +kernel
theorem dX8_fill_21 : decode cX8_fill 21 = .ok (.iload 4, 2) := by decide +kernel
theorem dX8_fill_23 : decode cX8_fill 23 = .ok (.istore 6, 2) := by decide +kernel
theorem dX8_fill_25 : decode cX8_fill 25 = .ok (.iload 6, 2) := by decide +kernel
theorem dX8_fill_27 : decode cX8_fill 27 = .ok (.iload 5, 2) := by decide +kernel
theorem dX8_fill_29 : decode cX8_fill 29 = .ok (.if_icmp .ge 17, 3) := by decide +kernel
theorem dX8_fill_32 : decode cX8_fill 32 = .ok (.aload_n 0, 1) := by decide +kernel
theorem dX8_fill_33 : decode cX8_fill 33 = .ok (.getfield 17, 3) := by decide +kernel
theorem dX8_fill_36 : decode cX8_fill 36 = .ok (.iload 6, 2) := by decide +kernel
theorem dX8_fill_38 : decode cX8_fill 38 = .ok (.aload_n 3, 1) := by decide +kernel
theorem dX8_fill_39 : decode cX8_fill 39 = .ok (.aastore, 1) := by decide +kernel
theorem dX8_fill_40 : decode cX8_fill 40 = .ok (.iinc 6 1, 3) := by decide +kernel
theorem dX8_fill_43 : decode cX8_fill 43 = .ok (.goto (-18), 3) := by decide +kernel
theorem dX8_fill_46 : decode cX8_fill 46 = .ok (.return_, 1) := by decide +kernel
theorem dX8_gapFrom_0 : decode cX8_gapFrom 0 = .ok (.iconst 0, 1) := by decide +kernel
theorem dX8_gapFrom_1 : decode cX8_gapFrom 1 = .ok (.istore_n 3, 1) := by decide +kernel
theorem dX8_gapFrom_2 : decode cX8_gapFrom 2 = .ok (.iconst 0, 1) := by decide +kernel
theorem dX8_gapFrom_3 : decode cX8_gapFrom 3 = .ok (.iload_n 1, 1) := by decide +kernel
theorem dX8_gapFrom_4 : decode cX8_gapFrom 4 = .ok (.invokestatic 9, 3) := by decide +kernel
theorem dX8_gapFrom_7 : decode cX8_gapFrom 7 = .ok (.istore 4, 2) := by decide +kernel
theorem dX8_gapFrom_9 : decode cX8_gapFrom 9 = .ok (.iload 4, 2) := by decide +kernel
theorem dX8_gapFrom_11 : decode cX8_gapFrom 11 = .ok (.aload_n 0, 1) := by decide +kernel
theorem dX8_gapFrom_12 : decode cX8_gapFrom 12 = .ok (.getfield 17, 3) := by decide +kernel
theorem dX8_gapFrom_15 : decode cX8_gapFrom 15 = .ok (.arraylength, 1) := by decide +kernel
theorem dX8_gapFrom_16 : decode cX8_gapFrom 16 = .ok (.if_icmp .ge 39, 3) := by decide +kernel
theorem dX8_gapFrom_19 : decode cX8_gapFrom 19 = .ok (.aload_n 0, 1) := by decide +kernel
theorem dX8_gapFrom_20 : decode cX8_gapFrom 20 = .ok (.getfield 17, 3) := by decide +kernel
theorem dX8_gapFrom_23 : decode cX8_gapFrom 23 = .ok (.iload 4, 2) := by decide +kernel
theorem dX8_gapFrom_25 : decode cX8_gapFrom 25 = .ok (.aaload, 1) := by decide +kernel
theorem dX8_gapFrom_26 : decode cX8_gapFrom 26 = .ok (.ifnonnull 9, 3) := by decide +kernel
theorem dX8_gapFrom_29 : decode cX8_gapFrom 29 = .ok (.iload_n 3, 1) := by decide +kernel
theorem dX8_gapFrom_30 : decode cX8_gapFrom 30 = .ok (.iconst 1, 1) := by decide +kernel
theorem dX8_gapFrom_31 : decode cX8_gapFrom 31 = .ok (.iadd, 1) := by decide +kernel
theorem dX8_gapFrom_32 : decode cX8_gapFrom 32 = .ok (.goto 4, 3) := by decide +kernel
theorem dX8_gapFrom_35 : decode cX8_gapFrom 35 = .ok (.iconst 0, 1) := by decide +kernel
theorem dX8_gapFrom_36 : decode cX8_gapFrom 36 = .ok (.istore_n 3, 1) := by decide +kernel
theorem dX8_gapFrom_37 : decode cX8_gapFrom 37 = .ok (.iload_n 3, 1) := by decide +kernel
theorem dX8_gapFrom_38 : decode cX8_gapFrom 38 = .ok (.iload_n 2, 1) := by decide +kernel
theorem dX8_gapFrom_39 : decode cX8_gapFrom 39 = .ok (.if_icmp .ne 10, 3) := by decide +kernel
theorem dX8_gapFrom_42 : decode cX8_gapFrom 42 = .ok (.iload 4, 2) := by decide +kernel
theorem dX8_gapFrom_44 : decode cX8_gapFrom 44 = .ok (.iload_n 2, 1) := by decide +kernel
theorem dX8_gapFrom_45 : decode cX8_gapFrom 45 = .ok (.isub, 1) := by decide +kernel
theorem dX8_gapFrom_46 : decode cX8_gapFrom 46 = .ok (.iconst 1, 1) := by decide +kernel
theorem dX8_gapFrom_47 : decode cX8_gapFrom 47 = .ok (.iadd, 1) := by decide +kernel
theorem dX8_gapFrom_48 : decode cX8_gapFrom 48 = .ok (.ireturn, 1) := by decide +kernel
theorem dX8_gapFrom_49 : decode cX8_gapFrom 49 = .ok (.iinc 4 1, 3) := by decide +kernel
theorem dX8_gapFrom_52 : decode cX8_gapFrom 52 = .ok (.goto (-43), 3) := by decide +kernel
theorem dX8_gapFrom_55 : decode cX8_gapFrom 55 = .ok (.iconst (-1), 1) := by decide +kernel
theorem dX8_gapFrom_56 : decode cX8_gapFrom 56 = .ok (.ireturn, 1) := by decide +kernel
theorem dX8_thingsBelow_0 : decode cX8_thingsBelow 0 = .ok (.iconst 0, 1) := by decide +kernel
theorem dX8_thingsBelow_1 : decode cX8_thingsBelow 1 = .ok (.istore_n 2, 1) := by decide +kernel
theorem dX8_thingsBelow_2 : decode cX8_thingsBelow 2 = .ok (.iconst 0, 1) := by decide +kernel
theorem dX8_thingsBelow_3 : decode cX8_thingsBelow 3 = .ok (.istore_n 3, 1) := by decide +kernel
theorem dX8_thingsBelow_4 : decode cX8_thingsBelow 4 = .ok (.iload_n 3, 1) := by decide +kernel
theorem dX8_thingsBelow_5 : decode cX8_thingsBelow 5 = .ok (.iload_n 1, 1) := by decide +kernel
theorem dX8_thingsBelow_6 : decode cX8_thingsBelow 6 = .ok (.if_icmp .ge 29, 3) := by decide +kernel
theorem dX8_thingsBelow_9 : decode cX8_thingsBelow 9 = .ok (.iload_n 3, 1) := by decide +kernel
theorem dX8_thingsBelow_10 : decode cX8_thingsBelow 10 = .ok (.aload_n 0, 1) := by decide +kernel
theorem dX8_thingsBelow_11 : decode cX8_thingsBelow 11 = .ok (.getfield 17, 3) := by decide +kernel
theorem dX8_thingsBelow_14 : decode cX8_thingsBelow 14 = .ok (.arraylength, 1) := by decide +kernel
theorem dX8_thingsBelow_15 : decode cX8_thingsBelow 15 = .ok (.if_icmp .ge 20, 3) := by decide +kernel
theorem dX8_thingsBelow_18 : decode cX8_thingsBelow 18 = .ok (.aload_n 0, 1) := by decide +kernel
theorem dX8_thingsBelow_19 : decode cX8_thingsBelow 19 = .ok (.iload_n 3, 1) := by decide +kernel
theorem dX8_thingsBelow_20 : decode cX8_thingsBelow 20 = .ok (.invokevirtual 42, 3) := by decide +kernel
theorem dX8_thingsBelow_23 : decode cX8_thingsBelow 23 = .ok (.ifnull 6, 3) := by decide +kernel
theorem dX8_thingsBelow_26 : decode cX8_thingsBelow 26 = .ok (.iinc 2 1, 3) := by decide +kernel
theorem dX8_thingsBelow_29 : decode cX8_thingsBelow 29 = .ok (.iinc 3 1, 3) := by decide +kernel
theorem dX8_thingsBelow_32 : decode cX8_thingsBelow 32 = .ok (.goto (-28), 3) := by decide +kernel
theorem dX8_thingsBelow_35 : decode cX8_thingsBelow 35 = .ok (.iload_n 2, 1) := by decide +kernel
theorem dX8_thingsBelow_36 : decode cX8_thingsBelow 36 = .ok (.ireturn, 1) := by decide +kernel
theorem dX8_taken_0 : decode cX8_taken 0 = .ok (.iconst 0, 1) := by decide +kernel
theorem dX8_taken_1 : decode cX8_taken 1 = .ok (.istore_n 1, 1) := by decide +kernel
theorem dX8_taken_2 : decode cX8_taken 2 = .ok (.iconst 0, 1) := by decide +kernel
theorem dX8_taken_3 : decode cX8_taken 3 = .ok (.istore_n 2, 1) := by decide +kernel
theorem dX8_taken_4 : decode cX8_taken 4 = .ok (.iload_n 2, 1) := by decide +kernel
theorem dX8_taken_5 : decode cX8_taken 5 = .ok (.aload_n 0, 1) := by decide +kernel
theorem dX8_taken_6 : decode cX8_taken 6 = .ok (.getfield 17, 3) := by decide +kernel
theorem dX8_taken_9 : decode cX8_taken 9 = .ok (.arraylength, 1) := by decide +kernel
theorem dX8_taken_10 : decode cX8_taken 10 = .ok (.if_icmp .ge 21, 3) := by decide +kernel
theorem dX8_taken_13 : decode cX8_taken 13 = .ok (.aload_n 0, 1) := by decide +kernel
theorem dX8_taken_14 : decode cX8_taken 14 = .ok (.getfield 17, 3) := by decide +kernel
theorem dX8_taken_17 : decode cX8_taken 17 = .ok (.iload_n 2, 1) := by decide +kernel
theorem dX8_taken_18 : decode cX8_taken 18 = .ok (.aaload, 1) := by decide +kernel
theorem dX8_taken_19 : decode cX8_taken 19 = .ok (.ifnull 6, 3) := by decide +kernel
theorem dX8_taken_22 : decode cX8_taken 22 = .ok (.iinc 1 1, 3) := by decide +kernel
theorem dX8_taken_25 : decode cX8_taken 25 = .ok (.iinc 2 1, 3) := by decide +kernel
theorem dX8_taken_28 : decode cX8_taken 28 = .ok (.goto (-24), 3) := by decide +kernel
theorem dX8_taken_31 : decode cX8_taken 31 = .ok (.iload_n 1, 1) := by decide +kernel
theorem dX8_taken_32 : decode cX8_taken 32 = .ok (.ireturn, 1) := by decide +kernel
theorem dX8_rememberedThings_0 : decode cX8_rememberedThings 0 = .ok (.iconst 0, 1) := by decide +kernel
theorem dX8_rememberedThings_1 : decode cX8_rememberedThings 1 = .ok (.istore_n 1, 1) := by decide +kernel
theorem dX8_rememberedThings_2 : decode cX8_rememberedThings 2 = .ok (.iconst 0, 1) := by decide +kernel
theorem dX8_rememberedThings_3 : decode cX8_rememberedThings 3 = .ok (.istore_n 2, 1) := by decide +kernel
theorem dX8_rememberedThings_4 : decode cX8_rememberedThings 4 = .ok (.iload_n 2, 1) := by decide +kernel
theorem dX8_rememberedThings_5 : decode cX8_rememberedThings 5 = .ok (.aload_n 0, 1) := by decide +kernel
theorem dX8_rememberedThings_6 : decode cX8_rememberedThings 6 = .ok (.getfield 17, 3) := by decide +kernel
theorem dX8_rememberedThings_9 : decode cX8_rememberedThings 9 = .ok (.arraylength, 1) := by decide +kernel
theorem dX8_rememberedThings_10 : decode cX8_rememberedThings 10 = .ok (.if_icmp .ge 29, 3) := by decide +kernel
theorem dX8_rememberedThings_13 : decode cX8_rememberedThings 13 = .ok (.aload_n 0, 1) := by decide +kernel
theorem dX8_rememberedThings_14 : decode cX8_rememberedThings 14 = .ok (.iload_n 2, 1) := by decide +kernel
theorem dX8_rememberedThings_15 : decode cX8_rememberedThings 15 = .ok (.invokevirtual 42, 3) := by decide +kernel
theorem dX8_rememberedThings_18 : decode cX8_rememberedThings 18 = .ok (.astore_n 3, 1) := by decide +kernel
theorem dX8_rememberedThings_19 : decode cX8_rememberedThings 19 = .ok (.aload_n 3, 1) := by decide +kernel
theorem dX8_rememberedThings_20 : decode cX8_rememberedThings 20 = .ok (.ifnull 13, 3) := by decide +kernel
theorem dX8_rememberedThings_23 : decode cX8_rememberedThings 23 = .ok (.aload_n 3, 1) := by decide +kernel
theorem dX8_rememberedThings_24 : decode cX8_rememberedThings 24 = .ok (.getfield 45, 3) := by decide +kernel
theorem dX8_rememberedThings_27 : decode cX8_rememberedThings 27 = .ok (.ifCond .eq 6, 3) := by decide +kernel
theorem dX8_rememberedThings_30 : decode cX8_rememberedThings 30 = .ok (.iinc 1 1, 3) := by decide +kernel
theorem dX8_rememberedThings_33 : decode cX8_rememberedThings 33 = .ok (.iinc 2 1, 3) := by decide +kernel
theorem dX8_rememberedThings_36 : decode cX8_rememberedThings 36 = .ok (.goto (-32), 3) := by decide +kernel
theorem dX8_rememberedThings_39 : decode cX8_rememberedThings 39 = .ok (.iload_n 1, 1) := by decide +kernel
theorem dX8_rememberedThings_40 : decode cX8_rememberedThings 40 = .ok (.ireturn, 1) := by decide +kernel
theorem dX9_init_0 : decode cX9_init 0 = .ok (.aload_n 0, 1) := by decide +kernel
theorem dX9_init_1 : decode cX9_init 1 = .ok (.invokespecial 1, 3) := by decide +kernel
theorem dX9_init_4 : decode cX9_init 4 = .ok (.new 7, 3) := by decide +kernel
theorem dX9_init_7 : decode cX9_init 7 = .ok (.dup, 1) := by decide +kernel
theorem dX9_init_8 : decode cX9_init 8 = .ok (.iload_n 2, 1) := by decide +kernel
theorem dX9_init_9 : decode cX9_init 9 = .ok (.invokestatic 9, 3) := by decide +kernel
theorem dX9_init_12 : decode cX9_init 12 = .ok (.invokespecial 15, 3) := by decide +kernel
theorem dX9_init_15 : decode cX9_init 15 = .ok (.astore_n 3, 1) := by decide +kernel
theorem dX9_init_16 : decode cX9_init 16 = .ok (.new 18, 3) := by decide +kernel
theorem dX9_init_19 : decode cX9_init 19 = .ok (.dup, 1) := by decide +kernel
theorem dX9_init_20 : decode cX9_init 20 = .ok (.invokespecial 20, 3) := by decide +kernel
theorem dX9_init_23 : decode cX9_init 23 = .ok (.astore 4, 2) := by decide +kernel
theorem dX9_init_25 : decode cX9_init 25 = .ok (.aload_n 0, 1) := by decide +kernel
theorem dX9_init_26 : decode cX9_init 26 = .ok (.aload_n 3, 1) := by decide +kernel
theorem dX9_init_27 : decode cX9_init 27 = .ok (.putfield 21, 3) := by decide +kernel
theorem dX9_init_30 : decode cX9_init 30 = .ok (.aload_n 0, 1) := by decide +kernel
theorem dX9_init_31 : decode cX9_init 31 = .ok (.aload 4, 2) := by decide +kernel
theorem dX9_init_33 : decode cX9_init 33 = .ok (.putfield 25, 3) := by decide +kernel
theorem dX9_init_36 : decode cX9_init 36 = .ok (.aload_n 0, 1) := by decide +kernel
theorem dX9_init_37 : decode cX9_init 37 = .ok (.iload_n 1, 1) := by decide +kernel
theorem dX9_init_38 : decode cX9_init 38 = .ok (.aload_n 3, 1) := by decide +kernel
theorem dX9_init_39 : decode cX9_init 39 = .ok (.aload 4, 2) := by decide +kernel
theorem dX9_init_41 : decode cX9_init 41 = .ok (.invokestatic 29, 3) := by decide +kernel
theorem dX9_init_44 : decode cX9_init 44 = .ok (.putfield 33, 3) := by decide +kernel
theorem dX9_init_47 : decode cX9_init 47 = .ok (.aload_n 0, 1) := by decide +kernel
theorem dX9_init_48 : decode cX9_init 48 = .ok (.iconst 0, 1) := by decide +kernel
theorem dX9_init_49 : decode cX9_init 49 = .ok (.putfield 37, 3) := by decide +kernel
theorem dX9_init_52 : decode cX9_init 52 = .ok (.return_, 1) := by decide +kernel
theorem dX9_make_0 : decode cX9_make 0 = .ok (.aload_n 0, 1) := by decide +kernel
theorem dX9_make_1 : decode cX9_make 1 = .ok (.getfield 25, 3) := by decide +kernel
theorem dX9_make_4 : decode cX9_make 4 = .ok (.iload_n 1, 1) := by decide +kernel
theorem dX9_make_5 : decode cX9_make 5 = .ok (.invokevirtual 41, 3) := by decide +kernel
theorem dX9_make_8 : decode cX9_make 8 = .ok (.ifCond .eq 13, 3) := by decide +kernel
theorem dX9_make_11 : decode cX9_make 11 = .ok (.iload_n 2, 1) := by decide +kernel
theorem dX9_make_12 : decode cX9_make 12 = .ok (.ifCond .lt 9, 3) := by decide +kernel
theorem dX9_make_15 : decode cX9_make 15 = .ok (.iload_n 2, 1) := by decide +kernel
theorem dX9_make_16 : decode cX9_make 16 = .ok (.bipush 6, 2) := by decide +kernel
theorem dX9_make_18 : decode cX9_make 18 = .ok (.if_icmp .le 6, 3) := by decide +kernel
theorem dX9_make_21 : decode cX9_make 21 = .ok (.bipush (-2), 2) := by decide +kernel
theorem dX9_make_23 : decode cX9_make 23 = .ok (.ireturn, 1) := by decide +kernel
theorem dX9_make_24 : decode cX9_make 24 = .ok (.aload_n 0, 1) := by decide +kernel
theorem dX9_make_25 : decode cX9_make 25 = .ok (.getfield 37, 3) := by decide +kernel
theorem dX9_make_28 : decode cX9_make 28 = .ok (.sipush 2000, 3) := by decide +kernel
theorem dX9_make_31 : decode cX9_make 31 = .ok (.if_icmp .lt 6, 3) := by decide +kernel
theorem dX9_make_34 : decode cX9_make 34 = .ok (.bipush (-4), 2) := by decide +kernel
theorem dX9_make_36 : decode cX9_make 36 = .ok (.ireturn, 1) := by decide +kernel
theorem dX9_make_37 : decode cX9_make 37 = .ok (.aload_n 0, 1) := by decide +kernel
theorem dX9_make_38 : decode cX9_make 38 = .ok (.getfield 33, 3) := by decide +kernel
theorem dX9_make_41 : decode cX9_make 41 = .ok (.iload_n 2, 1) := by decide +kernel
theorem dX9_make_42 : decode cX9_make 42 = .ok (.iconst 1, 1) := by decide +kernel
theorem dX9_make_43 : decode cX9_make 43 = .ok (.iadd, 1) := by decide +kernel
theorem dX9_make_44 : decode cX9_make 44 = .ok (.invokevirtual 45, 3) := by decide +kernel
theorem dX9_make_47 : decode cX9_make 47 = .ok (.istore_n 3, 1) := by decide +kernel
theorem dX9_make_48 : decode cX9_make 48 = .ok (.iload_n 3, 1) := by decide +kernel
theorem dX9_make_49 : decode cX9_make 49 = .ok (.iconst (-1), 1) := by decide +kernel
theorem dX9_make_50 : decode cX9_make 50 = .ok (.if_icmp .ne 24, 3) := by decide +kernel
theorem dX9_make_53 : decode cX9_make 53 = .ok (.aload_n 0, 1) := by decide +kernel
theorem dX9_make_54 : decode cX9_make 54 = .ok (.getfield 33, 3) := by decide +kernel
theorem dX9_make_57 : decode cX9_make 57 = .ok (.iload_n 2, 1) := by decide +kernel
theorem dX9_make_58 : decode cX9_make 58 = .ok (.iconst 1, 1) := by decide +kernel
theorem dX9_make_59 : decode cX9_make 59 = .ok (.iadd, 1) := by decide +kernel
theorem dX9_make_60 : decode cX9_make 60 = .ok (.invokevirtual 50, 3) := by decide +kernel
theorem dX9_make_63 : decode cX9_make 63 = .ok (.aload_n 0, 1) := by decide +kernel
theorem dX9_make_64 : decode cX9_make 64 = .ok (.getfield 33, 3) := by decide +kernel
theorem dX9_make_67 : decode cX9_make 67 = .ok (.iload_n 2, 1) := by decide +kernel
theorem dX9_make_68 : decode cX9_make 68 = .ok (.iconst 1, 1) := by decide +kernel
theorem dX9_make_69 : decode cX9_make 69 = .ok (.iadd, 1) := by decide +kernel
theorem dX9_make_70 : decode cX9_make 70 = .ok (.invokevirtual 45, 3) := by decide +kernel
theorem dX9_make_73 : decode cX9_make 73 = .ok (.istore_n 3, 1) := by decide +kernel
theorem dX9_make_74 : decode cX9_make 74 = .ok (.iload_n 3, 1) := by decide +kernel
theorem dX9_make_75 : decode cX9_make 75 = .ok (.iconst (-1), 1) := by decide +kernel
theorem dX9_make_76 : decode cX9_make 76 = .ok (.if_icmp .ne 6, 3) := by decide +kernel
theorem dX9_make_79 : decode cX9_make 79 = .ok (.bipush (-4), 2) := by decide +kernel
theorem dX9_make_81 : decode cX9_make 81 = .ok (.ireturn, 1) := by decide +kernel
theorem dX9_make_82 : decode cX9_make 82 = .ok (.new 53, 3) := by decide +kernel
theorem dX9_make_85 : decode cX9_make 85 = .ok (.dup, 1) := by decide +kernel
theorem dX9_make_86 : decode cX9_make 86 = .ok (.aload_n 0, 1) := by decide +kernel
theorem dX9_make_87 : decode cX9_make 87 = .ok (.getfield 37, 3) := by decide +kernel
theorem dX9_make_90 : decode cX9_make 90 = .ok (.iload_n 2, 1) := by decide +kernel
theorem dX9_make_91 : decode cX9_make 91 = .ok (.invokespecial 55, 3) := by decide +kernel
theorem dX9_make_94 : decode cX9_make 94 = .ok (.astore 4, 2) := by decide +kernel
theorem dX9_make_96 : decode cX9_make 96 = .ok (.aload_n 0, 1) := by decide +kernel
theorem dX9_make_97 : decode cX9_make 97 = .ok (.dup, 1) := by decide +kernel
theorem dX9_make_98 : decode cX9_make 98 = .ok (.getfield 37, 3) := by decide +kernel
theorem dX9_make_101 : decode cX9_make 101 = .ok (.iconst 1, 1) := by decide +kernel
theorem dX9_make_102 : decode cX9_make 102 = .ok (.iadd, 1) := by decide +kernel
theorem dX9_make_103 : decode cX9_make 103 = .ok (.putfield 37, 3) := by decide +kernel
theorem dX9_make_106 : decode cX9_make 106 = .ok (.aload_n 0, 1) := by decide +kernel
theorem dX9_make_107 : decode cX9_make 107 = .ok (.getfield 21, 3) := by decide +kernel
theorem dX9_make_110 : decode cX9_make 110 = .ok (.aload 4, 2) := by decide +kernel
theorem dX9_make_112 : decode cX9_make 112 = .ok (.iload_n 3, 1) := by decide +kernel
theorem dX9_make_113 : decode cX9_make 113 = .ok (.invokevirtual 58, 3) := by decide +kernel
theorem dX9_make_116 : decode cX9_make 116 = .ok (.aload_n 0, 1) := by decide +kernel
theorem dX9_make_117 : decode cX9_make 117 = .ok (.getfield 25, 3) := by decide +kernel
theorem dX9_make_120 : decode cX9_make 120 = .ok (.iload_n 1, 1) := by decide +kernel
theorem dX9_make_121 : decode cX9_make 121 = .ok (.aload 4, 2) := by decide +kernel
theorem dX9_make_123 : decode cX9_make 123 = .ok (.invokevirtual 62, 3) := by decide +kernel
theorem dX9_make_126 : decode cX9_make 126 = .ok (.aload 4, 2) := by decide +kernel
theorem dX9_make_128 : decode cX9_make 128 = .ok (.getfield 66, 3) := by decide +kernel
theorem dX9_make_131 : decode cX9_make 131 = .ok (.ireturn, 1) := by decide +kernel
theorem dX9_set_0 : decode cX9_set 0 = .ok (.aload_n 0, 1) := by decide +kernel
theorem dX9_set_1 : decode cX9_set 1 = .ok (.iload_n 1, 1) := by decide +kernel
theorem dX9_set_2 : decode cX9_set 2 = .ok (.iload_n 2, 1) := by decide +kernel
theorem dX9_set_3 : decode cX9_set 3 = .ok (.invokevirtual 69, 3) := by decide +kernel
theorem dX9_set_6 : decode cX9_set 6 = .ok (.astore 4, 2) := by decide +kernel
theorem dX9_set_8 : decode cX9_set 8 = .ok (.aload 4, 2) := by decide +kernel
theorem dX9_set_10 : decode cX9_set 10 = .ok (.ifnonnull 10, 3) := by decide +kernel
theorem dX9_set_13 : decode cX9_set 13 = .ok (.aload_n 0, 1) := by decide +kernel
theorem dX9_set_14 : decode cX9_set 14 = .ok (.iload_n 1, 1) := by decide +kernel
theorem dX9_set_15 : decode cX9_set 15 = .ok (.iload_n 2, 1) := by decide +kernel
theorem dX9_set_16 : decode cX9_set 16 = .ok (.invokevirtual 73, 3) := by decide +kernel
theorem dX9_set_19 : decode cX9_set 19 = .ok (.ireturn, 1) := by decide +kernel
theorem dX9_set_20 : decode cX9_set 20 = .ok (.aload 4, 2) := by decide +kernel
theorem dX9_set_22 : decode cX9_set 22 = .ok (.iload_n 2, 1) := by decide +kernel
theorem dX9_set_23 : decode cX9_set 23 = .ok (.iload_n 3, 1) := by decide +kernel
theorem dX9_set_24 : decode cX9_set 24 = .ok (.aconst_null, 1) := by decide +kernel
theorem dX9_set_25 : decode cX9_set 25 = .ok (.invokevirtual 77, 3) := by decide +kernel
theorem dX9_set_28 : decode cX9_set 28 = .ok (.iconst 0, 1) := by decide +kernel
theorem dX9_set_29 : decode cX9_set 29 = .ok (.ireturn, 1) := by decide +kernel
theorem dX9_link_0 : decode cX9_link 0 = .ok (.aload_n 0, 1) := by decide +kernel
theorem dX9_link_1 : decode cX9_link 1 = .ok (.getfield 25, 3) := by decide +kernel
theorem dX9_link_4 : decode cX9_link 4 = .ok (.iload_n 3, 1) := by decide +kernel
theorem dX9_link_5 : decode cX9_link 5 = .ok (.invokevirtual 41, 3) := by decide +kernel
theorem dX9_link_8 : decode cX9_link 8 = .ok (.ifCond .ne 6, 3) := by decide +kernel
theorem dX9_link_11 : decode cX9_link 11 = .ok (.bipush (-2), 2) := by decide +kernel
theorem dX9_link_13 : decode cX9_link 13 = .ok (.ireturn, 1) := by decide +kernel
theorem dX9_link_14 : decode cX9_link 14 = .ok (.aload_n 0, 1) := by decide +kernel
theorem dX9_link_15 : decode cX9_link 15 = .ok (.iload_n 1, 1) := by decide +kernel
theorem dX9_link_16 : decode cX9_link 16 = .ok (.iload_n 2, 1) := by decide +kernel
theorem dX9_link_17 : decode cX9_link 17 = .ok (.invokevirtual 69, 3) := by decide +kernel
theorem dX9_link_20 : decode cX9_link 20 = .ok (.astore 4, 2) := by decide +kernel
theorem dX9_link_22 : decode cX9_link 22 = .ok (.aload 4, 2) := by decide +kernel
theorem dX9_link_24 : decode cX9_link 24 = .ok (.ifnonnull 10, 3) := by decide +kernel
theorem dX9_link_27 : decode cX9_link 27 = .ok (.aload_n 0, 1) := by decide +kernel
theorem dX9_link_28 : decode cX9_link 28 = .ok (.iload_n 1, 1) := by decide +kernel
theorem dX9_link_29 : decode cX9_link 29 = .ok (.iload_n 2, 1) := by decide +kernel
theorem dX9_link_30 : decode cX9_link 30 = .ok (.invokevirtual 73, 3) := by decide +kernel
theorem dX9_link_33 : decode cX9_link 33 = .ok (.ireturn, 1) := by decide +kernel
theorem dX9_link_34 : decode cX9_link 34 = .ok (.aload_n 0, 1) := by decide +kernel
theorem dX9_link_35 : decode cX9_link 35 = .ok (.getfield 25, 3) := by decide +kernel
theorem dX9_link_38 : decode cX9_link 38 = .ok (.iload_n 3, 1) := by decide +kernel
theorem dX9_link_39 : decode cX9_link 39 = .ok (.invokevirtual 81, 3) := by decide +kernel
theorem dX9_link_42 : decode cX9_link 42 = .ok (.astore 5, 2) := by decide +kernel
theorem dX9_link_44 : decode cX9_link 44 = .ok (.aload 5, 2) := by decide +kernel
theorem dX9_link_46 : decode cX9_link 46 = .ok (.ifnonnull 6, 3) := by decide +kernel
theorem dX9_link_49 : decode cX9_link 49 = .ok (.bipush (-3), 2) := by decide +kernel
theorem dX9_link_51 : decode cX9_link 51 = .ok (.ireturn, 1) := by decide +kernel
theorem dX9_link_52 : decode cX9_link 52 = .ok (.aload 4, 2) := by decide +kernel
theorem dX9_link_54 : decode cX9_link 54 = .ok (.iload_n 2, 1) := by decide +kernel
theorem dX9_link_55 : decode cX9_link 55 = .ok (.iconst 0, 1) := by decide +kernel
theorem dX9_link_56 : decode cX9_link 56 = .ok (.aload 5, 2) := by decide +kernel
theorem dX9_link_58 : decode cX9_link 58 = .ok (.invokevirtual 77, 3) := by decide +kernel
theorem dX9_link_61 : decode cX9_link 61 = .ok (.aload_n 0, 1) := by decide +kernel
theorem dX9_link_62 : decode cX9_link 62 = .ok (.getfield 33, 3) := by decide +kernel
theorem dX9_link_65 : decode cX9_link 65 = .ok (.aload 4, 2) := by decide +kernel
theorem dX9_link_67 : decode cX9_link 67 = .ok (.invokevirtual 85, 3) := by decide +kernel
theorem dX9_link_70 : decode cX9_link 70 = .ok (.ifCond .eq 21, 3) := by decide +kernel
theorem dX9_link_73 : decode cX9_link 73 = .ok (.aload_n 0, 1) := by decide +kernel
theorem dX9_link_74 : decode cX9_link 74 = .ok (.getfield 33, 3) := by decide +kernel
theorem dX9_link_77 : decode cX9_link 77 = .ok (.aload 5, 2) := by decide +kernel
theorem dX9_link_79 : decode cX9_link 79 = .ok (.invokevirtual 85, 3) := by decide +kernel
theorem dX9_link_82 : decode cX9_link 82 = .ok (.ifCond .ne 9, 3) := by decide +kernel
theorem dX9_link_85 : decode cX9_link 85 = .ok (.aload 4, 2) := by decide +kernel
theorem dX9_link_87 : decode cX9_link 87 = .ok (.iconst 1, 1) := by decide +kernel
theorem dX9_link_88 : decode cX9_link 88 = .ok (.putfield 89, 3) := by decide +kernel
theorem dX9_link_91 : decode cX9_link 91 = .ok (.iconst 0, 1) := by decide +kernel
theorem dX9_link_92 : decode cX9_link 92 = .ok (.ireturn, 1) := by decide +kernel
theorem dX9_refers_0 : decode cX9_refers 0 = .ok (.aload_n 0, 1) := by decide +kernel
theorem dX9_refers_1 : decode cX9_refers 1 = .ok (.iload_n 1, 1) := by decide +kernel
theorem dX9_refers_2 : decode cX9_refers 2 = .ok (.iload_n 2, 1) := by decide +kernel
theorem dX9_refers_3 : decode cX9_refers 3 = .ok (.invokevirtual 69, 3) := by decide +kernel
theorem dX9_refers_6 : decode cX9_refers 6 = .ok (.astore_n 3, 1) := by decide +kernel
theorem dX9_refers_7 : decode cX9_refers 7 = .ok (.aload_n 3, 1) := by decide +kernel
theorem dX9_refers_8 : decode cX9_refers 8 = .ok (.ifnonnull 10, 3) := by decide +kernel
theorem dX9_refers_11 : decode cX9_refers 11 = .ok (.aload_n 0, 1) := by decide +kernel
theorem dX9_refers_12 : decode cX9_refers 12 = .ok (.iload_n 1, 1) := by decide +kernel
theorem dX9_refers_13 : decode cX9_refers 13 = .ok (.iload_n 2, 1) := by decide +kernel
theorem dX9_refers_14 : decode cX9_refers 14 = .ok (.invokevirtual 73, 3) := by decide +kernel
theorem dX9_refers_17 : decode cX9_refers 17 = .ok (.ireturn, 1) := by decide +kernel
theorem dX9_refers_18 : decode cX9_refers 18 = .ok (.aload_n 3, 1) := by decide +kernel
theorem dX9_refers_19 : decode cX9_refers 19 = .ok (.iload_n 2, 1) := by decide +kernel
theorem dX9_refers_20 : decode cX9_refers 20 = .ok (.invokevirtual 93, 3) := by decide +kernel
theorem dX9_refers_23 : decode cX9_refers 23 = .ok (.ifnull 7, 3) := by decide +kernel
theorem dX9_refers_26 : decode cX9_refers 26 = .ok (.iconst 1, 1) := by decide +kernel
theorem dX9_refers_27 : decode cX9_refers 27 = .ok (.goto 4, 3) := by decide +kernel
theorem dX9_refers_30 : decode cX9_refers 30 = .ok (.iconst 0, 1) := by decide +kernel
theorem dX9_refers_31 : decode cX9_refers 31 = .ok (.invokestatic 96, 3) := by decide +kernel
theorem dX9_refers_34 : decode cX9_refers 34 = .ok (.ireturn, 1) := by decide +kernel
theorem dX9_number_0 : decode cX9_number 0 = .ok (.aload_n 0, 1) := by decide +kernel
theorem dX9_number_1 : decode cX9_number 1 = .ok (.iload_n 1, 1) := by decide +kernel
theorem dX9_number_2 : decode cX9_number 2 = .ok (.iload_n 2, 1) := by decide +kernel
theorem dX9_number_3 : decode cX9_number 3 = .ok (.invokevirtual 69, 3) := by decide +kernel
theorem dX9_number_6 : decode cX9_number 6 = .ok (.astore_n 3, 1) := by decide +kernel
theorem dX9_number_7 : decode cX9_number 7 = .ok (.aload_n 3, 1) := by decide +kernel
theorem dX9_number_8 : decode cX9_number 8 = .ok (.ifnonnull 7, 3) := by decide +kernel
theorem dX9_number_11 : decode cX9_number 11 = .ok (.iconst 0, 1) := by decide +kernel
theorem dX9_number_12 : decode cX9_number 12 = .ok (.goto 8, 3) := by decide +kernel
theorem dX9_number_15 : decode cX9_number 15 = .ok (.aload_n 3, 1) := by decide +kernel
theorem dX9_number_16 : decode cX9_number 16 = .ok (.iload_n 2, 1) := by decide +kernel
theorem dX9_number_17 : decode cX9_number 17 = .ok (.invokevirtual 100, 3) := by decide +kernel
theorem dX9_number_20 : decode cX9_number 20 = .ok (.ireturn, 1) := by decide +kernel
theorem dX9_load_0 : decode cX9_load 0 = .ok (.aload_n 0, 1) := by decide +kernel
theorem dX9_load_1 : decode cX9_load 1 = .ok (.getfield 25, 3) := by decide +kernel
theorem dX9_load_4 : decode cX9_load 4 = .ok (.iload_n 1, 1) := by decide +kernel
theorem dX9_load_5 : decode cX9_load 5 = .ok (.invokevirtual 41, 3) := by decide +kernel
theorem dX9_load_8 : decode cX9_load 8 = .ok (.ifCond .ne 6, 3) := by decide +kernel
theorem dX9_load_11 : decode cX9_load 11 = .ok (.bipush (-2), 2) := by decide +kernel
theorem dX9_load_13 : decode cX9_load 13 = .ok (.ireturn, 1) := by decide +kernel
theorem dX9_load_14 : decode cX9_load 14 = .ok (.aload_n 0, 1) := by decide +kernel
theorem dX9_load_15 : decode cX9_load 15 = .ok (.iload_n 2, 1) := by decide +kernel
theorem dX9_load_16 : decode cX9_load 16 = .ok (.iload_n 3, 1) := by decide +kernel
theorem dX9_load_17 : decode cX9_load 17 = .ok (.invokevirtual 69, 3) := by decide +kernel
theorem dX9_load_20 : decode cX9_load 20 = .ok (.astore 4, 2) := by decide +kernel
theorem dX9_load_22 : decode cX9_load 22 = .ok (.aload 4, 2) := by decide +kernel
theorem dX9_load_24 : decode cX9_load 24 = .ok (.ifnonnull 10, 3) := by decide +kernel
theorem dX9_load_27 : decode cX9_load 27 = .ok (.aload_n 0, 1) := by decide +kernel
theorem dX9_load_28 : decode cX9_load 28 = .ok (.iload_n 2, 1) := by decide +kernel
theorem dX9_load_29 : decode cX9_load 29 = .ok (.iload_n 3, 1) := by decide +kernel
theorem dX9_load_30 : decode cX9_load 30 = .ok (.invokevirtual 73, 3) := by decide +kernel
theorem dX9_load_33 : decode cX9_load 33 = .ok (.ireturn, 1) := by decide +kernel
theorem dX9_load_34 : decode cX9_load 34 = .ok (.aload 4, 2) := by decide +kernel
theorem dX9_load_36 : decode cX9_load 36 = .ok (.iload_n 3, 1) := by decide +kernel
theorem dX9_load_37 : decode cX9_load 37 = .ok (.invokevirtual 93, 3) := by decide +kernel
theorem dX9_load_40 : decode cX9_load 40 = .ok (.astore 5, 2) := by decide +kernel
theorem dX9_load_42 : decode cX9_load 42 = .ok (.aload 5, 2) := by decide +kernel
theorem dX9_load_44 : decode cX9_load 44 = .ok (.ifnonnull 6, 3) := by decide +kernel
theorem dX9_load_47 : decode cX9_load 47 = .ok (.bipush (-3), 2) := by decide +kernel
theorem dX9_load_49 : decode cX9_load 49 = .ok (.ireturn, 1) := by decide +kernel
theorem dX9_load_50 : decode cX9_load 50 = .ok (.aload_n 0, 1) := by decide +kernel
theorem dX9_load_51 : decode cX9_load 51 = .ok (.getfield 25, 3) := by decide +kernel
theorem dX9_load_54 : decode cX9_load 54 = .ok (.iload_n 1, 1) := by decide +kernel
theorem dX9_load_55 : decode cX9_load 55 = .ok (.aload 5, 2) := by decide +kernel
theorem dX9_load_57 : decode cX9_load 57 = .ok (.invokevirtual 62, 3) := by decide +kernel
theorem dX9_load_60 : decode cX9_load 60 = .ok (.aload 5, 2) := by decide +kernel
theorem dX9_load_62 : decode cX9_load 62 = .ok (.getfield 66, 3) := by decide +kernel
theorem dX9_load_65 : decode cX9_load 65 = .ok (.ireturn, 1) := by decide +kernel
theorem dX9_copy_0 : decode cX9_copy 0 = .ok (.aload_n 0, 1) := by decide +kernel
theorem dX9_copy_1 : decode cX9_copy 1 = .ok (.getfield 25, 3) := by decide +kernel
theorem dX9_copy_4 : decode cX9_copy 4 = .ok (.iload_n 1, 1) := by decide +kernel
theorem dX9_copy_5 : decode cX9_copy 5 = .ok (.invokevirtual 41, 3) := by decide +kernel
theorem dX9_copy_8 : decode cX9_copy 8 = .ok (.ifCond .eq 14, 3) := by decide +kernel
theorem dX9_copy_11 : decode cX9_copy 11 = .ok (.aload_n 0, 1) := by decide +kernel
theorem dX9_copy_12 : decode cX9_copy 12 = .ok (.getfield 25, 3) := by decide +kernel
theorem dX9_copy_15 : decode cX9_copy 15 = .ok (.iload_n 2, 1) := by decide +kernel
theorem dX9_copy_16 : decode cX9_copy 16 = .ok (.invokevirtual 41, 3) := by decide +kernel
theorem dX9_copy_19 : decode cX9_copy 19 = .ok (.ifCond .ne 6, 3) := by decide +kernel
theorem dX9_copy_22 : decode cX9_copy 22 = .ok (.bipush (-2), 2) := by decide +kernel
theorem dX9_copy_24 : decode cX9_copy 24 = .ok (.ireturn, 1) := by decide +kernel
theorem dX9_copy_25 : decode cX9_copy 25 = .ok (.aload_n 0, 1) := by decide +kernel
theorem dX9_copy_26 : decode cX9_copy 26 = .ok (.getfield 25, 3) := by decide +kernel
theorem dX9_copy_29 : decode cX9_copy 29 = .ok (.iload_n 2, 1) := by decide +kernel
theorem dX9_copy_30 : decode cX9_copy 30 = .ok (.invokevirtual 81, 3) := by decide +kernel
theorem dX9_copy_33 : decode cX9_copy 33 = .ok (.astore_n 3, 1) := by decide +kernel
theorem dX9_copy_34 : decode cX9_copy 34 = .ok (.aload_n 0, 1) := by decide +kernel
theorem dX9_copy_35 : decode cX9_copy 35 = .ok (.getfield 25, 3) := by decide +kernel
theorem dX9_copy_38 : decode cX9_copy 38 = .ok (.iload_n 1, 1) := by decide +kernel
theorem dX9_copy_39 : decode cX9_copy 39 = .ok (.aload_n 3, 1) := by decide +kernel
theorem dX9_copy_40 : decode cX9_copy 40 = .ok (.invokevirtual 62, 3) := by decide +kernel
theorem dX9_copy_43 : decode cX9_copy 43 = .ok (.aload_n 3, 1) := by decide +kernel
theorem dX9_copy_44 : decode cX9_copy 44 = .ok (.invokestatic 103, 3) := by decide +kernel
theorem dX9_copy_47 : decode cX9_copy 47 = .ok (.ireturn, 1) := by decide +kernel
theorem dX9_drop_0 : decode cX9_drop 0 = .ok (.aload_n 0, 1) := by decide +kernel
theorem dX9_drop_1 : decode cX9_drop 1 = .ok (.getfield 25, 3) := by decide +kernel
theorem dX9_drop_4 : decode cX9_drop 4 = .ok (.iload_n 1, 1) := by decide +kernel
theorem dX9_drop_5 : decode cX9_drop 5 = .ok (.invokevirtual 41, 3) := by decide +kernel
theorem dX9_drop_8 : decode cX9_drop 8 = .ok (.ifCond .ne 6, 3) := by decide +kernel
theorem dX9_drop_11 : decode cX9_drop 11 = .ok (.bipush (-2), 2) := by decide +kernel
theorem dX9_drop_13 : decode cX9_drop 13 = .ok (.ireturn, 1) := by decide +kernel
theorem dX9_drop_14 : decode cX9_drop 14 = .ok (.aload_n 0, 1) := by decide +kernel
theorem dX9_drop_15 : decode cX9_drop 15 = .ok (.getfield 25, 3) := by decide +kernel
theorem dX9_drop_18 : decode cX9_drop 18 = .ok (.iload_n 1, 1) := by decide +kernel
theorem dX9_drop_19 : decode cX9_drop 19 = .ok (.invokevirtual 81, 3) := by decide +kernel
theorem dX9_drop_22 : decode cX9_drop 22 = .ok (.ifnull 7, 3) := by decide +kernel
theorem dX9_drop_25 : decode cX9_drop 25 = .ok (.iconst 1, 1) := by decide +kernel
theorem dX9_drop_26 : decode cX9_drop 26 = .ok (.goto 4, 3) := by decide +kernel
theorem dX9_drop_29 : decode cX9_drop 29 = .ok (.iconst 0, 1) := by decide +kernel
theorem dX9_drop_30 : decode cX9_drop 30 = .ok (.istore_n 2, 1) := by decide +kernel
theorem dX9_drop_31 : decode cX9_drop 31 = .ok (.aload_n 0, 1) := by decide +kernel
theorem dX9_drop_32 : decode cX9_drop 32 = .ok (.getfield 25, 3) := by decide +kernel
theorem dX9_drop_35 : decode cX9_drop 35 = .ok (.iload_n 1, 1) := by decide +kernel
theorem dX9_drop_36 : decode cX9_drop 36 = .ok (.aconst_null, 1) := by decide +kernel
theorem dX9_drop_37 : decode cX9_drop 37 = .ok (.invokevirtual 62, 3) := by decide +kernel
theorem dX9_drop_40 : decode cX9_drop 40 = .ok (.iload_n 2, 1) := by decide +kernel
theorem dX9_drop_41 : decode cX9_drop 41 = .ok (.invokestatic 96, 3) := by decide +kernel
theorem dX9_drop_44 : decode cX9_drop 44 = .ok (.ireturn, 1) := by decide +kernel
theorem dX9_collect_0 : decode cX9_collect 0 = .ok (.aload_n 0, 1) := by decide +kernel
theorem dX9_collect_1 : decode cX9_collect 1 = .ok (.getfield 33, 3) := by decide +kernel
theorem dX9_collect_4 : decode cX9_collect 4 = .ok (.invokevirtual 107, 3) := by decide +kernel
theorem dX9_collect_7 : decode cX9_collect 7 = .ok (.ireturn, 1) := by decide +kernel
theorem dX9_minor_0 : decode cX9_minor 0 = .ok (.aload_n 0, 1) := by decide +kernel
theorem dX9_minor_1 : decode cX9_minor 1 = .ok (.getfield 33, 3) := by decide +kernel
theorem dX9_minor_4 : decode cX9_minor 4 = .ok (.invokevirtual 111, 3) := by decide +kernel
theorem dX9_minor_7 : decode cX9_minor 7 = .ok (.ireturn, 1) := by decide +kernel
theorem dX9_object_0 : decode cX9_object 0 = .ok (.aload_n 0, 1) := by decide +kernel
theorem dX9_object_1 : decode cX9_object 1 = .ok (.getfield 25, 3) := by decide +kernel
theorem dX9_object_4 : decode cX9_object 4 = .ok (.iload_n 1, 1) := by decide +kernel
theorem dX9_object_5 : decode cX9_object 5 = .ok (.invokevirtual 41, 3) := by decide +kernel
theorem dX9_object_8 : decode cX9_object 8 = .ok (.ifCond .eq 12, 3) := by decide +kernel
theorem dX9_object_11 : decode cX9_object 11 = .ok (.iload_n 2, 1) := by decide +kernel
theorem dX9_object_12 : decode cX9_object 12 = .ok (.ifCond .lt 8, 3) := by decide +kernel
theorem dX9_object_15 : decode cX9_object 15 = .ok (.iload_n 2, 1) := by decide +kernel
theorem dX9_object_16 : decode cX9_object 16 = .ok (.iconst 4, 1) := by decide +kernel
theorem dX9_object_17 : decode cX9_object 17 = .ok (.if_icmp .le 6, 3) := by decide +kernel
theorem dX9_object_20 : decode cX9_object 20 = .ok (.bipush (-2), 2) := by decide +kernel
theorem dX9_object_22 : decode cX9_object 22 = .ok (.ireturn, 1) := by decide +kernel
theorem dX9_object_23 : decode cX9_object 23 = .ok (.aload_n 0, 1) := by decide +kernel
theorem dX9_object_24 : decode cX9_object 24 = .ok (.getfield 25, 3) := by decide +kernel
theorem dX9_object_27 : decode cX9_object 27 = .ok (.iload_n 1, 1) := by decide +kernel
theorem dX9_object_28 : decode cX9_object 28 = .ok (.invokevirtual 81, 3) := by decide +kernel
theorem dX9_object_31 : decode cX9_object 31 = .ok (.astore_n 3, 1) := by decide +kernel
theorem dX9_object_32 : decode cX9_object 32 = .ok (.aload_n 3, 1) := by decide +kernel
theorem dX9_object_33 : decode cX9_object 33 = .ok (.ifnonnull 6, 3) := by decide +kernel
theorem dX9_object_36 : decode cX9_object 36 = .ok (.bipush (-3), 2) := by decide +kernel
theorem dX9_object_38 : decode cX9_object 38 = .ok (.ireturn, 1) := by decide +kernel
theorem dX9_object_39 : decode cX9_object 39 = .ok (.iload_n 2, 1) := by decide +kernel
theorem dX9_object_40 : decode cX9_object 40 = .ok (.tableswitch 59 0 3 #[32, 37, 42, 47], 32) := by decide +kernel
theorem dX9_object_72 : decode cX9_object 72 = .ok (.aload_n 3, 1) := by decide +kernel
theorem dX9_object_73 : decode cX9_object 73 = .ok (.getfield 66, 3) := by decide +kernel
theorem dX9_object_76 : decode cX9_object 76 = .ok (.ireturn, 1) := by decide +kernel
theorem dX9_object_77 : decode cX9_object 77 = .ok (.aload_n 3, 1) := by decide +kernel
theorem dX9_object_78 : decode cX9_object 78 = .ok (.getfield 114, 3) := by decide +kernel
theorem dX9_object_81 : decode cX9_object 81 = .ok (.ireturn, 1) := by decide +kernel
theorem dX9_object_82 : decode cX9_object 82 = .ok (.aload_n 3, 1) := by decide +kernel
theorem dX9_object_83 : decode cX9_object 83 = .ok (.invokevirtual 117, 3) := by decide +kernel
theorem dX9_object_86 : decode cX9_object 86 = .ok (.ireturn, 1) := by decide +kernel
theorem dX9_object_87 : decode cX9_object 87 = .ok (.aload_n 0, 1) := by decide +kernel
theorem dX9_object_88 : decode cX9_object 88 = .ok (.getfield 33, 3) := by decide +kernel
theorem dX9_object_91 : decode cX9_object 91 = .ok (.aload_n 3, 1) := by decide +kernel
theorem dX9_object_92 : decode cX9_object 92 = .ok (.invokevirtual 85, 3) := by decide +kernel
theorem dX9_object_95 : decode cX9_object 95 = .ok (.invokestatic 96, 3) := by decide +kernel
theorem dX9_object_98 : decode cX9_object 98 = .ok (.ireturn, 1) := by decide +kernel
theorem dX9_object_99 : decode cX9_object 99 = .ok (.aload_n 3, 1) := by decide +kernel
theorem dX9_object_100 : decode cX9_object 100 = .ok (.getfield 89, 3) := by decide +kernel
theorem dX9_object_103 : decode cX9_object 103 = .ok (.invokestatic 96, 3) := by decide +kernel
theorem dX9_object_106 : decode cX9_object 106 = .ok (.ireturn, 1) := by decide +kernel
theorem dX9_at_0 : decode cX9_at 0 = .ok (.iload_n 1, 1) := by decide +kernel
theorem dX9_at_1 : decode cX9_at 1 = .ok (.ifCond .lt 14, 3) := by decide +kernel
theorem dX9_at_4 : decode cX9_at 4 = .ok (.iload_n 1, 1) := by decide +kernel
theorem dX9_at_5 : decode cX9_at 5 = .ok (.aload_n 0, 1) := by decide +kernel
theorem dX9_at_6 : decode cX9_at 6 = .ok (.getfield 21, 3) := by decide +kernel
theorem dX9_at_9 : decode cX9_at 9 = .ok (.invokevirtual 120, 3) := by decide +kernel
theorem dX9_at_12 : decode cX9_at 12 = .ok (.if_icmp .lt 6, 3) := by decide +kernel
theorem dX9_at_15 : decode cX9_at 15 = .ok (.bipush (-2), 2) := by decide +kernel
theorem dX9_at_17 : decode cX9_at 17 = .ok (.ireturn, 1) := by decide +kernel
theorem dX9_at_18 : decode cX9_at 18 = .ok (.aload_n 0, 1) := by decide +kernel
theorem dX9_at_19 : decode cX9_at 19 = .ok (.getfield 21, 3) := by decide +kernel
theorem dX9_at_22 : decode cX9_at 22 = .ok (.iload_n 1, 1) := by decide +kernel
theorem dX9_at_23 : decode cX9_at 23 = .ok (.invokevirtual 123, 3) := by decide +kernel
theorem dX9_at_26 : decode cX9_at 26 = .ok (.invokestatic 103, 3) := by decide +kernel
theorem dX9_at_29 : decode cX9_at 29 = .ok (.ireturn, 1) := by decide +kernel
theorem dX9_count_0 : decode cX9_count 0 = .ok (.iload_n 1, 1) := by decide +kernel
theorem dX9_count_1 : decode cX9_count 1 = .ok (.tableswitch 127 0 8 #[51, 66, 74, 79, 87, 95, 103, 111, 119], 51) := by decide +kernel
theorem dX9_count_52 : decode cX9_count 52 = .ok (.aload_n 0, 1) := by decide +kernel
theorem dX9_count_53 : decode cX9_count 53 = .ok (.getfield 21, 3) := by decide +kernel
theorem dX9_count_56 : decode cX9_count 56 = .ok (.aload_n 0, 1) := by decide +kernel
theorem dX9_count_57 : decode cX9_count 57 = .ok (.getfield 21, 3) := by decide +kernel
theorem dX9_count_60 : decode cX9_count 60 = .ok (.invokevirtual 120, 3) := by decide +kernel
theorem dX9_count_63 : decode cX9_count 63 = .ok (.invokevirtual 126, 3) := by decide +kernel
theorem dX9_count_66 : decode cX9_count 66 = .ok (.ireturn, 1) := by decide +kernel
theorem dX9_count_67 : decode cX9_count 67 = .ok (.aload_n 0, 1) := by decide +kernel
theorem dX9_count_68 : decode cX9_count 68 = .ok (.getfield 21, 3) := by decide +kernel
theorem dX9_count_71 : decode cX9_count 71 = .ok (.invokevirtual 129, 3) := by decide +kernel
theorem dX9_count_74 : decode cX9_count 74 = .ok (.ireturn, 1) := by decide +kernel
theorem dX9_count_75 : decode cX9_count 75 = .ok (.aload_n 0, 1) := by decide +kernel
theorem dX9_count_76 : decode cX9_count 76 = .ok (.getfield 37, 3) := by decide +kernel
theorem dX9_count_79 : decode cX9_count 79 = .ok (.ireturn, 1) := by decide +kernel
theorem dX9_count_80 : decode cX9_count 80 = .ok (.aload_n 0, 1) := by decide +kernel
theorem dX9_count_81 : decode cX9_count 81 = .ok (.getfield 33, 3) := by decide +kernel
theorem dX9_count_84 : decode cX9_count 84 = .ok (.getfield 132, 3) := by decide +kernel
theorem dX9_count_87 : decode cX9_count 87 = .ok (.ireturn, 1) := by decide +kernel
theorem dX9_count_88 : decode cX9_count 88 = .ok (.aload_n 0, 1) := by decide +kernel
theorem dX9_count_89 : decode cX9_count 89 = .ok (.getfield 33, 3) := by decide +kernel
theorem dX9_count_92 : decode cX9_count 92 = .ok (.getfield 135, 3) := by decide +kernel
theorem dX9_count_95 : decode cX9_count 95 = .ok (.ireturn, 1) := by decide +kernel
theorem dX9_count_96 : decode cX9_count 96 = .ok (.aload_n 0, 1) := by decide +kernel
theorem dX9_count_97 : decode cX9_count 97 = .ok (.getfield 33, 3) := by decide +kernel
theorem dX9_count_100 : decode cX9_count 100 = .ok (.getfield 138, 3) := by decide +kernel
theorem dX9_count_103 : decode cX9_count 103 = .ok (.ireturn, 1) := by decide +kernel
theorem dX9_count_104 : decode cX9_count 104 = .ok (.aload_n 0, 1) := by decide +kernel
theorem dX9_count_105 : decode cX9_count 105 = .ok (.getfield 21, 3) := by decide +kernel
theorem dX9_count_108 : decode cX9_count 108 = .ok (.invokevirtual 141, 3) := by decide +kernel
theorem dX9_count_111 : decode cX9_count 111 = .ok (.ireturn, 1) := by decide +kernel
theorem dX9_count_112 : decode cX9_count 112 = .ok (.aload_n 0, 1) := by decide +kernel
theorem dX9_count_113 : decode cX9_count 113 = .ok (.getfield 33, 3) := by decide +kernel
theorem dX9_count_116 : decode cX9_count 116 = .ok (.invokevirtual 144, 3) := by decide +kernel
theorem dX9_count_119 : decode cX9_count 119 = .ok (.ireturn, 1) := by decide +kernel
theorem dX9_count_120 : decode cX9_count 120 = .ok (.aload_n 0, 1) := by decide +kernel
theorem dX9_count_121 : decode cX9_count 121 = .ok (.getfield 21, 3) := by decide +kernel
theorem dX9_count_124 : decode cX9_count 124 = .ok (.invokevirtual 120, 3) := by decide +kernel
theorem dX9_count_127 : decode cX9_count 127 = .ok (.ireturn, 1) := by decide +kernel
theorem dX9_count_128 : decode cX9_count 128 = .ok (.bipush (-2), 2) := by decide +kernel
theorem dX9_count_130 : decode cX9_count 130 = .ok (.ireturn, 1) := by decide +kernel
theorem dX9_same_0 : decode cX9_same 0 = .ok (.aload_n 0, 1) := by decide +kernel
theorem dX9_same_1 : decode cX9_same 1 = .ok (.getfield 25, 3) := by decide +kernel
theorem dX9_same_4 : decode cX9_same 4 = .ok (.iload_n 1, 1) := by decide +kernel
theorem dX9_same_5 : decode cX9_same 5 = .ok (.invokevirtual 41, 3) := by decide +kernel
theorem dX9_same_8 : decode cX9_same 8 = .ok (.ifCond .eq 14, 3) := by decide +kernel
theorem dX9_same_11 : decode cX9_same 11 = .ok (.aload_n 0, 1) := by decide +kernel
theorem dX9_same_12 : decode cX9_same 12 = .ok (.getfield 25, 3) := by decide +kernel
theorem dX9_same_15 : decode cX9_same 15 = .ok (.iload_n 2, 1) := by decide +kernel
theorem dX9_same_16 : decode cX9_same 16 = .ok (.invokevirtual 41, 3) := by decide +kernel
theorem dX9_same_19 : decode cX9_same 19 = .ok (.ifCond .ne 6, 3) := by decide +kernel
theorem dX9_same_22 : decode cX9_same 22 = .ok (.bipush (-2), 2) := by decide +kernel
theorem dX9_same_24 : decode cX9_same 24 = .ok (.ireturn, 1) := by decide +kernel
theorem dX9_same_25 : decode cX9_same 25 = .ok (.aload_n 0, 1) := by decide +kernel
theorem dX9_same_26 : decode cX9_same 26 = .ok (.getfield 25, 3) := by decide +kernel
theorem dX9_same_29 : decode cX9_same 29 = .ok (.iload_n 1, 1) := by decide +kernel
theorem dX9_same_30 : decode cX9_same 30 = .ok (.invokevirtual 81, 3) := by decide +kernel
theorem dX9_same_33 : decode cX9_same 33 = .ok (.aload_n 0, 1) := by decide +kernel
theorem dX9_same_34 : decode cX9_same 34 = .ok (.getfield 25, 3) := by decide +kernel
theorem dX9_same_37 : decode cX9_same 37 = .ok (.iload_n 2, 1) := by decide +kernel
theorem dX9_same_38 : decode cX9_same 38 = .ok (.invokevirtual 81, 3) := by decide +kernel
theorem dX9_same_41 : decode cX9_same 41 = .ok (.if_acmp .ne 7, 3) := by decide +kernel
theorem dX9_same_44 : decode cX9_same 44 = .ok (.iconst 1, 1) := by decide +kernel
theorem dX9_same_45 : decode cX9_same 45 = .ok (.goto 4, 3) := by decide +kernel
theorem dX9_same_48 : decode cX9_same 48 = .ok (.iconst 0, 1) := by decide +kernel
theorem dX9_same_49 : decode cX9_same 49 = .ok (.invokestatic 96, 3) := by decide +kernel
theorem dX9_same_52 : decode cX9_same 52 = .ok (.ireturn, 1) := by decide +kernel
theorem dX9_sum_0 : decode cX9_sum 0 = .ok (.aload_n 0, 1) := by decide +kernel
theorem dX9_sum_1 : decode cX9_sum 1 = .ok (.getfield 25, 3) := by decide +kernel
theorem dX9_sum_4 : decode cX9_sum 4 = .ok (.iload_n 1, 1) := by decide +kernel
theorem dX9_sum_5 : decode cX9_sum 5 = .ok (.invokevirtual 41, 3) := by decide +kernel
theorem dX9_sum_8 : decode cX9_sum 8 = .ok (.ifCond .ne 7, 3) := by decide +kernel
theorem dX9_sum_11 : decode cX9_sum 11 = .ok (.ldc2_w 147, 3) := by decide +kernel
theorem dX9_sum_14 : decode cX9_sum 14 = .ok (.lreturn, 1) := by decide +kernel
theorem dX9_sum_15 : decode cX9_sum 15 = .ok (.aload_n 0, 1) := by decide +kernel
theorem dX9_sum_16 : decode cX9_sum 16 = .ok (.getfield 25, 3) := by decide +kernel
theorem dX9_sum_19 : decode cX9_sum 19 = .ok (.iload_n 1, 1) := by decide +kernel
theorem dX9_sum_20 : decode cX9_sum 20 = .ok (.invokevirtual 81, 3) := by decide +kernel
theorem dX9_sum_23 : decode cX9_sum 23 = .ok (.astore_n 2, 1) := by decide +kernel
theorem dX9_sum_24 : decode cX9_sum 24 = .ok (.aload_n 2, 1) := by decide +kernel
theorem dX9_sum_25 : decode cX9_sum 25 = .ok (.ifnonnull 7, 3) := by decide +kernel
theorem dX9_sum_28 : decode cX9_sum 28 = .ok (.lconst 0, 1) := by decide +kernel
theorem dX9_sum_29 : decode cX9_sum 29 = .ok (.goto 11, 3) := by decide +kernel
theorem dX9_sum_32 : decode cX9_sum 32 = .ok (.aload_n 0, 1) := by decide +kernel
theorem dX9_sum_33 : decode cX9_sum 33 = .ok (.getfield 33, 3) := by decide +kernel
theorem dX9_sum_36 : decode cX9_sum 36 = .ok (.aload_n 2, 1) := by decide +kernel
theorem dX9_sum_37 : decode cX9_sum 37 = .ok (.invokevirtual 149, 3) := by decide +kernel
theorem dX9_sum_40 : decode cX9_sum 40 = .ok (.lreturn, 1) := by decide +kernel
theorem dX9_wordsFor_0 : decode cX9_wordsFor 0 = .ok (.bipush 16, 2) := by decide +kernel
theorem dX9_wordsFor_2 : decode cX9_wordsFor 2 = .ok (.sipush 400, 3) := by decide +kernel
theorem dX9_wordsFor_5 : decode cX9_wordsFor 5 = .ok (.iload_n 0, 1) := by decide +kernel
theorem dX9_wordsFor_6 : decode cX9_wordsFor 6 = .ok (.invokestatic 153, 3) := by decide +kernel
theorem dX9_wordsFor_9 : decode cX9_wordsFor 9 = .ok (.invokestatic 158, 3) := by decide +kernel
theorem dX9_wordsFor_12 : decode cX9_wordsFor 12 = .ok (.istore_n 1, 1) := by decide +kernel
theorem dX9_wordsFor_13 : decode cX9_wordsFor 13 = .ok (.iload_n 1, 1) := by decide +kernel
theorem dX9_wordsFor_14 : decode cX9_wordsFor 14 = .ok (.iload_n 1, 1) := by decide +kernel
theorem dX9_wordsFor_15 : decode cX9_wordsFor 15 = .ok (.iconst 4, 1) := by decide +kernel
theorem dX9_wordsFor_16 : decode cX9_wordsFor 16 = .ok (.irem, 1) := by decide +kernel
theorem dX9_wordsFor_17 : decode cX9_wordsFor 17 = .ok (.isub, 1) := by decide +kernel
theorem dX9_wordsFor_18 : decode cX9_wordsFor 18 = .ok (.ireturn, 1) := by decide +kernel
theorem dX9_keeperFor_0 : decode cX9_keeperFor 0 = .ok (.iload_n 0, 1) := by decide +kernel
theorem dX9_keeperFor_1 : decode cX9_keeperFor 1 = .ok (.lookupswitch 47 #[(1, 27), (2, 37)], 27) := by decide +kernel
theorem dX9_keeperFor_28 : decode cX9_keeperFor 28 = .ok (.new 161, 3) := by decide +kernel
theorem dX9_keeperFor_31 : decode cX9_keeperFor 31 = .ok (.dup, 1) := by decide +kernel
theorem dX9_keeperFor_32 : decode cX9_keeperFor 32 = .ok (.aload_n 1, 1) := by decide +kernel
theorem dX9_keeperFor_33 : decode cX9_keeperFor 33 = .ok (.aload_n 2, 1) := by decide +kernel
theorem dX9_keeperFor_34 : decode cX9_keeperFor 34 = .ok (.invokespecial 163, 3) := by decide +kernel
theorem dX9_keeperFor_37 : decode cX9_keeperFor 37 = .ok (.areturn, 1) := by decide +kernel
theorem dX9_keeperFor_38 : decode cX9_keeperFor 38 = .ok (.new 166, 3) := by decide +kernel
theorem dX9_keeperFor_41 : decode cX9_keeperFor 41 = .ok (.dup, 1) := by decide +kernel
theorem dX9_keeperFor_42 : decode cX9_keeperFor 42 = .ok (.aload_n 1, 1) := by decide +kernel
theorem dX9_keeperFor_43 : decode cX9_keeperFor 43 = .ok (.aload_n 2, 1) := by decide +kernel
theorem dX9_keeperFor_44 : decode cX9_keeperFor 44 = .ok (.invokespecial 168, 3) := by decide +kernel
theorem dX9_keeperFor_47 : decode cX9_keeperFor 47 = .ok (.areturn, 1) := by decide +kernel
theorem dX9_keeperFor_48 : decode cX9_keeperFor 48 = .ok (.new 169, 3) := by decide +kernel
theorem dX9_keeperFor_51 : decode cX9_keeperFor 51 = .ok (.dup, 1) := by decide +kernel
theorem dX9_keeperFor_52 : decode cX9_keeperFor 52 = .ok (.aload_n 1, 1) := by decide +kernel
theorem dX9_keeperFor_53 : decode cX9_keeperFor 53 = .ok (.aload_n 2, 1) := by decide +kernel
theorem dX9_keeperFor_54 : decode cX9_keeperFor 54 = .ok (.invokespecial 171, 3) := by decide +kernel
theorem dX9_keeperFor_57 : decode cX9_keeperFor 57 = .ok (.areturn, 1) := by decide +kernel
theorem dX9_asNumber_0 : decode cX9_asNumber 0 = .ok (.iload_n 0, 1) := by decide +kernel
theorem dX9_asNumber_1 : decode cX9_asNumber 1 = .ok (.ifCond .eq 7, 3) := by decide +kernel
theorem dX9_asNumber_4 : decode cX9_asNumber 4 = .ok (.iconst 1, 1) := by decide +kernel
theorem dX9_asNumber_5 : decode cX9_asNumber 5 = .ok (.goto 4, 3) := by decide +kernel
theorem dX9_asNumber_8 : decode cX9_asNumber 8 = .ok (.iconst 0, 1) := by decide +kernel
theorem dX9_asNumber_9 : decode cX9_asNumber 9 = .ok (.ireturn, 1) := by decide +kernel
theorem dX9_nameOf_0 : decode cX9_nameOf 0 = .ok (.aload_n 0, 1) := by decide +kernel
theorem dX9_nameOf_1 : decode cX9_nameOf 1 = .ok (.ifnonnull 7, 3) := by decide +kernel
theorem dX9_nameOf_4 : decode cX9_nameOf 4 = .ok (.iconst (-1), 1) := by decide +kernel
theorem dX9_nameOf_5 : decode cX9_nameOf 5 = .ok (.goto 7, 3) := by decide +kernel
theorem dX9_nameOf_8 : decode cX9_nameOf 8 = .ok (.aload_n 0, 1) := by decide +kernel
theorem dX9_nameOf_9 : decode cX9_nameOf 9 = .ok (.getfield 66, 3) := by decide +kernel
theorem dX9_nameOf_12 : decode cX9_nameOf 12 = .ok (.ireturn, 1) := by decide +kernel
theorem dX9_holderOf_0 : decode cX9_holderOf 0 = .ok (.aload_n 0, 1) := by decide +kernel
theorem dX9_holderOf_1 : decode cX9_holderOf 1 = .ok (.getfield 25, 3) := by decide +kernel
theorem dX9_holderOf_4 : decode cX9_holderOf 4 = .ok (.iload_n 1, 1) := by decide +kernel
theorem dX9_holderOf_5 : decode cX9_holderOf 5 = .ok (.invokevirtual 81, 3) := by decide +kernel
theorem dX9_holderOf_8 : decode cX9_holderOf 8 = .ok (.astore_n 3, 1) := by decide +kernel
theorem dX9_holderOf_9 : decode cX9_holderOf 9 = .ok (.aload_n 3, 1) := by decide +kernel
theorem dX9_holderOf_10 : decode cX9_holderOf 10 = .ok (.ifnull 15, 3) := by decide +kernel
theorem dX9_holderOf_13 : decode cX9_holderOf 13 = .ok (.aload_n 3, 1) := by decide +kernel
theorem dX9_holderOf_14 : decode cX9_holderOf 14 = .ok (.iload_n 2, 1) := by decide +kernel
theorem dX9_holderOf_15 : decode cX9_holderOf 15 = .ok (.invokevirtual 172, 3) := by decide +kernel
theorem dX9_holderOf_18 : decode cX9_holderOf 18 = .ok (.ifCond .eq 7, 3) := by decide +kernel
theorem dX9_holderOf_21 : decode cX9_holderOf 21 = .ok (.aload_n 3, 1) := by decide +kernel
theorem dX9_holderOf_22 : decode cX9_holderOf 22 = .ok (.goto 4, 3) := by decide +kernel
theorem dX9_holderOf_25 : decode cX9_holderOf 25 = .ok (.aconst_null, 1) := by decide +kernel
theorem dX9_holderOf_26 : decode cX9_holderOf 26 = .ok (.areturn, 1) := by decide +kernel
theorem dX9_whyNoHolder_0 : decode cX9_whyNoHolder 0 = .ok (.aload_n 0, 1) := by decide +kernel
theorem dX9_whyNoHolder_1 : decode cX9_whyNoHolder 1 = .ok (.getfield 25, 3) := by decide +kernel
theorem dX9_whyNoHolder_4 : decode cX9_whyNoHolder 4 = .ok (.iload_n 1, 1) := by decide +kernel
theorem dX9_whyNoHolder_5 : decode cX9_whyNoHolder 5 = .ok (.invokevirtual 41, 3) := by decide +kernel
theorem dX9_whyNoHolder_8 : decode cX9_whyNoHolder 8 = .ok (.ifCond .eq 13, 3) := by decide +kernel
theorem dX9_whyNoHolder_11 : decode cX9_whyNoHolder 11 = .ok (.iload_n 2, 1) := by decide +kernel
theorem dX9_whyNoHolder_12 : decode cX9_whyNoHolder 12 = .ok (.ifCond .lt 9, 3) := by decide +kernel
theorem dX9_whyNoHolder_15 : decode cX9_whyNoHolder 15 = .ok (.iload_n 2, 1) := by decide +kernel
theorem dX9_whyNoHolder_16 : decode cX9_whyNoHolder 16 = .ok (.bipush 6, 2) := by decide +kernel
theorem dX9_whyNoHolder_18 : decode cX9_whyNoHolder 18 = .ok (.if_icmp .lt 6, 3) := by decide +kernel
theorem dX9_whyNoHolder_21 : decode cX9_whyNoHolder 21 = .ok (.bipush (-2), 2) := by decide +kernel
theorem dX9_whyNoHolder_23 : decode cX9_whyNoHolder 23 = .ok (.ireturn, 1) := by decide +kernel
theorem dX9_whyNoHolder_24 : decode cX9_whyNoHolder 24 = .ok (.aload_n 0, 1) := by decide +kernel
theorem dX9_whyNoHolder_25 : decode cX9_whyNoHolder 25 = .ok (.getfield 25, 3) := by decide +kernel
theorem dX9_whyNoHolder_28 : decode cX9_whyNoHolder 28 = .ok (.iload_n 1, 1) := by decide +kernel
theorem dX9_whyNoHolder_29 : decode cX9_whyNoHolder 29 = .ok (.invokevirtual 81, 3) := by decide +kernel
theorem dX9_whyNoHolder_32 : decode cX9_whyNoHolder 32 = .ok (.ifnonnull 8, 3) := by decide +kernel
theorem dX9_whyNoHolder_35 : decode cX9_whyNoHolder 35 = .ok (.bipush (-3), 2) := by decide +kernel
theorem dX9_whyNoHolder_37 : decode cX9_whyNoHolder 37 = .ok (.goto 5, 3) := by decide +kernel
theorem dX9_whyNoHolder_40 : decode cX9_whyNoHolder 40 = .ok (.bipush (-2), 2) := by decide +kernel
theorem dX9_whyNoHolder_42 : decode cX9_whyNoHolder 42 = .ok (.ireturn, 1) := by decide +kernel
theorem dX10_init_0 : decode cX10_init 0 = .ok (.aload_n 0, 1) := by decide +kernel
theorem dX10_init_1 : decode cX10_init 1 = .ok (.invokespecial 1, 3) := by decide +kernel
theorem dX10_init_4 : decode cX10_init 4 = .ok (.aload_n 0, 1) := by decide +kernel
theorem dX10_init_5 : decode cX10_init 5 = .ok (.sipush 2000, 3) := by decide +kernel
theorem dX10_init_8 : decode cX10_init 8 = .ok (.newarray .int, 2) := by decide +kernel
theorem dX10_init_10 : decode cX10_init 10 = .ok (.putfield 7, 3) := by decide +kernel
theorem dX10_init_13 : decode cX10_init 13 = .ok (.aload_n 0, 1) := by decide +kernel
theorem dX10_init_14 : decode cX10_init 14 = .ok (.sipush 2000, 3) := by decide +kernel
theorem dX10_init_17 : decode cX10_init 17 = .ok (.newarray .int, 2) := by decide +kernel
theorem dX10_init_19 : decode cX10_init 19 = .ok (.putfield 13, 3) := by decide +kernel
theorem dX10_init_22 : decode cX10_init 22 = .ok (.aload_n 0, 1) := by decide +kernel
theorem dX10_init_23 : decode cX10_init 23 = .ok (.sipush 2000, 3) := by decide +kernel
theorem dX10_init_26 : decode cX10_init 26 = .ok (.newarray .boolean, 2) := by decide +kernel
theorem dX10_init_28 : decode cX10_init 28 = .ok (.putfield 16, 3) := by decide +kernel
theorem dX10_init_31 : decode cX10_init 31 = .ok (.aload_n 0, 1) := by decide +kernel
theorem dX10_init_32 : decode cX10_init 32 = .ok (.sipush 12000, 3) := by decide +kernel
theorem dX10_init_35 : decode cX10_init 35 = .ok (.newarray .int, 2) := by decide +kernel
theorem dX10_init_37 : decode cX10_init 37 = .ok (.putfield 20, 3) := by decide +kernel
theorem dX10_init_40 : decode cX10_init 40 = .ok (.aload_n 0, 1) := by decide +kernel
theorem dX10_init_41 : decode cX10_init 41 = .ok (.sipush 12000, 3) := by decide +kernel
theorem dX10_init_44 : decode cX10_init 44 = .ok (.newarray .int, 2) := by decide +kernel
theorem dX10_init_46 : decode cX10_init 46 = .ok (.putfield 23, 3) := by decide +kernel
theorem dX10_init_49 : decode cX10_init 49 = .ok (.aload_n 0, 1) := by decide +kernel
theorem dX10_init_50 : decode cX10_init 50 = .ok (.bipush 16, 2) := by decide +kernel
theorem dX10_init_52 : decode cX10_init 52 = .ok (.newarray .int, 2) := by decide +kernel
theorem dX10_init_54 : decode cX10_init 54 = .ok (.putfield 26, 3) := by decide +kernel
theorem dX10_init_57 : decode cX10_init 57 = .ok (.aload_n 0, 1) := by decide +kernel
theorem dX10_init_58 : decode cX10_init 58 = .ok (.sipush 400, 3) := by decide +kernel
theorem dX10_init_61 : decode cX10_init 61 = .ok (.newarray .int, 2) := by decide +kernel
theorem dX10_init_63 : decode cX10_init 63 = .ok (.putfield 29, 3) := by decide +kernel
theorem dX10_init_66 : decode cX10_init 66 = .ok (.aload_n 0, 1) := by decide +kernel
theorem dX10_init_67 : decode cX10_init 67 = .ok (.sipush 400, 3) := by decide +kernel
theorem dX10_init_70 : decode cX10_init 70 = .ok (.newarray .int, 2) := by decide +kernel
theorem dX10_init_72 : decode cX10_init 72 = .ok (.putfield 32, 3) := by decide +kernel
theorem dX10_init_75 : decode cX10_init 75 = .ok (.aload_n 0, 1) := by decide +kernel
theorem dX10_init_76 : decode cX10_init 76 = .ok (.sipush 2000, 3) := by decide +kernel
theorem dX10_init_79 : decode cX10_init 79 = .ok (.newarray .int, 2) := by decide +kernel
theorem dX10_init_81 : decode cX10_init 81 = .ok (.putfield 35, 3) := by decide +kernel
theorem dX10_init_84 : decode cX10_init 84 = .ok (.aload_n 0, 1) := by decide +kernel
theorem dX10_init_85 : decode cX10_init 85 = .ok (.sipush 400, 3) := by decide +kernel
theorem dX10_init_88 : decode cX10_init 88 = .ok (.newarray .int, 2) := by decide +kernel
theorem dX10_init_90 : decode cX10_init 90 = .ok (.putfield 38, 3) := by decide +kernel
theorem dX10_init_93 : decode cX10_init 93 = .ok (.aload_n 0, 1) := by decide +kernel
theorem dX10_init_94 : decode cX10_init 94 = .ok (.iload_n 1, 1) := by decide +kernel
theorem dX10_init_95 : decode cX10_init 95 = .ok (.ifCond .lt 8, 3) := by decide +kernel
theorem dX10_init_98 : decode cX10_init 98 = .ok (.iload_n 1, 1) := by decide +kernel
theorem dX10_init_99 : decode cX10_init 99 = .ok (.iconst 2, 1) := by decide +kernel
theorem dX10_init_100 : decode cX10_init 100 = .ok (.if_icmp .le 7, 3) := by decide +kernel
theorem dX10_init_103 : decode cX10_init 103 = .ok (.iconst 0, 1) := by decide +kernel
theorem dX10_init_104 : decode cX10_init 104 = .ok (.goto 4, 3) := by decide +kernel
theorem dX10_init_107 : decode cX10_init 107 = .ok (.iload_n 1, 1) := by decide +kernel
theorem dX10_init_108 : decode cX10_init 108 = .ok (.putfield 41, 3) := by decide +kernel
theorem dX10_init_111 : decode cX10_init 111 = .ok (.iload_n 2, 1) := by decide +kernel
theorem dX10_init_112 : decode cX10_init 112 = .ok (.bipush 16, 2) := by decide +kernel
theorem dX10_init_114 : decode cX10_init 114 = .ok (.if_icmp .ge 8, 3) := by decide +kernel
theorem dX10_init_117 : decode cX10_init 117 = .ok (.bipush 16, 2) := by decide +kernel
theorem dX10_init_119 : decode cX10_init 119 = .ok (.goto 17, 3) := by decide +kernel
theorem dX10_init_122 : decode cX10_init 122 = .ok (.iload_n 2, 1) := by decide +kernel
theorem dX10_init_123 : decode cX10_init 123 = .ok (.sipush 400, 3) := by decide +kernel
theorem dX10_init_126 : decode cX10_init 126 = .ok (.if_icmp .le 9, 3) := by decide +kernel
theorem dX10_init_129 : decode cX10_init 129 = .ok (.sipush 400, 3) := by decide +kernel
theorem dX10_init_132 : decode cX10_init 132 = .ok (.goto 4, 3) := by decide +kernel
theorem dX10_init_135 : decode cX10_init 135 = .ok (.iload_n 2, 1) := by decide +kernel
theorem dX10_init_136 : decode cX10_init 136 = .ok (.istore_n 3, 1) := by decide +kernel
theorem dX10_init_137 : decode cX10_init 137 = .ok (.aload_n 0, 1) := by decide +kernel
theorem dX10_init_138 : decode cX10_init 138 = .ok (.iload_n 3, 1) := by decide +kernel
theorem dX10_init_139 : decode cX10_init 139 = .ok (.iload_n 3, 1) := by decide +kernel
theorem dX10_init_140 : decode cX10_init 140 = .ok (.iconst 4, 1) := by decide +kernel
theorem dX10_init_141 : decode cX10_init 141 = .ok (.irem, 1) := by decide +kernel
theorem dX10_init_142 : decode cX10_init 142 = .ok (.isub, 1) := by decide +kernel
theorem dX10_init_143 : decode cX10_init 143 = .ok (.putfield 45, 3) := by decide +kernel
theorem dX10_init_146 : decode cX10_init 146 = .ok (.iconst 0, 1) := by decide +kernel
theorem dX10_init_147 : decode cX10_init 147 = .ok (.istore 4, 2) := by decide +kernel
theorem dX10_init_149 : decode cX10_init 149 = .ok (.iload 4, 2) := by decide +kernel
theorem dX10_init_151 : decode cX10_init 151 = .ok (.sipush 400, 3) := by decide +kernel
theorem dX10_init_154 : decode cX10_init 154 = .ok (.if_icmp .ge 17, 3) := by decide +kernel
theorem dX10_init_157 : decode cX10_init 157 = .ok (.aload_n 0, 1) := by decide +kernel
theorem dX10_init_158 : decode cX10_init 158 = .ok (.getfield 29, 3) := by decide +kernel
theorem dX10_init_161 : decode cX10_init 161 = .ok (.iload 4, 2) := by decide +kernel
theorem dX10_init_163 : decode cX10_init 163 = .ok (.iconst (-1), 1) := by decide +kernel
theorem dX10_init_164 : decode cX10_init 164 = .ok (.iastore, 1) := by decide +kernel
theorem dX10_init_165 : decode cX10_init 165 = .ok (.iinc 4 1, 3) := by decide +kernel
theorem dX10_init_168 : decode cX10_init 168 = .ok (.goto (-19), 3) := by decide +kernel
theorem dX10_init_171 : decode cX10_init 171 = .ok (.iconst 0, 1) := by decide +kernel
theorem dX10_init_172 : decode cX10_init 172 = .ok (.istore 4, 2) := by decide +kernel
theorem dX10_init_174 : decode cX10_init 174 = .ok (.iload 4, 2) := by decide +kernel
theorem dX10_init_176 : decode cX10_init 176 = .ok (.bipush 16, 2) := by decide +kernel
theorem dX10_init_178 : decode cX10_init 178 = .ok (.if_icmp .ge 17, 3) := by decide +kernel
theorem dX10_init_181 : decode cX10_init 181 = .ok (.aload_n 0, 1) := by decide +kernel
theorem dX10_init_182 : decode cX10_init 182 = .ok (.getfield 26, 3) := by decide +kernel
theorem dX10_init_185 : decode cX10_init 185 = .ok (.iload 4, 2) := by decide +kernel
theorem dX10_init_187 : decode cX10_init 187 = .ok (.iconst (-1), 1) := by decide +kernel
theorem dX10_init_188 : decode cX10_init 188 = .ok (.iastore, 1) := by decide +kernel
theorem dX10_init_189 : decode cX10_init 189 = .ok (.iinc 4 1, 3) := by decide +kernel
theorem dX10_init_192 : decode cX10_init 192 = .ok (.goto (-18), 3) := by decide +kernel
theorem dX10_init_195 : decode cX10_init 195 = .ok (.return_, 1) := by decide +kernel
theorem dX10_in_0 : decode cX10_in 0 = .ok (.iload_n 0, 1) := by decide +kernel
theorem dX10_in_1 : decode cX10_in 1 = .ok (.iload_n 1, 1) := by decide +kernel
theorem dX10_in_2 : decode cX10_in 2 = .ok (.if_icmp .lt 12, 3) := by decide +kernel
theorem dX10_in_5 : decode cX10_in 5 = .ok (.iload_n 0, 1) := by decide +kernel
theorem dX10_in_6 : decode cX10_in 6 = .ok (.iload_n 2, 1) := by decide +kernel
theorem dX10_in_7 : decode cX10_in 7 = .ok (.if_icmp .gt 7, 3) := by decide +kernel
theorem dX10_in_10 : decode cX10_in 10 = .ok (.iconst 1, 1) := by decide +kernel
theorem dX10_in_11 : decode cX10_in 11 = .ok (.goto 4, 3) := by decide +kernel
theorem dX10_in_14 : decode cX10_in 14 = .ok (.iconst 0, 1) := by decide +kernel
theorem dX10_in_15 : decode cX10_in 15 = .ok (.ireturn, 1) := by decide +kernel
theorem dX10_isRoot_0 : decode cX10_isRoot 0 = .ok (.iload_n 0, 1) := by decide +kernel
theorem dX10_isRoot_1 : decode cX10_isRoot 1 = .ok (.iconst 0, 1) := by decide +kernel
theorem dX10_isRoot_2 : decode cX10_isRoot 2 = .ok (.bipush 15, 2) := by decide +kernel
theorem dX10_isRoot_4 : decode cX10_isRoot 4 = .ok (.invokestatic 51, 3) := by decide +kernel
theorem dX10_isRoot_7 : decode cX10_isRoot 7 = .ok (.ireturn, 1) := by decide +kernel
theorem dX10_isOld_0 : decode cX10_isOld 0 = .ok (.aload_n 0, 1) := by decide +kernel
theorem dX10_isOld_1 : decode cX10_isOld 1 = .ok (.getfield 41, 3) := by decide +kernel
theorem dX10_isOld_4 : decode cX10_isOld 4 = .ok (.iconst 2, 1) := by decide +kernel
theorem dX10_isOld_5 : decode cX10_isOld 5 = .ok (.if_icmp .ne 22, 3) := by decide +kernel
theorem dX10_isOld_8 : decode cX10_isOld 8 = .ok (.aload_n 0, 1) := by decide +kernel
theorem dX10_isOld_9 : decode cX10_isOld 9 = .ok (.getfield 7, 3) := by decide +kernel
theorem dX10_isOld_12 : decode cX10_isOld 12 = .ok (.iload_n 1, 1) := by decide +kernel
theorem dX10_isOld_13 : decode cX10_isOld 13 = .ok (.iaload, 1) := by decide +kernel
theorem dX10_isOld_14 : decode cX10_isOld 14 = .ok (.aload_n 0, 1) := by decide +kernel
theorem dX10_isOld_15 : decode cX10_isOld 15 = .ok (.getfield 45, 3) := by decide +kernel
theorem dX10_isOld_18 : decode cX10_isOld 18 = .ok (.iconst 4, 1) := by decide +kernel
theorem dX10_isOld_19 : decode cX10_isOld 19 = .ok (.idiv, 1) := by decide +kernel
theorem dX10_isOld_20 : decode cX10_isOld 20 = .ok (.if_icmp .lt 7, 3) := by decide +kernel
theorem dX10_isOld_23 : decode cX10_isOld 23 = .ok (.iconst 1, 1) := by decide +kernel
theorem dX10_isOld_24 : decode cX10_isOld 24 = .ok (.goto 4, 3) := by decide +kernel
theorem dX10_isOld_27 : decode cX10_isOld 27 = .ok (.iconst 0, 1) := by decide +kernel
theorem dX10_isOld_28 : decode cX10_isOld 28 = .ok (.ireturn, 1) := by decide +kernel
theorem dX10_lie_0 : decode cX10_lie 0 = .ok (.aload_n 0, 1) := by decide +kernel
theorem dX10_lie_1 : decode cX10_lie 1 = .ok (.getfield 7, 3) := by decide +kernel
theorem dX10_lie_4 : decode cX10_lie 4 = .ok (.iload_n 1, 1) := by decide +kernel
theorem dX10_lie_5 : decode cX10_lie 5 = .ok (.iload_n 2, 1) := by decide +kernel
theorem dX10_lie_6 : decode cX10_lie 6 = .ok (.iastore, 1) := by decide +kernel
theorem dX10_lie_7 : decode cX10_lie 7 = .ok (.iconst 0, 1) := by decide +kernel
theorem dX10_lie_8 : decode cX10_lie 8 = .ok (.istore_n 3, 1) := by decide +kernel
theorem dX10_lie_9 : decode cX10_lie 9 = .ok (.iload_n 3, 1) := by decide +kernel
theorem dX10_lie_10 : decode cX10_lie 10 = .ok (.aload_n 0, 1) := by decide +kernel
theorem dX10_lie_11 : decode cX10_lie 11 = .ok (.getfield 13, 3) := by decide +kernel
theorem dX10_lie_14 : decode cX10_lie 14 = .ok (.iload_n 1, 1) := by decide +kernel
theorem dX10_lie_15 : decode cX10_lie 15 = .ok (.iaload, 1) := by decide +kernel
theorem dX10_lie_16 : decode cX10_lie 16 = .ok (.if_icmp .gt 18, 3) := by decide +kernel
theorem dX10_lie_19 : decode cX10_lie 19 = .ok (.aload_n 0, 1) := by decide +kernel
theorem dX10_lie_20 : decode cX10_lie 20 = .ok (.getfield 29, 3) := by decide +kernel
theorem dX10_lie_23 : decode cX10_lie 23 = .ok (.iload_n 2, 1) := by decide +kernel
theorem dX10_lie_24 : decode cX10_lie 24 = .ok (.iload_n 3, 1) := by decide +kernel
theorem dX10_lie_25 : decode cX10_lie 25 = .ok (.iadd, 1) := by decide +kernel
theorem dX10_lie_26 : decode cX10_lie 26 = .ok (.iload_n 1, 1) := by decide +kernel
theorem dX10_lie_27 : decode cX10_lie 27 = .ok (.iastore, 1) := by decide +kernel
theorem dX10_lie_28 : decode cX10_lie 28 = .ok (.iinc 3 1, 3) := by decide +kernel
theorem dX10_lie_31 : decode cX10_lie 31 = .ok (.goto (-22), 3) := by decide +kernel
theorem dX10_lie_34 : decode cX10_lie 34 = .ok (.return_, 1) := by decide +kernel
theorem dX10_leave_0 : decode cX10_leave 0 = .ok (.iconst 0, 1) := by decide +kernel
theorem dX10_leave_1 : decode cX10_leave 1 = .ok (.istore_n 2, 1) := by decide +kernel
theorem dX10_leave_2 : decode cX10_leave 2 = .ok (.iload_n 2, 1) := by decide +kernel
theorem dX10_leave_3 : decode cX10_leave 3 = .ok (.aload_n 0, 1) := by decide +kernel
theorem dX10_leave_4 : decode cX10_leave 4 = .ok (.getfield 13, 3) := by decide +kernel
theorem dX10_leave_7 : decode cX10_leave 7 = .ok (.iload_n 1, 1) := by decide +kernel
theorem dX10_leave_8 : decode cX10_leave 8 = .ok (.iaload, 1) := by decide +kernel
theorem dX10_leave_9 : decode cX10_leave 9 = .ok (.if_icmp .gt 23, 3) := by decide +kernel
theorem dX10_leave_12 : decode cX10_leave 12 = .ok (.aload_n 0, 1) := by decide +kernel
theorem dX10_leave_13 : decode cX10_leave 13 = .ok (.getfield 29, 3) := by decide +kernel
theorem dX10_leave_16 : decode cX10_leave 16 = .ok (.aload_n 0, 1) := by decide +kernel
theorem dX10_leave_17 : decode cX10_leave 17 = .ok (.getfield 7, 3) := by decide +kernel
theorem dX10_leave_20 : decode cX10_leave 20 = .ok (.iload_n 1, 1) := by decide +kernel
theorem dX10_leave_21 : decode cX10_leave 21 = .ok (.iaload, 1) := by decide +kernel
theorem dX10_leave_22 : decode cX10_leave 22 = .ok (.iload_n 2, 1) := by decide +kernel
theorem dX10_leave_23 : decode cX10_leave 23 = .ok (.iadd, 1) := by decide +kernel
theorem dX10_leave_24 : decode cX10_leave 24 = .ok (.iconst (-1), 1) := by decide +kernel
theorem dX10_leave_25 : decode cX10_leave 25 = .ok (.iastore, 1) := by decide +kernel
theorem dX10_leave_26 : decode cX10_leave 26 = .ok (.iinc 2 1, 3) := by decide +kernel
theorem dX10_leave_29 : decode cX10_leave 29 = .ok (.goto (-27), 3) := by decide +kernel
theorem dX10_leave_32 : decode cX10_leave 32 = .ok (.return_, 1) := by decide +kernel
theorem dX10_go_0 : decode cX10_go 0 = .ok (.aload_n 0, 1) := by decide +kernel
theorem dX10_go_1 : decode cX10_go 1 = .ok (.iload_n 1, 1) := by decide +kernel
theorem dX10_go_2 : decode cX10_go 2 = .ok (.invokevirtual 55, 3) := by decide +kernel
theorem dX10_go_5 : decode cX10_go 5 = .ok (.aload_n 0, 1) := by decide +kernel
theorem dX10_go_6 : decode cX10_go 6 = .ok (.getfield 7, 3) := by decide +kernel
theorem dX10_go_9 : decode cX10_go 9 = .ok (.iload_n 1, 1) := by decide +kernel
theorem dX10_go_10 : decode cX10_go 10 = .ok (.iconst (-1), 1) := by decide +kernel
theorem dX10_go_11 : decode cX10_go 11 = .ok (.iastore, 1) := by decide +kernel
theorem dX10_go_12 : decode cX10_go 12 = .ok (.aload_n 0, 1) := by decide +kernel
theorem dX10_go_13 : decode cX10_go 13 = .ok (.getfield 16, 3) := by decide +kernel
theorem dX10_go_16 : decode cX10_go 16 = .ok (.iload_n 1, 1) := by decide +kernel
theorem dX10_go_17 : decode cX10_go 17 = .ok (.iconst 0, 1) := by decide +kernel
theorem dX10_go_18 : decode cX10_go 18 = .ok (.bastore, 1) := by decide +kernel
theorem dX10_go_19 : decode cX10_go 19 = .ok (.return_, 1) := by decide +kernel
theorem dX10_fit_0 : decode cX10_fit 0 = .ok (.iconst 0, 1) := by decide +kernel
theorem dX10_fit_1 : decode cX10_fit 1 = .ok (.istore_n 3, 1) := by decide +kernel
theorem dX10_fit_2 : decode cX10_fit 2 = .ok (.iload_n 1, 1) := by decide +kernel
theorem dX10_fit_3 : decode cX10_fit 3 = .ok (.istore 4, 2) := by decide +kernel
theorem dX10_fit_5 : decode cX10_fit 5 = .ok (.iload 4, 2) := by decide +kernel
theorem dX10_fit_7 : decode cX10_fit 7 = .ok (.aload_n 0, 1) := by decide +kernel
theorem dX10_fit_8 : decode cX10_fit 8 = .ok (.getfield 45, 3) := by decide +kernel
theorem dX10_fit_11 : decode cX10_fit 11 = .ok (.if_icmp .ge 40, 3) := by decide +kernel
theorem dX10_fit_14 : decode cX10_fit 14 = .ok (.aload_n 0, 1) := by decide +kernel
theorem dX10_fit_15 : decode cX10_fit 15 = .ok (.getfield 29, 3) := by decide +kernel
theorem dX10_fit_18 : decode cX10_fit 18 = .ok (.iload 4, 2) := by decide +kernel
theorem dX10_fit_20 : decode cX10_fit 20 = .ok (.iaload, 1) := by decide +kernel
theorem dX10_fit_21 : decode cX10_fit 21 = .ok (.iconst (-1), 1) := by decide +kernel
theorem dX10_fit_22 : decode cX10_fit 22 = .ok (.if_icmp .ne 9, 3) := by decide +kernel
theorem dX10_fit_25 : decode cX10_fit 25 = .ok (.iload_n 3, 1) := by decide +kernel
theorem dX10_fit_26 : decode cX10_fit 26 = .ok (.iconst 1, 1) := by decide +kernel
theorem dX10_fit_27 : decode cX10_fit 27 = .ok (.iadd, 1) := by decide +kernel
end
section
theorem dX10_fit_28 : decode cX10_fit 28 = .ok (.goto 4, 3) := by decide +kernel
theorem dX10_fit_31 : decode cX10_fit 31 = .ok (.iconst 0, 1) := by decide +kernel
theorem dX10_fit_32 : decode cX10_fit 32 = .ok (.istore_n 3, 1) := by decide +kernel
theorem dX10_fit_33 : decode cX10_fit 33 = .ok (.iload_n 3, 1) := by decide +kernel
theorem dX10_fit_34 : decode cX10_fit 34 = .ok (.iload_n 2, 1) := by decide +kernel
theorem dX10_fit_35 : decode cX10_fit 35 = .ok (.if_icmp .ne 10, 3) := by decide +kernel
theorem dX10_fit_38 : decode cX10_fit 38 = .ok (.iload 4, 2) := by decide +kernel
theorem dX10_fit_40 : decode cX10_fit 40 = .ok (.iload_n 2, 1) := by decide +kernel
theorem dX10_fit_41 : decode cX10_fit 41 = .ok (.isub, 1) := by decide +kernel
theorem dX10_fit_42 : decode cX10_fit 42 = .ok (.iconst 1, 1) := by decide +kernel
theorem dX10_fit_43 : decode cX10_fit 43 = .ok (.iadd, 1) := by decide +kernel
theorem dX10_fit_44 : decode cX10_fit 44 = .ok (.ireturn, 1) := by decide +kernel
theorem dX10_fit_45 : decode cX10_fit 45 = .ok (.iinc 4 1, 3) := by decide +kernel
theorem dX10_fit_48 : decode cX10_fit 48 = .ok (.goto (-43), 3) := by decide +kernel
theorem dX10_fit_51 : decode cX10_fit 51 = .ok (.iconst (-1), 1) := by decide +kernel
theorem dX10_fit_52 : decode cX10_fit 52 = .ok (.ireturn, 1) := by decide +kernel
theorem dX10_begin_0 : decode cX10_begin 0 = .ok (.aload_n 0, 1) := by decide +kernel
theorem dX10_begin_1 : decode cX10_begin 1 = .ok (.iconst 0, 1) := by decide +kernel
theorem dX10_begin_2 : decode cX10_begin 2 = .ok (.putfield 59, 3) := by decide +kernel
theorem dX10_begin_5 : decode cX10_begin 5 = .ok (.iconst 0, 1) := by decide +kernel
theorem dX10_begin_6 : decode cX10_begin 6 = .ok (.istore_n 1, 1) := by decide +kernel
theorem dX10_begin_7 : decode cX10_begin 7 = .ok (.iload_n 1, 1) := by decide +kernel
theorem dX10_begin_8 : decode cX10_begin 8 = .ok (.aload_n 0, 1) := by decide +kernel
theorem dX10_begin_9 : decode cX10_begin 9 = .ok (.getfield 62, 3) := by decide +kernel
theorem dX10_begin_12 : decode cX10_begin 12 = .ok (.if_icmp .ge 16, 3) := by decide +kernel
theorem dX10_begin_15 : decode cX10_begin 15 = .ok (.aload_n 0, 1) := by decide +kernel
theorem dX10_begin_16 : decode cX10_begin 16 = .ok (.getfield 35, 3) := by decide +kernel
theorem dX10_begin_19 : decode cX10_begin 19 = .ok (.iload_n 1, 1) := by decide +kernel
theorem dX10_begin_20 : decode cX10_begin 20 = .ok (.iconst (-1), 1) := by decide +kernel
theorem dX10_begin_21 : decode cX10_begin 21 = .ok (.iastore, 1) := by decide +kernel
theorem dX10_begin_22 : decode cX10_begin 22 = .ok (.iinc 1 1, 3) := by decide +kernel
theorem dX10_begin_25 : decode cX10_begin 25 = .ok (.goto (-18), 3) := by decide +kernel
theorem dX10_begin_28 : decode cX10_begin 28 = .ok (.return_, 1) := by decide +kernel
theorem dX10_meet_0 : decode cX10_meet 0 = .ok (.iload_n 1, 1) := by decide +kernel
theorem dX10_meet_1 : decode cX10_meet 1 = .ok (.iconst (-1), 1) := by decide +kernel
theorem dX10_meet_2 : decode cX10_meet 2 = .ok (.if_icmp .eq 43, 3) := by decide +kernel
theorem dX10_meet_5 : decode cX10_meet 5 = .ok (.aload_n 0, 1) := by decide +kernel
theorem dX10_meet_6 : decode cX10_meet 6 = .ok (.getfield 35, 3) := by decide +kernel
theorem dX10_meet_9 : decode cX10_meet 9 = .ok (.iload_n 1, 1) := by decide +kernel
theorem dX10_meet_10 : decode cX10_meet 10 = .ok (.iaload, 1) := by decide +kernel
theorem dX10_meet_11 : decode cX10_meet 11 = .ok (.iconst (-1), 1) := by decide +kernel
theorem dX10_meet_12 : decode cX10_meet 12 = .ok (.if_icmp .ne 33, 3) := by decide +kernel
theorem dX10_meet_15 : decode cX10_meet 15 = .ok (.aload_n 0, 1) := by decide +kernel
theorem dX10_meet_16 : decode cX10_meet 16 = .ok (.getfield 35, 3) := by decide +kernel
theorem dX10_meet_19 : decode cX10_meet 19 = .ok (.iload_n 1, 1) := by decide +kernel
theorem dX10_meet_20 : decode cX10_meet 20 = .ok (.aload_n 0, 1) := by decide +kernel
theorem dX10_meet_21 : decode cX10_meet 21 = .ok (.getfield 59, 3) := by decide +kernel
theorem dX10_meet_24 : decode cX10_meet 24 = .ok (.iastore, 1) := by decide +kernel
theorem dX10_meet_25 : decode cX10_meet 25 = .ok (.aload_n 0, 1) := by decide +kernel
theorem dX10_meet_26 : decode cX10_meet 26 = .ok (.getfield 32, 3) := by decide +kernel
theorem dX10_meet_29 : decode cX10_meet 29 = .ok (.aload_n 0, 1) := by decide +kernel
theorem dX10_meet_30 : decode cX10_meet 30 = .ok (.getfield 59, 3) := by decide +kernel
theorem dX10_meet_33 : decode cX10_meet 33 = .ok (.iload_n 1, 1) := by decide +kernel
theorem dX10_meet_34 : decode cX10_meet 34 = .ok (.iastore, 1) := by decide +kernel
theorem dX10_meet_35 : decode cX10_meet 35 = .ok (.aload_n 0, 1) := by decide +kernel
theorem dX10_meet_36 : decode cX10_meet 36 = .ok (.dup, 1) := by decide +kernel
theorem dX10_meet_37 : decode cX10_meet 37 = .ok (.getfield 59, 3) := by decide +kernel
theorem dX10_meet_40 : decode cX10_meet 40 = .ok (.iconst 1, 1) := by decide +kernel
theorem dX10_meet_41 : decode cX10_meet 41 = .ok (.iadd, 1) := by decide +kernel
theorem dX10_meet_42 : decode cX10_meet 42 = .ok (.putfield 59, 3) := by decide +kernel
theorem dX10_meet_45 : decode cX10_meet 45 = .ok (.return_, 1) := by decide +kernel
theorem dX10_follow_0 : decode cX10_follow 0 = .ok (.iconst 0, 1) := by decide +kernel
theorem dX10_follow_1 : decode cX10_follow 1 = .ok (.istore_n 1, 1) := by decide +kernel
theorem dX10_follow_2 : decode cX10_follow 2 = .ok (.iload_n 1, 1) := by decide +kernel
theorem dX10_follow_3 : decode cX10_follow 3 = .ok (.aload_n 0, 1) := by decide +kernel
theorem dX10_follow_4 : decode cX10_follow 4 = .ok (.getfield 59, 3) := by decide +kernel
theorem dX10_follow_7 : decode cX10_follow 7 = .ok (.if_icmp .ge 52, 3) := by decide +kernel
theorem dX10_follow_10 : decode cX10_follow 10 = .ok (.iconst 0, 1) := by decide +kernel
theorem dX10_follow_11 : decode cX10_follow 11 = .ok (.istore_n 2, 1) := by decide +kernel
theorem dX10_follow_12 : decode cX10_follow 12 = .ok (.iload_n 2, 1) := by decide +kernel
theorem dX10_follow_13 : decode cX10_follow 13 = .ok (.aload_n 0, 1) := by decide +kernel
theorem dX10_follow_14 : decode cX10_follow 14 = .ok (.getfield 13, 3) := by decide +kernel
theorem dX10_follow_17 : decode cX10_follow 17 = .ok (.aload_n 0, 1) := by decide +kernel
theorem dX10_follow_18 : decode cX10_follow 18 = .ok (.getfield 32, 3) := by decide +kernel
theorem dX10_follow_21 : decode cX10_follow 21 = .ok (.iload_n 1, 1) := by decide +kernel
theorem dX10_follow_22 : decode cX10_follow 22 = .ok (.iaload, 1) := by decide +kernel
theorem dX10_follow_23 : decode cX10_follow 23 = .ok (.iaload, 1) := by decide +kernel
theorem dX10_follow_24 : decode cX10_follow 24 = .ok (.if_icmp .ge 29, 3) := by decide +kernel
theorem dX10_follow_27 : decode cX10_follow 27 = .ok (.aload_n 0, 1) := by decide +kernel
theorem dX10_follow_28 : decode cX10_follow 28 = .ok (.aload_n 0, 1) := by decide +kernel
theorem dX10_follow_29 : decode cX10_follow 29 = .ok (.getfield 23, 3) := by decide +kernel
theorem dX10_follow_32 : decode cX10_follow 32 = .ok (.bipush 6, 2) := by decide +kernel
theorem dX10_follow_34 : decode cX10_follow 34 = .ok (.aload_n 0, 1) := by decide +kernel
theorem dX10_follow_35 : decode cX10_follow 35 = .ok (.getfield 32, 3) := by decide +kernel
theorem dX10_follow_38 : decode cX10_follow 38 = .ok (.iload_n 1, 1) := by decide +kernel
theorem dX10_follow_39 : decode cX10_follow 39 = .ok (.iaload, 1) := by decide +kernel
theorem dX10_follow_40 : decode cX10_follow 40 = .ok (.imul, 1) := by decide +kernel
theorem dX10_follow_41 : decode cX10_follow 41 = .ok (.iload_n 2, 1) := by decide +kernel
theorem dX10_follow_42 : decode cX10_follow 42 = .ok (.iadd, 1) := by decide +kernel
theorem dX10_follow_43 : decode cX10_follow 43 = .ok (.iaload, 1) := by decide +kernel
theorem dX10_follow_44 : decode cX10_follow 44 = .ok (.invokevirtual 65, 3) := by decide +kernel
theorem dX10_follow_47 : decode cX10_follow 47 = .ok (.iinc 2 1, 3) := by decide +kernel
theorem dX10_follow_50 : decode cX10_follow 50 = .ok (.goto (-38), 3) := by decide +kernel
theorem dX10_follow_53 : decode cX10_follow 53 = .ok (.iinc 1 1, 3) := by decide +kernel
theorem dX10_follow_56 : decode cX10_follow 56 = .ok (.goto (-54), 3) := by decide +kernel
theorem dX10_follow_59 : decode cX10_follow 59 = .ok (.return_, 1) := by decide +kernel
theorem dX10_reach_0 : decode cX10_reach 0 = .ok (.aload_n 0, 1) := by decide +kernel
theorem dX10_reach_1 : decode cX10_reach 1 = .ok (.invokevirtual 68, 3) := by decide +kernel
theorem dX10_reach_4 : decode cX10_reach 4 = .ok (.iconst 0, 1) := by decide +kernel
theorem dX10_reach_5 : decode cX10_reach 5 = .ok (.istore_n 1, 1) := by decide +kernel
theorem dX10_reach_6 : decode cX10_reach 6 = .ok (.iload_n 1, 1) := by decide +kernel
theorem dX10_reach_7 : decode cX10_reach 7 = .ok (.bipush 16, 2) := by decide +kernel
theorem dX10_reach_9 : decode cX10_reach 9 = .ok (.if_icmp .ge 19, 3) := by decide +kernel
theorem dX10_reach_12 : decode cX10_reach 12 = .ok (.aload_n 0, 1) := by decide +kernel
theorem dX10_reach_13 : decode cX10_reach 13 = .ok (.aload_n 0, 1) := by decide +kernel
theorem dX10_reach_14 : decode cX10_reach 14 = .ok (.getfield 26, 3) := by decide +kernel
theorem dX10_reach_17 : decode cX10_reach 17 = .ok (.iload_n 1, 1) := by decide +kernel
theorem dX10_reach_18 : decode cX10_reach 18 = .ok (.iaload, 1) := by decide +kernel
theorem dX10_reach_19 : decode cX10_reach 19 = .ok (.invokevirtual 65, 3) := by decide +kernel
theorem dX10_reach_22 : decode cX10_reach 22 = .ok (.iinc 1 1, 3) := by decide +kernel
theorem dX10_reach_25 : decode cX10_reach 25 = .ok (.goto (-19), 3) := by decide +kernel
theorem dX10_reach_28 : decode cX10_reach 28 = .ok (.aload_n 0, 1) := by decide +kernel
theorem dX10_reach_29 : decode cX10_reach 29 = .ok (.invokevirtual 71, 3) := by decide +kernel
theorem dX10_reach_32 : decode cX10_reach 32 = .ok (.return_, 1) := by decide +kernel
theorem dX10_sweep_0 : decode cX10_sweep 0 = .ok (.iconst 0, 1) := by decide +kernel
theorem dX10_sweep_1 : decode cX10_sweep 1 = .ok (.istore_n 2, 1) := by decide +kernel
theorem dX10_sweep_2 : decode cX10_sweep 2 = .ok (.iconst 0, 1) := by decide +kernel
theorem dX10_sweep_3 : decode cX10_sweep 3 = .ok (.istore_n 3, 1) := by decide +kernel
theorem dX10_sweep_4 : decode cX10_sweep 4 = .ok (.iload_n 3, 1) := by decide +kernel
theorem dX10_sweep_5 : decode cX10_sweep 5 = .ok (.aload_n 0, 1) := by decide +kernel
theorem dX10_sweep_6 : decode cX10_sweep 6 = .ok (.getfield 62, 3) := by decide +kernel
theorem dX10_sweep_9 : decode cX10_sweep 9 = .ok (.if_icmp .ge 49, 3) := by decide +kernel
theorem dX10_sweep_12 : decode cX10_sweep 12 = .ok (.aload_n 0, 1) := by decide +kernel
theorem dX10_sweep_13 : decode cX10_sweep 13 = .ok (.getfield 7, 3) := by decide +kernel
theorem dX10_sweep_16 : decode cX10_sweep 16 = .ok (.iload_n 3, 1) := by decide +kernel
theorem dX10_sweep_17 : decode cX10_sweep 17 = .ok (.iaload, 1) := by decide +kernel
theorem dX10_sweep_18 : decode cX10_sweep 18 = .ok (.iconst (-1), 1) := by decide +kernel
theorem dX10_sweep_19 : decode cX10_sweep 19 = .ok (.if_icmp .eq 33, 3) := by decide +kernel
theorem dX10_sweep_22 : decode cX10_sweep 22 = .ok (.aload_n 0, 1) := by decide +kernel
theorem dX10_sweep_23 : decode cX10_sweep 23 = .ok (.getfield 35, 3) := by decide +kernel
theorem dX10_sweep_26 : decode cX10_sweep 26 = .ok (.iload_n 3, 1) := by decide +kernel
theorem dX10_sweep_27 : decode cX10_sweep 27 = .ok (.iaload, 1) := by decide +kernel
theorem dX10_sweep_28 : decode cX10_sweep 28 = .ok (.iconst (-1), 1) := by decide +kernel
theorem dX10_sweep_29 : decode cX10_sweep 29 = .ok (.if_icmp .ne 23, 3) := by decide +kernel
theorem dX10_sweep_32 : decode cX10_sweep 32 = .ok (.iload_n 1, 1) := by decide +kernel
theorem dX10_sweep_33 : decode cX10_sweep 33 = .ok (.ifCond .eq 11, 3) := by decide +kernel
theorem dX10_sweep_36 : decode cX10_sweep 36 = .ok (.aload_n 0, 1) := by decide +kernel
theorem dX10_sweep_37 : decode cX10_sweep 37 = .ok (.iload_n 3, 1) := by decide +kernel
theorem dX10_sweep_38 : decode cX10_sweep 38 = .ok (.invokevirtual 74, 3) := by decide +kernel
theorem dX10_sweep_41 : decode cX10_sweep 41 = .ok (.ifCond .eq 11, 3) := by decide +kernel
theorem dX10_sweep_44 : decode cX10_sweep 44 = .ok (.aload_n 0, 1) := by decide +kernel
theorem dX10_sweep_45 : decode cX10_sweep 45 = .ok (.iload_n 3, 1) := by decide +kernel
theorem dX10_sweep_46 : decode cX10_sweep 46 = .ok (.invokevirtual 78, 3) := by decide +kernel
theorem dX10_sweep_49 : decode cX10_sweep 49 = .ok (.iinc 2 1, 3) := by decide +kernel
theorem dX10_sweep_52 : decode cX10_sweep 52 = .ok (.iinc 3 1, 3) := by decide +kernel
theorem dX10_sweep_55 : decode cX10_sweep 55 = .ok (.goto (-51), 3) := by decide +kernel
theorem dX10_sweep_58 : decode cX10_sweep 58 = .ok (.iload_n 2, 1) := by decide +kernel
theorem dX10_sweep_59 : decode cX10_sweep 59 = .ok (.ireturn, 1) := by decide +kernel
theorem dX10_copyAll_0 : decode cX10_copyAll 0 = .ok (.aload_n 0, 1) := by decide +kernel
theorem dX10_copyAll_1 : decode cX10_copyAll 1 = .ok (.invokevirtual 81, 3) := by decide +kernel
theorem dX10_copyAll_4 : decode cX10_copyAll 4 = .ok (.aload_n 0, 1) := by decide +kernel
theorem dX10_copyAll_5 : decode cX10_copyAll 5 = .ok (.iconst 0, 1) := by decide +kernel
theorem dX10_copyAll_6 : decode cX10_copyAll 6 = .ok (.invokevirtual 84, 3) := by decide +kernel
theorem dX10_copyAll_9 : decode cX10_copyAll 9 = .ok (.istore_n 1, 1) := by decide +kernel
theorem dX10_copyAll_10 : decode cX10_copyAll 10 = .ok (.iconst 0, 1) := by decide +kernel
theorem dX10_copyAll_11 : decode cX10_copyAll 11 = .ok (.istore_n 2, 1) := by decide +kernel
theorem dX10_copyAll_12 : decode cX10_copyAll 12 = .ok (.iload_n 2, 1) := by decide +kernel
theorem dX10_copyAll_13 : decode cX10_copyAll 13 = .ok (.aload_n 0, 1) := by decide +kernel
theorem dX10_copyAll_14 : decode cX10_copyAll 14 = .ok (.getfield 59, 3) := by decide +kernel
theorem dX10_copyAll_17 : decode cX10_copyAll 17 = .ok (.if_icmp .ge 19, 3) := by decide +kernel
theorem dX10_copyAll_20 : decode cX10_copyAll 20 = .ok (.aload_n 0, 1) := by decide +kernel
theorem dX10_copyAll_21 : decode cX10_copyAll 21 = .ok (.aload_n 0, 1) := by decide +kernel
theorem dX10_copyAll_22 : decode cX10_copyAll 22 = .ok (.getfield 32, 3) := by decide +kernel
theorem dX10_copyAll_25 : decode cX10_copyAll 25 = .ok (.iload_n 2, 1) := by decide +kernel
theorem dX10_copyAll_26 : decode cX10_copyAll 26 = .ok (.iaload, 1) := by decide +kernel
theorem dX10_copyAll_27 : decode cX10_copyAll 27 = .ok (.invokevirtual 55, 3) := by decide +kernel
theorem dX10_copyAll_30 : decode cX10_copyAll 30 = .ok (.iinc 2 1, 3) := by decide +kernel
theorem dX10_copyAll_33 : decode cX10_copyAll 33 = .ok (.goto (-21), 3) := by decide +kernel
theorem dX10_copyAll_36 : decode cX10_copyAll 36 = .ok (.aload_n 0, 1) := by decide +kernel
theorem dX10_copyAll_37 : decode cX10_copyAll 37 = .ok (.iconst 1, 1) := by decide +kernel
theorem dX10_copyAll_38 : decode cX10_copyAll 38 = .ok (.aload_n 0, 1) := by decide +kernel
theorem dX10_copyAll_39 : decode cX10_copyAll 39 = .ok (.getfield 88, 3) := by decide +kernel
theorem dX10_copyAll_42 : decode cX10_copyAll 42 = .ok (.isub, 1) := by decide +kernel
theorem dX10_copyAll_43 : decode cX10_copyAll 43 = .ok (.putfield 88, 3) := by decide +kernel
theorem dX10_copyAll_46 : decode cX10_copyAll 46 = .ok (.aload_n 0, 1) := by decide +kernel
theorem dX10_copyAll_47 : decode cX10_copyAll 47 = .ok (.aload_n 0, 1) := by decide +kernel
theorem dX10_copyAll_48 : decode cX10_copyAll 48 = .ok (.getfield 88, 3) := by decide +kernel
theorem dX10_copyAll_51 : decode cX10_copyAll 51 = .ok (.aload_n 0, 1) := by decide +kernel
theorem dX10_copyAll_52 : decode cX10_copyAll 52 = .ok (.getfield 45, 3) := by decide +kernel
theorem dX10_copyAll_55 : decode cX10_copyAll 55 = .ok (.iconst 2, 1) := by decide +kernel
theorem dX10_copyAll_56 : decode cX10_copyAll 56 = .ok (.idiv, 1) := by decide +kernel
theorem dX10_copyAll_57 : decode cX10_copyAll 57 = .ok (.imul, 1) := by decide +kernel
theorem dX10_copyAll_58 : decode cX10_copyAll 58 = .ok (.putfield 91, 3) := by decide +kernel
theorem dX10_copyAll_61 : decode cX10_copyAll 61 = .ok (.iconst 0, 1) := by decide +kernel
theorem dX10_copyAll_62 : decode cX10_copyAll 62 = .ok (.istore_n 2, 1) := by decide +kernel
theorem dX10_copyAll_63 : decode cX10_copyAll 63 = .ok (.iload_n 2, 1) := by decide +kernel
theorem dX10_copyAll_64 : decode cX10_copyAll 64 = .ok (.aload_n 0, 1) := by decide +kernel
theorem dX10_copyAll_65 : decode cX10_copyAll 65 = .ok (.getfield 59, 3) := by decide +kernel
theorem dX10_copyAll_68 : decode cX10_copyAll 68 = .ok (.if_icmp .ge 55, 3) := by decide +kernel
theorem dX10_copyAll_71 : decode cX10_copyAll 71 = .ok (.aload_n 0, 1) := by decide +kernel
theorem dX10_copyAll_72 : decode cX10_copyAll 72 = .ok (.aload_n 0, 1) := by decide +kernel
theorem dX10_copyAll_73 : decode cX10_copyAll 73 = .ok (.getfield 32, 3) := by decide +kernel
theorem dX10_copyAll_76 : decode cX10_copyAll 76 = .ok (.iload_n 2, 1) := by decide +kernel
theorem dX10_copyAll_77 : decode cX10_copyAll 77 = .ok (.iaload, 1) := by decide +kernel
theorem dX10_copyAll_78 : decode cX10_copyAll 78 = .ok (.aload_n 0, 1) := by decide +kernel
theorem dX10_copyAll_79 : decode cX10_copyAll 79 = .ok (.getfield 91, 3) := by decide +kernel
theorem dX10_copyAll_82 : decode cX10_copyAll 82 = .ok (.invokevirtual 94, 3) := by decide +kernel
theorem dX10_copyAll_85 : decode cX10_copyAll 85 = .ok (.aload_n 0, 1) := by decide +kernel
theorem dX10_copyAll_86 : decode cX10_copyAll 86 = .ok (.dup, 1) := by decide +kernel
theorem dX10_copyAll_87 : decode cX10_copyAll 87 = .ok (.getfield 91, 3) := by decide +kernel
theorem dX10_copyAll_90 : decode cX10_copyAll 90 = .ok (.iconst 1, 1) := by decide +kernel
theorem dX10_copyAll_91 : decode cX10_copyAll 91 = .ok (.aload_n 0, 1) := by decide +kernel
theorem dX10_copyAll_92 : decode cX10_copyAll 92 = .ok (.getfield 13, 3) := by decide +kernel
theorem dX10_copyAll_95 : decode cX10_copyAll 95 = .ok (.aload_n 0, 1) := by decide +kernel
theorem dX10_copyAll_96 : decode cX10_copyAll 96 = .ok (.getfield 32, 3) := by decide +kernel
theorem dX10_copyAll_99 : decode cX10_copyAll 99 = .ok (.iload_n 2, 1) := by decide +kernel
theorem dX10_copyAll_100 : decode cX10_copyAll 100 = .ok (.iaload, 1) := by decide +kernel
theorem dX10_copyAll_101 : decode cX10_copyAll 101 = .ok (.iaload, 1) := by decide +kernel
theorem dX10_copyAll_102 : decode cX10_copyAll 102 = .ok (.iadd, 1) := by decide +kernel
theorem dX10_copyAll_103 : decode cX10_copyAll 103 = .ok (.iadd, 1) := by decide +kernel
theorem dX10_copyAll_104 : decode cX10_copyAll 104 = .ok (.putfield 91, 3) := by decide +kernel
theorem dX10_copyAll_107 : decode cX10_copyAll 107 = .ok (.aload_n 0, 1) := by decide +kernel
theorem dX10_copyAll_108 : decode cX10_copyAll 108 = .ok (.dup, 1) := by decide +kernel
theorem dX10_copyAll_109 : decode cX10_copyAll 109 = .ok (.getfield 98, 3) := by decide +kernel
theorem dX10_copyAll_112 : decode cX10_copyAll 112 = .ok (.iconst 1, 1) := by decide +kernel
theorem dX10_copyAll_113 : decode cX10_copyAll 113 = .ok (.iadd, 1) := by decide +kernel
theorem dX10_copyAll_114 : decode cX10_copyAll 114 = .ok (.putfield 98, 3) := by decide +kernel
theorem dX10_copyAll_117 : decode cX10_copyAll 117 = .ok (.iinc 2 1, 3) := by decide +kernel
theorem dX10_copyAll_120 : decode cX10_copyAll 120 = .ok (.goto (-57), 3) := by decide +kernel
theorem dX10_copyAll_123 : decode cX10_copyAll 123 = .ok (.iload_n 1, 1) := by decide +kernel
theorem dX10_copyAll_124 : decode cX10_copyAll 124 = .ok (.ireturn, 1) := by decide +kernel
theorem dX10_raise_0 : decode cX10_raise 0 = .ok (.iload_n 1, 1) := by decide +kernel
theorem dX10_raise_1 : decode cX10_raise 1 = .ok (.iconst (-1), 1) := by decide +kernel
theorem dX10_raise_2 : decode cX10_raise 2 = .ok (.if_icmp .eq 21, 3) := by decide +kernel
theorem dX10_raise_5 : decode cX10_raise 5 = .ok (.aload_n 0, 1) := by decide +kernel
theorem dX10_raise_6 : decode cX10_raise 6 = .ok (.getfield 35, 3) := by decide +kernel
theorem dX10_raise_9 : decode cX10_raise 9 = .ok (.iload_n 1, 1) := by decide +kernel
theorem dX10_raise_10 : decode cX10_raise 10 = .ok (.iaload, 1) := by decide +kernel
theorem dX10_raise_11 : decode cX10_raise 11 = .ok (.iconst (-1), 1) := by decide +kernel
theorem dX10_raise_12 : decode cX10_raise 12 = .ok (.if_icmp .ne 11, 3) := by decide +kernel
theorem dX10_raise_15 : decode cX10_raise 15 = .ok (.aload_n 0, 1) := by decide +kernel
theorem dX10_raise_16 : decode cX10_raise 16 = .ok (.iload_n 1, 1) := by decide +kernel
theorem dX10_raise_17 : decode cX10_raise 17 = .ok (.invokevirtual 74, 3) := by decide +kernel
theorem dX10_raise_20 : decode cX10_raise 20 = .ok (.ifCond .eq 5, 3) := by decide +kernel
theorem dX10_raise_23 : decode cX10_raise 23 = .ok (.iconst 1, 1) := by decide +kernel
theorem dX10_raise_24 : decode cX10_raise 24 = .ok (.ireturn, 1) := by decide +kernel
theorem dX10_raise_25 : decode cX10_raise 25 = .ok (.aload_n 0, 1) := by decide +kernel
theorem dX10_raise_26 : decode cX10_raise 26 = .ok (.aload_n 0, 1) := by decide +kernel
theorem dX10_raise_27 : decode cX10_raise 27 = .ok (.getfield 45, 3) := by decide +kernel
theorem dX10_raise_30 : decode cX10_raise 30 = .ok (.iconst 4, 1) := by decide +kernel
theorem dX10_raise_31 : decode cX10_raise 31 = .ok (.idiv, 1) := by decide +kernel
theorem dX10_raise_32 : decode cX10_raise 32 = .ok (.iconst 1, 1) := by decide +kernel
theorem dX10_raise_33 : decode cX10_raise 33 = .ok (.aload_n 0, 1) := by decide +kernel
theorem dX10_raise_34 : decode cX10_raise 34 = .ok (.getfield 13, 3) := by decide +kernel
theorem dX10_raise_37 : decode cX10_raise 37 = .ok (.iload_n 1, 1) := by decide +kernel
theorem dX10_raise_38 : decode cX10_raise 38 = .ok (.iaload, 1) := by decide +kernel
theorem dX10_raise_39 : decode cX10_raise 39 = .ok (.iadd, 1) := by decide +kernel
theorem dX10_raise_40 : decode cX10_raise 40 = .ok (.invokevirtual 101, 3) := by decide +kernel
theorem dX10_raise_43 : decode cX10_raise 43 = .ok (.istore_n 2, 1) := by decide +kernel
theorem dX10_raise_44 : decode cX10_raise 44 = .ok (.iload_n 2, 1) := by decide +kernel
theorem dX10_raise_45 : decode cX10_raise 45 = .ok (.iconst (-1), 1) := by decide +kernel
theorem dX10_raise_46 : decode cX10_raise 46 = .ok (.if_icmp .ne 5, 3) := by decide +kernel
theorem dX10_raise_49 : decode cX10_raise 49 = .ok (.iconst 0, 1) := by decide +kernel
theorem dX10_raise_50 : decode cX10_raise 50 = .ok (.ireturn, 1) := by decide +kernel
theorem dX10_raise_51 : decode cX10_raise 51 = .ok (.aload_n 0, 1) := by decide +kernel
theorem dX10_raise_52 : decode cX10_raise 52 = .ok (.getfield 38, 3) := by decide +kernel
theorem dX10_raise_55 : decode cX10_raise 55 = .ok (.aload_n 0, 1) := by decide +kernel
theorem dX10_raise_56 : decode cX10_raise 56 = .ok (.getfield 59, 3) := by decide +kernel
theorem dX10_raise_59 : decode cX10_raise 59 = .ok (.aload_n 0, 1) := by decide +kernel
theorem dX10_raise_60 : decode cX10_raise 60 = .ok (.getfield 7, 3) := by decide +kernel
theorem dX10_raise_63 : decode cX10_raise 63 = .ok (.iload_n 1, 1) := by decide +kernel
theorem dX10_raise_64 : decode cX10_raise 64 = .ok (.iaload, 1) := by decide +kernel
theorem dX10_raise_65 : decode cX10_raise 65 = .ok (.iastore, 1) := by decide +kernel
theorem dX10_raise_66 : decode cX10_raise 66 = .ok (.aload_n 0, 1) := by decide +kernel
theorem dX10_raise_67 : decode cX10_raise 67 = .ok (.iload_n 1, 1) := by decide +kernel
theorem dX10_raise_68 : decode cX10_raise 68 = .ok (.invokevirtual 55, 3) := by decide +kernel
theorem dX10_raise_71 : decode cX10_raise 71 = .ok (.aload_n 0, 1) := by decide +kernel
theorem dX10_raise_72 : decode cX10_raise 72 = .ok (.iload_n 1, 1) := by decide +kernel
theorem dX10_raise_73 : decode cX10_raise 73 = .ok (.invokevirtual 65, 3) := by decide +kernel
theorem dX10_raise_76 : decode cX10_raise 76 = .ok (.aload_n 0, 1) := by decide +kernel
theorem dX10_raise_77 : decode cX10_raise 77 = .ok (.iload_n 1, 1) := by decide +kernel
theorem dX10_raise_78 : decode cX10_raise 78 = .ok (.iload_n 2, 1) := by decide +kernel
theorem dX10_raise_79 : decode cX10_raise 79 = .ok (.invokevirtual 94, 3) := by decide +kernel
theorem dX10_raise_82 : decode cX10_raise 82 = .ok (.iconst 1, 1) := by decide +kernel
theorem dX10_raise_83 : decode cX10_raise 83 = .ok (.ireturn, 1) := by decide +kernel
theorem dX10_raiseFields_0 : decode cX10_raiseFields 0 = .ok (.iconst 1, 1) := by decide +kernel
theorem dX10_raiseFields_1 : decode cX10_raiseFields 1 = .ok (.istore_n 2, 1) := by decide +kernel
theorem dX10_raiseFields_2 : decode cX10_raiseFields 2 = .ok (.iconst 0, 1) := by decide +kernel
theorem dX10_raiseFields_3 : decode cX10_raiseFields 3 = .ok (.istore_n 3, 1) := by decide +kernel
theorem dX10_raiseFields_4 : decode cX10_raiseFields 4 = .ok (.iload_n 3, 1) := by decide +kernel
theorem dX10_raiseFields_5 : decode cX10_raiseFields 5 = .ok (.aload_n 0, 1) := by decide +kernel
theorem dX10_raiseFields_6 : decode cX10_raiseFields 6 = .ok (.getfield 13, 3) := by decide +kernel
theorem dX10_raiseFields_9 : decode cX10_raiseFields 9 = .ok (.iload_n 1, 1) := by decide +kernel
theorem dX10_raiseFields_10 : decode cX10_raiseFields 10 = .ok (.iaload, 1) := by decide +kernel
theorem dX10_raiseFields_11 : decode cX10_raiseFields 11 = .ok (.if_icmp .ge 29, 3) := by decide +kernel
theorem dX10_raiseFields_14 : decode cX10_raiseFields 14 = .ok (.iload_n 2, 1) := by decide +kernel
theorem dX10_raiseFields_15 : decode cX10_raiseFields 15 = .ok (.ifCond .eq 25, 3) := by decide +kernel
theorem dX10_raiseFields_18 : decode cX10_raiseFields 18 = .ok (.aload_n 0, 1) := by decide +kernel
theorem dX10_raiseFields_19 : decode cX10_raiseFields 19 = .ok (.aload_n 0, 1) := by decide +kernel
theorem dX10_raiseFields_20 : decode cX10_raiseFields 20 = .ok (.getfield 23, 3) := by decide +kernel
theorem dX10_raiseFields_23 : decode cX10_raiseFields 23 = .ok (.bipush 6, 2) := by decide +kernel
theorem dX10_raiseFields_25 : decode cX10_raiseFields 25 = .ok (.iload_n 1, 1) := by decide +kernel
theorem dX10_raiseFields_26 : decode cX10_raiseFields 26 = .ok (.imul, 1) := by decide +kernel
theorem dX10_raiseFields_27 : decode cX10_raiseFields 27 = .ok (.iload_n 3, 1) := by decide +kernel
theorem dX10_raiseFields_28 : decode cX10_raiseFields 28 = .ok (.iadd, 1) := by decide +kernel
theorem dX10_raiseFields_29 : decode cX10_raiseFields 29 = .ok (.iaload, 1) := by decide +kernel
theorem dX10_raiseFields_30 : decode cX10_raiseFields 30 = .ok (.invokevirtual 105, 3) := by decide +kernel
theorem dX10_raiseFields_33 : decode cX10_raiseFields 33 = .ok (.istore_n 2, 1) := by decide +kernel
theorem dX10_raiseFields_34 : decode cX10_raiseFields 34 = .ok (.iinc 3 1, 3) := by decide +kernel
theorem dX10_raiseFields_37 : decode cX10_raiseFields 37 = .ok (.goto (-33), 3) := by decide +kernel
theorem dX10_raiseFields_40 : decode cX10_raiseFields 40 = .ok (.iload_n 2, 1) := by decide +kernel
theorem dX10_raiseFields_41 : decode cX10_raiseFields 41 = .ok (.ireturn, 1) := by decide +kernel
theorem dX10_minorNow_0 : decode cX10_minorNow 0 = .ok (.aload_n 0, 1) := by decide +kernel
theorem dX10_minorNow_1 : decode cX10_minorNow 1 = .ok (.invokevirtual 68, 3) := by decide +kernel
theorem dX10_minorNow_4 : decode cX10_minorNow 4 = .ok (.iconst 1, 1) := by decide +kernel
theorem dX10_minorNow_5 : decode cX10_minorNow 5 = .ok (.istore_n 1, 1) := by decide +kernel
theorem dX10_minorNow_6 : decode cX10_minorNow 6 = .ok (.iconst 0, 1) := by decide +kernel
theorem dX10_minorNow_7 : decode cX10_minorNow 7 = .ok (.istore_n 2, 1) := by decide +kernel
theorem dX10_minorNow_8 : decode cX10_minorNow 8 = .ok (.iload_n 2, 1) := by decide +kernel
theorem dX10_minorNow_9 : decode cX10_minorNow 9 = .ok (.bipush 16, 2) := by decide +kernel
theorem dX10_minorNow_11 : decode cX10_minorNow 11 = .ok (.if_icmp .ge 24, 3) := by decide +kernel
theorem dX10_minorNow_14 : decode cX10_minorNow 14 = .ok (.iload_n 1, 1) := by decide +kernel
theorem dX10_minorNow_15 : decode cX10_minorNow 15 = .ok (.ifCond .eq 20, 3) := by decide +kernel
theorem dX10_minorNow_18 : decode cX10_minorNow 18 = .ok (.aload_n 0, 1) := by decide +kernel
theorem dX10_minorNow_19 : decode cX10_minorNow 19 = .ok (.aload_n 0, 1) := by decide +kernel
theorem dX10_minorNow_20 : decode cX10_minorNow 20 = .ok (.getfield 26, 3) := by decide +kernel
theorem dX10_minorNow_23 : decode cX10_minorNow 23 = .ok (.iload_n 2, 1) := by decide +kernel
theorem dX10_minorNow_24 : decode cX10_minorNow 24 = .ok (.iaload, 1) := by decide +kernel
theorem dX10_minorNow_25 : decode cX10_minorNow 25 = .ok (.invokevirtual 105, 3) := by decide +kernel
theorem dX10_minorNow_28 : decode cX10_minorNow 28 = .ok (.istore_n 1, 1) := by decide +kernel
theorem dX10_minorNow_29 : decode cX10_minorNow 29 = .ok (.iinc 2 1, 3) := by decide +kernel
theorem dX10_minorNow_32 : decode cX10_minorNow 32 = .ok (.goto (-24), 3) := by decide +kernel
theorem dX10_minorNow_35 : decode cX10_minorNow 35 = .ok (.aload_n 0, 1) := by decide +kernel
theorem dX10_minorNow_36 : decode cX10_minorNow 36 = .ok (.getfield 45, 3) := by decide +kernel
theorem dX10_minorNow_39 : decode cX10_minorNow 39 = .ok (.iconst 4, 1) := by decide +kernel
theorem dX10_minorNow_40 : decode cX10_minorNow 40 = .ok (.idiv, 1) := by decide +kernel
theorem dX10_minorNow_41 : decode cX10_minorNow 41 = .ok (.istore_n 2, 1) := by decide +kernel
theorem dX10_minorNow_42 : decode cX10_minorNow 42 = .ok (.iload_n 2, 1) := by decide +kernel
theorem dX10_minorNow_43 : decode cX10_minorNow 43 = .ok (.aload_n 0, 1) := by decide +kernel
theorem dX10_minorNow_44 : decode cX10_minorNow 44 = .ok (.getfield 45, 3) := by decide +kernel
theorem dX10_minorNow_47 : decode cX10_minorNow 47 = .ok (.if_icmp .ge 58, 3) := by decide +kernel
theorem dX10_minorNow_50 : decode cX10_minorNow 50 = .ok (.iload_n 1, 1) := by decide +kernel
theorem dX10_minorNow_51 : decode cX10_minorNow 51 = .ok (.ifCond .eq 54, 3) := by decide +kernel
theorem dX10_minorNow_54 : decode cX10_minorNow 54 = .ok (.aload_n 0, 1) := by decide +kernel
theorem dX10_minorNow_55 : decode cX10_minorNow 55 = .ok (.getfield 29, 3) := by decide +kernel
theorem dX10_minorNow_58 : decode cX10_minorNow 58 = .ok (.iload_n 2, 1) := by decide +kernel
theorem dX10_minorNow_59 : decode cX10_minorNow 59 = .ok (.iaload, 1) := by decide +kernel
theorem dX10_minorNow_60 : decode cX10_minorNow 60 = .ok (.istore_n 3, 1) := by decide +kernel
theorem dX10_minorNow_61 : decode cX10_minorNow 61 = .ok (.iload_n 3, 1) := by decide +kernel
theorem dX10_minorNow_62 : decode cX10_minorNow 62 = .ok (.iconst (-1), 1) := by decide +kernel
theorem dX10_minorNow_63 : decode cX10_minorNow 63 = .ok (.if_icmp .eq 30, 3) := by decide +kernel
theorem dX10_minorNow_66 : decode cX10_minorNow 66 = .ok (.aload_n 0, 1) := by decide +kernel
theorem dX10_minorNow_67 : decode cX10_minorNow 67 = .ok (.getfield 7, 3) := by decide +kernel
theorem dX10_minorNow_70 : decode cX10_minorNow 70 = .ok (.iload_n 3, 1) := by decide +kernel
theorem dX10_minorNow_71 : decode cX10_minorNow 71 = .ok (.iaload, 1) := by decide +kernel
theorem dX10_minorNow_72 : decode cX10_minorNow 72 = .ok (.iload_n 2, 1) := by decide +kernel
theorem dX10_minorNow_73 : decode cX10_minorNow 73 = .ok (.if_icmp .ne 20, 3) := by decide +kernel
theorem dX10_minorNow_76 : decode cX10_minorNow 76 = .ok (.aload_n 0, 1) := by decide +kernel
theorem dX10_minorNow_77 : decode cX10_minorNow 77 = .ok (.getfield 16, 3) := by decide +kernel
theorem dX10_minorNow_80 : decode cX10_minorNow 80 = .ok (.iload_n 3, 1) := by decide +kernel
theorem dX10_minorNow_81 : decode cX10_minorNow 81 = .ok (.baload, 1) := by decide +kernel
theorem dX10_minorNow_82 : decode cX10_minorNow 82 = .ok (.ifCond .eq 11, 3) := by decide +kernel
theorem dX10_minorNow_85 : decode cX10_minorNow 85 = .ok (.aload_n 0, 1) := by decide +kernel
theorem dX10_minorNow_86 : decode cX10_minorNow 86 = .ok (.iload_n 3, 1) := by decide +kernel
theorem dX10_minorNow_87 : decode cX10_minorNow 87 = .ok (.invokevirtual 108, 3) := by decide +kernel
theorem dX10_minorNow_90 : decode cX10_minorNow 90 = .ok (.ifCond .eq 7, 3) := by decide +kernel
theorem dX10_minorNow_93 : decode cX10_minorNow 93 = .ok (.iconst 1, 1) := by decide +kernel
theorem dX10_minorNow_94 : decode cX10_minorNow 94 = .ok (.goto 4, 3) := by decide +kernel
theorem dX10_minorNow_97 : decode cX10_minorNow 97 = .ok (.iconst 0, 1) := by decide +kernel
theorem dX10_minorNow_98 : decode cX10_minorNow 98 = .ok (.istore_n 1, 1) := by decide +kernel
theorem dX10_minorNow_99 : decode cX10_minorNow 99 = .ok (.iinc 2 1, 3) := by decide +kernel
theorem dX10_minorNow_102 : decode cX10_minorNow 102 = .ok (.goto (-60), 3) := by decide +kernel
theorem dX10_minorNow_105 : decode cX10_minorNow 105 = .ok (.iconst 0, 1) := by decide +kernel
theorem dX10_minorNow_106 : decode cX10_minorNow 106 = .ok (.istore_n 2, 1) := by decide +kernel
theorem dX10_minorNow_107 : decode cX10_minorNow 107 = .ok (.iload_n 2, 1) := by decide +kernel
theorem dX10_minorNow_108 : decode cX10_minorNow 108 = .ok (.aload_n 0, 1) := by decide +kernel
theorem dX10_minorNow_109 : decode cX10_minorNow 109 = .ok (.getfield 59, 3) := by decide +kernel
theorem dX10_minorNow_112 : decode cX10_minorNow 112 = .ok (.if_icmp .ge 24, 3) := by decide +kernel
theorem dX10_minorNow_115 : decode cX10_minorNow 115 = .ok (.iload_n 1, 1) := by decide +kernel
theorem dX10_minorNow_116 : decode cX10_minorNow 116 = .ok (.ifCond .eq 20, 3) := by decide +kernel
theorem dX10_minorNow_119 : decode cX10_minorNow 119 = .ok (.aload_n 0, 1) := by decide +kernel
theorem dX10_minorNow_120 : decode cX10_minorNow 120 = .ok (.aload_n 0, 1) := by decide +kernel
theorem dX10_minorNow_121 : decode cX10_minorNow 121 = .ok (.getfield 32, 3) := by decide +kernel
theorem dX10_minorNow_124 : decode cX10_minorNow 124 = .ok (.iload_n 2, 1) := by decide +kernel
theorem dX10_minorNow_125 : decode cX10_minorNow 125 = .ok (.iaload, 1) := by decide +kernel
theorem dX10_minorNow_126 : decode cX10_minorNow 126 = .ok (.invokevirtual 108, 3) := by decide +kernel
theorem dX10_minorNow_129 : decode cX10_minorNow 129 = .ok (.istore_n 1, 1) := by decide +kernel
theorem dX10_minorNow_130 : decode cX10_minorNow 130 = .ok (.iinc 2 1, 3) := by decide +kernel
theorem dX10_minorNow_133 : decode cX10_minorNow 133 = .ok (.goto (-26), 3) := by decide +kernel
theorem dX10_minorNow_136 : decode cX10_minorNow 136 = .ok (.iload_n 1, 1) := by decide +kernel
theorem dX10_minorNow_137 : decode cX10_minorNow 137 = .ok (.ifCond .ne 63, 3) := by decide +kernel
theorem dX10_minorNow_140 : decode cX10_minorNow 140 = .ok (.iconst 0, 1) := by decide +kernel
theorem dX10_minorNow_141 : decode cX10_minorNow 141 = .ok (.istore_n 2, 1) := by decide +kernel
theorem dX10_minorNow_142 : decode cX10_minorNow 142 = .ok (.iload_n 2, 1) := by decide +kernel
theorem dX10_minorNow_143 : decode cX10_minorNow 143 = .ok (.aload_n 0, 1) := by decide +kernel
theorem dX10_minorNow_144 : decode cX10_minorNow 144 = .ok (.getfield 59, 3) := by decide +kernel
theorem dX10_minorNow_147 : decode cX10_minorNow 147 = .ok (.if_icmp .ge 19, 3) := by decide +kernel
theorem dX10_minorNow_150 : decode cX10_minorNow 150 = .ok (.aload_n 0, 1) := by decide +kernel
theorem dX10_minorNow_151 : decode cX10_minorNow 151 = .ok (.aload_n 0, 1) := by decide +kernel
theorem dX10_minorNow_152 : decode cX10_minorNow 152 = .ok (.getfield 32, 3) := by decide +kernel
theorem dX10_minorNow_155 : decode cX10_minorNow 155 = .ok (.iload_n 2, 1) := by decide +kernel
theorem dX10_minorNow_156 : decode cX10_minorNow 156 = .ok (.iaload, 1) := by decide +kernel
theorem dX10_minorNow_157 : decode cX10_minorNow 157 = .ok (.invokevirtual 55, 3) := by decide +kernel
theorem dX10_minorNow_160 : decode cX10_minorNow 160 = .ok (.iinc 2 1, 3) := by decide +kernel
theorem dX10_minorNow_163 : decode cX10_minorNow 163 = .ok (.goto (-21), 3) := by decide +kernel
theorem dX10_minorNow_166 : decode cX10_minorNow 166 = .ok (.iconst 0, 1) := by decide +kernel
theorem dX10_minorNow_167 : decode cX10_minorNow 167 = .ok (.istore_n 2, 1) := by decide +kernel
theorem dX10_minorNow_168 : decode cX10_minorNow 168 = .ok (.iload_n 2, 1) := by decide +kernel
theorem dX10_minorNow_169 : decode cX10_minorNow 169 = .ok (.aload_n 0, 1) := by decide +kernel
theorem dX10_minorNow_170 : decode cX10_minorNow 170 = .ok (.getfield 59, 3) := by decide +kernel
theorem dX10_minorNow_173 : decode cX10_minorNow 173 = .ok (.if_icmp .ge 25, 3) := by decide +kernel
theorem dX10_minorNow_176 : decode cX10_minorNow 176 = .ok (.aload_n 0, 1) := by decide +kernel
theorem dX10_minorNow_177 : decode cX10_minorNow 177 = .ok (.aload_n 0, 1) := by decide +kernel
theorem dX10_minorNow_178 : decode cX10_minorNow 178 = .ok (.getfield 32, 3) := by decide +kernel
theorem dX10_minorNow_181 : decode cX10_minorNow 181 = .ok (.iload_n 2, 1) := by decide +kernel
theorem dX10_minorNow_182 : decode cX10_minorNow 182 = .ok (.iaload, 1) := by decide +kernel
theorem dX10_minorNow_183 : decode cX10_minorNow 183 = .ok (.aload_n 0, 1) := by decide +kernel
theorem dX10_minorNow_184 : decode cX10_minorNow 184 = .ok (.getfield 38, 3) := by decide +kernel
theorem dX10_minorNow_187 : decode cX10_minorNow 187 = .ok (.iload_n 2, 1) := by decide +kernel
theorem dX10_minorNow_188 : decode cX10_minorNow 188 = .ok (.iaload, 1) := by decide +kernel
theorem dX10_minorNow_189 : decode cX10_minorNow 189 = .ok (.invokevirtual 94, 3) := by decide +kernel
theorem dX10_minorNow_192 : decode cX10_minorNow 192 = .ok (.iinc 2 1, 3) := by decide +kernel
theorem dX10_minorNow_195 : decode cX10_minorNow 195 = .ok (.goto (-27), 3) := by decide +kernel
theorem dX10_minorNow_198 : decode cX10_minorNow 198 = .ok (.iconst (-1), 1) := by decide +kernel
theorem dX10_minorNow_199 : decode cX10_minorNow 199 = .ok (.ireturn, 1) := by decide +kernel
theorem dX10_minorNow_200 : decode cX10_minorNow 200 = .ok (.aload_n 0, 1) := by decide +kernel
theorem dX10_minorNow_201 : decode cX10_minorNow 201 = .ok (.dup, 1) := by decide +kernel
theorem dX10_minorNow_202 : decode cX10_minorNow 202 = .ok (.getfield 98, 3) := by decide +kernel
theorem dX10_minorNow_205 : decode cX10_minorNow 205 = .ok (.aload_n 0, 1) := by decide +kernel
theorem dX10_minorNow_206 : decode cX10_minorNow 206 = .ok (.getfield 59, 3) := by decide +kernel
theorem dX10_minorNow_209 : decode cX10_minorNow 209 = .ok (.iadd, 1) := by decide +kernel
theorem dX10_minorNow_210 : decode cX10_minorNow 210 = .ok (.putfield 98, 3) := by decide +kernel
theorem dX10_minorNow_213 : decode cX10_minorNow 213 = .ok (.iconst 0, 1) := by decide +kernel
theorem dX10_minorNow_214 : decode cX10_minorNow 214 = .ok (.istore_n 2, 1) := by decide +kernel
theorem dX10_minorNow_215 : decode cX10_minorNow 215 = .ok (.iconst 0, 1) := by decide +kernel
theorem dX10_minorNow_216 : decode cX10_minorNow 216 = .ok (.istore_n 3, 1) := by decide +kernel
theorem dX10_minorNow_217 : decode cX10_minorNow 217 = .ok (.iload_n 3, 1) := by decide +kernel
theorem dX10_minorNow_218 : decode cX10_minorNow 218 = .ok (.aload_n 0, 1) := by decide +kernel
theorem dX10_minorNow_219 : decode cX10_minorNow 219 = .ok (.getfield 62, 3) := by decide +kernel
theorem dX10_minorNow_222 : decode cX10_minorNow 222 = .ok (.if_icmp .ge 42, 3) := by decide +kernel
theorem dX10_minorNow_225 : decode cX10_minorNow 225 = .ok (.aload_n 0, 1) := by decide +kernel
theorem dX10_minorNow_226 : decode cX10_minorNow 226 = .ok (.getfield 7, 3) := by decide +kernel
theorem dX10_minorNow_229 : decode cX10_minorNow 229 = .ok (.iload_n 3, 1) := by decide +kernel
theorem dX10_minorNow_230 : decode cX10_minorNow 230 = .ok (.iaload, 1) := by decide +kernel
theorem dX10_minorNow_231 : decode cX10_minorNow 231 = .ok (.iconst (-1), 1) := by decide +kernel
theorem dX10_minorNow_232 : decode cX10_minorNow 232 = .ok (.if_icmp .eq 19, 3) := by decide +kernel
theorem dX10_minorNow_235 : decode cX10_minorNow 235 = .ok (.aload_n 0, 1) := by decide +kernel
theorem dX10_minorNow_236 : decode cX10_minorNow 236 = .ok (.iload_n 3, 1) := by decide +kernel
theorem dX10_minorNow_237 : decode cX10_minorNow 237 = .ok (.invokevirtual 74, 3) := by decide +kernel
theorem dX10_minorNow_240 : decode cX10_minorNow 240 = .ok (.ifCond .ne 11, 3) := by decide +kernel
theorem dX10_minorNow_243 : decode cX10_minorNow 243 = .ok (.aload_n 0, 1) := by decide +kernel
theorem dX10_minorNow_244 : decode cX10_minorNow 244 = .ok (.iload_n 3, 1) := by decide +kernel
theorem dX10_minorNow_245 : decode cX10_minorNow 245 = .ok (.invokevirtual 78, 3) := by decide +kernel
theorem dX10_minorNow_248 : decode cX10_minorNow 248 = .ok (.iinc 2 1, 3) := by decide +kernel
theorem dX10_minorNow_251 : decode cX10_minorNow 251 = .ok (.aload_n 0, 1) := by decide +kernel
theorem dX10_minorNow_252 : decode cX10_minorNow 252 = .ok (.getfield 16, 3) := by decide +kernel
theorem dX10_minorNow_255 : decode cX10_minorNow 255 = .ok (.iload_n 3, 1) := by decide +kernel
theorem dX10_minorNow_256 : decode cX10_minorNow 256 = .ok (.iconst 0, 1) := by decide +kernel
theorem dX10_minorNow_257 : decode cX10_minorNow 257 = .ok (.bastore, 1) := by decide +kernel
theorem dX10_minorNow_258 : decode cX10_minorNow 258 = .ok (.iinc 3 1, 3) := by decide +kernel
theorem dX10_minorNow_261 : decode cX10_minorNow 261 = .ok (.goto (-44), 3) := by decide +kernel
theorem dX10_minorNow_264 : decode cX10_minorNow 264 = .ok (.aload_n 0, 1) := by decide +kernel
theorem dX10_minorNow_265 : decode cX10_minorNow 265 = .ok (.iconst 0, 1) := by decide +kernel
theorem dX10_minorNow_266 : decode cX10_minorNow 266 = .ok (.putfield 91, 3) := by decide +kernel
theorem dX10_minorNow_269 : decode cX10_minorNow 269 = .ok (.aload_n 0, 1) := by decide +kernel
theorem dX10_minorNow_270 : decode cX10_minorNow 270 = .ok (.dup, 1) := by decide +kernel
theorem dX10_minorNow_271 : decode cX10_minorNow 271 = .ok (.getfield 111, 3) := by decide +kernel
theorem dX10_minorNow_274 : decode cX10_minorNow 274 = .ok (.iconst 1, 1) := by decide +kernel
theorem dX10_minorNow_275 : decode cX10_minorNow 275 = .ok (.iadd, 1) := by decide +kernel
theorem dX10_minorNow_276 : decode cX10_minorNow 276 = .ok (.putfield 111, 3) := by decide +kernel
theorem dX10_minorNow_279 : decode cX10_minorNow 279 = .ok (.iload_n 2, 1) := by decide +kernel
theorem dX10_minorNow_280 : decode cX10_minorNow 280 = .ok (.ireturn, 1) := by decide +kernel
theorem dX10_collectNow_0 : decode cX10_collectNow 0 = .ok (.aload_n 0, 1) := by decide +kernel
theorem dX10_collectNow_1 : decode cX10_collectNow 1 = .ok (.dup, 1) := by decide +kernel
theorem dX10_collectNow_2 : decode cX10_collectNow 2 = .ok (.getfield 114, 3) := by decide +kernel
theorem dX10_collectNow_5 : decode cX10_collectNow 5 = .ok (.iconst 1, 1) := by decide +kernel
theorem dX10_collectNow_6 : decode cX10_collectNow 6 = .ok (.iadd, 1) := by decide +kernel
theorem dX10_collectNow_7 : decode cX10_collectNow 7 = .ok (.putfield 114, 3) := by decide +kernel
theorem dX10_collectNow_10 : decode cX10_collectNow 10 = .ok (.aload_n 0, 1) := by decide +kernel
theorem dX10_collectNow_11 : decode cX10_collectNow 11 = .ok (.getfield 41, 3) := by decide +kernel
theorem dX10_collectNow_14 : decode cX10_collectNow 14 = .ok (.iconst 1, 1) := by decide +kernel
theorem dX10_collectNow_15 : decode cX10_collectNow 15 = .ok (.if_icmp .ne 8, 3) := by decide +kernel
theorem dX10_collectNow_18 : decode cX10_collectNow 18 = .ok (.aload_n 0, 1) := by decide +kernel
theorem dX10_collectNow_19 : decode cX10_collectNow 19 = .ok (.invokevirtual 117, 3) := by decide +kernel
theorem dX10_collectNow_22 : decode cX10_collectNow 22 = .ok (.ireturn, 1) := by decide +kernel
theorem dX10_collectNow_23 : decode cX10_collectNow 23 = .ok (.aload_n 0, 1) := by decide +kernel
theorem dX10_collectNow_24 : decode cX10_collectNow 24 = .ok (.invokevirtual 81, 3) := by decide +kernel
theorem dX10_collectNow_27 : decode cX10_collectNow 27 = .ok (.aload_n 0, 1) := by decide +kernel
theorem dX10_collectNow_28 : decode cX10_collectNow 28 = .ok (.getfield 41, 3) := by decide +kernel
theorem dX10_collectNow_31 : decode cX10_collectNow 31 = .ok (.ifCond .ne 9, 3) := by decide +kernel
theorem dX10_collectNow_34 : decode cX10_collectNow 34 = .ok (.aload_n 0, 1) := by decide +kernel
theorem dX10_collectNow_35 : decode cX10_collectNow 35 = .ok (.iconst 0, 1) := by decide +kernel
theorem dX10_collectNow_36 : decode cX10_collectNow 36 = .ok (.invokevirtual 84, 3) := by decide +kernel
theorem dX10_collectNow_39 : decode cX10_collectNow 39 = .ok (.ireturn, 1) := by decide +kernel
theorem dX10_collectNow_40 : decode cX10_collectNow 40 = .ok (.aload_n 0, 1) := by decide +kernel
theorem dX10_collectNow_41 : decode cX10_collectNow 41 = .ok (.iconst 1, 1) := by decide +kernel
theorem dX10_collectNow_42 : decode cX10_collectNow 42 = .ok (.invokevirtual 84, 3) := by decide +kernel
theorem dX10_collectNow_45 : decode cX10_collectNow 45 = .ok (.istore_n 1, 1) := by decide +kernel
theorem dX10_collectNow_46 : decode cX10_collectNow 46 = .ok (.aload_n 0, 1) := by decide +kernel
theorem dX10_collectNow_47 : decode cX10_collectNow 47 = .ok (.invokevirtual 121, 3) := by decide +kernel
theorem dX10_collectNow_50 : decode cX10_collectNow 50 = .ok (.istore_n 2, 1) := by decide +kernel
theorem dX10_collectNow_51 : decode cX10_collectNow 51 = .ok (.iload_n 2, 1) := by decide +kernel
theorem dX10_collectNow_52 : decode cX10_collectNow 52 = .ok (.iconst (-1), 1) := by decide +kernel
theorem dX10_collectNow_53 : decode cX10_collectNow 53 = .ok (.if_icmp .ne 7, 3) := by decide +kernel
theorem dX10_collectNow_56 : decode cX10_collectNow 56 = .ok (.iconst (-1), 1) := by decide +kernel
theorem dX10_collectNow_57 : decode cX10_collectNow 57 = .ok (.goto 6, 3) := by decide +kernel
theorem dX10_collectNow_60 : decode cX10_collectNow 60 = .ok (.iload_n 1, 1) := by decide +kernel
theorem dX10_collectNow_61 : decode cX10_collectNow 61 = .ok (.iload_n 2, 1) := by decide +kernel
theorem dX10_collectNow_62 : decode cX10_collectNow 62 = .ok (.iadd, 1) := by decide +kernel
theorem dX10_collectNow_63 : decode cX10_collectNow 63 = .ok (.ireturn, 1) := by decide +kernel
theorem dX10_room_0 : decode cX10_room 0 = .ok (.aload_n 0, 1) := by decide +kernel
theorem dX10_room_1 : decode cX10_room 1 = .ok (.getfield 41, 3) := by decide +kernel
theorem dX10_room_4 : decode cX10_room 4 = .ok (.ifCond .ne 10, 3) := by decide +kernel
theorem dX10_room_7 : decode cX10_room 7 = .ok (.aload_n 0, 1) := by decide +kernel
theorem dX10_room_8 : decode cX10_room 8 = .ok (.iconst 0, 1) := by decide +kernel
theorem dX10_room_9 : decode cX10_room 9 = .ok (.iload_n 1, 1) := by decide +kernel
theorem dX10_room_10 : decode cX10_room 10 = .ok (.invokevirtual 101, 3) := by decide +kernel
theorem dX10_room_13 : decode cX10_room 13 = .ok (.ireturn, 1) := by decide +kernel
theorem dX10_room_14 : decode cX10_room 14 = .ok (.aload_n 0, 1) := by decide +kernel
theorem dX10_room_15 : decode cX10_room 15 = .ok (.getfield 41, 3) := by decide +kernel
theorem dX10_room_18 : decode cX10_room 18 = .ok (.iconst 1, 1) := by decide +kernel
theorem dX10_room_19 : decode cX10_room 19 = .ok (.if_icmp .ne 19, 3) := by decide +kernel
theorem dX10_room_22 : decode cX10_room 22 = .ok (.aload_n 0, 1) := by decide +kernel
theorem dX10_room_23 : decode cX10_room 23 = .ok (.getfield 88, 3) := by decide +kernel
theorem dX10_room_26 : decode cX10_room 26 = .ok (.iconst 1, 1) := by decide +kernel
theorem dX10_room_27 : decode cX10_room 27 = .ok (.iadd, 1) := by decide +kernel
theorem dX10_room_28 : decode cX10_room 28 = .ok (.aload_n 0, 1) := by decide +kernel
theorem dX10_room_29 : decode cX10_room 29 = .ok (.getfield 45, 3) := by decide +kernel
theorem dX10_room_32 : decode cX10_room 32 = .ok (.iconst 2, 1) := by decide +kernel
theorem dX10_room_33 : decode cX10_room 33 = .ok (.idiv, 1) := by decide +kernel
theorem dX10_room_34 : decode cX10_room 34 = .ok (.imul, 1) := by decide +kernel
theorem dX10_room_35 : decode cX10_room 35 = .ok (.goto 9, 3) := by decide +kernel
theorem dX10_room_38 : decode cX10_room 38 = .ok (.aload_n 0, 1) := by decide +kernel
theorem dX10_room_39 : decode cX10_room 39 = .ok (.getfield 45, 3) := by decide +kernel
theorem dX10_room_42 : decode cX10_room 42 = .ok (.iconst 4, 1) := by decide +kernel
theorem dX10_room_43 : decode cX10_room 43 = .ok (.idiv, 1) := by decide +kernel
theorem dX10_room_44 : decode cX10_room 44 = .ok (.istore_n 2, 1) := by decide +kernel
theorem dX10_room_45 : decode cX10_room 45 = .ok (.aload_n 0, 1) := by decide +kernel
theorem dX10_room_46 : decode cX10_room 46 = .ok (.getfield 91, 3) := by decide +kernel
theorem dX10_room_49 : decode cX10_room 49 = .ok (.iload_n 1, 1) := by decide +kernel
theorem dX10_room_50 : decode cX10_room 50 = .ok (.iadd, 1) := by decide +kernel
theorem dX10_room_51 : decode cX10_room 51 = .ok (.iload_n 2, 1) := by decide +kernel
theorem dX10_room_52 : decode cX10_room 52 = .ok (.if_icmp .gt 10, 3) := by decide +kernel
theorem dX10_room_55 : decode cX10_room 55 = .ok (.aload_n 0, 1) := by decide +kernel
theorem dX10_room_56 : decode cX10_room 56 = .ok (.getfield 91, 3) := by decide +kernel
theorem dX10_room_59 : decode cX10_room 59 = .ok (.goto 4, 3) := by decide +kernel
theorem dX10_room_62 : decode cX10_room 62 = .ok (.iconst (-1), 1) := by decide +kernel
theorem dX10_room_63 : decode cX10_room 63 = .ok (.ireturn, 1) := by decide +kernel
theorem dX10_make_0 : decode cX10_make 0 = .ok (.aload_n 0, 1) := by decide +kernel
theorem dX10_make_1 : decode cX10_make 1 = .ok (.iconst 0, 1) := by decide +kernel
theorem dX10_make_2 : decode cX10_make 2 = .ok (.putfield 48, 3) := by decide +kernel
theorem dX10_make_5 : decode cX10_make 5 = .ok (.iload_n 1, 1) := by decide +kernel
theorem dX10_make_6 : decode cX10_make 6 = .ok (.invokestatic 124, 3) := by decide +kernel
theorem dX10_make_9 : decode cX10_make 9 = .ok (.ifCond .eq 13, 3) := by decide +kernel
theorem dX10_make_12 : decode cX10_make 12 = .ok (.iload_n 2, 1) := by decide +kernel
theorem dX10_make_13 : decode cX10_make 13 = .ok (.iconst 0, 1) := by decide +kernel
theorem dX10_make_14 : decode cX10_make 14 = .ok (.bipush 6, 2) := by decide +kernel
theorem dX10_make_16 : decode cX10_make 16 = .ok (.invokestatic 51, 3) := by decide +kernel
theorem dX10_make_19 : decode cX10_make 19 = .ok (.ifCond .ne 6, 3) := by decide +kernel
theorem dX10_make_22 : decode cX10_make 22 = .ok (.bipush (-2), 2) := by decide +kernel
theorem dX10_make_24 : decode cX10_make 24 = .ok (.ireturn, 1) := by decide +kernel
theorem dX10_make_25 : decode cX10_make 25 = .ok (.aload_n 0, 1) := by decide +kernel
theorem dX10_make_26 : decode cX10_make 26 = .ok (.getfield 62, 3) := by decide +kernel
theorem dX10_make_29 : decode cX10_make 29 = .ok (.sipush 2000, 3) := by decide +kernel
theorem dX10_make_32 : decode cX10_make 32 = .ok (.if_icmp .ne 6, 3) := by decide +kernel
theorem dX10_make_35 : decode cX10_make 35 = .ok (.bipush (-4), 2) := by decide +kernel
theorem dX10_make_37 : decode cX10_make 37 = .ok (.ireturn, 1) := by decide +kernel
theorem dX10_make_38 : decode cX10_make 38 = .ok (.iload_n 2, 1) := by decide +kernel
theorem dX10_make_39 : decode cX10_make 39 = .ok (.iconst 1, 1) := by decide +kernel
theorem dX10_make_40 : decode cX10_make 40 = .ok (.iadd, 1) := by decide +kernel
theorem dX10_make_41 : decode cX10_make 41 = .ok (.istore_n 3, 1) := by decide +kernel
theorem dX10_make_42 : decode cX10_make 42 = .ok (.aload_n 0, 1) := by decide +kernel
theorem dX10_make_43 : decode cX10_make 43 = .ok (.iload_n 3, 1) := by decide +kernel
theorem dX10_make_44 : decode cX10_make 44 = .ok (.invokevirtual 127, 3) := by decide +kernel
theorem dX10_make_47 : decode cX10_make 47 = .ok (.istore 4, 2) := by decide +kernel
theorem dX10_make_49 : decode cX10_make 49 = .ok (.iload 4, 2) := by decide +kernel
theorem dX10_make_51 : decode cX10_make 51 = .ok (.iconst (-1), 1) := by decide +kernel
theorem dX10_make_52 : decode cX10_make 52 = .ok (.if_icmp .ne 49, 3) := by decide +kernel
theorem dX10_make_55 : decode cX10_make 55 = .ok (.aload_n 0, 1) := by decide +kernel
theorem dX10_make_56 : decode cX10_make 56 = .ok (.getfield 41, 3) := by decide +kernel
theorem dX10_make_59 : decode cX10_make 59 = .ok (.iconst 2, 1) := by decide +kernel
theorem dX10_make_60 : decode cX10_make 60 = .ok (.if_icmp .ge 11, 3) := by decide +kernel
theorem dX10_make_63 : decode cX10_make 63 = .ok (.aload_n 0, 1) := by decide +kernel
theorem dX10_make_64 : decode cX10_make 64 = .ok (.invokevirtual 131, 3) := by decide +kernel
theorem dX10_make_67 : decode cX10_make 67 = .ok (.pop, 1) := by decide +kernel
theorem dX10_make_68 : decode cX10_make 68 = .ok (.goto 26, 3) := by decide +kernel
theorem dX10_make_71 : decode cX10_make 71 = .ok (.iload_n 3, 1) := by decide +kernel
theorem dX10_make_72 : decode cX10_make 72 = .ok (.aload_n 0, 1) := by decide +kernel
theorem dX10_make_73 : decode cX10_make 73 = .ok (.getfield 45, 3) := by decide +kernel
theorem dX10_make_76 : decode cX10_make 76 = .ok (.iconst 4, 1) := by decide +kernel
theorem dX10_make_77 : decode cX10_make 77 = .ok (.idiv, 1) := by decide +kernel
theorem dX10_make_78 : decode cX10_make 78 = .ok (.if_icmp .gt 16, 3) := by decide +kernel
theorem dX10_make_81 : decode cX10_make 81 = .ok (.aload_n 0, 1) := by decide +kernel
theorem dX10_make_82 : decode cX10_make 82 = .ok (.invokevirtual 121, 3) := by decide +kernel
theorem dX10_make_85 : decode cX10_make 85 = .ok (.iconst (-1), 1) := by decide +kernel
theorem dX10_make_86 : decode cX10_make 86 = .ok (.if_icmp .ne 8, 3) := by decide +kernel
theorem dX10_make_89 : decode cX10_make 89 = .ok (.aload_n 0, 1) := by decide +kernel
theorem dX10_make_90 : decode cX10_make 90 = .ok (.invokevirtual 131, 3) := by decide +kernel
theorem dX10_make_93 : decode cX10_make 93 = .ok (.pop, 1) := by decide +kernel
theorem dX10_make_94 : decode cX10_make 94 = .ok (.aload_n 0, 1) := by decide +kernel
theorem dX10_make_95 : decode cX10_make 95 = .ok (.iload_n 3, 1) := by decide +kernel
theorem dX10_make_96 : decode cX10_make 96 = .ok (.invokevirtual 127, 3) := by decide +kernel
theorem dX10_make_99 : decode cX10_make 99 = .ok (.istore 4, 2) := by decide +kernel
theorem dX10_make_101 : decode cX10_make 101 = .ok (.iload 4, 2) := by decide +kernel
theorem dX10_make_103 : decode cX10_make 103 = .ok (.iconst (-1), 1) := by decide +kernel
theorem dX10_make_104 : decode cX10_make 104 = .ok (.if_icmp .ne 6, 3) := by decide +kernel
theorem dX10_make_107 : decode cX10_make 107 = .ok (.bipush (-4), 2) := by decide +kernel
theorem dX10_make_109 : decode cX10_make 109 = .ok (.ireturn, 1) := by decide +kernel
theorem dX10_make_110 : decode cX10_make 110 = .ok (.aload_n 0, 1) := by decide +kernel
theorem dX10_make_111 : decode cX10_make 111 = .ok (.getfield 62, 3) := by decide +kernel
theorem dX10_make_114 : decode cX10_make 114 = .ok (.istore 5, 2) := by decide +kernel
theorem dX10_make_116 : decode cX10_make 116 = .ok (.aload_n 0, 1) := by decide +kernel
theorem dX10_make_117 : decode cX10_make 117 = .ok (.dup, 1) := by decide +kernel
theorem dX10_make_118 : decode cX10_make 118 = .ok (.getfield 62, 3) := by decide +kernel
theorem dX10_make_121 : decode cX10_make 121 = .ok (.iconst 1, 1) := by decide +kernel
theorem dX10_make_122 : decode cX10_make 122 = .ok (.iadd, 1) := by decide +kernel
theorem dX10_make_123 : decode cX10_make 123 = .ok (.putfield 62, 3) := by decide +kernel
theorem dX10_make_126 : decode cX10_make 126 = .ok (.aload_n 0, 1) := by decide +kernel
theorem dX10_make_127 : decode cX10_make 127 = .ok (.getfield 13, 3) := by decide +kernel
theorem dX10_make_130 : decode cX10_make 130 = .ok (.iload 5, 2) := by decide +kernel
theorem dX10_make_132 : decode cX10_make 132 = .ok (.iload_n 2, 1) := by decide +kernel
theorem dX10_make_133 : decode cX10_make 133 = .ok (.iastore, 1) := by decide +kernel
theorem dX10_make_134 : decode cX10_make 134 = .ok (.iconst 0, 1) := by decide +kernel
theorem dX10_make_135 : decode cX10_make 135 = .ok (.istore 6, 2) := by decide +kernel
theorem dX10_make_137 : decode cX10_make 137 = .ok (.iload 6, 2) := by decide +kernel
theorem dX10_make_139 : decode cX10_make 139 = .ok (.bipush 6, 2) := by decide +kernel
theorem dX10_make_141 : decode cX10_make 141 = .ok (.if_icmp .ge 37, 3) := by decide +kernel
theorem dX10_make_144 : decode cX10_make 144 = .ok (.aload_n 0, 1) := by decide +kernel
theorem dX10_make_145 : decode cX10_make 145 = .ok (.getfield 20, 3) := by decide +kernel
theorem dX10_make_148 : decode cX10_make 148 = .ok (.bipush 6, 2) := by decide +kernel
theorem dX10_make_150 : decode cX10_make 150 = .ok (.iload 5, 2) := by decide +kernel
theorem dX10_make_152 : decode cX10_make 152 = .ok (.imul, 1) := by decide +kernel
theorem dX10_make_153 : decode cX10_make 153 = .ok (.iload 6, 2) := by decide +kernel
theorem dX10_make_155 : decode cX10_make 155 = .ok (.iadd, 1) := by decide +kernel
theorem dX10_make_156 : decode cX10_make 156 = .ok (.iconst 0, 1) := by decide +kernel
theorem dX10_make_157 : decode cX10_make 157 = .ok (.iastore, 1) := by decide +kernel
theorem dX10_make_158 : decode cX10_make 158 = .ok (.aload_n 0, 1) := by decide +kernel
theorem dX10_make_159 : decode cX10_make 159 = .ok (.getfield 23, 3) := by decide +kernel
theorem dX10_make_162 : decode cX10_make 162 = .ok (.bipush 6, 2) := by decide +kernel
theorem dX10_make_164 : decode cX10_make 164 = .ok (.iload 5, 2) := by decide +kernel
theorem dX10_make_166 : decode cX10_make 166 = .ok (.imul, 1) := by decide +kernel
theorem dX10_make_167 : decode cX10_make 167 = .ok (.iload 6, 2) := by decide +kernel
theorem dX10_make_169 : decode cX10_make 169 = .ok (.iadd, 1) := by decide +kernel
theorem dX10_make_170 : decode cX10_make 170 = .ok (.iconst (-1), 1) := by decide +kernel
theorem dX10_make_171 : decode cX10_make 171 = .ok (.iastore, 1) := by decide +kernel
theorem dX10_make_172 : decode cX10_make 172 = .ok (.iinc 6 1, 3) := by decide +kernel
theorem dX10_make_175 : decode cX10_make 175 = .ok (.goto (-38), 3) := by decide +kernel
theorem dX10_make_178 : decode cX10_make 178 = .ok (.aload_n 0, 1) := by decide +kernel
theorem dX10_make_179 : decode cX10_make 179 = .ok (.iload 5, 2) := by decide +kernel
theorem dX10_make_181 : decode cX10_make 181 = .ok (.iload 4, 2) := by decide +kernel
theorem dX10_make_183 : decode cX10_make 183 = .ok (.invokevirtual 94, 3) := by decide +kernel
theorem dX10_make_186 : decode cX10_make 186 = .ok (.aload_n 0, 1) := by decide +kernel
theorem dX10_make_187 : decode cX10_make 187 = .ok (.dup, 1) := by decide +kernel
theorem dX10_make_188 : decode cX10_make 188 = .ok (.getfield 91, 3) := by decide +kernel
theorem dX10_make_191 : decode cX10_make 191 = .ok (.iload_n 3, 1) := by decide +kernel
theorem dX10_make_192 : decode cX10_make 192 = .ok (.iadd, 1) := by decide +kernel
theorem dX10_make_193 : decode cX10_make 193 = .ok (.putfield 91, 3) := by decide +kernel
theorem dX10_make_196 : decode cX10_make 196 = .ok (.aload_n 0, 1) := by decide +kernel
theorem dX10_make_197 : decode cX10_make 197 = .ok (.getfield 26, 3) := by decide +kernel
theorem dX10_make_200 : decode cX10_make 200 = .ok (.iload_n 1, 1) := by decide +kernel
theorem dX10_make_201 : decode cX10_make 201 = .ok (.iload 5, 2) := by decide +kernel
theorem dX10_make_203 : decode cX10_make 203 = .ok (.iastore, 1) := by decide +kernel
theorem dX10_make_204 : decode cX10_make 204 = .ok (.iload 5, 2) := by decide +kernel
theorem dX10_make_206 : decode cX10_make 206 = .ok (.ireturn, 1) := by decide +kernel
theorem dX10_wrong_0 : decode cX10_wrong 0 = .ok (.iload_n 1, 1) := by decide +kernel
theorem dX10_wrong_1 : decode cX10_wrong 1 = .ok (.invokestatic 124, 3) := by decide +kernel
theorem dX10_wrong_4 : decode cX10_wrong 4 = .ok (.ifCond .eq 37, 3) := by decide +kernel
theorem dX10_wrong_7 : decode cX10_wrong 7 = .ok (.iload_n 2, 1) := by decide +kernel
theorem dX10_wrong_8 : decode cX10_wrong 8 = .ok (.iconst 0, 1) := by decide +kernel
theorem dX10_wrong_9 : decode cX10_wrong 9 = .ok (.iconst 5, 1) := by decide +kernel
theorem dX10_wrong_10 : decode cX10_wrong 10 = .ok (.invokestatic 51, 3) := by decide +kernel
theorem dX10_wrong_13 : decode cX10_wrong 13 = .ok (.ifCond .eq 28, 3) := by decide +kernel
theorem dX10_wrong_16 : decode cX10_wrong 16 = .ok (.aload_n 0, 1) := by decide +kernel
theorem dX10_wrong_17 : decode cX10_wrong 17 = .ok (.getfield 26, 3) := by decide +kernel
theorem dX10_wrong_20 : decode cX10_wrong 20 = .ok (.iload_n 1, 1) := by decide +kernel
theorem dX10_wrong_21 : decode cX10_wrong 21 = .ok (.iaload, 1) := by decide +kernel
theorem dX10_wrong_22 : decode cX10_wrong 22 = .ok (.iconst (-1), 1) := by decide +kernel
theorem dX10_wrong_23 : decode cX10_wrong 23 = .ok (.if_icmp .eq 21, 3) := by decide +kernel
theorem dX10_wrong_26 : decode cX10_wrong 26 = .ok (.iload_n 2, 1) := by decide +kernel
theorem dX10_wrong_27 : decode cX10_wrong 27 = .ok (.aload_n 0, 1) := by decide +kernel
theorem dX10_wrong_28 : decode cX10_wrong 28 = .ok (.getfield 13, 3) := by decide +kernel
theorem dX10_wrong_31 : decode cX10_wrong 31 = .ok (.aload_n 0, 1) := by decide +kernel
theorem dX10_wrong_32 : decode cX10_wrong 32 = .ok (.getfield 26, 3) := by decide +kernel
theorem dX10_wrong_35 : decode cX10_wrong 35 = .ok (.iload_n 1, 1) := by decide +kernel
theorem dX10_wrong_36 : decode cX10_wrong 36 = .ok (.iaload, 1) := by decide +kernel
theorem dX10_wrong_37 : decode cX10_wrong 37 = .ok (.iaload, 1) := by decide +kernel
theorem dX10_wrong_38 : decode cX10_wrong 38 = .ok (.if_icmp .lt 6, 3) := by decide +kernel
theorem dX10_wrong_41 : decode cX10_wrong 41 = .ok (.bipush (-2), 2) := by decide +kernel
theorem dX10_wrong_43 : decode cX10_wrong 43 = .ok (.ireturn, 1) := by decide +kernel
theorem dX10_wrong_44 : decode cX10_wrong 44 = .ok (.aload_n 0, 1) := by decide +kernel
theorem dX10_wrong_45 : decode cX10_wrong 45 = .ok (.getfield 26, 3) := by decide +kernel
theorem dX10_wrong_48 : decode cX10_wrong 48 = .ok (.iload_n 1, 1) := by decide +kernel
theorem dX10_wrong_49 : decode cX10_wrong 49 = .ok (.iaload, 1) := by decide +kernel
theorem dX10_wrong_50 : decode cX10_wrong 50 = .ok (.iconst (-1), 1) := by decide +kernel
theorem dX10_wrong_51 : decode cX10_wrong 51 = .ok (.if_icmp .ne 8, 3) := by decide +kernel
theorem dX10_wrong_54 : decode cX10_wrong 54 = .ok (.bipush (-3), 2) := by decide +kernel
theorem dX10_wrong_56 : decode cX10_wrong 56 = .ok (.goto 4, 3) := by decide +kernel
theorem dX10_wrong_59 : decode cX10_wrong 59 = .ok (.iconst 0, 1) := by decide +kernel
theorem dX10_wrong_60 : decode cX10_wrong 60 = .ok (.ireturn, 1) := by decide +kernel
theorem dX10_set_0 : decode cX10_set 0 = .ok (.aload_n 0, 1) := by decide +kernel
theorem dX10_set_1 : decode cX10_set 1 = .ok (.iconst 0, 1) := by decide +kernel
theorem dX10_set_2 : decode cX10_set 2 = .ok (.putfield 48, 3) := by decide +kernel
theorem dX10_set_5 : decode cX10_set 5 = .ok (.aload_n 0, 1) := by decide +kernel
theorem dX10_set_6 : decode cX10_set 6 = .ok (.iload_n 1, 1) := by decide +kernel
theorem dX10_set_7 : decode cX10_set 7 = .ok (.iload_n 2, 1) := by decide +kernel
theorem dX10_set_8 : decode cX10_set 8 = .ok (.invokevirtual 134, 3) := by decide +kernel
theorem dX10_set_11 : decode cX10_set 11 = .ok (.istore 4, 2) := by decide +kernel
theorem dX10_set_13 : decode cX10_set 13 = .ok (.iload 4, 2) := by decide +kernel
theorem dX10_set_15 : decode cX10_set 15 = .ok (.ifCond .ne 37, 3) := by decide +kernel
theorem dX10_set_18 : decode cX10_set 18 = .ok (.aload_n 0, 1) := by decide +kernel
theorem dX10_set_19 : decode cX10_set 19 = .ok (.getfield 20, 3) := by decide +kernel
theorem dX10_set_22 : decode cX10_set 22 = .ok (.bipush 6, 2) := by decide +kernel
theorem dX10_set_24 : decode cX10_set 24 = .ok (.aload_n 0, 1) := by decide +kernel
theorem dX10_set_25 : decode cX10_set 25 = .ok (.getfield 26, 3) := by decide +kernel
theorem dX10_set_28 : decode cX10_set 28 = .ok (.iload_n 1, 1) := by decide +kernel
theorem dX10_set_29 : decode cX10_set 29 = .ok (.iaload, 1) := by decide +kernel
theorem dX10_set_30 : decode cX10_set 30 = .ok (.imul, 1) := by decide +kernel
theorem dX10_set_31 : decode cX10_set 31 = .ok (.iload_n 2, 1) := by decide +kernel
theorem dX10_set_32 : decode cX10_set 32 = .ok (.iadd, 1) := by decide +kernel
theorem dX10_set_33 : decode cX10_set 33 = .ok (.iload_n 3, 1) := by decide +kernel
theorem dX10_set_34 : decode cX10_set 34 = .ok (.iastore, 1) := by decide +kernel
theorem dX10_set_35 : decode cX10_set 35 = .ok (.aload_n 0, 1) := by decide +kernel
theorem dX10_set_36 : decode cX10_set 36 = .ok (.getfield 23, 3) := by decide +kernel
theorem dX10_set_39 : decode cX10_set 39 = .ok (.bipush 6, 2) := by decide +kernel
theorem dX10_set_41 : decode cX10_set 41 = .ok (.aload_n 0, 1) := by decide +kernel
theorem dX10_set_42 : decode cX10_set 42 = .ok (.getfield 26, 3) := by decide +kernel
theorem dX10_set_45 : decode cX10_set 45 = .ok (.iload_n 1, 1) := by decide +kernel
theorem dX10_set_46 : decode cX10_set 46 = .ok (.iaload, 1) := by decide +kernel
theorem dX10_set_47 : decode cX10_set 47 = .ok (.imul, 1) := by decide +kernel
theorem dX10_set_48 : decode cX10_set 48 = .ok (.iload_n 2, 1) := by decide +kernel
theorem dX10_set_49 : decode cX10_set 49 = .ok (.iadd, 1) := by decide +kernel
theorem dX10_set_50 : decode cX10_set 50 = .ok (.iconst (-1), 1) := by decide +kernel
theorem dX10_set_51 : decode cX10_set 51 = .ok (.iastore, 1) := by decide +kernel
theorem dX10_set_52 : decode cX10_set 52 = .ok (.iload 4, 2) := by decide +kernel
theorem dX10_set_54 : decode cX10_set 54 = .ok (.ireturn, 1) := by decide +kernel
theorem dX10_link_0 : decode cX10_link 0 = .ok (.aload_n 0, 1) := by decide +kernel
theorem dX10_link_1 : decode cX10_link 1 = .ok (.iconst 0, 1) := by decide +kernel
theorem dX10_link_2 : decode cX10_link 2 = .ok (.putfield 48, 3) := by decide +kernel
theorem dX10_link_5 : decode cX10_link 5 = .ok (.aload_n 0, 1) := by decide +kernel
theorem dX10_link_6 : decode cX10_link 6 = .ok (.iload_n 1, 1) := by decide +kernel
theorem dX10_link_7 : decode cX10_link 7 = .ok (.iload_n 2, 1) := by decide +kernel
theorem dX10_link_8 : decode cX10_link 8 = .ok (.invokevirtual 134, 3) := by decide +kernel
theorem dX10_link_11 : decode cX10_link 11 = .ok (.istore 4, 2) := by decide +kernel
theorem dX10_link_13 : decode cX10_link 13 = .ok (.iload_n 3, 1) := by decide +kernel
theorem dX10_link_14 : decode cX10_link 14 = .ok (.invokestatic 124, 3) := by decide +kernel
theorem dX10_link_17 : decode cX10_link 17 = .ok (.ifCond .ne 6, 3) := by decide +kernel
theorem dX10_link_20 : decode cX10_link 20 = .ok (.bipush (-2), 2) := by decide +kernel
theorem dX10_link_22 : decode cX10_link 22 = .ok (.ireturn, 1) := by decide +kernel
theorem dX10_link_23 : decode cX10_link 23 = .ok (.iload 4, 2) := by decide +kernel
theorem dX10_link_25 : decode cX10_link 25 = .ok (.ifCond .eq 6, 3) := by decide +kernel
theorem dX10_link_28 : decode cX10_link 28 = .ok (.iload 4, 2) := by decide +kernel
theorem dX10_link_30 : decode cX10_link 30 = .ok (.ireturn, 1) := by decide +kernel
theorem dX10_link_31 : decode cX10_link 31 = .ok (.aload_n 0, 1) := by decide +kernel
theorem dX10_link_32 : decode cX10_link 32 = .ok (.getfield 26, 3) := by decide +kernel
theorem dX10_link_35 : decode cX10_link 35 = .ok (.iload_n 3, 1) := by decide +kernel
theorem dX10_link_36 : decode cX10_link 36 = .ok (.iaload, 1) := by decide +kernel
theorem dX10_link_37 : decode cX10_link 37 = .ok (.iconst (-1), 1) := by decide +kernel
theorem dX10_link_38 : decode cX10_link 38 = .ok (.if_icmp .ne 6, 3) := by decide +kernel
theorem dX10_link_41 : decode cX10_link 41 = .ok (.bipush (-3), 2) := by decide +kernel
theorem dX10_link_43 : decode cX10_link 43 = .ok (.ireturn, 1) := by decide +kernel
theorem dX10_link_44 : decode cX10_link 44 = .ok (.aload_n 0, 1) := by decide +kernel
theorem dX10_link_45 : decode cX10_link 45 = .ok (.getfield 26, 3) := by decide +kernel
theorem dX10_link_48 : decode cX10_link 48 = .ok (.iload_n 1, 1) := by decide +kernel
theorem dX10_link_49 : decode cX10_link 49 = .ok (.iaload, 1) := by decide +kernel
theorem dX10_link_50 : decode cX10_link 50 = .ok (.istore 5, 2) := by decide +kernel
theorem dX10_link_52 : decode cX10_link 52 = .ok (.aload_n 0, 1) := by decide +kernel
theorem dX10_link_53 : decode cX10_link 53 = .ok (.getfield 20, 3) := by decide +kernel
theorem dX10_link_56 : decode cX10_link 56 = .ok (.bipush 6, 2) := by decide +kernel
theorem dX10_link_58 : decode cX10_link 58 = .ok (.iload 5, 2) := by decide +kernel
theorem dX10_link_60 : decode cX10_link 60 = .ok (.imul, 1) := by decide +kernel
theorem dX10_link_61 : decode cX10_link 61 = .ok (.iload_n 2, 1) := by decide +kernel
theorem dX10_link_62 : decode cX10_link 62 = .ok (.iadd, 1) := by decide +kernel
theorem dX10_link_63 : decode cX10_link 63 = .ok (.iconst 0, 1) := by decide +kernel
theorem dX10_link_64 : decode cX10_link 64 = .ok (.iastore, 1) := by decide +kernel
theorem dX10_link_65 : decode cX10_link 65 = .ok (.aload_n 0, 1) := by decide +kernel
theorem dX10_link_66 : decode cX10_link 66 = .ok (.getfield 23, 3) := by decide +kernel
theorem dX10_link_69 : decode cX10_link 69 = .ok (.bipush 6, 2) := by decide +kernel
theorem dX10_link_71 : decode cX10_link 71 = .ok (.iload 5, 2) := by decide +kernel
theorem dX10_link_73 : decode cX10_link 73 = .ok (.imul, 1) := by decide +kernel
theorem dX10_link_74 : decode cX10_link 74 = .ok (.iload_n 2, 1) := by decide +kernel
theorem dX10_link_75 : decode cX10_link 75 = .ok (.iadd, 1) := by decide +kernel
theorem dX10_link_76 : decode cX10_link 76 = .ok (.aload_n 0, 1) := by decide +kernel
theorem dX10_link_77 : decode cX10_link 77 = .ok (.getfield 26, 3) := by decide +kernel
theorem dX10_link_80 : decode cX10_link 80 = .ok (.iload_n 3, 1) := by decide +kernel
theorem dX10_link_81 : decode cX10_link 81 = .ok (.iaload, 1) := by decide +kernel
theorem dX10_link_82 : decode cX10_link 82 = .ok (.iastore, 1) := by decide +kernel
theorem dX10_link_83 : decode cX10_link 83 = .ok (.aload_n 0, 1) := by decide +kernel
theorem dX10_link_84 : decode cX10_link 84 = .ok (.getfield 16, 3) := by decide +kernel
theorem dX10_link_87 : decode cX10_link 87 = .ok (.iload 5, 2) := by decide +kernel
theorem dX10_link_89 : decode cX10_link 89 = .ok (.aload_n 0, 1) := by decide +kernel
theorem dX10_link_90 : decode cX10_link 90 = .ok (.getfield 16, 3) := by decide +kernel
theorem dX10_link_93 : decode cX10_link 93 = .ok (.iload 5, 2) := by decide +kernel
theorem dX10_link_95 : decode cX10_link 95 = .ok (.baload, 1) := by decide +kernel
theorem dX10_link_96 : decode cX10_link 96 = .ok (.ifCond .ne 25, 3) := by decide +kernel
theorem dX10_link_99 : decode cX10_link 99 = .ok (.aload_n 0, 1) := by decide +kernel
theorem dX10_link_100 : decode cX10_link 100 = .ok (.iload 5, 2) := by decide +kernel
theorem dX10_link_102 : decode cX10_link 102 = .ok (.invokevirtual 74, 3) := by decide +kernel
theorem dX10_link_105 : decode cX10_link 105 = .ok (.ifCond .eq 20, 3) := by decide +kernel
theorem dX10_link_108 : decode cX10_link 108 = .ok (.aload_n 0, 1) := by decide +kernel
theorem dX10_link_109 : decode cX10_link 109 = .ok (.aload_n 0, 1) := by decide +kernel
theorem dX10_link_110 : decode cX10_link 110 = .ok (.getfield 26, 3) := by decide +kernel
theorem dX10_link_113 : decode cX10_link 113 = .ok (.iload_n 3, 1) := by decide +kernel
theorem dX10_link_114 : decode cX10_link 114 = .ok (.iaload, 1) := by decide +kernel
theorem dX10_link_115 : decode cX10_link 115 = .ok (.invokevirtual 74, 3) := by decide +kernel
theorem dX10_link_118 : decode cX10_link 118 = .ok (.ifCond .ne 7, 3) := by decide +kernel
theorem dX10_link_121 : decode cX10_link 121 = .ok (.iconst 1, 1) := by decide +kernel
theorem dX10_link_122 : decode cX10_link 122 = .ok (.goto 4, 3) := by decide +kernel
theorem dX10_link_125 : decode cX10_link 125 = .ok (.iconst 0, 1) := by decide +kernel
theorem dX10_link_126 : decode cX10_link 126 = .ok (.bastore, 1) := by decide +kernel
theorem dX10_link_127 : decode cX10_link 127 = .ok (.iconst 0, 1) := by decide +kernel
theorem dX10_link_128 : decode cX10_link 128 = .ok (.ireturn, 1) := by decide +kernel
theorem dX10_refers_0 : decode cX10_refers 0 = .ok (.aload_n 0, 1) := by decide +kernel
theorem dX10_refers_1 : decode cX10_refers 1 = .ok (.iconst 0, 1) := by decide +kernel
theorem dX10_refers_2 : decode cX10_refers 2 = .ok (.putfield 48, 3) := by decide +kernel
theorem dX10_refers_5 : decode cX10_refers 5 = .ok (.aload_n 0, 1) := by decide +kernel
theorem dX10_refers_6 : decode cX10_refers 6 = .ok (.iload_n 1, 1) := by decide +kernel
theorem dX10_refers_7 : decode cX10_refers 7 = .ok (.iload_n 2, 1) := by decide +kernel
theorem dX10_refers_8 : decode cX10_refers 8 = .ok (.invokevirtual 134, 3) := by decide +kernel
theorem dX10_refers_11 : decode cX10_refers 11 = .ok (.istore_n 3, 1) := by decide +kernel
theorem dX10_refers_12 : decode cX10_refers 12 = .ok (.iload_n 3, 1) := by decide +kernel
theorem dX10_refers_13 : decode cX10_refers 13 = .ok (.ifCond .eq 7, 3) := by decide +kernel
theorem dX10_refers_16 : decode cX10_refers 16 = .ok (.iload_n 3, 1) := by decide +kernel
theorem dX10_refers_17 : decode cX10_refers 17 = .ok (.goto 28, 3) := by decide +kernel
theorem dX10_refers_20 : decode cX10_refers 20 = .ok (.aload_n 0, 1) := by decide +kernel
theorem dX10_refers_21 : decode cX10_refers 21 = .ok (.getfield 23, 3) := by decide +kernel
theorem dX10_refers_24 : decode cX10_refers 24 = .ok (.bipush 6, 2) := by decide +kernel
theorem dX10_refers_26 : decode cX10_refers 26 = .ok (.aload_n 0, 1) := by decide +kernel
theorem dX10_refers_27 : decode cX10_refers 27 = .ok (.getfield 26, 3) := by decide +kernel
theorem dX10_refers_30 : decode cX10_refers 30 = .ok (.iload_n 1, 1) := by decide +kernel
theorem dX10_refers_31 : decode cX10_refers 31 = .ok (.iaload, 1) := by decide +kernel
theorem dX10_refers_32 : decode cX10_refers 32 = .ok (.imul, 1) := by decide +kernel
theorem dX10_refers_33 : decode cX10_refers 33 = .ok (.iload_n 2, 1) := by decide +kernel
theorem dX10_refers_34 : decode cX10_refers 34 = .ok (.iadd, 1) := by decide +kernel
theorem dX10_refers_35 : decode cX10_refers 35 = .ok (.iaload, 1) := by decide +kernel
theorem dX10_refers_36 : decode cX10_refers 36 = .ok (.iconst (-1), 1) := by decide +kernel
theorem dX10_refers_37 : decode cX10_refers 37 = .ok (.if_icmp .eq 7, 3) := by decide +kernel
theorem dX10_refers_40 : decode cX10_refers 40 = .ok (.iconst 1, 1) := by decide +kernel
theorem dX10_refers_41 : decode cX10_refers 41 = .ok (.goto 4, 3) := by decide +kernel
theorem dX10_refers_44 : decode cX10_refers 44 = .ok (.iconst 0, 1) := by decide +kernel
theorem dX10_refers_45 : decode cX10_refers 45 = .ok (.ireturn, 1) := by decide +kernel
theorem dX10_number_0 : decode cX10_number 0 = .ok (.aload_n 0, 1) := by decide +kernel
theorem dX10_number_1 : decode cX10_number 1 = .ok (.iconst 0, 1) := by decide +kernel
theorem dX10_number_2 : decode cX10_number 2 = .ok (.putfield 48, 3) := by decide +kernel
theorem dX10_number_5 : decode cX10_number 5 = .ok (.aload_n 0, 1) := by decide +kernel
theorem dX10_number_6 : decode cX10_number 6 = .ok (.iload_n 1, 1) := by decide +kernel
theorem dX10_number_7 : decode cX10_number 7 = .ok (.iload_n 2, 1) := by decide +kernel
theorem dX10_number_8 : decode cX10_number 8 = .ok (.invokevirtual 134, 3) := by decide +kernel
theorem dX10_number_11 : decode cX10_number 11 = .ok (.ifCond .eq 7, 3) := by decide +kernel
theorem dX10_number_14 : decode cX10_number 14 = .ok (.iconst 0, 1) := by decide +kernel
theorem dX10_number_15 : decode cX10_number 15 = .ok (.goto 19, 3) := by decide +kernel
theorem dX10_number_18 : decode cX10_number 18 = .ok (.aload_n 0, 1) := by decide +kernel
theorem dX10_number_19 : decode cX10_number 19 = .ok (.getfield 20, 3) := by decide +kernel
theorem dX10_number_22 : decode cX10_number 22 = .ok (.bipush 6, 2) := by decide +kernel
theorem dX10_number_24 : decode cX10_number 24 = .ok (.aload_n 0, 1) := by decide +kernel
theorem dX10_number_25 : decode cX10_number 25 = .ok (.getfield 26, 3) := by decide +kernel
theorem dX10_number_28 : decode cX10_number 28 = .ok (.iload_n 1, 1) := by decide +kernel
theorem dX10_number_29 : decode cX10_number 29 = .ok (.iaload, 1) := by decide +kernel
theorem dX10_number_30 : decode cX10_number 30 = .ok (.imul, 1) := by decide +kernel
theorem dX10_number_31 : decode cX10_number 31 = .ok (.iload_n 2, 1) := by decide +kernel
theorem dX10_number_32 : decode cX10_number 32 = .ok (.iadd, 1) := by decide +kernel
theorem dX10_number_33 : decode cX10_number 33 = .ok (.iaload, 1) := by decide +kernel
theorem dX10_number_34 : decode cX10_number 34 = .ok (.ireturn, 1) := by decide +kernel
theorem dX10_load_0 : decode cX10_load 0 = .ok (.aload_n 0, 1) := by decide +kernel
theorem dX10_load_1 : decode cX10_load 1 = .ok (.iconst 0, 1) := by decide +kernel
theorem dX10_load_2 : decode cX10_load 2 = .ok (.putfield 48, 3) := by decide +kernel
theorem dX10_load_5 : decode cX10_load 5 = .ok (.aload_n 0, 1) := by decide +kernel
theorem dX10_load_6 : decode cX10_load 6 = .ok (.iload_n 2, 1) := by decide +kernel
theorem dX10_load_7 : decode cX10_load 7 = .ok (.iload_n 3, 1) := by decide +kernel
theorem dX10_load_8 : decode cX10_load 8 = .ok (.invokevirtual 134, 3) := by decide +kernel
theorem dX10_load_11 : decode cX10_load 11 = .ok (.istore 4, 2) := by decide +kernel
theorem dX10_load_13 : decode cX10_load 13 = .ok (.iload_n 1, 1) := by decide +kernel
theorem dX10_load_14 : decode cX10_load 14 = .ok (.invokestatic 124, 3) := by decide +kernel
theorem dX10_load_17 : decode cX10_load 17 = .ok (.ifCond .ne 6, 3) := by decide +kernel
theorem dX10_load_20 : decode cX10_load 20 = .ok (.bipush (-2), 2) := by decide +kernel
theorem dX10_load_22 : decode cX10_load 22 = .ok (.ireturn, 1) := by decide +kernel
theorem dX10_load_23 : decode cX10_load 23 = .ok (.iload 4, 2) := by decide +kernel
theorem dX10_load_25 : decode cX10_load 25 = .ok (.ifCond .eq 6, 3) := by decide +kernel
theorem dX10_load_28 : decode cX10_load 28 = .ok (.iload 4, 2) := by decide +kernel
theorem dX10_load_30 : decode cX10_load 30 = .ok (.ireturn, 1) := by decide +kernel
theorem dX10_load_31 : decode cX10_load 31 = .ok (.aload_n 0, 1) := by decide +kernel
theorem dX10_load_32 : decode cX10_load 32 = .ok (.getfield 23, 3) := by decide +kernel
theorem dX10_load_35 : decode cX10_load 35 = .ok (.bipush 6, 2) := by decide +kernel
theorem dX10_load_37 : decode cX10_load 37 = .ok (.aload_n 0, 1) := by decide +kernel
theorem dX10_load_38 : decode cX10_load 38 = .ok (.getfield 26, 3) := by decide +kernel
theorem dX10_load_41 : decode cX10_load 41 = .ok (.iload_n 2, 1) := by decide +kernel
theorem dX10_load_42 : decode cX10_load 42 = .ok (.iaload, 1) := by decide +kernel
theorem dX10_load_43 : decode cX10_load 43 = .ok (.imul, 1) := by decide +kernel
theorem dX10_load_44 : decode cX10_load 44 = .ok (.iload_n 3, 1) := by decide +kernel
theorem dX10_load_45 : decode cX10_load 45 = .ok (.iadd, 1) := by decide +kernel
theorem dX10_load_46 : decode cX10_load 46 = .ok (.iaload, 1) := by decide +kernel
theorem dX10_load_47 : decode cX10_load 47 = .ok (.istore 5, 2) := by decide +kernel
theorem dX10_load_49 : decode cX10_load 49 = .ok (.iload 5, 2) := by decide +kernel
theorem dX10_load_51 : decode cX10_load 51 = .ok (.iconst (-1), 1) := by decide +kernel
theorem dX10_load_52 : decode cX10_load 52 = .ok (.if_icmp .ne 6, 3) := by decide +kernel
theorem dX10_load_55 : decode cX10_load 55 = .ok (.bipush (-3), 2) := by decide +kernel
theorem dX10_load_57 : decode cX10_load 57 = .ok (.ireturn, 1) := by decide +kernel
theorem dX10_load_58 : decode cX10_load 58 = .ok (.aload_n 0, 1) := by decide +kernel
theorem dX10_load_59 : decode cX10_load 59 = .ok (.getfield 26, 3) := by decide +kernel
theorem dX10_load_62 : decode cX10_load 62 = .ok (.iload_n 1, 1) := by decide +kernel
theorem dX10_load_63 : decode cX10_load 63 = .ok (.iload 5, 2) := by decide +kernel
theorem dX10_load_65 : decode cX10_load 65 = .ok (.iastore, 1) := by decide +kernel
theorem dX10_load_66 : decode cX10_load 66 = .ok (.iload 5, 2) := by decide +kernel
theorem dX10_load_68 : decode cX10_load 68 = .ok (.ireturn, 1) := by decide +kernel
theorem dX10_copy_0 : decode cX10_copy 0 = .ok (.aload_n 0, 1) := by decide +kernel
theorem dX10_copy_1 : decode cX10_copy 1 = .ok (.iconst 0, 1) := by decide +kernel
theorem dX10_copy_2 : decode cX10_copy 2 = .ok (.putfield 48, 3) := by decide +kernel
theorem dX10_copy_5 : decode cX10_copy 5 = .ok (.iload_n 1, 1) := by decide +kernel
theorem dX10_copy_6 : decode cX10_copy 6 = .ok (.invokestatic 124, 3) := by decide +kernel
theorem dX10_copy_9 : decode cX10_copy 9 = .ok (.ifCond .eq 10, 3) := by decide +kernel
theorem dX10_copy_12 : decode cX10_copy 12 = .ok (.iload_n 2, 1) := by decide +kernel
end
section
theorem dX10_copy_13 : decode cX10_copy 13 = .ok (.invokestatic 124, 3) := by decide +kernel
theorem dX10_copy_16 : decode cX10_copy 16 = .ok (.ifCond .ne 6, 3) := by decide +kernel
theorem dX10_copy_19 : decode cX10_copy 19 = .ok (.bipush (-2), 2) := by decide +kernel
theorem dX10_copy_21 : decode cX10_copy 21 = .ok (.ireturn, 1) := by decide +kernel
theorem dX10_copy_22 : decode cX10_copy 22 = .ok (.aload_n 0, 1) := by decide +kernel
theorem dX10_copy_23 : decode cX10_copy 23 = .ok (.getfield 26, 3) := by decide +kernel
theorem dX10_copy_26 : decode cX10_copy 26 = .ok (.iload_n 1, 1) := by decide +kernel
theorem dX10_copy_27 : decode cX10_copy 27 = .ok (.aload_n 0, 1) := by decide +kernel
theorem dX10_copy_28 : decode cX10_copy 28 = .ok (.getfield 26, 3) := by decide +kernel
theorem dX10_copy_31 : decode cX10_copy 31 = .ok (.iload_n 2, 1) := by decide +kernel
theorem dX10_copy_32 : decode cX10_copy 32 = .ok (.iaload, 1) := by decide +kernel
theorem dX10_copy_33 : decode cX10_copy 33 = .ok (.iastore, 1) := by decide +kernel
theorem dX10_copy_34 : decode cX10_copy 34 = .ok (.aload_n 0, 1) := by decide +kernel
theorem dX10_copy_35 : decode cX10_copy 35 = .ok (.getfield 26, 3) := by decide +kernel
theorem dX10_copy_38 : decode cX10_copy 38 = .ok (.iload_n 1, 1) := by decide +kernel
theorem dX10_copy_39 : decode cX10_copy 39 = .ok (.iaload, 1) := by decide +kernel
theorem dX10_copy_40 : decode cX10_copy 40 = .ok (.ireturn, 1) := by decide +kernel
theorem dX10_drop_0 : decode cX10_drop 0 = .ok (.aload_n 0, 1) := by decide +kernel
theorem dX10_drop_1 : decode cX10_drop 1 = .ok (.iconst 0, 1) := by decide +kernel
theorem dX10_drop_2 : decode cX10_drop 2 = .ok (.putfield 48, 3) := by decide +kernel
theorem dX10_drop_5 : decode cX10_drop 5 = .ok (.iload_n 1, 1) := by decide +kernel
theorem dX10_drop_6 : decode cX10_drop 6 = .ok (.invokestatic 124, 3) := by decide +kernel
theorem dX10_drop_9 : decode cX10_drop 9 = .ok (.ifCond .ne 6, 3) := by decide +kernel
theorem dX10_drop_12 : decode cX10_drop 12 = .ok (.bipush (-2), 2) := by decide +kernel
theorem dX10_drop_14 : decode cX10_drop 14 = .ok (.ireturn, 1) := by decide +kernel
theorem dX10_drop_15 : decode cX10_drop 15 = .ok (.aload_n 0, 1) := by decide +kernel
theorem dX10_drop_16 : decode cX10_drop 16 = .ok (.getfield 26, 3) := by decide +kernel
theorem dX10_drop_19 : decode cX10_drop 19 = .ok (.iload_n 1, 1) := by decide +kernel
theorem dX10_drop_20 : decode cX10_drop 20 = .ok (.iaload, 1) := by decide +kernel
theorem dX10_drop_21 : decode cX10_drop 21 = .ok (.iconst (-1), 1) := by decide +kernel
theorem dX10_drop_22 : decode cX10_drop 22 = .ok (.if_icmp .ne 7, 3) := by decide +kernel
theorem dX10_drop_25 : decode cX10_drop 25 = .ok (.iconst 0, 1) := by decide +kernel
theorem dX10_drop_26 : decode cX10_drop 26 = .ok (.goto 4, 3) := by decide +kernel
theorem dX10_drop_29 : decode cX10_drop 29 = .ok (.iconst 1, 1) := by decide +kernel
theorem dX10_drop_30 : decode cX10_drop 30 = .ok (.istore_n 2, 1) := by decide +kernel
theorem dX10_drop_31 : decode cX10_drop 31 = .ok (.aload_n 0, 1) := by decide +kernel
theorem dX10_drop_32 : decode cX10_drop 32 = .ok (.getfield 26, 3) := by decide +kernel
theorem dX10_drop_35 : decode cX10_drop 35 = .ok (.iload_n 1, 1) := by decide +kernel
theorem dX10_drop_36 : decode cX10_drop 36 = .ok (.iconst (-1), 1) := by decide +kernel
theorem dX10_drop_37 : decode cX10_drop 37 = .ok (.iastore, 1) := by decide +kernel
theorem dX10_drop_38 : decode cX10_drop 38 = .ok (.iload_n 2, 1) := by decide +kernel
theorem dX10_drop_39 : decode cX10_drop 39 = .ok (.ireturn, 1) := by decide +kernel
theorem dX10_collect_0 : decode cX10_collect 0 = .ok (.aload_n 0, 1) := by decide +kernel
theorem dX10_collect_1 : decode cX10_collect 1 = .ok (.iconst 0, 1) := by decide +kernel
theorem dX10_collect_2 : decode cX10_collect 2 = .ok (.putfield 48, 3) := by decide +kernel
theorem dX10_collect_5 : decode cX10_collect 5 = .ok (.aload_n 0, 1) := by decide +kernel
theorem dX10_collect_6 : decode cX10_collect 6 = .ok (.invokevirtual 131, 3) := by decide +kernel
theorem dX10_collect_9 : decode cX10_collect 9 = .ok (.istore_n 1, 1) := by decide +kernel
theorem dX10_collect_10 : decode cX10_collect 10 = .ok (.iload_n 1, 1) := by decide +kernel
theorem dX10_collect_11 : decode cX10_collect 11 = .ok (.iconst (-1), 1) := by decide +kernel
theorem dX10_collect_12 : decode cX10_collect 12 = .ok (.if_icmp .ne 8, 3) := by decide +kernel
theorem dX10_collect_15 : decode cX10_collect 15 = .ok (.bipush (-4), 2) := by decide +kernel
theorem dX10_collect_17 : decode cX10_collect 17 = .ok (.goto 4, 3) := by decide +kernel
theorem dX10_collect_20 : decode cX10_collect 20 = .ok (.iload_n 1, 1) := by decide +kernel
theorem dX10_collect_21 : decode cX10_collect 21 = .ok (.ireturn, 1) := by decide +kernel
theorem dX10_minor_0 : decode cX10_minor 0 = .ok (.aload_n 0, 1) := by decide +kernel
theorem dX10_minor_1 : decode cX10_minor 1 = .ok (.iconst 0, 1) := by decide +kernel
theorem dX10_minor_2 : decode cX10_minor 2 = .ok (.putfield 48, 3) := by decide +kernel
theorem dX10_minor_5 : decode cX10_minor 5 = .ok (.aload_n 0, 1) := by decide +kernel
theorem dX10_minor_6 : decode cX10_minor 6 = .ok (.getfield 41, 3) := by decide +kernel
theorem dX10_minor_9 : decode cX10_minor 9 = .ok (.iconst 2, 1) := by decide +kernel
theorem dX10_minor_10 : decode cX10_minor 10 = .ok (.if_icmp .eq 6, 3) := by decide +kernel
theorem dX10_minor_13 : decode cX10_minor 13 = .ok (.bipush (-2), 2) := by decide +kernel
theorem dX10_minor_15 : decode cX10_minor 15 = .ok (.ireturn, 1) := by decide +kernel
theorem dX10_minor_16 : decode cX10_minor 16 = .ok (.aload_n 0, 1) := by decide +kernel
theorem dX10_minor_17 : decode cX10_minor 17 = .ok (.invokevirtual 121, 3) := by decide +kernel
theorem dX10_minor_20 : decode cX10_minor 20 = .ok (.istore_n 1, 1) := by decide +kernel
theorem dX10_minor_21 : decode cX10_minor 21 = .ok (.iload_n 1, 1) := by decide +kernel
theorem dX10_minor_22 : decode cX10_minor 22 = .ok (.iconst (-1), 1) := by decide +kernel
theorem dX10_minor_23 : decode cX10_minor 23 = .ok (.if_icmp .ne 8, 3) := by decide +kernel
theorem dX10_minor_26 : decode cX10_minor 26 = .ok (.bipush (-4), 2) := by decide +kernel
theorem dX10_minor_28 : decode cX10_minor 28 = .ok (.goto 4, 3) := by decide +kernel
theorem dX10_minor_31 : decode cX10_minor 31 = .ok (.iload_n 1, 1) := by decide +kernel
theorem dX10_minor_32 : decode cX10_minor 32 = .ok (.ireturn, 1) := by decide +kernel
theorem dX10_object_0 : decode cX10_object 0 = .ok (.aload_n 0, 1) := by decide +kernel
theorem dX10_object_1 : decode cX10_object 1 = .ok (.iconst 0, 1) := by decide +kernel
theorem dX10_object_2 : decode cX10_object 2 = .ok (.putfield 48, 3) := by decide +kernel
theorem dX10_object_5 : decode cX10_object 5 = .ok (.iload_n 1, 1) := by decide +kernel
theorem dX10_object_6 : decode cX10_object 6 = .ok (.invokestatic 124, 3) := by decide +kernel
theorem dX10_object_9 : decode cX10_object 9 = .ok (.ifCond .eq 12, 3) := by decide +kernel
theorem dX10_object_12 : decode cX10_object 12 = .ok (.iload_n 2, 1) := by decide +kernel
theorem dX10_object_13 : decode cX10_object 13 = .ok (.iconst 0, 1) := by decide +kernel
theorem dX10_object_14 : decode cX10_object 14 = .ok (.iconst 4, 1) := by decide +kernel
theorem dX10_object_15 : decode cX10_object 15 = .ok (.invokestatic 51, 3) := by decide +kernel
theorem dX10_object_18 : decode cX10_object 18 = .ok (.ifCond .ne 6, 3) := by decide +kernel
theorem dX10_object_21 : decode cX10_object 21 = .ok (.bipush (-2), 2) := by decide +kernel
theorem dX10_object_23 : decode cX10_object 23 = .ok (.ireturn, 1) := by decide +kernel
theorem dX10_object_24 : decode cX10_object 24 = .ok (.aload_n 0, 1) := by decide +kernel
theorem dX10_object_25 : decode cX10_object 25 = .ok (.getfield 26, 3) := by decide +kernel
theorem dX10_object_28 : decode cX10_object 28 = .ok (.iload_n 1, 1) := by decide +kernel
theorem dX10_object_29 : decode cX10_object 29 = .ok (.iaload, 1) := by decide +kernel
theorem dX10_object_30 : decode cX10_object 30 = .ok (.istore_n 3, 1) := by decide +kernel
theorem dX10_object_31 : decode cX10_object 31 = .ok (.iload_n 3, 1) := by decide +kernel
theorem dX10_object_32 : decode cX10_object 32 = .ok (.iconst (-1), 1) := by decide +kernel
theorem dX10_object_33 : decode cX10_object 33 = .ok (.if_icmp .ne 6, 3) := by decide +kernel
theorem dX10_object_36 : decode cX10_object 36 = .ok (.bipush (-3), 2) := by decide +kernel
theorem dX10_object_38 : decode cX10_object 38 = .ok (.ireturn, 1) := by decide +kernel
theorem dX10_object_39 : decode cX10_object 39 = .ok (.iload_n 2, 1) := by decide +kernel
theorem dX10_object_40 : decode cX10_object 40 = .ok (.ifCond .ne 7, 3) := by decide +kernel
theorem dX10_object_43 : decode cX10_object 43 = .ok (.iload_n 3, 1) := by decide +kernel
theorem dX10_object_44 : decode cX10_object 44 = .ok (.goto 66, 3) := by decide +kernel
theorem dX10_object_47 : decode cX10_object 47 = .ok (.iload_n 2, 1) := by decide +kernel
theorem dX10_object_48 : decode cX10_object 48 = .ok (.iconst 1, 1) := by decide +kernel
theorem dX10_object_49 : decode cX10_object 49 = .ok (.if_icmp .ne 12, 3) := by decide +kernel
theorem dX10_object_52 : decode cX10_object 52 = .ok (.aload_n 0, 1) := by decide +kernel
theorem dX10_object_53 : decode cX10_object 53 = .ok (.getfield 7, 3) := by decide +kernel
theorem dX10_object_56 : decode cX10_object 56 = .ok (.iload_n 3, 1) := by decide +kernel
theorem dX10_object_57 : decode cX10_object 57 = .ok (.iaload, 1) := by decide +kernel
theorem dX10_object_58 : decode cX10_object 58 = .ok (.goto 52, 3) := by decide +kernel
theorem dX10_object_61 : decode cX10_object 61 = .ok (.iload_n 2, 1) := by decide +kernel
theorem dX10_object_62 : decode cX10_object 62 = .ok (.iconst 2, 1) := by decide +kernel
theorem dX10_object_63 : decode cX10_object 63 = .ok (.if_icmp .ne 12, 3) := by decide +kernel
theorem dX10_object_66 : decode cX10_object 66 = .ok (.aload_n 0, 1) := by decide +kernel
theorem dX10_object_67 : decode cX10_object 67 = .ok (.getfield 13, 3) := by decide +kernel
theorem dX10_object_70 : decode cX10_object 70 = .ok (.iload_n 3, 1) := by decide +kernel
theorem dX10_object_71 : decode cX10_object 71 = .ok (.iaload, 1) := by decide +kernel
theorem dX10_object_72 : decode cX10_object 72 = .ok (.goto 38, 3) := by decide +kernel
theorem dX10_object_75 : decode cX10_object 75 = .ok (.iload_n 2, 1) := by decide +kernel
theorem dX10_object_76 : decode cX10_object 76 = .ok (.iconst 3, 1) := by decide +kernel
theorem dX10_object_77 : decode cX10_object 77 = .ok (.if_icmp .ne 19, 3) := by decide +kernel
theorem dX10_object_80 : decode cX10_object 80 = .ok (.aload_n 0, 1) := by decide +kernel
theorem dX10_object_81 : decode cX10_object 81 = .ok (.iload_n 3, 1) := by decide +kernel
theorem dX10_object_82 : decode cX10_object 82 = .ok (.invokevirtual 74, 3) := by decide +kernel
theorem dX10_object_85 : decode cX10_object 85 = .ok (.ifCond .eq 7, 3) := by decide +kernel
theorem dX10_object_88 : decode cX10_object 88 = .ok (.iconst 1, 1) := by decide +kernel
theorem dX10_object_89 : decode cX10_object 89 = .ok (.goto 21, 3) := by decide +kernel
theorem dX10_object_92 : decode cX10_object 92 = .ok (.iconst 0, 1) := by decide +kernel
theorem dX10_object_93 : decode cX10_object 93 = .ok (.goto 17, 3) := by decide +kernel
theorem dX10_object_96 : decode cX10_object 96 = .ok (.aload_n 0, 1) := by decide +kernel
theorem dX10_object_97 : decode cX10_object 97 = .ok (.getfield 16, 3) := by decide +kernel
theorem dX10_object_100 : decode cX10_object 100 = .ok (.iload_n 3, 1) := by decide +kernel
theorem dX10_object_101 : decode cX10_object 101 = .ok (.baload, 1) := by decide +kernel
theorem dX10_object_102 : decode cX10_object 102 = .ok (.ifCond .eq 7, 3) := by decide +kernel
theorem dX10_object_105 : decode cX10_object 105 = .ok (.iconst 1, 1) := by decide +kernel
theorem dX10_object_106 : decode cX10_object 106 = .ok (.goto 4, 3) := by decide +kernel
theorem dX10_object_109 : decode cX10_object 109 = .ok (.iconst 0, 1) := by decide +kernel
theorem dX10_object_110 : decode cX10_object 110 = .ok (.ireturn, 1) := by decide +kernel
theorem dX10_at_0 : decode cX10_at 0 = .ok (.aload_n 0, 1) := by decide +kernel
theorem dX10_at_1 : decode cX10_at 1 = .ok (.iconst 0, 1) := by decide +kernel
theorem dX10_at_2 : decode cX10_at 2 = .ok (.putfield 48, 3) := by decide +kernel
theorem dX10_at_5 : decode cX10_at 5 = .ok (.iload_n 1, 1) := by decide +kernel
theorem dX10_at_6 : decode cX10_at 6 = .ok (.iconst 0, 1) := by decide +kernel
theorem dX10_at_7 : decode cX10_at 7 = .ok (.aload_n 0, 1) := by decide +kernel
theorem dX10_at_8 : decode cX10_at 8 = .ok (.getfield 45, 3) := by decide +kernel
theorem dX10_at_11 : decode cX10_at 11 = .ok (.iconst 1, 1) := by decide +kernel
theorem dX10_at_12 : decode cX10_at 12 = .ok (.isub, 1) := by decide +kernel
theorem dX10_at_13 : decode cX10_at 13 = .ok (.invokestatic 51, 3) := by decide +kernel
theorem dX10_at_16 : decode cX10_at 16 = .ok (.ifCond .eq 12, 3) := by decide +kernel
theorem dX10_at_19 : decode cX10_at 19 = .ok (.aload_n 0, 1) := by decide +kernel
theorem dX10_at_20 : decode cX10_at 20 = .ok (.getfield 29, 3) := by decide +kernel
theorem dX10_at_23 : decode cX10_at 23 = .ok (.iload_n 1, 1) := by decide +kernel
theorem dX10_at_24 : decode cX10_at 24 = .ok (.iaload, 1) := by decide +kernel
theorem dX10_at_25 : decode cX10_at 25 = .ok (.goto 5, 3) := by decide +kernel
theorem dX10_at_28 : decode cX10_at 28 = .ok (.bipush (-2), 2) := by decide +kernel
theorem dX10_at_30 : decode cX10_at 30 = .ok (.ireturn, 1) := by decide +kernel
theorem dX10_count_0 : decode cX10_count 0 = .ok (.aload_n 0, 1) := by decide +kernel
theorem dX10_count_1 : decode cX10_count 1 = .ok (.iconst 0, 1) := by decide +kernel
theorem dX10_count_2 : decode cX10_count 2 = .ok (.putfield 48, 3) := by decide +kernel
theorem dX10_count_5 : decode cX10_count 5 = .ok (.iconst 0, 1) := by decide +kernel
theorem dX10_count_6 : decode cX10_count 6 = .ok (.istore_n 2, 1) := by decide +kernel
theorem dX10_count_7 : decode cX10_count 7 = .ok (.iconst 0, 1) := by decide +kernel
theorem dX10_count_8 : decode cX10_count 8 = .ok (.istore_n 3, 1) := by decide +kernel
theorem dX10_count_9 : decode cX10_count 9 = .ok (.iconst 0, 1) := by decide +kernel
theorem dX10_count_10 : decode cX10_count 10 = .ok (.istore 4, 2) := by decide +kernel
theorem dX10_count_12 : decode cX10_count 12 = .ok (.iconst 0, 1) := by decide +kernel
theorem dX10_count_13 : decode cX10_count 13 = .ok (.istore 5, 2) := by decide +kernel
theorem dX10_count_15 : decode cX10_count 15 = .ok (.iload 5, 2) := by decide +kernel
theorem dX10_count_17 : decode cX10_count 17 = .ok (.aload_n 0, 1) := by decide +kernel
theorem dX10_count_18 : decode cX10_count 18 = .ok (.getfield 62, 3) := by decide +kernel
theorem dX10_count_21 : decode cX10_count 21 = .ok (.if_icmp .ge 55, 3) := by decide +kernel
theorem dX10_count_24 : decode cX10_count 24 = .ok (.aload_n 0, 1) := by decide +kernel
theorem dX10_count_25 : decode cX10_count 25 = .ok (.getfield 7, 3) := by decide +kernel
theorem dX10_count_28 : decode cX10_count 28 = .ok (.iload 5, 2) := by decide +kernel
theorem dX10_count_30 : decode cX10_count 30 = .ok (.iaload, 1) := by decide +kernel
theorem dX10_count_31 : decode cX10_count 31 = .ok (.iconst (-1), 1) := by decide +kernel
theorem dX10_count_32 : decode cX10_count 32 = .ok (.if_icmp .eq 38, 3) := by decide +kernel
theorem dX10_count_35 : decode cX10_count 35 = .ok (.iinc 2 1, 3) := by decide +kernel
theorem dX10_count_38 : decode cX10_count 38 = .ok (.iload_n 3, 1) := by decide +kernel
theorem dX10_count_39 : decode cX10_count 39 = .ok (.iconst 1, 1) := by decide +kernel
theorem dX10_count_40 : decode cX10_count 40 = .ok (.aload_n 0, 1) := by decide +kernel
theorem dX10_count_41 : decode cX10_count 41 = .ok (.getfield 13, 3) := by decide +kernel
theorem dX10_count_44 : decode cX10_count 44 = .ok (.iload 5, 2) := by decide +kernel
theorem dX10_count_46 : decode cX10_count 46 = .ok (.iaload, 1) := by decide +kernel
theorem dX10_count_47 : decode cX10_count 47 = .ok (.iadd, 1) := by decide +kernel
theorem dX10_count_48 : decode cX10_count 48 = .ok (.iadd, 1) := by decide +kernel
theorem dX10_count_49 : decode cX10_count 49 = .ok (.istore_n 3, 1) := by decide +kernel
theorem dX10_count_50 : decode cX10_count 50 = .ok (.iload 4, 2) := by decide +kernel
theorem dX10_count_52 : decode cX10_count 52 = .ok (.aload_n 0, 1) := by decide +kernel
theorem dX10_count_53 : decode cX10_count 53 = .ok (.getfield 16, 3) := by decide +kernel
theorem dX10_count_56 : decode cX10_count 56 = .ok (.iload 5, 2) := by decide +kernel
theorem dX10_count_58 : decode cX10_count 58 = .ok (.baload, 1) := by decide +kernel
theorem dX10_count_59 : decode cX10_count 59 = .ok (.ifCond .eq 7, 3) := by decide +kernel
theorem dX10_count_62 : decode cX10_count 62 = .ok (.iconst 1, 1) := by decide +kernel
theorem dX10_count_63 : decode cX10_count 63 = .ok (.goto 4, 3) := by decide +kernel
theorem dX10_count_66 : decode cX10_count 66 = .ok (.iconst 0, 1) := by decide +kernel
theorem dX10_count_67 : decode cX10_count 67 = .ok (.iadd, 1) := by decide +kernel
theorem dX10_count_68 : decode cX10_count 68 = .ok (.istore 4, 2) := by decide +kernel
theorem dX10_count_70 : decode cX10_count 70 = .ok (.iinc 5 1, 3) := by decide +kernel
theorem dX10_count_73 : decode cX10_count 73 = .ok (.goto (-58), 3) := by decide +kernel
theorem dX10_count_76 : decode cX10_count 76 = .ok (.iload_n 1, 1) := by decide +kernel
theorem dX10_count_77 : decode cX10_count 77 = .ok (.tableswitch 92 0 8 #[51, 53, 55, 60, 65, 70, 75, 78, 87], 51) := by decide +kernel
theorem dX10_count_128 : decode cX10_count 128 = .ok (.iload_n 2, 1) := by decide +kernel
theorem dX10_count_129 : decode cX10_count 129 = .ok (.ireturn, 1) := by decide +kernel
theorem dX10_count_130 : decode cX10_count 130 = .ok (.iload_n 3, 1) := by decide +kernel
theorem dX10_count_131 : decode cX10_count 131 = .ok (.ireturn, 1) := by decide +kernel
theorem dX10_count_132 : decode cX10_count 132 = .ok (.aload_n 0, 1) := by decide +kernel
theorem dX10_count_133 : decode cX10_count 133 = .ok (.getfield 62, 3) := by decide +kernel
theorem dX10_count_136 : decode cX10_count 136 = .ok (.ireturn, 1) := by decide +kernel
theorem dX10_count_137 : decode cX10_count 137 = .ok (.aload_n 0, 1) := by decide +kernel
theorem dX10_count_138 : decode cX10_count 138 = .ok (.getfield 114, 3) := by decide +kernel
theorem dX10_count_141 : decode cX10_count 141 = .ok (.ireturn, 1) := by decide +kernel
theorem dX10_count_142 : decode cX10_count 142 = .ok (.aload_n 0, 1) := by decide +kernel
theorem dX10_count_143 : decode cX10_count 143 = .ok (.getfield 111, 3) := by decide +kernel
theorem dX10_count_146 : decode cX10_count 146 = .ok (.ireturn, 1) := by decide +kernel
theorem dX10_count_147 : decode cX10_count 147 = .ok (.aload_n 0, 1) := by decide +kernel
theorem dX10_count_148 : decode cX10_count 148 = .ok (.getfield 98, 3) := by decide +kernel
theorem dX10_count_151 : decode cX10_count 151 = .ok (.ireturn, 1) := by decide +kernel
theorem dX10_count_152 : decode cX10_count 152 = .ok (.iload 4, 2) := by decide +kernel
theorem dX10_count_154 : decode cX10_count 154 = .ok (.ireturn, 1) := by decide +kernel
theorem dX10_count_155 : decode cX10_count 155 = .ok (.aload_n 0, 1) := by decide +kernel
theorem dX10_count_156 : decode cX10_count 156 = .ok (.invokevirtual 81, 3) := by decide +kernel
theorem dX10_count_159 : decode cX10_count 159 = .ok (.aload_n 0, 1) := by decide +kernel
theorem dX10_count_160 : decode cX10_count 160 = .ok (.getfield 59, 3) := by decide +kernel
theorem dX10_count_163 : decode cX10_count 163 = .ok (.ireturn, 1) := by decide +kernel
theorem dX10_count_164 : decode cX10_count 164 = .ok (.aload_n 0, 1) := by decide +kernel
theorem dX10_count_165 : decode cX10_count 165 = .ok (.getfield 45, 3) := by decide +kernel
theorem dX10_count_168 : decode cX10_count 168 = .ok (.ireturn, 1) := by decide +kernel
theorem dX10_count_169 : decode cX10_count 169 = .ok (.bipush (-2), 2) := by decide +kernel
theorem dX10_count_171 : decode cX10_count 171 = .ok (.ireturn, 1) := by decide +kernel
theorem dX10_same_0 : decode cX10_same 0 = .ok (.aload_n 0, 1) := by decide +kernel
theorem dX10_same_1 : decode cX10_same 1 = .ok (.iconst 0, 1) := by decide +kernel
theorem dX10_same_2 : decode cX10_same 2 = .ok (.putfield 48, 3) := by decide +kernel
theorem dX10_same_5 : decode cX10_same 5 = .ok (.iload_n 1, 1) := by decide +kernel
theorem dX10_same_6 : decode cX10_same 6 = .ok (.invokestatic 124, 3) := by decide +kernel
theorem dX10_same_9 : decode cX10_same 9 = .ok (.ifCond .eq 10, 3) := by decide +kernel
theorem dX10_same_12 : decode cX10_same 12 = .ok (.iload_n 2, 1) := by decide +kernel
theorem dX10_same_13 : decode cX10_same 13 = .ok (.invokestatic 124, 3) := by decide +kernel
theorem dX10_same_16 : decode cX10_same 16 = .ok (.ifCond .ne 8, 3) := by decide +kernel
theorem dX10_same_19 : decode cX10_same 19 = .ok (.bipush (-2), 2) := by decide +kernel
theorem dX10_same_21 : decode cX10_same 21 = .ok (.goto 23, 3) := by decide +kernel
theorem dX10_same_24 : decode cX10_same 24 = .ok (.aload_n 0, 1) := by decide +kernel
theorem dX10_same_25 : decode cX10_same 25 = .ok (.getfield 26, 3) := by decide +kernel
theorem dX10_same_28 : decode cX10_same 28 = .ok (.iload_n 1, 1) := by decide +kernel
theorem dX10_same_29 : decode cX10_same 29 = .ok (.iaload, 1) := by decide +kernel
theorem dX10_same_30 : decode cX10_same 30 = .ok (.aload_n 0, 1) := by decide +kernel
theorem dX10_same_31 : decode cX10_same 31 = .ok (.getfield 26, 3) := by decide +kernel
theorem dX10_same_34 : decode cX10_same 34 = .ok (.iload_n 2, 1) := by decide +kernel
theorem dX10_same_35 : decode cX10_same 35 = .ok (.iaload, 1) := by decide +kernel
theorem dX10_same_36 : decode cX10_same 36 = .ok (.if_icmp .ne 7, 3) := by decide +kernel
theorem dX10_same_39 : decode cX10_same 39 = .ok (.iconst 1, 1) := by decide +kernel
theorem dX10_same_40 : decode cX10_same 40 = .ok (.goto 4, 3) := by decide +kernel
theorem dX10_same_43 : decode cX10_same 43 = .ok (.iconst 0, 1) := by decide +kernel
theorem dX10_same_44 : decode cX10_same 44 = .ok (.ireturn, 1) := by decide +kernel
theorem dX10_sum_0 : decode cX10_sum 0 = .ok (.aload_n 0, 1) := by decide +kernel
theorem dX10_sum_1 : decode cX10_sum 1 = .ok (.iconst 0, 1) := by decide +kernel
theorem dX10_sum_2 : decode cX10_sum 2 = .ok (.putfield 48, 3) := by decide +kernel
theorem dX10_sum_5 : decode cX10_sum 5 = .ok (.iload_n 1, 1) := by decide +kernel
theorem dX10_sum_6 : decode cX10_sum 6 = .ok (.invokestatic 124, 3) := by decide +kernel
theorem dX10_sum_9 : decode cX10_sum 9 = .ok (.ifCond .ne 7, 3) := by decide +kernel
theorem dX10_sum_12 : decode cX10_sum 12 = .ok (.ldc2_w 137, 3) := by decide +kernel
theorem dX10_sum_15 : decode cX10_sum 15 = .ok (.lreturn, 1) := by decide +kernel
theorem dX10_sum_16 : decode cX10_sum 16 = .ok (.aload_n 0, 1) := by decide +kernel
theorem dX10_sum_17 : decode cX10_sum 17 = .ok (.getfield 26, 3) := by decide +kernel
theorem dX10_sum_20 : decode cX10_sum 20 = .ok (.iload_n 1, 1) := by decide +kernel
theorem dX10_sum_21 : decode cX10_sum 21 = .ok (.iaload, 1) := by decide +kernel
theorem dX10_sum_22 : decode cX10_sum 22 = .ok (.iconst (-1), 1) := by decide +kernel
theorem dX10_sum_23 : decode cX10_sum 23 = .ok (.if_icmp .ne 5, 3) := by decide +kernel
theorem dX10_sum_26 : decode cX10_sum 26 = .ok (.lconst 0, 1) := by decide +kernel
theorem dX10_sum_27 : decode cX10_sum 27 = .ok (.lreturn, 1) := by decide +kernel
theorem dX10_sum_28 : decode cX10_sum 28 = .ok (.aload_n 0, 1) := by decide +kernel
theorem dX10_sum_29 : decode cX10_sum 29 = .ok (.invokevirtual 68, 3) := by decide +kernel
theorem dX10_sum_32 : decode cX10_sum 32 = .ok (.aload_n 0, 1) := by decide +kernel
theorem dX10_sum_33 : decode cX10_sum 33 = .ok (.aload_n 0, 1) := by decide +kernel
theorem dX10_sum_34 : decode cX10_sum 34 = .ok (.getfield 26, 3) := by decide +kernel
theorem dX10_sum_37 : decode cX10_sum 37 = .ok (.iload_n 1, 1) := by decide +kernel
theorem dX10_sum_38 : decode cX10_sum 38 = .ok (.iaload, 1) := by decide +kernel
theorem dX10_sum_39 : decode cX10_sum 39 = .ok (.invokevirtual 65, 3) := by decide +kernel
theorem dX10_sum_42 : decode cX10_sum 42 = .ok (.aload_n 0, 1) := by decide +kernel
theorem dX10_sum_43 : decode cX10_sum 43 = .ok (.invokevirtual 71, 3) := by decide +kernel
theorem dX10_sum_46 : decode cX10_sum 46 = .ok (.ldc2_w 139, 3) := by decide +kernel
theorem dX10_sum_49 : decode cX10_sum 49 = .ok (.lstore_n 2, 1) := by decide +kernel
theorem dX10_sum_50 : decode cX10_sum 50 = .ok (.iconst 0, 1) := by decide +kernel
theorem dX10_sum_51 : decode cX10_sum 51 = .ok (.istore 4, 2) := by decide +kernel
theorem dX10_sum_53 : decode cX10_sum 53 = .ok (.iload 4, 2) := by decide +kernel
theorem dX10_sum_55 : decode cX10_sum 55 = .ok (.aload_n 0, 1) := by decide +kernel
theorem dX10_sum_56 : decode cX10_sum 56 = .ok (.getfield 59, 3) := by decide +kernel
theorem dX10_sum_59 : decode cX10_sum 59 = .ok (.if_icmp .ge 117, 3) := by decide +kernel
theorem dX10_sum_62 : decode cX10_sum 62 = .ok (.aload_n 0, 1) := by decide +kernel
theorem dX10_sum_63 : decode cX10_sum 63 = .ok (.getfield 32, 3) := by decide +kernel
theorem dX10_sum_66 : decode cX10_sum 66 = .ok (.iload 4, 2) := by decide +kernel
theorem dX10_sum_68 : decode cX10_sum 68 = .ok (.iaload, 1) := by decide +kernel
theorem dX10_sum_69 : decode cX10_sum 69 = .ok (.istore 5, 2) := by decide +kernel
theorem dX10_sum_71 : decode cX10_sum 71 = .ok (.ldc2_w 141, 3) := by decide +kernel
theorem dX10_sum_74 : decode cX10_sum 74 = .ok (.lload_n 2, 1) := by decide +kernel
theorem dX10_sum_75 : decode cX10_sum 75 = .ok (.lmul, 1) := by decide +kernel
theorem dX10_sum_76 : decode cX10_sum 76 = .ok (.aload_n 0, 1) := by decide +kernel
theorem dX10_sum_77 : decode cX10_sum 77 = .ok (.getfield 13, 3) := by decide +kernel
theorem dX10_sum_80 : decode cX10_sum 80 = .ok (.iload 5, 2) := by decide +kernel
theorem dX10_sum_82 : decode cX10_sum 82 = .ok (.iaload, 1) := by decide +kernel
theorem dX10_sum_83 : decode cX10_sum 83 = .ok (.i2l, 1) := by decide +kernel
theorem dX10_sum_84 : decode cX10_sum 84 = .ok (.ladd, 1) := by decide +kernel
theorem dX10_sum_85 : decode cX10_sum 85 = .ok (.lstore_n 2, 1) := by decide +kernel
theorem dX10_sum_86 : decode cX10_sum 86 = .ok (.iconst 0, 1) := by decide +kernel
theorem dX10_sum_87 : decode cX10_sum 87 = .ok (.istore 6, 2) := by decide +kernel
theorem dX10_sum_89 : decode cX10_sum 89 = .ok (.iload 6, 2) := by decide +kernel
theorem dX10_sum_91 : decode cX10_sum 91 = .ok (.aload_n 0, 1) := by decide +kernel
theorem dX10_sum_92 : decode cX10_sum 92 = .ok (.getfield 13, 3) := by decide +kernel
theorem dX10_sum_95 : decode cX10_sum 95 = .ok (.iload 5, 2) := by decide +kernel
theorem dX10_sum_97 : decode cX10_sum 97 = .ok (.iaload, 1) := by decide +kernel
theorem dX10_sum_98 : decode cX10_sum 98 = .ok (.if_icmp .ge 72, 3) := by decide +kernel
theorem dX10_sum_101 : decode cX10_sum 101 = .ok (.aload_n 0, 1) := by decide +kernel
theorem dX10_sum_102 : decode cX10_sum 102 = .ok (.getfield 23, 3) := by decide +kernel
theorem dX10_sum_105 : decode cX10_sum 105 = .ok (.bipush 6, 2) := by decide +kernel
theorem dX10_sum_107 : decode cX10_sum 107 = .ok (.iload 5, 2) := by decide +kernel
theorem dX10_sum_109 : decode cX10_sum 109 = .ok (.imul, 1) := by decide +kernel
theorem dX10_sum_110 : decode cX10_sum 110 = .ok (.iload 6, 2) := by decide +kernel
theorem dX10_sum_112 : decode cX10_sum 112 = .ok (.iadd, 1) := by decide +kernel
theorem dX10_sum_113 : decode cX10_sum 113 = .ok (.iaload, 1) := by decide +kernel
theorem dX10_sum_114 : decode cX10_sum 114 = .ok (.istore 7, 2) := by decide +kernel
theorem dX10_sum_116 : decode cX10_sum 116 = .ok (.ldc2_w 141, 3) := by decide +kernel
theorem dX10_sum_119 : decode cX10_sum 119 = .ok (.lload_n 2, 1) := by decide +kernel
theorem dX10_sum_120 : decode cX10_sum 120 = .ok (.lmul, 1) := by decide +kernel
theorem dX10_sum_121 : decode cX10_sum 121 = .ok (.iload 7, 2) := by decide +kernel
theorem dX10_sum_123 : decode cX10_sum 123 = .ok (.iconst (-1), 1) := by decide +kernel
theorem dX10_sum_124 : decode cX10_sum 124 = .ok (.if_icmp .ne 24, 3) := by decide +kernel
theorem dX10_sum_127 : decode cX10_sum 127 = .ok (.ldc2_w 143, 3) := by decide +kernel
theorem dX10_sum_130 : decode cX10_sum 130 = .ok (.aload_n 0, 1) := by decide +kernel
theorem dX10_sum_131 : decode cX10_sum 131 = .ok (.getfield 20, 3) := by decide +kernel
theorem dX10_sum_134 : decode cX10_sum 134 = .ok (.bipush 6, 2) := by decide +kernel
theorem dX10_sum_136 : decode cX10_sum 136 = .ok (.iload 5, 2) := by decide +kernel
theorem dX10_sum_138 : decode cX10_sum 138 = .ok (.imul, 1) := by decide +kernel
theorem dX10_sum_139 : decode cX10_sum 139 = .ok (.iload 6, 2) := by decide +kernel
theorem dX10_sum_141 : decode cX10_sum 141 = .ok (.iadd, 1) := by decide +kernel
theorem dX10_sum_142 : decode cX10_sum 142 = .ok (.iaload, 1) := by decide +kernel
theorem dX10_sum_143 : decode cX10_sum 143 = .ok (.i2l, 1) := by decide +kernel
theorem dX10_sum_144 : decode cX10_sum 144 = .ok (.lmul, 1) := by decide +kernel
theorem dX10_sum_145 : decode cX10_sum 145 = .ok (.goto 17, 3) := by decide +kernel
theorem dX10_sum_148 : decode cX10_sum 148 = .ok (.ldc2_w 143, 3) := by decide +kernel
theorem dX10_sum_151 : decode cX10_sum 151 = .ok (.aload_n 0, 1) := by decide +kernel
theorem dX10_sum_152 : decode cX10_sum 152 = .ok (.getfield 35, 3) := by decide +kernel
theorem dX10_sum_155 : decode cX10_sum 155 = .ok (.iload 7, 2) := by decide +kernel
theorem dX10_sum_157 : decode cX10_sum 157 = .ok (.iaload, 1) := by decide +kernel
theorem dX10_sum_158 : decode cX10_sum 158 = .ok (.i2l, 1) := by decide +kernel
theorem dX10_sum_159 : decode cX10_sum 159 = .ok (.lmul, 1) := by decide +kernel
theorem dX10_sum_160 : decode cX10_sum 160 = .ok (.lconst 1, 1) := by decide +kernel
theorem dX10_sum_161 : decode cX10_sum 161 = .ok (.ladd, 1) := by decide +kernel
theorem dX10_sum_162 : decode cX10_sum 162 = .ok (.ladd, 1) := by decide +kernel
theorem dX10_sum_163 : decode cX10_sum 163 = .ok (.lstore_n 2, 1) := by decide +kernel
theorem dX10_sum_164 : decode cX10_sum 164 = .ok (.iinc 6 1, 3) := by decide +kernel
theorem dX10_sum_167 : decode cX10_sum 167 = .ok (.goto (-78), 3) := by decide +kernel
theorem dX10_sum_170 : decode cX10_sum 170 = .ok (.iinc 4 1, 3) := by decide +kernel
theorem dX10_sum_173 : decode cX10_sum 173 = .ok (.goto (-120), 3) := by decide +kernel
theorem dX10_sum_176 : decode cX10_sum 176 = .ok (.lload_n 2, 1) := by decide +kernel
theorem dX10_sum_177 : decode cX10_sum 177 = .ok (.lreturn, 1) := by decide +kernel
theorem dL_cell_0 : decode cL_cell 0 = .ok (.iload_n 1, 1) := by decide +kernel
theorem dL_cell_1 : decode cL_cell 1 = .ok (.aload_n 0, 1) := by decide +kernel
theorem dL_cell_2 : decode cL_cell 2 = .ok (.arraylength, 1) := by decide +kernel
theorem dL_cell_3 : decode cL_cell 3 = .ok (.if_icmp .ge 9, 3) := by decide +kernel
theorem dL_cell_6 : decode cL_cell 6 = .ok (.aload_n 0, 1) := by decide +kernel
theorem dL_cell_7 : decode cL_cell 7 = .ok (.iload_n 1, 1) := by decide +kernel
theorem dL_cell_8 : decode cL_cell 8 = .ok (.iaload, 1) := by decide +kernel
theorem dL_cell_9 : decode cL_cell 9 = .ok (.goto 4, 3) := by decide +kernel
theorem dL_cell_12 : decode cL_cell 12 = .ok (.iconst 0, 1) := by decide +kernel
theorem dL_cell_13 : decode cL_cell 13 = .ok (.ireturn, 1) := by decide +kernel
theorem dL_law_0 : decode cL_law 0 = .ok (.new 7, 3) := by decide +kernel
theorem dL_law_3 : decode cL_law 3 = .ok (.dup, 1) := by decide +kernel
theorem dL_law_4 : decode cL_law 4 = .ok (.aload_n 0, 1) := by decide +kernel
theorem dL_law_5 : decode cL_law 5 = .ok (.iconst 0, 1) := by decide +kernel
theorem dL_law_6 : decode cL_law 6 = .ok (.invokestatic 9, 3) := by decide +kernel
theorem dL_law_9 : decode cL_law 9 = .ok (.aload_n 0, 1) := by decide +kernel
theorem dL_law_10 : decode cL_law 10 = .ok (.iconst 1, 1) := by decide +kernel
theorem dL_law_11 : decode cL_law 11 = .ok (.invokestatic 9, 3) := by decide +kernel
theorem dL_law_14 : decode cL_law 14 = .ok (.invokespecial 15, 3) := by decide +kernel
theorem dL_law_17 : decode cL_law 17 = .ok (.astore_n 1, 1) := by decide +kernel
theorem dL_law_18 : decode cL_law 18 = .ok (.new 18, 3) := by decide +kernel
theorem dL_law_21 : decode cL_law 21 = .ok (.dup, 1) := by decide +kernel
theorem dL_law_22 : decode cL_law 22 = .ok (.aload_n 0, 1) := by decide +kernel
theorem dL_law_23 : decode cL_law 23 = .ok (.iconst 0, 1) := by decide +kernel
theorem dL_law_24 : decode cL_law 24 = .ok (.invokestatic 9, 3) := by decide +kernel
theorem dL_law_27 : decode cL_law 27 = .ok (.aload_n 0, 1) := by decide +kernel
theorem dL_law_28 : decode cL_law 28 = .ok (.iconst 1, 1) := by decide +kernel
theorem dL_law_29 : decode cL_law 29 = .ok (.invokestatic 9, 3) := by decide +kernel
theorem dL_law_32 : decode cL_law 32 = .ok (.invokespecial 20, 3) := by decide +kernel
theorem dL_law_35 : decode cL_law 35 = .ok (.astore_n 2, 1) := by decide +kernel
theorem dL_law_36 : decode cL_law 36 = .ok (.iconst 2, 1) := by decide +kernel
theorem dL_law_37 : decode cL_law 37 = .ok (.istore_n 3, 1) := by decide +kernel
theorem dL_law_38 : decode cL_law 38 = .ok (.iload_n 3, 1) := by decide +kernel
theorem dL_law_39 : decode cL_law 39 = .ok (.aload_n 0, 1) := by decide +kernel
theorem dL_law_40 : decode cL_law 40 = .ok (.arraylength, 1) := by decide +kernel
theorem dL_law_41 : decode cL_law 41 = .ok (.iconst 4, 1) := by decide +kernel
theorem dL_law_42 : decode cL_law 42 = .ok (.isub, 1) := by decide +kernel
theorem dL_law_43 : decode cL_law 43 = .ok (.if_icmp .gt 537, 3) := by decide +kernel
theorem dL_law_46 : decode cL_law 46 = .ok (.aload_n 0, 1) := by decide +kernel
theorem dL_law_47 : decode cL_law 47 = .ok (.iload_n 3, 1) := by decide +kernel
theorem dL_law_48 : decode cL_law 48 = .ok (.iaload, 1) := by decide +kernel
theorem dL_law_49 : decode cL_law 49 = .ok (.bipush 15, 2) := by decide +kernel
theorem dL_law_51 : decode cL_law 51 = .ok (.iand, 1) := by decide +kernel
theorem dL_law_52 : decode cL_law 52 = .ok (.tableswitch 522 0 14 #[76, 109, 152, 195, 228, 261, 304, 337, 360, 373, 386, 419, 442, 465, 498], 76) := by decide +kernel
theorem dL_law_128 : decode cL_law 128 = .ok (.aload_n 1, 1) := by decide +kernel
theorem dL_law_129 : decode cL_law 129 = .ok (.aload_n 0, 1) := by decide +kernel
theorem dL_law_130 : decode cL_law 130 = .ok (.iload_n 3, 1) := by decide +kernel
theorem dL_law_131 : decode cL_law 131 = .ok (.iconst 1, 1) := by decide +kernel
theorem dL_law_132 : decode cL_law 132 = .ok (.iadd, 1) := by decide +kernel
theorem dL_law_133 : decode cL_law 133 = .ok (.iaload, 1) := by decide +kernel
theorem dL_law_134 : decode cL_law 134 = .ok (.aload_n 0, 1) := by decide +kernel
theorem dL_law_135 : decode cL_law 135 = .ok (.iload_n 3, 1) := by decide +kernel
theorem dL_law_136 : decode cL_law 136 = .ok (.iconst 2, 1) := by decide +kernel
theorem dL_law_137 : decode cL_law 137 = .ok (.iadd, 1) := by decide +kernel
theorem dL_law_138 : decode cL_law 138 = .ok (.iaload, 1) := by decide +kernel
theorem dL_law_139 : decode cL_law 139 = .ok (.invokevirtual 21, 3) := by decide +kernel
theorem dL_law_142 : decode cL_law 142 = .ok (.aload_n 2, 1) := by decide +kernel
theorem dL_law_143 : decode cL_law 143 = .ok (.aload_n 0, 1) := by decide +kernel
theorem dL_law_144 : decode cL_law 144 = .ok (.iload_n 3, 1) := by decide +kernel
theorem dL_law_145 : decode cL_law 145 = .ok (.iconst 1, 1) := by decide +kernel
theorem dL_law_146 : decode cL_law 146 = .ok (.iadd, 1) := by decide +kernel
theorem dL_law_147 : decode cL_law 147 = .ok (.iaload, 1) := by decide +kernel
theorem dL_law_148 : decode cL_law 148 = .ok (.aload_n 0, 1) := by decide +kernel
theorem dL_law_149 : decode cL_law 149 = .ok (.iload_n 3, 1) := by decide +kernel
theorem dL_law_150 : decode cL_law 150 = .ok (.iconst 2, 1) := by decide +kernel
theorem dL_law_151 : decode cL_law 151 = .ok (.iadd, 1) := by decide +kernel
theorem dL_law_152 : decode cL_law 152 = .ok (.iaload, 1) := by decide +kernel
theorem dL_law_153 : decode cL_law 153 = .ok (.invokevirtual 25, 3) := by decide +kernel
theorem dL_law_156 : decode cL_law 156 = .ok (.if_icmp .eq 418, 3) := by decide +kernel
theorem dL_law_159 : decode cL_law 159 = .ok (.iconst 0, 1) := by decide +kernel
theorem dL_law_160 : decode cL_law 160 = .ok (.ireturn, 1) := by decide +kernel
theorem dL_law_161 : decode cL_law 161 = .ok (.aload_n 1, 1) := by decide +kernel
theorem dL_law_162 : decode cL_law 162 = .ok (.aload_n 0, 1) := by decide +kernel
theorem dL_law_163 : decode cL_law 163 = .ok (.iload_n 3, 1) := by decide +kernel
theorem dL_law_164 : decode cL_law 164 = .ok (.iconst 1, 1) := by decide +kernel
theorem dL_law_165 : decode cL_law 165 = .ok (.iadd, 1) := by decide +kernel
theorem dL_law_166 : decode cL_law 166 = .ok (.iaload, 1) := by decide +kernel
theorem dL_law_167 : decode cL_law 167 = .ok (.aload_n 0, 1) := by decide +kernel
theorem dL_law_168 : decode cL_law 168 = .ok (.iload_n 3, 1) := by decide +kernel
theorem dL_law_169 : decode cL_law 169 = .ok (.iconst 2, 1) := by decide +kernel
theorem dL_law_170 : decode cL_law 170 = .ok (.iadd, 1) := by decide +kernel
theorem dL_law_171 : decode cL_law 171 = .ok (.iaload, 1) := by decide +kernel
theorem dL_law_172 : decode cL_law 172 = .ok (.aload_n 0, 1) := by decide +kernel
theorem dL_law_173 : decode cL_law 173 = .ok (.iload_n 3, 1) := by decide +kernel
theorem dL_law_174 : decode cL_law 174 = .ok (.iconst 3, 1) := by decide +kernel
theorem dL_law_175 : decode cL_law 175 = .ok (.iadd, 1) := by decide +kernel
theorem dL_law_176 : decode cL_law 176 = .ok (.iaload, 1) := by decide +kernel
theorem dL_law_177 : decode cL_law 177 = .ok (.invokevirtual 26, 3) := by decide +kernel
theorem dL_law_180 : decode cL_law 180 = .ok (.aload_n 2, 1) := by decide +kernel
theorem dL_law_181 : decode cL_law 181 = .ok (.aload_n 0, 1) := by decide +kernel
theorem dL_law_182 : decode cL_law 182 = .ok (.iload_n 3, 1) := by decide +kernel
theorem dL_law_183 : decode cL_law 183 = .ok (.iconst 1, 1) := by decide +kernel
theorem dL_law_184 : decode cL_law 184 = .ok (.iadd, 1) := by decide +kernel
theorem dL_law_185 : decode cL_law 185 = .ok (.iaload, 1) := by decide +kernel
theorem dL_law_186 : decode cL_law 186 = .ok (.aload_n 0, 1) := by decide +kernel
theorem dL_law_187 : decode cL_law 187 = .ok (.iload_n 3, 1) := by decide +kernel
theorem dL_law_188 : decode cL_law 188 = .ok (.iconst 2, 1) := by decide +kernel
theorem dL_law_189 : decode cL_law 189 = .ok (.iadd, 1) := by decide +kernel
theorem dL_law_190 : decode cL_law 190 = .ok (.iaload, 1) := by decide +kernel
theorem dL_law_191 : decode cL_law 191 = .ok (.aload_n 0, 1) := by decide +kernel
theorem dL_law_192 : decode cL_law 192 = .ok (.iload_n 3, 1) := by decide +kernel
theorem dL_law_193 : decode cL_law 193 = .ok (.iconst 3, 1) := by decide +kernel
theorem dL_law_194 : decode cL_law 194 = .ok (.iadd, 1) := by decide +kernel
theorem dL_law_195 : decode cL_law 195 = .ok (.iaload, 1) := by decide +kernel
theorem dL_law_196 : decode cL_law 196 = .ok (.invokevirtual 30, 3) := by decide +kernel
theorem dL_law_199 : decode cL_law 199 = .ok (.if_icmp .eq 375, 3) := by decide +kernel
theorem dL_law_202 : decode cL_law 202 = .ok (.iconst 0, 1) := by decide +kernel
theorem dL_law_203 : decode cL_law 203 = .ok (.ireturn, 1) := by decide +kernel
theorem dL_law_204 : decode cL_law 204 = .ok (.aload_n 1, 1) := by decide +kernel
theorem dL_law_205 : decode cL_law 205 = .ok (.aload_n 0, 1) := by decide +kernel
theorem dL_law_206 : decode cL_law 206 = .ok (.iload_n 3, 1) := by decide +kernel
theorem dL_law_207 : decode cL_law 207 = .ok (.iconst 1, 1) := by decide +kernel
theorem dL_law_208 : decode cL_law 208 = .ok (.iadd, 1) := by decide +kernel
theorem dL_law_209 : decode cL_law 209 = .ok (.iaload, 1) := by decide +kernel
theorem dL_law_210 : decode cL_law 210 = .ok (.aload_n 0, 1) := by decide +kernel
theorem dL_law_211 : decode cL_law 211 = .ok (.iload_n 3, 1) := by decide +kernel
theorem dL_law_212 : decode cL_law 212 = .ok (.iconst 2, 1) := by decide +kernel
theorem dL_law_213 : decode cL_law 213 = .ok (.iadd, 1) := by decide +kernel
theorem dL_law_214 : decode cL_law 214 = .ok (.iaload, 1) := by decide +kernel
theorem dL_law_215 : decode cL_law 215 = .ok (.aload_n 0, 1) := by decide +kernel
theorem dL_law_216 : decode cL_law 216 = .ok (.iload_n 3, 1) := by decide +kernel
theorem dL_law_217 : decode cL_law 217 = .ok (.iconst 3, 1) := by decide +kernel
theorem dL_law_218 : decode cL_law 218 = .ok (.iadd, 1) := by decide +kernel
theorem dL_law_219 : decode cL_law 219 = .ok (.iaload, 1) := by decide +kernel
theorem dL_law_220 : decode cL_law 220 = .ok (.invokevirtual 31, 3) := by decide +kernel
theorem dL_law_223 : decode cL_law 223 = .ok (.aload_n 2, 1) := by decide +kernel
theorem dL_law_224 : decode cL_law 224 = .ok (.aload_n 0, 1) := by decide +kernel
theorem dL_law_225 : decode cL_law 225 = .ok (.iload_n 3, 1) := by decide +kernel
theorem dL_law_226 : decode cL_law 226 = .ok (.iconst 1, 1) := by decide +kernel
theorem dL_law_227 : decode cL_law 227 = .ok (.iadd, 1) := by decide +kernel
theorem dL_law_228 : decode cL_law 228 = .ok (.iaload, 1) := by decide +kernel
theorem dL_law_229 : decode cL_law 229 = .ok (.aload_n 0, 1) := by decide +kernel
theorem dL_law_230 : decode cL_law 230 = .ok (.iload_n 3, 1) := by decide +kernel
theorem dL_law_231 : decode cL_law 231 = .ok (.iconst 2, 1) := by decide +kernel
theorem dL_law_232 : decode cL_law 232 = .ok (.iadd, 1) := by decide +kernel
theorem dL_law_233 : decode cL_law 233 = .ok (.iaload, 1) := by decide +kernel
theorem dL_law_234 : decode cL_law 234 = .ok (.aload_n 0, 1) := by decide +kernel
theorem dL_law_235 : decode cL_law 235 = .ok (.iload_n 3, 1) := by decide +kernel
theorem dL_law_236 : decode cL_law 236 = .ok (.iconst 3, 1) := by decide +kernel
theorem dL_law_237 : decode cL_law 237 = .ok (.iadd, 1) := by decide +kernel
theorem dL_law_238 : decode cL_law 238 = .ok (.iaload, 1) := by decide +kernel
theorem dL_law_239 : decode cL_law 239 = .ok (.invokevirtual 34, 3) := by decide +kernel
theorem dL_law_242 : decode cL_law 242 = .ok (.if_icmp .eq 332, 3) := by decide +kernel
theorem dL_law_245 : decode cL_law 245 = .ok (.iconst 0, 1) := by decide +kernel
theorem dL_law_246 : decode cL_law 246 = .ok (.ireturn, 1) := by decide +kernel
theorem dL_law_247 : decode cL_law 247 = .ok (.aload_n 1, 1) := by decide +kernel
theorem dL_law_248 : decode cL_law 248 = .ok (.aload_n 0, 1) := by decide +kernel
theorem dL_law_249 : decode cL_law 249 = .ok (.iload_n 3, 1) := by decide +kernel
theorem dL_law_250 : decode cL_law 250 = .ok (.iconst 1, 1) := by decide +kernel
theorem dL_law_251 : decode cL_law 251 = .ok (.iadd, 1) := by decide +kernel
theorem dL_law_252 : decode cL_law 252 = .ok (.iaload, 1) := by decide +kernel
theorem dL_law_253 : decode cL_law 253 = .ok (.aload_n 0, 1) := by decide +kernel
theorem dL_law_254 : decode cL_law 254 = .ok (.iload_n 3, 1) := by decide +kernel
theorem dL_law_255 : decode cL_law 255 = .ok (.iconst 2, 1) := by decide +kernel
theorem dL_law_256 : decode cL_law 256 = .ok (.iadd, 1) := by decide +kernel
theorem dL_law_257 : decode cL_law 257 = .ok (.iaload, 1) := by decide +kernel
theorem dL_law_258 : decode cL_law 258 = .ok (.invokevirtual 35, 3) := by decide +kernel
theorem dL_law_261 : decode cL_law 261 = .ok (.aload_n 2, 1) := by decide +kernel
theorem dL_law_262 : decode cL_law 262 = .ok (.aload_n 0, 1) := by decide +kernel
theorem dL_law_263 : decode cL_law 263 = .ok (.iload_n 3, 1) := by decide +kernel
theorem dL_law_264 : decode cL_law 264 = .ok (.iconst 1, 1) := by decide +kernel
theorem dL_law_265 : decode cL_law 265 = .ok (.iadd, 1) := by decide +kernel
theorem dL_law_266 : decode cL_law 266 = .ok (.iaload, 1) := by decide +kernel
theorem dL_law_267 : decode cL_law 267 = .ok (.aload_n 0, 1) := by decide +kernel
theorem dL_law_268 : decode cL_law 268 = .ok (.iload_n 3, 1) := by decide +kernel
theorem dL_law_269 : decode cL_law 269 = .ok (.iconst 2, 1) := by decide +kernel
theorem dL_law_270 : decode cL_law 270 = .ok (.iadd, 1) := by decide +kernel
theorem dL_law_271 : decode cL_law 271 = .ok (.iaload, 1) := by decide +kernel
theorem dL_law_272 : decode cL_law 272 = .ok (.invokevirtual 38, 3) := by decide +kernel
theorem dL_law_275 : decode cL_law 275 = .ok (.if_icmp .eq 299, 3) := by decide +kernel
theorem dL_law_278 : decode cL_law 278 = .ok (.iconst 0, 1) := by decide +kernel
theorem dL_law_279 : decode cL_law 279 = .ok (.ireturn, 1) := by decide +kernel
theorem dL_law_280 : decode cL_law 280 = .ok (.aload_n 1, 1) := by decide +kernel
theorem dL_law_281 : decode cL_law 281 = .ok (.aload_n 0, 1) := by decide +kernel
theorem dL_law_282 : decode cL_law 282 = .ok (.iload_n 3, 1) := by decide +kernel
theorem dL_law_283 : decode cL_law 283 = .ok (.iconst 1, 1) := by decide +kernel
theorem dL_law_284 : decode cL_law 284 = .ok (.iadd, 1) := by decide +kernel
theorem dL_law_285 : decode cL_law 285 = .ok (.iaload, 1) := by decide +kernel
theorem dL_law_286 : decode cL_law 286 = .ok (.aload_n 0, 1) := by decide +kernel
theorem dL_law_287 : decode cL_law 287 = .ok (.iload_n 3, 1) := by decide +kernel
theorem dL_law_288 : decode cL_law 288 = .ok (.iconst 2, 1) := by decide +kernel
theorem dL_law_289 : decode cL_law 289 = .ok (.iadd, 1) := by decide +kernel
theorem dL_law_290 : decode cL_law 290 = .ok (.iaload, 1) := by decide +kernel
theorem dL_law_291 : decode cL_law 291 = .ok (.invokevirtual 39, 3) := by decide +kernel
theorem dL_law_294 : decode cL_law 294 = .ok (.aload_n 2, 1) := by decide +kernel
theorem dL_law_295 : decode cL_law 295 = .ok (.aload_n 0, 1) := by decide +kernel
theorem dL_law_296 : decode cL_law 296 = .ok (.iload_n 3, 1) := by decide +kernel
theorem dL_law_297 : decode cL_law 297 = .ok (.iconst 1, 1) := by decide +kernel
theorem dL_law_298 : decode cL_law 298 = .ok (.iadd, 1) := by decide +kernel
theorem dL_law_299 : decode cL_law 299 = .ok (.iaload, 1) := by decide +kernel
theorem dL_law_300 : decode cL_law 300 = .ok (.aload_n 0, 1) := by decide +kernel
theorem dL_law_301 : decode cL_law 301 = .ok (.iload_n 3, 1) := by decide +kernel
theorem dL_law_302 : decode cL_law 302 = .ok (.iconst 2, 1) := by decide +kernel
theorem dL_law_303 : decode cL_law 303 = .ok (.iadd, 1) := by decide +kernel
theorem dL_law_304 : decode cL_law 304 = .ok (.iaload, 1) := by decide +kernel
theorem dL_law_305 : decode cL_law 305 = .ok (.invokevirtual 42, 3) := by decide +kernel
theorem dL_law_308 : decode cL_law 308 = .ok (.if_icmp .eq 266, 3) := by decide +kernel
theorem dL_law_311 : decode cL_law 311 = .ok (.iconst 0, 1) := by decide +kernel
theorem dL_law_312 : decode cL_law 312 = .ok (.ireturn, 1) := by decide +kernel
theorem dL_law_313 : decode cL_law 313 = .ok (.aload_n 1, 1) := by decide +kernel
theorem dL_law_314 : decode cL_law 314 = .ok (.aload_n 0, 1) := by decide +kernel
theorem dL_law_315 : decode cL_law 315 = .ok (.iload_n 3, 1) := by decide +kernel
theorem dL_law_316 : decode cL_law 316 = .ok (.iconst 1, 1) := by decide +kernel
theorem dL_law_317 : decode cL_law 317 = .ok (.iadd, 1) := by decide +kernel
theorem dL_law_318 : decode cL_law 318 = .ok (.iaload, 1) := by decide +kernel
theorem dL_law_319 : decode cL_law 319 = .ok (.aload_n 0, 1) := by decide +kernel
theorem dL_law_320 : decode cL_law 320 = .ok (.iload_n 3, 1) := by decide +kernel
theorem dL_law_321 : decode cL_law 321 = .ok (.iconst 2, 1) := by decide +kernel
theorem dL_law_322 : decode cL_law 322 = .ok (.iadd, 1) := by decide +kernel
theorem dL_law_323 : decode cL_law 323 = .ok (.iaload, 1) := by decide +kernel
theorem dL_law_324 : decode cL_law 324 = .ok (.aload_n 0, 1) := by decide +kernel
theorem dL_law_325 : decode cL_law 325 = .ok (.iload_n 3, 1) := by decide +kernel
theorem dL_law_326 : decode cL_law 326 = .ok (.iconst 3, 1) := by decide +kernel
theorem dL_law_327 : decode cL_law 327 = .ok (.iadd, 1) := by decide +kernel
theorem dL_law_328 : decode cL_law 328 = .ok (.iaload, 1) := by decide +kernel
theorem dL_law_329 : decode cL_law 329 = .ok (.invokevirtual 43, 3) := by decide +kernel
theorem dL_law_332 : decode cL_law 332 = .ok (.aload_n 2, 1) := by decide +kernel
theorem dL_law_333 : decode cL_law 333 = .ok (.aload_n 0, 1) := by decide +kernel
theorem dL_law_334 : decode cL_law 334 = .ok (.iload_n 3, 1) := by decide +kernel
theorem dL_law_335 : decode cL_law 335 = .ok (.iconst 1, 1) := by decide +kernel
theorem dL_law_336 : decode cL_law 336 = .ok (.iadd, 1) := by decide +kernel
theorem dL_law_337 : decode cL_law 337 = .ok (.iaload, 1) := by decide +kernel
theorem dL_law_338 : decode cL_law 338 = .ok (.aload_n 0, 1) := by decide +kernel
theorem dL_law_339 : decode cL_law 339 = .ok (.iload_n 3, 1) := by decide +kernel
theorem dL_law_340 : decode cL_law 340 = .ok (.iconst 2, 1) := by decide +kernel
theorem dL_law_341 : decode cL_law 341 = .ok (.iadd, 1) := by decide +kernel
theorem dL_law_342 : decode cL_law 342 = .ok (.iaload, 1) := by decide +kernel
theorem dL_law_343 : decode cL_law 343 = .ok (.aload_n 0, 1) := by decide +kernel
theorem dL_law_344 : decode cL_law 344 = .ok (.iload_n 3, 1) := by decide +kernel
theorem dL_law_345 : decode cL_law 345 = .ok (.iconst 3, 1) := by decide +kernel
theorem dL_law_346 : decode cL_law 346 = .ok (.iadd, 1) := by decide +kernel
theorem dL_law_347 : decode cL_law 347 = .ok (.iaload, 1) := by decide +kernel
theorem dL_law_348 : decode cL_law 348 = .ok (.invokevirtual 46, 3) := by decide +kernel
theorem dL_law_351 : decode cL_law 351 = .ok (.if_icmp .eq 223, 3) := by decide +kernel
theorem dL_law_354 : decode cL_law 354 = .ok (.iconst 0, 1) := by decide +kernel
theorem dL_law_355 : decode cL_law 355 = .ok (.ireturn, 1) := by decide +kernel
theorem dL_law_356 : decode cL_law 356 = .ok (.aload_n 1, 1) := by decide +kernel
theorem dL_law_357 : decode cL_law 357 = .ok (.aload_n 0, 1) := by decide +kernel
theorem dL_law_358 : decode cL_law 358 = .ok (.iload_n 3, 1) := by decide +kernel
theorem dL_law_359 : decode cL_law 359 = .ok (.iconst 1, 1) := by decide +kernel
theorem dL_law_360 : decode cL_law 360 = .ok (.iadd, 1) := by decide +kernel
theorem dL_law_361 : decode cL_law 361 = .ok (.iaload, 1) := by decide +kernel
theorem dL_law_362 : decode cL_law 362 = .ok (.aload_n 0, 1) := by decide +kernel
theorem dL_law_363 : decode cL_law 363 = .ok (.iload_n 3, 1) := by decide +kernel
theorem dL_law_364 : decode cL_law 364 = .ok (.iconst 2, 1) := by decide +kernel
theorem dL_law_365 : decode cL_law 365 = .ok (.iadd, 1) := by decide +kernel
theorem dL_law_366 : decode cL_law 366 = .ok (.iaload, 1) := by decide +kernel
theorem dL_law_367 : decode cL_law 367 = .ok (.invokevirtual 47, 3) := by decide +kernel
theorem dL_law_370 : decode cL_law 370 = .ok (.aload_n 2, 1) := by decide +kernel
theorem dL_law_371 : decode cL_law 371 = .ok (.aload_n 0, 1) := by decide +kernel
theorem dL_law_372 : decode cL_law 372 = .ok (.iload_n 3, 1) := by decide +kernel
theorem dL_law_373 : decode cL_law 373 = .ok (.iconst 1, 1) := by decide +kernel
theorem dL_law_374 : decode cL_law 374 = .ok (.iadd, 1) := by decide +kernel
theorem dL_law_375 : decode cL_law 375 = .ok (.iaload, 1) := by decide +kernel
theorem dL_law_376 : decode cL_law 376 = .ok (.aload_n 0, 1) := by decide +kernel
theorem dL_law_377 : decode cL_law 377 = .ok (.iload_n 3, 1) := by decide +kernel
theorem dL_law_378 : decode cL_law 378 = .ok (.iconst 2, 1) := by decide +kernel
theorem dL_law_379 : decode cL_law 379 = .ok (.iadd, 1) := by decide +kernel
theorem dL_law_380 : decode cL_law 380 = .ok (.iaload, 1) := by decide +kernel
theorem dL_law_381 : decode cL_law 381 = .ok (.invokevirtual 50, 3) := by decide +kernel
theorem dL_law_384 : decode cL_law 384 = .ok (.if_icmp .eq 190, 3) := by decide +kernel
theorem dL_law_387 : decode cL_law 387 = .ok (.iconst 0, 1) := by decide +kernel
theorem dL_law_388 : decode cL_law 388 = .ok (.ireturn, 1) := by decide +kernel
theorem dL_law_389 : decode cL_law 389 = .ok (.aload_n 1, 1) := by decide +kernel
theorem dL_law_390 : decode cL_law 390 = .ok (.aload_n 0, 1) := by decide +kernel
theorem dL_law_391 : decode cL_law 391 = .ok (.iload_n 3, 1) := by decide +kernel
theorem dL_law_392 : decode cL_law 392 = .ok (.iconst 1, 1) := by decide +kernel
theorem dL_law_393 : decode cL_law 393 = .ok (.iadd, 1) := by decide +kernel
theorem dL_law_394 : decode cL_law 394 = .ok (.iaload, 1) := by decide +kernel
theorem dL_law_395 : decode cL_law 395 = .ok (.invokevirtual 51, 3) := by decide +kernel
theorem dL_law_398 : decode cL_law 398 = .ok (.aload_n 2, 1) := by decide +kernel
theorem dL_law_399 : decode cL_law 399 = .ok (.aload_n 0, 1) := by decide +kernel
theorem dL_law_400 : decode cL_law 400 = .ok (.iload_n 3, 1) := by decide +kernel
theorem dL_law_401 : decode cL_law 401 = .ok (.iconst 1, 1) := by decide +kernel
theorem dL_law_402 : decode cL_law 402 = .ok (.iadd, 1) := by decide +kernel
theorem dL_law_403 : decode cL_law 403 = .ok (.iaload, 1) := by decide +kernel
theorem dL_law_404 : decode cL_law 404 = .ok (.invokevirtual 55, 3) := by decide +kernel
theorem dL_law_407 : decode cL_law 407 = .ok (.if_icmp .eq 167, 3) := by decide +kernel
theorem dL_law_410 : decode cL_law 410 = .ok (.iconst 0, 1) := by decide +kernel
theorem dL_law_411 : decode cL_law 411 = .ok (.ireturn, 1) := by decide +kernel
theorem dL_law_412 : decode cL_law 412 = .ok (.aload_n 1, 1) := by decide +kernel
theorem dL_law_413 : decode cL_law 413 = .ok (.invokevirtual 56, 3) := by decide +kernel
theorem dL_law_416 : decode cL_law 416 = .ok (.aload_n 2, 1) := by decide +kernel
theorem dL_law_417 : decode cL_law 417 = .ok (.invokevirtual 60, 3) := by decide +kernel
theorem dL_law_420 : decode cL_law 420 = .ok (.if_icmp .eq 154, 3) := by decide +kernel
theorem dL_law_423 : decode cL_law 423 = .ok (.iconst 0, 1) := by decide +kernel
theorem dL_law_424 : decode cL_law 424 = .ok (.ireturn, 1) := by decide +kernel
theorem dL_law_425 : decode cL_law 425 = .ok (.aload_n 1, 1) := by decide +kernel
theorem dL_law_426 : decode cL_law 426 = .ok (.invokevirtual 61, 3) := by decide +kernel
theorem dL_law_429 : decode cL_law 429 = .ok (.aload_n 2, 1) := by decide +kernel
theorem dL_law_430 : decode cL_law 430 = .ok (.invokevirtual 64, 3) := by decide +kernel
theorem dL_law_433 : decode cL_law 433 = .ok (.if_icmp .eq 141, 3) := by decide +kernel
theorem dL_law_436 : decode cL_law 436 = .ok (.iconst 0, 1) := by decide +kernel
theorem dL_law_437 : decode cL_law 437 = .ok (.ireturn, 1) := by decide +kernel
theorem dL_law_438 : decode cL_law 438 = .ok (.aload_n 1, 1) := by decide +kernel
theorem dL_law_439 : decode cL_law 439 = .ok (.aload_n 0, 1) := by decide +kernel
theorem dL_law_440 : decode cL_law 440 = .ok (.iload_n 3, 1) := by decide +kernel
theorem dL_law_441 : decode cL_law 441 = .ok (.iconst 1, 1) := by decide +kernel
theorem dL_law_442 : decode cL_law 442 = .ok (.iadd, 1) := by decide +kernel
theorem dL_law_443 : decode cL_law 443 = .ok (.iaload, 1) := by decide +kernel
theorem dL_law_444 : decode cL_law 444 = .ok (.aload_n 0, 1) := by decide +kernel
theorem dL_law_445 : decode cL_law 445 = .ok (.iload_n 3, 1) := by decide +kernel
theorem dL_law_446 : decode cL_law 446 = .ok (.iconst 2, 1) := by decide +kernel
theorem dL_law_447 : decode cL_law 447 = .ok (.iadd, 1) := by decide +kernel
theorem dL_law_448 : decode cL_law 448 = .ok (.iaload, 1) := by decide +kernel
theorem dL_law_449 : decode cL_law 449 = .ok (.invokevirtual 65, 3) := by decide +kernel
theorem dL_law_452 : decode cL_law 452 = .ok (.aload_n 2, 1) := by decide +kernel
theorem dL_law_453 : decode cL_law 453 = .ok (.aload_n 0, 1) := by decide +kernel
theorem dL_law_454 : decode cL_law 454 = .ok (.iload_n 3, 1) := by decide +kernel
theorem dL_law_455 : decode cL_law 455 = .ok (.iconst 1, 1) := by decide +kernel
theorem dL_law_456 : decode cL_law 456 = .ok (.iadd, 1) := by decide +kernel
theorem dL_law_457 : decode cL_law 457 = .ok (.iaload, 1) := by decide +kernel
theorem dL_law_458 : decode cL_law 458 = .ok (.aload_n 0, 1) := by decide +kernel
theorem dL_law_459 : decode cL_law 459 = .ok (.iload_n 3, 1) := by decide +kernel
theorem dL_law_460 : decode cL_law 460 = .ok (.iconst 2, 1) := by decide +kernel
theorem dL_law_461 : decode cL_law 461 = .ok (.iadd, 1) := by decide +kernel
theorem dL_law_462 : decode cL_law 462 = .ok (.iaload, 1) := by decide +kernel
theorem dL_law_463 : decode cL_law 463 = .ok (.invokevirtual 68, 3) := by decide +kernel
theorem dL_law_466 : decode cL_law 466 = .ok (.if_icmp .eq 108, 3) := by decide +kernel
theorem dL_law_469 : decode cL_law 469 = .ok (.iconst 0, 1) := by decide +kernel
theorem dL_law_470 : decode cL_law 470 = .ok (.ireturn, 1) := by decide +kernel
theorem dL_law_471 : decode cL_law 471 = .ok (.aload_n 1, 1) := by decide +kernel
theorem dL_law_472 : decode cL_law 472 = .ok (.aload_n 0, 1) := by decide +kernel
theorem dL_law_473 : decode cL_law 473 = .ok (.iload_n 3, 1) := by decide +kernel
theorem dL_law_474 : decode cL_law 474 = .ok (.iconst 1, 1) := by decide +kernel
theorem dL_law_475 : decode cL_law 475 = .ok (.iadd, 1) := by decide +kernel
theorem dL_law_476 : decode cL_law 476 = .ok (.iaload, 1) := by decide +kernel
theorem dL_law_477 : decode cL_law 477 = .ok (.invokevirtual 69, 3) := by decide +kernel
theorem dL_law_480 : decode cL_law 480 = .ok (.aload_n 2, 1) := by decide +kernel
theorem dL_law_481 : decode cL_law 481 = .ok (.aload_n 0, 1) := by decide +kernel
theorem dL_law_482 : decode cL_law 482 = .ok (.iload_n 3, 1) := by decide +kernel
theorem dL_law_483 : decode cL_law 483 = .ok (.iconst 1, 1) := by decide +kernel
theorem dL_law_484 : decode cL_law 484 = .ok (.iadd, 1) := by decide +kernel
theorem dL_law_485 : decode cL_law 485 = .ok (.iaload, 1) := by decide +kernel
theorem dL_law_486 : decode cL_law 486 = .ok (.invokevirtual 72, 3) := by decide +kernel
theorem dL_law_489 : decode cL_law 489 = .ok (.if_icmp .eq 85, 3) := by decide +kernel
theorem dL_law_492 : decode cL_law 492 = .ok (.iconst 0, 1) := by decide +kernel
theorem dL_law_493 : decode cL_law 493 = .ok (.ireturn, 1) := by decide +kernel
theorem dL_law_494 : decode cL_law 494 = .ok (.aload_n 1, 1) := by decide +kernel
theorem dL_law_495 : decode cL_law 495 = .ok (.aload_n 0, 1) := by decide +kernel
theorem dL_law_496 : decode cL_law 496 = .ok (.iload_n 3, 1) := by decide +kernel
theorem dL_law_497 : decode cL_law 497 = .ok (.iconst 1, 1) := by decide +kernel
theorem dL_law_498 : decode cL_law 498 = .ok (.iadd, 1) := by decide +kernel
theorem dL_law_499 : decode cL_law 499 = .ok (.iaload, 1) := by decide +kernel
theorem dL_law_500 : decode cL_law 500 = .ok (.invokevirtual 73, 3) := by decide +kernel
theorem dL_law_503 : decode cL_law 503 = .ok (.aload_n 2, 1) := by decide +kernel
theorem dL_law_504 : decode cL_law 504 = .ok (.aload_n 0, 1) := by decide +kernel
theorem dL_law_505 : decode cL_law 505 = .ok (.iload_n 3, 1) := by decide +kernel
theorem dL_law_506 : decode cL_law 506 = .ok (.iconst 1, 1) := by decide +kernel
theorem dL_law_507 : decode cL_law 507 = .ok (.iadd, 1) := by decide +kernel
theorem dL_law_508 : decode cL_law 508 = .ok (.iaload, 1) := by decide +kernel
theorem dL_law_509 : decode cL_law 509 = .ok (.invokevirtual 76, 3) := by decide +kernel
theorem dL_law_512 : decode cL_law 512 = .ok (.if_icmp .eq 62, 3) := by decide +kernel
theorem dL_law_515 : decode cL_law 515 = .ok (.iconst 0, 1) := by decide +kernel
theorem dL_law_516 : decode cL_law 516 = .ok (.ireturn, 1) := by decide +kernel
theorem dL_law_517 : decode cL_law 517 = .ok (.aload_n 1, 1) := by decide +kernel
theorem dL_law_518 : decode cL_law 518 = .ok (.aload_n 0, 1) := by decide +kernel
theorem dL_law_519 : decode cL_law 519 = .ok (.iload_n 3, 1) := by decide +kernel
theorem dL_law_520 : decode cL_law 520 = .ok (.iconst 1, 1) := by decide +kernel
theorem dL_law_521 : decode cL_law 521 = .ok (.iadd, 1) := by decide +kernel
theorem dL_law_522 : decode cL_law 522 = .ok (.iaload, 1) := by decide +kernel
theorem dL_law_523 : decode cL_law 523 = .ok (.aload_n 0, 1) := by decide +kernel
theorem dL_law_524 : decode cL_law 524 = .ok (.iload_n 3, 1) := by decide +kernel
theorem dL_law_525 : decode cL_law 525 = .ok (.iconst 2, 1) := by decide +kernel
theorem dL_law_526 : decode cL_law 526 = .ok (.iadd, 1) := by decide +kernel
theorem dL_law_527 : decode cL_law 527 = .ok (.iaload, 1) := by decide +kernel
theorem dL_law_528 : decode cL_law 528 = .ok (.invokevirtual 77, 3) := by decide +kernel
theorem dL_law_531 : decode cL_law 531 = .ok (.aload_n 2, 1) := by decide +kernel
theorem dL_law_532 : decode cL_law 532 = .ok (.aload_n 0, 1) := by decide +kernel
theorem dL_law_533 : decode cL_law 533 = .ok (.iload_n 3, 1) := by decide +kernel
theorem dL_law_534 : decode cL_law 534 = .ok (.iconst 1, 1) := by decide +kernel
theorem dL_law_535 : decode cL_law 535 = .ok (.iadd, 1) := by decide +kernel
theorem dL_law_536 : decode cL_law 536 = .ok (.iaload, 1) := by decide +kernel
theorem dL_law_537 : decode cL_law 537 = .ok (.aload_n 0, 1) := by decide +kernel
theorem dL_law_538 : decode cL_law 538 = .ok (.iload_n 3, 1) := by decide +kernel
theorem dL_law_539 : decode cL_law 539 = .ok (.iconst 2, 1) := by decide +kernel
theorem dL_law_540 : decode cL_law 540 = .ok (.iadd, 1) := by decide +kernel
theorem dL_law_541 : decode cL_law 541 = .ok (.iaload, 1) := by decide +kernel
theorem dL_law_542 : decode cL_law 542 = .ok (.invokevirtual 80, 3) := by decide +kernel
theorem dL_law_545 : decode cL_law 545 = .ok (.if_icmp .eq 29, 3) := by decide +kernel
theorem dL_law_548 : decode cL_law 548 = .ok (.iconst 0, 1) := by decide +kernel
theorem dL_law_549 : decode cL_law 549 = .ok (.ireturn, 1) := by decide +kernel
theorem dL_law_550 : decode cL_law 550 = .ok (.aload_n 1, 1) := by decide +kernel
theorem dL_law_551 : decode cL_law 551 = .ok (.aload_n 0, 1) := by decide +kernel
theorem dL_law_552 : decode cL_law 552 = .ok (.iload_n 3, 1) := by decide +kernel
theorem dL_law_553 : decode cL_law 553 = .ok (.iconst 1, 1) := by decide +kernel
theorem dL_law_554 : decode cL_law 554 = .ok (.iadd, 1) := by decide +kernel
theorem dL_law_555 : decode cL_law 555 = .ok (.iaload, 1) := by decide +kernel
theorem dL_law_556 : decode cL_law 556 = .ok (.invokevirtual 81, 3) := by decide +kernel
theorem dL_law_559 : decode cL_law 559 = .ok (.aload_n 2, 1) := by decide +kernel
theorem dL_law_560 : decode cL_law 560 = .ok (.aload_n 0, 1) := by decide +kernel
theorem dL_law_561 : decode cL_law 561 = .ok (.iload_n 3, 1) := by decide +kernel
theorem dL_law_562 : decode cL_law 562 = .ok (.iconst 1, 1) := by decide +kernel
theorem dL_law_563 : decode cL_law 563 = .ok (.iadd, 1) := by decide +kernel
theorem dL_law_564 : decode cL_law 564 = .ok (.iaload, 1) := by decide +kernel
theorem dL_law_565 : decode cL_law 565 = .ok (.invokevirtual 85, 3) := by decide +kernel
theorem dL_law_568 : decode cL_law 568 = .ok (.lcmp, 1) := by decide +kernel
theorem dL_law_569 : decode cL_law 569 = .ok (.ifCond .eq 5, 3) := by decide +kernel
theorem dL_law_572 : decode cL_law 572 = .ok (.iconst 0, 1) := by decide +kernel
theorem dL_law_573 : decode cL_law 573 = .ok (.ireturn, 1) := by decide +kernel
theorem dL_law_574 : decode cL_law 574 = .ok (.iinc 3 4, 3) := by decide +kernel
theorem dL_law_577 : decode cL_law 577 = .ok (.goto (-539), 3) := by decide +kernel
theorem dL_law_580 : decode cL_law 580 = .ok (.iconst 1, 1) := by decide +kernel
theorem dL_law_581 : decode cL_law 581 = .ok (.ireturn, 1) := by decide +kernel
end
section
/-! MAP WORLDS: a world is a partial map from addresses to cells; every method's contract speaks of the map that holds before and the one behind -/
abbrev mM : Type := Nat → Option va_E
def mU (w : mM) (a : Nat) (e : va_E) : mM := fun b => if b = a then some e else w b
theorem mU_s (w : mM) (a : Nat) (e : va_E) : mU w a e a = some e := if_pos rfl
theorem mU_n {w : mM} {a b : Nat} {e : va_E} (h : b ≠ a) : mU w a e b = w b := if_neg h
theorem mU_uu (w : mM) (a : Nat) (e f : va_E) : mU (mU w a e) a f = mU w a f := by
  funext b
  unfold mU
  by_cases h : b = a
  · rw [if_pos h, if_pos h]
  · rw [if_neg h, if_neg h, if_neg h]
def mP (D : va_G) (cl : List vw_C) (w : mM) (H : Heap) : Prop := ∀ (a : Nat) (e : va_E), w a = some e → va_at D cl (a, e) H
/-- the cells that a method may change: those of its world, and those that it makes -/
def mA (w : mM) (sz : Nat) : Nat → Prop := fun q => (∃ e : va_E, w q = some e) ∨ sz ≤ q
/-- the heap H holds the world w, whose cells all lie in A; since H0 nothing outside A has changed -/
def mG (D : va_G) (cl : List vw_C) (A : Nat → Prop) (H0 : Heap) (w : mM) (H : Heap) (locs : List Loc) : Prop :=
  mP D cl w H ∧ (∀ (a : Nat) (e : va_E), w a = some e → A a) ∧ va_S A H0 H locs ∧ ∀ q : Nat, H0.size ≤ q → A q
theorem mP.one {D : va_G} {cl : List vw_C} {w : mM} {H : Heap} {a : Nat} {e : va_E} (h : mP D cl w H) (hw : w a = some e) : va_P D cl [(a, e)] H := by
  intro k q hk
  cases k with
  | zero =>
    cases hk
    exact h a e hw
  | succ k => cases hk
theorem mP.lt {D : va_G} {cl : List vw_C} {w : mM} {H : Heap} {a : Nat} {e : va_E} (h : mP D cl w H) (hw : w a = some e) : a < H.size := (h a e hw).lt
theorem mG.start {D : va_G} {cl : List vw_C} {w : mM} {H : Heap} (h : mP D cl w H) : mG D cl (mA w H.size) H w H [] :=
  ⟨h, fun _ e ha => Or.inl ⟨e, ha⟩, va_S.rf, fun _ h => Or.inr h⟩
theorem mG.put {D : va_G} {cl : List vw_C} {A : Nat → Prop} {H0 H H1 : Heap} {w : mM} {locs : List Loc} {a k : Nat} {e0 e : va_E} (h : mG D cl A H0 w H locs) (hw : w a = some e0) (he : va_at D cl (a, e) H1) (z : H1.size = H.size) (oq : ∀ q : Nat, q ≠ a → H1[q]? = H[q]?) : mG D cl A H0 (mU w a e) H1 (locs ++ [⟨a, k⟩]) := by
  obtain ⟨hP, hD, hS, hA⟩ := h
  refine ⟨fun b f hb => ?_, fun b f hb => ?_, hS.put z oq (hD a e0 hw), hA⟩
  · by_cases hba : b = a
    · subst hba
      rw [mU_s] at hb
      cases hb
      exact he
    · rw [mU_n hba] at hb
      exact (hP b f hb).kept (oq b hba)
  · by_cases hba : b = a
    · subst hba
      exact hD b e0 hw
    · rw [mU_n hba] at hb
      exact hD b f hb
theorem mG.new {D : va_G} {cl : List vw_C} {A : Nat → Prop} {H0 H : Heap} {w : mM} {locs : List Loc} (h : mG D cl A H0 w H locs) : w H.size = none := by
  cases hw : w H.size with
  | none => rfl
  | some e => exact absurd (h.1.lt hw) (Nat.lt_irrefl _)
theorem mG.push {D : va_G} {cl : List vw_C} {A : Nat → Prop} {H0 H H1 : Heap} {w : mM} {locs : List Loc} {e : va_E} (h : mG D cl A H0 w H locs) (he : va_at D cl (H.size, e) H1) (z : H1.size = H.size + 1) (oq : ∀ q : Nat, q < H.size → H1[q]? = H[q]?) : mG D cl A H0 (mU w H.size e) H1 locs := by
  have hn := h.new
  obtain ⟨hP, hD, hS, hA⟩ := h
  refine ⟨fun b f hb => ?_, fun b f hb => ?_, ⟨Nat.le_trans hS.1 (by omega), fun q h1 h2 => ?_, hS.2.2⟩, hA⟩
  · by_cases hba : b = H.size
    · subst hba
      rw [mU_s] at hb
      cases hb
      exact he
    · rw [mU_n hba] at hb
      exact (hP b f hb).kept (oq b (hP.lt hb))
  · by_cases hba : b = H.size
    · subst hba
      exact hA _ hS.1
    · rw [mU_n hba] at hb
      exact hD b f hb
  · rw [oq q (Nat.lt_of_lt_of_le h1 hS.1)]
    exact hS.2.1 q h1 h2
/-- words of the tables that are carried from call to call -/
def mN (U : State) : Prop := va_AO RX6 U ∧ va_Nw (.declares ⟨RX2, "take", "(I)I"⟩) U ∧ va_Nw (.declares ⟨RX2, "clearRoomFor", "(I)V"⟩) U ∧ va_Nw (.declares ⟨RX2, "gather", "()I"⟩) U
theorem mN.moved {s U : State} (hW : s.WarmedH U.vm) (h : mN s) : mN U := ⟨va_AO.moved hW.alike h.1, va_Nw.warmD hW h.2.1, va_Nw.warmD hW h.2.2.1, va_Nw.warmD hW h.2.2.2⟩
theorem mN.same {s U : State} (hv : s.vm = U.vm) (h : mN s) : mN U := ⟨va_AO.moved (by rw [hv]; exact Vm.Alike.refl U.vm) h.1, va_Nw.same rfl hv h.2.1, va_Nw.same rfl hv h.2.2.1, va_Nw.same rfl hv h.2.2.2⟩
/-- a contract's start and end -/
def mPre (D : va_G) (cl : List vw_C) (tys : List (ClassId × FieldType)) (w : mM) (sz : Nat) (U : State) : Prop := U.heap.size = sz ∧ mP D cl w U.heap ∧ va_K D cl tys U ∧ mN U
def mQ (D : va_G) (cl : List vw_C) (tys : List (ClassId × FieldType)) (post : Option Value → mM → Prop) (A : Nat → Prop) : Array Value → State → Outcome → State → Prop := fun _ st oc t =>
  (∃ (v : Option Value) (w' : mM), oc = .returned v ∧ post v w' ∧ mP D cl w' t.heap ∧ va_K D cl tys t ∧ ∀ (a : Nat) (e : va_E), w' a = some e → A a) ∧ va_F A st t
def mC (l : Launch) (y : MethodName) (ws : List Cond) (rm : Room) (D : va_G) (cl : List vw_C) (tys : List (ClassId × FieldType)) (mc ms : Nat) (w : mM) (av : List Value) (post : Option Value → mM → Prop) : Prop :=
  ∀ sz : Nat, Met l y ws rm (va_Pc av (mPre D cl tys w sz)) (mQ D cl tys post (mA w sz)) mc ms (mA w sz)
theorem mBlind {D : va_G} {cl : List vw_C} {tys : List (ClassId × FieldType)} {w : mM} {sz : Nat} {av : List Value} : FrameBlind (va_Pc av (mPre D cl tys w sz)) :=
  fun a U g mk q => ⟨q.1, q.2.1, q.2.2.1, va_K.moved (u := U) (U := U.calling g mk a) (Vm.Alike.refl U.vm) q.2.2.2.1, mN.same (s := U) (U := U.calling g mk a) rfl q.2.2.2.2⟩
section MW
variable {p : Program} {l : Launch} {e : Env} {R : Room} {s : State} {m : MethodId} {args : Array Value} {below : List Frame} {meth : Method} {c : Code} {H : Heap} {locs : List Loc} {cells slots : Nat} {Q : State → Prop}
variable {cc : ByteArray} {pc nL : Nat} {ls : Array Slot} {rest st0 : List Value} {D : va_G} {cl : List vw_C} {A : Nat → Prop} {a : Nat} {tys : List (ClassId × FieldType)} {w : mM} {H0 : Heap} {Ts : List Cond} {own : String}
theorem mPreS {av : List Value} (hK : va_K D cl tys s) (hN : mN s) (hG : mG D cl A H0 w H locs) : PreS s H (va_Pc av (mPre D cl tys w H.size)) av :=
  ⟨mBlind, fun U hU hW => ⟨rfl, by rw [hU], by rw [hU]; exact hG.1, va_K.moved hW.alike hK, hN.moved hW⟩⟩
theorem mPreV {av : List Value} {b ci : Nat} {fs : List Value} {q : vw_C} (hK : va_K D cl tys s) (hN : mN s) (hG : mG D cl A H0 w H locs) (hw : w b = some (.inr (ci, fs))) (hc : cl[ci]? = some q) : PreV s H q.1 b (va_Pc (.ref b :: av) (mPre D cl tys w H.size)) av :=
  ⟨mBlind, va_recv hK (hG.1.one hw) hc (q0 := 0) rfl, fun U hU hW => ⟨rfl, by rw [hU], by rw [hU]; exact hG.1, va_K.moved hW.alike hK, hN.moved hW⟩⟩
/-- behind a call -/
theorem mw_call {mc ms : Nat} {aa : Array Value} {post : Option Value → mM → Prop} (hr : va_Run p l e R s m args below meth c H locs cells slots mc ms (F0 m pc ls st0) rest (mQ D cl tys post (mA w H.size) aa) (mA w H.size)) (hG : mG D cl A H0 w H locs)
    (kk : ∀ (v : Option Value) (w' : mM) (H1 : Heap) (locs1 : List Loc), post v w' → mG D cl A H0 w' H1 locs1 → W p l e R s m args below meth c H1 locs1 (cells + mc) (slots + ms) Q (F0 m (pc + 3) ls (v.toList ++ rest))) : W p l e R s m args below meth c H locs cells slots Q (F0 m pc ls st0) := by
  obtain ⟨hP, hD, hS, hA⟩ := hG
  have hAA : ∀ q, mA w H.size q → A q := fun q h => by
    rcases h with ⟨e, h⟩ | h
    · exact hD q e h
    · exact hA q (Nat.le_trans hS.1 h)
  intro T hT X
  obtain ⟨v, st₀, t, T', L, h0, X', hL, e1, e2, ⟨⟨v', w', hv, hp, hP', hK', hD'⟩, hz, hk⟩, st⟩ := hr T hT X
  cases hv
  rw [h0] at hz hk
  obtain ⟨t2, a1, b1⟩ := kk v w' T'.heap (locs ++ L) hp ⟨by rw [e1]; exact hP', fun a e h => hAA a (hD' a e h), ⟨Nat.le_trans hS.1 (by rw [e1]; exact hz), fun q h1 h2 => by rw [e1, hk q (Nat.lt_of_lt_of_le h1 hS.1) (fun z => h2 (hAA q z))]; exact hS.2.1 q h1 h2, fun q hq => by
      rcases List.mem_append.mp hq with h | h
      · exact hS.2.2 q h
      · exact hAA _ (hL q h)⟩, hA⟩ T' rfl X'
  exact ⟨t2, st t2 a1, b1⟩
/-- a method's entry -/
theorem mC.of {y : MethodName} {ws ws' : List Cond} {rm : Room} {mc ms maxL : Nat} {ret : Option FieldType} {av : List Value} {post : Option Value → mM → Prop} (hy : plainName y.cls = true) (hws : ws = Cond.code y cc maxL ret :: ws') (hn : (lg_sl av).length ≤ maxL)
    (body : ∀ (p : Program) (e : Env) (s : State) (m : MethodId) (args : Array Value) (below : List Frame) (meth : Method) (c : Code) (ls : Array Slot), CallFix p m c cc maxL s args ws y.cls → meth.sig.returnType = ret → meth.locks = false → meth.name = y.name → va_K D cl tys s → mN s → mG D cl (mA w s.heap.size) s.heap w s.heap [] → lv_has ls maxL (lv_args 0 av) →
      W p l e rm s m args below meth c s.heap [] 0 0 (MQ below (mQ D cl tys post (mA w s.heap.size)) args s mc ms (mA w s.heap.size)) (F0 m 0 ls [])) : mC l y ws rm D cl tys mc ms w av post := by
  intro sz
  refine Met.ofW (cc := cc) (maxL := maxL) (ret := ret) hy hws ?_
  intro p e s m args below meth c s₁ B hml hv
  obtain ⟨rfl, hsz, hP, hK, hN⟩ := hv
  subst hsz
  rw [lg_entry_eq]
  exact body p e s m _ below meth c _ ⟨B.exec, B.bytes, hml, findClass_of_methodNamed B.named, atoms_spec (ws := ws) B.pre⟩ B.returns B.notSynchronized (name_of_methodNamed B.named B.method).1 hK hN (mG.start hP) (lv_entry av hn)
/-- a method's ends -/
theorem mw_end {post : Option Value → mM → Prop} {v : Option Value} {A1 : Nat → Prop} (hK : va_K D cl tys s) (hG : mG D cl A s.heap w H locs) (hp : post v w) (t : State) (ht : t.heap = H) (hW : s.WarmedH t.vm) : mQ D cl tys post A args s (.returned v) t :=
  ⟨⟨v, w, rfl, hp, by rw [ht]; exact hG.1, va_K.moved hW.alike hK, hG.2.1⟩, hG.2.2.1.F ht⟩
theorem mw_iret {post : Option Value → mM → Prop} {x : Int32} (S : CallFix p m c cc nL s args Ts own) (hr : meth.sig.returnType = some .int) (hlocks : meth.locks = false) (hK : va_K D cl tys s) (hG : mG D cl A s.heap w H locs) (hdg : decode cc pc = .ok (.ireturn, 1)) (hp : post (some (.int x)) w) : W p l e R s m args below meth c H locs cells slots (MQ below (mQ D cl tys post A) args s cells slots A) (F0 m pc ls [.int x]) :=
  W.iret S.1 S.2.1 hr (fun t ht hW => mw_end (A1 := A) hK hG hp t ht hW) hG.2.2.1.2.2 hdg hlocks
theorem mw_zret {post : Option Value → mM → Prop} {x : Int32} (S : CallFix p m c cc nL s args Ts own) (hr : meth.sig.returnType = some .boolean) (hx : narrow .boolean (.int x) = .int x) (hlocks : meth.locks = false) (hK : va_K D cl tys s) (hG : mG D cl A s.heap w H locs) (hdg : decode cc pc = .ok (.ireturn, 1)) (hp : post (some (.int x)) w) : W p l e R s m args below meth c H locs cells slots (MQ below (mQ D cl tys post A) args s cells slots A) (F0 m pc ls [.int x]) :=
  W.zret S.1 S.2.1 hr hx (fun t ht hW => mw_end (A1 := A) hK hG hp t ht hW) hG.2.2.1.2.2 hdg hlocks
theorem mw_lret {post : Option Value → mM → Prop} {x : Int64} (S : CallFix p m c cc nL s args Ts own) (hr : meth.sig.returnType = some .long) (hlocks : meth.locks = false) (hK : va_K D cl tys s) (hG : mG D cl A s.heap w H locs) (hdg : decode cc pc = .ok (.lreturn, 1)) (hp : post (some (.long x)) w) : W p l e R s m args below meth c H locs cells slots (MQ below (mQ D cl tys post A) args s cells slots A) (F0 m pc ls [.long x]) :=
  W.lret S.1 S.2.1 hr (fun t ht hW => mw_end (A1 := A) hK hG hp t ht hW) hG.2.2.1.2.2 hdg hlocks
theorem mw_vret {post : Option Value → mM → Prop} (S : CallFix p m c cc nL s args Ts own) (hr : meth.sig.returnType = none) (hlocks : meth.locks = false) (hK : va_K D cl tys s) (hG : mG D cl A s.heap w H locs) (hdg : decode cc pc = .ok (.return_, 1)) (hp : post none w) : W p l e R s m args below meth c H locs cells slots (MQ below (mQ D cl tys post A) args s cells slots A) (F0 m pc ls []) :=
  W.vret S.1 S.2.1 hr (fun t ht hW => mw_end (A1 := A) hK hG hp t ht hW) hG.2.2.1.2.2 hdg hlocks
theorem mw_aret {post : Option Value → mM → Prop} {r : Option Nat} {n : String} (S : CallFix p m c cc nL s args Ts own) (hr : meth.sig.returnType = some (.object n)) (hlocks : meth.locks = false) (hK : va_K D cl tys s) (hG : mG D cl A s.heap w H locs) (hdg : decode cc pc = .ok (.areturn, 1)) (hp : post (some (va_rf r)) w) : W p l e R s m args below meth c H locs cells slots (MQ below (mQ D cl tys post A) args s cells slots A) (F0 m pc ls [va_rf r]) :=
  W.aret S.1 S.2.1 hr (Or.inl ⟨n, rfl⟩) (va_rf_or r) (fun t ht hW => mw_end (A1 := A) hK hG hp t ht hW) hG.2.2.1.2.2 hdg hlocks
/-- fields -/
theorem mw_get {ref C : String} {T : u_T} {N ci index : Nat} (S : CallFix p m c cc nL s args Ts own) (hin : ∀ x ∈ u_ws C T N, x ∈ Ts) (hK : va_K D cl tys s) (hG : mG D cl A H0 w H locs) {fs : List Value} (hw : w a = some (.inr (ci, fs))) (hc : cl[ci]? = some (C, T, N)) (k : Nat) (hk : k < N) (hlink : Cond.fieldLink own index ref (T k).2.1 (T k).2.2.1 ∈ Ts) (hsame : ∀ x, s.fieldFound? (T k).1 (T k).2.1 (T k).2.2.1 = some x → s.fieldFound? ref (T k).2.1 (T k).2.2.1 = some x) {v : Value} (hv : fs[k]? = some v) (hdg : decode cc pc = .ok (.getfield index, 3))
    (kk : W p l e R s m args below meth c H locs cells slots Q (F0 m (pc + 3) ls (v :: rest))) : W p l e R s m args below meth c H locs cells slots Q (F0 m pc ls (.ref a :: rest)) :=
  va_get S.1 S.2.1 S.2.2.2.2 hin S.2.2.2.1 hK (hG.1.one hw) 0 rfl hc k hk (S.2.2.2.2 _ hlink) hsame hv hdg kk
theorem mw_put {ref C : String} {T : u_T} {N ci index : Nat} (S : CallFix p m c cc nL s args Ts own) (hin : ∀ x ∈ u_ws C T N, x ∈ Ts) (ty0 : Nat → FieldType) (hty : ∀ k, k < N → parseFieldDescriptor (T k).2.2.1 = some (ty0 k)) (hnm : ∀ a, a < N → ∀ b, b < N → a ≠ b → (T a).2.1 ≠ (T b).2.1) (hK : va_K D cl tys s) (hG : mG D cl A H0 w H locs) {fs : List Value} (hw : w a = some (.inr (ci, fs))) (hc : cl[ci]? = some (C, T, N)) (k : Nat) (hk : k < N) (hlink : Cond.fieldLink own index ref (T k).2.1 (T k).2.2.1 ∈ Ts) (hsame : ∀ x, s.fieldFound? (T k).1 (T k).2.1 (T k).2.2.1 = some x → s.fieldFound? ref (T k).2.1 (T k).2.2.1 = some x) (hfin : (T k).2.2.2 = false) {ty : FieldType} {v : Value} (hd : parseFieldDescriptor (T k).2.2.1 = some ty) (hn : narrow ty v = v) (hfit : fits ty v = true) (hl : k < fs.length) (hdg : decode cc pc = .ok (.putfield index, 3))
    (kk : ∀ (H1 : Heap) (locs1 : List Loc), mG D cl A H0 (mU w a (.inr (ci, fs.set k v))) H1 locs1 → W p l e R s m args below meth c H1 locs1 cells slots Q (F0 m (pc + 3) ls rest)) : W p l e R s m args below meth c H locs cells slots Q (F0 m pc ls (v :: .ref a :: rest)) := by
  obtain ⟨hexec, hb, -, hown, hts⟩ := S
  have hap := va_apart (own := own) hts hin ty0 hty hnm hK hc
  obtain ⟨r, h1, cell, q1, q2, q3, q4⟩ := hG.1 a _ hw
  have hr : r = (C, T, N) := Option.some.inj (h1.symm.trans hc)
  subst hr
  obtain ⟨hS, hfc, kC, hkC, hkind⟩ := hK.1 ci _ hc
  obtain ⟨cf, kf, fi, f, hi, hsl⟩ := hS k hk
  have hlay := hts _ (hin _ (u_in_lay hk))
  unfold u_lay at hlay
  rw [if_neg (by rw [hfin]; decide)] at hlay
  have hst := (u_facts hfc hkC (u_lays hts hin hk) hi).1
  have h6 := u_store hfc hkC hkind hlay hi hd hn hfit
  refine W.putK hexec hb (f := f) ⟨hown, hts _ hlink, ⟨_, _, _, hsame _ hi⟩, hst⟩ (by rw [q2]; exact h6) q1 q3 (by rw [hsl]; exact k2_hasslot (q4 k hk)) rfl rfl hdg fun H' e1 e2 e3 => ?_
  rw [hsl] at e1 ⊢
  exact kk H' _ (hG.put hw ⟨_, hc, t_OB.to (V := updV (vp_V fs) k v) ⟨_, e1, q2, q3, t_set q4 hap hk v⟩ (fun j _ => vp_updV_set hl v j)⟩ e2 e3)
theorem mw_putF {ref C : String} {T : u_T} {N ci index : Nat} (S : CallFix p m c cc nL s args Ts own) (hin : ∀ x ∈ u_ws C T N, x ∈ Ts) (ty0 : Nat → FieldType) (hty : ∀ k, k < N → parseFieldDescriptor (T k).2.2.1 = some (ty0 k)) (hnm : ∀ a, a < N → ∀ b, b < N → a ≠ b → (T a).2.1 ≠ (T b).2.1) (hK : va_K D cl tys s) (hG : mG D cl A H0 w H locs) {fs : List Value} (hw : w a = some (.inr (ci, fs))) (hc : cl[ci]? = some (C, T, N)) (k : Nat) (hk : k < N) (hlink : Cond.fieldLink own index ref (T k).2.1 (T k).2.2.1 ∈ Ts) (hsame : ∀ x, s.fieldFound? (T k).1 (T k).2.1 (T k).2.2.1 = some x → s.fieldFound? ref (T k).2.1 (T k).2.2.1 = some x) (hfin : (T k).2.2.2 = true) (hin2 : meth.name = "<init>") (hdecl : (T k).1 = own) {ty : FieldType} {v : Value} (hd : parseFieldDescriptor (T k).2.2.1 = some ty) (hn : narrow ty v = v) (hfit : fits ty v = true) (hl : k < fs.length) (hdg : decode cc pc = .ok (.putfield index, 3))
    (kk : ∀ (H1 : Heap) (locs1 : List Loc), mG D cl A H0 (mU w a (.inr (ci, fs.set k v))) H1 locs1 → W p l e R s m args below meth c H1 locs1 cells slots Q (F0 m (pc + 3) ls rest)) : W p l e R s m args below meth c H locs cells slots Q (F0 m pc ls (v :: .ref a :: rest)) := by
  obtain ⟨hexec, hb, -, hown, hts⟩ := S
  have hap := va_apart (own := own) hts hin ty0 hty hnm hK hc
  obtain ⟨r, h1, cell, q1, q2, q3, q4⟩ := hG.1 a _ hw
  have hr : r = (C, T, N) := Option.some.inj (h1.symm.trans hc)
  subst hr
  obtain ⟨hS, hfc, kC, hkC, hkind⟩ := hK.1 ci _ hc
  obtain ⟨cf, kf, fi, f, hi, hsl⟩ := hS k hk
  have hlay := hts _ (hin _ (u_in_lay hk))
  unfold u_lay at hlay
  rw [if_pos hfin] at hlay
  have hst := (u_facts hfc hkC (u_lays hts hin hk) hi).1
  have hcf : m.cls = cf := by
    obtain ⟨_, _, c', _, _, _, -, -, hf', -, -, -, hown2, -⟩ := Cond.laysFinal_spec hlay
    have e1 : c' = cf := by have := hi.symm.trans hf'; simp at this; exact this.1.symm
    rw [hdecl] at hown2
    rw [← e1]; exact Option.some.inj (hown.symm.trans hown2)
  have h6 := u_fits hfc hkC hkind (Or.inr hlay) hi hd hn hfit
  refine W.putFinK hexec hb hown (hts _ hlink) (hsame _ hi) hst hcf hin2 (by rw [q2]; exact h6) q1 q3 (by rw [hsl]; exact k2_hasslot (q4 k hk)) rfl rfl hdg fun H' e1 e2 e3 => ?_
  rw [hsl] at e1 ⊢
  exact kk H' _ (hG.put hw ⟨_, hc, t_OB.to (V := updV (vp_V fs) k v) ⟨_, e1, q2, q3, t_set q4 hap hk v⟩ (fun j _ => vp_updV_set hl v j)⟩ e2 e3)
/-- arrays -/
theorem mw_iald (S : CallFix p m c cc nL s args Ts own) (hK : va_K D cl tys s) (hG : mG D cl A H0 w H locs) (t0 : Nat) {cA : ClassId} {n : Nat} {f : Nat → Int32} (hw : w a = some (.inl (cA, n, .inl f))) (ht : tys[t0]? = some (cA, .int)) {i : Int32} (j : Nat) (hj : j < n) (hi : i.toNatClampNeg = j) (h0 : ¬ i < 0) (hdg : decode cc pc = .ok (.iaload, 1))
    (kk : W p l e R s m args below meth c H locs cells slots Q (F0 m (pc + 1) ls (.int (f j) :: rest))) : W p l e R s m args below meth c H locs cells slots Q (F0 m pc ls (.int i :: .ref a :: rest)) := by
  subst hi
  exact va_iald S.1 S.2.1 hK (hG.1.one hw) 0 t0 rfl ht (fun q => q.elim h0 (fun q => absurd hj (Nat.not_lt.mpr q))) hdg kk
theorem mw_aald (S : CallFix p m c cc nL s args Ts own) (hK : va_K D cl tys s) (hG : mG D cl A H0 w H locs) (t0 : Nat) {cA : ClassId} {C : String} {n : Nat} {f : Nat → Option Nat} (hw : w a = some (.inl (cA, n, .inr (.inr (.inr (.inr f)))))) (ht : tys[t0]? = some (cA, .object C)) {i : Int32} (j : Nat) (hj : j < n) (hi : i.toNatClampNeg = j) (h0 : ¬ i < 0) (hdg : decode cc pc = .ok (.aaload, 1))
    (kk : W p l e R s m args below meth c H locs cells slots Q (F0 m (pc + 1) ls (va_rf (f j) :: rest))) : W p l e R s m args below meth c H locs cells slots Q (F0 m pc ls (.int i :: .ref a :: rest)) := by
  subst hi
  exact va_aldq S.1 S.2.1 hK (hG.1.one hw) 0 t0 rfl ht (fun q => q.elim h0 (fun q => absurd hj (Nat.not_lt.mpr q))) hdg kk
theorem mw_alen (S : CallFix p m c cc nL s args Ts own) (hK : va_K D cl tys s) (hG : mG D cl A H0 w H locs) (t0 : Nat) {cA : ClassId} {x : vp_A} (hw : w a = some (.inl (cA, x))) {ty : FieldType} (ht : tys[t0]? = some (cA, ty)) (hdg : decode cc pc = .ok (.arraylength, 1))
    (kk : W p l e R s m args below meth c H locs cells slots Q (F0 m (pc + 1) ls (.int (nI x.1) :: rest))) : W p l e R s m args below meth c H locs cells slots Q (F0 m pc ls (.ref a :: rest)) :=
  va_alen S.1 S.2.1 hK (hG.1.one hw) 0 t0 rfl ht rfl hdg kk
theorem mw_iast (S : CallFix p m c cc nL s args Ts own) (hK : va_K D cl tys s) (hG : mG D cl A H0 w H locs) (t0 : Nat) {cA : ClassId} {n : Nat} {f : Nat → Int32} (hw : w a = some (.inl (cA, n, .inl f))) (ht : tys[t0]? = some (cA, .int)) {i x : Int32} (j : Nat) (hj : j < n) (hi : i.toNatClampNeg = j) (h0 : ¬ i < 0) (hdg : decode cc pc = .ok (.iastore, 1))
    (kk : ∀ (H1 : Heap) (locs1 : List Loc), mG D cl A H0 (mU w a (.inl (cA, n, .inl (va_up f j x)))) H1 locs1 → W p l e R s m args below meth c H1 locs1 cells slots Q (F0 m (pc + 1) ls rest)) : W p l e R s m args below meth c H locs cells slots Q (F0 m pc ls (.int x :: .int i :: .ref a :: rest)) := by
  subst hi
  have hin : vp_in i n := fun q => q.elim h0 (fun q => absurd hj (Nat.not_lt.mpr q))
  refine W.iast S.1 S.2.1 (hG.1 a _ hw) ((hK.2 t0 _ ht).1 n (fun j => .int (f j))) (fun q => by cases q) (by show ¬ (i < 0 ∨ (arrV _ _ _).slots.size ≤ _); rw [arrV_size]; exact hin) rfl rfl hdg fun H1 e z oq => ?_
  refine kk H1 _ (hG.put hw ?_ z oq)
  show H1[a]? = some (vp_cell _ _)
  rw [e, vp_cell_i, vp_cell_i, arrV_store]
  congr 2
  funext q
  by_cases hq : q = i.toNatClampNeg
  · subst hq
    simp [updV, va_up]
  · simp [updV, va_up, hq]
theorem mw_aast (S : CallFix p m c cc nL s args Ts own) (hK : va_K D cl tys s) (hG : mG D cl A H0 w H locs) (t0 ci : Nat) {cA : ClassId} {r : vw_C} {n v : Nat} {vs : List Value} {f : Nat → Option Nat} (hw : w a = some (.inl (cA, n, .inr (.inr (.inr (.inr f)))))) (ht : tys[t0]? = some (cA, .object r.1)) (hv : w v = some (.inr (ci, vs))) (hc : cl[ci]? = some r) {i : Int32} (j : Nat) (hj : j < n) (hi : i.toNatClampNeg = j) (h0 : ¬ i < 0) (hdg : decode cc pc = .ok (.aastore, 1))
    (kk : ∀ (H1 : Heap) (locs1 : List Loc), mG D cl A H0 (mU w a (.inl (cA, n, .inr (.inr (.inr (.inr (va_up f j (some v)))))))) H1 locs1 → W p l e R s m args below meth c H1 locs1 cells slots Q (F0 m (pc + 1) ls rest)) : W p l e R s m args below meth c H locs cells slots Q (F0 m pc ls (.ref v :: .int i :: .ref a :: rest)) := by
  subst hi
  obtain ⟨r', hr', cellV, g1, g2, g3, -⟩ := hG.1 v _ hv
  have hcls := (hK.1 ci r hc).2
  obtain ⟨kA, comp, k1, k2, k3, -⟩ := (hK.2 t0 _ ht).2
  have hcomp : comp = D.1 ci := Option.some.inj (k3.symm.trans hcls.1)
  subst hcomp
  obtain ⟨kC, hkC, -⟩ := hcls.2
  refine W.aast S.1 S.2.1 (hG.1 a _ hw) (fun q h => by cases h) (fun h => by cases h) k1 k2 rfl hkC ⟨h0, by show _ < (arrV _ _ _).slots.size; rw [arrV_size]; exact hj⟩ g1 (fun q h => by rw [g3] at h; cases h) (by rw [g2]; exact hkC) (by rw [g2]; exact va_assign hcls) rfl rfl hdg fun H1 e z oq => ?_
  refine kk H1 _ (hG.put hw ?_ z oq)
  show H1[a]? = some (vp_cell _ _)
  rw [e, vp_cell_q, vp_cell_q, arrV_store]
  congr 2
  funext q
  by_cases hq : q = i.toNatClampNeg
  · subst hq
    simp [updV, va_up, va_rf]
  · simp [updV, va_up, hq]
theorem mw_aastN (S : CallFix p m c cc nL s args Ts own) (hK : va_K D cl tys s) (hG : mG D cl A H0 w H locs) (t0 : Nat) {cA : ClassId} {C : String} {n : Nat} {f : Nat → Option Nat} (hw : w a = some (.inl (cA, n, .inr (.inr (.inr (.inr f)))))) (ht : tys[t0]? = some (cA, .object C)) {i : Int32} (j : Nat) (hj : j < n) (hi : i.toNatClampNeg = j) (h0 : ¬ i < 0) (hdg : decode cc pc = .ok (.aastore, 1))
    (kk : ∀ (H1 : Heap) (locs1 : List Loc), mG D cl A H0 (mU w a (.inl (cA, n, .inr (.inr (.inr (.inr (va_up f j none))))))) H1 locs1 → W p l e R s m args below meth c H1 locs1 cells slots Q (F0 m (pc + 1) ls rest)) : W p l e R s m args below meth c H locs cells slots Q (F0 m pc ls (.null :: .int i :: .ref a :: rest)) := by
  subst hi
  have hin : vp_in i n := fun q => q.elim h0 (fun q => absurd hj (Nat.not_lt.mpr q))
  refine va_WaastN (C := C) S.1 S.2.1 (hG.1 a _ hw) ((hK.2 t0 _ ht).1 n (fun j => va_rf (f j))) (fun h => by cases h) (by show ¬ (i < 0 ∨ (arrV _ _ _).slots.size ≤ _); rw [arrV_size]; exact hin) rfl rfl hdg fun H1 e z oq => ?_
  refine kk H1 _ (hG.put hw ?_ z oq)
  show H1[a]? = some (vp_cell _ _)
  rw [e, vp_cell_q, vp_cell_q, arrV_store]
  congr 2
  funext q
  by_cases hq : q = i.toNatClampNeg
  · subst hq
    simp [updV, va_up, va_rf]
  · simp [updV, va_up, hq]
/-- a reference or null, stored -/
theorem mw_aastq (S : CallFix p m c cc nL s args Ts own) (hK : va_K D cl tys s) (hG : mG D cl A H0 w H locs) (t0 ci : Nat) {cA : ClassId} {r : vw_C} {n : Nat} {v : Option Nat} {f : Nat → Option Nat} (hw : w a = some (.inl (cA, n, .inr (.inr (.inr (.inr f)))))) (ht : tys[t0]? = some (cA, .object r.1)) (hv : ∀ x, v = some x → ∃ vs, w x = some (.inr (ci, vs))) (hc : cl[ci]? = some r) {i : Int32} (j : Nat) (hj : j < n) (hi : i.toNatClampNeg = j) (h0 : ¬ i < 0) (hdg : decode cc pc = .ok (.aastore, 1))
    (kk : ∀ (H1 : Heap) (locs1 : List Loc), mG D cl A H0 (mU w a (.inl (cA, n, .inr (.inr (.inr (.inr (va_up f j v))))))) H1 locs1 → W p l e R s m args below meth c H1 locs1 cells slots Q (F0 m (pc + 1) ls rest)) : W p l e R s m args below meth c H locs cells slots Q (F0 m pc ls (va_rf v :: .int i :: .ref a :: rest)) := by
  cases v with
  | none => exact mw_aastN S hK hG t0 hw ht j hj hi h0 hdg kk
  | some x =>
    obtain ⟨vs, hx⟩ := hv x rfl
    exact mw_aast S hK hG t0 ci hw ht hx hc j hj hi h0 hdg kk
/-- makings -/
theorem mw_new {C : String} {T : u_T} {N ci index : Nat} (S : CallFix p m c cc nL s args Ts own) (hin : ∀ x ∈ u_ws C T N, x ∈ Ts) (ty : Nat → FieldType) (hty : ∀ k, k < N → parseFieldDescriptor (T k).2.2.1 = some (ty k)) (hcl : Cond.classLink own index C ∈ Ts) (hinst : Cond.instantiable C N ∈ Ts) (hini : Cond.initialized C ∈ Ts) (hK : va_K D cl tys s) (hG : mG D cl A H0 w H locs) (hc : cl[ci]? = some (C, T, N)) {fs : List Value} (hfs : ∀ j, j < N → defaultValue (ty j) = vp_V fs j) (hcells : cells + 1 ≤ R.cells) (hslots : slots + N ≤ R.slots) (hdg : decode cc pc = .ok (.new index, 3))
    (kk : ∀ (q : Nat) (H1 : Heap), w q = none → mG D cl A H0 (mU w q (.inr (ci, fs))) H1 locs → W p l e R s m args below meth c H1 locs (cells + 1) (slots + N) Q (F0 m (pc + 3) ls (.ref q :: rest))) : W p l e R s m args below meth c H locs cells slots Q (F0 m pc ls rest) := by
  obtain ⟨hexec, hb, -, hown, hts⟩ := S
  have hKn := hK.1 ci _ hc
  refine W.newcK hexec hb hown (hts _ hcl) (hts _ hinst) (hts _ hini) rfl hdg hcells hslots hKn.2.1 rfl fun H1 kC hkC e1 z1 o1 => ?_
  exact kk H.size H1 hG.new (hG.push ⟨_, hc, (u_born ty hts hin hKn hkC e1 hty).to hfs⟩ z1 o1)
theorem mw_newi (S : CallFix p m c cc nL s args Ts own) (harr : Cond.arrayClass .int ∈ Ts) (hK : va_K D cl tys s) (hG : mG D cl A H0 w H locs) (t0 : Nat) {cA : ClassId} (ht : tys[t0]? = some (cA, .int)) {n : Int32} (N : Nat) (hn : ¬ n < 0) (hN : n.toNatClampNeg = N) (hbytes : N ≤ 134217728) (hcells : cells + 1 ≤ R.cells) (hslots : slots + N ≤ R.slots) (hdg : decode cc pc = .ok (.newarray .int, 2))
    (kk : ∀ (q : Nat) (H1 : Heap), w q = none → mG D cl A H0 (mU w q (.inl (cA, N, .inl (fun _ => 0)))) H1 locs → W p l e R s m args below meth c H1 locs (cells + 1) (slots + N) Q (F0 m (pc + 2) ls (.ref q :: rest))) : W p l e R s m args below meth c H locs cells slots Q (F0 m pc ls (.int n :: rest)) := by
  refine va_newaK (atype := .int) S.1 S.2.1 (S.2.2.2.2 _ harr) rfl hdg rfl hn hN (by show N * 4 ≤ _; omega) hcells hslots rfl fun H1 cB e1 z1 o1 hAr hNm => ?_
  have hcc : cB = cA := Option.some.inj (hNm.symm.trans (hK.2 t0 _ ht).2)
  subst hcc
  refine kk H.size H1 hG.new (hG.push ?_ z1 o1)
  show H1[H.size]? = some (vp_cell _ _)
  rw [vp_cell_i]
  exact e1
theorem mw_newq {C : String} {index : Nat} (S : CallFix p m c cc nL s args Ts own) (hclink : Cond.classLink own index C ∈ Ts) (hover : Cond.arrayOver (.object C) ∈ Ts) (hK : va_K D cl tys s) (hG : mG D cl A H0 w H locs) (t0 : Nat) {cA : ClassId} (ht : tys[t0]? = some (cA, .object C)) {n : Int32} (N : Nat) (hn : ¬ n < 0) (hN : n.toNatClampNeg = N) (hbytes : N ≤ 134217728) (hcells : cells + 1 ≤ R.cells) (hslots : slots + N ≤ R.slots) (hdg : decode cc pc = .ok (.anewarray index, 3))
    (kk : ∀ (q : Nat) (H1 : Heap), w q = none → mG D cl A H0 (mU w q (.inl (cA, N, .inr (.inr (.inr (.inr (fun _ => none))))))) H1 locs → W p l e R s m args below meth c H1 locs (cells + 1) (slots + N) Q (F0 m (pc + 3) ls (.ref q :: rest))) : W p l e R s m args below meth c H locs cells slots Q (F0 m pc ls (.int n :: rest)) := by
  subst hN
  refine W.anew S.1 S.2.1 S.2.2.2.1 (S.2.2.2.2 _ hclink) (S.2.2.2.2 _ hover) rfl hdg rfl hn (by omega) hcells hslots fun cB kA comp f1 f2 f3 f4 => ?_
  obtain ⟨-, -, -, -, -, hNm⟩ := (hK.2 t0 _ ht).2
  have hcc : cB = cA := Option.some.inj (f1.symm.trans hNm)
  subst hcc
  generalize hH1 : H.push ({ cls := cB, slots := Array.replicate n.toNatClampNeg .null, vm := .none } : Cell) = H1
  refine kk H.size H1 hG.new (hG.push ?_ (by rw [← hH1, Array.size_push]) (fun q hq => by rw [← hH1, Array.getElem?_push, if_neg (Nat.ne_of_lt hq)]))
  show H1[H.size]? = some (vp_cell _ _)
  rw [vp_cell_q, ← hH1, Array.getElem?_push_size, ← arrV_new]
  rfl
end MW
abbrev wsY (y : MethodName) (bytes : ByteArray) (maxL : Nat) (ret : Option FieldType) : List Cond := Cond.code y bytes maxL ret :: wsL
/-- what a callee is: its code among the words, a plain class, its number of parameters -/
def mCal (y : MethodName) (bytes : ByteArray) (maxL n : Nat) (ret : Option FieldType) : Prop := Cond.code y bytes maxL ret ∈ wsL ∧ (y.cls ≠ "java/lang/invoke/MethodHandle" ∧ y.cls ≠ "java/lang/invoke/VarHandle" ∧ (parseMethodDescriptor y.desc).map (fun d => d.parameters.length) = some n)
section MX
variable {p : Program} {l : Launch} {e : Env} {R : Room} {s : State} {m : MethodId} {args : Array Value} {below : List Frame} {meth : Method} {c : Code} {H : Heap} {locs : List Loc} {cells slots : Nat} {Q : State → Prop}
variable {cc : ByteArray} {pc nL : Nat} {ls : Array Slot} {rest st0 : List Value} {D : va_G} {cl : List vw_C} {A : Nat → Prop} {a : Nat} {tys : List (ClassId × FieldType)} {w : mM} {H0 : Heap} {own : String}
theorem lv_eqi {x y : Int32} (h : x = y) (k : W p l e R s m args below meth c H locs cells slots Q (F0 m pc ls (.int y :: rest))) : W p l e R s m args below meth c H locs cells slots Q (F0 m pc ls (.int x :: rest)) := h ▸ k
theorem lv_eql {x y : Int64} (h : x = y) (k : W p l e R s m args below meth c H locs cells slots Q (F0 m pc ls (.long y :: rest))) : W p l e R s m args below meth c H locs cells slots Q (F0 m pc ls (.long x :: rest)) := h ▸ k
theorem lv_eqv {x y : Value} (h : x = y) (k : W p l e R s m args below meth c H locs cells slots Q (F0 m pc ls (y :: rest))) : W p l e R s m args below meth c H locs cells slots Q (F0 m pc ls (x :: rest)) := h ▸ k
theorem mw_zald {Ts : List Cond} (S : CallFix p m c cc nL s args Ts own) (hK : va_K D cl tys s) (hG : mG D cl A H0 w H locs) (t0 : Nat) {cA : ClassId} {n : Nat} {f : Nat → Int32} (hw : w a = some (.inl (cA, n, .inl f))) (ht : tys[t0]? = some (cA, .boolean)) {i : Int32} (j : Nat) (hj : j < n) (hi : i.toNatClampNeg = j) (h0 : ¬ i < 0) (hdg : decode cc pc = .ok (.baload, 1))
    (kk : W p l e R s m args below meth c H locs cells slots Q (F0 m (pc + 1) ls (.int (f j) :: rest))) : W p l e R s m args below meth c H locs cells slots Q (F0 m pc ls (.int i :: .ref a :: rest)) := by
  subst hi
  exact va_zald S.1 S.2.1 hK (hG.1.one hw) 0 t0 rfl ht (fun q => q.elim h0 (fun q => absurd hj (Nat.not_lt.mpr q))) hdg kk
theorem mw_zast {Ts : List Cond} (S : CallFix p m c cc nL s args Ts own) (hK : va_K D cl tys s) (hG : mG D cl A H0 w H locs) (t0 : Nat) {cA : ClassId} {n : Nat} {f : Nat → Int32} (hw : w a = some (.inl (cA, n, .inl f))) (ht : tys[t0]? = some (cA, .boolean)) {i x : Int32} (j : Nat) (hj : j < n) (hi : i.toNatClampNeg = j) (h0 : ¬ i < 0) (hx : vp_nar .boolean x = x) (hdg : decode cc pc = .ok (.bastore, 1))
    (kk : ∀ (H1 : Heap) (locs1 : List Loc), mG D cl A H0 (mU w a (.inl (cA, n, .inl (va_up f j x)))) H1 locs1 → W p l e R s m args below meth c H1 locs1 cells slots Q (F0 m (pc + 1) ls rest)) : W p l e R s m args below meth c H locs cells slots Q (F0 m pc ls (.int x :: .int i :: .ref a :: rest)) := by
  subst hi
  have hin : vp_in i n := fun q => q.elim h0 (fun q => absurd hj (Nat.not_lt.mpr q))
  refine W.zast S.1 S.2.1 (hG.1 a _ hw) ((hK.2 t0 _ ht).1 n (fun j => .int (f j))) (fun q => by cases q) (by show ¬ (i < 0 ∨ (arrV _ _ _).slots.size ≤ _); rw [arrV_size]; exact hin) rfl rfl hdg fun H1 e z oq => ?_
  refine kk H1 _ (hG.put hw ?_ z oq)
  show H1[a]? = some (vp_cell _ _)
  have hx2 : narrow .boolean (.int x) = .int x := by
    unfold vp_nar at hx
    cases hq : narrow .boolean (.int x) with
    | int y => rw [hq] at hx; exact congrArg Value.int hx
    | _ => simp [narrow] at hq
  rw [e, vp_cell_i, vp_cell_i, arrV_store]
  congr 2
  funext q
  by_cases hq : q = i.toNatClampNeg
  · subst hq
    simp [updV, va_up, hx2]
  · simp [updV, va_up, hq]
theorem mw_newz {Ts : List Cond} (S : CallFix p m c cc nL s args Ts own) (harr : Cond.arrayClass .boolean ∈ Ts) (hK : va_K D cl tys s) (hG : mG D cl A H0 w H locs) (t0 : Nat) {cA : ClassId} (ht : tys[t0]? = some (cA, .boolean)) {n : Int32} (N : Nat) (hn : ¬ n < 0) (hN : n.toNatClampNeg = N) (hbytes : N ≤ 134217728) (hcells : cells + 1 ≤ R.cells) (hslots : slots + N ≤ R.slots) (hdg : decode cc pc = .ok (.newarray .boolean, 2))
    (kk : ∀ (q : Nat) (H1 : Heap), w q = none → mG D cl A H0 (mU w q (.inl (cA, N, .inl (fun _ => 0)))) H1 locs → W p l e R s m args below meth c H1 locs (cells + 1) (slots + N) Q (F0 m (pc + 2) ls (.ref q :: rest))) : W p l e R s m args below meth c H locs cells slots Q (F0 m pc ls (.int n :: rest)) := by
  refine va_newaK (atype := .boolean) S.1 S.2.1 (S.2.2.2.2 _ harr) rfl hdg rfl hn hN (by show N * 1 ≤ _; omega) hcells hslots rfl fun H1 cB e1 z1 o1 hAr hNm => ?_
  have hcc : cB = cA := Option.some.inj (hNm.symm.trans (hK.2 t0 _ ht).2)
  subst hcc
  refine kk H.size H1 hG.new (hG.push ?_ z1 o1)
  show H1[H.size]? = some (vp_cell _ _)
  rw [vp_cell_i]
  exact e1
/-- calls -/
theorem mCV {y : MethodName} {bytes : ByteArray} {maxL n index mc ms b ci N : Nat} {ret : Option FieldType} {rm : Room} {As fs : List Value} {post : Option Value → mM → Prop} {T : u_T} (S : CallFix p m c cc nL s args wsL own) (hM : mC l y (wsY y bytes maxL ret) rm D cl tys mc ms w (.ref b :: As) post) (hc : mCal y bytes maxL n ret) (m1 : Cond.methodLink own index y ∈ wsL) (m2 : Cond.instanceMethod y ∈ wsL) (m3 : Cond.selects y.cls y y ∈ wsL) (m4 : Cond.initialized y.cls ∈ wsL) (hK : va_K D cl tys s) (hN : mN s) (hG : mG D cl A H0 w H locs) (hw : w b = some (.inr (ci, fs))) (hcl : cl[ci]? = some (y.cls, T, N)) (hst : st0 = As.reverse ++ .ref b :: rest) (hn : As.length = n) (hsz : ls.size = nL) (hrest : (rest.map fun v => v.category).sum ≤ 8) (hR : rm.frames + 1 ≤ R.frames ∧ 8 + (maxL + 11) + rm.locals ≤ R.locals) (hrm : rm.cells = mc ∧ rm.slots = ms) (hf : cells + mc ≤ R.cells ∧ slots + ms ≤ R.slots) (hdg : decode cc pc = .ok (.invokevirtual index, 3))
    (kk : ∀ (v : Option Value) (w : mM) (H : Heap) (locs : List Loc), post v w → mG D cl A H0 w H locs → W p l e R s m args below meth c H locs (cells + mc) (slots + ms) Q (F0 m (pc + 3) ls (v.toList ++ rest))) : W p l e R s m args below meth c H locs cells slots Q (F0 m pc ls st0) := by
  have hT : ∀ x ∈ wsV own index y.cls y (wsY y bytes maxL ret), x ∈ wsL := by
    intro x hx
    unfold wsV at hx
    rcases List.mem_append.mp hx with h | h
    · simp only [List.mem_cons, List.not_mem_nil, or_false] at h
      rcases h with h | h | h | h <;> subst h <;> assumption
    · rcases List.mem_cons.mp h with h | h
      · subst h; exact hc.1
      · exact h
  exact mw_call (va_runV (As := As) (rest := rest) S (hM H.size) (cwV n S.2.2.2.2 (gL _ hT) rfl hrm.1 hrm.2 ⟨rfl, hc.2⟩ hR) (mPreV hK hN hG hw hcl) rfl hn hsz hst (lv_room hrest) hdg hf) hG kk
theorem mCS {y : MethodName} {bytes : ByteArray} {maxL n index mc ms : Nat} {ret : Option FieldType} {rm : Room} {As : List Value} {post : Option Value → mM → Prop} (S : CallFix p m c cc nL s args wsL own) (hM : mC l y (wsY y bytes maxL ret) rm D cl tys mc ms w As post) (hc : mCal y bytes maxL n ret) (m0 : y.cls = own) (m1 : Cond.methodLink own index y ∈ wsL) (m2 : Cond.static y ∈ wsL) (m4 : Cond.initialized own ∈ wsL) (hK : va_K D cl tys s) (hN : mN s) (hG : mG D cl A H0 w H locs) (hst : st0 = As.reverse ++ rest) (hn : As.length = n) (hsz : ls.size = nL) (hrest : (rest.map fun v => v.category).sum ≤ 8) (hR : rm.frames + 1 ≤ R.frames ∧ 8 + (maxL + 11) + rm.locals ≤ R.locals) (hrm : rm.cells = mc ∧ rm.slots = ms) (hf : cells + mc ≤ R.cells ∧ slots + ms ≤ R.slots) (hdg : decode cc pc = .ok (.invokestatic index, 3))
    (kk : ∀ (v : Option Value) (w : mM) (H : Heap) (locs : List Loc), post v w → mG D cl A H0 w H locs → W p l e R s m args below meth c H locs (cells + mc) (slots + ms) Q (F0 m (pc + 3) ls (v.toList ++ rest))) : W p l e R s m args below meth c H locs cells slots Q (F0 m pc ls st0) := by
  have hT : ∀ x ∈ wsS own index y (wsY y bytes maxL ret), x ∈ wsL := by
    intro x hx
    unfold wsS at hx
    rcases List.mem_append.mp hx with h | h
    · simp only [List.mem_cons, List.not_mem_nil, or_false] at h
      rcases h with h | h | h <;> subst h <;> assumption
    · rcases List.mem_cons.mp h with h | h
      · subst h; exact hc.1
      · exact h
  exact mw_call (va_runS (As := As) (rest := rest) S (hM H.size) (cwS n S.2.2.2.2 (gL _ hT) rfl hrm.1 hrm.2 ⟨m0, hc.2⟩ hR) (mPreS hK hN hG) rfl hn hsz hst (lv_room hrest) hdg hf) hG kk
theorem mCI {y : MethodName} {bytes : ByteArray} {maxL n index mc ms b : Nat} {rm : Room} {As : List Value} {post : Option Value → mM → Prop} (S : CallFix p m c cc nL s args wsL own) (hM : mC l y (wsY y bytes maxL none) rm D cl tys mc ms w (.ref b :: As) post) (hc : mCal y bytes maxL n none) (m0 : y.name = "<init>") (m1 : Cond.methodLink own index y ∈ wsL) (m2 : Cond.instanceMethod y ∈ wsL) (m4 : Cond.initialized y.cls ∈ wsL) (hK : va_K D cl tys s) (hN : mN s) (hG : mG D cl A H0 w H locs) (hst : st0 = As.reverse ++ .ref b :: rest) (hn : As.length = n) (hsz : ls.size = nL) (hrest : (rest.map fun v => v.category).sum ≤ 8) (hR : rm.frames + 1 ≤ R.frames ∧ 8 + (maxL + 11) + rm.locals ≤ R.locals) (hrm : rm.cells = mc ∧ rm.slots = ms) (hf : cells + mc ≤ R.cells ∧ slots + ms ≤ R.slots) (hdg : decode cc pc = .ok (.invokespecial index, 3))
    (kk : ∀ (v : Option Value) (w : mM) (H : Heap) (locs : List Loc), post v w → mG D cl A H0 w H locs → W p l e R s m args below meth c H locs (cells + mc) (slots + ms) Q (F0 m (pc + 3) ls (v.toList ++ rest))) : W p l e R s m args below meth c H locs cells slots Q (F0 m pc ls st0) := by
  have hT : ∀ x ∈ wsY y bytes maxL none, x ∈ wsL := by
    intro x h
    rcases List.mem_cons.mp h with h | h
    · subst h; exact hc.1
    · exact h
  exact mw_call (va_runI (As := As) (rest := rest) S (hM H.size) (cwI n S.2.2.2.2 (gL _ hT) rfl hrm.1 hrm.2 (S.2.2.2.2 _ m4) (S.2.2.2.2 _ m1) (S.2.2.2.2 _ m2) m0 hc.2 hR) (mPreS hK hN hG) rfl hn hsz hst (lv_room hrest) hdg hf) hG kk
/-- calls of methods that another class declares -/
theorem mCU {x y : MethodName} {bytes : ByteArray} {maxL n index mc ms b ci N : Nat} {C owner : String} {ret : Option FieldType} {rm : Room} {As fs : List Value} {post : Option Value → mM → Prop} {T : u_T} (S : CallFix p m c cc nL s args wsL own) (hM : mC l y (wsY y bytes maxL ret) rm D cl tys mc ms w (.ref b :: As) post) (cw : va_CU R s args own C owner index x y bytes maxL ret (wsY y bytes maxL ret) rm mc ms n) (hK : va_K D cl tys s) (hN : mN s) (hG : mG D cl A H0 w H locs) (hw : w b = some (.inr (ci, fs))) (hcl : cl[ci]? = some (C, T, N)) (hst : st0 = As.reverse ++ .ref b :: rest) (hn : As.length = n) (hsz : ls.size = nL) (hrest : (rest.map fun v => v.category).sum ≤ 8) (hf : cells + mc ≤ R.cells ∧ slots + ms ≤ R.slots) (hdg : decode cc pc = .ok (.invokevirtual index, 3))
    (kk : ∀ (v : Option Value) (w : mM) (H : Heap) (locs : List Loc), post v w → mG D cl A H0 w H locs → W p l e R s m args below meth c H locs (cells + mc) (slots + ms) Q (F0 m (pc + 3) ls (v.toList ++ rest))) : W p l e R s m args below meth c H locs cells slots Q (F0 m pc ls st0) :=
  mw_call (va_runU (As := As) (rest := rest) S (hM H.size) cw (mPreV hK hN hG hw hcl) rfl hn hsz hst (lv_room hrest) hdg hf) hG kk
theorem mGU {x y : MethodName} {bytes : ByteArray} {maxL index : Nat} {C owner : String} {ret : Option FieldType} (hc : Cond.code y bytes maxL ret ∈ wsL) (m1 : Cond.methodLink own index x ∈ wsL) (m2 : Cond.sameMethod x.cls owner x.name x.desc ∈ wsL) (m3 : Cond.selects C x y ∈ wsL) (m4 : Cond.instanceMethod y ∈ wsL) (m5 : Cond.initialized y.cls ∈ wsL) : GoodIn wsL (va_wsU own index C owner x y (wsY y bytes maxL ret)) := by
  refine gL _ (fun z hz => ?_)
  unfold va_wsU at hz
  rcases List.mem_append.mp hz with h | h
  · simp only [List.mem_cons, List.not_mem_nil, or_false] at h
    rcases h with h | h | h | h | h <;> subst h <;> assumption
  · rcases List.mem_cons.mp h with h | h
    · subst h; exact hc
    · exact h
theorem mGO {x y : MethodName} {bytes : ByteArray} {maxL index : Nat} {C owner : String} {ret : Option FieldType} (hc : Cond.code y bytes maxL ret ∈ wsL) (m1 : Cond.methodLink own index x ∈ wsL) (m2 : Cond.sameMethod x.cls owner x.name x.desc ∈ wsL) (m6 : Cond.instanceMethod ⟨owner, x.name, x.desc⟩ ∈ wsL) (m3 : Cond.selects C x y ∈ wsL) (m4 : Cond.instanceMethod y ∈ wsL) (m5 : Cond.initialized y.cls ∈ wsL) : GoodIn wsL (va_wsO own index C owner x y (wsY y bytes maxL ret)) := by
  refine gL _ (fun z hz => ?_)
  unfold va_wsO at hz
  rcases List.mem_append.mp hz with h | h
  · simp only [List.mem_cons, List.not_mem_nil, or_false] at h
    rcases h with h | h | h | h | h | h <;> subst h <;> assumption
  · rcases List.mem_cons.mp h with h | h
    · subst h; exact hc
    · exact h
/-- a method's entry, over the one list of words -/
theorem mC.on {y : MethodName} {rm : Room} {mc ms maxL : Nat} {ret : Option FieldType} {av : List Value} {post : Option Value → mM → Prop} (hy : plainName y.cls = true) (hn : (lg_sl av).length ≤ maxL)
    (body : ∀ (p : Program) (e : Env) (s : State) (m : MethodId) (args : Array Value) (below : List Frame) (meth : Method) (c : Code) (ls : Array Slot), CallFix p m c cc maxL s args wsL y.cls → meth.sig.returnType = ret → meth.locks = false → meth.name = y.name → va_K D cl tys s → mN s → mG D cl (mA w s.heap.size) s.heap w s.heap [] → lv_has ls maxL (lv_args 0 av) →
      W p l e rm s m args below meth c s.heap [] 0 0 (MQ below (mQ D cl tys post (mA w s.heap.size)) args s mc ms (mA w s.heap.size)) (F0 m 0 ls [])) : mC l y (wsY y cc maxL ret) rm D cl tys mc ms w av post :=
  mC.of hy rfl hn (fun p e s m args below meth c ls S h1 h2 h3 h4 hN h5 h6 => body p e s m args below meth c ls ⟨S.1, S.2.1, S.2.2.1, S.2.2.2.1, fun x hx => S.2.2.2.2 x (List.mem_cons_of_mem _ hx)⟩ h1 h2 h3 h4 hN h5 h6)
end MX
end
section
/-! THE REFERENCE: its world, and a rule for each field and array -/
def oI (o : Option Nat) : Int32 := match o with | none => -1 | some k => nI k
def bI (b : Bool) : Int32 := match b with | false => 0 | true => 1
theorem oI_m1 {o : Option Nat} (ho : ∀ k, o = some k → k < 2147483648) : oI o = -1 ↔ o = none := by
  cases o with
  | none => exact ⟨fun _ => rfl, fun _ => rfl⟩
  | some k =>
    refine ⟨fun h => ?_, fun h => by cases h⟩
    have hk := ho k rfl
    have h1 : nI k = -1 := h
    have h2 := nI_toInt hk
    rw [h1] at h2
    have h3 : ((-1 : Int32)).toInt = -1 := by decide
    rw [h3] at h2
    omega
theorem bI_0 (b : Bool) : bI b = 0 ↔ b = false := by cases b <;> decide
theorem up_map {α β : Type} (g : α → β) (f : Nat → α) (j : Nat) (v : α) : va_up (fun k => g (f k)) j (g v) = fun k => g (va_up f j v k) := by
  funext k
  unfold va_up
  split <;> rfl
def up2 {α : Type} (f : Nat → Nat → α) (a b : Nat) (v : α) : Nat → Nat → α := fun x y => if x = a ∧ y = b then v else f x y
theorem up_flat {α β : Type} (g : α → β) (f : Nat → Nat → α) (a i : Nat) (hi : i < 6) (v : α) : va_up (fun x => g (f (x / 6) (x % 6))) (6 * a + i) (g v) = fun x => g (up2 f a i v (x / 6) (x % 6)) := by
  funext x
  unfold va_up up2
  by_cases h : x = 6 * a + i
  · rw [if_pos h, if_pos ⟨by omega, by omega⟩]
  · rw [if_neg h, if_neg (fun z => h (by omega))]
theorem up_trn (n : Nat) (f : Nat → Option Nat) (j : Nat) (hj : j < n) (v : Option Nat) : va_up (fun k => if k < n then oI (f k) else 0) j (oI v) = fun k => if k < n then oI (va_up f j v k) else 0 := by
  funext k
  unfold va_up
  by_cases h : k = j
  · rw [if_pos h, if_pos h, if_pos (by omega)]
  · rw [if_neg h, if_neg h]
def IW (q : Nat → Nat) (n : Nat) (cell : Nat → va_E) (w : mM) : Prop := (∀ i, i < n → w (q i) = some (cell i)) ∧ ∀ i j, i < n → j < n → q i = q j → i = j
theorem IW.upd {q : Nat → Nat} {n : Nat} {cell cell2 : Nat → va_E} {w : mM} (h : IW q n cell w) (i0 : Nat) (hi : i0 < n) (h2 : ∀ i, i < n → i ≠ i0 → cell2 i = cell i) : IW q n cell2 (mU w (q i0) (cell2 i0)) := by
  refine ⟨fun i hi2 => ?_, h.2⟩
  by_cases e : i = i0
  · subst e
    exact mU_s _ _ _
  · rw [mU_n (fun z => e (h.2 i i0 hi2 hi z)), h2 i hi2 e]
    exact h.1 i hi2
def objR (q : Nat → Nat) (thr : Int32) (kp Wn made half top coll mins movd size : Nat) : List Value := [.int thr, .int (nI kp), .int (nI Wn), .int (nI made), .ref (q 1), .ref (q 2), .ref (q 3), .ref (q 4), .ref (q 5), .ref (q 6), .ref (q 7), .int (nI half), .int (nI top), .int (nI coll), .int (nI mins), .int (nI movd), .int (nI size), .ref (q 8), .ref (q 9), .ref (q 10)]
def cellR (cI cZ : ClassId) (q : Nat → Nat) (thr : Int32) (kp : Nat) (Wn : Nat) (made : Nat) (adr : (Nat → Option Nat)) (fl : (Nat → Nat)) (rem : (Nat → Bool)) (num : (Nat → Nat → Int32)) (rfs : (Nat → Nat → Option Nat)) (root : (Nat → Option Nat)) (own : (Nat → Option Nat)) (half : Nat) (top : Nat) (coll : Nat) (mins : Nat) (movd : Nat) (size : Nat) (row : (Nat → Nat)) (plc : (Nat → Option Nat)) (old : (Nat → Option Nat)) : Nat → va_E
  | 0 => .inr (9, objR q thr kp Wn made half top coll mins movd size)
  | 1 => .inl (cI, 2000, .inl (fun k => oI (adr k)))
  | 2 => .inl (cI, 2000, .inl (fun k => nI (fl k)))
  | 3 => .inl (cZ, 2000, .inl (fun k => bI (rem k)))
  | 4 => .inl (cI, 12000, .inl (fun k => num (k / 6) (k % 6)))
  | 5 => .inl (cI, 12000, .inl (fun k => oI (rfs (k / 6) (k % 6))))
  | 6 => .inl (cI, 16, .inl (fun k => (if k < 16 then oI (root k) else 0)))
  | 7 => .inl (cI, 400, .inl (fun k => (if k < 400 then oI (own k) else 0)))
  | 8 => .inl (cI, 400, .inl (fun k => nI (row k)))
  | 9 => .inl (cI, 2000, .inl (fun k => oI (plc k)))
  | _ => .inl (cI, 400, .inl (fun k => oI (old k)))
def RW (cI cZ : ClassId) (q : Nat → Nat) (thr : Int32) (kp : Nat) (Wn : Nat) (made : Nat) (adr : (Nat → Option Nat)) (fl : (Nat → Nat)) (rem : (Nat → Bool)) (num : (Nat → Nat → Int32)) (rfs : (Nat → Nat → Option Nat)) (root : (Nat → Option Nat)) (own : (Nat → Option Nat)) (half : Nat) (top : Nat) (coll : Nat) (mins : Nat) (movd : Nat) (size : Nat) (row : (Nat → Nat)) (plc : (Nat → Option Nat)) (old : (Nat → Option Nat)) (w : mM) : Prop := IW q 11 (cellR cI cZ q thr kp Wn made adr fl rem num rfs root own half top coll mins movd size row plc old) w
abbrev tyL (cI cZ cT : ClassId) : List (ClassId × FieldType) := [(cI, .int), (cZ, .boolean), (cT, .object RX6)]
theorem bI_nar (b : Bool) : narrow .boolean (.int (bI b)) = .int (bI b) := by cases b <;> rfl
theorem bI_vp (b : Bool) : vp_nar .boolean (bI b) = bI b := by cases b <;> rfl
section RR
variable {p : Program} {l : Launch} {e : Env} {R : Room} {s : State} {m : MethodId} {args : Array Value} {below : List Frame} {meth : Method} {c : Code} {H : Heap} {locs : List Loc} {cells slots : Nat} {Q : State → Prop}
variable {cc : ByteArray} {pc nL : Nat} {ls : Array Slot} {rest st0 : List Value} {dC : Nat → ClassId} {dI : Nat → Nat → Nat} {A : Nat → Prop} {w : mM} {H0 : Heap} {cI cZ cT : ClassId} {q : Nat → Nat}
variable {thr : Int32} {kp : Nat} {Wn : Nat} {made : Nat} {adr : (Nat → Option Nat)} {fl : (Nat → Nat)} {rem : (Nat → Bool)} {num : (Nat → Nat → Int32)} {rfs : (Nat → Nat → Option Nat)} {root : (Nat → Option Nat)} {own : (Nat → Option Nat)} {half : Nat} {top : Nat} {coll : Nat} {mins : Nat} {movd : Nat} {size : Nat} {row : (Nat → Nat)} {plc : (Nat → Option Nat)} {old : (Nat → Option Nat)}
theorem RW.obj (hR : RW cI cZ q thr kp Wn made adr fl rem num rfs root own half top coll mins movd size row plc old w) : w (q 0) = some (.inr (9, objR q thr kp Wn made half top coll mins movd size)) := hR.1 0 (by decide)
theorem RW.aadr (hR : RW cI cZ q thr kp Wn made adr fl rem num rfs root own half top coll mins movd size row plc old w) : w (q 1) = some (.inl (cI, 2000, .inl (fun k => oI (adr k)))) := hR.1 1 (by decide)
theorem RW.afl (hR : RW cI cZ q thr kp Wn made adr fl rem num rfs root own half top coll mins movd size row plc old w) : w (q 2) = some (.inl (cI, 2000, .inl (fun k => nI (fl k)))) := hR.1 2 (by decide)
theorem RW.arem (hR : RW cI cZ q thr kp Wn made adr fl rem num rfs root own half top coll mins movd size row plc old w) : w (q 3) = some (.inl (cZ, 2000, .inl (fun k => bI (rem k)))) := hR.1 3 (by decide)
theorem RW.anum (hR : RW cI cZ q thr kp Wn made adr fl rem num rfs root own half top coll mins movd size row plc old w) : w (q 4) = some (.inl (cI, 12000, .inl (fun k => num (k / 6) (k % 6)))) := hR.1 4 (by decide)
theorem RW.arfs (hR : RW cI cZ q thr kp Wn made adr fl rem num rfs root own half top coll mins movd size row plc old w) : w (q 5) = some (.inl (cI, 12000, .inl (fun k => oI (rfs (k / 6) (k % 6))))) := hR.1 5 (by decide)
theorem RW.aroot (hR : RW cI cZ q thr kp Wn made adr fl rem num rfs root own half top coll mins movd size row plc old w) : w (q 6) = some (.inl (cI, 16, .inl (fun k => (if k < 16 then oI (root k) else 0)))) := hR.1 6 (by decide)
theorem RW.aown (hR : RW cI cZ q thr kp Wn made adr fl rem num rfs root own half top coll mins movd size row plc old w) : w (q 7) = some (.inl (cI, 400, .inl (fun k => (if k < 400 then oI (own k) else 0)))) := hR.1 7 (by decide)
theorem RW.arow (hR : RW cI cZ q thr kp Wn made adr fl rem num rfs root own half top coll mins movd size row plc old w) : w (q 8) = some (.inl (cI, 400, .inl (fun k => nI (row k)))) := hR.1 8 (by decide)
theorem RW.aplc (hR : RW cI cZ q thr kp Wn made adr fl rem num rfs root own half top coll mins movd size row plc old w) : w (q 9) = some (.inl (cI, 2000, .inl (fun k => oI (plc k)))) := hR.1 9 (by decide)
theorem RW.aold (hR : RW cI cZ q thr kp Wn made adr fl rem num rfs root own half top coll mins movd size row plc old w) : w (q 10) = some (.inl (cI, 400, .inl (fun k => oI (old k)))) := hR.1 10 (by decide)
theorem rg_thr (S : CallFix p m c cc nL s args wsL RX10) (hK : va_K (dC, dI) vwCl (tyL cI cZ cT) s) (hG : mG (dC, dI) vwCl A H0 w H locs) (hR : RW cI cZ q thr kp Wn made adr fl rem num rfs root own half top coll mins movd size row plc old w) (hdg : decode cc pc = .ok (.getfield 48, 3)) (kk : W p l e R s m args below meth c H locs cells slots Q (F0 m (pc + 3) ls (.int thr :: rest))) : W p l e R s m args below meth c H locs cells slots Q (F0 m pc ls (.ref (q 0) :: rest)) :=
  mw_get S inlX10 hK hG hR.obj rfl 0 (by decide) in_379 (fun _ h9 => h9) rfl hdg kk
theorem rp_thr (S : CallFix p m c cc nL s args wsL RX10) (hK : va_K (dC, dI) vwCl (tyL cI cZ cT) s) (hG : mG (dC, dI) vwCl A H0 w H locs) (hR : RW cI cZ q thr kp Wn made adr fl rem num rfs root own half top coll mins movd size row plc old w) (x : Int32) (hdg : decode cc pc = .ok (.putfield 48, 3)) (kk : ∀ (w : mM) (H1 : Heap) (locs1 : List Loc), RW cI cZ q x kp Wn made adr fl rem num rfs root own half top coll mins movd size row plc old w → mG (dC, dI) vwCl A H0 w H1 locs1 → W p l e R s m args below meth c H1 locs1 cells slots Q (F0 m (pc + 3) ls rest)) : W p l e R s m args below meth c H locs cells slots Q (F0 m pc ls (.int (x) :: .ref (q 0) :: rest)) :=
  mw_put S inlX10 tyX10 tyX10_ok nmX10 hK hG hR.obj rfl 0 (by decide) in_379 (fun _ h9 => h9) rfl (ty := .int) (by decide +kernel) rfl rfl (Nat.le_of_ble_eq_true rfl) hdg (fun H1 locs1 hG1 => kk _ H1 locs1 (IW.upd (cell2 := cellR cI cZ q x kp Wn made adr fl rem num rfs root own half top coll mins movd size row plc old) hR 0 (by decide) (fun i hi hn => by rcases i with _|_|_|_|_|_|_|_|_|_|_|i <;> first | rfl | exact absurd rfl hn | (exfalso; omega))) hG1)
theorem rg_kp (S : CallFix p m c cc nL s args wsL RX10) (hK : va_K (dC, dI) vwCl (tyL cI cZ cT) s) (hG : mG (dC, dI) vwCl A H0 w H locs) (hR : RW cI cZ q thr kp Wn made adr fl rem num rfs root own half top coll mins movd size row plc old w) (hdg : decode cc pc = .ok (.getfield 41, 3)) (kk : W p l e R s m args below meth c H locs cells slots Q (F0 m (pc + 3) ls (.int (nI kp) :: rest))) : W p l e R s m args below meth c H locs cells slots Q (F0 m pc ls (.ref (q 0) :: rest)) :=
  mw_get S inlX10 hK hG hR.obj rfl 1 (by decide) in_134 (fun _ h9 => h9) rfl hdg kk
theorem rg_Wn (S : CallFix p m c cc nL s args wsL RX10) (hK : va_K (dC, dI) vwCl (tyL cI cZ cT) s) (hG : mG (dC, dI) vwCl A H0 w H locs) (hR : RW cI cZ q thr kp Wn made adr fl rem num rfs root own half top coll mins movd size row plc old w) (hdg : decode cc pc = .ok (.getfield 45, 3)) (kk : W p l e R s m args below meth c H locs cells slots Q (F0 m (pc + 3) ls (.int (nI Wn) :: rest))) : W p l e R s m args below meth c H locs cells slots Q (F0 m pc ls (.ref (q 0) :: rest)) :=
  mw_get S inlX10 hK hG hR.obj rfl 2 (by decide) in_135 (fun _ h9 => h9) rfl hdg kk
theorem rg_made (S : CallFix p m c cc nL s args wsL RX10) (hK : va_K (dC, dI) vwCl (tyL cI cZ cT) s) (hG : mG (dC, dI) vwCl A H0 w H locs) (hR : RW cI cZ q thr kp Wn made adr fl rem num rfs root own half top coll mins movd size row plc old w) (hdg : decode cc pc = .ok (.getfield 62, 3)) (kk : W p l e R s m args below meth c H locs cells slots Q (F0 m (pc + 3) ls (.int (nI made) :: rest))) : W p l e R s m args below meth c H locs cells slots Q (F0 m pc ls (.ref (q 0) :: rest)) :=
  mw_get S inlX10 hK hG hR.obj rfl 3 (by decide) in_380 (fun _ h9 => h9) rfl hdg kk
theorem rp_made (S : CallFix p m c cc nL s args wsL RX10) (hK : va_K (dC, dI) vwCl (tyL cI cZ cT) s) (hG : mG (dC, dI) vwCl A H0 w H locs) (hR : RW cI cZ q thr kp Wn made adr fl rem num rfs root own half top coll mins movd size row plc old w) (x : Nat) (hdg : decode cc pc = .ok (.putfield 62, 3)) (kk : ∀ (w : mM) (H1 : Heap) (locs1 : List Loc), RW cI cZ q thr kp Wn x adr fl rem num rfs root own half top coll mins movd size row plc old w → mG (dC, dI) vwCl A H0 w H1 locs1 → W p l e R s m args below meth c H1 locs1 cells slots Q (F0 m (pc + 3) ls rest)) : W p l e R s m args below meth c H locs cells slots Q (F0 m pc ls (.int (nI x) :: .ref (q 0) :: rest)) :=
  mw_put S inlX10 tyX10 tyX10_ok nmX10 hK hG hR.obj rfl 3 (by decide) in_380 (fun _ h9 => h9) rfl (ty := .int) (by decide +kernel) rfl rfl (Nat.le_of_ble_eq_true rfl) hdg (fun H1 locs1 hG1 => kk _ H1 locs1 (IW.upd (cell2 := cellR cI cZ q thr kp Wn x adr fl rem num rfs root own half top coll mins movd size row plc old) hR 0 (by decide) (fun i hi hn => by rcases i with _|_|_|_|_|_|_|_|_|_|_|i <;> first | rfl | exact absurd rfl hn | (exfalso; omega))) hG1)
theorem rg_adr (S : CallFix p m c cc nL s args wsL RX10) (hK : va_K (dC, dI) vwCl (tyL cI cZ cT) s) (hG : mG (dC, dI) vwCl A H0 w H locs) (hR : RW cI cZ q thr kp Wn made adr fl rem num rfs root own half top coll mins movd size row plc old w) (hdg : decode cc pc = .ok (.getfield 7, 3)) (kk : W p l e R s m args below meth c H locs cells slots Q (F0 m (pc + 3) ls (.ref (q 1) :: rest))) : W p l e R s m args below meth c H locs cells slots Q (F0 m pc ls (.ref (q 0) :: rest)) :=
  mw_get S inlX10 hK hG hR.obj rfl 4 (by decide) in_123 (fun _ h9 => h9) rfl hdg kk
theorem rg_fl (S : CallFix p m c cc nL s args wsL RX10) (hK : va_K (dC, dI) vwCl (tyL cI cZ cT) s) (hG : mG (dC, dI) vwCl A H0 w H locs) (hR : RW cI cZ q thr kp Wn made adr fl rem num rfs root own half top coll mins movd size row plc old w) (hdg : decode cc pc = .ok (.getfield 13, 3)) (kk : W p l e R s m args below meth c H locs cells slots Q (F0 m (pc + 3) ls (.ref (q 2) :: rest))) : W p l e R s m args below meth c H locs cells slots Q (F0 m pc ls (.ref (q 0) :: rest)) :=
  mw_get S inlX10 hK hG hR.obj rfl 5 (by decide) in_124 (fun _ h9 => h9) rfl hdg kk
theorem rg_rem (S : CallFix p m c cc nL s args wsL RX10) (hK : va_K (dC, dI) vwCl (tyL cI cZ cT) s) (hG : mG (dC, dI) vwCl A H0 w H locs) (hR : RW cI cZ q thr kp Wn made adr fl rem num rfs root own half top coll mins movd size row plc old w) (hdg : decode cc pc = .ok (.getfield 16, 3)) (kk : W p l e R s m args below meth c H locs cells slots Q (F0 m (pc + 3) ls (.ref (q 3) :: rest))) : W p l e R s m args below meth c H locs cells slots Q (F0 m pc ls (.ref (q 0) :: rest)) :=
  mw_get S inlX10 hK hG hR.obj rfl 6 (by decide) in_126 (fun _ h9 => h9) rfl hdg kk
theorem rg_num (S : CallFix p m c cc nL s args wsL RX10) (hK : va_K (dC, dI) vwCl (tyL cI cZ cT) s) (hG : mG (dC, dI) vwCl A H0 w H locs) (hR : RW cI cZ q thr kp Wn made adr fl rem num rfs root own half top coll mins movd size row plc old w) (hdg : decode cc pc = .ok (.getfield 20, 3)) (kk : W p l e R s m args below meth c H locs cells slots Q (F0 m (pc + 3) ls (.ref (q 4) :: rest))) : W p l e R s m args below meth c H locs cells slots Q (F0 m pc ls (.ref (q 0) :: rest)) :=
  mw_get S inlX10 hK hG hR.obj rfl 7 (by decide) in_127 (fun _ h9 => h9) rfl hdg kk
theorem rg_rfs (S : CallFix p m c cc nL s args wsL RX10) (hK : va_K (dC, dI) vwCl (tyL cI cZ cT) s) (hG : mG (dC, dI) vwCl A H0 w H locs) (hR : RW cI cZ q thr kp Wn made adr fl rem num rfs root own half top coll mins movd size row plc old w) (hdg : decode cc pc = .ok (.getfield 23, 3)) (kk : W p l e R s m args below meth c H locs cells slots Q (F0 m (pc + 3) ls (.ref (q 5) :: rest))) : W p l e R s m args below meth c H locs cells slots Q (F0 m pc ls (.ref (q 0) :: rest)) :=
  mw_get S inlX10 hK hG hR.obj rfl 8 (by decide) in_128 (fun _ h9 => h9) rfl hdg kk
theorem rg_root (S : CallFix p m c cc nL s args wsL RX10) (hK : va_K (dC, dI) vwCl (tyL cI cZ cT) s) (hG : mG (dC, dI) vwCl A H0 w H locs) (hR : RW cI cZ q thr kp Wn made adr fl rem num rfs root own half top coll mins movd size row plc old w) (hdg : decode cc pc = .ok (.getfield 26, 3)) (kk : W p l e R s m args below meth c H locs cells slots Q (F0 m (pc + 3) ls (.ref (q 6) :: rest))) : W p l e R s m args below meth c H locs cells slots Q (F0 m pc ls (.ref (q 0) :: rest)) :=
  mw_get S inlX10 hK hG hR.obj rfl 9 (by decide) in_129 (fun _ h9 => h9) rfl hdg kk
theorem rg_own (S : CallFix p m c cc nL s args wsL RX10) (hK : va_K (dC, dI) vwCl (tyL cI cZ cT) s) (hG : mG (dC, dI) vwCl A H0 w H locs) (hR : RW cI cZ q thr kp Wn made adr fl rem num rfs root own half top coll mins movd size row plc old w) (hdg : decode cc pc = .ok (.getfield 29, 3)) (kk : W p l e R s m args below meth c H locs cells slots Q (F0 m (pc + 3) ls (.ref (q 7) :: rest))) : W p l e R s m args below meth c H locs cells slots Q (F0 m pc ls (.ref (q 0) :: rest)) :=
  mw_get S inlX10 hK hG hR.obj rfl 10 (by decide) in_130 (fun _ h9 => h9) rfl hdg kk
theorem rg_half (S : CallFix p m c cc nL s args wsL RX10) (hK : va_K (dC, dI) vwCl (tyL cI cZ cT) s) (hG : mG (dC, dI) vwCl A H0 w H locs) (hR : RW cI cZ q thr kp Wn made adr fl rem num rfs root own half top coll mins movd size row plc old w) (hdg : decode cc pc = .ok (.getfield 88, 3)) (kk : W p l e R s m args below meth c H locs cells slots Q (F0 m (pc + 3) ls (.int (nI half) :: rest))) : W p l e R s m args below meth c H locs cells slots Q (F0 m pc ls (.ref (q 0) :: rest)) :=
  mw_get S inlX10 hK hG hR.obj rfl 11 (by decide) in_392 (fun _ h9 => h9) rfl hdg kk
theorem rp_half (S : CallFix p m c cc nL s args wsL RX10) (hK : va_K (dC, dI) vwCl (tyL cI cZ cT) s) (hG : mG (dC, dI) vwCl A H0 w H locs) (hR : RW cI cZ q thr kp Wn made adr fl rem num rfs root own half top coll mins movd size row plc old w) (x : Nat) (hdg : decode cc pc = .ok (.putfield 88, 3)) (kk : ∀ (w : mM) (H1 : Heap) (locs1 : List Loc), RW cI cZ q thr kp Wn made adr fl rem num rfs root own x top coll mins movd size row plc old w → mG (dC, dI) vwCl A H0 w H1 locs1 → W p l e R s m args below meth c H1 locs1 cells slots Q (F0 m (pc + 3) ls rest)) : W p l e R s m args below meth c H locs cells slots Q (F0 m pc ls (.int (nI x) :: .ref (q 0) :: rest)) :=
  mw_put S inlX10 tyX10 tyX10_ok nmX10 hK hG hR.obj rfl 11 (by decide) in_392 (fun _ h9 => h9) rfl (ty := .int) (by decide +kernel) rfl rfl (Nat.le_of_ble_eq_true rfl) hdg (fun H1 locs1 hG1 => kk _ H1 locs1 (IW.upd (cell2 := cellR cI cZ q thr kp Wn made adr fl rem num rfs root own x top coll mins movd size row plc old) hR 0 (by decide) (fun i hi hn => by rcases i with _|_|_|_|_|_|_|_|_|_|_|i <;> first | rfl | exact absurd rfl hn | (exfalso; omega))) hG1)
theorem rg_top (S : CallFix p m c cc nL s args wsL RX10) (hK : va_K (dC, dI) vwCl (tyL cI cZ cT) s) (hG : mG (dC, dI) vwCl A H0 w H locs) (hR : RW cI cZ q thr kp Wn made adr fl rem num rfs root own half top coll mins movd size row plc old w) (hdg : decode cc pc = .ok (.getfield 91, 3)) (kk : W p l e R s m args below meth c H locs cells slots Q (F0 m (pc + 3) ls (.int (nI top) :: rest))) : W p l e R s m args below meth c H locs cells slots Q (F0 m pc ls (.ref (q 0) :: rest)) :=
  mw_get S inlX10 hK hG hR.obj rfl 12 (by decide) in_381 (fun _ h9 => h9) rfl hdg kk
theorem rp_top (S : CallFix p m c cc nL s args wsL RX10) (hK : va_K (dC, dI) vwCl (tyL cI cZ cT) s) (hG : mG (dC, dI) vwCl A H0 w H locs) (hR : RW cI cZ q thr kp Wn made adr fl rem num rfs root own half top coll mins movd size row plc old w) (x : Nat) (hdg : decode cc pc = .ok (.putfield 91, 3)) (kk : ∀ (w : mM) (H1 : Heap) (locs1 : List Loc), RW cI cZ q thr kp Wn made adr fl rem num rfs root own half x coll mins movd size row plc old w → mG (dC, dI) vwCl A H0 w H1 locs1 → W p l e R s m args below meth c H1 locs1 cells slots Q (F0 m (pc + 3) ls rest)) : W p l e R s m args below meth c H locs cells slots Q (F0 m pc ls (.int (nI x) :: .ref (q 0) :: rest)) :=
  mw_put S inlX10 tyX10 tyX10_ok nmX10 hK hG hR.obj rfl 12 (by decide) in_381 (fun _ h9 => h9) rfl (ty := .int) (by decide +kernel) rfl rfl (Nat.le_of_ble_eq_true rfl) hdg (fun H1 locs1 hG1 => kk _ H1 locs1 (IW.upd (cell2 := cellR cI cZ q thr kp Wn made adr fl rem num rfs root own half x coll mins movd size row plc old) hR 0 (by decide) (fun i hi hn => by rcases i with _|_|_|_|_|_|_|_|_|_|_|i <;> first | rfl | exact absurd rfl hn | (exfalso; omega))) hG1)
theorem rg_coll (S : CallFix p m c cc nL s args wsL RX10) (hK : va_K (dC, dI) vwCl (tyL cI cZ cT) s) (hG : mG (dC, dI) vwCl A H0 w H locs) (hR : RW cI cZ q thr kp Wn made adr fl rem num rfs root own half top coll mins movd size row plc old w) (hdg : decode cc pc = .ok (.getfield 114, 3)) (kk : W p l e R s m args below meth c H locs cells slots Q (F0 m (pc + 3) ls (.int (nI coll) :: rest))) : W p l e R s m args below meth c H locs cells slots Q (F0 m pc ls (.ref (q 0) :: rest)) :=
  mw_get S inlX10 hK hG hR.obj rfl 13 (by decide) in_401 (fun _ h9 => h9) rfl hdg kk
theorem rp_coll (S : CallFix p m c cc nL s args wsL RX10) (hK : va_K (dC, dI) vwCl (tyL cI cZ cT) s) (hG : mG (dC, dI) vwCl A H0 w H locs) (hR : RW cI cZ q thr kp Wn made adr fl rem num rfs root own half top coll mins movd size row plc old w) (x : Nat) (hdg : decode cc pc = .ok (.putfield 114, 3)) (kk : ∀ (w : mM) (H1 : Heap) (locs1 : List Loc), RW cI cZ q thr kp Wn made adr fl rem num rfs root own half top x mins movd size row plc old w → mG (dC, dI) vwCl A H0 w H1 locs1 → W p l e R s m args below meth c H1 locs1 cells slots Q (F0 m (pc + 3) ls rest)) : W p l e R s m args below meth c H locs cells slots Q (F0 m pc ls (.int (nI x) :: .ref (q 0) :: rest)) :=
  mw_put S inlX10 tyX10 tyX10_ok nmX10 hK hG hR.obj rfl 13 (by decide) in_401 (fun _ h9 => h9) rfl (ty := .int) (by decide +kernel) rfl rfl (Nat.le_of_ble_eq_true rfl) hdg (fun H1 locs1 hG1 => kk _ H1 locs1 (IW.upd (cell2 := cellR cI cZ q thr kp Wn made adr fl rem num rfs root own half top x mins movd size row plc old) hR 0 (by decide) (fun i hi hn => by rcases i with _|_|_|_|_|_|_|_|_|_|_|i <;> first | rfl | exact absurd rfl hn | (exfalso; omega))) hG1)
theorem rg_mins (S : CallFix p m c cc nL s args wsL RX10) (hK : va_K (dC, dI) vwCl (tyL cI cZ cT) s) (hG : mG (dC, dI) vwCl A H0 w H locs) (hR : RW cI cZ q thr kp Wn made adr fl rem num rfs root own half top coll mins movd size row plc old w) (hdg : decode cc pc = .ok (.getfield 111, 3)) (kk : W p l e R s m args below meth c H locs cells slots Q (F0 m (pc + 3) ls (.int (nI mins) :: rest))) : W p l e R s m args below meth c H locs cells slots Q (F0 m pc ls (.ref (q 0) :: rest)) :=
  mw_get S inlX10 hK hG hR.obj rfl 14 (by decide) in_448 (fun _ h9 => h9) rfl hdg kk
theorem rp_mins (S : CallFix p m c cc nL s args wsL RX10) (hK : va_K (dC, dI) vwCl (tyL cI cZ cT) s) (hG : mG (dC, dI) vwCl A H0 w H locs) (hR : RW cI cZ q thr kp Wn made adr fl rem num rfs root own half top coll mins movd size row plc old w) (x : Nat) (hdg : decode cc pc = .ok (.putfield 111, 3)) (kk : ∀ (w : mM) (H1 : Heap) (locs1 : List Loc), RW cI cZ q thr kp Wn made adr fl rem num rfs root own half top coll x movd size row plc old w → mG (dC, dI) vwCl A H0 w H1 locs1 → W p l e R s m args below meth c H1 locs1 cells slots Q (F0 m (pc + 3) ls rest)) : W p l e R s m args below meth c H locs cells slots Q (F0 m pc ls (.int (nI x) :: .ref (q 0) :: rest)) :=
  mw_put S inlX10 tyX10 tyX10_ok nmX10 hK hG hR.obj rfl 14 (by decide) in_448 (fun _ h9 => h9) rfl (ty := .int) (by decide +kernel) rfl rfl (Nat.le_of_ble_eq_true rfl) hdg (fun H1 locs1 hG1 => kk _ H1 locs1 (IW.upd (cell2 := cellR cI cZ q thr kp Wn made adr fl rem num rfs root own half top coll x movd size row plc old) hR 0 (by decide) (fun i hi hn => by rcases i with _|_|_|_|_|_|_|_|_|_|_|i <;> first | rfl | exact absurd rfl hn | (exfalso; omega))) hG1)
theorem rg_movd (S : CallFix p m c cc nL s args wsL RX10) (hK : va_K (dC, dI) vwCl (tyL cI cZ cT) s) (hG : mG (dC, dI) vwCl A H0 w H locs) (hR : RW cI cZ q thr kp Wn made adr fl rem num rfs root own half top coll mins movd size row plc old w) (hdg : decode cc pc = .ok (.getfield 98, 3)) (kk : W p l e R s m args below meth c H locs cells slots Q (F0 m (pc + 3) ls (.int (nI movd) :: rest))) : W p l e R s m args below meth c H locs cells slots Q (F0 m pc ls (.ref (q 0) :: rest)) :=
  mw_get S inlX10 hK hG hR.obj rfl 15 (by decide) in_407 (fun _ h9 => h9) rfl hdg kk
theorem rp_movd (S : CallFix p m c cc nL s args wsL RX10) (hK : va_K (dC, dI) vwCl (tyL cI cZ cT) s) (hG : mG (dC, dI) vwCl A H0 w H locs) (hR : RW cI cZ q thr kp Wn made adr fl rem num rfs root own half top coll mins movd size row plc old w) (x : Nat) (hdg : decode cc pc = .ok (.putfield 98, 3)) (kk : ∀ (w : mM) (H1 : Heap) (locs1 : List Loc), RW cI cZ q thr kp Wn made adr fl rem num rfs root own half top coll mins x size row plc old w → mG (dC, dI) vwCl A H0 w H1 locs1 → W p l e R s m args below meth c H1 locs1 cells slots Q (F0 m (pc + 3) ls rest)) : W p l e R s m args below meth c H locs cells slots Q (F0 m pc ls (.int (nI x) :: .ref (q 0) :: rest)) :=
  mw_put S inlX10 tyX10 tyX10_ok nmX10 hK hG hR.obj rfl 15 (by decide) in_407 (fun _ h9 => h9) rfl (ty := .int) (by decide +kernel) rfl rfl (Nat.le_of_ble_eq_true rfl) hdg (fun H1 locs1 hG1 => kk _ H1 locs1 (IW.upd (cell2 := cellR cI cZ q thr kp Wn made adr fl rem num rfs root own half top coll mins x size row plc old) hR 0 (by decide) (fun i hi hn => by rcases i with _|_|_|_|_|_|_|_|_|_|_|i <;> first | rfl | exact absurd rfl hn | (exfalso; omega))) hG1)
theorem rg_size (S : CallFix p m c cc nL s args wsL RX10) (hK : va_K (dC, dI) vwCl (tyL cI cZ cT) s) (hG : mG (dC, dI) vwCl A H0 w H locs) (hR : RW cI cZ q thr kp Wn made adr fl rem num rfs root own half top coll mins movd size row plc old w) (hdg : decode cc pc = .ok (.getfield 59, 3)) (kk : W p l e R s m args below meth c H locs cells slots Q (F0 m (pc + 3) ls (.int (nI size) :: rest))) : W p l e R s m args below meth c H locs cells slots Q (F0 m pc ls (.ref (q 0) :: rest)) :=
  mw_get S inlX10 hK hG hR.obj rfl 16 (by decide) in_406 (fun _ h9 => h9) rfl hdg kk
theorem rp_size (S : CallFix p m c cc nL s args wsL RX10) (hK : va_K (dC, dI) vwCl (tyL cI cZ cT) s) (hG : mG (dC, dI) vwCl A H0 w H locs) (hR : RW cI cZ q thr kp Wn made adr fl rem num rfs root own half top coll mins movd size row plc old w) (x : Nat) (hdg : decode cc pc = .ok (.putfield 59, 3)) (kk : ∀ (w : mM) (H1 : Heap) (locs1 : List Loc), RW cI cZ q thr kp Wn made adr fl rem num rfs root own half top coll mins movd x row plc old w → mG (dC, dI) vwCl A H0 w H1 locs1 → W p l e R s m args below meth c H1 locs1 cells slots Q (F0 m (pc + 3) ls rest)) : W p l e R s m args below meth c H locs cells slots Q (F0 m pc ls (.int (nI x) :: .ref (q 0) :: rest)) :=
  mw_put S inlX10 tyX10 tyX10_ok nmX10 hK hG hR.obj rfl 16 (by decide) in_406 (fun _ h9 => h9) rfl (ty := .int) (by decide +kernel) rfl rfl (Nat.le_of_ble_eq_true rfl) hdg (fun H1 locs1 hG1 => kk _ H1 locs1 (IW.upd (cell2 := cellR cI cZ q thr kp Wn made adr fl rem num rfs root own half top coll mins movd x row plc old) hR 0 (by decide) (fun i hi hn => by rcases i with _|_|_|_|_|_|_|_|_|_|_|i <;> first | rfl | exact absurd rfl hn | (exfalso; omega))) hG1)
theorem rg_row (S : CallFix p m c cc nL s args wsL RX10) (hK : va_K (dC, dI) vwCl (tyL cI cZ cT) s) (hG : mG (dC, dI) vwCl A H0 w H locs) (hR : RW cI cZ q thr kp Wn made adr fl rem num rfs root own half top coll mins movd size row plc old w) (hdg : decode cc pc = .ok (.getfield 32, 3)) (kk : W p l e R s m args below meth c H locs cells slots Q (F0 m (pc + 3) ls (.ref (q 8) :: rest))) : W p l e R s m args below meth c H locs cells slots Q (F0 m pc ls (.ref (q 0) :: rest)) :=
  mw_get S inlX10 hK hG hR.obj rfl 17 (by decide) in_131 (fun _ h9 => h9) rfl hdg kk
theorem rg_plc (S : CallFix p m c cc nL s args wsL RX10) (hK : va_K (dC, dI) vwCl (tyL cI cZ cT) s) (hG : mG (dC, dI) vwCl A H0 w H locs) (hR : RW cI cZ q thr kp Wn made adr fl rem num rfs root own half top coll mins movd size row plc old w) (hdg : decode cc pc = .ok (.getfield 35, 3)) (kk : W p l e R s m args below meth c H locs cells slots Q (F0 m (pc + 3) ls (.ref (q 9) :: rest))) : W p l e R s m args below meth c H locs cells slots Q (F0 m pc ls (.ref (q 0) :: rest)) :=
  mw_get S inlX10 hK hG hR.obj rfl 18 (by decide) in_132 (fun _ h9 => h9) rfl hdg kk
theorem rg_old (S : CallFix p m c cc nL s args wsL RX10) (hK : va_K (dC, dI) vwCl (tyL cI cZ cT) s) (hG : mG (dC, dI) vwCl A H0 w H locs) (hR : RW cI cZ q thr kp Wn made adr fl rem num rfs root own half top coll mins movd size row plc old w) (hdg : decode cc pc = .ok (.getfield 38, 3)) (kk : W p l e R s m args below meth c H locs cells slots Q (F0 m (pc + 3) ls (.ref (q 10) :: rest))) : W p l e R s m args below meth c H locs cells slots Q (F0 m pc ls (.ref (q 0) :: rest)) :=
  mw_get S inlX10 hK hG hR.obj rfl 19 (by decide) in_133 (fun _ h9 => h9) rfl hdg kk
theorem rl_adr (S : CallFix p m c cc nL s args wsL RX10) (hK : va_K (dC, dI) vwCl (tyL cI cZ cT) s) (hG : mG (dC, dI) vwCl A H0 w H locs) (hR : RW cI cZ q thr kp Wn made adr fl rem num rfs root own half top coll mins movd size row plc old w) (j : Nat) (hj : j < 2000) (hdg : decode cc pc = .ok (.iaload, 1)) (kk : W p l e R s m args below meth c H locs cells slots Q (F0 m (pc + 1) ls (.int (oI (adr j)) :: rest))) : W p l e R s m args below meth c H locs cells slots Q (F0 m pc ls (.int (nI j) :: .ref (q 1) :: rest)) :=
  mw_iald S hK hG 0 hR.aadr rfl j hj (nI_clamp (by omega)) (nI_pos (by omega)) hdg kk
theorem rs_adr (S : CallFix p m c cc nL s args wsL RX10) (hK : va_K (dC, dI) vwCl (tyL cI cZ cT) s) (hG : mG (dC, dI) vwCl A H0 w H locs) (hR : RW cI cZ q thr kp Wn made adr fl rem num rfs root own half top coll mins movd size row plc old w) (j : Nat) (x : Option Nat) (hj : j < 2000) (hdg : decode cc pc = .ok (.iastore, 1)) (kk : ∀ (w : mM) (H1 : Heap) (locs1 : List Loc), RW cI cZ q thr kp Wn made (va_up adr j x) fl rem num rfs root own half top coll mins movd size row plc old w → mG (dC, dI) vwCl A H0 w H1 locs1 → W p l e R s m args below meth c H1 locs1 cells slots Q (F0 m (pc + 1) ls rest)) : W p l e R s m args below meth c H locs cells slots Q (F0 m pc ls (.int (oI x) :: .int (nI j) :: .ref (q 1) :: rest)) :=
  mw_iast S hK hG 0 hR.aadr rfl j hj (nI_clamp (by omega)) (nI_pos (by omega)) hdg (fun H1 locs1 hG1 => kk _ H1 locs1 (IW.upd (cell2 := cellR cI cZ q thr kp Wn made (va_up adr j x) fl rem num rfs root own half top coll mins movd size row plc old) hR 1 (by decide) (fun i hi hn => by rcases i with _|_|_|_|_|_|_|_|_|_|_|i <;> first | rfl | exact absurd rfl hn | (exfalso; omega))) (by rw [up_map oI] at hG1; exact hG1))
theorem rl_fl (S : CallFix p m c cc nL s args wsL RX10) (hK : va_K (dC, dI) vwCl (tyL cI cZ cT) s) (hG : mG (dC, dI) vwCl A H0 w H locs) (hR : RW cI cZ q thr kp Wn made adr fl rem num rfs root own half top coll mins movd size row plc old w) (j : Nat) (hj : j < 2000) (hdg : decode cc pc = .ok (.iaload, 1)) (kk : W p l e R s m args below meth c H locs cells slots Q (F0 m (pc + 1) ls (.int (nI (fl j)) :: rest))) : W p l e R s m args below meth c H locs cells slots Q (F0 m pc ls (.int (nI j) :: .ref (q 2) :: rest)) :=
  mw_iald S hK hG 0 hR.afl rfl j hj (nI_clamp (by omega)) (nI_pos (by omega)) hdg kk
theorem rs_fl (S : CallFix p m c cc nL s args wsL RX10) (hK : va_K (dC, dI) vwCl (tyL cI cZ cT) s) (hG : mG (dC, dI) vwCl A H0 w H locs) (hR : RW cI cZ q thr kp Wn made adr fl rem num rfs root own half top coll mins movd size row plc old w) (j : Nat) (x : Nat) (hj : j < 2000) (hdg : decode cc pc = .ok (.iastore, 1)) (kk : ∀ (w : mM) (H1 : Heap) (locs1 : List Loc), RW cI cZ q thr kp Wn made adr (va_up fl j x) rem num rfs root own half top coll mins movd size row plc old w → mG (dC, dI) vwCl A H0 w H1 locs1 → W p l e R s m args below meth c H1 locs1 cells slots Q (F0 m (pc + 1) ls rest)) : W p l e R s m args below meth c H locs cells slots Q (F0 m pc ls (.int (nI x) :: .int (nI j) :: .ref (q 2) :: rest)) :=
  mw_iast S hK hG 0 hR.afl rfl j hj (nI_clamp (by omega)) (nI_pos (by omega)) hdg (fun H1 locs1 hG1 => kk _ H1 locs1 (IW.upd (cell2 := cellR cI cZ q thr kp Wn made adr (va_up fl j x) rem num rfs root own half top coll mins movd size row plc old) hR 2 (by decide) (fun i hi hn => by rcases i with _|_|_|_|_|_|_|_|_|_|_|i <;> first | rfl | exact absurd rfl hn | (exfalso; omega))) (by rw [up_map nI] at hG1; exact hG1))
theorem rl_rem (S : CallFix p m c cc nL s args wsL RX10) (hK : va_K (dC, dI) vwCl (tyL cI cZ cT) s) (hG : mG (dC, dI) vwCl A H0 w H locs) (hR : RW cI cZ q thr kp Wn made adr fl rem num rfs root own half top coll mins movd size row plc old w) (j : Nat) (hj : j < 2000) (hdg : decode cc pc = .ok (.baload, 1)) (kk : W p l e R s m args below meth c H locs cells slots Q (F0 m (pc + 1) ls (.int (bI (rem j)) :: rest))) : W p l e R s m args below meth c H locs cells slots Q (F0 m pc ls (.int (nI j) :: .ref (q 3) :: rest)) :=
  mw_zald S hK hG 1 hR.arem rfl j hj (nI_clamp (by omega)) (nI_pos (by omega)) hdg kk
theorem rs_rem (S : CallFix p m c cc nL s args wsL RX10) (hK : va_K (dC, dI) vwCl (tyL cI cZ cT) s) (hG : mG (dC, dI) vwCl A H0 w H locs) (hR : RW cI cZ q thr kp Wn made adr fl rem num rfs root own half top coll mins movd size row plc old w) (j : Nat) (x : Bool) (hj : j < 2000) (hdg : decode cc pc = .ok (.bastore, 1)) (kk : ∀ (w : mM) (H1 : Heap) (locs1 : List Loc), RW cI cZ q thr kp Wn made adr fl (va_up rem j x) num rfs root own half top coll mins movd size row plc old w → mG (dC, dI) vwCl A H0 w H1 locs1 → W p l e R s m args below meth c H1 locs1 cells slots Q (F0 m (pc + 1) ls rest)) : W p l e R s m args below meth c H locs cells slots Q (F0 m pc ls (.int (bI x) :: .int (nI j) :: .ref (q 3) :: rest)) :=
  mw_zast S hK hG 1 hR.arem rfl j hj (nI_clamp (by omega)) (nI_pos (by omega)) (bI_vp x) hdg (fun H1 locs1 hG1 => kk _ H1 locs1 (IW.upd (cell2 := cellR cI cZ q thr kp Wn made adr fl (va_up rem j x) num rfs root own half top coll mins movd size row plc old) hR 3 (by decide) (fun i hi hn => by rcases i with _|_|_|_|_|_|_|_|_|_|_|i <;> first | rfl | exact absurd rfl hn | (exfalso; omega))) (by rw [up_map bI] at hG1; exact hG1))
theorem rl_num (S : CallFix p m c cc nL s args wsL RX10) (hK : va_K (dC, dI) vwCl (tyL cI cZ cT) s) (hG : mG (dC, dI) vwCl A H0 w H locs) (hR : RW cI cZ q thr kp Wn made adr fl rem num rfs root own half top coll mins movd size row plc old w) (o i : Nat) (ho : o < 2000) (hi : i < 6) (hdg : decode cc pc = .ok (.iaload, 1)) (kk : W p l e R s m args below meth c H locs cells slots Q (F0 m (pc + 1) ls (.int (num o i) :: rest))) : W p l e R s m args below meth c H locs cells slots Q (F0 m pc ls (.int (nI (6 * o + i)) :: .ref (q 4) :: rest)) := by
  have h1 : (6 * o + i) / 6 = o := by omega
  have h2 : (6 * o + i) % 6 = i := by omega
  refine mw_iald S hK hG 0 hR.anum rfl (6 * o + i) (by omega) (nI_clamp (by omega)) (nI_pos (by omega)) hdg ?_
  rw [h1, h2]
  exact kk
theorem rs_num (S : CallFix p m c cc nL s args wsL RX10) (hK : va_K (dC, dI) vwCl (tyL cI cZ cT) s) (hG : mG (dC, dI) vwCl A H0 w H locs) (hR : RW cI cZ q thr kp Wn made adr fl rem num rfs root own half top coll mins movd size row plc old w) (o i : Nat) (x : Int32) (ho : o < 2000) (hi : i < 6) (hdg : decode cc pc = .ok (.iastore, 1)) (kk : ∀ (w : mM) (H1 : Heap) (locs1 : List Loc), RW cI cZ q thr kp Wn made adr fl rem (up2 num o i x) rfs root own half top coll mins movd size row plc old w → mG (dC, dI) vwCl A H0 w H1 locs1 → W p l e R s m args below meth c H1 locs1 cells slots Q (F0 m (pc + 1) ls rest)) : W p l e R s m args below meth c H locs cells slots Q (F0 m pc ls (.int (x) :: .int (nI (6 * o + i)) :: .ref (q 4) :: rest)) := by
  refine mw_iast S hK hG 0 hR.anum rfl (6 * o + i) (by omega) (nI_clamp (by omega)) (nI_pos (by omega)) hdg (fun H1 locs1 hG1 => kk _ H1 locs1 (IW.upd (cell2 := cellR cI cZ q thr kp Wn made adr fl rem (up2 num o i x) rfs root own half top coll mins movd size row plc old) hR 4 (by decide) (fun i hi hn => by rcases i with _|_|_|_|_|_|_|_|_|_|_|i <;> first | rfl | exact absurd rfl hn | (exfalso; omega))) ?_)
  have h1 : va_up (fun k => num (k / 6) (k % 6)) (6 * o + i) x = fun k => up2 num o i x (k / 6) (k % 6) := up_flat (fun z : Int32 => z) num o i hi x
  rw [h1] at hG1
  exact hG1
theorem rl_rfs (S : CallFix p m c cc nL s args wsL RX10) (hK : va_K (dC, dI) vwCl (tyL cI cZ cT) s) (hG : mG (dC, dI) vwCl A H0 w H locs) (hR : RW cI cZ q thr kp Wn made adr fl rem num rfs root own half top coll mins movd size row plc old w) (o i : Nat) (ho : o < 2000) (hi : i < 6) (hdg : decode cc pc = .ok (.iaload, 1)) (kk : W p l e R s m args below meth c H locs cells slots Q (F0 m (pc + 1) ls (.int (oI (rfs o i)) :: rest))) : W p l e R s m args below meth c H locs cells slots Q (F0 m pc ls (.int (nI (6 * o + i)) :: .ref (q 5) :: rest)) := by
  have h1 : (6 * o + i) / 6 = o := by omega
  have h2 : (6 * o + i) % 6 = i := by omega
  refine mw_iald S hK hG 0 hR.arfs rfl (6 * o + i) (by omega) (nI_clamp (by omega)) (nI_pos (by omega)) hdg ?_
  rw [h1, h2]
  exact kk
theorem rs_rfs (S : CallFix p m c cc nL s args wsL RX10) (hK : va_K (dC, dI) vwCl (tyL cI cZ cT) s) (hG : mG (dC, dI) vwCl A H0 w H locs) (hR : RW cI cZ q thr kp Wn made adr fl rem num rfs root own half top coll mins movd size row plc old w) (o i : Nat) (x : Option Nat) (ho : o < 2000) (hi : i < 6) (hdg : decode cc pc = .ok (.iastore, 1)) (kk : ∀ (w : mM) (H1 : Heap) (locs1 : List Loc), RW cI cZ q thr kp Wn made adr fl rem num (up2 rfs o i x) root own half top coll mins movd size row plc old w → mG (dC, dI) vwCl A H0 w H1 locs1 → W p l e R s m args below meth c H1 locs1 cells slots Q (F0 m (pc + 1) ls rest)) : W p l e R s m args below meth c H locs cells slots Q (F0 m pc ls (.int (oI x) :: .int (nI (6 * o + i)) :: .ref (q 5) :: rest)) := by
  refine mw_iast S hK hG 0 hR.arfs rfl (6 * o + i) (by omega) (nI_clamp (by omega)) (nI_pos (by omega)) hdg (fun H1 locs1 hG1 => kk _ H1 locs1 (IW.upd (cell2 := cellR cI cZ q thr kp Wn made adr fl rem num (up2 rfs o i x) root own half top coll mins movd size row plc old) hR 5 (by decide) (fun i hi hn => by rcases i with _|_|_|_|_|_|_|_|_|_|_|i <;> first | rfl | exact absurd rfl hn | (exfalso; omega))) ?_)
  have h1 := up_flat oI rfs o i hi x
  rw [h1] at hG1
  exact hG1
theorem rl_root (S : CallFix p m c cc nL s args wsL RX10) (hK : va_K (dC, dI) vwCl (tyL cI cZ cT) s) (hG : mG (dC, dI) vwCl A H0 w H locs) (hR : RW cI cZ q thr kp Wn made adr fl rem num rfs root own half top coll mins movd size row plc old w) (j : Nat) (hj : j < 16) (hdg : decode cc pc = .ok (.iaload, 1)) (kk : W p l e R s m args below meth c H locs cells slots Q (F0 m (pc + 1) ls (.int (oI (root j)) :: rest))) : W p l e R s m args below meth c H locs cells slots Q (F0 m pc ls (.int (nI j) :: .ref (q 6) :: rest)) := by
  refine mw_iald S hK hG 0 hR.aroot rfl j hj (nI_clamp (by omega)) (nI_pos (by omega)) hdg ?_
  rw [if_pos hj]
  exact kk
theorem rs_root (S : CallFix p m c cc nL s args wsL RX10) (hK : va_K (dC, dI) vwCl (tyL cI cZ cT) s) (hG : mG (dC, dI) vwCl A H0 w H locs) (hR : RW cI cZ q thr kp Wn made adr fl rem num rfs root own half top coll mins movd size row plc old w) (j : Nat) (x : Option Nat) (hj : j < 16) (hdg : decode cc pc = .ok (.iastore, 1)) (kk : ∀ (w : mM) (H1 : Heap) (locs1 : List Loc), RW cI cZ q thr kp Wn made adr fl rem num rfs (va_up root j x) own half top coll mins movd size row plc old w → mG (dC, dI) vwCl A H0 w H1 locs1 → W p l e R s m args below meth c H1 locs1 cells slots Q (F0 m (pc + 1) ls rest)) : W p l e R s m args below meth c H locs cells slots Q (F0 m pc ls (.int (oI x) :: .int (nI j) :: .ref (q 6) :: rest)) :=
  mw_iast S hK hG 0 hR.aroot rfl j hj (nI_clamp (by omega)) (nI_pos (by omega)) hdg (fun H1 locs1 hG1 => kk _ H1 locs1 (IW.upd (cell2 := cellR cI cZ q thr kp Wn made adr fl rem num rfs (va_up root j x) own half top coll mins movd size row plc old) hR 6 (by decide) (fun i hi hn => by rcases i with _|_|_|_|_|_|_|_|_|_|_|i <;> first | rfl | exact absurd rfl hn | (exfalso; omega))) (by rw [up_trn 16 root j hj x] at hG1; exact hG1))
theorem rl_own (S : CallFix p m c cc nL s args wsL RX10) (hK : va_K (dC, dI) vwCl (tyL cI cZ cT) s) (hG : mG (dC, dI) vwCl A H0 w H locs) (hR : RW cI cZ q thr kp Wn made adr fl rem num rfs root own half top coll mins movd size row plc old w) (j : Nat) (hj : j < 400) (hdg : decode cc pc = .ok (.iaload, 1)) (kk : W p l e R s m args below meth c H locs cells slots Q (F0 m (pc + 1) ls (.int (oI (own j)) :: rest))) : W p l e R s m args below meth c H locs cells slots Q (F0 m pc ls (.int (nI j) :: .ref (q 7) :: rest)) := by
  refine mw_iald S hK hG 0 hR.aown rfl j hj (nI_clamp (by omega)) (nI_pos (by omega)) hdg ?_
  rw [if_pos hj]
  exact kk
theorem rs_own (S : CallFix p m c cc nL s args wsL RX10) (hK : va_K (dC, dI) vwCl (tyL cI cZ cT) s) (hG : mG (dC, dI) vwCl A H0 w H locs) (hR : RW cI cZ q thr kp Wn made adr fl rem num rfs root own half top coll mins movd size row plc old w) (j : Nat) (x : Option Nat) (hj : j < 400) (hdg : decode cc pc = .ok (.iastore, 1)) (kk : ∀ (w : mM) (H1 : Heap) (locs1 : List Loc), RW cI cZ q thr kp Wn made adr fl rem num rfs root (va_up own j x) half top coll mins movd size row plc old w → mG (dC, dI) vwCl A H0 w H1 locs1 → W p l e R s m args below meth c H1 locs1 cells slots Q (F0 m (pc + 1) ls rest)) : W p l e R s m args below meth c H locs cells slots Q (F0 m pc ls (.int (oI x) :: .int (nI j) :: .ref (q 7) :: rest)) :=
  mw_iast S hK hG 0 hR.aown rfl j hj (nI_clamp (by omega)) (nI_pos (by omega)) hdg (fun H1 locs1 hG1 => kk _ H1 locs1 (IW.upd (cell2 := cellR cI cZ q thr kp Wn made adr fl rem num rfs root (va_up own j x) half top coll mins movd size row plc old) hR 7 (by decide) (fun i hi hn => by rcases i with _|_|_|_|_|_|_|_|_|_|_|i <;> first | rfl | exact absurd rfl hn | (exfalso; omega))) (by rw [up_trn 400 own j hj x] at hG1; exact hG1))
theorem rl_row (S : CallFix p m c cc nL s args wsL RX10) (hK : va_K (dC, dI) vwCl (tyL cI cZ cT) s) (hG : mG (dC, dI) vwCl A H0 w H locs) (hR : RW cI cZ q thr kp Wn made adr fl rem num rfs root own half top coll mins movd size row plc old w) (j : Nat) (hj : j < 400) (hdg : decode cc pc = .ok (.iaload, 1)) (kk : W p l e R s m args below meth c H locs cells slots Q (F0 m (pc + 1) ls (.int (nI (row j)) :: rest))) : W p l e R s m args below meth c H locs cells slots Q (F0 m pc ls (.int (nI j) :: .ref (q 8) :: rest)) :=
  mw_iald S hK hG 0 hR.arow rfl j hj (nI_clamp (by omega)) (nI_pos (by omega)) hdg kk
theorem rs_row (S : CallFix p m c cc nL s args wsL RX10) (hK : va_K (dC, dI) vwCl (tyL cI cZ cT) s) (hG : mG (dC, dI) vwCl A H0 w H locs) (hR : RW cI cZ q thr kp Wn made adr fl rem num rfs root own half top coll mins movd size row plc old w) (j : Nat) (x : Nat) (hj : j < 400) (hdg : decode cc pc = .ok (.iastore, 1)) (kk : ∀ (w : mM) (H1 : Heap) (locs1 : List Loc), RW cI cZ q thr kp Wn made adr fl rem num rfs root own half top coll mins movd size (va_up row j x) plc old w → mG (dC, dI) vwCl A H0 w H1 locs1 → W p l e R s m args below meth c H1 locs1 cells slots Q (F0 m (pc + 1) ls rest)) : W p l e R s m args below meth c H locs cells slots Q (F0 m pc ls (.int (nI x) :: .int (nI j) :: .ref (q 8) :: rest)) :=
  mw_iast S hK hG 0 hR.arow rfl j hj (nI_clamp (by omega)) (nI_pos (by omega)) hdg (fun H1 locs1 hG1 => kk _ H1 locs1 (IW.upd (cell2 := cellR cI cZ q thr kp Wn made adr fl rem num rfs root own half top coll mins movd size (va_up row j x) plc old) hR 8 (by decide) (fun i hi hn => by rcases i with _|_|_|_|_|_|_|_|_|_|_|i <;> first | rfl | exact absurd rfl hn | (exfalso; omega))) (by rw [up_map nI] at hG1; exact hG1))
theorem rl_plc (S : CallFix p m c cc nL s args wsL RX10) (hK : va_K (dC, dI) vwCl (tyL cI cZ cT) s) (hG : mG (dC, dI) vwCl A H0 w H locs) (hR : RW cI cZ q thr kp Wn made adr fl rem num rfs root own half top coll mins movd size row plc old w) (j : Nat) (hj : j < 2000) (hdg : decode cc pc = .ok (.iaload, 1)) (kk : W p l e R s m args below meth c H locs cells slots Q (F0 m (pc + 1) ls (.int (oI (plc j)) :: rest))) : W p l e R s m args below meth c H locs cells slots Q (F0 m pc ls (.int (nI j) :: .ref (q 9) :: rest)) :=
  mw_iald S hK hG 0 hR.aplc rfl j hj (nI_clamp (by omega)) (nI_pos (by omega)) hdg kk
theorem rs_plc (S : CallFix p m c cc nL s args wsL RX10) (hK : va_K (dC, dI) vwCl (tyL cI cZ cT) s) (hG : mG (dC, dI) vwCl A H0 w H locs) (hR : RW cI cZ q thr kp Wn made adr fl rem num rfs root own half top coll mins movd size row plc old w) (j : Nat) (x : Option Nat) (hj : j < 2000) (hdg : decode cc pc = .ok (.iastore, 1)) (kk : ∀ (w : mM) (H1 : Heap) (locs1 : List Loc), RW cI cZ q thr kp Wn made adr fl rem num rfs root own half top coll mins movd size row (va_up plc j x) old w → mG (dC, dI) vwCl A H0 w H1 locs1 → W p l e R s m args below meth c H1 locs1 cells slots Q (F0 m (pc + 1) ls rest)) : W p l e R s m args below meth c H locs cells slots Q (F0 m pc ls (.int (oI x) :: .int (nI j) :: .ref (q 9) :: rest)) :=
  mw_iast S hK hG 0 hR.aplc rfl j hj (nI_clamp (by omega)) (nI_pos (by omega)) hdg (fun H1 locs1 hG1 => kk _ H1 locs1 (IW.upd (cell2 := cellR cI cZ q thr kp Wn made adr fl rem num rfs root own half top coll mins movd size row (va_up plc j x) old) hR 9 (by decide) (fun i hi hn => by rcases i with _|_|_|_|_|_|_|_|_|_|_|i <;> first | rfl | exact absurd rfl hn | (exfalso; omega))) (by rw [up_map oI] at hG1; exact hG1))
theorem rl_old (S : CallFix p m c cc nL s args wsL RX10) (hK : va_K (dC, dI) vwCl (tyL cI cZ cT) s) (hG : mG (dC, dI) vwCl A H0 w H locs) (hR : RW cI cZ q thr kp Wn made adr fl rem num rfs root own half top coll mins movd size row plc old w) (j : Nat) (hj : j < 400) (hdg : decode cc pc = .ok (.iaload, 1)) (kk : W p l e R s m args below meth c H locs cells slots Q (F0 m (pc + 1) ls (.int (oI (old j)) :: rest))) : W p l e R s m args below meth c H locs cells slots Q (F0 m pc ls (.int (nI j) :: .ref (q 10) :: rest)) :=
  mw_iald S hK hG 0 hR.aold rfl j hj (nI_clamp (by omega)) (nI_pos (by omega)) hdg kk
theorem rs_old (S : CallFix p m c cc nL s args wsL RX10) (hK : va_K (dC, dI) vwCl (tyL cI cZ cT) s) (hG : mG (dC, dI) vwCl A H0 w H locs) (hR : RW cI cZ q thr kp Wn made adr fl rem num rfs root own half top coll mins movd size row plc old w) (j : Nat) (x : Option Nat) (hj : j < 400) (hdg : decode cc pc = .ok (.iastore, 1)) (kk : ∀ (w : mM) (H1 : Heap) (locs1 : List Loc), RW cI cZ q thr kp Wn made adr fl rem num rfs root own half top coll mins movd size row plc (va_up old j x) w → mG (dC, dI) vwCl A H0 w H1 locs1 → W p l e R s m args below meth c H1 locs1 cells slots Q (F0 m (pc + 1) ls rest)) : W p l e R s m args below meth c H locs cells slots Q (F0 m pc ls (.int (oI x) :: .int (nI j) :: .ref (q 10) :: rest)) :=
  mw_iast S hK hG 0 hR.aold rfl j hj (nI_clamp (by omega)) (nI_pos (by omega)) hdg (fun H1 locs1 hG1 => kk _ H1 locs1 (IW.upd (cell2 := cellR cI cZ q thr kp Wn made adr fl rem num rfs root own half top coll mins movd size row plc (va_up old j x)) hR 10 (by decide) (fun i hi hn => by rcases i with _|_|_|_|_|_|_|_|_|_|_|i <;> first | rfl | exact absurd rfl hn | (exfalso; omega))) (by rw [up_map oI] at hG1; exact hG1))
end RR
end
section
/-! PURE WORDS that both sides share: indices, first fit, walks by lists -/
def inR (n : Nat) (x : Int32) : Bool := decide (0 ≤ x.toInt ∧ x.toInt < n)
theorem inR_ex {n : Nat} (hn : n < 2 ^ 31) {x : Int32} (h : inR n x = true) : ∃ j : Nat, j < n ∧ x = nI j := by
  have h := of_decide_eq_true h
  refine ⟨x.toInt.toNat, by omega, ?_⟩
  apply Int32.toInt_inj.mp
  rw [nI_toInt (by omega)]
  omega
theorem inR_nI {n j : Nat} (hj : j < n) (hn : n < 2 ^ 31) : inR n (nI j) = true := by
  unfold inR
  rw [nI_toInt (by omega)]
  exact decide_eq_true ⟨by omega, by omega⟩
theorem lt_toInt {x y : Int32} : x < y ↔ x.toInt < y.toInt := Int32.lt_iff_toInt_lt
theorem le_toInt {x y : Int32} : x ≤ y ↔ x.toInt ≤ y.toInt := Int32.le_iff_toInt_le
theorem inR_lo {n : Nat} {x : Int32} (c : x < nI 0) : inR n x = false := by
  have h := lt_toInt.mp c
  rw [nI_toInt (by omega)] at h
  exact decide_eq_false (fun z => by omega)
theorem inR_hi {n : Nat} {x : Int32} (hn : n < 2 ^ 31) (c : nI n ≤ x) : inR n x = false := by
  have h := le_toInt.mp c
  rw [nI_toInt hn] at h
  exact decide_eq_false (fun z => by omega)
theorem inR_hi2 {h : Nat} {x : Int32} (hn : h < 2 ^ 31) (c : nI h < x) : inR (h + 1) x = false := by
  have h := lt_toInt.mp c
  rw [nI_toInt hn] at h
  exact decide_eq_false (fun z => by omega)
theorem inR_t {n : Nat} {x : Int32} (hn : n < 2 ^ 31) (c1 : ¬ x < nI 0) (c2 : ¬ nI n ≤ x) : inR n x = true := by
  have h1 := Int.not_lt.mp (mt lt_toInt.mpr c1)
  have h2 := Int.not_le.mp (mt le_toInt.mpr c2)
  rw [nI_toInt (by omega)] at h1
  rw [nI_toInt hn] at h2
  exact decide_eq_true ⟨by omega, by omega⟩
theorem inR_t2 {h : Nat} {x : Int32} (hn : h < 2 ^ 30) (c1 : ¬ x < nI 0) (c2 : ¬ nI h < x) : inR (h + 1) x = true := by
  have h1 := Int.not_lt.mp (mt lt_toInt.mpr c1)
  have h2 := Int.not_lt.mp (mt lt_toInt.mpr c2)
  rw [nI_toInt (by omega)] at h1
  rw [nI_toInt (by omega)] at h2
  exact decide_eq_true ⟨by omega, by omega⟩
theorem bI_t {b : Bool} (h : ¬ bI b = 0) : b = true := by
  cases b with
  | false => exact absurd rfl h
  | true => rfl
theorem bI_f {b : Bool} (h : bI b = 0) : b = false := by
  cases b with
  | false => rfl
  | true => exact absurd h (by decide)
/-- a stretch of a row filled -/
def fillO (f : Nat → Option Nat) (a n : Nat) (v : Option Nat) : Nat → Option Nat := fun k => if a ≤ k ∧ k < a + n then v else f k
theorem fillO_0 (f : Nat → Option Nat) (a : Nat) (v : Option Nat) : fillO f a 0 v = f := by
  funext k
  unfold fillO
  rw [if_neg (by omega)]
theorem fillO_s (f : Nat → Option Nat) (a n : Nat) (v : Option Nat) : va_up (fillO f a n v) (a + n) v = fillO f a (n + 1) v := by
  funext k
  unfold fillO va_up
  by_cases h : k = a + n
  · rw [if_pos h, if_pos (by omega)]
  · rw [if_neg h]
    show (if a ≤ k ∧ k < a + n then v else f k) = _
    by_cases h2 : a ≤ k ∧ k < a + n
    · rw [if_pos h2, if_pos (by omega)]
    · rw [if_neg h2, if_neg (by omega)]
/-- first fit: free words so far, at word k -/
def fitR (own : Nat → Option Nat) (W many : Nat) : Nat → Nat → Nat → Option Nat
  | 0, _, _ => none
  | n + 1, k, fr => if k < W then (if (if own k = none then fr + 1 else 0) = many then some (k + 1 - many) else fitR own W many n (k + 1) (if own k = none then fr + 1 else 0)) else none
def fit (own : Nat → Option Nat) (W from_ many : Nat) : Option Nat := fitR own W many (W + 1 - from_) from_ 0
theorem fitR_ge {own : Nat → Option Nat} {W many n k fr : Nat} (h : W ≤ k) : fitR own W many n k fr = none := by
  cases n with
  | zero => rfl
  | succ n => unfold fitR; rw [if_neg (by omega)]
theorem fitR_hit {own : Nat → Option Nat} {W many n k fr : Nat} (h : k < W) (h2 : (if own k = none then fr + 1 else 0) = many) : fitR own W many (n + 1) k fr = some (k + 1 - many) := by
  rw [fitR.eq_2, if_pos h, if_pos h2]
theorem fitR_go {own : Nat → Option Nat} {W many n k fr : Nat} (h : k < W) (h2 : ¬ (if own k = none then fr + 1 else 0) = many) : fitR own W many (n + 1) k fr = fitR own W many n (k + 1) (if own k = none then fr + 1 else 0) := by
  rw [fitR.eq_2, if_pos h, if_neg h2]
/-- meetings, by lists -/
def mtL (ok : Nat → Bool) (L : List Nat) (o : Option Nat) : List Nat := match o with
  | none => L
  | some k => if ok k = true ∧ k ∉ L then L ++ [k] else L
def mtN (ok : Nat → Bool) (f : Nat → Option Nat) : Nat → List Nat → List Nat
  | 0, L => L
  | n + 1, L => mtL ok (mtN ok f n L) (f n)
def flw (ok : Nat → Bool) (fl : Nat → Nat) (rfs : Nat → Nat → Option Nat) : Nat → Nat → List Nat → List Nat
  | 0, _, L => L
  | n + 1, i, L => if i < L.length then flw ok fl rfs n (i + 1) (mtN ok (rfs (L.getD i 0)) (fl (L.getD i 0)) L) else L
def allOk : Nat → Bool := fun _ => true
end
section
def isOldR (kp Wn : Nat) (adr : Nat → Option Nat) (o : Nat) : Bool := decide (kp = 2) && (match adr o with | some a => decide (Wn / 4 ≤ a) | none => false)
theorem isOld_k {kp Wn : Nat} {adr : Nat → Option Nat} {o : Nat} (h : ¬ (kp = 2)) : isOldR kp Wn adr o = false := by unfold isOldR; rw [decide_eq_false h]; rfl
theorem isOld_n {kp Wn : Nat} {adr : Nat → Option Nat} {o : Nat} (h : adr o = none) : isOldR kp Wn adr o = false := by unfold isOldR; rw [h]; simp
theorem isOld_y {kp Wn : Nat} {adr : Nat → Option Nat} {o a : Nat} (h : adr o = some a) (h2 : a < Wn / 4) : isOldR kp Wn adr o = false := by unfold isOldR; rw [h]; simp; omega
theorem isOld_o {kp Wn : Nat} {adr : Nat → Option Nat} {o a : Nat} (hk : kp = 2) (h : adr o = some a) (h2 : ¬ (a < Wn / 4)) : isOldR kp Wn adr o = true := by unfold isOldR; rw [h]; simp; omega
theorem m1_lt {n : Nat} (h : n < 2147483648) : (-1 : Int32) < nI n := by
  apply lt_toInt.mpr
  rw [nI_toInt h]
  show (-1 : Int) < _
  omega
theorem cal_X10_in : mCal yX10_in cX10_in 3 3 (some .boolean) := ⟨in_387, by decide +kernel⟩
set_option maxHeartbeats 4000000 in
set_option maxRecDepth 100000 in
theorem r_in {l : Launch} {dC : Nat → ClassId} {dI : Nat → Nat → Nat} {cI cZ cT : ClassId} {w : mM} (x : Int32) (h : Nat) (hh : h < 1000) : mC l yX10_in (wsY yX10_in cX10_in 3 (some .boolean)) { frames := 0, cells := 0, slots := 0, locals := 0 } (dC, dI) vwCl (tyL cI cZ cT) 0 0 w [.int (x), .int (nI (0)), .int (nI (h))] (fun v w2 => v = some (.int (bI (inR (h + 1) x))) ∧ w2 = w) := by
  refine mC.on (by decide) (Nat.le_of_ble_eq_true rfl) ?_
  intro p e s m args below meth c ls S hr hlk hnm hK hN hG hl
  have hl : lv_has ls 3 [(0, .int (x)), (1, .int (nI (0))), (2, .int (nI (h)))] := hl
  generalize hAe : mA w s.heap.size = A at hG ⊢
  refine lv_iload_n S.1 S.2.1 dX10_in_0 rfl (lv_at hl 0 rfl) ?_
  refine lv_iload_n S.1 S.2.1 dX10_in_1 rfl (lv_at hl 1 rfl) ?_
  refine lv_icmp_lt (tgt := 14) S.1 S.2.1 dX10_in_2 (by decide) (fun c1 => ?_) (fun c1 => ?_)
  · refine lv_iconst (v := nI (0)) S.1 S.2.1 dX10_in_14 (by decide) ?_
    exact mw_zret S hr (by decide) hlk hK hG dX10_in_15 ⟨by rw [inR_lo c1]; rfl, rfl⟩
  · refine lv_iload_n S.1 S.2.1 dX10_in_5 rfl (lv_at hl 0 rfl) ?_
    refine lv_iload_n S.1 S.2.1 dX10_in_6 rfl (lv_at hl 2 rfl) ?_
    refine lv_icmp_gt (tgt := 14) S.1 S.2.1 dX10_in_7 (by decide) (fun c2 => ?_) (fun c2 => ?_)
    · refine lv_iconst (v := nI (0)) S.1 S.2.1 dX10_in_14 (by decide) ?_
      exact mw_zret S hr (by decide) hlk hK hG dX10_in_15 ⟨by rw [inR_hi2 (by omega) c2]; rfl, rfl⟩
    · refine lv_iconst (v := nI (1)) S.1 S.2.1 dX10_in_10 (by decide) ?_
      refine lv_goto (tgt := 15) S.1 S.2.1 dX10_in_11 (by decide) ?_
      exact mw_zret S hr (by decide) hlk hK hG dX10_in_15 ⟨by rw [inR_t2 (by omega) c1 c2]; rfl, rfl⟩
theorem cal_X10_isRoot : mCal yX10_isRoot cX10_isRoot 1 1 (some .boolean) := ⟨in_384, by decide +kernel⟩
set_option maxHeartbeats 4000000 in
set_option maxRecDepth 100000 in
theorem r_isRoot {l : Launch} {dC : Nat → ClassId} {dI : Nat → Nat → Nat} {cI cZ cT : ClassId} {w : mM} (x : Int32) : mC l yX10_isRoot (wsY yX10_isRoot cX10_isRoot 1 (some .boolean)) { frames := 1, cells := 0, slots := 0, locals := 22 } (dC, dI) vwCl (tyL cI cZ cT) 0 0 w [.int (x)] (fun v w2 => v = some (.int (bI (inR 16 x))) ∧ w2 = w) := by
  refine mC.on (by decide) (Nat.le_of_ble_eq_true rfl) ?_
  intro p e s m args below meth c ls S hr hlk hnm hK hN hG hl
  have hl : lv_has ls 1 [(0, .int (x))] := hl
  generalize hAe : mA w s.heap.size = A at hG ⊢
  refine lv_iload_n S.1 S.2.1 dX10_isRoot_0 rfl (lv_at hl 0 rfl) ?_
  refine lv_iconst (v := nI (0)) S.1 S.2.1 dX10_isRoot_1 (by decide) ?_
  refine lv_bipush (v := nI (15)) S.1 S.2.1 dX10_isRoot_2 (by decide) ?_
  refine mCS (As := [.int (x), .int (nI (0)), .int (nI (15))]) (rest := []) S (r_in x 15 (by decide)) cal_X10_in rfl in_385 in_386 in_5 hK hN hG rfl rfl hl.1 (Nat.le_of_ble_eq_true rfl) ⟨by decide, by decide⟩ ⟨rfl, rfl⟩ ⟨by decide, by decide⟩ dX10_isRoot_4 (fun v w H locs hp hG => ?_)
  obtain ⟨rfl, hw9⟩ := hp
  rw [hw9] at hG
  refine W.eq (g2 := F0 m 7 ls [.int (bI (inR 16 x))]) rfl ?_
  exact mw_zret S hr (bI_nar _) hlk hK hG dX10_isRoot_7 ⟨rfl, rfl⟩
theorem cal_X10_isOld : mCal yX10_isOld cX10_isOld 2 1 (some .boolean) := ⟨in_431, by decide +kernel⟩
set_option maxHeartbeats 4000000 in
set_option maxRecDepth 100000 in
theorem r_isOld {l : Launch} {dC : Nat → ClassId} {dI : Nat → Nat → Nat} {cI cZ cT : ClassId} {q : Nat → Nat} {thr : Int32} {kp : Nat} {Wn : Nat} {made : Nat} {adr : (Nat → Option Nat)} {fl : (Nat → Nat)} {rem : (Nat → Bool)} {num : (Nat → Nat → Int32)} {rfs : (Nat → Nat → Option Nat)} {root : (Nat → Option Nat)} {own : (Nat → Option Nat)} {half : Nat} {top : Nat} {coll : Nat} {mins : Nat} {movd : Nat} {size : Nat} {row : (Nat → Nat)} {plc : (Nat → Option Nat)} {old : (Nat → Option Nat)} {w : mM} (hR : RW cI cZ q thr kp Wn made adr fl rem num rfs root own half top coll mins movd size row plc old w) (o : Nat) (ho : o < 2000) (hW : Wn ≤ 400) (hk : kp ≤ 2) (ha : ∀ a, adr o = some a → a < 2147483648) : mC l yX10_isOld (wsY yX10_isOld cX10_isOld 2 (some .boolean)) { frames := 0, cells := 0, slots := 0, locals := 0 } (dC, dI) vwCl (tyL cI cZ cT) 0 0 w [.ref (q 0), .int (nI (o))] (fun v w2 => v = some (.int (bI (isOldR kp Wn adr o))) ∧ w2 = w) := by
  refine mC.on (by decide) (Nat.le_of_ble_eq_true rfl) ?_
  intro p e s m args below meth c ls S hr hlk hnm hK hN hG hl
  have hl : lv_has ls 2 [(0, .ref (q 0)), (1, .int (nI (o)))] := hl
  generalize hAe : mA w s.heap.size = A at hG ⊢
  refine lv_aload_n S.1 S.2.1 dX10_isOld_0 rfl (lv_at hl 0 rfl) ?_
  refine rg_kp S hK hG hR dX10_isOld_1 ?_
  refine lv_iconst (v := nI (2)) S.1 S.2.1 dX10_isOld_4 (by decide) ?_
  refine lv_icmp_ne (tgt := 27) S.1 S.2.1 dX10_isOld_5 (by decide) (fun c1 => ?_) (fun c1 => ?_)
  · have c1 : ¬ (kp = 2) := fun h9 => c1 ((nI_eq (a := kp) (b := 2) (by omega) (by omega)).mpr h9)
    refine lv_iconst (v := nI (0)) S.1 S.2.1 dX10_isOld_27 (by decide) ?_
    exact mw_zret S hr (by decide) hlk hK hG dX10_isOld_28 ⟨by rw [isOld_k c1]; rfl, rfl⟩
  · have c1 : kp = 2 := (nI_eq (a := kp) (b := 2) (by omega) (by omega)).mp c1
    refine lv_aload_n S.1 S.2.1 dX10_isOld_8 rfl (lv_at hl 0 rfl) ?_
    refine rg_adr S hK hG hR dX10_isOld_9 ?_
    refine lv_iload_n S.1 S.2.1 dX10_isOld_12 rfl (lv_at hl 1 rfl) ?_
    refine rl_adr S hK hG hR (o) (by omega) dX10_isOld_13 ?_
    refine lv_aload_n S.1 S.2.1 dX10_isOld_14 rfl (lv_at hl 0 rfl) ?_
    refine rg_Wn S hK hG hR dX10_isOld_15 ?_
    refine lv_iconst (v := nI (4)) S.1 S.2.1 dX10_isOld_18 (by decide) ?_
    refine lv_idiv S.1 S.2.1 dX10_isOld_19 (by decide) ?_
    refine lv_eqi (pk_div (by omega) (by omega) (by omega)) ?_
    cases hao : adr o with
    | none =>
      refine lv_icmp_lt (tgt := 27) S.1 S.2.1 dX10_isOld_20 (by decide) (fun c => ?_) (fun c => ?_)
      · refine lv_iconst (v := nI (0)) S.1 S.2.1 dX10_isOld_27 (by decide) ?_
        exact mw_zret S hr (by decide) hlk hK hG dX10_isOld_28 ⟨by rw [isOld_n hao]; rfl, rfl⟩
      · exact absurd (m1_lt (by omega)) c
    | some a =>
      have ha2 := ha a hao
      refine lv_icmp_lt (tgt := 27) S.1 S.2.1 dX10_isOld_20 (by decide) (fun c2 => ?_) (fun c2 => ?_)
      · have c2 : a < (Wn / 4) := (nI_ltI (a := a) (b := Wn / 4) (by omega) (by omega)).mp c2
        refine lv_iconst (v := nI (0)) S.1 S.2.1 dX10_isOld_27 (by decide) ?_
        exact mw_zret S hr (by decide) hlk hK hG dX10_isOld_28 ⟨by rw [isOld_y hao c2]; rfl, rfl⟩
      · have c2 : ¬ (a < (Wn / 4)) := fun h9 => c2 ((nI_ltI (a := a) (b := Wn / 4) (by omega) (by omega)).mpr h9)
        refine lv_iconst (v := nI (1)) S.1 S.2.1 dX10_isOld_23 (by decide) ?_
        refine lv_goto (tgt := 28) S.1 S.2.1 dX10_isOld_24 (by decide) ?_
        exact mw_zret S hr (by decide) hlk hK hG dX10_isOld_28 ⟨by rw [isOld_o c1 hao c2]; rfl, rfl⟩
theorem cal_X10_leave : mCal yX10_leave cX10_leave 3 1 none := ⟨in_439, by decide +kernel⟩
set_option maxHeartbeats 4000000 in
set_option maxRecDepth 100000 in
theorem r_leave {l : Launch} {dC : Nat → ClassId} {dI : Nat → Nat → Nat} {cI cZ cT : ClassId} {q : Nat → Nat} {thr : Int32} {kp : Nat} {Wn : Nat} {made : Nat} {adr : (Nat → Option Nat)} {fl : (Nat → Nat)} {rem : (Nat → Bool)} {num : (Nat → Nat → Int32)} {rfs : (Nat → Nat → Option Nat)} {root : (Nat → Option Nat)} {own : (Nat → Option Nat)} {half : Nat} {top : Nat} {coll : Nat} {mins : Nat} {movd : Nat} {size : Nat} {row : (Nat → Nat)} {plc : (Nat → Option Nat)} {old : (Nat → Option Nat)} {w : mM} (hR : RW cI cZ q thr kp Wn made adr fl rem num rfs root own half top coll mins movd size row plc old w) (o a : Nat) (ho : o < 2000) (ha : adr o = some a) (hb : a + fl o < 400)  : mC l yX10_leave (wsY yX10_leave cX10_leave 3 none) { frames := 0, cells := 0, slots := 0, locals := 0 } (dC, dI) vwCl (tyL cI cZ cT) 0 0 w [.ref (q 0), .int (nI (o))] (fun v w2 => v = none ∧ RW cI cZ q thr kp Wn made adr fl rem num rfs root (fillO own a (fl o + 1) none) half top coll mins movd size row plc old w2) := by
  refine mC.on (by decide) (Nat.le_of_ble_eq_true rfl) ?_
  intro p e s m args below meth c ls S hr hlk hnm hK hN hG hl
  have hl : lv_has ls 3 [(0, .ref (q 0)), (1, .int (nI (o)))] := hl
  generalize hAe : mA w s.heap.size = A at hG ⊢
  refine lv_iconst (v := nI (0)) S.1 S.2.1 dX10_leave_0 (by decide) ?_
  refine lv_istore_n (lv' := [(2, .int (nI (0))), (0, .ref (q 0)), (1, .int (nI (o)))]) S.1 S.2.1 dX10_leave_1 rfl hl (by decide) rfl (fun ls hl => ?_)
  have L : ∀ (fu : Nat) (k : Nat), fl o + 1 - k < fu → (k ≤ fl o + 1) → ∀ (w : mM) (H : Heap) (locs : List Loc), RW cI cZ q thr kp Wn made adr fl rem num rfs root (fillO own a k none) half top coll mins movd size row plc old w → mG (dC, dI) vwCl A s.heap w H locs → ∀ ls : Array Slot, lv_has ls 3 [(2, .int (nI (k))), (0, .ref (q 0)), (1, .int (nI (o)))] → W p l e { frames := 0, cells := 0, slots := 0, locals := 0 } s m args below meth c H locs 0 0 (MQ below (mQ (dC, dI) vwCl (tyL cI cZ cT) (fun v w2 => v = none ∧ RW cI cZ q thr kp Wn made adr fl rem num rfs root (fillO own a (fl o + 1) none) half top coll mins movd size row plc old w2) A) args s 0 0 A) (F0 m 2 ls []) := by
    intro fu
    induction fu with
    | zero => intro k h1; exact absurd h1 (Nat.not_lt_zero _)
    | succ fu ihL =>
      intro k h1 h2 w H locs hR hG ls hl
      refine lv_iload_n S.1 S.2.1 dX10_leave_2 rfl (lv_at hl 0 rfl) ?_
      refine lv_aload_n S.1 S.2.1 dX10_leave_3 rfl (lv_at hl 1 rfl) ?_
      refine rg_fl S hK hG hR dX10_leave_4 ?_
      refine lv_iload_n S.1 S.2.1 dX10_leave_7 rfl (lv_at hl 2 rfl) ?_
      refine rl_fl S hK hG hR (o) (by omega) dX10_leave_8 ?_
      refine lv_icmp_gt (tgt := 32) S.1 S.2.1 dX10_leave_9 (by decide) (fun c1 => ?_) (fun c1 => ?_)
      · have c1 : (fl o) < k := (nI_ltI (a := fl o) (b := k) (by omega) (by omega)).mp c1
        have hk : k = fl o + 1 := by omega
        subst hk
        exact mw_vret S hr hlk hK hG dX10_leave_32 ⟨rfl, hR⟩
      · have c1 : ¬ ((fl o) < k) := fun h9 => c1 ((nI_ltI (a := fl o) (b := k) (by omega) (by omega)).mpr h9)
        refine lv_aload_n S.1 S.2.1 dX10_leave_12 rfl (lv_at hl 1 rfl) ?_
        refine rg_own S hK hG hR dX10_leave_13 ?_
        refine lv_aload_n S.1 S.2.1 dX10_leave_16 rfl (lv_at hl 1 rfl) ?_
        refine rg_adr S hK hG hR dX10_leave_17 ?_
        refine lv_iload_n S.1 S.2.1 dX10_leave_20 rfl (lv_at hl 2 rfl) ?_
        refine rl_adr S hK hG hR (o) (by omega) dX10_leave_21 ?_
        refine lv_eqi (y := nI (a)) (by show oI (adr o) = _; rw [ha]; rfl) ?_
        refine lv_iload_n S.1 S.2.1 dX10_leave_22 rfl (lv_at hl 0 rfl) ?_
        refine lv_iadd S.1 S.2.1 dX10_leave_23 ?_
        refine lv_eqi (nI_add _ _) ?_
        refine lv_iconst (v := -1) S.1 S.2.1 dX10_leave_24 (by decide) ?_
        refine rs_own S hK hG hR (a + k) (none) (by omega) dX10_leave_25 (fun w H locs hR hG => ?_)
        rw [fillO_s] at hR
        refine lv_iinc (v := nI (k + 1)) (lv' := [(2, .int (nI (k + 1))), (0, .ref (q 0)), (1, .int (nI (o)))]) S.1 S.2.1 dX10_leave_26 hl (k := 0) rfl (nI_1 _) (by decide) rfl (fun ls hl => ?_)
        refine lv_goto (tgt := 2) S.1 S.2.1 dX10_leave_29 (by decide) ?_
        exact ihL (k + 1) (by omega) (by omega) _ _ _ hR hG ls (lv_sub hl [0, 1, 2] rfl)
  exact L (fl o + 2) 0 (by omega) (by omega) _ _ _ (by rw [fillO_0]; exact hR) hG ls (lv_sub hl [0, 1, 2] rfl)
end
section
def clrO (f : Nat → Option Nat) (n : Nat) : Nat → Option Nat := fun k => if k < n then none else f k
theorem clrO_0 (f : Nat → Option Nat) : clrO f 0 = f := by
  funext k
  unfold clrO
  rw [if_neg (by omega)]
theorem clrO_s (f : Nat → Option Nat) (n : Nat) : va_up (clrO f n) n none = clrO f (n + 1) := by
  funext k
  unfold va_up
  by_cases h : k = n
  · rw [if_pos h]
    unfold clrO
    rw [if_pos (by omega)]
  · rw [if_neg h]
    unfold clrO
    by_cases h2 : k < n
    · rw [if_pos h2, if_pos (by omega)]
    · rw [if_neg h2, if_neg (by omega)]
theorem nI_subp {k m : Nat} (h : m ≤ k + 1) : nI k - nI m + nI 1 = nI (k + 1 - m) := by
  have h1 : nI (k + 1 - m) + nI m = nI k + nI 1 := by rw [nI_add, nI_add]; congr 1; omega
  rw [Int32.sub_eq_add_neg, Int32.add_assoc, Int32.add_comm (-nI m), ← Int32.add_assoc, ← h1, Int32.add_assoc, ← Int32.sub_eq_add_neg, Int32.sub_self, Int32.add_zero]
theorem cal_X10_lie : mCal yX10_lie cX10_lie 4 2 none := ⟨in_443, by decide +kernel⟩
set_option maxHeartbeats 4000000 in
set_option maxRecDepth 100000 in
theorem r_lie {l : Launch} {dC : Nat → ClassId} {dI : Nat → Nat → Nat} {cI cZ cT : ClassId} {q : Nat → Nat} {thr : Int32} {kp : Nat} {Wn : Nat} {made : Nat} {adr : (Nat → Option Nat)} {fl : (Nat → Nat)} {rem : (Nat → Bool)} {num : (Nat → Nat → Int32)} {rfs : (Nat → Nat → Option Nat)} {root : (Nat → Option Nat)} {own : (Nat → Option Nat)} {half : Nat} {top : Nat} {coll : Nat} {mins : Nat} {movd : Nat} {size : Nat} {row : (Nat → Nat)} {plc : (Nat → Option Nat)} {old : (Nat → Option Nat)} {w : mM} (hR : RW cI cZ q thr kp Wn made adr fl rem num rfs root own half top coll mins movd size row plc old w) (o a : Nat) (ho : o < 2000) (hb : a + fl o < 400) : mC l yX10_lie (wsY yX10_lie cX10_lie 4 none) { frames := 0, cells := 0, slots := 0, locals := 0 } (dC, dI) vwCl (tyL cI cZ cT) 0 0 w [.ref (q 0), .int (nI (o)), .int (nI (a))] (fun v w2 => v = none ∧ RW cI cZ q thr kp Wn made (va_up adr o (some a)) fl rem num rfs root (fillO own a (fl o + 1) (some o)) half top coll mins movd size row plc old w2) := by
  refine mC.on (by decide) (Nat.le_of_ble_eq_true rfl) ?_
  intro p e s m args below meth c ls S hr hlk hnm hK hN hG hl
  have hl : lv_has ls 4 [(0, .ref (q 0)), (1, .int (nI (o))), (2, .int (nI (a)))] := hl
  generalize hAe : mA w s.heap.size = A at hG ⊢
  refine lv_aload_n S.1 S.2.1 dX10_lie_0 rfl (lv_at hl 0 rfl) ?_
  refine rg_adr S hK hG hR dX10_lie_1 ?_
  refine lv_iload_n S.1 S.2.1 dX10_lie_4 rfl (lv_at hl 1 rfl) ?_
  refine lv_iload_n S.1 S.2.1 dX10_lie_5 rfl (lv_at hl 2 rfl) ?_
  refine rs_adr S hK hG hR (o) (some (a)) (by omega) dX10_lie_6 (fun w H locs hR hG => ?_)
  refine lv_iconst (v := nI (0)) S.1 S.2.1 dX10_lie_7 (by decide) ?_
  refine lv_istore_n (lv' := [(3, .int (nI (0))), (0, .ref (q 0)), (1, .int (nI (o))), (2, .int (nI (a)))]) S.1 S.2.1 dX10_lie_8 rfl hl (by decide) rfl (fun ls hl => ?_)
  have L : ∀ (fu : Nat) (k : Nat), fl o + 1 - k < fu → (k ≤ fl o + 1) → ∀ (w : mM) (H : Heap) (locs : List Loc), RW cI cZ q thr kp Wn made (va_up adr o (some a)) fl rem num rfs root (fillO own a k (some o)) half top coll mins movd size row plc old w → mG (dC, dI) vwCl A s.heap w H locs → ∀ ls : Array Slot, lv_has ls 4 [(3, .int (nI (k))), (0, .ref (q 0)), (1, .int (nI (o))), (2, .int (nI (a)))] → W p l e { frames := 0, cells := 0, slots := 0, locals := 0 } s m args below meth c H locs 0 0 (MQ below (mQ (dC, dI) vwCl (tyL cI cZ cT) (fun v w2 => v = none ∧ RW cI cZ q thr kp Wn made (va_up adr o (some a)) fl rem num rfs root (fillO own a (fl o + 1) (some o)) half top coll mins movd size row plc old w2) A) args s 0 0 A) (F0 m 9 ls []) := by
    intro fu
    induction fu with
    | zero => intro k h1; exact absurd h1 (Nat.not_lt_zero _)
    | succ fu ihL =>
      intro k h1 h2 w H locs hR hG ls hl
      refine lv_iload_n S.1 S.2.1 dX10_lie_9 rfl (lv_at hl 0 rfl) ?_
      refine lv_aload_n S.1 S.2.1 dX10_lie_10 rfl (lv_at hl 1 rfl) ?_
      refine rg_fl S hK hG hR dX10_lie_11 ?_
      refine lv_iload_n S.1 S.2.1 dX10_lie_14 rfl (lv_at hl 2 rfl) ?_
      refine rl_fl S hK hG hR (o) (by omega) dX10_lie_15 ?_
      refine lv_icmp_gt (tgt := 34) S.1 S.2.1 dX10_lie_16 (by decide) (fun c1 => ?_) (fun c1 => ?_)
      · have c1 : (fl o) < k := (nI_ltI (a := fl o) (b := k) (by omega) (by omega)).mp c1
        have hk : k = fl o + 1 := by omega
        subst hk
        exact mw_vret S hr hlk hK hG dX10_lie_34 ⟨rfl, hR⟩
      · have c1 : ¬ ((fl o) < k) := fun h9 => c1 ((nI_ltI (a := fl o) (b := k) (by omega) (by omega)).mpr h9)
        refine lv_aload_n S.1 S.2.1 dX10_lie_19 rfl (lv_at hl 1 rfl) ?_
        refine rg_own S hK hG hR dX10_lie_20 ?_
        refine lv_iload_n S.1 S.2.1 dX10_lie_23 rfl (lv_at hl 3 rfl) ?_
        refine lv_iload_n S.1 S.2.1 dX10_lie_24 rfl (lv_at hl 0 rfl) ?_
        refine lv_iadd S.1 S.2.1 dX10_lie_25 ?_
        refine lv_eqi (nI_add _ _) ?_
        refine lv_iload_n S.1 S.2.1 dX10_lie_26 rfl (lv_at hl 2 rfl) ?_
        refine rs_own S hK hG hR (a + k) (some (o)) (by omega) dX10_lie_27 (fun w H locs hR hG => ?_)
        rw [fillO_s] at hR
        refine lv_iinc (v := nI (k + 1)) (lv' := [(3, .int (nI (k + 1))), (0, .ref (q 0)), (1, .int (nI (o))), (2, .int (nI (a)))]) S.1 S.2.1 dX10_lie_28 hl (k := 0) rfl (nI_1 _) (by decide) rfl (fun ls hl => ?_)
        refine lv_goto (tgt := 9) S.1 S.2.1 dX10_lie_31 (by decide) ?_
        exact ihL (k + 1) (by omega) (by omega) _ _ _ hR hG ls (lv_sub hl [0, 1, 2, 3] rfl)
  exact L (fl o + 2) 0 (by omega) (by omega) _ _ _ (by rw [fillO_0]; exact hR) hG ls (lv_sub hl [0, 1, 2, 3] rfl)
theorem cal_X10_go : mCal yX10_go cX10_go 2 1 none := ⟨in_435, by decide +kernel⟩
set_option maxHeartbeats 4000000 in
set_option maxRecDepth 100000 in
theorem r_go {l : Launch} {dC : Nat → ClassId} {dI : Nat → Nat → Nat} {cI cZ cT : ClassId} {q : Nat → Nat} {thr : Int32} {kp : Nat} {Wn : Nat} {made : Nat} {adr : (Nat → Option Nat)} {fl : (Nat → Nat)} {rem : (Nat → Bool)} {num : (Nat → Nat → Int32)} {rfs : (Nat → Nat → Option Nat)} {root : (Nat → Option Nat)} {own : (Nat → Option Nat)} {half : Nat} {top : Nat} {coll : Nat} {mins : Nat} {movd : Nat} {size : Nat} {row : (Nat → Nat)} {plc : (Nat → Option Nat)} {old : (Nat → Option Nat)} {w : mM} (hR : RW cI cZ q thr kp Wn made adr fl rem num rfs root own half top coll mins movd size row plc old w) (o a : Nat) (ho : o < 2000) (ha : adr o = some a) (hb : a + fl o < 400) : mC l yX10_go (wsY yX10_go cX10_go 2 none) { frames := 1, cells := 0, slots := 0, locals := 22 } (dC, dI) vwCl (tyL cI cZ cT) 0 0 w [.ref (q 0), .int (nI (o))] (fun v w2 => v = none ∧ RW cI cZ q thr kp Wn made (va_up adr o none) fl (va_up rem o false) num rfs root (fillO own a (fl o + 1) none) half top coll mins movd size row plc old w2) := by
  refine mC.on (by decide) (Nat.le_of_ble_eq_true rfl) ?_
  intro p e s m args below meth c ls S hr hlk hnm hK hN hG hl
  have hl : lv_has ls 2 [(0, .ref (q 0)), (1, .int (nI (o)))] := hl
  generalize hAe : mA w s.heap.size = A at hG ⊢
  refine lv_aload_n S.1 S.2.1 dX10_go_0 rfl (lv_at hl 0 rfl) ?_
  refine lv_iload_n S.1 S.2.1 dX10_go_1 rfl (lv_at hl 1 rfl) ?_
  refine mCV (As := [.int (nI (o))]) (rest := []) S (r_leave hR o a ho ha hb) cal_X10_leave in_436 in_437 in_438 in_5 hK hN hG hR.obj rfl rfl rfl hl.1 (Nat.le_of_ble_eq_true rfl) ⟨by decide, by decide⟩ ⟨rfl, rfl⟩ ⟨by decide, by decide⟩ dX10_go_2 (fun v w H locs hp hG => ?_)
  obtain ⟨rfl, hR⟩ := hp
  refine W.eq (g2 := F0 m 5 ls []) rfl ?_
  refine lv_aload_n S.1 S.2.1 dX10_go_5 rfl (lv_at hl 0 rfl) ?_
  refine rg_adr S hK hG hR dX10_go_6 ?_
  refine lv_iload_n S.1 S.2.1 dX10_go_9 rfl (lv_at hl 1 rfl) ?_
  refine lv_iconst (v := -1) S.1 S.2.1 dX10_go_10 (by decide) ?_
  refine rs_adr S hK hG hR (o) (none) (by omega) dX10_go_11 (fun w H locs hR hG => ?_)
  refine lv_aload_n S.1 S.2.1 dX10_go_12 rfl (lv_at hl 0 rfl) ?_
  refine rg_rem S hK hG hR dX10_go_13 ?_
  refine lv_iload_n S.1 S.2.1 dX10_go_16 rfl (lv_at hl 1 rfl) ?_
  refine lv_iconst (v := bI false) S.1 S.2.1 dX10_go_17 (by decide) ?_
  refine rs_rem S hK hG hR (o) (false) (by omega) dX10_go_18 (fun w H locs hR hG => ?_)
  exact mw_vret S hr hlk hK hG dX10_go_19 ⟨rfl, hR⟩
theorem cal_X10_fit : mCal yX10_fit cX10_fit 5 2 (some .int) := ⟨in_396, by decide +kernel⟩
set_option maxHeartbeats 4000000 in
set_option maxRecDepth 100000 in
theorem r_fit {l : Launch} {dC : Nat → ClassId} {dI : Nat → Nat → Nat} {cI cZ cT : ClassId} {q : Nat → Nat} {thr : Int32} {kp : Nat} {Wn : Nat} {made : Nat} {adr : (Nat → Option Nat)} {fl : (Nat → Nat)} {rem : (Nat → Bool)} {num : (Nat → Nat → Int32)} {rfs : (Nat → Nat → Option Nat)} {root : (Nat → Option Nat)} {own : (Nat → Option Nat)} {half : Nat} {top : Nat} {coll : Nat} {mins : Nat} {movd : Nat} {size : Nat} {row : (Nat → Nat)} {plc : (Nat → Option Nat)} {old : (Nat → Option Nat)} {w : mM} (hR : RW cI cZ q thr kp Wn made adr fl rem num rfs root own half top coll mins movd size row plc old w) (f many : Nat) (hf : f ≤ 400) (hm : 1 ≤ many) (hm2 : many ≤ 7) (hW : Wn ≤ 400) (ho : ∀ k x, own k = some x → x < 2147483648) : mC l yX10_fit (wsY yX10_fit cX10_fit 5 (some .int)) { frames := 0, cells := 0, slots := 0, locals := 0 } (dC, dI) vwCl (tyL cI cZ cT) 0 0 w [.ref (q 0), .int (nI (f)), .int (nI (many))] (fun v w2 => v = some (.int (oI (fit own Wn f many))) ∧ w2 = w) := by
  refine mC.on (by decide) (Nat.le_of_ble_eq_true rfl) ?_
  intro p e s m args below meth c ls S hr hlk hnm hK hN hG hl
  have hl : lv_has ls 5 [(0, .ref (q 0)), (1, .int (nI (f))), (2, .int (nI (many)))] := hl
  generalize hAe : mA w s.heap.size = A at hG ⊢
  refine lv_iconst (v := nI (0)) S.1 S.2.1 dX10_fit_0 (by decide) ?_
  refine lv_istore_n (lv' := [(3, .int (nI (0))), (0, .ref (q 0)), (1, .int (nI (f))), (2, .int (nI (many)))]) S.1 S.2.1 dX10_fit_1 rfl hl (by decide) rfl (fun ls hl => ?_)
  refine lv_iload_n S.1 S.2.1 dX10_fit_2 rfl (lv_at hl 2 rfl) ?_
  refine lv_istore (lv' := [(4, .int (nI (f))), (3, .int (nI (0))), (0, .ref (q 0)), (1, .int (nI (f))), (2, .int (nI (many)))]) S.1 S.2.1 dX10_fit_3 hl (by decide) rfl (fun ls hl => ?_)
  have L : ∀ (fu : Nat) (k : Nat) (fr : Nat), Wn + 1 - k < fu → (fr ≤ k) → (k ≤ 400) → (fitR own Wn many (Wn + 1 - k) k fr = fit own Wn f many) → ∀ ls : Array Slot, lv_has ls 5 [(4, .int (nI (k))), (3, .int (nI (fr))), (0, .ref (q 0)), (1, .int (nI (f))), (2, .int (nI (many)))] → W p l e { frames := 0, cells := 0, slots := 0, locals := 0 } s m args below meth c s.heap [] 0 0 (MQ below (mQ (dC, dI) vwCl (tyL cI cZ cT) (fun v w2 => v = some (.int (oI (fit own Wn f many))) ∧ w2 = w) A) args s 0 0 A) (F0 m 5 ls []) := by
    intro fu
    induction fu with
    | zero => intro k fr h1; exact absurd h1 (Nat.not_lt_zero _)
    | succ fu ihL =>
      intro k fr h1 h2 h3 h4 ls hl
      refine lv_iload S.1 S.2.1 dX10_fit_5 (lv_at hl 0 rfl) ?_
      refine lv_aload_n S.1 S.2.1 dX10_fit_7 rfl (lv_at hl 2 rfl) ?_
      refine rg_Wn S hK hG hR dX10_fit_8 ?_
      refine lv_icmp_ge (tgt := 51) S.1 S.2.1 dX10_fit_11 (by decide) (fun c1 => ?_) (fun c1 => ?_)
      · have c1 : Wn ≤ k := (nI_leI (a := Wn) (b := k) (by omega) (by omega)).mp c1
        refine lv_iconst (v := -1) S.1 S.2.1 dX10_fit_51 (by decide) ?_
        rw [fitR_ge c1] at h4
        exact mw_iret S hr hlk hK hG dX10_fit_52 ⟨by rw [← h4]; rfl, rfl⟩
      · have c1 : ¬ (Wn ≤ k) := fun h9 => c1 ((nI_leI (a := Wn) (b := k) (by omega) (by omega)).mpr h9)
        refine lv_aload_n S.1 S.2.1 dX10_fit_14 rfl (lv_at hl 2 rfl) ?_
        refine rg_own S hK hG hR dX10_fit_15 ?_
        refine lv_iload S.1 S.2.1 dX10_fit_18 (lv_at hl 0 rfl) ?_
        refine rl_own S hK hG hR (k) (by omega) dX10_fit_20 ?_
        refine lv_iconst (v := -1) S.1 S.2.1 dX10_fit_21 (by decide) ?_
        have hn : Wn + 1 - k = (Wn - k) + 1 := by omega
        rw [hn] at h4
        refine lv_icmp_ne (tgt := 31) S.1 S.2.1 dX10_fit_22 (by decide) (fun c2 => ?_) (fun c2 => ?_)
        · have c2 : ¬ own k = none := fun z => c2 ((oI_m1 (ho k)).mpr z)
          refine lv_iconst (v := nI (0)) S.1 S.2.1 dX10_fit_31 (by decide) ?_
          refine lv_istore_n (lv' := [(3, .int (nI (0))), (4, .int (nI (k))), (0, .ref (q 0)), (1, .int (nI (f))), (2, .int (nI (many)))]) S.1 S.2.1 dX10_fit_32 rfl hl (by decide) rfl (fun ls hl => ?_)
          refine lv_iload_n S.1 S.2.1 dX10_fit_33 rfl (lv_at hl 0 rfl) ?_
          refine lv_iload_n S.1 S.2.1 dX10_fit_34 rfl (lv_at hl 4 rfl) ?_
          refine lv_icmp_ne (tgt := 45) S.1 S.2.1 dX10_fit_35 (by decide) (fun c3 => ?_) (fun c3 => ?_)
          · have c3 : ¬ (0 = many) := fun h9 => c3 ((nI_eq (a := 0) (b := many) (by omega) (by omega)).mpr h9)
            rw [fitR_go (by omega) (by rw [if_neg c2]; exact c3)] at h4
            refine lv_iinc (v := nI (k + 1)) (lv' := [(4, .int (nI (k + 1))), (3, .int (nI (0))), (0, .ref (q 0)), (1, .int (nI (f))), (2, .int (nI (many)))]) S.1 S.2.1 dX10_fit_45 hl (k := 1) rfl (nI_1 _) (by decide) rfl (fun ls hl => ?_)
            refine lv_goto (tgt := 5) S.1 S.2.1 dX10_fit_48 (by decide) ?_
            rw [show (if own k = none then fr + 1 else 0) = 0 by rw [if_neg c2], show Wn - k = Wn + 1 - (k + 1) by omega] at h4
            exact ihL (k + 1) (0) (by omega) (by omega) (by omega) h4 ls (lv_sub hl [0, 1, 2, 3, 4] rfl)
          · have c3 : 0 = many := (nI_eq (a := 0) (b := many) (by omega) (by omega)).mp c3
            rw [fitR_hit (by omega) (by rw [if_neg c2]; exact c3)] at h4
            refine lv_iload S.1 S.2.1 dX10_fit_38 (lv_at hl 1 rfl) ?_
            refine lv_iload_n S.1 S.2.1 dX10_fit_40 rfl (lv_at hl 4 rfl) ?_
            refine lv_isub S.1 S.2.1 dX10_fit_41 ?_
            refine lv_iconst (v := nI (1)) S.1 S.2.1 dX10_fit_42 (by decide) ?_
            refine lv_iadd S.1 S.2.1 dX10_fit_43 ?_
            refine lv_eqi (nI_subp (by omega)) ?_
            exact mw_iret S hr hlk hK hG dX10_fit_44 ⟨by rw [← h4]; rfl, rfl⟩
        · have c2 : own k = none := (oI_m1 (ho k)).mp c2
          refine lv_iload_n S.1 S.2.1 dX10_fit_25 rfl (lv_at hl 1 rfl) ?_
          refine lv_iconst (v := nI (1)) S.1 S.2.1 dX10_fit_26 (by decide) ?_
          refine lv_iadd S.1 S.2.1 dX10_fit_27 ?_
          refine lv_eqi (nI_add _ _) ?_
          refine lv_goto (tgt := 32) S.1 S.2.1 dX10_fit_28 (by decide) ?_
          refine lv_istore_n (lv' := [(3, .int (nI (fr + 1))), (4, .int (nI (k))), (0, .ref (q 0)), (1, .int (nI (f))), (2, .int (nI (many)))]) S.1 S.2.1 dX10_fit_32 rfl hl (by decide) rfl (fun ls hl => ?_)
          refine lv_iload_n S.1 S.2.1 dX10_fit_33 rfl (lv_at hl 0 rfl) ?_
          refine lv_iload_n S.1 S.2.1 dX10_fit_34 rfl (lv_at hl 4 rfl) ?_
          refine lv_icmp_ne (tgt := 45) S.1 S.2.1 dX10_fit_35 (by decide) (fun c3 => ?_) (fun c3 => ?_)
          · have c3 : ¬ ((fr + 1) = many) := fun h9 => c3 ((nI_eq (a := fr + 1) (b := many) (by omega) (by omega)).mpr h9)
            rw [fitR_go (by omega) (by rw [if_pos c2]; exact c3)] at h4
            refine lv_iinc (v := nI (k + 1)) (lv' := [(4, .int (nI (k + 1))), (3, .int (nI (fr + 1))), (0, .ref (q 0)), (1, .int (nI (f))), (2, .int (nI (many)))]) S.1 S.2.1 dX10_fit_45 hl (k := 1) rfl (nI_1 _) (by decide) rfl (fun ls hl => ?_)
            refine lv_goto (tgt := 5) S.1 S.2.1 dX10_fit_48 (by decide) ?_
            rw [show (if own k = none then fr + 1 else 0) = fr + 1 by rw [if_pos c2], show Wn - k = Wn + 1 - (k + 1) by omega] at h4
            exact ihL (k + 1) (fr + 1) (by omega) (by omega) (by omega) h4 ls (lv_sub hl [0, 1, 2, 3, 4] rfl)
          · have c3 : (fr + 1) = many := (nI_eq (a := fr + 1) (b := many) (by omega) (by omega)).mp c3
            rw [fitR_hit (by omega) (by rw [if_pos c2]; exact c3)] at h4
            refine lv_iload S.1 S.2.1 dX10_fit_38 (lv_at hl 1 rfl) ?_
            refine lv_iload_n S.1 S.2.1 dX10_fit_40 rfl (lv_at hl 4 rfl) ?_
            refine lv_isub S.1 S.2.1 dX10_fit_41 ?_
            refine lv_iconst (v := nI (1)) S.1 S.2.1 dX10_fit_42 (by decide) ?_
            refine lv_iadd S.1 S.2.1 dX10_fit_43 ?_
            refine lv_eqi (nI_subp (by omega)) ?_
            exact mw_iret S hr hlk hK hG dX10_fit_44 ⟨by rw [← h4]; rfl, rfl⟩
  exact L (Wn + 2) f 0 (by omega) (by omega) (by omega) rfl ls (lv_sub hl [0, 1, 2, 3, 4] rfl)
theorem cal_X10_begin : mCal yX10_begin cX10_begin 2 0 none := ⟨in_415, by decide +kernel⟩
set_option maxHeartbeats 4000000 in
set_option maxRecDepth 100000 in
theorem r_begin {l : Launch} {dC : Nat → ClassId} {dI : Nat → Nat → Nat} {cI cZ cT : ClassId} {q : Nat → Nat} {thr : Int32} {kp : Nat} {Wn : Nat} {made : Nat} {adr : (Nat → Option Nat)} {fl : (Nat → Nat)} {rem : (Nat → Bool)} {num : (Nat → Nat → Int32)} {rfs : (Nat → Nat → Option Nat)} {root : (Nat → Option Nat)} {own : (Nat → Option Nat)} {half : Nat} {top : Nat} {coll : Nat} {mins : Nat} {movd : Nat} {size : Nat} {row : (Nat → Nat)} {plc : (Nat → Option Nat)} {old : (Nat → Option Nat)} {w : mM} (hR : RW cI cZ q thr kp Wn made adr fl rem num rfs root own half top coll mins movd size row plc old w) (hm : made ≤ 2000) : mC l yX10_begin (wsY yX10_begin cX10_begin 2 none) { frames := 0, cells := 0, slots := 0, locals := 0 } (dC, dI) vwCl (tyL cI cZ cT) 0 0 w [.ref (q 0)] (fun v w2 => v = none ∧ RW cI cZ q thr kp Wn made adr fl rem num rfs root own half top coll mins movd 0 row (clrO plc made) old w2) := by
  refine mC.on (by decide) (Nat.le_of_ble_eq_true rfl) ?_
  intro p e s m args below meth c ls S hr hlk hnm hK hN hG hl
  have hl : lv_has ls 2 [(0, .ref (q 0))] := hl
  generalize hAe : mA w s.heap.size = A at hG ⊢
  refine lv_aload_n S.1 S.2.1 dX10_begin_0 rfl (lv_at hl 0 rfl) ?_
  refine lv_iconst (v := nI (0)) S.1 S.2.1 dX10_begin_1 (by decide) ?_
  refine rp_size S hK hG hR (0) dX10_begin_2 (fun w H locs hR hG => ?_)
  refine lv_iconst (v := nI (0)) S.1 S.2.1 dX10_begin_5 (by decide) ?_
  refine lv_istore_n (lv' := [(1, .int (nI (0))), (0, .ref (q 0))]) S.1 S.2.1 dX10_begin_6 rfl hl (by decide) rfl (fun ls hl => ?_)
  have L : ∀ (fu : Nat) (k : Nat), made - k < fu → (k ≤ made) → ∀ (w : mM) (H : Heap) (locs : List Loc), RW cI cZ q thr kp Wn made adr fl rem num rfs root own half top coll mins movd 0 row (clrO plc k) old w → mG (dC, dI) vwCl A s.heap w H locs → ∀ ls : Array Slot, lv_has ls 2 [(1, .int (nI (k))), (0, .ref (q 0))] → W p l e { frames := 0, cells := 0, slots := 0, locals := 0 } s m args below meth c H locs 0 0 (MQ below (mQ (dC, dI) vwCl (tyL cI cZ cT) (fun v w2 => v = none ∧ RW cI cZ q thr kp Wn made adr fl rem num rfs root own half top coll mins movd 0 row (clrO plc made) old w2) A) args s 0 0 A) (F0 m 7 ls []) := by
    intro fu
    induction fu with
    | zero => intro k h1; exact absurd h1 (Nat.not_lt_zero _)
    | succ fu ihL =>
      intro k h1 h2 w H locs hR hG ls hl
      refine lv_iload_n S.1 S.2.1 dX10_begin_7 rfl (lv_at hl 0 rfl) ?_
      refine lv_aload_n S.1 S.2.1 dX10_begin_8 rfl (lv_at hl 1 rfl) ?_
      refine rg_made S hK hG hR dX10_begin_9 ?_
      refine lv_icmp_ge (tgt := 28) S.1 S.2.1 dX10_begin_12 (by decide) (fun c1 => ?_) (fun c1 => ?_)
      · have c1 : made ≤ k := (nI_leI (a := made) (b := k) (by omega) (by omega)).mp c1
        have hk : k = made := by omega
        subst hk
        exact mw_vret S hr hlk hK hG dX10_begin_28 ⟨rfl, hR⟩
      · have c1 : ¬ (made ≤ k) := fun h9 => c1 ((nI_leI (a := made) (b := k) (by omega) (by omega)).mpr h9)
        refine lv_aload_n S.1 S.2.1 dX10_begin_15 rfl (lv_at hl 1 rfl) ?_
        refine rg_plc S hK hG hR dX10_begin_16 ?_
        refine lv_iload_n S.1 S.2.1 dX10_begin_19 rfl (lv_at hl 0 rfl) ?_
        refine lv_iconst (v := -1) S.1 S.2.1 dX10_begin_20 (by decide) ?_
        refine rs_plc S hK hG hR (k) (none) (by omega) dX10_begin_21 (fun w H locs hR hG => ?_)
        rw [clrO_s] at hR
        refine lv_iinc (v := nI (k + 1)) (lv' := [(1, .int (nI (k + 1))), (0, .ref (q 0))]) S.1 S.2.1 dX10_begin_22 hl (k := 0) rfl (nI_1 _) (by decide) rfl (fun ls hl => ?_)
        refine lv_goto (tgt := 7) S.1 S.2.1 dX10_begin_25 (by decide) ?_
        exact ihL (k + 1) (by omega) (by omega) _ _ _ hR hG ls (lv_sub hl [0, 1] rfl)
  exact L (made + 1) 0 (by omega) (by omega) _ _ _ (by rw [clrO_0]; exact hR) hG ls (lv_sub hl [0, 1] rfl)
end
section
/-! lists of what has been met -/
theorem mtL_pre (ok : Nat → Bool) (L : List Nat) (o : Option Nat) : ∃ M, mtL ok L o = L ++ M := by
  unfold mtL
  cases o with
  | none => exact ⟨[], (List.append_nil L).symm⟩
  | some k =>
    by_cases h : ok k = true ∧ k ∉ L
    · exact ⟨[k], by simp only [if_pos h]⟩
    · exact ⟨[], by simp only [if_neg h, List.append_nil]⟩
theorem mtN_pre (ok : Nat → Bool) (f : Nat → Option Nat) (n : Nat) (L : List Nat) : ∃ M, mtN ok f n L = L ++ M := by
  induction n with
  | zero => exact ⟨[], (List.append_nil L).symm⟩
  | succ n ih =>
    obtain ⟨M, hM⟩ := ih
    obtain ⟨M2, hM2⟩ := mtL_pre ok (mtN ok f n L) (f n)
    refine ⟨M ++ M2, ?_⟩
    show mtL ok (mtN ok f n L) (f n) = _
    rw [hM2, hM, List.append_assoc]
theorem getD_pre {L M : List Nat} {i : Nat} (h : i < L.length) : (L ++ M).getD i 0 = L.getD i 0 := by
  simp [List.getD, List.getElem?_append_left h]
theorem getD_some {L : List Nat} {i : Nat} (h : i < L.length) : L[i]? = some (L.getD i 0) := by
  simp [List.getD, List.getElem?_eq_getElem h]
theorem getD_mem {L : List Nat} {i : Nat} (h : i < L.length) : L.getD i 0 ∈ L := List.mem_of_getElem? (getD_some h)
theorem mtL_nd {ok : Nat → Bool} {L : List Nat} {o : Option Nat} (h : L.Nodup) : (mtL ok L o).Nodup := by
  unfold mtL
  cases o with
  | none => exact h
  | some k =>
    by_cases h2 : ok k = true ∧ k ∉ L
    · simp only [if_pos h2]
      refine List.nodup_append.mpr ⟨h, List.nodup_cons.mpr ⟨List.not_mem_nil, List.nodup_nil⟩, ?_⟩
      intro x hx y hy
      rw [List.mem_singleton.mp hy]
      exact fun z => h2.2 (z ▸ hx)
    · simp only [if_neg h2]
      exact h
theorem mtL_all {ok : Nat → Bool} {L : List Nat} {o : Option Nat} {Kp : Nat → Prop} (h : ∀ x ∈ L, Kp x) (ho : ∀ k, o = some k → ok k = true → Kp k) : ∀ x ∈ mtL ok L o, Kp x := by
  unfold mtL
  cases o with
  | none => exact h
  | some k =>
    by_cases h2 : ok k = true ∧ k ∉ L
    · simp only [if_pos h2]
      intro x hx
      rcases List.mem_append.mp hx with hx | hx
      · exact h x hx
      · rw [List.mem_singleton.mp hx]; exact ho k rfl h2.1
    · simp only [if_neg h2]
      exact h
theorem mtN_nd {ok : Nat → Bool} {f : Nat → Option Nat} {L : List Nat} (h : L.Nodup) : ∀ n, (mtN ok f n L).Nodup
  | 0 => h
  | n + 1 => mtL_nd (mtN_nd h n)
theorem mtN_all {ok : Nat → Bool} {f : Nat → Option Nat} {L : List Nat} {Kp : Nat → Prop} (h : ∀ x ∈ L, Kp x) : ∀ n, (∀ i, i < n → ∀ k, f i = some k → ok k = true → Kp k) → ∀ x ∈ mtN ok f n L, Kp x
  | 0, _ => h
  | n + 1, hf => mtL_all (mtN_all h n (fun i hi => hf i (by omega))) (hf n (by omega))
theorem flw_nd {ok : Nat → Bool} {fl : Nat → Nat} {rfs : Nat → Nat → Option Nat} : ∀ (n i : Nat) (L : List Nat), L.Nodup → (flw ok fl rfs n i L).Nodup
  | 0, _, _, h => h
  | n + 1, i, L, h => by
    unfold flw
    split
    · exact flw_nd n (i + 1) _ (mtN_nd h _)
    · exact h
theorem flw_all {ok : Nat → Bool} {fl : Nat → Nat} {rfs : Nat → Nat → Option Nat} {Kp : Nat → Prop} (hf : ∀ x, Kp x → ∀ i, i < fl x → ∀ k, rfs x i = some k → ok k = true → Kp k) : ∀ (n i : Nat) (L : List Nat), (∀ x ∈ L, Kp x) → ∀ x ∈ flw ok fl rfs n i L, Kp x
  | 0, _, _, h => h
  | n + 1, i, L, h => by
    unfold flw
    split
    · rename_i hi
      exact flw_all hf n (i + 1) _ (mtN_all h _ (hf _ (h _ (getD_mem hi))))
    · exact h
theorem flw_pre {ok : Nat → Bool} {fl : Nat → Nat} {rfs : Nat → Nat → Option Nat} : ∀ (n i : Nat) (L : List Nat), ∃ M, flw ok fl rfs n i L = L ++ M
  | 0, _, L => ⟨[], (List.append_nil L).symm⟩
  | n + 1, i, L => by
    unfold flw
    split
    · obtain ⟨M, hM⟩ := mtN_pre ok (rfs (L.getD i 0)) (fl (L.getD i 0)) L
      obtain ⟨M2, hM2⟩ := flw_pre (ok := ok) (fl := fl) (rfs := rfs) n (i + 1) (mtN ok (rfs (L.getD i 0)) (fl (L.getD i 0)) L)
      exact ⟨M ++ M2, by rw [hM2, hM, List.append_assoc]⟩
    · exact ⟨[], (List.append_nil L).symm⟩
/-- the reference's walk: row, places and size hold the list -/
def Lst (made size : Nat) (row : Nat → Nat) (plc : Nat → Option Nat) (L : List Nat) : Prop :=
  L.Nodup ∧ size = L.length ∧ (∀ i, i < L.length → row i = L.getD i 0) ∧ (∀ o, o < made → (plc o = none ↔ o ∉ L)) ∧ (∀ i o, L[i]? = some o → plc o = some i) ∧ ∀ o ∈ L, o < made
theorem Lst_nil {made : Nat} {row : Nat → Nat} {plc : Nat → Option Nat} : Lst made 0 row (clrO plc made) [] := by
  refine ⟨List.nodup_nil, rfl, fun i h => absurd h (Nat.not_lt_zero _), fun o ho => ⟨fun _ => List.not_mem_nil, fun _ => ?_⟩, fun i o h => ?_, fun o h => absurd h List.not_mem_nil⟩
  · unfold clrO
    rw [if_pos ho]
  · simp at h
theorem Lst_push {made size k : Nat} {row : Nat → Nat} {plc : Nat → Option Nat} {L : List Nat} (h : Lst made size row plc L) (hk : k < made) (hn : k ∉ L) : Lst made (size + 1) (va_up row size k) (va_up plc k (some size)) (L ++ [k]) := by
  obtain ⟨h1, h2, h3, h4, h5, h6⟩ := h
  subst h2
  refine ⟨List.nodup_append.mpr ⟨h1, List.nodup_cons.mpr ⟨List.not_mem_nil, List.nodup_nil⟩, ?_⟩, ?_, ?_, ?_, ?_, ?_⟩
  · intro x hx y hy
    rw [List.mem_singleton.mp hy]
    exact fun z => hn (z ▸ hx)
  · rw [List.length_append]; rfl
  · intro i hi
    rw [List.length_append] at hi
    unfold va_up
    by_cases hil : i = L.length
    · rw [if_pos hil, hil]
      simp [List.getD]
    · rw [if_neg hil]
      have : i < L.length := by have : [k].length = 1 := rfl; omega
      rw [getD_pre this]
      exact h3 i this
  · intro o ho
    unfold va_up
    by_cases hok : o = k
    · rw [if_pos hok]
      exact ⟨(fun z => nomatch z), (fun z => absurd (hok ▸ List.mem_append_right L (List.mem_singleton.mpr rfl)) z)⟩
    · rw [if_neg hok]
      refine (h4 o ho).trans ⟨fun z hz => ?_, fun z hz => z (List.mem_append_left _ hz)⟩
      rcases List.mem_append.mp hz with hz | hz
      · exact z hz
      · exact hok (List.mem_singleton.mp hz)
  · intro i o hio
    unfold va_up
    by_cases hil : i < L.length
    · rw [List.getElem?_append_left hil] at hio
      have hne : o ≠ k := fun z => hn (z ▸ List.mem_of_getElem? hio)
      rw [if_neg hne]
      exact h5 i o hio
    · rw [List.getElem?_append_right (by omega)] at hio
      have hz : i - L.length < 1 := (List.getElem?_eq_some_iff.mp hio).1
      have hi : i = L.length := by omega
      subst hi
      rw [Nat.sub_self] at hio
      cases hio
      rw [if_pos rfl]
  · intro o ho
    rcases List.mem_append.mp ho with ho | ho
    · exact h6 o ho
    · rw [List.mem_singleton.mp ho]; exact hk
theorem Lst_row {made size i : Nat} {row : Nat → Nat} {plc : Nat → Option Nat} {L : List Nat} (h : Lst made size row plc L) (hi : i < size) : row i = L.getD i 0 ∧ L.getD i 0 ∈ L ∧ L.getD i 0 < made := by
  have hi2 : i < L.length := h.2.1 ▸ hi
  exact ⟨h.2.2.1 i hi2, getD_mem hi2, h.2.2.2.2.2 _ (getD_mem hi2)⟩
end
section
theorem Lst_b {made size k : Nat} {row : Nat → Nat} {plc : Nat → Option Nat} {L : List Nat} (h : Lst made size row plc L) (hk : k < made) (hl : L.length ≤ 400) : ∀ x, plc k = some x → x < 2147483648 := by
  intro x hx
  by_cases hin : k ∈ L
  · obtain ⟨i, hi⟩ := List.getElem?_of_mem hin
    have h2 := h.2.2.2.2.1 i k hi
    rw [hx] at h2
    cases h2
    have h3 := (List.getElem?_eq_some_iff.mp hi).1
    omega
  · have h2 := (h.2.2.2.1 k hk).mpr hin
    rw [hx] at h2
    cases h2
theorem nI_m1 {k : Nat} (h : k < 2147483648) : ¬ nI k = -1 := fun z => by
  have h2 := nI_toInt h
  rw [z] at h2
  have h3 : ((-1 : Int32)).toInt = -1 := by decide
  rw [h3] at h2
  omega
theorem mtL_in {L : List Nat} {k : Nat} (h : k ∈ L) : mtL allOk L (some k) = L := by
  unfold mtL
  simp only [if_neg (fun z : allOk k = true ∧ k ∉ L => z.2 h)]
theorem mtL_out {L : List Nat} {k : Nat} (h : k ∉ L) : mtL allOk L (some k) = L ++ [k] := by
  unfold mtL
  simp only [if_pos (show allOk k = true ∧ k ∉ L from ⟨rfl, h⟩)]
theorem flw_end {ok : Nat → Bool} {fl : Nat → Nat} {rfs : Nat → Nat → Option Nat} {n i : Nat} {L : List Nat} (h : L.length ≤ i) : flw ok fl rfs n i L = L := by
  cases n with
  | zero => rfl
  | succ n => unfold flw; rw [if_neg (by omega)]
theorem flw_step {ok : Nat → Bool} {fl : Nat → Nat} {rfs : Nat → Nat → Option Nat} {n i : Nat} {L : List Nat} (h : i < L.length) : flw ok fl rfs (n + 1) i L = flw ok fl rfs n (i + 1) (mtN ok (rfs (L.getD i 0)) (fl (L.getD i 0)) L) := by
  rw [flw.eq_2, if_pos h]
theorem cal_X10_meet : mCal yX10_meet cX10_meet 2 1 none := ⟨in_419, by decide +kernel⟩
set_option maxHeartbeats 4000000 in
set_option maxRecDepth 100000 in
theorem r_meet {l : Launch} {dC : Nat → ClassId} {dI : Nat → Nat → Nat} {cI cZ cT : ClassId} {q : Nat → Nat} {thr : Int32} {kp : Nat} {Wn : Nat} {made : Nat} {adr : (Nat → Option Nat)} {fl : (Nat → Nat)} {rem : (Nat → Bool)} {num : (Nat → Nat → Int32)} {rfs : (Nat → Nat → Option Nat)} {root : (Nat → Option Nat)} {own : (Nat → Option Nat)} {half : Nat} {top : Nat} {coll : Nat} {mins : Nat} {movd : Nat} {old : (Nat → Option Nat)} {sz : Nat} {rw : Nat → Nat} {pl : Nat → Option Nat} {w : mM} (hR : RW cI cZ q thr kp Wn made adr fl rem num rfs root own half top coll mins movd sz rw pl old w) {L : List Nat} (hL : Lst made sz rw pl L) (o : Option Nat) (ho : ∀ k, o = some k → k < made) (hm : made ≤ 2000) (hB : (mtL allOk L o).length ≤ 400) : mC l yX10_meet (wsY yX10_meet cX10_meet 2 none) { frames := 0, cells := 0, slots := 0, locals := 0 } (dC, dI) vwCl (tyL cI cZ cT) 0 0 w [.ref (q 0), .int (oI (o))] (fun v w2 => v = none ∧ ∃ (n2 : Nat) (r2 : Nat → Nat) (p2 : Nat → Option Nat), RW cI cZ q thr kp Wn made adr fl rem num rfs root own half top coll mins movd n2 r2 p2 old w2 ∧ Lst made n2 r2 p2 (mtL allOk L o)) := by
  refine mC.on (by decide) (Nat.le_of_ble_eq_true rfl) ?_
  intro p e s m args below meth c ls S hr hlk hnm hK hN hG hl
  have hl : lv_has ls 2 [(0, .ref (q 0)), (1, .int (oI (o)))] := hl
  generalize hAe : mA w s.heap.size = A at hG ⊢
  cases o with
  | none =>
    refine lv_iload_n S.1 S.2.1 dX10_meet_0 rfl (lv_at hl 1 rfl) ?_
    refine lv_iconst (v := -1) S.1 S.2.1 dX10_meet_1 (by decide) ?_
    refine lv_icmp_eq (tgt := 45) S.1 S.2.1 dX10_meet_2 (by decide) (fun c1 => ?_) (fun c1 => ?_)
    · exact mw_vret S hr hlk hK hG dX10_meet_45 ⟨rfl, sz, rw, pl, hR, hL⟩
    · exact absurd rfl c1
  | some k =>
    have hl : lv_has ls 2 [(0, .ref (q 0)), (1, .int (nI (k)))] := hl
    have hk := ho k rfl
    have hl0 : L.length ≤ 400 := by
      obtain ⟨M, hM⟩ := mtL_pre allOk L (some k)
      rw [hM, List.length_append] at hB
      omega
    refine lv_iload_n S.1 S.2.1 dX10_meet_0 rfl (lv_at hl 1 rfl) ?_
    refine lv_iconst (v := -1) S.1 S.2.1 dX10_meet_1 (by decide) ?_
    refine lv_icmp_eq (tgt := 45) S.1 S.2.1 dX10_meet_2 (by decide) (fun c1 => ?_) (fun c1 => ?_)
    · exact absurd c1 (nI_m1 (by omega))
    · refine lv_aload_n S.1 S.2.1 dX10_meet_5 rfl (lv_at hl 0 rfl) ?_
      refine rg_plc S hK hG hR dX10_meet_6 ?_
      refine lv_iload_n S.1 S.2.1 dX10_meet_9 rfl (lv_at hl 1 rfl) ?_
      refine rl_plc S hK hG hR (k) (by omega) dX10_meet_10 ?_
      refine lv_iconst (v := -1) S.1 S.2.1 dX10_meet_11 (by decide) ?_
      refine lv_icmp_ne (tgt := 45) S.1 S.2.1 dX10_meet_12 (by decide) (fun c2 => ?_) (fun c2 => ?_)
      · have hin : k ∈ L := Classical.not_not.mp (fun z => c2 ((oI_m1 (Lst_b hL hk hl0)).mpr ((hL.2.2.2.1 k hk).mpr z)))
        exact mw_vret S hr hlk hK hG dX10_meet_45 ⟨rfl, sz, rw, pl, hR, by rw [mtL_in hin]; exact hL⟩
      · have hin : k ∉ L := (hL.2.2.2.1 k hk).mp ((oI_m1 (Lst_b hL hk hl0)).mp c2)
        rw [mtL_out hin] at hB
        have hsz : sz = L.length := hL.2.1
        have hlen : (L ++ [k]).length = L.length + 1 := by rw [List.length_append]; rfl
        refine lv_aload_n S.1 S.2.1 dX10_meet_15 rfl (lv_at hl 0 rfl) ?_
        refine rg_plc S hK hG hR dX10_meet_16 ?_
        refine lv_iload_n S.1 S.2.1 dX10_meet_19 rfl (lv_at hl 1 rfl) ?_
        refine lv_aload_n S.1 S.2.1 dX10_meet_20 rfl (lv_at hl 0 rfl) ?_
        refine rg_size S hK hG hR dX10_meet_21 ?_
        refine rs_plc S hK hG hR (k) (some (sz)) (by omega) dX10_meet_24 (fun w H locs hR hG => ?_)
        refine lv_aload_n S.1 S.2.1 dX10_meet_25 rfl (lv_at hl 0 rfl) ?_
        refine rg_row S hK hG hR dX10_meet_26 ?_
        refine lv_aload_n S.1 S.2.1 dX10_meet_29 rfl (lv_at hl 0 rfl) ?_
        refine rg_size S hK hG hR dX10_meet_30 ?_
        refine lv_iload_n S.1 S.2.1 dX10_meet_33 rfl (lv_at hl 1 rfl) ?_
        refine rs_row S hK hG hR (sz) (k) (by omega) dX10_meet_34 (fun w H locs hR hG => ?_)
        refine lv_aload_n S.1 S.2.1 dX10_meet_35 rfl (lv_at hl 0 rfl) ?_
        refine lv_dup S.1 S.2.1 dX10_meet_36 rfl ?_
        refine rg_size S hK hG hR dX10_meet_37 ?_
        refine lv_iconst (v := nI (1)) S.1 S.2.1 dX10_meet_40 (by decide) ?_
        refine lv_iadd S.1 S.2.1 dX10_meet_41 ?_
        refine lv_eqi (nI_add _ _) ?_
        refine rp_size S hK hG hR (sz + 1) dX10_meet_42 (fun w H locs hR hG => ?_)
        exact mw_vret S hr hlk hK hG dX10_meet_45 ⟨rfl, _, _, _, hR, by rw [mtL_out hin]; exact Lst_push hL hk hin⟩
theorem cal_X10_follow : mCal yX10_follow cX10_follow 3 0 none := ⟨in_423, by decide +kernel⟩
set_option maxHeartbeats 4000000 in
set_option maxRecDepth 100000 in
theorem r_follow {l : Launch} {dC : Nat → ClassId} {dI : Nat → Nat → Nat} {cI cZ cT : ClassId} {q : Nat → Nat} {thr : Int32} {kp : Nat} {Wn : Nat} {made : Nat} {adr : (Nat → Option Nat)} {fl : (Nat → Nat)} {rem : (Nat → Bool)} {num : (Nat → Nat → Int32)} {rfs : (Nat → Nat → Option Nat)} {root : (Nat → Option Nat)} {own : (Nat → Option Nat)} {half : Nat} {top : Nat} {coll : Nat} {mins : Nat} {movd : Nat} {old : (Nat → Option Nat)} {sz : Nat} {rw : Nat → Nat} {pl : Nat → Option Nat} {Kp : Nat → Prop} (hB : ∀ M : List Nat, M.Nodup → (∀ x ∈ M, Kp x) → M.length ≤ 400) (hKm : ∀ x, Kp x → x < made) (hKf : ∀ x, Kp x → ∀ i, i < fl x → ∀ t, rfs x i = some t → Kp t) (hfl : ∀ x, x < made → fl x ≤ 6) (hm : made ≤ 2000) {w : mM} (hR : RW cI cZ q thr kp Wn made adr fl rem num rfs root own half top coll mins movd sz rw pl old w) {L : List Nat} (hL : Lst made sz rw pl L) (hKL : ∀ x ∈ L, Kp x) : mC l yX10_follow (wsY yX10_follow cX10_follow 3 none) { frames := 1, cells := 0, slots := 0, locals := 21 } (dC, dI) vwCl (tyL cI cZ cT) 0 0 w [.ref (q 0)] (fun v w2 => v = none ∧ ∃ (n2 : Nat) (r2 : Nat → Nat) (p2 : Nat → Option Nat), RW cI cZ q thr kp Wn made adr fl rem num rfs root own half top coll mins movd n2 r2 p2 old w2 ∧ Lst made n2 r2 p2 (flw allOk fl rfs 401 0 L)) := by
  refine mC.on (by decide) (Nat.le_of_ble_eq_true rfl) ?_
  intro p e s m args below meth c ls S hr hlk hnm hK hN hG hl
  have hl : lv_has ls 3 [(0, .ref (q 0))] := hl
  generalize hAe : mA w s.heap.size = A at hG ⊢
  refine lv_iconst (v := nI (0)) S.1 S.2.1 dX10_follow_0 (by decide) ?_
  refine lv_istore_n (lv' := [(1, .int (nI (0))), (0, .ref (q 0))]) S.1 S.2.1 dX10_follow_1 rfl hl (by decide) rfl (fun ls hl => ?_)
  have L1 : ∀ (fu : Nat) (i : Nat) (Lc : List Nat) (sz : Nat) (rw : Nat → Nat) (pl : Nat → Option Nat), 401 - i < fu → (i ≤ 400) → (flw allOk fl rfs (401 - i) i Lc = flw allOk fl rfs 401 0 L) → (Lst made sz rw pl Lc) → (∀ x ∈ Lc, Kp x) → ∀ (w : mM) (H : Heap) (locs : List Loc), RW cI cZ q thr kp Wn made adr fl rem num rfs root own half top coll mins movd sz rw pl old w → mG (dC, dI) vwCl A s.heap w H locs → ∀ ls : Array Slot, lv_has ls 3 [(1, .int (nI (i))), (0, .ref (q 0))] → W p l e { frames := 1, cells := 0, slots := 0, locals := 21 } s m args below meth c H locs 0 0 (MQ below (mQ (dC, dI) vwCl (tyL cI cZ cT) (fun v w2 => v = none ∧ ∃ (n2 : Nat) (r2 : Nat → Nat) (p2 : Nat → Option Nat), RW cI cZ q thr kp Wn made adr fl rem num rfs root own half top coll mins movd n2 r2 p2 old w2 ∧ Lst made n2 r2 p2 (flw allOk fl rfs 401 0 L)) A) args s 0 0 A) (F0 m 2 ls []) := by
    intro fu
    induction fu with
    | zero => intro i Lc sz rw pl h1; exact absurd h1 (Nat.not_lt_zero _)
    | succ fu ihL1 =>
      intro i Lc sz rw pl h1 h2 hT hLc hKc w H locs hR hG ls hl
      have hlen : Lc.length ≤ 400 := hB Lc hLc.1 hKc
      have hszc : sz = Lc.length := hLc.2.1
      refine lv_iload_n S.1 S.2.1 dX10_follow_2 rfl (lv_at hl 0 rfl) ?_
      refine lv_aload_n S.1 S.2.1 dX10_follow_3 rfl (lv_at hl 1 rfl) ?_
      refine rg_size S hK hG hR dX10_follow_4 ?_
      refine lv_icmp_ge (tgt := 59) S.1 S.2.1 dX10_follow_7 (by decide) (fun c1 => ?_) (fun c1 => ?_)
      · have c1 : sz ≤ i := (nI_leI (a := sz) (b := i) (by omega) (by omega)).mp c1
        rw [flw_end (by omega)] at hT
        exact mw_vret S hr hlk hK hG dX10_follow_59 ⟨rfl, sz, rw, pl, hR, by rw [← hT]; exact hLc⟩
      · have c1 : ¬ (sz ≤ i) := fun h9 => c1 ((nI_leI (a := sz) (b := i) (by omega) (by omega)).mpr h9)
        have hi2 : i < Lc.length := by omega
        have hrow := Lst_row hLc (show i < sz by omega)
        have hxm : Lc.getD i 0 < made := hrow.2.2
        have hxf := hfl _ hxm
        rw [show 401 - i = (401 - (i + 1)) + 1 by omega, flw_step hi2] at hT
        refine lv_iconst (v := nI (0)) S.1 S.2.1 dX10_follow_10 (by decide) ?_
        refine lv_istore_n (lv' := [(2, .int (nI (0))), (1, .int (nI (i))), (0, .ref (q 0))]) S.1 S.2.1 dX10_follow_11 rfl hl (by decide) rfl (fun ls hl => ?_)
        have L2 : ∀ (fu : Nat) (j : Nat) (sz : Nat) (rw : Nat → Nat) (pl : Nat → Option Nat), fl (Lc.getD i 0) - j < fu → (j ≤ fl (Lc.getD i 0)) → (Lst made sz rw pl (mtN allOk (rfs (Lc.getD i 0)) j Lc)) → ∀ (w : mM) (H : Heap) (locs : List Loc), RW cI cZ q thr kp Wn made adr fl rem num rfs root own half top coll mins movd sz rw pl old w → mG (dC, dI) vwCl A s.heap w H locs → ∀ ls : Array Slot, lv_has ls 3 [(2, .int (nI (j))), (1, .int (nI (i))), (0, .ref (q 0))] → W p l e { frames := 1, cells := 0, slots := 0, locals := 21 } s m args below meth c H locs 0 0 (MQ below (mQ (dC, dI) vwCl (tyL cI cZ cT) (fun v w2 => v = none ∧ ∃ (n2 : Nat) (r2 : Nat → Nat) (p2 : Nat → Option Nat), RW cI cZ q thr kp Wn made adr fl rem num rfs root own half top coll mins movd n2 r2 p2 old w2 ∧ Lst made n2 r2 p2 (flw allOk fl rfs 401 0 L)) A) args s 0 0 A) (F0 m 12 ls []) := by
          intro fu
          induction fu with
          | zero => intro j sz rw pl h1; exact absurd h1 (Nat.not_lt_zero _)
          | succ fu ihL2 =>
            intro j sz rw pl h1 h2 hLd w H locs hR hG ls hl
            obtain ⟨M2, hM2⟩ := mtN_pre allOk (rfs (Lc.getD i 0)) j Lc
            have hKd : ∀ x ∈ mtN allOk (rfs (Lc.getD i 0)) j Lc, Kp x := mtN_all hKc j (fun i2 hi3 t ht _ => hKf _ (hKc _ hrow.2.1) i2 (by omega) t ht)
            have hszd : sz = (mtN allOk (rfs (Lc.getD i 0)) j Lc).length := hLd.2.1
            have hld : (mtN allOk (rfs (Lc.getD i 0)) j Lc).length ≤ 400 := hB _ hLd.1 hKd
            have hid : i < sz := by rw [hszd, hM2, List.length_append]; omega
            have hr2 := (Lst_row hLd hid).1
            rw [hM2, getD_pre hi2] at hr2
            refine lv_iload_n S.1 S.2.1 dX10_follow_12 rfl (lv_at hl 0 rfl) ?_
            refine lv_aload_n S.1 S.2.1 dX10_follow_13 rfl (lv_at hl 2 rfl) ?_
            refine rg_fl S hK hG hR dX10_follow_14 ?_
            refine lv_aload_n S.1 S.2.1 dX10_follow_17 rfl (lv_at hl 2 rfl) ?_
            refine rg_row S hK hG hR dX10_follow_18 ?_
            refine lv_iload_n S.1 S.2.1 dX10_follow_21 rfl (lv_at hl 1 rfl) ?_
            refine rl_row S hK hG hR (i) (by omega) dX10_follow_22 ?_
            refine lv_eqi (y := nI (Lc.getD i 0)) (by rw [hr2]) ?_
            refine rl_fl S hK hG hR (Lc.getD i 0) (by omega) dX10_follow_23 ?_
            refine lv_icmp_ge (tgt := 53) S.1 S.2.1 dX10_follow_24 (by decide) (fun c2 => ?_) (fun c2 => ?_)
            · have c2 : (fl (Lc.getD i 0)) ≤ j := (nI_leI (a := fl (Lc.getD i 0)) (b := j) (by omega) (by omega)).mp c2
              have hj : j = fl (Lc.getD i 0) := by omega
              rw [hj] at hLd hKd
              refine lv_iinc (v := nI (i + 1)) (lv' := [(1, .int (nI (i + 1))), (2, .int (nI (j))), (0, .ref (q 0))]) S.1 S.2.1 dX10_follow_53 hl (k := 1) rfl (nI_1 _) (by decide) rfl (fun ls hl => ?_)
              refine lv_goto (tgt := 2) S.1 S.2.1 dX10_follow_56 (by decide) ?_
              exact ihL1 (i + 1) (mtN allOk (rfs (Lc.getD i 0)) (fl (Lc.getD i 0)) Lc) sz rw pl (by omega) (by omega) hT hLd hKd _ _ _ hR hG ls (lv_sub hl [0, 2] rfl)
            · have c2 : ¬ ((fl (Lc.getD i 0)) ≤ j) := fun h9 => c2 ((nI_leI (a := fl (Lc.getD i 0)) (b := j) (by omega) (by omega)).mpr h9)
              refine lv_aload_n S.1 S.2.1 dX10_follow_27 rfl (lv_at hl 2 rfl) ?_
              refine lv_aload_n S.1 S.2.1 dX10_follow_28 rfl (lv_at hl 2 rfl) ?_
              refine rg_rfs S hK hG hR dX10_follow_29 ?_
              refine lv_bipush (v := nI (6)) S.1 S.2.1 dX10_follow_32 (by decide) ?_
              refine lv_aload_n S.1 S.2.1 dX10_follow_34 rfl (lv_at hl 2 rfl) ?_
              refine rg_row S hK hG hR dX10_follow_35 ?_
              refine lv_iload_n S.1 S.2.1 dX10_follow_38 rfl (lv_at hl 1 rfl) ?_
              refine rl_row S hK hG hR (i) (by omega) dX10_follow_39 ?_
              refine lv_eqi (y := nI (Lc.getD i 0)) (by rw [hr2]) ?_
              refine lv_imul S.1 S.2.1 dX10_follow_40 ?_
              refine lv_eqi (pk_mul _ _) ?_
              refine lv_iload_n S.1 S.2.1 dX10_follow_41 rfl (lv_at hl 0 rfl) ?_
              refine lv_iadd S.1 S.2.1 dX10_follow_42 ?_
              refine lv_eqi (nI_add _ _) ?_
              refine rl_rfs S hK hG hR (Lc.getD i 0) (j) (by omega) (by omega) dX10_follow_43 ?_
              refine mCV (As := [.int (oI (rfs (Lc.getD i 0) j))]) (rest := []) S (r_meet hR hLd (rfs (Lc.getD i 0) j) (fun t ht => hKm _ (hKf _ (hKc _ hrow.2.1) j (by omega) t ht)) hm (hB _ (mtL_nd hLd.1) (mtL_all hKd (fun t ht _ => hKf _ (hKc _ hrow.2.1) j (by omega) t ht)))) cal_X10_meet in_416 in_417 in_418 in_5 hK hN hG hR.obj rfl rfl rfl hl.1 (Nat.le_of_ble_eq_true rfl) ⟨by decide, by decide⟩ ⟨rfl, rfl⟩ ⟨by decide, by decide⟩ dX10_follow_44 (fun v w H locs hp hG => ?_)
              obtain ⟨rfl, sz2, rw2, pl2, hR, hLe⟩ := hp
              refine W.eq (g2 := F0 m 47 ls []) rfl ?_
              refine lv_iinc (v := nI (j + 1)) (lv' := [(2, .int (nI (j + 1))), (1, .int (nI (i))), (0, .ref (q 0))]) S.1 S.2.1 dX10_follow_47 hl (k := 0) rfl (nI_1 _) (by decide) rfl (fun ls hl => ?_)
              refine lv_goto (tgt := 12) S.1 S.2.1 dX10_follow_50 (by decide) ?_
              exact ihL2 (j + 1) sz2 rw2 pl2 (by omega) (by omega) hLe _ _ _ hR hG ls (lv_sub hl [0, 1, 2] rfl)
        exact L2 (fl (Lc.getD i 0) + 1) 0 sz rw pl (by omega) (by omega) hLc _ _ _ (hR) hG ls (lv_sub hl [0, 1, 2] rfl)
  exact L1 (402) 0 L sz rw pl (by omega) (by omega) rfl hL hKL _ _ _ (hR) hG ls (lv_sub hl [0, 1] rfl)
theorem cal_X10_reach : mCal yX10_reach cX10_reach 2 0 none := ⟨in_411, by decide +kernel⟩
set_option maxHeartbeats 4000000 in
set_option maxRecDepth 100000 in
theorem r_reach {l : Launch} {dC : Nat → ClassId} {dI : Nat → Nat → Nat} {cI cZ cT : ClassId} {q : Nat → Nat} {thr : Int32} {kp : Nat} {Wn : Nat} {made : Nat} {adr : (Nat → Option Nat)} {fl : (Nat → Nat)} {rem : (Nat → Bool)} {num : (Nat → Nat → Int32)} {rfs : (Nat → Nat → Option Nat)} {root : (Nat → Option Nat)} {own : (Nat → Option Nat)} {half : Nat} {top : Nat} {coll : Nat} {mins : Nat} {movd : Nat} {size : Nat} {row : (Nat → Nat)} {plc : (Nat → Option Nat)} {old : (Nat → Option Nat)} {Kp : Nat → Prop} (hB : ∀ M : List Nat, M.Nodup → (∀ x ∈ M, Kp x) → M.length ≤ 400) (hKm : ∀ x, Kp x → x < made) (hKf : ∀ x, Kp x → ∀ i, i < fl x → ∀ t, rfs x i = some t → Kp t) (hfl : ∀ x, x < made → fl x ≤ 6) (hm : made ≤ 2000) {w : mM} (hR : RW cI cZ q thr kp Wn made adr fl rem num rfs root own half top coll mins movd size row plc old w) (hKr : ∀ i, i < 16 → ∀ t, root i = some t → Kp t) : mC l yX10_reach (wsY yX10_reach cX10_reach 2 none) { frames := 2, cells := 0, slots := 0, locals := 43 } (dC, dI) vwCl (tyL cI cZ cT) 0 0 w [.ref (q 0)] (fun v w2 => v = none ∧ ∃ (n2 : Nat) (r2 : Nat → Nat) (p2 : Nat → Option Nat), RW cI cZ q thr kp Wn made adr fl rem num rfs root own half top coll mins movd n2 r2 p2 old w2 ∧ Lst made n2 r2 p2 (flw allOk fl rfs 401 0 (mtN allOk root 16 []))) := by
  refine mC.on (by decide) (Nat.le_of_ble_eq_true rfl) ?_
  intro p e s m args below meth c ls S hr hlk hnm hK hN hG hl
  have hl : lv_has ls 2 [(0, .ref (q 0))] := hl
  generalize hAe : mA w s.heap.size = A at hG ⊢
  refine lv_aload_n S.1 S.2.1 dX10_reach_0 rfl (lv_at hl 0 rfl) ?_
  refine mCV (As := []) (rest := []) S (r_begin hR hm) cal_X10_begin in_412 in_413 in_414 in_5 hK hN hG hR.obj rfl rfl rfl hl.1 (Nat.le_of_ble_eq_true rfl) ⟨by decide, by decide⟩ ⟨rfl, rfl⟩ ⟨by decide, by decide⟩ dX10_reach_1 (fun v w H locs hp hG => ?_)
  obtain ⟨rfl, hR⟩ := hp
  refine W.eq (g2 := F0 m 4 ls []) rfl ?_
  refine lv_iconst (v := nI (0)) S.1 S.2.1 dX10_reach_4 (by decide) ?_
  refine lv_istore_n (lv' := [(1, .int (nI (0))), (0, .ref (q 0))]) S.1 S.2.1 dX10_reach_5 rfl hl (by decide) rfl (fun ls hl => ?_)
  have L1 : ∀ (fu : Nat) (i : Nat) (sz : Nat) (rw : Nat → Nat) (pl : Nat → Option Nat), 16 - i < fu → (i ≤ 16) → (Lst made sz rw pl (mtN allOk root i [])) → ∀ (w : mM) (H : Heap) (locs : List Loc), RW cI cZ q thr kp Wn made adr fl rem num rfs root own half top coll mins movd sz rw pl old w → mG (dC, dI) vwCl A s.heap w H locs → ∀ ls : Array Slot, lv_has ls 2 [(1, .int (nI (i))), (0, .ref (q 0))] → W p l e { frames := 2, cells := 0, slots := 0, locals := 43 } s m args below meth c H locs 0 0 (MQ below (mQ (dC, dI) vwCl (tyL cI cZ cT) (fun v w2 => v = none ∧ ∃ (n2 : Nat) (r2 : Nat → Nat) (p2 : Nat → Option Nat), RW cI cZ q thr kp Wn made adr fl rem num rfs root own half top coll mins movd n2 r2 p2 old w2 ∧ Lst made n2 r2 p2 (flw allOk fl rfs 401 0 (mtN allOk root 16 []))) A) args s 0 0 A) (F0 m 6 ls []) := by
    intro fu
    induction fu with
    | zero => intro i sz rw pl h1; exact absurd h1 (Nat.not_lt_zero _)
    | succ fu ihL1 =>
      intro i sz rw pl h1 h2 hLc w H locs hR hG ls hl
      have hKd : ∀ x ∈ mtN allOk root i [], Kp x := mtN_all (fun x hx => absurd hx List.not_mem_nil) i (fun i2 hi3 t ht _ => hKr i2 (by omega) t ht)
      refine lv_iload_n S.1 S.2.1 dX10_reach_6 rfl (lv_at hl 0 rfl) ?_
      refine lv_bipush (v := nI (16)) S.1 S.2.1 dX10_reach_7 (by decide) ?_
      refine lv_icmp_ge (tgt := 28) S.1 S.2.1 dX10_reach_9 (by decide) (fun c1 => ?_) (fun c1 => ?_)
      · have c1 : 16 ≤ i := (nI_leI (a := 16) (b := i) (by omega) (by omega)).mp c1
        have hi : i = 16 := by omega
        rw [hi] at hLc hKd
        refine lv_aload_n S.1 S.2.1 dX10_reach_28 rfl (lv_at hl 1 rfl) ?_
        refine mCV (As := []) (rest := []) S (r_follow (Kp := Kp) hB hKm hKf hfl hm hR hLc hKd) cal_X10_follow in_420 in_421 in_422 in_5 hK hN hG hR.obj rfl rfl rfl hl.1 (Nat.le_of_ble_eq_true rfl) ⟨by decide, by decide⟩ ⟨rfl, rfl⟩ ⟨by decide, by decide⟩ dX10_reach_29 (fun v w H locs hp hG => ?_)
        obtain ⟨rfl, sz2, rw2, pl2, hR, hLe⟩ := hp
        refine W.eq (g2 := F0 m 32 ls []) rfl ?_
        exact mw_vret S hr hlk hK hG dX10_reach_32 ⟨rfl, sz2, rw2, pl2, hR, hLe⟩
      · have c1 : ¬ (16 ≤ i) := fun h9 => c1 ((nI_leI (a := 16) (b := i) (by omega) (by omega)).mpr h9)
        refine lv_aload_n S.1 S.2.1 dX10_reach_12 rfl (lv_at hl 1 rfl) ?_
        refine lv_aload_n S.1 S.2.1 dX10_reach_13 rfl (lv_at hl 1 rfl) ?_
        refine rg_root S hK hG hR dX10_reach_14 ?_
        refine lv_iload_n S.1 S.2.1 dX10_reach_17 rfl (lv_at hl 0 rfl) ?_
        refine rl_root S hK hG hR (i) (by omega) dX10_reach_18 ?_
        refine mCV (As := [.int (oI (root i))]) (rest := []) S (r_meet hR hLc (root i) (fun t ht => hKm _ (hKr i (by omega) t ht)) hm (hB _ (mtL_nd hLc.1) (mtL_all hKd (fun t ht _ => hKr i (by omega) t ht)))) cal_X10_meet in_416 in_417 in_418 in_5 hK hN hG hR.obj rfl rfl rfl hl.1 (Nat.le_of_ble_eq_true rfl) ⟨by decide, by decide⟩ ⟨rfl, rfl⟩ ⟨by decide, by decide⟩ dX10_reach_19 (fun v w H locs hp hG => ?_)
        obtain ⟨rfl, sz2, rw2, pl2, hR, hLe⟩ := hp
        refine W.eq (g2 := F0 m 22 ls []) rfl ?_
        refine lv_iinc (v := nI (i + 1)) (lv' := [(1, .int (nI (i + 1))), (0, .ref (q 0))]) S.1 S.2.1 dX10_reach_22 hl (k := 0) rfl (nI_1 _) (by decide) rfl (fun ls hl => ?_)
        refine lv_goto (tgt := 6) S.1 S.2.1 dX10_reach_25 (by decide) ?_
        exact ihL1 (i + 1) sz2 rw2 pl2 (by omega) (by omega) hLe _ _ _ hR hG ls (lv_sub hl [0, 1] rfl)
  exact L1 (17) 0 0 row (clrO plc made) (by omega) (by omega) Lst_nil _ _ _ (hR) hG ls (lv_sub hl [0, 1] rfl)
end
section
/-! where objects lie, and what dies -/
def Lay (made Wn : Nat) (fl : Nat → Nat) (adr own : Nat → Option Nat) : Prop :=
  (∀ o a, o < made → adr o = some a → a + fl o < Wn ∧ ∀ k, a ≤ k → k ≤ a + fl o → own k = some o) ∧ ∀ k o, own k = some o → o < made ∧ ∃ a, adr o = some a ∧ a ≤ k ∧ k ≤ a + fl o
def swA (c : Nat → Bool) (adr : Nat → Option Nat) : Nat → Option Nat := fun o => if c o = true then none else adr o
def swR (c : Nat → Bool) (rem : Nat → Bool) : Nat → Bool := fun o => if c o = true then false else rem o
def swO (c : Nat → Bool) (own : Nat → Option Nat) : Nat → Option Nat := fun k => match own k with
  | none => none
  | some o => if c o = true then none else some o
def blw (n : Nat) (c : Nat → Bool) : Nat → Bool := fun o => decide (o < n) && c o
theorem blw_self {n : Nat} {c : Nat → Bool} : blw n c n = false := by unfold blw; simp
theorem blw_0 (c : Nat → Bool) : blw 0 c = fun _ => false := by funext o; unfold blw; simp
theorem blw_s {n : Nat} {c : Nat → Bool} {o : Nat} : blw (n + 1) c o = (blw n c o || (decide (o = n) && c o)) := by
  unfold blw
  by_cases h : o < n
  · simp [h, show o < n + 1 by omega, show ¬ o = n by omega]
  · by_cases h2 : o = n
    · subst h2; simp
    · simp [h, h2, show ¬ o < n + 1 by omega]
theorem swA_f (adr : Nat → Option Nat) : swA (fun _ => false) adr = adr := rfl
theorem swR_f (rem : Nat → Bool) : swR (fun _ => false) rem = rem := rfl
theorem swO_f (own : Nat → Option Nat) : swO (fun _ => false) own = own := by
  funext k
  unfold swO
  cases own k <;> rfl
theorem swA_s {n : Nat} {c : Nat → Bool} {adr : Nat → Option Nat} (h : c n = true) : va_up (swA (blw n c) adr) n none = swA (blw (n + 1) c) adr := by
  funext o
  unfold va_up swA
  rw [blw_s]
  by_cases ho : o = n
  · subst ho; simp [h]
  · rw [if_neg ho]; simp [ho]
theorem swA_k {n : Nat} {c : Nat → Bool} {adr : Nat → Option Nat} (h : c n = false ∨ adr n = none) : swA (blw n c) adr = swA (blw (n + 1) c) adr := by
  funext o
  unfold swA
  rw [blw_s]
  by_cases ho : o = n
  · subst ho
    rcases h with h | h
    · simp [h]
    · rw [h]; split <;> split <;> rfl
  · simp [ho]
theorem swR_s {n : Nat} {c rem : Nat → Bool} (h : c n = true) : va_up (swR (blw n c) rem) n false = swR (blw (n + 1) c) rem := by
  funext o
  unfold va_up swR
  rw [blw_s]
  by_cases ho : o = n
  · subst ho; simp [h]
  · rw [if_neg ho]; simp [ho]
theorem swR_k {n : Nat} {c rem : Nat → Bool} (h : c n = false ∨ rem n = false) : swR (blw n c) rem = swR (blw (n + 1) c) rem := by
  funext o
  unfold swR
  rw [blw_s]
  by_cases ho : o = n
  · subst ho
    rcases h with h | h
    · simp [h]
    · rw [h]; split <;> split <;> rfl
  · simp [ho]
theorem swO_s {made Wn n a : Nat} {fl : Nat → Nat} {c : Nat → Bool} {adr own : Nat → Option Nat} (hL : Lay made Wn fl adr own) (hn : n < made) (ha : adr n = some a) (h : c n = true) : fillO (swO (blw n c) own) a (fl n + 1) none = swO (blw (n + 1) c) own := by
  funext k
  unfold fillO
  by_cases hk : a ≤ k ∧ k < a + (fl n + 1)
  · rw [if_pos hk]
    have h1 := (hL.1 n a hn ha).2 k hk.1 (by omega)
    unfold swO
    rw [h1]
    simp [blw_s, h]
  · rw [if_neg hk]
    unfold swO
    cases ho : own k with
    | none => rfl
    | some o =>
      have h2 : o ≠ n := by
        intro z
        subst z
        obtain ⟨-, a2, h3, h4, h5⟩ := hL.2 k o ho
        rw [ha] at h3
        cases h3
        exact hk ⟨h4, by omega⟩
      simp only [blw_s]
      simp [h2]
theorem swO_k {made Wn n : Nat} {fl : Nat → Nat} {c : Nat → Bool} {adr own : Nat → Option Nat} (hL : Lay made Wn fl adr own) (h : c n = false ∨ adr n = none) : swO (blw n c) own = swO (blw (n + 1) c) own := by
  funext k
  unfold swO
  cases ho : own k with
  | none => rfl
  | some o =>
    simp only [blw_s]
    by_cases h2 : o = n
    · subst h2
      rcases h with h | h
      · simp [h]
      · obtain ⟨-, a2, h3, -⟩ := hL.2 k o ho
        rw [h] at h3
        cases h3
    · simp [h2]
/-- how many blw n -/
def cnt (c : Nat → Bool) : Nat → Nat
  | 0 => 0
  | n + 1 => cnt c n + (if c n = true then 1 else 0)
theorem cnt_s1 {c : Nat → Bool} {n : Nat} (h : c n = true) : cnt c (n + 1) = cnt c n + 1 := by
  show cnt c n + _ = _
  rw [if_pos h]
theorem cnt_s0 {c : Nat → Bool} {n : Nat} (h : c n = false) : cnt c (n + 1) = cnt c n := by
  show cnt c n + _ = _
  rw [if_neg (by rw [h]; decide)]
  rfl
theorem cnt_le (c : Nat → Bool) : ∀ n, cnt c n ≤ n
  | 0 => Nat.le_refl 0
  | n + 1 => by
    have := cnt_le c n
    show cnt c n + _ ≤ _
    split <;> omega
/-- what goes in a sweep, by the walk's places -/
def lying (adr : Nat → Option Nat) : Nat → Bool := fun o => (adr o).isSome
def swC (old : Bool) (kp Wn : Nat) (adr plc : Nat → Option Nat) : Nat → Bool := fun o => (adr o).isSome && ((plc o).isNone && (!old || isOldR kp Wn adr o))
theorem swA_at {k : Nat} {c : Nat → Bool} {adr : Nat → Option Nat} : swA (blw k c) adr k = adr k := by
  unfold swA
  rw [blw_self]
  rfl
theorem isOldR_at {kp Wn k : Nat} {adr adr2 : Nat → Option Nat} (h : adr2 k = adr k) : isOldR kp Wn adr2 k = isOldR kp Wn adr k := by
  unfold isOldR
  rw [h]
theorem swC_n {old : Bool} {kp Wn k : Nat} {adr plc : Nat → Option Nat} (h : adr k = none) : swC old kp Wn adr plc k = false := by
  unfold swC; rw [h]; rfl
theorem swC_p {old : Bool} {kp Wn k : Nat} {adr plc : Nat → Option Nat} (h : ¬ plc k = none) : swC old kp Wn adr plc k = false := by
  unfold swC
  cases hp : plc k with
  | none => exact absurd hp h
  | some x => simp
theorem swC_y {old : Bool} {kp Wn k : Nat} {adr plc : Nat → Option Nat} (h1 : old = true) (h : isOldR kp Wn adr k = false) : swC old kp Wn adr plc k = false := by
  unfold swC; rw [h, h1]; simp
theorem swC_t {old : Bool} {kp Wn k a : Nat} {adr plc : Nat → Option Nat} (h : adr k = some a) (h2 : plc k = none) (h3 : old = false ∨ isOldR kp Wn adr k = true) : swC old kp Wn adr plc k = true := by
  unfold swC
  rw [h, h2]
  rcases h3 with h3 | h3 <;> rw [h3] <;> simp
theorem Lay_b {made Wn : Nat} {fl : Nat → Nat} {adr own : Nat → Option Nat} (h : Lay made Wn fl adr own) {k a : Nat} (hk : k < made) (ha : adr k = some a) : a + fl k < Wn := (h.1 k a hk ha).1
end
section
theorem cal_X10_sweep : mCal yX10_sweep cX10_sweep 4 1 (some .int) := ⟨in_427, by decide +kernel⟩
set_option maxHeartbeats 4000000 in
set_option maxRecDepth 100000 in
theorem r_sweep {l : Launch} {dC : Nat → ClassId} {dI : Nat → Nat → Nat} {cI cZ cT : ClassId} {q : Nat → Nat} {thr : Int32} {kp : Nat} {Wn : Nat} {made : Nat} {adr : (Nat → Option Nat)} {fl : (Nat → Nat)} {rem : (Nat → Bool)} {num : (Nat → Nat → Int32)} {rfs : (Nat → Nat → Option Nat)} {root : (Nat → Option Nat)} {own : (Nat → Option Nat)} {half : Nat} {top : Nat} {coll : Nat} {mins : Nat} {movd : Nat} {size : Nat} {row : (Nat → Nat)} {plc : (Nat → Option Nat)} {old : (Nat → Option Nat)} {w : mM} (hR : RW cI cZ q thr kp Wn made adr fl rem num rfs root own half top coll mins movd size row plc old w) (old2 : Bool) (hm : made ≤ 2000) (hW : Wn ≤ 400) (hkp : kp ≤ 2) (hLay : Lay made Wn fl adr own) (hpb : ∀ o, o < made → ∀ x, plc o = some x → x < 2147483648) : mC l yX10_sweep (wsY yX10_sweep cX10_sweep 4 (some .int)) { frames := 2, cells := 0, slots := 0, locals := 43 } (dC, dI) vwCl (tyL cI cZ cT) 0 0 w [.ref (q 0), .int (bI (old2))] (fun v w2 => v = some (.int (nI (cnt (swC old2 kp Wn adr plc) made))) ∧ RW cI cZ q thr kp Wn made (swA (blw made (swC old2 kp Wn adr plc)) adr) fl (swR (blw made (swC old2 kp Wn adr plc)) rem) num rfs root (swO (blw made (swC old2 kp Wn adr plc)) own) half top coll mins movd size row plc old w2) := by
  refine mC.on (by decide) (Nat.le_of_ble_eq_true rfl) ?_
  intro p e s m args below meth c ls S hr hlk hnm hK hN hG hl
  have hl : lv_has ls 4 [(0, .ref (q 0)), (1, .int (bI (old2)))] := hl
  generalize hAe : mA w s.heap.size = A at hG ⊢
  refine lv_iconst (v := nI (0)) S.1 S.2.1 dX10_sweep_0 (by decide) ?_
  refine lv_istore_n (lv' := [(2, .int (nI (0))), (0, .ref (q 0)), (1, .int (bI (old2)))]) S.1 S.2.1 dX10_sweep_1 rfl hl (by decide) rfl (fun ls hl => ?_)
  refine lv_iconst (v := nI (0)) S.1 S.2.1 dX10_sweep_2 (by decide) ?_
  refine lv_istore_n (lv' := [(3, .int (nI (0))), (2, .int (nI (0))), (0, .ref (q 0)), (1, .int (bI (old2)))]) S.1 S.2.1 dX10_sweep_3 rfl hl (by decide) rfl (fun ls hl => ?_)
  have L : ∀ (fu : Nat) (k : Nat), made - k < fu → (k ≤ made) → ∀ (w : mM) (H : Heap) (locs : List Loc), RW cI cZ q thr kp Wn made (swA (blw k (swC old2 kp Wn adr plc)) adr) fl (swR (blw k (swC old2 kp Wn adr plc)) rem) num rfs root (swO (blw k (swC old2 kp Wn adr plc)) own) half top coll mins movd size row plc old w → mG (dC, dI) vwCl A s.heap w H locs → ∀ ls : Array Slot, lv_has ls 4 [(3, .int (nI (k))), (2, .int (nI (cnt (swC old2 kp Wn adr plc) k))), (0, .ref (q 0)), (1, .int (bI (old2)))] → W p l e { frames := 2, cells := 0, slots := 0, locals := 43 } s m args below meth c H locs 0 0 (MQ below (mQ (dC, dI) vwCl (tyL cI cZ cT) (fun v w2 => v = some (.int (nI (cnt (swC old2 kp Wn adr plc) made))) ∧ RW cI cZ q thr kp Wn made (swA (blw made (swC old2 kp Wn adr plc)) adr) fl (swR (blw made (swC old2 kp Wn adr plc)) rem) num rfs root (swO (blw made (swC old2 kp Wn adr plc)) own) half top coll mins movd size row plc old w2) A) args s 0 0 A) (F0 m 4 ls []) := by
    intro fu
    induction fu with
    | zero => intro k h1; exact absurd h1 (Nat.not_lt_zero _)
    | succ fu ihL =>
      intro k h1 h2 w H locs hR hG ls hl
      refine lv_iload_n S.1 S.2.1 dX10_sweep_4 rfl (lv_at hl 0 rfl) ?_
      refine lv_aload_n S.1 S.2.1 dX10_sweep_5 rfl (lv_at hl 2 rfl) ?_
      refine rg_made S hK hG hR dX10_sweep_6 ?_
      refine lv_icmp_ge (tgt := 58) S.1 S.2.1 dX10_sweep_9 (by decide) (fun c1 => ?_) (fun c1 => ?_)
      · have c1 : made ≤ k := (nI_leI (a := made) (b := k) (by omega) (by omega)).mp c1
        have hk : k = made := by omega
        rw [hk] at hR
        refine lv_iload_n S.1 S.2.1 dX10_sweep_58 rfl (lv_at hl 1 rfl) ?_
        exact mw_iret S hr hlk hK hG dX10_sweep_59 ⟨by rw [hk], hR⟩
      · have c1 : ¬ (made ≤ k) := fun h9 => c1 ((nI_leI (a := made) (b := k) (by omega) (by omega)).mpr h9)
        refine lv_aload_n S.1 S.2.1 dX10_sweep_12 rfl (lv_at hl 2 rfl) ?_
        refine rg_adr S hK hG hR dX10_sweep_13 ?_
        refine lv_iload_n S.1 S.2.1 dX10_sweep_16 rfl (lv_at hl 0 rfl) ?_
        refine rl_adr S hK hG hR (k) (by omega) dX10_sweep_17 ?_
        refine lv_eqi (y := oI (adr k)) (by rw [swA_at]) ?_
        have hab : ∀ x, adr k = some x → x < 2147483648 := fun x hx => by have := Lay_b hLay (by omega) hx; omega
        refine lv_iconst (v := -1) S.1 S.2.1 dX10_sweep_18 (by decide) ?_
        refine lv_icmp_eq (tgt := 52) S.1 S.2.1 dX10_sweep_19 (by decide) (fun c2 => ?_) (fun c2 => ?_)
        · have hc : (swC old2 kp Wn adr plc) k = false := swC_n ((oI_m1 hab).mp c2)
          rw [swA_k (Or.inl hc), swR_k (Or.inl hc), swO_k hLay (Or.inl hc)] at hR
          refine lv_iinc (v := nI (k + 1)) (lv' := [(3, .int (nI (k + 1))), (2, .int (nI (cnt (swC old2 kp Wn adr plc) k))), (0, .ref (q 0)), (1, .int (bI (old2)))]) S.1 S.2.1 dX10_sweep_52 hl (k := 0) rfl (nI_1 _) (by decide) rfl (fun ls hl => ?_)
          refine lv_goto (tgt := 4) S.1 S.2.1 dX10_sweep_55 (by decide) ?_
          rw [← cnt_s0 hc] at hl
          exact ihL (k + 1) (by omega) (by omega) _ _ _ hR hG ls (lv_sub hl [0, 1, 2, 3] rfl)
        · obtain ⟨a, ha⟩ : ∃ a, adr k = some a := by
            cases h : adr k with
            | none => exact absurd ((oI_m1 hab).mpr h) c2
            | some a => exact ⟨a, rfl⟩
          have hb := Lay_b hLay (show k < made by omega) ha
          refine lv_aload_n S.1 S.2.1 dX10_sweep_22 rfl (lv_at hl 2 rfl) ?_
          refine rg_plc S hK hG hR dX10_sweep_23 ?_
          refine lv_iload_n S.1 S.2.1 dX10_sweep_26 rfl (lv_at hl 0 rfl) ?_
          refine rl_plc S hK hG hR (k) (by omega) dX10_sweep_27 ?_
          refine lv_iconst (v := -1) S.1 S.2.1 dX10_sweep_28 (by decide) ?_
          refine lv_icmp_ne (tgt := 52) S.1 S.2.1 dX10_sweep_29 (by decide) (fun c3 => ?_) (fun c3 => ?_)
          · have hc : (swC old2 kp Wn adr plc) k = false := swC_p (fun z => c3 ((oI_m1 (hpb k (by omega))).mpr z))
            rw [swA_k (Or.inl hc), swR_k (Or.inl hc), swO_k hLay (Or.inl hc)] at hR
            refine lv_iinc (v := nI (k + 1)) (lv' := [(3, .int (nI (k + 1))), (2, .int (nI (cnt (swC old2 kp Wn adr plc) k))), (0, .ref (q 0)), (1, .int (bI (old2)))]) S.1 S.2.1 dX10_sweep_52 hl (k := 0) rfl (nI_1 _) (by decide) rfl (fun ls hl => ?_)
            refine lv_goto (tgt := 4) S.1 S.2.1 dX10_sweep_55 (by decide) ?_
            rw [← cnt_s0 hc] at hl
            exact ihL (k + 1) (by omega) (by omega) _ _ _ hR hG ls (lv_sub hl [0, 1, 2, 3] rfl)
          · have hp : plc k = none := (oI_m1 (hpb k (by omega))).mp c3
            refine lv_iload_n S.1 S.2.1 dX10_sweep_32 rfl (lv_at hl 3 rfl) ?_
            refine lv_if_eq (tgt := 44) S.1 S.2.1 dX10_sweep_33 (by decide) (fun c4 => ?_) (fun c4 => ?_)
            · have c4 := bI_f c4
              have hc : (swC old2 kp Wn adr plc) k = true := swC_t ha hp (Or.inl c4)
              refine lv_aload_n S.1 S.2.1 dX10_sweep_44 rfl (lv_at hl 2 rfl) ?_
              refine lv_iload_n S.1 S.2.1 dX10_sweep_45 rfl (lv_at hl 0 rfl) ?_
              refine mCV (As := [.int (nI (k))]) (rest := []) S (r_go hR k a (by omega) (by rw [swA_at]; exact ha) (by omega)) cal_X10_go in_432 in_433 in_434 in_5 hK hN hG hR.obj rfl rfl rfl hl.1 (Nat.le_of_ble_eq_true rfl) ⟨by decide, by decide⟩ ⟨rfl, rfl⟩ ⟨by decide, by decide⟩ dX10_sweep_46 (fun v w H locs hp hG => ?_)
              obtain ⟨rfl, hR⟩ := hp
              refine W.eq (g2 := F0 m 49 ls []) rfl ?_
              rw [swA_s hc, swR_s hc, swO_s hLay (by omega) ha hc] at hR
              refine lv_iinc (v := nI (cnt (swC old2 kp Wn adr plc) k + 1)) (lv' := [(2, .int (nI (cnt (swC old2 kp Wn adr plc) k + 1))), (3, .int (nI (k))), (0, .ref (q 0)), (1, .int (bI (old2)))]) S.1 S.2.1 dX10_sweep_49 hl (k := 1) rfl (nI_1 _) (by decide) rfl (fun ls hl => ?_)
              refine lv_iinc (v := nI (k + 1)) (lv' := [(3, .int (nI (k + 1))), (2, .int (nI (cnt (swC old2 kp Wn adr plc) k + 1))), (0, .ref (q 0)), (1, .int (bI (old2)))]) S.1 S.2.1 dX10_sweep_52 hl (k := 1) rfl (nI_1 _) (by decide) rfl (fun ls hl => ?_)
              refine lv_goto (tgt := 4) S.1 S.2.1 dX10_sweep_55 (by decide) ?_
              rw [← cnt_s1 hc] at hl
              exact ihL (k + 1) (by omega) (by omega) _ _ _ hR hG ls (lv_sub hl [0, 1, 2, 3] rfl)
            · have c4 := bI_t c4
              refine lv_aload_n S.1 S.2.1 dX10_sweep_36 rfl (lv_at hl 2 rfl) ?_
              refine lv_iload_n S.1 S.2.1 dX10_sweep_37 rfl (lv_at hl 0 rfl) ?_
              refine mCV (As := [.int (nI (k))]) (rest := []) S (r_isOld hR k (by omega) hW hkp (by rw [swA_at]; exact hab)) cal_X10_isOld in_428 in_429 in_430 in_5 hK hN hG hR.obj rfl rfl rfl hl.1 (Nat.le_of_ble_eq_true rfl) ⟨by decide, by decide⟩ ⟨rfl, rfl⟩ ⟨by decide, by decide⟩ dX10_sweep_38 (fun v w H locs hp hG => ?_)
              obtain ⟨rfl, hw9⟩ := hp
              rw [hw9] at hG
              refine W.eq (g2 := F0 m 41 ls [.int (bI (isOldR kp Wn (swA (blw k (swC old2 kp Wn adr plc)) adr) k))]) rfl ?_
              refine lv_eqi (y := bI (isOldR kp Wn adr k)) (by rw [isOldR_at swA_at]) ?_
              refine lv_if_eq (tgt := 52) S.1 S.2.1 dX10_sweep_41 (by decide) (fun c5 => ?_) (fun c5 => ?_)
              · have c5 := bI_f c5
                have hc : (swC old2 kp Wn adr plc) k = false := swC_y c4 c5
                rw [swA_k (Or.inl hc), swR_k (Or.inl hc), swO_k hLay (Or.inl hc)] at hR
                refine lv_iinc (v := nI (k + 1)) (lv' := [(3, .int (nI (k + 1))), (2, .int (nI (cnt (swC old2 kp Wn adr plc) k))), (0, .ref (q 0)), (1, .int (bI (old2)))]) S.1 S.2.1 dX10_sweep_52 hl (k := 0) rfl (nI_1 _) (by decide) rfl (fun ls hl => ?_)
                refine lv_goto (tgt := 4) S.1 S.2.1 dX10_sweep_55 (by decide) ?_
                rw [← cnt_s0 hc] at hl
                exact ihL (k + 1) (by omega) (by omega) _ _ _ hR hG ls (lv_sub hl [0, 1, 2, 3] rfl)
              · have c5 := bI_t c5
                have hc : (swC old2 kp Wn adr plc) k = true := swC_t ha hp (Or.inr c5)
                refine lv_aload_n S.1 S.2.1 dX10_sweep_44 rfl (lv_at hl 2 rfl) ?_
                refine lv_iload_n S.1 S.2.1 dX10_sweep_45 rfl (lv_at hl 0 rfl) ?_
                refine mCV (As := [.int (nI (k))]) (rest := []) S (r_go hR k a (by omega) (by rw [swA_at]; exact ha) (by omega)) cal_X10_go in_432 in_433 in_434 in_5 hK hN hG hR.obj rfl rfl rfl hl.1 (Nat.le_of_ble_eq_true rfl) ⟨by decide, by decide⟩ ⟨rfl, rfl⟩ ⟨by decide, by decide⟩ dX10_sweep_46 (fun v w H locs hp hG => ?_)
                obtain ⟨rfl, hR⟩ := hp
                refine W.eq (g2 := F0 m 49 ls []) rfl ?_
                rw [swA_s hc, swR_s hc, swO_s hLay (by omega) ha hc] at hR
                refine lv_iinc (v := nI (cnt (swC old2 kp Wn adr plc) k + 1)) (lv' := [(2, .int (nI (cnt (swC old2 kp Wn adr plc) k + 1))), (3, .int (nI (k))), (0, .ref (q 0)), (1, .int (bI (old2)))]) S.1 S.2.1 dX10_sweep_49 hl (k := 1) rfl (nI_1 _) (by decide) rfl (fun ls hl => ?_)
                refine lv_iinc (v := nI (k + 1)) (lv' := [(3, .int (nI (k + 1))), (2, .int (nI (cnt (swC old2 kp Wn adr plc) k + 1))), (0, .ref (q 0)), (1, .int (bI (old2)))]) S.1 S.2.1 dX10_sweep_52 hl (k := 1) rfl (nI_1 _) (by decide) rfl (fun ls hl => ?_)
                refine lv_goto (tgt := 4) S.1 S.2.1 dX10_sweep_55 (by decide) ?_
                rw [← cnt_s1 hc] at hl
                exact ihL (k + 1) (by omega) (by omega) _ _ _ hR hG ls (lv_sub hl [0, 1, 2, 3] rfl)
  exact L (made + 1) 0 (by omega) (by omega) _ _ _ (by rw [blw_0, swA_f, swR_f, swO_f]; exact hR) hG ls (lv_sub hl [0, 1, 2, 3] rfl)
end
section
/-- what a root and a field name: a code, or an object and a field of it -/
def tgt (fl : Nat → Nat) (root : Nat → Option Nat) (x f : Int32) : Int32 ⊕ (Nat × Nat) :=
  if inR 16 x = true ∧ inR 6 f = true then (match root x.toNatClampNeg with
    | none => .inl (-3)
    | some o => if f.toNatClampNeg < fl o then .inr (o, f.toNatClampNeg) else .inl (-2)) else .inl (-2)
def tgC (t : Int32 ⊕ (Nat × Nat)) : Int32 := match t with | .inl c => c | .inr _ => 0
theorem tgt_b1 {fl : Nat → Nat} {root : Nat → Option Nat} {x f : Int32} (h : inR 16 x = false) : tgt fl root x f = .inl (-2) := by
  unfold tgt; rw [if_neg (by rw [h]; simp)]
theorem tgt_b2 {fl : Nat → Nat} {root : Nat → Option Nat} {x f : Int32} (h : inR 6 f = false) : tgt fl root x f = .inl (-2) := by
  unfold tgt; rw [if_neg (by rw [h]; simp)]
theorem tgt_in {fl : Nat → Nat} {root : Nat → Option Nat} {j i : Nat} (hj : j < 16) (hi : i < 6) : tgt fl root (nI j) (nI i) = (match root j with | none => .inl (-3) | some o => if i < fl o then .inr (o, i) else .inl (-2)) := by
  unfold tgt
  rw [if_pos ⟨inR_nI hj (by decide), inR_nI hi (by decide)⟩, nI_clamp (by omega), nI_clamp (by omega)]
theorem tgt_n {fl : Nat → Nat} {root : Nat → Option Nat} {j i : Nat} (hj : j < 16) (hi : i < 6) (h : root j = none) : tgt fl root (nI j) (nI i) = .inl (-3) := by rw [tgt_in hj hi, h]
theorem tgt_b3 {fl : Nat → Nat} {root : Nat → Option Nat} {j i o : Nat} (hj : j < 16) (hi : i < 6) (h : root j = some o) (h2 : ¬ i < fl o) : tgt fl root (nI j) (nI i) = .inl (-2) := by rw [tgt_in hj hi, h]; simp only [if_neg h2]
theorem tgt_o {fl : Nat → Nat} {root : Nat → Option Nat} {j i o : Nat} (hj : j < 16) (hi : i < 6) (h : root j = some o) (h2 : i < fl o) : tgt fl root (nI j) (nI i) = .inr (o, i) := by rw [tgt_in hj hi, h]; simp only [if_pos h2]
theorem tgt_inl {fl : Nat → Nat} {root : Nat → Option Nat} {x f c : Int32} (h : tgt fl root x f = .inl c) : c = -2 ∨ c = -3 := by
  unfold tgt at h
  split at h
  · split at h
    · cases h; exact Or.inr rfl
    · split at h
      · cases h
      · cases h; exact Or.inl rfl
  · cases h; exact Or.inl rfl
theorem tgt_inr {fl : Nat → Nat} {root : Nat → Option Nat} {x f : Int32} {o i : Nat} (h : tgt fl root x f = .inr (o, i)) : ∃ j, j < 16 ∧ x = nI j ∧ f = nI i ∧ i < 6 ∧ root j = some o ∧ i < fl o := by
  unfold tgt at h
  split at h
  · rename_i hc
    obtain ⟨j, hj, rfl⟩ := inR_ex (by decide) hc.1
    obtain ⟨i2, hi, rfl⟩ := inR_ex (by decide) hc.2
    rw [nI_clamp (by omega), nI_clamp (by omega)] at h
    split at h
    · cases h
    · rename_i o2 ho
      split at h
      · rename_i hf
        cases h
        exact ⟨j, hj, rfl, rfl, hi, ho, hf⟩
      · cases h
  · cases h
theorem tgC_ne {c : Int32} (h : c = -2 ∨ c = -3) : ¬ c = 0 := by
  rcases h with rfl | rfl <;> decide
theorem cal_X10_wrong : mCal yX10_wrong cX10_wrong 3 2 (some .int) := ⟨in_486, by decide +kernel⟩
set_option maxHeartbeats 4000000 in
set_option maxRecDepth 100000 in
theorem r_wrong {l : Launch} {dC : Nat → ClassId} {dI : Nat → Nat → Nat} {cI cZ cT : ClassId} {q : Nat → Nat} {thr : Int32} {kp : Nat} {Wn : Nat} {made : Nat} {adr : (Nat → Option Nat)} {fl : (Nat → Nat)} {rem : (Nat → Bool)} {num : (Nat → Nat → Int32)} {rfs : (Nat → Nat → Option Nat)} {root : (Nat → Option Nat)} {own : (Nat → Option Nat)} {half : Nat} {top : Nat} {coll : Nat} {mins : Nat} {movd : Nat} {size : Nat} {row : (Nat → Nat)} {plc : (Nat → Option Nat)} {old : (Nat → Option Nat)} {w : mM} (hR : RW cI cZ q thr kp Wn made adr fl rem num rfs root own half top coll mins movd size row plc old w) (hrb : ∀ j, j < 16 → ∀ o, root j = some o → o < made) (hm : made ≤ 2000) (hfl : ∀ o, o < made → fl o ≤ 6) (x f : Int32) : mC l yX10_wrong (wsY yX10_wrong cX10_wrong 3 (some .int)) { frames := 2, cells := 0, slots := 0, locals := 42 } (dC, dI) vwCl (tyL cI cZ cT) 0 0 w [.ref (q 0), .int (x), .int (f)] (fun v w2 => v = some (.int (tgC (tgt fl root x f))) ∧ w2 = w) := by
  refine mC.on (by decide) (Nat.le_of_ble_eq_true rfl) ?_
  intro p e s m args below meth c ls S hr hlk hnm hK hN hG hl
  have hl : lv_has ls 3 [(0, .ref (q 0)), (1, .int (x)), (2, .int (f))] := hl
  generalize hAe : mA w s.heap.size = A at hG ⊢
  refine lv_iload_n S.1 S.2.1 dX10_wrong_0 rfl (lv_at hl 1 rfl) ?_
  refine mCS (As := [.int (x)]) (rest := []) S (r_isRoot x) cal_X10_isRoot rfl in_382 in_383 in_5 hK hN hG rfl rfl hl.1 (Nat.le_of_ble_eq_true rfl) ⟨by decide, by decide⟩ ⟨rfl, rfl⟩ ⟨by decide, by decide⟩ dX10_wrong_1 (fun v w H locs hp hG => ?_)
  obtain ⟨rfl, hw9⟩ := hp
  rw [hw9] at hG
  refine W.eq (g2 := F0 m 4 ls [.int (bI (inR 16 x))]) rfl ?_
  refine lv_if_eq (tgt := 41) S.1 S.2.1 dX10_wrong_4 (by decide) (fun c1 => ?_) (fun c1 => ?_)
  · rw [tgt_b1 (bI_f c1)]
    refine lv_bipush (v := -2) S.1 S.2.1 dX10_wrong_41 (by decide) ?_
    exact mw_iret S hr hlk hK hG dX10_wrong_43 ⟨rfl, rfl⟩
  · obtain ⟨j, hj, rfl⟩ := inR_ex (by decide) (bI_t c1)
    refine lv_iload_n S.1 S.2.1 dX10_wrong_7 rfl (lv_at hl 2 rfl) ?_
    refine lv_iconst (v := nI (0)) S.1 S.2.1 dX10_wrong_8 (by decide) ?_
    refine lv_iconst (v := nI (5)) S.1 S.2.1 dX10_wrong_9 (by decide) ?_
    refine mCS (As := [.int (f), .int (nI (0)), .int (nI (5))]) (rest := []) S (r_in f 5 (by decide)) cal_X10_in rfl in_385 in_386 in_5 hK hN hG rfl rfl hl.1 (Nat.le_of_ble_eq_true rfl) ⟨by decide, by decide⟩ ⟨rfl, rfl⟩ ⟨by decide, by decide⟩ dX10_wrong_10 (fun v w H locs hp hG => ?_)
    obtain ⟨rfl, hw9⟩ := hp
    rw [hw9] at hG
    refine W.eq (g2 := F0 m 13 ls [.int (bI (inR 6 f))]) rfl ?_
    refine lv_if_eq (tgt := 41) S.1 S.2.1 dX10_wrong_13 (by decide) (fun c2 => ?_) (fun c2 => ?_)
    · rw [tgt_b2 (bI_f c2)]
      refine lv_bipush (v := -2) S.1 S.2.1 dX10_wrong_41 (by decide) ?_
      exact mw_iret S hr hlk hK hG dX10_wrong_43 ⟨rfl, rfl⟩
    · obtain ⟨i, hi, rfl⟩ := inR_ex (by decide) (bI_t c2)
      have hob : ∀ o, root j = some o → o < 2147483648 := fun o ho => by have := hrb j hj o ho; omega
      refine lv_aload_n S.1 S.2.1 dX10_wrong_16 rfl (lv_at hl 0 rfl) ?_
      refine rg_root S hK hG hR dX10_wrong_17 ?_
      refine lv_iload_n S.1 S.2.1 dX10_wrong_20 rfl (lv_at hl 1 rfl) ?_
      refine rl_root S hK hG hR (j) (by omega) dX10_wrong_21 ?_
      refine lv_iconst (v := -1) S.1 S.2.1 dX10_wrong_22 (by decide) ?_
      refine lv_icmp_eq (tgt := 44) S.1 S.2.1 dX10_wrong_23 (by decide) (fun c3 => ?_) (fun c3 => ?_)
      · have hn := (oI_m1 hob).mp c3
        rw [tgt_n hj hi hn]
        refine lv_aload_n S.1 S.2.1 dX10_wrong_44 rfl (lv_at hl 0 rfl) ?_
        refine rg_root S hK hG hR dX10_wrong_45 ?_
        refine lv_iload_n S.1 S.2.1 dX10_wrong_48 rfl (lv_at hl 1 rfl) ?_
        refine rl_root S hK hG hR (j) (by omega) dX10_wrong_49 ?_
        refine lv_iconst (v := -1) S.1 S.2.1 dX10_wrong_50 (by decide) ?_
        refine lv_icmp_ne (tgt := 59) S.1 S.2.1 dX10_wrong_51 (by decide) (fun c4 => ?_) (fun c4 => ?_)
        · exact absurd c3 c4
        · refine lv_bipush (v := -3) S.1 S.2.1 dX10_wrong_54 (by decide) ?_
          refine lv_goto (tgt := 60) S.1 S.2.1 dX10_wrong_56 (by decide) ?_
          exact mw_iret S hr hlk hK hG dX10_wrong_60 ⟨rfl, rfl⟩
      · obtain ⟨o, ho⟩ : ∃ o, root j = some o := by
          cases h : root j with
          | none => exact absurd ((oI_m1 hob).mpr h) c3
          | some o => exact ⟨o, rfl⟩
        have hom := hrb j hj o ho
        have hof := hfl o hom
        refine lv_iload_n S.1 S.2.1 dX10_wrong_26 rfl (lv_at hl 2 rfl) ?_
        refine lv_aload_n S.1 S.2.1 dX10_wrong_27 rfl (lv_at hl 0 rfl) ?_
        refine rg_fl S hK hG hR dX10_wrong_28 ?_
        refine lv_aload_n S.1 S.2.1 dX10_wrong_31 rfl (lv_at hl 0 rfl) ?_
        refine rg_root S hK hG hR dX10_wrong_32 ?_
        refine lv_iload_n S.1 S.2.1 dX10_wrong_35 rfl (lv_at hl 1 rfl) ?_
        refine rl_root S hK hG hR (j) (by omega) dX10_wrong_36 ?_
        refine lv_eqi (y := nI (o)) (by rw [ho]; rfl) ?_
        refine rl_fl S hK hG hR (o) (by omega) dX10_wrong_37 ?_
        refine lv_icmp_lt (tgt := 44) S.1 S.2.1 dX10_wrong_38 (by decide) (fun c4 => ?_) (fun c4 => ?_)
        · have c4 : i < (fl o) := (nI_ltI (a := i) (b := fl o) (by omega) (by omega)).mp c4
          rw [tgt_o hj hi ho c4]
          refine lv_aload_n S.1 S.2.1 dX10_wrong_44 rfl (lv_at hl 0 rfl) ?_
          refine rg_root S hK hG hR dX10_wrong_45 ?_
          refine lv_iload_n S.1 S.2.1 dX10_wrong_48 rfl (lv_at hl 1 rfl) ?_
          refine rl_root S hK hG hR (j) (by omega) dX10_wrong_49 ?_
          refine lv_iconst (v := -1) S.1 S.2.1 dX10_wrong_50 (by decide) ?_
          refine lv_icmp_ne (tgt := 59) S.1 S.2.1 dX10_wrong_51 (by decide) (fun c5 => ?_) (fun c5 => ?_)
          · refine lv_iconst (v := nI (0)) S.1 S.2.1 dX10_wrong_59 (by decide) ?_
            exact mw_iret S hr hlk hK hG dX10_wrong_60 ⟨rfl, rfl⟩
          · exact absurd c5 c3
        · have c4 : ¬ (i < (fl o)) := fun h9 => c4 ((nI_ltI (a := i) (b := fl o) (by omega) (by omega)).mpr h9)
          rw [tgt_b3 hj hi ho c4]
          refine lv_bipush (v := -2) S.1 S.2.1 dX10_wrong_41 (by decide) ?_
          exact mw_iret S hr hlk hK hG dX10_wrong_43 ⟨rfl, rfl⟩
theorem cal_X10_set : mCal yX10_set cX10_set 5 3 (some .int) := ⟨in_482, by decide +kernel⟩
set_option maxHeartbeats 4000000 in
set_option maxRecDepth 100000 in
theorem r_set {l : Launch} {dC : Nat → ClassId} {dI : Nat → Nat → Nat} {cI cZ cT : ClassId} {q : Nat → Nat} {thr : Int32} {kp : Nat} {Wn : Nat} {made : Nat} {adr : (Nat → Option Nat)} {fl : (Nat → Nat)} {rem : (Nat → Bool)} {num : (Nat → Nat → Int32)} {rfs : (Nat → Nat → Option Nat)} {root : (Nat → Option Nat)} {own : (Nat → Option Nat)} {half : Nat} {top : Nat} {coll : Nat} {mins : Nat} {movd : Nat} {size : Nat} {row : (Nat → Nat)} {plc : (Nat → Option Nat)} {old : (Nat → Option Nat)} {w : mM} (hR : RW cI cZ q thr kp Wn made adr fl rem num rfs root own half top coll mins movd size row plc old w) (hrb : ∀ j, j < 16 → ∀ o, root j = some o → o < made) (hm : made ≤ 2000) (hfl : ∀ o, o < made → fl o ≤ 6) (x f y : Int32) : mC l yX10_set (wsY yX10_set cX10_set 5 (some .int)) { frames := 3, cells := 0, slots := 0, locals := 64 } (dC, dI) vwCl (tyL cI cZ cT) 0 0 w [.ref (q 0), .int (x), .int (f), .int (y)] (fun v w2 => v = some (.int (tgC (tgt fl root x f))) ∧ match tgt fl root x f with | .inl _ => RW cI cZ q 0 kp Wn made adr fl rem num rfs root own half top coll mins movd size row plc old w2 | .inr (o, i) => RW cI cZ q 0 kp Wn made adr fl rem (up2 num o i y) (up2 rfs o i none) root own half top coll mins movd size row plc old w2) := by
  refine mC.on (by decide) (Nat.le_of_ble_eq_true rfl) ?_
  intro p e s m args below meth c ls S hr hlk hnm hK hN hG hl
  have hl : lv_has ls 5 [(0, .ref (q 0)), (1, .int (x)), (2, .int (f)), (3, .int (y))] := hl
  generalize hAe : mA w s.heap.size = A at hG ⊢
  refine lv_aload_n S.1 S.2.1 dX10_set_0 rfl (lv_at hl 0 rfl) ?_
  refine lv_iconst (v := 0) S.1 S.2.1 dX10_set_1 (by decide) ?_
  refine rp_thr S hK hG hR (0) dX10_set_2 (fun w H locs hR hG => ?_)
  refine lv_aload_n S.1 S.2.1 dX10_set_5 rfl (lv_at hl 0 rfl) ?_
  refine lv_iload_n S.1 S.2.1 dX10_set_6 rfl (lv_at hl 1 rfl) ?_
  refine lv_iload_n S.1 S.2.1 dX10_set_7 rfl (lv_at hl 2 rfl) ?_
  refine mCV (As := [.int (x), .int (f)]) (rest := []) S (r_wrong hR hrb hm hfl x f) cal_X10_wrong in_483 in_484 in_485 in_5 hK hN hG hR.obj rfl rfl rfl hl.1 (Nat.le_of_ble_eq_true rfl) ⟨by decide, by decide⟩ ⟨rfl, rfl⟩ ⟨by decide, by decide⟩ dX10_set_8 (fun v w H locs hp hG => ?_)
  obtain ⟨rfl, hw9⟩ := hp
  rw [hw9] at hG
  refine W.eq (g2 := F0 m 11 ls [.int (tgC (tgt fl root x f))]) rfl ?_
  cases ht : tgt fl root x f with
  | inl cd =>
    have hcd := tgC_ne (tgt_inl ht)
    refine W.eq (g2 := F0 m 11 ls [.int cd]) rfl ?_
    refine lv_istore (lv' := [(4, .int (cd)), (0, .ref (q 0)), (1, .int (x)), (2, .int (f)), (3, .int (y))]) S.1 S.2.1 dX10_set_11 hl (by decide) rfl (fun ls hl => ?_)
    refine lv_iload S.1 S.2.1 dX10_set_13 (lv_at hl 0 rfl) ?_
    refine lv_if_ne (tgt := 52) S.1 S.2.1 dX10_set_15 (by decide) (fun c1 => ?_) (fun c1 => ?_)
    · refine lv_iload S.1 S.2.1 dX10_set_52 (lv_at hl 0 rfl) ?_
      exact mw_iret S hr hlk hK hG dX10_set_54 ⟨rfl, hR⟩
    · exact absurd c1 hcd
  | inr oi =>
    obtain ⟨o, i⟩ := oi
    obtain ⟨j, hj, rfl, rfl, hi, hjo, hif⟩ := tgt_inr ht
    have hom := hrb j hj o hjo
    refine W.eq (g2 := F0 m 11 ls [.int 0]) rfl ?_
    refine lv_istore (lv' := [(4, .int (0)), (0, .ref (q 0)), (1, .int (nI (j))), (2, .int (nI (i))), (3, .int (y))]) S.1 S.2.1 dX10_set_11 hl (by decide) rfl (fun ls hl => ?_)
    refine lv_iload S.1 S.2.1 dX10_set_13 (lv_at hl 0 rfl) ?_
    refine lv_if_ne (tgt := 52) S.1 S.2.1 dX10_set_15 (by decide) (fun c1 => ?_) (fun c1 => ?_)
    · exact absurd rfl c1
    · refine lv_aload_n S.1 S.2.1 dX10_set_18 rfl (lv_at hl 1 rfl) ?_
      refine rg_num S hK hG hR dX10_set_19 ?_
      refine lv_bipush (v := nI (6)) S.1 S.2.1 dX10_set_22 (by decide) ?_
      refine lv_aload_n S.1 S.2.1 dX10_set_24 rfl (lv_at hl 1 rfl) ?_
      refine rg_root S hK hG hR dX10_set_25 ?_
      refine lv_iload_n S.1 S.2.1 dX10_set_28 rfl (lv_at hl 2 rfl) ?_
      refine rl_root S hK hG hR (j) (by omega) dX10_set_29 ?_
      refine lv_eqi (y := nI (o)) (by rw [hjo]; rfl) ?_
      refine lv_imul S.1 S.2.1 dX10_set_30 ?_
      refine lv_eqi (pk_mul _ _) ?_
      refine lv_iload_n S.1 S.2.1 dX10_set_31 rfl (lv_at hl 3 rfl) ?_
      refine lv_iadd S.1 S.2.1 dX10_set_32 ?_
      refine lv_eqi (nI_add _ _) ?_
      refine lv_iload_n S.1 S.2.1 dX10_set_33 rfl (lv_at hl 4 rfl) ?_
      refine rs_num S hK hG hR (o) (i) (y) (by omega) (by omega) dX10_set_34 (fun w H locs hR hG => ?_)
      refine lv_aload_n S.1 S.2.1 dX10_set_35 rfl (lv_at hl 1 rfl) ?_
      refine rg_rfs S hK hG hR dX10_set_36 ?_
      refine lv_bipush (v := nI (6)) S.1 S.2.1 dX10_set_39 (by decide) ?_
      refine lv_aload_n S.1 S.2.1 dX10_set_41 rfl (lv_at hl 1 rfl) ?_
      refine rg_root S hK hG hR dX10_set_42 ?_
      refine lv_iload_n S.1 S.2.1 dX10_set_45 rfl (lv_at hl 2 rfl) ?_
      refine rl_root S hK hG hR (j) (by omega) dX10_set_46 ?_
      refine lv_eqi (y := nI (o)) (by rw [hjo]; rfl) ?_
      refine lv_imul S.1 S.2.1 dX10_set_47 ?_
      refine lv_eqi (pk_mul _ _) ?_
      refine lv_iload_n S.1 S.2.1 dX10_set_48 rfl (lv_at hl 3 rfl) ?_
      refine lv_iadd S.1 S.2.1 dX10_set_49 ?_
      refine lv_eqi (nI_add _ _) ?_
      refine lv_iconst (v := -1) S.1 S.2.1 dX10_set_50 (by decide) ?_
      refine rs_rfs S hK hG hR (o) (i) (none) (by omega) (by omega) dX10_set_51 (fun w H locs hR hG => ?_)
      refine lv_iload S.1 S.2.1 dX10_set_52 (lv_at hl 0 rfl) ?_
      exact mw_iret S hr hlk hK hG dX10_set_54 ⟨rfl, hR⟩
theorem cal_X10_refers : mCal yX10_refers cX10_refers 4 2 (some .int) := ⟨in_517, by decide +kernel⟩
set_option maxHeartbeats 4000000 in
set_option maxRecDepth 100000 in
theorem r_refers {l : Launch} {dC : Nat → ClassId} {dI : Nat → Nat → Nat} {cI cZ cT : ClassId} {q : Nat → Nat} {thr : Int32} {kp : Nat} {Wn : Nat} {made : Nat} {adr : (Nat → Option Nat)} {fl : (Nat → Nat)} {rem : (Nat → Bool)} {num : (Nat → Nat → Int32)} {rfs : (Nat → Nat → Option Nat)} {root : (Nat → Option Nat)} {own : (Nat → Option Nat)} {half : Nat} {top : Nat} {coll : Nat} {mins : Nat} {movd : Nat} {size : Nat} {row : (Nat → Nat)} {plc : (Nat → Option Nat)} {old : (Nat → Option Nat)} {w : mM} (hR : RW cI cZ q thr kp Wn made adr fl rem num rfs root own half top coll mins movd size row plc old w) (hrb : ∀ j, j < 16 → ∀ o, root j = some o → o < made) (hm : made ≤ 2000) (hfl : ∀ o, o < made → fl o ≤ 6) (hfb : ∀ o, o < made → ∀ i, i < fl o → ∀ t, rfs o i = some t → t < made) (x f : Int32) : mC l yX10_refers (wsY yX10_refers cX10_refers 4 (some .int)) { frames := 3, cells := 0, slots := 0, locals := 64 } (dC, dI) vwCl (tyL cI cZ cT) 0 0 w [.ref (q 0), .int (x), .int (f)] (fun v w2 => v = some (.int (match tgt fl root x f with | .inl c => c | .inr (o, i) => bI (rfs o i).isSome)) ∧ RW cI cZ q 0 kp Wn made adr fl rem num rfs root own half top coll mins movd size row plc old w2) := by
  refine mC.on (by decide) (Nat.le_of_ble_eq_true rfl) ?_
  intro p e s m args below meth c ls S hr hlk hnm hK hN hG hl
  have hl : lv_has ls 4 [(0, .ref (q 0)), (1, .int (x)), (2, .int (f))] := hl
  generalize hAe : mA w s.heap.size = A at hG ⊢
  refine lv_aload_n S.1 S.2.1 dX10_refers_0 rfl (lv_at hl 0 rfl) ?_
  refine lv_iconst (v := 0) S.1 S.2.1 dX10_refers_1 (by decide) ?_
  refine rp_thr S hK hG hR (0) dX10_refers_2 (fun w H locs hR hG => ?_)
  refine lv_aload_n S.1 S.2.1 dX10_refers_5 rfl (lv_at hl 0 rfl) ?_
  refine lv_iload_n S.1 S.2.1 dX10_refers_6 rfl (lv_at hl 1 rfl) ?_
  refine lv_iload_n S.1 S.2.1 dX10_refers_7 rfl (lv_at hl 2 rfl) ?_
  refine mCV (As := [.int (x), .int (f)]) (rest := []) S (r_wrong hR hrb hm hfl x f) cal_X10_wrong in_483 in_484 in_485 in_5 hK hN hG hR.obj rfl rfl rfl hl.1 (Nat.le_of_ble_eq_true rfl) ⟨by decide, by decide⟩ ⟨rfl, rfl⟩ ⟨by decide, by decide⟩ dX10_refers_8 (fun v w H locs hp hG => ?_)
  obtain ⟨rfl, hw9⟩ := hp
  rw [hw9] at hG
  refine W.eq (g2 := F0 m 11 ls [.int (tgC (tgt fl root x f))]) rfl ?_
  cases ht : tgt fl root x f with
  | inl cd =>
    have hcd := tgC_ne (tgt_inl ht)
    refine W.eq (g2 := F0 m 11 ls [.int cd]) rfl ?_
    refine lv_istore_n (lv' := [(3, .int (cd)), (0, .ref (q 0)), (1, .int (x)), (2, .int (f))]) S.1 S.2.1 dX10_refers_11 rfl hl (by decide) rfl (fun ls hl => ?_)
    refine lv_iload_n S.1 S.2.1 dX10_refers_12 rfl (lv_at hl 0 rfl) ?_
    refine lv_if_eq (tgt := 20) S.1 S.2.1 dX10_refers_13 (by decide) (fun c1 => ?_) (fun c1 => ?_)
    · exact absurd c1 hcd
    · refine lv_iload_n S.1 S.2.1 dX10_refers_16 rfl (lv_at hl 0 rfl) ?_
      refine lv_goto (tgt := 45) S.1 S.2.1 dX10_refers_17 (by decide) ?_
      exact mw_iret S hr hlk hK hG dX10_refers_45 ⟨rfl, hR⟩
  | inr oi =>
    obtain ⟨o, i⟩ := oi
    obtain ⟨j, hj, rfl, rfl, hi, hjo, hif⟩ := tgt_inr ht
    have hom := hrb j hj o hjo
    refine W.eq (g2 := F0 m 11 ls [.int 0]) rfl ?_
    refine lv_istore_n (lv' := [(3, .int (0)), (0, .ref (q 0)), (1, .int (nI (j))), (2, .int (nI (i)))]) S.1 S.2.1 dX10_refers_11 rfl hl (by decide) rfl (fun ls hl => ?_)
    refine lv_iload_n S.1 S.2.1 dX10_refers_12 rfl (lv_at hl 0 rfl) ?_
    refine lv_if_eq (tgt := 20) S.1 S.2.1 dX10_refers_13 (by decide) (fun c1 => ?_) (fun c1 => ?_)
    · refine lv_aload_n S.1 S.2.1 dX10_refers_20 rfl (lv_at hl 1 rfl) ?_
      refine rg_rfs S hK hG hR dX10_refers_21 ?_
      refine lv_bipush (v := nI (6)) S.1 S.2.1 dX10_refers_24 (by decide) ?_
      refine lv_aload_n S.1 S.2.1 dX10_refers_26 rfl (lv_at hl 1 rfl) ?_
      refine rg_root S hK hG hR dX10_refers_27 ?_
      refine lv_iload_n S.1 S.2.1 dX10_refers_30 rfl (lv_at hl 2 rfl) ?_
      refine rl_root S hK hG hR (j) (by omega) dX10_refers_31 ?_
      refine lv_eqi (y := nI (o)) (by rw [hjo]; rfl) ?_
      refine lv_imul S.1 S.2.1 dX10_refers_32 ?_
      refine lv_eqi (pk_mul _ _) ?_
      refine lv_iload_n S.1 S.2.1 dX10_refers_33 rfl (lv_at hl 3 rfl) ?_
      refine lv_iadd S.1 S.2.1 dX10_refers_34 ?_
      refine lv_eqi (nI_add _ _) ?_
      refine rl_rfs S hK hG hR (o) (i) (by omega) (by omega) dX10_refers_35 ?_
      refine lv_iconst (v := -1) S.1 S.2.1 dX10_refers_36 (by decide) ?_
      have htb : ∀ t, rfs o i = some t → t < 2147483648 := fun t ht9 => by have := hfb o hom i hif t ht9; omega
      refine lv_icmp_eq (tgt := 44) S.1 S.2.1 dX10_refers_37 (by decide) (fun c2 => ?_) (fun c2 => ?_)
      · refine lv_iconst (v := nI (0)) S.1 S.2.1 dX10_refers_44 (by decide) ?_
        exact mw_iret S hr hlk hK hG dX10_refers_45 ⟨by simp only [(oI_m1 htb).mp c2]; rfl, hR⟩
      · refine lv_iconst (v := nI (1)) S.1 S.2.1 dX10_refers_40 (by decide) ?_
        refine lv_goto (tgt := 45) S.1 S.2.1 dX10_refers_41 (by decide) ?_
        cases hz : rfs o i with
        | none => exact absurd ((oI_m1 htb).mpr hz) c2
        | some t => exact mw_iret S hr hlk hK hG dX10_refers_45 ⟨by simp only [hz]; rfl, hR⟩
    · exact absurd rfl c1
theorem cal_X10_number : mCal yX10_number cX10_number 3 2 (some .int) := ⟨in_529, by decide +kernel⟩
set_option maxHeartbeats 4000000 in
set_option maxRecDepth 100000 in
theorem r_number {l : Launch} {dC : Nat → ClassId} {dI : Nat → Nat → Nat} {cI cZ cT : ClassId} {q : Nat → Nat} {thr : Int32} {kp : Nat} {Wn : Nat} {made : Nat} {adr : (Nat → Option Nat)} {fl : (Nat → Nat)} {rem : (Nat → Bool)} {num : (Nat → Nat → Int32)} {rfs : (Nat → Nat → Option Nat)} {root : (Nat → Option Nat)} {own : (Nat → Option Nat)} {half : Nat} {top : Nat} {coll : Nat} {mins : Nat} {movd : Nat} {size : Nat} {row : (Nat → Nat)} {plc : (Nat → Option Nat)} {old : (Nat → Option Nat)} {w : mM} (hR : RW cI cZ q thr kp Wn made adr fl rem num rfs root own half top coll mins movd size row plc old w) (hrb : ∀ j, j < 16 → ∀ o, root j = some o → o < made) (hm : made ≤ 2000) (hfl : ∀ o, o < made → fl o ≤ 6) (x f : Int32) : mC l yX10_number (wsY yX10_number cX10_number 3 (some .int)) { frames := 3, cells := 0, slots := 0, locals := 64 } (dC, dI) vwCl (tyL cI cZ cT) 0 0 w [.ref (q 0), .int (x), .int (f)] (fun v w2 => v = some (.int (match tgt fl root x f with | .inl _ => 0 | .inr (o, i) => num o i)) ∧ RW cI cZ q 0 kp Wn made adr fl rem num rfs root own half top coll mins movd size row plc old w2) := by
  refine mC.on (by decide) (Nat.le_of_ble_eq_true rfl) ?_
  intro p e s m args below meth c ls S hr hlk hnm hK hN hG hl
  have hl : lv_has ls 3 [(0, .ref (q 0)), (1, .int (x)), (2, .int (f))] := hl
  generalize hAe : mA w s.heap.size = A at hG ⊢
  refine lv_aload_n S.1 S.2.1 dX10_number_0 rfl (lv_at hl 0 rfl) ?_
  refine lv_iconst (v := 0) S.1 S.2.1 dX10_number_1 (by decide) ?_
  refine rp_thr S hK hG hR (0) dX10_number_2 (fun w H locs hR hG => ?_)
  refine lv_aload_n S.1 S.2.1 dX10_number_5 rfl (lv_at hl 0 rfl) ?_
  refine lv_iload_n S.1 S.2.1 dX10_number_6 rfl (lv_at hl 1 rfl) ?_
  refine lv_iload_n S.1 S.2.1 dX10_number_7 rfl (lv_at hl 2 rfl) ?_
  refine mCV (As := [.int (x), .int (f)]) (rest := []) S (r_wrong hR hrb hm hfl x f) cal_X10_wrong in_483 in_484 in_485 in_5 hK hN hG hR.obj rfl rfl rfl hl.1 (Nat.le_of_ble_eq_true rfl) ⟨by decide, by decide⟩ ⟨rfl, rfl⟩ ⟨by decide, by decide⟩ dX10_number_8 (fun v w H locs hp hG => ?_)
  obtain ⟨rfl, hw9⟩ := hp
  rw [hw9] at hG
  refine W.eq (g2 := F0 m 11 ls [.int (tgC (tgt fl root x f))]) rfl ?_
  cases ht : tgt fl root x f with
  | inl cd =>
    have hcd := tgC_ne (tgt_inl ht)
    refine W.eq (g2 := F0 m 11 ls [.int cd]) rfl ?_
    refine lv_if_eq (tgt := 18) S.1 S.2.1 dX10_number_11 (by decide) (fun c1 => ?_) (fun c1 => ?_)
    · exact absurd c1 hcd
    · refine lv_iconst (v := nI (0)) S.1 S.2.1 dX10_number_14 (by decide) ?_
      refine lv_goto (tgt := 34) S.1 S.2.1 dX10_number_15 (by decide) ?_
      exact mw_iret S hr hlk hK hG dX10_number_34 ⟨rfl, hR⟩
  | inr oi =>
    obtain ⟨o, i⟩ := oi
    obtain ⟨j, hj, rfl, rfl, hi, hjo, hif⟩ := tgt_inr ht
    have hom := hrb j hj o hjo
    refine W.eq (g2 := F0 m 11 ls [.int 0]) rfl ?_
    refine lv_if_eq (tgt := 18) S.1 S.2.1 dX10_number_11 (by decide) (fun c1 => ?_) (fun c1 => ?_)
    · refine lv_aload_n S.1 S.2.1 dX10_number_18 rfl (lv_at hl 0 rfl) ?_
      refine rg_num S hK hG hR dX10_number_19 ?_
      refine lv_bipush (v := nI (6)) S.1 S.2.1 dX10_number_22 (by decide) ?_
      refine lv_aload_n S.1 S.2.1 dX10_number_24 rfl (lv_at hl 0 rfl) ?_
      refine rg_root S hK hG hR dX10_number_25 ?_
      refine lv_iload_n S.1 S.2.1 dX10_number_28 rfl (lv_at hl 1 rfl) ?_
      refine rl_root S hK hG hR (j) (by omega) dX10_number_29 ?_
      refine lv_eqi (y := nI (o)) (by rw [hjo]; rfl) ?_
      refine lv_imul S.1 S.2.1 dX10_number_30 ?_
      refine lv_eqi (pk_mul _ _) ?_
      refine lv_iload_n S.1 S.2.1 dX10_number_31 rfl (lv_at hl 2 rfl) ?_
      refine lv_iadd S.1 S.2.1 dX10_number_32 ?_
      refine lv_eqi (nI_add _ _) ?_
      refine rl_num S hK hG hR (o) (i) (by omega) (by omega) dX10_number_33 ?_
      exact mw_iret S hr hlk hK hG dX10_number_34 ⟨rfl, hR⟩
    · exact absurd rfl c1
end
section
def lnk (fl : Nat → Nat) (root : Nat → Option Nat) (x f t : Int32) : Int32 ⊕ (Nat × Nat × Nat) :=
  if inR 16 t = true then (match tgt fl root x f with
    | .inl c => .inl c
    | .inr (o, i) => match root t.toNatClampNeg with
      | none => .inl (-3)
      | some u => .inr (o, i, u)) else .inl (-2)
theorem lnk_b {fl : Nat → Nat} {root : Nat → Option Nat} {x f t : Int32} (h : inR 16 t = false) : lnk fl root x f t = .inl (-2) := by
  unfold lnk; rw [if_neg (by rw [h]; simp)]
theorem lnk_c {fl : Nat → Nat} {root : Nat → Option Nat} {x f c : Int32} {k : Nat} (hk : k < 16) (h : tgt fl root x f = .inl c) : lnk fl root x f (nI k) = .inl c := by
  unfold lnk; rw [if_pos (inR_nI hk (by decide)), h]
theorem lnk_n {fl : Nat → Nat} {root : Nat → Option Nat} {x f : Int32} {k o i : Nat} (hk : k < 16) (h : tgt fl root x f = .inr (o, i)) (h2 : root k = none) : lnk fl root x f (nI k) = .inl (-3) := by
  unfold lnk; rw [if_pos (inR_nI hk (by decide)), h, nI_clamp (by omega)]; simp only [h2]
theorem lnk_o {fl : Nat → Nat} {root : Nat → Option Nat} {x f : Int32} {k o i u : Nat} (hk : k < 16) (h : tgt fl root x f = .inr (o, i)) (h2 : root k = some u) : lnk fl root x f (nI k) = .inr (o, i, u) := by
  unfold lnk; rw [if_pos (inR_nI hk (by decide)), h, nI_clamp (by omega)]; simp only [h2]
def lod (fl : Nat → Nat) (rfs : Nat → Nat → Option Nat) (root : Nat → Option Nat) (r x f : Int32) : Int32 ⊕ (Nat × Nat) :=
  if inR 16 r = true then (match tgt fl root x f with
    | .inl c => .inl c
    | .inr (o, i) => match rfs o i with
      | none => .inl (-3)
      | some u => .inr (r.toNatClampNeg, u)) else .inl (-2)
theorem lod_b {fl : Nat → Nat} {rfs : Nat → Nat → Option Nat} {root : Nat → Option Nat} {r x f : Int32} (h : inR 16 r = false) : lod fl rfs root r x f = .inl (-2) := by
  unfold lod; rw [if_neg (by rw [h]; simp)]
theorem lod_c {fl : Nat → Nat} {rfs : Nat → Nat → Option Nat} {root : Nat → Option Nat} {x f c : Int32} {k : Nat} (hk : k < 16) (h : tgt fl root x f = .inl c) : lod fl rfs root (nI k) x f = .inl c := by
  unfold lod; rw [if_pos (inR_nI hk (by decide)), h]
theorem lod_n {fl : Nat → Nat} {rfs : Nat → Nat → Option Nat} {root : Nat → Option Nat} {x f : Int32} {k o i : Nat} (hk : k < 16) (h : tgt fl root x f = .inr (o, i)) (h2 : rfs o i = none) : lod fl rfs root (nI k) x f = .inl (-3) := by
  unfold lod; rw [if_pos (inR_nI hk (by decide)), h]; simp only [h2]
theorem lod_o {fl : Nat → Nat} {rfs : Nat → Nat → Option Nat} {root : Nat → Option Nat} {x f : Int32} {k o i u : Nat} (hk : k < 16) (h : tgt fl root x f = .inr (o, i)) (h2 : rfs o i = some u) : lod fl rfs root (nI k) x f = .inr (k, u) := by
  unfold lod; rw [if_pos (inR_nI hk (by decide)), h, nI_clamp (by omega)]; simp only [h2]
def code2 {α : Type} (t : Int32 ⊕ α) (g : α → Int32) : Int32 := match t with | .inl c => c | .inr a => g a
theorem oI_inj {a b : Option Nat} (ha : ∀ k, a = some k → k < 2147483648) (hb : ∀ k, b = some k → k < 2147483648) (h : oI a = oI b) : a = b := by
  cases a with
  | none => exact ((oI_m1 hb).mp h.symm).symm
  | some x =>
    cases b with
    | none => exact (oI_m1 ha).mp h
    | some y => rw [(nI_eq (ha x rfl) (hb y rfl)).mp h]
theorem cal_X10_link : mCal yX10_link cX10_link 6 3 (some .int) := ⟨in_505, by decide +kernel⟩
set_option maxHeartbeats 4000000 in
set_option maxRecDepth 100000 in
theorem r_link {l : Launch} {dC : Nat → ClassId} {dI : Nat → Nat → Nat} {cI cZ cT : ClassId} {q : Nat → Nat} {thr : Int32} {kp : Nat} {Wn : Nat} {made : Nat} {adr : (Nat → Option Nat)} {fl : (Nat → Nat)} {rem : (Nat → Bool)} {num : (Nat → Nat → Int32)} {rfs : (Nat → Nat → Option Nat)} {root : (Nat → Option Nat)} {own : (Nat → Option Nat)} {half : Nat} {top : Nat} {coll : Nat} {mins : Nat} {movd : Nat} {size : Nat} {row : (Nat → Nat)} {plc : (Nat → Option Nat)} {old : (Nat → Option Nat)} {w : mM} (hR : RW cI cZ q thr kp Wn made adr fl rem num rfs root own half top coll mins movd size row plc old w) (hrb : ∀ j, j < 16 → ∀ o, root j = some o → o < made) (hm : made ≤ 2000) (hfl : ∀ o, o < made → fl o ≤ 6) (hkp : kp ≤ 2) (hW : Wn ≤ 400) (hab : ∀ o, o < made → ∀ a, adr o = some a → a < 2147483648) (x f t : Int32) : mC l yX10_link (wsY yX10_link cX10_link 6 (some .int)) { frames := 3, cells := 0, slots := 0, locals := 64 } (dC, dI) vwCl (tyL cI cZ cT) 0 0 w [.ref (q 0), .int (x), .int (f), .int (t)] (fun v w2 => v = some (.int (code2 (lnk fl root x f t) (fun _ => 0))) ∧ match lnk fl root x f t with | .inl _ => RW cI cZ q 0 kp Wn made adr fl rem num rfs root own half top coll mins movd size row plc old w2 | .inr (o, i, u) => RW cI cZ q 0 kp Wn made adr fl (va_up rem o (rem o || (isOldR kp Wn adr o && !isOldR kp Wn adr u))) (up2 num o i 0) (up2 rfs o i (some u)) root own half top coll mins movd size row plc old w2) := by
  refine mC.on (by decide) (Nat.le_of_ble_eq_true rfl) ?_
  intro p e s m args below meth c ls S hr hlk hnm hK hN hG hl
  have hl : lv_has ls 6 [(0, .ref (q 0)), (1, .int (x)), (2, .int (f)), (3, .int (t))] := hl
  generalize hAe : mA w s.heap.size = A at hG ⊢
  refine lv_aload_n S.1 S.2.1 dX10_link_0 rfl (lv_at hl 0 rfl) ?_
  refine lv_iconst (v := 0) S.1 S.2.1 dX10_link_1 (by decide) ?_
  refine rp_thr S hK hG hR (0) dX10_link_2 (fun w H locs hR hG => ?_)
  refine lv_aload_n S.1 S.2.1 dX10_link_5 rfl (lv_at hl 0 rfl) ?_
  refine lv_iload_n S.1 S.2.1 dX10_link_6 rfl (lv_at hl 1 rfl) ?_
  refine lv_iload_n S.1 S.2.1 dX10_link_7 rfl (lv_at hl 2 rfl) ?_
  refine mCV (As := [.int (x), .int (f)]) (rest := []) S (r_wrong hR hrb hm hfl x f) cal_X10_wrong in_483 in_484 in_485 in_5 hK hN hG hR.obj rfl rfl rfl hl.1 (Nat.le_of_ble_eq_true rfl) ⟨by decide, by decide⟩ ⟨rfl, rfl⟩ ⟨by decide, by decide⟩ dX10_link_8 (fun v w H locs hp hG => ?_)
  obtain ⟨rfl, hw9⟩ := hp
  rw [hw9] at hG
  refine W.eq (g2 := F0 m 11 ls [.int (tgC (tgt fl root x f))]) rfl ?_
  refine lv_istore (lv' := [(4, .int (tgC (tgt fl root x f))), (0, .ref (q 0)), (1, .int (x)), (2, .int (f)), (3, .int (t))]) S.1 S.2.1 dX10_link_11 hl (by decide) rfl (fun ls hl => ?_)
  refine lv_iload_n S.1 S.2.1 dX10_link_13 rfl (lv_at hl 4 rfl) ?_
  refine mCS (As := [.int (t)]) (rest := []) S (r_isRoot t) cal_X10_isRoot rfl in_382 in_383 in_5 hK hN hG rfl rfl hl.1 (Nat.le_of_ble_eq_true rfl) ⟨by decide, by decide⟩ ⟨rfl, rfl⟩ ⟨by decide, by decide⟩ dX10_link_14 (fun v w H locs hp hG => ?_)
  obtain ⟨rfl, hw9⟩ := hp
  rw [hw9] at hG
  refine W.eq (g2 := F0 m 17 ls [.int (bI (inR 16 t))]) rfl ?_
  refine lv_if_ne (tgt := 23) S.1 S.2.1 dX10_link_17 (by decide) (fun c1 => ?_) (fun c1 => ?_)
  · obtain ⟨k, hk, rfl⟩ := inR_ex (by decide) (bI_t c1)
    refine lv_iload S.1 S.2.1 dX10_link_23 (lv_at hl 0 rfl) ?_
    cases ht : tgt fl root x f with
    | inl cd =>
      have hcd := tgC_ne (tgt_inl ht)
      rw [ht] at hl
      rw [lnk_c hk ht]
      refine W.eq (g2 := F0 m 25 ls [.int cd]) rfl ?_
      have hl : lv_has ls 6 [(4, .int (cd)), (0, .ref (q 0)), (1, .int (x)), (2, .int (f)), (3, .int (nI (k)))] := hl
      refine lv_if_eq (tgt := 31) S.1 S.2.1 dX10_link_25 (by decide) (fun c2 => ?_) (fun c2 => ?_)
      · exact absurd c2 hcd
      · refine lv_iload S.1 S.2.1 dX10_link_28 (lv_at hl 0 rfl) ?_
        exact mw_iret S hr hlk hK hG dX10_link_30 ⟨rfl, hR⟩
    | inr oi =>
      obtain ⟨o, i⟩ := oi
      obtain ⟨j, hj, rfl, rfl, hi, hjo, hif⟩ := tgt_inr ht
      have hom := hrb j hj o hjo
      rw [ht] at hl
      refine W.eq (g2 := F0 m 25 ls [.int 0]) rfl ?_
      have hl : lv_has ls 6 [(4, .int (0)), (0, .ref (q 0)), (1, .int (nI (j))), (2, .int (nI (i))), (3, .int (nI (k)))] := hl
      refine lv_if_eq (tgt := 31) S.1 S.2.1 dX10_link_25 (by decide) (fun c2 => ?_) (fun c2 => ?_)
      · have hub : ∀ u, root k = some u → u < 2147483648 := fun u hu => by have := hrb k hk u hu; omega
        refine lv_aload_n S.1 S.2.1 dX10_link_31 rfl (lv_at hl 1 rfl) ?_
        refine rg_root S hK hG hR dX10_link_32 ?_
        refine lv_iload_n S.1 S.2.1 dX10_link_35 rfl (lv_at hl 4 rfl) ?_
        refine rl_root S hK hG hR (k) (by omega) dX10_link_36 ?_
        refine lv_iconst (v := -1) S.1 S.2.1 dX10_link_37 (by decide) ?_
        refine lv_icmp_ne (tgt := 44) S.1 S.2.1 dX10_link_38 (by decide) (fun c3 => ?_) (fun c3 => ?_)
        · obtain ⟨u, hu⟩ : ∃ u, root k = some u := by
            cases h : root k with
            | none => exact absurd ((oI_m1 hub).mpr h) c3
            | some u => exact ⟨u, rfl⟩
          have hum := hrb k hk u hu
          rw [lnk_o hk ht hu]
          refine lv_aload_n S.1 S.2.1 dX10_link_44 rfl (lv_at hl 1 rfl) ?_
          refine rg_root S hK hG hR dX10_link_45 ?_
          refine lv_iload_n S.1 S.2.1 dX10_link_48 rfl (lv_at hl 2 rfl) ?_
          refine rl_root S hK hG hR (j) (by omega) dX10_link_49 ?_
          refine lv_eqi (y := nI (o)) (by rw [hjo]; rfl) ?_
          refine lv_istore (lv' := [(5, .int (nI (o))), (4, .int (0)), (0, .ref (q 0)), (1, .int (nI (j))), (2, .int (nI (i))), (3, .int (nI (k)))]) S.1 S.2.1 dX10_link_50 hl (by decide) rfl (fun ls hl => ?_)
          refine lv_aload_n S.1 S.2.1 dX10_link_52 rfl (lv_at hl 2 rfl) ?_
          refine rg_num S hK hG hR dX10_link_53 ?_
          refine lv_bipush (v := nI (6)) S.1 S.2.1 dX10_link_56 (by decide) ?_
          refine lv_iload S.1 S.2.1 dX10_link_58 (lv_at hl 0 rfl) ?_
          refine lv_imul S.1 S.2.1 dX10_link_60 ?_
          refine lv_eqi (pk_mul _ _) ?_
          refine lv_iload_n S.1 S.2.1 dX10_link_61 rfl (lv_at hl 4 rfl) ?_
          refine lv_iadd S.1 S.2.1 dX10_link_62 ?_
          refine lv_eqi (nI_add _ _) ?_
          refine lv_iconst (v := 0) S.1 S.2.1 dX10_link_63 (by decide) ?_
          refine rs_num S hK hG hR (o) (i) (0) (by omega) (by omega) dX10_link_64 (fun w H locs hR hG => ?_)
          refine lv_aload_n S.1 S.2.1 dX10_link_65 rfl (lv_at hl 2 rfl) ?_
          refine rg_rfs S hK hG hR dX10_link_66 ?_
          refine lv_bipush (v := nI (6)) S.1 S.2.1 dX10_link_69 (by decide) ?_
          refine lv_iload S.1 S.2.1 dX10_link_71 (lv_at hl 0 rfl) ?_
          refine lv_imul S.1 S.2.1 dX10_link_73 ?_
          refine lv_eqi (pk_mul _ _) ?_
          refine lv_iload_n S.1 S.2.1 dX10_link_74 rfl (lv_at hl 4 rfl) ?_
          refine lv_iadd S.1 S.2.1 dX10_link_75 ?_
          refine lv_eqi (nI_add _ _) ?_
          refine lv_aload_n S.1 S.2.1 dX10_link_76 rfl (lv_at hl 2 rfl) ?_
          refine rg_root S hK hG hR dX10_link_77 ?_
          refine lv_iload_n S.1 S.2.1 dX10_link_80 rfl (lv_at hl 5 rfl) ?_
          refine rl_root S hK hG hR (k) (by omega) dX10_link_81 ?_
          refine lv_eqi (y := nI (u)) (by rw [hu]; rfl) ?_
          refine rs_rfs S hK hG hR (o) (i) (some (u)) (by omega) (by omega) dX10_link_82 (fun w H locs hR hG => ?_)
          refine lv_aload_n S.1 S.2.1 dX10_link_83 rfl (lv_at hl 2 rfl) ?_
          refine rg_rem S hK hG hR dX10_link_84 ?_
          refine lv_iload S.1 S.2.1 dX10_link_87 (lv_at hl 0 rfl) ?_
          refine lv_aload_n S.1 S.2.1 dX10_link_89 rfl (lv_at hl 2 rfl) ?_
          refine rg_rem S hK hG hR dX10_link_90 ?_
          refine lv_iload S.1 S.2.1 dX10_link_93 (lv_at hl 0 rfl) ?_
          refine rl_rem S hK hG hR (o) (by omega) dX10_link_95 ?_
          refine lv_if_ne (tgt := 121) S.1 S.2.1 dX10_link_96 (by decide) (fun c4 => ?_) (fun c4 => ?_)
          · have hb9 : (rem o || (isOldR kp Wn adr o && !isOldR kp Wn adr u)) = true := by rw [bI_t c4]; rfl
            refine lv_iconst (v := bI true) S.1 S.2.1 dX10_link_121 (by decide) ?_
            refine lv_goto (tgt := 126) S.1 S.2.1 dX10_link_122 (by decide) ?_
            refine rs_rem S hK hG hR (o) (true) (by omega) dX10_link_126 (fun w H locs hR hG => ?_)
            rw [← hb9] at hR
            refine lv_iconst (v := nI (0)) S.1 S.2.1 dX10_link_127 (by decide) ?_
            exact mw_iret S hr hlk hK hG dX10_link_128 ⟨rfl, hR⟩
          · have c4 := bI_f c4
            refine lv_aload_n S.1 S.2.1 dX10_link_99 rfl (lv_at hl 2 rfl) ?_
            refine lv_iload S.1 S.2.1 dX10_link_100 (lv_at hl 0 rfl) ?_
            refine mCV (As := [.int (nI (o))]) (rest := [.int (nI (o)), .ref (q 3)]) S (r_isOld hR o (by omega) hW hkp (hab o hom)) cal_X10_isOld in_428 in_429 in_430 in_5 hK hN hG hR.obj rfl rfl rfl hl.1 (Nat.le_of_ble_eq_true rfl) ⟨by decide, by decide⟩ ⟨rfl, rfl⟩ ⟨by decide, by decide⟩ dX10_link_102 (fun v w H locs hp hG => ?_)
            obtain ⟨rfl, hw9⟩ := hp
            rw [hw9] at hG
            refine W.eq (g2 := F0 m 105 ls [.int (bI (isOldR kp Wn adr o)), .int (nI (o)), .ref (q 3)]) rfl ?_
            refine lv_if_eq (tgt := 125) S.1 S.2.1 dX10_link_105 (by decide) (fun c5 => ?_) (fun c5 => ?_)
            · have hb9 : (rem o || (isOldR kp Wn adr o && !isOldR kp Wn adr u)) = false := by rw [c4, bI_f c5]; rfl
              refine lv_iconst (v := bI false) S.1 S.2.1 dX10_link_125 (by decide) ?_
              refine rs_rem S hK hG hR (o) (false) (by omega) dX10_link_126 (fun w H locs hR hG => ?_)
              rw [← hb9] at hR
              refine lv_iconst (v := nI (0)) S.1 S.2.1 dX10_link_127 (by decide) ?_
              exact mw_iret S hr hlk hK hG dX10_link_128 ⟨rfl, hR⟩
            · refine lv_aload_n S.1 S.2.1 dX10_link_108 rfl (lv_at hl 2 rfl) ?_
              refine lv_aload_n S.1 S.2.1 dX10_link_109 rfl (lv_at hl 2 rfl) ?_
              refine rg_root S hK hG hR dX10_link_110 ?_
              refine lv_iload_n S.1 S.2.1 dX10_link_113 rfl (lv_at hl 5 rfl) ?_
              refine rl_root S hK hG hR (k) (by omega) dX10_link_114 ?_
              refine lv_eqi (y := nI (u)) (by rw [hu]; rfl) ?_
              refine mCV (As := [.int (nI (u))]) (rest := [.int (nI (o)), .ref (q 3)]) S (r_isOld hR u (by omega) hW hkp (hab u hum)) cal_X10_isOld in_428 in_429 in_430 in_5 hK hN hG hR.obj rfl rfl rfl hl.1 (Nat.le_of_ble_eq_true rfl) ⟨by decide, by decide⟩ ⟨rfl, rfl⟩ ⟨by decide, by decide⟩ dX10_link_115 (fun v w H locs hp hG => ?_)
              obtain ⟨rfl, hw9⟩ := hp
              rw [hw9] at hG
              refine W.eq (g2 := F0 m 118 ls [.int (bI (isOldR kp Wn adr u)), .int (nI (o)), .ref (q 3)]) rfl ?_
              refine lv_if_ne (tgt := 125) S.1 S.2.1 dX10_link_118 (by decide) (fun c6 => ?_) (fun c6 => ?_)
              · have hb9 : (rem o || (isOldR kp Wn adr o && !isOldR kp Wn adr u)) = false := by rw [c4, bI_t c5, bI_t c6]; rfl
                refine lv_iconst (v := bI false) S.1 S.2.1 dX10_link_125 (by decide) ?_
                refine rs_rem S hK hG hR (o) (false) (by omega) dX10_link_126 (fun w H locs hR hG => ?_)
                rw [← hb9] at hR
                refine lv_iconst (v := nI (0)) S.1 S.2.1 dX10_link_127 (by decide) ?_
                exact mw_iret S hr hlk hK hG dX10_link_128 ⟨rfl, hR⟩
              · have hb9 : (rem o || (isOldR kp Wn adr o && !isOldR kp Wn adr u)) = true := by rw [c4, bI_t c5, bI_f c6]; rfl
                refine lv_iconst (v := bI true) S.1 S.2.1 dX10_link_121 (by decide) ?_
                refine lv_goto (tgt := 126) S.1 S.2.1 dX10_link_122 (by decide) ?_
                refine rs_rem S hK hG hR (o) (true) (by omega) dX10_link_126 (fun w H locs hR hG => ?_)
                rw [← hb9] at hR
                refine lv_iconst (v := nI (0)) S.1 S.2.1 dX10_link_127 (by decide) ?_
                exact mw_iret S hr hlk hK hG dX10_link_128 ⟨rfl, hR⟩
        · rw [lnk_n hk ht ((oI_m1 hub).mp c3)]
          refine lv_bipush (v := -3) S.1 S.2.1 dX10_link_41 (by decide) ?_
          exact mw_iret S hr hlk hK hG dX10_link_43 ⟨rfl, hR⟩
      · exact absurd rfl c2
  · rw [lnk_b (bI_f c1)]
    refine lv_bipush (v := -2) S.1 S.2.1 dX10_link_20 (by decide) ?_
    exact mw_iret S hr hlk hK hG dX10_link_22 ⟨rfl, hR⟩
theorem cal_X10_load : mCal yX10_load cX10_load 6 3 (some .int) := ⟨in_537, by decide +kernel⟩
set_option maxHeartbeats 4000000 in
set_option maxRecDepth 100000 in
theorem r_load {l : Launch} {dC : Nat → ClassId} {dI : Nat → Nat → Nat} {cI cZ cT : ClassId} {q : Nat → Nat} {thr : Int32} {kp : Nat} {Wn : Nat} {made : Nat} {adr : (Nat → Option Nat)} {fl : (Nat → Nat)} {rem : (Nat → Bool)} {num : (Nat → Nat → Int32)} {rfs : (Nat → Nat → Option Nat)} {root : (Nat → Option Nat)} {own : (Nat → Option Nat)} {half : Nat} {top : Nat} {coll : Nat} {mins : Nat} {movd : Nat} {size : Nat} {row : (Nat → Nat)} {plc : (Nat → Option Nat)} {old : (Nat → Option Nat)} {w : mM} (hR : RW cI cZ q thr kp Wn made adr fl rem num rfs root own half top coll mins movd size row plc old w) (hrb : ∀ j, j < 16 → ∀ o, root j = some o → o < made) (hm : made ≤ 2000) (hfl : ∀ o, o < made → fl o ≤ 6) (hfb : ∀ o, o < made → ∀ i, i < fl o → ∀ t, rfs o i = some t → t < made) (r x f : Int32) : mC l yX10_load (wsY yX10_load cX10_load 6 (some .int)) { frames := 3, cells := 0, slots := 0, locals := 64 } (dC, dI) vwCl (tyL cI cZ cT) 0 0 w [.ref (q 0), .int (r), .int (x), .int (f)] (fun v w2 => v = some (.int (code2 (lod fl rfs root r x f) (fun z => nI z.2))) ∧ match lod fl rfs root r x f with | .inl _ => RW cI cZ q 0 kp Wn made adr fl rem num rfs root own half top coll mins movd size row plc old w2 | .inr (k, u) => RW cI cZ q 0 kp Wn made adr fl rem num rfs (va_up root k (some u)) own half top coll mins movd size row plc old w2) := by
  refine mC.on (by decide) (Nat.le_of_ble_eq_true rfl) ?_
  intro p e s m args below meth c ls S hr hlk hnm hK hN hG hl
  have hl : lv_has ls 6 [(0, .ref (q 0)), (1, .int (r)), (2, .int (x)), (3, .int (f))] := hl
  generalize hAe : mA w s.heap.size = A at hG ⊢
  refine lv_aload_n S.1 S.2.1 dX10_load_0 rfl (lv_at hl 0 rfl) ?_
  refine lv_iconst (v := 0) S.1 S.2.1 dX10_load_1 (by decide) ?_
  refine rp_thr S hK hG hR (0) dX10_load_2 (fun w H locs hR hG => ?_)
  refine lv_aload_n S.1 S.2.1 dX10_load_5 rfl (lv_at hl 0 rfl) ?_
  refine lv_iload_n S.1 S.2.1 dX10_load_6 rfl (lv_at hl 2 rfl) ?_
  refine lv_iload_n S.1 S.2.1 dX10_load_7 rfl (lv_at hl 3 rfl) ?_
  refine mCV (As := [.int (x), .int (f)]) (rest := []) S (r_wrong hR hrb hm hfl x f) cal_X10_wrong in_483 in_484 in_485 in_5 hK hN hG hR.obj rfl rfl rfl hl.1 (Nat.le_of_ble_eq_true rfl) ⟨by decide, by decide⟩ ⟨rfl, rfl⟩ ⟨by decide, by decide⟩ dX10_load_8 (fun v w H locs hp hG => ?_)
  obtain ⟨rfl, hw9⟩ := hp
  rw [hw9] at hG
  refine W.eq (g2 := F0 m 11 ls [.int (tgC (tgt fl root x f))]) rfl ?_
  refine lv_istore (lv' := [(4, .int (tgC (tgt fl root x f))), (0, .ref (q 0)), (1, .int (r)), (2, .int (x)), (3, .int (f))]) S.1 S.2.1 dX10_load_11 hl (by decide) rfl (fun ls hl => ?_)
  refine lv_iload_n S.1 S.2.1 dX10_load_13 rfl (lv_at hl 2 rfl) ?_
  refine mCS (As := [.int (r)]) (rest := []) S (r_isRoot r) cal_X10_isRoot rfl in_382 in_383 in_5 hK hN hG rfl rfl hl.1 (Nat.le_of_ble_eq_true rfl) ⟨by decide, by decide⟩ ⟨rfl, rfl⟩ ⟨by decide, by decide⟩ dX10_load_14 (fun v w H locs hp hG => ?_)
  obtain ⟨rfl, hw9⟩ := hp
  rw [hw9] at hG
  refine W.eq (g2 := F0 m 17 ls [.int (bI (inR 16 r))]) rfl ?_
  refine lv_if_ne (tgt := 23) S.1 S.2.1 dX10_load_17 (by decide) (fun c1 => ?_) (fun c1 => ?_)
  · obtain ⟨k, hk, rfl⟩ := inR_ex (by decide) (bI_t c1)
    refine lv_iload S.1 S.2.1 dX10_load_23 (lv_at hl 0 rfl) ?_
    cases ht : tgt fl root x f with
    | inl cd =>
      have hcd := tgC_ne (tgt_inl ht)
      rw [ht] at hl
      rw [lod_c hk ht]
      refine W.eq (g2 := F0 m 25 ls [.int cd]) rfl ?_
      have hl : lv_has ls 6 [(4, .int (cd)), (0, .ref (q 0)), (1, .int (nI (k))), (2, .int (x)), (3, .int (f))] := hl
      refine lv_if_eq (tgt := 31) S.1 S.2.1 dX10_load_25 (by decide) (fun c2 => ?_) (fun c2 => ?_)
      · exact absurd c2 hcd
      · refine lv_iload S.1 S.2.1 dX10_load_28 (lv_at hl 0 rfl) ?_
        exact mw_iret S hr hlk hK hG dX10_load_30 ⟨rfl, hR⟩
    | inr oi =>
      obtain ⟨o, i⟩ := oi
      obtain ⟨j, hj, rfl, rfl, hi, hjo, hif⟩ := tgt_inr ht
      have hom := hrb j hj o hjo
      rw [ht] at hl
      refine W.eq (g2 := F0 m 25 ls [.int 0]) rfl ?_
      have hl : lv_has ls 6 [(4, .int (0)), (0, .ref (q 0)), (1, .int (nI (k))), (2, .int (nI (j))), (3, .int (nI (i)))] := hl
      refine lv_if_eq (tgt := 31) S.1 S.2.1 dX10_load_25 (by decide) (fun c2 => ?_) (fun c2 => ?_)
      · have htb : ∀ t, rfs o i = some t → t < 2147483648 := fun t ht9 => by have := hfb o hom i hif t ht9; omega
        refine lv_aload_n S.1 S.2.1 dX10_load_31 rfl (lv_at hl 1 rfl) ?_
        refine rg_rfs S hK hG hR dX10_load_32 ?_
        refine lv_bipush (v := nI (6)) S.1 S.2.1 dX10_load_35 (by decide) ?_
        refine lv_aload_n S.1 S.2.1 dX10_load_37 rfl (lv_at hl 1 rfl) ?_
        refine rg_root S hK hG hR dX10_load_38 ?_
        refine lv_iload_n S.1 S.2.1 dX10_load_41 rfl (lv_at hl 3 rfl) ?_
        refine rl_root S hK hG hR (j) (by omega) dX10_load_42 ?_
        refine lv_eqi (y := nI (o)) (by rw [hjo]; rfl) ?_
        refine lv_imul S.1 S.2.1 dX10_load_43 ?_
        refine lv_eqi (pk_mul _ _) ?_
        refine lv_iload_n S.1 S.2.1 dX10_load_44 rfl (lv_at hl 4 rfl) ?_
        refine lv_iadd S.1 S.2.1 dX10_load_45 ?_
        refine lv_eqi (nI_add _ _) ?_
        refine rl_rfs S hK hG hR (o) (i) (by omega) (by omega) dX10_load_46 ?_
        refine lv_istore (lv' := [(5, .int (oI (rfs o i))), (4, .int (0)), (0, .ref (q 0)), (1, .int (nI (k))), (2, .int (nI (j))), (3, .int (nI (i)))]) S.1 S.2.1 dX10_load_47 hl (by decide) rfl (fun ls hl => ?_)
        refine lv_iload S.1 S.2.1 dX10_load_49 (lv_at hl 0 rfl) ?_
        refine lv_iconst (v := -1) S.1 S.2.1 dX10_load_51 (by decide) ?_
        refine lv_icmp_ne (tgt := 58) S.1 S.2.1 dX10_load_52 (by decide) (fun c3 => ?_) (fun c3 => ?_)
        · obtain ⟨u, hu⟩ : ∃ u, rfs o i = some u := by
            cases h : rfs o i with
            | none => exact absurd ((oI_m1 htb).mpr h) c3
            | some u => exact ⟨u, rfl⟩
          rw [lod_o hk ht hu]
          rw [hu] at hl
          have hl : lv_has ls 6 [(5, .int (nI (u))), (4, .int (0)), (0, .ref (q 0)), (1, .int (nI (k))), (2, .int (nI (j))), (3, .int (nI (i)))] := hl
          refine lv_aload_n S.1 S.2.1 dX10_load_58 rfl (lv_at hl 2 rfl) ?_
          refine rg_root S hK hG hR dX10_load_59 ?_
          refine lv_iload_n S.1 S.2.1 dX10_load_62 rfl (lv_at hl 3 rfl) ?_
          refine lv_iload S.1 S.2.1 dX10_load_63 (lv_at hl 0 rfl) ?_
          refine rs_root S hK hG hR (k) (some (u)) (by omega) dX10_load_65 (fun w H locs hR hG => ?_)
          refine lv_iload S.1 S.2.1 dX10_load_66 (lv_at hl 0 rfl) ?_
          exact mw_iret S hr hlk hK hG dX10_load_68 ⟨rfl, hR⟩
        · rw [lod_n hk ht ((oI_m1 htb).mp c3)]
          refine lv_bipush (v := -3) S.1 S.2.1 dX10_load_55 (by decide) ?_
          exact mw_iret S hr hlk hK hG dX10_load_57 ⟨rfl, hR⟩
      · exact absurd rfl c2
  · rw [lod_b (bI_f c1)]
    refine lv_bipush (v := -2) S.1 S.2.1 dX10_load_20 (by decide) ?_
    exact mw_iret S hr hlk hK hG dX10_load_22 ⟨rfl, hR⟩
theorem cal_X10_copy : mCal yX10_copy cX10_copy 3 2 (some .int) := ⟨in_548, by decide +kernel⟩
set_option maxHeartbeats 4000000 in
set_option maxRecDepth 100000 in
theorem r_copy {l : Launch} {dC : Nat → ClassId} {dI : Nat → Nat → Nat} {cI cZ cT : ClassId} {q : Nat → Nat} {thr : Int32} {kp : Nat} {Wn : Nat} {made : Nat} {adr : (Nat → Option Nat)} {fl : (Nat → Nat)} {rem : (Nat → Bool)} {num : (Nat → Nat → Int32)} {rfs : (Nat → Nat → Option Nat)} {root : (Nat → Option Nat)} {own : (Nat → Option Nat)} {half : Nat} {top : Nat} {coll : Nat} {mins : Nat} {movd : Nat} {size : Nat} {row : (Nat → Nat)} {plc : (Nat → Option Nat)} {old : (Nat → Option Nat)} {w : mM} (hR : RW cI cZ q thr kp Wn made adr fl rem num rfs root own half top coll mins movd size row plc old w) (hrb : ∀ j, j < 16 → ∀ o, root j = some o → o < made) (hm : made ≤ 2000) (hfl : ∀ o, o < made → fl o ≤ 6) (x y : Int32) : mC l yX10_copy (wsY yX10_copy cX10_copy 3 (some .int)) { frames := 2, cells := 0, slots := 0, locals := 42 } (dC, dI) vwCl (tyL cI cZ cT) 0 0 w [.ref (q 0), .int (x), .int (y)] (fun v w2 => v = some (.int (if inR 16 x = true ∧ inR 16 y = true then oI (root y.toNatClampNeg) else -2)) ∧ RW cI cZ q 0 kp Wn made adr fl rem num rfs ((if inR 16 x = true ∧ inR 16 y = true then va_up root x.toNatClampNeg (root y.toNatClampNeg) else root)) own half top coll mins movd size row plc old w2) := by
  refine mC.on (by decide) (Nat.le_of_ble_eq_true rfl) ?_
  intro p e s m args below meth c ls S hr hlk hnm hK hN hG hl
  have hl : lv_has ls 3 [(0, .ref (q 0)), (1, .int (x)), (2, .int (y))] := hl
  generalize hAe : mA w s.heap.size = A at hG ⊢
  refine lv_aload_n S.1 S.2.1 dX10_copy_0 rfl (lv_at hl 0 rfl) ?_
  refine lv_iconst (v := 0) S.1 S.2.1 dX10_copy_1 (by decide) ?_
  refine rp_thr S hK hG hR (0) dX10_copy_2 (fun w H locs hR hG => ?_)
  refine lv_iload_n S.1 S.2.1 dX10_copy_5 rfl (lv_at hl 1 rfl) ?_
  refine mCS (As := [.int (x)]) (rest := []) S (r_isRoot x) cal_X10_isRoot rfl in_382 in_383 in_5 hK hN hG rfl rfl hl.1 (Nat.le_of_ble_eq_true rfl) ⟨by decide, by decide⟩ ⟨rfl, rfl⟩ ⟨by decide, by decide⟩ dX10_copy_6 (fun v w H locs hp hG => ?_)
  obtain ⟨rfl, hw9⟩ := hp
  rw [hw9] at hG
  refine W.eq (g2 := F0 m 9 ls [.int (bI (inR 16 x))]) rfl ?_
  refine lv_if_eq (tgt := 19) S.1 S.2.1 dX10_copy_9 (by decide) (fun c1 => ?_) (fun c1 => ?_)
  · rw [if_neg (by rw [bI_f c1]; simp), if_neg (by rw [bI_f c1]; simp)]
    refine lv_bipush (v := -2) S.1 S.2.1 dX10_copy_19 (by decide) ?_
    exact mw_iret S hr hlk hK hG dX10_copy_21 ⟨rfl, hR⟩
  · obtain ⟨j, hj, rfl⟩ := inR_ex (by omega) (bI_t c1)
    refine lv_iload_n S.1 S.2.1 dX10_copy_12 rfl (lv_at hl 2 rfl) ?_
    refine mCS (As := [.int (y)]) (rest := []) S (r_isRoot y) cal_X10_isRoot rfl in_382 in_383 in_5 hK hN hG rfl rfl hl.1 (Nat.le_of_ble_eq_true rfl) ⟨by decide, by decide⟩ ⟨rfl, rfl⟩ ⟨by decide, by decide⟩ dX10_copy_13 (fun v w H locs hp hG => ?_)
    obtain ⟨rfl, hw9⟩ := hp
    rw [hw9] at hG
    refine W.eq (g2 := F0 m 16 ls [.int (bI (inR 16 y))]) rfl ?_
    refine lv_if_ne (tgt := 22) S.1 S.2.1 dX10_copy_16 (by decide) (fun c2 => ?_) (fun c2 => ?_)
    · obtain ⟨k, hk, rfl⟩ := inR_ex (by omega) (bI_t c2)
      rw [if_pos ⟨inR_nI hj (by decide), inR_nI hk (by decide)⟩, if_pos ⟨inR_nI hj (by decide), inR_nI hk (by decide)⟩, nI_clamp (by omega), nI_clamp (by omega)]
      refine lv_aload_n S.1 S.2.1 dX10_copy_22 rfl (lv_at hl 0 rfl) ?_
      refine rg_root S hK hG hR dX10_copy_23 ?_
      refine lv_iload_n S.1 S.2.1 dX10_copy_26 rfl (lv_at hl 1 rfl) ?_
      refine lv_aload_n S.1 S.2.1 dX10_copy_27 rfl (lv_at hl 0 rfl) ?_
      refine rg_root S hK hG hR dX10_copy_28 ?_
      refine lv_iload_n S.1 S.2.1 dX10_copy_31 rfl (lv_at hl 2 rfl) ?_
      refine rl_root S hK hG hR (k) (by omega) dX10_copy_32 ?_
      refine rs_root S hK hG hR (j) (root k) (by omega) dX10_copy_33 (fun w H locs hR hG => ?_)
      refine lv_aload_n S.1 S.2.1 dX10_copy_34 rfl (lv_at hl 0 rfl) ?_
      refine rg_root S hK hG hR dX10_copy_35 ?_
      refine lv_iload_n S.1 S.2.1 dX10_copy_38 rfl (lv_at hl 1 rfl) ?_
      refine rl_root S hK hG hR (j) (by omega) dX10_copy_39 ?_
      exact mw_iret S hr hlk hK hG dX10_copy_40 ⟨by unfold va_up; rw [if_pos rfl], hR⟩
    · rw [if_neg (by rw [bI_f c2]; simp), if_neg (by rw [bI_f c2]; simp)]
      refine lv_bipush (v := -2) S.1 S.2.1 dX10_copy_19 (by decide) ?_
      exact mw_iret S hr hlk hK hG dX10_copy_21 ⟨rfl, hR⟩
theorem cal_X10_drop : mCal yX10_drop cX10_drop 3 1 (some .int) := ⟨in_556, by decide +kernel⟩
set_option maxHeartbeats 4000000 in
set_option maxRecDepth 100000 in
theorem r_drop {l : Launch} {dC : Nat → ClassId} {dI : Nat → Nat → Nat} {cI cZ cT : ClassId} {q : Nat → Nat} {thr : Int32} {kp : Nat} {Wn : Nat} {made : Nat} {adr : (Nat → Option Nat)} {fl : (Nat → Nat)} {rem : (Nat → Bool)} {num : (Nat → Nat → Int32)} {rfs : (Nat → Nat → Option Nat)} {root : (Nat → Option Nat)} {own : (Nat → Option Nat)} {half : Nat} {top : Nat} {coll : Nat} {mins : Nat} {movd : Nat} {size : Nat} {row : (Nat → Nat)} {plc : (Nat → Option Nat)} {old : (Nat → Option Nat)} {w : mM} (hR : RW cI cZ q thr kp Wn made adr fl rem num rfs root own half top coll mins movd size row plc old w) (hrb : ∀ j, j < 16 → ∀ o, root j = some o → o < made) (hm : made ≤ 2000) (hfl : ∀ o, o < made → fl o ≤ 6) (x : Int32) : mC l yX10_drop (wsY yX10_drop cX10_drop 3 (some .int)) { frames := 2, cells := 0, slots := 0, locals := 42 } (dC, dI) vwCl (tyL cI cZ cT) 0 0 w [.ref (q 0), .int (x)] (fun v w2 => v = some (.int (if inR 16 x = true then bI (root x.toNatClampNeg).isSome else -2)) ∧ RW cI cZ q 0 kp Wn made adr fl rem num rfs ((if inR 16 x = true then va_up root x.toNatClampNeg none else root)) own half top coll mins movd size row plc old w2) := by
  refine mC.on (by decide) (Nat.le_of_ble_eq_true rfl) ?_
  intro p e s m args below meth c ls S hr hlk hnm hK hN hG hl
  have hl : lv_has ls 3 [(0, .ref (q 0)), (1, .int (x))] := hl
  generalize hAe : mA w s.heap.size = A at hG ⊢
  refine lv_aload_n S.1 S.2.1 dX10_drop_0 rfl (lv_at hl 0 rfl) ?_
  refine lv_iconst (v := 0) S.1 S.2.1 dX10_drop_1 (by decide) ?_
  refine rp_thr S hK hG hR (0) dX10_drop_2 (fun w H locs hR hG => ?_)
  refine lv_iload_n S.1 S.2.1 dX10_drop_5 rfl (lv_at hl 1 rfl) ?_
  refine mCS (As := [.int (x)]) (rest := []) S (r_isRoot x) cal_X10_isRoot rfl in_382 in_383 in_5 hK hN hG rfl rfl hl.1 (Nat.le_of_ble_eq_true rfl) ⟨by decide, by decide⟩ ⟨rfl, rfl⟩ ⟨by decide, by decide⟩ dX10_drop_6 (fun v w H locs hp hG => ?_)
  obtain ⟨rfl, hw9⟩ := hp
  rw [hw9] at hG
  refine W.eq (g2 := F0 m 9 ls [.int (bI (inR 16 x))]) rfl ?_
  refine lv_if_ne (tgt := 15) S.1 S.2.1 dX10_drop_9 (by decide) (fun c1 => ?_) (fun c1 => ?_)
  · obtain ⟨j, hj, rfl⟩ := inR_ex (by omega) (bI_t c1)
    rw [if_pos (inR_nI hj (by decide)), if_pos (inR_nI hj (by decide)), nI_clamp (by omega)]
    have hob : ∀ u, root j = some u → u < 2147483648 := fun u hu => by have := hrb j hj u hu; omega
    refine lv_aload_n S.1 S.2.1 dX10_drop_15 rfl (lv_at hl 0 rfl) ?_
    refine rg_root S hK hG hR dX10_drop_16 ?_
    refine lv_iload_n S.1 S.2.1 dX10_drop_19 rfl (lv_at hl 1 rfl) ?_
    refine rl_root S hK hG hR (j) (by omega) dX10_drop_20 ?_
    refine lv_iconst (v := -1) S.1 S.2.1 dX10_drop_21 (by decide) ?_
    refine lv_icmp_ne (tgt := 29) S.1 S.2.1 dX10_drop_22 (by decide) (fun c2 => ?_) (fun c2 => ?_)
    · refine lv_iconst (v := nI (1)) S.1 S.2.1 dX10_drop_29 (by decide) ?_
      refine lv_istore_n (lv' := [(2, .int (nI (1))), (0, .ref (q 0)), (1, .int (nI (j)))]) S.1 S.2.1 dX10_drop_30 rfl hl (by decide) rfl (fun ls hl => ?_)
      refine lv_aload_n S.1 S.2.1 dX10_drop_31 rfl (lv_at hl 1 rfl) ?_
      refine rg_root S hK hG hR dX10_drop_32 ?_
      refine lv_iload_n S.1 S.2.1 dX10_drop_35 rfl (lv_at hl 2 rfl) ?_
      refine lv_iconst (v := -1) S.1 S.2.1 dX10_drop_36 (by decide) ?_
      refine rs_root S hK hG hR (j) (none) (by omega) dX10_drop_37 (fun w H locs hR hG => ?_)
      refine lv_iload_n S.1 S.2.1 dX10_drop_38 rfl (lv_at hl 0 rfl) ?_
      cases hz : root j with
      | none => exact absurd ((oI_m1 hob).mpr hz) c2
      | some u => exact mw_iret S hr hlk hK hG dX10_drop_39 ⟨rfl, hR⟩
    · refine lv_iconst (v := nI (0)) S.1 S.2.1 dX10_drop_25 (by decide) ?_
      refine lv_goto (tgt := 30) S.1 S.2.1 dX10_drop_26 (by decide) ?_
      refine lv_istore_n (lv' := [(2, .int (nI (0))), (0, .ref (q 0)), (1, .int (nI (j)))]) S.1 S.2.1 dX10_drop_30 rfl hl (by decide) rfl (fun ls hl => ?_)
      refine lv_aload_n S.1 S.2.1 dX10_drop_31 rfl (lv_at hl 1 rfl) ?_
      refine rg_root S hK hG hR dX10_drop_32 ?_
      refine lv_iload_n S.1 S.2.1 dX10_drop_35 rfl (lv_at hl 2 rfl) ?_
      refine lv_iconst (v := -1) S.1 S.2.1 dX10_drop_36 (by decide) ?_
      refine rs_root S hK hG hR (j) (none) (by omega) dX10_drop_37 (fun w H locs hR hG => ?_)
      refine lv_iload_n S.1 S.2.1 dX10_drop_38 rfl (lv_at hl 0 rfl) ?_
      exact mw_iret S hr hlk hK hG dX10_drop_39 ⟨by rw [(oI_m1 hob).mp c2]; rfl, hR⟩
  · rw [if_neg (by rw [bI_f c1]; simp), if_neg (by rw [bI_f c1]; simp)]
    refine lv_bipush (v := -2) S.1 S.2.1 dX10_drop_12 (by decide) ?_
    exact mw_iret S hr hlk hK hG dX10_drop_14 ⟨rfl, hR⟩
theorem cal_X10_same : mCal yX10_same cX10_same 3 2 (some .int) := ⟨in_647, by decide +kernel⟩
set_option maxHeartbeats 4000000 in
set_option maxRecDepth 100000 in
theorem r_same {l : Launch} {dC : Nat → ClassId} {dI : Nat → Nat → Nat} {cI cZ cT : ClassId} {q : Nat → Nat} {thr : Int32} {kp : Nat} {Wn : Nat} {made : Nat} {adr : (Nat → Option Nat)} {fl : (Nat → Nat)} {rem : (Nat → Bool)} {num : (Nat → Nat → Int32)} {rfs : (Nat → Nat → Option Nat)} {root : (Nat → Option Nat)} {own : (Nat → Option Nat)} {half : Nat} {top : Nat} {coll : Nat} {mins : Nat} {movd : Nat} {size : Nat} {row : (Nat → Nat)} {plc : (Nat → Option Nat)} {old : (Nat → Option Nat)} {w : mM} (hR : RW cI cZ q thr kp Wn made adr fl rem num rfs root own half top coll mins movd size row plc old w) (hrb : ∀ j, j < 16 → ∀ o, root j = some o → o < made) (hm : made ≤ 2000) (hfl : ∀ o, o < made → fl o ≤ 6) (x y : Int32) : mC l yX10_same (wsY yX10_same cX10_same 3 (some .int)) { frames := 2, cells := 0, slots := 0, locals := 42 } (dC, dI) vwCl (tyL cI cZ cT) 0 0 w [.ref (q 0), .int (x), .int (y)] (fun v w2 => v = some (.int (if inR 16 x = true ∧ inR 16 y = true then bI (decide (root x.toNatClampNeg = root y.toNatClampNeg)) else -2)) ∧ RW cI cZ q 0 kp Wn made adr fl rem num rfs root own half top coll mins movd size row plc old w2) := by
  refine mC.on (by decide) (Nat.le_of_ble_eq_true rfl) ?_
  intro p e s m args below meth c ls S hr hlk hnm hK hN hG hl
  have hl : lv_has ls 3 [(0, .ref (q 0)), (1, .int (x)), (2, .int (y))] := hl
  generalize hAe : mA w s.heap.size = A at hG ⊢
  refine lv_aload_n S.1 S.2.1 dX10_same_0 rfl (lv_at hl 0 rfl) ?_
  refine lv_iconst (v := 0) S.1 S.2.1 dX10_same_1 (by decide) ?_
  refine rp_thr S hK hG hR (0) dX10_same_2 (fun w H locs hR hG => ?_)
  refine lv_iload_n S.1 S.2.1 dX10_same_5 rfl (lv_at hl 1 rfl) ?_
  refine mCS (As := [.int (x)]) (rest := []) S (r_isRoot x) cal_X10_isRoot rfl in_382 in_383 in_5 hK hN hG rfl rfl hl.1 (Nat.le_of_ble_eq_true rfl) ⟨by decide, by decide⟩ ⟨rfl, rfl⟩ ⟨by decide, by decide⟩ dX10_same_6 (fun v w H locs hp hG => ?_)
  obtain ⟨rfl, hw9⟩ := hp
  rw [hw9] at hG
  refine W.eq (g2 := F0 m 9 ls [.int (bI (inR 16 x))]) rfl ?_
  refine lv_if_eq (tgt := 19) S.1 S.2.1 dX10_same_9 (by decide) (fun c1 => ?_) (fun c1 => ?_)
  · rw [if_neg (by rw [bI_f c1]; simp)]
    refine lv_bipush (v := -2) S.1 S.2.1 dX10_same_19 (by decide) ?_
    refine lv_goto (tgt := 44) S.1 S.2.1 dX10_same_21 (by decide) ?_
    exact mw_iret S hr hlk hK hG dX10_same_44 ⟨rfl, hR⟩
  · obtain ⟨j, hj, rfl⟩ := inR_ex (by omega) (bI_t c1)
    refine lv_iload_n S.1 S.2.1 dX10_same_12 rfl (lv_at hl 2 rfl) ?_
    refine mCS (As := [.int (y)]) (rest := []) S (r_isRoot y) cal_X10_isRoot rfl in_382 in_383 in_5 hK hN hG rfl rfl hl.1 (Nat.le_of_ble_eq_true rfl) ⟨by decide, by decide⟩ ⟨rfl, rfl⟩ ⟨by decide, by decide⟩ dX10_same_13 (fun v w H locs hp hG => ?_)
    obtain ⟨rfl, hw9⟩ := hp
    rw [hw9] at hG
    refine W.eq (g2 := F0 m 16 ls [.int (bI (inR 16 y))]) rfl ?_
    refine lv_if_ne (tgt := 24) S.1 S.2.1 dX10_same_16 (by decide) (fun c2 => ?_) (fun c2 => ?_)
    · obtain ⟨k, hk, rfl⟩ := inR_ex (by omega) (bI_t c2)
      rw [if_pos ⟨inR_nI hj (by decide), inR_nI hk (by decide)⟩, nI_clamp (by omega), nI_clamp (by omega)]
      refine lv_aload_n S.1 S.2.1 dX10_same_24 rfl (lv_at hl 0 rfl) ?_
      refine rg_root S hK hG hR dX10_same_25 ?_
      refine lv_iload_n S.1 S.2.1 dX10_same_28 rfl (lv_at hl 1 rfl) ?_
      refine rl_root S hK hG hR (j) (by omega) dX10_same_29 ?_
      refine lv_aload_n S.1 S.2.1 dX10_same_30 rfl (lv_at hl 0 rfl) ?_
      refine rg_root S hK hG hR dX10_same_31 ?_
      refine lv_iload_n S.1 S.2.1 dX10_same_34 rfl (lv_at hl 2 rfl) ?_
      refine rl_root S hK hG hR (k) (by omega) dX10_same_35 ?_
      refine lv_icmp_ne (tgt := 43) S.1 S.2.1 dX10_same_36 (by decide) (fun c3 => ?_) (fun c3 => ?_)
      · refine lv_iconst (v := nI (0)) S.1 S.2.1 dX10_same_43 (by decide) ?_
        exact mw_iret S hr hlk hK hG dX10_same_44 ⟨by rw [decide_eq_false (fun z => c3 (congrArg oI z))]; rfl, hR⟩
      · refine lv_iconst (v := nI (1)) S.1 S.2.1 dX10_same_39 (by decide) ?_
        refine lv_goto (tgt := 44) S.1 S.2.1 dX10_same_40 (by decide) ?_
        exact mw_iret S hr hlk hK hG dX10_same_44 ⟨by rw [decide_eq_true (oI_inj (fun u hu => by have := hrb j hj u hu; omega) (fun u hu => by have := hrb k hk u hu; omega) c3)]; rfl, hR⟩
    · rw [if_neg (by rw [bI_f c2]; simp)]
      refine lv_bipush (v := -2) S.1 S.2.1 dX10_same_19 (by decide) ?_
      refine lv_goto (tgt := 44) S.1 S.2.1 dX10_same_21 (by decide) ?_
      exact mw_iret S hr hlk hK hG dX10_same_44 ⟨rfl, hR⟩
theorem cal_X10_at : mCal yX10_at cX10_at 2 1 (some .int) := ⟨in_605, by decide +kernel⟩
set_option maxHeartbeats 4000000 in
set_option maxRecDepth 100000 in
theorem r_at {l : Launch} {dC : Nat → ClassId} {dI : Nat → Nat → Nat} {cI cZ cT : ClassId} {q : Nat → Nat} {thr : Int32} {kp : Nat} {Wn : Nat} {made : Nat} {adr : (Nat → Option Nat)} {fl : (Nat → Nat)} {rem : (Nat → Bool)} {num : (Nat → Nat → Int32)} {rfs : (Nat → Nat → Option Nat)} {root : (Nat → Option Nat)} {own : (Nat → Option Nat)} {half : Nat} {top : Nat} {coll : Nat} {mins : Nat} {movd : Nat} {size : Nat} {row : (Nat → Nat)} {plc : (Nat → Option Nat)} {old : (Nat → Option Nat)} {w : mM} (hR : RW cI cZ q thr kp Wn made adr fl rem num rfs root own half top coll mins movd size row plc old w) (hW : Wn ≤ 400) (hW1 : 1 ≤ Wn) (x : Int32) : mC l yX10_at (wsY yX10_at cX10_at 2 (some .int)) { frames := 1, cells := 0, slots := 0, locals := 22 } (dC, dI) vwCl (tyL cI cZ cT) 0 0 w [.ref (q 0), .int (x)] (fun v w2 => v = some (.int (if inR Wn x = true then oI (own x.toNatClampNeg) else -2)) ∧ RW cI cZ q 0 kp Wn made adr fl rem num rfs root own half top coll mins movd size row plc old w2) := by
  refine mC.on (by decide) (Nat.le_of_ble_eq_true rfl) ?_
  intro p e s m args below meth c ls S hr hlk hnm hK hN hG hl
  have hl : lv_has ls 2 [(0, .ref (q 0)), (1, .int (x))] := hl
  generalize hAe : mA w s.heap.size = A at hG ⊢
  refine lv_aload_n S.1 S.2.1 dX10_at_0 rfl (lv_at hl 0 rfl) ?_
  refine lv_iconst (v := 0) S.1 S.2.1 dX10_at_1 (by decide) ?_
  refine rp_thr S hK hG hR (0) dX10_at_2 (fun w H locs hR hG => ?_)
  refine lv_iload_n S.1 S.2.1 dX10_at_5 rfl (lv_at hl 1 rfl) ?_
  refine lv_iconst (v := nI (0)) S.1 S.2.1 dX10_at_6 (by decide) ?_
  refine lv_aload_n S.1 S.2.1 dX10_at_7 rfl (lv_at hl 0 rfl) ?_
  refine rg_Wn S hK hG hR dX10_at_8 ?_
  refine lv_iconst (v := nI (1)) S.1 S.2.1 dX10_at_11 (by decide) ?_
  refine lv_isub S.1 S.2.1 dX10_at_12 ?_
  refine lv_eqi (pk_sub (by omega)) ?_
  refine mCS (As := [.int (x), .int (nI (0)), .int (nI (Wn - 1))]) (rest := []) S (r_in x (Wn - 1) (by omega)) cal_X10_in rfl in_385 in_386 in_5 hK hN hG rfl rfl hl.1 (Nat.le_of_ble_eq_true rfl) ⟨by decide, by decide⟩ ⟨rfl, rfl⟩ ⟨by decide, by decide⟩ dX10_at_13 (fun v w H locs hp hG => ?_)
  obtain ⟨rfl, hw9⟩ := hp
  rw [hw9] at hG
  rw [show Wn - 1 + 1 = Wn by omega]
  refine W.eq (g2 := F0 m 16 ls [.int (bI (inR Wn x))]) rfl ?_
  refine lv_if_eq (tgt := 28) S.1 S.2.1 dX10_at_16 (by decide) (fun c1 => ?_) (fun c1 => ?_)
  · rw [if_neg (by rw [bI_f c1]; simp)]
    refine lv_bipush (v := -2) S.1 S.2.1 dX10_at_28 (by decide) ?_
    exact mw_iret S hr hlk hK hG dX10_at_30 ⟨rfl, hR⟩
  · obtain ⟨j, hj, rfl⟩ := inR_ex (by omega) (bI_t c1)
    rw [if_pos (inR_nI hj (by omega)), nI_clamp (by omega)]
    refine lv_aload_n S.1 S.2.1 dX10_at_19 rfl (lv_at hl 0 rfl) ?_
    refine rg_own S hK hG hR dX10_at_20 ?_
    refine lv_iload_n S.1 S.2.1 dX10_at_23 rfl (lv_at hl 1 rfl) ?_
    refine rl_own S hK hG hR (j) (by omega) dX10_at_24 ?_
    refine lv_goto (tgt := 30) S.1 S.2.1 dX10_at_25 (by decide) ?_
    exact mw_iret S hr hlk hK hG dX10_at_30 ⟨rfl, hR⟩
theorem cal_X10_object : mCal yX10_object cX10_object 4 2 (some .int) := ⟨in_595, by decide +kernel⟩
set_option maxHeartbeats 4000000 in
set_option maxRecDepth 100000 in
theorem r_object {l : Launch} {dC : Nat → ClassId} {dI : Nat → Nat → Nat} {cI cZ cT : ClassId} {q : Nat → Nat} {thr : Int32} {kp : Nat} {Wn : Nat} {made : Nat} {adr : (Nat → Option Nat)} {fl : (Nat → Nat)} {rem : (Nat → Bool)} {num : (Nat → Nat → Int32)} {rfs : (Nat → Nat → Option Nat)} {root : (Nat → Option Nat)} {own : (Nat → Option Nat)} {half : Nat} {top : Nat} {coll : Nat} {mins : Nat} {movd : Nat} {size : Nat} {row : (Nat → Nat)} {plc : (Nat → Option Nat)} {old : (Nat → Option Nat)} {w : mM} (hR : RW cI cZ q thr kp Wn made adr fl rem num rfs root own half top coll mins movd size row plc old w) (hrb : ∀ j, j < 16 → ∀ o, root j = some o → o < made) (hm : made ≤ 2000) (hfl : ∀ o, o < made → fl o ≤ 6) (hkp : kp ≤ 2) (hW : Wn ≤ 400) (hab : ∀ o, o < made → ∀ a, adr o = some a → a < 2147483648) (x y : Int32) : mC l yX10_object (wsY yX10_object cX10_object 4 (some .int)) { frames := 2, cells := 0, slots := 0, locals := 42 } (dC, dI) vwCl (tyL cI cZ cT) 0 0 w [.ref (q 0), .int (x), .int (y)] (fun v w2 => v = some (.int (if inR 16 x = true ∧ inR 5 y = true then (match root x.toNatClampNeg with | none => -3 | some o => (if y = nI 0 then nI o else if y = nI 1 then oI (adr o) else if y = nI 2 then nI (fl o) else if y = nI 3 then bI (isOldR kp Wn adr o) else bI (rem o))) else -2)) ∧ RW cI cZ q 0 kp Wn made adr fl rem num rfs root own half top coll mins movd size row plc old w2) := by
  refine mC.on (by decide) (Nat.le_of_ble_eq_true rfl) ?_
  intro p e s m args below meth c ls S hr hlk hnm hK hN hG hl
  have hl : lv_has ls 4 [(0, .ref (q 0)), (1, .int (x)), (2, .int (y))] := hl
  generalize hAe : mA w s.heap.size = A at hG ⊢
  refine lv_aload_n S.1 S.2.1 dX10_object_0 rfl (lv_at hl 0 rfl) ?_
  refine lv_iconst (v := 0) S.1 S.2.1 dX10_object_1 (by decide) ?_
  refine rp_thr S hK hG hR (0) dX10_object_2 (fun w H locs hR hG => ?_)
  refine lv_iload_n S.1 S.2.1 dX10_object_5 rfl (lv_at hl 1 rfl) ?_
  refine mCS (As := [.int (x)]) (rest := []) S (r_isRoot x) cal_X10_isRoot rfl in_382 in_383 in_5 hK hN hG rfl rfl hl.1 (Nat.le_of_ble_eq_true rfl) ⟨by decide, by decide⟩ ⟨rfl, rfl⟩ ⟨by decide, by decide⟩ dX10_object_6 (fun v w H locs hp hG => ?_)
  obtain ⟨rfl, hw9⟩ := hp
  rw [hw9] at hG
  refine W.eq (g2 := F0 m 9 ls [.int (bI (inR 16 x))]) rfl ?_
  refine lv_if_eq (tgt := 21) S.1 S.2.1 dX10_object_9 (by decide) (fun c1 => ?_) (fun c1 => ?_)
  · rw [if_neg (by rw [bI_f c1]; simp)]
    refine lv_bipush (v := -2) S.1 S.2.1 dX10_object_21 (by decide) ?_
    exact mw_iret S hr hlk hK hG dX10_object_23 ⟨rfl, hR⟩
  · obtain ⟨j, hj, rfl⟩ := inR_ex (by omega) (bI_t c1)
    refine lv_iload_n S.1 S.2.1 dX10_object_12 rfl (lv_at hl 2 rfl) ?_
    refine lv_iconst (v := nI (0)) S.1 S.2.1 dX10_object_13 (by decide) ?_
    refine lv_iconst (v := nI (4)) S.1 S.2.1 dX10_object_14 (by decide) ?_
    refine mCS (As := [.int (y), .int (nI (0)), .int (nI (4))]) (rest := []) S (r_in y 4 (by decide)) cal_X10_in rfl in_385 in_386 in_5 hK hN hG rfl rfl hl.1 (Nat.le_of_ble_eq_true rfl) ⟨by decide, by decide⟩ ⟨rfl, rfl⟩ ⟨by decide, by decide⟩ dX10_object_15 (fun v w H locs hp hG => ?_)
    obtain ⟨rfl, hw9⟩ := hp
    rw [hw9] at hG
    refine W.eq (g2 := F0 m 18 ls [.int (bI (inR 5 y))]) rfl ?_
    refine lv_if_ne (tgt := 24) S.1 S.2.1 dX10_object_18 (by decide) (fun c2 => ?_) (fun c2 => ?_)
    · rw [if_pos ⟨inR_nI hj (by decide), bI_t c2⟩, nI_clamp (by omega)]
      have hob : ∀ u, root j = some u → u < 2147483648 := fun u hu => by have := hrb j hj u hu; omega
      refine lv_aload_n S.1 S.2.1 dX10_object_24 rfl (lv_at hl 0 rfl) ?_
      refine rg_root S hK hG hR dX10_object_25 ?_
      refine lv_iload_n S.1 S.2.1 dX10_object_28 rfl (lv_at hl 1 rfl) ?_
      refine rl_root S hK hG hR (j) (by omega) dX10_object_29 ?_
      refine lv_istore_n (lv' := [(3, .int (oI (root j))), (0, .ref (q 0)), (1, .int (nI (j))), (2, .int (y))]) S.1 S.2.1 dX10_object_30 rfl hl (by decide) rfl (fun ls hl => ?_)
      refine lv_iload_n S.1 S.2.1 dX10_object_31 rfl (lv_at hl 0 rfl) ?_
      refine lv_iconst (v := -1) S.1 S.2.1 dX10_object_32 (by decide) ?_
      refine lv_icmp_ne (tgt := 39) S.1 S.2.1 dX10_object_33 (by decide) (fun c3 => ?_) (fun c3 => ?_)
      · obtain ⟨o, ho⟩ : ∃ o, root j = some o := by
          cases h : root j with
          | none => exact absurd ((oI_m1 hob).mpr h) c3
          | some o => exact ⟨o, rfl⟩
        have hom := hrb j hj o ho
        rw [ho] at hl
        rw [ho]
        have hl : lv_has ls 4 [(3, .int (nI (o))), (0, .ref (q 0)), (1, .int (nI (j))), (2, .int (y))] := hl
        refine lv_iload_n S.1 S.2.1 dX10_object_39 rfl (lv_at hl 3 rfl) ?_
        refine lv_if_ne (tgt := 47) S.1 S.2.1 dX10_object_40 (by decide) (fun d0 => ?_) (fun d0 => ?_)
        · have d0 : ¬ y = nI 0 := d0
          refine lv_iload_n S.1 S.2.1 dX10_object_47 rfl (lv_at hl 3 rfl) ?_
          refine lv_iconst (v := nI (1)) S.1 S.2.1 dX10_object_48 (by decide) ?_
          refine lv_icmp_ne (tgt := 61) S.1 S.2.1 dX10_object_49 (by decide) (fun d1 => ?_) (fun d1 => ?_)
          · refine lv_iload_n S.1 S.2.1 dX10_object_61 rfl (lv_at hl 3 rfl) ?_
            refine lv_iconst (v := nI (2)) S.1 S.2.1 dX10_object_62 (by decide) ?_
            refine lv_icmp_ne (tgt := 75) S.1 S.2.1 dX10_object_63 (by decide) (fun d2 => ?_) (fun d2 => ?_)
            · refine lv_iload_n S.1 S.2.1 dX10_object_75 rfl (lv_at hl 3 rfl) ?_
              refine lv_iconst (v := nI (3)) S.1 S.2.1 dX10_object_76 (by decide) ?_
              refine lv_icmp_ne (tgt := 96) S.1 S.2.1 dX10_object_77 (by decide) (fun d3 => ?_) (fun d3 => ?_)
              · refine lv_aload_n S.1 S.2.1 dX10_object_96 rfl (lv_at hl 1 rfl) ?_
                refine rg_rem S hK hG hR dX10_object_97 ?_
                refine lv_iload_n S.1 S.2.1 dX10_object_100 rfl (lv_at hl 0 rfl) ?_
                refine rl_rem S hK hG hR (o) (by omega) dX10_object_101 ?_
                refine lv_if_eq (tgt := 109) S.1 S.2.1 dX10_object_102 (by decide) (fun e1 => ?_) (fun e1 => ?_)
                · refine lv_iconst (v := nI (0)) S.1 S.2.1 dX10_object_109 (by decide) ?_
                  exact mw_iret S hr hlk hK hG dX10_object_110 ⟨by simp only [if_neg d0, if_neg d1, if_neg d2, if_neg d3, bI_f e1]; rfl, hR⟩
                · refine lv_iconst (v := nI (1)) S.1 S.2.1 dX10_object_105 (by decide) ?_
                  refine lv_goto (tgt := 110) S.1 S.2.1 dX10_object_106 (by decide) ?_
                  exact mw_iret S hr hlk hK hG dX10_object_110 ⟨by simp only [if_neg d0, if_neg d1, if_neg d2, if_neg d3, bI_t e1]; rfl, hR⟩
              · refine lv_aload_n S.1 S.2.1 dX10_object_80 rfl (lv_at hl 1 rfl) ?_
                refine lv_iload_n S.1 S.2.1 dX10_object_81 rfl (lv_at hl 0 rfl) ?_
                refine mCV (As := [.int (nI (o))]) (rest := []) S (r_isOld hR o (by omega) hW hkp (hab o hom)) cal_X10_isOld in_428 in_429 in_430 in_5 hK hN hG hR.obj rfl rfl rfl hl.1 (Nat.le_of_ble_eq_true rfl) ⟨by decide, by decide⟩ ⟨rfl, rfl⟩ ⟨by decide, by decide⟩ dX10_object_82 (fun v w H locs hp hG => ?_)
                obtain ⟨rfl, hw9⟩ := hp
                rw [hw9] at hG
                refine W.eq (g2 := F0 m 85 ls [.int (bI (isOldR kp Wn adr o))]) rfl ?_
                refine lv_if_eq (tgt := 92) S.1 S.2.1 dX10_object_85 (by decide) (fun e1 => ?_) (fun e1 => ?_)
                · refine lv_iconst (v := nI (0)) S.1 S.2.1 dX10_object_92 (by decide) ?_
                  refine lv_goto (tgt := 110) S.1 S.2.1 dX10_object_93 (by decide) ?_
                  exact mw_iret S hr hlk hK hG dX10_object_110 ⟨by simp only [if_neg d0, if_neg d1, if_neg d2, if_pos d3, bI_f e1]; rfl, hR⟩
                · refine lv_iconst (v := nI (1)) S.1 S.2.1 dX10_object_88 (by decide) ?_
                  refine lv_goto (tgt := 110) S.1 S.2.1 dX10_object_89 (by decide) ?_
                  exact mw_iret S hr hlk hK hG dX10_object_110 ⟨by simp only [if_neg d0, if_neg d1, if_neg d2, if_pos d3, bI_t e1]; rfl, hR⟩
            · refine lv_aload_n S.1 S.2.1 dX10_object_66 rfl (lv_at hl 1 rfl) ?_
              refine rg_fl S hK hG hR dX10_object_67 ?_
              refine lv_iload_n S.1 S.2.1 dX10_object_70 rfl (lv_at hl 0 rfl) ?_
              refine rl_fl S hK hG hR (o) (by omega) dX10_object_71 ?_
              refine lv_goto (tgt := 110) S.1 S.2.1 dX10_object_72 (by decide) ?_
              exact mw_iret S hr hlk hK hG dX10_object_110 ⟨by simp only [if_neg d0, if_neg d1, if_pos d2], hR⟩
          · refine lv_aload_n S.1 S.2.1 dX10_object_52 rfl (lv_at hl 1 rfl) ?_
            refine rg_adr S hK hG hR dX10_object_53 ?_
            refine lv_iload_n S.1 S.2.1 dX10_object_56 rfl (lv_at hl 0 rfl) ?_
            refine rl_adr S hK hG hR (o) (by omega) dX10_object_57 ?_
            refine lv_goto (tgt := 110) S.1 S.2.1 dX10_object_58 (by decide) ?_
            exact mw_iret S hr hlk hK hG dX10_object_110 ⟨by simp only [if_neg d0, if_pos d1], hR⟩
        · have d0 : y = nI 0 := d0
          refine lv_iload_n S.1 S.2.1 dX10_object_43 rfl (lv_at hl 0 rfl) ?_
          refine lv_goto (tgt := 110) S.1 S.2.1 dX10_object_44 (by decide) ?_
          exact mw_iret S hr hlk hK hG dX10_object_110 ⟨by simp only [if_pos d0], hR⟩
      · rw [(oI_m1 hob).mp c3]
        refine lv_bipush (v := -3) S.1 S.2.1 dX10_object_36 (by decide) ?_
        exact mw_iret S hr hlk hK hG dX10_object_38 ⟨rfl, hR⟩
    · rw [if_neg (by rw [bI_f c2]; simp)]
      refine lv_bipush (v := -2) S.1 S.2.1 dX10_object_21 (by decide) ?_
      exact mw_iret S hr hlk hK hG dX10_object_23 ⟨rfl, hR⟩
end
section
/-! THE CLASS: its world, and a rule for each link and array -/
theorem bI_fit (b : Bool) : fits .boolean (.int (bI b)) = true := by cases b <;> rfl
abbrev tq (q : Nat → Nat) (t : Nat) : Nat := q (3 * t + 9)
def IP (q : Nat → Nat) (dom : Nat → Prop) (cell : Nat → va_E) (w : mM) : Prop := (∀ i, dom i → w (q i) = some (cell i)) ∧ ∀ i j, dom i → dom j → q i = q j → i = j
theorem IP.upd {q : Nat → Nat} {dom : Nat → Prop} {cell cell2 : Nat → va_E} {w : mM} (h : IP q dom cell w) (i0 : Nat) (hi : dom i0) (h2 : ∀ i, dom i → i ≠ i0 → cell2 i = cell i) : IP q dom cell2 (mU w (q i0) (cell2 i0)) := by
  refine ⟨fun i hi2 => ?_, h.2⟩
  by_cases e : i = i0
  · subst e
    exact mU_s _ _ _
  · rw [mU_n (fun z => e (h.2 i i0 hi2 hi z)), h2 i hi2 e]
    exact h.1 i hi2
def thC (cI cT : ClassId) (q : Nat → Nat) (fl : Nat → Nat) (num : Nat → Nat → Int32) (rfs : Nat → Nat → Option Nat) (tad : Nat → Nat) (trm : Nat → Bool) (tpl wlk ord : Nat → Nat) (r k : Nat) : va_E := match r with
  | 0 => .inr (5, [.int (nI k), .ref (q (3 * k + 10)), .ref (q (3 * k + 11)), .int (nI (tad k)), .int (bI (trm k)), .int (nI (tpl k)), .int (nI (wlk k)), .int (nI (ord k))])
  | 1 => .inl (cI, fl k, .inl (fun j => num k j))
  | _ => .inl (cT, fl k, .inr (.inr (.inr (.inr (fun j => (rfs k j).map (tq q))))))
def kpC (q : Nat → Nat) (kp Wn st coll mins movd : Nat) : va_E := match kp with
  | 0 => .inr (4, [.ref (q 1), .ref (q 3), .ref (q 6), .int (nI coll), .int (nI mins), .int (nI movd)])
  | 1 => .inr (1, [.ref (q 1), .ref (q 3), .ref (q 6), .int (nI coll), .int (nI mins), .int (nI movd), .int (nI (Wn / 2)), .ref (q 8), .int (nI st)])
  | _ => .inr (0, [.ref (q 1), .ref (q 3), .ref (q 6), .int (nI coll), .int (nI mins), .int (nI movd), .int (nI (Wn / 4)), .ref (q 8)])
def cellC (cI cT : ClassId) (q : Nat → Nat) (kp : Nat) (Wn : Nat) (made : Nat) (fl : (Nat → Nat)) (num : (Nat → Nat → Int32)) (rfs : (Nat → Nat → Option Nat)) (root : (Nat → Option Nat)) (own : (Nat → Option Nat)) (tad : (Nat → Nat)) (trm : (Nat → Bool)) (tpl : (Nat → Nat)) (wlk : (Nat → Nat)) (ord : (Nat → Nat)) (met : (Nat → Option Nat)) (msz : Nat) (cur : Nat) (mend : Nat) (pnx : Nat) (pen : Nat) (st : Nat) (coll : Nat) (mins : Nat) (movd : Nat) : Nat → va_E
  | 0 => .inr (8, [.ref (q 1), .ref (q 3), .ref (q 5), .int (nI made)])
  | 1 => .inr (7, [.ref (q 2)])
  | 2 => .inl (cT, Wn, .inr (.inr (.inr (.inr (fun k => if k < Wn then (own k).map (tq q) else none)))))
  | 3 => .inr (3, [.ref (q 4)])
  | 4 => .inl (cT, 16, .inr (.inr (.inr (.inr (fun k => if k < 16 then (root k).map (tq q) else none)))))
  | 5 => kpC q kp Wn st coll mins movd
  | 6 => .inr (6, [.ref (q 7), .int (nI msz), .int (nI cur), .int (nI mend)])
  | 7 => .inl (cT, Wn, .inr (.inr (.inr (.inr (fun k => if k < Wn then (met k).map (tq q) else none)))))
  | 8 => .inr (2, [.int (nI pnx), .int (nI pen)])
  | n + 9 => thC cI cT q fl num rfs tad trm tpl wlk ord (n % 3) (n / 3)
def domC (kp made : Nat) (i : Nat) : Prop := i < 8 ∨ (i = 8 ∧ kp ≠ 0) ∨ (9 ≤ i ∧ i < 9 + 3 * made)
def CW (cI cT : ClassId) (q : Nat → Nat) (kp : Nat) (Wn : Nat) (made : Nat) (fl : (Nat → Nat)) (num : (Nat → Nat → Int32)) (rfs : (Nat → Nat → Option Nat)) (root : (Nat → Option Nat)) (own : (Nat → Option Nat)) (tad : (Nat → Nat)) (trm : (Nat → Bool)) (tpl : (Nat → Nat)) (wlk : (Nat → Nat)) (ord : (Nat → Nat)) (met : (Nat → Option Nat)) (msz : Nat) (cur : Nat) (mend : Nat) (pnx : Nat) (pen : Nat) (st : Nat) (coll : Nat) (mins : Nat) (movd : Nat) (w : mM) : Prop := IP q (domC kp made) (cellC cI cT q kp Wn made fl num rfs root own tad trm tpl wlk ord met msz cur mend pnx pen st coll mins movd) w
theorem up_trq (n : Nat) (g : Nat → Nat) (f : Nat → Option Nat) (j : Nat) (hj : j < n) (v : Option Nat) : va_up (fun k => if k < n then (f k).map g else none) j (v.map g) = fun k => if k < n then (va_up f j v k).map g else none := by
  funext k
  unfold va_up
  by_cases h : k = j
  · rw [if_pos h, if_pos h, if_pos (by omega)]
  · rw [if_neg h, if_neg h]
section CC
variable {p : Program} {l : Launch} {e : Env} {R : Room} {s : State} {m : MethodId} {args : Array Value} {below : List Frame} {meth : Method} {c : Code} {H : Heap} {locs : List Loc} {cells slots : Nat} {Q : State → Prop}
variable {cc : ByteArray} {pc nL : Nat} {ls : Array Slot} {rest st0 : List Value} {dC : Nat → ClassId} {dI : Nat → Nat → Nat} {A : Nat → Prop} {w : mM} {H0 : Heap} {cI cZ cT : ClassId} {q : Nat → Nat} {ow : String}
variable {kp : Nat} {Wn : Nat} {made : Nat} {fl : (Nat → Nat)} {num : (Nat → Nat → Int32)} {rfs : (Nat → Nat → Option Nat)} {root : (Nat → Option Nat)} {own : (Nat → Option Nat)} {tad : (Nat → Nat)} {trm : (Nat → Bool)} {tpl : (Nat → Nat)} {wlk : (Nat → Nat)} {ord : (Nat → Nat)} {met : (Nat → Option Nat)} {msz : Nat} {cur : Nat} {mend : Nat} {pnx : Nat} {pen : Nat} {st : Nat} {coll : Nat} {mins : Nat} {movd : Nat}
theorem CW.obj9 (hC : CW cI cT q kp Wn made fl num rfs root own tad trm tpl wlk ord met msz cur mend pnx pen st coll mins movd w) : w (q 0) = some (.inr (8, [.ref (q 1), .ref (q 3), .ref (q 5), .int (nI made)])) := hC.1 0 (Or.inl (by decide))
theorem CW.obj8 (hC : CW cI cT q kp Wn made fl num rfs root own tad trm tpl wlk ord met msz cur mend pnx pen st coll mins movd w) : w (q 1) = some (.inr (7, [.ref (q 2)])) := hC.1 1 (Or.inl (by decide))
theorem CW.aown (hC : CW cI cT q kp Wn made fl num rfs root own tad trm tpl wlk ord met msz cur mend pnx pen st coll mins movd w) : w (q 2) = some (.inl (cT, Wn, .inr (.inr (.inr (.inr (fun k => if k < Wn then (own k).map (tq q) else none)))))) := hC.1 2 (Or.inl (by decide))
theorem CW.obj4 (hC : CW cI cT q kp Wn made fl num rfs root own tad trm tpl wlk ord met msz cur mend pnx pen st coll mins movd w) : w (q 3) = some (.inr (3, [.ref (q 4)])) := hC.1 3 (Or.inl (by decide))
theorem CW.aroot (hC : CW cI cT q kp Wn made fl num rfs root own tad trm tpl wlk ord met msz cur mend pnx pen st coll mins movd w) : w (q 4) = some (.inl (cT, 16, .inr (.inr (.inr (.inr (fun k => if k < 16 then (root k).map (tq q) else none)))))) := hC.1 4 (Or.inl (by decide))
theorem CW.kpr (hC : CW cI cT q kp Wn made fl num rfs root own tad trm tpl wlk ord met msz cur mend pnx pen st coll mins movd w) : w (q 5) = some (kpC q kp Wn st coll mins movd) := hC.1 5 (Or.inl (by decide))
theorem CW.obj5 (hC : CW cI cT q kp Wn made fl num rfs root own tad trm tpl wlk ord met msz cur mend pnx pen st coll mins movd w) (hk : kp = 0) : w (q 5) = some (.inr (4, [.ref (q 1), .ref (q 3), .ref (q 6), .int (nI coll), .int (nI mins), .int (nI movd)])) := by subst hk; exact hC.kpr
theorem CW.obj1 (hC : CW cI cT q kp Wn made fl num rfs root own tad trm tpl wlk ord met msz cur mend pnx pen st coll mins movd w) (hk : kp = 1) : w (q 5) = some (.inr (1, [.ref (q 1), .ref (q 3), .ref (q 6), .int (nI coll), .int (nI mins), .int (nI movd), .int (nI (Wn / 2)), .ref (q 8), .int (nI st)])) := by subst hk; exact hC.kpr
theorem CW.obj0 (hC : CW cI cT q kp Wn made fl num rfs root own tad trm tpl wlk ord met msz cur mend pnx pen st coll mins movd w) (hk : kp = 2) : w (q 5) = some (.inr (0, [.ref (q 1), .ref (q 3), .ref (q 6), .int (nI coll), .int (nI mins), .int (nI movd), .int (nI (Wn / 4)), .ref (q 8)])) := by subst hk; exact hC.kpr
theorem CW.obj7 (hC : CW cI cT q kp Wn made fl num rfs root own tad trm tpl wlk ord met msz cur mend pnx pen st coll mins movd w) : w (q 6) = some (.inr (6, [.ref (q 7), .int (nI msz), .int (nI cur), .int (nI mend)])) := hC.1 6 (Or.inl (by decide))
theorem CW.amet (hC : CW cI cT q kp Wn made fl num rfs root own tad trm tpl wlk ord met msz cur mend pnx pen st coll mins movd w) : w (q 7) = some (.inl (cT, Wn, .inr (.inr (.inr (.inr (fun k => if k < Wn then (met k).map (tq q) else none)))))) := hC.1 7 (Or.inl (by decide))
theorem CW.obj3 (hC : CW cI cT q kp Wn made fl num rfs root own tad trm tpl wlk ord met msz cur mend pnx pen st coll mins movd w) (hk : kp ≠ 0) : w (q 8) = some (.inr (2, [.int (nI pnx), .int (nI pen)])) := hC.1 8 (Or.inr (Or.inl ⟨rfl, hk⟩))
theorem domC_t {kp made k r : Nat} (hk : k < made) (hr : r < 3) : domC kp made (3 * k + r + 9) := Or.inr (Or.inr ⟨by omega, by omega⟩)
theorem CW.th (hC : CW cI cT q kp Wn made fl num rfs root own tad trm tpl wlk ord met msz cur mend pnx pen st coll mins movd w) {k : Nat} (hk : k < made) : w (tq q k) = some (.inr (5, [.int (nI k), .ref (q (3 * k + 10)), .ref (q (3 * k + 11)), .int (nI (tad k)), .int (bI (trm k)), .int (nI (tpl k)), .int (nI (wlk k)), .int (nI (ord k))])) := by
  have h := hC.1 (3 * k + 9) (domC_t (r := 0) hk (by decide))
  have h1 : cellC cI cT q kp Wn made fl num rfs root own tad trm tpl wlk ord met msz cur mend pnx pen st coll mins movd (3 * k + 9) = thC cI cT q fl num rfs tad trm tpl wlk ord (3 * k % 3) (3 * k / 3) := rfl
  rw [h1, show 3 * k % 3 = 0 by omega, show 3 * k / 3 = k by omega] at h
  exact h
theorem CW.thn (hC : CW cI cT q kp Wn made fl num rfs root own tad trm tpl wlk ord met msz cur mend pnx pen st coll mins movd w) {k : Nat} (hk : k < made) : w (q (3 * k + 10)) = some (.inl (cI, fl k, .inl (fun j => num k j))) := by
  have h := hC.1 (3 * k + 10) (domC_t (r := 1) hk (by decide))
  have h1 : cellC cI cT q kp Wn made fl num rfs root own tad trm tpl wlk ord met msz cur mend pnx pen st coll mins movd (3 * k + 10) = thC cI cT q fl num rfs tad trm tpl wlk ord ((3 * k + 1) % 3) ((3 * k + 1) / 3) := rfl
  rw [h1, show (3 * k + 1) % 3 = 1 by omega, show (3 * k + 1) / 3 = k by omega] at h
  exact h
theorem CW.tht (hC : CW cI cT q kp Wn made fl num rfs root own tad trm tpl wlk ord met msz cur mend pnx pen st coll mins movd w) {k : Nat} (hk : k < made) : w (q (3 * k + 11)) = some (.inl (cT, fl k, .inr (.inr (.inr (.inr (fun j => (rfs k j).map (tq q))))))) := by
  have h := hC.1 (3 * k + 11) (domC_t (r := 2) hk (by decide))
  have h1 : cellC cI cT q kp Wn made fl num rfs root own tad trm tpl wlk ord met msz cur mend pnx pen st coll mins movd (3 * k + 11) = thC cI cT q fl num rfs tad trm tpl wlk ord ((3 * k + 2) % 3) ((3 * k + 2) / 3) := rfl
  rw [h1, show (3 * k + 2) % 3 = 2 by omega, show (3 * k + 2) / 3 = k by omega] at h
  exact h
theorem cg_RX9_21 (S : CallFix p m c cc nL s args wsL RX9) (hK : va_K (dC, dI) vwCl (tyL cI cZ cT) s) (hG : mG (dC, dI) vwCl A H0 w H locs) (hC : CW cI cT q kp Wn made fl num rfs root own tad trm tpl wlk ord met msz cur mend pnx pen st coll mins movd w) (hdg : decode cc pc = .ok (.getfield 21, 3)) (kk : W p l e R s m args below meth c H locs cells slots Q (F0 m (pc + 3) ls (.ref (q 1) :: rest))) : W p l e R s m args below meth c H locs cells slots Q (F0 m pc ls (.ref (q 0) :: rest)) :=
  mw_get S inlX9 hK hG hC.obj9 rfl 0 (by decide) in_22 (fun _ h9 => h9) rfl hdg kk
theorem cg_RX9_25 (S : CallFix p m c cc nL s args wsL RX9) (hK : va_K (dC, dI) vwCl (tyL cI cZ cT) s) (hG : mG (dC, dI) vwCl A H0 w H locs) (hC : CW cI cT q kp Wn made fl num rfs root own tad trm tpl wlk ord met msz cur mend pnx pen st coll mins movd w) (hdg : decode cc pc = .ok (.getfield 25, 3)) (kk : W p l e R s m args below meth c H locs cells slots Q (F0 m (pc + 3) ls (.ref (q 3) :: rest))) : W p l e R s m args below meth c H locs cells slots Q (F0 m pc ls (.ref (q 0) :: rest)) :=
  mw_get S inlX9 hK hG hC.obj9 rfl 1 (by decide) in_23 (fun _ h9 => h9) rfl hdg kk
theorem cg_RX9_33 (S : CallFix p m c cc nL s args wsL RX9) (hK : va_K (dC, dI) vwCl (tyL cI cZ cT) s) (hG : mG (dC, dI) vwCl A H0 w H locs) (hC : CW cI cT q kp Wn made fl num rfs root own tad trm tpl wlk ord met msz cur mend pnx pen st coll mins movd w) (hdg : decode cc pc = .ok (.getfield 33, 3)) (kk : W p l e R s m args below meth c H locs cells slots Q (F0 m (pc + 3) ls (.ref (q 5) :: rest))) : W p l e R s m args below meth c H locs cells slots Q (F0 m pc ls (.ref (q 0) :: rest)) :=
  mw_get S inlX9 hK hG hC.obj9 rfl 2 (by decide) in_24 (fun _ h9 => h9) rfl hdg kk
theorem cg_RX9_37 (S : CallFix p m c cc nL s args wsL RX9) (hK : va_K (dC, dI) vwCl (tyL cI cZ cT) s) (hG : mG (dC, dI) vwCl A H0 w H locs) (hC : CW cI cT q kp Wn made fl num rfs root own tad trm tpl wlk ord met msz cur mend pnx pen st coll mins movd w) (hdg : decode cc pc = .ok (.getfield 37, 3)) (kk : W p l e R s m args below meth c H locs cells slots Q (F0 m (pc + 3) ls (.int (nI made) :: rest))) : W p l e R s m args below meth c H locs cells slots Q (F0 m pc ls (.ref (q 0) :: rest)) :=
  mw_get S inlX9 hK hG hC.obj9 rfl 3 (by decide) in_25 (fun _ h9 => h9) rfl hdg kk
theorem cp_skip_RX9_37 : True := trivial
theorem cg_RX8_17 (S : CallFix p m c cc nL s args wsL RX8) (hK : va_K (dC, dI) vwCl (tyL cI cZ cT) s) (hG : mG (dC, dI) vwCl A H0 w H locs) (hC : CW cI cT q kp Wn made fl num rfs root own tad trm tpl wlk ord met msz cur mend pnx pen st coll mins movd w) (hdg : decode cc pc = .ok (.getfield 17, 3)) (kk : W p l e R s m args below meth c H locs cells slots Q (F0 m (pc + 3) ls (.ref (q 2) :: rest))) : W p l e R s m args below meth c H locs cells slots Q (F0 m pc ls (.ref (q 1) :: rest)) :=
  mw_get S inlX8 hK hG hC.obj8 rfl 0 (by decide) in_42 (fun _ h9 => h9) rfl hdg kk
theorem cg_RX4_11 (S : CallFix p m c cc nL s args wsL RX4) (hK : va_K (dC, dI) vwCl (tyL cI cZ cT) s) (hG : mG (dC, dI) vwCl A H0 w H locs) (hC : CW cI cT q kp Wn made fl num rfs root own tad trm tpl wlk ord met msz cur mend pnx pen st coll mins movd w) (hdg : decode cc pc = .ok (.getfield 11, 3)) (kk : W p l e R s m args below meth c H locs cells slots Q (F0 m (pc + 3) ls (.ref (q 4) :: rest))) : W p l e R s m args below meth c H locs cells slots Q (F0 m pc ls (.ref (q 3) :: rest)) :=
  mw_get S inlX4 hK hG hC.obj4 rfl 0 (by decide) in_48 (fun _ h9 => h9) rfl hdg kk
theorem cg_RX1_13 (S : CallFix p m c cc nL s args wsL RX1) (hK : va_K (dC, dI) vwCl (tyL cI cZ cT) s) (hG : mG (dC, dI) vwCl A H0 w H locs) (hC : CW cI cT q kp Wn made fl num rfs root own tad trm tpl wlk ord met msz cur mend pnx pen st coll mins movd w) (hk : kp = 1) (hdg : decode cc pc = .ok (.getfield 13, 3)) (kk : W p l e R s m args below meth c H locs cells slots Q (F0 m (pc + 3) ls (.int (nI (Wn / 2)) :: rest))) : W p l e R s m args below meth c H locs cells slots Q (F0 m pc ls (.ref (q 5) :: rest)) :=
  mw_get S inlX1 hK hG (hC.obj1 hk) rfl 6 (by decide) in_64 (fun _ h9 => h9) rfl hdg kk
theorem cg_RX1_24 (S : CallFix p m c cc nL s args wsL RX1) (hK : va_K (dC, dI) vwCl (tyL cI cZ cT) s) (hG : mG (dC, dI) vwCl A H0 w H locs) (hC : CW cI cT q kp Wn made fl num rfs root own tad trm tpl wlk ord met msz cur mend pnx pen st coll mins movd w) (hk : kp = 1) (hdg : decode cc pc = .ok (.getfield 24, 3)) (kk : W p l e R s m args below meth c H locs cells slots Q (F0 m (pc + 3) ls (.ref (q 8) :: rest))) : W p l e R s m args below meth c H locs cells slots Q (F0 m pc ls (.ref (q 5) :: rest)) :=
  mw_get S inlX1 hK hG (hC.obj1 hk) rfl 7 (by decide) in_68 (fun _ h9 => h9) rfl hdg kk
theorem cg_RX1_28 (S : CallFix p m c cc nL s args wsL RX1) (hK : va_K (dC, dI) vwCl (tyL cI cZ cT) s) (hG : mG (dC, dI) vwCl A H0 w H locs) (hC : CW cI cT q kp Wn made fl num rfs root own tad trm tpl wlk ord met msz cur mend pnx pen st coll mins movd w) (hk : kp = 1) (hdg : decode cc pc = .ok (.getfield 28, 3)) (kk : W p l e R s m args below meth c H locs cells slots Q (F0 m (pc + 3) ls (.int (nI st) :: rest))) : W p l e R s m args below meth c H locs cells slots Q (F0 m pc ls (.ref (q 5) :: rest)) :=
  mw_get S inlX1 hK hG (hC.obj1 hk) rfl 8 (by decide) in_69 (fun _ h9 => h9) rfl hdg kk
theorem cp_RX1_28 (S : CallFix p m c cc nL s args wsL RX1) (hK : va_K (dC, dI) vwCl (tyL cI cZ cT) s) (hG : mG (dC, dI) vwCl A H0 w H locs) (hC : CW cI cT q kp Wn made fl num rfs root own tad trm tpl wlk ord met msz cur mend pnx pen st coll mins movd w) (hk : kp = 1) (x : Nat) (hdg : decode cc pc = .ok (.putfield 28, 3)) (kk : ∀ (w : mM) (H1 : Heap) (locs1 : List Loc), CW cI cT q kp Wn made fl num rfs root own tad trm tpl wlk ord met msz cur mend pnx pen x coll mins movd w → mG (dC, dI) vwCl A H0 w H1 locs1 → W p l e R s m args below meth c H1 locs1 cells slots Q (F0 m (pc + 3) ls rest)) : W p l e R s m args below meth c H locs cells slots Q (F0 m pc ls (.int (nI x) :: .ref (q 5) :: rest)) := by
  subst hk
  exact mw_put S inlX1 tyX1 tyX1_ok nmX1 hK hG hC.kpr rfl 8 (by decide) in_69 (fun _ h9 => h9) rfl (ty := .int) (by decide +kernel) rfl rfl (Nat.le_of_ble_eq_true rfl) hdg (fun H1 locs1 hG1 => kk _ H1 locs1 (IP.upd (cell2 := cellC cI cT q 1 Wn made fl num rfs root own tad trm tpl wlk ord met msz cur mend pnx pen x coll mins movd) hC 5 (Or.inl (by decide)) (fun i hi hn => by rcases i with _|_|_|_|_|_|_|_|_|i <;> first | rfl | exact absurd rfl hn)) hG1)
theorem cg_RX2_9 (S : CallFix p m c cc nL s args wsL RX2) (hK : va_K (dC, dI) vwCl (tyL cI cZ cT) s) (hG : mG (dC, dI) vwCl A H0 w H locs) (hC : CW cI cT q kp Wn made fl num rfs root own tad trm tpl wlk ord met msz cur mend pnx pen st coll mins movd w) (hdg : decode cc pc = .ok (.getfield 9, 3)) (kk : W p l e R s m args below meth c H locs cells slots Q (F0 m (pc + 3) ls (.ref (q 1) :: rest))) : W p l e R s m args below meth c H locs cells slots Q (F0 m pc ls (.ref (q 5) :: rest)) := by
  have h := hC.kpr
  rcases kp with _ | _ | kp
  · exact mw_get S inlX5 hK hG h rfl 0 (by decide) in_75 (fun _ h9 => h9) rfl hdg kk
  · exact mw_get S inlX1 hK hG h rfl 0 (by decide) in_75 (fun _ h9 => h9) rfl hdg kk
  · exact mw_get S inlX0 hK hG h rfl 0 (by decide) in_75 (fun _ h9 => h9) rfl hdg kk
theorem cg_RX2_15 (S : CallFix p m c cc nL s args wsL RX2) (hK : va_K (dC, dI) vwCl (tyL cI cZ cT) s) (hG : mG (dC, dI) vwCl A H0 w H locs) (hC : CW cI cT q kp Wn made fl num rfs root own tad trm tpl wlk ord met msz cur mend pnx pen st coll mins movd w) (hdg : decode cc pc = .ok (.getfield 15, 3)) (kk : W p l e R s m args below meth c H locs cells slots Q (F0 m (pc + 3) ls (.ref (q 3) :: rest))) : W p l e R s m args below meth c H locs cells slots Q (F0 m pc ls (.ref (q 5) :: rest)) := by
  have h := hC.kpr
  rcases kp with _ | _ | kp
  · exact mw_get S inlX5 hK hG h rfl 1 (by decide) in_76 (fun _ h9 => h9) rfl hdg kk
  · exact mw_get S inlX1 hK hG h rfl 1 (by decide) in_76 (fun _ h9 => h9) rfl hdg kk
  · exact mw_get S inlX0 hK hG h rfl 1 (by decide) in_76 (fun _ h9 => h9) rfl hdg kk
theorem cg_RX2_30 (S : CallFix p m c cc nL s args wsL RX2) (hK : va_K (dC, dI) vwCl (tyL cI cZ cT) s) (hG : mG (dC, dI) vwCl A H0 w H locs) (hC : CW cI cT q kp Wn made fl num rfs root own tad trm tpl wlk ord met msz cur mend pnx pen st coll mins movd w) (hdg : decode cc pc = .ok (.getfield 30, 3)) (kk : W p l e R s m args below meth c H locs cells slots Q (F0 m (pc + 3) ls (.ref (q 6) :: rest))) : W p l e R s m args below meth c H locs cells slots Q (F0 m pc ls (.ref (q 5) :: rest)) := by
  have h := hC.kpr
  rcases kp with _ | _ | kp
  · exact mw_get S inlX5 hK hG h rfl 2 (by decide) in_80 (fun _ h9 => h9) rfl hdg kk
  · exact mw_get S inlX1 hK hG h rfl 2 (by decide) in_80 (fun _ h9 => h9) rfl hdg kk
  · exact mw_get S inlX0 hK hG h rfl 2 (by decide) in_80 (fun _ h9 => h9) rfl hdg kk
theorem cg_RX2_34 (S : CallFix p m c cc nL s args wsL RX2) (hK : va_K (dC, dI) vwCl (tyL cI cZ cT) s) (hG : mG (dC, dI) vwCl A H0 w H locs) (hC : CW cI cT q kp Wn made fl num rfs root own tad trm tpl wlk ord met msz cur mend pnx pen st coll mins movd w) (hdg : decode cc pc = .ok (.getfield 34, 3)) (kk : W p l e R s m args below meth c H locs cells slots Q (F0 m (pc + 3) ls (.int (nI coll) :: rest))) : W p l e R s m args below meth c H locs cells slots Q (F0 m pc ls (.ref (q 5) :: rest)) := by
  have h := hC.kpr
  rcases kp with _ | _ | kp
  · exact mw_get S inlX5 hK hG h rfl 3 (by decide) in_81 (fun _ h9 => h9) rfl hdg kk
  · exact mw_get S inlX1 hK hG h rfl 3 (by decide) in_81 (fun _ h9 => h9) rfl hdg kk
  · exact mw_get S inlX0 hK hG h rfl 3 (by decide) in_81 (fun _ h9 => h9) rfl hdg kk
theorem cg_RX2_38 (S : CallFix p m c cc nL s args wsL RX2) (hK : va_K (dC, dI) vwCl (tyL cI cZ cT) s) (hG : mG (dC, dI) vwCl A H0 w H locs) (hC : CW cI cT q kp Wn made fl num rfs root own tad trm tpl wlk ord met msz cur mend pnx pen st coll mins movd w) (hdg : decode cc pc = .ok (.getfield 38, 3)) (kk : W p l e R s m args below meth c H locs cells slots Q (F0 m (pc + 3) ls (.int (nI mins) :: rest))) : W p l e R s m args below meth c H locs cells slots Q (F0 m pc ls (.ref (q 5) :: rest)) := by
  have h := hC.kpr
  rcases kp with _ | _ | kp
  · exact mw_get S inlX5 hK hG h rfl 4 (by decide) in_82 (fun _ h9 => h9) rfl hdg kk
  · exact mw_get S inlX1 hK hG h rfl 4 (by decide) in_82 (fun _ h9 => h9) rfl hdg kk
  · exact mw_get S inlX0 hK hG h rfl 4 (by decide) in_82 (fun _ h9 => h9) rfl hdg kk
theorem cg_RX2_41 (S : CallFix p m c cc nL s args wsL RX2) (hK : va_K (dC, dI) vwCl (tyL cI cZ cT) s) (hG : mG (dC, dI) vwCl A H0 w H locs) (hC : CW cI cT q kp Wn made fl num rfs root own tad trm tpl wlk ord met msz cur mend pnx pen st coll mins movd w) (hdg : decode cc pc = .ok (.getfield 41, 3)) (kk : W p l e R s m args below meth c H locs cells slots Q (F0 m (pc + 3) ls (.int (nI movd) :: rest))) : W p l e R s m args below meth c H locs cells slots Q (F0 m pc ls (.ref (q 5) :: rest)) := by
  have h := hC.kpr
  rcases kp with _ | _ | kp
  · exact mw_get S inlX5 hK hG h rfl 5 (by decide) in_83 (fun _ h9 => h9) rfl hdg kk
  · exact mw_get S inlX1 hK hG h rfl 5 (by decide) in_83 (fun _ h9 => h9) rfl hdg kk
  · exact mw_get S inlX0 hK hG h rfl 5 (by decide) in_83 (fun _ h9 => h9) rfl hdg kk
theorem cg_RX7_17 (S : CallFix p m c cc nL s args wsL RX7) (hK : va_K (dC, dI) vwCl (tyL cI cZ cT) s) (hG : mG (dC, dI) vwCl A H0 w H locs) (hC : CW cI cT q kp Wn made fl num rfs root own tad trm tpl wlk ord met msz cur mend pnx pen st coll mins movd w) (hdg : decode cc pc = .ok (.getfield 17, 3)) (kk : W p l e R s m args below meth c H locs cells slots Q (F0 m (pc + 3) ls (.ref (q 7) :: rest))) : W p l e R s m args below meth c H locs cells slots Q (F0 m pc ls (.ref (q 6) :: rest)) :=
  mw_get S inlX7 hK hG hC.obj7 rfl 0 (by decide) in_94 (fun _ h9 => h9) rfl hdg kk
theorem cg_RX7_23 (S : CallFix p m c cc nL s args wsL RX7) (hK : va_K (dC, dI) vwCl (tyL cI cZ cT) s) (hG : mG (dC, dI) vwCl A H0 w H locs) (hC : CW cI cT q kp Wn made fl num rfs root own tad trm tpl wlk ord met msz cur mend pnx pen st coll mins movd w) (hdg : decode cc pc = .ok (.getfield 23, 3)) (kk : W p l e R s m args below meth c H locs cells slots Q (F0 m (pc + 3) ls (.int (nI msz) :: rest))) : W p l e R s m args below meth c H locs cells slots Q (F0 m pc ls (.ref (q 6) :: rest)) :=
  mw_get S inlX7 hK hG hC.obj7 rfl 1 (by decide) in_95 (fun _ h9 => h9) rfl hdg kk
theorem cp_RX7_23 (S : CallFix p m c cc nL s args wsL RX7) (hK : va_K (dC, dI) vwCl (tyL cI cZ cT) s) (hG : mG (dC, dI) vwCl A H0 w H locs) (hC : CW cI cT q kp Wn made fl num rfs root own tad trm tpl wlk ord met msz cur mend pnx pen st coll mins movd w) (x : Nat) (hdg : decode cc pc = .ok (.putfield 23, 3)) (kk : ∀ (w : mM) (H1 : Heap) (locs1 : List Loc), CW cI cT q kp Wn made fl num rfs root own tad trm tpl wlk ord met x cur mend pnx pen st coll mins movd w → mG (dC, dI) vwCl A H0 w H1 locs1 → W p l e R s m args below meth c H1 locs1 cells slots Q (F0 m (pc + 3) ls rest)) : W p l e R s m args below meth c H locs cells slots Q (F0 m pc ls (.int (nI x) :: .ref (q 6) :: rest)) :=
  mw_put S inlX7 tyX7 tyX7_ok nmX7 hK hG hC.obj7 rfl 1 (by decide) in_95 (fun _ h9 => h9) rfl (ty := .int) (by decide +kernel) rfl rfl (Nat.le_of_ble_eq_true rfl) hdg (fun H1 locs1 hG1 => kk _ H1 locs1 (IP.upd (cell2 := cellC cI cT q kp Wn made fl num rfs root own tad trm tpl wlk ord met x cur mend pnx pen st coll mins movd) hC 6 (Or.inl (by decide)) (fun i hi hn => by rcases i with _|_|_|_|_|_|_|_|_|i <;> first | rfl | exact absurd rfl hn)) hG1)
theorem cg_RX7_27 (S : CallFix p m c cc nL s args wsL RX7) (hK : va_K (dC, dI) vwCl (tyL cI cZ cT) s) (hG : mG (dC, dI) vwCl A H0 w H locs) (hC : CW cI cT q kp Wn made fl num rfs root own tad trm tpl wlk ord met msz cur mend pnx pen st coll mins movd w) (hdg : decode cc pc = .ok (.getfield 27, 3)) (kk : W p l e R s m args below meth c H locs cells slots Q (F0 m (pc + 3) ls (.int (nI cur) :: rest))) : W p l e R s m args below meth c H locs cells slots Q (F0 m pc ls (.ref (q 6) :: rest)) :=
  mw_get S inlX7 hK hG hC.obj7 rfl 2 (by decide) in_96 (fun _ h9 => h9) rfl hdg kk
theorem cp_RX7_27 (S : CallFix p m c cc nL s args wsL RX7) (hK : va_K (dC, dI) vwCl (tyL cI cZ cT) s) (hG : mG (dC, dI) vwCl A H0 w H locs) (hC : CW cI cT q kp Wn made fl num rfs root own tad trm tpl wlk ord met msz cur mend pnx pen st coll mins movd w) (x : Nat) (hdg : decode cc pc = .ok (.putfield 27, 3)) (kk : ∀ (w : mM) (H1 : Heap) (locs1 : List Loc), CW cI cT q kp Wn made fl num rfs root own tad trm tpl wlk ord met msz x mend pnx pen st coll mins movd w → mG (dC, dI) vwCl A H0 w H1 locs1 → W p l e R s m args below meth c H1 locs1 cells slots Q (F0 m (pc + 3) ls rest)) : W p l e R s m args below meth c H locs cells slots Q (F0 m pc ls (.int (nI x) :: .ref (q 6) :: rest)) :=
  mw_put S inlX7 tyX7 tyX7_ok nmX7 hK hG hC.obj7 rfl 2 (by decide) in_96 (fun _ h9 => h9) rfl (ty := .int) (by decide +kernel) rfl rfl (Nat.le_of_ble_eq_true rfl) hdg (fun H1 locs1 hG1 => kk _ H1 locs1 (IP.upd (cell2 := cellC cI cT q kp Wn made fl num rfs root own tad trm tpl wlk ord met msz x mend pnx pen st coll mins movd) hC 6 (Or.inl (by decide)) (fun i hi hn => by rcases i with _|_|_|_|_|_|_|_|_|i <;> first | rfl | exact absurd rfl hn)) hG1)
theorem cg_RX7_30 (S : CallFix p m c cc nL s args wsL RX7) (hK : va_K (dC, dI) vwCl (tyL cI cZ cT) s) (hG : mG (dC, dI) vwCl A H0 w H locs) (hC : CW cI cT q kp Wn made fl num rfs root own tad trm tpl wlk ord met msz cur mend pnx pen st coll mins movd w) (hdg : decode cc pc = .ok (.getfield 30, 3)) (kk : W p l e R s m args below meth c H locs cells slots Q (F0 m (pc + 3) ls (.int (nI mend) :: rest))) : W p l e R s m args below meth c H locs cells slots Q (F0 m pc ls (.ref (q 6) :: rest)) :=
  mw_get S inlX7 hK hG hC.obj7 rfl 3 (by decide) in_97 (fun _ h9 => h9) rfl hdg kk
theorem cp_RX7_30 (S : CallFix p m c cc nL s args wsL RX7) (hK : va_K (dC, dI) vwCl (tyL cI cZ cT) s) (hG : mG (dC, dI) vwCl A H0 w H locs) (hC : CW cI cT q kp Wn made fl num rfs root own tad trm tpl wlk ord met msz cur mend pnx pen st coll mins movd w) (x : Nat) (hdg : decode cc pc = .ok (.putfield 30, 3)) (kk : ∀ (w : mM) (H1 : Heap) (locs1 : List Loc), CW cI cT q kp Wn made fl num rfs root own tad trm tpl wlk ord met msz cur x pnx pen st coll mins movd w → mG (dC, dI) vwCl A H0 w H1 locs1 → W p l e R s m args below meth c H1 locs1 cells slots Q (F0 m (pc + 3) ls rest)) : W p l e R s m args below meth c H locs cells slots Q (F0 m pc ls (.int (nI x) :: .ref (q 6) :: rest)) :=
  mw_put S inlX7 tyX7 tyX7_ok nmX7 hK hG hC.obj7 rfl 3 (by decide) in_97 (fun _ h9 => h9) rfl (ty := .int) (by decide +kernel) rfl rfl (Nat.le_of_ble_eq_true rfl) hdg (fun H1 locs1 hG1 => kk _ H1 locs1 (IP.upd (cell2 := cellC cI cT q kp Wn made fl num rfs root own tad trm tpl wlk ord met msz cur x pnx pen st coll mins movd) hC 6 (Or.inl (by decide)) (fun i hi hn => by rcases i with _|_|_|_|_|_|_|_|_|i <;> first | rfl | exact absurd rfl hn)) hG1)
theorem cg_RX3_9 (S : CallFix p m c cc nL s args wsL RX3) (hK : va_K (dC, dI) vwCl (tyL cI cZ cT) s) (hG : mG (dC, dI) vwCl A H0 w H locs) (hC : CW cI cT q kp Wn made fl num rfs root own tad trm tpl wlk ord met msz cur mend pnx pen st coll mins movd w) (hk : kp ≠ 0) (hdg : decode cc pc = .ok (.getfield 9, 3)) (kk : W p l e R s m args below meth c H locs cells slots Q (F0 m (pc + 3) ls (.int (nI pnx) :: rest))) : W p l e R s m args below meth c H locs cells slots Q (F0 m pc ls (.ref (q 8) :: rest)) :=
  mw_get S inlX3 hK hG (hC.obj3 hk) rfl 0 (by decide) in_103 (fun _ h9 => h9) rfl hdg kk
theorem cp_RX3_9 (S : CallFix p m c cc nL s args wsL RX3) (hK : va_K (dC, dI) vwCl (tyL cI cZ cT) s) (hG : mG (dC, dI) vwCl A H0 w H locs) (hC : CW cI cT q kp Wn made fl num rfs root own tad trm tpl wlk ord met msz cur mend pnx pen st coll mins movd w) (hk : kp ≠ 0) (x : Nat) (hdg : decode cc pc = .ok (.putfield 9, 3)) (kk : ∀ (w : mM) (H1 : Heap) (locs1 : List Loc), CW cI cT q kp Wn made fl num rfs root own tad trm tpl wlk ord met msz cur mend x pen st coll mins movd w → mG (dC, dI) vwCl A H0 w H1 locs1 → W p l e R s m args below meth c H1 locs1 cells slots Q (F0 m (pc + 3) ls rest)) : W p l e R s m args below meth c H locs cells slots Q (F0 m pc ls (.int (nI x) :: .ref (q 8) :: rest)) :=
  mw_put S inlX3 tyX3 tyX3_ok nmX3 hK hG (hC.obj3 hk) rfl 0 (by decide) in_103 (fun _ h9 => h9) rfl (ty := .int) (by decide +kernel) rfl rfl (Nat.le_of_ble_eq_true rfl) hdg (fun H1 locs1 hG1 => kk _ H1 locs1 (IP.upd (cell2 := cellC cI cT q kp Wn made fl num rfs root own tad trm tpl wlk ord met msz cur mend x pen st coll mins movd) hC 8 (Or.inr (Or.inl ⟨rfl, hk⟩)) (fun i hi hn => by rcases i with _|_|_|_|_|_|_|_|_|i <;> first | rfl | exact absurd rfl hn)) hG1)
theorem cg_RX3_15 (S : CallFix p m c cc nL s args wsL RX3) (hK : va_K (dC, dI) vwCl (tyL cI cZ cT) s) (hG : mG (dC, dI) vwCl A H0 w H locs) (hC : CW cI cT q kp Wn made fl num rfs root own tad trm tpl wlk ord met msz cur mend pnx pen st coll mins movd w) (hk : kp ≠ 0) (hdg : decode cc pc = .ok (.getfield 15, 3)) (kk : W p l e R s m args below meth c H locs cells slots Q (F0 m (pc + 3) ls (.int (nI pen) :: rest))) : W p l e R s m args below meth c H locs cells slots Q (F0 m pc ls (.ref (q 8) :: rest)) :=
  mw_get S inlX3 hK hG (hC.obj3 hk) rfl 1 (by decide) in_104 (fun _ h9 => h9) rfl hdg kk
theorem cp_RX3_15 (S : CallFix p m c cc nL s args wsL RX3) (hK : va_K (dC, dI) vwCl (tyL cI cZ cT) s) (hG : mG (dC, dI) vwCl A H0 w H locs) (hC : CW cI cT q kp Wn made fl num rfs root own tad trm tpl wlk ord met msz cur mend pnx pen st coll mins movd w) (hk : kp ≠ 0) (x : Nat) (hdg : decode cc pc = .ok (.putfield 15, 3)) (kk : ∀ (w : mM) (H1 : Heap) (locs1 : List Loc), CW cI cT q kp Wn made fl num rfs root own tad trm tpl wlk ord met msz cur mend pnx x st coll mins movd w → mG (dC, dI) vwCl A H0 w H1 locs1 → W p l e R s m args below meth c H1 locs1 cells slots Q (F0 m (pc + 3) ls rest)) : W p l e R s m args below meth c H locs cells slots Q (F0 m pc ls (.int (nI x) :: .ref (q 8) :: rest)) :=
  mw_put S inlX3 tyX3 tyX3_ok nmX3 hK hG (hC.obj3 hk) rfl 1 (by decide) in_104 (fun _ h9 => h9) rfl (ty := .int) (by decide +kernel) rfl rfl (Nat.le_of_ble_eq_true rfl) hdg (fun H1 locs1 hG1 => kk _ H1 locs1 (IP.upd (cell2 := cellC cI cT q kp Wn made fl num rfs root own tad trm tpl wlk ord met msz cur mend pnx x st coll mins movd) hC 8 (Or.inr (Or.inl ⟨rfl, hk⟩)) (fun i hi hn => by rcases i with _|_|_|_|_|_|_|_|_|i <;> first | rfl | exact absurd rfl hn)) hG1)
theorem cg_RX0_15 (S : CallFix p m c cc nL s args wsL RX0) (hK : va_K (dC, dI) vwCl (tyL cI cZ cT) s) (hG : mG (dC, dI) vwCl A H0 w H locs) (hC : CW cI cT q kp Wn made fl num rfs root own tad trm tpl wlk ord met msz cur mend pnx pen st coll mins movd w) (hk : kp = 2) (hdg : decode cc pc = .ok (.getfield 15, 3)) (kk : W p l e R s m args below meth c H locs cells slots Q (F0 m (pc + 3) ls (.int (nI (Wn / 4)) :: rest))) : W p l e R s m args below meth c H locs cells slots Q (F0 m pc ls (.ref (q 5) :: rest)) :=
  mw_get S inlX0 hK hG (hC.obj0 hk) rfl 6 (by decide) in_108 (fun _ h9 => h9) rfl hdg kk
theorem cg_RX0_26 (S : CallFix p m c cc nL s args wsL RX0) (hK : va_K (dC, dI) vwCl (tyL cI cZ cT) s) (hG : mG (dC, dI) vwCl A H0 w H locs) (hC : CW cI cT q kp Wn made fl num rfs root own tad trm tpl wlk ord met msz cur mend pnx pen st coll mins movd w) (hk : kp = 2) (hdg : decode cc pc = .ok (.getfield 26, 3)) (kk : W p l e R s m args below meth c H locs cells slots Q (F0 m (pc + 3) ls (.ref (q 8) :: rest))) : W p l e R s m args below meth c H locs cells slots Q (F0 m pc ls (.ref (q 5) :: rest)) :=
  mw_get S inlX0 hK hG (hC.obj0 hk) rfl 7 (by decide) in_110 (fun _ h9 => h9) rfl hdg kk
theorem cg_RX9_66 (S : CallFix p m c cc nL s args wsL RX9) (hK : va_K (dC, dI) vwCl (tyL cI cZ cT) s) (hG : mG (dC, dI) vwCl A H0 w H locs) (hC : CW cI cT q kp Wn made fl num rfs root own tad trm tpl wlk ord met msz cur mend pnx pen st coll mins movd w) (k : Nat) (hk : k < made) (hdg : decode cc pc = .ok (.getfield 66, 3)) (kk : W p l e R s m args below meth c H locs cells slots Q (F0 m (pc + 3) ls (.int (nI k) :: rest))) : W p l e R s m args below meth c H locs cells slots Q (F0 m pc ls (.ref (tq q k) :: rest)) :=
  mw_get S inlX6 hK hG (hC.th hk) rfl 0 (by decide) in_143 (fun _ h9 => h9) rfl hdg kk
theorem cg_RX5_7 (S : CallFix p m c cc nL s args wsL RX5) (hK : va_K (dC, dI) vwCl (tyL cI cZ cT) s) (hG : mG (dC, dI) vwCl A H0 w H locs) (hC : CW cI cT q kp Wn made fl num rfs root own tad trm tpl wlk ord met msz cur mend pnx pen st coll mins movd w) (hk : kp = 0) (hdg : decode cc pc = .ok (.getfield 7, 3)) (kk : W p l e R s m args below meth c H locs cells slots Q (F0 m (pc + 3) ls (.ref (q 1) :: rest))) : W p l e R s m args below meth c H locs cells slots Q (F0 m pc ls (.ref (q 5) :: rest)) :=
  mw_get S inlX5 hK hG (hC.obj5 hk) rfl 0 (by decide) in_164 (u_same (S.2.2.2.2 _ in_165)) rfl hdg kk
theorem cg_RX0_55 (S : CallFix p m c cc nL s args wsL RX0) (hK : va_K (dC, dI) vwCl (tyL cI cZ cT) s) (hG : mG (dC, dI) vwCl A H0 w H locs) (hC : CW cI cT q kp Wn made fl num rfs root own tad trm tpl wlk ord met msz cur mend pnx pen st coll mins movd w) (hk : kp = 2) (hdg : decode cc pc = .ok (.getfield 55, 3)) (kk : W p l e R s m args below meth c H locs cells slots Q (F0 m (pc + 3) ls (.ref (q 6) :: rest))) : W p l e R s m args below meth c H locs cells slots Q (F0 m pc ls (.ref (q 5) :: rest)) :=
  mw_get S inlX0 hK hG (hC.obj0 hk) rfl 2 (by decide) in_179 (u_same (S.2.2.2.2 _ in_180)) rfl hdg kk
theorem cg_RX0_65 (S : CallFix p m c cc nL s args wsL RX0) (hK : va_K (dC, dI) vwCl (tyL cI cZ cT) s) (hG : mG (dC, dI) vwCl A H0 w H locs) (hC : CW cI cT q kp Wn made fl num rfs root own tad trm tpl wlk ord met msz cur mend pnx pen st coll mins movd w) (hk : kp = 2) (hdg : decode cc pc = .ok (.getfield 65, 3)) (kk : W p l e R s m args below meth c H locs cells slots Q (F0 m (pc + 3) ls (.ref (q 3) :: rest))) : W p l e R s m args below meth c H locs cells slots Q (F0 m pc ls (.ref (q 5) :: rest)) :=
  mw_get S inlX0 hK hG (hC.obj0 hk) rfl 1 (by decide) in_181 (u_same (S.2.2.2.2 _ in_182)) rfl hdg kk
theorem cg_RX0_88 (S : CallFix p m c cc nL s args wsL RX0) (hK : va_K (dC, dI) vwCl (tyL cI cZ cT) s) (hG : mG (dC, dI) vwCl A H0 w H locs) (hC : CW cI cT q kp Wn made fl num rfs root own tad trm tpl wlk ord met msz cur mend pnx pen st coll mins movd w) (hk : kp = 2) (hdg : decode cc pc = .ok (.getfield 88, 3)) (kk : W p l e R s m args below meth c H locs cells slots Q (F0 m (pc + 3) ls (.ref (q 1) :: rest))) : W p l e R s m args below meth c H locs cells slots Q (F0 m pc ls (.ref (q 5) :: rest)) :=
  mw_get S inlX0 hK hG (hC.obj0 hk) rfl 0 (by decide) in_183 (u_same (S.2.2.2.2 _ in_184)) rfl hdg kk
theorem cg_RX0_108 (S : CallFix p m c cc nL s args wsL RX0) (hK : va_K (dC, dI) vwCl (tyL cI cZ cT) s) (hG : mG (dC, dI) vwCl A H0 w H locs) (hC : CW cI cT q kp Wn made fl num rfs root own tad trm tpl wlk ord met msz cur mend pnx pen st coll mins movd w) (hk : kp = 2) (hdg : decode cc pc = .ok (.getfield 108, 3)) (kk : W p l e R s m args below meth c H locs cells slots Q (F0 m (pc + 3) ls (.int (nI mins) :: rest))) : W p l e R s m args below meth c H locs cells slots Q (F0 m pc ls (.ref (q 5) :: rest)) :=
  mw_get S inlX0 hK hG (hC.obj0 hk) rfl 4 (by decide) in_185 (u_same (S.2.2.2.2 _ in_186)) rfl hdg kk
theorem cp_RX0_108 (S : CallFix p m c cc nL s args wsL RX0) (hK : va_K (dC, dI) vwCl (tyL cI cZ cT) s) (hG : mG (dC, dI) vwCl A H0 w H locs) (hC : CW cI cT q kp Wn made fl num rfs root own tad trm tpl wlk ord met msz cur mend pnx pen st coll mins movd w) (hk : kp = 2) (x : Nat) (hdg : decode cc pc = .ok (.putfield 108, 3)) (kk : ∀ (w : mM) (H1 : Heap) (locs1 : List Loc), CW cI cT q kp Wn made fl num rfs root own tad trm tpl wlk ord met msz cur mend pnx pen st coll x movd w → mG (dC, dI) vwCl A H0 w H1 locs1 → W p l e R s m args below meth c H1 locs1 cells slots Q (F0 m (pc + 3) ls rest)) : W p l e R s m args below meth c H locs cells slots Q (F0 m pc ls (.int (nI x) :: .ref (q 5) :: rest)) := by
  subst hk
  exact mw_put S inlX0 tyX0 tyX0_ok nmX0 hK hG hC.kpr rfl 4 (by decide) in_185 (u_same (S.2.2.2.2 _ in_186)) rfl (ty := .int) (by decide +kernel) rfl rfl (Nat.le_of_ble_eq_true rfl) hdg (fun H1 locs1 hG1 => kk _ H1 locs1 (IP.upd (cell2 := cellC cI cT q 2 Wn made fl num rfs root own tad trm tpl wlk ord met msz cur mend pnx pen st coll x movd) hC 5 (Or.inl (by decide)) (fun i hi hn => by rcases i with _|_|_|_|_|_|_|_|_|i <;> first | rfl | exact absurd rfl hn)) hG1)
theorem cg_RX7_33 (S : CallFix p m c cc nL s args wsL RX7) (hK : va_K (dC, dI) vwCl (tyL cI cZ cT) s) (hG : mG (dC, dI) vwCl A H0 w H locs) (hC : CW cI cT q kp Wn made fl num rfs root own tad trm tpl wlk ord met msz cur mend pnx pen st coll mins movd w) (k : Nat) (hk : k < made) (hdg : decode cc pc = .ok (.getfield 33, 3)) (kk : W p l e R s m args below meth c H locs cells slots Q (F0 m (pc + 3) ls (.int (nI (tad k)) :: rest))) : W p l e R s m args below meth c H locs cells slots Q (F0 m pc ls (.ref (tq q k) :: rest)) :=
  mw_get S inlX6 hK hG (hC.th hk) rfl 3 (by decide) in_204 (fun _ h9 => h9) rfl hdg kk
theorem cp_RX7_33 (S : CallFix p m c cc nL s args wsL RX7) (hK : va_K (dC, dI) vwCl (tyL cI cZ cT) s) (hG : mG (dC, dI) vwCl A H0 w H locs) (hC : CW cI cT q kp Wn made fl num rfs root own tad trm tpl wlk ord met msz cur mend pnx pen st coll mins movd w) (k : Nat) (hk : k < made) (x : Nat) (hdg : decode cc pc = .ok (.putfield 33, 3)) (kk : ∀ (w : mM) (H1 : Heap) (locs1 : List Loc), CW cI cT q kp Wn made fl num rfs root own (va_up tad k x) trm tpl wlk ord met msz cur mend pnx pen st coll mins movd w → mG (dC, dI) vwCl A H0 w H1 locs1 → W p l e R s m args below meth c H1 locs1 cells slots Q (F0 m (pc + 3) ls rest)) : W p l e R s m args below meth c H locs cells slots Q (F0 m pc ls (.int (nI x) :: .ref (tq q k) :: rest)) := by
  have h2 : cellC cI cT q kp Wn made fl num rfs root own (va_up tad k x) trm tpl wlk ord met msz cur mend pnx pen st coll mins movd (3 * k + 9) = .inr (5, [.int (nI k), .ref (q (3 * k + 10)), .ref (q (3 * k + 11)), .int (nI x), .int (bI (trm k)), .int (nI (tpl k)), .int (nI (wlk k)), .int (nI (ord k))]) := by
    have h1 : cellC cI cT q kp Wn made fl num rfs root own (va_up tad k x) trm tpl wlk ord met msz cur mend pnx pen st coll mins movd (3 * k + 9) = thC cI cT q fl num rfs (va_up tad k x) trm tpl wlk ord (3 * k % 3) (3 * k / 3) := rfl
    rw [h1, show 3 * k % 3 = 0 by omega, show 3 * k / 3 = k by omega]
    simp only [thC, va_up, if_true]
  refine mw_put S inlX6 tyX6 tyX6_ok nmX6 hK hG (hC.th hk) rfl 3 (by decide) in_204 (fun _ h9 => h9) rfl (ty := .int) (by decide +kernel) rfl rfl (Nat.le_of_ble_eq_true rfl) hdg (fun H1 locs1 hG1 => kk _ H1 locs1 (IP.upd (cell2 := cellC cI cT q kp Wn made fl num rfs root own (va_up tad k x) trm tpl wlk ord met msz cur mend pnx pen st coll mins movd) hC (3 * k + 9) (domC_t (r := 0) hk (by decide)) (fun i hi hn => ?_)) ?_)
  · rcases i with _|_|_|_|_|_|_|_|_|i <;> first | rfl | skip
    show thC cI cT q fl num rfs (va_up tad k x) trm tpl wlk ord (i % 3) (i / 3) = thC cI cT q fl num rfs tad trm tpl wlk ord (i % 3) (i / 3)
    rcases (show i % 3 = 0 ∨ i % 3 = 1 ∨ i % 3 = 2 by omega) with h | h | h
    · rw [h]
      have hne : i / 3 ≠ k := fun z => hn (by omega)
      simp only [thC, va_up, if_neg hne]
    · rw [h]; rfl
    · rw [h]; rfl
  · rw [h2]; exact hG1
theorem cg_RX7_36 (S : CallFix p m c cc nL s args wsL RX7) (hK : va_K (dC, dI) vwCl (tyL cI cZ cT) s) (hG : mG (dC, dI) vwCl A H0 w H locs) (hC : CW cI cT q kp Wn made fl num rfs root own tad trm tpl wlk ord met msz cur mend pnx pen st coll mins movd w) (k : Nat) (hk : k < made) (hdg : decode cc pc = .ok (.getfield 36, 3)) (kk : W p l e R s m args below meth c H locs cells slots Q (F0 m (pc + 3) ls (.int (nI (wlk k)) :: rest))) : W p l e R s m args below meth c H locs cells slots Q (F0 m pc ls (.ref (tq q k) :: rest)) :=
  mw_get S inlX6 hK hG (hC.th hk) rfl 6 (by decide) in_205 (fun _ h9 => h9) rfl hdg kk
theorem cp_RX7_36 (S : CallFix p m c cc nL s args wsL RX7) (hK : va_K (dC, dI) vwCl (tyL cI cZ cT) s) (hG : mG (dC, dI) vwCl A H0 w H locs) (hC : CW cI cT q kp Wn made fl num rfs root own tad trm tpl wlk ord met msz cur mend pnx pen st coll mins movd w) (k : Nat) (hk : k < made) (x : Nat) (hdg : decode cc pc = .ok (.putfield 36, 3)) (kk : ∀ (w : mM) (H1 : Heap) (locs1 : List Loc), CW cI cT q kp Wn made fl num rfs root own tad trm tpl (va_up wlk k x) ord met msz cur mend pnx pen st coll mins movd w → mG (dC, dI) vwCl A H0 w H1 locs1 → W p l e R s m args below meth c H1 locs1 cells slots Q (F0 m (pc + 3) ls rest)) : W p l e R s m args below meth c H locs cells slots Q (F0 m pc ls (.int (nI x) :: .ref (tq q k) :: rest)) := by
  have h2 : cellC cI cT q kp Wn made fl num rfs root own tad trm tpl (va_up wlk k x) ord met msz cur mend pnx pen st coll mins movd (3 * k + 9) = .inr (5, [.int (nI k), .ref (q (3 * k + 10)), .ref (q (3 * k + 11)), .int (nI (tad k)), .int (bI (trm k)), .int (nI (tpl k)), .int (nI x), .int (nI (ord k))]) := by
    have h1 : cellC cI cT q kp Wn made fl num rfs root own tad trm tpl (va_up wlk k x) ord met msz cur mend pnx pen st coll mins movd (3 * k + 9) = thC cI cT q fl num rfs tad trm tpl (va_up wlk k x) ord (3 * k % 3) (3 * k / 3) := rfl
    rw [h1, show 3 * k % 3 = 0 by omega, show 3 * k / 3 = k by omega]
    simp only [thC, va_up, if_true]
  refine mw_put S inlX6 tyX6 tyX6_ok nmX6 hK hG (hC.th hk) rfl 6 (by decide) in_205 (fun _ h9 => h9) rfl (ty := .int) (by decide +kernel) rfl rfl (Nat.le_of_ble_eq_true rfl) hdg (fun H1 locs1 hG1 => kk _ H1 locs1 (IP.upd (cell2 := cellC cI cT q kp Wn made fl num rfs root own tad trm tpl (va_up wlk k x) ord met msz cur mend pnx pen st coll mins movd) hC (3 * k + 9) (domC_t (r := 0) hk (by decide)) (fun i hi hn => ?_)) ?_)
  · rcases i with _|_|_|_|_|_|_|_|_|i <;> first | rfl | skip
    show thC cI cT q fl num rfs tad trm tpl (va_up wlk k x) ord (i % 3) (i / 3) = thC cI cT q fl num rfs tad trm tpl wlk ord (i % 3) (i / 3)
    rcases (show i % 3 = 0 ∨ i % 3 = 1 ∨ i % 3 = 2 by omega) with h | h | h
    · rw [h]
      have hne : i / 3 ≠ k := fun z => hn (by omega)
      simp only [thC, va_up, if_neg hne]
    · rw [h]; rfl
    · rw [h]; rfl
  · rw [h2]; exact hG1
theorem cg_RX7_39 (S : CallFix p m c cc nL s args wsL RX7) (hK : va_K (dC, dI) vwCl (tyL cI cZ cT) s) (hG : mG (dC, dI) vwCl A H0 w H locs) (hC : CW cI cT q kp Wn made fl num rfs root own tad trm tpl wlk ord met msz cur mend pnx pen st coll mins movd w) (k : Nat) (hk : k < made) (hdg : decode cc pc = .ok (.getfield 39, 3)) (kk : W p l e R s m args below meth c H locs cells slots Q (F0 m (pc + 3) ls (.int (nI (ord k)) :: rest))) : W p l e R s m args below meth c H locs cells slots Q (F0 m pc ls (.ref (tq q k) :: rest)) :=
  mw_get S inlX6 hK hG (hC.th hk) rfl 7 (by decide) in_206 (fun _ h9 => h9) rfl hdg kk
theorem cp_RX7_39 (S : CallFix p m c cc nL s args wsL RX7) (hK : va_K (dC, dI) vwCl (tyL cI cZ cT) s) (hG : mG (dC, dI) vwCl A H0 w H locs) (hC : CW cI cT q kp Wn made fl num rfs root own tad trm tpl wlk ord met msz cur mend pnx pen st coll mins movd w) (k : Nat) (hk : k < made) (x : Nat) (hdg : decode cc pc = .ok (.putfield 39, 3)) (kk : ∀ (w : mM) (H1 : Heap) (locs1 : List Loc), CW cI cT q kp Wn made fl num rfs root own tad trm tpl wlk (va_up ord k x) met msz cur mend pnx pen st coll mins movd w → mG (dC, dI) vwCl A H0 w H1 locs1 → W p l e R s m args below meth c H1 locs1 cells slots Q (F0 m (pc + 3) ls rest)) : W p l e R s m args below meth c H locs cells slots Q (F0 m pc ls (.int (nI x) :: .ref (tq q k) :: rest)) := by
  have h2 : cellC cI cT q kp Wn made fl num rfs root own tad trm tpl wlk (va_up ord k x) met msz cur mend pnx pen st coll mins movd (3 * k + 9) = .inr (5, [.int (nI k), .ref (q (3 * k + 10)), .ref (q (3 * k + 11)), .int (nI (tad k)), .int (bI (trm k)), .int (nI (tpl k)), .int (nI (wlk k)), .int (nI x)]) := by
    have h1 : cellC cI cT q kp Wn made fl num rfs root own tad trm tpl wlk (va_up ord k x) met msz cur mend pnx pen st coll mins movd (3 * k + 9) = thC cI cT q fl num rfs tad trm tpl wlk (va_up ord k x) (3 * k % 3) (3 * k / 3) := rfl
    rw [h1, show 3 * k % 3 = 0 by omega, show 3 * k / 3 = k by omega]
    simp only [thC, va_up, if_true]
  refine mw_put S inlX6 tyX6 tyX6_ok nmX6 hK hG (hC.th hk) rfl 7 (by decide) in_206 (fun _ h9 => h9) rfl (ty := .int) (by decide +kernel) rfl rfl (Nat.le_of_ble_eq_true rfl) hdg (fun H1 locs1 hG1 => kk _ H1 locs1 (IP.upd (cell2 := cellC cI cT q kp Wn made fl num rfs root own tad trm tpl wlk (va_up ord k x) met msz cur mend pnx pen st coll mins movd) hC (3 * k + 9) (domC_t (r := 0) hk (by decide)) (fun i hi hn => ?_)) ?_)
  · rcases i with _|_|_|_|_|_|_|_|_|i <;> first | rfl | skip
    show thC cI cT q fl num rfs tad trm tpl wlk (va_up ord k x) (i % 3) (i / 3) = thC cI cT q fl num rfs tad trm tpl wlk ord (i % 3) (i / 3)
    rcases (show i % 3 = 0 ∨ i % 3 = 1 ∨ i % 3 = 2 by omega) with h | h | h
    · rw [h]
      have hne : i / 3 ≠ k := fun z => hn (by omega)
      simp only [thC, va_up, if_neg hne]
    · rw [h]; rfl
    · rw [h]; rfl
  · rw [h2]; exact hG1
theorem cg_RX0_115 (S : CallFix p m c cc nL s args wsL RX0) (hK : va_K (dC, dI) vwCl (tyL cI cZ cT) s) (hG : mG (dC, dI) vwCl A H0 w H locs) (hC : CW cI cT q kp Wn made fl num rfs root own tad trm tpl wlk ord met msz cur mend pnx pen st coll mins movd w) (k : Nat) (hk : k < made) (hdg : decode cc pc = .ok (.getfield 115, 3)) (kk : W p l e R s m args below meth c H locs cells slots Q (F0 m (pc + 3) ls (.int (bI (trm k)) :: rest))) : W p l e R s m args below meth c H locs cells slots Q (F0 m pc ls (.ref (tq q k) :: rest)) :=
  mw_get S inlX6 hK hG (hC.th hk) rfl 4 (by decide) in_211 (fun _ h9 => h9) rfl hdg kk
theorem cp_RX0_115 (S : CallFix p m c cc nL s args wsL RX0) (hK : va_K (dC, dI) vwCl (tyL cI cZ cT) s) (hG : mG (dC, dI) vwCl A H0 w H locs) (hC : CW cI cT q kp Wn made fl num rfs root own tad trm tpl wlk ord met msz cur mend pnx pen st coll mins movd w) (k : Nat) (hk : k < made) (x : Bool) (hdg : decode cc pc = .ok (.putfield 115, 3)) (kk : ∀ (w : mM) (H1 : Heap) (locs1 : List Loc), CW cI cT q kp Wn made fl num rfs root own tad (va_up trm k x) tpl wlk ord met msz cur mend pnx pen st coll mins movd w → mG (dC, dI) vwCl A H0 w H1 locs1 → W p l e R s m args below meth c H1 locs1 cells slots Q (F0 m (pc + 3) ls rest)) : W p l e R s m args below meth c H locs cells slots Q (F0 m pc ls (.int (bI x) :: .ref (tq q k) :: rest)) := by
  have h2 : cellC cI cT q kp Wn made fl num rfs root own tad (va_up trm k x) tpl wlk ord met msz cur mend pnx pen st coll mins movd (3 * k + 9) = .inr (5, [.int (nI k), .ref (q (3 * k + 10)), .ref (q (3 * k + 11)), .int (nI (tad k)), .int (bI x), .int (nI (tpl k)), .int (nI (wlk k)), .int (nI (ord k))]) := by
    have h1 : cellC cI cT q kp Wn made fl num rfs root own tad (va_up trm k x) tpl wlk ord met msz cur mend pnx pen st coll mins movd (3 * k + 9) = thC cI cT q fl num rfs tad (va_up trm k x) tpl wlk ord (3 * k % 3) (3 * k / 3) := rfl
    rw [h1, show 3 * k % 3 = 0 by omega, show 3 * k / 3 = k by omega]
    simp only [thC, va_up, if_true]
  refine mw_put S inlX6 tyX6 tyX6_ok nmX6 hK hG (hC.th hk) rfl 4 (by decide) in_211 (fun _ h9 => h9) rfl (ty := .boolean) (by decide +kernel) (bI_nar x) (bI_fit x) (Nat.le_of_ble_eq_true rfl) hdg (fun H1 locs1 hG1 => kk _ H1 locs1 (IP.upd (cell2 := cellC cI cT q kp Wn made fl num rfs root own tad (va_up trm k x) tpl wlk ord met msz cur mend pnx pen st coll mins movd) hC (3 * k + 9) (domC_t (r := 0) hk (by decide)) (fun i hi hn => ?_)) ?_)
  · rcases i with _|_|_|_|_|_|_|_|_|i <;> first | rfl | skip
    show thC cI cT q fl num rfs tad (va_up trm k x) tpl wlk ord (i % 3) (i / 3) = thC cI cT q fl num rfs tad trm tpl wlk ord (i % 3) (i / 3)
    rcases (show i % 3 = 0 ∨ i % 3 = 1 ∨ i % 3 = 2 by omega) with h | h | h
    · rw [h]
      have hne : i / 3 ≠ k := fun z => hn (by omega)
      simp only [thC, va_up, if_neg hne]
    · rw [h]; rfl
    · rw [h]; rfl
  · rw [h2]; exact hG1
theorem cg_RX8_27 (S : CallFix p m c cc nL s args wsL RX8) (hK : va_K (dC, dI) vwCl (tyL cI cZ cT) s) (hG : mG (dC, dI) vwCl A H0 w H locs) (hC : CW cI cT q kp Wn made fl num rfs root own tad trm tpl wlk ord met msz cur mend pnx pen st coll mins movd w) (k : Nat) (hk : k < made) (hdg : decode cc pc = .ok (.getfield 27, 3)) (kk : W p l e R s m args below meth c H locs cells slots Q (F0 m (pc + 3) ls (.int (nI (tad k)) :: rest))) : W p l e R s m args below meth c H locs cells slots Q (F0 m pc ls (.ref (tq q k) :: rest)) :=
  mw_get S inlX6 hK hG (hC.th hk) rfl 3 (by decide) in_216 (fun _ h9 => h9) rfl hdg kk
theorem cp_RX8_27 (S : CallFix p m c cc nL s args wsL RX8) (hK : va_K (dC, dI) vwCl (tyL cI cZ cT) s) (hG : mG (dC, dI) vwCl A H0 w H locs) (hC : CW cI cT q kp Wn made fl num rfs root own tad trm tpl wlk ord met msz cur mend pnx pen st coll mins movd w) (k : Nat) (hk : k < made) (x : Nat) (hdg : decode cc pc = .ok (.putfield 27, 3)) (kk : ∀ (w : mM) (H1 : Heap) (locs1 : List Loc), CW cI cT q kp Wn made fl num rfs root own (va_up tad k x) trm tpl wlk ord met msz cur mend pnx pen st coll mins movd w → mG (dC, dI) vwCl A H0 w H1 locs1 → W p l e R s m args below meth c H1 locs1 cells slots Q (F0 m (pc + 3) ls rest)) : W p l e R s m args below meth c H locs cells slots Q (F0 m pc ls (.int (nI x) :: .ref (tq q k) :: rest)) := by
  have h2 : cellC cI cT q kp Wn made fl num rfs root own (va_up tad k x) trm tpl wlk ord met msz cur mend pnx pen st coll mins movd (3 * k + 9) = .inr (5, [.int (nI k), .ref (q (3 * k + 10)), .ref (q (3 * k + 11)), .int (nI x), .int (bI (trm k)), .int (nI (tpl k)), .int (nI (wlk k)), .int (nI (ord k))]) := by
    have h1 : cellC cI cT q kp Wn made fl num rfs root own (va_up tad k x) trm tpl wlk ord met msz cur mend pnx pen st coll mins movd (3 * k + 9) = thC cI cT q fl num rfs (va_up tad k x) trm tpl wlk ord (3 * k % 3) (3 * k / 3) := rfl
    rw [h1, show 3 * k % 3 = 0 by omega, show 3 * k / 3 = k by omega]
    simp only [thC, va_up, if_true]
  refine mw_put S inlX6 tyX6 tyX6_ok nmX6 hK hG (hC.th hk) rfl 3 (by decide) in_216 (fun _ h9 => h9) rfl (ty := .int) (by decide +kernel) rfl rfl (Nat.le_of_ble_eq_true rfl) hdg (fun H1 locs1 hG1 => kk _ H1 locs1 (IP.upd (cell2 := cellC cI cT q kp Wn made fl num rfs root own (va_up tad k x) trm tpl wlk ord met msz cur mend pnx pen st coll mins movd) hC (3 * k + 9) (domC_t (r := 0) hk (by decide)) (fun i hi hn => ?_)) ?_)
  · rcases i with _|_|_|_|_|_|_|_|_|i <;> first | rfl | skip
    show thC cI cT q fl num rfs (va_up tad k x) trm tpl wlk ord (i % 3) (i / 3) = thC cI cT q fl num rfs tad trm tpl wlk ord (i % 3) (i / 3)
    rcases (show i % 3 = 0 ∨ i % 3 = 1 ∨ i % 3 = 2 by omega) with h | h | h
    · rw [h]
      have hne : i / 3 ≠ k := fun z => hn (by omega)
      simp only [thC, va_up, if_neg hne]
    · rw [h]; rfl
    · rw [h]; rfl
  · rw [h2]; exact hG1
theorem cg_RX6_19 (S : CallFix p m c cc nL s args wsL RX6) (hK : va_K (dC, dI) vwCl (tyL cI cZ cT) s) (hG : mG (dC, dI) vwCl A H0 w H locs) (hC : CW cI cT q kp Wn made fl num rfs root own tad trm tpl wlk ord met msz cur mend pnx pen st coll mins movd w) (k : Nat) (hk : k < made) (hdg : decode cc pc = .ok (.getfield 19, 3)) (kk : W p l e R s m args below meth c H locs cells slots Q (F0 m (pc + 3) ls (.ref (q (3 * k + 10)) :: rest))) : W p l e R s m args below meth c H locs cells slots Q (F0 m pc ls (.ref (tq q k) :: rest)) :=
  mw_get S inlX6 hK hG (hC.th hk) rfl 1 (by decide) in_229 (fun _ h9 => h9) rfl hdg kk
theorem cg_RX6_23 (S : CallFix p m c cc nL s args wsL RX6) (hK : va_K (dC, dI) vwCl (tyL cI cZ cT) s) (hG : mG (dC, dI) vwCl A H0 w H locs) (hC : CW cI cT q kp Wn made fl num rfs root own tad trm tpl wlk ord met msz cur mend pnx pen st coll mins movd w) (k : Nat) (hk : k < made) (hdg : decode cc pc = .ok (.getfield 23, 3)) (kk : W p l e R s m args below meth c H locs cells slots Q (F0 m (pc + 3) ls (.ref (q (3 * k + 11)) :: rest))) : W p l e R s m args below meth c H locs cells slots Q (F0 m pc ls (.ref (tq q k) :: rest)) :=
  mw_get S inlX6 hK hG (hC.th hk) rfl 2 (by decide) in_234 (fun _ h9 => h9) rfl hdg kk
theorem cg_RX0_131 (S : CallFix p m c cc nL s args wsL RX0) (hK : va_K (dC, dI) vwCl (tyL cI cZ cT) s) (hG : mG (dC, dI) vwCl A H0 w H locs) (hC : CW cI cT q kp Wn made fl num rfs root own tad trm tpl wlk ord met msz cur mend pnx pen st coll mins movd w) (k : Nat) (hk : k < made) (hdg : decode cc pc = .ok (.getfield 131, 3)) (kk : W p l e R s m args below meth c H locs cells slots Q (F0 m (pc + 3) ls (.int (nI (tpl k)) :: rest))) : W p l e R s m args below meth c H locs cells slots Q (F0 m pc ls (.ref (tq q k) :: rest)) :=
  mw_get S inlX6 hK hG (hC.th hk) rfl 5 (by decide) in_244 (fun _ h9 => h9) rfl hdg kk
theorem cp_RX0_131 (S : CallFix p m c cc nL s args wsL RX0) (hK : va_K (dC, dI) vwCl (tyL cI cZ cT) s) (hG : mG (dC, dI) vwCl A H0 w H locs) (hC : CW cI cT q kp Wn made fl num rfs root own tad trm tpl wlk ord met msz cur mend pnx pen st coll mins movd w) (k : Nat) (hk : k < made) (x : Nat) (hdg : decode cc pc = .ok (.putfield 131, 3)) (kk : ∀ (w : mM) (H1 : Heap) (locs1 : List Loc), CW cI cT q kp Wn made fl num rfs root own tad trm (va_up tpl k x) wlk ord met msz cur mend pnx pen st coll mins movd w → mG (dC, dI) vwCl A H0 w H1 locs1 → W p l e R s m args below meth c H1 locs1 cells slots Q (F0 m (pc + 3) ls rest)) : W p l e R s m args below meth c H locs cells slots Q (F0 m pc ls (.int (nI x) :: .ref (tq q k) :: rest)) := by
  have h2 : cellC cI cT q kp Wn made fl num rfs root own tad trm (va_up tpl k x) wlk ord met msz cur mend pnx pen st coll mins movd (3 * k + 9) = .inr (5, [.int (nI k), .ref (q (3 * k + 10)), .ref (q (3 * k + 11)), .int (nI (tad k)), .int (bI (trm k)), .int (nI x), .int (nI (wlk k)), .int (nI (ord k))]) := by
    have h1 : cellC cI cT q kp Wn made fl num rfs root own tad trm (va_up tpl k x) wlk ord met msz cur mend pnx pen st coll mins movd (3 * k + 9) = thC cI cT q fl num rfs tad trm (va_up tpl k x) wlk ord (3 * k % 3) (3 * k / 3) := rfl
    rw [h1, show 3 * k % 3 = 0 by omega, show 3 * k / 3 = k by omega]
    simp only [thC, va_up, if_true]
  refine mw_put S inlX6 tyX6 tyX6_ok nmX6 hK hG (hC.th hk) rfl 5 (by decide) in_244 (fun _ h9 => h9) rfl (ty := .int) (by decide +kernel) rfl rfl (Nat.le_of_ble_eq_true rfl) hdg (fun H1 locs1 hG1 => kk _ H1 locs1 (IP.upd (cell2 := cellC cI cT q kp Wn made fl num rfs root own tad trm (va_up tpl k x) wlk ord met msz cur mend pnx pen st coll mins movd) hC (3 * k + 9) (domC_t (r := 0) hk (by decide)) (fun i hi hn => ?_)) ?_)
  · rcases i with _|_|_|_|_|_|_|_|_|i <;> first | rfl | skip
    show thC cI cT q fl num rfs tad trm (va_up tpl k x) wlk ord (i % 3) (i / 3) = thC cI cT q fl num rfs tad trm tpl wlk ord (i % 3) (i / 3)
    rcases (show i % 3 = 0 ∨ i % 3 = 1 ∨ i % 3 = 2 by omega) with h | h | h
    · rw [h]
      have hne : i / 3 ≠ k := fun z => hn (by omega)
      simp only [thC, va_up, if_neg hne]
    · rw [h]; rfl
    · rw [h]; rfl
  · rw [h2]; exact hG1
theorem cg_RX0_40 (S : CallFix p m c cc nL s args wsL RX0) (hK : va_K (dC, dI) vwCl (tyL cI cZ cT) s) (hG : mG (dC, dI) vwCl A H0 w H locs) (hC : CW cI cT q kp Wn made fl num rfs root own tad trm tpl wlk ord met msz cur mend pnx pen st coll mins movd w) (k : Nat) (hk : k < made) (hdg : decode cc pc = .ok (.getfield 40, 3)) (kk : W p l e R s m args below meth c H locs cells slots Q (F0 m (pc + 3) ls (.int (nI (tad k)) :: rest))) : W p l e R s m args below meth c H locs cells slots Q (F0 m pc ls (.ref (tq q k) :: rest)) :=
  mw_get S inlX6 hK hG (hC.th hk) rfl 3 (by decide) in_276 (fun _ h9 => h9) rfl hdg kk
theorem cp_RX0_40 (S : CallFix p m c cc nL s args wsL RX0) (hK : va_K (dC, dI) vwCl (tyL cI cZ cT) s) (hG : mG (dC, dI) vwCl A H0 w H locs) (hC : CW cI cT q kp Wn made fl num rfs root own tad trm tpl wlk ord met msz cur mend pnx pen st coll mins movd w) (k : Nat) (hk : k < made) (x : Nat) (hdg : decode cc pc = .ok (.putfield 40, 3)) (kk : ∀ (w : mM) (H1 : Heap) (locs1 : List Loc), CW cI cT q kp Wn made fl num rfs root own (va_up tad k x) trm tpl wlk ord met msz cur mend pnx pen st coll mins movd w → mG (dC, dI) vwCl A H0 w H1 locs1 → W p l e R s m args below meth c H1 locs1 cells slots Q (F0 m (pc + 3) ls rest)) : W p l e R s m args below meth c H locs cells slots Q (F0 m pc ls (.int (nI x) :: .ref (tq q k) :: rest)) := by
  have h2 : cellC cI cT q kp Wn made fl num rfs root own (va_up tad k x) trm tpl wlk ord met msz cur mend pnx pen st coll mins movd (3 * k + 9) = .inr (5, [.int (nI k), .ref (q (3 * k + 10)), .ref (q (3 * k + 11)), .int (nI x), .int (bI (trm k)), .int (nI (tpl k)), .int (nI (wlk k)), .int (nI (ord k))]) := by
    have h1 : cellC cI cT q kp Wn made fl num rfs root own (va_up tad k x) trm tpl wlk ord met msz cur mend pnx pen st coll mins movd (3 * k + 9) = thC cI cT q fl num rfs (va_up tad k x) trm tpl wlk ord (3 * k % 3) (3 * k / 3) := rfl
    rw [h1, show 3 * k % 3 = 0 by omega, show 3 * k / 3 = k by omega]
    simp only [thC, va_up, if_true]
  refine mw_put S inlX6 tyX6 tyX6_ok nmX6 hK hG (hC.th hk) rfl 3 (by decide) in_276 (fun _ h9 => h9) rfl (ty := .int) (by decide +kernel) rfl rfl (Nat.le_of_ble_eq_true rfl) hdg (fun H1 locs1 hG1 => kk _ H1 locs1 (IP.upd (cell2 := cellC cI cT q kp Wn made fl num rfs root own (va_up tad k x) trm tpl wlk ord met msz cur mend pnx pen st coll mins movd) hC (3 * k + 9) (domC_t (r := 0) hk (by decide)) (fun i hi hn => ?_)) ?_)
  · rcases i with _|_|_|_|_|_|_|_|_|i <;> first | rfl | skip
    show thC cI cT q fl num rfs (va_up tad k x) trm tpl wlk ord (i % 3) (i / 3) = thC cI cT q fl num rfs tad trm tpl wlk ord (i % 3) (i / 3)
    rcases (show i % 3 = 0 ∨ i % 3 = 1 ∨ i % 3 = 2 by omega) with h | h | h
    · rw [h]
      have hne : i / 3 ≠ k := fun z => hn (by omega)
      simp only [thC, va_up, if_neg hne]
    · rw [h]; rfl
    · rw [h]; rfl
  · rw [h2]; exact hG1
theorem cg_RX0_134 (S : CallFix p m c cc nL s args wsL RX0) (hK : va_K (dC, dI) vwCl (tyL cI cZ cT) s) (hG : mG (dC, dI) vwCl A H0 w H locs) (hC : CW cI cT q kp Wn made fl num rfs root own tad trm tpl wlk ord met msz cur mend pnx pen st coll mins movd w) (hk : kp = 2) (hdg : decode cc pc = .ok (.getfield 134, 3)) (kk : W p l e R s m args below meth c H locs cells slots Q (F0 m (pc + 3) ls (.int (nI movd) :: rest))) : W p l e R s m args below meth c H locs cells slots Q (F0 m pc ls (.ref (q 5) :: rest)) :=
  mw_get S inlX0 hK hG (hC.obj0 hk) rfl 5 (by decide) in_277 (u_same (S.2.2.2.2 _ in_278)) rfl hdg kk
theorem cp_RX0_134 (S : CallFix p m c cc nL s args wsL RX0) (hK : va_K (dC, dI) vwCl (tyL cI cZ cT) s) (hG : mG (dC, dI) vwCl A H0 w H locs) (hC : CW cI cT q kp Wn made fl num rfs root own tad trm tpl wlk ord met msz cur mend pnx pen st coll mins movd w) (hk : kp = 2) (x : Nat) (hdg : decode cc pc = .ok (.putfield 134, 3)) (kk : ∀ (w : mM) (H1 : Heap) (locs1 : List Loc), CW cI cT q kp Wn made fl num rfs root own tad trm tpl wlk ord met msz cur mend pnx pen st coll mins x w → mG (dC, dI) vwCl A H0 w H1 locs1 → W p l e R s m args below meth c H1 locs1 cells slots Q (F0 m (pc + 3) ls rest)) : W p l e R s m args below meth c H locs cells slots Q (F0 m pc ls (.int (nI x) :: .ref (q 5) :: rest)) := by
  subst hk
  exact mw_put S inlX0 tyX0 tyX0_ok nmX0 hK hG hC.kpr rfl 5 (by decide) in_277 (u_same (S.2.2.2.2 _ in_278)) rfl (ty := .int) (by decide +kernel) rfl rfl (Nat.le_of_ble_eq_true rfl) hdg (fun H1 locs1 hG1 => kk _ H1 locs1 (IP.upd (cell2 := cellC cI cT q 2 Wn made fl num rfs root own tad trm tpl wlk ord met msz cur mend pnx pen st coll mins x) hC 5 (Or.inl (by decide)) (fun i hi hn => by rcases i with _|_|_|_|_|_|_|_|_|i <;> first | rfl | exact absurd rfl hn)) hG1)
theorem cg_RX0_45 (S : CallFix p m c cc nL s args wsL RX0) (hK : va_K (dC, dI) vwCl (tyL cI cZ cT) s) (hG : mG (dC, dI) vwCl A H0 w H locs) (hC : CW cI cT q kp Wn made fl num rfs root own tad trm tpl wlk ord met msz cur mend pnx pen st coll mins movd w) (hk : kp = 2) (hdg : decode cc pc = .ok (.getfield 45, 3)) (kk : W p l e R s m args below meth c H locs cells slots Q (F0 m (pc + 3) ls (.int (nI coll) :: rest))) : W p l e R s m args below meth c H locs cells slots Q (F0 m pc ls (.ref (q 5) :: rest)) :=
  mw_get S inlX0 hK hG (hC.obj0 hk) rfl 3 (by decide) in_291 (u_same (S.2.2.2.2 _ in_292)) rfl hdg kk
theorem cp_RX0_45 (S : CallFix p m c cc nL s args wsL RX0) (hK : va_K (dC, dI) vwCl (tyL cI cZ cT) s) (hG : mG (dC, dI) vwCl A H0 w H locs) (hC : CW cI cT q kp Wn made fl num rfs root own tad trm tpl wlk ord met msz cur mend pnx pen st coll mins movd w) (hk : kp = 2) (x : Nat) (hdg : decode cc pc = .ok (.putfield 45, 3)) (kk : ∀ (w : mM) (H1 : Heap) (locs1 : List Loc), CW cI cT q kp Wn made fl num rfs root own tad trm tpl wlk ord met msz cur mend pnx pen st x mins movd w → mG (dC, dI) vwCl A H0 w H1 locs1 → W p l e R s m args below meth c H1 locs1 cells slots Q (F0 m (pc + 3) ls rest)) : W p l e R s m args below meth c H locs cells slots Q (F0 m pc ls (.int (nI x) :: .ref (q 5) :: rest)) := by
  subst hk
  exact mw_put S inlX0 tyX0 tyX0_ok nmX0 hK hG hC.kpr rfl 3 (by decide) in_291 (u_same (S.2.2.2.2 _ in_292)) rfl (ty := .int) (by decide +kernel) rfl rfl (Nat.le_of_ble_eq_true rfl) hdg (fun H1 locs1 hG1 => kk _ H1 locs1 (IP.upd (cell2 := cellC cI cT q 2 Wn made fl num rfs root own tad trm tpl wlk ord met msz cur mend pnx pen st x mins movd) hC 5 (Or.inl (by decide)) (fun i hi hn => by rcases i with _|_|_|_|_|_|_|_|_|i <;> first | rfl | exact absurd rfl hn)) hG1)
theorem cg_RX1_38 (S : CallFix p m c cc nL s args wsL RX1) (hK : va_K (dC, dI) vwCl (tyL cI cZ cT) s) (hG : mG (dC, dI) vwCl A H0 w H locs) (hC : CW cI cT q kp Wn made fl num rfs root own tad trm tpl wlk ord met msz cur mend pnx pen st coll mins movd w) (hk : kp = 1) (hdg : decode cc pc = .ok (.getfield 38, 3)) (kk : W p l e R s m args below meth c H locs cells slots Q (F0 m (pc + 3) ls (.int (nI coll) :: rest))) : W p l e R s m args below meth c H locs cells slots Q (F0 m pc ls (.ref (q 5) :: rest)) :=
  mw_get S inlX1 hK hG (hC.obj1 hk) rfl 3 (by decide) in_320 (u_same (S.2.2.2.2 _ in_321)) rfl hdg kk
theorem cp_RX1_38 (S : CallFix p m c cc nL s args wsL RX1) (hK : va_K (dC, dI) vwCl (tyL cI cZ cT) s) (hG : mG (dC, dI) vwCl A H0 w H locs) (hC : CW cI cT q kp Wn made fl num rfs root own tad trm tpl wlk ord met msz cur mend pnx pen st coll mins movd w) (hk : kp = 1) (x : Nat) (hdg : decode cc pc = .ok (.putfield 38, 3)) (kk : ∀ (w : mM) (H1 : Heap) (locs1 : List Loc), CW cI cT q kp Wn made fl num rfs root own tad trm tpl wlk ord met msz cur mend pnx pen st x mins movd w → mG (dC, dI) vwCl A H0 w H1 locs1 → W p l e R s m args below meth c H1 locs1 cells slots Q (F0 m (pc + 3) ls rest)) : W p l e R s m args below meth c H locs cells slots Q (F0 m pc ls (.int (nI x) :: .ref (q 5) :: rest)) := by
  subst hk
  exact mw_put S inlX1 tyX1 tyX1_ok nmX1 hK hG hC.kpr rfl 3 (by decide) in_320 (u_same (S.2.2.2.2 _ in_321)) rfl (ty := .int) (by decide +kernel) rfl rfl (Nat.le_of_ble_eq_true rfl) hdg (fun H1 locs1 hG1 => kk _ H1 locs1 (IP.upd (cell2 := cellC cI cT q 1 Wn made fl num rfs root own tad trm tpl wlk ord met msz cur mend pnx pen st x mins movd) hC 5 (Or.inl (by decide)) (fun i hi hn => by rcases i with _|_|_|_|_|_|_|_|_|i <;> first | rfl | exact absurd rfl hn)) hG1)
theorem cg_RX1_41 (S : CallFix p m c cc nL s args wsL RX1) (hK : va_K (dC, dI) vwCl (tyL cI cZ cT) s) (hG : mG (dC, dI) vwCl A H0 w H locs) (hC : CW cI cT q kp Wn made fl num rfs root own tad trm tpl wlk ord met msz cur mend pnx pen st coll mins movd w) (hk : kp = 1) (hdg : decode cc pc = .ok (.getfield 41, 3)) (kk : W p l e R s m args below meth c H locs cells slots Q (F0 m (pc + 3) ls (.ref (q 1) :: rest))) : W p l e R s m args below meth c H locs cells slots Q (F0 m pc ls (.ref (q 5) :: rest)) :=
  mw_get S inlX1 hK hG (hC.obj1 hk) rfl 0 (by decide) in_322 (u_same (S.2.2.2.2 _ in_323)) rfl hdg kk
theorem cg_RX1_59 (S : CallFix p m c cc nL s args wsL RX1) (hK : va_K (dC, dI) vwCl (tyL cI cZ cT) s) (hG : mG (dC, dI) vwCl A H0 w H locs) (hC : CW cI cT q kp Wn made fl num rfs root own tad trm tpl wlk ord met msz cur mend pnx pen st coll mins movd w) (hk : kp = 1) (hdg : decode cc pc = .ok (.getfield 59, 3)) (kk : W p l e R s m args below meth c H locs cells slots Q (F0 m (pc + 3) ls (.ref (q 6) :: rest))) : W p l e R s m args below meth c H locs cells slots Q (F0 m pc ls (.ref (q 5) :: rest)) :=
  mw_get S inlX1 hK hG (hC.obj1 hk) rfl 2 (by decide) in_324 (u_same (S.2.2.2.2 _ in_325)) rfl hdg kk
theorem cg_RX1_79 (S : CallFix p m c cc nL s args wsL RX1) (hK : va_K (dC, dI) vwCl (tyL cI cZ cT) s) (hG : mG (dC, dI) vwCl A H0 w H locs) (hC : CW cI cT q kp Wn made fl num rfs root own tad trm tpl wlk ord met msz cur mend pnx pen st coll mins movd w) (hk : kp = 1) (hdg : decode cc pc = .ok (.getfield 79, 3)) (kk : W p l e R s m args below meth c H locs cells slots Q (F0 m (pc + 3) ls (.int (nI movd) :: rest))) : W p l e R s m args below meth c H locs cells slots Q (F0 m pc ls (.ref (q 5) :: rest)) :=
  mw_get S inlX1 hK hG (hC.obj1 hk) rfl 5 (by decide) in_326 (u_same (S.2.2.2.2 _ in_327)) rfl hdg kk
theorem cp_RX1_79 (S : CallFix p m c cc nL s args wsL RX1) (hK : va_K (dC, dI) vwCl (tyL cI cZ cT) s) (hG : mG (dC, dI) vwCl A H0 w H locs) (hC : CW cI cT q kp Wn made fl num rfs root own tad trm tpl wlk ord met msz cur mend pnx pen st coll mins movd w) (hk : kp = 1) (x : Nat) (hdg : decode cc pc = .ok (.putfield 79, 3)) (kk : ∀ (w : mM) (H1 : Heap) (locs1 : List Loc), CW cI cT q kp Wn made fl num rfs root own tad trm tpl wlk ord met msz cur mend pnx pen st coll mins x w → mG (dC, dI) vwCl A H0 w H1 locs1 → W p l e R s m args below meth c H1 locs1 cells slots Q (F0 m (pc + 3) ls rest)) : W p l e R s m args below meth c H locs cells slots Q (F0 m pc ls (.int (nI x) :: .ref (q 5) :: rest)) := by
  subst hk
  exact mw_put S inlX1 tyX1 tyX1_ok nmX1 hK hG hC.kpr rfl 5 (by decide) in_326 (u_same (S.2.2.2.2 _ in_327)) rfl (ty := .int) (by decide +kernel) rfl rfl (Nat.le_of_ble_eq_true rfl) hdg (fun H1 locs1 hG1 => kk _ H1 locs1 (IP.upd (cell2 := cellC cI cT q 1 Wn made fl num rfs root own tad trm tpl wlk ord met msz cur mend pnx pen st coll mins x) hC 5 (Or.inl (by decide)) (fun i hi hn => by rcases i with _|_|_|_|_|_|_|_|_|i <;> first | rfl | exact absurd rfl hn)) hG1)
theorem cg_RX5_23 (S : CallFix p m c cc nL s args wsL RX5) (hK : va_K (dC, dI) vwCl (tyL cI cZ cT) s) (hG : mG (dC, dI) vwCl A H0 w H locs) (hC : CW cI cT q kp Wn made fl num rfs root own tad trm tpl wlk ord met msz cur mend pnx pen st coll mins movd w) (hk : kp = 0) (hdg : decode cc pc = .ok (.getfield 23, 3)) (kk : W p l e R s m args below meth c H locs cells slots Q (F0 m (pc + 3) ls (.int (nI coll) :: rest))) : W p l e R s m args below meth c H locs cells slots Q (F0 m pc ls (.ref (q 5) :: rest)) :=
  mw_get S inlX5 hK hG (hC.obj5 hk) rfl 3 (by decide) in_350 (u_same (S.2.2.2.2 _ in_351)) rfl hdg kk
theorem cp_RX5_23 (S : CallFix p m c cc nL s args wsL RX5) (hK : va_K (dC, dI) vwCl (tyL cI cZ cT) s) (hG : mG (dC, dI) vwCl A H0 w H locs) (hC : CW cI cT q kp Wn made fl num rfs root own tad trm tpl wlk ord met msz cur mend pnx pen st coll mins movd w) (hk : kp = 0) (x : Nat) (hdg : decode cc pc = .ok (.putfield 23, 3)) (kk : ∀ (w : mM) (H1 : Heap) (locs1 : List Loc), CW cI cT q kp Wn made fl num rfs root own tad trm tpl wlk ord met msz cur mend pnx pen st x mins movd w → mG (dC, dI) vwCl A H0 w H1 locs1 → W p l e R s m args below meth c H1 locs1 cells slots Q (F0 m (pc + 3) ls rest)) : W p l e R s m args below meth c H locs cells slots Q (F0 m pc ls (.int (nI x) :: .ref (q 5) :: rest)) := by
  subst hk
  exact mw_put S inlX5 tyX5 tyX5_ok nmX5 hK hG hC.kpr rfl 3 (by decide) in_350 (u_same (S.2.2.2.2 _ in_351)) rfl (ty := .int) (by decide +kernel) rfl rfl (Nat.le_of_ble_eq_true rfl) hdg (fun H1 locs1 hG1 => kk _ H1 locs1 (IP.upd (cell2 := cellC cI cT q 0 Wn made fl num rfs root own tad trm tpl wlk ord met msz cur mend pnx pen st x mins movd) hC 5 (Or.inl (by decide)) (fun i hi hn => by rcases i with _|_|_|_|_|_|_|_|_|i <;> first | rfl | exact absurd rfl hn)) hG1)
theorem cg_RX6_13 (S : CallFix p m c cc nL s args wsL RX6) (hK : va_K (dC, dI) vwCl (tyL cI cZ cT) s) (hG : mG (dC, dI) vwCl A H0 w H locs) (hC : CW cI cT q kp Wn made fl num rfs root own tad trm tpl wlk ord met msz cur mend pnx pen st coll mins movd w) (k : Nat) (hk : k < made) (hdg : decode cc pc = .ok (.getfield 13, 3)) (kk : W p l e R s m args below meth c H locs cells slots Q (F0 m (pc + 3) ls (.int (nI k) :: rest))) : W p l e R s m args below meth c H locs cells slots Q (F0 m pc ls (.ref (tq q k) :: rest)) :=
  mw_get S inlX6 hK hG (hC.th hk) rfl 0 (by decide) in_363 (fun _ h9 => h9) rfl hdg kk
theorem cg_RX6_27 (S : CallFix p m c cc nL s args wsL RX6) (hK : va_K (dC, dI) vwCl (tyL cI cZ cT) s) (hG : mG (dC, dI) vwCl A H0 w H locs) (hC : CW cI cT q kp Wn made fl num rfs root own tad trm tpl wlk ord met msz cur mend pnx pen st coll mins movd w) (k : Nat) (hk : k < made) (hdg : decode cc pc = .ok (.getfield 27, 3)) (kk : W p l e R s m args below meth c H locs cells slots Q (F0 m (pc + 3) ls (.int (nI (tad k)) :: rest))) : W p l e R s m args below meth c H locs cells slots Q (F0 m pc ls (.ref (tq q k) :: rest)) :=
  mw_get S inlX6 hK hG (hC.th hk) rfl 3 (by decide) in_365 (fun _ h9 => h9) rfl hdg kk
theorem cp_RX6_27 (S : CallFix p m c cc nL s args wsL RX6) (hK : va_K (dC, dI) vwCl (tyL cI cZ cT) s) (hG : mG (dC, dI) vwCl A H0 w H locs) (hC : CW cI cT q kp Wn made fl num rfs root own tad trm tpl wlk ord met msz cur mend pnx pen st coll mins movd w) (k : Nat) (hk : k < made) (x : Nat) (hdg : decode cc pc = .ok (.putfield 27, 3)) (kk : ∀ (w : mM) (H1 : Heap) (locs1 : List Loc), CW cI cT q kp Wn made fl num rfs root own (va_up tad k x) trm tpl wlk ord met msz cur mend pnx pen st coll mins movd w → mG (dC, dI) vwCl A H0 w H1 locs1 → W p l e R s m args below meth c H1 locs1 cells slots Q (F0 m (pc + 3) ls rest)) : W p l e R s m args below meth c H locs cells slots Q (F0 m pc ls (.int (nI x) :: .ref (tq q k) :: rest)) := by
  have h2 : cellC cI cT q kp Wn made fl num rfs root own (va_up tad k x) trm tpl wlk ord met msz cur mend pnx pen st coll mins movd (3 * k + 9) = .inr (5, [.int (nI k), .ref (q (3 * k + 10)), .ref (q (3 * k + 11)), .int (nI x), .int (bI (trm k)), .int (nI (tpl k)), .int (nI (wlk k)), .int (nI (ord k))]) := by
    have h1 : cellC cI cT q kp Wn made fl num rfs root own (va_up tad k x) trm tpl wlk ord met msz cur mend pnx pen st coll mins movd (3 * k + 9) = thC cI cT q fl num rfs (va_up tad k x) trm tpl wlk ord (3 * k % 3) (3 * k / 3) := rfl
    rw [h1, show 3 * k % 3 = 0 by omega, show 3 * k / 3 = k by omega]
    simp only [thC, va_up, if_true]
  refine mw_put S inlX6 tyX6 tyX6_ok nmX6 hK hG (hC.th hk) rfl 3 (by decide) in_365 (fun _ h9 => h9) rfl (ty := .int) (by decide +kernel) rfl rfl (Nat.le_of_ble_eq_true rfl) hdg (fun H1 locs1 hG1 => kk _ H1 locs1 (IP.upd (cell2 := cellC cI cT q kp Wn made fl num rfs root own (va_up tad k x) trm tpl wlk ord met msz cur mend pnx pen st coll mins movd) hC (3 * k + 9) (domC_t (r := 0) hk (by decide)) (fun i hi hn => ?_)) ?_)
  · rcases i with _|_|_|_|_|_|_|_|_|i <;> first | rfl | skip
    show thC cI cT q fl num rfs (va_up tad k x) trm tpl wlk ord (i % 3) (i / 3) = thC cI cT q fl num rfs tad trm tpl wlk ord (i % 3) (i / 3)
    rcases (show i % 3 = 0 ∨ i % 3 = 1 ∨ i % 3 = 2 by omega) with h | h | h
    · rw [h]
      have hne : i / 3 ≠ k := fun z => hn (by omega)
      simp only [thC, va_up, if_neg hne]
    · rw [h]; rfl
    · rw [h]; rfl
  · rw [h2]; exact hG1
theorem cg_RX6_30 (S : CallFix p m c cc nL s args wsL RX6) (hK : va_K (dC, dI) vwCl (tyL cI cZ cT) s) (hG : mG (dC, dI) vwCl A H0 w H locs) (hC : CW cI cT q kp Wn made fl num rfs root own tad trm tpl wlk ord met msz cur mend pnx pen st coll mins movd w) (k : Nat) (hk : k < made) (hdg : decode cc pc = .ok (.getfield 30, 3)) (kk : W p l e R s m args below meth c H locs cells slots Q (F0 m (pc + 3) ls (.int (bI (trm k)) :: rest))) : W p l e R s m args below meth c H locs cells slots Q (F0 m pc ls (.ref (tq q k) :: rest)) :=
  mw_get S inlX6 hK hG (hC.th hk) rfl 4 (by decide) in_366 (fun _ h9 => h9) rfl hdg kk
theorem cp_RX6_30 (S : CallFix p m c cc nL s args wsL RX6) (hK : va_K (dC, dI) vwCl (tyL cI cZ cT) s) (hG : mG (dC, dI) vwCl A H0 w H locs) (hC : CW cI cT q kp Wn made fl num rfs root own tad trm tpl wlk ord met msz cur mend pnx pen st coll mins movd w) (k : Nat) (hk : k < made) (x : Bool) (hdg : decode cc pc = .ok (.putfield 30, 3)) (kk : ∀ (w : mM) (H1 : Heap) (locs1 : List Loc), CW cI cT q kp Wn made fl num rfs root own tad (va_up trm k x) tpl wlk ord met msz cur mend pnx pen st coll mins movd w → mG (dC, dI) vwCl A H0 w H1 locs1 → W p l e R s m args below meth c H1 locs1 cells slots Q (F0 m (pc + 3) ls rest)) : W p l e R s m args below meth c H locs cells slots Q (F0 m pc ls (.int (bI x) :: .ref (tq q k) :: rest)) := by
  have h2 : cellC cI cT q kp Wn made fl num rfs root own tad (va_up trm k x) tpl wlk ord met msz cur mend pnx pen st coll mins movd (3 * k + 9) = .inr (5, [.int (nI k), .ref (q (3 * k + 10)), .ref (q (3 * k + 11)), .int (nI (tad k)), .int (bI x), .int (nI (tpl k)), .int (nI (wlk k)), .int (nI (ord k))]) := by
    have h1 : cellC cI cT q kp Wn made fl num rfs root own tad (va_up trm k x) tpl wlk ord met msz cur mend pnx pen st coll mins movd (3 * k + 9) = thC cI cT q fl num rfs tad (va_up trm k x) tpl wlk ord (3 * k % 3) (3 * k / 3) := rfl
    rw [h1, show 3 * k % 3 = 0 by omega, show 3 * k / 3 = k by omega]
    simp only [thC, va_up, if_true]
  refine mw_put S inlX6 tyX6 tyX6_ok nmX6 hK hG (hC.th hk) rfl 4 (by decide) in_366 (fun _ h9 => h9) rfl (ty := .boolean) (by decide +kernel) (bI_nar x) (bI_fit x) (Nat.le_of_ble_eq_true rfl) hdg (fun H1 locs1 hG1 => kk _ H1 locs1 (IP.upd (cell2 := cellC cI cT q kp Wn made fl num rfs root own tad (va_up trm k x) tpl wlk ord met msz cur mend pnx pen st coll mins movd) hC (3 * k + 9) (domC_t (r := 0) hk (by decide)) (fun i hi hn => ?_)) ?_)
  · rcases i with _|_|_|_|_|_|_|_|_|i <;> first | rfl | skip
    show thC cI cT q fl num rfs tad (va_up trm k x) tpl wlk ord (i % 3) (i / 3) = thC cI cT q fl num rfs tad trm tpl wlk ord (i % 3) (i / 3)
    rcases (show i % 3 = 0 ∨ i % 3 = 1 ∨ i % 3 = 2 by omega) with h | h | h
    · rw [h]
      have hne : i / 3 ≠ k := fun z => hn (by omega)
      simp only [thC, va_up, if_neg hne]
    · rw [h]; rfl
    · rw [h]; rfl
  · rw [h2]; exact hG1
theorem cg_RX6_34 (S : CallFix p m c cc nL s args wsL RX6) (hK : va_K (dC, dI) vwCl (tyL cI cZ cT) s) (hG : mG (dC, dI) vwCl A H0 w H locs) (hC : CW cI cT q kp Wn made fl num rfs root own tad trm tpl wlk ord met msz cur mend pnx pen st coll mins movd w) (k : Nat) (hk : k < made) (hdg : decode cc pc = .ok (.getfield 34, 3)) (kk : W p l e R s m args below meth c H locs cells slots Q (F0 m (pc + 3) ls (.int (nI (tpl k)) :: rest))) : W p l e R s m args below meth c H locs cells slots Q (F0 m pc ls (.ref (tq q k) :: rest)) :=
  mw_get S inlX6 hK hG (hC.th hk) rfl 5 (by decide) in_367 (fun _ h9 => h9) rfl hdg kk
theorem cp_RX6_34 (S : CallFix p m c cc nL s args wsL RX6) (hK : va_K (dC, dI) vwCl (tyL cI cZ cT) s) (hG : mG (dC, dI) vwCl A H0 w H locs) (hC : CW cI cT q kp Wn made fl num rfs root own tad trm tpl wlk ord met msz cur mend pnx pen st coll mins movd w) (k : Nat) (hk : k < made) (x : Nat) (hdg : decode cc pc = .ok (.putfield 34, 3)) (kk : ∀ (w : mM) (H1 : Heap) (locs1 : List Loc), CW cI cT q kp Wn made fl num rfs root own tad trm (va_up tpl k x) wlk ord met msz cur mend pnx pen st coll mins movd w → mG (dC, dI) vwCl A H0 w H1 locs1 → W p l e R s m args below meth c H1 locs1 cells slots Q (F0 m (pc + 3) ls rest)) : W p l e R s m args below meth c H locs cells slots Q (F0 m pc ls (.int (nI x) :: .ref (tq q k) :: rest)) := by
  have h2 : cellC cI cT q kp Wn made fl num rfs root own tad trm (va_up tpl k x) wlk ord met msz cur mend pnx pen st coll mins movd (3 * k + 9) = .inr (5, [.int (nI k), .ref (q (3 * k + 10)), .ref (q (3 * k + 11)), .int (nI (tad k)), .int (bI (trm k)), .int (nI x), .int (nI (wlk k)), .int (nI (ord k))]) := by
    have h1 : cellC cI cT q kp Wn made fl num rfs root own tad trm (va_up tpl k x) wlk ord met msz cur mend pnx pen st coll mins movd (3 * k + 9) = thC cI cT q fl num rfs tad trm (va_up tpl k x) wlk ord (3 * k % 3) (3 * k / 3) := rfl
    rw [h1, show 3 * k % 3 = 0 by omega, show 3 * k / 3 = k by omega]
    simp only [thC, va_up, if_true]
  refine mw_put S inlX6 tyX6 tyX6_ok nmX6 hK hG (hC.th hk) rfl 5 (by decide) in_367 (fun _ h9 => h9) rfl (ty := .int) (by decide +kernel) rfl rfl (Nat.le_of_ble_eq_true rfl) hdg (fun H1 locs1 hG1 => kk _ H1 locs1 (IP.upd (cell2 := cellC cI cT q kp Wn made fl num rfs root own tad trm (va_up tpl k x) wlk ord met msz cur mend pnx pen st coll mins movd) hC (3 * k + 9) (domC_t (r := 0) hk (by decide)) (fun i hi hn => ?_)) ?_)
  · rcases i with _|_|_|_|_|_|_|_|_|i <;> first | rfl | skip
    show thC cI cT q fl num rfs tad trm (va_up tpl k x) wlk ord (i % 3) (i / 3) = thC cI cT q fl num rfs tad trm tpl wlk ord (i % 3) (i / 3)
    rcases (show i % 3 = 0 ∨ i % 3 = 1 ∨ i % 3 = 2 by omega) with h | h | h
    · rw [h]
      have hne : i / 3 ≠ k := fun z => hn (by omega)
      simp only [thC, va_up, if_neg hne]
    · rw [h]; rfl
    · rw [h]; rfl
  · rw [h2]; exact hG1
theorem cg_RX6_37 (S : CallFix p m c cc nL s args wsL RX6) (hK : va_K (dC, dI) vwCl (tyL cI cZ cT) s) (hG : mG (dC, dI) vwCl A H0 w H locs) (hC : CW cI cT q kp Wn made fl num rfs root own tad trm tpl wlk ord met msz cur mend pnx pen st coll mins movd w) (k : Nat) (hk : k < made) (hdg : decode cc pc = .ok (.getfield 37, 3)) (kk : W p l e R s m args below meth c H locs cells slots Q (F0 m (pc + 3) ls (.int (nI (wlk k)) :: rest))) : W p l e R s m args below meth c H locs cells slots Q (F0 m pc ls (.ref (tq q k) :: rest)) :=
  mw_get S inlX6 hK hG (hC.th hk) rfl 6 (by decide) in_368 (fun _ h9 => h9) rfl hdg kk
theorem cp_RX6_37 (S : CallFix p m c cc nL s args wsL RX6) (hK : va_K (dC, dI) vwCl (tyL cI cZ cT) s) (hG : mG (dC, dI) vwCl A H0 w H locs) (hC : CW cI cT q kp Wn made fl num rfs root own tad trm tpl wlk ord met msz cur mend pnx pen st coll mins movd w) (k : Nat) (hk : k < made) (x : Nat) (hdg : decode cc pc = .ok (.putfield 37, 3)) (kk : ∀ (w : mM) (H1 : Heap) (locs1 : List Loc), CW cI cT q kp Wn made fl num rfs root own tad trm tpl (va_up wlk k x) ord met msz cur mend pnx pen st coll mins movd w → mG (dC, dI) vwCl A H0 w H1 locs1 → W p l e R s m args below meth c H1 locs1 cells slots Q (F0 m (pc + 3) ls rest)) : W p l e R s m args below meth c H locs cells slots Q (F0 m pc ls (.int (nI x) :: .ref (tq q k) :: rest)) := by
  have h2 : cellC cI cT q kp Wn made fl num rfs root own tad trm tpl (va_up wlk k x) ord met msz cur mend pnx pen st coll mins movd (3 * k + 9) = .inr (5, [.int (nI k), .ref (q (3 * k + 10)), .ref (q (3 * k + 11)), .int (nI (tad k)), .int (bI (trm k)), .int (nI (tpl k)), .int (nI x), .int (nI (ord k))]) := by
    have h1 : cellC cI cT q kp Wn made fl num rfs root own tad trm tpl (va_up wlk k x) ord met msz cur mend pnx pen st coll mins movd (3 * k + 9) = thC cI cT q fl num rfs tad trm tpl (va_up wlk k x) ord (3 * k % 3) (3 * k / 3) := rfl
    rw [h1, show 3 * k % 3 = 0 by omega, show 3 * k / 3 = k by omega]
    simp only [thC, va_up, if_true]
  refine mw_put S inlX6 tyX6 tyX6_ok nmX6 hK hG (hC.th hk) rfl 6 (by decide) in_368 (fun _ h9 => h9) rfl (ty := .int) (by decide +kernel) rfl rfl (Nat.le_of_ble_eq_true rfl) hdg (fun H1 locs1 hG1 => kk _ H1 locs1 (IP.upd (cell2 := cellC cI cT q kp Wn made fl num rfs root own tad trm tpl (va_up wlk k x) ord met msz cur mend pnx pen st coll mins movd) hC (3 * k + 9) (domC_t (r := 0) hk (by decide)) (fun i hi hn => ?_)) ?_)
  · rcases i with _|_|_|_|_|_|_|_|_|i <;> first | rfl | skip
    show thC cI cT q fl num rfs tad trm tpl (va_up wlk k x) ord (i % 3) (i / 3) = thC cI cT q fl num rfs tad trm tpl wlk ord (i % 3) (i / 3)
    rcases (show i % 3 = 0 ∨ i % 3 = 1 ∨ i % 3 = 2 by omega) with h | h | h
    · rw [h]
      have hne : i / 3 ≠ k := fun z => hn (by omega)
      simp only [thC, va_up, if_neg hne]
    · rw [h]; rfl
    · rw [h]; rfl
  · rw [h2]; exact hG1
theorem cg_RX6_40 (S : CallFix p m c cc nL s args wsL RX6) (hK : va_K (dC, dI) vwCl (tyL cI cZ cT) s) (hG : mG (dC, dI) vwCl A H0 w H locs) (hC : CW cI cT q kp Wn made fl num rfs root own tad trm tpl wlk ord met msz cur mend pnx pen st coll mins movd w) (k : Nat) (hk : k < made) (hdg : decode cc pc = .ok (.getfield 40, 3)) (kk : W p l e R s m args below meth c H locs cells slots Q (F0 m (pc + 3) ls (.int (nI (ord k)) :: rest))) : W p l e R s m args below meth c H locs cells slots Q (F0 m pc ls (.ref (tq q k) :: rest)) :=
  mw_get S inlX6 hK hG (hC.th hk) rfl 7 (by decide) in_369 (fun _ h9 => h9) rfl hdg kk
theorem cp_RX6_40 (S : CallFix p m c cc nL s args wsL RX6) (hK : va_K (dC, dI) vwCl (tyL cI cZ cT) s) (hG : mG (dC, dI) vwCl A H0 w H locs) (hC : CW cI cT q kp Wn made fl num rfs root own tad trm tpl wlk ord met msz cur mend pnx pen st coll mins movd w) (k : Nat) (hk : k < made) (x : Nat) (hdg : decode cc pc = .ok (.putfield 40, 3)) (kk : ∀ (w : mM) (H1 : Heap) (locs1 : List Loc), CW cI cT q kp Wn made fl num rfs root own tad trm tpl wlk (va_up ord k x) met msz cur mend pnx pen st coll mins movd w → mG (dC, dI) vwCl A H0 w H1 locs1 → W p l e R s m args below meth c H1 locs1 cells slots Q (F0 m (pc + 3) ls rest)) : W p l e R s m args below meth c H locs cells slots Q (F0 m pc ls (.int (nI x) :: .ref (tq q k) :: rest)) := by
  have h2 : cellC cI cT q kp Wn made fl num rfs root own tad trm tpl wlk (va_up ord k x) met msz cur mend pnx pen st coll mins movd (3 * k + 9) = .inr (5, [.int (nI k), .ref (q (3 * k + 10)), .ref (q (3 * k + 11)), .int (nI (tad k)), .int (bI (trm k)), .int (nI (tpl k)), .int (nI (wlk k)), .int (nI x)]) := by
    have h1 : cellC cI cT q kp Wn made fl num rfs root own tad trm tpl wlk (va_up ord k x) met msz cur mend pnx pen st coll mins movd (3 * k + 9) = thC cI cT q fl num rfs tad trm tpl wlk (va_up ord k x) (3 * k % 3) (3 * k / 3) := rfl
    rw [h1, show 3 * k % 3 = 0 by omega, show 3 * k / 3 = k by omega]
    simp only [thC, va_up, if_true]
  refine mw_put S inlX6 tyX6 tyX6_ok nmX6 hK hG (hC.th hk) rfl 7 (by decide) in_369 (fun _ h9 => h9) rfl (ty := .int) (by decide +kernel) rfl rfl (Nat.le_of_ble_eq_true rfl) hdg (fun H1 locs1 hG1 => kk _ H1 locs1 (IP.upd (cell2 := cellC cI cT q kp Wn made fl num rfs root own tad trm tpl wlk (va_up ord k x) met msz cur mend pnx pen st coll mins movd) hC (3 * k + 9) (domC_t (r := 0) hk (by decide)) (fun i hi hn => ?_)) ?_)
  · rcases i with _|_|_|_|_|_|_|_|_|i <;> first | rfl | skip
    show thC cI cT q fl num rfs tad trm tpl wlk (va_up ord k x) (i % 3) (i / 3) = thC cI cT q fl num rfs tad trm tpl wlk ord (i % 3) (i / 3)
    rcases (show i % 3 = 0 ∨ i % 3 = 1 ∨ i % 3 = 2 by omega) with h | h | h
    · rw [h]
      have hne : i / 3 ≠ k := fun z => hn (by omega)
      simp only [thC, va_up, if_neg hne]
    · rw [h]; rfl
    · rw [h]; rfl
  · rw [h2]; exact hG1
theorem cg_RX9_89 (S : CallFix p m c cc nL s args wsL RX9) (hK : va_K (dC, dI) vwCl (tyL cI cZ cT) s) (hG : mG (dC, dI) vwCl A H0 w H locs) (hC : CW cI cT q kp Wn made fl num rfs root own tad trm tpl wlk ord met msz cur mend pnx pen st coll mins movd w) (k : Nat) (hk : k < made) (hdg : decode cc pc = .ok (.getfield 89, 3)) (kk : W p l e R s m args below meth c H locs cells slots Q (F0 m (pc + 3) ls (.int (bI (trm k)) :: rest))) : W p l e R s m args below meth c H locs cells slots Q (F0 m pc ls (.ref (tq q k) :: rest)) :=
  mw_get S inlX6 hK hG (hC.th hk) rfl 4 (by decide) in_491 (fun _ h9 => h9) rfl hdg kk
theorem cp_RX9_89 (S : CallFix p m c cc nL s args wsL RX9) (hK : va_K (dC, dI) vwCl (tyL cI cZ cT) s) (hG : mG (dC, dI) vwCl A H0 w H locs) (hC : CW cI cT q kp Wn made fl num rfs root own tad trm tpl wlk ord met msz cur mend pnx pen st coll mins movd w) (k : Nat) (hk : k < made) (x : Bool) (hdg : decode cc pc = .ok (.putfield 89, 3)) (kk : ∀ (w : mM) (H1 : Heap) (locs1 : List Loc), CW cI cT q kp Wn made fl num rfs root own tad (va_up trm k x) tpl wlk ord met msz cur mend pnx pen st coll mins movd w → mG (dC, dI) vwCl A H0 w H1 locs1 → W p l e R s m args below meth c H1 locs1 cells slots Q (F0 m (pc + 3) ls rest)) : W p l e R s m args below meth c H locs cells slots Q (F0 m pc ls (.int (bI x) :: .ref (tq q k) :: rest)) := by
  have h2 : cellC cI cT q kp Wn made fl num rfs root own tad (va_up trm k x) tpl wlk ord met msz cur mend pnx pen st coll mins movd (3 * k + 9) = .inr (5, [.int (nI k), .ref (q (3 * k + 10)), .ref (q (3 * k + 11)), .int (nI (tad k)), .int (bI x), .int (nI (tpl k)), .int (nI (wlk k)), .int (nI (ord k))]) := by
    have h1 : cellC cI cT q kp Wn made fl num rfs root own tad (va_up trm k x) tpl wlk ord met msz cur mend pnx pen st coll mins movd (3 * k + 9) = thC cI cT q fl num rfs tad (va_up trm k x) tpl wlk ord (3 * k % 3) (3 * k / 3) := rfl
    rw [h1, show 3 * k % 3 = 0 by omega, show 3 * k / 3 = k by omega]
    simp only [thC, va_up, if_true]
  refine mw_put S inlX6 tyX6 tyX6_ok nmX6 hK hG (hC.th hk) rfl 4 (by decide) in_491 (fun _ h9 => h9) rfl (ty := .boolean) (by decide +kernel) (bI_nar x) (bI_fit x) (Nat.le_of_ble_eq_true rfl) hdg (fun H1 locs1 hG1 => kk _ H1 locs1 (IP.upd (cell2 := cellC cI cT q kp Wn made fl num rfs root own tad (va_up trm k x) tpl wlk ord met msz cur mend pnx pen st coll mins movd) hC (3 * k + 9) (domC_t (r := 0) hk (by decide)) (fun i hi hn => ?_)) ?_)
  · rcases i with _|_|_|_|_|_|_|_|_|i <;> first | rfl | skip
    show thC cI cT q fl num rfs tad (va_up trm k x) tpl wlk ord (i % 3) (i / 3) = thC cI cT q fl num rfs tad trm tpl wlk ord (i % 3) (i / 3)
    rcases (show i % 3 = 0 ∨ i % 3 = 1 ∨ i % 3 = 2 by omega) with h | h | h
    · rw [h]
      have hne : i / 3 ≠ k := fun z => hn (by omega)
      simp only [thC, va_up, if_neg hne]
    · rw [h]; rfl
    · rw [h]; rfl
  · rw [h2]; exact hG1
theorem cg_RX9_114 (S : CallFix p m c cc nL s args wsL RX9) (hK : va_K (dC, dI) vwCl (tyL cI cZ cT) s) (hG : mG (dC, dI) vwCl A H0 w H locs) (hC : CW cI cT q kp Wn made fl num rfs root own tad trm tpl wlk ord met msz cur mend pnx pen st coll mins movd w) (k : Nat) (hk : k < made) (hdg : decode cc pc = .ok (.getfield 114, 3)) (kk : W p l e R s m args below meth c H locs cells slots Q (F0 m (pc + 3) ls (.int (nI (tad k)) :: rest))) : W p l e R s m args below meth c H locs cells slots Q (F0 m pc ls (.ref (tq q k) :: rest)) :=
  mw_get S inlX6 hK hG (hC.th hk) rfl 3 (by decide) in_590 (fun _ h9 => h9) rfl hdg kk
theorem cp_RX9_114 (S : CallFix p m c cc nL s args wsL RX9) (hK : va_K (dC, dI) vwCl (tyL cI cZ cT) s) (hG : mG (dC, dI) vwCl A H0 w H locs) (hC : CW cI cT q kp Wn made fl num rfs root own tad trm tpl wlk ord met msz cur mend pnx pen st coll mins movd w) (k : Nat) (hk : k < made) (x : Nat) (hdg : decode cc pc = .ok (.putfield 114, 3)) (kk : ∀ (w : mM) (H1 : Heap) (locs1 : List Loc), CW cI cT q kp Wn made fl num rfs root own (va_up tad k x) trm tpl wlk ord met msz cur mend pnx pen st coll mins movd w → mG (dC, dI) vwCl A H0 w H1 locs1 → W p l e R s m args below meth c H1 locs1 cells slots Q (F0 m (pc + 3) ls rest)) : W p l e R s m args below meth c H locs cells slots Q (F0 m pc ls (.int (nI x) :: .ref (tq q k) :: rest)) := by
  have h2 : cellC cI cT q kp Wn made fl num rfs root own (va_up tad k x) trm tpl wlk ord met msz cur mend pnx pen st coll mins movd (3 * k + 9) = .inr (5, [.int (nI k), .ref (q (3 * k + 10)), .ref (q (3 * k + 11)), .int (nI x), .int (bI (trm k)), .int (nI (tpl k)), .int (nI (wlk k)), .int (nI (ord k))]) := by
    have h1 : cellC cI cT q kp Wn made fl num rfs root own (va_up tad k x) trm tpl wlk ord met msz cur mend pnx pen st coll mins movd (3 * k + 9) = thC cI cT q fl num rfs (va_up tad k x) trm tpl wlk ord (3 * k % 3) (3 * k / 3) := rfl
    rw [h1, show 3 * k % 3 = 0 by omega, show 3 * k / 3 = k by omega]
    simp only [thC, va_up, if_true]
  refine mw_put S inlX6 tyX6 tyX6_ok nmX6 hK hG (hC.th hk) rfl 3 (by decide) in_590 (fun _ h9 => h9) rfl (ty := .int) (by decide +kernel) rfl rfl (Nat.le_of_ble_eq_true rfl) hdg (fun H1 locs1 hG1 => kk _ H1 locs1 (IP.upd (cell2 := cellC cI cT q kp Wn made fl num rfs root own (va_up tad k x) trm tpl wlk ord met msz cur mend pnx pen st coll mins movd) hC (3 * k + 9) (domC_t (r := 0) hk (by decide)) (fun i hi hn => ?_)) ?_)
  · rcases i with _|_|_|_|_|_|_|_|_|i <;> first | rfl | skip
    show thC cI cT q fl num rfs (va_up tad k x) trm tpl wlk ord (i % 3) (i / 3) = thC cI cT q fl num rfs tad trm tpl wlk ord (i % 3) (i / 3)
    rcases (show i % 3 = 0 ∨ i % 3 = 1 ∨ i % 3 = 2 by omega) with h | h | h
    · rw [h]
      have hne : i / 3 ≠ k := fun z => hn (by omega)
      simp only [thC, va_up, if_neg hne]
    · rw [h]; rfl
    · rw [h]; rfl
  · rw [h2]; exact hG1
theorem cg_RX9_132 (S : CallFix p m c cc nL s args wsL RX9) (hK : va_K (dC, dI) vwCl (tyL cI cZ cT) s) (hG : mG (dC, dI) vwCl A H0 w H locs) (hC : CW cI cT q kp Wn made fl num rfs root own tad trm tpl wlk ord met msz cur mend pnx pen st coll mins movd w) (hdg : decode cc pc = .ok (.getfield 132, 3)) (kk : W p l e R s m args below meth c H locs cells slots Q (F0 m (pc + 3) ls (.int (nI coll) :: rest))) : W p l e R s m args below meth c H locs cells slots Q (F0 m pc ls (.ref (q 5) :: rest)) := by
  have h := hC.kpr
  rcases kp with _ | _ | kp
  · exact mw_get S inlX5 hK hG h rfl 3 (by decide) in_610 (fun _ h9 => h9) rfl hdg kk
  · exact mw_get S inlX1 hK hG h rfl 3 (by decide) in_610 (fun _ h9 => h9) rfl hdg kk
  · exact mw_get S inlX0 hK hG h rfl 3 (by decide) in_610 (fun _ h9 => h9) rfl hdg kk
theorem cg_RX9_135 (S : CallFix p m c cc nL s args wsL RX9) (hK : va_K (dC, dI) vwCl (tyL cI cZ cT) s) (hG : mG (dC, dI) vwCl A H0 w H locs) (hC : CW cI cT q kp Wn made fl num rfs root own tad trm tpl wlk ord met msz cur mend pnx pen st coll mins movd w) (hdg : decode cc pc = .ok (.getfield 135, 3)) (kk : W p l e R s m args below meth c H locs cells slots Q (F0 m (pc + 3) ls (.int (nI mins) :: rest))) : W p l e R s m args below meth c H locs cells slots Q (F0 m pc ls (.ref (q 5) :: rest)) := by
  have h := hC.kpr
  rcases kp with _ | _ | kp
  · exact mw_get S inlX5 hK hG h rfl 4 (by decide) in_611 (fun _ h9 => h9) rfl hdg kk
  · exact mw_get S inlX1 hK hG h rfl 4 (by decide) in_611 (fun _ h9 => h9) rfl hdg kk
  · exact mw_get S inlX0 hK hG h rfl 4 (by decide) in_611 (fun _ h9 => h9) rfl hdg kk
theorem cg_RX9_138 (S : CallFix p m c cc nL s args wsL RX9) (hK : va_K (dC, dI) vwCl (tyL cI cZ cT) s) (hG : mG (dC, dI) vwCl A H0 w H locs) (hC : CW cI cT q kp Wn made fl num rfs root own tad trm tpl wlk ord met msz cur mend pnx pen st coll mins movd w) (hdg : decode cc pc = .ok (.getfield 138, 3)) (kk : W p l e R s m args below meth c H locs cells slots Q (F0 m (pc + 3) ls (.int (nI movd) :: rest))) : W p l e R s m args below meth c H locs cells slots Q (F0 m pc ls (.ref (q 5) :: rest)) := by
  have h := hC.kpr
  rcases kp with _ | _ | kp
  · exact mw_get S inlX5 hK hG h rfl 5 (by decide) in_612 (fun _ h9 => h9) rfl hdg kk
  · exact mw_get S inlX1 hK hG h rfl 5 (by decide) in_612 (fun _ h9 => h9) rfl hdg kk
  · exact mw_get S inlX0 hK hG h rfl 5 (by decide) in_612 (fun _ h9 => h9) rfl hdg kk
theorem cg_RX8_45 (S : CallFix p m c cc nL s args wsL RX8) (hK : va_K (dC, dI) vwCl (tyL cI cZ cT) s) (hG : mG (dC, dI) vwCl A H0 w H locs) (hC : CW cI cT q kp Wn made fl num rfs root own tad trm tpl wlk ord met msz cur mend pnx pen st coll mins movd w) (k : Nat) (hk : k < made) (hdg : decode cc pc = .ok (.getfield 45, 3)) (kk : W p l e R s m args below meth c H locs cells slots Q (F0 m (pc + 3) ls (.int (bI (trm k)) :: rest))) : W p l e R s m args below meth c H locs cells slots Q (F0 m pc ls (.ref (tq q k) :: rest)) :=
  mw_get S inlX6 hK hG (hC.th hk) rfl 4 (by decide) in_622 (fun _ h9 => h9) rfl hdg kk
theorem cp_RX8_45 (S : CallFix p m c cc nL s args wsL RX8) (hK : va_K (dC, dI) vwCl (tyL cI cZ cT) s) (hG : mG (dC, dI) vwCl A H0 w H locs) (hC : CW cI cT q kp Wn made fl num rfs root own tad trm tpl wlk ord met msz cur mend pnx pen st coll mins movd w) (k : Nat) (hk : k < made) (x : Bool) (hdg : decode cc pc = .ok (.putfield 45, 3)) (kk : ∀ (w : mM) (H1 : Heap) (locs1 : List Loc), CW cI cT q kp Wn made fl num rfs root own tad (va_up trm k x) tpl wlk ord met msz cur mend pnx pen st coll mins movd w → mG (dC, dI) vwCl A H0 w H1 locs1 → W p l e R s m args below meth c H1 locs1 cells slots Q (F0 m (pc + 3) ls rest)) : W p l e R s m args below meth c H locs cells slots Q (F0 m pc ls (.int (bI x) :: .ref (tq q k) :: rest)) := by
  have h2 : cellC cI cT q kp Wn made fl num rfs root own tad (va_up trm k x) tpl wlk ord met msz cur mend pnx pen st coll mins movd (3 * k + 9) = .inr (5, [.int (nI k), .ref (q (3 * k + 10)), .ref (q (3 * k + 11)), .int (nI (tad k)), .int (bI x), .int (nI (tpl k)), .int (nI (wlk k)), .int (nI (ord k))]) := by
    have h1 : cellC cI cT q kp Wn made fl num rfs root own tad (va_up trm k x) tpl wlk ord met msz cur mend pnx pen st coll mins movd (3 * k + 9) = thC cI cT q fl num rfs tad (va_up trm k x) tpl wlk ord (3 * k % 3) (3 * k / 3) := rfl
    rw [h1, show 3 * k % 3 = 0 by omega, show 3 * k / 3 = k by omega]
    simp only [thC, va_up, if_true]
  refine mw_put S inlX6 tyX6 tyX6_ok nmX6 hK hG (hC.th hk) rfl 4 (by decide) in_622 (fun _ h9 => h9) rfl (ty := .boolean) (by decide +kernel) (bI_nar x) (bI_fit x) (Nat.le_of_ble_eq_true rfl) hdg (fun H1 locs1 hG1 => kk _ H1 locs1 (IP.upd (cell2 := cellC cI cT q kp Wn made fl num rfs root own tad (va_up trm k x) tpl wlk ord met msz cur mend pnx pen st coll mins movd) hC (3 * k + 9) (domC_t (r := 0) hk (by decide)) (fun i hi hn => ?_)) ?_)
  · rcases i with _|_|_|_|_|_|_|_|_|i <;> first | rfl | skip
    show thC cI cT q fl num rfs tad (va_up trm k x) tpl wlk ord (i % 3) (i / 3) = thC cI cT q fl num rfs tad trm tpl wlk ord (i % 3) (i / 3)
    rcases (show i % 3 = 0 ∨ i % 3 = 1 ∨ i % 3 = 2 by omega) with h | h | h
    · rw [h]
      have hne : i / 3 ≠ k := fun z => hn (by omega)
      simp only [thC, va_up, if_neg hne]
    · rw [h]; rfl
    · rw [h]; rfl
  · rw [h2]; exact hG1
theorem cg_RX2_102 (S : CallFix p m c cc nL s args wsL RX2) (hK : va_K (dC, dI) vwCl (tyL cI cZ cT) s) (hG : mG (dC, dI) vwCl A H0 w H locs) (hC : CW cI cT q kp Wn made fl num rfs root own tad trm tpl wlk ord met msz cur mend pnx pen st coll mins movd w) (k : Nat) (hk : k < made) (hdg : decode cc pc = .ok (.getfield 102, 3)) (kk : W p l e R s m args below meth c H locs cells slots Q (F0 m (pc + 3) ls (.int (nI (ord k)) :: rest))) : W p l e R s m args below meth c H locs cells slots Q (F0 m pc ls (.ref (tq q k) :: rest)) :=
  mw_get S inlX6 hK hG (hC.th hk) rfl 7 (by decide) in_666 (fun _ h9 => h9) rfl hdg kk
theorem cp_RX2_102 (S : CallFix p m c cc nL s args wsL RX2) (hK : va_K (dC, dI) vwCl (tyL cI cZ cT) s) (hG : mG (dC, dI) vwCl A H0 w H locs) (hC : CW cI cT q kp Wn made fl num rfs root own tad trm tpl wlk ord met msz cur mend pnx pen st coll mins movd w) (k : Nat) (hk : k < made) (x : Nat) (hdg : decode cc pc = .ok (.putfield 102, 3)) (kk : ∀ (w : mM) (H1 : Heap) (locs1 : List Loc), CW cI cT q kp Wn made fl num rfs root own tad trm tpl wlk (va_up ord k x) met msz cur mend pnx pen st coll mins movd w → mG (dC, dI) vwCl A H0 w H1 locs1 → W p l e R s m args below meth c H1 locs1 cells slots Q (F0 m (pc + 3) ls rest)) : W p l e R s m args below meth c H locs cells slots Q (F0 m pc ls (.int (nI x) :: .ref (tq q k) :: rest)) := by
  have h2 : cellC cI cT q kp Wn made fl num rfs root own tad trm tpl wlk (va_up ord k x) met msz cur mend pnx pen st coll mins movd (3 * k + 9) = .inr (5, [.int (nI k), .ref (q (3 * k + 10)), .ref (q (3 * k + 11)), .int (nI (tad k)), .int (bI (trm k)), .int (nI (tpl k)), .int (nI (wlk k)), .int (nI x)]) := by
    have h1 : cellC cI cT q kp Wn made fl num rfs root own tad trm tpl wlk (va_up ord k x) met msz cur mend pnx pen st coll mins movd (3 * k + 9) = thC cI cT q fl num rfs tad trm tpl wlk (va_up ord k x) (3 * k % 3) (3 * k / 3) := rfl
    rw [h1, show 3 * k % 3 = 0 by omega, show 3 * k / 3 = k by omega]
    simp only [thC, va_up, if_true]
  refine mw_put S inlX6 tyX6 tyX6_ok nmX6 hK hG (hC.th hk) rfl 7 (by decide) in_666 (fun _ h9 => h9) rfl (ty := .int) (by decide +kernel) rfl rfl (Nat.le_of_ble_eq_true rfl) hdg (fun H1 locs1 hG1 => kk _ H1 locs1 (IP.upd (cell2 := cellC cI cT q kp Wn made fl num rfs root own tad trm tpl wlk (va_up ord k x) met msz cur mend pnx pen st coll mins movd) hC (3 * k + 9) (domC_t (r := 0) hk (by decide)) (fun i hi hn => ?_)) ?_)
  · rcases i with _|_|_|_|_|_|_|_|_|i <;> first | rfl | skip
    show thC cI cT q fl num rfs tad trm tpl wlk (va_up ord k x) (i % 3) (i / 3) = thC cI cT q fl num rfs tad trm tpl wlk ord (i % 3) (i / 3)
    rcases (show i % 3 = 0 ∨ i % 3 = 1 ∨ i % 3 = 2 by omega) with h | h | h
    · rw [h]
      have hne : i / 3 ≠ k := fun z => hn (by omega)
      simp only [thC, va_up, if_neg hne]
    · rw [h]; rfl
    · rw [h]; rfl
  · rw [h2]; exact hG1
theorem cl_own (S : CallFix p m c cc nL s args wsL ow) (hK : va_K (dC, dI) vwCl (tyL cI cZ cT) s) (hG : mG (dC, dI) vwCl A H0 w H locs) (hC : CW cI cT q kp Wn made fl num rfs root own tad trm tpl wlk ord met msz cur mend pnx pen st coll mins movd w) (j : Nat) (hj : j < Wn) (hW : Wn < 1000) (hdg : decode cc pc = .ok (.aaload, 1)) (kk : W p l e R s m args below meth c H locs cells slots Q (F0 m (pc + 1) ls (va_rf ((own j).map (tq q)) :: rest))) : W p l e R s m args below meth c H locs cells slots Q (F0 m pc ls (.int (nI j) :: .ref (q 2) :: rest)) := by
  refine mw_aald S hK hG 2 hC.aown rfl j hj (nI_clamp (by omega)) (nI_pos (by omega)) hdg ?_
  rw [if_pos hj]
  exact kk
theorem cs_own (S : CallFix p m c cc nL s args wsL ow) (hK : va_K (dC, dI) vwCl (tyL cI cZ cT) s) (hG : mG (dC, dI) vwCl A H0 w H locs) (hC : CW cI cT q kp Wn made fl num rfs root own tad trm tpl wlk ord met msz cur mend pnx pen st coll mins movd w) (j : Nat) (x : Option Nat) (hj : j < Wn) (hx : ∀ t, x = some t → t < made) (hW : Wn < 1000) (hdg : decode cc pc = .ok (.aastore, 1)) (kk : ∀ (w : mM) (H1 : Heap) (locs1 : List Loc), CW cI cT q kp Wn made fl num rfs root (va_up own j x) tad trm tpl wlk ord met msz cur mend pnx pen st coll mins movd w → mG (dC, dI) vwCl A H0 w H1 locs1 → W p l e R s m args below meth c H1 locs1 cells slots Q (F0 m (pc + 1) ls rest)) : W p l e R s m args below meth c H locs cells slots Q (F0 m pc ls (va_rf (x.map (tq q)) :: .int (nI j) :: .ref (q 2) :: rest)) :=
  mw_aastq S hK hG 2 5 (r := (RX6, TX6, 8)) hC.aown rfl (fun y hy => by cases x with | none => cases hy | some t => cases hy; exact ⟨_, hC.th (hx t rfl)⟩) rfl j hj (nI_clamp (by omega)) (nI_pos (by omega)) hdg (fun H1 locs1 hG1 => kk _ H1 locs1 (IP.upd (cell2 := cellC cI cT q kp Wn made fl num rfs root (va_up own j x) tad trm tpl wlk ord met msz cur mend pnx pen st coll mins movd) hC 2 (Or.inl (by decide)) (fun i hi hn => by rcases i with _|_|_|_|_|_|_|_|_|i <;> first | rfl | exact absurd rfl hn)) (by rw [up_trq Wn (tq q) own j hj x] at hG1; exact hG1))
theorem cn_own (S : CallFix p m c cc nL s args wsL ow) (hK : va_K (dC, dI) vwCl (tyL cI cZ cT) s) (hG : mG (dC, dI) vwCl A H0 w H locs) (hC : CW cI cT q kp Wn made fl num rfs root own tad trm tpl wlk ord met msz cur mend pnx pen st coll mins movd w) (hdg : decode cc pc = .ok (.arraylength, 1)) (kk : W p l e R s m args below meth c H locs cells slots Q (F0 m (pc + 1) ls (.int (nI Wn) :: rest))) : W p l e R s m args below meth c H locs cells slots Q (F0 m pc ls (.ref (q 2) :: rest)) :=
  mw_alen S hK hG 2 hC.aown rfl hdg kk
theorem cl_root (S : CallFix p m c cc nL s args wsL ow) (hK : va_K (dC, dI) vwCl (tyL cI cZ cT) s) (hG : mG (dC, dI) vwCl A H0 w H locs) (hC : CW cI cT q kp Wn made fl num rfs root own tad trm tpl wlk ord met msz cur mend pnx pen st coll mins movd w) (j : Nat) (hj : j < 16) (hW : Wn < 1000) (hdg : decode cc pc = .ok (.aaload, 1)) (kk : W p l e R s m args below meth c H locs cells slots Q (F0 m (pc + 1) ls (va_rf ((root j).map (tq q)) :: rest))) : W p l e R s m args below meth c H locs cells slots Q (F0 m pc ls (.int (nI j) :: .ref (q 4) :: rest)) := by
  refine mw_aald S hK hG 2 hC.aroot rfl j hj (nI_clamp (by omega)) (nI_pos (by omega)) hdg ?_
  rw [if_pos hj]
  exact kk
theorem cs_root (S : CallFix p m c cc nL s args wsL ow) (hK : va_K (dC, dI) vwCl (tyL cI cZ cT) s) (hG : mG (dC, dI) vwCl A H0 w H locs) (hC : CW cI cT q kp Wn made fl num rfs root own tad trm tpl wlk ord met msz cur mend pnx pen st coll mins movd w) (j : Nat) (x : Option Nat) (hj : j < 16) (hx : ∀ t, x = some t → t < made) (hW : Wn < 1000) (hdg : decode cc pc = .ok (.aastore, 1)) (kk : ∀ (w : mM) (H1 : Heap) (locs1 : List Loc), CW cI cT q kp Wn made fl num rfs (va_up root j x) own tad trm tpl wlk ord met msz cur mend pnx pen st coll mins movd w → mG (dC, dI) vwCl A H0 w H1 locs1 → W p l e R s m args below meth c H1 locs1 cells slots Q (F0 m (pc + 1) ls rest)) : W p l e R s m args below meth c H locs cells slots Q (F0 m pc ls (va_rf (x.map (tq q)) :: .int (nI j) :: .ref (q 4) :: rest)) :=
  mw_aastq S hK hG 2 5 (r := (RX6, TX6, 8)) hC.aroot rfl (fun y hy => by cases x with | none => cases hy | some t => cases hy; exact ⟨_, hC.th (hx t rfl)⟩) rfl j hj (nI_clamp (by omega)) (nI_pos (by omega)) hdg (fun H1 locs1 hG1 => kk _ H1 locs1 (IP.upd (cell2 := cellC cI cT q kp Wn made fl num rfs (va_up root j x) own tad trm tpl wlk ord met msz cur mend pnx pen st coll mins movd) hC 4 (Or.inl (by decide)) (fun i hi hn => by rcases i with _|_|_|_|_|_|_|_|_|i <;> first | rfl | exact absurd rfl hn)) (by rw [up_trq 16 (tq q) root j hj x] at hG1; exact hG1))
theorem cn_root (S : CallFix p m c cc nL s args wsL ow) (hK : va_K (dC, dI) vwCl (tyL cI cZ cT) s) (hG : mG (dC, dI) vwCl A H0 w H locs) (hC : CW cI cT q kp Wn made fl num rfs root own tad trm tpl wlk ord met msz cur mend pnx pen st coll mins movd w) (hdg : decode cc pc = .ok (.arraylength, 1)) (kk : W p l e R s m args below meth c H locs cells slots Q (F0 m (pc + 1) ls (.int (nI 16) :: rest))) : W p l e R s m args below meth c H locs cells slots Q (F0 m pc ls (.ref (q 4) :: rest)) :=
  mw_alen S hK hG 2 hC.aroot rfl hdg kk
theorem cl_met (S : CallFix p m c cc nL s args wsL ow) (hK : va_K (dC, dI) vwCl (tyL cI cZ cT) s) (hG : mG (dC, dI) vwCl A H0 w H locs) (hC : CW cI cT q kp Wn made fl num rfs root own tad trm tpl wlk ord met msz cur mend pnx pen st coll mins movd w) (j : Nat) (hj : j < Wn) (hW : Wn < 1000) (hdg : decode cc pc = .ok (.aaload, 1)) (kk : W p l e R s m args below meth c H locs cells slots Q (F0 m (pc + 1) ls (va_rf ((met j).map (tq q)) :: rest))) : W p l e R s m args below meth c H locs cells slots Q (F0 m pc ls (.int (nI j) :: .ref (q 7) :: rest)) := by
  refine mw_aald S hK hG 2 hC.amet rfl j hj (nI_clamp (by omega)) (nI_pos (by omega)) hdg ?_
  rw [if_pos hj]
  exact kk
theorem cs_met (S : CallFix p m c cc nL s args wsL ow) (hK : va_K (dC, dI) vwCl (tyL cI cZ cT) s) (hG : mG (dC, dI) vwCl A H0 w H locs) (hC : CW cI cT q kp Wn made fl num rfs root own tad trm tpl wlk ord met msz cur mend pnx pen st coll mins movd w) (j : Nat) (x : Option Nat) (hj : j < Wn) (hx : ∀ t, x = some t → t < made) (hW : Wn < 1000) (hdg : decode cc pc = .ok (.aastore, 1)) (kk : ∀ (w : mM) (H1 : Heap) (locs1 : List Loc), CW cI cT q kp Wn made fl num rfs root own tad trm tpl wlk ord (va_up met j x) msz cur mend pnx pen st coll mins movd w → mG (dC, dI) vwCl A H0 w H1 locs1 → W p l e R s m args below meth c H1 locs1 cells slots Q (F0 m (pc + 1) ls rest)) : W p l e R s m args below meth c H locs cells slots Q (F0 m pc ls (va_rf (x.map (tq q)) :: .int (nI j) :: .ref (q 7) :: rest)) :=
  mw_aastq S hK hG 2 5 (r := (RX6, TX6, 8)) hC.amet rfl (fun y hy => by cases x with | none => cases hy | some t => cases hy; exact ⟨_, hC.th (hx t rfl)⟩) rfl j hj (nI_clamp (by omega)) (nI_pos (by omega)) hdg (fun H1 locs1 hG1 => kk _ H1 locs1 (IP.upd (cell2 := cellC cI cT q kp Wn made fl num rfs root own tad trm tpl wlk ord (va_up met j x) msz cur mend pnx pen st coll mins movd) hC 7 (Or.inl (by decide)) (fun i hi hn => by rcases i with _|_|_|_|_|_|_|_|_|i <;> first | rfl | exact absurd rfl hn)) (by rw [up_trq Wn (tq q) met j hj x] at hG1; exact hG1))
theorem cn_met (S : CallFix p m c cc nL s args wsL ow) (hK : va_K (dC, dI) vwCl (tyL cI cZ cT) s) (hG : mG (dC, dI) vwCl A H0 w H locs) (hC : CW cI cT q kp Wn made fl num rfs root own tad trm tpl wlk ord met msz cur mend pnx pen st coll mins movd w) (hdg : decode cc pc = .ok (.arraylength, 1)) (kk : W p l e R s m args below meth c H locs cells slots Q (F0 m (pc + 1) ls (.int (nI Wn) :: rest))) : W p l e R s m args below meth c H locs cells slots Q (F0 m pc ls (.ref (q 7) :: rest)) :=
  mw_alen S hK hG 2 hC.amet rfl hdg kk
theorem cl_num (S : CallFix p m c cc nL s args wsL ow) (hK : va_K (dC, dI) vwCl (tyL cI cZ cT) s) (hG : mG (dC, dI) vwCl A H0 w H locs) (hC : CW cI cT q kp Wn made fl num rfs root own tad trm tpl wlk ord met msz cur mend pnx pen st coll mins movd w) (k j : Nat) (hk : k < made) (hj : j < fl k) (hf : fl k ≤ 6) (hdg : decode cc pc = .ok (.iaload, 1)) (kk : W p l e R s m args below meth c H locs cells slots Q (F0 m (pc + 1) ls (.int (num k j) :: rest))) : W p l e R s m args below meth c H locs cells slots Q (F0 m pc ls (.int (nI j) :: .ref (q (3 * k + 10)) :: rest)) :=
  mw_iald S hK hG 0 (hC.thn hk) rfl j hj (nI_clamp (by omega)) (nI_pos (by omega)) hdg kk
theorem cl_rfs (S : CallFix p m c cc nL s args wsL ow) (hK : va_K (dC, dI) vwCl (tyL cI cZ cT) s) (hG : mG (dC, dI) vwCl A H0 w H locs) (hC : CW cI cT q kp Wn made fl num rfs root own tad trm tpl wlk ord met msz cur mend pnx pen st coll mins movd w) (k j : Nat) (hk : k < made) (hj : j < fl k) (hf : fl k ≤ 6) (hdg : decode cc pc = .ok (.aaload, 1)) (kk : W p l e R s m args below meth c H locs cells slots Q (F0 m (pc + 1) ls (va_rf ((rfs k j).map (tq q)) :: rest))) : W p l e R s m args below meth c H locs cells slots Q (F0 m pc ls (.int (nI j) :: .ref (q (3 * k + 11)) :: rest)) :=
  mw_aald S hK hG 2 (hC.tht hk) rfl j hj (nI_clamp (by omega)) (nI_pos (by omega)) hdg kk
theorem cn_num (S : CallFix p m c cc nL s args wsL ow) (hK : va_K (dC, dI) vwCl (tyL cI cZ cT) s) (hG : mG (dC, dI) vwCl A H0 w H locs) (hC : CW cI cT q kp Wn made fl num rfs root own tad trm tpl wlk ord met msz cur mend pnx pen st coll mins movd w) (k : Nat) (hk : k < made) (hdg : decode cc pc = .ok (.arraylength, 1)) (kk : W p l e R s m args below meth c H locs cells slots Q (F0 m (pc + 1) ls (.int (nI (fl k)) :: rest))) : W p l e R s m args below meth c H locs cells slots Q (F0 m pc ls (.ref (q (3 * k + 10)) :: rest)) :=
  mw_alen S hK hG 0 (hC.thn hk) rfl hdg kk
theorem cn_rfs (S : CallFix p m c cc nL s args wsL ow) (hK : va_K (dC, dI) vwCl (tyL cI cZ cT) s) (hG : mG (dC, dI) vwCl A H0 w H locs) (hC : CW cI cT q kp Wn made fl num rfs root own tad trm tpl wlk ord met msz cur mend pnx pen st coll mins movd w) (k : Nat) (hk : k < made) (hdg : decode cc pc = .ok (.arraylength, 1)) (kk : W p l e R s m args below meth c H locs cells slots Q (F0 m (pc + 1) ls (.int (nI (fl k)) :: rest))) : W p l e R s m args below meth c H locs cells slots Q (F0 m pc ls (.ref (q (3 * k + 11)) :: rest)) :=
  mw_alen S hK hG 2 (hC.tht hk) rfl hdg kk
theorem cs_num (S : CallFix p m c cc nL s args wsL ow) (hK : va_K (dC, dI) vwCl (tyL cI cZ cT) s) (hG : mG (dC, dI) vwCl A H0 w H locs) (hC : CW cI cT q kp Wn made fl num rfs root own tad trm tpl wlk ord met msz cur mend pnx pen st coll mins movd w) (k j : Nat) (x : Int32) (hk : k < made) (hj : j < fl k) (hf : fl k ≤ 6) (hdg : decode cc pc = .ok (.iastore, 1)) (kk : ∀ (w : mM) (H1 : Heap) (locs1 : List Loc), CW cI cT q kp Wn made fl (up2 num k j x) rfs root own tad trm tpl wlk ord met msz cur mend pnx pen st coll mins movd w → mG (dC, dI) vwCl A H0 w H1 locs1 → W p l e R s m args below meth c H1 locs1 cells slots Q (F0 m (pc + 1) ls rest)) : W p l e R s m args below meth c H locs cells slots Q (F0 m pc ls (.int x :: .int (nI j) :: .ref (q (3 * k + 10)) :: rest)) := by
  have h2 : cellC cI cT q kp Wn made fl (up2 num k j x) rfs root own tad trm tpl wlk ord met msz cur mend pnx pen st coll mins movd (3 * k + 10) = .inl (cI, fl k, .inl (fun i => (up2 num k j x) k i)) := by
    have h1 : cellC cI cT q kp Wn made fl (up2 num k j x) rfs root own tad trm tpl wlk ord met msz cur mend pnx pen st coll mins movd (3 * k + 10) = thC cI cT q fl (up2 num k j x) rfs tad trm tpl wlk ord ((3 * k + 1) % 3) ((3 * k + 1) / 3) := rfl
    rw [h1, show (3 * k + 1) % 3 = 1 by omega, show (3 * k + 1) / 3 = k by omega]
    rfl
  refine mw_iast S hK hG 0 (hC.thn hk) rfl j hj (nI_clamp (by omega)) (nI_pos (by omega)) hdg (fun H1 locs1 hG1 => kk _ H1 locs1 (IP.upd (cell2 := cellC cI cT q kp Wn made fl (up2 num k j x) rfs root own tad trm tpl wlk ord met msz cur mend pnx pen st coll mins movd) hC (3 * k + 10) (domC_t (r := 1) hk (by decide)) (fun i hi hn => ?_)) ?_)
  · rcases i with _|_|_|_|_|_|_|_|_|i <;> first | rfl | skip
    show thC cI cT q fl (up2 num k j x) rfs tad trm tpl wlk ord (i % 3) (i / 3) = thC cI cT q fl num rfs tad trm tpl wlk ord (i % 3) (i / 3)
    rcases (show i % 3 = 0 ∨ i % 3 = 1 ∨ i % 3 = 2 by omega) with h | h | h
    · rw [h]; rfl
    · rw [h]
      have hne : i / 3 ≠ k := fun z => hn (by omega)
      simp only [thC, up2, hne, false_and, if_false]
    · rw [h]
      rfl
  · rw [h2]
    have h3 : va_up (fun i => num k i) j x = fun i => (up2 num k j x) k i := by
      funext i
      simp only [va_up, up2, true_and]
    rw [h3] at hG1
    exact hG1
theorem cs_rfs (S : CallFix p m c cc nL s args wsL ow) (hK : va_K (dC, dI) vwCl (tyL cI cZ cT) s) (hG : mG (dC, dI) vwCl A H0 w H locs) (hC : CW cI cT q kp Wn made fl num rfs root own tad trm tpl wlk ord met msz cur mend pnx pen st coll mins movd w) (k j : Nat) (x : Option Nat) (hk : k < made) (hj : j < fl k) (hf : fl k ≤ 6) (hx : ∀ t, x = some t → t < made) (hdg : decode cc pc = .ok (.aastore, 1)) (kk : ∀ (w : mM) (H1 : Heap) (locs1 : List Loc), CW cI cT q kp Wn made fl num (up2 rfs k j x) root own tad trm tpl wlk ord met msz cur mend pnx pen st coll mins movd w → mG (dC, dI) vwCl A H0 w H1 locs1 → W p l e R s m args below meth c H1 locs1 cells slots Q (F0 m (pc + 1) ls rest)) : W p l e R s m args below meth c H locs cells slots Q (F0 m pc ls (va_rf (x.map (tq q)) :: .int (nI j) :: .ref (q (3 * k + 11)) :: rest)) := by
  have h2 : cellC cI cT q kp Wn made fl num (up2 rfs k j x) root own tad trm tpl wlk ord met msz cur mend pnx pen st coll mins movd (3 * k + 11) = .inl (cT, fl k, .inr (.inr (.inr (.inr (fun i => ((up2 rfs k j x) k i).map (tq q)))))) := by
    have h1 : cellC cI cT q kp Wn made fl num (up2 rfs k j x) root own tad trm tpl wlk ord met msz cur mend pnx pen st coll mins movd (3 * k + 11) = thC cI cT q fl num (up2 rfs k j x) tad trm tpl wlk ord ((3 * k + 2) % 3) ((3 * k + 2) / 3) := rfl
    rw [h1, show (3 * k + 2) % 3 = 2 by omega, show (3 * k + 2) / 3 = k by omega]
    rfl
  refine mw_aastq S hK hG 2 5 (r := (RX6, TX6, 8)) (hC.tht hk) rfl (fun y hy => by cases x with | none => cases hy | some t => cases hy; exact ⟨_, hC.th (hx t rfl)⟩) rfl j hj (nI_clamp (by omega)) (nI_pos (by omega)) hdg (fun H1 locs1 hG1 => kk _ H1 locs1 (IP.upd (cell2 := cellC cI cT q kp Wn made fl num (up2 rfs k j x) root own tad trm tpl wlk ord met msz cur mend pnx pen st coll mins movd) hC (3 * k + 11) (domC_t (r := 2) hk (by decide)) (fun i hi hn => ?_)) ?_)
  · rcases i with _|_|_|_|_|_|_|_|_|i <;> first | rfl | skip
    show thC cI cT q fl num (up2 rfs k j x) tad trm tpl wlk ord (i % 3) (i / 3) = thC cI cT q fl num rfs tad trm tpl wlk ord (i % 3) (i / 3)
    rcases (show i % 3 = 0 ∨ i % 3 = 1 ∨ i % 3 = 2 by omega) with h | h | h
    · rw [h]; rfl
    · rw [h]
      rfl
    · rw [h]
      have hne : i / 3 ≠ k := fun z => hn (by omega)
      simp only [thC, up2, hne, false_and, if_false]
  · rw [h2]
    have h3 : va_up (fun i => (rfs k i).map (tq q)) j (x.map (tq q)) = fun i => ((up2 rfs k j x) k i).map (tq q) := by
      funext i
      simp only [va_up, up2, true_and]
      split <;> rfl
    rw [h3] at hG1
    exact hG1
end CC
end
section
/-! references that may be null: loads, stores, tests -/
section LWQ
variable {p : Program} {l : Launch} {e : Env} {R : Room} {s : State} {m : MethodId} {args : Array Value} {below : List Frame} {meth : Method} {c : Code} {H : Heap} {locs : List Loc} {cells slots : Nat} {Q : State → Prop} {cc : ByteArray} {pc : Nat} {ls : Array Slot} {rest : List Value}
theorem lw_aload_n (hexec : p.tables.exec = Jvm.exec) (hb : c.code = cc) {k : Fin 4} {i : Nat} {x : Option Nat} (hdg : decode cc pc = .ok (.aload_n k, 1)) (hi : (k : Nat) = i) (hl : ls[i]? = some (.val (va_rf x))) (kk : W p l e R s m args below meth c H locs cells slots Q (F0 m (pc + 1) ls (va_rf x :: rest))) : W p l e R s m args below meth c H locs cells slots Q (F0 m pc ls rest) := by
  cases x with
  | none => exact lv_aload_nN hexec hb hdg hi hl kk
  | some a => exact lv_aload_n hexec hb hdg hi hl kk
theorem lw_aload (hexec : p.tables.exec = Jvm.exec) (hb : c.code = cc) {i : Nat} {x : Option Nat} (hdg : decode cc pc = .ok (.aload i, 2)) (hl : ls[i]? = some (.val (va_rf x))) (kk : W p l e R s m args below meth c H locs cells slots Q (F0 m (pc + 2) ls (va_rf x :: rest))) : W p l e R s m args below meth c H locs cells slots Q (F0 m pc ls rest) := by
  cases x with
  | none => exact lv_aloadN hexec hb hdg hl kk
  | some a => exact lv_aload hexec hb hdg hl kk
theorem lw_astore_n (hexec : p.tables.exec = Jvm.exec) (hb : c.code = cc) {k : Fin 4} {i nL : Nat} {x : Option Nat} {lv lv' : List (Nat × Value)} (hdg : decode cc pc = .ok (.astore_n k, 1)) (hi : (k : Nat) = i) (h : lv_has ls nL lv) (hn : i < nL) (hl : (i, va_rf x) :: lv.filter (fun q => !(q.1 == i) && !(q.1 + 1 == i && q.2.category == 2)) = lv')
    (kk : ∀ ls : Array Slot, lv_has ls nL lv' → W p l e R s m args below meth c H locs cells slots Q (F0 m (pc + 1) ls rest)) : W p l e R s m args below meth c H locs cells slots Q (F0 m pc ls (va_rf x :: rest)) := by
  cases x with
  | none => exact lv_astore_nN hexec hb hdg hi h hn hl kk
  | some a => exact lv_astore_n hexec hb hdg hi h hn hl kk
theorem lw_astore (hexec : p.tables.exec = Jvm.exec) (hb : c.code = cc) {i nL : Nat} {x : Option Nat} {lv lv' : List (Nat × Value)} (hdg : decode cc pc = .ok (.astore i, 2)) (h : lv_has ls nL lv) (hn : i < nL) (hl : (i, va_rf x) :: lv.filter (fun q => !(q.1 == i) && !(q.1 + 1 == i && q.2.category == 2)) = lv')
    (kk : ∀ ls : Array Slot, lv_has ls nL lv' → W p l e R s m args below meth c H locs cells slots Q (F0 m (pc + 2) ls rest)) : W p l e R s m args below meth c H locs cells slots Q (F0 m pc ls (va_rf x :: rest)) := by
  cases x with
  | none => exact lv_astoreN hexec hb hdg h hn hl kk
  | some a => exact lv_astore hexec hb hdg h hn hl kk
theorem lw_ifnull (hexec : p.tables.exec = Jvm.exec) (hb : c.code = cc) {x : Option Nat} {g : Nat → Nat} {off : Int} {tgt : Nat} (hdg : decode cc pc = .ok (.ifnull off, 3)) (ht : (pc : Int) + off = (tgt : Int)) (k1 : x = none → W p l e R s m args below meth c H locs cells slots Q (F0 m tgt ls rest)) (k2 : ∀ t, x = some t → W p l e R s m args below meth c H locs cells slots Q (F0 m (pc + 3) ls rest)) : W p l e R s m args below meth c H locs cells slots Q (F0 m pc ls (va_rf (x.map g) :: rest)) := by
  cases x with
  | none => exact lv_ifnullN hexec hb hdg ht (k1 rfl)
  | some a => exact lv_ifnull hexec hb hdg (k2 a rfl)
theorem lw_ifnonnull (hexec : p.tables.exec = Jvm.exec) (hb : c.code = cc) {x : Option Nat} {g : Nat → Nat} {off : Int} {tgt : Nat} (hdg : decode cc pc = .ok (.ifnonnull off, 3)) (ht : (pc : Int) + off = (tgt : Int)) (k1 : x = none → W p l e R s m args below meth c H locs cells slots Q (F0 m (pc + 3) ls rest)) (k2 : ∀ t, x = some t → W p l e R s m args below meth c H locs cells slots Q (F0 m tgt ls rest)) : W p l e R s m args below meth c H locs cells slots Q (F0 m pc ls (va_rf (x.map g) :: rest)) := by
  cases x with
  | none => exact lv_ifnonnullN hexec hb hdg (k1 rfl)
  | some a => exact lv_ifnonnull hexec hb hdg ht (k2 a rfl)
end LWQ
theorem max0 {a : Nat} (h : a < 2147483648) : (if nI 0 < nI a then nI a else nI 0) = nI a := by
  by_cases h0 : a = 0
  · subst h0; rw [ite_self]
  · rw [if_pos ((nI_ltI (by decide) h).mpr (by omega))]
theorem minW {a b : Nat} (h : b ≤ a) (ha : a < 2147483648) : (if nI b < nI a then nI b else nI a) = nI b := by
  by_cases h0 : a = b
  · subst h0; rw [ite_self]
  · rw [if_pos ((nI_ltI (by omega) ha).mpr (by omega))]
/-- the object that begins at a word -/
def bgn (own : Nat → Option Nat) (tad : Nat → Nat) (k : Nat) : Option Nat := match own k with
  | none => none
  | some t => if tad t = k then some t else none
theorem bgn_n {own : Nat → Option Nat} {tad : Nat → Nat} {k : Nat} (h : own k = none) : bgn own tad k = none := by unfold bgn; rw [h]
theorem bgn_s {own : Nat → Option Nat} {tad : Nat → Nat} {k t : Nat} (h : own k = some t) (h2 : tad t = k) : bgn own tad k = some t := by unfold bgn; rw [h]; simp only [if_pos h2]
theorem bgn_x {own : Nat → Option Nat} {tad : Nat → Nat} {k t : Nat} (h : own k = some t) (h2 : ¬ tad t = k) : bgn own tad k = none := by unfold bgn; rw [h]; simp only [if_neg h2]
theorem bgn_own {own : Nat → Option Nat} {tad : Nat → Nat} {k t : Nat} (h : bgn own tad k = some t) : own k = some t ∧ tad t = k := by
  unfold bgn at h
  split at h
  · cases h
  · rename_i u hu
    split at h
    · cases h; rename_i h2; exact ⟨hu, h2⟩
    · cases h
theorem rf_cat (x : Option Nat) : (va_rf x).category = 1 := by cases x <;> rfl
end
section
theorem cal_X6_fields : mCal yX6_fields cX6_fields 1 0 (some .int) := ⟨in_228, by decide +kernel⟩
set_option maxHeartbeats 4000000 in
set_option maxRecDepth 100000 in
theorem t_fields {l : Launch} {dC : Nat → ClassId} {dI : Nat → Nat → Nat} {cI cZ cT : ClassId} {q : Nat → Nat} {kp : Nat} {Wn : Nat} {made : Nat} {fl : (Nat → Nat)} {num : (Nat → Nat → Int32)} {rfs : (Nat → Nat → Option Nat)} {root : (Nat → Option Nat)} {own : (Nat → Option Nat)} {tad : (Nat → Nat)} {trm : (Nat → Bool)} {tpl : (Nat → Nat)} {wlk : (Nat → Nat)} {ord : (Nat → Nat)} {met : (Nat → Option Nat)} {msz : Nat} {cur : Nat} {mend : Nat} {pnx : Nat} {pen : Nat} {st : Nat} {coll : Nat} {mins : Nat} {movd : Nat} {w : mM} (hC : CW cI cT q kp Wn made fl num rfs root own tad trm tpl wlk ord met msz cur mend pnx pen st coll mins movd w) (k : Nat) (hk : k < made) : mC l yX6_fields (wsY yX6_fields cX6_fields 1 (some .int)) { frames := 0, cells := 0, slots := 0, locals := 0 } (dC, dI) vwCl (tyL cI cZ cT) 0 0 w [.ref (tq q k)] (fun v w2 => v = some (.int (nI (fl k))) ∧ w2 = w) := by
  refine mC.on (by decide) (Nat.le_of_ble_eq_true rfl) ?_
  intro p e s m args below meth c ls S hr hlk hnm hK hN hG hl
  have hl : lv_has ls 1 [(0, .ref (tq q k))] := hl
  generalize hAe : mA w s.heap.size = A at hG ⊢
  refine lv_aload_n S.1 S.2.1 dX6_fields_0 rfl (lv_at hl 0 rfl) ?_
  refine cg_RX6_19 S hK hG hC (k) (by omega) dX6_fields_1 ?_
  refine cn_num S hK hG hC (k) (by omega) dX6_fields_4 ?_
  exact mw_iret S hr hlk hK hG dX6_fields_5 ⟨rfl, rfl⟩
theorem cal_X6_size : mCal yX6_size cX6_size 1 0 (some .int) := ⟨in_256, by decide +kernel⟩
set_option maxHeartbeats 4000000 in
set_option maxRecDepth 100000 in
theorem t_size {l : Launch} {dC : Nat → ClassId} {dI : Nat → Nat → Nat} {cI cZ cT : ClassId} {q : Nat → Nat} {kp : Nat} {Wn : Nat} {made : Nat} {fl : (Nat → Nat)} {num : (Nat → Nat → Int32)} {rfs : (Nat → Nat → Option Nat)} {root : (Nat → Option Nat)} {own : (Nat → Option Nat)} {tad : (Nat → Nat)} {trm : (Nat → Bool)} {tpl : (Nat → Nat)} {wlk : (Nat → Nat)} {ord : (Nat → Nat)} {met : (Nat → Option Nat)} {msz : Nat} {cur : Nat} {mend : Nat} {pnx : Nat} {pen : Nat} {st : Nat} {coll : Nat} {mins : Nat} {movd : Nat} {w : mM} (hC : CW cI cT q kp Wn made fl num rfs root own tad trm tpl wlk ord met msz cur mend pnx pen st coll mins movd w) (k : Nat) (hk : k < made) : mC l yX6_size (wsY yX6_size cX6_size 1 (some .int)) { frames := 0, cells := 0, slots := 0, locals := 0 } (dC, dI) vwCl (tyL cI cZ cT) 0 0 w [.ref (tq q k)] (fun v w2 => v = some (.int (nI (fl k + 1))) ∧ w2 = w) := by
  refine mC.on (by decide) (Nat.le_of_ble_eq_true rfl) ?_
  intro p e s m args below meth c ls S hr hlk hnm hK hN hG hl
  have hl : lv_has ls 1 [(0, .ref (tq q k))] := hl
  generalize hAe : mA w s.heap.size = A at hG ⊢
  refine lv_aload_n S.1 S.2.1 dX6_size_0 rfl (lv_at hl 0 rfl) ?_
  refine cg_RX6_19 S hK hG hC (k) (by omega) dX6_size_1 ?_
  refine cn_num S hK hG hC (k) (by omega) dX6_size_4 ?_
  refine lv_iconst (v := nI (1)) S.1 S.2.1 dX6_size_5 (by decide) ?_
  refine lv_iadd S.1 S.2.1 dX6_size_6 ?_
  refine lv_eqi (nI_add _ _) ?_
  exact mw_iret S hr hlk hK hG dX6_size_7 ⟨rfl, rfl⟩
theorem cal_X6_has : mCal yX6_has cX6_has 2 1 (some .boolean) := ⟨in_469, by decide +kernel⟩
set_option maxHeartbeats 4000000 in
set_option maxRecDepth 100000 in
theorem t_has {l : Launch} {dC : Nat → ClassId} {dI : Nat → Nat → Nat} {cI cZ cT : ClassId} {q : Nat → Nat} {kp : Nat} {Wn : Nat} {made : Nat} {fl : (Nat → Nat)} {num : (Nat → Nat → Int32)} {rfs : (Nat → Nat → Option Nat)} {root : (Nat → Option Nat)} {own : (Nat → Option Nat)} {tad : (Nat → Nat)} {trm : (Nat → Bool)} {tpl : (Nat → Nat)} {wlk : (Nat → Nat)} {ord : (Nat → Nat)} {met : (Nat → Option Nat)} {msz : Nat} {cur : Nat} {mend : Nat} {pnx : Nat} {pen : Nat} {st : Nat} {coll : Nat} {mins : Nat} {movd : Nat} {w : mM} (hC : CW cI cT q kp Wn made fl num rfs root own tad trm tpl wlk ord met msz cur mend pnx pen st coll mins movd w) (k : Nat) (hk : k < made) (hf : fl k ≤ 6) (x : Int32) : mC l yX6_has (wsY yX6_has cX6_has 2 (some .boolean)) { frames := 0, cells := 0, slots := 0, locals := 0 } (dC, dI) vwCl (tyL cI cZ cT) 0 0 w [.ref (tq q k), .int (x)] (fun v w2 => v = some (.int (bI (inR (fl k) x))) ∧ w2 = w) := by
  refine mC.on (by decide) (Nat.le_of_ble_eq_true rfl) ?_
  intro p e s m args below meth c ls S hr hlk hnm hK hN hG hl
  have hl : lv_has ls 2 [(0, .ref (tq q k)), (1, .int (x))] := hl
  generalize hAe : mA w s.heap.size = A at hG ⊢
  refine lv_iload_n S.1 S.2.1 dX6_has_0 rfl (lv_at hl 1 rfl) ?_
  refine lv_if_lt (tgt := 17) S.1 S.2.1 dX6_has_1 (by decide) (fun c1 => ?_) (fun c1 => ?_)
  · refine lv_iconst (v := nI (0)) S.1 S.2.1 dX6_has_17 (by decide) ?_
    exact mw_zret S hr (by decide) hlk hK hG dX6_has_18 ⟨by rw [inR_lo c1]; rfl, rfl⟩
  · refine lv_iload_n S.1 S.2.1 dX6_has_4 rfl (lv_at hl 1 rfl) ?_
    refine lv_aload_n S.1 S.2.1 dX6_has_5 rfl (lv_at hl 0 rfl) ?_
    refine cg_RX6_19 S hK hG hC (k) (by omega) dX6_has_6 ?_
    refine cn_num S hK hG hC (k) (by omega) dX6_has_9 ?_
    refine lv_icmp_ge (tgt := 17) S.1 S.2.1 dX6_has_10 (by decide) (fun c2 => ?_) (fun c2 => ?_)
    · refine lv_iconst (v := nI (0)) S.1 S.2.1 dX6_has_17 (by decide) ?_
      exact mw_zret S hr (by decide) hlk hK hG dX6_has_18 ⟨by rw [inR_hi (by omega) c2]; rfl, rfl⟩
    · refine lv_iconst (v := nI (1)) S.1 S.2.1 dX6_has_13 (by decide) ?_
      refine lv_goto (tgt := 18) S.1 S.2.1 dX6_has_14 (by decide) ?_
      exact mw_zret S hr (by decide) hlk hK hG dX6_has_18 ⟨by rw [inR_t (by omega) c1 c2]; rfl, rfl⟩
theorem cal_X4_has : mCal yX4_has cX4_has 2 1 (some .boolean) := ⟨in_147, by decide +kernel⟩
set_option maxHeartbeats 4000000 in
set_option maxRecDepth 100000 in
theorem o_has {l : Launch} {dC : Nat → ClassId} {dI : Nat → Nat → Nat} {cI cZ cT : ClassId} {q : Nat → Nat} {kp : Nat} {Wn : Nat} {made : Nat} {fl : (Nat → Nat)} {num : (Nat → Nat → Int32)} {rfs : (Nat → Nat → Option Nat)} {root : (Nat → Option Nat)} {own : (Nat → Option Nat)} {tad : (Nat → Nat)} {trm : (Nat → Bool)} {tpl : (Nat → Nat)} {wlk : (Nat → Nat)} {ord : (Nat → Nat)} {met : (Nat → Option Nat)} {msz : Nat} {cur : Nat} {mend : Nat} {pnx : Nat} {pen : Nat} {st : Nat} {coll : Nat} {mins : Nat} {movd : Nat} {w : mM} (hC : CW cI cT q kp Wn made fl num rfs root own tad trm tpl wlk ord met msz cur mend pnx pen st coll mins movd w) (x : Int32) : mC l yX4_has (wsY yX4_has cX4_has 2 (some .boolean)) { frames := 0, cells := 0, slots := 0, locals := 0 } (dC, dI) vwCl (tyL cI cZ cT) 0 0 w [.ref (q 3), .int (x)] (fun v w2 => v = some (.int (bI (inR 16 x))) ∧ w2 = w) := by
  refine mC.on (by decide) (Nat.le_of_ble_eq_true rfl) ?_
  intro p e s m args below meth c ls S hr hlk hnm hK hN hG hl
  have hl : lv_has ls 2 [(0, .ref (q 3)), (1, .int (x))] := hl
  generalize hAe : mA w s.heap.size = A at hG ⊢
  refine lv_iload_n S.1 S.2.1 dX4_has_0 rfl (lv_at hl 1 rfl) ?_
  refine lv_if_lt (tgt := 17) S.1 S.2.1 dX4_has_1 (by decide) (fun c1 => ?_) (fun c1 => ?_)
  · refine lv_iconst (v := nI (0)) S.1 S.2.1 dX4_has_17 (by decide) ?_
    exact mw_zret S hr (by decide) hlk hK hG dX4_has_18 ⟨by rw [inR_lo c1]; rfl, rfl⟩
  · refine lv_iload_n S.1 S.2.1 dX4_has_4 rfl (lv_at hl 1 rfl) ?_
    refine lv_aload_n S.1 S.2.1 dX4_has_5 rfl (lv_at hl 0 rfl) ?_
    refine cg_RX4_11 S hK hG hC dX4_has_6 ?_
    refine cn_root S hK hG hC dX4_has_9 ?_
    refine lv_icmp_ge (tgt := 17) S.1 S.2.1 dX4_has_10 (by decide) (fun c2 => ?_) (fun c2 => ?_)
    · refine lv_iconst (v := nI (0)) S.1 S.2.1 dX4_has_17 (by decide) ?_
      exact mw_zret S hr (by decide) hlk hK hG dX4_has_18 ⟨by rw [inR_hi (by omega) c2]; rfl, rfl⟩
    · refine lv_iconst (v := nI (1)) S.1 S.2.1 dX4_has_13 (by decide) ?_
      refine lv_goto (tgt := 18) S.1 S.2.1 dX4_has_14 (by decide) ?_
      exact mw_zret S hr (by decide) hlk hK hG dX4_has_18 ⟨by rw [inR_t (by omega) c1 c2]; rfl, rfl⟩
theorem cal_X6_numberOf : mCal yX6_numberOf cX6_numberOf 2 1 (some .int) := ⟨in_525, by decide +kernel⟩
set_option maxHeartbeats 4000000 in
set_option maxRecDepth 100000 in
theorem t_numberOf {l : Launch} {dC : Nat → ClassId} {dI : Nat → Nat → Nat} {cI cZ cT : ClassId} {q : Nat → Nat} {kp : Nat} {Wn : Nat} {made : Nat} {fl : (Nat → Nat)} {num : (Nat → Nat → Int32)} {rfs : (Nat → Nat → Option Nat)} {root : (Nat → Option Nat)} {own : (Nat → Option Nat)} {tad : (Nat → Nat)} {trm : (Nat → Bool)} {tpl : (Nat → Nat)} {wlk : (Nat → Nat)} {ord : (Nat → Nat)} {met : (Nat → Option Nat)} {msz : Nat} {cur : Nat} {mend : Nat} {pnx : Nat} {pen : Nat} {st : Nat} {coll : Nat} {mins : Nat} {movd : Nat} {w : mM} (hC : CW cI cT q kp Wn made fl num rfs root own tad trm tpl wlk ord met msz cur mend pnx pen st coll mins movd w) (k : Nat) (hk : k < made) (hf : fl k ≤ 6) (x : Int32) : mC l yX6_numberOf (wsY yX6_numberOf cX6_numberOf 2 (some .int)) { frames := 0, cells := 0, slots := 0, locals := 0 } (dC, dI) vwCl (tyL cI cZ cT) 0 0 w [.ref (tq q k), .int (x)] (fun v w2 => v = some (.int (if inR (fl k) x = true then num k x.toNatClampNeg else 0)) ∧ w2 = w) := by
  refine mC.on (by decide) (Nat.le_of_ble_eq_true rfl) ?_
  intro p e s m args below meth c ls S hr hlk hnm hK hN hG hl
  have hl : lv_has ls 2 [(0, .ref (tq q k)), (1, .int (x))] := hl
  generalize hAe : mA w s.heap.size = A at hG ⊢
  refine lv_iload_n S.1 S.2.1 dX6_numberOf_0 rfl (lv_at hl 1 rfl) ?_
  refine lv_if_lt (tgt := 22) S.1 S.2.1 dX6_numberOf_1 (by decide) (fun c1 => ?_) (fun c1 => ?_)
  · refine lv_iconst (v := nI (0)) S.1 S.2.1 dX6_numberOf_22 (by decide) ?_
    exact mw_iret S hr hlk hK hG dX6_numberOf_23 ⟨by rw [if_neg (by rw [inR_lo c1]; simp)]; rfl, rfl⟩
  · refine lv_iload_n S.1 S.2.1 dX6_numberOf_4 rfl (lv_at hl 1 rfl) ?_
    refine lv_aload_n S.1 S.2.1 dX6_numberOf_5 rfl (lv_at hl 0 rfl) ?_
    refine cg_RX6_19 S hK hG hC (k) (by omega) dX6_numberOf_6 ?_
    refine cn_num S hK hG hC (k) (by omega) dX6_numberOf_9 ?_
    refine lv_icmp_ge (tgt := 22) S.1 S.2.1 dX6_numberOf_10 (by decide) (fun c2 => ?_) (fun c2 => ?_)
    · refine lv_iconst (v := nI (0)) S.1 S.2.1 dX6_numberOf_22 (by decide) ?_
      exact mw_iret S hr hlk hK hG dX6_numberOf_23 ⟨by rw [if_neg (by rw [inR_hi (by omega) c2]; simp)]; rfl, rfl⟩
    · obtain ⟨j, hj, rfl⟩ := inR_ex (by omega) (inR_t (by omega) c1 c2)
      refine lv_aload_n S.1 S.2.1 dX6_numberOf_13 rfl (lv_at hl 0 rfl) ?_
      refine cg_RX6_19 S hK hG hC (k) (by omega) dX6_numberOf_14 ?_
      refine lv_iload_n S.1 S.2.1 dX6_numberOf_17 rfl (lv_at hl 1 rfl) ?_
      refine cl_num S hK hG hC (k) (j) (by omega) (by omega) (by omega) dX6_numberOf_18 ?_
      refine lv_goto (tgt := 23) S.1 S.2.1 dX6_numberOf_19 (by decide) ?_
      exact mw_iret S hr hlk hK hG dX6_numberOf_23 ⟨by rw [if_pos (inR_nI hj (by omega)), nI_clamp (by omega)], rfl⟩
theorem cal_X6_targetOf : mCal yX6_targetOf cX6_targetOf 2 1 (some (.object "KeptHeap$Thing")) := ⟨in_233, by decide +kernel⟩
set_option maxHeartbeats 4000000 in
set_option maxRecDepth 100000 in
theorem t_targetOf {l : Launch} {dC : Nat → ClassId} {dI : Nat → Nat → Nat} {cI cZ cT : ClassId} {q : Nat → Nat} {kp : Nat} {Wn : Nat} {made : Nat} {fl : (Nat → Nat)} {num : (Nat → Nat → Int32)} {rfs : (Nat → Nat → Option Nat)} {root : (Nat → Option Nat)} {own : (Nat → Option Nat)} {tad : (Nat → Nat)} {trm : (Nat → Bool)} {tpl : (Nat → Nat)} {wlk : (Nat → Nat)} {ord : (Nat → Nat)} {met : (Nat → Option Nat)} {msz : Nat} {cur : Nat} {mend : Nat} {pnx : Nat} {pen : Nat} {st : Nat} {coll : Nat} {mins : Nat} {movd : Nat} {w : mM} (hC : CW cI cT q kp Wn made fl num rfs root own tad trm tpl wlk ord met msz cur mend pnx pen st coll mins movd w) (k : Nat) (hk : k < made) (hf : fl k ≤ 6) (x : Int32) : mC l yX6_targetOf (wsY yX6_targetOf cX6_targetOf 2 (some (.object "KeptHeap$Thing"))) { frames := 0, cells := 0, slots := 0, locals := 0 } (dC, dI) vwCl (tyL cI cZ cT) 0 0 w [.ref (tq q k), .int (x)] (fun v w2 => v = some (va_rf ((if inR (fl k) x = true then rfs k x.toNatClampNeg else none).map (tq q))) ∧ w2 = w) := by
  refine mC.on (by decide) (Nat.le_of_ble_eq_true rfl) ?_
  intro p e s m args below meth c ls S hr hlk hnm hK hN hG hl
  have hl : lv_has ls 2 [(0, .ref (tq q k)), (1, .int (x))] := hl
  generalize hAe : mA w s.heap.size = A at hG ⊢
  refine lv_iload_n S.1 S.2.1 dX6_targetOf_0 rfl (lv_at hl 1 rfl) ?_
  refine lv_if_lt (tgt := 22) S.1 S.2.1 dX6_targetOf_1 (by decide) (fun c1 => ?_) (fun c1 => ?_)
  · refine lv_null S.1 S.2.1 dX6_targetOf_22 ?_
    exact mw_aret (r := none) S hr hlk hK hG dX6_targetOf_23 ⟨by rw [if_neg (by rw [inR_lo c1]; simp)]; rfl, rfl⟩
  · refine lv_iload_n S.1 S.2.1 dX6_targetOf_4 rfl (lv_at hl 1 rfl) ?_
    refine lv_aload_n S.1 S.2.1 dX6_targetOf_5 rfl (lv_at hl 0 rfl) ?_
    refine cg_RX6_23 S hK hG hC (k) (by omega) dX6_targetOf_6 ?_
    refine cn_rfs S hK hG hC (k) (by omega) dX6_targetOf_9 ?_
    refine lv_icmp_ge (tgt := 22) S.1 S.2.1 dX6_targetOf_10 (by decide) (fun c2 => ?_) (fun c2 => ?_)
    · refine lv_null S.1 S.2.1 dX6_targetOf_22 ?_
      exact mw_aret (r := none) S hr hlk hK hG dX6_targetOf_23 ⟨by rw [if_neg (by rw [inR_hi (by omega) c2]; simp)]; rfl, rfl⟩
    · obtain ⟨j, hj, rfl⟩ := inR_ex (by omega) (inR_t (by omega) c1 c2)
      refine lv_aload_n S.1 S.2.1 dX6_targetOf_13 rfl (lv_at hl 0 rfl) ?_
      refine cg_RX6_23 S hK hG hC (k) (by omega) dX6_targetOf_14 ?_
      refine lv_iload_n S.1 S.2.1 dX6_targetOf_17 rfl (lv_at hl 1 rfl) ?_
      refine cl_rfs S hK hG hC (k) (j) (by omega) (by omega) (by omega) dX6_targetOf_18 ?_
      refine lv_goto (tgt := 23) S.1 S.2.1 dX6_targetOf_19 (by decide) ?_
      exact mw_aret (r := (rfs k j).map (tq q)) S hr hlk hK hG dX6_targetOf_23 ⟨by rw [if_pos (inR_nI hj (by omega)), nI_clamp (by omega)], rfl⟩
theorem cal_X8_lyingAt : mCal yX8_lyingAt cX8_lyingAt 2 1 (some (.object "KeptHeap$Thing")) := ⟨in_220, by decide +kernel⟩
set_option maxHeartbeats 4000000 in
set_option maxRecDepth 100000 in
theorem w_lyingAt {l : Launch} {dC : Nat → ClassId} {dI : Nat → Nat → Nat} {cI cZ cT : ClassId} {q : Nat → Nat} {kp : Nat} {Wn : Nat} {made : Nat} {fl : (Nat → Nat)} {num : (Nat → Nat → Int32)} {rfs : (Nat → Nat → Option Nat)} {root : (Nat → Option Nat)} {own : (Nat → Option Nat)} {tad : (Nat → Nat)} {trm : (Nat → Bool)} {tpl : (Nat → Nat)} {wlk : (Nat → Nat)} {ord : (Nat → Nat)} {met : (Nat → Option Nat)} {msz : Nat} {cur : Nat} {mend : Nat} {pnx : Nat} {pen : Nat} {st : Nat} {coll : Nat} {mins : Nat} {movd : Nat} {w : mM} (hC : CW cI cT q kp Wn made fl num rfs root own tad trm tpl wlk ord met msz cur mend pnx pen st coll mins movd w) (hW : Wn < 1000) (x : Int32) : mC l yX8_lyingAt (wsY yX8_lyingAt cX8_lyingAt 2 (some (.object "KeptHeap$Thing"))) { frames := 0, cells := 0, slots := 0, locals := 0 } (dC, dI) vwCl (tyL cI cZ cT) 0 0 w [.ref (q 1), .int (x)] (fun v w2 => v = some (va_rf ((if inR Wn x = true then own x.toNatClampNeg else none).map (tq q))) ∧ w2 = w) := by
  refine mC.on (by decide) (Nat.le_of_ble_eq_true rfl) ?_
  intro p e s m args below meth c ls S hr hlk hnm hK hN hG hl
  have hl : lv_has ls 2 [(0, .ref (q 1)), (1, .int (x))] := hl
  generalize hAe : mA w s.heap.size = A at hG ⊢
  refine lv_iload_n S.1 S.2.1 dX8_lyingAt_0 rfl (lv_at hl 1 rfl) ?_
  refine lv_if_lt (tgt := 22) S.1 S.2.1 dX8_lyingAt_1 (by decide) (fun c1 => ?_) (fun c1 => ?_)
  · refine lv_null S.1 S.2.1 dX8_lyingAt_22 ?_
    exact mw_aret (r := none) S hr hlk hK hG dX8_lyingAt_23 ⟨by rw [if_neg (by rw [inR_lo c1]; simp)]; rfl, rfl⟩
  · refine lv_iload_n S.1 S.2.1 dX8_lyingAt_4 rfl (lv_at hl 1 rfl) ?_
    refine lv_aload_n S.1 S.2.1 dX8_lyingAt_5 rfl (lv_at hl 0 rfl) ?_
    refine cg_RX8_17 S hK hG hC dX8_lyingAt_6 ?_
    refine cn_own S hK hG hC dX8_lyingAt_9 ?_
    refine lv_icmp_ge (tgt := 22) S.1 S.2.1 dX8_lyingAt_10 (by decide) (fun c2 => ?_) (fun c2 => ?_)
    · refine lv_null S.1 S.2.1 dX8_lyingAt_22 ?_
      exact mw_aret (r := none) S hr hlk hK hG dX8_lyingAt_23 ⟨by rw [if_neg (by rw [inR_hi (by omega) c2]; simp)]; rfl, rfl⟩
    · obtain ⟨j, hj, rfl⟩ := inR_ex (by omega) (inR_t (by omega) c1 c2)
      refine lv_aload_n S.1 S.2.1 dX8_lyingAt_13 rfl (lv_at hl 0 rfl) ?_
      refine cg_RX8_17 S hK hG hC dX8_lyingAt_14 ?_
      refine lv_iload_n S.1 S.2.1 dX8_lyingAt_17 rfl (lv_at hl 1 rfl) ?_
      refine cl_own S hK hG hC (j) (by omega) (by omega) dX8_lyingAt_18 ?_
      refine lv_goto (tgt := 23) S.1 S.2.1 dX8_lyingAt_19 (by decide) ?_
      exact mw_aret (r := (own j).map (tq q)) S hr hlk hK hG dX8_lyingAt_23 ⟨by rw [if_pos (inR_nI hj (by omega)), nI_clamp (by omega)], rfl⟩
theorem cal_X6_hold : mCal yX6_hold cX6_hold 4 3 none := ⟨in_477, by decide +kernel⟩
set_option maxHeartbeats 4000000 in
set_option maxRecDepth 100000 in
theorem t_hold {l : Launch} {dC : Nat → ClassId} {dI : Nat → Nat → Nat} {cI cZ cT : ClassId} {q : Nat → Nat} {kp : Nat} {Wn : Nat} {made : Nat} {fl : (Nat → Nat)} {num : (Nat → Nat → Int32)} {rfs : (Nat → Nat → Option Nat)} {root : (Nat → Option Nat)} {own : (Nat → Option Nat)} {tad : (Nat → Nat)} {trm : (Nat → Bool)} {tpl : (Nat → Nat)} {wlk : (Nat → Nat)} {ord : (Nat → Nat)} {met : (Nat → Option Nat)} {msz : Nat} {cur : Nat} {mend : Nat} {pnx : Nat} {pen : Nat} {st : Nat} {coll : Nat} {mins : Nat} {movd : Nat} {w : mM} (hC : CW cI cT q kp Wn made fl num rfs root own tad trm tpl wlk ord met msz cur mend pnx pen st coll mins movd w) (k : Nat) (hk : k < made) (hf : fl k ≤ 6) (i : Nat) (hi : i < fl k) (x : Int32) (t : Option Nat) (ht : ∀ u, t = some u → u < made) : mC l yX6_hold (wsY yX6_hold cX6_hold 4 none) { frames := 1, cells := 0, slots := 0, locals := 21 } (dC, dI) vwCl (tyL cI cZ cT) 0 0 w [.ref (tq q k), .int (nI (i)), .int (x), va_rf ((t).map (tq q))] (fun v w2 => v = none ∧ CW cI cT q kp Wn made fl (up2 num k i x) (up2 rfs k i t) root own tad trm tpl wlk ord met msz cur mend pnx pen st coll mins movd w2) := by
  refine mC.on (by decide) (by cases t <;> exact Nat.le_of_ble_eq_true rfl) ?_
  intro p e s m args below meth c ls S hr hlk hnm hK hN hG hl
  have hl : lv_has ls 4 [(0, .ref (tq q k)), (1, .int (nI (i))), (2, .int (x)), (3, va_rf ((t).map (tq q)))] := (by cases t <;> exact hl)
  generalize hAe : mA w s.heap.size = A at hG ⊢
  refine lv_aload_n S.1 S.2.1 dX6_hold_0 rfl (lv_at hl 0 rfl) ?_
  refine lv_iload_n S.1 S.2.1 dX6_hold_1 rfl (lv_at hl 1 rfl) ?_
  refine mCV (As := [.int (nI (i))]) (rest := []) S (t_has hC k hk hf (nI i)) cal_X6_has in_478 in_467 in_468 in_142 hK hN hG (hC.th hk) rfl rfl rfl hl.1 (Nat.le_of_ble_eq_true rfl) ⟨by decide, by decide⟩ ⟨rfl, rfl⟩ ⟨by decide, by decide⟩ dX6_hold_2 (fun v w H locs hp hG => ?_)
  obtain ⟨rfl, hw9⟩ := hp
  have hw9 := hw9.symm
  subst hw9
  refine W.eq (g2 := F0 m 5 ls [.int (bI (inR (fl k) (nI i)))]) rfl ?_
  refine lv_if_eq (tgt := 22) S.1 S.2.1 dX6_hold_5 (by decide) (fun c1 => ?_) (fun c1 => ?_)
  · exact absurd (bI_f c1) (by rw [inR_nI hi (by omega)]; decide)
  · refine lv_aload_n S.1 S.2.1 dX6_hold_8 rfl (lv_at hl 0 rfl) ?_
    refine cg_RX6_19 S hK hG hC (k) (by omega) dX6_hold_9 ?_
    refine lv_iload_n S.1 S.2.1 dX6_hold_12 rfl (lv_at hl 1 rfl) ?_
    refine lv_iload_n S.1 S.2.1 dX6_hold_13 rfl (lv_at hl 2 rfl) ?_
    refine cs_num S hK hG hC (k) (i) (x) (by omega) (by omega) (by omega) dX6_hold_14 (fun w H locs hC hG => ?_)
    refine lv_aload_n S.1 S.2.1 dX6_hold_15 rfl (lv_at hl 0 rfl) ?_
    refine cg_RX6_23 S hK hG hC (k) (by omega) dX6_hold_16 ?_
    refine lv_iload_n S.1 S.2.1 dX6_hold_19 rfl (lv_at hl 1 rfl) ?_
    refine lw_aload_n S.1 S.2.1 dX6_hold_20 rfl (lv_at hl 3 rfl) ?_
    refine cs_rfs S hK hG hC (k) (i) (t) (by omega) (by omega) (by omega) ht dX6_hold_21 (fun w H locs hC hG => ?_)
    exact mw_vret S hr hlk hK hG dX6_hold_22 ⟨rfl, hC⟩
theorem cal_X4_thingOf : mCal yX4_thingOf cX4_thingOf 2 1 (some (.object "KeptHeap$Thing")) := ⟨in_198, by decide +kernel⟩
set_option maxHeartbeats 4000000 in
set_option maxRecDepth 100000 in
theorem o_thingOf {l : Launch} {dC : Nat → ClassId} {dI : Nat → Nat → Nat} {cI cZ cT : ClassId} {q : Nat → Nat} {kp : Nat} {Wn : Nat} {made : Nat} {fl : (Nat → Nat)} {num : (Nat → Nat → Int32)} {rfs : (Nat → Nat → Option Nat)} {root : (Nat → Option Nat)} {own : (Nat → Option Nat)} {tad : (Nat → Nat)} {trm : (Nat → Bool)} {tpl : (Nat → Nat)} {wlk : (Nat → Nat)} {ord : (Nat → Nat)} {met : (Nat → Option Nat)} {msz : Nat} {cur : Nat} {mend : Nat} {pnx : Nat} {pen : Nat} {st : Nat} {coll : Nat} {mins : Nat} {movd : Nat} {w : mM} (hC : CW cI cT q kp Wn made fl num rfs root own tad trm tpl wlk ord met msz cur mend pnx pen st coll mins movd w) (hW : Wn < 1000) (x : Int32) : mC l yX4_thingOf (wsY yX4_thingOf cX4_thingOf 2 (some (.object "KeptHeap$Thing"))) { frames := 1, cells := 0, slots := 0, locals := 21 } (dC, dI) vwCl (tyL cI cZ cT) 0 0 w [.ref (q 3), .int (x)] (fun v w2 => v = some (va_rf ((if inR 16 x = true then root x.toNatClampNeg else none).map (tq q))) ∧ w2 = w) := by
  refine mC.on (by decide) (Nat.le_of_ble_eq_true rfl) ?_
  intro p e s m args below meth c ls S hr hlk hnm hK hN hG hl
  have hl : lv_has ls 2 [(0, .ref (q 3)), (1, .int (x))] := hl
  generalize hAe : mA w s.heap.size = A at hG ⊢
  refine lv_aload_n S.1 S.2.1 dX4_thingOf_0 rfl (lv_at hl 0 rfl) ?_
  refine lv_iload_n S.1 S.2.1 dX4_thingOf_1 rfl (lv_at hl 1 rfl) ?_
  refine mCV (As := [.int (x)]) (rest := []) S (o_has hC x) cal_X4_has in_199 in_145 in_146 in_21 hK hN hG hC.obj4 rfl rfl rfl hl.1 (Nat.le_of_ble_eq_true rfl) ⟨by decide, by decide⟩ ⟨rfl, rfl⟩ ⟨by decide, by decide⟩ dX4_thingOf_2 (fun v w H locs hp hG => ?_)
  obtain ⟨rfl, hw9⟩ := hp
  have hw9 := hw9.symm
  subst hw9
  refine W.eq (g2 := F0 m 5 ls [.int (bI (inR 16 x))]) rfl ?_
  refine lv_if_eq (tgt := 17) S.1 S.2.1 dX4_thingOf_5 (by decide) (fun c1 => ?_) (fun c1 => ?_)
  · refine lv_null S.1 S.2.1 dX4_thingOf_17 ?_
    exact mw_aret (r := none) S hr hlk hK hG dX4_thingOf_18 ⟨by rw [if_neg (by rw [bI_f c1]; simp)]; rfl, rfl⟩
  · obtain ⟨j, hj, rfl⟩ := inR_ex (by decide) (bI_t c1)
    refine lv_aload_n S.1 S.2.1 dX4_thingOf_8 rfl (lv_at hl 0 rfl) ?_
    refine cg_RX4_11 S hK hG hC dX4_thingOf_9 ?_
    refine lv_iload_n S.1 S.2.1 dX4_thingOf_12 rfl (lv_at hl 1 rfl) ?_
    refine cl_root S hK hG hC (j) (by omega) (by omega) dX4_thingOf_13 ?_
    refine lv_goto (tgt := 18) S.1 S.2.1 dX4_thingOf_14 (by decide) ?_
    exact mw_aret (r := (root j).map (tq q)) S hr hlk hK hG dX4_thingOf_18 ⟨by rw [if_pos (inR_nI hj (by decide)), nI_clamp (by omega)], rfl⟩
theorem cal_X4_refer : mCal yX4_refer cX4_refer 3 2 none := ⟨in_374, by decide +kernel⟩
set_option maxHeartbeats 4000000 in
set_option maxRecDepth 100000 in
theorem o_refer {l : Launch} {dC : Nat → ClassId} {dI : Nat → Nat → Nat} {cI cZ cT : ClassId} {q : Nat → Nat} {kp : Nat} {Wn : Nat} {made : Nat} {fl : (Nat → Nat)} {num : (Nat → Nat → Int32)} {rfs : (Nat → Nat → Option Nat)} {root : (Nat → Option Nat)} {own : (Nat → Option Nat)} {tad : (Nat → Nat)} {trm : (Nat → Bool)} {tpl : (Nat → Nat)} {wlk : (Nat → Nat)} {ord : (Nat → Nat)} {met : (Nat → Option Nat)} {msz : Nat} {cur : Nat} {mend : Nat} {pnx : Nat} {pen : Nat} {st : Nat} {coll : Nat} {mins : Nat} {movd : Nat} {w : mM} (hC : CW cI cT q kp Wn made fl num rfs root own tad trm tpl wlk ord met msz cur mend pnx pen st coll mins movd w) (hW : Wn < 1000) (j : Nat) (hj : j < 16) (t : Option Nat) (ht : ∀ u, t = some u → u < made) : mC l yX4_refer (wsY yX4_refer cX4_refer 3 none) { frames := 1, cells := 0, slots := 0, locals := 21 } (dC, dI) vwCl (tyL cI cZ cT) 0 0 w [.ref (q 3), .int (nI (j)), va_rf ((t).map (tq q))] (fun v w2 => v = none ∧ CW cI cT q kp Wn made fl num rfs (va_up root j t) own tad trm tpl wlk ord met msz cur mend pnx pen st coll mins movd w2) := by
  refine mC.on (by decide) (by cases t <;> exact Nat.le_of_ble_eq_true rfl) ?_
  intro p e s m args below meth c ls S hr hlk hnm hK hN hG hl
  have hl : lv_has ls 3 [(0, .ref (q 3)), (1, .int (nI (j))), (2, va_rf ((t).map (tq q)))] := (by cases t <;> exact hl)
  generalize hAe : mA w s.heap.size = A at hG ⊢
  refine lv_aload_n S.1 S.2.1 dX4_refer_0 rfl (lv_at hl 0 rfl) ?_
  refine lv_iload_n S.1 S.2.1 dX4_refer_1 rfl (lv_at hl 1 rfl) ?_
  refine mCV (As := [.int (nI (j))]) (rest := []) S (o_has hC (nI j)) cal_X4_has in_199 in_145 in_146 in_21 hK hN hG hC.obj4 rfl rfl rfl hl.1 (Nat.le_of_ble_eq_true rfl) ⟨by decide, by decide⟩ ⟨rfl, rfl⟩ ⟨by decide, by decide⟩ dX4_refer_2 (fun v w H locs hp hG => ?_)
  obtain ⟨rfl, hw9⟩ := hp
  have hw9 := hw9.symm
  subst hw9
  refine W.eq (g2 := F0 m 5 ls [.int (bI (inR 16 (nI j)))]) rfl ?_
  refine lv_if_eq (tgt := 15) S.1 S.2.1 dX4_refer_5 (by decide) (fun c1 => ?_) (fun c1 => ?_)
  · exact absurd (bI_f c1) (by rw [inR_nI hj (by omega)]; decide)
  · refine lv_aload_n S.1 S.2.1 dX4_refer_8 rfl (lv_at hl 0 rfl) ?_
    refine cg_RX4_11 S hK hG hC dX4_refer_9 ?_
    refine lv_iload_n S.1 S.2.1 dX4_refer_12 rfl (lv_at hl 1 rfl) ?_
    refine lw_aload_n S.1 S.2.1 dX4_refer_13 rfl (lv_at hl 2 rfl) ?_
    refine cs_root S hK hG hC (j) (t) (by omega) ht (by omega) dX4_refer_14 (fun w H locs hC hG => ?_)
    exact mw_vret S hr hlk hK hG dX4_refer_15 ⟨rfl, hC⟩
theorem cal_X8_length : mCal yX8_length cX8_length 1 0 (some .int) := ⟨in_87, by decide +kernel⟩
set_option maxHeartbeats 4000000 in
set_option maxRecDepth 100000 in
theorem w_length {l : Launch} {dC : Nat → ClassId} {dI : Nat → Nat → Nat} {cI cZ cT : ClassId} {q : Nat → Nat} {kp : Nat} {Wn : Nat} {made : Nat} {fl : (Nat → Nat)} {num : (Nat → Nat → Int32)} {rfs : (Nat → Nat → Option Nat)} {root : (Nat → Option Nat)} {own : (Nat → Option Nat)} {tad : (Nat → Nat)} {trm : (Nat → Bool)} {tpl : (Nat → Nat)} {wlk : (Nat → Nat)} {ord : (Nat → Nat)} {met : (Nat → Option Nat)} {msz : Nat} {cur : Nat} {mend : Nat} {pnx : Nat} {pen : Nat} {st : Nat} {coll : Nat} {mins : Nat} {movd : Nat} {w : mM} (hC : CW cI cT q kp Wn made fl num rfs root own tad trm tpl wlk ord met msz cur mend pnx pen st coll mins movd w)  : mC l yX8_length (wsY yX8_length cX8_length 1 (some .int)) { frames := 0, cells := 0, slots := 0, locals := 0 } (dC, dI) vwCl (tyL cI cZ cT) 0 0 w [.ref (q 1)] (fun v w2 => v = some (.int (nI Wn)) ∧ w2 = w) := by
  refine mC.on (by decide) (Nat.le_of_ble_eq_true rfl) ?_
  intro p e s m args below meth c ls S hr hlk hnm hK hN hG hl
  have hl : lv_has ls 1 [(0, .ref (q 1))] := hl
  generalize hAe : mA w s.heap.size = A at hG ⊢
  refine lv_aload_n S.1 S.2.1 dX8_length_0 rfl (lv_at hl 0 rfl) ?_
  refine cg_RX8_17 S hK hG hC dX8_length_1 ?_
  refine cn_own S hK hG hC dX8_length_4 ?_
  exact mw_iret S hr hlk hK hG dX8_length_5 ⟨rfl, rfl⟩
theorem cal_X8_beginningAt : mCal yX8_beginningAt cX8_beginningAt 3 1 (some (.object "KeptHeap$Thing")) := ⟨in_215, by decide +kernel⟩
set_option maxHeartbeats 4000000 in
set_option maxRecDepth 100000 in
theorem w_beginningAt {l : Launch} {dC : Nat → ClassId} {dI : Nat → Nat → Nat} {cI cZ cT : ClassId} {q : Nat → Nat} {kp : Nat} {Wn : Nat} {made : Nat} {fl : (Nat → Nat)} {num : (Nat → Nat → Int32)} {rfs : (Nat → Nat → Option Nat)} {root : (Nat → Option Nat)} {own : (Nat → Option Nat)} {tad : (Nat → Nat)} {trm : (Nat → Bool)} {tpl : (Nat → Nat)} {wlk : (Nat → Nat)} {ord : (Nat → Nat)} {met : (Nat → Option Nat)} {msz : Nat} {cur : Nat} {mend : Nat} {pnx : Nat} {pen : Nat} {st : Nat} {coll : Nat} {mins : Nat} {movd : Nat} {w : mM} (hC : CW cI cT q kp Wn made fl num rfs root own tad trm tpl wlk ord met msz cur mend pnx pen st coll mins movd w) (hob : ∀ k t, own k = some t → t < made) (hW : Wn < 1000) (htb : ∀ t, t < made → tad t < 2147483648) (k : Nat) (hk : k < Wn) : mC l yX8_beginningAt (wsY yX8_beginningAt cX8_beginningAt 3 (some (.object "KeptHeap$Thing"))) { frames := 1, cells := 0, slots := 0, locals := 21 } (dC, dI) vwCl (tyL cI cZ cT) 0 0 w [.ref (q 1), .int (nI (k))] (fun v w2 => v = some (va_rf ((bgn own tad k).map (tq q))) ∧ w2 = w) := by
  refine mC.on (by decide) (Nat.le_of_ble_eq_true rfl) ?_
  intro p e s m args below meth c ls S hr hlk hnm hK hN hG hl
  have hl : lv_has ls 3 [(0, .ref (q 1)), (1, .int (nI (k)))] := hl
  generalize hAe : mA w s.heap.size = A at hG ⊢
  refine lv_aload_n S.1 S.2.1 dX8_beginningAt_0 rfl (lv_at hl 0 rfl) ?_
  refine lv_iload_n S.1 S.2.1 dX8_beginningAt_1 rfl (lv_at hl 1 rfl) ?_
  refine mCV (As := [.int (nI (k))]) (rest := []) S (w_lyingAt hC hW (nI k)) cal_X8_lyingAt in_217 in_218 in_219 in_18 hK hN hG hC.obj8 rfl rfl rfl hl.1 (Nat.le_of_ble_eq_true rfl) ⟨by decide, by decide⟩ ⟨rfl, rfl⟩ ⟨by decide, by decide⟩ dX8_beginningAt_2 (fun v w H locs hp hG => ?_)
  obtain ⟨rfl, hw9⟩ := hp
  have hw9 := hw9.symm
  subst hw9
  rw [if_pos (inR_nI hk (by omega)), nI_clamp (by omega)]
  refine W.eq (g2 := F0 m 5 ls [va_rf ((own k).map (tq q))]) rfl ?_
  refine lw_astore_n (lv' := [(2, va_rf ((own k).map (tq q))), (0, .ref (q 1)), (1, .int (nI (k)))]) S.1 S.2.1 dX8_beginningAt_5 rfl hl (by decide) rfl (fun ls hl => ?_)
  refine lw_aload_n S.1 S.2.1 dX8_beginningAt_6 rfl (lv_at hl 0 rfl) ?_
  refine lw_ifnull (x := own k) (tgt := 22) S.1 S.2.1 dX8_beginningAt_7 (by decide) (fun c => ?_) (fun t c => ?_)
  · refine lv_null S.1 S.2.1 dX8_beginningAt_22 ?_
    exact mw_aret (r := none) S hr hlk hK hG dX8_beginningAt_23 ⟨by rw [bgn_n c]; rfl, rfl⟩
  · have htm := hob k t c
    have ht2 := htb t htm
    rw [c] at hl
    have hl : lv_has ls 3 [(2, .ref (tq q t)), (0, .ref (q 1)), (1, .int (nI (k)))] := hl
    refine lv_aload_n S.1 S.2.1 dX8_beginningAt_10 rfl (lv_at hl 0 rfl) ?_
    refine cg_RX8_27 S hK hG hC (t) (by omega) dX8_beginningAt_11 ?_
    refine lv_iload_n S.1 S.2.1 dX8_beginningAt_14 rfl (lv_at hl 2 rfl) ?_
    refine lv_icmp_ne (tgt := 22) S.1 S.2.1 dX8_beginningAt_15 (by decide) (fun c2 => ?_) (fun c2 => ?_)
    · have c2 : ¬ ((tad t) = k) := fun h9 => c2 ((nI_eq (a := tad t) (b := k) (by omega) (by omega)).mpr h9)
      refine lv_null S.1 S.2.1 dX8_beginningAt_22 ?_
      exact mw_aret (r := none) S hr hlk hK hG dX8_beginningAt_23 ⟨by rw [bgn_x c c2]; rfl, rfl⟩
    · have c2 : (tad t) = k := (nI_eq (a := tad t) (b := k) (by omega) (by omega)).mp c2
      refine lv_aload_n S.1 S.2.1 dX8_beginningAt_18 rfl (lv_at hl 0 rfl) ?_
      refine lv_goto (tgt := 23) S.1 S.2.1 dX8_beginningAt_19 (by decide) ?_
      exact mw_aret (r := some (tq q t)) S hr hlk hK hG dX8_beginningAt_23 ⟨by rw [bgn_s c c2]; rfl, rfl⟩
theorem cal_X8_fill : mCal yX8_fill cX8_fill 7 3 none := ⟨in_261, by decide +kernel⟩
set_option maxHeartbeats 4000000 in
set_option maxRecDepth 100000 in
theorem w_fill {l : Launch} {dC : Nat → ClassId} {dI : Nat → Nat → Nat} {cI cZ cT : ClassId} {q : Nat → Nat} {kp : Nat} {Wn : Nat} {made : Nat} {fl : (Nat → Nat)} {num : (Nat → Nat → Int32)} {rfs : (Nat → Nat → Option Nat)} {root : (Nat → Option Nat)} {own : (Nat → Option Nat)} {tad : (Nat → Nat)} {trm : (Nat → Bool)} {tpl : (Nat → Nat)} {wlk : (Nat → Nat)} {ord : (Nat → Nat)} {met : (Nat → Option Nat)} {msz : Nat} {cur : Nat} {mend : Nat} {pnx : Nat} {pen : Nat} {st : Nat} {coll : Nat} {mins : Nat} {movd : Nat} {w : mM} (hC : CW cI cT q kp Wn made fl num rfs root own tad trm tpl wlk ord met msz cur mend pnx pen st coll mins movd w) (hW : Wn < 1000) (a n : Nat) (han : a + n ≤ Wn) (t : Option Nat) (ht : ∀ u, t = some u → u < made) : mC l yX8_fill (wsY yX8_fill cX8_fill 7 none) { frames := 1, cells := 0, slots := 0, locals := 21 } (dC, dI) vwCl (tyL cI cZ cT) 0 0 w [.ref (q 1), .int (nI (a)), .int (nI (n)), va_rf ((t).map (tq q))] (fun v w2 => v = none ∧ CW cI cT q kp Wn made fl num rfs root (fillO own a n t) tad trm tpl wlk ord met msz cur mend pnx pen st coll mins movd w2) := by
  refine mC.on (by decide) (by cases t <;> exact Nat.le_of_ble_eq_true rfl) ?_
  intro p e s m args below meth c ls S hr hlk hnm hK hN hG hl
  have hl : lv_has ls 7 [(0, .ref (q 1)), (1, .int (nI (a))), (2, .int (nI (n))), (3, va_rf ((t).map (tq q)))] := (by cases t <;> exact hl)
  generalize hAe : mA w s.heap.size = A at hG ⊢
  refine lv_iconst (v := nI (0)) S.1 S.2.1 dX8_fill_0 (by decide) ?_
  refine lv_iload_n S.1 S.2.1 dX8_fill_1 rfl (lv_at hl 1 rfl) ?_
  refine va_mmax S.1 S.2.1 (S.2.2.1.trans hl.1.symm) S.2.2.2.1 (S.2.2.2.2 _ in_40) (S.2.2.2.2 _ in_34) (S.2.2.2.2 _ in_31) (S.2.2.2.2 _ in_35) (by decide) (Nat.le_of_ble_eq_true rfl) (by decide) (by decide) dX8_fill_2 ?_
  refine lv_eqi (y := nI (a)) (max0 (by omega)) ?_
  refine lv_istore (lv' := [(4, .int (nI (a))), (0, .ref (q 1)), (1, .int (nI (a))), (2, .int (nI (n))), (3, va_rf ((t).map (tq q)))]) S.1 S.2.1 dX8_fill_5 hl (by decide) (by simp only [List.filter, rf_cat]; rfl) (fun ls hl => ?_)
  refine lv_aload_n S.1 S.2.1 dX8_fill_7 rfl (lv_at hl 1 rfl) ?_
  refine cg_RX8_17 S hK hG hC dX8_fill_8 ?_
  refine cn_own S hK hG hC dX8_fill_11 ?_
  refine lv_iload S.1 S.2.1 dX8_fill_12 (lv_at hl 0 rfl) ?_
  refine lv_iload_n S.1 S.2.1 dX8_fill_14 rfl (lv_at hl 3 rfl) ?_
  refine lv_iadd S.1 S.2.1 dX8_fill_15 ?_
  refine lv_eqi (nI_add _ _) ?_
  refine va_mmin S.1 S.2.1 (S.2.2.1.trans hl.1.symm) S.2.2.2.1 (S.2.2.2.2 _ in_262) (S.2.2.2.2 _ in_30) (S.2.2.2.2 _ in_31) (S.2.2.2.2 _ in_32) (by decide) (Nat.le_of_ble_eq_true rfl) (by decide) (by decide) dX8_fill_16 ?_
  refine lv_eqi (y := nI (a + n)) (minW (by omega) (by omega)) ?_
  refine lv_istore (lv' := [(5, .int (nI (a + n))), (4, .int (nI (a))), (0, .ref (q 1)), (1, .int (nI (a))), (2, .int (nI (n))), (3, va_rf ((t).map (tq q)))]) S.1 S.2.1 dX8_fill_19 hl (by decide) rfl (fun ls hl => ?_)
  refine lv_iload S.1 S.2.1 dX8_fill_21 (lv_at hl 1 rfl) ?_
  refine lv_istore (lv' := [(6, .int (nI (a))), (5, .int (nI (a + n))), (4, .int (nI (a))), (0, .ref (q 1)), (1, .int (nI (a))), (2, .int (nI (n))), (3, va_rf ((t).map (tq q)))]) S.1 S.2.1 dX8_fill_23 hl (by decide) rfl (fun ls hl => ?_)
  have L : ∀ (fu : Nat) (k : Nat), n - k < fu → (k ≤ n) → ∀ (w : mM) (H : Heap) (locs : List Loc), CW cI cT q kp Wn made fl num rfs root (fillO own a k t) tad trm tpl wlk ord met msz cur mend pnx pen st coll mins movd w → mG (dC, dI) vwCl A s.heap w H locs → ∀ ls : Array Slot, lv_has ls 7 [(6, .int (nI (a + k))), (5, .int (nI (a + n))), (4, .int (nI (a))), (0, .ref (q 1)), (1, .int (nI (a))), (2, .int (nI (n))), (3, va_rf ((t).map (tq q)))] → W p l e { frames := 1, cells := 0, slots := 0, locals := 21 } s m args below meth c H locs 0 0 (MQ below (mQ (dC, dI) vwCl (tyL cI cZ cT) (fun v w2 => v = none ∧ CW cI cT q kp Wn made fl num rfs root (fillO own a n t) tad trm tpl wlk ord met msz cur mend pnx pen st coll mins movd w2) A) args s 0 0 A) (F0 m 25 ls []) := by
    intro fu
    induction fu with
    | zero => intro k h1; exact absurd h1 (Nat.not_lt_zero _)
    | succ fu ihL =>
      intro k h1 h2 w H locs hC hG ls hl
      refine lv_iload S.1 S.2.1 dX8_fill_25 (lv_at hl 0 rfl) ?_
      refine lv_iload S.1 S.2.1 dX8_fill_27 (lv_at hl 1 rfl) ?_
      refine lv_icmp_ge (tgt := 46) S.1 S.2.1 dX8_fill_29 (by decide) (fun c1 => ?_) (fun c1 => ?_)
      · have c1 : (a + n) ≤ (a + k) := (nI_leI (a := a + n) (b := a + k) (by omega) (by omega)).mp c1
        have hk : k = n := by omega
        rw [hk] at hC
        exact mw_vret S hr hlk hK hG dX8_fill_46 ⟨rfl, hC⟩
      · have c1 : ¬ ((a + n) ≤ (a + k)) := fun h9 => c1 ((nI_leI (a := a + n) (b := a + k) (by omega) (by omega)).mpr h9)
        refine lv_aload_n S.1 S.2.1 dX8_fill_32 rfl (lv_at hl 3 rfl) ?_
        refine cg_RX8_17 S hK hG hC dX8_fill_33 ?_
        refine lv_iload S.1 S.2.1 dX8_fill_36 (lv_at hl 0 rfl) ?_
        refine lw_aload_n S.1 S.2.1 dX8_fill_38 rfl (lv_at hl 6 rfl) ?_
        refine cs_own S hK hG hC (a + k) (t) (by omega) ht (by omega) dX8_fill_39 (fun w H locs hC hG => ?_)
        rw [fillO_s] at hC
        refine lv_iinc (v := nI (a + k + 1)) (lv' := [(6, .int (nI (a + k + 1))), (5, .int (nI (a + n))), (4, .int (nI (a))), (0, .ref (q 1)), (1, .int (nI (a))), (2, .int (nI (n))), (3, va_rf ((t).map (tq q)))]) S.1 S.2.1 dX8_fill_40 hl (k := 0) rfl (nI_1 _) (by decide) rfl (fun ls hl => ?_)
        refine lv_goto (tgt := 25) S.1 S.2.1 dX8_fill_43 (by decide) ?_
        exact ihL (k + 1) (by omega) (by omega) _ _ _ hC hG ls (lv_sub hl [0, 1, 2, 3, 4, 5, 6] rfl)
  exact L (n + 1) 0 (by omega) (by omega) _ _ _ (by rw [fillO_0]; exact hC) hG ls (lv_sub hl [0, 1, 2, 3, 4, 5, 6] rfl)
theorem cal_X8_put : mCal yX8_put cX8_put 3 2 none := ⟨in_340, by decide +kernel⟩
set_option maxHeartbeats 4000000 in
set_option maxRecDepth 100000 in
theorem w_put {l : Launch} {dC : Nat → ClassId} {dI : Nat → Nat → Nat} {cI cZ cT : ClassId} {q : Nat → Nat} {kp : Nat} {Wn : Nat} {made : Nat} {fl : (Nat → Nat)} {num : (Nat → Nat → Int32)} {rfs : (Nat → Nat → Option Nat)} {root : (Nat → Option Nat)} {own : (Nat → Option Nat)} {tad : (Nat → Nat)} {trm : (Nat → Bool)} {tpl : (Nat → Nat)} {wlk : (Nat → Nat)} {ord : (Nat → Nat)} {met : (Nat → Option Nat)} {msz : Nat} {cur : Nat} {mend : Nat} {pnx : Nat} {pen : Nat} {st : Nat} {coll : Nat} {mins : Nat} {movd : Nat} {w : mM} (hC : CW cI cT q kp Wn made fl num rfs root own tad trm tpl wlk ord met msz cur mend pnx pen st coll mins movd w) (k : Nat) (hk : k < made) (hW : Wn < 1000) (a : Nat) (ha : a + fl k < Wn) : mC l yX8_put (wsY yX8_put cX8_put 3 none) { frames := 2, cells := 0, slots := 0, locals := 47 } (dC, dI) vwCl (tyL cI cZ cT) 0 0 w [.ref (q 1), .ref (tq q k), .int (nI (a))] (fun v w2 => v = none ∧ CW cI cT q kp Wn made fl num rfs root (fillO own a (fl k + 1) (some k)) (va_up tad k a) trm tpl wlk ord met msz cur mend pnx pen st coll mins movd w2) := by
  refine mC.on (by decide) (Nat.le_of_ble_eq_true rfl) ?_
  intro p e s m args below meth c ls S hr hlk hnm hK hN hG hl
  have hl : lv_has ls 3 [(0, .ref (q 1)), (1, .ref (tq q k)), (2, .int (nI (a)))] := hl
  generalize hAe : mA w s.heap.size = A at hG ⊢
  refine lv_aload_n S.1 S.2.1 dX8_put_0 rfl (lv_at hl 1 rfl) ?_
  refine lv_iload_n S.1 S.2.1 dX8_put_1 rfl (lv_at hl 2 rfl) ?_
  refine cp_RX8_27 S hK hG hC (k) (by omega) (a) dX8_put_2 (fun w H locs hC hG => ?_)
  refine lv_aload_n S.1 S.2.1 dX8_put_5 rfl (lv_at hl 0 rfl) ?_
  refine lv_iload_n S.1 S.2.1 dX8_put_6 rfl (lv_at hl 2 rfl) ?_
  refine lv_aload_n S.1 S.2.1 dX8_put_7 rfl (lv_at hl 1 rfl) ?_
  refine mCV (As := []) (rest := [.int (nI (a)), .ref (q 1)]) S (t_size hC k hk) cal_X6_size in_341 in_254 in_255 in_142 hK hN hG (hC.th hk) rfl rfl rfl hl.1 (Nat.le_of_ble_eq_true rfl) ⟨by decide, by decide⟩ ⟨rfl, rfl⟩ ⟨by decide, by decide⟩ dX8_put_8 (fun v w H locs hp hG => ?_)
  obtain ⟨rfl, hw9⟩ := hp
  have hw9 := hw9.symm
  subst hw9
  refine W.eq (g2 := F0 m 11 ls [.int (nI (fl k + 1)), .int (nI (a)), .ref (q 1)]) rfl ?_
  refine lv_aload_n S.1 S.2.1 dX8_put_11 rfl (lv_at hl 1 rfl) ?_
  refine mCV (As := [.int (nI (a)), .int (nI (fl k + 1)), .ref (tq q k)]) (rest := []) S (w_fill hC hW a (fl k + 1) (by omega) (some k) (fun u hu => by cases hu; exact hk)) cal_X8_fill in_342 in_259 in_260 in_18 hK hN hG hC.obj8 rfl rfl rfl hl.1 (Nat.le_of_ble_eq_true rfl) ⟨by decide, by decide⟩ ⟨rfl, rfl⟩ ⟨by decide, by decide⟩ dX8_put_12 (fun v w H locs hp hG => ?_)
  obtain ⟨rfl, hC⟩ := hp
  refine W.eq (g2 := F0 m 15 ls []) rfl ?_
  exact mw_vret S hr hlk hK hG dX8_put_15 ⟨rfl, hC⟩
end
section
theorem cal_X8_gapFrom : mCal yX8_gapFrom cX8_gapFrom 5 2 (some .int) := ⟨in_169, by decide +kernel⟩
set_option maxHeartbeats 4000000 in
set_option maxRecDepth 100000 in
theorem w_gapFrom {l : Launch} {dC : Nat → ClassId} {dI : Nat → Nat → Nat} {cI cZ cT : ClassId} {q : Nat → Nat} {kp : Nat} {Wn : Nat} {made : Nat} {fl : (Nat → Nat)} {num : (Nat → Nat → Int32)} {rfs : (Nat → Nat → Option Nat)} {root : (Nat → Option Nat)} {own : (Nat → Option Nat)} {tad : (Nat → Nat)} {trm : (Nat → Bool)} {tpl : (Nat → Nat)} {wlk : (Nat → Nat)} {ord : (Nat → Nat)} {met : (Nat → Option Nat)} {msz : Nat} {cur : Nat} {mend : Nat} {pnx : Nat} {pen : Nat} {st : Nat} {coll : Nat} {mins : Nat} {movd : Nat} {w : mM} (hC : CW cI cT q kp Wn made fl num rfs root own tad trm tpl wlk ord met msz cur mend pnx pen st coll mins movd w) (hW : Wn < 1000) (f many : Nat) (hf : f ≤ 400) (hm : 1 ≤ many) (hm2 : many ≤ 7) (hW4 : Wn ≤ 400) : mC l yX8_gapFrom (wsY yX8_gapFrom cX8_gapFrom 5 (some .int)) { frames := 1, cells := 0, slots := 0, locals := 21 } (dC, dI) vwCl (tyL cI cZ cT) 0 0 w [.ref (q 1), .int (nI (f)), .int (nI (many))] (fun v w2 => v = some (.int (oI (fit own Wn f many))) ∧ w2 = w) := by
  refine mC.on (by decide) (Nat.le_of_ble_eq_true rfl) ?_
  intro p e s m args below meth c ls S hr hlk hnm hK hN hG hl
  have hl : lv_has ls 5 [(0, .ref (q 1)), (1, .int (nI (f))), (2, .int (nI (many)))] := hl
  generalize hAe : mA w s.heap.size = A at hG ⊢
  refine lv_iconst (v := nI (0)) S.1 S.2.1 dX8_gapFrom_0 (by decide) ?_
  refine lv_istore_n (lv' := [(3, .int (nI (0))), (0, .ref (q 1)), (1, .int (nI (f))), (2, .int (nI (many)))]) S.1 S.2.1 dX8_gapFrom_1 rfl hl (by decide) rfl (fun ls hl => ?_)
  refine lv_iconst (v := nI (0)) S.1 S.2.1 dX8_gapFrom_2 (by decide) ?_
  refine lv_iload_n S.1 S.2.1 dX8_gapFrom_3 rfl (lv_at hl 2 rfl) ?_
  refine va_mmax S.1 S.2.1 (S.2.2.1.trans hl.1.symm) S.2.2.2.1 (S.2.2.2.2 _ in_40) (S.2.2.2.2 _ in_34) (S.2.2.2.2 _ in_31) (S.2.2.2.2 _ in_35) (by decide) (Nat.le_of_ble_eq_true rfl) (by decide) (by decide) dX8_gapFrom_4 ?_
  refine lv_eqi (y := nI (f)) (max0 (by omega)) ?_
  refine lv_istore (lv' := [(4, .int (nI (f))), (3, .int (nI (0))), (0, .ref (q 1)), (1, .int (nI (f))), (2, .int (nI (many)))]) S.1 S.2.1 dX8_gapFrom_7 hl (by decide) rfl (fun ls hl => ?_)
  have L : ∀ (fu : Nat) (k : Nat) (fr : Nat), Wn + 1 - k < fu → (fr ≤ k) → (k ≤ 400) → (fitR own Wn many (Wn + 1 - k) k fr = fit own Wn f many) → ∀ ls : Array Slot, lv_has ls 5 [(4, .int (nI (k))), (3, .int (nI (fr))), (0, .ref (q 1)), (1, .int (nI (f))), (2, .int (nI (many)))] → W p l e { frames := 1, cells := 0, slots := 0, locals := 21 } s m args below meth c s.heap [] 0 0 (MQ below (mQ (dC, dI) vwCl (tyL cI cZ cT) (fun v w2 => v = some (.int (oI (fit own Wn f many))) ∧ w2 = w) A) args s 0 0 A) (F0 m 9 ls []) := by
    intro fu
    induction fu with
    | zero => intro k fr h1; exact absurd h1 (Nat.not_lt_zero _)
    | succ fu ihL =>
      intro k fr h1 h2 h3 h4 ls hl
      refine lv_iload S.1 S.2.1 dX8_gapFrom_9 (lv_at hl 0 rfl) ?_
      refine lv_aload_n S.1 S.2.1 dX8_gapFrom_11 rfl (lv_at hl 2 rfl) ?_
      refine cg_RX8_17 S hK hG hC dX8_gapFrom_12 ?_
      refine cn_own S hK hG hC dX8_gapFrom_15 ?_
      refine lv_icmp_ge (tgt := 55) S.1 S.2.1 dX8_gapFrom_16 (by decide) (fun c1 => ?_) (fun c1 => ?_)
      · have c1 : Wn ≤ k := (nI_leI (a := Wn) (b := k) (by omega) (by omega)).mp c1
        refine lv_iconst (v := -1) S.1 S.2.1 dX8_gapFrom_55 (by decide) ?_
        rw [fitR_ge c1] at h4
        exact mw_iret S hr hlk hK hG dX8_gapFrom_56 ⟨by rw [← h4]; rfl, rfl⟩
      · have c1 : ¬ (Wn ≤ k) := fun h9 => c1 ((nI_leI (a := Wn) (b := k) (by omega) (by omega)).mpr h9)
        refine lv_aload_n S.1 S.2.1 dX8_gapFrom_19 rfl (lv_at hl 2 rfl) ?_
        refine cg_RX8_17 S hK hG hC dX8_gapFrom_20 ?_
        refine lv_iload S.1 S.2.1 dX8_gapFrom_23 (lv_at hl 0 rfl) ?_
        refine cl_own S hK hG hC (k) (by omega) (by omega) dX8_gapFrom_25 ?_
        have hn : Wn + 1 - k = (Wn - k) + 1 := by omega
        rw [hn] at h4
        refine lw_ifnonnull (x := own k) (tgt := 35) S.1 S.2.1 dX8_gapFrom_26 (by decide) (fun c2 => ?_) (fun t c2 => ?_)
        · refine lv_iload_n S.1 S.2.1 dX8_gapFrom_29 rfl (lv_at hl 1 rfl) ?_
          refine lv_iconst (v := nI (1)) S.1 S.2.1 dX8_gapFrom_30 (by decide) ?_
          refine lv_iadd S.1 S.2.1 dX8_gapFrom_31 ?_
          refine lv_eqi (nI_add _ _) ?_
          refine lv_goto (tgt := 36) S.1 S.2.1 dX8_gapFrom_32 (by decide) ?_
          refine lv_istore_n (lv' := [(3, .int (nI (fr + 1))), (4, .int (nI (k))), (0, .ref (q 1)), (1, .int (nI (f))), (2, .int (nI (many)))]) S.1 S.2.1 dX8_gapFrom_36 rfl hl (by decide) rfl (fun ls hl => ?_)
          refine lv_iload_n S.1 S.2.1 dX8_gapFrom_37 rfl (lv_at hl 0 rfl) ?_
          refine lv_iload_n S.1 S.2.1 dX8_gapFrom_38 rfl (lv_at hl 4 rfl) ?_
          refine lv_icmp_ne (tgt := 49) S.1 S.2.1 dX8_gapFrom_39 (by decide) (fun c3 => ?_) (fun c3 => ?_)
          · have c3 : ¬ ((fr + 1) = many) := fun h9 => c3 ((nI_eq (a := fr + 1) (b := many) (by omega) (by omega)).mpr h9)
            rw [fitR_go (by omega) (by rw [if_pos c2]; exact c3)] at h4
            refine lv_iinc (v := nI (k + 1)) (lv' := [(4, .int (nI (k + 1))), (3, .int (nI (fr + 1))), (0, .ref (q 1)), (1, .int (nI (f))), (2, .int (nI (many)))]) S.1 S.2.1 dX8_gapFrom_49 hl (k := 1) rfl (nI_1 _) (by decide) rfl (fun ls hl => ?_)
            refine lv_goto (tgt := 9) S.1 S.2.1 dX8_gapFrom_52 (by decide) ?_
            rw [show (if own k = none then fr + 1 else 0) = fr + 1 by rw [if_pos c2], show Wn - k = Wn + 1 - (k + 1) by omega] at h4
            exact ihL (k + 1) (fr + 1) (by omega) (by omega) (by omega) h4 ls (lv_sub hl [0, 1, 2, 3, 4] rfl)
          · have c3 : (fr + 1) = many := (nI_eq (a := fr + 1) (b := many) (by omega) (by omega)).mp c3
            rw [fitR_hit (by omega) (by rw [if_pos c2]; exact c3)] at h4
            refine lv_iload S.1 S.2.1 dX8_gapFrom_42 (lv_at hl 1 rfl) ?_
            refine lv_iload_n S.1 S.2.1 dX8_gapFrom_44 rfl (lv_at hl 4 rfl) ?_
            refine lv_isub S.1 S.2.1 dX8_gapFrom_45 ?_
            refine lv_iconst (v := nI (1)) S.1 S.2.1 dX8_gapFrom_46 (by decide) ?_
            refine lv_iadd S.1 S.2.1 dX8_gapFrom_47 ?_
            refine lv_eqi (nI_subp (by omega)) ?_
            exact mw_iret S hr hlk hK hG dX8_gapFrom_48 ⟨by rw [← h4]; rfl, rfl⟩
        · have c2 : ¬ own k = none := by rw [c2]; simp
          refine lv_iconst (v := nI (0)) S.1 S.2.1 dX8_gapFrom_35 (by decide) ?_
          refine lv_istore_n (lv' := [(3, .int (nI (0))), (4, .int (nI (k))), (0, .ref (q 1)), (1, .int (nI (f))), (2, .int (nI (many)))]) S.1 S.2.1 dX8_gapFrom_36 rfl hl (by decide) rfl (fun ls hl => ?_)
          refine lv_iload_n S.1 S.2.1 dX8_gapFrom_37 rfl (lv_at hl 0 rfl) ?_
          refine lv_iload_n S.1 S.2.1 dX8_gapFrom_38 rfl (lv_at hl 4 rfl) ?_
          refine lv_icmp_ne (tgt := 49) S.1 S.2.1 dX8_gapFrom_39 (by decide) (fun c3 => ?_) (fun c3 => ?_)
          · have c3 : ¬ (0 = many) := fun h9 => c3 ((nI_eq (a := 0) (b := many) (by omega) (by omega)).mpr h9)
            rw [fitR_go (by omega) (by rw [if_neg c2]; exact c3)] at h4
            refine lv_iinc (v := nI (k + 1)) (lv' := [(4, .int (nI (k + 1))), (3, .int (nI (0))), (0, .ref (q 1)), (1, .int (nI (f))), (2, .int (nI (many)))]) S.1 S.2.1 dX8_gapFrom_49 hl (k := 1) rfl (nI_1 _) (by decide) rfl (fun ls hl => ?_)
            refine lv_goto (tgt := 9) S.1 S.2.1 dX8_gapFrom_52 (by decide) ?_
            rw [show (if own k = none then fr + 1 else 0) = 0 by rw [if_neg c2], show Wn - k = Wn + 1 - (k + 1) by omega] at h4
            exact ihL (k + 1) (0) (by omega) (by omega) (by omega) h4 ls (lv_sub hl [0, 1, 2, 3, 4] rfl)
          · have c3 : 0 = many := (nI_eq (a := 0) (b := many) (by omega) (by omega)).mp c3
            rw [fitR_hit (by omega) (by rw [if_neg c2]; exact c3)] at h4
            refine lv_iload S.1 S.2.1 dX8_gapFrom_42 (lv_at hl 1 rfl) ?_
            refine lv_iload_n S.1 S.2.1 dX8_gapFrom_44 rfl (lv_at hl 4 rfl) ?_
            refine lv_isub S.1 S.2.1 dX8_gapFrom_45 ?_
            refine lv_iconst (v := nI (1)) S.1 S.2.1 dX8_gapFrom_46 (by decide) ?_
            refine lv_iadd S.1 S.2.1 dX8_gapFrom_47 ?_
            refine lv_eqi (nI_subp (by omega)) ?_
            exact mw_iret S hr hlk hK hG dX8_gapFrom_48 ⟨by rw [← h4]; rfl, rfl⟩
  exact L (Wn + 2) f 0 (by omega) (by omega) (by omega) rfl ls (lv_sub hl [0, 1, 2, 3, 4] rfl)
theorem cal_X8_thingsBelow : mCal yX8_thingsBelow cX8_thingsBelow 4 1 (some .int) := ⟨in_270, by decide +kernel⟩
set_option maxHeartbeats 4000000 in
set_option maxRecDepth 100000 in
theorem w_thingsBelow {l : Launch} {dC : Nat → ClassId} {dI : Nat → Nat → Nat} {cI cZ cT : ClassId} {q : Nat → Nat} {kp : Nat} {Wn : Nat} {made : Nat} {fl : (Nat → Nat)} {num : (Nat → Nat → Int32)} {rfs : (Nat → Nat → Option Nat)} {root : (Nat → Option Nat)} {own : (Nat → Option Nat)} {tad : (Nat → Nat)} {trm : (Nat → Bool)} {tpl : (Nat → Nat)} {wlk : (Nat → Nat)} {ord : (Nat → Nat)} {met : (Nat → Option Nat)} {msz : Nat} {cur : Nat} {mend : Nat} {pnx : Nat} {pen : Nat} {st : Nat} {coll : Nat} {mins : Nat} {movd : Nat} {w : mM} (hC : CW cI cT q kp Wn made fl num rfs root own tad trm tpl wlk ord met msz cur mend pnx pen st coll mins movd w) (hob : ∀ k t, own k = some t → t < made) (hW : Wn < 1000) (htb : ∀ t, t < made → tad t < 2147483648) (e2 : Nat) (he : e2 ≤ Wn) : mC l yX8_thingsBelow (wsY yX8_thingsBelow cX8_thingsBelow 4 (some .int)) { frames := 2, cells := 0, slots := 0, locals := 43 } (dC, dI) vwCl (tyL cI cZ cT) 0 0 w [.ref (q 1), .int (nI (e2))] (fun v w2 => v = some (.int (nI (cnt (fun k => (bgn own tad k).isSome) e2))) ∧ w2 = w) := by
  refine mC.on (by decide) (Nat.le_of_ble_eq_true rfl) ?_
  intro p e s m args below meth c ls S hr hlk hnm hK hN hG hl
  have hl : lv_has ls 4 [(0, .ref (q 1)), (1, .int (nI (e2)))] := hl
  generalize hAe : mA w s.heap.size = A at hG ⊢
  refine lv_iconst (v := nI (0)) S.1 S.2.1 dX8_thingsBelow_0 (by decide) ?_
  refine lv_istore_n (lv' := [(2, .int (nI (0))), (0, .ref (q 1)), (1, .int (nI (e2)))]) S.1 S.2.1 dX8_thingsBelow_1 rfl hl (by decide) rfl (fun ls hl => ?_)
  refine lv_iconst (v := nI (0)) S.1 S.2.1 dX8_thingsBelow_2 (by decide) ?_
  refine lv_istore_n (lv' := [(3, .int (nI (0))), (2, .int (nI (0))), (0, .ref (q 1)), (1, .int (nI (e2)))]) S.1 S.2.1 dX8_thingsBelow_3 rfl hl (by decide) rfl (fun ls hl => ?_)
  have L : ∀ (fu : Nat) (k : Nat), e2 - k < fu → (k ≤ e2) → ∀ (H : Heap) (locs : List Loc), mG (dC, dI) vwCl A s.heap w H locs → ∀ ls : Array Slot, lv_has ls 4 [(3, .int (nI (k))), (2, .int (nI (cnt (fun k => (bgn own tad k).isSome) k))), (0, .ref (q 1)), (1, .int (nI (e2)))] → W p l e { frames := 2, cells := 0, slots := 0, locals := 43 } s m args below meth c H locs 0 0 (MQ below (mQ (dC, dI) vwCl (tyL cI cZ cT) (fun v w2 => v = some (.int (nI (cnt (fun k => (bgn own tad k).isSome) e2))) ∧ w2 = w) A) args s 0 0 A) (F0 m 4 ls []) := by
    intro fu
    induction fu with
    | zero => intro k h1; exact absurd h1 (Nat.not_lt_zero _)
    | succ fu ihL =>
      intro k h1 h2 H locs hG ls hl
      refine lv_iload_n S.1 S.2.1 dX8_thingsBelow_4 rfl (lv_at hl 0 rfl) ?_
      refine lv_iload_n S.1 S.2.1 dX8_thingsBelow_5 rfl (lv_at hl 3 rfl) ?_
      refine lv_icmp_ge (tgt := 35) S.1 S.2.1 dX8_thingsBelow_6 (by decide) (fun c1 => ?_) (fun c1 => ?_)
      · have c1 : e2 ≤ k := (nI_leI (a := e2) (b := k) (by omega) (by omega)).mp c1
        have hk : k = e2 := by omega
        rw [hk] at hl
        refine lv_iload_n S.1 S.2.1 dX8_thingsBelow_35 rfl (lv_at hl 1 rfl) ?_
        exact mw_iret S hr hlk hK hG dX8_thingsBelow_36 ⟨rfl, rfl⟩
      · have c1 : ¬ (e2 ≤ k) := fun h9 => c1 ((nI_leI (a := e2) (b := k) (by omega) (by omega)).mpr h9)
        refine lv_iload_n S.1 S.2.1 dX8_thingsBelow_9 rfl (lv_at hl 0 rfl) ?_
        refine lv_aload_n S.1 S.2.1 dX8_thingsBelow_10 rfl (lv_at hl 2 rfl) ?_
        refine cg_RX8_17 S hK hG hC dX8_thingsBelow_11 ?_
        refine cn_own S hK hG hC dX8_thingsBelow_14 ?_
        refine lv_icmp_ge (tgt := 35) S.1 S.2.1 dX8_thingsBelow_15 (by decide) (fun c2 => ?_) (fun c2 => ?_)
        · have c2 : Wn ≤ k := (nI_leI (a := Wn) (b := k) (by omega) (by omega)).mp c2
          omega
        · have c2 : ¬ (Wn ≤ k) := fun h9 => c2 ((nI_leI (a := Wn) (b := k) (by omega) (by omega)).mpr h9)
          refine lv_aload_n S.1 S.2.1 dX8_thingsBelow_18 rfl (lv_at hl 2 rfl) ?_
          refine lv_iload_n S.1 S.2.1 dX8_thingsBelow_19 rfl (lv_at hl 0 rfl) ?_
          refine mCV (As := [.int (nI (k))]) (rest := []) S (w_beginningAt hC hob hW htb k (by omega)) cal_X8_beginningAt in_271 in_213 in_214 in_18 hK hN hG hC.obj8 rfl rfl rfl hl.1 (Nat.le_of_ble_eq_true rfl) ⟨by decide, by decide⟩ ⟨rfl, rfl⟩ ⟨by decide, by decide⟩ dX8_thingsBelow_20 (fun v w H locs hp hG => ?_)
          obtain ⟨rfl, hw9⟩ := hp
          have hw9 := hw9.symm
          subst hw9
          refine W.eq (g2 := F0 m 23 ls [va_rf ((bgn own tad k).map (tq q))]) rfl ?_
          refine lw_ifnull (x := bgn own tad k) (tgt := 29) S.1 S.2.1 dX8_thingsBelow_23 (by decide) (fun c3 => ?_) (fun t c3 => ?_)
          · refine lv_iinc (v := nI (k + 1)) (lv' := [(3, .int (nI (k + 1))), (2, .int (nI (cnt (fun k => (bgn own tad k).isSome) k))), (0, .ref (q 1)), (1, .int (nI (e2)))]) S.1 S.2.1 dX8_thingsBelow_29 hl (k := 0) rfl (nI_1 _) (by decide) rfl (fun ls hl => ?_)
            refine lv_goto (tgt := 4) S.1 S.2.1 dX8_thingsBelow_32 (by decide) ?_
            rw [← cnt_s0 (c := (fun k => (bgn own tad k).isSome)) (by show (bgn own tad k).isSome = false; rw [c3]; rfl)] at hl
            exact ihL (k + 1) (by omega) (by omega) _ _ hG ls (lv_sub hl [0, 1, 2, 3] rfl)
          · refine lv_iinc (v := nI (cnt (fun k => (bgn own tad k).isSome) k + 1)) (lv' := [(2, .int (nI (cnt (fun k => (bgn own tad k).isSome) k + 1))), (3, .int (nI (k))), (0, .ref (q 1)), (1, .int (nI (e2)))]) S.1 S.2.1 dX8_thingsBelow_26 hl (k := 1) rfl (nI_1 _) (by decide) rfl (fun ls hl => ?_)
            refine lv_iinc (v := nI (k + 1)) (lv' := [(3, .int (nI (k + 1))), (2, .int (nI (cnt (fun k => (bgn own tad k).isSome) k + 1))), (0, .ref (q 1)), (1, .int (nI (e2)))]) S.1 S.2.1 dX8_thingsBelow_29 hl (k := 1) rfl (nI_1 _) (by decide) rfl (fun ls hl => ?_)
            refine lv_goto (tgt := 4) S.1 S.2.1 dX8_thingsBelow_32 (by decide) ?_
            rw [← cnt_s1 (c := (fun k => (bgn own tad k).isSome)) (by show (bgn own tad k).isSome = true; rw [c3]; rfl)] at hl
            exact ihL (k + 1) (by omega) (by omega) _ _ hG ls (lv_sub hl [0, 1, 2, 3] rfl)
  exact L (e2 + 1) 0 (by omega) (by omega) _ _ hG ls (lv_sub hl [0, 1, 2, 3] rfl)
theorem cal_X8_taken : mCal yX8_taken cX8_taken 3 0 (some .int) := ⟨in_617, by decide +kernel⟩
set_option maxHeartbeats 4000000 in
set_option maxRecDepth 100000 in
theorem w_taken {l : Launch} {dC : Nat → ClassId} {dI : Nat → Nat → Nat} {cI cZ cT : ClassId} {q : Nat → Nat} {kp : Nat} {Wn : Nat} {made : Nat} {fl : (Nat → Nat)} {num : (Nat → Nat → Int32)} {rfs : (Nat → Nat → Option Nat)} {root : (Nat → Option Nat)} {own : (Nat → Option Nat)} {tad : (Nat → Nat)} {trm : (Nat → Bool)} {tpl : (Nat → Nat)} {wlk : (Nat → Nat)} {ord : (Nat → Nat)} {met : (Nat → Option Nat)} {msz : Nat} {cur : Nat} {mend : Nat} {pnx : Nat} {pen : Nat} {st : Nat} {coll : Nat} {mins : Nat} {movd : Nat} {w : mM} (hC : CW cI cT q kp Wn made fl num rfs root own tad trm tpl wlk ord met msz cur mend pnx pen st coll mins movd w) (hW : Wn < 1000) : mC l yX8_taken (wsY yX8_taken cX8_taken 3 (some .int)) { frames := 0, cells := 0, slots := 0, locals := 0 } (dC, dI) vwCl (tyL cI cZ cT) 0 0 w [.ref (q 1)] (fun v w2 => v = some (.int (nI (cnt (fun k => (own k).isSome) Wn))) ∧ w2 = w) := by
  refine mC.on (by decide) (Nat.le_of_ble_eq_true rfl) ?_
  intro p e s m args below meth c ls S hr hlk hnm hK hN hG hl
  have hl : lv_has ls 3 [(0, .ref (q 1))] := hl
  generalize hAe : mA w s.heap.size = A at hG ⊢
  refine lv_iconst (v := nI (0)) S.1 S.2.1 dX8_taken_0 (by decide) ?_
  refine lv_istore_n (lv' := [(1, .int (nI (0))), (0, .ref (q 1))]) S.1 S.2.1 dX8_taken_1 rfl hl (by decide) rfl (fun ls hl => ?_)
  refine lv_iconst (v := nI (0)) S.1 S.2.1 dX8_taken_2 (by decide) ?_
  refine lv_istore_n (lv' := [(2, .int (nI (0))), (1, .int (nI (0))), (0, .ref (q 1))]) S.1 S.2.1 dX8_taken_3 rfl hl (by decide) rfl (fun ls hl => ?_)
  have L : ∀ (fu : Nat) (k : Nat), Wn - k < fu → (k ≤ Wn) → ∀ ls : Array Slot, lv_has ls 3 [(2, .int (nI (k))), (1, .int (nI (cnt (fun k => (own k).isSome) k))), (0, .ref (q 1))] → W p l e { frames := 0, cells := 0, slots := 0, locals := 0 } s m args below meth c s.heap [] 0 0 (MQ below (mQ (dC, dI) vwCl (tyL cI cZ cT) (fun v w2 => v = some (.int (nI (cnt (fun k => (own k).isSome) Wn))) ∧ w2 = w) A) args s 0 0 A) (F0 m 4 ls []) := by
    intro fu
    induction fu with
    | zero => intro k h1; exact absurd h1 (Nat.not_lt_zero _)
    | succ fu ihL =>
      intro k h1 h2 ls hl
      refine lv_iload_n S.1 S.2.1 dX8_taken_4 rfl (lv_at hl 0 rfl) ?_
      refine lv_aload_n S.1 S.2.1 dX8_taken_5 rfl (lv_at hl 2 rfl) ?_
      refine cg_RX8_17 S hK hG hC dX8_taken_6 ?_
      refine cn_own S hK hG hC dX8_taken_9 ?_
      refine lv_icmp_ge (tgt := 31) S.1 S.2.1 dX8_taken_10 (by decide) (fun c1 => ?_) (fun c1 => ?_)
      · have c1 : Wn ≤ k := (nI_leI (a := Wn) (b := k) (by omega) (by omega)).mp c1
        have hk : k = Wn := by omega
        rw [hk] at hl
        refine lv_iload_n S.1 S.2.1 dX8_taken_31 rfl (lv_at hl 1 rfl) ?_
        exact mw_iret S hr hlk hK hG dX8_taken_32 ⟨rfl, rfl⟩
      · have c1 : ¬ (Wn ≤ k) := fun h9 => c1 ((nI_leI (a := Wn) (b := k) (by omega) (by omega)).mpr h9)
        refine lv_aload_n S.1 S.2.1 dX8_taken_13 rfl (lv_at hl 2 rfl) ?_
        refine cg_RX8_17 S hK hG hC dX8_taken_14 ?_
        refine lv_iload_n S.1 S.2.1 dX8_taken_17 rfl (lv_at hl 0 rfl) ?_
        refine cl_own S hK hG hC (k) (by omega) (by omega) dX8_taken_18 ?_
        refine lw_ifnull (x := own k) (tgt := 25) S.1 S.2.1 dX8_taken_19 (by decide) (fun c3 => ?_) (fun t c3 => ?_)
        · refine lv_iinc (v := nI (k + 1)) (lv' := [(2, .int (nI (k + 1))), (1, .int (nI (cnt (fun k => (own k).isSome) k))), (0, .ref (q 1))]) S.1 S.2.1 dX8_taken_25 hl (k := 0) rfl (nI_1 _) (by decide) rfl (fun ls hl => ?_)
          refine lv_goto (tgt := 4) S.1 S.2.1 dX8_taken_28 (by decide) ?_
          rw [← cnt_s0 (c := (fun k => (own k).isSome)) (by show (own k).isSome = false; rw [c3]; rfl)] at hl
          exact ihL (k + 1) (by omega) (by omega) ls (lv_sub hl [0, 1, 2] rfl)
        · refine lv_iinc (v := nI (cnt (fun k => (own k).isSome) k + 1)) (lv' := [(1, .int (nI (cnt (fun k => (own k).isSome) k + 1))), (2, .int (nI (k))), (0, .ref (q 1))]) S.1 S.2.1 dX8_taken_22 hl (k := 1) rfl (nI_1 _) (by decide) rfl (fun ls hl => ?_)
          refine lv_iinc (v := nI (k + 1)) (lv' := [(2, .int (nI (k + 1))), (1, .int (nI (cnt (fun k => (own k).isSome) k + 1))), (0, .ref (q 1))]) S.1 S.2.1 dX8_taken_25 hl (k := 1) rfl (nI_1 _) (by decide) rfl (fun ls hl => ?_)
          refine lv_goto (tgt := 4) S.1 S.2.1 dX8_taken_28 (by decide) ?_
          rw [← cnt_s1 (c := (fun k => (own k).isSome)) (by show (own k).isSome = true; rw [c3]; rfl)] at hl
          exact ihL (k + 1) (by omega) (by omega) ls (lv_sub hl [0, 1, 2] rfl)
  exact L (Wn + 1) 0 (by omega) (by omega) ls (lv_sub hl [0, 1, 2] rfl)
theorem cal_X8_rememberedThings : mCal yX8_rememberedThings cX8_rememberedThings 4 0 (some .int) := ⟨in_621, by decide +kernel⟩
set_option maxHeartbeats 4000000 in
set_option maxRecDepth 100000 in
theorem w_rememberedThings {l : Launch} {dC : Nat → ClassId} {dI : Nat → Nat → Nat} {cI cZ cT : ClassId} {q : Nat → Nat} {kp : Nat} {Wn : Nat} {made : Nat} {fl : (Nat → Nat)} {num : (Nat → Nat → Int32)} {rfs : (Nat → Nat → Option Nat)} {root : (Nat → Option Nat)} {own : (Nat → Option Nat)} {tad : (Nat → Nat)} {trm : (Nat → Bool)} {tpl : (Nat → Nat)} {wlk : (Nat → Nat)} {ord : (Nat → Nat)} {met : (Nat → Option Nat)} {msz : Nat} {cur : Nat} {mend : Nat} {pnx : Nat} {pen : Nat} {st : Nat} {coll : Nat} {mins : Nat} {movd : Nat} {w : mM} (hC : CW cI cT q kp Wn made fl num rfs root own tad trm tpl wlk ord met msz cur mend pnx pen st coll mins movd w) (hob : ∀ k t, own k = some t → t < made) (hW : Wn < 1000) (htb : ∀ t, t < made → tad t < 2147483648) : mC l yX8_rememberedThings (wsY yX8_rememberedThings cX8_rememberedThings 4 (some .int)) { frames := 2, cells := 0, slots := 0, locals := 43 } (dC, dI) vwCl (tyL cI cZ cT) 0 0 w [.ref (q 1)] (fun v w2 => v = some (.int (nI (cnt (fun k => match bgn own tad k with | none => false | some t => trm t) Wn))) ∧ w2 = w) := by
  refine mC.on (by decide) (Nat.le_of_ble_eq_true rfl) ?_
  intro p e s m args below meth c ls S hr hlk hnm hK hN hG hl
  have hl : lv_has ls 4 [(0, .ref (q 1))] := hl
  generalize hAe : mA w s.heap.size = A at hG ⊢
  refine lv_iconst (v := nI (0)) S.1 S.2.1 dX8_rememberedThings_0 (by decide) ?_
  refine lv_istore_n (lv' := [(1, .int (nI (0))), (0, .ref (q 1))]) S.1 S.2.1 dX8_rememberedThings_1 rfl hl (by decide) rfl (fun ls hl => ?_)
  refine lv_iconst (v := nI (0)) S.1 S.2.1 dX8_rememberedThings_2 (by decide) ?_
  refine lv_istore_n (lv' := [(2, .int (nI (0))), (1, .int (nI (0))), (0, .ref (q 1))]) S.1 S.2.1 dX8_rememberedThings_3 rfl hl (by decide) rfl (fun ls hl => ?_)
  have L : ∀ (fu : Nat) (k : Nat), Wn - k < fu → (k ≤ Wn) → ∀ (H : Heap) (locs : List Loc), mG (dC, dI) vwCl A s.heap w H locs → ∀ ls : Array Slot, lv_has ls 4 [(2, .int (nI (k))), (1, .int (nI (cnt (fun k => match bgn own tad k with | none => false | some t => trm t) k))), (0, .ref (q 1))] → W p l e { frames := 2, cells := 0, slots := 0, locals := 43 } s m args below meth c H locs 0 0 (MQ below (mQ (dC, dI) vwCl (tyL cI cZ cT) (fun v w2 => v = some (.int (nI (cnt (fun k => match bgn own tad k with | none => false | some t => trm t) Wn))) ∧ w2 = w) A) args s 0 0 A) (F0 m 4 ls []) := by
    intro fu
    induction fu with
    | zero => intro k h1; exact absurd h1 (Nat.not_lt_zero _)
    | succ fu ihL =>
      intro k h1 h2 H locs hG ls hl
      refine lv_iload_n S.1 S.2.1 dX8_rememberedThings_4 rfl (lv_at hl 0 rfl) ?_
      refine lv_aload_n S.1 S.2.1 dX8_rememberedThings_5 rfl (lv_at hl 2 rfl) ?_
      refine cg_RX8_17 S hK hG hC dX8_rememberedThings_6 ?_
      refine cn_own S hK hG hC dX8_rememberedThings_9 ?_
      refine lv_icmp_ge (tgt := 39) S.1 S.2.1 dX8_rememberedThings_10 (by decide) (fun c1 => ?_) (fun c1 => ?_)
      · have c1 : Wn ≤ k := (nI_leI (a := Wn) (b := k) (by omega) (by omega)).mp c1
        have hk : k = Wn := by omega
        rw [hk] at hl
        refine lv_iload_n S.1 S.2.1 dX8_rememberedThings_39 rfl (lv_at hl 1 rfl) ?_
        exact mw_iret S hr hlk hK hG dX8_rememberedThings_40 ⟨rfl, rfl⟩
      · have c1 : ¬ (Wn ≤ k) := fun h9 => c1 ((nI_leI (a := Wn) (b := k) (by omega) (by omega)).mpr h9)
        refine lv_aload_n S.1 S.2.1 dX8_rememberedThings_13 rfl (lv_at hl 2 rfl) ?_
        refine lv_iload_n S.1 S.2.1 dX8_rememberedThings_14 rfl (lv_at hl 0 rfl) ?_
        refine mCV (As := [.int (nI (k))]) (rest := []) S (w_beginningAt hC hob hW htb k (by omega)) cal_X8_beginningAt in_271 in_213 in_214 in_18 hK hN hG hC.obj8 rfl rfl rfl hl.1 (Nat.le_of_ble_eq_true rfl) ⟨by decide, by decide⟩ ⟨rfl, rfl⟩ ⟨by decide, by decide⟩ dX8_rememberedThings_15 (fun v w H locs hp hG => ?_)
        obtain ⟨rfl, hw9⟩ := hp
        have hw9 := hw9.symm
        subst hw9
        refine W.eq (g2 := F0 m 18 ls [va_rf ((bgn own tad k).map (tq q))]) rfl ?_
        refine lw_astore_n (lv' := [(3, va_rf ((bgn own tad k).map (tq q))), (2, .int (nI (k))), (1, .int (nI (cnt (fun k => match bgn own tad k with | none => false | some t => trm t) k))), (0, .ref (q 1))]) S.1 S.2.1 dX8_rememberedThings_18 rfl hl (by decide) rfl (fun ls hl => ?_)
        refine lw_aload_n S.1 S.2.1 dX8_rememberedThings_19 rfl (lv_at hl 0 rfl) ?_
        refine lw_ifnull (x := bgn own tad k) (tgt := 33) S.1 S.2.1 dX8_rememberedThings_20 (by decide) (fun c3 => ?_) (fun t c3 => ?_)
        · refine lv_iinc (v := nI (k + 1)) (lv' := [(2, .int (nI (k + 1))), (3, va_rf ((bgn own tad k).map (tq q))), (1, .int (nI (cnt (fun k => match bgn own tad k with | none => false | some t => trm t) k))), (0, .ref (q 1))]) S.1 S.2.1 dX8_rememberedThings_33 hl (k := 1) rfl (nI_1 _) (by decide) rfl (fun ls hl => ?_)
          refine lv_goto (tgt := 4) S.1 S.2.1 dX8_rememberedThings_36 (by decide) ?_
          rw [← cnt_s0 (c := (fun k => match bgn own tad k with | none => false | some t => trm t)) (by show (match bgn own tad k with | none => false | some t => trm t) = _; rw [c3]; skip)] at hl
          exact ihL (k + 1) (by omega) (by omega) _ _ hG ls (lv_sub hl [0, 2, 3] rfl)
        · have htm := hob k t (bgn_own c3).1
          have hl9 := hl
          rw [c3] at hl
          have hl : lv_has ls 4 [(3, .ref (tq q t)), (2, .int (nI (k))), (1, .int (nI (cnt (fun k => match bgn own tad k with | none => false | some t => trm t) k))), (0, .ref (q 1))] := hl
          refine lv_aload_n S.1 S.2.1 dX8_rememberedThings_23 rfl (lv_at hl 0 rfl) ?_
          refine cg_RX8_45 S hK hG hC (t) (by omega) dX8_rememberedThings_24 ?_
          refine lv_if_eq (tgt := 33) S.1 S.2.1 dX8_rememberedThings_27 (by decide) (fun c4 => ?_) (fun c4 => ?_)
          · refine lv_iinc (v := nI (k + 1)) (lv' := [(2, .int (nI (k + 1))), (3, .ref (tq q t)), (1, .int (nI (cnt (fun k => match bgn own tad k with | none => false | some t => trm t) k))), (0, .ref (q 1))]) S.1 S.2.1 dX8_rememberedThings_33 hl (k := 1) rfl (nI_1 _) (by decide) rfl (fun ls hl => ?_)
            refine lv_goto (tgt := 4) S.1 S.2.1 dX8_rememberedThings_36 (by decide) ?_
            rw [← cnt_s0 (c := (fun k => match bgn own tad k with | none => false | some t => trm t)) (by show (match bgn own tad k with | none => false | some t => trm t) = _; rw [c3]; exact bI_f c4)] at hl
            exact ihL (k + 1) (by omega) (by omega) _ _ hG ls (lv_sub hl [0, 2, 3] rfl)
          · refine lv_iinc (v := nI (cnt (fun k => match bgn own tad k with | none => false | some t => trm t) k + 1)) (lv' := [(1, .int (nI (cnt (fun k => match bgn own tad k with | none => false | some t => trm t) k + 1))), (3, .ref (tq q t)), (2, .int (nI (k))), (0, .ref (q 1))]) S.1 S.2.1 dX8_rememberedThings_30 hl (k := 2) rfl (nI_1 _) (by decide) rfl (fun ls hl => ?_)
            refine lv_iinc (v := nI (k + 1)) (lv' := [(2, .int (nI (k + 1))), (1, .int (nI (cnt (fun k => match bgn own tad k with | none => false | some t => trm t) k + 1))), (3, .ref (tq q t)), (0, .ref (q 1))]) S.1 S.2.1 dX8_rememberedThings_33 hl (k := 2) rfl (nI_1 _) (by decide) rfl (fun ls hl => ?_)
            refine lv_goto (tgt := 4) S.1 S.2.1 dX8_rememberedThings_36 (by decide) ?_
            rw [← cnt_s1 (c := (fun k => match bgn own tad k with | none => false | some t => trm t)) (by show (match bgn own tad k with | none => false | some t => trm t) = _; rw [c3]; exact bI_t c4)] at hl
            exact ihL (k + 1) (by omega) (by omega) _ _ hG ls (lv_sub hl [0, 1, 3] rfl)
  exact L (Wn + 1) 0 (by omega) (by omega) _ _ hG ls (lv_sub hl [0, 1, 2] rfl)
theorem cal_X3_restart : mCal yX3_restart cX3_restart 3 2 none := ⟨in_286, by decide +kernel⟩
set_option maxHeartbeats 4000000 in
set_option maxRecDepth 100000 in
theorem p_restart {l : Launch} {dC : Nat → ClassId} {dI : Nat → Nat → Nat} {cI cZ cT : ClassId} {q : Nat → Nat} {kp : Nat} {Wn : Nat} {made : Nat} {fl : (Nat → Nat)} {num : (Nat → Nat → Int32)} {rfs : (Nat → Nat → Option Nat)} {root : (Nat → Option Nat)} {own : (Nat → Option Nat)} {tad : (Nat → Nat)} {trm : (Nat → Bool)} {tpl : (Nat → Nat)} {wlk : (Nat → Nat)} {ord : (Nat → Nat)} {met : (Nat → Option Nat)} {msz : Nat} {cur : Nat} {mend : Nat} {pnx : Nat} {pen : Nat} {st : Nat} {coll : Nat} {mins : Nat} {movd : Nat} {w : mM} (hC : CW cI cT q kp Wn made fl num rfs root own tad trm tpl wlk ord met msz cur mend pnx pen st coll mins movd w) (hkp : kp ≠ 0) (a n : Nat) : mC l yX3_restart (wsY yX3_restart cX3_restart 3 none) { frames := 0, cells := 0, slots := 0, locals := 0 } (dC, dI) vwCl (tyL cI cZ cT) 0 0 w [.ref (q 8), .int (nI (a)), .int (nI (n))] (fun v w2 => v = none ∧ CW cI cT q kp Wn made fl num rfs root own tad trm tpl wlk ord met msz cur mend a (a + n) st coll mins movd w2) := by
  refine mC.on (by decide) (Nat.le_of_ble_eq_true rfl) ?_
  intro p e s m args below meth c ls S hr hlk hnm hK hN hG hl
  have hl : lv_has ls 3 [(0, .ref (q 8)), (1, .int (nI (a))), (2, .int (nI (n)))] := hl
  generalize hAe : mA w s.heap.size = A at hG ⊢
  refine lv_aload_n S.1 S.2.1 dX3_restart_0 rfl (lv_at hl 0 rfl) ?_
  refine lv_iload_n S.1 S.2.1 dX3_restart_1 rfl (lv_at hl 1 rfl) ?_
  refine cp_RX3_9 S hK hG hC (by omega) (a) dX3_restart_2 (fun w H locs hC hG => ?_)
  refine lv_aload_n S.1 S.2.1 dX3_restart_5 rfl (lv_at hl 0 rfl) ?_
  refine lv_iload_n S.1 S.2.1 dX3_restart_6 rfl (lv_at hl 1 rfl) ?_
  refine lv_iload_n S.1 S.2.1 dX3_restart_7 rfl (lv_at hl 2 rfl) ?_
  refine lv_iadd S.1 S.2.1 dX3_restart_8 ?_
  refine lv_eqi (nI_add _ _) ?_
  refine cp_RX3_15 S hK hG hC (by omega) (a + n) dX3_restart_9 (fun w H locs hC hG => ?_)
  exact mw_vret S hr hlk hK hG dX3_restart_12 ⟨rfl, hC⟩
theorem cal_X3_take : mCal yX3_take cX3_take 3 1 (some .int) := ⟨in_156, by decide +kernel⟩
set_option maxHeartbeats 4000000 in
set_option maxRecDepth 100000 in
theorem p_take {l : Launch} {dC : Nat → ClassId} {dI : Nat → Nat → Nat} {cI cZ cT : ClassId} {q : Nat → Nat} {kp : Nat} {Wn : Nat} {made : Nat} {fl : (Nat → Nat)} {num : (Nat → Nat → Int32)} {rfs : (Nat → Nat → Option Nat)} {root : (Nat → Option Nat)} {own : (Nat → Option Nat)} {tad : (Nat → Nat)} {trm : (Nat → Bool)} {tpl : (Nat → Nat)} {wlk : (Nat → Nat)} {ord : (Nat → Nat)} {met : (Nat → Option Nat)} {msz : Nat} {cur : Nat} {mend : Nat} {pnx : Nat} {pen : Nat} {st : Nat} {coll : Nat} {mins : Nat} {movd : Nat} {w : mM} (hC : CW cI cT q kp Wn made fl num rfs root own tad trm tpl wlk ord met msz cur mend pnx pen st coll mins movd w) (hkp : kp ≠ 0) (n : Nat) (hn : n < 1000) (h1 : pnx < 1000) (h2 : pen < 1000) : mC l yX3_take (wsY yX3_take cX3_take 3 (some .int)) { frames := 0, cells := 0, slots := 0, locals := 0 } (dC, dI) vwCl (tyL cI cZ cT) 0 0 w [.ref (q 8), .int (nI (n))] (fun v w2 => v = some (.int (oI (if pnx + n ≤ pen then some pnx else none))) ∧ CW cI cT q kp Wn made fl num rfs root own tad trm tpl wlk ord met msz cur mend ((if pnx + n ≤ pen then pnx + n else pnx)) pen st coll mins movd w2) := by
  refine mC.on (by decide) (Nat.le_of_ble_eq_true rfl) ?_
  intro p e s m args below meth c ls S hr hlk hnm hK hN hG hl
  have hl : lv_has ls 3 [(0, .ref (q 8)), (1, .int (nI (n)))] := hl
  generalize hAe : mA w s.heap.size = A at hG ⊢
  refine lv_aload_n S.1 S.2.1 dX3_take_0 rfl (lv_at hl 0 rfl) ?_
  refine cg_RX3_9 S hK hG hC (by omega) dX3_take_1 ?_
  refine lv_iload_n S.1 S.2.1 dX3_take_4 rfl (lv_at hl 1 rfl) ?_
  refine lv_iadd S.1 S.2.1 dX3_take_5 ?_
  refine lv_eqi (nI_add _ _) ?_
  refine lv_aload_n S.1 S.2.1 dX3_take_6 rfl (lv_at hl 0 rfl) ?_
  refine cg_RX3_15 S hK hG hC (by omega) dX3_take_7 ?_
  refine lv_icmp_le (tgt := 15) S.1 S.2.1 dX3_take_10 (by decide) (fun c1 => ?_) (fun c1 => ?_)
  · have c1 : (pnx + n) ≤ pen := (nI_leI (a := pnx + n) (b := pen) (by omega) (by omega)).mp c1
    rw [if_pos c1, if_pos c1]
    refine lv_aload_n S.1 S.2.1 dX3_take_15 rfl (lv_at hl 0 rfl) ?_
    refine cg_RX3_9 S hK hG hC (by omega) dX3_take_16 ?_
    refine lv_istore_n (lv' := [(2, .int (nI (pnx))), (0, .ref (q 8)), (1, .int (nI (n)))]) S.1 S.2.1 dX3_take_19 rfl hl (by decide) rfl (fun ls hl => ?_)
    refine lv_aload_n S.1 S.2.1 dX3_take_20 rfl (lv_at hl 1 rfl) ?_
    refine lv_dup S.1 S.2.1 dX3_take_21 rfl ?_
    refine cg_RX3_9 S hK hG hC (by omega) dX3_take_22 ?_
    refine lv_iload_n S.1 S.2.1 dX3_take_25 rfl (lv_at hl 2 rfl) ?_
    refine lv_iadd S.1 S.2.1 dX3_take_26 ?_
    refine lv_eqi (nI_add _ _) ?_
    refine cp_RX3_9 S hK hG hC (by omega) (pnx + n) dX3_take_27 (fun w H locs hC hG => ?_)
    refine lv_iload_n S.1 S.2.1 dX3_take_30 rfl (lv_at hl 0 rfl) ?_
    exact mw_iret S hr hlk hK hG dX3_take_31 ⟨rfl, hC⟩
  · have c1 : ¬ ((pnx + n) ≤ pen) := fun h9 => c1 ((nI_leI (a := pnx + n) (b := pen) (by omega) (by omega)).mpr h9)
    rw [if_neg c1, if_neg c1]
    refine lv_iconst (v := -1) S.1 S.2.1 dX3_take_13 (by decide) ?_
    exact mw_iret S hr hlk hK hG dX3_take_14 ⟨rfl, hC⟩
end
section
/-- the class's walk: its row, marks and orders hold the list -/
def LsC (made cur msz : Nat) (met : Nat → Option Nat) (wlk ord : Nat → Nat) (L : List Nat) : Prop :=
  L.Nodup ∧ msz = L.length ∧ (∀ i, i < L.length → met i = some (L.getD i 0)) ∧ (∀ o, o < made → (wlk o = cur ↔ o ∈ L)) ∧ (∀ i o, L[i]? = some o → ord o = i) ∧ (∀ o ∈ L, o < made) ∧ ∀ o, o < made → wlk o ≤ cur
theorem LsC_nil {made cur : Nat} {met : Nat → Option Nat} {wlk ord : Nat → Nat} (h : ∀ o, o < made → wlk o ≤ cur) : LsC made (cur + 1) 0 met wlk ord [] := by
  refine ⟨List.nodup_nil, rfl, fun i h => absurd h (Nat.not_lt_zero _), fun o ho => ⟨fun z => ?_, fun z => absurd z List.not_mem_nil⟩, fun i o h => ?_, fun o h => absurd h List.not_mem_nil, fun o ho => ?_⟩
  · have := h o ho; omega
  · simp at h
  · have := h o ho; omega
theorem LsC_push {made cur msz k : Nat} {met : Nat → Option Nat} {wlk ord : Nat → Nat} {L : List Nat} (h : LsC made cur msz met wlk ord L) (hk : k < made) (hn : k ∉ L) : LsC made cur (msz + 1) (va_up met msz (some k)) (va_up wlk k cur) (va_up ord k msz) (L ++ [k]) := by
  obtain ⟨h1, h2, h3, h4, h5, h6, h7⟩ := h
  subst h2
  refine ⟨List.nodup_append.mpr ⟨h1, List.nodup_cons.mpr ⟨List.not_mem_nil, List.nodup_nil⟩, ?_⟩, ?_, ?_, ?_, ?_, ?_, ?_⟩
  · intro x hx y hy
    rw [List.mem_singleton.mp hy]
    exact fun z => hn (z ▸ hx)
  · rw [List.length_append]; rfl
  · intro i hi
    rw [List.length_append] at hi
    unfold va_up
    by_cases hil : i = L.length
    · rw [if_pos hil, hil]
      simp [List.getD]
    · rw [if_neg hil]
      have : i < L.length := by have : [k].length = 1 := rfl; omega
      rw [getD_pre this]
      exact h3 i this
  · intro o ho
    unfold va_up
    by_cases hok : o = k
    · rw [if_pos hok]
      exact ⟨fun _ => hok ▸ List.mem_append_right L (List.mem_singleton.mpr rfl), fun _ => rfl⟩
    · rw [if_neg hok]
      refine (h4 o ho).trans ⟨fun z => List.mem_append_left _ z, fun z => ?_⟩
      rcases List.mem_append.mp z with z | z
      · exact z
      · exact absurd (List.mem_singleton.mp z) hok
  · intro i o hio
    unfold va_up
    by_cases hil : i < L.length
    · rw [List.getElem?_append_left hil] at hio
      have hne : o ≠ k := fun z => hn (z ▸ List.mem_of_getElem? hio)
      rw [if_neg hne]
      exact h5 i o hio
    · rw [List.getElem?_append_right (by omega)] at hio
      have hz : i - L.length < 1 := (List.getElem?_eq_some_iff.mp hio).1
      have hi : i = L.length := by omega
      subst hi
      rw [Nat.sub_self] at hio
      cases hio
      rw [if_pos rfl]
  · intro o ho
    rcases List.mem_append.mp ho with ho | ho
    · exact h6 o ho
    · rw [List.mem_singleton.mp ho]; exact hk
  · intro o ho
    unfold va_up
    by_cases hok : o = k
    · rw [if_pos hok]; exact Nat.le_refl _
    · rw [if_neg hok]; exact h7 o ho
theorem LsC_row {made cur msz i : Nat} {met : Nat → Option Nat} {wlk ord : Nat → Nat} {L : List Nat} (h : LsC made cur msz met wlk ord L) (hi : i < msz) : met i = some (L.getD i 0) ∧ L.getD i 0 ∈ L ∧ L.getD i 0 < made := by
  have hi2 : i < L.length := h.2.1 ▸ hi
  exact ⟨h.2.2.1 i hi2, getD_mem hi2, h.2.2.2.2.2.1 _ (getD_mem hi2)⟩
def okC (tad : Nat → Nat) (mend : Nat) : Nat → Bool := fun t => decide (tad t < mend)
theorem mtL_no {ok : Nat → Bool} {L : List Nat} {k : Nat} (h : ok k = false ∨ k ∈ L) : mtL ok L (some k) = L := by
  unfold mtL
  simp only []
  rw [if_neg (fun z => h.elim (fun h => by rw [h] at z; exact absurd z.1 (by decide)) (fun h => z.2 h))]
theorem mtL_yes {ok : Nat → Bool} {L : List Nat} {k : Nat} (h : ok k = true) (h2 : k ∉ L) : mtL ok L (some k) = L ++ [k] := by
  unfold mtL
  simp only []
  rw [if_pos ⟨h, h2⟩]
theorem cal_X7_begin : mCal yX7_begin cX7_begin 2 1 none := ⟨in_190, by decide +kernel⟩
set_option maxHeartbeats 4000000 in
set_option maxRecDepth 100000 in
theorem k_begin {l : Launch} {dC : Nat → ClassId} {dI : Nat → Nat → Nat} {cI cZ cT : ClassId} {q : Nat → Nat} {kp : Nat} {Wn : Nat} {made : Nat} {fl : (Nat → Nat)} {num : (Nat → Nat → Int32)} {rfs : (Nat → Nat → Option Nat)} {root : (Nat → Option Nat)} {own : (Nat → Option Nat)} {tad : (Nat → Nat)} {trm : (Nat → Bool)} {tpl : (Nat → Nat)} {wlk : (Nat → Nat)} {ord : (Nat → Nat)} {met : (Nat → Option Nat)} {msz : Nat} {cur : Nat} {mend : Nat} {pnx : Nat} {pen : Nat} {st : Nat} {coll : Nat} {mins : Nat} {movd : Nat} {w : mM} (hC : CW cI cT q kp Wn made fl num rfs root own tad trm tpl wlk ord met msz cur mend pnx pen st coll mins movd w) (e2 : Nat) : mC l yX7_begin (wsY yX7_begin cX7_begin 2 none) { frames := 0, cells := 0, slots := 0, locals := 0 } (dC, dI) vwCl (tyL cI cZ cT) 0 0 w [.ref (q 6), .int (nI (e2))] (fun v w2 => v = none ∧ CW cI cT q kp Wn made fl num rfs root own tad trm tpl wlk ord met 0 (cur + 1) e2 pnx pen st coll mins movd w2) := by
  refine mC.on (by decide) (Nat.le_of_ble_eq_true rfl) ?_
  intro p e s m args below meth c ls S hr hlk hnm hK hN hG hl
  have hl : lv_has ls 2 [(0, .ref (q 6)), (1, .int (nI (e2)))] := hl
  generalize hAe : mA w s.heap.size = A at hG ⊢
  refine lv_aload_n S.1 S.2.1 dX7_begin_0 rfl (lv_at hl 0 rfl) ?_
  refine lv_dup S.1 S.2.1 dX7_begin_1 rfl ?_
  refine cg_RX7_27 S hK hG hC dX7_begin_2 ?_
  refine lv_iconst (v := nI (1)) S.1 S.2.1 dX7_begin_5 (by decide) ?_
  refine lv_iadd S.1 S.2.1 dX7_begin_6 ?_
  refine lv_eqi (nI_add _ _) ?_
  refine cp_RX7_27 S hK hG hC (cur + 1) dX7_begin_7 (fun w H locs hC hG => ?_)
  refine lv_aload_n S.1 S.2.1 dX7_begin_10 rfl (lv_at hl 0 rfl) ?_
  refine lv_iconst (v := nI (0)) S.1 S.2.1 dX7_begin_11 (by decide) ?_
  refine cp_RX7_23 S hK hG hC (0) dX7_begin_12 (fun w H locs hC hG => ?_)
  refine lv_aload_n S.1 S.2.1 dX7_begin_15 rfl (lv_at hl 0 rfl) ?_
  refine lv_iload_n S.1 S.2.1 dX7_begin_16 rfl (lv_at hl 1 rfl) ?_
  refine cp_RX7_30 S hK hG hC (e2) dX7_begin_17 (fun w H locs hC hG => ?_)
  exact mw_vret S hr hlk hK hG dX7_begin_20 ⟨rfl, hC⟩
theorem cal_X7_meet : mCal yX7_meet cX7_meet 2 1 none := ⟨in_203, by decide +kernel⟩
set_option maxHeartbeats 4000000 in
set_option maxRecDepth 100000 in
theorem k_meet {l : Launch} {dC : Nat → ClassId} {dI : Nat → Nat → Nat} {cI cZ cT : ClassId} {q : Nat → Nat} {kp : Nat} {Wn : Nat} {made : Nat} {fl : (Nat → Nat)} {num : (Nat → Nat → Int32)} {rfs : (Nat → Nat → Option Nat)} {root : (Nat → Option Nat)} {own : (Nat → Option Nat)} {tad : (Nat → Nat)} {trm : (Nat → Bool)} {tpl : (Nat → Nat)} {cur : Nat} {mend : Nat} {pnx : Nat} {pen : Nat} {st : Nat} {coll : Nat} {mins : Nat} {movd : Nat} {mt : Nat → Option Nat} {ms2 : Nat} {wl od : Nat → Nat} {w : mM} (hC : CW cI cT q kp Wn made fl num rfs root own tad trm tpl wl od mt ms2 cur mend pnx pen st coll mins movd w) (hW4 : Wn ≤ 400) (hcb : cur < 2147483648) (hmb : mend ≤ 400) (htb : ∀ t, t < made → tad t < 2147483648) {L : List Nat} (hL : LsC made cur ms2 mt wl od L) (o : Option Nat) (ho : ∀ k, o = some k → k < made) (hB : (mtL (okC tad mend) L o).length ≤ Wn) : mC l yX7_meet (wsY yX7_meet cX7_meet 2 none) { frames := 0, cells := 0, slots := 0, locals := 0 } (dC, dI) vwCl (tyL cI cZ cT) 0 0 w [.ref (q 6), va_rf ((o).map (tq q))] (fun v w2 => v = none ∧ ∃ (mt3 : Nat → Option Nat) (ms3 : Nat) (wl3 od3 : Nat → Nat), CW cI cT q kp Wn made fl num rfs root own tad trm tpl wl3 od3 mt3 ms3 cur mend pnx pen st coll mins movd w2 ∧ LsC made cur ms3 mt3 wl3 od3 (mtL (okC tad mend) L o)) := by
  refine mC.on (by decide) (by cases o <;> exact Nat.le_of_ble_eq_true rfl) ?_
  intro p e s m args below meth c ls S hr hlk hnm hK hN hG hl
  have hl : lv_has ls 2 [(0, .ref (q 6)), (1, va_rf ((o).map (tq q)))] := (by cases o <;> exact hl)
  generalize hAe : mA w s.heap.size = A at hG ⊢
  refine lw_aload_n S.1 S.2.1 dX7_meet_0 rfl (lv_at hl 1 rfl) ?_
  refine lw_ifnull (x := o) (tgt := 26) S.1 S.2.1 dX7_meet_1 (by decide) (fun c0 => ?_) (fun k c0 => ?_)
  · exact mw_vret S hr hlk hK hG dX7_meet_26 ⟨rfl, mt, ms2, wl, od, hC, by rw [c0]; exact hL⟩
  · subst c0
    have hk := ho k rfl
    have hkt := htb k hk
    have hwc := hL.2.2.2.2.2.2 k hk
    have hl0 : L.length ≤ Wn := by
      obtain ⟨M, hM⟩ := mtL_pre (okC tad mend) L (some k)
      rw [hM, List.length_append] at hB
      omega
    have hms := hL.2.1
    have hl : lv_has ls 2 [(0, .ref (q 6)), (1, .ref (tq q k))] := hl
    refine lv_aload_n S.1 S.2.1 dX7_meet_4 rfl (lv_at hl 1 rfl) ?_
    refine cg_RX7_33 S hK hG hC (k) (by omega) dX7_meet_5 ?_
    refine lv_aload_n S.1 S.2.1 dX7_meet_8 rfl (lv_at hl 0 rfl) ?_
    refine cg_RX7_30 S hK hG hC dX7_meet_9 ?_
    refine lv_icmp_ge (tgt := 26) S.1 S.2.1 dX7_meet_12 (by decide) (fun c1 => ?_) (fun c1 => ?_)
    · have c1 : mend ≤ (tad k) := (nI_leI (a := mend) (b := tad k) (by omega) (by omega)).mp c1
      exact mw_vret S hr hlk hK hG dX7_meet_26 ⟨rfl, mt, ms2, wl, od, hC, by rw [mtL_no (Or.inl (decide_eq_false (by omega)))]; exact hL⟩
    · have c1 : ¬ (mend ≤ (tad k)) := fun h9 => c1 ((nI_leI (a := mend) (b := tad k) (by omega) (by omega)).mpr h9)
      refine lv_aload_n S.1 S.2.1 dX7_meet_15 rfl (lv_at hl 1 rfl) ?_
      refine cg_RX7_36 S hK hG hC (k) (by omega) dX7_meet_16 ?_
      refine lv_aload_n S.1 S.2.1 dX7_meet_19 rfl (lv_at hl 0 rfl) ?_
      refine cg_RX7_27 S hK hG hC dX7_meet_20 ?_
      refine lv_icmp_ne (tgt := 27) S.1 S.2.1 dX7_meet_23 (by decide) (fun c2 => ?_) (fun c2 => ?_)
      · have c2 : ¬ ((wl k) = cur) := fun h9 => c2 ((nI_eq (a := wl k) (b := cur) (by omega) (by omega)).mpr h9)
        have hin : k ∉ L := fun z => c2 ((hL.2.2.2.1 k hk).mpr z)
        have hok : okC tad mend k = true := decide_eq_true (by omega)
        rw [mtL_yes hok hin] at hB
        have hlen : (L ++ [k]).length = L.length + 1 := by rw [List.length_append]; rfl
        refine lv_aload_n S.1 S.2.1 dX7_meet_27 rfl (lv_at hl 0 rfl) ?_
        refine cg_RX7_23 S hK hG hC dX7_meet_28 ?_
        refine lv_if_lt (tgt := 82) S.1 S.2.1 dX7_meet_31 (by decide) (fun c3 => ?_) (fun c3 => ?_)
        · have c3 : ms2 < 0 := (nI_ltI (a := ms2) (b := 0) (by omega) (by omega)).mp c3
          omega
        · have c3 : ¬ (ms2 < 0) := fun h9 => c3 ((nI_ltI (a := ms2) (b := 0) (by omega) (by omega)).mpr h9)
          refine lv_aload_n S.1 S.2.1 dX7_meet_34 rfl (lv_at hl 0 rfl) ?_
          refine cg_RX7_23 S hK hG hC dX7_meet_35 ?_
          refine lv_aload_n S.1 S.2.1 dX7_meet_38 rfl (lv_at hl 0 rfl) ?_
          refine cg_RX7_17 S hK hG hC dX7_meet_39 ?_
          refine cn_met S hK hG hC dX7_meet_42 ?_
          refine lv_icmp_ge (tgt := 82) S.1 S.2.1 dX7_meet_43 (by decide) (fun c4 => ?_) (fun c4 => ?_)
          · have c4 : Wn ≤ ms2 := (nI_leI (a := Wn) (b := ms2) (by omega) (by omega)).mp c4
            omega
          · have c4 : ¬ (Wn ≤ ms2) := fun h9 => c4 ((nI_leI (a := Wn) (b := ms2) (by omega) (by omega)).mpr h9)
            refine lv_aload_n S.1 S.2.1 dX7_meet_46 rfl (lv_at hl 1 rfl) ?_
            refine lv_aload_n S.1 S.2.1 dX7_meet_47 rfl (lv_at hl 0 rfl) ?_
            refine cg_RX7_27 S hK hG hC dX7_meet_48 ?_
            refine cp_RX7_36 S hK hG hC (k) (by omega) (cur) dX7_meet_51 (fun w H locs hC hG => ?_)
            refine lv_aload_n S.1 S.2.1 dX7_meet_54 rfl (lv_at hl 1 rfl) ?_
            refine lv_aload_n S.1 S.2.1 dX7_meet_55 rfl (lv_at hl 0 rfl) ?_
            refine cg_RX7_23 S hK hG hC dX7_meet_56 ?_
            refine cp_RX7_39 S hK hG hC (k) (by omega) (ms2) dX7_meet_59 (fun w H locs hC hG => ?_)
            refine lv_aload_n S.1 S.2.1 dX7_meet_62 rfl (lv_at hl 0 rfl) ?_
            refine cg_RX7_17 S hK hG hC dX7_meet_63 ?_
            refine lv_aload_n S.1 S.2.1 dX7_meet_66 rfl (lv_at hl 0 rfl) ?_
            refine cg_RX7_23 S hK hG hC dX7_meet_67 ?_
            refine lv_aload_n S.1 S.2.1 dX7_meet_70 rfl (lv_at hl 1 rfl) ?_
            refine cs_met S hK hG hC (ms2) (some (k)) (by omega) (fun t9 h9 => by cases h9; omega) (by omega) dX7_meet_71 (fun w H locs hC hG => ?_)
            refine lv_aload_n S.1 S.2.1 dX7_meet_72 rfl (lv_at hl 0 rfl) ?_
            refine lv_dup S.1 S.2.1 dX7_meet_73 rfl ?_
            refine cg_RX7_23 S hK hG hC dX7_meet_74 ?_
            refine lv_iconst (v := nI (1)) S.1 S.2.1 dX7_meet_77 (by decide) ?_
            refine lv_iadd S.1 S.2.1 dX7_meet_78 ?_
            refine lv_eqi (nI_add _ _) ?_
            refine cp_RX7_23 S hK hG hC (ms2 + 1) dX7_meet_79 (fun w H locs hC hG => ?_)
            exact mw_vret S hr hlk hK hG dX7_meet_82 ⟨rfl, _, _, _, _, hC, by rw [mtL_yes hok hin]; exact LsC_push hL hk hin⟩
      · have c2 : (wl k) = cur := (nI_eq (a := wl k) (b := cur) (by omega) (by omega)).mp c2
        exact mw_vret S hr hlk hK hG dX7_meet_26 ⟨rfl, mt, ms2, wl, od, hC, by rw [mtL_no (Or.inr ((hL.2.2.2.1 k hk).mp c2))]; exact hL⟩
theorem cal_X7_hasMet : mCal yX7_hasMet cX7_hasMet 2 1 (some .boolean) := ⟨in_310, by decide +kernel⟩
set_option maxHeartbeats 4000000 in
set_option maxRecDepth 100000 in
theorem k_hasMet {l : Launch} {dC : Nat → ClassId} {dI : Nat → Nat → Nat} {cI cZ cT : ClassId} {q : Nat → Nat} {kp : Nat} {Wn : Nat} {made : Nat} {fl : (Nat → Nat)} {num : (Nat → Nat → Int32)} {rfs : (Nat → Nat → Option Nat)} {root : (Nat → Option Nat)} {own : (Nat → Option Nat)} {tad : (Nat → Nat)} {trm : (Nat → Bool)} {tpl : (Nat → Nat)} {wlk : (Nat → Nat)} {ord : (Nat → Nat)} {met : (Nat → Option Nat)} {msz : Nat} {cur : Nat} {mend : Nat} {pnx : Nat} {pen : Nat} {st : Nat} {coll : Nat} {mins : Nat} {movd : Nat} {w : mM} (hC : CW cI cT q kp Wn made fl num rfs root own tad trm tpl wlk ord met msz cur mend pnx pen st coll mins movd w) (hcb : cur < 2147483648) (hwb : ∀ t, t < made → wlk t ≤ cur) (k : Nat) (hk : k < made) : mC l yX7_hasMet (wsY yX7_hasMet cX7_hasMet 2 (some .boolean)) { frames := 0, cells := 0, slots := 0, locals := 0 } (dC, dI) vwCl (tyL cI cZ cT) 0 0 w [.ref (q 6), .ref (tq q k)] (fun v w2 => v = some (.int (bI (decide (wlk k = cur)))) ∧ w2 = w) := by
  refine mC.on (by decide) (Nat.le_of_ble_eq_true rfl) ?_
  intro p e s m args below meth c ls S hr hlk hnm hK hN hG hl
  have hl : lv_has ls 2 [(0, .ref (q 6)), (1, .ref (tq q k))] := hl
  generalize hAe : mA w s.heap.size = A at hG ⊢
  have hwk := hwb k hk
  refine lv_aload_n S.1 S.2.1 dX7_hasMet_0 rfl (lv_at hl 1 rfl) ?_
  refine cg_RX7_36 S hK hG hC (k) (by omega) dX7_hasMet_1 ?_
  refine lv_aload_n S.1 S.2.1 dX7_hasMet_4 rfl (lv_at hl 0 rfl) ?_
  refine cg_RX7_27 S hK hG hC dX7_hasMet_5 ?_
  refine lv_icmp_ne (tgt := 15) S.1 S.2.1 dX7_hasMet_8 (by decide) (fun c1 => ?_) (fun c1 => ?_)
  · have c1 : ¬ ((wlk k) = cur) := fun h9 => c1 ((nI_eq (a := wlk k) (b := cur) (by omega) (by omega)).mpr h9)
    refine lv_iconst (v := nI (0)) S.1 S.2.1 dX7_hasMet_15 (by decide) ?_
    exact mw_zret S hr (by decide) hlk hK hG dX7_hasMet_16 ⟨by rw [decide_eq_false c1]; rfl, rfl⟩
  · have c1 : (wlk k) = cur := (nI_eq (a := wlk k) (b := cur) (by omega) (by omega)).mp c1
    refine lv_iconst (v := nI (1)) S.1 S.2.1 dX7_hasMet_11 (by decide) ?_
    refine lv_goto (tgt := 16) S.1 S.2.1 dX7_hasMet_12 (by decide) ?_
    exact mw_zret S hr (by decide) hlk hK hG dX7_hasMet_16 ⟨by rw [decide_eq_true c1]; rfl, rfl⟩
theorem cal_X7_size : mCal yX7_size cX7_size 1 0 (some .int) := ⟨in_248, by decide +kernel⟩
set_option maxHeartbeats 4000000 in
set_option maxRecDepth 100000 in
theorem k_size {l : Launch} {dC : Nat → ClassId} {dI : Nat → Nat → Nat} {cI cZ cT : ClassId} {q : Nat → Nat} {kp : Nat} {Wn : Nat} {made : Nat} {fl : (Nat → Nat)} {num : (Nat → Nat → Int32)} {rfs : (Nat → Nat → Option Nat)} {root : (Nat → Option Nat)} {own : (Nat → Option Nat)} {tad : (Nat → Nat)} {trm : (Nat → Bool)} {tpl : (Nat → Nat)} {wlk : (Nat → Nat)} {ord : (Nat → Nat)} {met : (Nat → Option Nat)} {msz : Nat} {cur : Nat} {mend : Nat} {pnx : Nat} {pen : Nat} {st : Nat} {coll : Nat} {mins : Nat} {movd : Nat} {w : mM} (hC : CW cI cT q kp Wn made fl num rfs root own tad trm tpl wlk ord met msz cur mend pnx pen st coll mins movd w)  : mC l yX7_size (wsY yX7_size cX7_size 1 (some .int)) { frames := 0, cells := 0, slots := 0, locals := 0 } (dC, dI) vwCl (tyL cI cZ cT) 0 0 w [.ref (q 6)] (fun v w2 => v = some (.int (nI msz)) ∧ w2 = w) := by
  refine mC.on (by decide) (Nat.le_of_ble_eq_true rfl) ?_
  intro p e s m args below meth c ls S hr hlk hnm hK hN hG hl
  have hl : lv_has ls 1 [(0, .ref (q 6))] := hl
  generalize hAe : mA w s.heap.size = A at hG ⊢
  refine lv_aload_n S.1 S.2.1 dX7_size_0 rfl (lv_at hl 0 rfl) ?_
  refine cg_RX7_23 S hK hG hC dX7_size_1 ?_
  exact mw_iret S hr hlk hK hG dX7_size_4 ⟨rfl, rfl⟩
theorem cal_X7_thingOf : mCal yX7_thingOf cX7_thingOf 2 1 (some (.object "KeptHeap$Thing")) := ⟨in_252, by decide +kernel⟩
set_option maxHeartbeats 4000000 in
set_option maxRecDepth 100000 in
theorem k_thingOf {l : Launch} {dC : Nat → ClassId} {dI : Nat → Nat → Nat} {cI cZ cT : ClassId} {q : Nat → Nat} {kp : Nat} {Wn : Nat} {made : Nat} {fl : (Nat → Nat)} {num : (Nat → Nat → Int32)} {rfs : (Nat → Nat → Option Nat)} {root : (Nat → Option Nat)} {own : (Nat → Option Nat)} {tad : (Nat → Nat)} {trm : (Nat → Bool)} {tpl : (Nat → Nat)} {wlk : (Nat → Nat)} {ord : (Nat → Nat)} {met : (Nat → Option Nat)} {msz : Nat} {cur : Nat} {mend : Nat} {pnx : Nat} {pen : Nat} {st : Nat} {coll : Nat} {mins : Nat} {movd : Nat} {w : mM} (hC : CW cI cT q kp Wn made fl num rfs root own tad trm tpl wlk ord met msz cur mend pnx pen st coll mins movd w) (hW : Wn < 1000) (i : Nat) (hi : i < msz) (hm : msz ≤ Wn) : mC l yX7_thingOf (wsY yX7_thingOf cX7_thingOf 2 (some (.object "KeptHeap$Thing"))) { frames := 0, cells := 0, slots := 0, locals := 0 } (dC, dI) vwCl (tyL cI cZ cT) 0 0 w [.ref (q 6), .int (nI (i))] (fun v w2 => v = some (va_rf ((met i).map (tq q))) ∧ w2 = w) := by
  refine mC.on (by decide) (Nat.le_of_ble_eq_true rfl) ?_
  intro p e s m args below meth c ls S hr hlk hnm hK hN hG hl
  have hl : lv_has ls 2 [(0, .ref (q 6)), (1, .int (nI (i)))] := hl
  generalize hAe : mA w s.heap.size = A at hG ⊢
  refine lv_iload_n S.1 S.2.1 dX7_thingOf_0 rfl (lv_at hl 1 rfl) ?_
  refine lv_if_lt (tgt := 30) S.1 S.2.1 dX7_thingOf_1 (by decide) (fun c1 => ?_) (fun c1 => ?_)
  · have c1 : i < 0 := (nI_ltI (a := i) (b := 0) (by omega) (by omega)).mp c1
    omega
  · have c1 : ¬ (i < 0) := fun h9 => c1 ((nI_ltI (a := i) (b := 0) (by omega) (by omega)).mpr h9)
    refine lv_iload_n S.1 S.2.1 dX7_thingOf_4 rfl (lv_at hl 1 rfl) ?_
    refine lv_aload_n S.1 S.2.1 dX7_thingOf_5 rfl (lv_at hl 0 rfl) ?_
    refine cg_RX7_23 S hK hG hC dX7_thingOf_6 ?_
    refine lv_icmp_ge (tgt := 30) S.1 S.2.1 dX7_thingOf_9 (by decide) (fun c2 => ?_) (fun c2 => ?_)
    · have c2 : msz ≤ i := (nI_leI (a := msz) (b := i) (by omega) (by omega)).mp c2
      omega
    · have c2 : ¬ (msz ≤ i) := fun h9 => c2 ((nI_leI (a := msz) (b := i) (by omega) (by omega)).mpr h9)
      refine lv_iload_n S.1 S.2.1 dX7_thingOf_12 rfl (lv_at hl 1 rfl) ?_
      refine lv_aload_n S.1 S.2.1 dX7_thingOf_13 rfl (lv_at hl 0 rfl) ?_
      refine cg_RX7_17 S hK hG hC dX7_thingOf_14 ?_
      refine cn_met S hK hG hC dX7_thingOf_17 ?_
      refine lv_icmp_ge (tgt := 30) S.1 S.2.1 dX7_thingOf_18 (by decide) (fun c3 => ?_) (fun c3 => ?_)
      · have c3 : Wn ≤ i := (nI_leI (a := Wn) (b := i) (by omega) (by omega)).mp c3
        omega
      · have c3 : ¬ (Wn ≤ i) := fun h9 => c3 ((nI_leI (a := Wn) (b := i) (by omega) (by omega)).mpr h9)
        refine lv_aload_n S.1 S.2.1 dX7_thingOf_21 rfl (lv_at hl 0 rfl) ?_
        refine cg_RX7_17 S hK hG hC dX7_thingOf_22 ?_
        refine lv_iload_n S.1 S.2.1 dX7_thingOf_25 rfl (lv_at hl 1 rfl) ?_
        refine cl_met S hK hG hC (i) (by omega) (by omega) dX7_thingOf_26 ?_
        refine lv_goto (tgt := 31) S.1 S.2.1 dX7_thingOf_27 (by decide) ?_
        exact mw_aret (r := (met i).map (tq q)) S hr hlk hK hG dX7_thingOf_31 ⟨rfl, rfl⟩
theorem cal_X7_meetTargetsOf : mCal yX7_meetTargetsOf cX7_meetTargetsOf 3 1 none := ⟨in_224, by decide +kernel⟩
set_option maxHeartbeats 4000000 in
set_option maxRecDepth 100000 in
theorem k_meetTargetsOf {l : Launch} {dC : Nat → ClassId} {dI : Nat → Nat → Nat} {cI cZ cT : ClassId} {q : Nat → Nat} {kp : Nat} {Wn : Nat} {made : Nat} {fl : (Nat → Nat)} {num : (Nat → Nat → Int32)} {rfs : (Nat → Nat → Option Nat)} {root : (Nat → Option Nat)} {own : (Nat → Option Nat)} {tad : (Nat → Nat)} {trm : (Nat → Bool)} {tpl : (Nat → Nat)} {cur : Nat} {mend : Nat} {pnx : Nat} {pen : Nat} {st : Nat} {coll : Nat} {mins : Nat} {movd : Nat} {mt : Nat → Option Nat} {ms2 : Nat} {wl od : Nat → Nat} {Kp : Nat → Prop} (hB : ∀ M : List Nat, M.Nodup → (∀ x ∈ M, Kp x) → M.length ≤ Wn) (hKm : ∀ x, Kp x → x < made) (hKf : ∀ x, Kp x → ∀ i, i < fl x → ∀ t, rfs x i = some t → Kp t) (hfl : ∀ x, x < made → fl x ≤ 6) {w : mM} (hC : CW cI cT q kp Wn made fl num rfs root own tad trm tpl wl od mt ms2 cur mend pnx pen st coll mins movd w) (hW4 : Wn ≤ 400) (hcb : cur < 2147483648) (hmb : mend ≤ 400) (htb : ∀ t, t < made → tad t < 2147483648) {L : List Nat} (hL : LsC made cur ms2 mt wl od L) (hKL : ∀ x ∈ L, Kp x) (k : Nat) (hk : Kp k) : mC l yX7_meetTargetsOf (wsY yX7_meetTargetsOf cX7_meetTargetsOf 3 none) { frames := 1, cells := 0, slots := 0, locals := 21 } (dC, dI) vwCl (tyL cI cZ cT) 0 0 w [.ref (q 6), .ref (tq q k)] (fun v w2 => v = none ∧ ∃ (mt3 : Nat → Option Nat) (ms3 : Nat) (wl3 od3 : Nat → Nat), CW cI cT q kp Wn made fl num rfs root own tad trm tpl wl3 od3 mt3 ms3 cur mend pnx pen st coll mins movd w2 ∧ LsC made cur ms3 mt3 wl3 od3 (mtN (okC tad mend) (rfs k) (fl k) L)) := by
  refine mC.on (by decide) (Nat.le_of_ble_eq_true rfl) ?_
  intro p e s m args below meth c ls S hr hlk hnm hK hN hG hl
  have hl : lv_has ls 3 [(0, .ref (q 6)), (1, .ref (tq q k))] := hl
  generalize hAe : mA w s.heap.size = A at hG ⊢
  have hkm := hKm k hk
  have hkf := hfl k hkm
  refine lv_aload_n S.1 S.2.1 dX7_meetTargetsOf_0 rfl (lv_at hl 1 rfl) ?_
  refine lv_ifnonnull (tgt := 5) S.1 S.2.1 dX7_meetTargetsOf_1 (by decide) ?_
  refine lv_iconst (v := nI (0)) S.1 S.2.1 dX7_meetTargetsOf_5 (by decide) ?_
  refine lv_istore_n (lv' := [(2, .int (nI (0))), (0, .ref (q 6)), (1, .ref (tq q k))]) S.1 S.2.1 dX7_meetTargetsOf_6 rfl hl (by decide) rfl (fun ls hl => ?_)
  have L : ∀ (fu : Nat) (j : Nat) (mt : Nat → Option Nat) (ms2 : Nat) (wl : Nat → Nat) (od : Nat → Nat), fl k - j < fu → (j ≤ fl k) → (LsC made cur ms2 mt wl od (mtN (okC tad mend) (rfs k) j L)) → ∀ (w : mM) (H : Heap) (locs : List Loc), CW cI cT q kp Wn made fl num rfs root own tad trm tpl wl od mt ms2 cur mend pnx pen st coll mins movd w → mG (dC, dI) vwCl A s.heap w H locs → ∀ ls : Array Slot, lv_has ls 3 [(2, .int (nI (j))), (0, .ref (q 6)), (1, .ref (tq q k))] → W p l e { frames := 1, cells := 0, slots := 0, locals := 21 } s m args below meth c H locs 0 0 (MQ below (mQ (dC, dI) vwCl (tyL cI cZ cT) (fun v w2 => v = none ∧ ∃ (mt3 : Nat → Option Nat) (ms3 : Nat) (wl3 od3 : Nat → Nat), CW cI cT q kp Wn made fl num rfs root own tad trm tpl wl3 od3 mt3 ms3 cur mend pnx pen st coll mins movd w2 ∧ LsC made cur ms3 mt3 wl3 od3 (mtN (okC tad mend) (rfs k) (fl k) L)) A) args s 0 0 A) (F0 m 7 ls []) := by
    intro fu
    induction fu with
    | zero => intro j mt ms2 wl od h1; exact absurd h1 (Nat.not_lt_zero _)
    | succ fu ihL =>
      intro j mt ms2 wl od h1 h2 hLd w H locs hC hG ls hl
      have hKd : ∀ x ∈ mtN (okC tad mend) (rfs k) j L, Kp x := mtN_all hKL j (fun i2 hi3 t ht _ => hKf k hk i2 (by omega) t ht)
      refine lv_iload_n S.1 S.2.1 dX7_meetTargetsOf_7 rfl (lv_at hl 0 rfl) ?_
      refine lv_aload_n S.1 S.2.1 dX7_meetTargetsOf_8 rfl (lv_at hl 2 rfl) ?_
      refine mCV (As := []) (rest := [.int (nI (j))]) S (t_fields hC k hkm) cal_X6_fields in_225 in_226 in_227 in_142 hK hN hG (hC.th hkm) rfl rfl rfl hl.1 (Nat.le_of_ble_eq_true rfl) ⟨by decide, by decide⟩ ⟨rfl, rfl⟩ ⟨by decide, by decide⟩ dX7_meetTargetsOf_9 (fun v w H locs hp hG => ?_)
      obtain ⟨rfl, hw9⟩ := hp
      have hw9 := hw9.symm
      subst hw9
      refine W.eq (g2 := F0 m 12 ls [.int (nI (fl k)), .int (nI (j))]) rfl ?_
      refine lv_icmp_ge (tgt := 30) S.1 S.2.1 dX7_meetTargetsOf_12 (by decide) (fun c1 => ?_) (fun c1 => ?_)
      · have c1 : (fl k) ≤ j := (nI_leI (a := fl k) (b := j) (by omega) (by omega)).mp c1
        have hj : j = fl k := by omega
        rw [hj] at hLd
        exact mw_vret S hr hlk hK hG dX7_meetTargetsOf_30 ⟨rfl, mt, ms2, wl, od, hC, hLd⟩
      · have c1 : ¬ ((fl k) ≤ j) := fun h9 => c1 ((nI_leI (a := fl k) (b := j) (by omega) (by omega)).mpr h9)
        refine lv_aload_n S.1 S.2.1 dX7_meetTargetsOf_15 rfl (lv_at hl 1 rfl) ?_
        refine lv_aload_n S.1 S.2.1 dX7_meetTargetsOf_16 rfl (lv_at hl 2 rfl) ?_
        refine lv_iload_n S.1 S.2.1 dX7_meetTargetsOf_17 rfl (lv_at hl 0 rfl) ?_
        refine mCV (As := [.int (nI (j))]) (rest := [.ref (q 6)]) S (t_targetOf hC k hkm hkf (nI j)) cal_X6_targetOf in_230 in_231 in_232 in_142 hK hN hG (hC.th hkm) rfl rfl rfl hl.1 (Nat.le_of_ble_eq_true rfl) ⟨by decide, by decide⟩ ⟨rfl, rfl⟩ ⟨by decide, by decide⟩ dX7_meetTargetsOf_18 (fun v w H locs hp hG => ?_)
        obtain ⟨rfl, hw9⟩ := hp
        have hw9 := hw9.symm
        subst hw9
        rw [if_pos (inR_nI (show j < fl k by omega) (by omega)), nI_clamp (by omega)]
        refine W.eq (g2 := F0 m 21 ls [va_rf ((rfs k j).map (tq q)), .ref (q 6)]) rfl ?_
        refine mCV (As := [va_rf ((rfs k j).map (tq q))]) (rest := []) S (k_meet hC hW4 hcb hmb htb hLd (rfs k j) (fun t ht => hKm _ (hKf k hk j (by omega) t ht)) (hB _ (mtL_nd hLd.1) (mtL_all hKd (fun t ht _ => hKf k hk j (by omega) t ht)))) cal_X7_meet in_200 in_201 in_202 in_79 hK hN hG hC.obj7 rfl rfl rfl hl.1 (Nat.le_of_ble_eq_true rfl) ⟨by decide, by decide⟩ ⟨rfl, rfl⟩ ⟨by decide, by decide⟩ dX7_meetTargetsOf_21 (fun v w H locs hp hG => ?_)
        obtain ⟨rfl, mt4, ms4, wl4, od4, hC, hLe⟩ := hp
        refine W.eq (g2 := F0 m 24 ls []) rfl ?_
        refine lv_iinc (v := nI (j + 1)) (lv' := [(2, .int (nI (j + 1))), (0, .ref (q 6)), (1, .ref (tq q k))]) S.1 S.2.1 dX7_meetTargetsOf_24 hl (k := 0) rfl (nI_1 _) (by decide) rfl (fun ls hl => ?_)
        refine lv_goto (tgt := 7) S.1 S.2.1 dX7_meetTargetsOf_27 (by decide) ?_
        exact ihL (j + 1) mt4 ms4 wl4 od4 (by omega) (by omega) hLe _ _ _ hC hG ls (lv_sub hl [0, 1, 2] rfl)
  exact L (fl k + 1) 0 mt ms2 wl od (by omega) (by omega) hL _ _ _ (hC) hG ls (lv_sub hl [0, 1, 2] rfl)
theorem cal_X7_meetRoots : mCal yX7_meetRoots cX7_meetRoots 3 1 none := ⟨in_194, by decide +kernel⟩
set_option maxHeartbeats 4000000 in
set_option maxRecDepth 100000 in
theorem k_meetRoots {l : Launch} {dC : Nat → ClassId} {dI : Nat → Nat → Nat} {cI cZ cT : ClassId} {q : Nat → Nat} {kp : Nat} {Wn : Nat} {made : Nat} {fl : (Nat → Nat)} {num : (Nat → Nat → Int32)} {rfs : (Nat → Nat → Option Nat)} {root : (Nat → Option Nat)} {own : (Nat → Option Nat)} {tad : (Nat → Nat)} {trm : (Nat → Bool)} {tpl : (Nat → Nat)} {cur : Nat} {mend : Nat} {pnx : Nat} {pen : Nat} {st : Nat} {coll : Nat} {mins : Nat} {movd : Nat} {mt : Nat → Option Nat} {ms2 : Nat} {wl od : Nat → Nat} {Kp : Nat → Prop} (hB : ∀ M : List Nat, M.Nodup → (∀ x ∈ M, Kp x) → M.length ≤ Wn) (hKm : ∀ x, Kp x → x < made) (hKf : ∀ x, Kp x → ∀ i, i < fl x → ∀ t, rfs x i = some t → Kp t) (hfl : ∀ x, x < made → fl x ≤ 6) {w : mM} (hC : CW cI cT q kp Wn made fl num rfs root own tad trm tpl wl od mt ms2 cur mend pnx pen st coll mins movd w) (hW4 : Wn ≤ 400) (hcb : cur < 2147483648) (hmb : mend ≤ 400) (htb : ∀ t, t < made → tad t < 2147483648) {L : List Nat} (hL : LsC made cur ms2 mt wl od L) (hKL : ∀ x ∈ L, Kp x) (hKr : ∀ i, i < 16 → ∀ t, root i = some t → Kp t) : mC l yX7_meetRoots (wsY yX7_meetRoots cX7_meetRoots 3 none) { frames := 2, cells := 0, slots := 0, locals := 42 } (dC, dI) vwCl (tyL cI cZ cT) 0 0 w [.ref (q 6), .ref (q 3)] (fun v w2 => v = none ∧ ∃ (mt3 : Nat → Option Nat) (ms3 : Nat) (wl3 od3 : Nat → Nat), CW cI cT q kp Wn made fl num rfs root own tad trm tpl wl3 od3 mt3 ms3 cur mend pnx pen st coll mins movd w2 ∧ LsC made cur ms3 mt3 wl3 od3 (mtN (okC tad mend) root 16 L)) := by
  refine mC.on (by decide) (Nat.le_of_ble_eq_true rfl) ?_
  intro p e s m args below meth c ls S hr hlk hnm hK hN hG hl
  have hl : lv_has ls 3 [(0, .ref (q 6)), (1, .ref (q 3))] := hl
  generalize hAe : mA w s.heap.size = A at hG ⊢
  refine lv_iconst (v := nI (0)) S.1 S.2.1 dX7_meetRoots_0 (by decide) ?_
  refine lv_istore_n (lv' := [(2, .int (nI (0))), (0, .ref (q 6)), (1, .ref (q 3))]) S.1 S.2.1 dX7_meetRoots_1 rfl hl (by decide) rfl (fun ls hl => ?_)
  have L : ∀ (fu : Nat) (j : Nat) (mt : Nat → Option Nat) (ms2 : Nat) (wl : Nat → Nat) (od : Nat → Nat), 16 - j < fu → (j ≤ 16) → (LsC made cur ms2 mt wl od (mtN (okC tad mend) root j L)) → ∀ (w : mM) (H : Heap) (locs : List Loc), CW cI cT q kp Wn made fl num rfs root own tad trm tpl wl od mt ms2 cur mend pnx pen st coll mins movd w → mG (dC, dI) vwCl A s.heap w H locs → ∀ ls : Array Slot, lv_has ls 3 [(2, .int (nI (j))), (0, .ref (q 6)), (1, .ref (q 3))] → W p l e { frames := 2, cells := 0, slots := 0, locals := 42 } s m args below meth c H locs 0 0 (MQ below (mQ (dC, dI) vwCl (tyL cI cZ cT) (fun v w2 => v = none ∧ ∃ (mt3 : Nat → Option Nat) (ms3 : Nat) (wl3 od3 : Nat → Nat), CW cI cT q kp Wn made fl num rfs root own tad trm tpl wl3 od3 mt3 ms3 cur mend pnx pen st coll mins movd w2 ∧ LsC made cur ms3 mt3 wl3 od3 (mtN (okC tad mend) root 16 L)) A) args s 0 0 A) (F0 m 2 ls []) := by
    intro fu
    induction fu with
    | zero => intro j mt ms2 wl od h1; exact absurd h1 (Nat.not_lt_zero _)
    | succ fu ihL =>
      intro j mt ms2 wl od h1 h2 hLd w H locs hC hG ls hl
      have hKd : ∀ x ∈ mtN (okC tad mend) root j L, Kp x := mtN_all hKL j (fun i2 hi3 t ht _ => hKr i2 (by omega) t ht)
      refine lv_iload_n S.1 S.2.1 dX7_meetRoots_2 rfl (lv_at hl 0 rfl) ?_
      refine lv_bipush (v := nI (16)) S.1 S.2.1 dX7_meetRoots_3 (by decide) ?_
      refine lv_icmp_ge (tgt := 23) S.1 S.2.1 dX7_meetRoots_5 (by decide) (fun c1 => ?_) (fun c1 => ?_)
      · have c1 : 16 ≤ j := (nI_leI (a := 16) (b := j) (by omega) (by omega)).mp c1
        have hj : j = 16 := by omega
        rw [hj] at hLd
        exact mw_vret S hr hlk hK hG dX7_meetRoots_23 ⟨rfl, mt, ms2, wl, od, hC, hLd⟩
      · have c1 : ¬ (16 ≤ j) := fun h9 => c1 ((nI_leI (a := 16) (b := j) (by omega) (by omega)).mpr h9)
        refine lv_aload_n S.1 S.2.1 dX7_meetRoots_8 rfl (lv_at hl 1 rfl) ?_
        refine lv_aload_n S.1 S.2.1 dX7_meetRoots_9 rfl (lv_at hl 2 rfl) ?_
        refine lv_iload_n S.1 S.2.1 dX7_meetRoots_10 rfl (lv_at hl 0 rfl) ?_
        refine mCV (As := [.int (nI (j))]) (rest := [.ref (q 6)]) S (o_thingOf hC (by omega) (nI j)) cal_X4_thingOf in_195 in_196 in_197 in_21 hK hN hG hC.obj4 rfl rfl rfl hl.1 (Nat.le_of_ble_eq_true rfl) ⟨by decide, by decide⟩ ⟨rfl, rfl⟩ ⟨by decide, by decide⟩ dX7_meetRoots_11 (fun v w H locs hp hG => ?_)
        obtain ⟨rfl, hw9⟩ := hp
        have hw9 := hw9.symm
        subst hw9
        rw [if_pos (inR_nI (show j < 16 by omega) (by omega)), nI_clamp (by omega)]
        refine W.eq (g2 := F0 m 14 ls [va_rf ((root j).map (tq q)), .ref (q 6)]) rfl ?_
        refine mCV (As := [va_rf ((root j).map (tq q))]) (rest := []) S (k_meet hC hW4 hcb hmb htb hLd (root j) (fun t ht => hKm _ (hKr j (by omega) t ht)) (hB _ (mtL_nd hLd.1) (mtL_all hKd (fun t ht _ => hKr j (by omega) t ht)))) cal_X7_meet in_200 in_201 in_202 in_79 hK hN hG hC.obj7 rfl rfl rfl hl.1 (Nat.le_of_ble_eq_true rfl) ⟨by decide, by decide⟩ ⟨rfl, rfl⟩ ⟨by decide, by decide⟩ dX7_meetRoots_14 (fun v w H locs hp hG => ?_)
        obtain ⟨rfl, mt4, ms4, wl4, od4, hC, hLe⟩ := hp
        refine W.eq (g2 := F0 m 17 ls []) rfl ?_
        refine lv_iinc (v := nI (j + 1)) (lv' := [(2, .int (nI (j + 1))), (0, .ref (q 6)), (1, .ref (q 3))]) S.1 S.2.1 dX7_meetRoots_17 hl (k := 0) rfl (nI_1 _) (by decide) rfl (fun ls hl => ?_)
        refine lv_goto (tgt := 2) S.1 S.2.1 dX7_meetRoots_20 (by decide) ?_
        exact ihL (j + 1) mt4 ms4 wl4 od4 (by omega) (by omega) hLe _ _ _ hC hG ls (lv_sub hl [0, 1, 2] rfl)
  exact L (17) 0 mt ms2 wl od (by omega) (by omega) hL _ _ _ (hC) hG ls (lv_sub hl [0, 1, 2] rfl)
theorem cal_X7_follow : mCal yX7_follow cX7_follow 2 0 none := ⟨in_238, by decide +kernel⟩
set_option maxHeartbeats 4000000 in
set_option maxRecDepth 100000 in
theorem k_follow {l : Launch} {dC : Nat → ClassId} {dI : Nat → Nat → Nat} {cI cZ cT : ClassId} {q : Nat → Nat} {kp : Nat} {Wn : Nat} {made : Nat} {fl : (Nat → Nat)} {num : (Nat → Nat → Int32)} {rfs : (Nat → Nat → Option Nat)} {root : (Nat → Option Nat)} {own : (Nat → Option Nat)} {tad : (Nat → Nat)} {trm : (Nat → Bool)} {tpl : (Nat → Nat)} {cur : Nat} {mend : Nat} {pnx : Nat} {pen : Nat} {st : Nat} {coll : Nat} {mins : Nat} {movd : Nat} {mt : Nat → Option Nat} {ms2 : Nat} {wl od : Nat → Nat} {Kp : Nat → Prop} (hB : ∀ M : List Nat, M.Nodup → (∀ x ∈ M, Kp x) → M.length ≤ Wn) (hKm : ∀ x, Kp x → x < made) (hKf : ∀ x, Kp x → ∀ i, i < fl x → ∀ t, rfs x i = some t → Kp t) (hfl : ∀ x, x < made → fl x ≤ 6) {w : mM} (hC : CW cI cT q kp Wn made fl num rfs root own tad trm tpl wl od mt ms2 cur mend pnx pen st coll mins movd w) (hW4 : Wn ≤ 400) (hcb : cur < 2147483648) (hmb : mend ≤ 400) (htb : ∀ t, t < made → tad t < 2147483648) {L : List Nat} (hL : LsC made cur ms2 mt wl od L) (hKL : ∀ x ∈ L, Kp x) : mC l yX7_follow (wsY yX7_follow cX7_follow 2 none) { frames := 2, cells := 0, slots := 0, locals := 43 } (dC, dI) vwCl (tyL cI cZ cT) 0 0 w [.ref (q 6)] (fun v w2 => v = none ∧ ∃ (mt3 : Nat → Option Nat) (ms3 : Nat) (wl3 od3 : Nat → Nat), CW cI cT q kp Wn made fl num rfs root own tad trm tpl wl3 od3 mt3 ms3 cur mend pnx pen st coll mins movd w2 ∧ LsC made cur ms3 mt3 wl3 od3 (flw (okC tad mend) fl rfs 401 0 L)) := by
  refine mC.on (by decide) (Nat.le_of_ble_eq_true rfl) ?_
  intro p e s m args below meth c ls S hr hlk hnm hK hN hG hl
  have hl : lv_has ls 2 [(0, .ref (q 6))] := hl
  generalize hAe : mA w s.heap.size = A at hG ⊢
  refine lv_iconst (v := nI (0)) S.1 S.2.1 dX7_follow_0 (by decide) ?_
  refine lv_istore_n (lv' := [(1, .int (nI (0))), (0, .ref (q 6))]) S.1 S.2.1 dX7_follow_1 rfl hl (by decide) rfl (fun ls hl => ?_)
  have L9 : ∀ (fu : Nat) (i : Nat) (Lc : List Nat) (mt : Nat → Option Nat) (ms2 : Nat) (wl : Nat → Nat) (od : Nat → Nat), 401 - i < fu → (i ≤ 400) → (flw (okC tad mend) fl rfs (401 - i) i Lc = flw (okC tad mend) fl rfs 401 0 L) → (LsC made cur ms2 mt wl od Lc) → (∀ x ∈ Lc, Kp x) → ∀ (w : mM) (H : Heap) (locs : List Loc), CW cI cT q kp Wn made fl num rfs root own tad trm tpl wl od mt ms2 cur mend pnx pen st coll mins movd w → mG (dC, dI) vwCl A s.heap w H locs → ∀ ls : Array Slot, lv_has ls 2 [(1, .int (nI (i))), (0, .ref (q 6))] → W p l e { frames := 2, cells := 0, slots := 0, locals := 43 } s m args below meth c H locs 0 0 (MQ below (mQ (dC, dI) vwCl (tyL cI cZ cT) (fun v w2 => v = none ∧ ∃ (mt3 : Nat → Option Nat) (ms3 : Nat) (wl3 od3 : Nat → Nat), CW cI cT q kp Wn made fl num rfs root own tad trm tpl wl3 od3 mt3 ms3 cur mend pnx pen st coll mins movd w2 ∧ LsC made cur ms3 mt3 wl3 od3 (flw (okC tad mend) fl rfs 401 0 L)) A) args s 0 0 A) (F0 m 2 ls []) := by
    intro fu
    induction fu with
    | zero => intro i Lc mt ms2 wl od h1; exact absurd h1 (Nat.not_lt_zero _)
    | succ fu ihL9 =>
      intro i Lc mt ms2 wl od h1 h2 hT hLc hKc w H locs hC hG ls hl
      have hlen : Lc.length ≤ Wn := hB Lc hLc.1 hKc
      have hszc : ms2 = Lc.length := hLc.2.1
      refine lv_iload_n S.1 S.2.1 dX7_follow_2 rfl (lv_at hl 0 rfl) ?_
      refine lv_aload_n S.1 S.2.1 dX7_follow_3 rfl (lv_at hl 1 rfl) ?_
      refine cg_RX7_23 S hK hG hC dX7_follow_4 ?_
      refine lv_icmp_ge (tgt := 35) S.1 S.2.1 dX7_follow_7 (by decide) (fun c1 => ?_) (fun c1 => ?_)
      · have c1 : ms2 ≤ i := (nI_leI (a := ms2) (b := i) (by omega) (by omega)).mp c1
        rw [flw_end (by omega)] at hT
        exact mw_vret S hr hlk hK hG dX7_follow_35 ⟨rfl, mt, ms2, wl, od, hC, by rw [← hT]; exact hLc⟩
      · have c1 : ¬ (ms2 ≤ i) := fun h9 => c1 ((nI_leI (a := ms2) (b := i) (by omega) (by omega)).mpr h9)
        have hi2 : i < Lc.length := by omega
        have hrow := LsC_row hLc (show i < ms2 by omega)
        rw [show 401 - i = (401 - (i + 1)) + 1 by omega, flw_step hi2] at hT
        refine lv_iload_n S.1 S.2.1 dX7_follow_10 rfl (lv_at hl 0 rfl) ?_
        refine lv_aload_n S.1 S.2.1 dX7_follow_11 rfl (lv_at hl 1 rfl) ?_
        refine cg_RX7_17 S hK hG hC dX7_follow_12 ?_
        refine cn_met S hK hG hC dX7_follow_15 ?_
        refine lv_icmp_ge (tgt := 35) S.1 S.2.1 dX7_follow_16 (by decide) (fun c2 => ?_) (fun c2 => ?_)
        · have c2 : Wn ≤ i := (nI_leI (a := Wn) (b := i) (by omega) (by omega)).mp c2
          omega
        · have c2 : ¬ (Wn ≤ i) := fun h9 => c2 ((nI_leI (a := Wn) (b := i) (by omega) (by omega)).mpr h9)
          refine lv_aload_n S.1 S.2.1 dX7_follow_19 rfl (lv_at hl 1 rfl) ?_
          refine lv_aload_n S.1 S.2.1 dX7_follow_20 rfl (lv_at hl 1 rfl) ?_
          refine cg_RX7_17 S hK hG hC dX7_follow_21 ?_
          refine lv_iload_n S.1 S.2.1 dX7_follow_24 rfl (lv_at hl 0 rfl) ?_
          refine cl_met S hK hG hC (i) (by omega) (by omega) dX7_follow_25 ?_
          rw [hrow.1]
          refine W.eq (g2 := F0 m 26 ls [.ref (tq q (Lc.getD i 0)), .ref (q 6)]) rfl ?_
          refine mCV (As := [.ref (tq q (Lc.getD i 0))]) (rest := []) S (k_meetTargetsOf hB hKm hKf hfl hC hW4 hcb hmb htb hLc hKc (Lc.getD i 0) (hKc _ hrow.2.1)) cal_X7_meetTargetsOf in_239 in_222 in_223 in_79 hK hN hG hC.obj7 rfl rfl rfl hl.1 (Nat.le_of_ble_eq_true rfl) ⟨by decide, by decide⟩ ⟨rfl, rfl⟩ ⟨by decide, by decide⟩ dX7_follow_26 (fun v w H locs hp hG => ?_)
          obtain ⟨rfl, mt4, ms4, wl4, od4, hC, hLe⟩ := hp
          refine W.eq (g2 := F0 m 29 ls []) rfl ?_
          refine lv_iinc (v := nI (i + 1)) (lv' := [(1, .int (nI (i + 1))), (0, .ref (q 6))]) S.1 S.2.1 dX7_follow_29 hl (k := 0) rfl (nI_1 _) (by decide) rfl (fun ls hl => ?_)
          refine lv_goto (tgt := 2) S.1 S.2.1 dX7_follow_32 (by decide) ?_
          exact ihL9 (i + 1) _ mt4 ms4 wl4 od4 (by omega) (by omega) hT hLe (mtN_all hKc _ (fun i2 hi3 t ht _ => hKf _ (hKc _ hrow.2.1) i2 hi3 t ht)) _ _ _ hC hG ls (lv_sub hl [0, 1] rfl)
  exact L9 (402) 0 L mt ms2 wl od (by omega) (by omega) rfl hL hKL _ _ _ (hC) hG ls (lv_sub hl [0, 1] rfl)
end
section
/-- where the class's objects lie -/
def LyC (made Wn : Nat) (fl tad : Nat → Nat) (own : Nat → Option Nat) : Prop := ∀ x t, own x = some t → t < made ∧ tad t ≤ x ∧ x ≤ tad t + fl t ∧ tad t + fl t < Wn ∧ ∀ y, tad t ≤ y → y ≤ tad t + fl t → own y = some t
def unm (wlk : Nat → Nat) (cur : Nat) : Nat → Bool := fun t => !decide (wlk t = cur)
def dd (f k : Nat) (tad : Nat → Nat) (u : Nat → Bool) : Nat → Bool := fun t => decide (f ≤ tad t ∧ tad t < k) && u t
def cw (f : Nat) (own : Nat → Option Nat) (tad : Nat → Nat) (u : Nat → Bool) : Nat → Bool := fun k => decide (f ≤ k) && (match bgn own tad k with | none => false | some t => u t)
theorem dd_0 (f : Nat) (tad : Nat → Nat) (u : Nat → Bool) : dd f f tad u = fun _ => false := by
  funext t
  unfold dd
  rw [decide_eq_false (by omega)]
  rfl
theorem cw_0 (f : Nat) (own : Nat → Option Nat) (tad : Nat → Nat) (u : Nat → Bool) : ∀ n, n ≤ f → cnt (cw f own tad u) n = 0
  | 0, _ => rfl
  | n + 1, h => by
    rw [cnt_s0 (by unfold cw; rw [decide_eq_false (by omega)]; rfl)]
    exact cw_0 f own tad u n (by omega)
theorem dd_s {f k : Nat} {tad : Nat → Nat} {u : Nat → Bool} {t : Nat} (hf : f ≤ k) : dd f (k + 1) tad u t = (dd f k tad u t || (decide (tad t = k) && u t)) := by
  unfold dd
  by_cases h : tad t = k
  · rw [decide_eq_true (show f ≤ tad t ∧ tad t < k + 1 by omega), decide_eq_false (show ¬ (f ≤ tad t ∧ tad t < k) by omega), decide_eq_true h]
    simp
  · by_cases h2 : f ≤ tad t ∧ tad t < k
    · rw [decide_eq_true h2, decide_eq_true (show f ≤ tad t ∧ tad t < k + 1 by omega), decide_eq_false h]
      simp
    · rw [decide_eq_false h2, decide_eq_false (show ¬ (f ≤ tad t ∧ tad t < k + 1) by omega), decide_eq_false h]
      simp
theorem swO_at {c : Nat → Bool} {own : Nat → Option Nat} {k t : Nat} (h : own k = some t) (h2 : c t = false) : swO c own k = some t := by
  unfold swO; rw [h]; simp [h2]
theorem bgn_sw {f k : Nat} {own : Nat → Option Nat} {tad : Nat → Nat} {u : Nat → Bool} : bgn (swO (dd f k tad u) own) tad k = bgn own tad k := by
  cases h : own k with
  | none => rw [bgn_n h, bgn_n (by unfold swO; rw [h])]
  | some t =>
    by_cases h2 : tad t = k
    · rw [bgn_s h h2, bgn_s (swO_at h (by unfold dd; rw [decide_eq_false (by omega)]; rfl)) h2]
    · rw [bgn_x h h2]
      cases h3 : dd f k tad u t with
      | false => exact bgn_x (swO_at h h3) h2
      | true => exact bgn_n (by unfold swO; rw [h]; simp [h3])
theorem sw_keep {made Wn f k : Nat} {fl tad : Nat → Nat} {own : Nat → Option Nat} {u : Nat → Bool} (hf : f ≤ k) (hL : LyC made Wn fl tad own) (h : ∀ t, bgn own tad k = some t → u t = false) : swO (dd f k tad u) own = swO (dd f (k + 1) tad u) own := by
  funext x
  unfold swO
  cases hx : own x with
  | none => rfl
  | some t =>
    simp only [dd_s hf]
    by_cases h2 : tad t = k
    · obtain ⟨-, h3, h4, h5, h6⟩ := hL x t hx
      have h7 := h6 k (by omega) (by omega)
      rw [h t (bgn_s h7 h2)]
      simp
    · simp [h2]
theorem sw_die {made Wn f k t : Nat} {fl tad : Nat → Nat} {own : Nat → Option Nat} {u : Nat → Bool} (hf : f ≤ k) (hL : LyC made Wn fl tad own) (hb : bgn own tad k = some t) (hu : u t = true) : fillO (swO (dd f k tad u) own) k (fl t + 1) none = swO (dd f (k + 1) tad u) own := by
  obtain ⟨hk, htk⟩ := bgn_own hb
  obtain ⟨-, -, -, -, h6⟩ := hL k t hk
  funext x
  unfold fillO
  by_cases hx : k ≤ x ∧ x < k + (fl t + 1)
  · rw [if_pos hx]
    have h7 := h6 x (by omega) (by omega)
    unfold swO
    rw [h7]
    simp [dd_s hf, htk, hu]
  · rw [if_neg hx]
    unfold swO
    cases ho : own x with
    | none => rfl
    | some v =>
      simp only [dd_s hf]
      by_cases h2 : tad v = k
      · exfalso
        obtain ⟨-, g3, g4, g5, g6⟩ := hL x v ho
        have h8 := g6 k (by omega) (by omega)
        rw [hk] at h8
        cases h8
        omega
      · simp [h2]
theorem LyC_b {made Wn : Nat} {fl tad : Nat → Nat} {own : Nat → Option Nat} (h : LyC made Wn fl tad own) : ∀ k t, own k = some t → t < made := fun k t ht => (h k t ht).1
/-- sums -/
def smT (num : Nat → Nat → Int32) (rfs : Nat → Nat → Option Nat) (idx : Nat → Nat) (k j : Nat) : Int64 := match rfs k j with
  | none => 2 * (num k j).toInt64
  | some t => 2 * (nI (idx t)).toInt64 + 1
def smR (num : Nat → Nat → Int32) (rfs : Nat → Nat → Option Nat) (idx : Nat → Nat) (k : Nat) : Nat → Int64 → Int64
  | 0, s => s
  | j + 1, s => 31 * smR num rfs idx k j s + smT num rfs idx k j
def smO (fl : Nat → Nat) (num : Nat → Nat → Int32) (rfs : Nat → Nat → Option Nat) (idx : Nat → Nat) (s : Int64) (k : Nat) : Int64 := smR num rfs idx k (fl k) (31 * s + (nI (fl k)).toInt64)
theorem smT_n {num : Nat → Nat → Int32} {rfs : Nat → Nat → Option Nat} {idx : Nat → Nat} {k j : Nat} (h : rfs k j = none) : smT num rfs idx k j = 2 * (num k j).toInt64 := by unfold smT; rw [h]
theorem smT_s {num : Nat → Nat → Int32} {rfs : Nat → Nat → Option Nat} {idx : Nat → Nat} {k j t : Nat} (h : rfs k j = some t) : smT num rfs idx k j = 2 * (nI (idx t)).toInt64 + 1 := by unfold smT; rw [h]
theorem swO_own {c : Nat → Bool} {own : Nat → Option Nat} {k t : Nat} (h : swO c own k = some t) : own k = some t := by
  unfold swO at h
  split at h
  · cases h
  · split at h
    · cases h
    · rename_i u hu _; cases h; exact hu
theorem cal_X2_walkFromRoots : mCal yX2_walkFromRoots cX2_walkFromRoots 1 0 none := ⟨in_297, by decide +kernel⟩
set_option maxHeartbeats 4000000 in
set_option maxRecDepth 100000 in
theorem e_walkFromRoots {l : Launch} {dC : Nat → ClassId} {dI : Nat → Nat → Nat} {cI cZ cT : ClassId} {q : Nat → Nat} {kp : Nat} {Wn : Nat} {made : Nat} {fl : (Nat → Nat)} {num : (Nat → Nat → Int32)} {rfs : (Nat → Nat → Option Nat)} {root : (Nat → Option Nat)} {own : (Nat → Option Nat)} {tad : (Nat → Nat)} {trm : (Nat → Bool)} {tpl : (Nat → Nat)} {wlk : (Nat → Nat)} {ord : (Nat → Nat)} {met : (Nat → Option Nat)} {msz : Nat} {cur : Nat} {mend : Nat} {pnx : Nat} {pen : Nat} {st : Nat} {coll : Nat} {mins : Nat} {movd : Nat} {Kp : Nat → Prop} (hB : ∀ M : List Nat, M.Nodup → (∀ x ∈ M, Kp x) → M.length ≤ Wn) (hKm : ∀ x, Kp x → x < made) (hKf : ∀ x, Kp x → ∀ i, i < fl x → ∀ t, rfs x i = some t → Kp t) (hfl : ∀ x, x < made → fl x ≤ 6) {w : mM} (hC : CW cI cT q kp Wn made fl num rfs root own tad trm tpl wlk ord met msz cur mend pnx pen st coll mins movd w) (hW4 : Wn ≤ 400) (hcb : cur + 1 < 2147483648) (htb : ∀ t, t < made → tad t < 2147483648) (hwb : ∀ o, o < made → wlk o ≤ cur) (hKr : ∀ i, i < 16 → ∀ t, root i = some t → Kp t) : mC l yX2_walkFromRoots (wsY yX2_walkFromRoots cX2_walkFromRoots 1 none) { frames := 3, cells := 0, slots := 0, locals := 64 } (dC, dI) vwCl (tyL cI cZ cT) 0 0 w [.ref (q 5)] (fun v w2 => v = none ∧ ∃ (mt3 : Nat → Option Nat) (ms3 : Nat) (wl3 od3 : Nat → Nat), CW cI cT q kp Wn made fl num rfs root own tad trm tpl wl3 od3 mt3 ms3 ((cur + 1)) Wn pnx pen st coll mins movd w2 ∧ LsC made (cur + 1) ms3 mt3 wl3 od3 (flw (okC tad Wn) fl rfs 401 0 (mtN (okC tad Wn) root 16 []))) := by
  refine mC.on (by decide) (Nat.le_of_ble_eq_true rfl) ?_
  intro p e s m args below meth c ls S hr hlk hnm hK hN hG hl
  have hl : lv_has ls 1 [(0, .ref (q 5))] := hl
  generalize hAe : mA w s.heap.size = A at hG ⊢
  refine lv_aload_n S.1 S.2.1 dX2_walkFromRoots_0 rfl (lv_at hl 0 rfl) ?_
  refine cg_RX2_30 S hK hG hC dX2_walkFromRoots_1 ?_
  refine lv_aload_n S.1 S.2.1 dX2_walkFromRoots_4 rfl (lv_at hl 0 rfl) ?_
  refine cg_RX2_9 S hK hG hC dX2_walkFromRoots_5 ?_
  refine mCV (As := []) (rest := [.ref (q 6)]) S (w_length hC) cal_X8_length in_84 in_85 in_86 in_18 hK hN hG hC.obj8 rfl rfl rfl hl.1 (Nat.le_of_ble_eq_true rfl) ⟨by decide, by decide⟩ ⟨rfl, rfl⟩ ⟨by decide, by decide⟩ dX2_walkFromRoots_8 (fun v w H locs hp hG => ?_)
  obtain ⟨rfl, hw9⟩ := hp
  have hw9 := hw9.symm
  subst hw9
  refine W.eq (g2 := F0 m 11 ls [.int (nI (Wn)), .ref (q 6)]) rfl ?_
  refine mCV (As := [.int (nI (Wn))]) (rest := []) S (k_begin hC Wn) cal_X7_begin in_298 in_188 in_189 in_79 hK hN hG hC.obj7 rfl rfl rfl hl.1 (Nat.le_of_ble_eq_true rfl) ⟨by decide, by decide⟩ ⟨rfl, rfl⟩ ⟨by decide, by decide⟩ dX2_walkFromRoots_11 (fun v w H locs hp hG => ?_)
  obtain ⟨rfl, hC⟩ := hp
  refine W.eq (g2 := F0 m 14 ls []) rfl ?_
  refine lv_aload_n S.1 S.2.1 dX2_walkFromRoots_14 rfl (lv_at hl 0 rfl) ?_
  refine cg_RX2_30 S hK hG hC dX2_walkFromRoots_15 ?_
  refine lv_aload_n S.1 S.2.1 dX2_walkFromRoots_18 rfl (lv_at hl 0 rfl) ?_
  refine cg_RX2_15 S hK hG hC dX2_walkFromRoots_19 ?_
  refine mCV (As := [.ref (q 3)]) (rest := []) S (k_meetRoots hB hKm hKf hfl hC hW4 hcb hW4 htb (LsC_nil hwb) (fun x hx => absurd hx List.not_mem_nil) hKr) cal_X7_meetRoots in_299 in_192 in_193 in_79 hK hN hG hC.obj7 rfl rfl rfl hl.1 (Nat.le_of_ble_eq_true rfl) ⟨by decide, by decide⟩ ⟨rfl, rfl⟩ ⟨by decide, by decide⟩ dX2_walkFromRoots_22 (fun v w H locs hp hG => ?_)
  obtain ⟨rfl, mt4, ms4, wl4, od4, hC, hLe⟩ := hp
  refine W.eq (g2 := F0 m 25 ls []) rfl ?_
  refine lv_aload_n S.1 S.2.1 dX2_walkFromRoots_25 rfl (lv_at hl 0 rfl) ?_
  refine cg_RX2_30 S hK hG hC dX2_walkFromRoots_26 ?_
  refine mCV (As := []) (rest := []) S (k_follow hB hKm hKf hfl hC hW4 hcb hW4 htb hLe (mtN_all (fun x hx => absurd hx List.not_mem_nil) 16 (fun i hi t ht _ => hKr i hi t ht))) cal_X7_follow in_300 in_236 in_237 in_79 hK hN hG hC.obj7 rfl rfl rfl hl.1 (Nat.le_of_ble_eq_true rfl) ⟨by decide, by decide⟩ ⟨rfl, rfl⟩ ⟨by decide, by decide⟩ dX2_walkFromRoots_29 (fun v w H locs hp hG => ?_)
  obtain ⟨rfl, mt5, ms5, wl5, od5, hC, hLf⟩ := hp
  refine W.eq (g2 := F0 m 32 ls []) rfl ?_
  exact mw_vret S hr hlk hK hG dX2_walkFromRoots_32 ⟨rfl, mt5, ms5, wl5, od5, hC, hLf⟩
theorem cal_X2_reachedThings : mCal yX2_reachedThings cX2_reachedThings 1 0 (some .int) := ⟨in_627, by decide +kernel⟩
set_option maxHeartbeats 4000000 in
set_option maxRecDepth 100000 in
theorem e_reachedThings {l : Launch} {dC : Nat → ClassId} {dI : Nat → Nat → Nat} {cI cZ cT : ClassId} {q : Nat → Nat} {kp : Nat} {Wn : Nat} {made : Nat} {fl : (Nat → Nat)} {num : (Nat → Nat → Int32)} {rfs : (Nat → Nat → Option Nat)} {root : (Nat → Option Nat)} {own : (Nat → Option Nat)} {tad : (Nat → Nat)} {trm : (Nat → Bool)} {tpl : (Nat → Nat)} {wlk : (Nat → Nat)} {ord : (Nat → Nat)} {met : (Nat → Option Nat)} {msz : Nat} {cur : Nat} {mend : Nat} {pnx : Nat} {pen : Nat} {st : Nat} {coll : Nat} {mins : Nat} {movd : Nat} {Kp : Nat → Prop} (hB : ∀ M : List Nat, M.Nodup → (∀ x ∈ M, Kp x) → M.length ≤ Wn) (hKm : ∀ x, Kp x → x < made) (hKf : ∀ x, Kp x → ∀ i, i < fl x → ∀ t, rfs x i = some t → Kp t) (hfl : ∀ x, x < made → fl x ≤ 6) {w : mM} (hC : CW cI cT q kp Wn made fl num rfs root own tad trm tpl wlk ord met msz cur mend pnx pen st coll mins movd w) (hW4 : Wn ≤ 400) (hcb : cur + 1 < 2147483648) (htb : ∀ t, t < made → tad t < 2147483648) (hwb : ∀ o, o < made → wlk o ≤ cur) (hKr : ∀ i, i < 16 → ∀ t, root i = some t → Kp t) (hkp3 : kp ≤ 2) : mC l yX2_reachedThings (wsY yX2_reachedThings cX2_reachedThings 1 (some .int)) { frames := 4, cells := 0, slots := 0, locals := 84 } (dC, dI) vwCl (tyL cI cZ cT) 0 0 w [.ref (q 5)] (fun v w2 => v = some (.int (nI (flw (okC tad Wn) fl rfs 401 0 (mtN (okC tad Wn) root 16 [])).length)) ∧ ∃ (mt3 : Nat → Option Nat) (ms3 : Nat) (wl3 od3 : Nat → Nat), CW cI cT q kp Wn made fl num rfs root own tad trm tpl wl3 od3 mt3 ms3 ((cur + 1)) Wn pnx pen st coll mins movd w2 ∧ LsC made (cur + 1) ms3 mt3 wl3 od3 (flw (okC tad Wn) fl rfs 401 0 (mtN (okC tad Wn) root 16 []))) := by
  refine mC.on (by decide) (Nat.le_of_ble_eq_true rfl) ?_
  intro p e s m args below meth c ls S hr hlk hnm hK hN hG hl
  have hl : lv_has ls 1 [(0, .ref (q 5))] := hl
  generalize hAe : mA w s.heap.size = A at hG ⊢
  refine lv_aload_n S.1 S.2.1 dX2_reachedThings_0 rfl (lv_at hl 0 rfl) ?_
  rcases (show kp = 0 ∨ kp = 1 ∨ kp = 2 by omega) with hkp | hkp | hkp
  · refine mCU (As := []) (rest := []) S (e_walkFromRoots hB hKm hKf hfl hC hW4 hcb htb hwb hKr) (va_cwU (owner := "KeptHeap$Keeper") (x := ⟨"KeptHeap$Keeper", "walkFromRoots", "()V"⟩) 0 S.2.2.2.2 (mGU (own := RX2) (index := 44) (x := ⟨"KeptHeap$Keeper", "walkFromRoots", "()V"⟩) (owner := "KeptHeap$Keeper") in_297 in_628 in_629 in_632 in_296 in_72) rfl rfl rfl rfl (by decide +kernel) ⟨by decide, by decide⟩) hK hN hG (hC.obj5 hkp) rfl rfl rfl hl.1 (Nat.le_of_ble_eq_true rfl) ⟨by decide, by decide⟩ dX2_reachedThings_1 (fun v w H locs hp hG => ?_)
    obtain ⟨rfl, mt5, ms5, wl5, od5, hC, hLf⟩ := hp
    refine W.eq (g2 := F0 m 4 ls []) rfl ?_
    refine lv_aload_n S.1 S.2.1 dX2_reachedThings_4 rfl (lv_at hl 0 rfl) ?_
    refine cg_RX2_30 S hK hG hC dX2_reachedThings_5 ?_
    refine mCV (As := []) (rest := []) S (k_size hC) cal_X7_size in_633 in_246 in_247 in_79 hK hN hG hC.obj7 rfl rfl rfl hl.1 (Nat.le_of_ble_eq_true rfl) ⟨by decide, by decide⟩ ⟨rfl, rfl⟩ ⟨by decide, by decide⟩ dX2_reachedThings_8 (fun v w H locs hp hG => ?_)
    obtain ⟨rfl, hw9⟩ := hp
    have hw9 := hw9.symm
    subst hw9
    refine W.eq (g2 := F0 m 11 ls [.int (nI (ms5))]) rfl ?_
    exact mw_iret S hr hlk hK hG dX2_reachedThings_11 ⟨by rw [hLf.2.1], mt5, ms5, wl5, od5, hC, hLf⟩
  · refine mCU (As := []) (rest := []) S (e_walkFromRoots hB hKm hKf hfl hC hW4 hcb htb hwb hKr) (va_cwU (owner := "KeptHeap$Keeper") (x := ⟨"KeptHeap$Keeper", "walkFromRoots", "()V"⟩) 0 S.2.2.2.2 (mGU (own := RX2) (index := 44) (x := ⟨"KeptHeap$Keeper", "walkFromRoots", "()V"⟩) (owner := "KeptHeap$Keeper") in_297 in_628 in_629 in_631 in_296 in_72) rfl rfl rfl rfl (by decide +kernel) ⟨by decide, by decide⟩) hK hN hG (hC.obj1 hkp) rfl rfl rfl hl.1 (Nat.le_of_ble_eq_true rfl) ⟨by decide, by decide⟩ dX2_reachedThings_1 (fun v w H locs hp hG => ?_)
    obtain ⟨rfl, mt5, ms5, wl5, od5, hC, hLf⟩ := hp
    refine W.eq (g2 := F0 m 4 ls []) rfl ?_
    refine lv_aload_n S.1 S.2.1 dX2_reachedThings_4 rfl (lv_at hl 0 rfl) ?_
    refine cg_RX2_30 S hK hG hC dX2_reachedThings_5 ?_
    refine mCV (As := []) (rest := []) S (k_size hC) cal_X7_size in_633 in_246 in_247 in_79 hK hN hG hC.obj7 rfl rfl rfl hl.1 (Nat.le_of_ble_eq_true rfl) ⟨by decide, by decide⟩ ⟨rfl, rfl⟩ ⟨by decide, by decide⟩ dX2_reachedThings_8 (fun v w H locs hp hG => ?_)
    obtain ⟨rfl, hw9⟩ := hp
    have hw9 := hw9.symm
    subst hw9
    refine W.eq (g2 := F0 m 11 ls [.int (nI (ms5))]) rfl ?_
    exact mw_iret S hr hlk hK hG dX2_reachedThings_11 ⟨by rw [hLf.2.1], mt5, ms5, wl5, od5, hC, hLf⟩
  · refine mCU (As := []) (rest := []) S (e_walkFromRoots hB hKm hKf hfl hC hW4 hcb htb hwb hKr) (va_cwU (owner := "KeptHeap$Keeper") (x := ⟨"KeptHeap$Keeper", "walkFromRoots", "()V"⟩) 0 S.2.2.2.2 (mGU (own := RX2) (index := 44) (x := ⟨"KeptHeap$Keeper", "walkFromRoots", "()V"⟩) (owner := "KeptHeap$Keeper") in_297 in_628 in_629 in_630 in_296 in_72) rfl rfl rfl rfl (by decide +kernel) ⟨by decide, by decide⟩) hK hN hG (hC.obj0 hkp) rfl rfl rfl hl.1 (Nat.le_of_ble_eq_true rfl) ⟨by decide, by decide⟩ dX2_reachedThings_1 (fun v w H locs hp hG => ?_)
    obtain ⟨rfl, mt5, ms5, wl5, od5, hC, hLf⟩ := hp
    refine W.eq (g2 := F0 m 4 ls []) rfl ?_
    refine lv_aload_n S.1 S.2.1 dX2_reachedThings_4 rfl (lv_at hl 0 rfl) ?_
    refine cg_RX2_30 S hK hG hC dX2_reachedThings_5 ?_
    refine mCV (As := []) (rest := []) S (k_size hC) cal_X7_size in_633 in_246 in_247 in_79 hK hN hG hC.obj7 rfl rfl rfl hl.1 (Nat.le_of_ble_eq_true rfl) ⟨by decide, by decide⟩ ⟨rfl, rfl⟩ ⟨by decide, by decide⟩ dX2_reachedThings_8 (fun v w H locs hp hG => ?_)
    obtain ⟨rfl, hw9⟩ := hp
    have hw9 := hw9.symm
    subst hw9
    refine W.eq (g2 := F0 m 11 ls [.int (nI (ms5))]) rfl ?_
    exact mw_iret S hr hlk hK hG dX2_reachedThings_11 ⟨by rw [hLf.2.1], mt5, ms5, wl5, od5, hC, hLf⟩
theorem cal_X2_sweepFrom : mCal yX2_sweepFrom cX2_sweepFrom 5 1 (some .int) := ⟨in_305, by decide +kernel⟩
set_option maxHeartbeats 4000000 in
set_option maxRecDepth 100000 in
theorem e_sweepFrom {l : Launch} {dC : Nat → ClassId} {dI : Nat → Nat → Nat} {cI cZ cT : ClassId} {q : Nat → Nat} {kp : Nat} {Wn : Nat} {made : Nat} {fl : (Nat → Nat)} {num : (Nat → Nat → Int32)} {rfs : (Nat → Nat → Option Nat)} {root : (Nat → Option Nat)} {own : (Nat → Option Nat)} {tad : (Nat → Nat)} {trm : (Nat → Bool)} {tpl : (Nat → Nat)} {wlk : (Nat → Nat)} {ord : (Nat → Nat)} {met : (Nat → Option Nat)} {msz : Nat} {cur : Nat} {mend : Nat} {pnx : Nat} {pen : Nat} {st : Nat} {coll : Nat} {mins : Nat} {movd : Nat} {w : mM} (hC : CW cI cT q kp Wn made fl num rfs root own tad trm tpl wlk ord met msz cur mend pnx pen st coll mins movd w) (hW : Wn < 1000) (hcb : cur < 2147483648) (hwb : ∀ t, t < made → wlk t ≤ cur) (htb : ∀ t, t < made → tad t < 2147483648) (hLy : LyC made Wn fl tad own) (f : Nat) (hf : f ≤ Wn) : mC l yX2_sweepFrom (wsY yX2_sweepFrom cX2_sweepFrom 5 (some .int)) { frames := 2, cells := 0, slots := 0, locals := 47 } (dC, dI) vwCl (tyL cI cZ cT) 0 0 w [.ref (q 5), .int (nI (f))] (fun v w2 => v = some (.int (nI (cnt (cw f own tad (unm wlk cur)) Wn))) ∧ CW cI cT q kp Wn made fl num rfs root (swO (dd f Wn tad (unm wlk cur)) own) tad trm tpl wlk ord met msz cur mend pnx pen st coll mins movd w2) := by
  refine mC.on (by decide) (Nat.le_of_ble_eq_true rfl) ?_
  intro p e s m args below meth c ls S hr hlk hnm hK hN hG hl
  have hl : lv_has ls 5 [(0, .ref (q 5)), (1, .int (nI (f)))] := hl
  generalize hAe : mA w s.heap.size = A at hG ⊢
  refine lv_iconst (v := nI (0)) S.1 S.2.1 dX2_sweepFrom_0 (by decide) ?_
  refine lv_istore_n (lv' := [(2, .int (nI (0))), (0, .ref (q 5)), (1, .int (nI (f)))]) S.1 S.2.1 dX2_sweepFrom_1 rfl hl (by decide) rfl (fun ls hl => ?_)
  refine lv_iload_n S.1 S.2.1 dX2_sweepFrom_2 rfl (lv_at hl 2 rfl) ?_
  refine lv_istore_n (lv' := [(3, .int (nI (f))), (2, .int (nI (0))), (0, .ref (q 5)), (1, .int (nI (f)))]) S.1 S.2.1 dX2_sweepFrom_3 rfl hl (by decide) rfl (fun ls hl => ?_)
  have L : ∀ (fu : Nat) (k : Nat), Wn - k < fu → (k ≤ Wn) → (f ≤ k) → ∀ (w : mM) (H : Heap) (locs : List Loc), CW cI cT q kp Wn made fl num rfs root (swO (dd f k tad (unm wlk cur)) own) tad trm tpl wlk ord met msz cur mend pnx pen st coll mins movd w → mG (dC, dI) vwCl A s.heap w H locs → ∀ ls : Array Slot, lv_has ls 5 [(3, .int (nI (k))), (2, .int (nI (cnt (cw f own tad (unm wlk cur)) k))), (0, .ref (q 5)), (1, .int (nI (f)))] → W p l e { frames := 2, cells := 0, slots := 0, locals := 47 } s m args below meth c H locs 0 0 (MQ below (mQ (dC, dI) vwCl (tyL cI cZ cT) (fun v w2 => v = some (.int (nI (cnt (cw f own tad (unm wlk cur)) Wn))) ∧ CW cI cT q kp Wn made fl num rfs root (swO (dd f Wn tad (unm wlk cur)) own) tad trm tpl wlk ord met msz cur mend pnx pen st coll mins movd w2) A) args s 0 0 A) (F0 m 4 ls []) := by
    intro fu
    induction fu with
    | zero => intro k h1; exact absurd h1 (Nat.not_lt_zero _)
    | succ fu ihL =>
      intro k h1 h2 h3 w H locs hC hG ls hl
      have hob2 : ∀ x t, swO (dd f k tad (unm wlk cur)) own x = some t → t < made := fun x t ht => (hLy x t (swO_own ht)).1
      refine lv_iload_n S.1 S.2.1 dX2_sweepFrom_4 rfl (lv_at hl 0 rfl) ?_
      refine lv_aload_n S.1 S.2.1 dX2_sweepFrom_5 rfl (lv_at hl 2 rfl) ?_
      refine cg_RX2_9 S hK hG hC dX2_sweepFrom_6 ?_
      refine mCV (As := []) (rest := [.int (nI (k))]) S (w_length hC) cal_X8_length in_84 in_85 in_86 in_18 hK hN hG hC.obj8 rfl rfl rfl hl.1 (Nat.le_of_ble_eq_true rfl) ⟨by decide, by decide⟩ ⟨rfl, rfl⟩ ⟨by decide, by decide⟩ dX2_sweepFrom_9 (fun v w H locs hp hG => ?_)
      obtain ⟨rfl, hw9⟩ := hp
      have hw9 := hw9.symm
      subst hw9
      refine W.eq (g2 := F0 m 12 ls [.int (nI (Wn)), .int (nI (k))]) rfl ?_
      refine lv_icmp_ge (tgt := 65) S.1 S.2.1 dX2_sweepFrom_12 (by decide) (fun c1 => ?_) (fun c1 => ?_)
      · have c1 : Wn ≤ k := (nI_leI (a := Wn) (b := k) (by omega) (by omega)).mp c1
        have hk : k = Wn := by omega
        rw [hk] at hC hl
        refine lv_iload_n S.1 S.2.1 dX2_sweepFrom_65 rfl (lv_at hl 1 rfl) ?_
        exact mw_iret S hr hlk hK hG dX2_sweepFrom_66 ⟨rfl, hC⟩
      · have c1 : ¬ (Wn ≤ k) := fun h9 => c1 ((nI_leI (a := Wn) (b := k) (by omega) (by omega)).mpr h9)
        refine lv_aload_n S.1 S.2.1 dX2_sweepFrom_15 rfl (lv_at hl 2 rfl) ?_
        refine cg_RX2_9 S hK hG hC dX2_sweepFrom_16 ?_
        refine lv_iload_n S.1 S.2.1 dX2_sweepFrom_19 rfl (lv_at hl 0 rfl) ?_
        refine mCV (As := [.int (nI (k))]) (rest := []) S (w_beginningAt hC hob2 hW htb k (by omega)) cal_X8_beginningAt in_306 in_213 in_214 in_18 hK hN hG hC.obj8 rfl rfl rfl hl.1 (Nat.le_of_ble_eq_true rfl) ⟨by decide, by decide⟩ ⟨rfl, rfl⟩ ⟨by decide, by decide⟩ dX2_sweepFrom_20 (fun v w H locs hp hG => ?_)
        obtain ⟨rfl, hw9⟩ := hp
        have hw9 := hw9.symm
        subst hw9
        rw [bgn_sw]
        refine W.eq (g2 := F0 m 23 ls [va_rf ((bgn own tad k).map (tq q))]) rfl ?_
        refine lw_astore (lv' := [(4, va_rf ((bgn own tad k).map (tq q))), (3, .int (nI (k))), (2, .int (nI (cnt (cw f own tad (unm wlk cur)) k))), (0, .ref (q 5)), (1, .int (nI (f)))]) S.1 S.2.1 dX2_sweepFrom_23 hl (by decide) rfl (fun ls hl => ?_)
        refine lw_aload S.1 S.2.1 dX2_sweepFrom_25 (lv_at hl 0 rfl) ?_
        refine lw_ifnull (x := bgn own tad k) (tgt := 59) S.1 S.2.1 dX2_sweepFrom_27 (by decide) (fun c2 => ?_) (fun t c2 => ?_)
        · rw [sw_keep h3 hLy (fun t ht => by rw [c2] at ht; cases ht)] at hC
          refine lv_iinc (v := nI (k + 1)) (lv' := [(3, .int (nI (k + 1))), (4, va_rf ((bgn own tad k).map (tq q))), (2, .int (nI (cnt (cw f own tad (unm wlk cur)) k))), (0, .ref (q 5)), (1, .int (nI (f)))]) S.1 S.2.1 dX2_sweepFrom_59 hl (k := 1) rfl (nI_1 _) (by decide) rfl (fun ls hl => ?_)
          refine lv_goto (tgt := 4) S.1 S.2.1 dX2_sweepFrom_62 (by decide) ?_
          rw [← cnt_s0 (c := cw f own tad (unm wlk cur)) (by unfold cw; rw [c2]; simp)] at hl
          exact ihL (k + 1) (by omega) (by omega) (by omega) _ _ _ hC hG ls (lv_sub hl [0, 2, 3, 4] rfl)
        · have htm := (hLy k t (bgn_own c2).1).1
          have htt := (bgn_own c2).2
          rw [c2] at hl
          have hl : lv_has ls 5 [(4, .ref (tq q t)), (3, .int (nI (k))), (2, .int (nI (cnt (cw f own tad (unm wlk cur)) k))), (0, .ref (q 5)), (1, .int (nI (f)))] := hl
          refine lv_aload_n S.1 S.2.1 dX2_sweepFrom_30 rfl (lv_at hl 3 rfl) ?_
          refine cg_RX2_30 S hK hG hC dX2_sweepFrom_31 ?_
          refine lv_aload S.1 S.2.1 dX2_sweepFrom_34 (lv_at hl 0 rfl) ?_
          refine mCV (As := [.ref (tq q t)]) (rest := []) S (k_hasMet hC hcb hwb t htm) cal_X7_hasMet in_307 in_308 in_309 in_79 hK hN hG hC.obj7 rfl rfl rfl hl.1 (Nat.le_of_ble_eq_true rfl) ⟨by decide, by decide⟩ ⟨rfl, rfl⟩ ⟨by decide, by decide⟩ dX2_sweepFrom_36 (fun v w H locs hp hG => ?_)
          obtain ⟨rfl, hw9⟩ := hp
          have hw9 := hw9.symm
          subst hw9
          refine W.eq (g2 := F0 m 39 ls [.int (bI (decide (wlk t = cur)))]) rfl ?_
          refine lv_if_ne (tgt := 59) S.1 S.2.1 dX2_sweepFrom_39 (by decide) (fun c3 => ?_) (fun c3 => ?_)
          · have c3 : (unm wlk cur) t = false := by unfold unm; rw [bI_t c3]; rfl
            rw [sw_keep h3 hLy (fun u hu => by rw [c2] at hu; cases hu; exact c3)] at hC
            refine lv_iinc (v := nI (k + 1)) (lv' := [(3, .int (nI (k + 1))), (4, .ref (tq q t)), (2, .int (nI (cnt (cw f own tad (unm wlk cur)) k))), (0, .ref (q 5)), (1, .int (nI (f)))]) S.1 S.2.1 dX2_sweepFrom_59 hl (k := 1) rfl (nI_1 _) (by decide) rfl (fun ls hl => ?_)
            refine lv_goto (tgt := 4) S.1 S.2.1 dX2_sweepFrom_62 (by decide) ?_
            rw [← cnt_s0 (c := cw f own tad (unm wlk cur)) (by unfold cw; rw [c2]; simp [c3])] at hl
            exact ihL (k + 1) (by omega) (by omega) (by omega) _ _ _ hC hG ls (lv_sub hl [0, 2, 3, 4] rfl)
          · have c3 : (unm wlk cur) t = true := by unfold unm; rw [bI_f c3]; rfl
            obtain ⟨-, -, -, g5, -⟩ := hLy k t (bgn_own c2).1
            refine lv_aload_n S.1 S.2.1 dX2_sweepFrom_42 rfl (lv_at hl 3 rfl) ?_
            refine cg_RX2_9 S hK hG hC dX2_sweepFrom_43 ?_
            refine lv_iload_n S.1 S.2.1 dX2_sweepFrom_46 rfl (lv_at hl 1 rfl) ?_
            refine lv_aload S.1 S.2.1 dX2_sweepFrom_47 (lv_at hl 0 rfl) ?_
            refine mCV (As := []) (rest := [.int (nI (k)), .ref (q 1)]) S (t_size hC t htm) cal_X6_size in_311 in_254 in_255 in_142 hK hN hG (hC.th htm) rfl rfl rfl hl.1 (Nat.le_of_ble_eq_true rfl) ⟨by decide, by decide⟩ ⟨rfl, rfl⟩ ⟨by decide, by decide⟩ dX2_sweepFrom_49 (fun v w H locs hp hG => ?_)
            obtain ⟨rfl, hw9⟩ := hp
            have hw9 := hw9.symm
            subst hw9
            refine W.eq (g2 := F0 m 52 ls [.int (nI (fl t + 1)), .int (nI (k)), .ref (q 1)]) rfl ?_
            refine lv_null S.1 S.2.1 dX2_sweepFrom_52 ?_
            refine mCV (As := [.int (nI (k)), .int (nI (fl t + 1)), .null]) (rest := []) S (w_fill hC hW k (fl t + 1) (by omega) none (fun u hu => by cases hu)) cal_X8_fill in_312 in_259 in_260 in_18 hK hN hG hC.obj8 rfl rfl rfl hl.1 (Nat.le_of_ble_eq_true rfl) ⟨by decide, by decide⟩ ⟨rfl, rfl⟩ ⟨by decide, by decide⟩ dX2_sweepFrom_53 (fun v w H locs hp hG => ?_)
            obtain ⟨rfl, hC⟩ := hp
            refine W.eq (g2 := F0 m 56 ls []) rfl ?_
            rw [sw_die h3 hLy c2 c3] at hC
            refine lv_iinc (v := nI (cnt (cw f own tad (unm wlk cur)) k + 1)) (lv' := [(2, .int (nI (cnt (cw f own tad (unm wlk cur)) k + 1))), (4, .ref (tq q t)), (3, .int (nI (k))), (0, .ref (q 5)), (1, .int (nI (f)))]) S.1 S.2.1 dX2_sweepFrom_56 hl (k := 2) rfl (nI_1 _) (by decide) rfl (fun ls hl => ?_)
            refine lv_iinc (v := nI (k + 1)) (lv' := [(3, .int (nI (k + 1))), (2, .int (nI (cnt (cw f own tad (unm wlk cur)) k + 1))), (4, .ref (tq q t)), (0, .ref (q 5)), (1, .int (nI (f)))]) S.1 S.2.1 dX2_sweepFrom_59 hl (k := 2) rfl (nI_1 _) (by decide) rfl (fun ls hl => ?_)
            refine lv_goto (tgt := 4) S.1 S.2.1 dX2_sweepFrom_62 (by decide) ?_
            rw [← cnt_s1 (c := cw f own tad (unm wlk cur)) (by unfold cw; rw [c2]; simp [c3]; omega)] at hl
            exact ihL (k + 1) (by omega) (by omega) (by omega) _ _ _ hC hG ls (lv_sub hl [0, 1, 3, 4] rfl)
  exact L (Wn + 1) f (by omega) hf (by omega) _ _ _ (by rw [dd_0, swO_f]; exact hC) hG ls (by rw [cw_0 f own tad (unm wlk cur) f (Nat.le_refl f)]; exact lv_sub hl [0, 1, 2, 3] rfl)
theorem cal_X2_sumWith : mCal yX2_sumWith cX2_sumWith 9 2 (some .long) := ⟨in_663, by decide +kernel⟩
set_option maxHeartbeats 4000000 in
set_option maxRecDepth 100000 in
theorem e_sumWith {l : Launch} {dC : Nat → ClassId} {dI : Nat → Nat → Nat} {cI cZ cT : ClassId} {q : Nat → Nat} {kp : Nat} {Wn : Nat} {made : Nat} {fl : (Nat → Nat)} {num : (Nat → Nat → Int32)} {rfs : (Nat → Nat → Option Nat)} {root : (Nat → Option Nat)} {own : (Nat → Option Nat)} {tad : (Nat → Nat)} {trm : (Nat → Bool)} {tpl : (Nat → Nat)} {wlk : (Nat → Nat)} {ord : (Nat → Nat)} {met : (Nat → Option Nat)} {msz : Nat} {cur : Nat} {mend : Nat} {pnx : Nat} {pen : Nat} {st : Nat} {coll : Nat} {mins : Nat} {movd : Nat} {w : mM} (hC : CW cI cT q kp Wn made fl num rfs root own tad trm tpl wlk ord met msz cur mend pnx pen st coll mins movd w) (hW : Wn < 1000) (b : Int64) (k : Nat) (hk : k < made) (hf : fl k ≤ 6) (hrb : ∀ j, j < fl k → ∀ t, rfs k j = some t → t < made) : mC l yX2_sumWith (wsY yX2_sumWith cX2_sumWith 9 (some .long)) { frames := 1, cells := 0, slots := 0, locals := 21 } (dC, dI) vwCl (tyL cI cZ cT) 0 0 w [.long (b), .ref (tq q k)] (fun v w2 => v = some (.long (smO fl num rfs ord b k)) ∧ w2 = w) := by
  refine mC.on (by decide) (Nat.le_of_ble_eq_true rfl) ?_
  intro p e s m args below meth c ls S hr hlk hnm hK hN hG hl
  have hl : lv_has ls 9 [(0, .long (b)), (2, .ref (tq q k))] := hl
  generalize hAe : mA w s.heap.size = A at hG ⊢
  refine lv_ldc2 S.1 S.2.1 S.2.2.2.1 (S.2.2.2.2 _ in_664) dX2_sumWith_0 ?_
  refine lv_lload_n S.1 S.2.1 dX2_sumWith_3 rfl (lv_at hl 0 rfl) ?_
  refine lv_lmul S.1 S.2.1 dX2_sumWith_4 ?_
  refine lv_aload_n S.1 S.2.1 dX2_sumWith_5 rfl (lv_at hl 1 rfl) ?_
  refine mCV (As := []) (rest := [.long ((31) * (b))]) S (t_fields hC k hk) cal_X6_fields in_667 in_226 in_227 in_142 hK hN hG (hC.th hk) rfl rfl rfl hl.1 (Nat.le_of_ble_eq_true rfl) ⟨by decide, by decide⟩ ⟨rfl, rfl⟩ ⟨by decide, by decide⟩ dX2_sumWith_6 (fun v w H locs hp hG => ?_)
  obtain ⟨rfl, hw9⟩ := hp
  have hw9 := hw9.symm
  subst hw9
  refine W.eq (g2 := F0 m 9 ls [.int (nI (fl k)), .long ((31) * (b))]) rfl ?_
  refine lv_i2l (v := (nI (fl k)).toInt64) S.1 S.2.1 dX2_sumWith_9 rfl ?_
  refine lv_ladd S.1 S.2.1 dX2_sumWith_10 ?_
  refine lv_lstore_n (lv' := [(3, .long (((31) * (b)) + ((nI (fl k)).toInt64))), (0, .long (b)), (2, .ref (tq q k))]) S.1 S.2.1 dX2_sumWith_11 rfl hl (by decide) rfl (fun ls hl => ?_)
  refine lv_iconst (v := nI (0)) S.1 S.2.1 dX2_sumWith_12 (by decide) ?_
  refine lv_istore (lv' := [(5, .int (nI (0))), (3, .long (((31) * (b)) + ((nI (fl k)).toInt64))), (0, .long (b)), (2, .ref (tq q k))]) S.1 S.2.1 dX2_sumWith_13 hl (by decide) rfl (fun ls hl => ?_)
  have L : ∀ (fu : Nat) (j : Nat), fl k - j < fu → (j ≤ fl k) → ∀ (H : Heap) (locs : List Loc), mG (dC, dI) vwCl A s.heap w H locs → ∀ ls : Array Slot, lv_has ls 9 [(5, .int (nI (j))), (3, .long (smR num rfs ord k j (31 * b + (nI (fl k)).toInt64))), (0, .long (b)), (2, .ref (tq q k))] → W p l e { frames := 1, cells := 0, slots := 0, locals := 21 } s m args below meth c H locs 0 0 (MQ below (mQ (dC, dI) vwCl (tyL cI cZ cT) (fun v w2 => v = some (.long (smO fl num rfs ord b k)) ∧ w2 = w) A) args s 0 0 A) (F0 m 15 ls []) := by
    intro fu
    induction fu with
    | zero => intro j h1; exact absurd h1 (Nat.not_lt_zero _)
    | succ fu ihL =>
      intro j h1 h2 H locs hG ls hl
      refine lv_iload S.1 S.2.1 dX2_sumWith_15 (lv_at hl 0 rfl) ?_
      refine lv_aload_n S.1 S.2.1 dX2_sumWith_17 rfl (lv_at hl 3 rfl) ?_
      refine mCV (As := []) (rest := [.int (nI (j))]) S (t_fields hC k hk) cal_X6_fields in_667 in_226 in_227 in_142 hK hN hG (hC.th hk) rfl rfl rfl hl.1 (Nat.le_of_ble_eq_true rfl) ⟨by decide, by decide⟩ ⟨rfl, rfl⟩ ⟨by decide, by decide⟩ dX2_sumWith_18 (fun v w H locs hp hG => ?_)
      obtain ⟨rfl, hw9⟩ := hp
      have hw9 := hw9.symm
      subst hw9
      refine W.eq (g2 := F0 m 21 ls [.int (nI (fl k)), .int (nI (j))]) rfl ?_
      refine lv_icmp_ge (tgt := 80) S.1 S.2.1 dX2_sumWith_21 (by decide) (fun c1 => ?_) (fun c1 => ?_)
      · have c1 : (fl k) ≤ j := (nI_leI (a := fl k) (b := j) (by omega) (by omega)).mp c1
        have hj : j = fl k := by omega
        rw [hj] at hl
        refine lv_lload_n S.1 S.2.1 dX2_sumWith_80 rfl (lv_at hl 1 rfl) ?_
        exact mw_lret S hr hlk hK hG dX2_sumWith_81 ⟨rfl, rfl⟩
      · have c1 : ¬ ((fl k) ≤ j) := fun h9 => c1 ((nI_leI (a := fl k) (b := j) (by omega) (by omega)).mpr h9)
        refine lv_aload_n S.1 S.2.1 dX2_sumWith_24 rfl (lv_at hl 3 rfl) ?_
        refine lv_iload S.1 S.2.1 dX2_sumWith_25 (lv_at hl 0 rfl) ?_
        refine mCV (As := [.int (nI (j))]) (rest := []) S (t_targetOf hC k hk hf (nI j)) cal_X6_targetOf in_668 in_231 in_232 in_142 hK hN hG (hC.th hk) rfl rfl rfl hl.1 (Nat.le_of_ble_eq_true rfl) ⟨by decide, by decide⟩ ⟨rfl, rfl⟩ ⟨by decide, by decide⟩ dX2_sumWith_27 (fun v w H locs hp hG => ?_)
        obtain ⟨rfl, hw9⟩ := hp
        have hw9 := hw9.symm
        subst hw9
        rw [if_pos (inR_nI (show j < fl k by omega) (by omega)), nI_clamp (by omega)]
        refine W.eq (g2 := F0 m 30 ls [va_rf ((rfs k j).map (tq q))]) rfl ?_
        refine lw_astore (lv' := [(6, va_rf ((rfs k j).map (tq q))), (5, .int (nI (j))), (3, .long (smR num rfs ord k j (31 * b + (nI (fl k)).toInt64))), (0, .long (b)), (2, .ref (tq q k))]) S.1 S.2.1 dX2_sumWith_30 hl (by decide) rfl (fun ls hl => ?_)
        refine lw_aload S.1 S.2.1 dX2_sumWith_32 (lv_at hl 0 rfl) ?_
        refine lw_ifnonnull (x := rfs k j) (tgt := 51) S.1 S.2.1 dX2_sumWith_34 (by decide) (fun c2 => ?_) (fun t c2 => ?_)
        · refine lv_ldc2 S.1 S.2.1 S.2.2.2.1 (S.2.2.2.2 _ in_665) dX2_sumWith_37 ?_
          refine lv_aload_n S.1 S.2.1 dX2_sumWith_40 rfl (lv_at hl 4 rfl) ?_
          refine lv_iload S.1 S.2.1 dX2_sumWith_41 (lv_at hl 1 rfl) ?_
          refine mCV (As := [.int (nI (j))]) (rest := [.long (2)]) S (t_numberOf hC k hk hf (nI j)) cal_X6_numberOf in_669 in_523 in_524 in_142 hK hN hG (hC.th hk) rfl rfl rfl hl.1 (Nat.le_of_ble_eq_true rfl) ⟨by decide, by decide⟩ ⟨rfl, rfl⟩ ⟨by decide, by decide⟩ dX2_sumWith_43 (fun v w H locs hp hG => ?_)
          obtain ⟨rfl, hw9⟩ := hp
          have hw9 := hw9.symm
          subst hw9
          rw [if_pos (inR_nI (show j < fl k by omega) (by omega)), nI_clamp (by omega)]
          refine W.eq (g2 := F0 m 46 ls [.int (num k j), .long (2)]) rfl ?_
          refine lv_i2l (v := (num k j).toInt64) S.1 S.2.1 dX2_sumWith_46 rfl ?_
          refine lv_lmul S.1 S.2.1 dX2_sumWith_47 ?_
          refine lv_goto (tgt := 63) S.1 S.2.1 dX2_sumWith_48 (by decide) ?_
          refine lv_eql (y := smT num rfs ord k j) ((smT_n c2).symm) ?_
          refine lv_lstore (lv' := [(7, .long (smT num rfs ord k j)), (6, va_rf ((rfs k j).map (tq q))), (5, .int (nI (j))), (3, .long (smR num rfs ord k j (31 * b + (nI (fl k)).toInt64))), (0, .long (b)), (2, .ref (tq q k))]) S.1 S.2.1 dX2_sumWith_63 hl (by decide) (by simp only [List.filter, rf_cat]; rfl) (fun ls hl => ?_)
          refine lv_ldc2 S.1 S.2.1 S.2.2.2.1 (S.2.2.2.2 _ in_664) dX2_sumWith_65 ?_
          refine lv_lload_n S.1 S.2.1 dX2_sumWith_68 rfl (lv_at hl 3 rfl) ?_
          refine lv_lmul S.1 S.2.1 dX2_sumWith_69 ?_
          refine lv_lload S.1 S.2.1 dX2_sumWith_70 (lv_at hl 0 rfl) ?_
          refine lv_ladd S.1 S.2.1 dX2_sumWith_72 ?_
          refine lv_lstore_n (lv' := [(3, .long (((31) * (smR num rfs ord k j (31 * b + (nI (fl k)).toInt64))) + (smT num rfs ord k j))), (7, .long (smT num rfs ord k j)), (6, va_rf ((rfs k j).map (tq q))), (5, .int (nI (j))), (0, .long (b)), (2, .ref (tq q k))]) S.1 S.2.1 dX2_sumWith_73 rfl hl (by decide) rfl (fun ls hl => ?_)
          refine lv_iinc (v := nI (j + 1)) (lv' := [(5, .int (nI (j + 1))), (3, .long (((31) * (smR num rfs ord k j (31 * b + (nI (fl k)).toInt64))) + (smT num rfs ord k j))), (7, .long (smT num rfs ord k j)), (6, va_rf ((rfs k j).map (tq q))), (0, .long (b)), (2, .ref (tq q k))]) S.1 S.2.1 dX2_sumWith_74 hl (k := 3) rfl (nI_1 _) (by decide) rfl (fun ls hl => ?_)
          refine lv_goto (tgt := 15) S.1 S.2.1 dX2_sumWith_77 (by decide) ?_
          exact ihL (j + 1) (by omega) (by omega) _ _ hG ls (lv_sub hl [0, 1, 4, 5] rfl)
        · have htm := hrb j (by omega) t c2
          rw [c2] at hl
          have hl : lv_has ls 9 [(6, .ref (tq q t)), (5, .int (nI (j))), (3, .long (smR num rfs ord k j (31 * b + (nI (fl k)).toInt64))), (0, .long (b)), (2, .ref (tq q k))] := hl
          refine lv_ldc2 S.1 S.2.1 S.2.2.2.1 (S.2.2.2.2 _ in_665) dX2_sumWith_51 ?_
          refine lv_aload S.1 S.2.1 dX2_sumWith_54 (lv_at hl 0 rfl) ?_
          refine cg_RX2_102 S hK hG hC (t) (by omega) dX2_sumWith_56 ?_
          refine lv_i2l (v := (nI (ord t)).toInt64) S.1 S.2.1 dX2_sumWith_59 rfl ?_
          refine lv_lmul S.1 S.2.1 dX2_sumWith_60 ?_
          refine lv_lconst (v := 1) S.1 S.2.1 dX2_sumWith_61 (by decide) ?_
          refine lv_ladd S.1 S.2.1 dX2_sumWith_62 ?_
          refine lv_eql (y := smT num rfs ord k j) ((smT_s c2).symm) ?_
          refine lv_lstore (lv' := [(7, .long (smT num rfs ord k j)), (6, .ref (tq q t)), (5, .int (nI (j))), (3, .long (smR num rfs ord k j (31 * b + (nI (fl k)).toInt64))), (0, .long (b)), (2, .ref (tq q k))]) S.1 S.2.1 dX2_sumWith_63 hl (by decide) rfl (fun ls hl => ?_)
          refine lv_ldc2 S.1 S.2.1 S.2.2.2.1 (S.2.2.2.2 _ in_664) dX2_sumWith_65 ?_
          refine lv_lload_n S.1 S.2.1 dX2_sumWith_68 rfl (lv_at hl 3 rfl) ?_
          refine lv_lmul S.1 S.2.1 dX2_sumWith_69 ?_
          refine lv_lload S.1 S.2.1 dX2_sumWith_70 (lv_at hl 0 rfl) ?_
          refine lv_ladd S.1 S.2.1 dX2_sumWith_72 ?_
          refine lv_lstore_n (lv' := [(3, .long (((31) * (smR num rfs ord k j (31 * b + (nI (fl k)).toInt64))) + (smT num rfs ord k j))), (7, .long (smT num rfs ord k j)), (6, .ref (tq q t)), (5, .int (nI (j))), (0, .long (b)), (2, .ref (tq q k))]) S.1 S.2.1 dX2_sumWith_73 rfl hl (by decide) rfl (fun ls hl => ?_)
          refine lv_iinc (v := nI (j + 1)) (lv' := [(5, .int (nI (j + 1))), (3, .long (((31) * (smR num rfs ord k j (31 * b + (nI (fl k)).toInt64))) + (smT num rfs ord k j))), (7, .long (smT num rfs ord k j)), (6, .ref (tq q t)), (0, .long (b)), (2, .ref (tq q k))]) S.1 S.2.1 dX2_sumWith_74 hl (k := 3) rfl (nI_1 _) (by decide) rfl (fun ls hl => ?_)
          refine lv_goto (tgt := 15) S.1 S.2.1 dX2_sumWith_77 (by decide) ?_
          exact ihL (j + 1) (by omega) (by omega) _ _ hG ls (lv_sub hl [0, 1, 4, 5] rfl)
  exact L (fl k + 1) 0 (by omega) (by omega) _ _ hG ls (lv_sub hl [0, 1, 2, 3] rfl)
end

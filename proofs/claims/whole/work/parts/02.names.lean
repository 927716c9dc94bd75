theorem mt1 {w : Cond} (h : w ∈ tables_1_1) : w ∈ lw_tbl := List.mem_append_right _ (List.mem_append_left _ h)
theorem mt2 {w : Cond} (h : w ∈ tables_1_2) : w ∈ lw_tbl := List.mem_append_right _ (List.mem_append_right _ (List.mem_append_left _ h))
theorem mt3 {w : Cond} (h : w ∈ tables_1_3) : w ∈ lw_tbl := List.mem_append_right _ (List.mem_append_right _ (List.mem_append_right _ h))
/-- all words of the tables that hold on from state to state -/
def BW : List Cond := lw_tbl.filter goodWord
theorem inBW {w : Cond} (h : w ∈ lw_tbl) (g : goodWord w = true) : w ∈ BW := List.mem_filter.mpr ⟨h, g⟩
theorem BW_good : GoodIn lw_tbl BW := fun w h => ⟨(List.mem_filter.mp h).1, good_of_word (List.mem_filter.mp h).2⟩
theorem BW_in : GoodIn BW BW := fun w h => ⟨h, good_of_word (List.mem_filter.mp h).2⟩
theorem gB {c : Cond} (h : c ∈ BW) : GoodIn BW (c :: BW) := fun w hw => by
  rcases List.mem_cons.mp hw with e | e
  · rw [e]; exact BW_in c h
  · exact BW_in w e
theorem gL {c : Cond} (h : c ∈ BW) : GoodIn lw_tbl (c :: BW) := fun w hw => by
  rcases List.mem_cons.mp hw with e | e
  · rw [e]; exact BW_good c h
  · exact BW_good w e
theorem gV {own C : String} {idx : Nat} {y : MethodName} {c : Cond} (h1 : .methodLink own idx y ∈ BW) (h2 : .instanceMethod y ∈ BW) (h3 : .selects C y y ∈ BW) (h4 : .initialized C ∈ BW) (h : c ∈ BW) : GoodIn BW (wsV own idx C y (c :: BW)) := by
  intro w hw
  rcases List.mem_append.mp hw with e | e
  · simp only [List.mem_cons, List.not_mem_nil, or_false] at e
    rcases e with e | e | e | e <;> rw [e]
    · exact BW_in _ h1
    · exact BW_in _ h2
    · exact BW_in _ h3
    · exact BW_in _ h4
  · exact gB h w e
theorem gS {own : String} {idx : Nat} {y : MethodName} {c : Cond} (h1 : .methodLink own idx y ∈ BW) (h2 : .static y ∈ BW) (h4 : .initialized own ∈ BW) (h : c ∈ BW) : GoodIn BW (wsS own idx y (c :: BW)) := by
  intro w hw
  rcases List.mem_append.mp hw with e | e
  · simp only [List.mem_cons, List.not_mem_nil, or_false] at e
    rcases e with e | e | e <;> rw [e]
    · exact BW_in _ h1
    · exact BW_in _ h2
    · exact BW_in _ h4
  · exact gB h w e
def RX0 : String := "AddressBook"
def TX0 : u_T := fun k => match k with
  | 0 => ("AddressBook", "places", "LAddressBook$Places;", true)
  | 1 => ("AddressBook", "streets", "LAddressBook$Streets;", true)
  | 2 => ("AddressBook", "ranges", "LAddressBook$Ranges;", true)
  | 3 => ("AddressBook", "points", "LAddressBook$Points;", true)
  | 4 => ("AddressBook", "stays", "LAddressBook$Stays;", true)
  | 5 => ("AddressBook", "taken", "[Z", true)
  | _ => ("AddressBook", "today", "I", false)
def tyX0 : Nat → FieldType := fun k => match k with
  | 0 => .object "AddressBook$Places"
  | 1 => .object "AddressBook$Streets"
  | 2 => .object "AddressBook$Ranges"
  | 3 => .object "AddressBook$Points"
  | 4 => .object "AddressBook$Stays"
  | 5 => .array .boolean
  | _ => .int
abbrev wsX00 : List Cond := u_ws RX0 TX0 7
theorem nmX0 : ∀ a, a < 7 → ∀ b, b < 7 → a ≠ b → (TX0 a).2.1 ≠ (TX0 b).2.1 := by decide +kernel
theorem tyX0_ok : ∀ k, k < 7 → parseFieldDescriptor (TX0 k).2.2.1 = some (tyX0 k) := by decide +kernel
theorem inX0 : ∀ w ∈ wsX00, w ∈ BW := by decide +kernel
def RX1 : String := "AddressBook$Places"
def TX1 : u_T := fun k => match k with
  | 0 => ("AddressBook$Places", "code", "[I", true)
  | _ => ("AddressBook$Places", "size", "I", false)
def tyX1 : Nat → FieldType := fun k => match k with
  | 0 => .array .int
  | _ => .int
abbrev wsX10 : List Cond := u_ws RX1 TX1 2
theorem nmX1 : ∀ a, a < 2 → ∀ b, b < 2 → a ≠ b → (TX1 a).2.1 ≠ (TX1 b).2.1 := by decide +kernel
theorem tyX1_ok : ∀ k, k < 2 → parseFieldDescriptor (TX1 k).2.2.1 = some (tyX1 k) := by decide +kernel
theorem inX1 : ∀ w ∈ wsX10, w ∈ BW := by decide +kernel
def RX2 : String := "AddressBook$Streets"
def TX2 : u_T := fun k => match k with
  | 0 => ("AddressBook$Streets", "place", "[I", true)
  | 1 => ("AddressBook$Streets", "name", "[I", true)
  | 2 => ("AddressBook$Streets", "gone", "[Z", true)
  | 3 => ("AddressBook$Streets", "into", "[I", true)
  | 4 => ("AddressBook$Streets", "since", "[I", true)
  | _ => ("AddressBook$Streets", "size", "I", false)
def tyX2 : Nat → FieldType := fun k => match k with
  | 0 => .array .int
  | 1 => .array .int
  | 2 => .array .boolean
  | 3 => .array .int
  | 4 => .array .int
  | _ => .int
abbrev wsX20 : List Cond := u_ws RX2 TX2 6
theorem nmX2 : ∀ a, a < 6 → ∀ b, b < 6 → a ≠ b → (TX2 a).2.1 ≠ (TX2 b).2.1 := by decide +kernel
theorem tyX2_ok : ∀ k, k < 6 → parseFieldDescriptor (TX2 k).2.2.1 = some (tyX2 k) := by decide +kernel
theorem inX2 : ∀ w ∈ wsX20, w ∈ BW := by decide +kernel
def RX3 : String := "AddressBook$Ranges"
def TX3 : u_T := fun k => match k with
  | 0 => ("AddressBook$Ranges", "street", "[I", true)
  | 1 => ("AddressBook$Ranges", "side", "[I", true)
  | 2 => ("AddressBook$Ranges", "lowest", "[I", true)
  | 3 => ("AddressBook$Ranges", "highest", "[I", true)
  | 4 => ("AddressBook$Ranges", "live", "[Z", true)
  | _ => ("AddressBook$Ranges", "size", "I", false)
def tyX3 : Nat → FieldType := fun k => match k with
  | 0 => .array .int
  | 1 => .array .int
  | 2 => .array .int
  | 3 => .array .int
  | 4 => .array .boolean
  | _ => .int
abbrev wsX30 : List Cond := u_ws RX3 TX3 6
theorem nmX3 : ∀ a, a < 6 → ∀ b, b < 6 → a ≠ b → (TX3 a).2.1 ≠ (TX3 b).2.1 := by decide +kernel
theorem tyX3_ok : ∀ k, k < 6 → parseFieldDescriptor (TX3 k).2.2.1 = some (tyX3 k) := by decide +kernel
theorem inX3 : ∀ w ∈ wsX30, w ∈ BW := by decide +kernel
def RX4 : String := "AddressBook$Points"
def TX4 : u_T := fun k => match k with
  | 0 => ("AddressBook$Points", "range", "[I", true)
  | 1 => ("AddressBook$Points", "firstStreet", "[I", true)
  | 2 => ("AddressBook$Points", "extra", "[I", true)
  | 3 => ("AddressBook$Points", "stay", "[I", true)
  | 4 => ("AddressBook$Points", "live", "[Z", true)
  | _ => ("AddressBook$Points", "size", "I", false)
def tyX4 : Nat → FieldType := fun k => match k with
  | 0 => .array .int
  | 1 => .array .int
  | 2 => .array .int
  | 3 => .array .int
  | 4 => .array .boolean
  | _ => .int
abbrev wsX40 : List Cond := u_ws RX4 TX4 6
theorem nmX4 : ∀ a, a < 6 → ∀ b, b < 6 → a ≠ b → (TX4 a).2.1 ≠ (TX4 b).2.1 := by decide +kernel
theorem tyX4_ok : ∀ k, k < 6 → parseFieldDescriptor (TX4 k).2.2.1 = some (tyX4 k) := by decide +kernel
theorem inX4 : ∀ w ∈ wsX40, w ∈ BW := by decide +kernel
def RX5 : String := "AddressBook$Stays"
def TX5 : u_T := fun k => match k with
  | 0 => ("AddressBook$Stays", "point", "[I", true)
  | 1 => ("AddressBook$Stays", "house", "[I", true)
  | 2 => ("AddressBook$Stays", "from", "[I", true)
  | 3 => ("AddressBook$Stays", "till", "[I", true)
  | 4 => ("AddressBook$Stays", "left", "[Z", true)
  | _ => ("AddressBook$Stays", "size", "I", false)
def tyX5 : Nat → FieldType := fun k => match k with
  | 0 => .array .int
  | 1 => .array .int
  | 2 => .array .int
  | 3 => .array .int
  | 4 => .array .boolean
  | _ => .int
abbrev wsX50 : List Cond := u_ws RX5 TX5 6
theorem nmX5 : ∀ a, a < 6 → ∀ b, b < 6 → a ≠ b → (TX5 a).2.1 ≠ (TX5 b).2.1 := by decide +kernel
theorem tyX5_ok : ∀ k, k < 6 → parseFieldDescriptor (TX5 k).2.2.1 = some (tyX5 k) := by decide +kernel
theorem inX5 : ∀ w ∈ wsX50, w ∈ BW := by decide +kernel
def RX6 : String := "AddressBookModel"
def TX6 : u_T := fun k => match k with
  | 0 => ("AddressBookModel", "day", "I", false)
  | 1 => ("AddressBookModel", "places", "I", false)
  | 2 => ("AddressBookModel", "codes", "[I", true)
  | 3 => ("AddressBookModel", "streets", "I", false)
  | 4 => ("AddressBookModel", "placeOf", "[I", true)
  | 5 => ("AddressBookModel", "streetNames", "[I", true)
  | 6 => ("AddressBookModel", "into", "[I", true)
  | 7 => ("AddressBookModel", "goneDay", "[I", true)
  | 8 => ("AddressBookModel", "ranges", "I", false)
  | 9 => ("AddressBookModel", "streetOf", "[I", true)
  | 10 => ("AddressBookModel", "sides", "[I", true)
  | 11 => ("AddressBookModel", "lows", "[I", true)
  | 12 => ("AddressBookModel", "highs", "[I", true)
  | 13 => ("AddressBookModel", "isOpen", "[Z", true)
  | 14 => ("AddressBookModel", "points", "I", false)
  | 15 => ("AddressBookModel", "rangeOf", "[I", true)
  | 16 => ("AddressBookModel", "extras", "[I", true)
  | 17 => ("AddressBookModel", "lives", "[Z", true)
  | 18 => ("AddressBookModel", "stays", "I", false)
  | 19 => ("AddressBookModel", "stayPoint", "[I", true)
  | 20 => ("AddressBookModel", "stayStreet", "[I", true)
  | 21 => ("AddressBookModel", "stayHouse", "[I", true)
  | 22 => ("AddressBookModel", "stayFrom", "[I", true)
  | 23 => ("AddressBookModel", "stayTo", "[I", true)
  | _ => ("AddressBookModel", "movedOn", "[Z", true)
def tyX6 : Nat → FieldType := fun k => match k with
  | 0 => .int
  | 1 => .int
  | 2 => .array .int
  | 3 => .int
  | 4 => .array .int
  | 5 => .array .int
  | 6 => .array .int
  | 7 => .array .int
  | 8 => .int
  | 9 => .array .int
  | 10 => .array .int
  | 11 => .array .int
  | 12 => .array .int
  | 13 => .array .boolean
  | 14 => .int
  | 15 => .array .int
  | 16 => .array .int
  | 17 => .array .boolean
  | 18 => .int
  | 19 => .array .int
  | 20 => .array .int
  | 21 => .array .int
  | 22 => .array .int
  | 23 => .array .int
  | _ => .array .boolean
abbrev wsX60 : List Cond := u_ws RX6 TX6 25
theorem nmX6 : ∀ a, a < 25 → ∀ b, b < 25 → a ≠ b → (TX6 a).2.1 ≠ (TX6 b).2.1 := by decide +kernel
theorem tyX6_ok : ∀ k, k < 25 → parseFieldDescriptor (TX6 k).2.2.1 = some (tyX6 k) := by decide +kernel
theorem inX6 : ∀ w ∈ wsX60, w ∈ BW := by decide +kernel
abbrev cX1_init : ByteArray := prog_2_method_1_code
def yX1_init : MethodName := ⟨RX1, "<init>", "()V"⟩
abbrev wsX1_init : List Cond := .code yX1_init cX1_init 1 (none : Option Jvm.ClassFile.FieldType) :: BW
abbrev cX1_has : ByteArray := prog_2_method_2_code
def yX1_has : MethodName := ⟨RX1, "has", "(I)Z"⟩
abbrev wsX1_has : List Cond := .code yX1_has cX1_has 2 (some .boolean) :: BW
abbrev cX1_isFull : ByteArray := prog_2_method_3_code
def yX1_isFull : MethodName := ⟨RX1, "isFull", "()Z"⟩
abbrev wsX1_isFull : List Cond := .code yX1_isFull cX1_isFull 1 (some .boolean) :: BW
abbrev cX1_withCode : ByteArray := prog_2_method_4_code
def yX1_withCode : MethodName := ⟨RX1, "withCode", "(I)I"⟩
abbrev wsX1_withCode : List Cond := .code yX1_withCode cX1_withCode 3 (some .int) :: BW
abbrev cX1_add : ByteArray := prog_2_method_5_code
def yX1_add : MethodName := ⟨RX1, "add", "(I)I"⟩
abbrev wsX1_add : List Cond := .code yX1_add cX1_add 2 (some .int) :: BW
abbrev cX2_init : ByteArray := prog_6_method_1_code
def yX2_init : MethodName := ⟨RX2, "<init>", "()V"⟩
abbrev wsX2_init : List Cond := .code yX2_init cX2_init 1 (none : Option Jvm.ClassFile.FieldType) :: BW
abbrev cX2_has : ByteArray := prog_6_method_2_code
def yX2_has : MethodName := ⟨RX2, "has", "(I)Z"⟩
abbrev wsX2_has : List Cond := .code yX2_has cX2_has 2 (some .boolean) :: BW
abbrev cX2_isFull : ByteArray := prog_6_method_3_code
def yX2_isFull : MethodName := ⟨RX2, "isFull", "()Z"⟩
abbrev wsX2_isFull : List Cond := .code yX2_isFull cX2_isFull 1 (some .boolean) :: BW
abbrev cX2_named : ByteArray := prog_6_method_4_code
def yX2_named : MethodName := ⟨RX2, "named", "(II)I"⟩
abbrev wsX2_named : List Cond := .code yX2_named cX2_named 4 (some .int) :: BW
abbrev cX2_add : ByteArray := prog_6_method_5_code
def yX2_add : MethodName := ⟨RX2, "add", "(II)I"⟩
abbrev wsX2_add : List Cond := .code yX2_add cX2_add 3 (some .int) :: BW
abbrev cX2_isGone : ByteArray := prog_6_method_6_code
def yX2_isGone : MethodName := ⟨RX2, "isGone", "(I)Z"⟩
abbrev wsX2_isGone : List Cond := .code yX2_isGone cX2_isGone 2 (some .boolean) :: BW
abbrev cX2_goInto : ByteArray := prog_6_method_7_code
def yX2_goInto : MethodName := ⟨RX2, "goInto", "(III)V"⟩
abbrev wsX2_goInto : List Cond := .code yX2_goInto cX2_goInto 4 (none : Option Jvm.ClassFile.FieldType) :: BW
abbrev cX2_meaning : ByteArray := prog_6_method_8_code
def yX2_meaning : MethodName := ⟨RX2, "meaning", "(II)I"⟩
abbrev wsX2_meaning : List Cond := .code yX2_meaning cX2_meaning 5 (some .int) :: BW
abbrev cX3_init : ByteArray := prog_4_method_1_code
def yX3_init : MethodName := ⟨RX3, "<init>", "()V"⟩
abbrev wsX3_init : List Cond := .code yX3_init cX3_init 1 (none : Option Jvm.ClassFile.FieldType) :: BW
abbrev cX3_has : ByteArray := prog_4_method_2_code
def yX3_has : MethodName := ⟨RX3, "has", "(I)Z"⟩
abbrev wsX3_has : List Cond := .code yX3_has cX3_has 2 (some .boolean) :: BW
abbrev cX3_hasRoomFor : ByteArray := prog_4_method_3_code
def yX3_hasRoomFor : MethodName := ⟨RX3, "hasRoomFor", "(I)Z"⟩
abbrev wsX3_hasRoomFor : List Cond := .code yX3_hasRoomFor cX3_hasRoomFor 2 (some .boolean) :: BW
abbrev cX0_isOdd : ByteArray := prog_1_method_38_code
def yX0_isOdd : MethodName := ⟨RX0, "isOdd", "(I)Z"⟩
abbrev wsX0_isOdd : List Cond := .code yX0_isOdd cX0_isOdd 1 (some .boolean) :: BW
abbrev cX0_isOfSide : ByteArray := prog_1_method_39_code
def yX0_isOfSide : MethodName := ⟨RX0, "isOfSide", "(II)Z"⟩
abbrev wsX0_isOfSide : List Cond := .code yX0_isOfSide cX0_isOfSide 2 (some .boolean) :: BW
abbrev cX0_lowestOf : ByteArray := prog_1_method_40_code
def yX0_lowestOf : MethodName := ⟨RX0, "lowestOf", "(II)I"⟩
abbrev wsX0_lowestOf : List Cond := .code yX0_lowestOf cX0_lowestOf 2 (some .int) :: BW
abbrev cX0_highestOf : ByteArray := prog_1_method_41_code
def yX0_highestOf : MethodName := ⟨RX0, "highestOf", "(II)I"⟩
abbrev wsX0_highestOf : List Cond := .code yX0_highestOf cX0_highestOf 2 (some .int) :: BW
abbrev cX3_add : ByteArray := prog_4_method_4_code
def yX3_add : MethodName := ⟨RX3, "add", "(IIII)I"⟩
abbrev wsX3_add : List Cond := .code yX3_add cX3_add 5 (some .int) :: BW
abbrev cX0_isWithin : ByteArray := prog_1_method_37_code
def yX0_isWithin : MethodName := ⟨RX0, "isWithin", "(III)Z"⟩
abbrev wsX0_isWithin : List Cond := .code yX0_isWithin cX0_isWithin 3 (some .boolean) :: BW
abbrev cX3_holds : ByteArray := prog_4_method_5_code
def yX3_holds : MethodName := ⟨RX3, "holds", "(II)Z"⟩
abbrev wsX3_holds : List Cond := .code yX3_holds cX3_holds 3 (some .boolean) :: BW
abbrev cX3_isLiveOf : ByteArray := prog_4_method_6_code
def yX3_isLiveOf : MethodName := ⟨RX3, "isLiveOf", "(II)Z"⟩
abbrev wsX3_isLiveOf : List Cond := .code yX3_isLiveOf cX3_isLiveOf 3 (some .boolean) :: BW
abbrev cX3_anyLiveOf : ByteArray := prog_4_method_7_code
def yX3_anyLiveOf : MethodName := ⟨RX3, "anyLiveOf", "(I)Z"⟩
abbrev wsX3_anyLiveOf : List Cond := .code yX3_anyLiveOf cX3_anyLiveOf 3 (some .boolean) :: BW
abbrev cX3_isOver : ByteArray := prog_4_method_10_code
def yX3_isOver : MethodName := ⟨RX3, "isOver", "(IIII)Z"⟩
abbrev wsX3_isOver : List Cond := .code yX3_isOver cX3_isOver 6 (some .boolean) :: BW
abbrev cX3_leastOver : ByteArray := prog_4_method_8_code
def yX3_leastOver : MethodName := ⟨RX3, "leastOver", "(IIII)I"⟩
abbrev wsX3_leastOver : List Cond := .code yX3_leastOver cX3_leastOver 6 (some .int) :: BW
abbrev cX3_leastOverAnyOf : ByteArray := prog_4_method_9_code
def yX3_leastOverAnyOf : MethodName := ⟨RX3, "leastOverAnyOf", "(II)I"⟩
abbrev wsX3_leastOverAnyOf : List Cond := .code yX3_leastOverAnyOf cX3_leastOverAnyOf 4 (some .int) :: BW
abbrev cX3_housesOf : ByteArray := prog_4_method_11_code
def yX3_housesOf : MethodName := ⟨RX3, "housesOf", "(I)I"⟩
abbrev wsX3_housesOf : List Cond := .code yX3_housesOf cX3_housesOf 5 (some .int) :: BW
abbrev cX3_moveLive : ByteArray := prog_4_method_12_code
def yX3_moveLive : MethodName := ⟨RX3, "moveLive", "(II)V"⟩
abbrev wsX3_moveLive : List Cond := .code yX3_moveLive cX3_moveLive 4 (none : Option Jvm.ClassFile.FieldType) :: BW
abbrev cX4_init : ByteArray := prog_3_method_1_code
def yX4_init : MethodName := ⟨RX4, "<init>", "()V"⟩
abbrev wsX4_init : List Cond := .code yX4_init cX4_init 1 (none : Option Jvm.ClassFile.FieldType) :: BW
abbrev cX4_has : ByteArray := prog_3_method_2_code
def yX4_has : MethodName := ⟨RX4, "has", "(I)Z"⟩
abbrev wsX4_has : List Cond := .code yX4_has cX4_has 2 (some .boolean) :: BW
abbrev cX4_isFull : ByteArray := prog_3_method_3_code
def yX4_isFull : MethodName := ⟨RX4, "isFull", "()Z"⟩
abbrev wsX4_isFull : List Cond := .code yX4_isFull cX4_isFull 1 (some .boolean) :: BW
abbrev cX4_add : ByteArray := prog_3_method_4_code
def yX4_add : MethodName := ⟨RX4, "add", "(III)I"⟩
abbrev wsX4_add : List Cond := .code yX4_add cX4_add 4 (some .int) :: BW
abbrev cX5_init : ByteArray := prog_5_method_1_code
def yX5_init : MethodName := ⟨RX5, "<init>", "()V"⟩
abbrev wsX5_init : List Cond := .code yX5_init cX5_init 1 (none : Option Jvm.ClassFile.FieldType) :: BW
abbrev cX5_isFull : ByteArray := prog_5_method_2_code
def yX5_isFull : MethodName := ⟨RX5, "isFull", "()Z"⟩
abbrev wsX5_isFull : List Cond := .code yX5_isFull cX5_isFull 1 (some .boolean) :: BW
abbrev cX5_begin : ByteArray := prog_5_method_3_code
def yX5_begin : MethodName := ⟨RX5, "begin", "(III)I"⟩
abbrev wsX5_begin : List Cond := .code yX5_begin cX5_begin 4 (some .int) :: BW
abbrev cX5_end : ByteArray := prog_5_method_4_code
def yX5_end : MethodName := ⟨RX5, "end", "(II)V"⟩
abbrev wsX5_end : List Cond := .code yX5_end cX5_end 3 (none : Option Jvm.ClassFile.FieldType) :: BW
abbrev cX5_holdsOn : ByteArray := prog_5_method_5_code
def yX5_holdsOn : MethodName := ⟨RX5, "holdsOn", "(II)Z"⟩
abbrev wsX5_holdsOn : List Cond := .code yX5_holdsOn cX5_holdsOn 3 (some .boolean) :: BW
abbrev cX5_ofPointOn : ByteArray := prog_5_method_6_code
def yX5_ofPointOn : MethodName := ⟨RX5, "ofPointOn", "(II)I"⟩
abbrev wsX5_ofPointOn : List Cond := .code yX5_ofPointOn cX5_ofPointOn 4 (some .int) :: BW
abbrev cX5_isLeftShortlyBefore : ByteArray := prog_5_method_7_code
def yX5_isLeftShortlyBefore : MethodName := ⟨RX5, "isLeftShortlyBefore", "(II)Z"⟩
abbrev wsX5_isLeftShortlyBefore : List Cond := .code yX5_isLeftShortlyBefore cX5_isLeftShortlyBefore 3 (some .boolean) :: BW
abbrev cX5_isLeftLater : ByteArray := prog_5_method_8_code
def yX5_isLeftLater : MethodName := ⟨RX5, "isLeftLater", "(II)Z"⟩
abbrev wsX5_isLeftLater : List Cond := .code yX5_isLeftLater cX5_isLeftLater 3 (some .boolean) :: BW
abbrev cX0_init : ByteArray := prog_1_method_1_code
def yX0_init : MethodName := ⟨RX0, "<init>", "()V"⟩
abbrev wsX0_init : List Cond := .code yX0_init cX0_init 1 (none : Option Jvm.ClassFile.FieldType) :: BW
abbrev cX0_isName : ByteArray := prog_1_method_34_code
def yX0_isName : MethodName := ⟨RX0, "isName", "(I)Z"⟩
abbrev wsX0_isName : List Cond := .code yX0_isName cX0_isName 1 (some .boolean) :: BW
abbrev cX0_place : ByteArray := prog_1_method_2_code
def yX0_place : MethodName := ⟨RX0, "place", "(II)I"⟩
abbrev wsX0_place : List Cond := .code yX0_place cX0_place 3 (some .int) :: BW
abbrev cX0_street : ByteArray := prog_1_method_3_code
def yX0_street : MethodName := ⟨RX0, "street", "(II)I"⟩
abbrev wsX0_street : List Cond := .code yX0_street cX0_street 3 (some .int) :: BW
abbrev cX0_find : ByteArray := prog_1_method_4_code
def yX0_find : MethodName := ⟨RX0, "find", "(II)I"⟩
abbrev wsX0_find : List Cond := .code yX0_find cX0_find 4 (some .int) :: BW
abbrev cX0_isHouse : ByteArray := prog_1_method_35_code
def yX0_isHouse : MethodName := ⟨RX0, "isHouse", "(I)Z"⟩
abbrev wsX0_isHouse : List Cond := .code yX0_isHouse cX0_isHouse 1 (some .boolean) :: BW
abbrev cX0_isTodayOrLater : ByteArray := prog_1_method_32_code
def yX0_isTodayOrLater : MethodName := ⟨RX0, "isTodayOrLater", "(I)Z"⟩
abbrev wsX0_isTodayOrLater : List Cond := .code yX0_isTodayOrLater cX0_isTodayOrLater 2 (some .boolean) :: BW
abbrev cX0_range : ByteArray := prog_1_method_5_code
def yX0_range : MethodName := ⟨RX0, "range", "(IIIII)I"⟩
abbrev wsX0_range : List Cond := .code yX0_range cX0_range 7 (some .int) :: BW
abbrev cX0_isExtra : ByteArray := prog_1_method_36_code
def yX0_isExtra : MethodName := ⟨RX0, "isExtra", "(I)Z"⟩
abbrev wsX0_isExtra : List Cond := .code yX0_isExtra cX0_isExtra 1 (some .boolean) :: BW
abbrev cX0_houseNow : ByteArray := prog_1_method_22_code
def yX0_houseNow : MethodName := ⟨RX0, "houseNow", "(I)I"⟩
abbrev wsX0_houseNow : List Cond := .code yX0_houseNow cX0_houseNow 2 (some .int) :: BW
abbrev cX0_isTaken : ByteArray := prog_1_method_23_code
def yX0_isTaken : MethodName := ⟨RX0, "isTaken", "(III)Z"⟩
abbrev wsX0_isTaken : List Cond := .code yX0_isTaken cX0_isTaken 5 (some .boolean) :: BW
abbrev cX0_point : ByteArray := prog_1_method_6_code
def yX0_point : MethodName := ⟨RX0, "point", "(III)I"⟩
abbrev wsX0_point : List Cond := .code yX0_point cX0_point 5 (some .int) :: BW
abbrev cX0_end : ByteArray := prog_1_method_21_code
def yX0_end : MethodName := ⟨RX0, "end", "(II)V"⟩
abbrev wsX0_end : List Cond := .code yX0_end cX0_end 3 (none : Option Jvm.ClassFile.FieldType) :: BW
abbrev cX0_close : ByteArray := prog_1_method_15_code
def yX0_close : MethodName := ⟨RX0, "close", "(II)I"⟩
abbrev wsX0_close : List Cond := .code yX0_close cX0_close 5 (some .int) :: BW
abbrev cX0_giveToParts : ByteArray := prog_1_method_17_code
def yX0_giveToParts : MethodName := ⟨RX0, "giveToParts", "(III)I"⟩
abbrev wsX0_giveToParts : List Cond := .code yX0_giveToParts cX0_giveToParts 6 (some .int) :: BW
abbrev cX0_split : ByteArray := prog_1_method_16_code
def yX0_split : MethodName := ⟨RX0, "split", "(III)I"⟩
abbrev wsX0_split : List Cond := .code yX0_split cX0_split 8 (some .int) :: BW
abbrev cX0_isLiveOf : ByteArray := prog_1_method_24_code
def yX0_isLiveOf : MethodName := ⟨RX0, "isLiveOf", "(II)Z"⟩
abbrev wsX0_isLiveOf : List Cond := .code yX0_isLiveOf cX0_isLiveOf 3 (some .boolean) :: BW
abbrev cX0_howManyLiveOf : ByteArray := prog_1_method_25_code
def yX0_howManyLiveOf : MethodName := ⟨RX0, "howManyLiveOf", "(I)I"⟩
abbrev wsX0_howManyLiveOf : List Cond := .code yX0_howManyLiveOf cX0_howManyLiveOf 4 (some .int) :: BW
abbrev cX0_join : ByteArray := prog_1_method_18_code
def yX0_join : MethodName := ⟨RX0, "join", "(III)I"⟩
abbrev wsX0_join : List Cond := .code yX0_join cX0_join 6 (some .int) :: BW
abbrev cX0_renumber : ByteArray := prog_1_method_19_code
def yX0_renumber : MethodName := ⟨RX0, "renumber", "(III)I"⟩
abbrev wsX0_renumber : List Cond := .code yX0_renumber cX0_renumber 5 (some .int) :: BW
abbrev cX0_remove : ByteArray := prog_1_method_20_code
def yX0_remove : MethodName := ⟨RX0, "remove", "(II)I"⟩
abbrev wsX0_remove : List Cond := .code yX0_remove cX0_remove 3 (some .int) :: BW
abbrev cX0_change : ByteArray := prog_1_method_7_code
def yX0_change : MethodName := ⟨RX0, "change", "(IIII)I"⟩
abbrev wsX0_change : List Cond := .code yX0_change cX0_change 5 (some .int) :: BW
abbrev cX0_alias : ByteArray := prog_1_method_8_code
def yX0_alias : MethodName := ⟨RX0, "alias", "(III)I"⟩
abbrev wsX0_alias : List Cond := .code yX0_alias cX0_alias 4 (some .int) :: BW
abbrev cX0_isDay : ByteArray := prog_1_method_33_code
def yX0_isDay : MethodName := ⟨RX0, "isDay", "(I)Z"⟩
abbrev wsX0_isDay : List Cond := .code yX0_isDay cX0_isDay 1 (some .boolean) :: BW
abbrev cX0_isStayAt : ByteArray := prog_1_method_28_code
def yX0_isStayAt : MethodName := ⟨RX0, "isStayAt", "(IIIII)Z"⟩
abbrev wsX0_isStayAt : List Cond := .code yX0_isStayAt cX0_isStayAt 7 (some .boolean) :: BW
abbrev cX0_lyingAt : ByteArray := prog_1_method_26_code
def yX0_lyingAt : MethodName := ⟨RX0, "lyingAt", "(IIII)I"⟩
abbrev wsX0_lyingAt : List Cond := .code yX0_lyingAt cX0_lyingAt 6 (some .int) :: BW
abbrev cX0_lastToLeave : ByteArray := prog_1_method_27_code
def yX0_lastToLeave : MethodName := ⟨RX0, "lastToLeave", "(IIII)I"⟩
abbrev wsX0_lastToLeave : List Cond := .code yX0_lastToLeave cX0_lastToLeave 7 (some .int) :: BW
abbrev cX0_at : ByteArray := prog_1_method_9_code
def yX0_at : MethodName := ⟨RX0, "at", "(IIII)I"⟩
abbrev wsX0_at : List Cond := .code yX0_at cX0_at 7 (some .int) :: BW
abbrev cX0_isNearer : ByteArray := prog_1_method_29_code
def yX0_isNearer : MethodName := ⟨RX0, "isNearer", "(III)Z"⟩
abbrev wsX0_isNearer : List Cond := .code yX0_isNearer cX0_isNearer 6 (some .boolean) :: BW
abbrev cX0_near : ByteArray := prog_1_method_10_code
def yX0_near : MethodName := ⟨RX0, "near", "(II)I"⟩
abbrev wsX0_near : List Cond := .code yX0_near cX0_near 6 (some .int) :: BW
abbrev cX0_isEarlierOnRound : ByteArray := prog_1_method_30_code
def yX0_isEarlierOnRound : MethodName := ⟨RX0, "isEarlierOnRound", "(II)Z"⟩
abbrev wsX0_isEarlierOnRound : List Cond := .code yX0_isEarlierOnRound cX0_isEarlierOnRound 5 (some .boolean) :: BW
abbrev cX0_order : ByteArray := prog_1_method_11_code
def yX0_order : MethodName := ⟨RX0, "order", "(I)I"⟩
abbrev wsX0_order : List Cond := .code yX0_order cX0_order 5 (some .int) :: BW
abbrev cX0_housesWithPoint : ByteArray := prog_1_method_31_code
def yX0_housesWithPoint : MethodName := ⟨RX0, "housesWithPoint", "(I)I"⟩
abbrev wsX0_housesWithPoint : List Cond := .code yX0_housesWithPoint cX0_housesWithPoint 4 (some .int) :: BW
abbrev cX0_holes : ByteArray := prog_1_method_12_code
def yX0_holes : MethodName := ⟨RX0, "holes", "(I)I"⟩
abbrev wsX0_holes : List Cond := .code yX0_holes cX0_holes 3 (some .int) :: BW
abbrev cX0_where : ByteArray := prog_1_method_13_code
def yX0_where : MethodName := ⟨RX0, "where", "(III)I"⟩
abbrev wsX0_where : List Cond := .code yX0_where cX0_where 5 (some .int) :: BW
abbrev cX0_howManyTrue : ByteArray := prog_1_method_42_code
def yX0_howManyTrue : MethodName := ⟨RX0, "howManyTrue", "([Z)I"⟩
abbrev wsX0_howManyTrue : List Cond := .code yX0_howManyTrue cX0_howManyTrue 3 (some .int) :: BW
abbrev cX0_count : ByteArray := prog_1_method_14_code
def yX0_count : MethodName := ⟨RX0, "count", "(I)I"⟩
abbrev wsX0_count : List Cond := .code yX0_count cX0_count 2 (some .int) :: BW
abbrev cX6_init : ByteArray := prog_8_method_1_code
def yX6_init : MethodName := ⟨RX6, "<init>", "()V"⟩
abbrev wsX6_init : List Cond := .code yX6_init cX6_init 1 (none : Option Jvm.ClassFile.FieldType) :: BW
abbrev cX6_in : ByteArray := prog_8_method_3_code
def yX6_in : MethodName := ⟨RX6, "in", "(III)Z"⟩
abbrev wsX6_in : List Cond := .code yX6_in cX6_in 3 (some .boolean) :: BW
abbrev cX6_isDay : ByteArray := prog_8_method_4_code
def yX6_isDay : MethodName := ⟨RX6, "isDay", "(I)Z"⟩
abbrev wsX6_isDay : List Cond := .code yX6_isDay cX6_isDay 2 (some .boolean) :: BW
abbrev cX6_placeWith : ByteArray := prog_8_method_6_code
def yX6_placeWith : MethodName := ⟨RX6, "placeWith", "(I)I"⟩
abbrev wsX6_placeWith : List Cond := .code yX6_placeWith cX6_placeWith 3 (some .int) :: BW
abbrev cX6_place : ByteArray := prog_8_method_5_code
def yX6_place : MethodName := ⟨RX6, "place", "(II)I"⟩
abbrev wsX6_place : List Cond := .code yX6_place cX6_place 3 (some .int) :: BW
abbrev cX6_streetWith : ByteArray := prog_8_method_7_code
def yX6_streetWith : MethodName := ⟨RX6, "streetWith", "(II)I"⟩
abbrev wsX6_streetWith : List Cond := .code yX6_streetWith cX6_streetWith 4 (some .int) :: BW
abbrev cX6_street : ByteArray := prog_8_method_8_code
def yX6_street : MethodName := ⟨RX6, "street", "(II)I"⟩
abbrev wsX6_street : List Cond := .code yX6_street cX6_street 3 (some .int) :: BW
abbrev cX6_find : ByteArray := prog_8_method_9_code
def yX6_find : MethodName := ⟨RX6, "find", "(II)I"⟩
abbrev wsX6_find : List Cond := .code yX6_find cX6_find 4 (some .int) :: BW
abbrev cX6_isStreet : ByteArray := prog_8_method_10_code
def yX6_isStreet : MethodName := ⟨RX6, "isStreet", "(I)Z"⟩
abbrev wsX6_isStreet : List Cond := .code yX6_isStreet cX6_isStreet 2 (some .boolean) :: BW
abbrev cX6_meant : ByteArray := prog_8_method_11_code
def yX6_meant : MethodName := ⟨RX6, "meant", "(II)I"⟩
abbrev wsX6_meant : List Cond := .code yX6_meant cX6_meant 4 (some .int) :: BW
abbrev cX6_isOfSide : ByteArray := prog_8_method_12_code
def yX6_isOfSide : MethodName := ⟨RX6, "isOfSide", "(II)Z"⟩
abbrev wsX6_isOfSide : List Cond := .code yX6_isOfSide cX6_isOfSide 2 (some .boolean) :: BW
abbrev cX6_has : ByteArray := prog_8_method_13_code
def yX6_has : MethodName := ⟨RX6, "has", "(II)Z"⟩
abbrev wsX6_has : List Cond := .code yX6_has cX6_has 3 (some .boolean) :: BW
abbrev cX6_lowest : ByteArray := prog_8_method_14_code
def yX6_lowest : MethodName := ⟨RX6, "lowest", "(I)I"⟩
abbrev wsX6_lowest : List Cond := .code yX6_lowest cX6_lowest 2 (some .int) :: BW
abbrev cX6_highest : ByteArray := prog_8_method_15_code
def yX6_highest : MethodName := ⟨RX6, "highest", "(I)I"⟩
abbrev wsX6_highest : List Cond := .code yX6_highest cX6_highest 2 (some .int) :: BW
abbrev cX6_isOver : ByteArray := prog_8_method_16_code
def yX6_isOver : MethodName := ⟨RX6, "isOver", "(IIII)Z"⟩
abbrev wsX6_isOver : List Cond := .code yX6_isOver cX6_isOver 6 (some .boolean) :: BW
abbrev cX6_isRange : ByteArray := prog_8_method_17_code
def yX6_isRange : MethodName := ⟨RX6, "isRange", "(I)Z"⟩
abbrev wsX6_isRange : List Cond := .code yX6_isRange cX6_isRange 2 (some .boolean) :: BW
abbrev cX6_addRange : ByteArray := prog_8_method_18_code
def yX6_addRange : MethodName := ⟨RX6, "addRange", "(IIII)V"⟩
abbrev wsX6_addRange : List Cond := .code yX6_addRange cX6_addRange 5 (none : Option Jvm.ClassFile.FieldType) :: BW
abbrev cX6_range : ByteArray := prog_8_method_19_code
def yX6_range : MethodName := ⟨RX6, "range", "(IIIII)I"⟩
abbrev wsX6_range : List Cond := .code yX6_range cX6_range 8 (some .int) :: BW
abbrev cX6_isPoint : ByteArray := prog_8_method_20_code
def yX6_isPoint : MethodName := ⟨RX6, "isPoint", "(I)Z"⟩
abbrev wsX6_isPoint : List Cond := .code yX6_isPoint cX6_isPoint 2 (some .boolean) :: BW
abbrev cX6_stayOf : ByteArray := prog_8_method_21_code
def yX6_stayOf : MethodName := ⟨RX6, "stayOf", "(I)I"⟩
abbrev wsX6_stayOf : List Cond := .code yX6_stayOf cX6_stayOf 3 (some .int) :: BW
abbrev cX6_houseOf : ByteArray := prog_8_method_22_code
def yX6_houseOf : MethodName := ⟨RX6, "houseOf", "(I)I"⟩
abbrev wsX6_houseOf : List Cond := .code yX6_houseOf cX6_houseOf 2 (some .int) :: BW
abbrev cX6_stay : ByteArray := prog_8_method_23_code
def yX6_stay : MethodName := ⟨RX6, "stay", "(III)V"⟩
abbrev wsX6_stay : List Cond := .code yX6_stay cX6_stay 4 (none : Option Jvm.ClassFile.FieldType) :: BW
abbrev cX6_endStay : ByteArray := prog_8_method_24_code
def yX6_endStay : MethodName := ⟨RX6, "endStay", "(IZ)V"⟩
abbrev wsX6_endStay : List Cond := .code yX6_endStay cX6_endStay 4 (none : Option Jvm.ClassFile.FieldType) :: BW
abbrev cX6_pointWith : ByteArray := prog_8_method_25_code
def yX6_pointWith : MethodName := ⟨RX6, "pointWith", "(III)I"⟩
abbrev wsX6_pointWith : List Cond := .code yX6_pointWith cX6_pointWith 5 (some .int) :: BW
abbrev cX6_point : ByteArray := prog_8_method_26_code
def yX6_point : MethodName := ⟨RX6, "point", "(III)I"⟩
abbrev wsX6_point : List Cond := .code yX6_point cX6_point 4 (some .int) :: BW
abbrev cX6_close : ByteArray := prog_8_method_27_code
def yX6_close : MethodName := ⟨RX6, "close", "(I)I"⟩
abbrev wsX6_close : List Cond := .code yX6_close cX6_close 4 (some .int) :: BW
abbrev cX6_split : ByteArray := prog_8_method_28_code
def yX6_split : MethodName := ⟨RX6, "split", "(II)I"⟩
abbrev wsX6_split : List Cond := .code yX6_split cX6_split 6 (some .int) :: BW
abbrev cX6_join : ByteArray := prog_8_method_29_code
def yX6_join : MethodName := ⟨RX6, "join", "(II)I"⟩
abbrev wsX6_join : List Cond := .code yX6_join cX6_join 7 (some .int) :: BW
abbrev cX6_clash : ByteArray := prog_8_method_30_code
def yX6_clash : MethodName := ⟨RX6, "clash", "(II)I"⟩
abbrev wsX6_clash : List Cond := .code yX6_clash cX6_clash 6 (some .int) :: BW
abbrev cX6_changeRange : ByteArray := prog_8_method_31_code
def yX6_changeRange : MethodName := ⟨RX6, "changeRange", "(IIII)I"⟩
abbrev wsX6_changeRange : List Cond := .code yX6_changeRange cX6_changeRange 5 (some .int) :: BW
abbrev cX6_changeStreets : ByteArray := prog_8_method_32_code
def yX6_changeStreets : MethodName := ⟨RX6, "changeStreets", "(III)I"⟩
abbrev wsX6_changeStreets : List Cond := .code yX6_changeStreets cX6_changeStreets 5 (some .int) :: BW
abbrev cX6_changePoint : ByteArray := prog_8_method_33_code
def yX6_changePoint : MethodName := ⟨RX6, "changePoint", "(IIII)I"⟩
abbrev wsX6_changePoint : List Cond := .code yX6_changePoint cX6_changePoint 6 (some .int) :: BW
abbrev cX6_change : ByteArray := prog_8_method_34_code
def yX6_change : MethodName := ⟨RX6, "change", "(IIII)I"⟩
abbrev wsX6_change : List Cond := .code yX6_change cX6_change 5 (some .int) :: BW
abbrev cX6_alias : ByteArray := prog_8_method_35_code
def yX6_alias : MethodName := ⟨RX6, "alias", "(III)I"⟩
abbrev wsX6_alias : List Cond := .code yX6_alias cX6_alias 6 (some .int) :: BW
abbrev cX6_at : ByteArray := prog_8_method_36_code
def yX6_at : MethodName := ⟨RX6, "at", "(IIII)I"⟩
abbrev wsX6_at : List Cond := .code yX6_at cX6_at 12 (some .int) :: BW
abbrev cX6_near : ByteArray := prog_8_method_37_code
def yX6_near : MethodName := ⟨RX6, "near", "(II)I"⟩
abbrev wsX6_near : List Cond := .code yX6_near cX6_near 10 (some .int) :: BW
abbrev cX6_onRound : ByteArray := prog_8_method_38_code
def yX6_onRound : MethodName := ⟨RX6, "onRound", "(I)I"⟩
abbrev wsX6_onRound : List Cond := .code yX6_onRound cX6_onRound 3 (some .int) :: BW
abbrev cX6_order : ByteArray := prog_8_method_39_code
def yX6_order : MethodName := ⟨RX6, "order", "(I)I"⟩
abbrev wsX6_order : List Cond := .code yX6_order cX6_order 5 (some .int) :: BW
abbrev cX6_holes : ByteArray := prog_8_method_40_code
def yX6_holes : MethodName := ⟨RX6, "holes", "(I)I"⟩
abbrev wsX6_holes : List Cond := .code yX6_holes cX6_holes 8 (some .int) :: BW
abbrev cX6_where : ByteArray := prog_8_method_41_code
def yX6_where : MethodName := ⟨RX6, "where", "(III)I"⟩
abbrev wsX6_where : List Cond := .code yX6_where cX6_where 5 (some .int) :: BW
abbrev cX6_count : ByteArray := prog_8_method_42_code
def yX6_count : MethodName := ⟨RX6, "count", "(I)I"⟩
abbrev wsX6_count : List Cond := .code yX6_count cX6_count 4 (some .int) :: BW
theorem k1_24 : (.fieldLink "AddressBook$Places" 15 "AddressBook$Places" "size" "I" : Cond) ∈ BW := inBW (mt1 (List.mem_of_getElem? (i := 24) rfl)) rfl
theorem k1_23 : (.fieldLink "AddressBook$Places" 9 "AddressBook$Places" "code" "[I" : Cond) ∈ BW := inBW (mt1 (List.mem_of_getElem? (i := 23) rfl)) rfl
theorem k1_43 : (.fieldLink "AddressBook$Streets" 28 "AddressBook$Streets" "size" "I" : Cond) ∈ BW := inBW (mt1 (List.mem_of_getElem? (i := 43) rfl)) rfl
theorem k1_38 : (.fieldLink "AddressBook$Streets" 9 "AddressBook$Streets" "place" "[I" : Cond) ∈ BW := inBW (mt1 (List.mem_of_getElem? (i := 38) rfl)) rfl
theorem k1_39 : (.fieldLink "AddressBook$Streets" 15 "AddressBook$Streets" "name" "[I" : Cond) ∈ BW := inBW (mt1 (List.mem_of_getElem? (i := 39) rfl)) rfl
theorem k1_40 : (.fieldLink "AddressBook$Streets" 18 "AddressBook$Streets" "gone" "[Z" : Cond) ∈ BW := inBW (mt1 (List.mem_of_getElem? (i := 40) rfl)) rfl
theorem k1_41 : (.fieldLink "AddressBook$Streets" 22 "AddressBook$Streets" "into" "[I" : Cond) ∈ BW := inBW (mt1 (List.mem_of_getElem? (i := 41) rfl)) rfl
theorem k1_42 : (.fieldLink "AddressBook$Streets" 25 "AddressBook$Streets" "since" "[I" : Cond) ∈ BW := inBW (mt1 (List.mem_of_getElem? (i := 42) rfl)) rfl
theorem k1_75 : (.fieldLink "AddressBook$Ranges" 28 "AddressBook$Ranges" "size" "I" : Cond) ∈ BW := inBW (mt1 (List.mem_of_getElem? (i := 75) rfl)) rfl
theorem k1_237 : (.code ⟨"AddressBook", "isOdd", "(I)Z"⟩ prog_1_method_38_code 1 (some .boolean) : Cond) ∈ BW := inBW (mt1 (List.mem_of_getElem? (i := 237) rfl)) rfl
theorem k1_1 : (.initialized "AddressBook" : Cond) ∈ BW := inBW (mt1 (List.mem_of_getElem? (i := 1) rfl)) rfl
theorem k1_235 : (.methodLink "AddressBook" 265 ⟨"AddressBook", "isOdd", "(I)Z"⟩ : Cond) ∈ BW := inBW (mt1 (List.mem_of_getElem? (i := 235) rfl)) rfl
theorem k1_236 : (.static ⟨"AddressBook", "isOdd", "(I)Z"⟩ : Cond) ∈ BW := inBW (mt1 (List.mem_of_getElem? (i := 236) rfl)) rfl
theorem k1_234 : (.code ⟨"AddressBook", "isOfSide", "(II)Z"⟩ prog_1_method_39_code 2 (some .boolean) : Cond) ∈ BW := inBW (mt1 (List.mem_of_getElem? (i := 234) rfl)) rfl
theorem k1_232 : (.methodLink "AddressBook" 269 ⟨"AddressBook", "isOfSide", "(II)Z"⟩ : Cond) ∈ BW := inBW (mt1 (List.mem_of_getElem? (i := 232) rfl)) rfl
theorem k1_233 : (.static ⟨"AddressBook", "isOfSide", "(II)Z"⟩ : Cond) ∈ BW := inBW (mt1 (List.mem_of_getElem? (i := 233) rfl)) rfl
theorem k1_65 : (.fieldLink "AddressBook$Ranges" 9 "AddressBook$Ranges" "street" "[I" : Cond) ∈ BW := inBW (mt1 (List.mem_of_getElem? (i := 65) rfl)) rfl
theorem k1_67 : (.fieldLink "AddressBook$Ranges" 15 "AddressBook$Ranges" "side" "[I" : Cond) ∈ BW := inBW (mt1 (List.mem_of_getElem? (i := 67) rfl)) rfl
theorem k1_69 : (.fieldLink "AddressBook$Ranges" 18 "AddressBook$Ranges" "lowest" "[I" : Cond) ∈ BW := inBW (mt1 (List.mem_of_getElem? (i := 69) rfl)) rfl
theorem k1_231 : (.code ⟨"AddressBook", "lowestOf", "(II)I"⟩ prog_1_method_40_code 2 (some .int) : Cond) ∈ BW := inBW (mt1 (List.mem_of_getElem? (i := 231) rfl)) rfl
theorem k1_230 : (.static ⟨"AddressBook", "lowestOf", "(II)I"⟩ : Cond) ∈ BW := inBW (mt1 (List.mem_of_getElem? (i := 230) rfl)) rfl
theorem k1_71 : (.fieldLink "AddressBook$Ranges" 21 "AddressBook$Ranges" "highest" "[I" : Cond) ∈ BW := inBW (mt1 (List.mem_of_getElem? (i := 71) rfl)) rfl
theorem k2_0 : (.code ⟨"AddressBook", "highestOf", "(II)I"⟩ prog_1_method_41_code 2 (some .int) : Cond) ∈ BW := inBW (mt2 (List.mem_of_getElem? (i := 0) rfl)) rfl
theorem k1_239 : (.static ⟨"AddressBook", "highestOf", "(II)I"⟩ : Cond) ∈ BW := inBW (mt1 (List.mem_of_getElem? (i := 239) rfl)) rfl
theorem k1_73 : (.fieldLink "AddressBook$Ranges" 24 "AddressBook$Ranges" "live" "[Z" : Cond) ∈ BW := inBW (mt1 (List.mem_of_getElem? (i := 73) rfl)) rfl
theorem k1_178 : (.code ⟨"AddressBook", "isWithin", "(III)Z"⟩ prog_1_method_37_code 3 (some .boolean) : Cond) ∈ BW := inBW (mt1 (List.mem_of_getElem? (i := 178) rfl)) rfl
theorem k1_177 : (.static ⟨"AddressBook", "isWithin", "(III)Z"⟩ : Cond) ∈ BW := inBW (mt1 (List.mem_of_getElem? (i := 177) rfl)) rfl
theorem k2_21 : (.code ⟨"AddressBook$Ranges", "isLiveOf", "(II)Z"⟩ prog_4_method_6_code 3 (some .boolean) : Cond) ∈ BW := inBW (mt2 (List.mem_of_getElem? (i := 21) rfl)) rfl
theorem k1_4 : (.initialized "AddressBook$Ranges" : Cond) ∈ BW := inBW (mt1 (List.mem_of_getElem? (i := 4) rfl)) rfl
theorem k2_18 : (.methodLink "AddressBook$Ranges" 47 ⟨"AddressBook$Ranges", "isLiveOf", "(II)Z"⟩ : Cond) ∈ BW := inBW (mt2 (List.mem_of_getElem? (i := 18) rfl)) rfl
theorem k2_20 : (.instanceMethod ⟨"AddressBook$Ranges", "isLiveOf", "(II)Z"⟩ : Cond) ∈ BW := inBW (mt2 (List.mem_of_getElem? (i := 20) rfl)) rfl
theorem ks_31 : (.selects "AddressBook$Ranges" ⟨"AddressBook$Ranges", "isLiveOf", "(II)Z"⟩ ⟨"AddressBook$Ranges", "isLiveOf", "(II)Z"⟩ : Cond) ∈ BW := inBW (by decide +kernel) rfl
theorem k2_26 : (.methodLink "AddressBook$Ranges" 58 ⟨"java/lang/Math", "max", "(II)I"⟩ : Cond) ∈ BW := inBW (mt2 (List.mem_of_getElem? (i := 26) rfl)) rfl
theorem k2_27 : (.static ⟨"java/lang/Math", "max", "(II)I"⟩ : Cond) ∈ BW := inBW (mt2 (List.mem_of_getElem? (i := 27) rfl)) rfl
theorem k1_8 : (.initialized "java/lang/Math" : Cond) ∈ BW := inBW (mt1 (List.mem_of_getElem? (i := 8) rfl)) rfl
theorem km_max : (.code Lib.Math.max.name Lib.Math.max.code 2 (some .int) : Cond) ∈ BW := inBW (mt2 (List.mem_of_getElem? (i := 28) (by decide +kernel))) rfl
theorem k2_30 : (.methodLink "AddressBook$Ranges" 63 ⟨"java/lang/Math", "min", "(II)I"⟩ : Cond) ∈ BW := inBW (mt2 (List.mem_of_getElem? (i := 30) rfl)) rfl
theorem k2_31 : (.static ⟨"java/lang/Math", "min", "(II)I"⟩ : Cond) ∈ BW := inBW (mt2 (List.mem_of_getElem? (i := 31) rfl)) rfl
theorem km_min : (.code Lib.Math.min.name Lib.Math.min.code 2 (some .int) : Cond) ∈ BW := inBW (mt2 (List.mem_of_getElem? (i := 32) (by decide +kernel))) rfl
theorem k2_25 : (.code ⟨"AddressBook$Ranges", "isOver", "(IIII)Z"⟩ prog_4_method_10_code 6 (some .boolean) : Cond) ∈ BW := inBW (mt2 (List.mem_of_getElem? (i := 25) rfl)) rfl
theorem k2_22 : (.methodLink "AddressBook$Ranges" 50 ⟨"AddressBook$Ranges", "isOver", "(IIII)Z"⟩ : Cond) ∈ BW := inBW (mt2 (List.mem_of_getElem? (i := 22) rfl)) rfl
theorem k2_24 : (.instanceMethod ⟨"AddressBook$Ranges", "isOver", "(IIII)Z"⟩ : Cond) ∈ BW := inBW (mt2 (List.mem_of_getElem? (i := 24) rfl)) rfl
theorem ks_42 : (.selects "AddressBook$Ranges" ⟨"AddressBook$Ranges", "isOver", "(IIII)Z"⟩ ⟨"AddressBook$Ranges", "isOver", "(IIII)Z"⟩ : Cond) ∈ BW := inBW (by decide +kernel) rfl
theorem k2_17 : (.code ⟨"AddressBook$Ranges", "leastOver", "(IIII)I"⟩ prog_4_method_8_code 6 (some .int) : Cond) ∈ BW := inBW (mt2 (List.mem_of_getElem? (i := 17) rfl)) rfl
theorem k2_112 : (.methodLink "AddressBook$Ranges" 54 ⟨"AddressBook$Ranges", "leastOver", "(IIII)I"⟩ : Cond) ∈ BW := inBW (mt2 (List.mem_of_getElem? (i := 112) rfl)) rfl
theorem k2_16 : (.instanceMethod ⟨"AddressBook$Ranges", "leastOver", "(IIII)I"⟩ : Cond) ∈ BW := inBW (mt2 (List.mem_of_getElem? (i := 16) rfl)) rfl
theorem ks_46 : (.selects "AddressBook$Ranges" ⟨"AddressBook$Ranges", "leastOver", "(IIII)I"⟩ ⟨"AddressBook$Ranges", "leastOver", "(IIII)I"⟩ : Cond) ∈ BW := inBW (by decide +kernel) rfl
theorem k1_105 : (.fieldLink "AddressBook$Points" 28 "AddressBook$Points" "size" "I" : Cond) ∈ BW := inBW (mt1 (List.mem_of_getElem? (i := 105) rfl)) rfl
theorem k1_95 : (.fieldLink "AddressBook$Points" 9 "AddressBook$Points" "range" "[I" : Cond) ∈ BW := inBW (mt1 (List.mem_of_getElem? (i := 95) rfl)) rfl
theorem k1_97 : (.fieldLink "AddressBook$Points" 15 "AddressBook$Points" "firstStreet" "[I" : Cond) ∈ BW := inBW (mt1 (List.mem_of_getElem? (i := 97) rfl)) rfl
theorem k1_99 : (.fieldLink "AddressBook$Points" 18 "AddressBook$Points" "extra" "[I" : Cond) ∈ BW := inBW (mt1 (List.mem_of_getElem? (i := 99) rfl)) rfl
theorem k1_103 : (.fieldLink "AddressBook$Points" 24 "AddressBook$Points" "live" "[Z" : Cond) ∈ BW := inBW (mt1 (List.mem_of_getElem? (i := 103) rfl)) rfl
theorem k1_134 : (.fieldLink "AddressBook$Stays" 28 "AddressBook$Stays" "size" "I" : Cond) ∈ BW := inBW (mt1 (List.mem_of_getElem? (i := 134) rfl)) rfl
theorem k1_126 : (.fieldLink "AddressBook$Stays" 9 "AddressBook$Stays" "point" "[I" : Cond) ∈ BW := inBW (mt1 (List.mem_of_getElem? (i := 126) rfl)) rfl
theorem k1_128 : (.fieldLink "AddressBook$Stays" 15 "AddressBook$Stays" "house" "[I" : Cond) ∈ BW := inBW (mt1 (List.mem_of_getElem? (i := 128) rfl)) rfl
theorem k1_130 : (.fieldLink "AddressBook$Stays" 18 "AddressBook$Stays" "from" "[I" : Cond) ∈ BW := inBW (mt1 (List.mem_of_getElem? (i := 130) rfl)) rfl
theorem k1_131 : (.fieldLink "AddressBook$Stays" 21 "AddressBook$Stays" "till" "[I" : Cond) ∈ BW := inBW (mt1 (List.mem_of_getElem? (i := 131) rfl)) rfl
theorem k2_79 : (.constant "AddressBook$Stays" 32 1000001 : Cond) ∈ BW := inBW (mt2 (List.mem_of_getElem? (i := 79) rfl)) rfl
theorem k2_167 : (.code ⟨"AddressBook$Stays", "holdsOn", "(II)Z"⟩ prog_5_method_5_code 3 (some .boolean) : Cond) ∈ BW := inBW (mt2 (List.mem_of_getElem? (i := 167) rfl)) rfl
theorem k1_6 : (.initialized "AddressBook$Stays" : Cond) ∈ BW := inBW (mt1 (List.mem_of_getElem? (i := 6) rfl)) rfl
theorem k2_223 : (.methodLink "AddressBook$Stays" 33 ⟨"AddressBook$Stays", "holdsOn", "(II)Z"⟩ : Cond) ∈ BW := inBW (mt2 (List.mem_of_getElem? (i := 223) rfl)) rfl
theorem k2_166 : (.instanceMethod ⟨"AddressBook$Stays", "holdsOn", "(II)Z"⟩ : Cond) ∈ BW := inBW (mt2 (List.mem_of_getElem? (i := 166) rfl)) rfl
theorem ks_62 : (.selects "AddressBook$Stays" ⟨"AddressBook$Stays", "holdsOn", "(II)Z"⟩ ⟨"AddressBook$Stays", "holdsOn", "(II)Z"⟩ : Cond) ∈ BW := inBW (by decide +kernel) rfl
theorem k1_132 : (.fieldLink "AddressBook$Stays" 24 "AddressBook$Stays" "left" "[Z" : Cond) ∈ BW := inBW (mt1 (List.mem_of_getElem? (i := 132) rfl)) rfl
theorem k1_176 : (.methodLink "AddressBook" 53 ⟨"AddressBook", "isWithin", "(III)Z"⟩ : Cond) ∈ BW := inBW (mt1 (List.mem_of_getElem? (i := 176) rfl)) rfl
theorem k1_175 : (.constant "AddressBook" 52 99999 : Cond) ∈ BW := inBW (mt1 (List.mem_of_getElem? (i := 175) rfl)) rfl
theorem k1_181 : (.code ⟨"AddressBook", "isName", "(I)Z"⟩ prog_1_method_34_code 1 (some .boolean) : Cond) ∈ BW := inBW (mt1 (List.mem_of_getElem? (i := 181) rfl)) rfl
theorem k1_179 : (.methodLink "AddressBook" 57 ⟨"AddressBook", "isName", "(I)Z"⟩ : Cond) ∈ BW := inBW (mt1 (List.mem_of_getElem? (i := 179) rfl)) rfl
theorem k1_180 : (.static ⟨"AddressBook", "isName", "(I)Z"⟩ : Cond) ∈ BW := inBW (mt1 (List.mem_of_getElem? (i := 180) rfl)) rfl
theorem k1_149 : (.fieldLink "AddressBook" 12 "AddressBook" "places" "LAddressBook$Places;" : Cond) ∈ BW := inBW (mt1 (List.mem_of_getElem? (i := 149) rfl)) rfl
theorem k1_185 : (.code ⟨"AddressBook$Places", "withCode", "(I)I"⟩ prog_2_method_4_code 3 (some .int) : Cond) ∈ BW := inBW (mt1 (List.mem_of_getElem? (i := 185) rfl)) rfl
theorem k1_2 : (.initialized "AddressBook$Places" : Cond) ∈ BW := inBW (mt1 (List.mem_of_getElem? (i := 2) rfl)) rfl
theorem k1_184 : (.instanceMethod ⟨"AddressBook$Places", "withCode", "(I)I"⟩ : Cond) ∈ BW := inBW (mt1 (List.mem_of_getElem? (i := 184) rfl)) rfl
theorem ks_73 : (.selects "AddressBook$Places" ⟨"AddressBook$Places", "withCode", "(I)I"⟩ ⟨"AddressBook$Places", "withCode", "(I)I"⟩ : Cond) ∈ BW := inBW (by decide +kernel) rfl
theorem k1_189 : (.code ⟨"AddressBook$Places", "isFull", "()Z"⟩ prog_2_method_3_code 1 (some .boolean) : Cond) ∈ BW := inBW (mt1 (List.mem_of_getElem? (i := 189) rfl)) rfl
theorem k1_188 : (.instanceMethod ⟨"AddressBook$Places", "isFull", "()Z"⟩ : Cond) ∈ BW := inBW (mt1 (List.mem_of_getElem? (i := 188) rfl)) rfl
theorem ks_76 : (.selects "AddressBook$Places" ⟨"AddressBook$Places", "isFull", "()Z"⟩ ⟨"AddressBook$Places", "isFull", "()Z"⟩ : Cond) ∈ BW := inBW (by decide +kernel) rfl
theorem k1_193 : (.code ⟨"AddressBook$Places", "add", "(I)I"⟩ prog_2_method_5_code 2 (some .int) : Cond) ∈ BW := inBW (mt1 (List.mem_of_getElem? (i := 193) rfl)) rfl
theorem k1_192 : (.instanceMethod ⟨"AddressBook$Places", "add", "(I)I"⟩ : Cond) ∈ BW := inBW (mt1 (List.mem_of_getElem? (i := 192) rfl)) rfl
theorem ks_79 : (.selects "AddressBook$Places" ⟨"AddressBook$Places", "add", "(I)I"⟩ ⟨"AddressBook$Places", "add", "(I)I"⟩ : Cond) ∈ BW := inBW (by decide +kernel) rfl
theorem k1_201 : (.code ⟨"AddressBook$Places", "has", "(I)Z"⟩ prog_2_method_2_code 2 (some .boolean) : Cond) ∈ BW := inBW (mt1 (List.mem_of_getElem? (i := 201) rfl)) rfl
theorem k1_200 : (.instanceMethod ⟨"AddressBook$Places", "has", "(I)Z"⟩ : Cond) ∈ BW := inBW (mt1 (List.mem_of_getElem? (i := 200) rfl)) rfl
theorem ks_82 : (.selects "AddressBook$Places" ⟨"AddressBook$Places", "has", "(I)Z"⟩ ⟨"AddressBook$Places", "has", "(I)Z"⟩ : Cond) ∈ BW := inBW (by decide +kernel) rfl
theorem k1_150 : (.fieldLink "AddressBook" 19 "AddressBook" "streets" "LAddressBook$Streets;" : Cond) ∈ BW := inBW (mt1 (List.mem_of_getElem? (i := 150) rfl)) rfl
theorem k1_205 : (.code ⟨"AddressBook$Streets", "named", "(II)I"⟩ prog_6_method_4_code 4 (some .int) : Cond) ∈ BW := inBW (mt1 (List.mem_of_getElem? (i := 205) rfl)) rfl
theorem k1_3 : (.initialized "AddressBook$Streets" : Cond) ∈ BW := inBW (mt1 (List.mem_of_getElem? (i := 3) rfl)) rfl
theorem k1_204 : (.instanceMethod ⟨"AddressBook$Streets", "named", "(II)I"⟩ : Cond) ∈ BW := inBW (mt1 (List.mem_of_getElem? (i := 204) rfl)) rfl
theorem ks_87 : (.selects "AddressBook$Streets" ⟨"AddressBook$Streets", "named", "(II)I"⟩ ⟨"AddressBook$Streets", "named", "(II)I"⟩ : Cond) ∈ BW := inBW (by decide +kernel) rfl
theorem k1_209 : (.code ⟨"AddressBook$Streets", "isFull", "()Z"⟩ prog_6_method_3_code 1 (some .boolean) : Cond) ∈ BW := inBW (mt1 (List.mem_of_getElem? (i := 209) rfl)) rfl
theorem k1_208 : (.instanceMethod ⟨"AddressBook$Streets", "isFull", "()Z"⟩ : Cond) ∈ BW := inBW (mt1 (List.mem_of_getElem? (i := 208) rfl)) rfl
theorem ks_90 : (.selects "AddressBook$Streets" ⟨"AddressBook$Streets", "isFull", "()Z"⟩ ⟨"AddressBook$Streets", "isFull", "()Z"⟩ : Cond) ∈ BW := inBW (by decide +kernel) rfl
theorem k1_213 : (.code ⟨"AddressBook$Streets", "add", "(II)I"⟩ prog_6_method_5_code 3 (some .int) : Cond) ∈ BW := inBW (mt1 (List.mem_of_getElem? (i := 213) rfl)) rfl
theorem k1_212 : (.instanceMethod ⟨"AddressBook$Streets", "add", "(II)I"⟩ : Cond) ∈ BW := inBW (mt1 (List.mem_of_getElem? (i := 212) rfl)) rfl
theorem ks_93 : (.selects "AddressBook$Streets" ⟨"AddressBook$Streets", "add", "(II)I"⟩ ⟨"AddressBook$Streets", "add", "(II)I"⟩ : Cond) ∈ BW := inBW (by decide +kernel) rfl
theorem k1_155 : (.fieldLink "AddressBook" 48 "AddressBook" "today" "I" : Cond) ∈ BW := inBW (mt1 (List.mem_of_getElem? (i := 155) rfl)) rfl
theorem k2_5 : (.constant "AddressBook" 268 1000000 : Cond) ∈ BW := inBW (mt2 (List.mem_of_getElem? (i := 5) rfl)) rfl
theorem k1_225 : (.code ⟨"AddressBook$Streets", "has", "(I)Z"⟩ prog_6_method_2_code 2 (some .boolean) : Cond) ∈ BW := inBW (mt1 (List.mem_of_getElem? (i := 225) rfl)) rfl
theorem k1_224 : (.instanceMethod ⟨"AddressBook$Streets", "has", "(I)Z"⟩ : Cond) ∈ BW := inBW (mt1 (List.mem_of_getElem? (i := 224) rfl)) rfl
theorem ks_98 : (.selects "AddressBook$Streets" ⟨"AddressBook$Streets", "has", "(I)Z"⟩ ⟨"AddressBook$Streets", "has", "(I)Z"⟩ : Cond) ∈ BW := inBW (by decide +kernel) rfl
theorem k1_228 : (.code ⟨"AddressBook", "isHouse", "(I)Z"⟩ prog_1_method_35_code 1 (some .boolean) : Cond) ∈ BW := inBW (mt1 (List.mem_of_getElem? (i := 228) rfl)) rfl
theorem k1_226 : (.methodLink "AddressBook" 83 ⟨"AddressBook", "isHouse", "(I)Z"⟩ : Cond) ∈ BW := inBW (mt1 (List.mem_of_getElem? (i := 226) rfl)) rfl
theorem k1_227 : (.static ⟨"AddressBook", "isHouse", "(I)Z"⟩ : Cond) ∈ BW := inBW (mt1 (List.mem_of_getElem? (i := 227) rfl)) rfl
theorem k1_229 : (.methodLink "AddressBook" 86 ⟨"AddressBook", "lowestOf", "(II)I"⟩ : Cond) ∈ BW := inBW (mt1 (List.mem_of_getElem? (i := 229) rfl)) rfl
theorem k1_238 : (.methodLink "AddressBook" 89 ⟨"AddressBook", "highestOf", "(II)I"⟩ : Cond) ∈ BW := inBW (mt1 (List.mem_of_getElem? (i := 238) rfl)) rfl
theorem k2_4 : (.code ⟨"AddressBook", "isTodayOrLater", "(I)Z"⟩ prog_1_method_32_code 2 (some .boolean) : Cond) ∈ BW := inBW (mt2 (List.mem_of_getElem? (i := 4) rfl)) rfl
theorem k2_1 : (.methodLink "AddressBook" 92 ⟨"AddressBook", "isTodayOrLater", "(I)Z"⟩ : Cond) ∈ BW := inBW (mt2 (List.mem_of_getElem? (i := 1) rfl)) rfl
theorem k2_3 : (.instanceMethod ⟨"AddressBook", "isTodayOrLater", "(I)Z"⟩ : Cond) ∈ BW := inBW (mt2 (List.mem_of_getElem? (i := 3) rfl)) rfl
theorem ks_107 : (.selects "AddressBook" ⟨"AddressBook", "isTodayOrLater", "(I)Z"⟩ ⟨"AddressBook", "isTodayOrLater", "(I)Z"⟩ : Cond) ∈ BW := inBW (by decide +kernel) rfl
theorem k2_9 : (.code ⟨"AddressBook$Streets", "isGone", "(I)Z"⟩ prog_6_method_6_code 2 (some .boolean) : Cond) ∈ BW := inBW (mt2 (List.mem_of_getElem? (i := 9) rfl)) rfl
theorem k2_8 : (.instanceMethod ⟨"AddressBook$Streets", "isGone", "(I)Z"⟩ : Cond) ∈ BW := inBW (mt2 (List.mem_of_getElem? (i := 8) rfl)) rfl
theorem ks_110 : (.selects "AddressBook$Streets" ⟨"AddressBook$Streets", "isGone", "(I)Z"⟩ ⟨"AddressBook$Streets", "isGone", "(I)Z"⟩ : Cond) ∈ BW := inBW (by decide +kernel) rfl
theorem k1_151 : (.fieldLink "AddressBook" 26 "AddressBook" "ranges" "LAddressBook$Ranges;" : Cond) ∈ BW := inBW (mt1 (List.mem_of_getElem? (i := 151) rfl)) rfl
theorem k2_13 : (.code ⟨"AddressBook$Ranges", "hasRoomFor", "(I)Z"⟩ prog_4_method_3_code 2 (some .boolean) : Cond) ∈ BW := inBW (mt2 (List.mem_of_getElem? (i := 13) rfl)) rfl
theorem k2_12 : (.instanceMethod ⟨"AddressBook$Ranges", "hasRoomFor", "(I)Z"⟩ : Cond) ∈ BW := inBW (mt2 (List.mem_of_getElem? (i := 12) rfl)) rfl
theorem ks_114 : (.selects "AddressBook$Ranges" ⟨"AddressBook$Ranges", "hasRoomFor", "(I)Z"⟩ ⟨"AddressBook$Ranges", "hasRoomFor", "(I)Z"⟩ : Cond) ∈ BW := inBW (by decide +kernel) rfl
theorem k2_37 : (.code ⟨"AddressBook$Ranges", "add", "(IIII)I"⟩ prog_4_method_4_code 5 (some .int) : Cond) ∈ BW := inBW (mt2 (List.mem_of_getElem? (i := 37) rfl)) rfl
theorem k2_36 : (.instanceMethod ⟨"AddressBook$Ranges", "add", "(IIII)I"⟩ : Cond) ∈ BW := inBW (mt2 (List.mem_of_getElem? (i := 36) rfl)) rfl
theorem ks_117 : (.selects "AddressBook$Ranges" ⟨"AddressBook$Ranges", "add", "(IIII)I"⟩ ⟨"AddressBook$Ranges", "add", "(IIII)I"⟩ : Cond) ∈ BW := inBW (by decide +kernel) rfl
theorem k1_153 : (.fieldLink "AddressBook" 40 "AddressBook" "stays" "LAddressBook$Stays;" : Cond) ∈ BW := inBW (mt1 (List.mem_of_getElem? (i := 153) rfl)) rfl
theorem k1_152 : (.fieldLink "AddressBook" 33 "AddressBook" "points" "LAddressBook$Points;" : Cond) ∈ BW := inBW (mt1 (List.mem_of_getElem? (i := 152) rfl)) rfl
theorem k2_62 : (.code ⟨"AddressBook", "houseNow", "(I)I"⟩ prog_1_method_22_code 2 (some .int) : Cond) ∈ BW := inBW (mt2 (List.mem_of_getElem? (i := 62) rfl)) rfl
theorem k2_59 : (.methodLink "AddressBook" 227 ⟨"AddressBook", "houseNow", "(I)I"⟩ : Cond) ∈ BW := inBW (mt2 (List.mem_of_getElem? (i := 59) rfl)) rfl
theorem k2_61 : (.instanceMethod ⟨"AddressBook", "houseNow", "(I)I"⟩ : Cond) ∈ BW := inBW (mt2 (List.mem_of_getElem? (i := 61) rfl)) rfl
theorem ks_123 : (.selects "AddressBook" ⟨"AddressBook", "houseNow", "(I)I"⟩ ⟨"AddressBook", "houseNow", "(I)I"⟩ : Cond) ∈ BW := inBW (by decide +kernel) rfl
theorem k2_45 : (.code ⟨"AddressBook$Ranges", "has", "(I)Z"⟩ prog_4_method_2_code 2 (some .boolean) : Cond) ∈ BW := inBW (mt2 (List.mem_of_getElem? (i := 45) rfl)) rfl
theorem k2_44 : (.instanceMethod ⟨"AddressBook$Ranges", "has", "(I)Z"⟩ : Cond) ∈ BW := inBW (mt2 (List.mem_of_getElem? (i := 44) rfl)) rfl
theorem ks_126 : (.selects "AddressBook$Ranges" ⟨"AddressBook$Ranges", "has", "(I)Z"⟩ ⟨"AddressBook$Ranges", "has", "(I)Z"⟩ : Cond) ∈ BW := inBW (by decide +kernel) rfl
theorem k2_49 : (.code ⟨"AddressBook$Ranges", "holds", "(II)Z"⟩ prog_4_method_5_code 3 (some .boolean) : Cond) ∈ BW := inBW (mt2 (List.mem_of_getElem? (i := 49) rfl)) rfl
theorem k2_48 : (.instanceMethod ⟨"AddressBook$Ranges", "holds", "(II)Z"⟩ : Cond) ∈ BW := inBW (mt2 (List.mem_of_getElem? (i := 48) rfl)) rfl
theorem ks_129 : (.selects "AddressBook$Ranges" ⟨"AddressBook$Ranges", "holds", "(II)Z"⟩ ⟨"AddressBook$Ranges", "holds", "(II)Z"⟩ : Cond) ∈ BW := inBW (by decide +kernel) rfl
theorem k2_54 : (.code ⟨"AddressBook", "isExtra", "(I)Z"⟩ prog_1_method_36_code 1 (some .boolean) : Cond) ∈ BW := inBW (mt2 (List.mem_of_getElem? (i := 54) rfl)) rfl
theorem k2_52 : (.methodLink "AddressBook" 112 ⟨"AddressBook", "isExtra", "(I)Z"⟩ : Cond) ∈ BW := inBW (mt2 (List.mem_of_getElem? (i := 52) rfl)) rfl
theorem k2_53 : (.static ⟨"AddressBook", "isExtra", "(I)Z"⟩ : Cond) ∈ BW := inBW (mt2 (List.mem_of_getElem? (i := 53) rfl)) rfl
theorem k2_58 : (.code ⟨"AddressBook", "isTaken", "(III)Z"⟩ prog_1_method_23_code 5 (some .boolean) : Cond) ∈ BW := inBW (mt2 (List.mem_of_getElem? (i := 58) rfl)) rfl
theorem k2_55 : (.methodLink "AddressBook" 118 ⟨"AddressBook", "isTaken", "(III)Z"⟩ : Cond) ∈ BW := inBW (mt2 (List.mem_of_getElem? (i := 55) rfl)) rfl
theorem k2_57 : (.instanceMethod ⟨"AddressBook", "isTaken", "(III)Z"⟩ : Cond) ∈ BW := inBW (mt2 (List.mem_of_getElem? (i := 57) rfl)) rfl
theorem ks_136 : (.selects "AddressBook" ⟨"AddressBook", "isTaken", "(III)Z"⟩ ⟨"AddressBook", "isTaken", "(III)Z"⟩ : Cond) ∈ BW := inBW (by decide +kernel) rfl
theorem k2_66 : (.code ⟨"AddressBook$Points", "isFull", "()Z"⟩ prog_3_method_3_code 1 (some .boolean) : Cond) ∈ BW := inBW (mt2 (List.mem_of_getElem? (i := 66) rfl)) rfl
theorem k1_5 : (.initialized "AddressBook$Points" : Cond) ∈ BW := inBW (mt1 (List.mem_of_getElem? (i := 5) rfl)) rfl
theorem k2_65 : (.instanceMethod ⟨"AddressBook$Points", "isFull", "()Z"⟩ : Cond) ∈ BW := inBW (mt2 (List.mem_of_getElem? (i := 65) rfl)) rfl
theorem ks_140 : (.selects "AddressBook$Points" ⟨"AddressBook$Points", "isFull", "()Z"⟩ ⟨"AddressBook$Points", "isFull", "()Z"⟩ : Cond) ∈ BW := inBW (by decide +kernel) rfl
theorem k2_70 : (.code ⟨"AddressBook$Stays", "isFull", "()Z"⟩ prog_5_method_2_code 1 (some .boolean) : Cond) ∈ BW := inBW (mt2 (List.mem_of_getElem? (i := 70) rfl)) rfl
theorem k2_69 : (.instanceMethod ⟨"AddressBook$Stays", "isFull", "()Z"⟩ : Cond) ∈ BW := inBW (mt2 (List.mem_of_getElem? (i := 69) rfl)) rfl
theorem ks_143 : (.selects "AddressBook$Stays" ⟨"AddressBook$Stays", "isFull", "()Z"⟩ ⟨"AddressBook$Stays", "isFull", "()Z"⟩ : Cond) ∈ BW := inBW (by decide +kernel) rfl
theorem k2_74 : (.code ⟨"AddressBook$Points", "add", "(III)I"⟩ prog_3_method_4_code 4 (some .int) : Cond) ∈ BW := inBW (mt2 (List.mem_of_getElem? (i := 74) rfl)) rfl
theorem k2_73 : (.instanceMethod ⟨"AddressBook$Points", "add", "(III)I"⟩ : Cond) ∈ BW := inBW (mt2 (List.mem_of_getElem? (i := 73) rfl)) rfl
theorem ks_146 : (.selects "AddressBook$Points" ⟨"AddressBook$Points", "add", "(III)I"⟩ ⟨"AddressBook$Points", "add", "(III)I"⟩ : Cond) ∈ BW := inBW (by decide +kernel) rfl
theorem k2_78 : (.code ⟨"AddressBook$Stays", "begin", "(III)I"⟩ prog_5_method_3_code 4 (some .int) : Cond) ∈ BW := inBW (mt2 (List.mem_of_getElem? (i := 78) rfl)) rfl
theorem k2_77 : (.instanceMethod ⟨"AddressBook$Stays", "begin", "(III)I"⟩ : Cond) ∈ BW := inBW (mt2 (List.mem_of_getElem? (i := 77) rfl)) rfl
theorem ks_149 : (.selects "AddressBook$Stays" ⟨"AddressBook$Stays", "begin", "(III)I"⟩ ⟨"AddressBook$Stays", "begin", "(III)I"⟩ : Cond) ∈ BW := inBW (by decide +kernel) rfl
theorem k2_95 : (.code ⟨"AddressBook$Stays", "end", "(II)V"⟩ prog_5_method_4_code 3 (none : Option Jvm.ClassFile.FieldType) : Cond) ∈ BW := inBW (mt2 (List.mem_of_getElem? (i := 95) rfl)) rfl
theorem k2_94 : (.instanceMethod ⟨"AddressBook$Stays", "end", "(II)V"⟩ : Cond) ∈ BW := inBW (mt2 (List.mem_of_getElem? (i := 94) rfl)) rfl
theorem ks_152 : (.selects "AddressBook$Stays" ⟨"AddressBook$Stays", "end", "(II)V"⟩ ⟨"AddressBook$Stays", "end", "(II)V"⟩ : Cond) ∈ BW := inBW (by decide +kernel) rfl
theorem k2_91 : (.code ⟨"AddressBook", "end", "(II)V"⟩ prog_1_method_21_code 3 (none : Option Jvm.ClassFile.FieldType) : Cond) ∈ BW := inBW (mt2 (List.mem_of_getElem? (i := 91) rfl)) rfl
theorem k2_88 : (.methodLink "AddressBook" 211 ⟨"AddressBook", "end", "(II)V"⟩ : Cond) ∈ BW := inBW (mt2 (List.mem_of_getElem? (i := 88) rfl)) rfl
theorem k2_90 : (.instanceMethod ⟨"AddressBook", "end", "(II)V"⟩ : Cond) ∈ BW := inBW (mt2 (List.mem_of_getElem? (i := 90) rfl)) rfl
theorem ks_156 : (.selects "AddressBook" ⟨"AddressBook", "end", "(II)V"⟩ ⟨"AddressBook", "end", "(II)V"⟩ : Cond) ∈ BW := inBW (by decide +kernel) rfl
theorem k2_103 : (.code ⟨"AddressBook", "giveToParts", "(III)I"⟩ prog_1_method_17_code 6 (some .int) : Cond) ∈ BW := inBW (mt2 (List.mem_of_getElem? (i := 103) rfl)) rfl
theorem k2_100 : (.methodLink "AddressBook" 224 ⟨"AddressBook", "giveToParts", "(III)I"⟩ : Cond) ∈ BW := inBW (mt2 (List.mem_of_getElem? (i := 100) rfl)) rfl
theorem k2_102 : (.instanceMethod ⟨"AddressBook", "giveToParts", "(III)I"⟩ : Cond) ∈ BW := inBW (mt2 (List.mem_of_getElem? (i := 102) rfl)) rfl
theorem ks_160 : (.selects "AddressBook" ⟨"AddressBook", "giveToParts", "(III)I"⟩ ⟨"AddressBook", "giveToParts", "(III)I"⟩ : Cond) ∈ BW := inBW (by decide +kernel) rfl
theorem k2_120 : (.code ⟨"AddressBook", "isLiveOf", "(II)Z"⟩ prog_1_method_24_code 3 (some .boolean) : Cond) ∈ BW := inBW (mt2 (List.mem_of_getElem? (i := 120) rfl)) rfl
theorem k2_117 : (.methodLink "AddressBook" 173 ⟨"AddressBook", "isLiveOf", "(II)Z"⟩ : Cond) ∈ BW := inBW (mt2 (List.mem_of_getElem? (i := 117) rfl)) rfl
theorem k2_119 : (.instanceMethod ⟨"AddressBook", "isLiveOf", "(II)Z"⟩ : Cond) ∈ BW := inBW (mt2 (List.mem_of_getElem? (i := 119) rfl)) rfl
theorem ks_164 : (.selects "AddressBook" ⟨"AddressBook", "isLiveOf", "(II)Z"⟩ ⟨"AddressBook", "isLiveOf", "(II)Z"⟩ : Cond) ∈ BW := inBW (by decide +kernel) rfl
theorem k2_111 : (.code ⟨"AddressBook$Ranges", "leastOverAnyOf", "(II)I"⟩ prog_4_method_9_code 4 (some .int) : Cond) ∈ BW := inBW (mt2 (List.mem_of_getElem? (i := 111) rfl)) rfl
theorem k2_110 : (.instanceMethod ⟨"AddressBook$Ranges", "leastOverAnyOf", "(II)I"⟩ : Cond) ∈ BW := inBW (mt2 (List.mem_of_getElem? (i := 110) rfl)) rfl
theorem ks_167 : (.selects "AddressBook$Ranges" ⟨"AddressBook$Ranges", "leastOverAnyOf", "(II)I"⟩ ⟨"AddressBook$Ranges", "leastOverAnyOf", "(II)I"⟩ : Cond) ∈ BW := inBW (by decide +kernel) rfl
theorem k2_116 : (.code ⟨"AddressBook", "howManyLiveOf", "(I)I"⟩ prog_1_method_25_code 4 (some .int) : Cond) ∈ BW := inBW (mt2 (List.mem_of_getElem? (i := 116) rfl)) rfl
theorem k2_113 : (.methodLink "AddressBook" 233 ⟨"AddressBook", "howManyLiveOf", "(I)I"⟩ : Cond) ∈ BW := inBW (mt2 (List.mem_of_getElem? (i := 113) rfl)) rfl
theorem k2_115 : (.instanceMethod ⟨"AddressBook", "howManyLiveOf", "(I)I"⟩ : Cond) ∈ BW := inBW (mt2 (List.mem_of_getElem? (i := 115) rfl)) rfl
theorem ks_171 : (.selects "AddressBook" ⟨"AddressBook", "howManyLiveOf", "(I)I"⟩ ⟨"AddressBook", "howManyLiveOf", "(I)I"⟩ : Cond) ∈ BW := inBW (by decide +kernel) rfl
theorem k2_124 : (.code ⟨"AddressBook$Ranges", "moveLive", "(II)V"⟩ prog_4_method_12_code 4 (none : Option Jvm.ClassFile.FieldType) : Cond) ∈ BW := inBW (mt2 (List.mem_of_getElem? (i := 124) rfl)) rfl
theorem k2_123 : (.instanceMethod ⟨"AddressBook$Ranges", "moveLive", "(II)V"⟩ : Cond) ∈ BW := inBW (mt2 (List.mem_of_getElem? (i := 123) rfl)) rfl
theorem ks_174 : (.selects "AddressBook$Ranges" ⟨"AddressBook$Ranges", "moveLive", "(II)V"⟩ ⟨"AddressBook$Ranges", "moveLive", "(II)V"⟩ : Cond) ∈ BW := inBW (by decide +kernel) rfl
theorem k2_128 : (.code ⟨"AddressBook$Streets", "goInto", "(III)V"⟩ prog_6_method_7_code 4 (none : Option Jvm.ClassFile.FieldType) : Cond) ∈ BW := inBW (mt2 (List.mem_of_getElem? (i := 128) rfl)) rfl
theorem k2_127 : (.instanceMethod ⟨"AddressBook$Streets", "goInto", "(III)V"⟩ : Cond) ∈ BW := inBW (mt2 (List.mem_of_getElem? (i := 127) rfl)) rfl
theorem ks_177 : (.selects "AddressBook$Streets" ⟨"AddressBook$Streets", "goInto", "(III)V"⟩ ⟨"AddressBook$Streets", "goInto", "(III)V"⟩ : Cond) ∈ BW := inBW (by decide +kernel) rfl
theorem k2_136 : (.code ⟨"AddressBook$Points", "has", "(I)Z"⟩ prog_3_method_2_code 2 (some .boolean) : Cond) ∈ BW := inBW (mt2 (List.mem_of_getElem? (i := 136) rfl)) rfl
theorem k2_135 : (.instanceMethod ⟨"AddressBook$Points", "has", "(I)Z"⟩ : Cond) ∈ BW := inBW (mt2 (List.mem_of_getElem? (i := 135) rfl)) rfl
theorem ks_180 : (.selects "AddressBook$Points" ⟨"AddressBook$Points", "has", "(I)Z"⟩ ⟨"AddressBook$Points", "has", "(I)Z"⟩ : Cond) ∈ BW := inBW (by decide +kernel) rfl
theorem k2_87 : (.code ⟨"AddressBook", "close", "(II)I"⟩ prog_1_method_15_code 5 (some .int) : Cond) ∈ BW := inBW (mt2 (List.mem_of_getElem? (i := 87) rfl)) rfl
theorem k2_84 : (.methodLink "AddressBook" 136 ⟨"AddressBook", "close", "(II)I"⟩ : Cond) ∈ BW := inBW (mt2 (List.mem_of_getElem? (i := 84) rfl)) rfl
theorem k2_86 : (.instanceMethod ⟨"AddressBook", "close", "(II)I"⟩ : Cond) ∈ BW := inBW (mt2 (List.mem_of_getElem? (i := 86) rfl)) rfl
theorem ks_184 : (.selects "AddressBook" ⟨"AddressBook", "close", "(II)I"⟩ ⟨"AddressBook", "close", "(II)I"⟩ : Cond) ∈ BW := inBW (by decide +kernel) rfl
theorem k2_99 : (.code ⟨"AddressBook", "split", "(III)I"⟩ prog_1_method_16_code 8 (some .int) : Cond) ∈ BW := inBW (mt2 (List.mem_of_getElem? (i := 99) rfl)) rfl
theorem k2_96 : (.methodLink "AddressBook" 139 ⟨"AddressBook", "split", "(III)I"⟩ : Cond) ∈ BW := inBW (mt2 (List.mem_of_getElem? (i := 96) rfl)) rfl
theorem k2_98 : (.instanceMethod ⟨"AddressBook", "split", "(III)I"⟩ : Cond) ∈ BW := inBW (mt2 (List.mem_of_getElem? (i := 98) rfl)) rfl
theorem ks_188 : (.selects "AddressBook" ⟨"AddressBook", "split", "(III)I"⟩ ⟨"AddressBook", "split", "(III)I"⟩ : Cond) ∈ BW := inBW (by decide +kernel) rfl
theorem k2_107 : (.code ⟨"AddressBook", "join", "(III)I"⟩ prog_1_method_18_code 6 (some .int) : Cond) ∈ BW := inBW (mt2 (List.mem_of_getElem? (i := 107) rfl)) rfl
theorem k2_104 : (.methodLink "AddressBook" 142 ⟨"AddressBook", "join", "(III)I"⟩ : Cond) ∈ BW := inBW (mt2 (List.mem_of_getElem? (i := 104) rfl)) rfl
theorem k2_106 : (.instanceMethod ⟨"AddressBook", "join", "(III)I"⟩ : Cond) ∈ BW := inBW (mt2 (List.mem_of_getElem? (i := 106) rfl)) rfl
theorem ks_192 : (.selects "AddressBook" ⟨"AddressBook", "join", "(III)I"⟩ ⟨"AddressBook", "join", "(III)I"⟩ : Cond) ∈ BW := inBW (by decide +kernel) rfl
theorem k2_132 : (.code ⟨"AddressBook", "renumber", "(III)I"⟩ prog_1_method_19_code 5 (some .int) : Cond) ∈ BW := inBW (mt2 (List.mem_of_getElem? (i := 132) rfl)) rfl
theorem k2_129 : (.methodLink "AddressBook" 145 ⟨"AddressBook", "renumber", "(III)I"⟩ : Cond) ∈ BW := inBW (mt2 (List.mem_of_getElem? (i := 129) rfl)) rfl
theorem k2_131 : (.instanceMethod ⟨"AddressBook", "renumber", "(III)I"⟩ : Cond) ∈ BW := inBW (mt2 (List.mem_of_getElem? (i := 131) rfl)) rfl
theorem ks_196 : (.selects "AddressBook" ⟨"AddressBook", "renumber", "(III)I"⟩ ⟨"AddressBook", "renumber", "(III)I"⟩ : Cond) ∈ BW := inBW (by decide +kernel) rfl
theorem k2_140 : (.code ⟨"AddressBook", "remove", "(II)I"⟩ prog_1_method_20_code 3 (some .int) : Cond) ∈ BW := inBW (mt2 (List.mem_of_getElem? (i := 140) rfl)) rfl
theorem k2_137 : (.methodLink "AddressBook" 148 ⟨"AddressBook", "remove", "(II)I"⟩ : Cond) ∈ BW := inBW (mt2 (List.mem_of_getElem? (i := 137) rfl)) rfl
theorem k2_139 : (.instanceMethod ⟨"AddressBook", "remove", "(II)I"⟩ : Cond) ∈ BW := inBW (mt2 (List.mem_of_getElem? (i := 139) rfl)) rfl
theorem ks_200 : (.selects "AddressBook" ⟨"AddressBook", "remove", "(II)I"⟩ ⟨"AddressBook", "remove", "(II)I"⟩ : Cond) ∈ BW := inBW (by decide +kernel) rfl
theorem k2_148 : (.code ⟨"AddressBook$Ranges", "anyLiveOf", "(I)Z"⟩ prog_4_method_7_code 3 (some .boolean) : Cond) ∈ BW := inBW (mt2 (List.mem_of_getElem? (i := 148) rfl)) rfl
theorem k2_147 : (.instanceMethod ⟨"AddressBook$Ranges", "anyLiveOf", "(I)Z"⟩ : Cond) ∈ BW := inBW (mt2 (List.mem_of_getElem? (i := 147) rfl)) rfl
theorem ks_203 : (.selects "AddressBook$Ranges" ⟨"AddressBook$Ranges", "anyLiveOf", "(I)Z"⟩ ⟨"AddressBook$Ranges", "anyLiveOf", "(I)Z"⟩ : Cond) ∈ BW := inBW (by decide +kernel) rfl
theorem k2_152 : (.code ⟨"AddressBook$Streets", "meaning", "(II)I"⟩ prog_6_method_8_code 5 (some .int) : Cond) ∈ BW := inBW (mt2 (List.mem_of_getElem? (i := 152) rfl)) rfl
theorem k2_151 : (.instanceMethod ⟨"AddressBook$Streets", "meaning", "(II)I"⟩ : Cond) ∈ BW := inBW (mt2 (List.mem_of_getElem? (i := 151) rfl)) rfl
theorem ks_206 : (.selects "AddressBook$Streets" ⟨"AddressBook$Streets", "meaning", "(II)I"⟩ ⟨"AddressBook$Streets", "meaning", "(II)I"⟩ : Cond) ∈ BW := inBW (by decide +kernel) rfl
theorem k2_171 : (.code ⟨"AddressBook", "isStayAt", "(IIIII)Z"⟩ prog_1_method_28_code 7 (some .boolean) : Cond) ∈ BW := inBW (mt2 (List.mem_of_getElem? (i := 171) rfl)) rfl
theorem k2_168 : (.methodLink "AddressBook" 247 ⟨"AddressBook", "isStayAt", "(IIIII)Z"⟩ : Cond) ∈ BW := inBW (mt2 (List.mem_of_getElem? (i := 168) rfl)) rfl
theorem k2_170 : (.instanceMethod ⟨"AddressBook", "isStayAt", "(IIIII)Z"⟩ : Cond) ∈ BW := inBW (mt2 (List.mem_of_getElem? (i := 170) rfl)) rfl
theorem ks_210 : (.selects "AddressBook" ⟨"AddressBook", "isStayAt", "(IIIII)Z"⟩ ⟨"AddressBook", "isStayAt", "(IIIII)Z"⟩ : Cond) ∈ BW := inBW (by decide +kernel) rfl
theorem k2_179 : (.code ⟨"AddressBook$Stays", "isLeftShortlyBefore", "(II)Z"⟩ prog_5_method_7_code 3 (some .boolean) : Cond) ∈ BW := inBW (mt2 (List.mem_of_getElem? (i := 179) rfl)) rfl
theorem k2_178 : (.instanceMethod ⟨"AddressBook$Stays", "isLeftShortlyBefore", "(II)Z"⟩ : Cond) ∈ BW := inBW (mt2 (List.mem_of_getElem? (i := 178) rfl)) rfl
theorem ks_213 : (.selects "AddressBook$Stays" ⟨"AddressBook$Stays", "isLeftShortlyBefore", "(II)Z"⟩ ⟨"AddressBook$Stays", "isLeftShortlyBefore", "(II)Z"⟩ : Cond) ∈ BW := inBW (by decide +kernel) rfl
theorem k2_183 : (.code ⟨"AddressBook$Stays", "isLeftLater", "(II)Z"⟩ prog_5_method_8_code 3 (some .boolean) : Cond) ∈ BW := inBW (mt2 (List.mem_of_getElem? (i := 183) rfl)) rfl
theorem k2_182 : (.instanceMethod ⟨"AddressBook$Stays", "isLeftLater", "(II)Z"⟩ : Cond) ∈ BW := inBW (mt2 (List.mem_of_getElem? (i := 182) rfl)) rfl
theorem ks_216 : (.selects "AddressBook$Stays" ⟨"AddressBook$Stays", "isLeftLater", "(II)Z"⟩ ⟨"AddressBook$Stays", "isLeftLater", "(II)Z"⟩ : Cond) ∈ BW := inBW (by decide +kernel) rfl
theorem k2_159 : (.code ⟨"AddressBook", "isDay", "(I)Z"⟩ prog_1_method_33_code 1 (some .boolean) : Cond) ∈ BW := inBW (mt2 (List.mem_of_getElem? (i := 159) rfl)) rfl
theorem k2_157 : (.methodLink "AddressBook" 161 ⟨"AddressBook", "isDay", "(I)Z"⟩ : Cond) ∈ BW := inBW (mt2 (List.mem_of_getElem? (i := 157) rfl)) rfl
theorem k2_158 : (.static ⟨"AddressBook", "isDay", "(I)Z"⟩ : Cond) ∈ BW := inBW (mt2 (List.mem_of_getElem? (i := 158) rfl)) rfl
theorem k2_163 : (.code ⟨"AddressBook", "lyingAt", "(IIII)I"⟩ prog_1_method_26_code 6 (some .int) : Cond) ∈ BW := inBW (mt2 (List.mem_of_getElem? (i := 163) rfl)) rfl
theorem k2_160 : (.methodLink "AddressBook" 164 ⟨"AddressBook", "lyingAt", "(IIII)I"⟩ : Cond) ∈ BW := inBW (mt2 (List.mem_of_getElem? (i := 160) rfl)) rfl
theorem k2_162 : (.instanceMethod ⟨"AddressBook", "lyingAt", "(IIII)I"⟩ : Cond) ∈ BW := inBW (mt2 (List.mem_of_getElem? (i := 162) rfl)) rfl
theorem ks_223 : (.selects "AddressBook" ⟨"AddressBook", "lyingAt", "(IIII)I"⟩ ⟨"AddressBook", "lyingAt", "(IIII)I"⟩ : Cond) ∈ BW := inBW (by decide +kernel) rfl
theorem k2_175 : (.code ⟨"AddressBook", "lastToLeave", "(IIII)I"⟩ prog_1_method_27_code 7 (some .int) : Cond) ∈ BW := inBW (mt2 (List.mem_of_getElem? (i := 175) rfl)) rfl
theorem k2_172 : (.methodLink "AddressBook" 167 ⟨"AddressBook", "lastToLeave", "(IIII)I"⟩ : Cond) ∈ BW := inBW (mt2 (List.mem_of_getElem? (i := 172) rfl)) rfl
theorem k2_174 : (.instanceMethod ⟨"AddressBook", "lastToLeave", "(IIII)I"⟩ : Cond) ∈ BW := inBW (mt2 (List.mem_of_getElem? (i := 174) rfl)) rfl
theorem ks_227 : (.selects "AddressBook" ⟨"AddressBook", "lastToLeave", "(IIII)I"⟩ ⟨"AddressBook", "lastToLeave", "(IIII)I"⟩ : Cond) ∈ BW := inBW (by decide +kernel) rfl
theorem k2_192 : (.methodLink "AddressBook" 260 ⟨"java/lang/Math", "abs", "(I)I"⟩ : Cond) ∈ BW := inBW (mt2 (List.mem_of_getElem? (i := 192) rfl)) rfl
theorem k2_193 : (.static ⟨"java/lang/Math", "abs", "(I)I"⟩ : Cond) ∈ BW := inBW (mt2 (List.mem_of_getElem? (i := 193) rfl)) rfl
theorem km_abs : (.code Lib.Math.abs.name Lib.Math.abs.code 1 (some .int) : Cond) ∈ BW := inBW (mt2 (List.mem_of_getElem? (i := 194) (by decide +kernel))) rfl
theorem k2_191 : (.code ⟨"AddressBook", "isNearer", "(III)Z"⟩ prog_1_method_29_code 6 (some .boolean) : Cond) ∈ BW := inBW (mt2 (List.mem_of_getElem? (i := 191) rfl)) rfl
theorem k2_188 : (.methodLink "AddressBook" 176 ⟨"AddressBook", "isNearer", "(III)Z"⟩ : Cond) ∈ BW := inBW (mt2 (List.mem_of_getElem? (i := 188) rfl)) rfl
theorem k2_190 : (.instanceMethod ⟨"AddressBook", "isNearer", "(III)Z"⟩ : Cond) ∈ BW := inBW (mt2 (List.mem_of_getElem? (i := 190) rfl)) rfl
theorem ks_234 : (.selects "AddressBook" ⟨"AddressBook", "isNearer", "(III)Z"⟩ ⟨"AddressBook", "isNearer", "(III)Z"⟩ : Cond) ∈ BW := inBW (by decide +kernel) rfl
theorem k2_202 : (.code ⟨"AddressBook", "isEarlierOnRound", "(II)Z"⟩ prog_1_method_30_code 5 (some .boolean) : Cond) ∈ BW := inBW (mt2 (List.mem_of_getElem? (i := 202) rfl)) rfl
theorem k2_199 : (.methodLink "AddressBook" 184 ⟨"AddressBook", "isEarlierOnRound", "(II)Z"⟩ : Cond) ∈ BW := inBW (mt2 (List.mem_of_getElem? (i := 199) rfl)) rfl
theorem k2_201 : (.instanceMethod ⟨"AddressBook", "isEarlierOnRound", "(II)Z"⟩ : Cond) ∈ BW := inBW (mt2 (List.mem_of_getElem? (i := 201) rfl)) rfl
theorem ks_238 : (.selects "AddressBook" ⟨"AddressBook", "isEarlierOnRound", "(II)Z"⟩ ⟨"AddressBook", "isEarlierOnRound", "(II)Z"⟩ : Cond) ∈ BW := inBW (by decide +kernel) rfl
theorem k1_154 : (.fieldLink "AddressBook" 44 "AddressBook" "taken" "[Z" : Cond) ∈ BW := inBW (mt1 (List.mem_of_getElem? (i := 154) rfl)) rfl
theorem k2_210 : (.code ⟨"AddressBook$Ranges", "housesOf", "(I)I"⟩ prog_4_method_11_code 5 (some .int) : Cond) ∈ BW := inBW (mt2 (List.mem_of_getElem? (i := 210) rfl)) rfl
theorem k2_209 : (.instanceMethod ⟨"AddressBook$Ranges", "housesOf", "(I)I"⟩ : Cond) ∈ BW := inBW (mt2 (List.mem_of_getElem? (i := 209) rfl)) rfl
theorem ks_242 : (.selects "AddressBook$Ranges" ⟨"AddressBook$Ranges", "housesOf", "(I)I"⟩ ⟨"AddressBook$Ranges", "housesOf", "(I)I"⟩ : Cond) ∈ BW := inBW (by decide +kernel) rfl
theorem k2_214 : (.code ⟨"AddressBook", "housesWithPoint", "(I)I"⟩ prog_1_method_31_code 4 (some .int) : Cond) ∈ BW := inBW (mt2 (List.mem_of_getElem? (i := 214) rfl)) rfl
theorem k2_211 : (.methodLink "AddressBook" 190 ⟨"AddressBook", "housesWithPoint", "(I)I"⟩ : Cond) ∈ BW := inBW (mt2 (List.mem_of_getElem? (i := 211) rfl)) rfl
theorem k2_213 : (.instanceMethod ⟨"AddressBook", "housesWithPoint", "(I)I"⟩ : Cond) ∈ BW := inBW (mt2 (List.mem_of_getElem? (i := 213) rfl)) rfl
theorem ks_246 : (.selects "AddressBook" ⟨"AddressBook", "housesWithPoint", "(I)I"⟩ ⟨"AddressBook", "housesWithPoint", "(I)I"⟩ : Cond) ∈ BW := inBW (by decide +kernel) rfl
theorem k2_222 : (.code ⟨"AddressBook$Stays", "ofPointOn", "(II)I"⟩ prog_5_method_6_code 4 (some .int) : Cond) ∈ BW := inBW (mt2 (List.mem_of_getElem? (i := 222) rfl)) rfl
theorem k2_221 : (.instanceMethod ⟨"AddressBook$Stays", "ofPointOn", "(II)I"⟩ : Cond) ∈ BW := inBW (mt2 (List.mem_of_getElem? (i := 221) rfl)) rfl
theorem ks_249 : (.selects "AddressBook$Stays" ⟨"AddressBook$Stays", "ofPointOn", "(II)I"⟩ ⟨"AddressBook$Stays", "ofPointOn", "(II)I"⟩ : Cond) ∈ BW := inBW (by decide +kernel) rfl
theorem k2_230 : (.code ⟨"AddressBook", "howManyTrue", "([Z)I"⟩ prog_1_method_42_code 3 (some .int) : Cond) ∈ BW := inBW (mt2 (List.mem_of_getElem? (i := 230) rfl)) rfl
theorem k2_228 : (.methodLink "AddressBook" 207 ⟨"AddressBook", "howManyTrue", "([Z)I"⟩ : Cond) ∈ BW := inBW (mt2 (List.mem_of_getElem? (i := 228) rfl)) rfl
theorem k2_229 : (.static ⟨"AddressBook", "howManyTrue", "([Z)I"⟩ : Cond) ∈ BW := inBW (mt2 (List.mem_of_getElem? (i := 229) rfl)) rfl
theorem k1_22 : (.methodLink "AddressBook$Places" 3 ⟨"java/lang/Object", "<init>", "()V"⟩ : Cond) ∈ BW := inBW (mt1 (List.mem_of_getElem? (i := 22) rfl)) rfl
theorem k1_15 : (.instanceMethod ⟨"java/lang/Object", "<init>", "()V"⟩ : Cond) ∈ BW := inBW (mt1 (List.mem_of_getElem? (i := 15) rfl)) rfl
theorem km_obj : (.code objectInit ⟨#[0xb1]⟩ 1 none : Cond) ∈ BW := inBW (mt1 (List.mem_of_getElem? (i := 16) (by decide +kernel))) rfl
theorem k1_31 : (.arrayClass .int : Cond) ∈ BW := inBW (mt1 (List.mem_of_getElem? (i := 31) rfl)) rfl
theorem k1_37 : (.methodLink "AddressBook$Streets" 3 ⟨"java/lang/Object", "<init>", "()V"⟩ : Cond) ∈ BW := inBW (mt1 (List.mem_of_getElem? (i := 37) rfl)) rfl
theorem k1_58 : (.arrayClass .boolean : Cond) ∈ BW := inBW (mt1 (List.mem_of_getElem? (i := 58) rfl)) rfl
theorem k1_64 : (.methodLink "AddressBook$Ranges" 3 ⟨"java/lang/Object", "<init>", "()V"⟩ : Cond) ∈ BW := inBW (mt1 (List.mem_of_getElem? (i := 64) rfl)) rfl
theorem k1_94 : (.methodLink "AddressBook$Points" 3 ⟨"java/lang/Object", "<init>", "()V"⟩ : Cond) ∈ BW := inBW (mt1 (List.mem_of_getElem? (i := 94) rfl)) rfl
theorem k1_101 : (.fieldLink "AddressBook$Points" 21 "AddressBook$Points" "stay" "[I" : Cond) ∈ BW := inBW (mt1 (List.mem_of_getElem? (i := 101) rfl)) rfl
theorem k1_125 : (.methodLink "AddressBook$Stays" 3 ⟨"java/lang/Object", "<init>", "()V"⟩ : Cond) ∈ BW := inBW (mt1 (List.mem_of_getElem? (i := 125) rfl)) rfl
theorem k1_14 : (.methodLink "AddressBook" 3 ⟨"java/lang/Object", "<init>", "()V"⟩ : Cond) ∈ BW := inBW (mt1 (List.mem_of_getElem? (i := 14) rfl)) rfl
theorem k1_17 : (.classLink "AddressBook" 9 "AddressBook$Places" : Cond) ∈ BW := inBW (mt1 (List.mem_of_getElem? (i := 17) rfl)) rfl
theorem k1_18 : (.instantiable "AddressBook$Places" 2 : Cond) ∈ BW := inBW (mt1 (List.mem_of_getElem? (i := 18) rfl)) rfl
theorem k1_21 : (.code ⟨"AddressBook$Places", "<init>", "()V"⟩ prog_2_method_1_code 1 (none : Option Jvm.ClassFile.FieldType) : Cond) ∈ BW := inBW (mt1 (List.mem_of_getElem? (i := 21) rfl)) rfl
theorem k1_20 : (.instanceMethod ⟨"AddressBook$Places", "<init>", "()V"⟩ : Cond) ∈ BW := inBW (mt1 (List.mem_of_getElem? (i := 20) rfl)) rfl
theorem k1_32 : (.classLink "AddressBook" 16 "AddressBook$Streets" : Cond) ∈ BW := inBW (mt1 (List.mem_of_getElem? (i := 32) rfl)) rfl
theorem k1_33 : (.instantiable "AddressBook$Streets" 6 : Cond) ∈ BW := inBW (mt1 (List.mem_of_getElem? (i := 33) rfl)) rfl
theorem k1_36 : (.code ⟨"AddressBook$Streets", "<init>", "()V"⟩ prog_6_method_1_code 1 (none : Option Jvm.ClassFile.FieldType) : Cond) ∈ BW := inBW (mt1 (List.mem_of_getElem? (i := 36) rfl)) rfl
theorem k1_35 : (.instanceMethod ⟨"AddressBook$Streets", "<init>", "()V"⟩ : Cond) ∈ BW := inBW (mt1 (List.mem_of_getElem? (i := 35) rfl)) rfl
theorem k1_59 : (.classLink "AddressBook" 23 "AddressBook$Ranges" : Cond) ∈ BW := inBW (mt1 (List.mem_of_getElem? (i := 59) rfl)) rfl
theorem k1_60 : (.instantiable "AddressBook$Ranges" 6 : Cond) ∈ BW := inBW (mt1 (List.mem_of_getElem? (i := 60) rfl)) rfl
theorem k1_63 : (.code ⟨"AddressBook$Ranges", "<init>", "()V"⟩ prog_4_method_1_code 1 (none : Option Jvm.ClassFile.FieldType) : Cond) ∈ BW := inBW (mt1 (List.mem_of_getElem? (i := 63) rfl)) rfl
theorem k1_62 : (.instanceMethod ⟨"AddressBook$Ranges", "<init>", "()V"⟩ : Cond) ∈ BW := inBW (mt1 (List.mem_of_getElem? (i := 62) rfl)) rfl
theorem k1_89 : (.classLink "AddressBook" 30 "AddressBook$Points" : Cond) ∈ BW := inBW (mt1 (List.mem_of_getElem? (i := 89) rfl)) rfl
theorem k1_90 : (.instantiable "AddressBook$Points" 6 : Cond) ∈ BW := inBW (mt1 (List.mem_of_getElem? (i := 90) rfl)) rfl
theorem k1_93 : (.code ⟨"AddressBook$Points", "<init>", "()V"⟩ prog_3_method_1_code 1 (none : Option Jvm.ClassFile.FieldType) : Cond) ∈ BW := inBW (mt1 (List.mem_of_getElem? (i := 93) rfl)) rfl
theorem k1_92 : (.instanceMethod ⟨"AddressBook$Points", "<init>", "()V"⟩ : Cond) ∈ BW := inBW (mt1 (List.mem_of_getElem? (i := 92) rfl)) rfl
theorem k1_120 : (.classLink "AddressBook" 37 "AddressBook$Stays" : Cond) ∈ BW := inBW (mt1 (List.mem_of_getElem? (i := 120) rfl)) rfl
theorem k1_121 : (.instantiable "AddressBook$Stays" 6 : Cond) ∈ BW := inBW (mt1 (List.mem_of_getElem? (i := 121) rfl)) rfl
theorem k1_124 : (.code ⟨"AddressBook$Stays", "<init>", "()V"⟩ prog_5_method_1_code 1 (none : Option Jvm.ClassFile.FieldType) : Cond) ∈ BW := inBW (mt1 (List.mem_of_getElem? (i := 124) rfl)) rfl
theorem k1_123 : (.instanceMethod ⟨"AddressBook$Stays", "<init>", "()V"⟩ : Cond) ∈ BW := inBW (mt1 (List.mem_of_getElem? (i := 123) rfl)) rfl
theorem k2_237 : (.fieldLink "AddressBookModel" 68 "AddressBookModel" "day" "I" : Cond) ∈ BW := inBW (mt2 (List.mem_of_getElem? (i := 237) rfl)) rfl
theorem k3_109 : (.constant "AddressBookModel" 72 1000000 : Cond) ∈ BW := inBW (mt3 (List.mem_of_getElem? (i := 109) rfl)) rfl
theorem k3_80 : (.code ⟨"AddressBookModel", "in", "(III)Z"⟩ prog_8_method_3_code 3 (some .boolean) : Cond) ∈ BW := inBW (mt3 (List.mem_of_getElem? (i := 80) rfl)) rfl
theorem k1_7 : (.initialized "AddressBookModel" : Cond) ∈ BW := inBW (mt1 (List.mem_of_getElem? (i := 7) rfl)) rfl
theorem k3_78 : (.methodLink "AddressBookModel" 73 ⟨"AddressBookModel", "in", "(III)Z"⟩ : Cond) ∈ BW := inBW (mt3 (List.mem_of_getElem? (i := 78) rfl)) rfl
theorem k3_79 : (.static ⟨"AddressBookModel", "in", "(III)Z"⟩ : Cond) ∈ BW := inBW (mt3 (List.mem_of_getElem? (i := 79) rfl)) rfl
theorem k2_238 : (.fieldLink "AddressBookModel" 82 "AddressBookModel" "places" "I" : Cond) ∈ BW := inBW (mt2 (List.mem_of_getElem? (i := 238) rfl)) rfl
theorem k2_239 : (.fieldLink "AddressBookModel" 7 "AddressBookModel" "codes" "[I" : Cond) ∈ BW := inBW (mt2 (List.mem_of_getElem? (i := 239) rfl)) rfl
theorem k3_77 : (.constant "AddressBookModel" 77 99999 : Cond) ∈ BW := inBW (mt3 (List.mem_of_getElem? (i := 77) rfl)) rfl
theorem k3_84 : (.code ⟨"AddressBookModel", "placeWith", "(I)I"⟩ prog_8_method_6_code 3 (some .int) : Cond) ∈ BW := inBW (mt3 (List.mem_of_getElem? (i := 84) rfl)) rfl
theorem k3_81 : (.methodLink "AddressBookModel" 78 ⟨"AddressBookModel", "placeWith", "(I)I"⟩ : Cond) ∈ BW := inBW (mt3 (List.mem_of_getElem? (i := 81) rfl)) rfl
theorem k3_83 : (.instanceMethod ⟨"AddressBookModel", "placeWith", "(I)I"⟩ : Cond) ∈ BW := inBW (mt3 (List.mem_of_getElem? (i := 83) rfl)) rfl
theorem ks_296 : (.selects "AddressBookModel" ⟨"AddressBookModel", "placeWith", "(I)I"⟩ ⟨"AddressBookModel", "placeWith", "(I)I"⟩ : Cond) ∈ BW := inBW (by decide +kernel) rfl
theorem k3_0 : (.fieldLink "AddressBookModel" 85 "AddressBookModel" "streets" "I" : Cond) ∈ BW := inBW (mt3 (List.mem_of_getElem? (i := 0) rfl)) rfl
theorem k3_1 : (.fieldLink "AddressBookModel" 13 "AddressBookModel" "placeOf" "[I" : Cond) ∈ BW := inBW (mt3 (List.mem_of_getElem? (i := 1) rfl)) rfl
theorem k3_2 : (.fieldLink "AddressBookModel" 16 "AddressBookModel" "streetNames" "[I" : Cond) ∈ BW := inBW (mt3 (List.mem_of_getElem? (i := 2) rfl)) rfl
theorem k3_92 : (.code ⟨"AddressBookModel", "streetWith", "(II)I"⟩ prog_8_method_7_code 4 (some .int) : Cond) ∈ BW := inBW (mt3 (List.mem_of_getElem? (i := 92) rfl)) rfl
theorem k3_89 : (.methodLink "AddressBookModel" 88 ⟨"AddressBookModel", "streetWith", "(II)I"⟩ : Cond) ∈ BW := inBW (mt3 (List.mem_of_getElem? (i := 89) rfl)) rfl
theorem k3_91 : (.instanceMethod ⟨"AddressBookModel", "streetWith", "(II)I"⟩ : Cond) ∈ BW := inBW (mt3 (List.mem_of_getElem? (i := 91) rfl)) rfl
theorem ks_303 : (.selects "AddressBookModel" ⟨"AddressBookModel", "streetWith", "(II)I"⟩ ⟨"AddressBookModel", "streetWith", "(II)I"⟩ : Cond) ∈ BW := inBW (by decide +kernel) rfl
theorem k3_3 : (.fieldLink "AddressBookModel" 19 "AddressBookModel" "into" "[I" : Cond) ∈ BW := inBW (mt3 (List.mem_of_getElem? (i := 3) rfl)) rfl
theorem k3_4 : (.fieldLink "AddressBookModel" 22 "AddressBookModel" "goneDay" "[I" : Cond) ∈ BW := inBW (mt3 (List.mem_of_getElem? (i := 4) rfl)) rfl
theorem k3_8 : (.fieldLink "AddressBookModel" 31 "AddressBookModel" "lows" "[I" : Cond) ∈ BW := inBW (mt3 (List.mem_of_getElem? (i := 8) rfl)) rfl
theorem k3_9 : (.fieldLink "AddressBookModel" 34 "AddressBookModel" "highs" "[I" : Cond) ∈ BW := inBW (mt3 (List.mem_of_getElem? (i := 9) rfl)) rfl
theorem k3_7 : (.fieldLink "AddressBookModel" 28 "AddressBookModel" "sides" "[I" : Cond) ∈ BW := inBW (mt3 (List.mem_of_getElem? (i := 7) rfl)) rfl
theorem k3_112 : (.code ⟨"AddressBookModel", "isOfSide", "(II)Z"⟩ prog_8_method_12_code 2 (some .boolean) : Cond) ∈ BW := inBW (mt3 (List.mem_of_getElem? (i := 112) rfl)) rfl
theorem k3_110 : (.methodLink "AddressBookModel" 92 ⟨"AddressBookModel", "isOfSide", "(II)Z"⟩ : Cond) ∈ BW := inBW (mt3 (List.mem_of_getElem? (i := 110) rfl)) rfl
theorem k3_111 : (.static ⟨"AddressBookModel", "isOfSide", "(II)Z"⟩ : Cond) ∈ BW := inBW (mt3 (List.mem_of_getElem? (i := 111) rfl)) rfl
theorem k3_120 : (.code ⟨"AddressBookModel", "has", "(II)Z"⟩ prog_8_method_13_code 3 (some .boolean) : Cond) ∈ BW := inBW (mt3 (List.mem_of_getElem? (i := 120) rfl)) rfl
theorem k3_117 : (.methodLink "AddressBookModel" 96 ⟨"AddressBookModel", "has", "(II)Z"⟩ : Cond) ∈ BW := inBW (mt3 (List.mem_of_getElem? (i := 117) rfl)) rfl
theorem k3_119 : (.instanceMethod ⟨"AddressBookModel", "has", "(II)Z"⟩ : Cond) ∈ BW := inBW (mt3 (List.mem_of_getElem? (i := 119) rfl)) rfl
theorem ks_315 : (.selects "AddressBookModel" ⟨"AddressBookModel", "has", "(II)Z"⟩ ⟨"AddressBookModel", "has", "(II)Z"⟩ : Cond) ∈ BW := inBW (by decide +kernel) rfl
theorem k3_5 : (.fieldLink "AddressBookModel" 99 "AddressBookModel" "ranges" "I" : Cond) ∈ BW := inBW (mt3 (List.mem_of_getElem? (i := 5) rfl)) rfl
theorem k3_6 : (.fieldLink "AddressBookModel" 25 "AddressBookModel" "streetOf" "[I" : Cond) ∈ BW := inBW (mt3 (List.mem_of_getElem? (i := 6) rfl)) rfl
theorem k3_10 : (.fieldLink "AddressBookModel" 37 "AddressBookModel" "isOpen" "[Z" : Cond) ∈ BW := inBW (mt3 (List.mem_of_getElem? (i := 10) rfl)) rfl
theorem k3_104 : (.code ⟨"AddressBookModel", "isStreet", "(I)Z"⟩ prog_8_method_10_code 2 (some .boolean) : Cond) ∈ BW := inBW (mt3 (List.mem_of_getElem? (i := 104) rfl)) rfl
theorem k3_101 : (.methodLink "AddressBookModel" 102 ⟨"AddressBookModel", "isStreet", "(I)Z"⟩ : Cond) ∈ BW := inBW (mt3 (List.mem_of_getElem? (i := 101) rfl)) rfl
theorem k3_103 : (.instanceMethod ⟨"AddressBookModel", "isStreet", "(I)Z"⟩ : Cond) ∈ BW := inBW (mt3 (List.mem_of_getElem? (i := 103) rfl)) rfl
theorem ks_322 : (.selects "AddressBookModel" ⟨"AddressBookModel", "isStreet", "(I)Z"⟩ ⟨"AddressBookModel", "isStreet", "(I)Z"⟩ : Cond) ∈ BW := inBW (by decide +kernel) rfl
theorem k3_108 : (.code ⟨"AddressBookModel", "isDay", "(I)Z"⟩ prog_8_method_4_code 2 (some .boolean) : Cond) ∈ BW := inBW (mt3 (List.mem_of_getElem? (i := 108) rfl)) rfl
theorem k3_105 : (.methodLink "AddressBookModel" 106 ⟨"AddressBookModel", "isDay", "(I)Z"⟩ : Cond) ∈ BW := inBW (mt3 (List.mem_of_getElem? (i := 105) rfl)) rfl
theorem k3_107 : (.instanceMethod ⟨"AddressBookModel", "isDay", "(I)Z"⟩ : Cond) ∈ BW := inBW (mt3 (List.mem_of_getElem? (i := 107) rfl)) rfl
theorem ks_326 : (.selects "AddressBookModel" ⟨"AddressBookModel", "isDay", "(I)Z"⟩ ⟨"AddressBookModel", "isDay", "(I)Z"⟩ : Cond) ∈ BW := inBW (by decide +kernel) rfl
theorem k3_124 : (.code ⟨"AddressBookModel", "addRange", "(IIII)V"⟩ prog_8_method_18_code 5 (none : Option Jvm.ClassFile.FieldType) : Cond) ∈ BW := inBW (mt3 (List.mem_of_getElem? (i := 124) rfl)) rfl
theorem k3_121 : (.methodLink "AddressBookModel" 113 ⟨"AddressBookModel", "addRange", "(IIII)V"⟩ : Cond) ∈ BW := inBW (mt3 (List.mem_of_getElem? (i := 121) rfl)) rfl
theorem k3_123 : (.instanceMethod ⟨"AddressBookModel", "addRange", "(IIII)V"⟩ : Cond) ∈ BW := inBW (mt3 (List.mem_of_getElem? (i := 123) rfl)) rfl
theorem ks_330 : (.selects "AddressBookModel" ⟨"AddressBookModel", "addRange", "(IIII)V"⟩ ⟨"AddressBookModel", "addRange", "(IIII)V"⟩ : Cond) ∈ BW := inBW (by decide +kernel) rfl
theorem k3_116 : (.code ⟨"AddressBookModel", "isOver", "(IIII)Z"⟩ prog_8_method_16_code 6 (some .boolean) : Cond) ∈ BW := inBW (mt3 (List.mem_of_getElem? (i := 116) rfl)) rfl
theorem k3_113 : (.methodLink "AddressBookModel" 109 ⟨"AddressBookModel", "isOver", "(IIII)Z"⟩ : Cond) ∈ BW := inBW (mt3 (List.mem_of_getElem? (i := 113) rfl)) rfl
theorem k3_115 : (.instanceMethod ⟨"AddressBookModel", "isOver", "(IIII)Z"⟩ : Cond) ∈ BW := inBW (mt3 (List.mem_of_getElem? (i := 115) rfl)) rfl
theorem ks_334 : (.selects "AddressBookModel" ⟨"AddressBookModel", "isOver", "(IIII)Z"⟩ ⟨"AddressBookModel", "isOver", "(IIII)Z"⟩ : Cond) ∈ BW := inBW (by decide +kernel) rfl
theorem k3_11 : (.fieldLink "AddressBookModel" 117 "AddressBookModel" "points" "I" : Cond) ∈ BW := inBW (mt3 (List.mem_of_getElem? (i := 11) rfl)) rfl
theorem k3_15 : (.fieldLink "AddressBookModel" 120 "AddressBookModel" "stays" "I" : Cond) ∈ BW := inBW (mt3 (List.mem_of_getElem? (i := 15) rfl)) rfl
theorem k3_16 : (.fieldLink "AddressBookModel" 50 "AddressBookModel" "stayPoint" "[I" : Cond) ∈ BW := inBW (mt3 (List.mem_of_getElem? (i := 16) rfl)) rfl
theorem k3_18 : (.fieldLink "AddressBookModel" 56 "AddressBookModel" "stayHouse" "[I" : Cond) ∈ BW := inBW (mt3 (List.mem_of_getElem? (i := 18) rfl)) rfl
theorem k3_144 : (.code ⟨"AddressBookModel", "stayOf", "(I)I"⟩ prog_8_method_21_code 3 (some .int) : Cond) ∈ BW := inBW (mt3 (List.mem_of_getElem? (i := 144) rfl)) rfl
theorem k3_141 : (.methodLink "AddressBookModel" 123 ⟨"AddressBookModel", "stayOf", "(I)I"⟩ : Cond) ∈ BW := inBW (mt3 (List.mem_of_getElem? (i := 141) rfl)) rfl
theorem k3_143 : (.instanceMethod ⟨"AddressBookModel", "stayOf", "(I)I"⟩ : Cond) ∈ BW := inBW (mt3 (List.mem_of_getElem? (i := 143) rfl)) rfl
theorem ks_342 : (.selects "AddressBookModel" ⟨"AddressBookModel", "stayOf", "(I)I"⟩ ⟨"AddressBookModel", "stayOf", "(I)I"⟩ : Cond) ∈ BW := inBW (by decide +kernel) rfl
theorem k3_17 : (.fieldLink "AddressBookModel" 53 "AddressBookModel" "stayStreet" "[I" : Cond) ∈ BW := inBW (mt3 (List.mem_of_getElem? (i := 17) rfl)) rfl
theorem k3_19 : (.fieldLink "AddressBookModel" 59 "AddressBookModel" "stayFrom" "[I" : Cond) ∈ BW := inBW (mt3 (List.mem_of_getElem? (i := 19) rfl)) rfl
theorem k3_20 : (.fieldLink "AddressBookModel" 62 "AddressBookModel" "stayTo" "[I" : Cond) ∈ BW := inBW (mt3 (List.mem_of_getElem? (i := 20) rfl)) rfl
theorem k3_149 : (.constant "AddressBookModel" 126 1000000000 : Cond) ∈ BW := inBW (mt3 (List.mem_of_getElem? (i := 149) rfl)) rfl
theorem k3_21 : (.fieldLink "AddressBookModel" 65 "AddressBookModel" "movedOn" "[Z" : Cond) ∈ BW := inBW (mt3 (List.mem_of_getElem? (i := 21) rfl)) rfl
theorem k3_14 : (.fieldLink "AddressBookModel" 47 "AddressBookModel" "lives" "[Z" : Cond) ∈ BW := inBW (mt3 (List.mem_of_getElem? (i := 14) rfl)) rfl
theorem k3_12 : (.fieldLink "AddressBookModel" 41 "AddressBookModel" "rangeOf" "[I" : Cond) ∈ BW := inBW (mt3 (List.mem_of_getElem? (i := 12) rfl)) rfl
theorem k3_13 : (.fieldLink "AddressBookModel" 44 "AddressBookModel" "extras" "[I" : Cond) ∈ BW := inBW (mt3 (List.mem_of_getElem? (i := 13) rfl)) rfl
theorem k3_140 : (.code ⟨"AddressBookModel", "houseOf", "(I)I"⟩ prog_8_method_22_code 2 (some .int) : Cond) ∈ BW := inBW (mt3 (List.mem_of_getElem? (i := 140) rfl)) rfl
theorem k3_137 : (.methodLink "AddressBookModel" 127 ⟨"AddressBookModel", "houseOf", "(I)I"⟩ : Cond) ∈ BW := inBW (mt3 (List.mem_of_getElem? (i := 137) rfl)) rfl
theorem k3_139 : (.instanceMethod ⟨"AddressBookModel", "houseOf", "(I)I"⟩ : Cond) ∈ BW := inBW (mt3 (List.mem_of_getElem? (i := 139) rfl)) rfl
theorem ks_354 : (.selects "AddressBookModel" ⟨"AddressBookModel", "houseOf", "(I)I"⟩ ⟨"AddressBookModel", "houseOf", "(I)I"⟩ : Cond) ∈ BW := inBW (by decide +kernel) rfl
theorem k3_132 : (.code ⟨"AddressBookModel", "isRange", "(I)Z"⟩ prog_8_method_17_code 2 (some .boolean) : Cond) ∈ BW := inBW (mt3 (List.mem_of_getElem? (i := 132) rfl)) rfl
theorem k3_129 : (.methodLink "AddressBookModel" 130 ⟨"AddressBookModel", "isRange", "(I)Z"⟩ : Cond) ∈ BW := inBW (mt3 (List.mem_of_getElem? (i := 129) rfl)) rfl
theorem k3_131 : (.instanceMethod ⟨"AddressBookModel", "isRange", "(I)Z"⟩ : Cond) ∈ BW := inBW (mt3 (List.mem_of_getElem? (i := 131) rfl)) rfl
theorem ks_358 : (.selects "AddressBookModel" ⟨"AddressBookModel", "isRange", "(I)Z"⟩ ⟨"AddressBookModel", "isRange", "(I)Z"⟩ : Cond) ∈ BW := inBW (by decide +kernel) rfl
theorem k3_136 : (.code ⟨"AddressBookModel", "pointWith", "(III)I"⟩ prog_8_method_25_code 5 (some .int) : Cond) ∈ BW := inBW (mt3 (List.mem_of_getElem? (i := 136) rfl)) rfl
theorem k3_133 : (.methodLink "AddressBookModel" 133 ⟨"AddressBookModel", "pointWith", "(III)I"⟩ : Cond) ∈ BW := inBW (mt3 (List.mem_of_getElem? (i := 133) rfl)) rfl
theorem k3_135 : (.instanceMethod ⟨"AddressBookModel", "pointWith", "(III)I"⟩ : Cond) ∈ BW := inBW (mt3 (List.mem_of_getElem? (i := 135) rfl)) rfl
theorem ks_362 : (.selects "AddressBookModel" ⟨"AddressBookModel", "pointWith", "(III)I"⟩ ⟨"AddressBookModel", "pointWith", "(III)I"⟩ : Cond) ∈ BW := inBW (by decide +kernel) rfl
theorem k3_148 : (.code ⟨"AddressBookModel", "stay", "(III)V"⟩ prog_8_method_23_code 4 (none : Option Jvm.ClassFile.FieldType) : Cond) ∈ BW := inBW (mt3 (List.mem_of_getElem? (i := 148) rfl)) rfl
theorem k3_145 : (.methodLink "AddressBookModel" 137 ⟨"AddressBookModel", "stay", "(III)V"⟩ : Cond) ∈ BW := inBW (mt3 (List.mem_of_getElem? (i := 145) rfl)) rfl
theorem k3_147 : (.instanceMethod ⟨"AddressBookModel", "stay", "(III)V"⟩ : Cond) ∈ BW := inBW (mt3 (List.mem_of_getElem? (i := 147) rfl)) rfl
theorem ks_366 : (.selects "AddressBookModel" ⟨"AddressBookModel", "stay", "(III)V"⟩ ⟨"AddressBookModel", "stay", "(III)V"⟩ : Cond) ∈ BW := inBW (by decide +kernel) rfl
theorem k3_173 : (.code ⟨"AddressBookModel", "endStay", "(IZ)V"⟩ prog_8_method_24_code 4 (none : Option Jvm.ClassFile.FieldType) : Cond) ∈ BW := inBW (mt3 (List.mem_of_getElem? (i := 173) rfl)) rfl
theorem k3_170 : (.methodLink "AddressBookModel" 141 ⟨"AddressBookModel", "endStay", "(IZ)V"⟩ : Cond) ∈ BW := inBW (mt3 (List.mem_of_getElem? (i := 170) rfl)) rfl
theorem k3_172 : (.instanceMethod ⟨"AddressBookModel", "endStay", "(IZ)V"⟩ : Cond) ∈ BW := inBW (mt3 (List.mem_of_getElem? (i := 172) rfl)) rfl
theorem ks_370 : (.selects "AddressBookModel" ⟨"AddressBookModel", "endStay", "(IZ)V"⟩ ⟨"AddressBookModel", "endStay", "(IZ)V"⟩ : Cond) ∈ BW := inBW (by decide +kernel) rfl
theorem k3_165 : (.code ⟨"AddressBookModel", "highest", "(I)I"⟩ prog_8_method_15_code 2 (some .int) : Cond) ∈ BW := inBW (mt3 (List.mem_of_getElem? (i := 165) rfl)) rfl
theorem k3_162 : (.methodLink "AddressBookModel" 145 ⟨"AddressBookModel", "highest", "(I)I"⟩ : Cond) ∈ BW := inBW (mt3 (List.mem_of_getElem? (i := 162) rfl)) rfl
theorem k3_164 : (.instanceMethod ⟨"AddressBookModel", "highest", "(I)I"⟩ : Cond) ∈ BW := inBW (mt3 (List.mem_of_getElem? (i := 164) rfl)) rfl
theorem ks_374 : (.selects "AddressBookModel" ⟨"AddressBookModel", "highest", "(I)I"⟩ ⟨"AddressBookModel", "highest", "(I)I"⟩ : Cond) ∈ BW := inBW (by decide +kernel) rfl
theorem k3_161 : (.code ⟨"AddressBookModel", "lowest", "(I)I"⟩ prog_8_method_14_code 2 (some .int) : Cond) ∈ BW := inBW (mt3 (List.mem_of_getElem? (i := 161) rfl)) rfl
theorem k3_158 : (.methodLink "AddressBookModel" 148 ⟨"AddressBookModel", "lowest", "(I)I"⟩ : Cond) ∈ BW := inBW (mt3 (List.mem_of_getElem? (i := 158) rfl)) rfl
theorem k3_160 : (.instanceMethod ⟨"AddressBookModel", "lowest", "(I)I"⟩ : Cond) ∈ BW := inBW (mt3 (List.mem_of_getElem? (i := 160) rfl)) rfl
theorem ks_378 : (.selects "AddressBookModel" ⟨"AddressBookModel", "lowest", "(I)I"⟩ ⟨"AddressBookModel", "lowest", "(I)I"⟩ : Cond) ∈ BW := inBW (by decide +kernel) rfl
theorem k3_177 : (.code ⟨"AddressBookModel", "split", "(II)I"⟩ prog_8_method_28_code 6 (some .int) : Cond) ∈ BW := inBW (mt3 (List.mem_of_getElem? (i := 177) rfl)) rfl
theorem k3_174 : (.methodLink "AddressBookModel" 154 ⟨"AddressBookModel", "split", "(II)I"⟩ : Cond) ∈ BW := inBW (mt3 (List.mem_of_getElem? (i := 174) rfl)) rfl
theorem k3_176 : (.instanceMethod ⟨"AddressBookModel", "split", "(II)I"⟩ : Cond) ∈ BW := inBW (mt3 (List.mem_of_getElem? (i := 176) rfl)) rfl
theorem ks_382 : (.selects "AddressBookModel" ⟨"AddressBookModel", "split", "(II)I"⟩ ⟨"AddressBookModel", "split", "(II)I"⟩ : Cond) ∈ BW := inBW (by decide +kernel) rfl
theorem k3_169 : (.code ⟨"AddressBookModel", "close", "(I)I"⟩ prog_8_method_27_code 4 (some .int) : Cond) ∈ BW := inBW (mt3 (List.mem_of_getElem? (i := 169) rfl)) rfl
theorem k3_166 : (.methodLink "AddressBookModel" 151 ⟨"AddressBookModel", "close", "(I)I"⟩ : Cond) ∈ BW := inBW (mt3 (List.mem_of_getElem? (i := 166) rfl)) rfl
theorem k3_168 : (.instanceMethod ⟨"AddressBookModel", "close", "(I)I"⟩ : Cond) ∈ BW := inBW (mt3 (List.mem_of_getElem? (i := 168) rfl)) rfl
theorem ks_386 : (.selects "AddressBookModel" ⟨"AddressBookModel", "close", "(I)I"⟩ ⟨"AddressBookModel", "close", "(I)I"⟩ : Cond) ∈ BW := inBW (by decide +kernel) rfl
theorem k3_185 : (.code ⟨"AddressBookModel", "clash", "(II)I"⟩ prog_8_method_30_code 6 (some .int) : Cond) ∈ BW := inBW (mt3 (List.mem_of_getElem? (i := 185) rfl)) rfl
theorem k3_182 : (.methodLink "AddressBookModel" 157 ⟨"AddressBookModel", "clash", "(II)I"⟩ : Cond) ∈ BW := inBW (mt3 (List.mem_of_getElem? (i := 182) rfl)) rfl
theorem k3_184 : (.instanceMethod ⟨"AddressBookModel", "clash", "(II)I"⟩ : Cond) ∈ BW := inBW (mt3 (List.mem_of_getElem? (i := 184) rfl)) rfl
theorem ks_390 : (.selects "AddressBookModel" ⟨"AddressBookModel", "clash", "(II)I"⟩ ⟨"AddressBookModel", "clash", "(II)I"⟩ : Cond) ∈ BW := inBW (by decide +kernel) rfl
theorem k3_189 : (.code ⟨"AddressBookModel", "join", "(II)I"⟩ prog_8_method_29_code 7 (some .int) : Cond) ∈ BW := inBW (mt3 (List.mem_of_getElem? (i := 189) rfl)) rfl
theorem k3_186 : (.methodLink "AddressBookModel" 160 ⟨"AddressBookModel", "join", "(II)I"⟩ : Cond) ∈ BW := inBW (mt3 (List.mem_of_getElem? (i := 186) rfl)) rfl
theorem k3_188 : (.instanceMethod ⟨"AddressBookModel", "join", "(II)I"⟩ : Cond) ∈ BW := inBW (mt3 (List.mem_of_getElem? (i := 188) rfl)) rfl
theorem ks_394 : (.selects "AddressBookModel" ⟨"AddressBookModel", "join", "(II)I"⟩ ⟨"AddressBookModel", "join", "(II)I"⟩ : Cond) ∈ BW := inBW (by decide +kernel) rfl
theorem k3_197 : (.code ⟨"AddressBookModel", "isPoint", "(I)Z"⟩ prog_8_method_20_code 2 (some .boolean) : Cond) ∈ BW := inBW (mt3 (List.mem_of_getElem? (i := 197) rfl)) rfl
theorem k3_194 : (.methodLink "AddressBookModel" 163 ⟨"AddressBookModel", "isPoint", "(I)Z"⟩ : Cond) ∈ BW := inBW (mt3 (List.mem_of_getElem? (i := 194) rfl)) rfl
theorem k3_196 : (.instanceMethod ⟨"AddressBookModel", "isPoint", "(I)Z"⟩ : Cond) ∈ BW := inBW (mt3 (List.mem_of_getElem? (i := 196) rfl)) rfl
theorem ks_398 : (.selects "AddressBookModel" ⟨"AddressBookModel", "isPoint", "(I)Z"⟩ ⟨"AddressBookModel", "isPoint", "(I)Z"⟩ : Cond) ∈ BW := inBW (by decide +kernel) rfl
theorem k3_157 : (.code ⟨"AddressBookModel", "changeRange", "(IIII)I"⟩ prog_8_method_31_code 5 (some .int) : Cond) ∈ BW := inBW (mt3 (List.mem_of_getElem? (i := 157) rfl)) rfl
theorem k3_154 : (.methodLink "AddressBookModel" 166 ⟨"AddressBookModel", "changeRange", "(IIII)I"⟩ : Cond) ∈ BW := inBW (mt3 (List.mem_of_getElem? (i := 154) rfl)) rfl
theorem k3_156 : (.instanceMethod ⟨"AddressBookModel", "changeRange", "(IIII)I"⟩ : Cond) ∈ BW := inBW (mt3 (List.mem_of_getElem? (i := 156) rfl)) rfl
theorem ks_402 : (.selects "AddressBookModel" ⟨"AddressBookModel", "changeRange", "(IIII)I"⟩ ⟨"AddressBookModel", "changeRange", "(IIII)I"⟩ : Cond) ∈ BW := inBW (by decide +kernel) rfl
theorem k3_181 : (.code ⟨"AddressBookModel", "changeStreets", "(III)I"⟩ prog_8_method_32_code 5 (some .int) : Cond) ∈ BW := inBW (mt3 (List.mem_of_getElem? (i := 181) rfl)) rfl
theorem k3_178 : (.methodLink "AddressBookModel" 170 ⟨"AddressBookModel", "changeStreets", "(III)I"⟩ : Cond) ∈ BW := inBW (mt3 (List.mem_of_getElem? (i := 178) rfl)) rfl
theorem k3_180 : (.instanceMethod ⟨"AddressBookModel", "changeStreets", "(III)I"⟩ : Cond) ∈ BW := inBW (mt3 (List.mem_of_getElem? (i := 180) rfl)) rfl
theorem ks_406 : (.selects "AddressBookModel" ⟨"AddressBookModel", "changeStreets", "(III)I"⟩ ⟨"AddressBookModel", "changeStreets", "(III)I"⟩ : Cond) ∈ BW := inBW (by decide +kernel) rfl
theorem k3_193 : (.code ⟨"AddressBookModel", "changePoint", "(IIII)I"⟩ prog_8_method_33_code 6 (some .int) : Cond) ∈ BW := inBW (mt3 (List.mem_of_getElem? (i := 193) rfl)) rfl
theorem k3_190 : (.methodLink "AddressBookModel" 173 ⟨"AddressBookModel", "changePoint", "(IIII)I"⟩ : Cond) ∈ BW := inBW (mt3 (List.mem_of_getElem? (i := 190) rfl)) rfl
theorem k3_192 : (.instanceMethod ⟨"AddressBookModel", "changePoint", "(IIII)I"⟩ : Cond) ∈ BW := inBW (mt3 (List.mem_of_getElem? (i := 192) rfl)) rfl
theorem ks_410 : (.selects "AddressBookModel" ⟨"AddressBookModel", "changePoint", "(IIII)I"⟩ ⟨"AddressBookModel", "changePoint", "(IIII)I"⟩ : Cond) ∈ BW := inBW (by decide +kernel) rfl
theorem k3_205 : (.code ⟨"AddressBookModel", "meant", "(II)I"⟩ prog_8_method_11_code 4 (some .int) : Cond) ∈ BW := inBW (mt3 (List.mem_of_getElem? (i := 205) rfl)) rfl
theorem k3_202 : (.methodLink "AddressBookModel" 176 ⟨"AddressBookModel", "meant", "(II)I"⟩ : Cond) ∈ BW := inBW (mt3 (List.mem_of_getElem? (i := 202) rfl)) rfl
theorem k3_204 : (.instanceMethod ⟨"AddressBookModel", "meant", "(II)I"⟩ : Cond) ∈ BW := inBW (mt3 (List.mem_of_getElem? (i := 204) rfl)) rfl
theorem ks_414 : (.selects "AddressBookModel" ⟨"AddressBookModel", "meant", "(II)I"⟩ ⟨"AddressBookModel", "meant", "(II)I"⟩ : Cond) ∈ BW := inBW (by decide +kernel) rfl
theorem k3_221 : (.code ⟨"AddressBookModel", "onRound", "(I)I"⟩ prog_8_method_38_code 3 (some .int) : Cond) ∈ BW := inBW (mt3 (List.mem_of_getElem? (i := 221) rfl)) rfl
theorem k3_218 : (.methodLink "AddressBookModel" 179 ⟨"AddressBookModel", "onRound", "(I)I"⟩ : Cond) ∈ BW := inBW (mt3 (List.mem_of_getElem? (i := 218) rfl)) rfl
theorem k3_220 : (.instanceMethod ⟨"AddressBookModel", "onRound", "(I)I"⟩ : Cond) ∈ BW := inBW (mt3 (List.mem_of_getElem? (i := 220) rfl)) rfl
theorem ks_418 : (.selects "AddressBookModel" ⟨"AddressBookModel", "onRound", "(I)I"⟩ ⟨"AddressBookModel", "onRound", "(I)I"⟩ : Cond) ∈ BW := inBW (by decide +kernel) rfl
theorem k2_236 : (.methodLink "AddressBookModel" 1 ⟨"java/lang/Object", "<init>", "()V"⟩ : Cond) ∈ BW := inBW (mt2 (List.mem_of_getElem? (i := 236) rfl)) rfl
theorem k1_171 : (.methodLink "AddressBookLaw" 13 ⟨"AddressBook", "place", "(II)I"⟩ : Cond) ∈ BW := inBW (mt1 (List.mem_of_getElem? (i := 171) rfl)) rfl
theorem k1_172 : (.instanceMethod ⟨"AddressBook", "place", "(II)I"⟩ : Cond) ∈ BW := inBW (mt1 (List.mem_of_getElem? (i := 172) rfl)) rfl
theorem k1_173 : (.selects "AddressBook" ⟨"AddressBook", "place", "(II)I"⟩ ⟨"AddressBook", "place", "(II)I"⟩ : Cond) ∈ BW := inBW (mt1 (List.mem_of_getElem? (i := 173) rfl)) rfl
theorem k1_174 : (.code ⟨"AddressBook", "place", "(II)I"⟩ prog_1_method_2_code 3 (some .int) : Cond) ∈ BW := inBW (mt1 (List.mem_of_getElem? (i := 174) rfl)) rfl
theorem k3_73 : (.methodLink "AddressBookLaw" 17 ⟨"AddressBookModel", "place", "(II)I"⟩ : Cond) ∈ BW := inBW (mt3 (List.mem_of_getElem? (i := 73) rfl)) rfl
theorem k3_74 : (.instanceMethod ⟨"AddressBookModel", "place", "(II)I"⟩ : Cond) ∈ BW := inBW (mt3 (List.mem_of_getElem? (i := 74) rfl)) rfl
theorem k3_75 : (.selects "AddressBookModel" ⟨"AddressBookModel", "place", "(II)I"⟩ ⟨"AddressBookModel", "place", "(II)I"⟩ : Cond) ∈ BW := inBW (mt3 (List.mem_of_getElem? (i := 75) rfl)) rfl
theorem k3_76 : (.code ⟨"AddressBookModel", "place", "(II)I"⟩ prog_8_method_5_code 3 (some .int) : Cond) ∈ BW := inBW (mt3 (List.mem_of_getElem? (i := 76) rfl)) rfl
theorem k1_194 : (.methodLink "AddressBookLaw" 18 ⟨"AddressBook", "street", "(II)I"⟩ : Cond) ∈ BW := inBW (mt1 (List.mem_of_getElem? (i := 194) rfl)) rfl
theorem k1_195 : (.instanceMethod ⟨"AddressBook", "street", "(II)I"⟩ : Cond) ∈ BW := inBW (mt1 (List.mem_of_getElem? (i := 195) rfl)) rfl
theorem k1_196 : (.selects "AddressBook" ⟨"AddressBook", "street", "(II)I"⟩ ⟨"AddressBook", "street", "(II)I"⟩ : Cond) ∈ BW := inBW (mt1 (List.mem_of_getElem? (i := 196) rfl)) rfl
theorem k1_197 : (.code ⟨"AddressBook", "street", "(II)I"⟩ prog_1_method_3_code 3 (some .int) : Cond) ∈ BW := inBW (mt1 (List.mem_of_getElem? (i := 197) rfl)) rfl
theorem k3_85 : (.methodLink "AddressBookLaw" 21 ⟨"AddressBookModel", "street", "(II)I"⟩ : Cond) ∈ BW := inBW (mt3 (List.mem_of_getElem? (i := 85) rfl)) rfl
theorem k3_86 : (.instanceMethod ⟨"AddressBookModel", "street", "(II)I"⟩ : Cond) ∈ BW := inBW (mt3 (List.mem_of_getElem? (i := 86) rfl)) rfl
theorem k3_87 : (.selects "AddressBookModel" ⟨"AddressBookModel", "street", "(II)I"⟩ ⟨"AddressBookModel", "street", "(II)I"⟩ : Cond) ∈ BW := inBW (mt3 (List.mem_of_getElem? (i := 87) rfl)) rfl
theorem k3_88 : (.code ⟨"AddressBookModel", "street", "(II)I"⟩ prog_8_method_8_code 3 (some .int) : Cond) ∈ BW := inBW (mt3 (List.mem_of_getElem? (i := 88) rfl)) rfl
theorem k1_214 : (.methodLink "AddressBookLaw" 22 ⟨"AddressBook", "find", "(II)I"⟩ : Cond) ∈ BW := inBW (mt1 (List.mem_of_getElem? (i := 214) rfl)) rfl
theorem k1_215 : (.instanceMethod ⟨"AddressBook", "find", "(II)I"⟩ : Cond) ∈ BW := inBW (mt1 (List.mem_of_getElem? (i := 215) rfl)) rfl
theorem k1_216 : (.selects "AddressBook" ⟨"AddressBook", "find", "(II)I"⟩ ⟨"AddressBook", "find", "(II)I"⟩ : Cond) ∈ BW := inBW (mt1 (List.mem_of_getElem? (i := 216) rfl)) rfl
theorem k1_217 : (.code ⟨"AddressBook", "find", "(II)I"⟩ prog_1_method_4_code 4 (some .int) : Cond) ∈ BW := inBW (mt1 (List.mem_of_getElem? (i := 217) rfl)) rfl
theorem k3_93 : (.methodLink "AddressBookLaw" 25 ⟨"AddressBookModel", "find", "(II)I"⟩ : Cond) ∈ BW := inBW (mt3 (List.mem_of_getElem? (i := 93) rfl)) rfl
theorem k3_94 : (.instanceMethod ⟨"AddressBookModel", "find", "(II)I"⟩ : Cond) ∈ BW := inBW (mt3 (List.mem_of_getElem? (i := 94) rfl)) rfl
theorem k3_95 : (.selects "AddressBookModel" ⟨"AddressBookModel", "find", "(II)I"⟩ ⟨"AddressBookModel", "find", "(II)I"⟩ : Cond) ∈ BW := inBW (mt3 (List.mem_of_getElem? (i := 95) rfl)) rfl
theorem k3_96 : (.code ⟨"AddressBookModel", "find", "(II)I"⟩ prog_8_method_9_code 4 (some .int) : Cond) ∈ BW := inBW (mt3 (List.mem_of_getElem? (i := 96) rfl)) rfl
theorem k1_218 : (.methodLink "AddressBookLaw" 26 ⟨"AddressBook", "range", "(IIIII)I"⟩ : Cond) ∈ BW := inBW (mt1 (List.mem_of_getElem? (i := 218) rfl)) rfl
theorem k1_219 : (.instanceMethod ⟨"AddressBook", "range", "(IIIII)I"⟩ : Cond) ∈ BW := inBW (mt1 (List.mem_of_getElem? (i := 219) rfl)) rfl
theorem k1_220 : (.selects "AddressBook" ⟨"AddressBook", "range", "(IIIII)I"⟩ ⟨"AddressBook", "range", "(IIIII)I"⟩ : Cond) ∈ BW := inBW (mt1 (List.mem_of_getElem? (i := 220) rfl)) rfl
theorem k1_221 : (.code ⟨"AddressBook", "range", "(IIIII)I"⟩ prog_1_method_5_code 7 (some .int) : Cond) ∈ BW := inBW (mt1 (List.mem_of_getElem? (i := 221) rfl)) rfl
theorem k3_97 : (.methodLink "AddressBookLaw" 30 ⟨"AddressBookModel", "range", "(IIIII)I"⟩ : Cond) ∈ BW := inBW (mt3 (List.mem_of_getElem? (i := 97) rfl)) rfl
theorem k3_98 : (.instanceMethod ⟨"AddressBookModel", "range", "(IIIII)I"⟩ : Cond) ∈ BW := inBW (mt3 (List.mem_of_getElem? (i := 98) rfl)) rfl
theorem k3_99 : (.selects "AddressBookModel" ⟨"AddressBookModel", "range", "(IIIII)I"⟩ ⟨"AddressBookModel", "range", "(IIIII)I"⟩ : Cond) ∈ BW := inBW (mt3 (List.mem_of_getElem? (i := 99) rfl)) rfl
theorem k3_100 : (.code ⟨"AddressBookModel", "range", "(IIIII)I"⟩ prog_8_method_19_code 8 (some .int) : Cond) ∈ BW := inBW (mt3 (List.mem_of_getElem? (i := 100) rfl)) rfl
theorem k2_38 : (.methodLink "AddressBookLaw" 31 ⟨"AddressBook", "point", "(III)I"⟩ : Cond) ∈ BW := inBW (mt2 (List.mem_of_getElem? (i := 38) rfl)) rfl
theorem k2_39 : (.instanceMethod ⟨"AddressBook", "point", "(III)I"⟩ : Cond) ∈ BW := inBW (mt2 (List.mem_of_getElem? (i := 39) rfl)) rfl
theorem k2_40 : (.selects "AddressBook" ⟨"AddressBook", "point", "(III)I"⟩ ⟨"AddressBook", "point", "(III)I"⟩ : Cond) ∈ BW := inBW (mt2 (List.mem_of_getElem? (i := 40) rfl)) rfl
theorem k2_41 : (.code ⟨"AddressBook", "point", "(III)I"⟩ prog_1_method_6_code 5 (some .int) : Cond) ∈ BW := inBW (mt2 (List.mem_of_getElem? (i := 41) rfl)) rfl
theorem k3_125 : (.methodLink "AddressBookLaw" 35 ⟨"AddressBookModel", "point", "(III)I"⟩ : Cond) ∈ BW := inBW (mt3 (List.mem_of_getElem? (i := 125) rfl)) rfl
theorem k3_126 : (.instanceMethod ⟨"AddressBookModel", "point", "(III)I"⟩ : Cond) ∈ BW := inBW (mt3 (List.mem_of_getElem? (i := 126) rfl)) rfl
theorem k3_127 : (.selects "AddressBookModel" ⟨"AddressBookModel", "point", "(III)I"⟩ ⟨"AddressBookModel", "point", "(III)I"⟩ : Cond) ∈ BW := inBW (mt3 (List.mem_of_getElem? (i := 127) rfl)) rfl
theorem k3_128 : (.code ⟨"AddressBookModel", "point", "(III)I"⟩ prog_8_method_26_code 4 (some .int) : Cond) ∈ BW := inBW (mt3 (List.mem_of_getElem? (i := 128) rfl)) rfl
theorem k2_80 : (.methodLink "AddressBookLaw" 36 ⟨"AddressBook", "change", "(IIII)I"⟩ : Cond) ∈ BW := inBW (mt2 (List.mem_of_getElem? (i := 80) rfl)) rfl
theorem k2_81 : (.instanceMethod ⟨"AddressBook", "change", "(IIII)I"⟩ : Cond) ∈ BW := inBW (mt2 (List.mem_of_getElem? (i := 81) rfl)) rfl
theorem k2_82 : (.selects "AddressBook" ⟨"AddressBook", "change", "(IIII)I"⟩ ⟨"AddressBook", "change", "(IIII)I"⟩ : Cond) ∈ BW := inBW (mt2 (List.mem_of_getElem? (i := 82) rfl)) rfl
theorem k2_83 : (.code ⟨"AddressBook", "change", "(IIII)I"⟩ prog_1_method_7_code 5 (some .int) : Cond) ∈ BW := inBW (mt2 (List.mem_of_getElem? (i := 83) rfl)) rfl
theorem k3_150 : (.methodLink "AddressBookLaw" 40 ⟨"AddressBookModel", "change", "(IIII)I"⟩ : Cond) ∈ BW := inBW (mt3 (List.mem_of_getElem? (i := 150) rfl)) rfl
theorem k3_151 : (.instanceMethod ⟨"AddressBookModel", "change", "(IIII)I"⟩ : Cond) ∈ BW := inBW (mt3 (List.mem_of_getElem? (i := 151) rfl)) rfl
theorem k3_152 : (.selects "AddressBookModel" ⟨"AddressBookModel", "change", "(IIII)I"⟩ ⟨"AddressBookModel", "change", "(IIII)I"⟩ : Cond) ∈ BW := inBW (mt3 (List.mem_of_getElem? (i := 152) rfl)) rfl
theorem k3_153 : (.code ⟨"AddressBookModel", "change", "(IIII)I"⟩ prog_8_method_34_code 5 (some .int) : Cond) ∈ BW := inBW (mt3 (List.mem_of_getElem? (i := 153) rfl)) rfl
theorem k2_141 : (.methodLink "AddressBookLaw" 41 ⟨"AddressBook", "alias", "(III)I"⟩ : Cond) ∈ BW := inBW (mt2 (List.mem_of_getElem? (i := 141) rfl)) rfl
theorem k2_142 : (.instanceMethod ⟨"AddressBook", "alias", "(III)I"⟩ : Cond) ∈ BW := inBW (mt2 (List.mem_of_getElem? (i := 142) rfl)) rfl
theorem k2_143 : (.selects "AddressBook" ⟨"AddressBook", "alias", "(III)I"⟩ ⟨"AddressBook", "alias", "(III)I"⟩ : Cond) ∈ BW := inBW (mt2 (List.mem_of_getElem? (i := 143) rfl)) rfl
theorem k2_144 : (.code ⟨"AddressBook", "alias", "(III)I"⟩ prog_1_method_8_code 4 (some .int) : Cond) ∈ BW := inBW (mt2 (List.mem_of_getElem? (i := 144) rfl)) rfl
theorem k3_198 : (.methodLink "AddressBookLaw" 44 ⟨"AddressBookModel", "alias", "(III)I"⟩ : Cond) ∈ BW := inBW (mt3 (List.mem_of_getElem? (i := 198) rfl)) rfl
theorem k3_199 : (.instanceMethod ⟨"AddressBookModel", "alias", "(III)I"⟩ : Cond) ∈ BW := inBW (mt3 (List.mem_of_getElem? (i := 199) rfl)) rfl
theorem k3_200 : (.selects "AddressBookModel" ⟨"AddressBookModel", "alias", "(III)I"⟩ ⟨"AddressBookModel", "alias", "(III)I"⟩ : Cond) ∈ BW := inBW (mt3 (List.mem_of_getElem? (i := 200) rfl)) rfl
theorem k3_201 : (.code ⟨"AddressBookModel", "alias", "(III)I"⟩ prog_8_method_35_code 6 (some .int) : Cond) ∈ BW := inBW (mt3 (List.mem_of_getElem? (i := 201) rfl)) rfl
theorem k2_153 : (.methodLink "AddressBookLaw" 45 ⟨"AddressBook", "at", "(IIII)I"⟩ : Cond) ∈ BW := inBW (mt2 (List.mem_of_getElem? (i := 153) rfl)) rfl
theorem k2_154 : (.instanceMethod ⟨"AddressBook", "at", "(IIII)I"⟩ : Cond) ∈ BW := inBW (mt2 (List.mem_of_getElem? (i := 154) rfl)) rfl
theorem k2_155 : (.selects "AddressBook" ⟨"AddressBook", "at", "(IIII)I"⟩ ⟨"AddressBook", "at", "(IIII)I"⟩ : Cond) ∈ BW := inBW (mt2 (List.mem_of_getElem? (i := 155) rfl)) rfl
theorem k2_156 : (.code ⟨"AddressBook", "at", "(IIII)I"⟩ prog_1_method_9_code 7 (some .int) : Cond) ∈ BW := inBW (mt2 (List.mem_of_getElem? (i := 156) rfl)) rfl
theorem k3_206 : (.methodLink "AddressBookLaw" 48 ⟨"AddressBookModel", "at", "(IIII)I"⟩ : Cond) ∈ BW := inBW (mt3 (List.mem_of_getElem? (i := 206) rfl)) rfl
theorem k3_207 : (.instanceMethod ⟨"AddressBookModel", "at", "(IIII)I"⟩ : Cond) ∈ BW := inBW (mt3 (List.mem_of_getElem? (i := 207) rfl)) rfl
theorem k3_208 : (.selects "AddressBookModel" ⟨"AddressBookModel", "at", "(IIII)I"⟩ ⟨"AddressBookModel", "at", "(IIII)I"⟩ : Cond) ∈ BW := inBW (mt3 (List.mem_of_getElem? (i := 208) rfl)) rfl
theorem k3_209 : (.code ⟨"AddressBookModel", "at", "(IIII)I"⟩ prog_8_method_36_code 12 (some .int) : Cond) ∈ BW := inBW (mt3 (List.mem_of_getElem? (i := 209) rfl)) rfl
theorem k2_184 : (.methodLink "AddressBookLaw" 49 ⟨"AddressBook", "near", "(II)I"⟩ : Cond) ∈ BW := inBW (mt2 (List.mem_of_getElem? (i := 184) rfl)) rfl
theorem k2_185 : (.instanceMethod ⟨"AddressBook", "near", "(II)I"⟩ : Cond) ∈ BW := inBW (mt2 (List.mem_of_getElem? (i := 185) rfl)) rfl
theorem k2_186 : (.selects "AddressBook" ⟨"AddressBook", "near", "(II)I"⟩ ⟨"AddressBook", "near", "(II)I"⟩ : Cond) ∈ BW := inBW (mt2 (List.mem_of_getElem? (i := 186) rfl)) rfl
theorem k2_187 : (.code ⟨"AddressBook", "near", "(II)I"⟩ prog_1_method_10_code 6 (some .int) : Cond) ∈ BW := inBW (mt2 (List.mem_of_getElem? (i := 187) rfl)) rfl
theorem k3_210 : (.methodLink "AddressBookLaw" 52 ⟨"AddressBookModel", "near", "(II)I"⟩ : Cond) ∈ BW := inBW (mt3 (List.mem_of_getElem? (i := 210) rfl)) rfl
theorem k3_211 : (.instanceMethod ⟨"AddressBookModel", "near", "(II)I"⟩ : Cond) ∈ BW := inBW (mt3 (List.mem_of_getElem? (i := 211) rfl)) rfl
theorem k3_212 : (.selects "AddressBookModel" ⟨"AddressBookModel", "near", "(II)I"⟩ ⟨"AddressBookModel", "near", "(II)I"⟩ : Cond) ∈ BW := inBW (mt3 (List.mem_of_getElem? (i := 212) rfl)) rfl
theorem k3_213 : (.code ⟨"AddressBookModel", "near", "(II)I"⟩ prog_8_method_37_code 10 (some .int) : Cond) ∈ BW := inBW (mt3 (List.mem_of_getElem? (i := 213) rfl)) rfl
theorem k2_195 : (.methodLink "AddressBookLaw" 53 ⟨"AddressBook", "order", "(I)I"⟩ : Cond) ∈ BW := inBW (mt2 (List.mem_of_getElem? (i := 195) rfl)) rfl
theorem k2_196 : (.instanceMethod ⟨"AddressBook", "order", "(I)I"⟩ : Cond) ∈ BW := inBW (mt2 (List.mem_of_getElem? (i := 196) rfl)) rfl
theorem k2_197 : (.selects "AddressBook" ⟨"AddressBook", "order", "(I)I"⟩ ⟨"AddressBook", "order", "(I)I"⟩ : Cond) ∈ BW := inBW (mt2 (List.mem_of_getElem? (i := 197) rfl)) rfl
theorem k2_198 : (.code ⟨"AddressBook", "order", "(I)I"⟩ prog_1_method_11_code 5 (some .int) : Cond) ∈ BW := inBW (mt2 (List.mem_of_getElem? (i := 198) rfl)) rfl
theorem k3_214 : (.methodLink "AddressBookLaw" 57 ⟨"AddressBookModel", "order", "(I)I"⟩ : Cond) ∈ BW := inBW (mt3 (List.mem_of_getElem? (i := 214) rfl)) rfl
theorem k3_215 : (.instanceMethod ⟨"AddressBookModel", "order", "(I)I"⟩ : Cond) ∈ BW := inBW (mt3 (List.mem_of_getElem? (i := 215) rfl)) rfl
theorem k3_216 : (.selects "AddressBookModel" ⟨"AddressBookModel", "order", "(I)I"⟩ ⟨"AddressBookModel", "order", "(I)I"⟩ : Cond) ∈ BW := inBW (mt3 (List.mem_of_getElem? (i := 216) rfl)) rfl
theorem k3_217 : (.code ⟨"AddressBookModel", "order", "(I)I"⟩ prog_8_method_39_code 5 (some .int) : Cond) ∈ BW := inBW (mt3 (List.mem_of_getElem? (i := 217) rfl)) rfl
theorem k2_203 : (.methodLink "AddressBookLaw" 58 ⟨"AddressBook", "holes", "(I)I"⟩ : Cond) ∈ BW := inBW (mt2 (List.mem_of_getElem? (i := 203) rfl)) rfl
theorem k2_204 : (.instanceMethod ⟨"AddressBook", "holes", "(I)I"⟩ : Cond) ∈ BW := inBW (mt2 (List.mem_of_getElem? (i := 204) rfl)) rfl
theorem k2_205 : (.selects "AddressBook" ⟨"AddressBook", "holes", "(I)I"⟩ ⟨"AddressBook", "holes", "(I)I"⟩ : Cond) ∈ BW := inBW (mt2 (List.mem_of_getElem? (i := 205) rfl)) rfl
theorem k2_206 : (.code ⟨"AddressBook", "holes", "(I)I"⟩ prog_1_method_12_code 3 (some .int) : Cond) ∈ BW := inBW (mt2 (List.mem_of_getElem? (i := 206) rfl)) rfl
theorem k3_222 : (.methodLink "AddressBookLaw" 61 ⟨"AddressBookModel", "holes", "(I)I"⟩ : Cond) ∈ BW := inBW (mt3 (List.mem_of_getElem? (i := 222) rfl)) rfl
theorem k3_223 : (.instanceMethod ⟨"AddressBookModel", "holes", "(I)I"⟩ : Cond) ∈ BW := inBW (mt3 (List.mem_of_getElem? (i := 223) rfl)) rfl
theorem k3_224 : (.selects "AddressBookModel" ⟨"AddressBookModel", "holes", "(I)I"⟩ ⟨"AddressBookModel", "holes", "(I)I"⟩ : Cond) ∈ BW := inBW (mt3 (List.mem_of_getElem? (i := 224) rfl)) rfl
theorem k3_225 : (.code ⟨"AddressBookModel", "holes", "(I)I"⟩ prog_8_method_40_code 8 (some .int) : Cond) ∈ BW := inBW (mt3 (List.mem_of_getElem? (i := 225) rfl)) rfl
theorem k2_215 : (.methodLink "AddressBookLaw" 62 ⟨"AddressBook", "where", "(III)I"⟩ : Cond) ∈ BW := inBW (mt2 (List.mem_of_getElem? (i := 215) rfl)) rfl
theorem k2_216 : (.instanceMethod ⟨"AddressBook", "where", "(III)I"⟩ : Cond) ∈ BW := inBW (mt2 (List.mem_of_getElem? (i := 216) rfl)) rfl
theorem k2_217 : (.selects "AddressBook" ⟨"AddressBook", "where", "(III)I"⟩ ⟨"AddressBook", "where", "(III)I"⟩ : Cond) ∈ BW := inBW (mt2 (List.mem_of_getElem? (i := 217) rfl)) rfl
theorem k2_218 : (.code ⟨"AddressBook", "where", "(III)I"⟩ prog_1_method_13_code 5 (some .int) : Cond) ∈ BW := inBW (mt2 (List.mem_of_getElem? (i := 218) rfl)) rfl
theorem k3_226 : (.methodLink "AddressBookLaw" 65 ⟨"AddressBookModel", "where", "(III)I"⟩ : Cond) ∈ BW := inBW (mt3 (List.mem_of_getElem? (i := 226) rfl)) rfl
theorem k3_227 : (.instanceMethod ⟨"AddressBookModel", "where", "(III)I"⟩ : Cond) ∈ BW := inBW (mt3 (List.mem_of_getElem? (i := 227) rfl)) rfl
theorem k3_228 : (.selects "AddressBookModel" ⟨"AddressBookModel", "where", "(III)I"⟩ ⟨"AddressBookModel", "where", "(III)I"⟩ : Cond) ∈ BW := inBW (mt3 (List.mem_of_getElem? (i := 228) rfl)) rfl
theorem k3_229 : (.code ⟨"AddressBookModel", "where", "(III)I"⟩ prog_8_method_41_code 5 (some .int) : Cond) ∈ BW := inBW (mt3 (List.mem_of_getElem? (i := 229) rfl)) rfl
theorem k2_224 : (.methodLink "AddressBookLaw" 66 ⟨"AddressBook", "count", "(I)I"⟩ : Cond) ∈ BW := inBW (mt2 (List.mem_of_getElem? (i := 224) rfl)) rfl
theorem k2_225 : (.instanceMethod ⟨"AddressBook", "count", "(I)I"⟩ : Cond) ∈ BW := inBW (mt2 (List.mem_of_getElem? (i := 225) rfl)) rfl
theorem k2_226 : (.selects "AddressBook" ⟨"AddressBook", "count", "(I)I"⟩ ⟨"AddressBook", "count", "(I)I"⟩ : Cond) ∈ BW := inBW (mt2 (List.mem_of_getElem? (i := 226) rfl)) rfl
theorem k2_227 : (.code ⟨"AddressBook", "count", "(I)I"⟩ prog_1_method_14_code 2 (some .int) : Cond) ∈ BW := inBW (mt2 (List.mem_of_getElem? (i := 227) rfl)) rfl
theorem k3_230 : (.methodLink "AddressBookLaw" 69 ⟨"AddressBookModel", "count", "(I)I"⟩ : Cond) ∈ BW := inBW (mt3 (List.mem_of_getElem? (i := 230) rfl)) rfl
theorem k3_231 : (.instanceMethod ⟨"AddressBookModel", "count", "(I)I"⟩ : Cond) ∈ BW := inBW (mt3 (List.mem_of_getElem? (i := 231) rfl)) rfl
theorem k3_232 : (.selects "AddressBookModel" ⟨"AddressBookModel", "count", "(I)I"⟩ ⟨"AddressBookModel", "count", "(I)I"⟩ : Cond) ∈ BW := inBW (mt3 (List.mem_of_getElem? (i := 232) rfl)) rfl
theorem k3_233 : (.code ⟨"AddressBookModel", "count", "(I)I"⟩ prog_8_method_42_code 4 (some .int) : Cond) ∈ BW := inBW (mt3 (List.mem_of_getElem? (i := 233) rfl)) rfl
theorem k1_10 : (.instantiable "AddressBook" 7 : Cond) ∈ BW := inBW (mt1 (List.mem_of_getElem? (i := 10) rfl)) rfl
theorem k2_232 : (.instantiable "AddressBookModel" 25 : Cond) ∈ BW := inBW (mt2 (List.mem_of_getElem? (i := 232) rfl)) rfl
theorem k1_9 : (.classLink "AddressBookLaw" 7 "AddressBook" : Cond) ∈ BW := inBW (mt1 (List.mem_of_getElem? (i := 9) rfl)) rfl
theorem k1_11 : (.methodLink "AddressBookLaw" 9 ⟨"AddressBook", "<init>", "()V"⟩ : Cond) ∈ BW := inBW (mt1 (List.mem_of_getElem? (i := 11) rfl)) rfl
theorem k1_12 : (.instanceMethod ⟨"AddressBook", "<init>", "()V"⟩ : Cond) ∈ BW := inBW (mt1 (List.mem_of_getElem? (i := 12) rfl)) rfl
theorem k1_13 : (.code ⟨"AddressBook", "<init>", "()V"⟩ prog_1_method_1_code 1 (none : Option Jvm.ClassFile.FieldType) : Cond) ∈ BW := inBW (mt1 (List.mem_of_getElem? (i := 13) rfl)) rfl
theorem k2_231 : (.classLink "AddressBookLaw" 10 "AddressBookModel" : Cond) ∈ BW := inBW (mt2 (List.mem_of_getElem? (i := 231) rfl)) rfl
theorem k2_233 : (.methodLink "AddressBookLaw" 12 ⟨"AddressBookModel", "<init>", "()V"⟩ : Cond) ∈ BW := inBW (mt2 (List.mem_of_getElem? (i := 233) rfl)) rfl
theorem k2_234 : (.instanceMethod ⟨"AddressBookModel", "<init>", "()V"⟩ : Cond) ∈ BW := inBW (mt2 (List.mem_of_getElem? (i := 234) rfl)) rfl
theorem k2_235 : (.code ⟨"AddressBookModel", "<init>", "()V"⟩ prog_8_method_1_code 1 (none : Option Jvm.ClassFile.FieldType) : Cond) ∈ BW := inBW (mt2 (List.mem_of_getElem? (i := 235) rfl)) rfl
def nwL : List Cond := [.methodLinkNest "AddressBook$Ranges" 32 ⟨"AddressBook", "lowestOf", "(II)I"⟩ "AddressBook", .methodLinkNest "AddressBook$Ranges" 36 ⟨"AddressBook", "highestOf", "(II)I"⟩ "AddressBook", .methodLinkNest "AddressBook$Ranges" 39 ⟨"AddressBook", "isWithin", "(III)Z"⟩ "AddressBook", .methodLinkNest "AddressBook$Ranges" 43 ⟨"AddressBook", "isOfSide", "(II)Z"⟩ "AddressBook", .methodLinkNest "AddressBook" 61 ⟨"AddressBook$Places", "withCode", "(I)I"⟩ "AddressBook", .methodLinkNest "AddressBook" 65 ⟨"AddressBook$Places", "isFull", "()Z"⟩ "AddressBook", .methodLinkNest "AddressBook" 69 ⟨"AddressBook$Places", "add", "(I)I"⟩ "AddressBook", .methodLinkNest "AddressBook" 72 ⟨"AddressBook$Places", "has", "(I)Z"⟩ "AddressBook", .methodLinkNest "AddressBook" 75 ⟨"AddressBook$Streets", "named", "(II)I"⟩ "AddressBook", .methodLinkNest "AddressBook" 79 ⟨"AddressBook$Streets", "isFull", "()Z"⟩ "AddressBook", .methodLinkNest "AddressBook" 80 ⟨"AddressBook$Streets", "add", "(II)I"⟩ "AddressBook", .methodLinkNest "AddressBook" 82 ⟨"AddressBook$Streets", "has", "(I)Z"⟩ "AddressBook", .methodLinkNest "AddressBook" 95 ⟨"AddressBook$Streets", "isGone", "(I)Z"⟩ "AddressBook", .methodLinkNest "AddressBook" 98 ⟨"AddressBook$Ranges", "hasRoomFor", "(I)Z"⟩ "AddressBook", .methodLinkNest "AddressBook" 101 ⟨"AddressBook$Ranges", "leastOver", "(IIII)I"⟩ "AddressBook", .methodLinkNest "AddressBook" 105 ⟨"AddressBook$Ranges", "add", "(IIII)I"⟩ "AddressBook", .fieldLinkNest "AddressBook" 199 "AddressBook$Stays" "house" "[I" "AddressBook", .fieldLinkNest "AddressBook" 130 "AddressBook$Points" "stay" "[I" "AddressBook", .fieldLinkNest "AddressBook" 170 "AddressBook$Points" "size" "I" "AddressBook", .fieldLinkNest "AddressBook" 180 "AddressBook$Points" "live" "[Z" "AddressBook", .fieldLinkNest "AddressBook" 181 "AddressBook$Points" "range" "[I" "AddressBook", .fieldLinkNest "AddressBook" 193 "AddressBook$Points" "extra" "[I" "AddressBook", .methodLinkNest "AddressBook" 107 ⟨"AddressBook$Ranges", "has", "(I)Z"⟩ "AddressBook", .methodLinkNest "AddressBook" 108 ⟨"AddressBook$Ranges", "holds", "(II)Z"⟩ "AddressBook", .fieldLinkNest "AddressBook" 115 "AddressBook$Ranges" "live" "[Z" "AddressBook", .methodLinkNest "AddressBook" 121 ⟨"AddressBook$Points", "isFull", "()Z"⟩ "AddressBook", .methodLinkNest "AddressBook" 122 ⟨"AddressBook$Stays", "isFull", "()Z"⟩ "AddressBook", .fieldLinkNest "AddressBook" 123 "AddressBook$Ranges" "street" "[I" "AddressBook", .methodLinkNest "AddressBook" 127 ⟨"AddressBook$Points", "add", "(III)I"⟩ "AddressBook", .methodLinkNest "AddressBook" 133 ⟨"AddressBook$Stays", "begin", "(III)I"⟩ "AddressBook", .methodLinkNest "AddressBook" 239 ⟨"AddressBook$Stays", "end", "(II)V"⟩ "AddressBook", .fieldLinkNest "AddressBook" 215 "AddressBook$Ranges" "lowest" "[I" "AddressBook", .fieldLinkNest "AddressBook" 218 "AddressBook$Ranges" "highest" "[I" "AddressBook", .fieldLinkNest "AddressBook" 221 "AddressBook$Ranges" "side" "[I" "AddressBook", .methodLinkNest "AddressBook" 230 ⟨"AddressBook$Ranges", "leastOverAnyOf", "(II)I"⟩ "AddressBook", .methodLinkNest "AddressBook" 236 ⟨"AddressBook$Ranges", "moveLive", "(II)V"⟩ "AddressBook", .methodLinkNest "AddressBook" 157 ⟨"AddressBook$Streets", "goInto", "(III)V"⟩ "AddressBook", .methodLinkNest "AddressBook" 179 ⟨"AddressBook$Points", "has", "(I)Z"⟩ "AddressBook", .fieldLinkNest "AddressBook" 240 "AddressBook$Stays" "left" "[Z" "AddressBook", .methodLinkNest "AddressBook" 151 ⟨"AddressBook$Ranges", "anyLiveOf", "(I)Z"⟩ "AddressBook", .methodLinkNest "AddressBook" 154 ⟨"AddressBook$Streets", "meaning", "(II)I"⟩ "AddressBook", .fieldLinkNest "AddressBook" 251 "AddressBook$Stays" "point" "[I" "AddressBook", .fieldLinkNest "AddressBook" 202 "AddressBook$Points" "firstStreet" "[I" "AddressBook", .fieldLinkNest "AddressBook" 243 "AddressBook$Stays" "size" "I" "AddressBook", .methodLinkNest "AddressBook" 244 ⟨"AddressBook$Stays", "holdsOn", "(II)Z"⟩ "AddressBook", .methodLinkNest "AddressBook" 254 ⟨"AddressBook$Stays", "isLeftShortlyBefore", "(II)Z"⟩ "AddressBook", .methodLinkNest "AddressBook" 257 ⟨"AddressBook$Stays", "isLeftLater", "(II)Z"⟩ "AddressBook", .methodLinkNest "AddressBook" 187 ⟨"AddressBook$Ranges", "housesOf", "(I)I"⟩ "AddressBook", .methodLinkNest "AddressBook" 196 ⟨"AddressBook$Stays", "ofPointOn", "(II)I"⟩ "AddressBook", .fieldLinkNest "AddressBook" 205 "AddressBook$Places" "size" "I" "AddressBook", .fieldLinkNest "AddressBook" 206 "AddressBook$Streets" "size" "I" "AddressBook", .methodLinkNest "AddressBook" 11 ⟨"AddressBook$Places", "<init>", "()V"⟩ "AddressBook", .methodLinkNest "AddressBook" 18 ⟨"AddressBook$Streets", "<init>", "()V"⟩ "AddressBook", .methodLinkNest "AddressBook" 25 ⟨"AddressBook$Ranges", "<init>", "()V"⟩ "AddressBook", .methodLinkNest "AddressBook" 32 ⟨"AddressBook$Points", "<init>", "()V"⟩ "AddressBook", .methodLinkNest "AddressBook" 39 ⟨"AddressBook$Stays", "<init>", "()V"⟩ "AddressBook"]
theorem kn_0 : (.methodLinkNest "AddressBook$Ranges" 32 ⟨"AddressBook", "lowestOf", "(II)I"⟩ "AddressBook" : Cond) ∈ nwL := List.mem_of_getElem? (i := 0) rfl
theorem kn_1 : (.methodLinkNest "AddressBook$Ranges" 36 ⟨"AddressBook", "highestOf", "(II)I"⟩ "AddressBook" : Cond) ∈ nwL := List.mem_of_getElem? (i := 1) rfl
theorem kn_2 : (.methodLinkNest "AddressBook$Ranges" 39 ⟨"AddressBook", "isWithin", "(III)Z"⟩ "AddressBook" : Cond) ∈ nwL := List.mem_of_getElem? (i := 2) rfl
theorem kn_3 : (.methodLinkNest "AddressBook$Ranges" 43 ⟨"AddressBook", "isOfSide", "(II)Z"⟩ "AddressBook" : Cond) ∈ nwL := List.mem_of_getElem? (i := 3) rfl
theorem kn_4 : (.methodLinkNest "AddressBook" 61 ⟨"AddressBook$Places", "withCode", "(I)I"⟩ "AddressBook" : Cond) ∈ nwL := List.mem_of_getElem? (i := 4) rfl
theorem kn_5 : (.methodLinkNest "AddressBook" 65 ⟨"AddressBook$Places", "isFull", "()Z"⟩ "AddressBook" : Cond) ∈ nwL := List.mem_of_getElem? (i := 5) rfl
theorem kn_6 : (.methodLinkNest "AddressBook" 69 ⟨"AddressBook$Places", "add", "(I)I"⟩ "AddressBook" : Cond) ∈ nwL := List.mem_of_getElem? (i := 6) rfl
theorem kn_7 : (.methodLinkNest "AddressBook" 72 ⟨"AddressBook$Places", "has", "(I)Z"⟩ "AddressBook" : Cond) ∈ nwL := List.mem_of_getElem? (i := 7) rfl
theorem kn_8 : (.methodLinkNest "AddressBook" 75 ⟨"AddressBook$Streets", "named", "(II)I"⟩ "AddressBook" : Cond) ∈ nwL := List.mem_of_getElem? (i := 8) rfl
theorem kn_9 : (.methodLinkNest "AddressBook" 79 ⟨"AddressBook$Streets", "isFull", "()Z"⟩ "AddressBook" : Cond) ∈ nwL := List.mem_of_getElem? (i := 9) rfl
theorem kn_10 : (.methodLinkNest "AddressBook" 80 ⟨"AddressBook$Streets", "add", "(II)I"⟩ "AddressBook" : Cond) ∈ nwL := List.mem_of_getElem? (i := 10) rfl
theorem kn_11 : (.methodLinkNest "AddressBook" 82 ⟨"AddressBook$Streets", "has", "(I)Z"⟩ "AddressBook" : Cond) ∈ nwL := List.mem_of_getElem? (i := 11) rfl
theorem kn_12 : (.methodLinkNest "AddressBook" 95 ⟨"AddressBook$Streets", "isGone", "(I)Z"⟩ "AddressBook" : Cond) ∈ nwL := List.mem_of_getElem? (i := 12) rfl
theorem kn_13 : (.methodLinkNest "AddressBook" 98 ⟨"AddressBook$Ranges", "hasRoomFor", "(I)Z"⟩ "AddressBook" : Cond) ∈ nwL := List.mem_of_getElem? (i := 13) rfl
theorem kn_14 : (.methodLinkNest "AddressBook" 101 ⟨"AddressBook$Ranges", "leastOver", "(IIII)I"⟩ "AddressBook" : Cond) ∈ nwL := List.mem_of_getElem? (i := 14) rfl
theorem kn_15 : (.methodLinkNest "AddressBook" 105 ⟨"AddressBook$Ranges", "add", "(IIII)I"⟩ "AddressBook" : Cond) ∈ nwL := List.mem_of_getElem? (i := 15) rfl
theorem kn_16 : (.fieldLinkNest "AddressBook" 199 "AddressBook$Stays" "house" "[I" "AddressBook" : Cond) ∈ nwL := List.mem_of_getElem? (i := 16) rfl
theorem kn_17 : (.fieldLinkNest "AddressBook" 130 "AddressBook$Points" "stay" "[I" "AddressBook" : Cond) ∈ nwL := List.mem_of_getElem? (i := 17) rfl
theorem kn_18 : (.fieldLinkNest "AddressBook" 170 "AddressBook$Points" "size" "I" "AddressBook" : Cond) ∈ nwL := List.mem_of_getElem? (i := 18) rfl
theorem kn_19 : (.fieldLinkNest "AddressBook" 180 "AddressBook$Points" "live" "[Z" "AddressBook" : Cond) ∈ nwL := List.mem_of_getElem? (i := 19) rfl
theorem kn_20 : (.fieldLinkNest "AddressBook" 181 "AddressBook$Points" "range" "[I" "AddressBook" : Cond) ∈ nwL := List.mem_of_getElem? (i := 20) rfl
theorem kn_21 : (.fieldLinkNest "AddressBook" 193 "AddressBook$Points" "extra" "[I" "AddressBook" : Cond) ∈ nwL := List.mem_of_getElem? (i := 21) rfl
theorem kn_22 : (.methodLinkNest "AddressBook" 107 ⟨"AddressBook$Ranges", "has", "(I)Z"⟩ "AddressBook" : Cond) ∈ nwL := List.mem_of_getElem? (i := 22) rfl
theorem kn_23 : (.methodLinkNest "AddressBook" 108 ⟨"AddressBook$Ranges", "holds", "(II)Z"⟩ "AddressBook" : Cond) ∈ nwL := List.mem_of_getElem? (i := 23) rfl
theorem kn_24 : (.fieldLinkNest "AddressBook" 115 "AddressBook$Ranges" "live" "[Z" "AddressBook" : Cond) ∈ nwL := List.mem_of_getElem? (i := 24) rfl
theorem kn_25 : (.methodLinkNest "AddressBook" 121 ⟨"AddressBook$Points", "isFull", "()Z"⟩ "AddressBook" : Cond) ∈ nwL := List.mem_of_getElem? (i := 25) rfl
theorem kn_26 : (.methodLinkNest "AddressBook" 122 ⟨"AddressBook$Stays", "isFull", "()Z"⟩ "AddressBook" : Cond) ∈ nwL := List.mem_of_getElem? (i := 26) rfl
theorem kn_27 : (.fieldLinkNest "AddressBook" 123 "AddressBook$Ranges" "street" "[I" "AddressBook" : Cond) ∈ nwL := List.mem_of_getElem? (i := 27) rfl
theorem kn_28 : (.methodLinkNest "AddressBook" 127 ⟨"AddressBook$Points", "add", "(III)I"⟩ "AddressBook" : Cond) ∈ nwL := List.mem_of_getElem? (i := 28) rfl
theorem kn_29 : (.methodLinkNest "AddressBook" 133 ⟨"AddressBook$Stays", "begin", "(III)I"⟩ "AddressBook" : Cond) ∈ nwL := List.mem_of_getElem? (i := 29) rfl
theorem kn_30 : (.methodLinkNest "AddressBook" 239 ⟨"AddressBook$Stays", "end", "(II)V"⟩ "AddressBook" : Cond) ∈ nwL := List.mem_of_getElem? (i := 30) rfl
theorem kn_31 : (.fieldLinkNest "AddressBook" 215 "AddressBook$Ranges" "lowest" "[I" "AddressBook" : Cond) ∈ nwL := List.mem_of_getElem? (i := 31) rfl
theorem kn_32 : (.fieldLinkNest "AddressBook" 218 "AddressBook$Ranges" "highest" "[I" "AddressBook" : Cond) ∈ nwL := List.mem_of_getElem? (i := 32) rfl
theorem kn_33 : (.fieldLinkNest "AddressBook" 221 "AddressBook$Ranges" "side" "[I" "AddressBook" : Cond) ∈ nwL := List.mem_of_getElem? (i := 33) rfl
theorem kn_34 : (.methodLinkNest "AddressBook" 230 ⟨"AddressBook$Ranges", "leastOverAnyOf", "(II)I"⟩ "AddressBook" : Cond) ∈ nwL := List.mem_of_getElem? (i := 34) rfl
theorem kn_35 : (.methodLinkNest "AddressBook" 236 ⟨"AddressBook$Ranges", "moveLive", "(II)V"⟩ "AddressBook" : Cond) ∈ nwL := List.mem_of_getElem? (i := 35) rfl
theorem kn_36 : (.methodLinkNest "AddressBook" 157 ⟨"AddressBook$Streets", "goInto", "(III)V"⟩ "AddressBook" : Cond) ∈ nwL := List.mem_of_getElem? (i := 36) rfl
theorem kn_37 : (.methodLinkNest "AddressBook" 179 ⟨"AddressBook$Points", "has", "(I)Z"⟩ "AddressBook" : Cond) ∈ nwL := List.mem_of_getElem? (i := 37) rfl
theorem kn_38 : (.fieldLinkNest "AddressBook" 240 "AddressBook$Stays" "left" "[Z" "AddressBook" : Cond) ∈ nwL := List.mem_of_getElem? (i := 38) rfl
theorem kn_39 : (.methodLinkNest "AddressBook" 151 ⟨"AddressBook$Ranges", "anyLiveOf", "(I)Z"⟩ "AddressBook" : Cond) ∈ nwL := List.mem_of_getElem? (i := 39) rfl
theorem kn_40 : (.methodLinkNest "AddressBook" 154 ⟨"AddressBook$Streets", "meaning", "(II)I"⟩ "AddressBook" : Cond) ∈ nwL := List.mem_of_getElem? (i := 40) rfl
theorem kn_41 : (.fieldLinkNest "AddressBook" 251 "AddressBook$Stays" "point" "[I" "AddressBook" : Cond) ∈ nwL := List.mem_of_getElem? (i := 41) rfl
theorem kn_42 : (.fieldLinkNest "AddressBook" 202 "AddressBook$Points" "firstStreet" "[I" "AddressBook" : Cond) ∈ nwL := List.mem_of_getElem? (i := 42) rfl
theorem kn_43 : (.fieldLinkNest "AddressBook" 243 "AddressBook$Stays" "size" "I" "AddressBook" : Cond) ∈ nwL := List.mem_of_getElem? (i := 43) rfl
theorem kn_44 : (.methodLinkNest "AddressBook" 244 ⟨"AddressBook$Stays", "holdsOn", "(II)Z"⟩ "AddressBook" : Cond) ∈ nwL := List.mem_of_getElem? (i := 44) rfl
theorem kn_45 : (.methodLinkNest "AddressBook" 254 ⟨"AddressBook$Stays", "isLeftShortlyBefore", "(II)Z"⟩ "AddressBook" : Cond) ∈ nwL := List.mem_of_getElem? (i := 45) rfl
theorem kn_46 : (.methodLinkNest "AddressBook" 257 ⟨"AddressBook$Stays", "isLeftLater", "(II)Z"⟩ "AddressBook" : Cond) ∈ nwL := List.mem_of_getElem? (i := 46) rfl
theorem kn_47 : (.methodLinkNest "AddressBook" 187 ⟨"AddressBook$Ranges", "housesOf", "(I)I"⟩ "AddressBook" : Cond) ∈ nwL := List.mem_of_getElem? (i := 47) rfl
theorem kn_48 : (.methodLinkNest "AddressBook" 196 ⟨"AddressBook$Stays", "ofPointOn", "(II)I"⟩ "AddressBook" : Cond) ∈ nwL := List.mem_of_getElem? (i := 48) rfl
theorem kn_49 : (.fieldLinkNest "AddressBook" 205 "AddressBook$Places" "size" "I" "AddressBook" : Cond) ∈ nwL := List.mem_of_getElem? (i := 49) rfl
theorem kn_50 : (.fieldLinkNest "AddressBook" 206 "AddressBook$Streets" "size" "I" "AddressBook" : Cond) ∈ nwL := List.mem_of_getElem? (i := 50) rfl
theorem kn_51 : (.methodLinkNest "AddressBook" 11 ⟨"AddressBook$Places", "<init>", "()V"⟩ "AddressBook" : Cond) ∈ nwL := List.mem_of_getElem? (i := 51) rfl
theorem kn_52 : (.methodLinkNest "AddressBook" 18 ⟨"AddressBook$Streets", "<init>", "()V"⟩ "AddressBook" : Cond) ∈ nwL := List.mem_of_getElem? (i := 52) rfl
theorem kn_53 : (.methodLinkNest "AddressBook" 25 ⟨"AddressBook$Ranges", "<init>", "()V"⟩ "AddressBook" : Cond) ∈ nwL := List.mem_of_getElem? (i := 53) rfl
theorem kn_54 : (.methodLinkNest "AddressBook" 32 ⟨"AddressBook$Points", "<init>", "()V"⟩ "AddressBook" : Cond) ∈ nwL := List.mem_of_getElem? (i := 54) rfl
theorem kn_55 : (.methodLinkNest "AddressBook" 39 ⟨"AddressBook$Stays", "<init>", "()V"⟩ "AddressBook" : Cond) ∈ nwL := List.mem_of_getElem? (i := 55) rfl
abbrev vwCl : List vw_C := [(RX0, TX0, 7), (RX1, TX1, 2), (RX2, TX2, 6), (RX3, TX3, 6), (RX4, TX4, 6), (RX5, TX5, 6), (RX6, TX6, 25)]

theorem goodIn_r {big : List Cond} (ws : List Cond) (ps : List Nat) (hp : ws = ps.filterMap (fun i => big[i]?)) (h : ws.all goodWord = true) : GoodIn big ws := by
  intro w hw
  have h1 := List.all_eq_true.mp h w hw
  rw [hp] at hw
  obtain ⟨i, -, hi⟩ := List.mem_filterMap.mp hw
  have hm : w ∈ big := by first | exact List.mem_of_getElem? hi | exact List.getElem?_mem hi
  exact ⟨hm, good_of_word h1⟩
theorem goodIn_app {big a b : List Cond} (ha : GoodIn big a) (hb : GoodIn big b) : GoodIn big (a ++ b) := fun w h => (List.mem_append.mp h).elim (ha w) (hb w)
theorem goodIn_ca {big a b : List Cond} {c : Cond} (ha : GoodIn big (c :: a)) (hb : GoodIn big b) : GoodIn big (c :: (a ++ b)) := fun w h => (List.mem_cons.mp h).elim (fun e => ha w (List.mem_cons.mpr (Or.inl e))) (fun h => (List.mem_append.mp h).elim (fun h => ha w (List.mem_cons.mpr (Or.inr h))) (hb w))
theorem goodIn_sub {big ws : List Cond} (hm : ∀ w ∈ ws, w ∈ big) (h : ws.all goodWord = true) : GoodIn big ws := fun w hw => ⟨hm w hw, good_of_word (List.all_eq_true.mp h w hw)⟩
def RX0 : String := "RhymeLaw$Choice"
def TX0 : u_T := fun k => match k with
  | 0 => ("RhymeLaw$Choice", "row", "LRhymeLaw$Paper;", true)
  | 1 => ("RhymeLaw$Choice", "picks", "[I", true)
  | 2 => ("RhymeLaw$Choice", "tale", "LRhymeLaw$Tale;", false)
  | 3 => ("RhymeLaw$Choice", "form", "I", false)
  | 4 => ("RhymeLaw$Choice", "dialect", "I", false)
  | _ => ("RhymeLaw$Choice", "things", "I", false)
def tyX0 : Nat → FieldType := fun k => match k with
  | 0 => .object "RhymeLaw$Paper"
  | 1 => .array .int
  | 2 => .object "RhymeLaw$Tale"
  | 3 => .int
  | 4 => .int
  | _ => .int
abbrev wsX00 : List Cond := u_ws RX0 TX0 6
theorem nmX0 : ∀ a, a < 6 → ∀ b, b < 6 → a ≠ b → (TX0 a).2.1 ≠ (TX0 b).2.1 := by decide +kernel
theorem tyX0_ok : ∀ k, k < 6 → parseFieldDescriptor (TX0 k).2.2.1 = some (tyX0 k) := by decide +kernel
abbrev cX0_init : ByteArray := prog_2_method_1_code
def yX0_init : MethodName := ⟨RX0, "<init>", "()V"⟩
abbrev cX0_find : ByteArray := prog_2_method_2_code
def yX0_find : MethodName := ⟨RX0, "find", "(LRhymeLaw$Tale;III)I"⟩
abbrev cX0_pickAt : ByteArray := prog_2_method_3_code
def yX0_pickAt : MethodName := ⟨RX0, "pickAt", "(I)I"⟩
abbrev cX0_extend : ByteArray := prog_2_method_4_code
def yX0_extend : MethodName := ⟨RX0, "extend", "(LRhymeLaw$Choice;III)Z"⟩
abbrev cX0_stockSize : ByteArray := prog_2_method_5_code
def yX0_stockSize : MethodName := ⟨RX0, "stockSize", "()I"⟩
abbrev cX0_lay : ByteArray := prog_2_method_6_code
def yX0_lay : MethodName := ⟨RX0, "lay", "(II)Z"⟩
abbrev cX0_hasThings : ByteArray := prog_2_method_7_code
def yX0_hasThings : MethodName := ⟨RX0, "hasThings", "()Z"⟩
def RX1 : String := "RhymeLaw$Forms"
def TX1 : u_T := fun k => match k with
  | 0 => ("RhymeLaw$Forms", "letters", "[I", true)
  | 1 => ("RhymeLaw$Forms", "lengths", "[I", true)
  | _ => ("RhymeLaw$Forms", "size", "I", false)
def tyX1 : Nat → FieldType := fun k => match k with
  | 0 => .array .int
  | 1 => .array .int
  | _ => .int
abbrev wsX10 : List Cond := u_ws RX1 TX1 3
theorem nmX1 : ∀ a, a < 3 → ∀ b, b < 3 → a ≠ b → (TX1 a).2.1 ≠ (TX1 b).2.1 := by decide +kernel
theorem tyX1_ok : ∀ k, k < 3 → parseFieldDescriptor (TX1 k).2.2.1 = some (tyX1 k) := by decide +kernel
abbrev cX1_init : ByteArray := prog_3_method_1_code
def yX1_init : MethodName := ⟨RX1, "<init>", "()V"⟩
abbrev cX1_size : ByteArray := prog_3_method_2_code
def yX1_size : MethodName := ⟨RX1, "size", "()I"⟩
abbrev cX1_isFull : ByteArray := prog_3_method_3_code
def yX1_isFull : MethodName := ⟨RX1, "isFull", "()Z"⟩
abbrev cX1_has : ByteArray := prog_3_method_4_code
def yX1_has : MethodName := ⟨RX1, "has", "(I)Z"⟩
abbrev cX1_wipe : ByteArray := prog_3_method_5_code
def yX1_wipe : MethodName := ⟨RX1, "wipe", "()V"⟩
abbrev cX1_begin : ByteArray := prog_3_method_6_code
def yX1_begin : MethodName := ⟨RX1, "begin", "()V"⟩
abbrev cX1_addLetter : ByteArray := prog_3_method_7_code
def yX1_addLetter : MethodName := ⟨RX1, "addLetter", "(I)V"⟩
abbrev cX1_letter : ByteArray := prog_3_method_8_code
def yX1_letter : MethodName := ⟨RX1, "letter", "(II)I"⟩
abbrev cX1_ahead : ByteArray := prog_3_method_9_code
def yX1_ahead : MethodName := ⟨RX1, "ahead", "(II)I"⟩
abbrev cX1_behind : ByteArray := prog_3_method_10_code
def yX1_behind : MethodName := ⟨RX1, "behind", "(III)I"⟩
abbrev cX1_pairs : ByteArray := prog_3_method_11_code
def yX1_pairs : MethodName := ⟨RX1, "pairs", "(II)Z"⟩
def RX2 : String := "RhymeLaw$Guess"
def TX2 : u_T := fun k => match k with
  | 0 => ("RhymeLaw$Guess", "ways", "[J", true)
  | _ => ("RhymeLaw$Guess", "possible", "[I", true)
def tyX2 : Nat → FieldType := fun k => match k with
  | 0 => .array .long
  | _ => .array .int
abbrev wsX20 : List Cond := u_ws RX2 TX2 2
theorem nmX2 : ∀ a, a < 2 → ∀ b, b < 2 → a ≠ b → (TX2 a).2.1 ≠ (TX2 b).2.1 := by decide +kernel
theorem tyX2_ok : ∀ k, k < 2 → parseFieldDescriptor (TX2 k).2.2.1 = some (tyX2 k) := by decide +kernel
abbrev cX2_init : ByteArray := prog_4_method_1_code
def yX2_init : MethodName := ⟨RX2, "<init>", "()V"⟩
abbrev cX2_waysOf : ByteArray := prog_4_method_2_code
def yX2_waysOf : MethodName := ⟨RX2, "waysOf", "(LRhymeLaw$Tale;III)J"⟩
abbrev cX2_wordsOf : ByteArray := prog_4_method_3_code
def yX2_wordsOf : MethodName := ⟨RX2, "wordsOf", "(LRhymeLaw$Tale;III)I"⟩
abbrev cX2_weigh : ByteArray := prog_4_method_4_code
def yX2_weigh : MethodName := ⟨RX2, "weigh", "(LRhymeLaw$Tale;IIIZ)V"⟩
abbrev cX2_sum : ByteArray := prog_4_method_5_code
def yX2_sum : MethodName := ⟨RX2, "sum", "(LRhymeLaw$Words;III)J"⟩
abbrev cX2_isReached : ByteArray := prog_4_method_6_code
def yX2_isReached : MethodName := ⟨RX2, "isReached", "(LRhymeLaw$Words;III)Z"⟩
abbrev cX2_waysAt : ByteArray := prog_4_method_7_code
def yX2_waysAt : MethodName := ⟨RX2, "waysAt", "(II)J"⟩
abbrev cX2_setWays : ByteArray := prog_4_method_8_code
def yX2_setWays : MethodName := ⟨RX2, "setWays", "(IIJ)V"⟩
def RX3 : String := "RhymeLaw$Mending"
def TX3 : u_T := fun k => match k with
  | 0 => ("RhymeLaw$Mending", "costs", "[I", true)
  | _ => ("RhymeLaw$Mending", "row", "[I", true)
def tyX3 : Nat → FieldType := fun k => match k with
  | 0 => .array .int
  | _ => .array .int
abbrev wsX30 : List Cond := u_ws RX3 TX3 2
theorem nmX3 : ∀ a, a < 2 → ∀ b, b < 2 → a ≠ b → (TX3 a).2.1 ≠ (TX3 b).2.1 := by decide +kernel
theorem tyX3_ok : ∀ k, k < 2 → parseFieldDescriptor (TX3 k).2.2.1 = some (tyX3 k) := by decide +kernel
abbrev cX3_init : ByteArray := prog_5_method_1_code
def yX3_init : MethodName := ⟨RX3, "<init>", "()V"⟩
abbrev cX3_mend : ByteArray := prog_5_method_2_code
def yX3_mend : MethodName := ⟨RX3, "mend", "(LRhymeLaw$Tale;II)I"⟩
abbrev cX3_wordAt : ByteArray := prog_5_method_3_code
def yX3_wordAt : MethodName := ⟨RX3, "wordAt", "(I)I"⟩
abbrev cX3_weigh : ByteArray := prog_5_method_4_code
def yX3_weigh : MethodName := ⟨RX3, "weigh", "(LRhymeLaw$Tale;III)V"⟩
abbrev cX3_mayBecome : ByteArray := prog_5_method_5_code
def yX3_mayBecome : MethodName := ⟨RX3, "mayBecome", "(LRhymeLaw$Tale;III)Z"⟩
abbrev cX3_costAt : ByteArray := prog_5_method_6_code
def yX3_costAt : MethodName := ⟨RX3, "costAt", "(II)I"⟩
abbrev cX3_best : ByteArray := prog_5_method_7_code
def yX3_best : MethodName := ⟨RX3, "best", "(LRhymeLaw$Words;III)I"⟩
def RX4 : String := "RhymeLaw$Paper"
def TX4 : u_T := fun k => match k with
  | 0 => ("RhymeLaw$Paper", "words", "[I", true)
  | 1 => ("RhymeLaw$Paper", "things", "[I", true)
  | 2 => ("RhymeLaw$Paper", "befores", "[I", true)
  | 3 => ("RhymeLaw$Paper", "most", "I", true)
  | _ => ("RhymeLaw$Paper", "size", "I", false)
def tyX4 : Nat → FieldType := fun k => match k with
  | 0 => .array .int
  | 1 => .array .int
  | 2 => .array .int
  | 3 => .int
  | _ => .int
abbrev wsX40 : List Cond := u_ws RX4 TX4 5
theorem nmX4 : ∀ a, a < 5 → ∀ b, b < 5 → a ≠ b → (TX4 a).2.1 ≠ (TX4 b).2.1 := by decide +kernel
theorem tyX4_ok : ∀ k, k < 5 → parseFieldDescriptor (TX4 k).2.2.1 = some (tyX4 k) := by decide +kernel
abbrev cX4_init : ByteArray := prog_6_method_1_code
def yX4_init : MethodName := ⟨RX4, "<init>", "(I)V"⟩
abbrev cX4_size : ByteArray := prog_6_method_2_code
def yX4_size : MethodName := ⟨RX4, "size", "()I"⟩
abbrev cX4_isFull : ByteArray := prog_6_method_3_code
def yX4_isFull : MethodName := ⟨RX4, "isFull", "()Z"⟩
abbrev cX4_has : ByteArray := prog_6_method_4_code
def yX4_has : MethodName := ⟨RX4, "has", "(I)Z"⟩
abbrev cX4_wipe : ByteArray := prog_6_method_5_code
def yX4_wipe : MethodName := ⟨RX4, "wipe", "()V"⟩
abbrev cX4_cut : ByteArray := prog_6_method_6_code
def yX4_cut : MethodName := ⟨RX4, "cut", "(I)V"⟩
abbrev cX4_wordAt : ByteArray := prog_6_method_7_code
def yX4_wordAt : MethodName := ⟨RX4, "wordAt", "(I)I"⟩
abbrev cX4_thingAt : ByteArray := prog_6_method_8_code
def yX4_thingAt : MethodName := ⟨RX4, "thingAt", "(I)I"⟩
abbrev cX4_beforeAt : ByteArray := prog_6_method_9_code
def yX4_beforeAt : MethodName := ⟨RX4, "beforeAt", "(I)I"⟩
abbrev cX4_setWord : ByteArray := prog_6_method_10_code
def yX4_setWord : MethodName := ⟨RX4, "setWord", "(II)V"⟩
abbrev cX4_part : ByteArray := prog_6_method_11_code
def yX4_part : MethodName := ⟨RX4, "part", "(II)I"⟩
abbrev cX4_insert : ByteArray := prog_6_method_12_code
def yX4_insert : MethodName := ⟨RX4, "insert", "(IIII)V"⟩
abbrev cX4_remove : ByteArray := prog_6_method_13_code
def yX4_remove : MethodName := ⟨RX4, "remove", "(I)V"⟩
abbrev cX4_copyFrom : ByteArray := prog_6_method_14_code
def yX4_copyFrom : MethodName := ⟨RX4, "copyFrom", "(LRhymeLaw$Paper;)V"⟩
abbrev cX4_lay : ByteArray := prog_6_method_15_code
def yX4_lay : MethodName := ⟨RX4, "lay", "(IIII)V"⟩
def RX5 : String := "RhymeLaw$Reader"
def TX5 : u_T := fun k => match k with
  | _ => ("", "", "", false)
def tyX5 : Nat → FieldType := fun k => match k with
  | _ => .int
abbrev wsX50 : List Cond := u_ws RX5 TX5 0
theorem nmX5 : ∀ a, a < 0 → ∀ b, b < 0 → a ≠ b → (TX5 a).2.1 ≠ (TX5 b).2.1 := by decide +kernel
theorem tyX5_ok : ∀ k, k < 0 → parseFieldDescriptor (TX5 k).2.2.1 = some (tyX5 k) := by decide +kernel
abbrev cX5_tell : ByteArray := prog_7_method_2_code
def yX5_tell : MethodName := ⟨RX5, "tell", "(LRhymeLaw$Text;LRhymeLaw$Tale;)I"⟩
abbrev cX5_tellItem : ByteArray := prog_7_method_3_code
def yX5_tellItem : MethodName := ⟨RX5, "tellItem", "(LRhymeLaw$Text;LRhymeLaw$Tale;)Z"⟩
abbrev cX5_tellWord : ByteArray := prog_7_method_4_code
def yX5_tellWord : MethodName := ⟨RX5, "tellWord", "(LRhymeLaw$Text;LRhymeLaw$Words;)Z"⟩
abbrev cX5_tellForm : ByteArray := prog_7_method_5_code
def yX5_tellForm : MethodName := ⟨RX5, "tellForm", "(LRhymeLaw$Text;LRhymeLaw$Forms;)Z"⟩
abbrev cX5_tellMetre : ByteArray := prog_7_method_6_code
def yX5_tellMetre : MethodName := ⟨RX5, "tellMetre", "(LRhymeLaw$Text;LRhymeLaw$Tale;)Z"⟩
abbrev cX5_tellLine : ByteArray := prog_7_method_7_code
def yX5_tellLine : MethodName := ⟨RX5, "tellLine", "(LRhymeLaw$Text;LRhymeLaw$Words;LRhymeLaw$Paper;)Z"⟩
abbrev cX5_nextNumber : ByteArray := prog_7_method_8_code
def yX5_nextNumber : MethodName := ⟨RX5, "nextNumber", "(LRhymeLaw$Text;II)I"⟩
abbrev cX5_nextStop : ByteArray := prog_7_method_9_code
def yX5_nextStop : MethodName := ⟨RX5, "nextStop", "(LRhymeLaw$Text;)Z"⟩
def RX6 : String := "RhymeLaw$Rows"
def TX6 : u_T := fun k => match k with
  | _ => ("", "", "", false)
def tyX6 : Nat → FieldType := fun k => match k with
  | _ => .int
abbrev wsX60 : List Cond := u_ws RX6 TX6 0
theorem nmX6 : ∀ a, a < 0 → ∀ b, b < 0 → a ≠ b → (TX6 a).2.1 ≠ (TX6 b).2.1 := by decide +kernel
theorem tyX6_ok : ∀ k, k < 0 → parseFieldDescriptor (TX6 k).2.2.1 = some (tyX6 k) := by decide +kernel
abbrev cX6_at : ByteArray := prog_8_method_2_code
def yX6_at : MethodName := ⟨RX6, "at", "([II)I"⟩
abbrev cX6_set : ByteArray := prog_8_method_3_code
def yX6_set : MethodName := ⟨RX6, "set", "([III)V"⟩
def RX7 : String := "RhymeLaw$Tale"
def TX7 : u_T := fun k => match k with
  | 0 => ("RhymeLaw$Tale", "words", "LRhymeLaw$Words;", true)
  | 1 => ("RhymeLaw$Tale", "forms", "LRhymeLaw$Forms;", true)
  | 2 => ("RhymeLaw$Tale", "paper", "LRhymeLaw$Paper;", true)
  | 3 => ("RhymeLaw$Tale", "stock", "LRhymeLaw$Paper;", true)
  | _ => ("RhymeLaw$Tale", "metres", "[I", true)
def tyX7 : Nat → FieldType := fun k => match k with
  | 0 => .object "RhymeLaw$Words"
  | 1 => .object "RhymeLaw$Forms"
  | 2 => .object "RhymeLaw$Paper"
  | 3 => .object "RhymeLaw$Paper"
  | _ => .array .int
abbrev wsX70 : List Cond := u_ws RX7 TX7 5
theorem nmX7 : ∀ a, a < 5 → ∀ b, b < 5 → a ≠ b → (TX7 a).2.1 ≠ (TX7 b).2.1 := by decide +kernel
theorem tyX7_ok : ∀ k, k < 5 → parseFieldDescriptor (TX7 k).2.2.1 = some (tyX7 k) := by decide +kernel
abbrev cX7_init : ByteArray := prog_9_method_1_code
def yX7_init : MethodName := ⟨RX7, "<init>", "()V"⟩
abbrev cX7_wipe : ByteArray := prog_9_method_2_code
def yX7_wipe : MethodName := ⟨RX7, "wipe", "()V"⟩
abbrev cX7_metreOf : ByteArray := prog_9_method_3_code
def yX7_metreOf : MethodName := ⟨RX7, "metreOf", "(I)I"⟩
abbrev cX7_setMetre : ByteArray := prog_9_method_4_code
def yX7_setMetre : MethodName := ⟨RX7, "setMetre", "(II)V"⟩
abbrev cX7_fits : ByteArray := prog_9_method_5_code
def yX7_fits : MethodName := ⟨RX7, "fits", "(III)Z"⟩
def RX8 : String := "RhymeLaw$Text"
def TX8 : u_T := fun k => match k with
  | 0 => ("RhymeLaw$Text", "bytes", "[B", true)
  | 1 => ("RhymeLaw$Text", "length", "I", false)
  | 2 => ("RhymeLaw$Text", "start", "I", false)
  | 3 => ("RhymeLaw$Text", "end", "I", false)
  | _ => ("RhymeLaw$Text", "sort", "I", false)
def tyX8 : Nat → FieldType := fun k => match k with
  | 0 => .array .byte
  | 1 => .int
  | 2 => .int
  | 3 => .int
  | _ => .int
abbrev wsX80 : List Cond := u_ws RX8 TX8 5
theorem nmX8 : ∀ a, a < 5 → ∀ b, b < 5 → a ≠ b → (TX8 a).2.1 ≠ (TX8 b).2.1 := by decide +kernel
theorem tyX8_ok : ∀ k, k < 5 → parseFieldDescriptor (TX8 k).2.2.1 = some (tyX8 k) := by decide +kernel
abbrev cX8_init : ByteArray := prog_10_method_1_code
def yX8_init : MethodName := ⟨RX8, "<init>", "()V"⟩
abbrev cX8_length : ByteArray := prog_10_method_2_code
def yX8_length : MethodName := ⟨RX8, "length", "()I"⟩
abbrev cX8_wipe : ByteArray := prog_10_method_3_code
def yX8_wipe : MethodName := ⟨RX8, "wipe", "()V"⟩
abbrev cX8_append : ByteArray := prog_10_method_4_code
def yX8_append : MethodName := ⟨RX8, "append", "(I)V"⟩
abbrev cX8_rewind : ByteArray := prog_10_method_5_code
def yX8_rewind : MethodName := ⟨RX8, "rewind", "()V"⟩
abbrev cX8_advance : ByteArray := prog_10_method_6_code
def yX8_advance : MethodName := ⟨RX8, "advance", "()V"⟩
abbrev cX8_start : ByteArray := prog_10_method_7_code
def yX8_start : MethodName := ⟨RX8, "start", "()I"⟩
abbrev cX8_isOut : ByteArray := prog_10_method_8_code
def yX8_isOut : MethodName := ⟨RX8, "isOut", "()Z"⟩
abbrev cX8_isStop : ByteArray := prog_10_method_9_code
def yX8_isStop : MethodName := ⟨RX8, "isStop", "()Z"⟩
abbrev cX8_isNamed : ByteArray := prog_10_method_10_code
def yX8_isNamed : MethodName := ⟨RX8, "isNamed", "(Ljava/lang/String;)Z"⟩
abbrev cX8_number : ByteArray := prog_10_method_11_code
def yX8_number : MethodName := ⟨RX8, "number", "()I"⟩
abbrev cX8_letters : ByteArray := prog_10_method_12_code
def yX8_letters : MethodName := ⟨RX8, "letters", "()I"⟩
abbrev cX8_letterAt : ByteArray := prog_10_method_13_code
def yX8_letterAt : MethodName := ⟨RX8, "letterAt", "(I)I"⟩
abbrev cX8_byteAt : ByteArray := prog_10_method_14_code
def yX8_byteAt : MethodName := ⟨RX8, "byteAt", "(I)I"⟩
abbrev cX8_behind : ByteArray := prog_10_method_15_code
def yX8_behind : MethodName := ⟨RX8, "behind", "(III)I"⟩
def RX9 : String := "RhymeLaw$Verdict"
def TX9 : u_T := fun k => match k with
  | 0 => ("RhymeLaw$Verdict", "states", "[I", true)
  | 1 => ("RhymeLaw$Verdict", "anchors", "[I", true)
  | 2 => ("RhymeLaw$Verdict", "latest", "[I", true)
  | 3 => ("RhymeLaw$Verdict", "size", "I", false)
  | _ => ("RhymeLaw$Verdict", "binding", "I", false)
def tyX9 : Nat → FieldType := fun k => match k with
  | 0 => .array .int
  | 1 => .array .int
  | 2 => .array .int
  | 3 => .int
  | _ => .int
abbrev wsX90 : List Cond := u_ws RX9 TX9 5
theorem nmX9 : ∀ a, a < 5 → ∀ b, b < 5 → a ≠ b → (TX9 a).2.1 ≠ (TX9 b).2.1 := by decide +kernel
theorem tyX9_ok : ∀ k, k < 5 → parseFieldDescriptor (TX9 k).2.2.1 = some (tyX9 k) := by decide +kernel
abbrev cX9_init : ByteArray := prog_11_method_1_code
def yX9_init : MethodName := ⟨RX9, "<init>", "()V"⟩
abbrev cX9_judge : ByteArray := prog_11_method_2_code
def yX9_judge : MethodName := ⟨RX9, "judge", "(LRhymeLaw$Tale;LRhymeLaw$Paper;II)V"⟩
abbrev cX9_enter : ByteArray := prog_11_method_3_code
def yX9_enter : MethodName := ⟨RX9, "enter", "(IIII)V"⟩
abbrev cX9_stands : ByteArray := prog_11_method_4_code
def yX9_stands : MethodName := ⟨RX9, "stands", "(I)Z"⟩
abbrev cX9_opens : ByteArray := prog_11_method_5_code
def yX9_opens : MethodName := ⟨RX9, "opens", "(I)Z"⟩
abbrev cX9_rhymed : ByteArray := prog_11_method_6_code
def yX9_rhymed : MethodName := ⟨RX9, "rhymed", "(I)Z"⟩
abbrev cX9_binds : ByteArray := prog_11_method_7_code
def yX9_binds : MethodName := ⟨RX9, "binds", "(I)Z"⟩
abbrev cX9_anchor : ByteArray := prog_11_method_8_code
def yX9_anchor : MethodName := ⟨RX9, "anchor", "(I)I"⟩
abbrev cX9_isLaw : ByteArray := prog_11_method_9_code
def yX9_isLaw : MethodName := ⟨RX9, "isLaw", "()Z"⟩
abbrev cX9_firstLoose : ByteArray := prog_11_method_10_code
def yX9_firstLoose : MethodName := ⟨RX9, "firstLoose", "()I"⟩
abbrev cX9_thingsOf : ByteArray := prog_11_method_11_code
def yX9_thingsOf : MethodName := ⟨RX9, "thingsOf", "(LRhymeLaw$Paper;)I"⟩
abbrev cX9_left : ByteArray := prog_11_method_12_code
def yX9_left : MethodName := ⟨RX9, "left", "(I)I"⟩
abbrev cX9_keyLine : ByteArray := prog_11_method_13_code
def yX9_keyLine : MethodName := ⟨RX9, "keyLine", "()I"⟩
def RX10 : String := "RhymeLaw$Words"
def TX10 : u_T := fun k => match k with
  | 0 => ("RhymeLaw$Words", "sounds", "[I", true)
  | 1 => ("RhymeLaw$Words", "meanings", "[I", true)
  | 2 => ("RhymeLaw$Words", "syllables", "[I", true)
  | _ => ("RhymeLaw$Words", "size", "I", false)
def tyX10 : Nat → FieldType := fun k => match k with
  | 0 => .array .int
  | 1 => .array .int
  | 2 => .array .int
  | _ => .int
abbrev wsX100 : List Cond := u_ws RX10 TX10 4
theorem nmX10 : ∀ a, a < 4 → ∀ b, b < 4 → a ≠ b → (TX10 a).2.1 ≠ (TX10 b).2.1 := by decide +kernel
theorem tyX10_ok : ∀ k, k < 4 → parseFieldDescriptor (TX10 k).2.2.1 = some (tyX10 k) := by decide +kernel
abbrev cX10_init : ByteArray := prog_12_method_1_code
def yX10_init : MethodName := ⟨RX10, "<init>", "()V"⟩
abbrev cX10_size : ByteArray := prog_12_method_2_code
def yX10_size : MethodName := ⟨RX10, "size", "()I"⟩
abbrev cX10_isFull : ByteArray := prog_12_method_3_code
def yX10_isFull : MethodName := ⟨RX10, "isFull", "()Z"⟩
abbrev cX10_has : ByteArray := prog_12_method_4_code
def yX10_has : MethodName := ⟨RX10, "has", "(I)Z"⟩
abbrev cX10_wipe : ByteArray := prog_12_method_5_code
def yX10_wipe : MethodName := ⟨RX10, "wipe", "()V"⟩
abbrev cX10_add : ByteArray := prog_12_method_6_code
def yX10_add : MethodName := ⟨RX10, "add", "(IIII)V"⟩
abbrev cX10_sound : ByteArray := prog_12_method_7_code
def yX10_sound : MethodName := ⟨RX10, "sound", "(II)I"⟩
abbrev cX10_meaning : ByteArray := prog_12_method_8_code
def yX10_meaning : MethodName := ⟨RX10, "meaning", "(I)I"⟩
abbrev cX10_syllables : ByteArray := prog_12_method_9_code
def yX10_syllables : MethodName := ⟨RX10, "syllables", "(I)I"⟩
abbrev cX10_rhyme : ByteArray := prog_12_method_10_code
def yX10_rhyme : MethodName := ⟨RX10, "rhyme", "(III)Z"⟩
abbrev cX10_mix : ByteArray := prog_12_method_11_code
def yX10_mix : MethodName := ⟨RX10, "mix", "(I)V"⟩
def RX11 : String := "RhymeLaw"
def TX11 : u_T := fun k => match k with
  | 0 => ("RhymeLaw", "text", "LRhymeLaw$Text;", true)
  | 1 => ("RhymeLaw", "verdict", "LRhymeLaw$Verdict;", true)
  | 2 => ("RhymeLaw", "trial", "LRhymeLaw$Paper;", true)
  | 3 => ("RhymeLaw", "mending", "LRhymeLaw$Mending;", true)
  | 4 => ("RhymeLaw", "guess", "LRhymeLaw$Guess;", true)
  | 5 => ("RhymeLaw", "choice", "LRhymeLaw$Choice;", true)
  | 6 => ("RhymeLaw", "firstImage", "LRhymeLaw$Paper;", true)
  | 7 => ("RhymeLaw", "secondImage", "LRhymeLaw$Paper;", true)
  | 8 => ("RhymeLaw", "told", "LRhymeLaw$Tale;", false)
  | 9 => ("RhymeLaw", "spare", "LRhymeLaw$Tale;", false)
  | 10 => ("RhymeLaw", "kept", "I", false)
  | _ => ("RhymeLaw", "traced", "J", false)
def tyX11 : Nat → FieldType := fun k => match k with
  | 0 => .object "RhymeLaw$Text"
  | 1 => .object "RhymeLaw$Verdict"
  | 2 => .object "RhymeLaw$Paper"
  | 3 => .object "RhymeLaw$Mending"
  | 4 => .object "RhymeLaw$Guess"
  | 5 => .object "RhymeLaw$Choice"
  | 6 => .object "RhymeLaw$Paper"
  | 7 => .object "RhymeLaw$Paper"
  | 8 => .object "RhymeLaw$Tale"
  | 9 => .object "RhymeLaw$Tale"
  | 10 => .int
  | _ => .long
abbrev wsX110 : List Cond := u_ws RX11 TX11 12
theorem nmX11 : ∀ a, a < 12 → ∀ b, b < 12 → a ≠ b → (TX11 a).2.1 ≠ (TX11 b).2.1 := by decide +kernel
theorem tyX11_ok : ∀ k, k < 12 → parseFieldDescriptor (TX11 k).2.2.1 = some (tyX11 k) := by decide +kernel
abbrev cX11_init : ByteArray := prog_1_method_1_code
def yX11_init : MethodName := ⟨RX11, "<init>", "()V"⟩
abbrev cX11_type : ByteArray := prog_1_method_2_code
def yX11_type : MethodName := ⟨RX11, "type", "(JI)I"⟩
abbrev cX11_clear : ByteArray := prog_1_method_3_code
def yX11_clear : MethodName := ⟨RX11, "clear", "()I"⟩
abbrev cX11_read : ByteArray := prog_1_method_4_code
def yX11_read : MethodName := ⟨RX11, "read", "()I"⟩
abbrev cX11_word : ByteArray := prog_1_method_5_code
def yX11_word : MethodName := ⟨RX11, "word", "(II)I"⟩
abbrev cX11_form : ByteArray := prog_1_method_6_code
def yX11_form : MethodName := ⟨RX11, "form", "(II)I"⟩
abbrev cX11_metre : ByteArray := prog_1_method_7_code
def yX11_metre : MethodName := ⟨RX11, "metre", "(II)I"⟩
abbrev cX11_line : ByteArray := prog_1_method_8_code
def yX11_line : MethodName := ⟨RX11, "line", "(II)I"⟩
abbrev cX11_stock : ByteArray := prog_1_method_9_code
def yX11_stock : MethodName := ⟨RX11, "stock", "(II)I"⟩
abbrev cX11_put : ByteArray := prog_1_method_10_code
def yX11_put : MethodName := ⟨RX11, "put", "(IIII)I"⟩
abbrev cX11_change : ByteArray := prog_1_method_11_code
def yX11_change : MethodName := ⟨RX11, "change", "(II)I"⟩
abbrev cX11_take : ByteArray := prog_1_method_12_code
def yX11_take : MethodName := ⟨RX11, "take", "(I)I"⟩
abbrev cX11_judged : ByteArray := prog_1_method_13_code
def yX11_judged : MethodName := ⟨RX11, "judged", "(IIII)I"⟩
abbrev cX11_law : ByteArray := prog_1_method_14_code
def yX11_law : MethodName := ⟨RX11, "law", "(II)I"⟩
abbrev cX11_empty : ByteArray := prog_1_method_15_code
def yX11_empty : MethodName := ⟨RX11, "empty", "(II)I"⟩
abbrev cX11_bound : ByteArray := prog_1_method_16_code
def yX11_bound : MethodName := ⟨RX11, "bound", "(II)I"⟩
abbrev cX11_struck : ByteArray := prog_1_method_17_code
def yX11_struck : MethodName := ⟨RX11, "struck", "(III)I"⟩
abbrev cX11_key : ByteArray := prog_1_method_18_code
def yX11_key : MethodName := ⟨RX11, "key", "(II)I"⟩
abbrev cX11_mended : ByteArray := prog_1_method_19_code
def yX11_mended : MethodName := ⟨RX11, "mended", "(III)I"⟩
abbrev cX11_shortest : ByteArray := prog_1_method_20_code
def yX11_shortest : MethodName := ⟨RX11, "shortest", "(IIII)I"⟩
abbrev cX11_both : ByteArray := prog_1_method_21_code
def yX11_both : MethodName := ⟨RX11, "both", "(I)I"⟩
abbrev cX11_parting : ByteArray := prog_1_method_22_code
def yX11_parting : MethodName := ⟨RX11, "parting", "(I)I"⟩
abbrev cX11_forged : ByteArray := prog_1_method_23_code
def yX11_forged : MethodName := ⟨RX11, "forged", "(III)I"⟩
abbrev cX11_burnt : ByteArray := prog_1_method_24_code
def yX11_burnt : MethodName := ⟨RX11, "burnt", "(IIII)J"⟩
abbrev cX11_rate : ByteArray := prog_1_method_25_code
def yX11_rate : MethodName := ⟨RX11, "rate", "(II)I"⟩
abbrev cX11_keep : ByteArray := prog_1_method_26_code
def yX11_keep : MethodName := ⟨RX11, "keep", "(I)I"⟩
abbrev cX11_back : ByteArray := prog_1_method_27_code
def yX11_back : MethodName := ⟨RX11, "back", "(I)I"⟩
abbrev cX11_count : ByteArray := prog_1_method_28_code
def yX11_count : MethodName := ⟨RX11, "count", "(I)I"⟩
abbrev cX11_trace : ByteArray := prog_1_method_29_code
def yX11_trace : MethodName := ⟨RX11, "trace", "()J"⟩
abbrev cX11_isNoView : ByteArray := prog_1_method_30_code
def yX11_isNoView : MethodName := ⟨RX11, "isNoView", "(II)Z"⟩
abbrev cX11_isNoLineNorAll : ByteArray := prog_1_method_31_code
def yX11_isNoLineNorAll : MethodName := ⟨RX11, "isNoLineNorAll", "(I)Z"⟩
abbrev cX11_view : ByteArray := prog_1_method_32_code
def yX11_view : MethodName := ⟨RX11, "view", "(II)LRhymeLaw$Verdict;"⟩
abbrev cX11_isMixedLaw : ByteArray := prog_1_method_33_code
def yX11_isMixedLaw : MethodName := ⟨RX11, "isMixedLaw", "(II)Z"⟩
abbrev cX11_isLoosed : ByteArray := prog_1_method_34_code
def yX11_isLoosed : MethodName := ⟨RX11, "isLoosed", "(IIIII)Z"⟩
abbrev cX11_imageOf : ByteArray := prog_1_method_35_code
def yX11_imageOf : MethodName := ⟨RX11, "imageOf", "(I)LRhymeLaw$Paper;"⟩
abbrev cX11_asLine : ByteArray := prog_1_method_36_code
def yX11_asLine : MethodName := ⟨RX11, "asLine", "(I)I"⟩
abbrev cX11_asOpening : ByteArray := prog_1_method_37_code
def yX11_asOpening : MethodName := ⟨RX11, "asOpening", "(I)I"⟩
abbrev cX11_asRhymed : ByteArray := prog_1_method_38_code
def yX11_asRhymed : MethodName := ⟨RX11, "asRhymed", "(I)I"⟩
abbrev cX11_asAnchor : ByteArray := prog_1_method_39_code
def yX11_asAnchor : MethodName := ⟨RX11, "asAnchor", "(I)I"⟩
abbrev cX11_asKey : ByteArray := prog_1_method_40_code
def yX11_asKey : MethodName := ⟨RX11, "asKey", "(I)I"⟩
abbrev cX11_asFallen : ByteArray := prog_1_method_41_code
def yX11_asFallen : MethodName := ⟨RX11, "asFallen", "(I)I"⟩
def RX12 : String := "RhymeLawModel"
def TX12 : u_T := fun k => match k with
  | 0 => ("RhymeLawModel", "thrown", "I", false)
  | 1 => ("RhymeLawModel", "trace", "J", false)
  | 2 => ("RhymeLawModel", "text", "[I", true)
  | 3 => ("RhymeLawModel", "typed", "I", false)
  | 4 => ("RhymeLawModel", "next", "I", false)
  | 5 => ("RhymeLawModel", "token", "I", false)
  | 6 => ("RhymeLawModel", "place", "I", false)
  | 7 => ("RhymeLawModel", "value", "I", false)
  | 8 => ("RhymeLawModel", "fault", "I", false)
  | 9 => ("RhymeLawModel", "word", "[I", true)
  | 10 => ("RhymeLawModel", "form", "[I", true)
  | 11 => ("RhymeLawModel", "metre", "[I", true)
  | 12 => ("RhymeLawModel", "stock", "[I", true)
  | 13 => ("RhymeLawModel", "words", "I", false)
  | 14 => ("RhymeLawModel", "forms", "I", false)
  | 15 => ("RhymeLawModel", "stocks", "I", false)
  | 16 => ("RhymeLawModel", "draftWords", "I", false)
  | 17 => ("RhymeLawModel", "draftForms", "I", false)
  | 18 => ("RhymeLawModel", "draftStocks", "I", false)
  | 19 => ("RhymeLawModel", "draftLines", "I", false)
  | 20 => ("RhymeLawModel", "draftLine", "[I", true)
  | 21 => ("RhymeLawModel", "s", "[I", true)
  | 22 => ("RhymeLawModel", "kept", "[I", true)
  | 23 => ("RhymeLawModel", "isKept", "[Z", true)
  | 24 => ("RhymeLawModel", "tried", "[I", true)
  | 25 => ("RhymeLawModel", "many", "I", false)
  | 26 => ("RhymeLawModel", "stands", "[Z", true)
  | 27 => ("RhymeLawModel", "opens", "[Z", true)
  | 28 => ("RhymeLawModel", "binds", "[Z", true)
  | 29 => ("RhymeLawModel", "anchor", "[I", true)
  | 30 => ("RhymeLawModel", "lapses", "[Z", true)
  | 31 => ("RhymeLawModel", "sound", "[I", true)
  | 32 => ("RhymeLawModel", "may", "[I", true)
  | 33 => ("RhymeLawModel", "row", "[I", true)
  | 34 => ("RhymeLawModel", "ways", "[J", true)
  | 35 => ("RhymeLawModel", "waysThen", "[J", true)
  | 36 => ("RhymeLawModel", "least", "[I", true)
  | _ => ("RhymeLawModel", "leastThen", "[I", true)
def tyX12 : Nat → FieldType := fun k => match k with
  | 0 => .int
  | 1 => .long
  | 2 => .array .int
  | 3 => .int
  | 4 => .int
  | 5 => .int
  | 6 => .int
  | 7 => .int
  | 8 => .int
  | 9 => .array .int
  | 10 => .array .int
  | 11 => .array .int
  | 12 => .array .int
  | 13 => .int
  | 14 => .int
  | 15 => .int
  | 16 => .int
  | 17 => .int
  | 18 => .int
  | 19 => .int
  | 20 => .array .int
  | 21 => .array .int
  | 22 => .array .int
  | 23 => .array .boolean
  | 24 => .array .int
  | 25 => .int
  | 26 => .array .boolean
  | 27 => .array .boolean
  | 28 => .array .boolean
  | 29 => .array .int
  | 30 => .array .boolean
  | 31 => .array .int
  | 32 => .array .int
  | 33 => .array .int
  | 34 => .array .long
  | 35 => .array .long
  | 36 => .array .int
  | _ => .array .int
abbrev wsX120 : List Cond := u_ws RX12 TX12 38
theorem nmX12 : ∀ a, a < 38 → ∀ b, b < 38 → a ≠ b → (TX12 a).2.1 ≠ (TX12 b).2.1 := by decide +kernel
theorem tyX12_ok : ∀ k, k < 38 → parseFieldDescriptor (TX12 k).2.2.1 = some (tyX12 k) := by decide +kernel
abbrev cX12_init : ByteArray := prog_14_method_1_code
def yX12_init : MethodName := ⟨RX12, "<init>", "()V"⟩
abbrev cX12_in : ByteArray := prog_14_method_3_code
def yX12_in : MethodName := ⟨RX12, "in", "(III)Z"⟩
abbrev cX12_type : ByteArray := prog_14_method_4_code
def yX12_type : MethodName := ⟨RX12, "type", "(JI)I"⟩
abbrev cX12_clear : ByteArray := prog_14_method_5_code
def yX12_clear : MethodName := ⟨RX12, "clear", "()I"⟩
abbrev cX12_byteAt : ByteArray := prog_14_method_6_code
def yX12_byteAt : MethodName := ⟨RX12, "byteAt", "(I)I"⟩
abbrev cX12_advances : ByteArray := prog_14_method_7_code
def yX12_advances : MethodName := ⟨RX12, "advances", "()V"⟩
abbrev cX12_isWell : ByteArray := prog_14_method_8_code
def yX12_isWell : MethodName := ⟨RX12, "isWell", "()Z"⟩
abbrev cX12_wants : ByteArray := prog_14_method_9_code
def yX12_wants : MethodName := ⟨RX12, "wants", "(Z)V"⟩
abbrev cX12_number : ByteArray := prog_14_method_10_code
def yX12_number : MethodName := ⟨RX12, "number", "(II)I"⟩
abbrev cX12_says : ByteArray := prog_14_method_11_code
def yX12_says : MethodName := ⟨RX12, "says", "(IIIII)Z"⟩
abbrev cX12_begins : ByteArray := prog_14_method_12_code
def yX12_begins : MethodName := ⟨RX12, "begins", "()I"⟩
abbrev cX12_areLetters : ByteArray := prog_14_method_13_code
def yX12_areLetters : MethodName := ⟨RX12, "areLetters", "(I)Z"⟩
abbrev cX12_readsWord : ByteArray := prog_14_method_14_code
def yX12_readsWord : MethodName := ⟨RX12, "readsWord", "()V"⟩
abbrev cX12_readsForm : ByteArray := prog_14_method_15_code
def yX12_readsForm : MethodName := ⟨RX12, "readsForm", "()V"⟩
abbrev cX12_readsMetre : ByteArray := prog_14_method_16_code
def yX12_readsMetre : MethodName := ⟨RX12, "readsMetre", "()V"⟩
abbrev cX12_readsLine : ByteArray := prog_14_method_17_code
def yX12_readsLine : MethodName := ⟨RX12, "readsLine", "([II)V"⟩
abbrev cX12_readsItem : ByteArray := prog_14_method_18_code
def yX12_readsItem : MethodName := ⟨RX12, "readsItem", "(I)V"⟩
abbrev cX12_read : ByteArray := prog_14_method_19_code
def yX12_read : MethodName := ⟨RX12, "read", "()I"⟩
abbrev cX12_isWord : ByteArray := prog_14_method_20_code
def yX12_isWord : MethodName := ⟨RX12, "isWord", "(I)Z"⟩
abbrev cX12_isLine : ByteArray := prog_14_method_21_code
def yX12_isLine : MethodName := ⟨RX12, "isLine", "(I)Z"⟩
abbrev cX12_isForm : ByteArray := prog_14_method_22_code
def yX12_isForm : MethodName := ⟨RX12, "isForm", "(II)Z"⟩
abbrev cX12_word : ByteArray := prog_14_method_23_code
def yX12_word : MethodName := ⟨RX12, "word", "(II)I"⟩
abbrev cX12_letterOf : ByteArray := prog_14_method_24_code
def yX12_letterOf : MethodName := ⟨RX12, "letterOf", "(II)I"⟩
abbrev cX12_form : ByteArray := prog_14_method_25_code
def yX12_form : MethodName := ⟨RX12, "form", "(II)I"⟩
abbrev cX12_metre : ByteArray := prog_14_method_26_code
def yX12_metre : MethodName := ⟨RX12, "metre", "(II)I"⟩
abbrev cX12_line : ByteArray := prog_14_method_27_code
def yX12_line : MethodName := ⟨RX12, "line", "(II)I"⟩
abbrev cX12_stock : ByteArray := prog_14_method_28_code
def yX12_stock : MethodName := ⟨RX12, "stock", "(II)I"⟩
abbrev cX12_put : ByteArray := prog_14_method_29_code
def yX12_put : MethodName := ⟨RX12, "put", "(IIII)I"⟩
abbrev cX12_change : ByteArray := prog_14_method_30_code
def yX12_change : MethodName := ⟨RX12, "change", "(II)I"⟩
abbrev cX12_take : ByteArray := prog_14_method_31_code
def yX12_take : MethodName := ⟨RX12, "take", "(I)I"⟩
abbrev cX12_lays : ByteArray := prog_14_method_32_code
def yX12_lays : MethodName := ⟨RX12, "lays", "()V"⟩
abbrev cX12_hears : ByteArray := prog_14_method_33_code
def yX12_hears : MethodName := ⟨RX12, "hears", "(I)V"⟩
abbrev cX12_isMetre : ByteArray := prog_14_method_34_code
def yX12_isMetre : MethodName := ⟨RX12, "isMetre", "(III)Z"⟩
abbrev cX12_judges : ByteArray := prog_14_method_35_code
def yX12_judges : MethodName := ⟨RX12, "judges", "(I)V"⟩
abbrev cX12_holds : ByteArray := prog_14_method_36_code
def yX12_holds : MethodName := ⟨RX12, "holds", "(IZ)Z"⟩
abbrev cX12_judgesPaper : ByteArray := prog_14_method_37_code
def yX12_judgesPaper : MethodName := ⟨RX12, "judgesPaper", "(II)V"⟩
abbrev cX12_emptyLine : ByteArray := prog_14_method_38_code
def yX12_emptyLine : MethodName := ⟨RX12, "emptyLine", "()I"⟩
abbrev cX12_isLaw : ByteArray := prog_14_method_39_code
def yX12_isLaw : MethodName := ⟨RX12, "isLaw", "(I)Z"⟩
abbrev cX12_judged : ByteArray := prog_14_method_40_code
def yX12_judged : MethodName := ⟨RX12, "judged", "(IIII)I"⟩
abbrev cX12_law : ByteArray := prog_14_method_41_code
def yX12_law : MethodName := ⟨RX12, "law", "(II)I"⟩
abbrev cX12_empty : ByteArray := prog_14_method_42_code
def yX12_empty : MethodName := ⟨RX12, "empty", "(II)I"⟩
abbrev cX12_boundBy : ByteArray := prog_14_method_43_code
def yX12_boundBy : MethodName := ⟨RX12, "boundBy", "()I"⟩
abbrev cX12_bound : ByteArray := prog_14_method_44_code
def yX12_bound : MethodName := ⟨RX12, "bound", "(II)I"⟩
abbrev cX12_leftBy : ByteArray := prog_14_method_45_code
def yX12_leftBy : MethodName := ⟨RX12, "leftBy", "(I)I"⟩
abbrev cX12_struck : ByteArray := prog_14_method_46_code
def yX12_struck : MethodName := ⟨RX12, "struck", "(III)I"⟩
abbrev cX12_ones : ByteArray := prog_14_method_47_code
def yX12_ones : MethodName := ⟨RX12, "ones", "(I)I"⟩
abbrev cX12_key : ByteArray := prog_14_method_48_code
def yX12_key : MethodName := ⟨RX12, "key", "(II)I"⟩
abbrev cX12_fewestOf : ByteArray := prog_14_method_49_code
def yX12_fewestOf : MethodName := ⟨RX12, "fewestOf", "(III)I"⟩
abbrev cX12_fewestAll : ByteArray := prog_14_method_50_code
def yX12_fewestAll : MethodName := ⟨RX12, "fewestAll", "(I)I"⟩
abbrev cX12_mended : ByteArray := prog_14_method_51_code
def yX12_mended : MethodName := ⟨RX12, "mended", "(III)I"⟩
abbrev cX12_goesOn : ByteArray := prog_14_method_52_code
def yX12_goesOn : MethodName := ⟨RX12, "goesOn", "(I)Z"⟩
abbrev cX12_isInRow : ByteArray := prog_14_method_53_code
def yX12_isInRow : MethodName := ⟨RX12, "isInRow", "(II)Z"⟩
abbrev cX12_fills : ByteArray := prog_14_method_54_code
def yX12_fills : MethodName := ⟨RX12, "fills", "(II)V"⟩
abbrev cX12_laysRow : ByteArray := prog_14_method_55_code
def yX12_laysRow : MethodName := ⟨RX12, "laysRow", "(I)V"⟩
abbrev cX12_shortest : ByteArray := prog_14_method_56_code
def yX12_shortest : MethodName := ⟨RX12, "shortest", "(IIII)I"⟩
abbrev cX12_both : ByteArray := prog_14_method_57_code
def yX12_both : MethodName := ⟨RX12, "both", "(I)I"⟩
abbrev cX12_parting : ByteArray := prog_14_method_58_code
def yX12_parting : MethodName := ⟨RX12, "parting", "(I)I"⟩
abbrev cX12_forged : ByteArray := prog_14_method_59_code
def yX12_forged : MethodName := ⟨RX12, "forged", "(III)I"⟩
abbrev cX12_waysOf : ByteArray := prog_14_method_60_code
def yX12_waysOf : MethodName := ⟨RX12, "waysOf", "(III)J"⟩
abbrev cX12_waysAll : ByteArray := prog_14_method_61_code
def yX12_waysAll : MethodName := ⟨RX12, "waysAll", "(I)J"⟩
abbrev cX12_burnt : ByteArray := prog_14_method_62_code
def yX12_burnt : MethodName := ⟨RX12, "burnt", "(IIII)J"⟩
abbrev cX12_rate : ByteArray := prog_14_method_63_code
def yX12_rate : MethodName := ⟨RX12, "rate", "(II)I"⟩
abbrev cX12_keep : ByteArray := prog_14_method_64_code
def yX12_keep : MethodName := ⟨RX12, "keep", "(I)I"⟩
abbrev cX12_back : ByteArray := prog_14_method_65_code
def yX12_back : MethodName := ⟨RX12, "back", "(I)I"⟩
abbrev cX12_count : ByteArray := prog_14_method_66_code
def yX12_count : MethodName := ⟨RX12, "count", "(I)I"⟩
abbrev cX12_trace : ByteArray := prog_14_method_67_code
def yX12_trace : MethodName := ⟨RX12, "trace", "()J"⟩
def RJx145de : String := "java/io/Serializable"
def TJx145de : u_T := fun k => match k with
  | _ => ("", "", "", false)
def tyJx145de : Nat → FieldType := fun k => match k with
  | _ => .int
abbrev wsJx145de0 : List Cond := u_ws RJx145de TJx145de 0
theorem nmJx145de : ∀ a, a < 0 → ∀ b, b < 0 → a ≠ b → (TJx145de a).2.1 ≠ (TJx145de b).2.1 := by decide +kernel
theorem tyJx145de_ok : ∀ k, k < 0 → parseFieldDescriptor (TJx145de k).2.2.1 = some (tyJx145de k) := by decide +kernel
def RJx9f9b0 : String := "java/lang/CharSequence"
def TJx9f9b0 : u_T := fun k => match k with
  | _ => ("", "", "", false)
def tyJx9f9b0 : Nat → FieldType := fun k => match k with
  | _ => .int
abbrev wsJx9f9b00 : List Cond := u_ws RJx9f9b0 TJx9f9b0 0
theorem nmJx9f9b0 : ∀ a, a < 0 → ∀ b, b < 0 → a ≠ b → (TJx9f9b0 a).2.1 ≠ (TJx9f9b0 b).2.1 := by decide +kernel
theorem tyJx9f9b0_ok : ∀ k, k < 0 → parseFieldDescriptor (TJx9f9b0 k).2.2.1 = some (tyJx9f9b0 k) := by decide +kernel
def RJxb160c : String := "java/lang/Comparable"
def TJxb160c : u_T := fun k => match k with
  | _ => ("", "", "", false)
def tyJxb160c : Nat → FieldType := fun k => match k with
  | _ => .int
abbrev wsJxb160c0 : List Cond := u_ws RJxb160c TJxb160c 0
theorem nmJxb160c : ∀ a, a < 0 → ∀ b, b < 0 → a ≠ b → (TJxb160c a).2.1 ≠ (TJxb160c b).2.1 := by decide +kernel
theorem tyJxb160c_ok : ∀ k, k < 0 → parseFieldDescriptor (TJxb160c k).2.2.1 = some (tyJxb160c k) := by decide +kernel
def RJ6 : String := "java/lang/Integer"
def TJ6 : u_T := fun k => match k with
  | _ => ("", "", "", false)
def tyJ6 : Nat → FieldType := fun k => match k with
  | _ => .int
abbrev wsJ60 : List Cond := u_ws RJ6 TJ6 0
theorem nmJ6 : ∀ a, a < 0 → ∀ b, b < 0 → a ≠ b → (TJ6 a).2.1 ≠ (TJ6 b).2.1 := by decide +kernel
theorem tyJ6_ok : ∀ k, k < 0 → parseFieldDescriptor (TJ6 k).2.2.1 = some (tyJ6 k) := by decide +kernel
abbrev cJ6_bitCount_0f7a4 : ByteArray := prog_15_method_49_code
def yJ6_bitCount_0f7a4 : MethodName := ⟨RJ6, "bitCount", "(I)I"⟩
def RJ9 : String := "java/lang/Math"
def TJ9 : u_T := fun k => match k with
  | _ => ("", "", "", false)
def tyJ9 : Nat → FieldType := fun k => match k with
  | _ => .int
abbrev wsJ90 : List Cond := u_ws RJ9 TJ9 0
theorem nmJ9 : ∀ a, a < 0 → ∀ b, b < 0 → a ≠ b → (TJ9 a).2.1 ≠ (TJ9 b).2.1 := by decide +kernel
theorem tyJ9_ok : ∀ k, k < 0 → parseFieldDescriptor (TJ9 k).2.2.1 = some (tyJ9 k) := by decide +kernel
abbrev cJ9_max_7cf53 : ByteArray := prog_16_method_65_code
def yJ9_max_7cf53 : MethodName := ⟨RJ9, "max", "(II)I"⟩
abbrev cJ9_min_7cf53 : ByteArray := prog_16_method_69_code
def yJ9_min_7cf53 : MethodName := ⟨RJ9, "min", "(II)I"⟩
def RJ0 : String := "java/lang/String"
def TJ0 : u_T := fun k => match k with
  | _ => ("", "", "", false)
def tyJ0 : Nat → FieldType := fun k => match k with
  | _ => .int
abbrev wsJ00 : List Cond := u_ws RJ0 TJ0 0
theorem nmJ0 : ∀ a, a < 0 → ∀ b, b < 0 → a ≠ b → (TJ0 a).2.1 ≠ (TJ0 b).2.1 := by decide +kernel
theorem tyJ0_ok : ∀ k, k < 0 → parseFieldDescriptor (TJ0 k).2.2.1 = some (tyJ0 k) := by decide +kernel
abbrev cJ0_length_8abf5 : ByteArray := prog_17_method_54_code
def yJ0_length_8abf5 : MethodName := ⟨RJ0, "length", "()I"⟩
abbrev cJ0_charAt_5068e : ByteArray := prog_17_method_56_code
def yJ0_charAt_5068e : MethodName := ⟨RJ0, "charAt", "(I)C"⟩
abbrev cJ0_coder_7d493 : ByteArray := prog_17_method_152_code
def yJ0_coder_7d493 : MethodName := ⟨RJ0, "coder", "()B"⟩
abbrev cJ0_isLatin1_aae02 : ByteArray := prog_17_method_154_code
def yJ0_isLatin1_aae02 : MethodName := ⟨RJ0, "isLatin1", "()Z"⟩
abbrev cJ0_checkIndex_df160 : ByteArray := prog_17_method_155_code
def yJ0_checkIndex_df160 : MethodName := ⟨RJ0, "checkIndex", "(II)V"⟩
def RJ1 : String := "java/lang/StringLatin1"
def TJ1 : u_T := fun k => match k with
  | _ => ("", "", "", false)
def tyJ1 : Nat → FieldType := fun k => match k with
  | _ => .int
abbrev wsJ10 : List Cond := u_ws RJ1 TJ1 0
theorem nmJ1 : ∀ a, a < 0 → ∀ b, b < 0 → a ≠ b → (TJ1 a).2.1 ≠ (TJ1 b).2.1 := by decide +kernel
theorem tyJ1_ok : ∀ k, k < 0 → parseFieldDescriptor (TJ1 k).2.2.1 = some (tyJ1 k) := by decide +kernel
abbrev cJ1_charAt_3b067 : ByteArray := prog_18_method_2_code
def yJ1_charAt_3b067 : MethodName := ⟨RJ1, "charAt", "([BI)C"⟩
def RJ2 : String := "java/lang/StringUTF16"
def TJ2 : u_T := fun k => match k with
  | _ => ("", "", "", false)
def tyJ2 : Nat → FieldType := fun k => match k with
  | _ => .int
abbrev wsJ20 : List Cond := u_ws RJ2 TJ2 0
theorem nmJ2 : ∀ a, a < 0 → ∀ b, b < 0 → a ≠ b → (TJ2 a).2.1 ≠ (TJ2 b).2.1 := by decide +kernel
theorem tyJ2_ok : ∀ k, k < 0 → parseFieldDescriptor (TJ2 k).2.2.1 = some (tyJ2 k) := by decide +kernel
abbrev cJ2_getChar_3b067 : ByteArray := prog_19_method_5_code
def yJ2_getChar_3b067 : MethodName := ⟨RJ2, "getChar", "([BI)C"⟩
abbrev cJ2_length_9d52b : ByteArray := prog_19_method_6_code
def yJ2_length_9d52b : MethodName := ⟨RJ2, "length", "([B)I"⟩
abbrev cJ2_charAt_3b067 : ByteArray := prog_19_method_83_code
def yJ2_charAt_3b067 : MethodName := ⟨RJ2, "charAt", "([BI)C"⟩
abbrev cJ2_checkIndex_2214a : ByteArray := prog_19_method_91_code
def yJ2_checkIndex_2214a : MethodName := ⟨RJ2, "checkIndex", "(I[B)V"⟩
def RJxfd54e : String := "java/lang/constant/Constable"
def TJxfd54e : u_T := fun k => match k with
  | _ => ("", "", "", false)
def tyJxfd54e : Nat → FieldType := fun k => match k with
  | _ => .int
abbrev wsJxfd54e0 : List Cond := u_ws RJxfd54e TJxfd54e 0
theorem nmJxfd54e : ∀ a, a < 0 → ∀ b, b < 0 → a ≠ b → (TJxfd54e a).2.1 ≠ (TJxfd54e b).2.1 := by decide +kernel
theorem tyJxfd54e_ok : ∀ k, k < 0 → parseFieldDescriptor (TJxfd54e k).2.2.1 = some (tyJxfd54e k) := by decide +kernel
def RJx3cf43 : String := "java/lang/constant/ConstantDesc"
def TJx3cf43 : u_T := fun k => match k with
  | _ => ("", "", "", false)
def tyJx3cf43 : Nat → FieldType := fun k => match k with
  | _ => .int
abbrev wsJx3cf430 : List Cond := u_ws RJx3cf43 TJx3cf43 0
theorem nmJx3cf43 : ∀ a, a < 0 → ∀ b, b < 0 → a ≠ b → (TJx3cf43 a).2.1 ≠ (TJx3cf43 b).2.1 := by decide +kernel
theorem tyJx3cf43_ok : ∀ k, k < 0 → parseFieldDescriptor (TJx3cf43 k).2.2.1 = some (tyJx3cf43 k) := by decide +kernel
def RJ7 : String := "java/util/Arrays"
def TJ7 : u_T := fun k => match k with
  | _ => ("", "", "", false)
def tyJ7 : Nat → FieldType := fun k => match k with
  | _ => .int
abbrev wsJ70 : List Cond := u_ws RJ7 TJ7 0
theorem nmJ7 : ∀ a, a < 0 → ∀ b, b < 0 → a ≠ b → (TJ7 a).2.1 ≠ (TJ7 b).2.1 := by decide +kernel
theorem tyJ7_ok : ∀ k, k < 0 → parseFieldDescriptor (TJ7 k).2.2.1 = some (tyJ7 k) := by decide +kernel
abbrev cJ7_fill_53178 : ByteArray := prog_20_method_103_code
def yJ7_fill_53178 : MethodName := ⟨RJ7, "fill", "([II)V"⟩
def RJ3 : String := "jdk/internal/util/Preconditions"
def TJ3 : u_T := fun k => match k with
  | _ => ("", "", "", false)
def tyJ3 : Nat → FieldType := fun k => match k with
  | _ => .int
abbrev wsJ30 : List Cond := u_ws RJ3 TJ3 0
theorem nmJ3 : ∀ a, a < 0 → ∀ b, b < 0 → a ≠ b → (TJ3 a).2.1 ≠ (TJ3 b).2.1 := by decide +kernel
theorem tyJ3_ok : ∀ k, k < 0 → parseFieldDescriptor (TJ3 k).2.2.1 = some (tyJ3 k) := by decide +kernel
abbrev cJ3_checkIndex_8e157 : ByteArray := prog_21_method_11_code
def yJ3_checkIndex_8e157 : MethodName := ⟨RJ3, "checkIndex", "(IILjava/util/function/BiFunction;)I"⟩
def RL : String := "RhymeLawLaw"
abbrev cL_law : ByteArray := code
def yL_law : MethodName := ⟨RL, "law", "([I)Z"⟩
def wsL_law_r1 : List Cond := [Cond.classLink RL 7 RX11, Cond.instantiable RX11 12, Cond.initialized RX11, Cond.classLink RL 10 RX12, Cond.instantiable RX12 38, Cond.initialized RX12, Cond.constantLong RL 13 (4294967295), Cond.methodLink RL 9 yX11_init, Cond.instanceMethod yX11_init, Cond.code yX11_init cX11_init 1 none, Cond.methodLink RX11 1 objectInit, Cond.instanceMethod objectInit, Cond.code objectInit ⟨#[0xb1]⟩ 1 none, Cond.classLink RX11 7 RX8, Cond.instantiable RX8 5, Cond.initialized RX8, Cond.fieldLink RX11 10 "RhymeLaw" "text" "LRhymeLaw$Text;", Cond.classLink RX11 16 RX9, Cond.instantiable RX9 5, Cond.initialized RX9, Cond.fieldLink RX11 19 "RhymeLaw" "verdict" "LRhymeLaw$Verdict;", Cond.classLink RX11 23 RX4, Cond.instantiable RX4 5, Cond.initialized RX4]
def wsL_law_r2 : List Cond := [Cond.fieldLink RX11 28 "RhymeLaw" "trial" "LRhymeLaw$Paper;", Cond.classLink RX11 32 RX3, Cond.instantiable RX3 2, Cond.initialized RX3, Cond.fieldLink RX11 35 "RhymeLaw" "mending" "LRhymeLaw$Mending;", Cond.classLink RX11 39 RX2, Cond.instantiable RX2 2, Cond.initialized RX2, Cond.fieldLink RX11 42 "RhymeLaw" "guess" "LRhymeLaw$Guess;", Cond.classLink RX11 46 RX0, Cond.instantiable RX0 6, Cond.initialized RX0, Cond.fieldLink RX11 49 "RhymeLaw" "choice" "LRhymeLaw$Choice;", Cond.fieldLink RX11 53 "RhymeLaw" "firstImage" "LRhymeLaw$Paper;", Cond.fieldLink RX11 56 "RhymeLaw" "secondImage" "LRhymeLaw$Paper;", Cond.classLink RX11 59 RX7, Cond.instantiable RX7 5, Cond.initialized RX7, Cond.fieldLink RX11 62 "RhymeLaw" "told" "LRhymeLaw$Tale;", Cond.fieldLink RX11 66 "RhymeLaw" "spare" "LRhymeLaw$Tale;", Cond.methodLink RX11 9 yX8_init, Cond.instanceMethod yX8_init, Cond.code yX8_init cX8_init 1 none, Cond.methodLink RX8 3 objectInit]
def wsL_law_r3 : List Cond := [Cond.arrayClass .byte, Cond.fieldLink RX8 9 "RhymeLaw$Text" "bytes" "[B", Cond.methodLink RX11 18 yX9_init, Cond.instanceMethod yX9_init, Cond.code yX9_init cX9_init 1 none, Cond.methodLink RX9 3 objectInit, Cond.arrayClass .int, Cond.fieldLink RX9 9 "RhymeLaw$Verdict" "states" "[I", Cond.fieldLink RX9 15 "RhymeLaw$Verdict" "anchors" "[I", Cond.fieldLink RX9 18 "RhymeLaw$Verdict" "latest" "[I", Cond.methodLink RX11 25 yX4_init, Cond.instanceMethod yX4_init, Cond.code yX4_init cX4_init 2 none, Cond.methodLink RX4 3 objectInit, Cond.fieldLink RX4 9 "RhymeLaw$Paper" "words" "[I", Cond.fieldLink RX4 15 "RhymeLaw$Paper" "things" "[I", Cond.fieldLink RX4 18 "RhymeLaw$Paper" "befores" "[I", Cond.methodLink RX4 21 Lib.Math.min.name, Cond.static Lib.Math.min.name, Cond.initialized "java/lang/Math", Cond.code Lib.Math.min.name Lib.Math.min.code 2 (some .int), Cond.fieldLink RX4 27 "RhymeLaw$Paper" "most" "I", Cond.methodLink RX11 34 yX3_init, Cond.instanceMethod yX3_init]
def wsL_law_r4 : List Cond := [Cond.code yX3_init cX3_init 1 none, Cond.methodLink RX3 3 objectInit, Cond.fieldLink RX3 9 "RhymeLaw$Mending" "costs" "[I", Cond.fieldLink RX3 15 "RhymeLaw$Mending" "row" "[I", Cond.methodLink RX11 41 yX2_init, Cond.instanceMethod yX2_init, Cond.code yX2_init cX2_init 1 none, Cond.methodLink RX2 3 objectInit, Cond.arrayClass .long, Cond.fieldLink RX2 9 "RhymeLaw$Guess" "ways" "[J", Cond.fieldLink RX2 15 "RhymeLaw$Guess" "possible" "[I", Cond.methodLink RX11 48 yX0_init, Cond.instanceMethod yX0_init, Cond.code yX0_init cX0_init 1 none, Cond.methodLink RX0 3 objectInit, Cond.classLink RX0 9 RX4, Cond.fieldLink RX0 14 "RhymeLaw$Choice" "row" "LRhymeLaw$Paper;", Cond.fieldLink RX0 20 "RhymeLaw$Choice" "picks" "[I", Cond.methodLink RX0 11 yX4_init, Cond.methodLink RX11 61 yX7_init, Cond.instanceMethod yX7_init, Cond.code yX7_init cX7_init 1 none, Cond.methodLink RX7 3 objectInit, Cond.classLink RX7 9 RX10]
def wsL_law_r5 : List Cond := [Cond.instantiable RX10 4, Cond.initialized RX10, Cond.fieldLink RX7 12 "RhymeLaw$Tale" "words" "LRhymeLaw$Words;", Cond.classLink RX7 18 RX1, Cond.instantiable RX1 3, Cond.initialized RX1, Cond.fieldLink RX7 21 "RhymeLaw$Tale" "forms" "LRhymeLaw$Forms;", Cond.classLink RX7 25 RX4, Cond.fieldLink RX7 30 "RhymeLaw$Tale" "paper" "LRhymeLaw$Paper;", Cond.fieldLink RX7 34 "RhymeLaw$Tale" "stock" "LRhymeLaw$Paper;", Cond.fieldLink RX7 37 "RhymeLaw$Tale" "metres" "[I", Cond.methodLink RX7 11 yX10_init, Cond.instanceMethod yX10_init, Cond.code yX10_init cX10_init 1 none, Cond.methodLink RX10 3 objectInit, Cond.fieldLink RX10 9 "RhymeLaw$Words" "sounds" "[I", Cond.fieldLink RX10 15 "RhymeLaw$Words" "meanings" "[I", Cond.fieldLink RX10 18 "RhymeLaw$Words" "syllables" "[I", Cond.methodLink RX7 20 yX1_init, Cond.instanceMethod yX1_init, Cond.code yX1_init cX1_init 1 none, Cond.methodLink RX1 3 objectInit, Cond.fieldLink RX1 9 "RhymeLaw$Forms" "letters" "[I", Cond.fieldLink RX1 15 "RhymeLaw$Forms" "lengths" "[I"]
def wsL_law_r6 : List Cond := [Cond.methodLink RX7 27 yX4_init, Cond.methodLink RL 12 yX12_init, Cond.instanceMethod yX12_init, Cond.code yX12_init cX12_init 1 none, Cond.methodLink RX12 1 objectInit, Cond.fieldLink RX12 7 "RhymeLawModel" "text" "[I", Cond.fieldLink RX12 13 "RhymeLawModel" "word" "[I", Cond.fieldLink RX12 16 "RhymeLawModel" "form" "[I", Cond.fieldLink RX12 19 "RhymeLawModel" "metre" "[I", Cond.fieldLink RX12 22 "RhymeLawModel" "stock" "[I", Cond.fieldLink RX12 25 "RhymeLawModel" "draftLine" "[I", Cond.fieldLink RX12 28 "RhymeLawModel" "s" "[I", Cond.fieldLink RX12 31 "RhymeLawModel" "kept" "[I", Cond.arrayClass .boolean, Cond.fieldLink RX12 34 "RhymeLawModel" "isKept" "[Z", Cond.fieldLink RX12 38 "RhymeLawModel" "tried" "[I", Cond.fieldLink RX12 41 "RhymeLawModel" "stands" "[Z", Cond.fieldLink RX12 44 "RhymeLawModel" "opens" "[Z", Cond.fieldLink RX12 47 "RhymeLawModel" "binds" "[Z", Cond.fieldLink RX12 50 "RhymeLawModel" "anchor" "[I", Cond.fieldLink RX12 53 "RhymeLawModel" "lapses" "[Z", Cond.fieldLink RX12 56 "RhymeLawModel" "sound" "[I", Cond.fieldLink RX12 59 "RhymeLawModel" "may" "[I", Cond.fieldLink RX12 62 "RhymeLawModel" "row" "[I"]
def wsL_law_r7 : List Cond := [Cond.fieldLink RX12 65 "RhymeLawModel" "ways" "[J", Cond.fieldLink RX12 69 "RhymeLawModel" "waysThen" "[J", Cond.fieldLink RX12 72 "RhymeLawModel" "least" "[I", Cond.fieldLink RX12 75 "RhymeLawModel" "leastThen" "[I", Cond.fieldLink RX12 78 "RhymeLawModel" "thrown" "I", Cond.methodLink RL 15 yX11_type, Cond.instanceMethod yX11_type, Cond.selects RX11 yX11_type yX11_type, Cond.code yX11_type cX11_type 5 (some .int), Cond.methodLink RX11 69 yX8_length, Cond.instanceMethod yX8_length, Cond.selects RX8 yX8_length yX8_length, Cond.code yX8_length cX8_length 1 (some .int), Cond.fieldLink RX8 15 "RhymeLaw$Text" "length" "I", Cond.methodLink RX11 73 yX8_append, Cond.instanceMethod yX8_append, Cond.selects RX8 yX8_append yX8_append, Cond.code yX8_append cX8_append 2 none, Cond.methodLink RL 19 yX12_type, Cond.instanceMethod yX12_type, Cond.selects RX12 yX12_type yX12_type, Cond.code yX12_type cX12_type 5 (some .int), Cond.fieldLink RX12 86 "RhymeLawModel" "typed" "I", Cond.constantLong RX12 89 (255)]
def wsL_law_r8 : List Cond := [Cond.methodLink RX12 82 yX12_in, Cond.static yX12_in, Cond.code yX12_in cX12_in 3 (some .boolean), Cond.methodLink RL 20 yX11_clear, Cond.instanceMethod yX11_clear, Cond.selects RX11 yX11_clear yX11_clear, Cond.code yX11_clear cX11_clear 2 (some .int), Cond.methodLink RX11 76 yX8_wipe, Cond.instanceMethod yX8_wipe, Cond.selects RX8 yX8_wipe yX8_wipe, Cond.code yX8_wipe cX8_wipe 1 none, Cond.methodLink RL 24 yX12_clear, Cond.instanceMethod yX12_clear, Cond.selects RX12 yX12_clear yX12_clear, Cond.code yX12_clear cX12_clear 2 (some .int), Cond.methodLink RL 25 yX11_read, Cond.instanceMethod yX11_read, Cond.selects RX11 yX11_read yX11_read, Cond.code yX11_read cX11_read 3 (some .int), Cond.fieldLink RX11 85 "RhymeLaw" "kept" "I", Cond.methodLink RX11 79 yX5_tell, Cond.static yX5_tell, Cond.initialized RX5, Cond.code yX5_tell cX5_tell 3 (some .int)]
def wsL_law_r9 : List Cond := [Cond.methodLink RX5 9 yX7_wipe, Cond.instanceMethod yX7_wipe, Cond.selects RX7 yX7_wipe yX7_wipe, Cond.code yX7_wipe cX7_wipe 1 none, Cond.methodLink RX7 41 yX10_wipe, Cond.instanceMethod yX10_wipe, Cond.selects RX10 yX10_wipe yX10_wipe, Cond.code yX10_wipe cX10_wipe 1 none, Cond.fieldLink RX10 21 "RhymeLaw$Words" "size" "I", Cond.methodLink RX7 44 yX1_wipe, Cond.instanceMethod yX1_wipe, Cond.selects RX1 yX1_wipe yX1_wipe, Cond.code yX1_wipe cX1_wipe 1 none, Cond.fieldLink RX1 18 "RhymeLaw$Forms" "size" "I", Cond.methodLink RX7 45 yX4_wipe, Cond.instanceMethod yX4_wipe, Cond.selects RX4 yX4_wipe yX4_wipe, Cond.code yX4_wipe cX4_wipe 1 none, Cond.fieldLink RX4 31 "RhymeLaw$Paper" "size" "I", Cond.methodLink RX7 46 yJ7_fill_53178, Cond.static yJ7_fill_53178, Cond.initialized RJ7, Cond.code yJ7_fill_53178 cJ7_fill_53178 4 none, Cond.methodLink RX5 14 yX8_rewind]
def wsL_law_r10 : List Cond := [Cond.instanceMethod yX8_rewind, Cond.selects RX8 yX8_rewind yX8_rewind, Cond.code yX8_rewind cX8_rewind 1 none, Cond.fieldLink RX8 19 "RhymeLaw$Text" "start" "I", Cond.fieldLink RX8 22 "RhymeLaw$Text" "end" "I", Cond.fieldLink RX8 25 "RhymeLaw$Text" "sort" "I", Cond.methodLink RX5 19 yX8_advance, Cond.instanceMethod yX8_advance, Cond.selects RX8 yX8_advance yX8_advance, Cond.code yX8_advance cX8_advance 2 none, Cond.methodLink RX8 28 yX8_behind, Cond.instanceMethod yX8_behind, Cond.selects RX8 yX8_behind yX8_behind, Cond.code yX8_behind cX8_behind 5 (some .int), Cond.methodLink RX8 32 yX8_byteAt, Cond.instanceMethod yX8_byteAt, Cond.selects RX8 yX8_byteAt yX8_byteAt, Cond.code yX8_byteAt cX8_byteAt 2 (some .int), Cond.methodLink RX5 22 yX8_isOut, Cond.instanceMethod yX8_isOut, Cond.selects RX8 yX8_isOut yX8_isOut, Cond.code yX8_isOut cX8_isOut 1 (some .boolean), Cond.methodLink RX5 26 yX5_tellItem, Cond.static yX5_tellItem]
def wsL_law_r11 : List Cond := [Cond.code yX5_tellItem cX5_tellItem 2 (some .boolean), Cond.fieldLink RX5 45 "RhymeLaw$Tale" "words" "LRhymeLaw$Words;", Cond.fieldLink RX5 55 "RhymeLaw$Tale" "forms" "LRhymeLaw$Forms;", Cond.fieldLink RX5 70 "RhymeLaw$Tale" "paper" "LRhymeLaw$Paper;", Cond.fieldLink RX5 80 "RhymeLaw$Tale" "stock" "LRhymeLaw$Paper;", Cond.methodLink RX5 41 yX8_isNamed, Cond.instanceMethod yX8_isNamed, Cond.selects RX8 yX8_isNamed yX8_isNamed, Cond.code yX8_isNamed cX8_isNamed 3 (some .boolean), Cond.methodLink RX8 36 yJ0_length_8abf5, Cond.instanceMethod yJ0_length_8abf5, Cond.selects RJ0 yJ0_length_8abf5 yJ0_length_8abf5, Cond.initialized RJ0, Cond.code yJ0_length_8abf5 cJ0_length_8abf5 1 (some .int), Cond.fieldLink RJ0 9 "java/lang/String" "value" "[B", Cond.methodLink RJ0 335 yJ0_coder_7d493, Cond.instanceMethod yJ0_coder_7d493, Cond.selects RJ0 yJ0_coder_7d493 yJ0_coder_7d493, Cond.code yJ0_coder_7d493 cJ0_coder_7d493 1 (some .byte), Cond.fieldLink RJ0 38 "java/lang/String" "COMPACT_STRINGS" "Z", Cond.fieldLink RJ0 15 "java/lang/String" "coder" "B", Cond.methodLink RX8 41 yJ0_charAt_5068e, Cond.instanceMethod yJ0_charAt_5068e, Cond.selects RJ0 yJ0_charAt_5068e yJ0_charAt_5068e]
def wsL_law_r12 : List Cond := [Cond.code yJ0_charAt_5068e cJ0_charAt_5068e 2 (some .char), Cond.methodLink RJ0 492 yJ0_isLatin1_aae02, Cond.instanceMethod yJ0_isLatin1_aae02, Cond.selects RJ0 yJ0_isLatin1_aae02 yJ0_isLatin1_aae02, Cond.code yJ0_isLatin1_aae02 cJ0_isLatin1_aae02 1 (some .boolean), Cond.methodLink RJ0 495 yJ1_charAt_3b067, Cond.static yJ1_charAt_3b067, Cond.initialized RJ1, Cond.code yJ1_charAt_3b067 cJ1_charAt_3b067 2 (some .char), Cond.methodLink RJ1 9 yJ0_checkIndex_df160, Cond.static yJ0_checkIndex_df160, Cond.code yJ0_checkIndex_df160 cJ0_checkIndex_df160 2 none, Cond.fieldLink RJ0 1053 "jdk/internal/util/Preconditions" "SIOOBE_FORMATTER" "Ljava/util/function/BiFunction;", Cond.methodLink RJ0 1059 yJ3_checkIndex_8e157, Cond.static yJ3_checkIndex_8e157, Cond.initialized RJ3, Cond.code yJ3_checkIndex_8e157 cJ3_checkIndex_8e157 3 (some .int), Cond.methodLink RJ0 498 yJ2_charAt_3b067, Cond.static yJ2_charAt_3b067, Cond.initialized RJ2, Cond.code yJ2_charAt_3b067 cJ2_charAt_3b067 2 (some .char), Cond.methodLink RJ2 67 yJ2_checkIndex_2214a, Cond.static yJ2_checkIndex_2214a, Cond.code yJ2_checkIndex_2214a cJ2_checkIndex_2214a 2 none]
def wsL_law_r13 : List Cond := [Cond.methodLink RJ2 48 yJ2_length_9d52b, Cond.static yJ2_length_9d52b, Cond.code yJ2_length_9d52b cJ2_length_9d52b 1 (some .int), Cond.methodLink RJ2 414 yJ0_checkIndex_df160, Cond.methodLink RJ2 71 yJ2_getChar_3b067, Cond.static yJ2_getChar_3b067, Cond.code yJ2_getChar_3b067 cJ2_getChar_3b067 2 (some .char), Cond.fieldLink RJ2 44 "java/lang/StringUTF16" "$assertionsDisabled" "Z", Cond.fieldLink RJ2 59 "java/lang/StringUTF16" "HI_BYTE_SHIFT" "I", Cond.fieldLink RJ2 63 "java/lang/StringUTF16" "LO_BYTE_SHIFT" "I", Cond.methodLink RX5 49 yX5_tellWord, Cond.static yX5_tellWord, Cond.code yX5_tellWord cX5_tellWord 6 (some .boolean), Cond.methodLink RX5 82 yX10_isFull, Cond.instanceMethod yX10_isFull, Cond.selects RX10 yX10_isFull yX10_isFull, Cond.code yX10_isFull cX10_isFull 1 (some .boolean), Cond.methodLink RX5 87 yX5_nextNumber, Cond.static yX5_nextNumber, Cond.code yX5_nextNumber cX5_nextNumber 4 (some .int), Cond.methodLink RX5 130 yX8_number, Cond.instanceMethod yX8_number, Cond.selects RX8 yX8_number yX8_number, Cond.code yX8_number cX8_number 3 (some .int)]
def wsL_law_r14 : List Cond := [Cond.methodLink RX5 91 yX5_nextStop, Cond.static yX5_nextStop, Cond.code yX5_nextStop cX5_nextStop 1 (some .boolean), Cond.methodLink RX5 133 yX8_isStop, Cond.instanceMethod yX8_isStop, Cond.selects RX8 yX8_isStop yX8_isStop, Cond.code yX8_isStop cX8_isStop 1 (some .boolean), Cond.methodLink RX5 95 yX10_add, Cond.instanceMethod yX10_add, Cond.selects RX10 yX10_add yX10_add, Cond.code yX10_add cX10_add 5 none, Cond.methodLink RX10 25 yX10_isFull, Cond.methodLink RX10 29 yX6_set, Cond.static yX6_set, Cond.initialized RX6, Cond.code yX6_set cX6_set 3 none, Cond.methodLink RX5 59 yX5_tellForm, Cond.static yX5_tellForm, Cond.code yX5_tellForm cX5_tellForm 4 (some .boolean), Cond.methodLink RX5 99 yX1_isFull, Cond.instanceMethod yX1_isFull, Cond.selects RX1 yX1_isFull yX1_isFull, Cond.code yX1_isFull cX1_isFull 1 (some .boolean), Cond.methodLink RX5 102 yX8_letters]
def wsL_law_r15 : List Cond := [Cond.instanceMethod yX8_letters, Cond.selects RX8 yX8_letters yX8_letters, Cond.code yX8_letters cX8_letters 1 (some .int), Cond.methodLink RX5 105 yX1_begin, Cond.instanceMethod yX1_begin, Cond.selects RX1 yX1_begin yX1_begin, Cond.code yX1_begin cX1_begin 1 none, Cond.methodLink RX1 22 yX1_isFull, Cond.methodLink RX1 26 yX6_set, Cond.methodLink RX5 108 yX8_letterAt, Cond.instanceMethod yX8_letterAt, Cond.selects RX8 yX8_letterAt yX8_letterAt, Cond.code yX8_letterAt cX8_letterAt 2 (some .int), Cond.methodLink RX5 112 yX1_addLetter, Cond.instanceMethod yX1_addLetter, Cond.selects RX1 yX1_addLetter yX1_addLetter, Cond.code yX1_addLetter cX1_addLetter 4 none, Cond.methodLink RX1 32 yX6_at, Cond.static yX6_at, Cond.code yX6_at cX6_at 2 (some .int), Cond.methodLink RX5 65 yX5_tellMetre, Cond.static yX5_tellMetre, Cond.code yX5_tellMetre cX5_tellMetre 4 (some .boolean), Cond.methodLink RX5 116 yX7_setMetre]
def wsL_law_r16 : List Cond := [Cond.instanceMethod yX7_setMetre, Cond.selects RX7 yX7_setMetre yX7_setMetre, Cond.code yX7_setMetre cX7_setMetre 3 none, Cond.methodLink RX7 58 yX6_set, Cond.methodLink RX5 74 yX5_tellLine, Cond.static yX5_tellLine, Cond.code yX5_tellLine cX5_tellLine 6 (some .boolean), Cond.methodLink RX5 120 yX4_isFull, Cond.instanceMethod yX4_isFull, Cond.selects RX4 yX4_isFull yX4_isFull, Cond.code yX4_isFull cX4_isFull 1 (some .boolean), Cond.methodLink RX5 123 yX10_size, Cond.instanceMethod yX10_size, Cond.selects RX10 yX10_size yX10_size, Cond.code yX10_size cX10_size 1 (some .int), Cond.methodLink RX5 126 yX4_size, Cond.instanceMethod yX4_size, Cond.selects RX4 yX4_size yX4_size, Cond.code yX4_size cX4_size 1 (some .int), Cond.methodLink RX5 127 yX4_insert, Cond.instanceMethod yX4_insert, Cond.selects RX4 yX4_insert yX4_insert, Cond.code yX4_insert cX4_insert 6 none, Cond.methodLink RX4 61 yX4_isFull]
def wsL_law_r17 : List Cond := [Cond.methodLink RX4 51 yX4_wordAt, Cond.instanceMethod yX4_wordAt, Cond.selects RX4 yX4_wordAt yX4_wordAt, Cond.code yX4_wordAt cX4_wordAt 2 (some .int), Cond.methodLink RX4 37 yX6_at, Cond.methodLink RX4 55 yX4_thingAt, Cond.instanceMethod yX4_thingAt, Cond.selects RX4 yX4_thingAt yX4_thingAt, Cond.code yX4_thingAt cX4_thingAt 2 (some .int), Cond.methodLink RX4 58 yX4_beforeAt, Cond.instanceMethod yX4_beforeAt, Cond.selects RX4 yX4_beforeAt yX4_beforeAt, Cond.code yX4_beforeAt cX4_beforeAt 2 (some .int), Cond.methodLink RX4 65 yX4_lay, Cond.instanceMethod yX4_lay, Cond.selects RX4 yX4_lay yX4_lay, Cond.code yX4_lay cX4_lay 5 none, Cond.methodLink RX4 43 yX6_set, Cond.methodLink RX5 32 yX8_start, Cond.instanceMethod yX8_start, Cond.selects RX8 yX8_start yX8_start, Cond.code yX8_start cX8_start 1 (some .int), Cond.methodLink RX5 36 yX8_length, Cond.methodLink RL 28 yX12_read]
def wsL_law_r18 : List Cond := [Cond.instanceMethod yX12_read, Cond.selects RX12 yX12_read yX12_read, Cond.code yX12_read cX12_read 3 (some .int), Cond.fieldLink RX12 107 "RhymeLawModel" "fault" "I", Cond.fieldLink RX12 91 "RhymeLawModel" "next" "I", Cond.fieldLink RX12 125 "RhymeLawModel" "draftWords" "I", Cond.fieldLink RX12 136 "RhymeLawModel" "draftForms" "I", Cond.fieldLink RX12 148 "RhymeLawModel" "draftLines" "I", Cond.fieldLink RX12 155 "RhymeLawModel" "draftStocks" "I", Cond.fieldLink RX12 101 "RhymeLawModel" "token" "I", Cond.fieldLink RX12 166 "RhymeLawModel" "words" "I", Cond.fieldLink RX12 169 "RhymeLawModel" "forms" "I", Cond.fieldLink RX12 172 "RhymeLawModel" "stocks" "I", Cond.methodLink RX12 118 yX12_advances, Cond.instanceMethod yX12_advances, Cond.selects RX12 yX12_advances yX12_advances, Cond.code yX12_advances cX12_advances 2 none, Cond.fieldLink RX12 98 "RhymeLawModel" "place" "I", Cond.fieldLink RX12 104 "RhymeLawModel" "value" "I", Cond.methodLink RX12 94 yX12_byteAt, Cond.instanceMethod yX12_byteAt, Cond.selects RX12 yX12_byteAt yX12_byteAt, Cond.code yX12_byteAt cX12_byteAt 2 (some .int), Cond.methodLink RX12 110 yX12_isWell]
def wsL_law_r19 : List Cond := [Cond.instanceMethod yX12_isWell, Cond.selects RX12 yX12_isWell yX12_isWell, Cond.code yX12_isWell cX12_isWell 1 (some .boolean), Cond.methodLink RX12 158 yX12_begins, Cond.instanceMethod yX12_begins, Cond.selects RX12 yX12_begins yX12_begins, Cond.code yX12_begins cX12_begins 2 (some .int), Cond.methodLink RX12 121 yX12_says, Cond.instanceMethod yX12_says, Cond.selects RX12 yX12_says yX12_says, Cond.code yX12_says cX12_says 7 (some .boolean), Cond.methodLink RX12 114 yX12_wants, Cond.instanceMethod yX12_wants, Cond.selects RX12 yX12_wants yX12_wants, Cond.code yX12_wants cX12_wants 2 none, Cond.methodLink RX12 162 yX12_readsItem, Cond.instanceMethod yX12_readsItem, Cond.selects RX12 yX12_readsItem yX12_readsItem, Cond.code yX12_readsItem cX12_readsItem 2 none, Cond.methodLink RX12 139 yX12_readsWord, Cond.instanceMethod yX12_readsWord, Cond.selects RX12 yX12_readsWord yX12_readsWord, Cond.code yX12_readsWord cX12_readsWord 2 none, Cond.methodLink RX12 128 yX12_number]
def wsL_law_r20 : List Cond := [Cond.instanceMethod yX12_number, Cond.selects RX12 yX12_number yX12_number, Cond.code yX12_number cX12_number 4 (some .int), Cond.methodLink RX12 142 yX12_readsForm, Cond.instanceMethod yX12_readsForm, Cond.selects RX12 yX12_readsForm yX12_readsForm, Cond.code yX12_readsForm cX12_readsForm 3 none, Cond.methodLink RX12 132 yX12_areLetters, Cond.instanceMethod yX12_areLetters, Cond.selects RX12 yX12_areLetters yX12_areLetters, Cond.code yX12_areLetters cX12_areLetters 4 (some .boolean), Cond.methodLink RX12 145 yX12_readsMetre, Cond.instanceMethod yX12_readsMetre, Cond.selects RX12 yX12_readsMetre yX12_readsMetre, Cond.code yX12_readsMetre cX12_readsMetre 3 none, Cond.methodLink RX12 151 yX12_readsLine, Cond.instanceMethod yX12_readsLine, Cond.selects RX12 yX12_readsLine yX12_readsLine, Cond.code yX12_readsLine cX12_readsLine 3 none, Cond.methodLink RL 29 yX11_word, Cond.instanceMethod yX11_word, Cond.selects RX11 yX11_word yX11_word, Cond.code yX11_word cX11_word 3 (some .int), Cond.fieldLink RX11 89 "RhymeLaw$Tale" "words" "LRhymeLaw$Words;"]
def wsL_law_r21 : List Cond := [Cond.methodLink RX11 93 yX10_has, Cond.instanceMethod yX10_has, Cond.selects RX10 yX10_has yX10_has, Cond.code yX10_has cX10_has 2 (some .boolean), Cond.methodLink RX11 99 yX10_sound, Cond.instanceMethod yX10_sound, Cond.selects RX10 yX10_sound yX10_sound, Cond.code yX10_sound cX10_sound 3 (some .int), Cond.methodLink RX10 35 yX6_at, Cond.methodLink RX11 103 yX10_meaning, Cond.instanceMethod yX10_meaning, Cond.selects RX10 yX10_meaning yX10_meaning, Cond.code yX10_meaning cX10_meaning 2 (some .int), Cond.methodLink RX11 107 yX10_syllables, Cond.instanceMethod yX10_syllables, Cond.selects RX10 yX10_syllables yX10_syllables, Cond.code yX10_syllables cX10_syllables 2 (some .int), Cond.methodLink RL 33 yX12_word, Cond.instanceMethod yX12_word, Cond.selects RX12 yX12_word yX12_word, Cond.code yX12_word cX12_word 3 (some .int), Cond.methodLink RX12 175 yX12_isWord, Cond.instanceMethod yX12_isWord, Cond.selects RX12 yX12_isWord yX12_isWord]
def wsL_law_r22 : List Cond := [Cond.code yX12_isWord cX12_isWord 2 (some .boolean), Cond.methodLink RL 34 yX11_form, Cond.instanceMethod yX11_form, Cond.selects RX11 yX11_form yX11_form, Cond.code yX11_form cX11_form 3 (some .int), Cond.fieldLink RX11 110 "RhymeLaw$Tale" "forms" "LRhymeLaw$Forms;", Cond.methodLink RX11 114 yX1_has, Cond.instanceMethod yX1_has, Cond.selects RX1 yX1_has yX1_has, Cond.code yX1_has cX1_has 2 (some .boolean), Cond.methodLink RX11 117 yX1_letter, Cond.instanceMethod yX1_letter, Cond.selects RX1 yX1_letter yX1_letter, Cond.code yX1_letter cX1_letter 4 (some .int), Cond.methodLink RL 37 yX12_form, Cond.instanceMethod yX12_form, Cond.selects RX12 yX12_form yX12_form, Cond.code yX12_form cX12_form 3 (some .int), Cond.methodLink RX12 178 yX12_isForm, Cond.instanceMethod yX12_isForm, Cond.selects RX12 yX12_isForm yX12_isForm, Cond.code yX12_isForm cX12_isForm 3 (some .boolean), Cond.methodLink RX12 182 yX12_letterOf, Cond.instanceMethod yX12_letterOf]
def wsL_law_r23 : List Cond := [Cond.selects RX12 yX12_letterOf yX12_letterOf, Cond.code yX12_letterOf cX12_letterOf 3 (some .int), Cond.methodLink RL 38 yX11_metre, Cond.instanceMethod yX11_metre, Cond.selects RX11 yX11_metre yX11_metre, Cond.code yX11_metre cX11_metre 4 (some .int), Cond.methodLink RX11 120 yX7_metreOf, Cond.instanceMethod yX7_metreOf, Cond.selects RX7 yX7_metreOf yX7_metreOf, Cond.code yX7_metreOf cX7_metreOf 2 (some .int), Cond.methodLink RX7 52 yX6_at, Cond.methodLink RX11 123 yX7_setMetre, Cond.methodLink RL 41 yX12_metre, Cond.instanceMethod yX12_metre, Cond.selects RX12 yX12_metre yX12_metre, Cond.code yX12_metre cX12_metre 4 (some .int), Cond.methodLink RL 42 yX11_line, Cond.instanceMethod yX11_line, Cond.selects RX11 yX11_line yX11_line, Cond.code yX11_line cX11_line 3 (some .int), Cond.fieldLink RX11 127 "RhymeLaw$Tale" "paper" "LRhymeLaw$Paper;", Cond.methodLink RX11 130 yX4_part, Cond.instanceMethod yX4_part, Cond.selects RX4 yX4_part yX4_part]
def wsL_law_r24 : List Cond := [Cond.code yX4_part cX4_part 3 (some .int), Cond.methodLink RX4 47 yX4_has, Cond.instanceMethod yX4_has, Cond.selects RX4 yX4_has yX4_has, Cond.code yX4_has cX4_has 2 (some .boolean), Cond.methodLink RL 45 yX12_line, Cond.instanceMethod yX12_line, Cond.selects RX12 yX12_line yX12_line, Cond.code yX12_line cX12_line 3 (some .int), Cond.methodLink RX12 185 yX12_isLine, Cond.instanceMethod yX12_isLine, Cond.selects RX12 yX12_isLine yX12_isLine, Cond.code yX12_isLine cX12_isLine 2 (some .boolean), Cond.methodLink RL 46 yX11_stock, Cond.instanceMethod yX11_stock, Cond.selects RX11 yX11_stock yX11_stock, Cond.code yX11_stock cX11_stock 3 (some .int), Cond.fieldLink RX11 133 "RhymeLaw$Tale" "stock" "LRhymeLaw$Paper;", Cond.methodLink RL 49 yX12_stock, Cond.instanceMethod yX12_stock, Cond.selects RX12 yX12_stock yX12_stock, Cond.code yX12_stock cX12_stock 3 (some .int), Cond.methodLink RL 50 yX11_put, Cond.instanceMethod yX11_put]
def wsL_law_r25 : List Cond := [Cond.selects RX11 yX11_put yX11_put, Cond.code yX11_put cX11_put 5 (some .int), Cond.methodLink RX11 136 yX4_size, Cond.methodLink RX11 139 yX4_isFull, Cond.methodLink RX11 143 yX4_insert, Cond.methodLink RL 54 yX12_put, Cond.instanceMethod yX12_put, Cond.selects RX12 yX12_put yX12_put, Cond.code yX12_put cX12_put 6 (some .int), Cond.methodLink RL 55 yX11_change, Cond.instanceMethod yX11_change, Cond.selects RX11 yX11_change yX11_change, Cond.code yX11_change cX11_change 4 (some .int), Cond.methodLink RX11 147 yX4_has, Cond.methodLink RX11 148 yX4_wordAt, Cond.methodLink RX11 151 yX4_setWord, Cond.instanceMethod yX4_setWord, Cond.selects RX4 yX4_setWord yX4_setWord, Cond.code yX4_setWord cX4_setWord 3 none, Cond.methodLink RL 58 yX12_change, Cond.instanceMethod yX12_change, Cond.selects RX12 yX12_change yX12_change, Cond.code yX12_change cX12_change 4 (some .int), Cond.methodLink RL 59 yX11_take]
def wsL_law_r26 : List Cond := [Cond.instanceMethod yX11_take, Cond.selects RX11 yX11_take yX11_take, Cond.code yX11_take cX11_take 2 (some .int), Cond.methodLink RX11 154 yX4_remove, Cond.instanceMethod yX4_remove, Cond.selects RX4 yX4_remove yX4_remove, Cond.code yX4_remove cX4_remove 3 none, Cond.methodLink RL 63 yX12_take, Cond.instanceMethod yX12_take, Cond.selects RX12 yX12_take yX12_take, Cond.code yX12_take cX12_take 3 (some .int), Cond.methodLink RL 64 yX11_judged, Cond.instanceMethod yX11_judged, Cond.selects RX11 yX11_judged yX11_judged, Cond.code yX11_judged cX11_judged 6 (some .int), Cond.methodLink RX11 157 yX11_isNoView, Cond.instanceMethod yX11_isNoView, Cond.selects RX11 yX11_isNoView yX11_isNoView, Cond.code yX11_isNoView cX11_isNoView 3 (some .boolean), Cond.methodLink RX11 161 yX11_view, Cond.instanceMethod yX11_view, Cond.selects RX11 yX11_view yX11_view, Cond.code yX11_view cX11_view 3 (some (.object "RhymeLaw$Verdict")), Cond.methodLink RX11 260 yX9_judge]
def wsL_law_r27 : List Cond := [Cond.instanceMethod yX9_judge, Cond.selects RX9 yX9_judge yX9_judge, Cond.code yX9_judge cX9_judge 9 none, Cond.fieldLink RX9 27 "RhymeLaw$Verdict" "size" "I", Cond.fieldLink RX9 30 "RhymeLaw$Verdict" "binding" "I", Cond.fieldLink RX9 39 "RhymeLaw$Tale" "forms" "LRhymeLaw$Forms;", Cond.fieldLink RX9 68 "RhymeLaw$Tale" "words" "LRhymeLaw$Words;", Cond.methodLink RX9 21 yX4_size, Cond.methodLink RX9 33 yJ7_fill_53178, Cond.methodLink RX9 45 yX1_letter, Cond.methodLink RX9 51 yX6_at, Cond.methodLink RX9 57 yX4_wordAt, Cond.methodLink RX9 61 yX4_beforeAt, Cond.methodLink RX9 64 yX7_fits, Cond.instanceMethod yX7_fits, Cond.selects RX7 yX7_fits yX7_fits, Cond.code yX7_fits cX7_fits 5 (some .boolean), Cond.methodLink RX7 62 yX7_metreOf, Cond.methodLink RX7 66 yX10_syllables, Cond.methodLink RX9 72 yX10_rhyme, Cond.instanceMethod yX10_rhyme, Cond.selects RX10 yX10_rhyme yX10_rhyme, Cond.code yX10_rhyme cX10_rhyme 4 (some .boolean), Cond.methodLink RX10 39 yX10_sound]
def wsL_law_r28 : List Cond := [Cond.methodLink RX9 77 yX9_enter, Cond.instanceMethod yX9_enter, Cond.selects RX9 yX9_enter yX9_enter, Cond.code yX9_enter cX9_enter 5 none, Cond.methodLink RX9 81 yX6_set, Cond.methodLink RX11 165 yX9_stands, Cond.instanceMethod yX9_stands, Cond.selects RX9 yX9_stands yX9_stands, Cond.code yX9_stands cX9_stands 2 (some .boolean), Cond.methodLink RX11 168 yX9_opens, Cond.instanceMethod yX9_opens, Cond.selects RX9 yX9_opens yX9_opens, Cond.code yX9_opens cX9_opens 2 (some .boolean), Cond.methodLink RX11 171 yX9_binds, Cond.instanceMethod yX9_binds, Cond.selects RX9 yX9_binds yX9_binds, Cond.code yX9_binds cX9_binds 2 (some .boolean), Cond.methodLink RX11 174 yX9_rhymed, Cond.instanceMethod yX9_rhymed, Cond.selects RX9 yX9_rhymed yX9_rhymed, Cond.code yX9_rhymed cX9_rhymed 2 (some .boolean), Cond.methodLink RX11 177 yX9_anchor, Cond.instanceMethod yX9_anchor, Cond.selects RX9 yX9_anchor yX9_anchor]
def wsL_law_r29 : List Cond := [Cond.code yX9_anchor cX9_anchor 2 (some .int), Cond.methodLink RL 67 yX12_judged, Cond.instanceMethod yX12_judged, Cond.selects RX12 yX12_judged yX12_judged, Cond.code yX12_judged cX12_judged 5 (some .int), Cond.methodLink RX12 210 yX12_judgesPaper, Cond.instanceMethod yX12_judgesPaper, Cond.selects RX12 yX12_judgesPaper yX12_judgesPaper, Cond.code yX12_judgesPaper cX12_judgesPaper 3 none, Cond.methodLink RX12 198 yX12_lays, Cond.instanceMethod yX12_lays, Cond.selects RX12 yX12_lays yX12_lays, Cond.code yX12_lays cX12_lays 2 none, Cond.fieldLink RX12 188 "RhymeLawModel" "many" "I", Cond.methodLink RX12 201 yX12_hears, Cond.instanceMethod yX12_hears, Cond.selects RX12 yX12_hears yX12_hears, Cond.code yX12_hears cX12_hears 3 none, Cond.methodLink RX12 204 yX12_judges, Cond.instanceMethod yX12_judges, Cond.selects RX12 yX12_judges yX12_judges, Cond.code yX12_judges cX12_judges 7 none, Cond.methodLink RX12 191 yX12_isMetre, Cond.instanceMethod yX12_isMetre]
def wsL_law_r30 : List Cond := [Cond.selects RX12 yX12_isMetre yX12_isMetre, Cond.code yX12_isMetre cX12_isMetre 5 (some .boolean), Cond.methodLink RX12 194 yX12_holds, Cond.instanceMethod yX12_holds, Cond.selects RX12 yX12_holds yX12_holds, Cond.code yX12_holds cX12_holds 5 (some .boolean), Cond.methodLink RL 68 yX11_law, Cond.instanceMethod yX11_law, Cond.selects RX11 yX11_law yX11_law, Cond.code yX11_law cX11_law 3 (some .int), Cond.methodLink RX11 180 yX9_isLaw, Cond.instanceMethod yX9_isLaw, Cond.selects RX9 yX9_isLaw yX9_isLaw, Cond.code yX9_isLaw cX9_isLaw 1 (some .boolean), Cond.methodLink RL 71 yX12_law, Cond.instanceMethod yX12_law, Cond.selects RX12 yX12_law yX12_law, Cond.code yX12_law cX12_law 3 (some .int), Cond.methodLink RX12 214 yX12_isLaw, Cond.instanceMethod yX12_isLaw, Cond.selects RX12 yX12_isLaw yX12_isLaw, Cond.code yX12_isLaw cX12_isLaw 2 (some .boolean), Cond.methodLink RX12 207 yX12_emptyLine, Cond.instanceMethod yX12_emptyLine]
def wsL_law_r31 : List Cond := [Cond.selects RX12 yX12_emptyLine yX12_emptyLine, Cond.code yX12_emptyLine cX12_emptyLine 2 (some .int), Cond.methodLink RL 72 yX11_empty, Cond.instanceMethod yX11_empty, Cond.selects RX11 yX11_empty yX11_empty, Cond.code yX11_empty cX11_empty 3 (some .int), Cond.methodLink RX11 183 yX9_firstLoose, Cond.instanceMethod yX9_firstLoose, Cond.selects RX9 yX9_firstLoose yX9_firstLoose, Cond.code yX9_firstLoose cX9_firstLoose 2 (some .int), Cond.methodLink RX9 85 yX9_binds, Cond.methodLink RL 75 yX12_empty, Cond.instanceMethod yX12_empty, Cond.selects RX12 yX12_empty yX12_empty, Cond.code yX12_empty cX12_empty 3 (some .int), Cond.methodLink RL 76 yX11_bound, Cond.instanceMethod yX11_bound, Cond.selects RX11 yX11_bound yX11_bound, Cond.code yX11_bound cX11_bound 3 (some .int), Cond.methodLink RX11 186 yX9_thingsOf, Cond.instanceMethod yX9_thingsOf, Cond.selects RX9 yX9_thingsOf yX9_thingsOf, Cond.code yX9_thingsOf cX9_thingsOf 4 (some .int), Cond.methodLink RX9 89 yX4_thingAt]
def wsL_law_r32 : List Cond := [Cond.methodLink RL 79 yX12_bound, Cond.instanceMethod yX12_bound, Cond.selects RX12 yX12_bound yX12_bound, Cond.code yX12_bound cX12_bound 3 (some .int), Cond.methodLink RX12 217 yX12_boundBy, Cond.instanceMethod yX12_boundBy, Cond.selects RX12 yX12_boundBy yX12_boundBy, Cond.code yX12_boundBy cX12_boundBy 3 (some .int), Cond.methodLink RL 80 yX11_struck, Cond.instanceMethod yX11_struck, Cond.selects RX11 yX11_struck yX11_struck, Cond.code yX11_struck cX11_struck 4 (some .int), Cond.methodLink RX11 190 yX9_left, Cond.instanceMethod yX9_left, Cond.selects RX9 yX9_left yX9_left, Cond.code yX9_left cX9_left 6 (some .int), Cond.methodLink RX9 92 yX9_rhymed, Cond.methodLink RX9 95 yX9_anchor, Cond.methodLink RL 84 yX12_struck, Cond.instanceMethod yX12_struck, Cond.selects RX12 yX12_struck yX12_struck, Cond.code yX12_struck cX12_struck 4 (some .int), Cond.methodLink RX12 220 yX12_leftBy, Cond.instanceMethod yX12_leftBy]
def wsL_law_r33 : List Cond := [Cond.selects RX12 yX12_leftBy yX12_leftBy, Cond.code yX12_leftBy cX12_leftBy 4 (some .int), Cond.methodLink RL 85 yX11_key, Cond.instanceMethod yX11_key, Cond.selects RX11 yX11_key yX11_key, Cond.code yX11_key cX11_key 3 (some .int), Cond.methodLink RX11 193 yX9_keyLine, Cond.instanceMethod yX9_keyLine, Cond.selects RX9 yX9_keyLine yX9_keyLine, Cond.code yX9_keyLine cX9_keyLine 5 (some .int), Cond.methodLink RX9 98 yX9_left, Cond.methodLink RX9 101 yJ6_bitCount_0f7a4, Cond.static yJ6_bitCount_0f7a4, Cond.initialized RJ6, Cond.code yJ6_bitCount_0f7a4 cJ6_bitCount_0f7a4 1 (some .int), Cond.constant RJ6 265 (1431655765), Cond.constant RJ6 266 (858993459), Cond.constant RJ6 267 (252645135), Cond.methodLink RL 88 yX12_key, Cond.instanceMethod yX12_key, Cond.selects RX12 yX12_key yX12_key, Cond.code yX12_key cX12_key 7 (some .int), Cond.methodLink RX12 223 yX12_ones, Cond.static yX12_ones]
def wsL_law_r34 : List Cond := [Cond.code yX12_ones cX12_ones 3 (some .int), Cond.methodLink RL 89 yX11_mended, Cond.instanceMethod yX11_mended, Cond.selects RX11 yX11_mended yX11_mended, Cond.code yX11_mended cX11_mended 5 (some .int), Cond.methodLink RX11 196 yX11_isNoLineNorAll, Cond.instanceMethod yX11_isNoLineNorAll, Cond.selects RX11 yX11_isNoLineNorAll yX11_isNoLineNorAll, Cond.code yX11_isNoLineNorAll cX11_isNoLineNorAll 2 (some .boolean), Cond.methodLink RX11 199 yX3_mend, Cond.instanceMethod yX3_mend, Cond.selects RX3 yX3_mend yX3_mend, Cond.code yX3_mend cX3_mend 9 (some .int), Cond.fieldLink RX3 18 "RhymeLaw$Tale" "paper" "LRhymeLaw$Paper;", Cond.fieldLink RX3 30 "RhymeLaw$Tale" "forms" "LRhymeLaw$Forms;", Cond.fieldLink RX3 48 "RhymeLaw$Tale" "words" "LRhymeLaw$Words;", Cond.methodLink RX3 24 yX4_size, Cond.methodLink RX3 34 yX1_pairs, Cond.instanceMethod yX1_pairs, Cond.selects RX1 yX1_pairs yX1_pairs, Cond.code yX1_pairs cX1_pairs 4 (some .boolean), Cond.methodLink RX1 40 yX1_ahead, Cond.instanceMethod yX1_ahead, Cond.selects RX1 yX1_ahead yX1_ahead]
def wsL_law_r35 : List Cond := [Cond.code yX1_ahead cX1_ahead 4 (some .int), Cond.methodLink RX1 36 yX1_letter, Cond.methodLink RX1 43 yX1_behind, Cond.instanceMethod yX1_behind, Cond.selects RX1 yX1_behind yX1_behind, Cond.code yX1_behind cX1_behind 5 (some .int), Cond.methodLink RX3 40 yX3_weigh, Cond.instanceMethod yX3_weigh, Cond.selects RX3 yX3_weigh yX3_weigh, Cond.code yX3_weigh cX3_weigh 10 none, Cond.methodLink RX3 85 Lib.Math.min.name, Cond.methodLink RX3 71 yX1_behind, Cond.methodLink RX3 75 yX10_size, Cond.methodLink RX3 78 yX3_mayBecome, Cond.static yX3_mayBecome, Cond.code yX3_mayBecome cX3_mayBecome 4 (some .boolean), Cond.methodLink RX3 90 yX10_meaning, Cond.methodLink RX3 66 yX4_wordAt, Cond.methodLink RX3 93 yX1_letter, Cond.methodLink RX3 96 yX4_beforeAt, Cond.methodLink RX3 99 yX7_fits, Cond.methodLink RX3 56 yX3_best, Cond.instanceMethod yX3_best, Cond.selects RX3 yX3_best yX3_best]
def wsL_law_r36 : List Cond := [Cond.code yX3_best cX3_best 8 (some .int), Cond.methodLink RX3 82 yX3_costAt, Cond.instanceMethod yX3_costAt, Cond.selects RX3 yX3_costAt yX3_costAt, Cond.code yX3_costAt cX3_costAt 3 (some .int), Cond.methodLink RX3 67 yX6_at, Cond.methodLink RX3 103 yX10_rhyme, Cond.methodLink RX3 60 yX6_set, Cond.methodLink RX3 44 yX1_ahead, Cond.methodLink RX3 52 yX3_wordAt, Cond.instanceMethod yX3_wordAt, Cond.selects RX3 yX3_wordAt yX3_wordAt, Cond.code yX3_wordAt cX3_wordAt 2 (some .int), Cond.methodLink RX11 203 yX3_wordAt, Cond.methodLink RL 92 yX12_mended, Cond.instanceMethod yX12_mended, Cond.selects RX12 yX12_mended yX12_mended, Cond.code yX12_mended cX12_mended 9 (some .int), Cond.methodLink RX12 230 yX12_fewestAll, Cond.instanceMethod yX12_fewestAll, Cond.selects RX12 yX12_fewestAll yX12_fewestAll, Cond.code yX12_fewestAll cX12_fewestAll 7 (some .int), Cond.methodLink RX12 226 yX12_fewestOf, Cond.instanceMethod yX12_fewestOf]
def wsL_law_r37 : List Cond := [Cond.selects RX12 yX12_fewestOf yX12_fewestOf, Cond.code yX12_fewestOf cX12_fewestOf 11 (some .int), Cond.methodLink RL 93 yX11_shortest, Cond.instanceMethod yX11_shortest, Cond.selects RX11 yX11_shortest yX11_shortest, Cond.code yX11_shortest cX11_shortest 6 (some .int), Cond.methodLink RX11 204 yX0_find, Cond.instanceMethod yX0_find, Cond.selects RX0 yX0_find yX0_find, Cond.code yX0_find cX0_find 6 (some .int), Cond.fieldLink RX0 24 "RhymeLaw$Choice" "tale" "LRhymeLaw$Tale;", Cond.fieldLink RX0 28 "RhymeLaw$Choice" "form" "I", Cond.fieldLink RX0 32 "RhymeLaw$Choice" "dialect" "I", Cond.fieldLink RX0 35 "RhymeLaw$Choice" "things" "I", Cond.fieldLink RX0 38 "RhymeLaw$Tale" "stock" "LRhymeLaw$Paper;", Cond.fieldLink RX0 50 "RhymeLaw$Tale" "forms" "LRhymeLaw$Forms;", Cond.methodLink RX0 43 yX4_size, Cond.methodLink RX0 47 yX4_wipe, Cond.methodLink RX0 54 yX1_pairs, Cond.methodLink RX0 60 yX0_extend, Cond.static yX0_extend, Cond.code yX0_extend cX0_extend 5 (some .boolean), Cond.methodLink RX0 70 yX0_hasThings, Cond.instanceMethod yX0_hasThings]
def wsL_law_r38 : List Cond := [Cond.selects RX0 yX0_hasThings yX0_hasThings, Cond.code yX0_hasThings cX0_hasThings 3 (some .boolean), Cond.methodLink RX0 87 yX4_thingAt, Cond.methodLink RX0 74 yX0_stockSize, Cond.instanceMethod yX0_stockSize, Cond.selects RX0 yX0_stockSize yX0_stockSize, Cond.code yX0_stockSize cX0_stockSize 1 (some .int), Cond.methodLink RX0 77 yX0_lay, Cond.instanceMethod yX0_lay, Cond.selects RX0 yX0_lay yX0_lay, Cond.code yX0_lay cX0_lay 4 (some .boolean), Cond.fieldLink RX0 112 "RhymeLaw$Tale" "words" "LRhymeLaw$Words;", Cond.methodLink RX0 80 yX4_cut, Cond.instanceMethod yX4_cut, Cond.selects RX4 yX4_cut yX4_cut, Cond.code yX4_cut cX4_cut 2 none, Cond.methodLink RX4 34 Lib.Math.max.name, Cond.static Lib.Math.max.name, Cond.code Lib.Math.max.name Lib.Math.max.code 2 (some .int), Cond.methodLink RX0 83 yX4_wordAt, Cond.methodLink RX0 90 yX4_beforeAt, Cond.methodLink RX0 93 yX4_insert, Cond.methodLink RX0 97 yX6_set, Cond.methodLink RX0 101 yX1_letter]
def wsL_law_r39 : List Cond := [Cond.methodLink RX0 105 yX7_fits, Cond.methodLink RX0 109 yX1_ahead, Cond.methodLink RX0 116 yX10_rhyme, Cond.methodLink RX11 208 yX0_pickAt, Cond.instanceMethod yX0_pickAt, Cond.selects RX0 yX0_pickAt yX0_pickAt, Cond.code yX0_pickAt cX0_pickAt 2 (some .int), Cond.methodLink RX0 64 yX6_at, Cond.methodLink RL 96 yX12_shortest, Cond.instanceMethod yX12_shortest, Cond.selects RX12 yX12_shortest yX12_shortest, Cond.code yX12_shortest cX12_shortest 7 (some .int), Cond.methodLink RX12 236 yX12_fills, Cond.instanceMethod yX12_fills, Cond.selects RX12 yX12_fills yX12_fills, Cond.code yX12_fills cX12_fills 5 none, Cond.methodLink RX12 233 yX12_isInRow, Cond.instanceMethod yX12_isInRow, Cond.selects RX12 yX12_isInRow yX12_isInRow, Cond.code yX12_isInRow cX12_isInRow 5 (some .boolean), Cond.methodLink RX12 239 yX12_laysRow, Cond.instanceMethod yX12_laysRow, Cond.selects RX12 yX12_laysRow yX12_laysRow, Cond.code yX12_laysRow cX12_laysRow 3 none]
def wsL_law_r40 : List Cond := [Cond.methodLink RX12 242 yX12_goesOn, Cond.instanceMethod yX12_goesOn, Cond.selects RX12 yX12_goesOn yX12_goesOn, Cond.code yX12_goesOn cX12_goesOn 4 (some .boolean), Cond.methodLink RL 97 yX11_both, Cond.instanceMethod yX11_both, Cond.selects RX11 yX11_both yX11_both, Cond.code yX11_both cX11_both 2 (some .int), Cond.methodLink RL 100 yX12_both, Cond.instanceMethod yX12_both, Cond.selects RX12 yX12_both yX12_both, Cond.code yX12_both cX12_both 2 (some .int), Cond.methodLink RL 101 yX11_parting, Cond.instanceMethod yX11_parting, Cond.selects RX11 yX11_parting yX11_parting, Cond.code yX11_parting cX11_parting 3 (some .int), Cond.methodLink RX11 211 yX10_size, Cond.methodLink RX11 212 yX11_isMixedLaw, Cond.instanceMethod yX11_isMixedLaw, Cond.selects RX11 yX11_isMixedLaw yX11_isMixedLaw, Cond.code yX11_isMixedLaw cX11_isMixedLaw 3 (some .boolean), Cond.methodLink RX11 264 yX10_mix, Cond.instanceMethod yX10_mix, Cond.selects RX10 yX10_mix yX10_mix]
def wsL_law_r41 : List Cond := [Cond.code yX10_mix cX10_mix 3 none, Cond.methodLink RL 104 yX12_parting, Cond.instanceMethod yX12_parting, Cond.selects RX12 yX12_parting yX12_parting, Cond.code yX12_parting cX12_parting 6 (some .int), Cond.methodLink RL 105 yX11_forged, Cond.instanceMethod yX11_forged, Cond.selects RX11 yX11_forged yX11_forged, Cond.code yX11_forged cX11_forged 6 (some .int), Cond.methodLink RX11 215 yX11_isLoosed, Cond.instanceMethod yX11_isLoosed, Cond.selects RX11 yX11_isLoosed yX11_isLoosed, Cond.code yX11_isLoosed cX11_isLoosed 6 (some .boolean), Cond.methodLink RX11 251 yX4_copyFrom, Cond.instanceMethod yX4_copyFrom, Cond.selects RX4 yX4_copyFrom yX4_copyFrom, Cond.code yX4_copyFrom cX4_copyFrom 3 none, Cond.methodLink RX4 69 yX4_size, Cond.methodLink RX11 267 yX4_thingAt, Cond.methodLink RX11 270 yX4_beforeAt, Cond.methodLink RL 108 yX12_forged, Cond.instanceMethod yX12_forged, Cond.selects RX12 yX12_forged yX12_forged, Cond.code yX12_forged cX12_forged 8 (some .int)]
def wsL_law_r42 : List Cond := [Cond.methodLink RL 109 yX11_burnt, Cond.instanceMethod yX11_burnt, Cond.selects RX11 yX11_burnt yX11_burnt, Cond.code yX11_burnt cX11_burnt 7 (some .long), Cond.constantLong RX11 219 (-1), Cond.methodLink RX11 221 yX2_waysOf, Cond.instanceMethod yX2_waysOf, Cond.selects RX2 yX2_waysOf yX2_waysOf, Cond.code yX2_waysOf cX2_waysOf 9 (some .long), Cond.fieldLink RX2 19 "RhymeLaw$Tale" "paper" "LRhymeLaw$Paper;", Cond.fieldLink RX2 31 "RhymeLaw$Tale" "forms" "LRhymeLaw$Forms;", Cond.fieldLink RX2 49 "RhymeLaw$Tale" "words" "LRhymeLaw$Words;", Cond.methodLink RX2 25 yX4_size, Cond.methodLink RX2 35 yX1_pairs, Cond.methodLink RX2 41 yX2_weigh, Cond.instanceMethod yX2_weigh, Cond.selects RX2 yX2_weigh yX2_weigh, Cond.code yX2_weigh cX2_weigh 11 none, Cond.methodLink RX2 84 yX1_behind, Cond.methodLink RX2 88 yX1_letter, Cond.methodLink RX2 57 yX10_size, Cond.methodLink RX2 91 yX4_wordAt, Cond.methodLink RX2 94 yX4_beforeAt, Cond.methodLink RX2 97 yX7_fits]
def wsL_law_r43 : List Cond := [Cond.methodLink RX2 53 yX2_sum, Cond.instanceMethod yX2_sum, Cond.selects RX2 yX2_sum yX2_sum, Cond.code yX2_sum cX2_sum 8 (some .long), Cond.methodLink RX2 105 yX10_rhyme, Cond.methodLink RX2 60 yX2_waysAt, Cond.instanceMethod yX2_waysAt, Cond.selects RX2 yX2_waysAt yX2_waysAt, Cond.code yX2_waysAt cX2_waysAt 4 (some .long), Cond.methodLink RX2 101 yX2_setWays, Cond.instanceMethod yX2_setWays, Cond.selects RX2 yX2_setWays yX2_setWays, Cond.code yX2_setWays cX2_setWays 6 none, Cond.methodLink RX2 45 yX1_ahead, Cond.methodLink RX11 225 yX2_wordsOf, Cond.instanceMethod yX2_wordsOf, Cond.selects RX2 yX2_wordsOf yX2_wordsOf, Cond.code yX2_wordsOf cX2_wordsOf 9 (some .int), Cond.methodLink RX2 64 yX2_isReached, Cond.instanceMethod yX2_isReached, Cond.selects RX2 yX2_isReached yX2_isReached, Cond.code yX2_isReached cX2_isReached 7 (some .boolean), Cond.methodLink RX2 74 yX6_at, Cond.methodLink RX2 68 yX6_set]
def wsL_law_r44 : List Cond := [Cond.methodLink RX2 78 yJ6_bitCount_0f7a4, Cond.methodLink RL 113 yX12_burnt, Cond.instanceMethod yX12_burnt, Cond.selects RX12 yX12_burnt yX12_burnt, Cond.code yX12_burnt cX12_burnt 9 (some .long), Cond.constantLong RX12 249 (-1), Cond.methodLink RX12 251 yX12_waysAll, Cond.instanceMethod yX12_waysAll, Cond.selects RX12 yX12_waysAll yX12_waysAll, Cond.code yX12_waysAll cX12_waysAll 9 (some .long), Cond.methodLink RX12 245 yX12_waysOf, Cond.instanceMethod yX12_waysOf, Cond.selects RX12 yX12_waysOf yX12_waysOf, Cond.code yX12_waysOf cX12_waysOf 10 (some .long), Cond.methodLink RL 114 yX11_rate, Cond.instanceMethod yX11_rate, Cond.selects RX11 yX11_rate yX11_rate, Cond.code yX11_rate cX11_rate 3 (some .int), Cond.constant RX11 228 (-1000000), Cond.methodLink RX11 229 yX11_asLine, Cond.instanceMethod yX11_asLine, Cond.selects RX11 yX11_asLine yX11_asLine, Cond.code yX11_asLine cX11_asLine 2 (some .int), Cond.fieldLink RX11 256 "RhymeLaw" "traced" "J"]
def wsL_law_r45 : List Cond := [Cond.methodLink RX11 232 yX11_asOpening, Cond.instanceMethod yX11_asOpening, Cond.selects RX11 yX11_asOpening yX11_asOpening, Cond.code yX11_asOpening cX11_asOpening 2 (some .int), Cond.constantLong RX11 273 (10), Cond.methodLink RX11 235 yX11_asRhymed, Cond.instanceMethod yX11_asRhymed, Cond.selects RX11 yX11_asRhymed yX11_asRhymed, Cond.code yX11_asRhymed cX11_asRhymed 2 (some .int), Cond.constantLong RX11 275 (100), Cond.methodLink RX11 238 yX11_asAnchor, Cond.instanceMethod yX11_asAnchor, Cond.selects RX11 yX11_asAnchor yX11_asAnchor, Cond.code yX11_asAnchor cX11_asAnchor 2 (some .int), Cond.constantLong RX11 277 (1000), Cond.methodLink RX11 241 yX11_asKey, Cond.instanceMethod yX11_asKey, Cond.selects RX11 yX11_asKey yX11_asKey, Cond.code yX11_asKey cX11_asKey 2 (some .int), Cond.constantLong RX11 279 (10000), Cond.methodLink RX11 244 yX11_asFallen, Cond.instanceMethod yX11_asFallen, Cond.selects RX11 yX11_asFallen yX11_asFallen, Cond.code yX11_asFallen cX11_asFallen 2 (some .int)]
def wsL_law_r46 : List Cond := [Cond.constantLong RX11 281 (100000), Cond.methodLink RL 117 yX12_rate, Cond.instanceMethod yX12_rate, Cond.selects RX12 yX12_rate yX12_rate, Cond.code yX12_rate cX12_rate 7 (some .int), Cond.constant RX12 255 (-1000000), Cond.fieldLink RX12 256 "RhymeLawModel" "trace" "J", Cond.constantLong RX12 260 (11), Cond.constantLong RX12 262 (101), Cond.constantLong RX12 264 (1101), Cond.constantLong RX12 266 (10011), Cond.constantLong RX12 268 (100001), Cond.methodLink RL 118 yX11_keep, Cond.instanceMethod yX11_keep, Cond.selects RX11 yX11_keep yX11_keep, Cond.code yX11_keep cX11_keep 2 (some .int), Cond.methodLink RX11 247 yX11_imageOf, Cond.instanceMethod yX11_imageOf, Cond.selects RX11 yX11_imageOf yX11_imageOf, Cond.code yX11_imageOf cX11_imageOf 2 (some (.object "RhymeLaw$Paper")), Cond.methodLink RL 121 yX12_keep, Cond.instanceMethod yX12_keep, Cond.selects RX12 yX12_keep yX12_keep, Cond.code yX12_keep cX12_keep 3 (some .int)]
def wsL_law_r47 : List Cond := [Cond.methodLink RL 122 yX11_back, Cond.instanceMethod yX11_back, Cond.selects RX11 yX11_back yX11_back, Cond.code yX11_back cX11_back 2 (some .int), Cond.methodLink RL 125 yX12_back, Cond.instanceMethod yX12_back, Cond.selects RX12 yX12_back yX12_back, Cond.code yX12_back cX12_back 3 (some .int), Cond.methodLink RL 126 yX11_count, Cond.instanceMethod yX11_count, Cond.selects RX11 yX11_count yX11_count, Cond.code yX11_count cX11_count 2 (some .int), Cond.methodLink RX11 255 yX1_size, Cond.instanceMethod yX1_size, Cond.selects RX1 yX1_size yX1_size, Cond.code yX1_size cX1_size 1 (some .int), Cond.methodLink RL 129 yX12_count, Cond.instanceMethod yX12_count, Cond.selects RX12 yX12_count yX12_count, Cond.code yX12_count cX12_count 2 (some .int), Cond.methodLink RL 130 yX11_trace, Cond.instanceMethod yX11_trace, Cond.selects RX11 yX11_trace yX11_trace, Cond.code yX11_trace cX11_trace 1 (some .long)]
def wsL_law_r48 : List Cond := [Cond.methodLink RL 134 yX12_trace, Cond.instanceMethod yX12_trace, Cond.selects RX12 yX12_trace yX12_trace, Cond.code yX12_trace cX12_trace 1 (some .long)]
def wsL_law : List Cond := (wsL_law_r1 ++ (wsL_law_r2 ++ (wsL_law_r3 ++ (wsL_law_r4 ++ (wsL_law_r5 ++ (wsL_law_r6 ++ (wsL_law_r7 ++ (wsL_law_r8 ++ (wsL_law_r9 ++ (wsL_law_r10 ++ (wsL_law_r11 ++ (wsL_law_r12 ++ (wsL_law_r13 ++ (wsL_law_r14 ++ (wsL_law_r15 ++ (wsL_law_r16 ++ (wsL_law_r17 ++ (wsL_law_r18 ++ (wsL_law_r19 ++ (wsL_law_r20 ++ (wsL_law_r21 ++ (wsL_law_r22 ++ (wsL_law_r23 ++ (wsL_law_r24 ++ (wsL_law_r25 ++ (wsL_law_r26 ++ (wsL_law_r27 ++ (wsL_law_r28 ++ (wsL_law_r29 ++ (wsL_law_r30 ++ (wsL_law_r31 ++ (wsL_law_r32 ++ (wsL_law_r33 ++ (wsL_law_r34 ++ (wsL_law_r35 ++ (wsL_law_r36 ++ (wsL_law_r37 ++ (wsL_law_r38 ++ (wsL_law_r39 ++ (wsL_law_r40 ++ (wsL_law_r41 ++ (wsL_law_r42 ++ (wsL_law_r43 ++ (wsL_law_r44 ++ (wsL_law_r45 ++ (wsL_law_r46 ++ (wsL_law_r47 ++ wsL_law_r48))))))))))))))))))))))))))))))))))))))))))))))) ++ wsX110 ++ wsX120 ++ wsX80 ++ wsX90 ++ wsX40 ++ wsX30 ++ wsX20 ++ wsX00 ++ wsX70 ++ wsX100 ++ wsX10 ++ ([] : List Cond)
set_option maxRecDepth 20000 in
theorem wsL_law_in : ∀ w ∈ wsL_law, w ∈ lw_tbl := fun w h => (goodIn_p wsL_law [87, 90, 95, 118, 141, 145, 166, 179, 193, 220, 226, 245, 1003, 334, 338, 342, 1124, 1127, 346, 350, 1132, 354, 357, 361, 365, 369, 373, 376, 380, 384, 388, 392, 396, 399, 404, 408, 412, 418, 422, 425, 428, 433, 436, 439, 442, 446, 455, 459, 462, 466, 469, 473, 477, 481, 485, 489, 493, 497, 503, 507, 510, 514, 518, 523, 527, 531, 535, 539, 544, 549, 553, 557, 563, 1136, 1140, 1144, 1148, 1152, 1156, 1160, 1164, 1168, 1172, 1176, 1180, 1184, 1188, 568, 572, 576, 581, 585, 1192, 1196, 589, 593, 597, 1200, 1204, 1208, 601, 605, 1212, 611, 615, 619, 1216, 1220, 623, 1224, 627, 1228, 634, 640, 1232, 644, 648, 1236, 652, 656, 660, 664, 674, 680, 685, 690, 694, 698, 702, 706, 1240, 1244, 1248, 1252, 1256, 1260, 1264, 710, 714, 1268, 1272, 1276, 718, 722, 1280, 727, 731, 1284, 1288, 736, 740, 1292, 1296, 746, 750, 754, 1300, 1303, 761, 765, 769, 774, 778, 783, 787, 792, 801, 805, 814, 1307, 1311, 1315, 819, 823, 829, 833, 838, 842, 846, 849, 861, 1319, 1323, 1327, 1331, 1335, 866, 1339, 870, 875, 879, 1343, 883, 887, 891, 1347, 898, 903, 909, 919, 924, 928, 933, 937, 1351, 1356, 1360, 944, 949, 953, 958, 963, 968, 973, 1364, 978, 982, 1374, 986, 1378, 990, 994, 1382, 998, 1386] (by decide +kernel) (by decide +kernel) w h).1
theorem inlX0 : ∀ w ∈ wsX00, w ∈ wsL_law := fun _ h => List.mem_append_left _ (List.mem_append_left _ (List.mem_append_left _ (List.mem_append_left _ (List.mem_append_right _ h))))
theorem inX0 : ∀ w ∈ wsX00, w ∈ lw_tbl := fun w h => wsL_law_in w (inlX0 w h)
theorem inlX1 : ∀ w ∈ wsX10, w ∈ wsL_law := fun _ h => List.mem_append_left _ (List.mem_append_right _ h)
theorem inX1 : ∀ w ∈ wsX10, w ∈ lw_tbl := fun w h => wsL_law_in w (inlX1 w h)
theorem inlX2 : ∀ w ∈ wsX20, w ∈ wsL_law := fun _ h => List.mem_append_left _ (List.mem_append_left _ (List.mem_append_left _ (List.mem_append_left _ (List.mem_append_left _ (List.mem_append_right _ h)))))
theorem inX2 : ∀ w ∈ wsX20, w ∈ lw_tbl := fun w h => wsL_law_in w (inlX2 w h)
theorem inlX3 : ∀ w ∈ wsX30, w ∈ wsL_law := fun _ h => List.mem_append_left _ (List.mem_append_left _ (List.mem_append_left _ (List.mem_append_left _ (List.mem_append_left _ (List.mem_append_left _ (List.mem_append_right _ h))))))
theorem inX3 : ∀ w ∈ wsX30, w ∈ lw_tbl := fun w h => wsL_law_in w (inlX3 w h)
theorem inlX4 : ∀ w ∈ wsX40, w ∈ wsL_law := fun _ h => List.mem_append_left _ (List.mem_append_left _ (List.mem_append_left _ (List.mem_append_left _ (List.mem_append_left _ (List.mem_append_left _ (List.mem_append_left _ (List.mem_append_right _ h)))))))
theorem inX4 : ∀ w ∈ wsX40, w ∈ lw_tbl := fun w h => wsL_law_in w (inlX4 w h)
theorem inX5 : ∀ w ∈ wsX50, w ∈ lw_tbl := by decide +kernel
theorem inX6 : ∀ w ∈ wsX60, w ∈ lw_tbl := by decide +kernel
theorem inlX7 : ∀ w ∈ wsX70, w ∈ wsL_law := fun _ h => List.mem_append_left _ (List.mem_append_left _ (List.mem_append_left _ (List.mem_append_right _ h)))
theorem inX7 : ∀ w ∈ wsX70, w ∈ lw_tbl := fun w h => wsL_law_in w (inlX7 w h)
theorem inlX8 : ∀ w ∈ wsX80, w ∈ wsL_law := fun _ h => List.mem_append_left _ (List.mem_append_left _ (List.mem_append_left _ (List.mem_append_left _ (List.mem_append_left _ (List.mem_append_left _ (List.mem_append_left _ (List.mem_append_left _ (List.mem_append_left _ (List.mem_append_right _ h)))))))))
theorem inX8 : ∀ w ∈ wsX80, w ∈ lw_tbl := fun w h => wsL_law_in w (inlX8 w h)
theorem inlX9 : ∀ w ∈ wsX90, w ∈ wsL_law := fun _ h => List.mem_append_left _ (List.mem_append_left _ (List.mem_append_left _ (List.mem_append_left _ (List.mem_append_left _ (List.mem_append_left _ (List.mem_append_left _ (List.mem_append_left _ (List.mem_append_right _ h))))))))
theorem inX9 : ∀ w ∈ wsX90, w ∈ lw_tbl := fun w h => wsL_law_in w (inlX9 w h)
theorem inlX10 : ∀ w ∈ wsX100, w ∈ wsL_law := fun _ h => List.mem_append_left _ (List.mem_append_left _ (List.mem_append_right _ h))
theorem inX10 : ∀ w ∈ wsX100, w ∈ lw_tbl := fun w h => wsL_law_in w (inlX10 w h)
theorem inlX11 : ∀ w ∈ wsX110, w ∈ wsL_law := fun _ h => List.mem_append_left _ (List.mem_append_left _ (List.mem_append_left _ (List.mem_append_left _ (List.mem_append_left _ (List.mem_append_left _ (List.mem_append_left _ (List.mem_append_left _ (List.mem_append_left _ (List.mem_append_left _ (List.mem_append_left _ (List.mem_append_right _ h)))))))))))
theorem inX11 : ∀ w ∈ wsX110, w ∈ lw_tbl := fun w h => wsL_law_in w (inlX11 w h)
theorem inlX12 : ∀ w ∈ wsX120, w ∈ wsL_law := fun _ h => List.mem_append_left _ (List.mem_append_left _ (List.mem_append_left _ (List.mem_append_left _ (List.mem_append_left _ (List.mem_append_left _ (List.mem_append_left _ (List.mem_append_left _ (List.mem_append_left _ (List.mem_append_left _ (List.mem_append_right _ h))))))))))
theorem inX12 : ∀ w ∈ wsX120, w ∈ lw_tbl := fun w h => wsL_law_in w (inlX12 w h)
theorem inJx145de : ∀ w ∈ wsJx145de0, w ∈ lw_tbl := by decide +kernel
theorem inJx9f9b0 : ∀ w ∈ wsJx9f9b00, w ∈ lw_tbl := by decide +kernel
theorem inJxb160c : ∀ w ∈ wsJxb160c0, w ∈ lw_tbl := by decide +kernel
theorem inJ6 : ∀ w ∈ wsJ60, w ∈ lw_tbl := by decide +kernel
theorem inJ9 : ∀ w ∈ wsJ90, w ∈ lw_tbl := by decide +kernel
theorem inJ0 : ∀ w ∈ wsJ00, w ∈ lw_tbl := by decide +kernel
theorem inJ1 : ∀ w ∈ wsJ10, w ∈ lw_tbl := by decide +kernel
theorem inJ2 : ∀ w ∈ wsJ20, w ∈ lw_tbl := by decide +kernel
theorem inJxfd54e : ∀ w ∈ wsJxfd54e0, w ∈ lw_tbl := by decide +kernel
theorem inJx3cf43 : ∀ w ∈ wsJx3cf430, w ∈ lw_tbl := by decide +kernel
theorem inJ7 : ∀ w ∈ wsJ70, w ∈ lw_tbl := by decide +kernel
theorem inJ3 : ∀ w ∈ wsJ30, w ∈ lw_tbl := by decide +kernel
theorem dX0_init_0 : decode cX0_init 0 = .ok (.aload_n 0, 1) := by decide +kernel
theorem dX0_init_1 : decode cX0_init 1 = .ok (.invokespecial 3, 3) := by decide +kernel
theorem dX0_init_4 : decode cX0_init 4 = .ok (.aload_n 0, 1) := by decide +kernel
theorem dX0_init_5 : decode cX0_init 5 = .ok (.new 9, 3) := by decide +kernel
theorem dX0_init_8 : decode cX0_init 8 = .ok (.dup, 1) := by decide +kernel
theorem dX0_init_9 : decode cX0_init 9 = .ok (.bipush 6, 2) := by decide +kernel
theorem dX0_init_11 : decode cX0_init 11 = .ok (.invokespecial 11, 3) := by decide +kernel
theorem dX0_init_14 : decode cX0_init 14 = .ok (.putfield 14, 3) := by decide +kernel
theorem dX0_init_17 : decode cX0_init 17 = .ok (.aload_n 0, 1) := by decide +kernel
theorem dX0_init_18 : decode cX0_init 18 = .ok (.bipush 6, 2) := by decide +kernel
theorem dX0_init_20 : decode cX0_init 20 = .ok (.newarray .int, 2) := by decide +kernel
theorem dX0_init_22 : decode cX0_init 22 = .ok (.putfield 20, 3) := by decide +kernel
theorem dX0_init_25 : decode cX0_init 25 = .ok (.return_, 1) := by decide +kernel
theorem dX0_find_0 : decode cX0_find 0 = .ok (.aload_n 0, 1) := by decide +kernel
theorem dX0_find_1 : decode cX0_find 1 = .ok (.aload_n 1, 1) := by decide +kernel
theorem dX0_find_2 : decode cX0_find 2 = .ok (.putfield 24, 3) := by decide +kernel
theorem dX0_find_5 : decode cX0_find 5 = .ok (.aload_n 0, 1) := by decide +kernel
theorem dX0_find_6 : decode cX0_find 6 = .ok (.iload_n 2, 1) := by decide +kernel
theorem dX0_find_7 : decode cX0_find 7 = .ok (.putfield 28, 3) := by decide +kernel
theorem dX0_find_10 : decode cX0_find 10 = .ok (.aload_n 0, 1) := by decide +kernel
theorem dX0_find_11 : decode cX0_find 11 = .ok (.iload_n 3, 1) := by decide +kernel
theorem dX0_find_12 : decode cX0_find 12 = .ok (.putfield 32, 3) := by decide +kernel
theorem dX0_find_15 : decode cX0_find 15 = .ok (.aload_n 0, 1) := by decide +kernel
theorem dX0_find_16 : decode cX0_find 16 = .ok (.iload 4, 2) := by decide +kernel
theorem dX0_find_18 : decode cX0_find 18 = .ok (.putfield 35, 3) := by decide +kernel
theorem dX0_find_21 : decode cX0_find 21 = .ok (.iconst 1, 1) := by decide +kernel
theorem dX0_find_22 : decode cX0_find 22 = .ok (.istore 5, 2) := by decide +kernel
theorem dX0_find_24 : decode cX0_find 24 = .ok (.iload 5, 2) := by decide +kernel
theorem dX0_find_26 : decode cX0_find 26 = .ok (.aload_n 1, 1) := by decide +kernel
theorem dX0_find_27 : decode cX0_find 27 = .ok (.getfield 38, 3) := by decide +kernel
theorem dX0_find_30 : decode cX0_find 30 = .ok (.invokevirtual 43, 3) := by decide +kernel
theorem dX0_find_33 : decode cX0_find 33 = .ok (.if_icmp .gt 43, 3) := by decide +kernel
theorem dX0_find_36 : decode cX0_find 36 = .ok (.aload_n 0, 1) := by decide +kernel
theorem dX0_find_37 : decode cX0_find 37 = .ok (.getfield 14, 3) := by decide +kernel
theorem dX0_find_40 : decode cX0_find 40 = .ok (.invokevirtual 47, 3) := by decide +kernel
theorem dX0_find_43 : decode cX0_find 43 = .ok (.aload_n 1, 1) := by decide +kernel
theorem dX0_find_44 : decode cX0_find 44 = .ok (.getfield 50, 3) := by decide +kernel
theorem dX0_find_47 : decode cX0_find 47 = .ok (.iload_n 2, 1) := by decide +kernel
theorem dX0_find_48 : decode cX0_find 48 = .ok (.iload 5, 2) := by decide +kernel
theorem dX0_find_50 : decode cX0_find 50 = .ok (.invokevirtual 54, 3) := by decide +kernel
theorem dX0_find_53 : decode cX0_find 53 = .ok (.ifCond .eq 17, 3) := by decide +kernel
theorem dX0_find_56 : decode cX0_find 56 = .ok (.aload_n 0, 1) := by decide +kernel
theorem dX0_find_57 : decode cX0_find 57 = .ok (.iload 5, 2) := by decide +kernel
theorem dX0_find_59 : decode cX0_find 59 = .ok (.iconst 0, 1) := by decide +kernel
theorem dX0_find_60 : decode cX0_find 60 = .ok (.iconst 0, 1) := by decide +kernel
theorem dX0_find_61 : decode cX0_find 61 = .ok (.invokestatic 60, 3) := by decide +kernel
theorem dX0_find_64 : decode cX0_find 64 = .ok (.ifCond .eq 6, 3) := by decide +kernel
theorem dX0_find_67 : decode cX0_find 67 = .ok (.iload 5, 2) := by decide +kernel
theorem dX0_find_69 : decode cX0_find 69 = .ok (.ireturn, 1) := by decide +kernel
theorem dX0_find_70 : decode cX0_find 70 = .ok (.iinc 5 1, 3) := by decide +kernel
theorem dX0_find_73 : decode cX0_find 73 = .ok (.goto (-49), 3) := by decide +kernel
theorem dX0_find_76 : decode cX0_find 76 = .ok (.bipush (-9), 2) := by decide +kernel
theorem dX0_find_78 : decode cX0_find 78 = .ok (.ireturn, 1) := by decide +kernel
theorem dX0_pickAt_0 : decode cX0_pickAt 0 = .ok (.aload_n 0, 1) := by decide +kernel
theorem dX0_pickAt_1 : decode cX0_pickAt 1 = .ok (.getfield 20, 3) := by decide +kernel
theorem dX0_pickAt_4 : decode cX0_pickAt 4 = .ok (.iload_n 1, 1) := by decide +kernel
theorem dX0_pickAt_5 : decode cX0_pickAt 5 = .ok (.invokestatic 64, 3) := by decide +kernel
theorem dX0_pickAt_8 : decode cX0_pickAt 8 = .ok (.ireturn, 1) := by decide +kernel
theorem dX0_extend_0 : decode cX0_extend 0 = .ok (.iload_n 2, 1) := by decide +kernel
theorem dX0_extend_1 : decode cX0_extend 1 = .ok (.iload_n 1, 1) := by decide +kernel
theorem dX0_extend_2 : decode cX0_extend 2 = .ok (.if_icmp .ge 9, 3) := by decide +kernel
theorem dX0_extend_5 : decode cX0_extend 5 = .ok (.iload_n 2, 1) := by decide +kernel
theorem dX0_extend_6 : decode cX0_extend 6 = .ok (.bipush 6, 2) := by decide +kernel
theorem dX0_extend_8 : decode cX0_extend 8 = .ok (.if_icmp .lt 8, 3) := by decide +kernel
theorem dX0_extend_11 : decode cX0_extend 11 = .ok (.aload_n 0, 1) := by decide +kernel
theorem dX0_extend_12 : decode cX0_extend 12 = .ok (.invokevirtual 70, 3) := by decide +kernel
theorem dX0_extend_15 : decode cX0_extend 15 = .ok (.ireturn, 1) := by decide +kernel
theorem dX0_extend_16 : decode cX0_extend 16 = .ok (.iconst 0, 1) := by decide +kernel
theorem dX0_extend_17 : decode cX0_extend 17 = .ok (.istore 4, 2) := by decide +kernel
theorem dX0_extend_19 : decode cX0_extend 19 = .ok (.iload 4, 2) := by decide +kernel
theorem dX0_extend_21 : decode cX0_extend 21 = .ok (.aload_n 0, 1) := by decide +kernel
theorem dX0_extend_22 : decode cX0_extend 22 = .ok (.invokevirtual 74, 3) := by decide +kernel
theorem dX0_extend_25 : decode cX0_extend 25 = .ok (.if_icmp .ge 47, 3) := by decide +kernel
theorem dX0_extend_28 : decode cX0_extend 28 = .ok (.iload_n 3, 1) := by decide +kernel
theorem dX0_extend_29 : decode cX0_extend 29 = .ok (.iload 4, 2) := by decide +kernel
theorem dX0_extend_31 : decode cX0_extend 31 = .ok (.ishr, 1) := by decide +kernel
theorem dX0_extend_32 : decode cX0_extend 32 = .ok (.iconst 1, 1) := by decide +kernel
theorem dX0_extend_33 : decode cX0_extend 33 = .ok (.iand, 1) := by decide +kernel
theorem dX0_extend_34 : decode cX0_extend 34 = .ok (.ifCond .ne 32, 3) := by decide +kernel
theorem dX0_extend_37 : decode cX0_extend 37 = .ok (.aload_n 0, 1) := by decide +kernel
theorem dX0_extend_38 : decode cX0_extend 38 = .ok (.iload_n 2, 1) := by decide +kernel
theorem dX0_extend_39 : decode cX0_extend 39 = .ok (.iload 4, 2) := by decide +kernel
theorem dX0_extend_41 : decode cX0_extend 41 = .ok (.invokevirtual 77, 3) := by decide +kernel
theorem dX0_extend_44 : decode cX0_extend 44 = .ok (.ifCond .eq 22, 3) := by decide +kernel
theorem dX0_extend_47 : decode cX0_extend 47 = .ok (.aload_n 0, 1) := by decide +kernel
theorem dX0_extend_48 : decode cX0_extend 48 = .ok (.iload_n 1, 1) := by decide +kernel
theorem dX0_extend_49 : decode cX0_extend 49 = .ok (.iload_n 2, 1) := by decide +kernel
theorem dX0_extend_50 : decode cX0_extend 50 = .ok (.iconst 1, 1) := by decide +kernel
theorem dX0_extend_51 : decode cX0_extend 51 = .ok (.iadd, 1) := by decide +kernel
theorem dX0_extend_52 : decode cX0_extend 52 = .ok (.iload_n 3, 1) := by decide +kernel
theorem dX0_extend_53 : decode cX0_extend 53 = .ok (.iconst 1, 1) := by decide +kernel
theorem dX0_extend_54 : decode cX0_extend 54 = .ok (.iload 4, 2) := by decide +kernel
theorem dX0_extend_56 : decode cX0_extend 56 = .ok (.ishl, 1) := by decide +kernel
theorem dX0_extend_57 : decode cX0_extend 57 = .ok (.ior, 1) := by decide +kernel
theorem dX0_extend_58 : decode cX0_extend 58 = .ok (.invokestatic 60, 3) := by decide +kernel
theorem dX0_extend_61 : decode cX0_extend 61 = .ok (.ifCond .eq 5, 3) := by decide +kernel
theorem dX0_extend_64 : decode cX0_extend 64 = .ok (.iconst 1, 1) := by decide +kernel
theorem dX0_extend_65 : decode cX0_extend 65 = .ok (.ireturn, 1) := by decide +kernel
theorem dX0_extend_66 : decode cX0_extend 66 = .ok (.iinc 4 1, 3) := by decide +kernel
theorem dX0_extend_69 : decode cX0_extend 69 = .ok (.goto (-50), 3) := by decide +kernel
theorem dX0_extend_72 : decode cX0_extend 72 = .ok (.iconst 0, 1) := by decide +kernel
theorem dX0_extend_73 : decode cX0_extend 73 = .ok (.ireturn, 1) := by decide +kernel
theorem dX0_stockSize_0 : decode cX0_stockSize 0 = .ok (.aload_n 0, 1) := by decide +kernel
theorem dX0_stockSize_1 : decode cX0_stockSize 1 = .ok (.getfield 24, 3) := by decide +kernel
theorem dX0_stockSize_4 : decode cX0_stockSize 4 = .ok (.ifnonnull 7, 3) := by decide +kernel
theorem dX0_stockSize_7 : decode cX0_stockSize 7 = .ok (.iconst 0, 1) := by decide +kernel
theorem dX0_stockSize_8 : decode cX0_stockSize 8 = .ok (.goto 13, 3) := by decide +kernel
theorem dX0_stockSize_11 : decode cX0_stockSize 11 = .ok (.aload_n 0, 1) := by decide +kernel
theorem dX0_stockSize_12 : decode cX0_stockSize 12 = .ok (.getfield 24, 3) := by decide +kernel
theorem dX0_stockSize_15 : decode cX0_stockSize 15 = .ok (.getfield 38, 3) := by decide +kernel
theorem dX0_stockSize_18 : decode cX0_stockSize 18 = .ok (.invokevirtual 43, 3) := by decide +kernel
theorem dX0_stockSize_21 : decode cX0_stockSize 21 = .ok (.ireturn, 1) := by decide +kernel
theorem dX0_lay_0 : decode cX0_lay 0 = .ok (.aload_n 0, 1) := by decide +kernel
theorem dX0_lay_1 : decode cX0_lay 1 = .ok (.getfield 24, 3) := by decide +kernel
theorem dX0_lay_4 : decode cX0_lay 4 = .ok (.ifnonnull 5, 3) := by decide +kernel
theorem dX0_lay_7 : decode cX0_lay 7 = .ok (.iconst 0, 1) := by decide +kernel
theorem dX0_lay_8 : decode cX0_lay 8 = .ok (.ireturn, 1) := by decide +kernel
theorem dX0_lay_9 : decode cX0_lay 9 = .ok (.aload_n 0, 1) := by decide +kernel
theorem dX0_lay_10 : decode cX0_lay 10 = .ok (.getfield 14, 3) := by decide +kernel
theorem dX0_lay_13 : decode cX0_lay 13 = .ok (.iload_n 1, 1) := by decide +kernel
theorem dX0_lay_14 : decode cX0_lay 14 = .ok (.invokevirtual 80, 3) := by decide +kernel
theorem dX0_lay_17 : decode cX0_lay 17 = .ok (.aload_n 0, 1) := by decide +kernel
theorem dX0_lay_18 : decode cX0_lay 18 = .ok (.getfield 14, 3) := by decide +kernel
theorem dX0_lay_21 : decode cX0_lay 21 = .ok (.iload_n 1, 1) := by decide +kernel
theorem dX0_lay_22 : decode cX0_lay 22 = .ok (.aload_n 0, 1) := by decide +kernel
theorem dX0_lay_23 : decode cX0_lay 23 = .ok (.getfield 24, 3) := by decide +kernel
theorem dX0_lay_26 : decode cX0_lay 26 = .ok (.getfield 38, 3) := by decide +kernel
theorem dX0_lay_29 : decode cX0_lay 29 = .ok (.iload_n 2, 1) := by decide +kernel
theorem dX0_lay_30 : decode cX0_lay 30 = .ok (.invokevirtual 83, 3) := by decide +kernel
theorem dX0_lay_33 : decode cX0_lay 33 = .ok (.aload_n 0, 1) := by decide +kernel
theorem dX0_lay_34 : decode cX0_lay 34 = .ok (.getfield 24, 3) := by decide +kernel
theorem dX0_lay_37 : decode cX0_lay 37 = .ok (.getfield 38, 3) := by decide +kernel
theorem dX0_lay_40 : decode cX0_lay 40 = .ok (.iload_n 2, 1) := by decide +kernel
theorem dX0_lay_41 : decode cX0_lay 41 = .ok (.invokevirtual 87, 3) := by decide +kernel
theorem dX0_lay_44 : decode cX0_lay 44 = .ok (.aload_n 0, 1) := by decide +kernel
theorem dX0_lay_45 : decode cX0_lay 45 = .ok (.getfield 24, 3) := by decide +kernel
theorem dX0_lay_48 : decode cX0_lay 48 = .ok (.getfield 38, 3) := by decide +kernel
theorem dX0_lay_51 : decode cX0_lay 51 = .ok (.iload_n 2, 1) := by decide +kernel
theorem dX0_lay_52 : decode cX0_lay 52 = .ok (.invokevirtual 90, 3) := by decide +kernel
theorem dX0_lay_55 : decode cX0_lay 55 = .ok (.invokevirtual 93, 3) := by decide +kernel
theorem dX0_lay_58 : decode cX0_lay 58 = .ok (.aload_n 0, 1) := by decide +kernel
theorem dX0_lay_59 : decode cX0_lay 59 = .ok (.getfield 20, 3) := by decide +kernel
theorem dX0_lay_62 : decode cX0_lay 62 = .ok (.iload_n 1, 1) := by decide +kernel
theorem dX0_lay_63 : decode cX0_lay 63 = .ok (.iload_n 2, 1) := by decide +kernel
theorem dX0_lay_64 : decode cX0_lay 64 = .ok (.invokestatic 97, 3) := by decide +kernel
theorem dX0_lay_67 : decode cX0_lay 67 = .ok (.aload_n 0, 1) := by decide +kernel
theorem dX0_lay_68 : decode cX0_lay 68 = .ok (.getfield 24, 3) := by decide +kernel
theorem dX0_lay_71 : decode cX0_lay 71 = .ok (.aload_n 0, 1) := by decide +kernel
theorem dX0_lay_72 : decode cX0_lay 72 = .ok (.getfield 24, 3) := by decide +kernel
theorem dX0_lay_75 : decode cX0_lay 75 = .ok (.getfield 50, 3) := by decide +kernel
theorem dX0_lay_78 : decode cX0_lay 78 = .ok (.aload_n 0, 1) := by decide +kernel
theorem dX0_lay_79 : decode cX0_lay 79 = .ok (.getfield 28, 3) := by decide +kernel
theorem dX0_lay_82 : decode cX0_lay 82 = .ok (.iload_n 1, 1) := by decide +kernel
theorem dX0_lay_83 : decode cX0_lay 83 = .ok (.invokevirtual 101, 3) := by decide +kernel
theorem dX0_lay_86 : decode cX0_lay 86 = .ok (.aload_n 0, 1) := by decide +kernel
theorem dX0_lay_87 : decode cX0_lay 87 = .ok (.getfield 14, 3) := by decide +kernel
theorem dX0_lay_90 : decode cX0_lay 90 = .ok (.iload_n 1, 1) := by decide +kernel
theorem dX0_lay_91 : decode cX0_lay 91 = .ok (.invokevirtual 83, 3) := by decide +kernel
theorem dX0_lay_94 : decode cX0_lay 94 = .ok (.aload_n 0, 1) := by decide +kernel
theorem dX0_lay_95 : decode cX0_lay 95 = .ok (.getfield 14, 3) := by decide +kernel
theorem dX0_lay_98 : decode cX0_lay 98 = .ok (.iload_n 1, 1) := by decide +kernel
theorem dX0_lay_99 : decode cX0_lay 99 = .ok (.invokevirtual 90, 3) := by decide +kernel
theorem dX0_lay_102 : decode cX0_lay 102 = .ok (.invokevirtual 105, 3) := by decide +kernel
theorem dX0_lay_105 : decode cX0_lay 105 = .ok (.ifCond .ne 5, 3) := by decide +kernel
theorem dX0_lay_108 : decode cX0_lay 108 = .ok (.iconst 0, 1) := by decide +kernel
theorem dX0_lay_109 : decode cX0_lay 109 = .ok (.ireturn, 1) := by decide +kernel
theorem dX0_lay_110 : decode cX0_lay 110 = .ok (.aload_n 0, 1) := by decide +kernel
theorem dX0_lay_111 : decode cX0_lay 111 = .ok (.getfield 24, 3) := by decide +kernel
theorem dX0_lay_114 : decode cX0_lay 114 = .ok (.getfield 50, 3) := by decide +kernel
theorem dX0_lay_117 : decode cX0_lay 117 = .ok (.aload_n 0, 1) := by decide +kernel
theorem dX0_lay_118 : decode cX0_lay 118 = .ok (.getfield 28, 3) := by decide +kernel
theorem dX0_lay_121 : decode cX0_lay 121 = .ok (.iload_n 1, 1) := by decide +kernel
theorem dX0_lay_122 : decode cX0_lay 122 = .ok (.invokevirtual 109, 3) := by decide +kernel
theorem dX0_lay_125 : decode cX0_lay 125 = .ok (.istore_n 3, 1) := by decide +kernel
theorem dX0_lay_126 : decode cX0_lay 126 = .ok (.iload_n 3, 1) := by decide +kernel
theorem dX0_lay_127 : decode cX0_lay 127 = .ok (.ifCond .lt 36, 3) := by decide +kernel
theorem dX0_lay_130 : decode cX0_lay 130 = .ok (.aload_n 0, 1) := by decide +kernel
theorem dX0_lay_131 : decode cX0_lay 131 = .ok (.getfield 24, 3) := by decide +kernel
theorem dX0_lay_134 : decode cX0_lay 134 = .ok (.getfield 112, 3) := by decide +kernel
theorem dX0_lay_137 : decode cX0_lay 137 = .ok (.aload_n 0, 1) := by decide +kernel
theorem dX0_lay_138 : decode cX0_lay 138 = .ok (.getfield 32, 3) := by decide +kernel
theorem dX0_lay_141 : decode cX0_lay 141 = .ok (.aload_n 0, 1) := by decide +kernel
theorem dX0_lay_142 : decode cX0_lay 142 = .ok (.getfield 14, 3) := by decide +kernel
theorem dX0_lay_145 : decode cX0_lay 145 = .ok (.iload_n 3, 1) := by decide +kernel
theorem dX0_lay_146 : decode cX0_lay 146 = .ok (.invokevirtual 83, 3) := by decide +kernel
theorem dX0_lay_149 : decode cX0_lay 149 = .ok (.aload_n 0, 1) := by decide +kernel
theorem dX0_lay_150 : decode cX0_lay 150 = .ok (.getfield 14, 3) := by decide +kernel
theorem dX0_lay_153 : decode cX0_lay 153 = .ok (.iload_n 1, 1) := by decide +kernel
theorem dX0_lay_154 : decode cX0_lay 154 = .ok (.invokevirtual 83, 3) := by decide +kernel
theorem dX0_lay_157 : decode cX0_lay 157 = .ok (.invokevirtual 116, 3) := by decide +kernel
theorem dX0_lay_160 : decode cX0_lay 160 = .ok (.ifCond .eq 7, 3) := by decide +kernel
theorem dX0_lay_163 : decode cX0_lay 163 = .ok (.iconst 1, 1) := by decide +kernel
theorem dX0_lay_164 : decode cX0_lay 164 = .ok (.goto 4, 3) := by decide +kernel
theorem dX0_lay_167 : decode cX0_lay 167 = .ok (.iconst 0, 1) := by decide +kernel
theorem dX0_lay_168 : decode cX0_lay 168 = .ok (.ireturn, 1) := by decide +kernel
theorem dX0_hasThings_0 : decode cX0_hasThings 0 = .ok (.iconst 0, 1) := by decide +kernel
theorem dX0_hasThings_1 : decode cX0_hasThings 1 = .ok (.istore_n 1, 1) := by decide +kernel
theorem dX0_hasThings_2 : decode cX0_hasThings 2 = .ok (.iconst 0, 1) := by decide +kernel
theorem dX0_hasThings_3 : decode cX0_hasThings 3 = .ok (.istore_n 2, 1) := by decide +kernel
theorem dX0_hasThings_4 : decode cX0_hasThings 4 = .ok (.iload_n 2, 1) := by decide +kernel
theorem dX0_hasThings_5 : decode cX0_hasThings 5 = .ok (.aload_n 0, 1) := by decide +kernel
theorem dX0_hasThings_6 : decode cX0_hasThings 6 = .ok (.getfield 14, 3) := by decide +kernel
theorem dX0_hasThings_9 : decode cX0_hasThings 9 = .ok (.invokevirtual 43, 3) := by decide +kernel
theorem dX0_hasThings_12 : decode cX0_hasThings 12 = .ok (.if_icmp .ge 22, 3) := by decide +kernel
theorem dX0_hasThings_15 : decode cX0_hasThings 15 = .ok (.iload_n 1, 1) := by decide +kernel
theorem dX0_hasThings_16 : decode cX0_hasThings 16 = .ok (.iconst 1, 1) := by decide +kernel
theorem dX0_hasThings_17 : decode cX0_hasThings 17 = .ok (.aload_n 0, 1) := by decide +kernel
theorem dX0_hasThings_18 : decode cX0_hasThings 18 = .ok (.getfield 14, 3) := by decide +kernel
theorem dX0_hasThings_21 : decode cX0_hasThings 21 = .ok (.iload_n 2, 1) := by decide +kernel
theorem dX0_hasThings_22 : decode cX0_hasThings 22 = .ok (.invokevirtual 87, 3) := by decide +kernel
theorem dX0_hasThings_25 : decode cX0_hasThings 25 = .ok (.ishl, 1) := by decide +kernel
theorem dX0_hasThings_26 : decode cX0_hasThings 26 = .ok (.ior, 1) := by decide +kernel
theorem dX0_hasThings_27 : decode cX0_hasThings 27 = .ok (.istore_n 1, 1) := by decide +kernel
theorem dX0_hasThings_28 : decode cX0_hasThings 28 = .ok (.iinc 2 1, 3) := by decide +kernel
theorem dX0_hasThings_31 : decode cX0_hasThings 31 = .ok (.goto (-27), 3) := by decide +kernel
theorem dX0_hasThings_34 : decode cX0_hasThings 34 = .ok (.iload_n 1, 1) := by decide +kernel
theorem dX0_hasThings_35 : decode cX0_hasThings 35 = .ok (.aload_n 0, 1) := by decide +kernel
theorem dX0_hasThings_36 : decode cX0_hasThings 36 = .ok (.getfield 35, 3) := by decide +kernel
theorem dX0_hasThings_39 : decode cX0_hasThings 39 = .ok (.iand, 1) := by decide +kernel
theorem dX0_hasThings_40 : decode cX0_hasThings 40 = .ok (.aload_n 0, 1) := by decide +kernel
theorem dX0_hasThings_41 : decode cX0_hasThings 41 = .ok (.getfield 35, 3) := by decide +kernel
theorem dX0_hasThings_44 : decode cX0_hasThings 44 = .ok (.if_icmp .ne 7, 3) := by decide +kernel
theorem dX0_hasThings_47 : decode cX0_hasThings 47 = .ok (.iconst 1, 1) := by decide +kernel
theorem dX0_hasThings_48 : decode cX0_hasThings 48 = .ok (.goto 4, 3) := by decide +kernel
theorem dX0_hasThings_51 : decode cX0_hasThings 51 = .ok (.iconst 0, 1) := by decide +kernel
theorem dX0_hasThings_52 : decode cX0_hasThings 52 = .ok (.ireturn, 1) := by decide +kernel
theorem dX1_init_0 : decode cX1_init 0 = .ok (.aload_n 0, 1) := by decide +kernel
theorem dX1_init_1 : decode cX1_init 1 = .ok (.invokespecial 3, 3) := by decide +kernel
theorem dX1_init_4 : decode cX1_init 4 = .ok (.aload_n 0, 1) := by decide +kernel
theorem dX1_init_5 : decode cX1_init 5 = .ok (.bipush 16, 2) := by decide +kernel
theorem dX1_init_7 : decode cX1_init 7 = .ok (.newarray .int, 2) := by decide +kernel
theorem dX1_init_9 : decode cX1_init 9 = .ok (.putfield 9, 3) := by decide +kernel
theorem dX1_init_12 : decode cX1_init 12 = .ok (.aload_n 0, 1) := by decide +kernel
theorem dX1_init_13 : decode cX1_init 13 = .ok (.iconst 2, 1) := by decide +kernel
theorem dX1_init_14 : decode cX1_init 14 = .ok (.newarray .int, 2) := by decide +kernel
theorem dX1_init_16 : decode cX1_init 16 = .ok (.putfield 15, 3) := by decide +kernel
theorem dX1_init_19 : decode cX1_init 19 = .ok (.return_, 1) := by decide +kernel
theorem dX1_size_0 : decode cX1_size 0 = .ok (.aload_n 0, 1) := by decide +kernel
theorem dX1_size_1 : decode cX1_size 1 = .ok (.getfield 18, 3) := by decide +kernel
theorem dX1_size_4 : decode cX1_size 4 = .ok (.ireturn, 1) := by decide +kernel
theorem dX1_isFull_0 : decode cX1_isFull 0 = .ok (.aload_n 0, 1) := by decide +kernel
theorem dX1_isFull_1 : decode cX1_isFull 1 = .ok (.getfield 18, 3) := by decide +kernel
theorem dX1_isFull_4 : decode cX1_isFull 4 = .ok (.iconst 2, 1) := by decide +kernel
theorem dX1_isFull_5 : decode cX1_isFull 5 = .ok (.if_icmp .lt 7, 3) := by decide +kernel
theorem dX1_isFull_8 : decode cX1_isFull 8 = .ok (.iconst 1, 1) := by decide +kernel
theorem dX1_isFull_9 : decode cX1_isFull 9 = .ok (.goto 4, 3) := by decide +kernel
theorem dX1_isFull_12 : decode cX1_isFull 12 = .ok (.iconst 0, 1) := by decide +kernel
theorem dX1_isFull_13 : decode cX1_isFull 13 = .ok (.ireturn, 1) := by decide +kernel
theorem dX1_has_0 : decode cX1_has 0 = .ok (.iload_n 1, 1) := by decide +kernel
theorem dX1_has_1 : decode cX1_has 1 = .ok (.ifCond .lt 15, 3) := by decide +kernel
theorem dX1_has_4 : decode cX1_has 4 = .ok (.iload_n 1, 1) := by decide +kernel
theorem dX1_has_5 : decode cX1_has 5 = .ok (.aload_n 0, 1) := by decide +kernel
theorem dX1_has_6 : decode cX1_has 6 = .ok (.getfield 18, 3) := by decide +kernel
theorem dX1_has_9 : decode cX1_has 9 = .ok (.if_icmp .ge 7, 3) := by decide +kernel
theorem dX1_has_12 : decode cX1_has 12 = .ok (.iconst 1, 1) := by decide +kernel
theorem dX1_has_13 : decode cX1_has 13 = .ok (.goto 4, 3) := by decide +kernel
theorem dX1_has_16 : decode cX1_has 16 = .ok (.iconst 0, 1) := by decide +kernel
theorem dX1_has_17 : decode cX1_has 17 = .ok (.ireturn, 1) := by decide +kernel
theorem dX1_wipe_0 : decode cX1_wipe 0 = .ok (.aload_n 0, 1) := by decide +kernel
theorem dX1_wipe_1 : decode cX1_wipe 1 = .ok (.iconst 0, 1) := by decide +kernel
theorem dX1_wipe_2 : decode cX1_wipe 2 = .ok (.putfield 18, 3) := by decide +kernel
theorem dX1_wipe_5 : decode cX1_wipe 5 = .ok (.return_, 1) := by decide +kernel
theorem dX1_begin_0 : decode cX1_begin 0 = .ok (.aload_n 0, 1) := by decide +kernel
theorem dX1_begin_1 : decode cX1_begin 1 = .ok (.invokevirtual 22, 3) := by decide +kernel
theorem dX1_begin_4 : decode cX1_begin 4 = .ok (.ifCond .eq 4, 3) := by decide +kernel
theorem dX1_begin_7 : decode cX1_begin 7 = .ok (.return_, 1) := by decide +kernel
theorem dX1_begin_8 : decode cX1_begin 8 = .ok (.aload_n 0, 1) := by decide +kernel
theorem dX1_begin_9 : decode cX1_begin 9 = .ok (.getfield 15, 3) := by decide +kernel
theorem dX1_begin_12 : decode cX1_begin 12 = .ok (.aload_n 0, 1) := by decide +kernel
theorem dX1_begin_13 : decode cX1_begin 13 = .ok (.getfield 18, 3) := by decide +kernel
theorem dX1_begin_16 : decode cX1_begin 16 = .ok (.iconst 0, 1) := by decide +kernel
theorem dX1_begin_17 : decode cX1_begin 17 = .ok (.invokestatic 26, 3) := by decide +kernel
theorem dX1_begin_20 : decode cX1_begin 20 = .ok (.aload_n 0, 1) := by decide +kernel
theorem dX1_begin_21 : decode cX1_begin 21 = .ok (.dup, 1) := by decide +kernel
theorem dX1_begin_22 : decode cX1_begin 22 = .ok (.getfield 18, 3) := by decide +kernel
theorem dX1_begin_25 : decode cX1_begin 25 = .ok (.iconst 1, 1) := by decide +kernel
theorem dX1_begin_26 : decode cX1_begin 26 = .ok (.iadd, 1) := by decide +kernel
theorem dX1_begin_27 : decode cX1_begin 27 = .ok (.putfield 18, 3) := by decide +kernel
theorem dX1_begin_30 : decode cX1_begin 30 = .ok (.return_, 1) := by decide +kernel
theorem dX1_addLetter_0 : decode cX1_addLetter 0 = .ok (.aload_n 0, 1) := by decide +kernel
theorem dX1_addLetter_1 : decode cX1_addLetter 1 = .ok (.getfield 18, 3) := by decide +kernel
theorem dX1_addLetter_4 : decode cX1_addLetter 4 = .ok (.iconst 1, 1) := by decide +kernel
theorem dX1_addLetter_5 : decode cX1_addLetter 5 = .ok (.isub, 1) := by decide +kernel
theorem dX1_addLetter_6 : decode cX1_addLetter 6 = .ok (.istore_n 2, 1) := by decide +kernel
theorem dX1_addLetter_7 : decode cX1_addLetter 7 = .ok (.aload_n 0, 1) := by decide +kernel
theorem dX1_addLetter_8 : decode cX1_addLetter 8 = .ok (.getfield 15, 3) := by decide +kernel
theorem dX1_addLetter_11 : decode cX1_addLetter 11 = .ok (.iload_n 2, 1) := by decide +kernel
theorem dX1_addLetter_12 : decode cX1_addLetter 12 = .ok (.invokestatic 32, 3) := by decide +kernel
theorem dX1_addLetter_15 : decode cX1_addLetter 15 = .ok (.istore_n 3, 1) := by decide +kernel
theorem dX1_addLetter_16 : decode cX1_addLetter 16 = .ok (.iload_n 2, 1) := by decide +kernel
theorem dX1_addLetter_17 : decode cX1_addLetter 17 = .ok (.ifCond .lt 9, 3) := by decide +kernel
theorem dX1_addLetter_20 : decode cX1_addLetter 20 = .ok (.iload_n 3, 1) := by decide +kernel
theorem dX1_addLetter_21 : decode cX1_addLetter 21 = .ok (.bipush 8, 2) := by decide +kernel
theorem dX1_addLetter_23 : decode cX1_addLetter 23 = .ok (.if_icmp .lt 4, 3) := by decide +kernel
theorem dX1_addLetter_26 : decode cX1_addLetter 26 = .ok (.return_, 1) := by decide +kernel
theorem dX1_addLetter_27 : decode cX1_addLetter 27 = .ok (.aload_n 0, 1) := by decide +kernel
theorem dX1_addLetter_28 : decode cX1_addLetter 28 = .ok (.getfield 9, 3) := by decide +kernel
theorem dX1_addLetter_31 : decode cX1_addLetter 31 = .ok (.iload_n 2, 1) := by decide +kernel
theorem dX1_addLetter_32 : decode cX1_addLetter 32 = .ok (.bipush 8, 2) := by decide +kernel
theorem dX1_addLetter_34 : decode cX1_addLetter 34 = .ok (.imul, 1) := by decide +kernel
theorem dX1_addLetter_35 : decode cX1_addLetter 35 = .ok (.iload_n 3, 1) := by decide +kernel
theorem dX1_addLetter_36 : decode cX1_addLetter 36 = .ok (.iadd, 1) := by decide +kernel
theorem dX1_addLetter_37 : decode cX1_addLetter 37 = .ok (.iload_n 1, 1) := by decide +kernel
theorem dX1_addLetter_38 : decode cX1_addLetter 38 = .ok (.invokestatic 26, 3) := by decide +kernel
theorem dX1_addLetter_41 : decode cX1_addLetter 41 = .ok (.aload_n 0, 1) := by decide +kernel
theorem dX1_addLetter_42 : decode cX1_addLetter 42 = .ok (.getfield 15, 3) := by decide +kernel
theorem dX1_addLetter_45 : decode cX1_addLetter 45 = .ok (.iload_n 2, 1) := by decide +kernel
theorem dX1_addLetter_46 : decode cX1_addLetter 46 = .ok (.iload_n 3, 1) := by decide +kernel
theorem dX1_addLetter_47 : decode cX1_addLetter 47 = .ok (.iconst 1, 1) := by decide +kernel
theorem dX1_addLetter_48 : decode cX1_addLetter 48 = .ok (.iadd, 1) := by decide +kernel
theorem dX1_addLetter_49 : decode cX1_addLetter 49 = .ok (.invokestatic 26, 3) := by decide +kernel
theorem dX1_addLetter_52 : decode cX1_addLetter 52 = .ok (.return_, 1) := by decide +kernel
theorem dX1_letter_0 : decode cX1_letter 0 = .ok (.aload_n 0, 1) := by decide +kernel
theorem dX1_letter_1 : decode cX1_letter 1 = .ok (.getfield 15, 3) := by decide +kernel
theorem dX1_letter_4 : decode cX1_letter 4 = .ok (.iload_n 1, 1) := by decide +kernel
theorem dX1_letter_5 : decode cX1_letter 5 = .ok (.invokestatic 32, 3) := by decide +kernel
theorem dX1_letter_8 : decode cX1_letter 8 = .ok (.istore_n 3, 1) := by decide +kernel
theorem dX1_letter_9 : decode cX1_letter 9 = .ok (.iload_n 3, 1) := by decide +kernel
theorem dX1_letter_10 : decode cX1_letter 10 = .ok (.ifCond .le 25, 3) := by decide +kernel
theorem dX1_letter_13 : decode cX1_letter 13 = .ok (.iload_n 2, 1) := by decide +kernel
theorem dX1_letter_14 : decode cX1_letter 14 = .ok (.ifCond .lt 21, 3) := by decide +kernel
theorem dX1_letter_17 : decode cX1_letter 17 = .ok (.aload_n 0, 1) := by decide +kernel
theorem dX1_letter_18 : decode cX1_letter 18 = .ok (.getfield 9, 3) := by decide +kernel
theorem dX1_letter_21 : decode cX1_letter 21 = .ok (.iload_n 1, 1) := by decide +kernel
theorem dX1_letter_22 : decode cX1_letter 22 = .ok (.bipush 8, 2) := by decide +kernel
theorem dX1_letter_24 : decode cX1_letter 24 = .ok (.imul, 1) := by decide +kernel
theorem dX1_letter_25 : decode cX1_letter 25 = .ok (.iload_n 2, 1) := by decide +kernel
theorem dX1_letter_26 : decode cX1_letter 26 = .ok (.iload_n 3, 1) := by decide +kernel
theorem dX1_letter_27 : decode cX1_letter 27 = .ok (.irem, 1) := by decide +kernel
theorem dX1_letter_28 : decode cX1_letter 28 = .ok (.iadd, 1) := by decide +kernel
theorem dX1_letter_29 : decode cX1_letter 29 = .ok (.invokestatic 32, 3) := by decide +kernel
theorem dX1_letter_32 : decode cX1_letter 32 = .ok (.goto 4, 3) := by decide +kernel
theorem dX1_letter_35 : decode cX1_letter 35 = .ok (.iconst 0, 1) := by decide +kernel
theorem dX1_letter_36 : decode cX1_letter 36 = .ok (.ireturn, 1) := by decide +kernel
theorem dX1_ahead_0 : decode cX1_ahead 0 = .ok (.iload_n 2, 1) := by decide +kernel
theorem dX1_ahead_1 : decode cX1_ahead 1 = .ok (.iconst 1, 1) := by decide +kernel
theorem dX1_ahead_2 : decode cX1_ahead 2 = .ok (.isub, 1) := by decide +kernel
theorem dX1_ahead_3 : decode cX1_ahead 3 = .ok (.istore_n 3, 1) := by decide +kernel
theorem dX1_ahead_4 : decode cX1_ahead 4 = .ok (.iload_n 3, 1) := by decide +kernel
theorem dX1_ahead_5 : decode cX1_ahead 5 = .ok (.ifCond .lt 26, 3) := by decide +kernel
theorem dX1_ahead_8 : decode cX1_ahead 8 = .ok (.aload_n 0, 1) := by decide +kernel
theorem dX1_ahead_9 : decode cX1_ahead 9 = .ok (.iload_n 1, 1) := by decide +kernel
theorem dX1_ahead_10 : decode cX1_ahead 10 = .ok (.iload_n 3, 1) := by decide +kernel
theorem dX1_ahead_11 : decode cX1_ahead 11 = .ok (.invokevirtual 36, 3) := by decide +kernel
theorem dX1_ahead_14 : decode cX1_ahead 14 = .ok (.aload_n 0, 1) := by decide +kernel
theorem dX1_ahead_15 : decode cX1_ahead 15 = .ok (.iload_n 1, 1) := by decide +kernel
theorem dX1_ahead_16 : decode cX1_ahead 16 = .ok (.iload_n 2, 1) := by decide +kernel
theorem dX1_ahead_17 : decode cX1_ahead 17 = .ok (.invokevirtual 36, 3) := by decide +kernel
theorem dX1_ahead_20 : decode cX1_ahead 20 = .ok (.if_icmp .ne 5, 3) := by decide +kernel
theorem dX1_ahead_23 : decode cX1_ahead 23 = .ok (.iload_n 3, 1) := by decide +kernel
theorem dX1_ahead_24 : decode cX1_ahead 24 = .ok (.ireturn, 1) := by decide +kernel
theorem dX1_ahead_25 : decode cX1_ahead 25 = .ok (.iinc 3 (-1), 3) := by decide +kernel
theorem dX1_ahead_28 : decode cX1_ahead 28 = .ok (.goto (-24), 3) := by decide +kernel
theorem dX1_ahead_31 : decode cX1_ahead 31 = .ok (.iconst (-1), 1) := by decide +kernel
theorem dX1_ahead_32 : decode cX1_ahead 32 = .ok (.ireturn, 1) := by decide +kernel
theorem dX1_behind_0 : decode cX1_behind 0 = .ok (.iload_n 2, 1) := by decide +kernel
theorem dX1_behind_1 : decode cX1_behind 1 = .ok (.iconst 1, 1) := by decide +kernel
theorem dX1_behind_2 : decode cX1_behind 2 = .ok (.iadd, 1) := by decide +kernel
theorem dX1_behind_3 : decode cX1_behind 3 = .ok (.istore 4, 2) := by decide +kernel
theorem dX1_behind_5 : decode cX1_behind 5 = .ok (.iload 4, 2) := by decide +kernel
theorem dX1_behind_7 : decode cX1_behind 7 = .ok (.iload_n 3, 1) := by decide +kernel
theorem dX1_behind_8 : decode cX1_behind 8 = .ok (.if_icmp .ge 28, 3) := by decide +kernel
theorem dX1_behind_11 : decode cX1_behind 11 = .ok (.aload_n 0, 1) := by decide +kernel
theorem dX1_behind_12 : decode cX1_behind 12 = .ok (.iload_n 1, 1) := by decide +kernel
theorem dX1_behind_13 : decode cX1_behind 13 = .ok (.iload 4, 2) := by decide +kernel
theorem dX1_behind_15 : decode cX1_behind 15 = .ok (.invokevirtual 36, 3) := by decide +kernel
theorem dX1_behind_18 : decode cX1_behind 18 = .ok (.aload_n 0, 1) := by decide +kernel
theorem dX1_behind_19 : decode cX1_behind 19 = .ok (.iload_n 1, 1) := by decide +kernel
theorem dX1_behind_20 : decode cX1_behind 20 = .ok (.iload_n 2, 1) := by decide +kernel
theorem dX1_behind_21 : decode cX1_behind 21 = .ok (.invokevirtual 36, 3) := by decide +kernel
theorem dX1_behind_24 : decode cX1_behind 24 = .ok (.if_icmp .ne 6, 3) := by decide +kernel
theorem dX1_behind_27 : decode cX1_behind 27 = .ok (.iload 4, 2) := by decide +kernel
theorem dX1_behind_29 : decode cX1_behind 29 = .ok (.ireturn, 1) := by decide +kernel
theorem dX1_behind_30 : decode cX1_behind 30 = .ok (.iinc 4 1, 3) := by decide +kernel
theorem dX1_behind_33 : decode cX1_behind 33 = .ok (.goto (-28), 3) := by decide +kernel
theorem dX1_behind_36 : decode cX1_behind 36 = .ok (.iconst (-1), 1) := by decide +kernel
theorem dX1_behind_37 : decode cX1_behind 37 = .ok (.ireturn, 1) := by decide +kernel
theorem dX1_pairs_0 : decode cX1_pairs 0 = .ok (.iconst 0, 1) := by decide +kernel
theorem dX1_pairs_1 : decode cX1_pairs 1 = .ok (.istore_n 3, 1) := by decide +kernel
theorem dX1_pairs_2 : decode cX1_pairs 2 = .ok (.iload_n 3, 1) := by decide +kernel
theorem dX1_pairs_3 : decode cX1_pairs 3 = .ok (.iload_n 2, 1) := by decide +kernel
theorem dX1_pairs_4 : decode cX1_pairs 4 = .ok (.if_icmp .ge 30, 3) := by decide +kernel
theorem dX1_pairs_7 : decode cX1_pairs 7 = .ok (.aload_n 0, 1) := by decide +kernel
theorem dX1_pairs_8 : decode cX1_pairs 8 = .ok (.iload_n 1, 1) := by decide +kernel
theorem dX1_pairs_9 : decode cX1_pairs 9 = .ok (.iload_n 3, 1) := by decide +kernel
theorem dX1_pairs_10 : decode cX1_pairs 10 = .ok (.invokevirtual 40, 3) := by decide +kernel
theorem dX1_pairs_13 : decode cX1_pairs 13 = .ok (.ifCond .ge 15, 3) := by decide +kernel
theorem dX1_pairs_16 : decode cX1_pairs 16 = .ok (.aload_n 0, 1) := by decide +kernel
theorem dX1_pairs_17 : decode cX1_pairs 17 = .ok (.iload_n 1, 1) := by decide +kernel
theorem dX1_pairs_18 : decode cX1_pairs 18 = .ok (.iload_n 3, 1) := by decide +kernel
theorem dX1_pairs_19 : decode cX1_pairs 19 = .ok (.iload_n 2, 1) := by decide +kernel
theorem dX1_pairs_20 : decode cX1_pairs 20 = .ok (.invokevirtual 43, 3) := by decide +kernel
theorem dX1_pairs_23 : decode cX1_pairs 23 = .ok (.ifCond .ge 5, 3) := by decide +kernel
theorem dX1_pairs_26 : decode cX1_pairs 26 = .ok (.iconst 0, 1) := by decide +kernel
theorem dX1_pairs_27 : decode cX1_pairs 27 = .ok (.ireturn, 1) := by decide +kernel
theorem dX1_pairs_28 : decode cX1_pairs 28 = .ok (.iinc 3 1, 3) := by decide +kernel
theorem dX1_pairs_31 : decode cX1_pairs 31 = .ok (.goto (-29), 3) := by decide +kernel
theorem dX1_pairs_34 : decode cX1_pairs 34 = .ok (.iload_n 2, 1) := by decide +kernel
theorem dX1_pairs_35 : decode cX1_pairs 35 = .ok (.ifCond .le 7, 3) := by decide +kernel
theorem dX1_pairs_38 : decode cX1_pairs 38 = .ok (.iconst 1, 1) := by decide +kernel
theorem dX1_pairs_39 : decode cX1_pairs 39 = .ok (.goto 4, 3) := by decide +kernel
theorem dX1_pairs_42 : decode cX1_pairs 42 = .ok (.iconst 0, 1) := by decide +kernel
theorem dX1_pairs_43 : decode cX1_pairs 43 = .ok (.ireturn, 1) := by decide +kernel
theorem dX2_init_0 : decode cX2_init 0 = .ok (.aload_n 0, 1) := by decide +kernel
theorem dX2_init_1 : decode cX2_init 1 = .ok (.invokespecial 3, 3) := by decide +kernel
theorem dX2_init_4 : decode cX2_init 4 = .ok (.aload_n 0, 1) := by decide +kernel
theorem dX2_init_5 : decode cX2_init 5 = .ok (.sipush 128, 3) := by decide +kernel
theorem dX2_init_8 : decode cX2_init 8 = .ok (.newarray .long, 2) := by decide +kernel
theorem dX2_init_10 : decode cX2_init 10 = .ok (.putfield 9, 3) := by decide +kernel
theorem dX2_init_13 : decode cX2_init 13 = .ok (.aload_n 0, 1) := by decide +kernel
theorem dX2_init_14 : decode cX2_init 14 = .ok (.bipush 8, 2) := by decide +kernel
theorem dX2_init_16 : decode cX2_init 16 = .ok (.newarray .int, 2) := by decide +kernel
theorem dX2_init_18 : decode cX2_init 18 = .ok (.putfield 15, 3) := by decide +kernel
theorem dX2_init_21 : decode cX2_init 21 = .ok (.return_, 1) := by decide +kernel
theorem dX2_waysOf_0 : decode cX2_waysOf 0 = .ok (.aload_n 1, 1) := by decide +kernel
theorem dX2_waysOf_1 : decode cX2_waysOf 1 = .ok (.getfield 19, 3) := by decide +kernel
theorem dX2_waysOf_4 : decode cX2_waysOf 4 = .ok (.invokevirtual 25, 3) := by decide +kernel
theorem dX2_waysOf_7 : decode cX2_waysOf 7 = .ok (.istore 5, 2) := by decide +kernel
theorem dX2_waysOf_9 : decode cX2_waysOf 9 = .ok (.aload_n 1, 1) := by decide +kernel
theorem dX2_waysOf_10 : decode cX2_waysOf 10 = .ok (.getfield 31, 3) := by decide +kernel
theorem dX2_waysOf_13 : decode cX2_waysOf 13 = .ok (.iload_n 2, 1) := by decide +kernel
theorem dX2_waysOf_14 : decode cX2_waysOf 14 = .ok (.iload 5, 2) := by decide +kernel
theorem dX2_waysOf_16 : decode cX2_waysOf 16 = .ok (.invokevirtual 35, 3) := by decide +kernel
theorem dX2_waysOf_19 : decode cX2_waysOf 19 = .ok (.ifCond .ne 5, 3) := by decide +kernel
theorem dX2_waysOf_22 : decode cX2_waysOf 22 = .ok (.lconst 0, 1) := by decide +kernel
theorem dX2_waysOf_23 : decode cX2_waysOf 23 = .ok (.lreturn, 1) := by decide +kernel
theorem dX2_waysOf_24 : decode cX2_waysOf 24 = .ok (.lconst 1, 1) := by decide +kernel
theorem dX2_waysOf_25 : decode cX2_waysOf 25 = .ok (.lstore 6, 2) := by decide +kernel
theorem dX2_waysOf_27 : decode cX2_waysOf 27 = .ok (.iload 5, 2) := by decide +kernel
theorem dX2_waysOf_29 : decode cX2_waysOf 29 = .ok (.iconst 1, 1) := by decide +kernel
theorem dX2_waysOf_30 : decode cX2_waysOf 30 = .ok (.isub, 1) := by decide +kernel
theorem dX2_waysOf_31 : decode cX2_waysOf 31 = .ok (.istore 8, 2) := by decide +kernel
theorem dX2_waysOf_33 : decode cX2_waysOf 33 = .ok (.iload 8, 2) := by decide +kernel
theorem dX2_waysOf_35 : decode cX2_waysOf 35 = .ok (.ifCond .lt 63, 3) := by decide +kernel
theorem dX2_waysOf_38 : decode cX2_waysOf 38 = .ok (.aload_n 0, 1) := by decide +kernel
theorem dX2_waysOf_39 : decode cX2_waysOf 39 = .ok (.aload_n 1, 1) := by decide +kernel
theorem dX2_waysOf_40 : decode cX2_waysOf 40 = .ok (.iload_n 2, 1) := by decide +kernel
theorem dX2_waysOf_41 : decode cX2_waysOf 41 = .ok (.iload_n 3, 1) := by decide +kernel
theorem dX2_waysOf_42 : decode cX2_waysOf 42 = .ok (.iload 8, 2) := by decide +kernel
theorem dX2_waysOf_44 : decode cX2_waysOf 44 = .ok (.iload 4, 2) := by decide +kernel
theorem dX2_waysOf_46 : decode cX2_waysOf 46 = .ok (.iload 8, 2) := by decide +kernel
theorem dX2_waysOf_48 : decode cX2_waysOf 48 = .ok (.ishr, 1) := by decide +kernel
theorem dX2_waysOf_49 : decode cX2_waysOf 49 = .ok (.iconst 1, 1) := by decide +kernel
theorem dX2_waysOf_50 : decode cX2_waysOf 50 = .ok (.iand, 1) := by decide +kernel
theorem dX2_waysOf_51 : decode cX2_waysOf 51 = .ok (.ifCond .eq 7, 3) := by decide +kernel
theorem dX2_waysOf_54 : decode cX2_waysOf 54 = .ok (.iconst 1, 1) := by decide +kernel
theorem dX2_waysOf_55 : decode cX2_waysOf 55 = .ok (.goto 4, 3) := by decide +kernel
theorem dX2_waysOf_58 : decode cX2_waysOf 58 = .ok (.iconst 0, 1) := by decide +kernel
theorem dX2_waysOf_59 : decode cX2_waysOf 59 = .ok (.invokevirtual 41, 3) := by decide +kernel
theorem dX2_waysOf_62 : decode cX2_waysOf 62 = .ok (.aload_n 1, 1) := by decide +kernel
theorem dX2_waysOf_63 : decode cX2_waysOf 63 = .ok (.getfield 31, 3) := by decide +kernel
theorem dX2_waysOf_66 : decode cX2_waysOf 66 = .ok (.iload_n 2, 1) := by decide +kernel
theorem dX2_waysOf_67 : decode cX2_waysOf 67 = .ok (.iload 8, 2) := by decide +kernel
theorem dX2_waysOf_69 : decode cX2_waysOf 69 = .ok (.invokevirtual 45, 3) := by decide +kernel
theorem dX2_waysOf_72 : decode cX2_waysOf 72 = .ok (.ifCond .ge 20, 3) := by decide +kernel
theorem dX2_waysOf_75 : decode cX2_waysOf 75 = .ok (.lload 6, 2) := by decide +kernel
theorem dX2_waysOf_77 : decode cX2_waysOf 77 = .ok (.aload_n 0, 1) := by decide +kernel
theorem dX2_waysOf_78 : decode cX2_waysOf 78 = .ok (.aload_n 1, 1) := by decide +kernel
theorem dX2_waysOf_79 : decode cX2_waysOf 79 = .ok (.getfield 49, 3) := by decide +kernel
theorem dX2_waysOf_82 : decode cX2_waysOf 82 = .ok (.iload_n 3, 1) := by decide +kernel
theorem dX2_waysOf_83 : decode cX2_waysOf 83 = .ok (.iload 8, 2) := by decide +kernel
theorem dX2_waysOf_85 : decode cX2_waysOf 85 = .ok (.iconst (-1), 1) := by decide +kernel
theorem dX2_waysOf_86 : decode cX2_waysOf 86 = .ok (.invokevirtual 53, 3) := by decide +kernel
theorem dX2_waysOf_89 : decode cX2_waysOf 89 = .ok (.lmul, 1) := by decide +kernel
theorem dX2_waysOf_90 : decode cX2_waysOf 90 = .ok (.lstore 6, 2) := by decide +kernel
theorem dX2_waysOf_92 : decode cX2_waysOf 92 = .ok (.iinc 8 (-1), 3) := by decide +kernel
theorem dX2_waysOf_95 : decode cX2_waysOf 95 = .ok (.goto (-62), 3) := by decide +kernel
theorem dX2_waysOf_98 : decode cX2_waysOf 98 = .ok (.lload 6, 2) := by decide +kernel
theorem dX2_waysOf_100 : decode cX2_waysOf 100 = .ok (.lreturn, 1) := by decide +kernel
theorem dX2_wordsOf_0 : decode cX2_wordsOf 0 = .ok (.iconst 0, 1) := by decide +kernel
theorem dX2_wordsOf_1 : decode cX2_wordsOf 1 = .ok (.istore 5, 2) := by decide +kernel
theorem dX2_wordsOf_3 : decode cX2_wordsOf 3 = .ok (.iload 5, 2) := by decide +kernel
theorem dX2_wordsOf_5 : decode cX2_wordsOf 5 = .ok (.iload 4, 2) := by decide +kernel
theorem dX2_wordsOf_7 : decode cX2_wordsOf 7 = .ok (.if_icmp .gt 99, 3) := by decide +kernel
theorem dX2_wordsOf_10 : decode cX2_wordsOf 10 = .ok (.aload_n 1, 1) := by decide +kernel
theorem dX2_wordsOf_11 : decode cX2_wordsOf 11 = .ok (.getfield 31, 3) := by decide +kernel
theorem dX2_wordsOf_14 : decode cX2_wordsOf 14 = .ok (.iload_n 2, 1) := by decide +kernel
theorem dX2_wordsOf_15 : decode cX2_wordsOf 15 = .ok (.iload 5, 2) := by decide +kernel
theorem dX2_wordsOf_17 : decode cX2_wordsOf 17 = .ok (.invokevirtual 45, 3) := by decide +kernel
theorem dX2_wordsOf_20 : decode cX2_wordsOf 20 = .ok (.istore 6, 2) := by decide +kernel
theorem dX2_wordsOf_22 : decode cX2_wordsOf 22 = .ok (.iconst 0, 1) := by decide +kernel
theorem dX2_wordsOf_23 : decode cX2_wordsOf 23 = .ok (.istore 7, 2) := by decide +kernel
theorem dX2_wordsOf_25 : decode cX2_wordsOf 25 = .ok (.iconst 0, 1) := by decide +kernel
theorem dX2_wordsOf_26 : decode cX2_wordsOf 26 = .ok (.istore 8, 2) := by decide +kernel
theorem dX2_wordsOf_28 : decode cX2_wordsOf 28 = .ok (.iload 8, 2) := by decide +kernel
theorem dX2_wordsOf_30 : decode cX2_wordsOf 30 = .ok (.aload_n 1, 1) := by decide +kernel
theorem dX2_wordsOf_31 : decode cX2_wordsOf 31 = .ok (.getfield 49, 3) := by decide +kernel
theorem dX2_wordsOf_34 : decode cX2_wordsOf 34 = .ok (.invokevirtual 57, 3) := by decide +kernel
theorem dX2_wordsOf_37 : decode cX2_wordsOf 37 = .ok (.if_icmp .ge 52, 3) := by decide +kernel
theorem dX2_wordsOf_40 : decode cX2_wordsOf 40 = .ok (.aload_n 0, 1) := by decide +kernel
theorem dX2_wordsOf_41 : decode cX2_wordsOf 41 = .ok (.iload 5, 2) := by decide +kernel
theorem dX2_wordsOf_43 : decode cX2_wordsOf 43 = .ok (.iload 8, 2) := by decide +kernel
theorem dX2_wordsOf_45 : decode cX2_wordsOf 45 = .ok (.invokevirtual 60, 3) := by decide +kernel
theorem dX2_wordsOf_48 : decode cX2_wordsOf 48 = .ok (.lconst 0, 1) := by decide +kernel
theorem dX2_wordsOf_49 : decode cX2_wordsOf 49 = .ok (.lcmp, 1) := by decide +kernel
theorem dX2_wordsOf_50 : decode cX2_wordsOf 50 = .ok (.ifCond .le 33, 3) := by decide +kernel
theorem dX2_wordsOf_53 : decode cX2_wordsOf 53 = .ok (.iload 6, 2) := by decide +kernel
theorem dX2_wordsOf_55 : decode cX2_wordsOf 55 = .ok (.ifCond .lt 19, 3) := by decide +kernel
theorem dX2_wordsOf_58 : decode cX2_wordsOf 58 = .ok (.aload_n 0, 1) := by decide +kernel
theorem dX2_wordsOf_59 : decode cX2_wordsOf 59 = .ok (.aload_n 1, 1) := by decide +kernel
theorem dX2_wordsOf_60 : decode cX2_wordsOf 60 = .ok (.getfield 49, 3) := by decide +kernel
theorem dX2_wordsOf_63 : decode cX2_wordsOf 63 = .ok (.iload_n 3, 1) := by decide +kernel
theorem dX2_wordsOf_64 : decode cX2_wordsOf 64 = .ok (.iload 6, 2) := by decide +kernel
theorem dX2_wordsOf_66 : decode cX2_wordsOf 66 = .ok (.iload 8, 2) := by decide +kernel
theorem dX2_wordsOf_68 : decode cX2_wordsOf 68 = .ok (.invokevirtual 64, 3) := by decide +kernel
theorem dX2_wordsOf_71 : decode cX2_wordsOf 71 = .ok (.ifCond .eq 12, 3) := by decide +kernel
theorem dX2_wordsOf_74 : decode cX2_wordsOf 74 = .ok (.iload 7, 2) := by decide +kernel
theorem dX2_wordsOf_76 : decode cX2_wordsOf 76 = .ok (.iconst 1, 1) := by decide +kernel
theorem dX2_wordsOf_77 : decode cX2_wordsOf 77 = .ok (.iload 8, 2) := by decide +kernel
theorem dX2_wordsOf_79 : decode cX2_wordsOf 79 = .ok (.ishl, 1) := by decide +kernel
theorem dX2_wordsOf_80 : decode cX2_wordsOf 80 = .ok (.ior, 1) := by decide +kernel
theorem dX2_wordsOf_81 : decode cX2_wordsOf 81 = .ok (.istore 7, 2) := by decide +kernel
theorem dX2_wordsOf_83 : decode cX2_wordsOf 83 = .ok (.iinc 8 1, 3) := by decide +kernel
theorem dX2_wordsOf_86 : decode cX2_wordsOf 86 = .ok (.goto (-58), 3) := by decide +kernel
theorem dX2_wordsOf_89 : decode cX2_wordsOf 89 = .ok (.aload_n 0, 1) := by decide +kernel
theorem dX2_wordsOf_90 : decode cX2_wordsOf 90 = .ok (.getfield 15, 3) := by decide +kernel
theorem dX2_wordsOf_93 : decode cX2_wordsOf 93 = .ok (.iload 5, 2) := by decide +kernel
theorem dX2_wordsOf_95 : decode cX2_wordsOf 95 = .ok (.iload 7, 2) := by decide +kernel
theorem dX2_wordsOf_97 : decode cX2_wordsOf 97 = .ok (.invokestatic 68, 3) := by decide +kernel
theorem dX2_wordsOf_100 : decode cX2_wordsOf 100 = .ok (.iinc 5 1, 3) := by decide +kernel
theorem dX2_wordsOf_103 : decode cX2_wordsOf 103 = .ok (.goto (-100), 3) := by decide +kernel
theorem dX2_wordsOf_106 : decode cX2_wordsOf 106 = .ok (.aload_n 0, 1) := by decide +kernel
theorem dX2_wordsOf_107 : decode cX2_wordsOf 107 = .ok (.getfield 15, 3) := by decide +kernel
theorem dX2_wordsOf_110 : decode cX2_wordsOf 110 = .ok (.iload 4, 2) := by decide +kernel
theorem dX2_wordsOf_112 : decode cX2_wordsOf 112 = .ok (.invokestatic 74, 3) := by decide +kernel
theorem dX2_wordsOf_115 : decode cX2_wordsOf 115 = .ok (.invokestatic 78, 3) := by decide +kernel
theorem dX2_wordsOf_118 : decode cX2_wordsOf 118 = .ok (.ireturn, 1) := by decide +kernel
theorem dX2_weigh_0 : decode cX2_weigh 0 = .ok (.aload_n 1, 1) := by decide +kernel
theorem dX2_weigh_1 : decode cX2_weigh 1 = .ok (.getfield 31, 3) := by decide +kernel
theorem dX2_weigh_4 : decode cX2_weigh 4 = .ok (.iload_n 2, 1) := by decide +kernel
theorem dX2_weigh_5 : decode cX2_weigh 5 = .ok (.iload 4, 2) := by decide +kernel
theorem dX2_weigh_7 : decode cX2_weigh 7 = .ok (.aload_n 1, 1) := by decide +kernel
theorem dX2_weigh_8 : decode cX2_weigh 8 = .ok (.getfield 19, 3) := by decide +kernel
theorem dX2_weigh_11 : decode cX2_weigh 11 = .ok (.invokevirtual 25, 3) := by decide +kernel
theorem dX2_weigh_14 : decode cX2_weigh 14 = .ok (.invokevirtual 84, 3) := by decide +kernel
theorem dX2_weigh_17 : decode cX2_weigh 17 = .ok (.istore 6, 2) := by decide +kernel
theorem dX2_weigh_19 : decode cX2_weigh 19 = .ok (.aload_n 1, 1) := by decide +kernel
theorem dX2_weigh_20 : decode cX2_weigh 20 = .ok (.getfield 31, 3) := by decide +kernel
theorem dX2_weigh_23 : decode cX2_weigh 23 = .ok (.iload_n 2, 1) := by decide +kernel
theorem dX2_weigh_24 : decode cX2_weigh 24 = .ok (.iload 4, 2) := by decide +kernel
theorem dX2_weigh_26 : decode cX2_weigh 26 = .ok (.invokevirtual 88, 3) := by decide +kernel
theorem dX2_weigh_29 : decode cX2_weigh 29 = .ok (.istore 7, 2) := by decide +kernel
theorem dX2_weigh_31 : decode cX2_weigh 31 = .ok (.iconst 0, 1) := by decide +kernel
theorem dX2_weigh_32 : decode cX2_weigh 32 = .ok (.istore 8, 2) := by decide +kernel
theorem dX2_weigh_34 : decode cX2_weigh 34 = .ok (.iload 8, 2) := by decide +kernel
theorem dX2_weigh_36 : decode cX2_weigh 36 = .ok (.aload_n 1, 1) := by decide +kernel
theorem dX2_weigh_37 : decode cX2_weigh 37 = .ok (.getfield 49, 3) := by decide +kernel
theorem dX2_weigh_40 : decode cX2_weigh 40 = .ok (.invokevirtual 57, 3) := by decide +kernel
theorem dX2_weigh_43 : decode cX2_weigh 43 = .ok (.if_icmp .ge 85, 3) := by decide +kernel
theorem dX2_weigh_46 : decode cX2_weigh 46 = .ok (.lconst 0, 1) := by decide +kernel
theorem dX2_weigh_47 : decode cX2_weigh 47 = .ok (.lstore 9, 2) := by decide +kernel
theorem dX2_weigh_49 : decode cX2_weigh 49 = .ok (.iload 5, 2) := by decide +kernel
theorem dX2_weigh_51 : decode cX2_weigh 51 = .ok (.ifCond .ne 17, 3) := by decide +kernel
theorem dX2_weigh_54 : decode cX2_weigh 54 = .ok (.iload 8, 2) := by decide +kernel
theorem dX2_weigh_56 : decode cX2_weigh 56 = .ok (.aload_n 1, 1) := by decide +kernel
theorem dX2_weigh_57 : decode cX2_weigh 57 = .ok (.getfield 19, 3) := by decide +kernel
theorem dX2_weigh_60 : decode cX2_weigh 60 = .ok (.iload 4, 2) := by decide +kernel
theorem dX2_weigh_62 : decode cX2_weigh 62 = .ok (.invokevirtual 91, 3) := by decide +kernel
theorem dX2_weigh_65 : decode cX2_weigh 65 = .ok (.if_icmp .ne 47, 3) := by decide +kernel
theorem dX2_weigh_68 : decode cX2_weigh 68 = .ok (.aload_n 1, 1) := by decide +kernel
theorem dX2_weigh_69 : decode cX2_weigh 69 = .ok (.iload 7, 2) := by decide +kernel
theorem dX2_weigh_71 : decode cX2_weigh 71 = .ok (.iload 8, 2) := by decide +kernel
theorem dX2_weigh_73 : decode cX2_weigh 73 = .ok (.aload_n 1, 1) := by decide +kernel
theorem dX2_weigh_74 : decode cX2_weigh 74 = .ok (.getfield 19, 3) := by decide +kernel
theorem dX2_weigh_77 : decode cX2_weigh 77 = .ok (.iload 4, 2) := by decide +kernel
theorem dX2_weigh_79 : decode cX2_weigh 79 = .ok (.invokevirtual 94, 3) := by decide +kernel
theorem dX2_weigh_82 : decode cX2_weigh 82 = .ok (.invokevirtual 97, 3) := by decide +kernel
theorem dX2_weigh_85 : decode cX2_weigh 85 = .ok (.ifCond .eq 27, 3) := by decide +kernel
theorem dX2_weigh_88 : decode cX2_weigh 88 = .ok (.iload 6, 2) := by decide +kernel
theorem dX2_weigh_90 : decode cX2_weigh 90 = .ok (.ifCond .ge 7, 3) := by decide +kernel
theorem dX2_weigh_93 : decode cX2_weigh 93 = .ok (.lconst 1, 1) := by decide +kernel
theorem dX2_weigh_94 : decode cX2_weigh 94 = .ok (.goto 16, 3) := by decide +kernel
theorem dX2_weigh_97 : decode cX2_weigh 97 = .ok (.aload_n 0, 1) := by decide +kernel
theorem dX2_weigh_98 : decode cX2_weigh 98 = .ok (.aload_n 1, 1) := by decide +kernel
theorem dX2_weigh_99 : decode cX2_weigh 99 = .ok (.getfield 49, 3) := by decide +kernel
theorem dX2_weigh_102 : decode cX2_weigh 102 = .ok (.iload_n 3, 1) := by decide +kernel
theorem dX2_weigh_103 : decode cX2_weigh 103 = .ok (.iload 6, 2) := by decide +kernel
theorem dX2_weigh_105 : decode cX2_weigh 105 = .ok (.iload 8, 2) := by decide +kernel
theorem dX2_weigh_107 : decode cX2_weigh 107 = .ok (.invokevirtual 53, 3) := by decide +kernel
theorem dX2_weigh_110 : decode cX2_weigh 110 = .ok (.lstore 9, 2) := by decide +kernel
theorem dX2_weigh_112 : decode cX2_weigh 112 = .ok (.aload_n 0, 1) := by decide +kernel
theorem dX2_weigh_113 : decode cX2_weigh 113 = .ok (.iload 4, 2) := by decide +kernel
theorem dX2_weigh_115 : decode cX2_weigh 115 = .ok (.iload 8, 2) := by decide +kernel
theorem dX2_weigh_117 : decode cX2_weigh 117 = .ok (.lload 9, 2) := by decide +kernel
theorem dX2_weigh_119 : decode cX2_weigh 119 = .ok (.invokevirtual 101, 3) := by decide +kernel
theorem dX2_weigh_122 : decode cX2_weigh 122 = .ok (.iinc 8 1, 3) := by decide +kernel
theorem dX2_weigh_125 : decode cX2_weigh 125 = .ok (.goto (-91), 3) := by decide +kernel
theorem dX2_weigh_128 : decode cX2_weigh 128 = .ok (.return_, 1) := by decide +kernel
theorem dX2_sum_0 : decode cX2_sum 0 = .ok (.lconst 0, 1) := by decide +kernel
theorem dX2_sum_1 : decode cX2_sum 1 = .ok (.lstore 5, 2) := by decide +kernel
theorem dX2_sum_3 : decode cX2_sum 3 = .ok (.iconst 0, 1) := by decide +kernel
theorem dX2_sum_4 : decode cX2_sum 4 = .ok (.istore 7, 2) := by decide +kernel
theorem dX2_sum_6 : decode cX2_sum 6 = .ok (.iload 7, 2) := by decide +kernel
theorem dX2_sum_8 : decode cX2_sum 8 = .ok (.aload_n 1, 1) := by decide +kernel
theorem dX2_sum_9 : decode cX2_sum 9 = .ok (.invokevirtual 57, 3) := by decide +kernel
theorem dX2_sum_12 : decode cX2_sum 12 = .ok (.if_icmp .ge 38, 3) := by decide +kernel
theorem dX2_sum_15 : decode cX2_sum 15 = .ok (.iload 4, 2) := by decide +kernel
theorem dX2_sum_17 : decode cX2_sum 17 = .ok (.ifCond .lt 15, 3) := by decide +kernel
theorem dX2_sum_20 : decode cX2_sum 20 = .ok (.aload_n 1, 1) := by decide +kernel
theorem dX2_sum_21 : decode cX2_sum 21 = .ok (.iload_n 2, 1) := by decide +kernel
theorem dX2_sum_22 : decode cX2_sum 22 = .ok (.iload 4, 2) := by decide +kernel
theorem dX2_sum_24 : decode cX2_sum 24 = .ok (.iload 7, 2) := by decide +kernel
theorem dX2_sum_26 : decode cX2_sum 26 = .ok (.invokevirtual 105, 3) := by decide +kernel
theorem dX2_sum_29 : decode cX2_sum 29 = .ok (.ifCond .eq 15, 3) := by decide +kernel
theorem dX2_sum_32 : decode cX2_sum 32 = .ok (.lload 5, 2) := by decide +kernel
theorem dX2_sum_34 : decode cX2_sum 34 = .ok (.aload_n 0, 1) := by decide +kernel
theorem dX2_sum_35 : decode cX2_sum 35 = .ok (.iload_n 3, 1) := by decide +kernel
theorem dX2_sum_36 : decode cX2_sum 36 = .ok (.iload 7, 2) := by decide +kernel
theorem dX2_sum_38 : decode cX2_sum 38 = .ok (.invokevirtual 60, 3) := by decide +kernel
theorem dX2_sum_41 : decode cX2_sum 41 = .ok (.ladd, 1) := by decide +kernel
theorem dX2_sum_42 : decode cX2_sum 42 = .ok (.lstore 5, 2) := by decide +kernel
theorem dX2_sum_44 : decode cX2_sum 44 = .ok (.iinc 7 1, 3) := by decide +kernel
theorem dX2_sum_47 : decode cX2_sum 47 = .ok (.goto (-41), 3) := by decide +kernel
theorem dX2_sum_50 : decode cX2_sum 50 = .ok (.lload 5, 2) := by decide +kernel
theorem dX2_sum_52 : decode cX2_sum 52 = .ok (.lreturn, 1) := by decide +kernel
theorem dX2_isReached_0 : decode cX2_isReached 0 = .ok (.aload_n 0, 1) := by decide +kernel
theorem dX2_isReached_1 : decode cX2_isReached 1 = .ok (.getfield 15, 3) := by decide +kernel
theorem dX2_isReached_4 : decode cX2_isReached 4 = .ok (.iload_n 3, 1) := by decide +kernel
theorem dX2_isReached_5 : decode cX2_isReached 5 = .ok (.invokestatic 74, 3) := by decide +kernel
theorem dX2_isReached_8 : decode cX2_isReached 8 = .ok (.istore 5, 2) := by decide +kernel
theorem dX2_isReached_10 : decode cX2_isReached 10 = .ok (.iconst 0, 1) := by decide +kernel
theorem dX2_isReached_11 : decode cX2_isReached 11 = .ok (.istore 6, 2) := by decide +kernel
theorem dX2_isReached_13 : decode cX2_isReached 13 = .ok (.iload 6, 2) := by decide +kernel
theorem dX2_isReached_15 : decode cX2_isReached 15 = .ok (.aload_n 1, 1) := by decide +kernel
theorem dX2_isReached_16 : decode cX2_isReached 16 = .ok (.invokevirtual 57, 3) := by decide +kernel
theorem dX2_isReached_19 : decode cX2_isReached 19 = .ok (.if_icmp .ge 33, 3) := by decide +kernel
theorem dX2_isReached_22 : decode cX2_isReached 22 = .ok (.iload 5, 2) := by decide +kernel
theorem dX2_isReached_24 : decode cX2_isReached 24 = .ok (.iload 6, 2) := by decide +kernel
theorem dX2_isReached_26 : decode cX2_isReached 26 = .ok (.ishr, 1) := by decide +kernel
theorem dX2_isReached_27 : decode cX2_isReached 27 = .ok (.iconst 1, 1) := by decide +kernel
theorem dX2_isReached_28 : decode cX2_isReached 28 = .ok (.iand, 1) := by decide +kernel
theorem dX2_isReached_29 : decode cX2_isReached 29 = .ok (.ifCond .eq 17, 3) := by decide +kernel
theorem dX2_isReached_32 : decode cX2_isReached 32 = .ok (.aload_n 1, 1) := by decide +kernel
theorem dX2_isReached_33 : decode cX2_isReached 33 = .ok (.iload_n 2, 1) := by decide +kernel
theorem dX2_isReached_34 : decode cX2_isReached 34 = .ok (.iload 6, 2) := by decide +kernel
theorem dX2_isReached_36 : decode cX2_isReached 36 = .ok (.iload 4, 2) := by decide +kernel
theorem dX2_isReached_38 : decode cX2_isReached 38 = .ok (.invokevirtual 105, 3) := by decide +kernel
theorem dX2_isReached_41 : decode cX2_isReached 41 = .ok (.ifCond .eq 5, 3) := by decide +kernel
theorem dX2_isReached_44 : decode cX2_isReached 44 = .ok (.iconst 1, 1) := by decide +kernel
theorem dX2_isReached_45 : decode cX2_isReached 45 = .ok (.ireturn, 1) := by decide +kernel
theorem dX2_isReached_46 : decode cX2_isReached 46 = .ok (.iinc 6 1, 3) := by decide +kernel
theorem dX2_isReached_49 : decode cX2_isReached 49 = .ok (.goto (-36), 3) := by decide +kernel
theorem dX2_isReached_52 : decode cX2_isReached 52 = .ok (.iconst 0, 1) := by decide +kernel
theorem dX2_isReached_53 : decode cX2_isReached 53 = .ok (.ireturn, 1) := by decide +kernel
theorem dX2_waysAt_0 : decode cX2_waysAt 0 = .ok (.iload_n 1, 1) := by decide +kernel
theorem dX2_waysAt_1 : decode cX2_waysAt 1 = .ok (.bipush 16, 2) := by decide +kernel
theorem dX2_waysAt_3 : decode cX2_waysAt 3 = .ok (.imul, 1) := by decide +kernel
theorem dX2_waysAt_4 : decode cX2_waysAt 4 = .ok (.iload_n 2, 1) := by decide +kernel
theorem dX2_waysAt_5 : decode cX2_waysAt 5 = .ok (.iadd, 1) := by decide +kernel
theorem dX2_waysAt_6 : decode cX2_waysAt 6 = .ok (.istore_n 3, 1) := by decide +kernel
theorem dX2_waysAt_7 : decode cX2_waysAt 7 = .ok (.iload_n 3, 1) := by decide +kernel
theorem dX2_waysAt_8 : decode cX2_waysAt 8 = .ok (.ifCond .lt 21, 3) := by decide +kernel
theorem dX2_waysAt_11 : decode cX2_waysAt 11 = .ok (.iload_n 3, 1) := by decide +kernel
theorem dX2_waysAt_12 : decode cX2_waysAt 12 = .ok (.aload_n 0, 1) := by decide +kernel
theorem dX2_waysAt_13 : decode cX2_waysAt 13 = .ok (.getfield 9, 3) := by decide +kernel
theorem dX2_waysAt_16 : decode cX2_waysAt 16 = .ok (.arraylength, 1) := by decide +kernel
theorem dX2_waysAt_17 : decode cX2_waysAt 17 = .ok (.if_icmp .ge 12, 3) := by decide +kernel
theorem dX2_waysAt_20 : decode cX2_waysAt 20 = .ok (.aload_n 0, 1) := by decide +kernel
theorem dX2_waysAt_21 : decode cX2_waysAt 21 = .ok (.getfield 9, 3) := by decide +kernel
theorem dX2_waysAt_24 : decode cX2_waysAt 24 = .ok (.iload_n 3, 1) := by decide +kernel
theorem dX2_waysAt_25 : decode cX2_waysAt 25 = .ok (.laload, 1) := by decide +kernel
theorem dX2_waysAt_26 : decode cX2_waysAt 26 = .ok (.goto 4, 3) := by decide +kernel
theorem dX2_waysAt_29 : decode cX2_waysAt 29 = .ok (.lconst 0, 1) := by decide +kernel
theorem dX2_waysAt_30 : decode cX2_waysAt 30 = .ok (.lreturn, 1) := by decide +kernel
theorem dX2_setWays_0 : decode cX2_setWays 0 = .ok (.iload_n 1, 1) := by decide +kernel
theorem dX2_setWays_1 : decode cX2_setWays 1 = .ok (.bipush 16, 2) := by decide +kernel
theorem dX2_setWays_3 : decode cX2_setWays 3 = .ok (.imul, 1) := by decide +kernel
theorem dX2_setWays_4 : decode cX2_setWays 4 = .ok (.iload_n 2, 1) := by decide +kernel
theorem dX2_setWays_5 : decode cX2_setWays 5 = .ok (.iadd, 1) := by decide +kernel
theorem dX2_setWays_6 : decode cX2_setWays 6 = .ok (.istore 5, 2) := by decide +kernel
theorem dX2_setWays_8 : decode cX2_setWays 8 = .ok (.iload 5, 2) := by decide +kernel
theorem dX2_setWays_10 : decode cX2_setWays 10 = .ok (.ifCond .lt 21, 3) := by decide +kernel
theorem dX2_setWays_13 : decode cX2_setWays 13 = .ok (.iload 5, 2) := by decide +kernel
theorem dX2_setWays_15 : decode cX2_setWays 15 = .ok (.aload_n 0, 1) := by decide +kernel
theorem dX2_setWays_16 : decode cX2_setWays 16 = .ok (.getfield 9, 3) := by decide +kernel
theorem dX2_setWays_19 : decode cX2_setWays 19 = .ok (.arraylength, 1) := by decide +kernel
theorem dX2_setWays_20 : decode cX2_setWays 20 = .ok (.if_icmp .ge 11, 3) := by decide +kernel
theorem dX2_setWays_23 : decode cX2_setWays 23 = .ok (.aload_n 0, 1) := by decide +kernel
theorem dX2_setWays_24 : decode cX2_setWays 24 = .ok (.getfield 9, 3) := by decide +kernel
theorem dX2_setWays_27 : decode cX2_setWays 27 = .ok (.iload 5, 2) := by decide +kernel
theorem dX2_setWays_29 : decode cX2_setWays 29 = .ok (.lload_n 3, 1) := by decide +kernel
theorem dX2_setWays_30 : decode cX2_setWays 30 = .ok (.lastore, 1) := by decide +kernel
theorem dX2_setWays_31 : decode cX2_setWays 31 = .ok (.return_, 1) := by decide +kernel
theorem dX3_init_0 : decode cX3_init 0 = .ok (.aload_n 0, 1) := by decide +kernel
theorem dX3_init_1 : decode cX3_init 1 = .ok (.invokespecial 3, 3) := by decide +kernel
theorem dX3_init_4 : decode cX3_init 4 = .ok (.aload_n 0, 1) := by decide +kernel
theorem dX3_init_5 : decode cX3_init 5 = .ok (.sipush 128, 3) := by decide +kernel
theorem dX3_init_8 : decode cX3_init 8 = .ok (.newarray .int, 2) := by decide +kernel
theorem dX3_init_10 : decode cX3_init 10 = .ok (.putfield 9, 3) := by decide +kernel
theorem dX3_init_13 : decode cX3_init 13 = .ok (.aload_n 0, 1) := by decide +kernel
theorem dX3_init_14 : decode cX3_init 14 = .ok (.bipush 8, 2) := by decide +kernel
theorem dX3_init_16 : decode cX3_init 16 = .ok (.newarray .int, 2) := by decide +kernel
theorem dX3_init_18 : decode cX3_init 18 = .ok (.putfield 15, 3) := by decide +kernel
theorem dX3_init_21 : decode cX3_init 21 = .ok (.return_, 1) := by decide +kernel
theorem dX3_mend_0 : decode cX3_mend 0 = .ok (.aload_n 1, 1) := by decide +kernel
theorem dX3_mend_1 : decode cX3_mend 1 = .ok (.getfield 18, 3) := by decide +kernel
theorem dX3_mend_4 : decode cX3_mend 4 = .ok (.invokevirtual 24, 3) := by decide +kernel
theorem dX3_mend_7 : decode cX3_mend 7 = .ok (.istore 4, 2) := by decide +kernel
theorem dX3_mend_9 : decode cX3_mend 9 = .ok (.aload_n 1, 1) := by decide +kernel
theorem dX3_mend_10 : decode cX3_mend 10 = .ok (.getfield 30, 3) := by decide +kernel
theorem dX3_mend_13 : decode cX3_mend 13 = .ok (.iload_n 2, 1) := by decide +kernel
theorem dX3_mend_14 : decode cX3_mend 14 = .ok (.iload 4, 2) := by decide +kernel
theorem dX3_mend_16 : decode cX3_mend 16 = .ok (.invokevirtual 34, 3) := by decide +kernel
theorem dX3_mend_19 : decode cX3_mend 19 = .ok (.ifCond .ne 6, 3) := by decide +kernel
theorem dX3_mend_22 : decode cX3_mend 22 = .ok (.bipush (-9), 2) := by decide +kernel
theorem dX3_mend_24 : decode cX3_mend 24 = .ok (.ireturn, 1) := by decide +kernel
theorem dX3_mend_25 : decode cX3_mend 25 = .ok (.iload 4, 2) := by decide +kernel
theorem dX3_mend_27 : decode cX3_mend 27 = .ok (.iconst 1, 1) := by decide +kernel
theorem dX3_mend_28 : decode cX3_mend 28 = .ok (.isub, 1) := by decide +kernel
theorem dX3_mend_29 : decode cX3_mend 29 = .ok (.istore 5, 2) := by decide +kernel
theorem dX3_mend_31 : decode cX3_mend 31 = .ok (.iload 5, 2) := by decide +kernel
theorem dX3_mend_33 : decode cX3_mend 33 = .ok (.ifCond .lt 18, 3) := by decide +kernel
theorem dX3_mend_36 : decode cX3_mend 36 = .ok (.aload_n 0, 1) := by decide +kernel
theorem dX3_mend_37 : decode cX3_mend 37 = .ok (.aload_n 1, 1) := by decide +kernel
theorem dX3_mend_38 : decode cX3_mend 38 = .ok (.iload_n 2, 1) := by decide +kernel
theorem dX3_mend_39 : decode cX3_mend 39 = .ok (.iload_n 3, 1) := by decide +kernel
theorem dX3_mend_40 : decode cX3_mend 40 = .ok (.iload 5, 2) := by decide +kernel
theorem dX3_mend_42 : decode cX3_mend 42 = .ok (.invokevirtual 40, 3) := by decide +kernel
theorem dX3_mend_45 : decode cX3_mend 45 = .ok (.iinc 5 (-1), 3) := by decide +kernel
theorem dX3_mend_48 : decode cX3_mend 48 = .ok (.goto (-17), 3) := by decide +kernel
theorem dX3_mend_51 : decode cX3_mend 51 = .ok (.iconst 0, 1) := by decide +kernel
theorem dX3_mend_52 : decode cX3_mend 52 = .ok (.istore 5, 2) := by decide +kernel
theorem dX3_mend_54 : decode cX3_mend 54 = .ok (.iconst 0, 1) := by decide +kernel
theorem dX3_mend_55 : decode cX3_mend 55 = .ok (.istore 6, 2) := by decide +kernel
theorem dX3_mend_57 : decode cX3_mend 57 = .ok (.iload 6, 2) := by decide +kernel
theorem dX3_mend_59 : decode cX3_mend 59 = .ok (.iload 4, 2) := by decide +kernel
theorem dX3_mend_61 : decode cX3_mend 61 = .ok (.if_icmp .ge 92, 3) := by decide +kernel
theorem dX3_mend_64 : decode cX3_mend 64 = .ok (.aload_n 1, 1) := by decide +kernel
theorem dX3_mend_65 : decode cX3_mend 65 = .ok (.getfield 30, 3) := by decide +kernel
theorem dX3_mend_68 : decode cX3_mend 68 = .ok (.iload_n 2, 1) := by decide +kernel
theorem dX3_mend_69 : decode cX3_mend 69 = .ok (.iload 6, 2) := by decide +kernel
theorem dX3_mend_71 : decode cX3_mend 71 = .ok (.invokevirtual 44, 3) := by decide +kernel
theorem dX3_mend_74 : decode cX3_mend 74 = .ok (.istore 7, 2) := by decide +kernel
theorem dX3_mend_76 : decode cX3_mend 76 = .ok (.aload_n 0, 1) := by decide +kernel
theorem dX3_mend_77 : decode cX3_mend 77 = .ok (.aload_n 1, 1) := by decide +kernel
theorem dX3_mend_78 : decode cX3_mend 78 = .ok (.getfield 48, 3) := by decide +kernel
theorem dX3_mend_81 : decode cX3_mend 81 = .ok (.iload_n 3, 1) := by decide +kernel
theorem dX3_mend_82 : decode cX3_mend 82 = .ok (.iload 6, 2) := by decide +kernel
theorem dX3_mend_84 : decode cX3_mend 84 = .ok (.iload 7, 2) := by decide +kernel
theorem dX3_mend_86 : decode cX3_mend 86 = .ok (.ifCond .ge 7, 3) := by decide +kernel
theorem dX3_mend_89 : decode cX3_mend 89 = .ok (.iconst (-1), 1) := by decide +kernel
theorem dX3_mend_90 : decode cX3_mend 90 = .ok (.goto 9, 3) := by decide +kernel
theorem dX3_mend_93 : decode cX3_mend 93 = .ok (.aload_n 0, 1) := by decide +kernel
theorem dX3_mend_94 : decode cX3_mend 94 = .ok (.iload 7, 2) := by decide +kernel
theorem dX3_mend_96 : decode cX3_mend 96 = .ok (.invokevirtual 52, 3) := by decide +kernel
theorem dX3_mend_99 : decode cX3_mend 99 = .ok (.invokevirtual 56, 3) := by decide +kernel
theorem dX3_mend_102 : decode cX3_mend 102 = .ok (.istore 8, 2) := by decide +kernel
theorem dX3_mend_104 : decode cX3_mend 104 = .ok (.iload 8, 2) := by decide +kernel
theorem dX3_mend_106 : decode cX3_mend 106 = .ok (.ifCond .ge 6, 3) := by decide +kernel
theorem dX3_mend_109 : decode cX3_mend 109 = .ok (.bipush (-9), 2) := by decide +kernel
theorem dX3_mend_111 : decode cX3_mend 111 = .ok (.ireturn, 1) := by decide +kernel
theorem dX3_mend_112 : decode cX3_mend 112 = .ok (.aload_n 0, 1) := by decide +kernel
theorem dX3_mend_113 : decode cX3_mend 113 = .ok (.getfield 15, 3) := by decide +kernel
theorem dX3_mend_116 : decode cX3_mend 116 = .ok (.iload 6, 2) := by decide +kernel
theorem dX3_mend_118 : decode cX3_mend 118 = .ok (.iload 8, 2) := by decide +kernel
theorem dX3_mend_120 : decode cX3_mend 120 = .ok (.invokestatic 60, 3) := by decide +kernel
theorem dX3_mend_123 : decode cX3_mend 123 = .ok (.iload 5, 2) := by decide +kernel
theorem dX3_mend_125 : decode cX3_mend 125 = .ok (.iload 8, 2) := by decide +kernel
theorem dX3_mend_127 : decode cX3_mend 127 = .ok (.aload_n 1, 1) := by decide +kernel
theorem dX3_mend_128 : decode cX3_mend 128 = .ok (.getfield 18, 3) := by decide +kernel
theorem dX3_mend_131 : decode cX3_mend 131 = .ok (.iload 6, 2) := by decide +kernel
theorem dX3_mend_133 : decode cX3_mend 133 = .ok (.invokevirtual 66, 3) := by decide +kernel
theorem dX3_mend_136 : decode cX3_mend 136 = .ok (.if_icmp .ne 7, 3) := by decide +kernel
theorem dX3_mend_139 : decode cX3_mend 139 = .ok (.iconst 0, 1) := by decide +kernel
theorem dX3_mend_140 : decode cX3_mend 140 = .ok (.goto 4, 3) := by decide +kernel
theorem dX3_mend_143 : decode cX3_mend 143 = .ok (.iconst 1, 1) := by decide +kernel
theorem dX3_mend_144 : decode cX3_mend 144 = .ok (.iadd, 1) := by decide +kernel
theorem dX3_mend_145 : decode cX3_mend 145 = .ok (.istore 5, 2) := by decide +kernel
theorem dX3_mend_147 : decode cX3_mend 147 = .ok (.iinc 6 1, 3) := by decide +kernel
theorem dX3_mend_150 : decode cX3_mend 150 = .ok (.goto (-93), 3) := by decide +kernel
theorem dX3_mend_153 : decode cX3_mend 153 = .ok (.iload 5, 2) := by decide +kernel
theorem dX3_mend_155 : decode cX3_mend 155 = .ok (.ireturn, 1) := by decide +kernel
theorem dX3_wordAt_0 : decode cX3_wordAt 0 = .ok (.aload_n 0, 1) := by decide +kernel
theorem dX3_wordAt_1 : decode cX3_wordAt 1 = .ok (.getfield 15, 3) := by decide +kernel
theorem dX3_wordAt_4 : decode cX3_wordAt 4 = .ok (.iload_n 1, 1) := by decide +kernel
theorem dX3_wordAt_5 : decode cX3_wordAt 5 = .ok (.invokestatic 67, 3) := by decide +kernel
theorem dX3_wordAt_8 : decode cX3_wordAt 8 = .ok (.ireturn, 1) := by decide +kernel
theorem dX3_weigh_0 : decode cX3_weigh 0 = .ok (.aload_n 1, 1) := by decide +kernel
theorem dX3_weigh_1 : decode cX3_weigh 1 = .ok (.getfield 30, 3) := by decide +kernel
theorem dX3_weigh_4 : decode cX3_weigh 4 = .ok (.iload_n 2, 1) := by decide +kernel
theorem dX3_weigh_5 : decode cX3_weigh 5 = .ok (.iload 4, 2) := by decide +kernel
theorem dX3_weigh_7 : decode cX3_weigh 7 = .ok (.aload_n 1, 1) := by decide +kernel
theorem dX3_weigh_8 : decode cX3_weigh 8 = .ok (.getfield 18, 3) := by decide +kernel
theorem dX3_weigh_11 : decode cX3_weigh 11 = .ok (.invokevirtual 24, 3) := by decide +kernel
theorem dX3_weigh_14 : decode cX3_weigh 14 = .ok (.invokevirtual 71, 3) := by decide +kernel
theorem dX3_weigh_17 : decode cX3_weigh 17 = .ok (.istore 5, 2) := by decide +kernel
theorem dX3_weigh_19 : decode cX3_weigh 19 = .ok (.iconst 0, 1) := by decide +kernel
theorem dX3_weigh_20 : decode cX3_weigh 20 = .ok (.istore 6, 2) := by decide +kernel
theorem dX3_weigh_22 : decode cX3_weigh 22 = .ok (.iload 6, 2) := by decide +kernel
theorem dX3_weigh_24 : decode cX3_weigh 24 = .ok (.aload_n 1, 1) := by decide +kernel
theorem dX3_weigh_25 : decode cX3_weigh 25 = .ok (.getfield 48, 3) := by decide +kernel
theorem dX3_weigh_28 : decode cX3_weigh 28 = .ok (.invokevirtual 75, 3) := by decide +kernel
theorem dX3_weigh_31 : decode cX3_weigh 31 = .ok (.if_icmp .ge 127, 3) := by decide +kernel
theorem dX3_weigh_34 : decode cX3_weigh 34 = .ok (.sipush 1000, 3) := by decide +kernel
theorem dX3_weigh_37 : decode cX3_weigh 37 = .ok (.istore 7, 2) := by decide +kernel
theorem dX3_weigh_39 : decode cX3_weigh 39 = .ok (.aload_n 1, 1) := by decide +kernel
theorem dX3_weigh_40 : decode cX3_weigh 40 = .ok (.iload_n 2, 1) := by decide +kernel
theorem dX3_weigh_41 : decode cX3_weigh 41 = .ok (.iload 4, 2) := by decide +kernel
theorem dX3_weigh_43 : decode cX3_weigh 43 = .ok (.iload 6, 2) := by decide +kernel
theorem dX3_weigh_45 : decode cX3_weigh 45 = .ok (.invokestatic 78, 3) := by decide +kernel
theorem dX3_weigh_48 : decode cX3_weigh 48 = .ok (.ifCond .eq 81, 3) := by decide +kernel
theorem dX3_weigh_51 : decode cX3_weigh 51 = .ok (.iload 5, 2) := by decide +kernel
theorem dX3_weigh_53 : decode cX3_weigh 53 = .ok (.ifCond .ge 7, 3) := by decide +kernel
theorem dX3_weigh_56 : decode cX3_weigh 56 = .ok (.iconst (-1), 1) := by decide +kernel
theorem dX3_weigh_57 : decode cX3_weigh 57 = .ok (.goto 16, 3) := by decide +kernel
theorem dX3_weigh_60 : decode cX3_weigh 60 = .ok (.aload_n 0, 1) := by decide +kernel
theorem dX3_weigh_61 : decode cX3_weigh 61 = .ok (.aload_n 1, 1) := by decide +kernel
theorem dX3_weigh_62 : decode cX3_weigh 62 = .ok (.getfield 48, 3) := by decide +kernel
theorem dX3_weigh_65 : decode cX3_weigh 65 = .ok (.iload_n 3, 1) := by decide +kernel
theorem dX3_weigh_66 : decode cX3_weigh 66 = .ok (.iload 5, 2) := by decide +kernel
theorem dX3_weigh_68 : decode cX3_weigh 68 = .ok (.iload 6, 2) := by decide +kernel
theorem dX3_weigh_70 : decode cX3_weigh 70 = .ok (.invokevirtual 56, 3) := by decide +kernel
theorem dX3_weigh_73 : decode cX3_weigh 73 = .ok (.istore 8, 2) := by decide +kernel
theorem dX3_weigh_75 : decode cX3_weigh 75 = .ok (.iload 5, 2) := by decide +kernel
theorem dX3_weigh_77 : decode cX3_weigh 77 = .ok (.ifCond .ge 7, 3) := by decide +kernel
theorem dX3_weigh_80 : decode cX3_weigh 80 = .ok (.iconst 0, 1) := by decide +kernel
theorem dX3_weigh_81 : decode cX3_weigh 81 = .ok (.goto 22, 3) := by decide +kernel
theorem dX3_weigh_84 : decode cX3_weigh 84 = .ok (.iload 8, 2) := by decide +kernel
theorem dX3_weigh_86 : decode cX3_weigh 86 = .ok (.ifCond .ge 9, 3) := by decide +kernel
theorem dX3_weigh_89 : decode cX3_weigh 89 = .ok (.sipush 1000, 3) := by decide +kernel
theorem dX3_weigh_92 : decode cX3_weigh 92 = .ok (.goto 11, 3) := by decide +kernel
theorem dX3_weigh_95 : decode cX3_weigh 95 = .ok (.aload_n 0, 1) := by decide +kernel
theorem dX3_weigh_96 : decode cX3_weigh 96 = .ok (.iload 5, 2) := by decide +kernel
theorem dX3_weigh_98 : decode cX3_weigh 98 = .ok (.iload 8, 2) := by decide +kernel
theorem dX3_weigh_100 : decode cX3_weigh 100 = .ok (.invokevirtual 82, 3) := by decide +kernel
theorem dX3_weigh_103 : decode cX3_weigh 103 = .ok (.istore 9, 2) := by decide +kernel
theorem dX3_weigh_105 : decode cX3_weigh 105 = .ok (.iload 9, 2) := by decide +kernel
theorem dX3_weigh_107 : decode cX3_weigh 107 = .ok (.iload 6, 2) := by decide +kernel
theorem dX3_weigh_109 : decode cX3_weigh 109 = .ok (.aload_n 1, 1) := by decide +kernel
theorem dX3_weigh_110 : decode cX3_weigh 110 = .ok (.getfield 18, 3) := by decide +kernel
theorem dX3_weigh_113 : decode cX3_weigh 113 = .ok (.iload 4, 2) := by decide +kernel
theorem dX3_weigh_115 : decode cX3_weigh 115 = .ok (.invokevirtual 66, 3) := by decide +kernel
theorem dX3_weigh_118 : decode cX3_weigh 118 = .ok (.if_icmp .ne 7, 3) := by decide +kernel
theorem dX3_weigh_121 : decode cX3_weigh 121 = .ok (.iconst 0, 1) := by decide +kernel
theorem dX3_weigh_122 : decode cX3_weigh 122 = .ok (.goto 4, 3) := by decide +kernel
theorem dX3_weigh_125 : decode cX3_weigh 125 = .ok (.iconst 1, 1) := by decide +kernel
theorem dX3_weigh_126 : decode cX3_weigh 126 = .ok (.iadd, 1) := by decide +kernel
theorem dX3_weigh_127 : decode cX3_weigh 127 = .ok (.istore 7, 2) := by decide +kernel
theorem dX3_weigh_129 : decode cX3_weigh 129 = .ok (.aload_n 0, 1) := by decide +kernel
theorem dX3_weigh_130 : decode cX3_weigh 130 = .ok (.getfield 9, 3) := by decide +kernel
theorem dX3_weigh_133 : decode cX3_weigh 133 = .ok (.iload 4, 2) := by decide +kernel
theorem dX3_weigh_135 : decode cX3_weigh 135 = .ok (.bipush 16, 2) := by decide +kernel
theorem dX3_weigh_137 : decode cX3_weigh 137 = .ok (.imul, 1) := by decide +kernel
theorem dX3_weigh_138 : decode cX3_weigh 138 = .ok (.iload 6, 2) := by decide +kernel
theorem dX3_weigh_140 : decode cX3_weigh 140 = .ok (.iadd, 1) := by decide +kernel
theorem dX3_weigh_141 : decode cX3_weigh 141 = .ok (.iload 7, 2) := by decide +kernel
theorem dX3_weigh_143 : decode cX3_weigh 143 = .ok (.sipush 1000, 3) := by decide +kernel
theorem dX3_weigh_146 : decode cX3_weigh 146 = .ok (.invokestatic 85, 3) := by decide +kernel
theorem dX3_weigh_149 : decode cX3_weigh 149 = .ok (.invokestatic 60, 3) := by decide +kernel
theorem dX3_weigh_152 : decode cX3_weigh 152 = .ok (.iinc 6 1, 3) := by decide +kernel
theorem dX3_weigh_155 : decode cX3_weigh 155 = .ok (.goto (-133), 3) := by decide +kernel
theorem dX3_weigh_158 : decode cX3_weigh 158 = .ok (.return_, 1) := by decide +kernel
theorem dX3_mayBecome_0 : decode cX3_mayBecome 0 = .ok (.aload_n 0, 1) := by decide +kernel
theorem dX3_mayBecome_1 : decode cX3_mayBecome 1 = .ok (.getfield 48, 3) := by decide +kernel
theorem dX3_mayBecome_4 : decode cX3_mayBecome 4 = .ok (.iload_n 3, 1) := by decide +kernel
theorem dX3_mayBecome_5 : decode cX3_mayBecome 5 = .ok (.invokevirtual 90, 3) := by decide +kernel
theorem dX3_mayBecome_8 : decode cX3_mayBecome 8 = .ok (.aload_n 0, 1) := by decide +kernel
theorem dX3_mayBecome_9 : decode cX3_mayBecome 9 = .ok (.getfield 48, 3) := by decide +kernel
theorem dX3_mayBecome_12 : decode cX3_mayBecome 12 = .ok (.aload_n 0, 1) := by decide +kernel
theorem dX3_mayBecome_13 : decode cX3_mayBecome 13 = .ok (.getfield 18, 3) := by decide +kernel
theorem dX3_mayBecome_16 : decode cX3_mayBecome 16 = .ok (.iload_n 2, 1) := by decide +kernel
theorem dX3_mayBecome_17 : decode cX3_mayBecome 17 = .ok (.invokevirtual 66, 3) := by decide +kernel
theorem dX3_mayBecome_20 : decode cX3_mayBecome 20 = .ok (.invokevirtual 90, 3) := by decide +kernel
theorem dX3_mayBecome_23 : decode cX3_mayBecome 23 = .ok (.if_icmp .ne 32, 3) := by decide +kernel
theorem dX3_mayBecome_26 : decode cX3_mayBecome 26 = .ok (.aload_n 0, 1) := by decide +kernel
theorem dX3_mayBecome_27 : decode cX3_mayBecome 27 = .ok (.aload_n 0, 1) := by decide +kernel
theorem dX3_mayBecome_28 : decode cX3_mayBecome 28 = .ok (.getfield 30, 3) := by decide +kernel
theorem dX3_mayBecome_31 : decode cX3_mayBecome 31 = .ok (.iload_n 1, 1) := by decide +kernel
theorem dX3_mayBecome_32 : decode cX3_mayBecome 32 = .ok (.iload_n 2, 1) := by decide +kernel
theorem dX3_mayBecome_33 : decode cX3_mayBecome 33 = .ok (.invokevirtual 93, 3) := by decide +kernel
theorem dX3_mayBecome_36 : decode cX3_mayBecome 36 = .ok (.iload_n 3, 1) := by decide +kernel
theorem dX3_mayBecome_37 : decode cX3_mayBecome 37 = .ok (.aload_n 0, 1) := by decide +kernel
theorem dX3_mayBecome_38 : decode cX3_mayBecome 38 = .ok (.getfield 18, 3) := by decide +kernel
theorem dX3_mayBecome_41 : decode cX3_mayBecome 41 = .ok (.iload_n 2, 1) := by decide +kernel
theorem dX3_mayBecome_42 : decode cX3_mayBecome 42 = .ok (.invokevirtual 96, 3) := by decide +kernel
theorem dX3_mayBecome_45 : decode cX3_mayBecome 45 = .ok (.invokevirtual 99, 3) := by decide +kernel
theorem dX3_mayBecome_48 : decode cX3_mayBecome 48 = .ok (.ifCond .eq 7, 3) := by decide +kernel
theorem dX3_mayBecome_51 : decode cX3_mayBecome 51 = .ok (.iconst 1, 1) := by decide +kernel
theorem dX3_mayBecome_52 : decode cX3_mayBecome 52 = .ok (.goto 4, 3) := by decide +kernel
theorem dX3_mayBecome_55 : decode cX3_mayBecome 55 = .ok (.iconst 0, 1) := by decide +kernel
theorem dX3_mayBecome_56 : decode cX3_mayBecome 56 = .ok (.ireturn, 1) := by decide +kernel
theorem dX3_costAt_0 : decode cX3_costAt 0 = .ok (.aload_n 0, 1) := by decide +kernel
theorem dX3_costAt_1 : decode cX3_costAt 1 = .ok (.getfield 9, 3) := by decide +kernel
theorem dX3_costAt_4 : decode cX3_costAt 4 = .ok (.iload_n 1, 1) := by decide +kernel
theorem dX3_costAt_5 : decode cX3_costAt 5 = .ok (.bipush 16, 2) := by decide +kernel
theorem dX3_costAt_7 : decode cX3_costAt 7 = .ok (.imul, 1) := by decide +kernel
theorem dX3_costAt_8 : decode cX3_costAt 8 = .ok (.iload_n 2, 1) := by decide +kernel
theorem dX3_costAt_9 : decode cX3_costAt 9 = .ok (.iadd, 1) := by decide +kernel
theorem dX3_costAt_10 : decode cX3_costAt 10 = .ok (.invokestatic 67, 3) := by decide +kernel
theorem dX3_costAt_13 : decode cX3_costAt 13 = .ok (.ireturn, 1) := by decide +kernel
theorem dX3_best_0 : decode cX3_best 0 = .ok (.iconst (-1), 1) := by decide +kernel
theorem dX3_best_1 : decode cX3_best 1 = .ok (.istore 5, 2) := by decide +kernel
theorem dX3_best_3 : decode cX3_best 3 = .ok (.sipush 1000, 3) := by decide +kernel
theorem dX3_best_6 : decode cX3_best 6 = .ok (.istore 6, 2) := by decide +kernel
theorem dX3_best_8 : decode cX3_best 8 = .ok (.iconst 0, 1) := by decide +kernel
theorem dX3_best_9 : decode cX3_best 9 = .ok (.istore 7, 2) := by decide +kernel
theorem dX3_best_11 : decode cX3_best 11 = .ok (.iload 7, 2) := by decide +kernel
theorem dX3_best_13 : decode cX3_best 13 = .ok (.aload_n 1, 1) := by decide +kernel
theorem dX3_best_14 : decode cX3_best 14 = .ok (.invokevirtual 75, 3) := by decide +kernel
theorem dX3_best_17 : decode cX3_best 17 = .ok (.if_icmp .ge 51, 3) := by decide +kernel
theorem dX3_best_20 : decode cX3_best 20 = .ok (.aload_n 0, 1) := by decide +kernel
theorem dX3_best_21 : decode cX3_best 21 = .ok (.iload_n 3, 1) := by decide +kernel
theorem dX3_best_22 : decode cX3_best 22 = .ok (.iload 7, 2) := by decide +kernel
theorem dX3_best_24 : decode cX3_best 24 = .ok (.invokevirtual 82, 3) := by decide +kernel
theorem dX3_best_27 : decode cX3_best 27 = .ok (.iload 6, 2) := by decide +kernel
theorem dX3_best_29 : decode cX3_best 29 = .ok (.if_icmp .ge 33, 3) := by decide +kernel
theorem dX3_best_32 : decode cX3_best 32 = .ok (.iload 4, 2) := by decide +kernel
theorem dX3_best_34 : decode cX3_best 34 = .ok (.ifCond .lt 15, 3) := by decide +kernel
theorem dX3_best_37 : decode cX3_best 37 = .ok (.aload_n 1, 1) := by decide +kernel
theorem dX3_best_38 : decode cX3_best 38 = .ok (.iload_n 2, 1) := by decide +kernel
theorem dX3_best_39 : decode cX3_best 39 = .ok (.iload 4, 2) := by decide +kernel
theorem dX3_best_41 : decode cX3_best 41 = .ok (.iload 7, 2) := by decide +kernel
theorem dX3_best_43 : decode cX3_best 43 = .ok (.invokevirtual 103, 3) := by decide +kernel
theorem dX3_best_46 : decode cX3_best 46 = .ok (.ifCond .eq 16, 3) := by decide +kernel
theorem dX3_best_49 : decode cX3_best 49 = .ok (.aload_n 0, 1) := by decide +kernel
theorem dX3_best_50 : decode cX3_best 50 = .ok (.iload_n 3, 1) := by decide +kernel
theorem dX3_best_51 : decode cX3_best 51 = .ok (.iload 7, 2) := by decide +kernel
theorem dX3_best_53 : decode cX3_best 53 = .ok (.invokevirtual 82, 3) := by decide +kernel
theorem dX3_best_56 : decode cX3_best 56 = .ok (.istore 6, 2) := by decide +kernel
theorem dX3_best_58 : decode cX3_best 58 = .ok (.iload 7, 2) := by decide +kernel
theorem dX3_best_60 : decode cX3_best 60 = .ok (.istore 5, 2) := by decide +kernel
theorem dX3_best_62 : decode cX3_best 62 = .ok (.iinc 7 1, 3) := by decide +kernel
theorem dX3_best_65 : decode cX3_best 65 = .ok (.goto (-54), 3) := by decide +kernel
theorem dX3_best_68 : decode cX3_best 68 = .ok (.iload 5, 2) := by decide +kernel
theorem dX3_best_70 : decode cX3_best 70 = .ok (.ireturn, 1) := by decide +kernel
theorem dX4_init_0 : decode cX4_init 0 = .ok (.aload_n 0, 1) := by decide +kernel
theorem dX4_init_1 : decode cX4_init 1 = .ok (.invokespecial 3, 3) := by decide +kernel
theorem dX4_init_4 : decode cX4_init 4 = .ok (.aload_n 0, 1) := by decide +kernel
theorem dX4_init_5 : decode cX4_init 5 = .ok (.bipush 8, 2) := by decide +kernel
theorem dX4_init_7 : decode cX4_init 7 = .ok (.newarray .int, 2) := by decide +kernel
theorem dX4_init_9 : decode cX4_init 9 = .ok (.putfield 9, 3) := by decide +kernel
theorem dX4_init_12 : decode cX4_init 12 = .ok (.aload_n 0, 1) := by decide +kernel
theorem dX4_init_13 : decode cX4_init 13 = .ok (.bipush 8, 2) := by decide +kernel
theorem dX4_init_15 : decode cX4_init 15 = .ok (.newarray .int, 2) := by decide +kernel
theorem dX4_init_17 : decode cX4_init 17 = .ok (.putfield 15, 3) := by decide +kernel
theorem dX4_init_20 : decode cX4_init 20 = .ok (.aload_n 0, 1) := by decide +kernel
theorem dX4_init_21 : decode cX4_init 21 = .ok (.bipush 8, 2) := by decide +kernel
theorem dX4_init_23 : decode cX4_init 23 = .ok (.newarray .int, 2) := by decide +kernel
theorem dX4_init_25 : decode cX4_init 25 = .ok (.putfield 18, 3) := by decide +kernel
theorem dX4_init_28 : decode cX4_init 28 = .ok (.aload_n 0, 1) := by decide +kernel
theorem dX4_init_29 : decode cX4_init 29 = .ok (.iload_n 1, 1) := by decide +kernel
theorem dX4_init_30 : decode cX4_init 30 = .ok (.bipush 8, 2) := by decide +kernel
theorem dX4_init_32 : decode cX4_init 32 = .ok (.invokestatic 21, 3) := by decide +kernel
theorem dX4_init_35 : decode cX4_init 35 = .ok (.putfield 27, 3) := by decide +kernel
theorem dX4_init_38 : decode cX4_init 38 = .ok (.return_, 1) := by decide +kernel
theorem dX4_size_0 : decode cX4_size 0 = .ok (.aload_n 0, 1) := by decide +kernel
theorem dX4_size_1 : decode cX4_size 1 = .ok (.getfield 31, 3) := by decide +kernel
theorem dX4_size_4 : decode cX4_size 4 = .ok (.ireturn, 1) := by decide +kernel
theorem dX4_isFull_0 : decode cX4_isFull 0 = .ok (.aload_n 0, 1) := by decide +kernel
theorem dX4_isFull_1 : decode cX4_isFull 1 = .ok (.getfield 31, 3) := by decide +kernel
theorem dX4_isFull_4 : decode cX4_isFull 4 = .ok (.aload_n 0, 1) := by decide +kernel
theorem dX4_isFull_5 : decode cX4_isFull 5 = .ok (.getfield 27, 3) := by decide +kernel
theorem dX4_isFull_8 : decode cX4_isFull 8 = .ok (.if_icmp .lt 7, 3) := by decide +kernel
theorem dX4_isFull_11 : decode cX4_isFull 11 = .ok (.iconst 1, 1) := by decide +kernel
theorem dX4_isFull_12 : decode cX4_isFull 12 = .ok (.goto 4, 3) := by decide +kernel
theorem dX4_isFull_15 : decode cX4_isFull 15 = .ok (.iconst 0, 1) := by decide +kernel
theorem dX4_isFull_16 : decode cX4_isFull 16 = .ok (.ireturn, 1) := by decide +kernel
theorem dX4_has_0 : decode cX4_has 0 = .ok (.iload_n 1, 1) := by decide +kernel
theorem dX4_has_1 : decode cX4_has 1 = .ok (.ifCond .lt 15, 3) := by decide +kernel
theorem dX4_has_4 : decode cX4_has 4 = .ok (.iload_n 1, 1) := by decide +kernel
theorem dX4_has_5 : decode cX4_has 5 = .ok (.aload_n 0, 1) := by decide +kernel
theorem dX4_has_6 : decode cX4_has 6 = .ok (.getfield 31, 3) := by decide +kernel
theorem dX4_has_9 : decode cX4_has 9 = .ok (.if_icmp .ge 7, 3) := by decide +kernel
theorem dX4_has_12 : decode cX4_has 12 = .ok (.iconst 1, 1) := by decide +kernel
theorem dX4_has_13 : decode cX4_has 13 = .ok (.goto 4, 3) := by decide +kernel
theorem dX4_has_16 : decode cX4_has 16 = .ok (.iconst 0, 1) := by decide +kernel
theorem dX4_has_17 : decode cX4_has 17 = .ok (.ireturn, 1) := by decide +kernel
theorem dX4_wipe_0 : decode cX4_wipe 0 = .ok (.aload_n 0, 1) := by decide +kernel
theorem dX4_wipe_1 : decode cX4_wipe 1 = .ok (.iconst 0, 1) := by decide +kernel
theorem dX4_wipe_2 : decode cX4_wipe 2 = .ok (.putfield 31, 3) := by decide +kernel
theorem dX4_wipe_5 : decode cX4_wipe 5 = .ok (.return_, 1) := by decide +kernel
theorem dX4_cut_0 : decode cX4_cut 0 = .ok (.aload_n 0, 1) := by decide +kernel
theorem dX4_cut_1 : decode cX4_cut 1 = .ok (.iconst 0, 1) := by decide +kernel
theorem dX4_cut_2 : decode cX4_cut 2 = .ok (.aload_n 0, 1) := by decide +kernel
theorem dX4_cut_3 : decode cX4_cut 3 = .ok (.getfield 31, 3) := by decide +kernel
theorem dX4_cut_6 : decode cX4_cut 6 = .ok (.iload_n 1, 1) := by decide +kernel
theorem dX4_cut_7 : decode cX4_cut 7 = .ok (.invokestatic 21, 3) := by decide +kernel
theorem dX4_cut_10 : decode cX4_cut 10 = .ok (.invokestatic 34, 3) := by decide +kernel
theorem dX4_cut_13 : decode cX4_cut 13 = .ok (.putfield 31, 3) := by decide +kernel
theorem dX4_cut_16 : decode cX4_cut 16 = .ok (.return_, 1) := by decide +kernel
theorem dX4_wordAt_0 : decode cX4_wordAt 0 = .ok (.aload_n 0, 1) := by decide +kernel
theorem dX4_wordAt_1 : decode cX4_wordAt 1 = .ok (.getfield 9, 3) := by decide +kernel
theorem dX4_wordAt_4 : decode cX4_wordAt 4 = .ok (.iload_n 1, 1) := by decide +kernel
theorem dX4_wordAt_5 : decode cX4_wordAt 5 = .ok (.invokestatic 37, 3) := by decide +kernel
theorem dX4_wordAt_8 : decode cX4_wordAt 8 = .ok (.ireturn, 1) := by decide +kernel
theorem dX4_thingAt_0 : decode cX4_thingAt 0 = .ok (.aload_n 0, 1) := by decide +kernel
theorem dX4_thingAt_1 : decode cX4_thingAt 1 = .ok (.getfield 15, 3) := by decide +kernel
theorem dX4_thingAt_4 : decode cX4_thingAt 4 = .ok (.iload_n 1, 1) := by decide +kernel
theorem dX4_thingAt_5 : decode cX4_thingAt 5 = .ok (.invokestatic 37, 3) := by decide +kernel
theorem dX4_thingAt_8 : decode cX4_thingAt 8 = .ok (.ireturn, 1) := by decide +kernel
theorem dX4_beforeAt_0 : decode cX4_beforeAt 0 = .ok (.aload_n 0, 1) := by decide +kernel
theorem dX4_beforeAt_1 : decode cX4_beforeAt 1 = .ok (.getfield 18, 3) := by decide +kernel
theorem dX4_beforeAt_4 : decode cX4_beforeAt 4 = .ok (.iload_n 1, 1) := by decide +kernel
theorem dX4_beforeAt_5 : decode cX4_beforeAt 5 = .ok (.invokestatic 37, 3) := by decide +kernel
theorem dX4_beforeAt_8 : decode cX4_beforeAt 8 = .ok (.ireturn, 1) := by decide +kernel
theorem dX4_setWord_0 : decode cX4_setWord 0 = .ok (.aload_n 0, 1) := by decide +kernel
theorem dX4_setWord_1 : decode cX4_setWord 1 = .ok (.getfield 9, 3) := by decide +kernel
theorem dX4_setWord_4 : decode cX4_setWord 4 = .ok (.iload_n 1, 1) := by decide +kernel
theorem dX4_setWord_5 : decode cX4_setWord 5 = .ok (.iload_n 2, 1) := by decide +kernel
theorem dX4_setWord_6 : decode cX4_setWord 6 = .ok (.invokestatic 43, 3) := by decide +kernel
theorem dX4_setWord_9 : decode cX4_setWord 9 = .ok (.return_, 1) := by decide +kernel
theorem dX4_part_0 : decode cX4_part 0 = .ok (.aload_n 0, 1) := by decide +kernel
theorem dX4_part_1 : decode cX4_part 1 = .ok (.iload_n 1, 1) := by decide +kernel
theorem dX4_part_2 : decode cX4_part 2 = .ok (.invokevirtual 47, 3) := by decide +kernel
theorem dX4_part_5 : decode cX4_part 5 = .ok (.ifCond .ne 5, 3) := by decide +kernel
theorem dX4_part_8 : decode cX4_part 8 = .ok (.iconst (-1), 1) := by decide +kernel
theorem dX4_part_9 : decode cX4_part 9 = .ok (.ireturn, 1) := by decide +kernel
theorem dX4_part_10 : decode cX4_part 10 = .ok (.iload_n 2, 1) := by decide +kernel
theorem dX4_part_11 : decode cX4_part 11 = .ok (.tableswitch 43 0 2 #[25, 31, 37], 25) := by decide +kernel
theorem dX4_part_36 : decode cX4_part 36 = .ok (.aload_n 0, 1) := by decide +kernel
theorem dX4_part_37 : decode cX4_part 37 = .ok (.iload_n 1, 1) := by decide +kernel
theorem dX4_part_38 : decode cX4_part 38 = .ok (.invokevirtual 51, 3) := by decide +kernel
theorem dX4_part_41 : decode cX4_part 41 = .ok (.ireturn, 1) := by decide +kernel
theorem dX4_part_42 : decode cX4_part 42 = .ok (.aload_n 0, 1) := by decide +kernel
theorem dX4_part_43 : decode cX4_part 43 = .ok (.iload_n 1, 1) := by decide +kernel
theorem dX4_part_44 : decode cX4_part 44 = .ok (.invokevirtual 55, 3) := by decide +kernel
theorem dX4_part_47 : decode cX4_part 47 = .ok (.ireturn, 1) := by decide +kernel
theorem dX4_part_48 : decode cX4_part 48 = .ok (.aload_n 0, 1) := by decide +kernel
theorem dX4_part_49 : decode cX4_part 49 = .ok (.iload_n 1, 1) := by decide +kernel
theorem dX4_part_50 : decode cX4_part 50 = .ok (.invokevirtual 58, 3) := by decide +kernel
theorem dX4_part_53 : decode cX4_part 53 = .ok (.ireturn, 1) := by decide +kernel
theorem dX4_part_54 : decode cX4_part 54 = .ok (.iconst (-1), 1) := by decide +kernel
theorem dX4_part_55 : decode cX4_part 55 = .ok (.ireturn, 1) := by decide +kernel
theorem dX4_insert_0 : decode cX4_insert 0 = .ok (.aload_n 0, 1) := by decide +kernel
theorem dX4_insert_1 : decode cX4_insert 1 = .ok (.invokevirtual 61, 3) := by decide +kernel
theorem dX4_insert_4 : decode cX4_insert 4 = .ok (.ifCond .ne 15, 3) := by decide +kernel
theorem dX4_insert_7 : decode cX4_insert 7 = .ok (.iload_n 1, 1) := by decide +kernel
theorem dX4_insert_8 : decode cX4_insert 8 = .ok (.ifCond .lt 11, 3) := by decide +kernel
theorem dX4_insert_11 : decode cX4_insert 11 = .ok (.iload_n 1, 1) := by decide +kernel
theorem dX4_insert_12 : decode cX4_insert 12 = .ok (.aload_n 0, 1) := by decide +kernel
theorem dX4_insert_13 : decode cX4_insert 13 = .ok (.getfield 31, 3) := by decide +kernel
theorem dX4_insert_16 : decode cX4_insert 16 = .ok (.if_icmp .le 4, 3) := by decide +kernel
theorem dX4_insert_19 : decode cX4_insert 19 = .ok (.return_, 1) := by decide +kernel
theorem dX4_insert_20 : decode cX4_insert 20 = .ok (.aload_n 0, 1) := by decide +kernel
theorem dX4_insert_21 : decode cX4_insert 21 = .ok (.getfield 31, 3) := by decide +kernel
theorem dX4_insert_24 : decode cX4_insert 24 = .ok (.istore 5, 2) := by decide +kernel
theorem dX4_insert_26 : decode cX4_insert 26 = .ok (.iload 5, 2) := by decide +kernel
theorem dX4_insert_28 : decode cX4_insert 28 = .ok (.iload_n 1, 1) := by decide +kernel
theorem dX4_insert_29 : decode cX4_insert 29 = .ok (.if_icmp .le 39, 3) := by decide +kernel
theorem dX4_insert_32 : decode cX4_insert 32 = .ok (.aload_n 0, 1) := by decide +kernel
theorem dX4_insert_33 : decode cX4_insert 33 = .ok (.iload 5, 2) := by decide +kernel
theorem dX4_insert_35 : decode cX4_insert 35 = .ok (.aload_n 0, 1) := by decide +kernel
theorem dX4_insert_36 : decode cX4_insert 36 = .ok (.iload 5, 2) := by decide +kernel
theorem dX4_insert_38 : decode cX4_insert 38 = .ok (.iconst 1, 1) := by decide +kernel
theorem dX4_insert_39 : decode cX4_insert 39 = .ok (.isub, 1) := by decide +kernel
theorem dX4_insert_40 : decode cX4_insert 40 = .ok (.invokevirtual 51, 3) := by decide +kernel
theorem dX4_insert_43 : decode cX4_insert 43 = .ok (.aload_n 0, 1) := by decide +kernel
theorem dX4_insert_44 : decode cX4_insert 44 = .ok (.iload 5, 2) := by decide +kernel
theorem dX4_insert_46 : decode cX4_insert 46 = .ok (.iconst 1, 1) := by decide +kernel
theorem dX4_insert_47 : decode cX4_insert 47 = .ok (.isub, 1) := by decide +kernel
theorem dX4_insert_48 : decode cX4_insert 48 = .ok (.invokevirtual 55, 3) := by decide +kernel
theorem dX4_insert_51 : decode cX4_insert 51 = .ok (.aload_n 0, 1) := by decide +kernel
theorem dX4_insert_52 : decode cX4_insert 52 = .ok (.iload 5, 2) := by decide +kernel
theorem dX4_insert_54 : decode cX4_insert 54 = .ok (.iconst 1, 1) := by decide +kernel
theorem dX4_insert_55 : decode cX4_insert 55 = .ok (.isub, 1) := by decide +kernel
theorem dX4_insert_56 : decode cX4_insert 56 = .ok (.invokevirtual 58, 3) := by decide +kernel
theorem dX4_insert_59 : decode cX4_insert 59 = .ok (.invokevirtual 65, 3) := by decide +kernel
theorem dX4_insert_62 : decode cX4_insert 62 = .ok (.iinc 5 (-1), 3) := by decide +kernel
theorem dX4_insert_65 : decode cX4_insert 65 = .ok (.goto (-39), 3) := by decide +kernel
theorem dX4_insert_68 : decode cX4_insert 68 = .ok (.aload_n 0, 1) := by decide +kernel
theorem dX4_insert_69 : decode cX4_insert 69 = .ok (.iload_n 1, 1) := by decide +kernel
theorem dX4_insert_70 : decode cX4_insert 70 = .ok (.iload_n 2, 1) := by decide +kernel
theorem dX4_insert_71 : decode cX4_insert 71 = .ok (.iload_n 3, 1) := by decide +kernel
theorem dX4_insert_72 : decode cX4_insert 72 = .ok (.iload 4, 2) := by decide +kernel
theorem dX4_insert_74 : decode cX4_insert 74 = .ok (.invokevirtual 65, 3) := by decide +kernel
theorem dX4_insert_77 : decode cX4_insert 77 = .ok (.aload_n 0, 1) := by decide +kernel
theorem dX4_insert_78 : decode cX4_insert 78 = .ok (.dup, 1) := by decide +kernel
theorem dX4_insert_79 : decode cX4_insert 79 = .ok (.getfield 31, 3) := by decide +kernel
theorem dX4_insert_82 : decode cX4_insert 82 = .ok (.iconst 1, 1) := by decide +kernel
theorem dX4_insert_83 : decode cX4_insert 83 = .ok (.iadd, 1) := by decide +kernel
theorem dX4_insert_84 : decode cX4_insert 84 = .ok (.putfield 31, 3) := by decide +kernel
theorem dX4_insert_87 : decode cX4_insert 87 = .ok (.return_, 1) := by decide +kernel
theorem dX4_remove_0 : decode cX4_remove 0 = .ok (.aload_n 0, 1) := by decide +kernel
theorem dX4_remove_1 : decode cX4_remove 1 = .ok (.iload_n 1, 1) := by decide +kernel
theorem dX4_remove_2 : decode cX4_remove 2 = .ok (.invokevirtual 47, 3) := by decide +kernel
theorem dX4_remove_5 : decode cX4_remove 5 = .ok (.ifCond .ne 4, 3) := by decide +kernel
theorem dX4_remove_8 : decode cX4_remove 8 = .ok (.return_, 1) := by decide +kernel
theorem dX4_remove_9 : decode cX4_remove 9 = .ok (.iload_n 1, 1) := by decide +kernel
theorem dX4_remove_10 : decode cX4_remove 10 = .ok (.istore_n 2, 1) := by decide +kernel
theorem dX4_remove_11 : decode cX4_remove 11 = .ok (.iload_n 2, 1) := by decide +kernel
theorem dX4_remove_12 : decode cX4_remove 12 = .ok (.aload_n 0, 1) := by decide +kernel
theorem dX4_remove_13 : decode cX4_remove 13 = .ok (.getfield 31, 3) := by decide +kernel
theorem dX4_remove_16 : decode cX4_remove 16 = .ok (.iconst 1, 1) := by decide +kernel
theorem dX4_remove_17 : decode cX4_remove 17 = .ok (.isub, 1) := by decide +kernel
theorem dX4_remove_18 : decode cX4_remove 18 = .ok (.if_icmp .ge 35, 3) := by decide +kernel
theorem dX4_remove_21 : decode cX4_remove 21 = .ok (.aload_n 0, 1) := by decide +kernel
theorem dX4_remove_22 : decode cX4_remove 22 = .ok (.iload_n 2, 1) := by decide +kernel
theorem dX4_remove_23 : decode cX4_remove 23 = .ok (.aload_n 0, 1) := by decide +kernel
theorem dX4_remove_24 : decode cX4_remove 24 = .ok (.iload_n 2, 1) := by decide +kernel
theorem dX4_remove_25 : decode cX4_remove 25 = .ok (.iconst 1, 1) := by decide +kernel
theorem dX4_remove_26 : decode cX4_remove 26 = .ok (.iadd, 1) := by decide +kernel
theorem dX4_remove_27 : decode cX4_remove 27 = .ok (.invokevirtual 51, 3) := by decide +kernel
theorem dX4_remove_30 : decode cX4_remove 30 = .ok (.aload_n 0, 1) := by decide +kernel
theorem dX4_remove_31 : decode cX4_remove 31 = .ok (.iload_n 2, 1) := by decide +kernel
theorem dX4_remove_32 : decode cX4_remove 32 = .ok (.iconst 1, 1) := by decide +kernel
theorem dX4_remove_33 : decode cX4_remove 33 = .ok (.iadd, 1) := by decide +kernel
theorem dX4_remove_34 : decode cX4_remove 34 = .ok (.invokevirtual 55, 3) := by decide +kernel
theorem dX4_remove_37 : decode cX4_remove 37 = .ok (.aload_n 0, 1) := by decide +kernel
theorem dX4_remove_38 : decode cX4_remove 38 = .ok (.iload_n 2, 1) := by decide +kernel
theorem dX4_remove_39 : decode cX4_remove 39 = .ok (.iconst 1, 1) := by decide +kernel
theorem dX4_remove_40 : decode cX4_remove 40 = .ok (.iadd, 1) := by decide +kernel
theorem dX4_remove_41 : decode cX4_remove 41 = .ok (.invokevirtual 58, 3) := by decide +kernel
theorem dX4_remove_44 : decode cX4_remove 44 = .ok (.invokevirtual 65, 3) := by decide +kernel
theorem dX4_remove_47 : decode cX4_remove 47 = .ok (.iinc 2 1, 3) := by decide +kernel
theorem dX4_remove_50 : decode cX4_remove 50 = .ok (.goto (-39), 3) := by decide +kernel
theorem dX4_remove_53 : decode cX4_remove 53 = .ok (.aload_n 0, 1) := by decide +kernel
theorem dX4_remove_54 : decode cX4_remove 54 = .ok (.dup, 1) := by decide +kernel
theorem dX4_remove_55 : decode cX4_remove 55 = .ok (.getfield 31, 3) := by decide +kernel
theorem dX4_remove_58 : decode cX4_remove 58 = .ok (.iconst 1, 1) := by decide +kernel
theorem dX4_remove_59 : decode cX4_remove 59 = .ok (.isub, 1) := by decide +kernel
theorem dX4_remove_60 : decode cX4_remove 60 = .ok (.putfield 31, 3) := by decide +kernel
theorem dX4_remove_63 : decode cX4_remove 63 = .ok (.return_, 1) := by decide +kernel
theorem dX4_copyFrom_0 : decode cX4_copyFrom 0 = .ok (.aload_n 0, 1) := by decide +kernel
theorem dX4_copyFrom_1 : decode cX4_copyFrom 1 = .ok (.aload_n 1, 1) := by decide +kernel
theorem dX4_copyFrom_2 : decode cX4_copyFrom 2 = .ok (.invokevirtual 69, 3) := by decide +kernel
theorem dX4_copyFrom_5 : decode cX4_copyFrom 5 = .ok (.aload_n 0, 1) := by decide +kernel
theorem dX4_copyFrom_6 : decode cX4_copyFrom 6 = .ok (.getfield 27, 3) := by decide +kernel
theorem dX4_copyFrom_9 : decode cX4_copyFrom 9 = .ok (.invokestatic 21, 3) := by decide +kernel
theorem dX4_copyFrom_12 : decode cX4_copyFrom 12 = .ok (.putfield 31, 3) := by decide +kernel
theorem dX4_copyFrom_15 : decode cX4_copyFrom 15 = .ok (.iconst 0, 1) := by decide +kernel
theorem dX4_copyFrom_16 : decode cX4_copyFrom 16 = .ok (.istore_n 2, 1) := by decide +kernel
theorem dX4_copyFrom_17 : decode cX4_copyFrom 17 = .ok (.iload_n 2, 1) := by decide +kernel
theorem dX4_copyFrom_18 : decode cX4_copyFrom 18 = .ok (.aload_n 0, 1) := by decide +kernel
theorem dX4_copyFrom_19 : decode cX4_copyFrom 19 = .ok (.getfield 31, 3) := by decide +kernel
theorem dX4_copyFrom_22 : decode cX4_copyFrom 22 = .ok (.if_icmp .ge 29, 3) := by decide +kernel
theorem dX4_copyFrom_25 : decode cX4_copyFrom 25 = .ok (.aload_n 0, 1) := by decide +kernel
theorem dX4_copyFrom_26 : decode cX4_copyFrom 26 = .ok (.iload_n 2, 1) := by decide +kernel
theorem dX4_copyFrom_27 : decode cX4_copyFrom 27 = .ok (.aload_n 1, 1) := by decide +kernel
theorem dX4_copyFrom_28 : decode cX4_copyFrom 28 = .ok (.iload_n 2, 1) := by decide +kernel
theorem dX4_copyFrom_29 : decode cX4_copyFrom 29 = .ok (.invokevirtual 51, 3) := by decide +kernel
theorem dX4_copyFrom_32 : decode cX4_copyFrom 32 = .ok (.aload_n 1, 1) := by decide +kernel
theorem dX4_copyFrom_33 : decode cX4_copyFrom 33 = .ok (.iload_n 2, 1) := by decide +kernel
theorem dX4_copyFrom_34 : decode cX4_copyFrom 34 = .ok (.invokevirtual 55, 3) := by decide +kernel
theorem dX4_copyFrom_37 : decode cX4_copyFrom 37 = .ok (.aload_n 1, 1) := by decide +kernel
theorem dX4_copyFrom_38 : decode cX4_copyFrom 38 = .ok (.iload_n 2, 1) := by decide +kernel
theorem dX4_copyFrom_39 : decode cX4_copyFrom 39 = .ok (.invokevirtual 58, 3) := by decide +kernel
theorem dX4_copyFrom_42 : decode cX4_copyFrom 42 = .ok (.invokevirtual 65, 3) := by decide +kernel
theorem dX4_copyFrom_45 : decode cX4_copyFrom 45 = .ok (.iinc 2 1, 3) := by decide +kernel
theorem dX4_copyFrom_48 : decode cX4_copyFrom 48 = .ok (.goto (-31), 3) := by decide +kernel
theorem dX4_copyFrom_51 : decode cX4_copyFrom 51 = .ok (.return_, 1) := by decide +kernel
theorem dX4_lay_0 : decode cX4_lay 0 = .ok (.aload_n 0, 1) := by decide +kernel
theorem dX4_lay_1 : decode cX4_lay 1 = .ok (.getfield 9, 3) := by decide +kernel
theorem dX4_lay_4 : decode cX4_lay 4 = .ok (.iload_n 1, 1) := by decide +kernel
theorem dX4_lay_5 : decode cX4_lay 5 = .ok (.iload_n 2, 1) := by decide +kernel
theorem dX4_lay_6 : decode cX4_lay 6 = .ok (.invokestatic 43, 3) := by decide +kernel
theorem dX4_lay_9 : decode cX4_lay 9 = .ok (.aload_n 0, 1) := by decide +kernel
theorem dX4_lay_10 : decode cX4_lay 10 = .ok (.getfield 15, 3) := by decide +kernel
theorem dX4_lay_13 : decode cX4_lay 13 = .ok (.iload_n 1, 1) := by decide +kernel
theorem dX4_lay_14 : decode cX4_lay 14 = .ok (.iload_n 3, 1) := by decide +kernel
theorem dX4_lay_15 : decode cX4_lay 15 = .ok (.invokestatic 43, 3) := by decide +kernel
theorem dX4_lay_18 : decode cX4_lay 18 = .ok (.aload_n 0, 1) := by decide +kernel
theorem dX4_lay_19 : decode cX4_lay 19 = .ok (.getfield 18, 3) := by decide +kernel
theorem dX4_lay_22 : decode cX4_lay 22 = .ok (.iload_n 1, 1) := by decide +kernel
theorem dX4_lay_23 : decode cX4_lay 23 = .ok (.iload 4, 2) := by decide +kernel
theorem dX4_lay_25 : decode cX4_lay 25 = .ok (.invokestatic 43, 3) := by decide +kernel
theorem dX4_lay_28 : decode cX4_lay 28 = .ok (.return_, 1) := by decide +kernel
theorem dX5_tell_0 : decode cX5_tell 0 = .ok (.aload_n 1, 1) := by decide +kernel
theorem dX5_tell_1 : decode cX5_tell 1 = .ok (.invokevirtual 9, 3) := by decide +kernel
theorem dX5_tell_4 : decode cX5_tell 4 = .ok (.aload_n 0, 1) := by decide +kernel
theorem dX5_tell_5 : decode cX5_tell 5 = .ok (.invokevirtual 14, 3) := by decide +kernel
theorem dX5_tell_8 : decode cX5_tell 8 = .ok (.iconst 0, 1) := by decide +kernel
theorem dX5_tell_9 : decode cX5_tell 9 = .ok (.istore_n 2, 1) := by decide +kernel
theorem dX5_tell_10 : decode cX5_tell 10 = .ok (.iload_n 2, 1) := by decide +kernel
theorem dX5_tell_11 : decode cX5_tell 11 = .ok (.sipush 500, 3) := by decide +kernel
theorem dX5_tell_14 : decode cX5_tell 14 = .ok (.if_icmp .gt 38, 3) := by decide +kernel
theorem dX5_tell_17 : decode cX5_tell 17 = .ok (.aload_n 0, 1) := by decide +kernel
theorem dX5_tell_18 : decode cX5_tell 18 = .ok (.invokevirtual 19, 3) := by decide +kernel
theorem dX5_tell_21 : decode cX5_tell 21 = .ok (.aload_n 0, 1) := by decide +kernel
theorem dX5_tell_22 : decode cX5_tell 22 = .ok (.invokevirtual 22, 3) := by decide +kernel
theorem dX5_tell_25 : decode cX5_tell 25 = .ok (.ifCond .eq 5, 3) := by decide +kernel
theorem dX5_tell_28 : decode cX5_tell 28 = .ok (.iload_n 2, 1) := by decide +kernel
theorem dX5_tell_29 : decode cX5_tell 29 = .ok (.ireturn, 1) := by decide +kernel
theorem dX5_tell_30 : decode cX5_tell 30 = .ok (.aload_n 0, 1) := by decide +kernel
theorem dX5_tell_31 : decode cX5_tell 31 = .ok (.aload_n 1, 1) := by decide +kernel
theorem dX5_tell_32 : decode cX5_tell 32 = .ok (.invokestatic 26, 3) := by decide +kernel
theorem dX5_tell_35 : decode cX5_tell 35 = .ok (.ifCond .ne 11, 3) := by decide +kernel
theorem dX5_tell_38 : decode cX5_tell 38 = .ok (.bipush (-10), 2) := by decide +kernel
theorem dX5_tell_40 : decode cX5_tell 40 = .ok (.aload_n 0, 1) := by decide +kernel
theorem dX5_tell_41 : decode cX5_tell 41 = .ok (.invokevirtual 32, 3) := by decide +kernel
theorem dX5_tell_44 : decode cX5_tell 44 = .ok (.isub, 1) := by decide +kernel
theorem dX5_tell_45 : decode cX5_tell 45 = .ok (.ireturn, 1) := by decide +kernel
theorem dX5_tell_46 : decode cX5_tell 46 = .ok (.iinc 2 1, 3) := by decide +kernel
theorem dX5_tell_49 : decode cX5_tell 49 = .ok (.goto (-39), 3) := by decide +kernel
theorem dX5_tell_52 : decode cX5_tell 52 = .ok (.bipush (-10), 2) := by decide +kernel
theorem dX5_tell_54 : decode cX5_tell 54 = .ok (.aload_n 0, 1) := by decide +kernel
theorem dX5_tell_55 : decode cX5_tell 55 = .ok (.invokevirtual 36, 3) := by decide +kernel
theorem dX5_tell_58 : decode cX5_tell 58 = .ok (.isub, 1) := by decide +kernel
theorem dX5_tell_59 : decode cX5_tell 59 = .ok (.ireturn, 1) := by decide +kernel
theorem dX5_tellItem_0 : decode cX5_tellItem 0 = .ok (.aload_n 0, 1) := by decide +kernel
theorem dX5_tellItem_1 : decode cX5_tellItem 1 = .ok (.ldc 39, 2) := by decide +kernel
theorem dX5_tellItem_3 : decode cX5_tellItem 3 = .ok (.invokevirtual 41, 3) := by decide +kernel
theorem dX5_tellItem_6 : decode cX5_tellItem 6 = .ok (.ifCond .eq 12, 3) := by decide +kernel
theorem dX5_tellItem_9 : decode cX5_tellItem 9 = .ok (.aload_n 0, 1) := by decide +kernel
theorem dX5_tellItem_10 : decode cX5_tellItem 10 = .ok (.aload_n 1, 1) := by decide +kernel
theorem dX5_tellItem_11 : decode cX5_tellItem 11 = .ok (.getfield 45, 3) := by decide +kernel
theorem dX5_tellItem_14 : decode cX5_tellItem 14 = .ok (.invokestatic 49, 3) := by decide +kernel
theorem dX5_tellItem_17 : decode cX5_tellItem 17 = .ok (.ireturn, 1) := by decide +kernel
theorem dX5_tellItem_18 : decode cX5_tellItem 18 = .ok (.aload_n 0, 1) := by decide +kernel
theorem dX5_tellItem_19 : decode cX5_tellItem 19 = .ok (.ldc 53, 2) := by decide +kernel
theorem dX5_tellItem_21 : decode cX5_tellItem 21 = .ok (.invokevirtual 41, 3) := by decide +kernel
theorem dX5_tellItem_24 : decode cX5_tellItem 24 = .ok (.ifCond .eq 12, 3) := by decide +kernel
theorem dX5_tellItem_27 : decode cX5_tellItem 27 = .ok (.aload_n 0, 1) := by decide +kernel
theorem dX5_tellItem_28 : decode cX5_tellItem 28 = .ok (.aload_n 1, 1) := by decide +kernel
theorem dX5_tellItem_29 : decode cX5_tellItem 29 = .ok (.getfield 55, 3) := by decide +kernel
theorem dX5_tellItem_32 : decode cX5_tellItem 32 = .ok (.invokestatic 59, 3) := by decide +kernel
theorem dX5_tellItem_35 : decode cX5_tellItem 35 = .ok (.ireturn, 1) := by decide +kernel
theorem dX5_tellItem_36 : decode cX5_tellItem 36 = .ok (.aload_n 0, 1) := by decide +kernel
theorem dX5_tellItem_37 : decode cX5_tellItem 37 = .ok (.ldc 63, 2) := by decide +kernel
theorem dX5_tellItem_39 : decode cX5_tellItem 39 = .ok (.invokevirtual 41, 3) := by decide +kernel
theorem dX5_tellItem_42 : decode cX5_tellItem 42 = .ok (.ifCond .eq 9, 3) := by decide +kernel
theorem dX5_tellItem_45 : decode cX5_tellItem 45 = .ok (.aload_n 0, 1) := by decide +kernel
theorem dX5_tellItem_46 : decode cX5_tellItem 46 = .ok (.aload_n 1, 1) := by decide +kernel
theorem dX5_tellItem_47 : decode cX5_tellItem 47 = .ok (.invokestatic 65, 3) := by decide +kernel
theorem dX5_tellItem_50 : decode cX5_tellItem 50 = .ok (.ireturn, 1) := by decide +kernel
theorem dX5_tellItem_51 : decode cX5_tellItem 51 = .ok (.aload_n 0, 1) := by decide +kernel
theorem dX5_tellItem_52 : decode cX5_tellItem 52 = .ok (.ldc 68, 2) := by decide +kernel
theorem dX5_tellItem_54 : decode cX5_tellItem 54 = .ok (.invokevirtual 41, 3) := by decide +kernel
theorem dX5_tellItem_57 : decode cX5_tellItem 57 = .ok (.ifCond .eq 16, 3) := by decide +kernel
theorem dX5_tellItem_60 : decode cX5_tellItem 60 = .ok (.aload_n 0, 1) := by decide +kernel
theorem dX5_tellItem_61 : decode cX5_tellItem 61 = .ok (.aload_n 1, 1) := by decide +kernel
theorem dX5_tellItem_62 : decode cX5_tellItem 62 = .ok (.getfield 45, 3) := by decide +kernel
theorem dX5_tellItem_65 : decode cX5_tellItem 65 = .ok (.aload_n 1, 1) := by decide +kernel
theorem dX5_tellItem_66 : decode cX5_tellItem 66 = .ok (.getfield 70, 3) := by decide +kernel
theorem dX5_tellItem_69 : decode cX5_tellItem 69 = .ok (.invokestatic 74, 3) := by decide +kernel
theorem dX5_tellItem_72 : decode cX5_tellItem 72 = .ok (.ireturn, 1) := by decide +kernel
theorem dX5_tellItem_73 : decode cX5_tellItem 73 = .ok (.aload_n 0, 1) := by decide +kernel
theorem dX5_tellItem_74 : decode cX5_tellItem 74 = .ok (.ldc 78, 2) := by decide +kernel
theorem dX5_tellItem_76 : decode cX5_tellItem 76 = .ok (.invokevirtual 41, 3) := by decide +kernel
theorem dX5_tellItem_79 : decode cX5_tellItem 79 = .ok (.ifCond .eq 16, 3) := by decide +kernel
theorem dX5_tellItem_82 : decode cX5_tellItem 82 = .ok (.aload_n 0, 1) := by decide +kernel
theorem dX5_tellItem_83 : decode cX5_tellItem 83 = .ok (.aload_n 1, 1) := by decide +kernel
theorem dX5_tellItem_84 : decode cX5_tellItem 84 = .ok (.getfield 45, 3) := by decide +kernel
theorem dX5_tellItem_87 : decode cX5_tellItem 87 = .ok (.aload_n 1, 1) := by decide +kernel
theorem dX5_tellItem_88 : decode cX5_tellItem 88 = .ok (.getfield 80, 3) := by decide +kernel
theorem dX5_tellItem_91 : decode cX5_tellItem 91 = .ok (.invokestatic 74, 3) := by decide +kernel
theorem dX5_tellItem_94 : decode cX5_tellItem 94 = .ok (.ireturn, 1) := by decide +kernel
theorem dX5_tellItem_95 : decode cX5_tellItem 95 = .ok (.iconst 0, 1) := by decide +kernel
theorem dX5_tellItem_96 : decode cX5_tellItem 96 = .ok (.ireturn, 1) := by decide +kernel
theorem dX5_tellWord_0 : decode cX5_tellWord 0 = .ok (.aload_n 1, 1) := by decide +kernel
theorem dX5_tellWord_1 : decode cX5_tellWord 1 = .ok (.invokevirtual 82, 3) := by decide +kernel
theorem dX5_tellWord_4 : decode cX5_tellWord 4 = .ok (.ifCond .eq 5, 3) := by decide +kernel
theorem dX5_tellWord_7 : decode cX5_tellWord 7 = .ok (.iconst 0, 1) := by decide +kernel
theorem dX5_tellWord_8 : decode cX5_tellWord 8 = .ok (.ireturn, 1) := by decide +kernel
theorem dX5_tellWord_9 : decode cX5_tellWord 9 = .ok (.aload_n 0, 1) := by decide +kernel
theorem dX5_tellWord_10 : decode cX5_tellWord 10 = .ok (.iconst 0, 1) := by decide +kernel
theorem dX5_tellWord_11 : decode cX5_tellWord 11 = .ok (.bipush 25, 2) := by decide +kernel
theorem dX5_tellWord_13 : decode cX5_tellWord 13 = .ok (.invokestatic 87, 3) := by decide +kernel
theorem dX5_tellWord_16 : decode cX5_tellWord 16 = .ok (.istore_n 2, 1) := by decide +kernel
theorem dX5_tellWord_17 : decode cX5_tellWord 17 = .ok (.iload_n 2, 1) := by decide +kernel
theorem dX5_tellWord_18 : decode cX5_tellWord 18 = .ok (.ifCond .ge 5, 3) := by decide +kernel
theorem dX5_tellWord_21 : decode cX5_tellWord 21 = .ok (.iconst 0, 1) := by decide +kernel
theorem dX5_tellWord_22 : decode cX5_tellWord 22 = .ok (.ireturn, 1) := by decide +kernel
theorem dX5_tellWord_23 : decode cX5_tellWord 23 = .ok (.aload_n 0, 1) := by decide +kernel
theorem dX5_tellWord_24 : decode cX5_tellWord 24 = .ok (.iconst 0, 1) := by decide +kernel
theorem dX5_tellWord_25 : decode cX5_tellWord 25 = .ok (.bipush 25, 2) := by decide +kernel
theorem dX5_tellWord_27 : decode cX5_tellWord 27 = .ok (.invokestatic 87, 3) := by decide +kernel
theorem dX5_tellWord_30 : decode cX5_tellWord 30 = .ok (.istore_n 3, 1) := by decide +kernel
theorem dX5_tellWord_31 : decode cX5_tellWord 31 = .ok (.iload_n 3, 1) := by decide +kernel
theorem dX5_tellWord_32 : decode cX5_tellWord 32 = .ok (.ifCond .ge 5, 3) := by decide +kernel
theorem dX5_tellWord_35 : decode cX5_tellWord 35 = .ok (.iconst 0, 1) := by decide +kernel
theorem dX5_tellWord_36 : decode cX5_tellWord 36 = .ok (.ireturn, 1) := by decide +kernel
theorem dX5_tellWord_37 : decode cX5_tellWord 37 = .ok (.aload_n 0, 1) := by decide +kernel
theorem dX5_tellWord_38 : decode cX5_tellWord 38 = .ok (.iconst 0, 1) := by decide +kernel
theorem dX5_tellWord_39 : decode cX5_tellWord 39 = .ok (.bipush 9, 2) := by decide +kernel
theorem dX5_tellWord_41 : decode cX5_tellWord 41 = .ok (.invokestatic 87, 3) := by decide +kernel
theorem dX5_tellWord_44 : decode cX5_tellWord 44 = .ok (.istore 4, 2) := by decide +kernel
theorem dX5_tellWord_46 : decode cX5_tellWord 46 = .ok (.iload 4, 2) := by decide +kernel
theorem dX5_tellWord_48 : decode cX5_tellWord 48 = .ok (.ifCond .ge 5, 3) := by decide +kernel
theorem dX5_tellWord_51 : decode cX5_tellWord 51 = .ok (.iconst 0, 1) := by decide +kernel
theorem dX5_tellWord_52 : decode cX5_tellWord 52 = .ok (.ireturn, 1) := by decide +kernel
theorem dX5_tellWord_53 : decode cX5_tellWord 53 = .ok (.aload_n 0, 1) := by decide +kernel
theorem dX5_tellWord_54 : decode cX5_tellWord 54 = .ok (.iconst 1, 1) := by decide +kernel
theorem dX5_tellWord_55 : decode cX5_tellWord 55 = .ok (.iconst 4, 1) := by decide +kernel
theorem dX5_tellWord_56 : decode cX5_tellWord 56 = .ok (.invokestatic 87, 3) := by decide +kernel
theorem dX5_tellWord_59 : decode cX5_tellWord 59 = .ok (.istore 5, 2) := by decide +kernel
theorem dX5_tellWord_61 : decode cX5_tellWord 61 = .ok (.iload 5, 2) := by decide +kernel
theorem dX5_tellWord_63 : decode cX5_tellWord 63 = .ok (.ifCond .lt 10, 3) := by decide +kernel
theorem dX5_tellWord_66 : decode cX5_tellWord 66 = .ok (.aload_n 0, 1) := by decide +kernel
theorem dX5_tellWord_67 : decode cX5_tellWord 67 = .ok (.invokestatic 91, 3) := by decide +kernel
theorem dX5_tellWord_70 : decode cX5_tellWord 70 = .ok (.ifCond .ne 5, 3) := by decide +kernel
theorem dX5_tellWord_73 : decode cX5_tellWord 73 = .ok (.iconst 0, 1) := by decide +kernel
theorem dX5_tellWord_74 : decode cX5_tellWord 74 = .ok (.ireturn, 1) := by decide +kernel
theorem dX5_tellWord_75 : decode cX5_tellWord 75 = .ok (.aload_n 1, 1) := by decide +kernel
theorem dX5_tellWord_76 : decode cX5_tellWord 76 = .ok (.iload_n 2, 1) := by decide +kernel
theorem dX5_tellWord_77 : decode cX5_tellWord 77 = .ok (.iload_n 3, 1) := by decide +kernel
theorem dX5_tellWord_78 : decode cX5_tellWord 78 = .ok (.iload 4, 2) := by decide +kernel
theorem dX5_tellWord_80 : decode cX5_tellWord 80 = .ok (.iload 5, 2) := by decide +kernel
theorem dX5_tellWord_82 : decode cX5_tellWord 82 = .ok (.invokevirtual 95, 3) := by decide +kernel
theorem dX5_tellWord_85 : decode cX5_tellWord 85 = .ok (.iconst 1, 1) := by decide +kernel
theorem dX5_tellWord_86 : decode cX5_tellWord 86 = .ok (.ireturn, 1) := by decide +kernel
theorem dX5_tellForm_0 : decode cX5_tellForm 0 = .ok (.aload_n 1, 1) := by decide +kernel
theorem dX5_tellForm_1 : decode cX5_tellForm 1 = .ok (.invokevirtual 99, 3) := by decide +kernel
theorem dX5_tellForm_4 : decode cX5_tellForm 4 = .ok (.ifCond .eq 5, 3) := by decide +kernel
theorem dX5_tellForm_7 : decode cX5_tellForm 7 = .ok (.iconst 0, 1) := by decide +kernel
theorem dX5_tellForm_8 : decode cX5_tellForm 8 = .ok (.ireturn, 1) := by decide +kernel
theorem dX5_tellForm_9 : decode cX5_tellForm 9 = .ok (.aload_n 0, 1) := by decide +kernel
theorem dX5_tellForm_10 : decode cX5_tellForm 10 = .ok (.invokevirtual 19, 3) := by decide +kernel
theorem dX5_tellForm_13 : decode cX5_tellForm 13 = .ok (.aload_n 0, 1) := by decide +kernel
theorem dX5_tellForm_14 : decode cX5_tellForm 14 = .ok (.invokevirtual 102, 3) := by decide +kernel
theorem dX5_tellForm_17 : decode cX5_tellForm 17 = .ok (.istore_n 2, 1) := by decide +kernel
theorem dX5_tellForm_18 : decode cX5_tellForm 18 = .ok (.iload_n 2, 1) := by decide +kernel
theorem dX5_tellForm_19 : decode cX5_tellForm 19 = .ok (.iconst 1, 1) := by decide +kernel
theorem dX5_tellForm_20 : decode cX5_tellForm 20 = .ok (.if_icmp .lt 9, 3) := by decide +kernel
theorem dX5_tellForm_23 : decode cX5_tellForm 23 = .ok (.iload_n 2, 1) := by decide +kernel
theorem dX5_tellForm_24 : decode cX5_tellForm 24 = .ok (.bipush 8, 2) := by decide +kernel
theorem dX5_tellForm_26 : decode cX5_tellForm 26 = .ok (.if_icmp .le 5, 3) := by decide +kernel
theorem dX5_tellForm_29 : decode cX5_tellForm 29 = .ok (.iconst 0, 1) := by decide +kernel
theorem dX5_tellForm_30 : decode cX5_tellForm 30 = .ok (.ireturn, 1) := by decide +kernel
theorem dX5_tellForm_31 : decode cX5_tellForm 31 = .ok (.aload_n 1, 1) := by decide +kernel
theorem dX5_tellForm_32 : decode cX5_tellForm 32 = .ok (.invokevirtual 105, 3) := by decide +kernel
theorem dX5_tellForm_35 : decode cX5_tellForm 35 = .ok (.iconst 0, 1) := by decide +kernel
theorem dX5_tellForm_36 : decode cX5_tellForm 36 = .ok (.istore_n 3, 1) := by decide +kernel
theorem dX5_tellForm_37 : decode cX5_tellForm 37 = .ok (.iload_n 3, 1) := by decide +kernel
theorem dX5_tellForm_38 : decode cX5_tellForm 38 = .ok (.iload_n 2, 1) := by decide +kernel
theorem dX5_tellForm_39 : decode cX5_tellForm 39 = .ok (.if_icmp .ge 30, 3) := by decide +kernel
theorem dX5_tellForm_42 : decode cX5_tellForm 42 = .ok (.aload_n 0, 1) := by decide +kernel
theorem dX5_tellForm_43 : decode cX5_tellForm 43 = .ok (.iload_n 3, 1) := by decide +kernel
theorem dX5_tellForm_44 : decode cX5_tellForm 44 = .ok (.invokevirtual 108, 3) := by decide +kernel
theorem dX5_tellForm_47 : decode cX5_tellForm 47 = .ok (.bipush 8, 2) := by decide +kernel
theorem dX5_tellForm_49 : decode cX5_tellForm 49 = .ok (.if_icmp .lt 5, 3) := by decide +kernel
theorem dX5_tellForm_52 : decode cX5_tellForm 52 = .ok (.iconst 0, 1) := by decide +kernel
theorem dX5_tellForm_53 : decode cX5_tellForm 53 = .ok (.ireturn, 1) := by decide +kernel
theorem dX5_tellForm_54 : decode cX5_tellForm 54 = .ok (.aload_n 1, 1) := by decide +kernel
theorem dX5_tellForm_55 : decode cX5_tellForm 55 = .ok (.aload_n 0, 1) := by decide +kernel
theorem dX5_tellForm_56 : decode cX5_tellForm 56 = .ok (.iload_n 3, 1) := by decide +kernel
theorem dX5_tellForm_57 : decode cX5_tellForm 57 = .ok (.invokevirtual 108, 3) := by decide +kernel
theorem dX5_tellForm_60 : decode cX5_tellForm 60 = .ok (.invokevirtual 112, 3) := by decide +kernel
theorem dX5_tellForm_63 : decode cX5_tellForm 63 = .ok (.iinc 3 1, 3) := by decide +kernel
theorem dX5_tellForm_66 : decode cX5_tellForm 66 = .ok (.goto (-29), 3) := by decide +kernel
theorem dX5_tellForm_69 : decode cX5_tellForm 69 = .ok (.aload_n 0, 1) := by decide +kernel
theorem dX5_tellForm_70 : decode cX5_tellForm 70 = .ok (.invokestatic 91, 3) := by decide +kernel
theorem dX5_tellForm_73 : decode cX5_tellForm 73 = .ok (.ireturn, 1) := by decide +kernel
theorem dX5_tellMetre_0 : decode cX5_tellMetre 0 = .ok (.aload_n 0, 1) := by decide +kernel
theorem dX5_tellMetre_1 : decode cX5_tellMetre 1 = .ok (.invokevirtual 19, 3) := by decide +kernel
theorem dX5_tellMetre_4 : decode cX5_tellMetre 4 = .ok (.aload_n 0, 1) := by decide +kernel
theorem dX5_tellMetre_5 : decode cX5_tellMetre 5 = .ok (.invokevirtual 102, 3) := by decide +kernel
theorem dX5_tellMetre_8 : decode cX5_tellMetre 8 = .ok (.iconst 1, 1) := by decide +kernel
theorem dX5_tellMetre_9 : decode cX5_tellMetre 9 = .ok (.if_icmp .ne 13, 3) := by decide +kernel
theorem dX5_tellMetre_12 : decode cX5_tellMetre 12 = .ok (.aload_n 0, 1) := by decide +kernel
theorem dX5_tellMetre_13 : decode cX5_tellMetre 13 = .ok (.iconst 0, 1) := by decide +kernel
theorem dX5_tellMetre_14 : decode cX5_tellMetre 14 = .ok (.invokevirtual 108, 3) := by decide +kernel
theorem dX5_tellMetre_17 : decode cX5_tellMetre 17 = .ok (.bipush 8, 2) := by decide +kernel
theorem dX5_tellMetre_19 : decode cX5_tellMetre 19 = .ok (.if_icmp .lt 5, 3) := by decide +kernel
theorem dX5_tellMetre_22 : decode cX5_tellMetre 22 = .ok (.iconst 0, 1) := by decide +kernel
theorem dX5_tellMetre_23 : decode cX5_tellMetre 23 = .ok (.ireturn, 1) := by decide +kernel
theorem dX5_tellMetre_24 : decode cX5_tellMetre 24 = .ok (.aload_n 0, 1) := by decide +kernel
theorem dX5_tellMetre_25 : decode cX5_tellMetre 25 = .ok (.iconst 0, 1) := by decide +kernel
theorem dX5_tellMetre_26 : decode cX5_tellMetre 26 = .ok (.invokevirtual 108, 3) := by decide +kernel
theorem dX5_tellMetre_29 : decode cX5_tellMetre 29 = .ok (.istore_n 2, 1) := by decide +kernel
theorem dX5_tellMetre_30 : decode cX5_tellMetre 30 = .ok (.aload_n 0, 1) := by decide +kernel
theorem dX5_tellMetre_31 : decode cX5_tellMetre 31 = .ok (.iconst 0, 1) := by decide +kernel
theorem dX5_tellMetre_32 : decode cX5_tellMetre 32 = .ok (.bipush 20, 2) := by decide +kernel
theorem dX5_tellMetre_34 : decode cX5_tellMetre 34 = .ok (.invokestatic 87, 3) := by decide +kernel
theorem dX5_tellMetre_37 : decode cX5_tellMetre 37 = .ok (.istore_n 3, 1) := by decide +kernel
theorem dX5_tellMetre_38 : decode cX5_tellMetre 38 = .ok (.iload_n 3, 1) := by decide +kernel
theorem dX5_tellMetre_39 : decode cX5_tellMetre 39 = .ok (.ifCond .lt 10, 3) := by decide +kernel
theorem dX5_tellMetre_42 : decode cX5_tellMetre 42 = .ok (.aload_n 0, 1) := by decide +kernel
theorem dX5_tellMetre_43 : decode cX5_tellMetre 43 = .ok (.invokestatic 91, 3) := by decide +kernel
theorem dX5_tellMetre_46 : decode cX5_tellMetre 46 = .ok (.ifCond .ne 5, 3) := by decide +kernel
theorem dX5_tellMetre_49 : decode cX5_tellMetre 49 = .ok (.iconst 0, 1) := by decide +kernel
theorem dX5_tellMetre_50 : decode cX5_tellMetre 50 = .ok (.ireturn, 1) := by decide +kernel
theorem dX5_tellMetre_51 : decode cX5_tellMetre 51 = .ok (.aload_n 1, 1) := by decide +kernel
theorem dX5_tellMetre_52 : decode cX5_tellMetre 52 = .ok (.iload_n 2, 1) := by decide +kernel
theorem dX5_tellMetre_53 : decode cX5_tellMetre 53 = .ok (.iload_n 3, 1) := by decide +kernel
theorem dX5_tellMetre_54 : decode cX5_tellMetre 54 = .ok (.invokevirtual 116, 3) := by decide +kernel
theorem dX5_tellMetre_57 : decode cX5_tellMetre 57 = .ok (.iconst 1, 1) := by decide +kernel
theorem dX5_tellMetre_58 : decode cX5_tellMetre 58 = .ok (.ireturn, 1) := by decide +kernel
theorem dX5_tellLine_0 : decode cX5_tellLine 0 = .ok (.aload_n 2, 1) := by decide +kernel
theorem dX5_tellLine_1 : decode cX5_tellLine 1 = .ok (.invokevirtual 120, 3) := by decide +kernel
theorem dX5_tellLine_4 : decode cX5_tellLine 4 = .ok (.ifCond .eq 5, 3) := by decide +kernel
theorem dX5_tellLine_7 : decode cX5_tellLine 7 = .ok (.iconst 0, 1) := by decide +kernel
theorem dX5_tellLine_8 : decode cX5_tellLine 8 = .ok (.ireturn, 1) := by decide +kernel
theorem dX5_tellLine_9 : decode cX5_tellLine 9 = .ok (.aload_n 0, 1) := by decide +kernel
theorem dX5_tellLine_10 : decode cX5_tellLine 10 = .ok (.iconst 0, 1) := by decide +kernel
theorem dX5_tellLine_11 : decode cX5_tellLine 11 = .ok (.aload_n 1, 1) := by decide +kernel
theorem dX5_tellLine_12 : decode cX5_tellLine 12 = .ok (.invokevirtual 123, 3) := by decide +kernel
theorem dX5_tellLine_15 : decode cX5_tellLine 15 = .ok (.iconst 1, 1) := by decide +kernel
theorem dX5_tellLine_16 : decode cX5_tellLine 16 = .ok (.isub, 1) := by decide +kernel
theorem dX5_tellLine_17 : decode cX5_tellLine 17 = .ok (.invokestatic 87, 3) := by decide +kernel
theorem dX5_tellLine_20 : decode cX5_tellLine 20 = .ok (.istore_n 3, 1) := by decide +kernel
theorem dX5_tellLine_21 : decode cX5_tellLine 21 = .ok (.iload_n 3, 1) := by decide +kernel
theorem dX5_tellLine_22 : decode cX5_tellLine 22 = .ok (.ifCond .ge 5, 3) := by decide +kernel
theorem dX5_tellLine_25 : decode cX5_tellLine 25 = .ok (.iconst 0, 1) := by decide +kernel
theorem dX5_tellLine_26 : decode cX5_tellLine 26 = .ok (.ireturn, 1) := by decide +kernel
theorem dX5_tellLine_27 : decode cX5_tellLine 27 = .ok (.aload_n 0, 1) := by decide +kernel
theorem dX5_tellLine_28 : decode cX5_tellLine 28 = .ok (.iconst 0, 1) := by decide +kernel
theorem dX5_tellLine_29 : decode cX5_tellLine 29 = .ok (.bipush 9, 2) := by decide +kernel
theorem dX5_tellLine_31 : decode cX5_tellLine 31 = .ok (.invokestatic 87, 3) := by decide +kernel
theorem dX5_tellLine_34 : decode cX5_tellLine 34 = .ok (.istore 4, 2) := by decide +kernel
theorem dX5_tellLine_36 : decode cX5_tellLine 36 = .ok (.iload 4, 2) := by decide +kernel
theorem dX5_tellLine_38 : decode cX5_tellLine 38 = .ok (.ifCond .ge 5, 3) := by decide +kernel
theorem dX5_tellLine_41 : decode cX5_tellLine 41 = .ok (.iconst 0, 1) := by decide +kernel
theorem dX5_tellLine_42 : decode cX5_tellLine 42 = .ok (.ireturn, 1) := by decide +kernel
theorem dX5_tellLine_43 : decode cX5_tellLine 43 = .ok (.aload_n 0, 1) := by decide +kernel
theorem dX5_tellLine_44 : decode cX5_tellLine 44 = .ok (.iconst 0, 1) := by decide +kernel
theorem dX5_tellLine_45 : decode cX5_tellLine 45 = .ok (.bipush 16, 2) := by decide +kernel
theorem dX5_tellLine_47 : decode cX5_tellLine 47 = .ok (.invokestatic 87, 3) := by decide +kernel
theorem dX5_tellLine_50 : decode cX5_tellLine 50 = .ok (.istore 5, 2) := by decide +kernel
theorem dX5_tellLine_52 : decode cX5_tellLine 52 = .ok (.iload 5, 2) := by decide +kernel
theorem dX5_tellLine_54 : decode cX5_tellLine 54 = .ok (.ifCond .lt 10, 3) := by decide +kernel
theorem dX5_tellLine_57 : decode cX5_tellLine 57 = .ok (.aload_n 0, 1) := by decide +kernel
theorem dX5_tellLine_58 : decode cX5_tellLine 58 = .ok (.invokestatic 91, 3) := by decide +kernel
theorem dX5_tellLine_61 : decode cX5_tellLine 61 = .ok (.ifCond .ne 5, 3) := by decide +kernel
theorem dX5_tellLine_64 : decode cX5_tellLine 64 = .ok (.iconst 0, 1) := by decide +kernel
theorem dX5_tellLine_65 : decode cX5_tellLine 65 = .ok (.ireturn, 1) := by decide +kernel
theorem dX5_tellLine_66 : decode cX5_tellLine 66 = .ok (.aload_n 2, 1) := by decide +kernel
theorem dX5_tellLine_67 : decode cX5_tellLine 67 = .ok (.aload_n 2, 1) := by decide +kernel
theorem dX5_tellLine_68 : decode cX5_tellLine 68 = .ok (.invokevirtual 126, 3) := by decide +kernel
theorem dX5_tellLine_71 : decode cX5_tellLine 71 = .ok (.iload_n 3, 1) := by decide +kernel
theorem dX5_tellLine_72 : decode cX5_tellLine 72 = .ok (.iload 4, 2) := by decide +kernel
theorem dX5_tellLine_74 : decode cX5_tellLine 74 = .ok (.iload 5, 2) := by decide +kernel
theorem dX5_tellLine_76 : decode cX5_tellLine 76 = .ok (.invokevirtual 127, 3) := by decide +kernel
theorem dX5_tellLine_79 : decode cX5_tellLine 79 = .ok (.iconst 1, 1) := by decide +kernel
theorem dX5_tellLine_80 : decode cX5_tellLine 80 = .ok (.ireturn, 1) := by decide +kernel
theorem dX5_nextNumber_0 : decode cX5_nextNumber 0 = .ok (.aload_n 0, 1) := by decide +kernel
theorem dX5_nextNumber_1 : decode cX5_nextNumber 1 = .ok (.invokevirtual 19, 3) := by decide +kernel
theorem dX5_nextNumber_4 : decode cX5_nextNumber 4 = .ok (.aload_n 0, 1) := by decide +kernel
theorem dX5_nextNumber_5 : decode cX5_nextNumber 5 = .ok (.invokevirtual 130, 3) := by decide +kernel
theorem dX5_nextNumber_8 : decode cX5_nextNumber 8 = .ok (.istore_n 3, 1) := by decide +kernel
theorem dX5_nextNumber_9 : decode cX5_nextNumber 9 = .ok (.iload_n 3, 1) := by decide +kernel
theorem dX5_nextNumber_10 : decode cX5_nextNumber 10 = .ok (.iload_n 1, 1) := by decide +kernel
theorem dX5_nextNumber_11 : decode cX5_nextNumber 11 = .ok (.if_icmp .lt 12, 3) := by decide +kernel
theorem dX5_nextNumber_14 : decode cX5_nextNumber 14 = .ok (.iload_n 3, 1) := by decide +kernel
theorem dX5_nextNumber_15 : decode cX5_nextNumber 15 = .ok (.iload_n 2, 1) := by decide +kernel
theorem dX5_nextNumber_16 : decode cX5_nextNumber 16 = .ok (.if_icmp .gt 7, 3) := by decide +kernel
theorem dX5_nextNumber_19 : decode cX5_nextNumber 19 = .ok (.iload_n 3, 1) := by decide +kernel
theorem dX5_nextNumber_20 : decode cX5_nextNumber 20 = .ok (.goto 4, 3) := by decide +kernel
theorem dX5_nextNumber_23 : decode cX5_nextNumber 23 = .ok (.iconst (-1), 1) := by decide +kernel
theorem dX5_nextNumber_24 : decode cX5_nextNumber 24 = .ok (.ireturn, 1) := by decide +kernel
theorem dX5_nextStop_0 : decode cX5_nextStop 0 = .ok (.aload_n 0, 1) := by decide +kernel
theorem dX5_nextStop_1 : decode cX5_nextStop 1 = .ok (.invokevirtual 19, 3) := by decide +kernel
theorem dX5_nextStop_4 : decode cX5_nextStop 4 = .ok (.aload_n 0, 1) := by decide +kernel
theorem dX5_nextStop_5 : decode cX5_nextStop 5 = .ok (.invokevirtual 133, 3) := by decide +kernel
theorem dX5_nextStop_8 : decode cX5_nextStop 8 = .ok (.ireturn, 1) := by decide +kernel
theorem dX6_at_0 : decode cX6_at 0 = .ok (.aload_n 0, 1) := by decide +kernel
theorem dX6_at_1 : decode cX6_at 1 = .ok (.ifnull 19, 3) := by decide +kernel
theorem dX6_at_4 : decode cX6_at 4 = .ok (.iload_n 1, 1) := by decide +kernel
theorem dX6_at_5 : decode cX6_at 5 = .ok (.ifCond .lt 15, 3) := by decide +kernel
theorem dX6_at_8 : decode cX6_at 8 = .ok (.iload_n 1, 1) := by decide +kernel
theorem dX6_at_9 : decode cX6_at 9 = .ok (.aload_n 0, 1) := by decide +kernel
theorem dX6_at_10 : decode cX6_at 10 = .ok (.arraylength, 1) := by decide +kernel
theorem dX6_at_11 : decode cX6_at 11 = .ok (.if_icmp .ge 9, 3) := by decide +kernel
theorem dX6_at_14 : decode cX6_at 14 = .ok (.aload_n 0, 1) := by decide +kernel
theorem dX6_at_15 : decode cX6_at 15 = .ok (.iload_n 1, 1) := by decide +kernel
theorem dX6_at_16 : decode cX6_at 16 = .ok (.iaload, 1) := by decide +kernel
theorem dX6_at_17 : decode cX6_at 17 = .ok (.goto 4, 3) := by decide +kernel
theorem dX6_at_20 : decode cX6_at 20 = .ok (.iconst 0, 1) := by decide +kernel
theorem dX6_at_21 : decode cX6_at 21 = .ok (.ireturn, 1) := by decide +kernel
theorem dX6_set_0 : decode cX6_set 0 = .ok (.aload_n 0, 1) := by decide +kernel
theorem dX6_set_1 : decode cX6_set 1 = .ok (.ifnull 17, 3) := by decide +kernel
theorem dX6_set_4 : decode cX6_set 4 = .ok (.iload_n 1, 1) := by decide +kernel
theorem dX6_set_5 : decode cX6_set 5 = .ok (.ifCond .lt 13, 3) := by decide +kernel
theorem dX6_set_8 : decode cX6_set 8 = .ok (.iload_n 1, 1) := by decide +kernel
theorem dX6_set_9 : decode cX6_set 9 = .ok (.aload_n 0, 1) := by decide +kernel
theorem dX6_set_10 : decode cX6_set 10 = .ok (.arraylength, 1) := by decide +kernel
theorem dX6_set_11 : decode cX6_set 11 = .ok (.if_icmp .ge 7, 3) := by decide +kernel
theorem dX6_set_14 : decode cX6_set 14 = .ok (.aload_n 0, 1) := by decide +kernel
theorem dX6_set_15 : decode cX6_set 15 = .ok (.iload_n 1, 1) := by decide +kernel
theorem dX6_set_16 : decode cX6_set 16 = .ok (.iload_n 2, 1) := by decide +kernel
theorem dX6_set_17 : decode cX6_set 17 = .ok (.iastore, 1) := by decide +kernel
theorem dX6_set_18 : decode cX6_set 18 = .ok (.return_, 1) := by decide +kernel
theorem dX7_init_0 : decode cX7_init 0 = .ok (.aload_n 0, 1) := by decide +kernel
theorem dX7_init_1 : decode cX7_init 1 = .ok (.invokespecial 3, 3) := by decide +kernel
theorem dX7_init_4 : decode cX7_init 4 = .ok (.aload_n 0, 1) := by decide +kernel
theorem dX7_init_5 : decode cX7_init 5 = .ok (.new 9, 3) := by decide +kernel
theorem dX7_init_8 : decode cX7_init 8 = .ok (.dup, 1) := by decide +kernel
theorem dX7_init_9 : decode cX7_init 9 = .ok (.invokespecial 11, 3) := by decide +kernel
theorem dX7_init_12 : decode cX7_init 12 = .ok (.putfield 12, 3) := by decide +kernel
theorem dX7_init_15 : decode cX7_init 15 = .ok (.aload_n 0, 1) := by decide +kernel
theorem dX7_init_16 : decode cX7_init 16 = .ok (.new 18, 3) := by decide +kernel
theorem dX7_init_19 : decode cX7_init 19 = .ok (.dup, 1) := by decide +kernel
theorem dX7_init_20 : decode cX7_init 20 = .ok (.invokespecial 20, 3) := by decide +kernel
theorem dX7_init_23 : decode cX7_init 23 = .ok (.putfield 21, 3) := by decide +kernel
theorem dX7_init_26 : decode cX7_init 26 = .ok (.aload_n 0, 1) := by decide +kernel
theorem dX7_init_27 : decode cX7_init 27 = .ok (.new 25, 3) := by decide +kernel
theorem dX7_init_30 : decode cX7_init 30 = .ok (.dup, 1) := by decide +kernel
theorem dX7_init_31 : decode cX7_init 31 = .ok (.bipush 8, 2) := by decide +kernel
theorem dX7_init_33 : decode cX7_init 33 = .ok (.invokespecial 27, 3) := by decide +kernel
theorem dX7_init_36 : decode cX7_init 36 = .ok (.putfield 30, 3) := by decide +kernel
theorem dX7_init_39 : decode cX7_init 39 = .ok (.aload_n 0, 1) := by decide +kernel
theorem dX7_init_40 : decode cX7_init 40 = .ok (.new 25, 3) := by decide +kernel
theorem dX7_init_43 : decode cX7_init 43 = .ok (.dup, 1) := by decide +kernel
theorem dX7_init_44 : decode cX7_init 44 = .ok (.bipush 6, 2) := by decide +kernel
theorem dX7_init_46 : decode cX7_init 46 = .ok (.invokespecial 27, 3) := by decide +kernel
theorem dX7_init_49 : decode cX7_init 49 = .ok (.putfield 34, 3) := by decide +kernel
theorem dX7_init_52 : decode cX7_init 52 = .ok (.aload_n 0, 1) := by decide +kernel
theorem dX7_init_53 : decode cX7_init 53 = .ok (.bipush 8, 2) := by decide +kernel
theorem dX7_init_55 : decode cX7_init 55 = .ok (.newarray .int, 2) := by decide +kernel
theorem dX7_init_57 : decode cX7_init 57 = .ok (.putfield 37, 3) := by decide +kernel
theorem dX7_init_60 : decode cX7_init 60 = .ok (.return_, 1) := by decide +kernel
theorem dX7_wipe_0 : decode cX7_wipe 0 = .ok (.aload_n 0, 1) := by decide +kernel
theorem dX7_wipe_1 : decode cX7_wipe 1 = .ok (.getfield 12, 3) := by decide +kernel
theorem dX7_wipe_4 : decode cX7_wipe 4 = .ok (.invokevirtual 41, 3) := by decide +kernel
theorem dX7_wipe_7 : decode cX7_wipe 7 = .ok (.aload_n 0, 1) := by decide +kernel
theorem dX7_wipe_8 : decode cX7_wipe 8 = .ok (.getfield 21, 3) := by decide +kernel
theorem dX7_wipe_11 : decode cX7_wipe 11 = .ok (.invokevirtual 44, 3) := by decide +kernel
theorem dX7_wipe_14 : decode cX7_wipe 14 = .ok (.aload_n 0, 1) := by decide +kernel
theorem dX7_wipe_15 : decode cX7_wipe 15 = .ok (.getfield 30, 3) := by decide +kernel
theorem dX7_wipe_18 : decode cX7_wipe 18 = .ok (.invokevirtual 45, 3) := by decide +kernel
theorem dX7_wipe_21 : decode cX7_wipe 21 = .ok (.aload_n 0, 1) := by decide +kernel
theorem dX7_wipe_22 : decode cX7_wipe 22 = .ok (.getfield 34, 3) := by decide +kernel
theorem dX7_wipe_25 : decode cX7_wipe 25 = .ok (.invokevirtual 45, 3) := by decide +kernel
theorem dX7_wipe_28 : decode cX7_wipe 28 = .ok (.aload_n 0, 1) := by decide +kernel
theorem dX7_wipe_29 : decode cX7_wipe 29 = .ok (.getfield 37, 3) := by decide +kernel
theorem dX7_wipe_32 : decode cX7_wipe 32 = .ok (.iconst 0, 1) := by decide +kernel
theorem dX7_wipe_33 : decode cX7_wipe 33 = .ok (.invokestatic 46, 3) := by decide +kernel
theorem dX7_wipe_36 : decode cX7_wipe 36 = .ok (.return_, 1) := by decide +kernel
theorem dX7_metreOf_0 : decode cX7_metreOf 0 = .ok (.aload_n 0, 1) := by decide +kernel
theorem dX7_metreOf_1 : decode cX7_metreOf 1 = .ok (.getfield 37, 3) := by decide +kernel
theorem dX7_metreOf_4 : decode cX7_metreOf 4 = .ok (.iload_n 1, 1) := by decide +kernel
theorem dX7_metreOf_5 : decode cX7_metreOf 5 = .ok (.invokestatic 52, 3) := by decide +kernel
theorem dX7_metreOf_8 : decode cX7_metreOf 8 = .ok (.ireturn, 1) := by decide +kernel
theorem dX7_setMetre_0 : decode cX7_setMetre 0 = .ok (.aload_n 0, 1) := by decide +kernel
theorem dX7_setMetre_1 : decode cX7_setMetre 1 = .ok (.getfield 37, 3) := by decide +kernel
theorem dX7_setMetre_4 : decode cX7_setMetre 4 = .ok (.iload_n 1, 1) := by decide +kernel
theorem dX7_setMetre_5 : decode cX7_setMetre 5 = .ok (.iload_n 2, 1) := by decide +kernel
theorem dX7_setMetre_6 : decode cX7_setMetre 6 = .ok (.invokestatic 58, 3) := by decide +kernel
theorem dX7_setMetre_9 : decode cX7_setMetre 9 = .ok (.return_, 1) := by decide +kernel
theorem dX7_fits_0 : decode cX7_fits 0 = .ok (.aload_n 0, 1) := by decide +kernel
theorem dX7_fits_1 : decode cX7_fits 1 = .ok (.iload_n 1, 1) := by decide +kernel
theorem dX7_fits_2 : decode cX7_fits 2 = .ok (.invokevirtual 62, 3) := by decide +kernel
theorem dX7_fits_5 : decode cX7_fits 5 = .ok (.istore 4, 2) := by decide +kernel
theorem dX7_fits_7 : decode cX7_fits 7 = .ok (.iload 4, 2) := by decide +kernel
theorem dX7_fits_9 : decode cX7_fits 9 = .ok (.ifCond .eq 18, 3) := by decide +kernel
theorem dX7_fits_12 : decode cX7_fits 12 = .ok (.iload 4, 2) := by decide +kernel
theorem dX7_fits_14 : decode cX7_fits 14 = .ok (.iload_n 3, 1) := by decide +kernel
theorem dX7_fits_15 : decode cX7_fits 15 = .ok (.aload_n 0, 1) := by decide +kernel
theorem dX7_fits_16 : decode cX7_fits 16 = .ok (.getfield 12, 3) := by decide +kernel
theorem dX7_fits_19 : decode cX7_fits 19 = .ok (.iload_n 2, 1) := by decide +kernel
theorem dX7_fits_20 : decode cX7_fits 20 = .ok (.invokevirtual 66, 3) := by decide +kernel
theorem dX7_fits_23 : decode cX7_fits 23 = .ok (.iadd, 1) := by decide +kernel
theorem dX7_fits_24 : decode cX7_fits 24 = .ok (.if_icmp .ne 7, 3) := by decide +kernel
theorem dX7_fits_27 : decode cX7_fits 27 = .ok (.iconst 1, 1) := by decide +kernel
theorem dX7_fits_28 : decode cX7_fits 28 = .ok (.goto 4, 3) := by decide +kernel
theorem dX7_fits_31 : decode cX7_fits 31 = .ok (.iconst 0, 1) := by decide +kernel
theorem dX7_fits_32 : decode cX7_fits 32 = .ok (.ireturn, 1) := by decide +kernel
theorem dX8_init_0 : decode cX8_init 0 = .ok (.aload_n 0, 1) := by decide +kernel
theorem dX8_init_1 : decode cX8_init 1 = .ok (.invokespecial 3, 3) := by decide +kernel
theorem dX8_init_4 : decode cX8_init 4 = .ok (.aload_n 0, 1) := by decide +kernel
theorem dX8_init_5 : decode cX8_init 5 = .ok (.sipush 500, 3) := by decide +kernel
theorem dX8_init_8 : decode cX8_init 8 = .ok (.newarray .byte, 2) := by decide +kernel
theorem dX8_init_10 : decode cX8_init 10 = .ok (.putfield 9, 3) := by decide +kernel
theorem dX8_init_13 : decode cX8_init 13 = .ok (.return_, 1) := by decide +kernel
theorem dX8_length_0 : decode cX8_length 0 = .ok (.aload_n 0, 1) := by decide +kernel
theorem dX8_length_1 : decode cX8_length 1 = .ok (.getfield 15, 3) := by decide +kernel
theorem dX8_length_4 : decode cX8_length 4 = .ok (.ireturn, 1) := by decide +kernel
theorem dX8_wipe_0 : decode cX8_wipe 0 = .ok (.aload_n 0, 1) := by decide +kernel
theorem dX8_wipe_1 : decode cX8_wipe 1 = .ok (.iconst 0, 1) := by decide +kernel
theorem dX8_wipe_2 : decode cX8_wipe 2 = .ok (.putfield 15, 3) := by decide +kernel
theorem dX8_wipe_5 : decode cX8_wipe 5 = .ok (.return_, 1) := by decide +kernel
theorem dX8_append_0 : decode cX8_append 0 = .ok (.aload_n 0, 1) := by decide +kernel
theorem dX8_append_1 : decode cX8_append 1 = .ok (.getfield 15, 3) := by decide +kernel
theorem dX8_append_4 : decode cX8_append 4 = .ok (.ifCond .lt 36, 3) := by decide +kernel
theorem dX8_append_7 : decode cX8_append 7 = .ok (.aload_n 0, 1) := by decide +kernel
theorem dX8_append_8 : decode cX8_append 8 = .ok (.getfield 15, 3) := by decide +kernel
theorem dX8_append_11 : decode cX8_append 11 = .ok (.aload_n 0, 1) := by decide +kernel
theorem dX8_append_12 : decode cX8_append 12 = .ok (.getfield 9, 3) := by decide +kernel
theorem dX8_append_15 : decode cX8_append 15 = .ok (.arraylength, 1) := by decide +kernel
theorem dX8_append_16 : decode cX8_append 16 = .ok (.if_icmp .ge 24, 3) := by decide +kernel
theorem dX8_append_19 : decode cX8_append 19 = .ok (.aload_n 0, 1) := by decide +kernel
theorem dX8_append_20 : decode cX8_append 20 = .ok (.getfield 9, 3) := by decide +kernel
theorem dX8_append_23 : decode cX8_append 23 = .ok (.aload_n 0, 1) := by decide +kernel
theorem dX8_append_24 : decode cX8_append 24 = .ok (.getfield 15, 3) := by decide +kernel
theorem dX8_append_27 : decode cX8_append 27 = .ok (.iload_n 1, 1) := by decide +kernel
theorem dX8_append_28 : decode cX8_append 28 = .ok (.i2b, 1) := by decide +kernel
theorem dX8_append_29 : decode cX8_append 29 = .ok (.bastore, 1) := by decide +kernel
theorem dX8_append_30 : decode cX8_append 30 = .ok (.aload_n 0, 1) := by decide +kernel
theorem dX8_append_31 : decode cX8_append 31 = .ok (.dup, 1) := by decide +kernel
theorem dX8_append_32 : decode cX8_append 32 = .ok (.getfield 15, 3) := by decide +kernel
theorem dX8_append_35 : decode cX8_append 35 = .ok (.iconst 1, 1) := by decide +kernel
theorem dX8_append_36 : decode cX8_append 36 = .ok (.iadd, 1) := by decide +kernel
theorem dX8_append_37 : decode cX8_append 37 = .ok (.putfield 15, 3) := by decide +kernel
theorem dX8_append_40 : decode cX8_append 40 = .ok (.return_, 1) := by decide +kernel
theorem dX8_rewind_0 : decode cX8_rewind 0 = .ok (.aload_n 0, 1) := by decide +kernel
theorem dX8_rewind_1 : decode cX8_rewind 1 = .ok (.iconst 0, 1) := by decide +kernel
theorem dX8_rewind_2 : decode cX8_rewind 2 = .ok (.putfield 19, 3) := by decide +kernel
theorem dX8_rewind_5 : decode cX8_rewind 5 = .ok (.aload_n 0, 1) := by decide +kernel
theorem dX8_rewind_6 : decode cX8_rewind 6 = .ok (.iconst 0, 1) := by decide +kernel
theorem dX8_rewind_7 : decode cX8_rewind 7 = .ok (.putfield 22, 3) := by decide +kernel
theorem dX8_rewind_10 : decode cX8_rewind 10 = .ok (.aload_n 0, 1) := by decide +kernel
theorem dX8_rewind_11 : decode cX8_rewind 11 = .ok (.iconst 0, 1) := by decide +kernel
theorem dX8_rewind_12 : decode cX8_rewind 12 = .ok (.putfield 25, 3) := by decide +kernel
theorem dX8_rewind_15 : decode cX8_rewind 15 = .ok (.return_, 1) := by decide +kernel
theorem dX8_advance_0 : decode cX8_advance 0 = .ok (.aload_n 0, 1) := by decide +kernel
theorem dX8_advance_1 : decode cX8_advance 1 = .ok (.aload_n 0, 1) := by decide +kernel
theorem dX8_advance_2 : decode cX8_advance 2 = .ok (.aload_n 0, 1) := by decide +kernel
theorem dX8_advance_3 : decode cX8_advance 3 = .ok (.getfield 22, 3) := by decide +kernel
theorem dX8_advance_6 : decode cX8_advance 6 = .ok (.bipush 32, 2) := by decide +kernel
theorem dX8_advance_8 : decode cX8_advance 8 = .ok (.bipush 32, 2) := by decide +kernel
theorem dX8_advance_10 : decode cX8_advance 10 = .ok (.invokevirtual 28, 3) := by decide +kernel
theorem dX8_advance_13 : decode cX8_advance 13 = .ok (.putfield 19, 3) := by decide +kernel
theorem dX8_advance_16 : decode cX8_advance 16 = .ok (.aload_n 0, 1) := by decide +kernel
theorem dX8_advance_17 : decode cX8_advance 17 = .ok (.aload_n 0, 1) := by decide +kernel
theorem dX8_advance_18 : decode cX8_advance 18 = .ok (.getfield 19, 3) := by decide +kernel
theorem dX8_advance_21 : decode cX8_advance 21 = .ok (.invokevirtual 32, 3) := by decide +kernel
theorem dX8_advance_24 : decode cX8_advance 24 = .ok (.istore_n 1, 1) := by decide +kernel
theorem dX8_advance_25 : decode cX8_advance 25 = .ok (.aload_n 0, 1) := by decide +kernel
theorem dX8_advance_26 : decode cX8_advance 26 = .ok (.getfield 19, 3) := by decide +kernel
theorem dX8_advance_29 : decode cX8_advance 29 = .ok (.aload_n 0, 1) := by decide +kernel
theorem dX8_advance_30 : decode cX8_advance 30 = .ok (.getfield 15, 3) := by decide +kernel
theorem dX8_advance_33 : decode cX8_advance 33 = .ok (.if_icmp .lt 19, 3) := by decide +kernel
theorem dX8_advance_36 : decode cX8_advance 36 = .ok (.aload_n 0, 1) := by decide +kernel
theorem dX8_advance_37 : decode cX8_advance 37 = .ok (.iconst 0, 1) := by decide +kernel
theorem dX8_advance_38 : decode cX8_advance 38 = .ok (.putfield 25, 3) := by decide +kernel
theorem dX8_advance_41 : decode cX8_advance 41 = .ok (.aload_n 0, 1) := by decide +kernel
theorem dX8_advance_42 : decode cX8_advance 42 = .ok (.aload_n 0, 1) := by decide +kernel
theorem dX8_advance_43 : decode cX8_advance 43 = .ok (.getfield 19, 3) := by decide +kernel
theorem dX8_advance_46 : decode cX8_advance 46 = .ok (.putfield 22, 3) := by decide +kernel
theorem dX8_advance_49 : decode cX8_advance 49 = .ok (.goto 136, 3) := by decide +kernel
theorem dX8_advance_52 : decode cX8_advance 52 = .ok (.iload_n 1, 1) := by decide +kernel
theorem dX8_advance_53 : decode cX8_advance 53 = .ok (.bipush 97, 2) := by decide +kernel
theorem dX8_advance_55 : decode cX8_advance 55 = .ok (.if_icmp .lt 33, 3) := by decide +kernel
theorem dX8_advance_58 : decode cX8_advance 58 = .ok (.iload_n 1, 1) := by decide +kernel
theorem dX8_advance_59 : decode cX8_advance 59 = .ok (.bipush 122, 2) := by decide +kernel
theorem dX8_advance_61 : decode cX8_advance 61 = .ok (.if_icmp .gt 27, 3) := by decide +kernel
theorem dX8_advance_64 : decode cX8_advance 64 = .ok (.aload_n 0, 1) := by decide +kernel
theorem dX8_advance_65 : decode cX8_advance 65 = .ok (.iconst 1, 1) := by decide +kernel
theorem dX8_advance_66 : decode cX8_advance 66 = .ok (.putfield 25, 3) := by decide +kernel
theorem dX8_advance_69 : decode cX8_advance 69 = .ok (.aload_n 0, 1) := by decide +kernel
theorem dX8_advance_70 : decode cX8_advance 70 = .ok (.aload_n 0, 1) := by decide +kernel
theorem dX8_advance_71 : decode cX8_advance 71 = .ok (.aload_n 0, 1) := by decide +kernel
theorem dX8_advance_72 : decode cX8_advance 72 = .ok (.getfield 19, 3) := by decide +kernel
theorem dX8_advance_75 : decode cX8_advance 75 = .ok (.bipush 97, 2) := by decide +kernel
theorem dX8_advance_77 : decode cX8_advance 77 = .ok (.bipush 122, 2) := by decide +kernel
theorem dX8_advance_79 : decode cX8_advance 79 = .ok (.invokevirtual 28, 3) := by decide +kernel
theorem dX8_advance_82 : decode cX8_advance 82 = .ok (.putfield 22, 3) := by decide +kernel
theorem dX8_advance_85 : decode cX8_advance 85 = .ok (.goto 100, 3) := by decide +kernel
theorem dX8_advance_88 : decode cX8_advance 88 = .ok (.iload_n 1, 1) := by decide +kernel
theorem dX8_advance_89 : decode cX8_advance 89 = .ok (.bipush 48, 2) := by decide +kernel
theorem dX8_advance_91 : decode cX8_advance 91 = .ok (.if_icmp .lt 69, 3) := by decide +kernel
theorem dX8_advance_94 : decode cX8_advance 94 = .ok (.iload_n 1, 1) := by decide +kernel
theorem dX8_advance_95 : decode cX8_advance 95 = .ok (.bipush 57, 2) := by decide +kernel
theorem dX8_advance_97 : decode cX8_advance 97 = .ok (.if_icmp .gt 63, 3) := by decide +kernel
theorem dX8_advance_100 : decode cX8_advance 100 = .ok (.aload_n 0, 1) := by decide +kernel
theorem dX8_advance_101 : decode cX8_advance 101 = .ok (.aload_n 0, 1) := by decide +kernel
theorem dX8_advance_102 : decode cX8_advance 102 = .ok (.aload_n 0, 1) := by decide +kernel
theorem dX8_advance_103 : decode cX8_advance 103 = .ok (.getfield 19, 3) := by decide +kernel
theorem dX8_advance_106 : decode cX8_advance 106 = .ok (.bipush 48, 2) := by decide +kernel
theorem dX8_advance_108 : decode cX8_advance 108 = .ok (.bipush 57, 2) := by decide +kernel
theorem dX8_advance_110 : decode cX8_advance 110 = .ok (.invokevirtual 28, 3) := by decide +kernel
theorem dX8_advance_113 : decode cX8_advance 113 = .ok (.putfield 22, 3) := by decide +kernel
theorem dX8_advance_116 : decode cX8_advance 116 = .ok (.aload_n 0, 1) := by decide +kernel
theorem dX8_advance_117 : decode cX8_advance 117 = .ok (.aload_n 0, 1) := by decide +kernel
theorem dX8_advance_118 : decode cX8_advance 118 = .ok (.getfield 22, 3) := by decide +kernel
theorem dX8_advance_121 : decode cX8_advance 121 = .ok (.aload_n 0, 1) := by decide +kernel
theorem dX8_advance_122 : decode cX8_advance 122 = .ok (.getfield 19, 3) := by decide +kernel
theorem dX8_advance_125 : decode cX8_advance 125 = .ok (.isub, 1) := by decide +kernel
theorem dX8_advance_126 : decode cX8_advance 126 = .ok (.iconst 1, 1) := by decide +kernel
theorem dX8_advance_127 : decode cX8_advance 127 = .ok (.if_icmp .eq 22, 3) := by decide +kernel
theorem dX8_advance_130 : decode cX8_advance 130 = .ok (.aload_n 0, 1) := by decide +kernel
theorem dX8_advance_131 : decode cX8_advance 131 = .ok (.getfield 22, 3) := by decide +kernel
theorem dX8_advance_134 : decode cX8_advance 134 = .ok (.aload_n 0, 1) := by decide +kernel
theorem dX8_advance_135 : decode cX8_advance 135 = .ok (.getfield 19, 3) := by decide +kernel
theorem dX8_advance_138 : decode cX8_advance 138 = .ok (.isub, 1) := by decide +kernel
theorem dX8_advance_139 : decode cX8_advance 139 = .ok (.iconst 2, 1) := by decide +kernel
theorem dX8_advance_140 : decode cX8_advance 140 = .ok (.if_icmp .ne 13, 3) := by decide +kernel
theorem dX8_advance_143 : decode cX8_advance 143 = .ok (.iload_n 1, 1) := by decide +kernel
theorem dX8_advance_144 : decode cX8_advance 144 = .ok (.bipush 48, 2) := by decide +kernel
theorem dX8_advance_146 : decode cX8_advance 146 = .ok (.if_icmp .eq 7, 3) := by decide +kernel
theorem dX8_advance_149 : decode cX8_advance 149 = .ok (.iconst 2, 1) := by decide +kernel
theorem dX8_advance_150 : decode cX8_advance 150 = .ok (.goto 4, 3) := by decide +kernel
theorem dX8_advance_153 : decode cX8_advance 153 = .ok (.iconst 4, 1) := by decide +kernel
theorem dX8_advance_154 : decode cX8_advance 154 = .ok (.putfield 25, 3) := by decide +kernel
theorem dX8_advance_157 : decode cX8_advance 157 = .ok (.goto 28, 3) := by decide +kernel
theorem dX8_advance_160 : decode cX8_advance 160 = .ok (.aload_n 0, 1) := by decide +kernel
theorem dX8_advance_161 : decode cX8_advance 161 = .ok (.iload_n 1, 1) := by decide +kernel
theorem dX8_advance_162 : decode cX8_advance 162 = .ok (.bipush 59, 2) := by decide +kernel
theorem dX8_advance_164 : decode cX8_advance 164 = .ok (.if_icmp .ne 7, 3) := by decide +kernel
theorem dX8_advance_167 : decode cX8_advance 167 = .ok (.iconst 3, 1) := by decide +kernel
theorem dX8_advance_168 : decode cX8_advance 168 = .ok (.goto 4, 3) := by decide +kernel
theorem dX8_advance_171 : decode cX8_advance 171 = .ok (.iconst 4, 1) := by decide +kernel
theorem dX8_advance_172 : decode cX8_advance 172 = .ok (.putfield 25, 3) := by decide +kernel
theorem dX8_advance_175 : decode cX8_advance 175 = .ok (.aload_n 0, 1) := by decide +kernel
theorem dX8_advance_176 : decode cX8_advance 176 = .ok (.aload_n 0, 1) := by decide +kernel
theorem dX8_advance_177 : decode cX8_advance 177 = .ok (.getfield 19, 3) := by decide +kernel
theorem dX8_advance_180 : decode cX8_advance 180 = .ok (.iconst 1, 1) := by decide +kernel
theorem dX8_advance_181 : decode cX8_advance 181 = .ok (.iadd, 1) := by decide +kernel
theorem dX8_advance_182 : decode cX8_advance 182 = .ok (.putfield 22, 3) := by decide +kernel
theorem dX8_advance_185 : decode cX8_advance 185 = .ok (.return_, 1) := by decide +kernel
theorem dX8_start_0 : decode cX8_start 0 = .ok (.aload_n 0, 1) := by decide +kernel
theorem dX8_start_1 : decode cX8_start 1 = .ok (.getfield 19, 3) := by decide +kernel
theorem dX8_start_4 : decode cX8_start 4 = .ok (.ireturn, 1) := by decide +kernel
theorem dX8_isOut_0 : decode cX8_isOut 0 = .ok (.aload_n 0, 1) := by decide +kernel
theorem dX8_isOut_1 : decode cX8_isOut 1 = .ok (.getfield 25, 3) := by decide +kernel
theorem dX8_isOut_4 : decode cX8_isOut 4 = .ok (.ifCond .ne 7, 3) := by decide +kernel
theorem dX8_isOut_7 : decode cX8_isOut 7 = .ok (.iconst 1, 1) := by decide +kernel
theorem dX8_isOut_8 : decode cX8_isOut 8 = .ok (.goto 4, 3) := by decide +kernel
theorem dX8_isOut_11 : decode cX8_isOut 11 = .ok (.iconst 0, 1) := by decide +kernel
theorem dX8_isOut_12 : decode cX8_isOut 12 = .ok (.ireturn, 1) := by decide +kernel
theorem dX8_isStop_0 : decode cX8_isStop 0 = .ok (.aload_n 0, 1) := by decide +kernel
theorem dX8_isStop_1 : decode cX8_isStop 1 = .ok (.getfield 25, 3) := by decide +kernel
theorem dX8_isStop_4 : decode cX8_isStop 4 = .ok (.iconst 3, 1) := by decide +kernel
theorem dX8_isStop_5 : decode cX8_isStop 5 = .ok (.if_icmp .ne 7, 3) := by decide +kernel
theorem dX8_isStop_8 : decode cX8_isStop 8 = .ok (.iconst 1, 1) := by decide +kernel
theorem dX8_isStop_9 : decode cX8_isStop 9 = .ok (.goto 4, 3) := by decide +kernel
theorem dX8_isStop_12 : decode cX8_isStop 12 = .ok (.iconst 0, 1) := by decide +kernel
theorem dX8_isStop_13 : decode cX8_isStop 13 = .ok (.ireturn, 1) := by decide +kernel
theorem dX8_isNamed_0 : decode cX8_isNamed 0 = .ok (.aload_n 0, 1) := by decide +kernel
theorem dX8_isNamed_1 : decode cX8_isNamed 1 = .ok (.getfield 25, 3) := by decide +kernel
theorem dX8_isNamed_4 : decode cX8_isNamed 4 = .ok (.iconst 1, 1) := by decide +kernel
theorem dX8_isNamed_5 : decode cX8_isNamed 5 = .ok (.if_icmp .ne 19, 3) := by decide +kernel
theorem dX8_isNamed_8 : decode cX8_isNamed 8 = .ok (.aload_n 0, 1) := by decide +kernel
theorem dX8_isNamed_9 : decode cX8_isNamed 9 = .ok (.getfield 22, 3) := by decide +kernel
theorem dX8_isNamed_12 : decode cX8_isNamed 12 = .ok (.aload_n 0, 1) := by decide +kernel
theorem dX8_isNamed_13 : decode cX8_isNamed 13 = .ok (.getfield 19, 3) := by decide +kernel
theorem dX8_isNamed_16 : decode cX8_isNamed 16 = .ok (.isub, 1) := by decide +kernel
theorem dX8_isNamed_17 : decode cX8_isNamed 17 = .ok (.aload_n 1, 1) := by decide +kernel
theorem dX8_isNamed_18 : decode cX8_isNamed 18 = .ok (.invokevirtual 36, 3) := by decide +kernel
theorem dX8_isNamed_21 : decode cX8_isNamed 21 = .ok (.if_icmp .eq 5, 3) := by decide +kernel
theorem dX8_isNamed_24 : decode cX8_isNamed 24 = .ok (.iconst 0, 1) := by decide +kernel
theorem dX8_isNamed_25 : decode cX8_isNamed 25 = .ok (.ireturn, 1) := by decide +kernel
theorem dX8_isNamed_26 : decode cX8_isNamed 26 = .ok (.iconst 0, 1) := by decide +kernel
theorem dX8_isNamed_27 : decode cX8_isNamed 27 = .ok (.istore_n 2, 1) := by decide +kernel
theorem dX8_isNamed_28 : decode cX8_isNamed 28 = .ok (.iload_n 2, 1) := by decide +kernel
theorem dX8_isNamed_29 : decode cX8_isNamed 29 = .ok (.aload_n 1, 1) := by decide +kernel
theorem dX8_isNamed_30 : decode cX8_isNamed 30 = .ok (.invokevirtual 36, 3) := by decide +kernel
theorem dX8_isNamed_33 : decode cX8_isNamed 33 = .ok (.if_icmp .ge 29, 3) := by decide +kernel
theorem dX8_isNamed_36 : decode cX8_isNamed 36 = .ok (.aload_n 0, 1) := by decide +kernel
theorem dX8_isNamed_37 : decode cX8_isNamed 37 = .ok (.aload_n 0, 1) := by decide +kernel
theorem dX8_isNamed_38 : decode cX8_isNamed 38 = .ok (.getfield 19, 3) := by decide +kernel
theorem dX8_isNamed_41 : decode cX8_isNamed 41 = .ok (.iload_n 2, 1) := by decide +kernel
theorem dX8_isNamed_42 : decode cX8_isNamed 42 = .ok (.iadd, 1) := by decide +kernel
theorem dX8_isNamed_43 : decode cX8_isNamed 43 = .ok (.invokevirtual 32, 3) := by decide +kernel
theorem dX8_isNamed_46 : decode cX8_isNamed 46 = .ok (.aload_n 1, 1) := by decide +kernel
theorem dX8_isNamed_47 : decode cX8_isNamed 47 = .ok (.iload_n 2, 1) := by decide +kernel
theorem dX8_isNamed_48 : decode cX8_isNamed 48 = .ok (.invokevirtual 41, 3) := by decide +kernel
theorem dX8_isNamed_51 : decode cX8_isNamed 51 = .ok (.if_icmp .eq 5, 3) := by decide +kernel
theorem dX8_isNamed_54 : decode cX8_isNamed 54 = .ok (.iconst 0, 1) := by decide +kernel
theorem dX8_isNamed_55 : decode cX8_isNamed 55 = .ok (.ireturn, 1) := by decide +kernel
theorem dX8_isNamed_56 : decode cX8_isNamed 56 = .ok (.iinc 2 1, 3) := by decide +kernel
theorem dX8_isNamed_59 : decode cX8_isNamed 59 = .ok (.goto (-31), 3) := by decide +kernel
theorem dX8_isNamed_62 : decode cX8_isNamed 62 = .ok (.iconst 1, 1) := by decide +kernel
theorem dX8_isNamed_63 : decode cX8_isNamed 63 = .ok (.ireturn, 1) := by decide +kernel
theorem dX8_number_0 : decode cX8_number 0 = .ok (.aload_n 0, 1) := by decide +kernel
theorem dX8_number_1 : decode cX8_number 1 = .ok (.getfield 25, 3) := by decide +kernel
theorem dX8_number_4 : decode cX8_number 4 = .ok (.iconst 2, 1) := by decide +kernel
theorem dX8_number_5 : decode cX8_number 5 = .ok (.if_icmp .eq 5, 3) := by decide +kernel
theorem dX8_number_8 : decode cX8_number 8 = .ok (.iconst (-1), 1) := by decide +kernel
theorem dX8_number_9 : decode cX8_number 9 = .ok (.ireturn, 1) := by decide +kernel
theorem dX8_number_10 : decode cX8_number 10 = .ok (.iconst 0, 1) := by decide +kernel
theorem dX8_number_11 : decode cX8_number 11 = .ok (.istore_n 1, 1) := by decide +kernel
theorem dX8_number_12 : decode cX8_number 12 = .ok (.aload_n 0, 1) := by decide +kernel
theorem dX8_number_13 : decode cX8_number 13 = .ok (.getfield 19, 3) := by decide +kernel
theorem dX8_number_16 : decode cX8_number 16 = .ok (.istore_n 2, 1) := by decide +kernel
theorem dX8_number_17 : decode cX8_number 17 = .ok (.iload_n 2, 1) := by decide +kernel
theorem dX8_number_18 : decode cX8_number 18 = .ok (.aload_n 0, 1) := by decide +kernel
theorem dX8_number_19 : decode cX8_number 19 = .ok (.getfield 22, 3) := by decide +kernel
theorem dX8_number_22 : decode cX8_number 22 = .ok (.if_icmp .ge 23, 3) := by decide +kernel
theorem dX8_number_25 : decode cX8_number 25 = .ok (.bipush 10, 2) := by decide +kernel
theorem dX8_number_27 : decode cX8_number 27 = .ok (.iload_n 1, 1) := by decide +kernel
theorem dX8_number_28 : decode cX8_number 28 = .ok (.imul, 1) := by decide +kernel
theorem dX8_number_29 : decode cX8_number 29 = .ok (.aload_n 0, 1) := by decide +kernel
theorem dX8_number_30 : decode cX8_number 30 = .ok (.iload_n 2, 1) := by decide +kernel
theorem dX8_number_31 : decode cX8_number 31 = .ok (.invokevirtual 32, 3) := by decide +kernel
theorem dX8_number_34 : decode cX8_number 34 = .ok (.iadd, 1) := by decide +kernel
theorem dX8_number_35 : decode cX8_number 35 = .ok (.bipush 48, 2) := by decide +kernel
theorem dX8_number_37 : decode cX8_number 37 = .ok (.isub, 1) := by decide +kernel
theorem dX8_number_38 : decode cX8_number 38 = .ok (.istore_n 1, 1) := by decide +kernel
theorem dX8_number_39 : decode cX8_number 39 = .ok (.iinc 2 1, 3) := by decide +kernel
theorem dX8_number_42 : decode cX8_number 42 = .ok (.goto (-25), 3) := by decide +kernel
theorem dX8_number_45 : decode cX8_number 45 = .ok (.iload_n 1, 1) := by decide +kernel
theorem dX8_number_46 : decode cX8_number 46 = .ok (.ireturn, 1) := by decide +kernel
theorem dX8_letters_0 : decode cX8_letters 0 = .ok (.aload_n 0, 1) := by decide +kernel
theorem dX8_letters_1 : decode cX8_letters 1 = .ok (.getfield 25, 3) := by decide +kernel
theorem dX8_letters_4 : decode cX8_letters 4 = .ok (.iconst 1, 1) := by decide +kernel
theorem dX8_letters_5 : decode cX8_letters 5 = .ok (.if_icmp .ne 15, 3) := by decide +kernel
theorem dX8_letters_8 : decode cX8_letters 8 = .ok (.aload_n 0, 1) := by decide +kernel
theorem dX8_letters_9 : decode cX8_letters 9 = .ok (.getfield 22, 3) := by decide +kernel
theorem dX8_letters_12 : decode cX8_letters 12 = .ok (.aload_n 0, 1) := by decide +kernel
theorem dX8_letters_13 : decode cX8_letters 13 = .ok (.getfield 19, 3) := by decide +kernel
theorem dX8_letters_16 : decode cX8_letters 16 = .ok (.isub, 1) := by decide +kernel
theorem dX8_letters_17 : decode cX8_letters 17 = .ok (.goto 4, 3) := by decide +kernel
theorem dX8_letters_20 : decode cX8_letters 20 = .ok (.iconst 0, 1) := by decide +kernel
theorem dX8_letters_21 : decode cX8_letters 21 = .ok (.ireturn, 1) := by decide +kernel
theorem dX8_letterAt_0 : decode cX8_letterAt 0 = .ok (.aload_n 0, 1) := by decide +kernel
theorem dX8_letterAt_1 : decode cX8_letterAt 1 = .ok (.aload_n 0, 1) := by decide +kernel
theorem dX8_letterAt_2 : decode cX8_letterAt 2 = .ok (.getfield 19, 3) := by decide +kernel
theorem dX8_letterAt_5 : decode cX8_letterAt 5 = .ok (.iload_n 1, 1) := by decide +kernel
theorem dX8_letterAt_6 : decode cX8_letterAt 6 = .ok (.iadd, 1) := by decide +kernel
theorem dX8_letterAt_7 : decode cX8_letterAt 7 = .ok (.invokevirtual 32, 3) := by decide +kernel
theorem dX8_letterAt_10 : decode cX8_letterAt 10 = .ok (.bipush 97, 2) := by decide +kernel
theorem dX8_letterAt_12 : decode cX8_letterAt 12 = .ok (.isub, 1) := by decide +kernel
theorem dX8_letterAt_13 : decode cX8_letterAt 13 = .ok (.ireturn, 1) := by decide +kernel
theorem dX8_byteAt_0 : decode cX8_byteAt 0 = .ok (.iload_n 1, 1) := by decide +kernel
theorem dX8_byteAt_1 : decode cX8_byteAt 1 = .ok (.ifCond .lt 29, 3) := by decide +kernel
theorem dX8_byteAt_4 : decode cX8_byteAt 4 = .ok (.iload_n 1, 1) := by decide +kernel
theorem dX8_byteAt_5 : decode cX8_byteAt 5 = .ok (.aload_n 0, 1) := by decide +kernel
theorem dX8_byteAt_6 : decode cX8_byteAt 6 = .ok (.getfield 15, 3) := by decide +kernel
theorem dX8_byteAt_9 : decode cX8_byteAt 9 = .ok (.if_icmp .ge 21, 3) := by decide +kernel
theorem dX8_byteAt_12 : decode cX8_byteAt 12 = .ok (.iload_n 1, 1) := by decide +kernel
theorem dX8_byteAt_13 : decode cX8_byteAt 13 = .ok (.aload_n 0, 1) := by decide +kernel
theorem dX8_byteAt_14 : decode cX8_byteAt 14 = .ok (.getfield 9, 3) := by decide +kernel
theorem dX8_byteAt_17 : decode cX8_byteAt 17 = .ok (.arraylength, 1) := by decide +kernel
theorem dX8_byteAt_18 : decode cX8_byteAt 18 = .ok (.if_icmp .ge 12, 3) := by decide +kernel
theorem dX8_byteAt_21 : decode cX8_byteAt 21 = .ok (.aload_n 0, 1) := by decide +kernel
theorem dX8_byteAt_22 : decode cX8_byteAt 22 = .ok (.getfield 9, 3) := by decide +kernel
theorem dX8_byteAt_25 : decode cX8_byteAt 25 = .ok (.iload_n 1, 1) := by decide +kernel
theorem dX8_byteAt_26 : decode cX8_byteAt 26 = .ok (.baload, 1) := by decide +kernel
theorem dX8_byteAt_27 : decode cX8_byteAt 27 = .ok (.goto 4, 3) := by decide +kernel
theorem dX8_byteAt_30 : decode cX8_byteAt 30 = .ok (.iconst (-1), 1) := by decide +kernel
theorem dX8_byteAt_31 : decode cX8_byteAt 31 = .ok (.ireturn, 1) := by decide +kernel
theorem dX8_behind_0 : decode cX8_behind 0 = .ok (.iload_n 1, 1) := by decide +kernel
theorem dX8_behind_1 : decode cX8_behind 1 = .ok (.istore 4, 2) := by decide +kernel
theorem dX8_behind_3 : decode cX8_behind 3 = .ok (.iload 4, 2) := by decide +kernel
theorem dX8_behind_5 : decode cX8_behind 5 = .ok (.aload_n 0, 1) := by decide +kernel
theorem dX8_behind_6 : decode cX8_behind 6 = .ok (.getfield 15, 3) := by decide +kernel
theorem dX8_behind_9 : decode cX8_behind 9 = .ok (.if_icmp .ge 49, 3) := by decide +kernel
theorem dX8_behind_12 : decode cX8_behind 12 = .ok (.iload 4, 2) := by decide +kernel
theorem dX8_behind_14 : decode cX8_behind 14 = .ok (.ifCond .lt 35, 3) := by decide +kernel
theorem dX8_behind_17 : decode cX8_behind 17 = .ok (.iload 4, 2) := by decide +kernel
theorem dX8_behind_19 : decode cX8_behind 19 = .ok (.aload_n 0, 1) := by decide +kernel
theorem dX8_behind_20 : decode cX8_behind 20 = .ok (.getfield 9, 3) := by decide +kernel
theorem dX8_behind_23 : decode cX8_behind 23 = .ok (.arraylength, 1) := by decide +kernel
theorem dX8_behind_24 : decode cX8_behind 24 = .ok (.if_icmp .ge 25, 3) := by decide +kernel
theorem dX8_behind_27 : decode cX8_behind 27 = .ok (.aload_n 0, 1) := by decide +kernel
theorem dX8_behind_28 : decode cX8_behind 28 = .ok (.getfield 9, 3) := by decide +kernel
theorem dX8_behind_31 : decode cX8_behind 31 = .ok (.iload 4, 2) := by decide +kernel
theorem dX8_behind_33 : decode cX8_behind 33 = .ok (.baload, 1) := by decide +kernel
theorem dX8_behind_34 : decode cX8_behind 34 = .ok (.iload_n 2, 1) := by decide +kernel
theorem dX8_behind_35 : decode cX8_behind 35 = .ok (.if_icmp .lt 14, 3) := by decide +kernel
theorem dX8_behind_38 : decode cX8_behind 38 = .ok (.aload_n 0, 1) := by decide +kernel
theorem dX8_behind_39 : decode cX8_behind 39 = .ok (.getfield 9, 3) := by decide +kernel
theorem dX8_behind_42 : decode cX8_behind 42 = .ok (.iload 4, 2) := by decide +kernel
theorem dX8_behind_44 : decode cX8_behind 44 = .ok (.baload, 1) := by decide +kernel
theorem dX8_behind_45 : decode cX8_behind 45 = .ok (.iload_n 3, 1) := by decide +kernel
theorem dX8_behind_46 : decode cX8_behind 46 = .ok (.if_icmp .le 6, 3) := by decide +kernel
theorem dX8_behind_49 : decode cX8_behind 49 = .ok (.iload 4, 2) := by decide +kernel
theorem dX8_behind_51 : decode cX8_behind 51 = .ok (.ireturn, 1) := by decide +kernel
theorem dX8_behind_52 : decode cX8_behind 52 = .ok (.iinc 4 1, 3) := by decide +kernel
theorem dX8_behind_55 : decode cX8_behind 55 = .ok (.goto (-52), 3) := by decide +kernel
theorem dX8_behind_58 : decode cX8_behind 58 = .ok (.aload_n 0, 1) := by decide +kernel
theorem dX8_behind_59 : decode cX8_behind 59 = .ok (.getfield 15, 3) := by decide +kernel
theorem dX8_behind_62 : decode cX8_behind 62 = .ok (.ireturn, 1) := by decide +kernel
theorem dX9_init_0 : decode cX9_init 0 = .ok (.aload_n 0, 1) := by decide +kernel
theorem dX9_init_1 : decode cX9_init 1 = .ok (.invokespecial 3, 3) := by decide +kernel
theorem dX9_init_4 : decode cX9_init 4 = .ok (.aload_n 0, 1) := by decide +kernel
theorem dX9_init_5 : decode cX9_init 5 = .ok (.bipush 8, 2) := by decide +kernel
theorem dX9_init_7 : decode cX9_init 7 = .ok (.newarray .int, 2) := by decide +kernel
theorem dX9_init_9 : decode cX9_init 9 = .ok (.putfield 9, 3) := by decide +kernel
theorem dX9_init_12 : decode cX9_init 12 = .ok (.aload_n 0, 1) := by decide +kernel
theorem dX9_init_13 : decode cX9_init 13 = .ok (.bipush 8, 2) := by decide +kernel
theorem dX9_init_15 : decode cX9_init 15 = .ok (.newarray .int, 2) := by decide +kernel
theorem dX9_init_17 : decode cX9_init 17 = .ok (.putfield 15, 3) := by decide +kernel
theorem dX9_init_20 : decode cX9_init 20 = .ok (.aload_n 0, 1) := by decide +kernel
theorem dX9_init_21 : decode cX9_init 21 = .ok (.bipush 8, 2) := by decide +kernel
theorem dX9_init_23 : decode cX9_init 23 = .ok (.newarray .int, 2) := by decide +kernel
theorem dX9_init_25 : decode cX9_init 25 = .ok (.putfield 18, 3) := by decide +kernel
theorem dX9_init_28 : decode cX9_init 28 = .ok (.return_, 1) := by decide +kernel
theorem dX9_judge_0 : decode cX9_judge 0 = .ok (.aload_n 0, 1) := by decide +kernel
theorem dX9_judge_1 : decode cX9_judge 1 = .ok (.aload_n 2, 1) := by decide +kernel
theorem dX9_judge_2 : decode cX9_judge 2 = .ok (.invokevirtual 21, 3) := by decide +kernel
theorem dX9_judge_5 : decode cX9_judge 5 = .ok (.putfield 27, 3) := by decide +kernel
theorem dX9_judge_8 : decode cX9_judge 8 = .ok (.aload_n 0, 1) := by decide +kernel
theorem dX9_judge_9 : decode cX9_judge 9 = .ok (.iconst 0, 1) := by decide +kernel
theorem dX9_judge_10 : decode cX9_judge 10 = .ok (.putfield 30, 3) := by decide +kernel
theorem dX9_judge_13 : decode cX9_judge 13 = .ok (.aload_n 0, 1) := by decide +kernel
theorem dX9_judge_14 : decode cX9_judge 14 = .ok (.getfield 18, 3) := by decide +kernel
theorem dX9_judge_17 : decode cX9_judge 17 = .ok (.iconst (-1), 1) := by decide +kernel
theorem dX9_judge_18 : decode cX9_judge 18 = .ok (.invokestatic 33, 3) := by decide +kernel
theorem dX9_judge_21 : decode cX9_judge 21 = .ok (.iconst 0, 1) := by decide +kernel
theorem dX9_judge_22 : decode cX9_judge 22 = .ok (.istore 5, 2) := by decide +kernel
theorem dX9_judge_24 : decode cX9_judge 24 = .ok (.iload 5, 2) := by decide +kernel
theorem dX9_judge_26 : decode cX9_judge 26 = .ok (.aload_n 0, 1) := by decide +kernel
theorem dX9_judge_27 : decode cX9_judge 27 = .ok (.getfield 27, 3) := by decide +kernel
theorem dX9_judge_30 : decode cX9_judge 30 = .ok (.if_icmp .ge 106, 3) := by decide +kernel
theorem dX9_judge_33 : decode cX9_judge 33 = .ok (.aload_n 1, 1) := by decide +kernel
theorem dX9_judge_34 : decode cX9_judge 34 = .ok (.getfield 39, 3) := by decide +kernel
theorem dX9_judge_37 : decode cX9_judge 37 = .ok (.iload_n 3, 1) := by decide +kernel
theorem dX9_judge_38 : decode cX9_judge 38 = .ok (.iload 5, 2) := by decide +kernel
theorem dX9_judge_40 : decode cX9_judge 40 = .ok (.invokevirtual 45, 3) := by decide +kernel
theorem dX9_judge_43 : decode cX9_judge 43 = .ok (.istore 6, 2) := by decide +kernel
theorem dX9_judge_45 : decode cX9_judge 45 = .ok (.aload_n 0, 1) := by decide +kernel
theorem dX9_judge_46 : decode cX9_judge 46 = .ok (.getfield 18, 3) := by decide +kernel
theorem dX9_judge_49 : decode cX9_judge 49 = .ok (.iload 6, 2) := by decide +kernel
theorem dX9_judge_51 : decode cX9_judge 51 = .ok (.invokestatic 51, 3) := by decide +kernel
theorem dX9_judge_54 : decode cX9_judge 54 = .ok (.istore 7, 2) := by decide +kernel
theorem dX9_judge_56 : decode cX9_judge 56 = .ok (.iconst 0, 1) := by decide +kernel
theorem dX9_judge_57 : decode cX9_judge 57 = .ok (.istore 8, 2) := by decide +kernel
theorem dX9_judge_59 : decode cX9_judge 59 = .ok (.aload_n 1, 1) := by decide +kernel
theorem dX9_judge_60 : decode cX9_judge 60 = .ok (.iload 6, 2) := by decide +kernel
theorem dX9_judge_62 : decode cX9_judge 62 = .ok (.aload_n 2, 1) := by decide +kernel
theorem dX9_judge_63 : decode cX9_judge 63 = .ok (.iload 5, 2) := by decide +kernel
theorem dX9_judge_65 : decode cX9_judge 65 = .ok (.invokevirtual 57, 3) := by decide +kernel
theorem dX9_judge_68 : decode cX9_judge 68 = .ok (.aload_n 2, 1) := by decide +kernel
theorem dX9_judge_69 : decode cX9_judge 69 = .ok (.iload 5, 2) := by decide +kernel
theorem dX9_judge_71 : decode cX9_judge 71 = .ok (.invokevirtual 61, 3) := by decide +kernel
theorem dX9_judge_74 : decode cX9_judge 74 = .ok (.invokevirtual 64, 3) := by decide +kernel
theorem dX9_judge_77 : decode cX9_judge 77 = .ok (.ifCond .eq 41, 3) := by decide +kernel
theorem dX9_judge_80 : decode cX9_judge 80 = .ok (.iload 7, 2) := by decide +kernel
theorem dX9_judge_82 : decode cX9_judge 82 = .ok (.ifCond .ge 9, 3) := by decide +kernel
theorem dX9_judge_85 : decode cX9_judge 85 = .ok (.iconst 1, 1) := by decide +kernel
theorem dX9_judge_86 : decode cX9_judge 86 = .ok (.istore 8, 2) := by decide +kernel
theorem dX9_judge_88 : decode cX9_judge 88 = .ok (.goto 30, 3) := by decide +kernel
theorem dX9_judge_91 : decode cX9_judge 91 = .ok (.aload_n 1, 1) := by decide +kernel
theorem dX9_judge_92 : decode cX9_judge 92 = .ok (.getfield 68, 3) := by decide +kernel
theorem dX9_judge_95 : decode cX9_judge 95 = .ok (.iload 4, 2) := by decide +kernel
theorem dX9_judge_97 : decode cX9_judge 97 = .ok (.aload_n 2, 1) := by decide +kernel
theorem dX9_judge_98 : decode cX9_judge 98 = .ok (.iload 7, 2) := by decide +kernel
theorem dX9_judge_100 : decode cX9_judge 100 = .ok (.invokevirtual 57, 3) := by decide +kernel
theorem dX9_judge_103 : decode cX9_judge 103 = .ok (.aload_n 2, 1) := by decide +kernel
theorem dX9_judge_104 : decode cX9_judge 104 = .ok (.iload 5, 2) := by decide +kernel
theorem dX9_judge_106 : decode cX9_judge 106 = .ok (.invokevirtual 57, 3) := by decide +kernel
theorem dX9_judge_109 : decode cX9_judge 109 = .ok (.invokevirtual 72, 3) := by decide +kernel
theorem dX9_judge_112 : decode cX9_judge 112 = .ok (.ifCond .eq 6, 3) := by decide +kernel
theorem dX9_judge_115 : decode cX9_judge 115 = .ok (.iconst 2, 1) := by decide +kernel
theorem dX9_judge_116 : decode cX9_judge 116 = .ok (.istore 8, 2) := by decide +kernel
theorem dX9_judge_118 : decode cX9_judge 118 = .ok (.aload_n 0, 1) := by decide +kernel
theorem dX9_judge_119 : decode cX9_judge 119 = .ok (.iload 5, 2) := by decide +kernel
theorem dX9_judge_121 : decode cX9_judge 121 = .ok (.iload 6, 2) := by decide +kernel
theorem dX9_judge_123 : decode cX9_judge 123 = .ok (.iload 8, 2) := by decide +kernel
theorem dX9_judge_125 : decode cX9_judge 125 = .ok (.iload 7, 2) := by decide +kernel
theorem dX9_judge_127 : decode cX9_judge 127 = .ok (.invokevirtual 77, 3) := by decide +kernel
theorem dX9_judge_130 : decode cX9_judge 130 = .ok (.iinc 5 1, 3) := by decide +kernel
theorem dX9_judge_133 : decode cX9_judge 133 = .ok (.goto (-109), 3) := by decide +kernel
theorem dX9_judge_136 : decode cX9_judge 136 = .ok (.return_, 1) := by decide +kernel
theorem dX9_enter_0 : decode cX9_enter 0 = .ok (.aload_n 0, 1) := by decide +kernel
theorem dX9_enter_1 : decode cX9_enter 1 = .ok (.getfield 9, 3) := by decide +kernel
theorem dX9_enter_4 : decode cX9_enter 4 = .ok (.iload_n 1, 1) := by decide +kernel
theorem dX9_enter_5 : decode cX9_enter 5 = .ok (.iload_n 3, 1) := by decide +kernel
theorem dX9_enter_6 : decode cX9_enter 6 = .ok (.invokestatic 81, 3) := by decide +kernel
theorem dX9_enter_9 : decode cX9_enter 9 = .ok (.aload_n 0, 1) := by decide +kernel
theorem dX9_enter_10 : decode cX9_enter 10 = .ok (.getfield 15, 3) := by decide +kernel
theorem dX9_enter_13 : decode cX9_enter 13 = .ok (.iload_n 1, 1) := by decide +kernel
theorem dX9_enter_14 : decode cX9_enter 14 = .ok (.iload_n 3, 1) := by decide +kernel
theorem dX9_enter_15 : decode cX9_enter 15 = .ok (.iconst 2, 1) := by decide +kernel
theorem dX9_enter_16 : decode cX9_enter 16 = .ok (.if_icmp .ne 8, 3) := by decide +kernel
theorem dX9_enter_19 : decode cX9_enter 19 = .ok (.iload 4, 2) := by decide +kernel
theorem dX9_enter_21 : decode cX9_enter 21 = .ok (.goto 4, 3) := by decide +kernel
theorem dX9_enter_24 : decode cX9_enter 24 = .ok (.iconst (-1), 1) := by decide +kernel
theorem dX9_enter_25 : decode cX9_enter 25 = .ok (.invokestatic 81, 3) := by decide +kernel
theorem dX9_enter_28 : decode cX9_enter 28 = .ok (.iload_n 3, 1) := by decide +kernel
theorem dX9_enter_29 : decode cX9_enter 29 = .ok (.ifCond .eq 12, 3) := by decide +kernel
theorem dX9_enter_32 : decode cX9_enter 32 = .ok (.aload_n 0, 1) := by decide +kernel
theorem dX9_enter_33 : decode cX9_enter 33 = .ok (.getfield 18, 3) := by decide +kernel
theorem dX9_enter_36 : decode cX9_enter 36 = .ok (.iload_n 2, 1) := by decide +kernel
theorem dX9_enter_37 : decode cX9_enter 37 = .ok (.iload_n 1, 1) := by decide +kernel
theorem dX9_enter_38 : decode cX9_enter 38 = .ok (.invokestatic 81, 3) := by decide +kernel
theorem dX9_enter_41 : decode cX9_enter 41 = .ok (.iload_n 3, 1) := by decide +kernel
theorem dX9_enter_42 : decode cX9_enter 42 = .ok (.iconst 2, 1) := by decide +kernel
theorem dX9_enter_43 : decode cX9_enter 43 = .ok (.if_icmp .ne 20, 3) := by decide +kernel
theorem dX9_enter_46 : decode cX9_enter 46 = .ok (.aload_n 0, 1) := by decide +kernel
theorem dX9_enter_47 : decode cX9_enter 47 = .ok (.dup, 1) := by decide +kernel
theorem dX9_enter_48 : decode cX9_enter 48 = .ok (.getfield 30, 3) := by decide +kernel
theorem dX9_enter_51 : decode cX9_enter 51 = .ok (.iconst 1, 1) := by decide +kernel
theorem dX9_enter_52 : decode cX9_enter 52 = .ok (.iload_n 1, 1) := by decide +kernel
theorem dX9_enter_53 : decode cX9_enter 53 = .ok (.ishl, 1) := by decide +kernel
theorem dX9_enter_54 : decode cX9_enter 54 = .ok (.iconst 1, 1) := by decide +kernel
theorem dX9_enter_55 : decode cX9_enter 55 = .ok (.iload 4, 2) := by decide +kernel
theorem dX9_enter_57 : decode cX9_enter 57 = .ok (.ishl, 1) := by decide +kernel
theorem dX9_enter_58 : decode cX9_enter 58 = .ok (.ior, 1) := by decide +kernel
theorem dX9_enter_59 : decode cX9_enter 59 = .ok (.ior, 1) := by decide +kernel
theorem dX9_enter_60 : decode cX9_enter 60 = .ok (.putfield 30, 3) := by decide +kernel
theorem dX9_enter_63 : decode cX9_enter 63 = .ok (.return_, 1) := by decide +kernel
theorem dX9_stands_0 : decode cX9_stands 0 = .ok (.aload_n 0, 1) := by decide +kernel
theorem dX9_stands_1 : decode cX9_stands 1 = .ok (.getfield 9, 3) := by decide +kernel
theorem dX9_stands_4 : decode cX9_stands 4 = .ok (.iload_n 1, 1) := by decide +kernel
theorem dX9_stands_5 : decode cX9_stands 5 = .ok (.invokestatic 51, 3) := by decide +kernel
theorem dX9_stands_8 : decode cX9_stands 8 = .ok (.ifCond .eq 7, 3) := by decide +kernel
theorem dX9_stands_11 : decode cX9_stands 11 = .ok (.iconst 1, 1) := by decide +kernel
theorem dX9_stands_12 : decode cX9_stands 12 = .ok (.goto 4, 3) := by decide +kernel
theorem dX9_stands_15 : decode cX9_stands 15 = .ok (.iconst 0, 1) := by decide +kernel
theorem dX9_stands_16 : decode cX9_stands 16 = .ok (.ireturn, 1) := by decide +kernel
theorem dX9_opens_0 : decode cX9_opens 0 = .ok (.aload_n 0, 1) := by decide +kernel
theorem dX9_opens_1 : decode cX9_opens 1 = .ok (.getfield 9, 3) := by decide +kernel
theorem dX9_opens_4 : decode cX9_opens 4 = .ok (.iload_n 1, 1) := by decide +kernel
theorem dX9_opens_5 : decode cX9_opens 5 = .ok (.invokestatic 51, 3) := by decide +kernel
theorem dX9_opens_8 : decode cX9_opens 8 = .ok (.iconst 1, 1) := by decide +kernel
theorem dX9_opens_9 : decode cX9_opens 9 = .ok (.if_icmp .ne 7, 3) := by decide +kernel
theorem dX9_opens_12 : decode cX9_opens 12 = .ok (.iconst 1, 1) := by decide +kernel
theorem dX9_opens_13 : decode cX9_opens 13 = .ok (.goto 4, 3) := by decide +kernel
theorem dX9_opens_16 : decode cX9_opens 16 = .ok (.iconst 0, 1) := by decide +kernel
theorem dX9_opens_17 : decode cX9_opens 17 = .ok (.ireturn, 1) := by decide +kernel
theorem dX9_rhymed_0 : decode cX9_rhymed 0 = .ok (.aload_n 0, 1) := by decide +kernel
theorem dX9_rhymed_1 : decode cX9_rhymed 1 = .ok (.getfield 9, 3) := by decide +kernel
theorem dX9_rhymed_4 : decode cX9_rhymed 4 = .ok (.iload_n 1, 1) := by decide +kernel
theorem dX9_rhymed_5 : decode cX9_rhymed 5 = .ok (.invokestatic 51, 3) := by decide +kernel
theorem dX9_rhymed_8 : decode cX9_rhymed 8 = .ok (.iconst 2, 1) := by decide +kernel
theorem dX9_rhymed_9 : decode cX9_rhymed 9 = .ok (.if_icmp .ne 7, 3) := by decide +kernel
theorem dX9_rhymed_12 : decode cX9_rhymed 12 = .ok (.iconst 1, 1) := by decide +kernel
theorem dX9_rhymed_13 : decode cX9_rhymed 13 = .ok (.goto 4, 3) := by decide +kernel
theorem dX9_rhymed_16 : decode cX9_rhymed 16 = .ok (.iconst 0, 1) := by decide +kernel
theorem dX9_rhymed_17 : decode cX9_rhymed 17 = .ok (.ireturn, 1) := by decide +kernel
theorem dX9_binds_0 : decode cX9_binds 0 = .ok (.aload_n 0, 1) := by decide +kernel
theorem dX9_binds_1 : decode cX9_binds 1 = .ok (.getfield 30, 3) := by decide +kernel
theorem dX9_binds_4 : decode cX9_binds 4 = .ok (.iload_n 1, 1) := by decide +kernel
theorem dX9_binds_5 : decode cX9_binds 5 = .ok (.ishr, 1) := by decide +kernel
theorem dX9_binds_6 : decode cX9_binds 6 = .ok (.iconst 1, 1) := by decide +kernel
theorem dX9_binds_7 : decode cX9_binds 7 = .ok (.iand, 1) := by decide +kernel
theorem dX9_binds_8 : decode cX9_binds 8 = .ok (.ifCond .eq 7, 3) := by decide +kernel
theorem dX9_binds_11 : decode cX9_binds 11 = .ok (.iconst 1, 1) := by decide +kernel
theorem dX9_binds_12 : decode cX9_binds 12 = .ok (.goto 4, 3) := by decide +kernel
theorem dX9_binds_15 : decode cX9_binds 15 = .ok (.iconst 0, 1) := by decide +kernel
theorem dX9_binds_16 : decode cX9_binds 16 = .ok (.ireturn, 1) := by decide +kernel
theorem dX9_anchor_0 : decode cX9_anchor 0 = .ok (.aload_n 0, 1) := by decide +kernel
theorem dX9_anchor_1 : decode cX9_anchor 1 = .ok (.getfield 15, 3) := by decide +kernel
theorem dX9_anchor_4 : decode cX9_anchor 4 = .ok (.iload_n 1, 1) := by decide +kernel
theorem dX9_anchor_5 : decode cX9_anchor 5 = .ok (.invokestatic 51, 3) := by decide +kernel
theorem dX9_anchor_8 : decode cX9_anchor 8 = .ok (.ireturn, 1) := by decide +kernel
theorem dX9_isLaw_0 : decode cX9_isLaw 0 = .ok (.aload_n 0, 1) := by decide +kernel
theorem dX9_isLaw_1 : decode cX9_isLaw 1 = .ok (.getfield 27, 3) := by decide +kernel
theorem dX9_isLaw_4 : decode cX9_isLaw 4 = .ok (.ifCond .le 22, 3) := by decide +kernel
theorem dX9_isLaw_7 : decode cX9_isLaw 7 = .ok (.aload_n 0, 1) := by decide +kernel
theorem dX9_isLaw_8 : decode cX9_isLaw 8 = .ok (.getfield 30, 3) := by decide +kernel
theorem dX9_isLaw_11 : decode cX9_isLaw 11 = .ok (.iconst 1, 1) := by decide +kernel
theorem dX9_isLaw_12 : decode cX9_isLaw 12 = .ok (.aload_n 0, 1) := by decide +kernel
theorem dX9_isLaw_13 : decode cX9_isLaw 13 = .ok (.getfield 27, 3) := by decide +kernel
theorem dX9_isLaw_16 : decode cX9_isLaw 16 = .ok (.ishl, 1) := by decide +kernel
theorem dX9_isLaw_17 : decode cX9_isLaw 17 = .ok (.iconst 1, 1) := by decide +kernel
theorem dX9_isLaw_18 : decode cX9_isLaw 18 = .ok (.isub, 1) := by decide +kernel
theorem dX9_isLaw_19 : decode cX9_isLaw 19 = .ok (.if_icmp .ne 7, 3) := by decide +kernel
theorem dX9_isLaw_22 : decode cX9_isLaw 22 = .ok (.iconst 1, 1) := by decide +kernel
theorem dX9_isLaw_23 : decode cX9_isLaw 23 = .ok (.goto 4, 3) := by decide +kernel
theorem dX9_isLaw_26 : decode cX9_isLaw 26 = .ok (.iconst 0, 1) := by decide +kernel
theorem dX9_isLaw_27 : decode cX9_isLaw 27 = .ok (.ireturn, 1) := by decide +kernel
theorem dX9_firstLoose_0 : decode cX9_firstLoose 0 = .ok (.iconst 0, 1) := by decide +kernel
theorem dX9_firstLoose_1 : decode cX9_firstLoose 1 = .ok (.istore_n 1, 1) := by decide +kernel
theorem dX9_firstLoose_2 : decode cX9_firstLoose 2 = .ok (.iload_n 1, 1) := by decide +kernel
theorem dX9_firstLoose_3 : decode cX9_firstLoose 3 = .ok (.aload_n 0, 1) := by decide +kernel
theorem dX9_firstLoose_4 : decode cX9_firstLoose 4 = .ok (.getfield 27, 3) := by decide +kernel
theorem dX9_firstLoose_7 : decode cX9_firstLoose 7 = .ok (.if_icmp .ge 19, 3) := by decide +kernel
theorem dX9_firstLoose_10 : decode cX9_firstLoose 10 = .ok (.aload_n 0, 1) := by decide +kernel
theorem dX9_firstLoose_11 : decode cX9_firstLoose 11 = .ok (.iload_n 1, 1) := by decide +kernel
theorem dX9_firstLoose_12 : decode cX9_firstLoose 12 = .ok (.invokevirtual 85, 3) := by decide +kernel
theorem dX9_firstLoose_15 : decode cX9_firstLoose 15 = .ok (.ifCond .ne 5, 3) := by decide +kernel
theorem dX9_firstLoose_18 : decode cX9_firstLoose 18 = .ok (.iload_n 1, 1) := by decide +kernel
theorem dX9_firstLoose_19 : decode cX9_firstLoose 19 = .ok (.ireturn, 1) := by decide +kernel
theorem dX9_firstLoose_20 : decode cX9_firstLoose 20 = .ok (.iinc 1 1, 3) := by decide +kernel
theorem dX9_firstLoose_23 : decode cX9_firstLoose 23 = .ok (.goto (-21), 3) := by decide +kernel
theorem dX9_firstLoose_26 : decode cX9_firstLoose 26 = .ok (.bipush (-9), 2) := by decide +kernel
theorem dX9_firstLoose_28 : decode cX9_firstLoose 28 = .ok (.ireturn, 1) := by decide +kernel
theorem dX9_thingsOf_0 : decode cX9_thingsOf 0 = .ok (.iconst 0, 1) := by decide +kernel
theorem dX9_thingsOf_1 : decode cX9_thingsOf 1 = .ok (.istore_n 2, 1) := by decide +kernel
theorem dX9_thingsOf_2 : decode cX9_thingsOf 2 = .ok (.iconst 0, 1) := by decide +kernel
theorem dX9_thingsOf_3 : decode cX9_thingsOf 3 = .ok (.istore_n 3, 1) := by decide +kernel
theorem dX9_thingsOf_4 : decode cX9_thingsOf 4 = .ok (.iload_n 3, 1) := by decide +kernel
theorem dX9_thingsOf_5 : decode cX9_thingsOf 5 = .ok (.aload_n 0, 1) := by decide +kernel
theorem dX9_thingsOf_6 : decode cX9_thingsOf 6 = .ok (.getfield 27, 3) := by decide +kernel
theorem dX9_thingsOf_9 : decode cX9_thingsOf 9 = .ok (.if_icmp .ge 27, 3) := by decide +kernel
theorem dX9_thingsOf_12 : decode cX9_thingsOf 12 = .ok (.aload_n 0, 1) := by decide +kernel
theorem dX9_thingsOf_13 : decode cX9_thingsOf 13 = .ok (.iload_n 3, 1) := by decide +kernel
theorem dX9_thingsOf_14 : decode cX9_thingsOf 14 = .ok (.invokevirtual 85, 3) := by decide +kernel
theorem dX9_thingsOf_17 : decode cX9_thingsOf 17 = .ok (.ifCond .eq 13, 3) := by decide +kernel
theorem dX9_thingsOf_20 : decode cX9_thingsOf 20 = .ok (.iload_n 2, 1) := by decide +kernel
theorem dX9_thingsOf_21 : decode cX9_thingsOf 21 = .ok (.iconst 1, 1) := by decide +kernel
theorem dX9_thingsOf_22 : decode cX9_thingsOf 22 = .ok (.aload_n 1, 1) := by decide +kernel
theorem dX9_thingsOf_23 : decode cX9_thingsOf 23 = .ok (.iload_n 3, 1) := by decide +kernel
theorem dX9_thingsOf_24 : decode cX9_thingsOf 24 = .ok (.invokevirtual 89, 3) := by decide +kernel
theorem dX9_thingsOf_27 : decode cX9_thingsOf 27 = .ok (.ishl, 1) := by decide +kernel
theorem dX9_thingsOf_28 : decode cX9_thingsOf 28 = .ok (.ior, 1) := by decide +kernel
theorem dX9_thingsOf_29 : decode cX9_thingsOf 29 = .ok (.istore_n 2, 1) := by decide +kernel
theorem dX9_thingsOf_30 : decode cX9_thingsOf 30 = .ok (.iinc 3 1, 3) := by decide +kernel
theorem dX9_thingsOf_33 : decode cX9_thingsOf 33 = .ok (.goto (-29), 3) := by decide +kernel
theorem dX9_thingsOf_36 : decode cX9_thingsOf 36 = .ok (.iload_n 2, 1) := by decide +kernel
theorem dX9_thingsOf_37 : decode cX9_thingsOf 37 = .ok (.ireturn, 1) := by decide +kernel
theorem dX9_left_0 : decode cX9_left 0 = .ok (.iconst 0, 1) := by decide +kernel
theorem dX9_left_1 : decode cX9_left 1 = .ok (.istore_n 2, 1) := by decide +kernel
theorem dX9_left_2 : decode cX9_left 2 = .ok (.iconst 0, 1) := by decide +kernel
theorem dX9_left_3 : decode cX9_left 3 = .ok (.istore_n 3, 1) := by decide +kernel
theorem dX9_left_4 : decode cX9_left 4 = .ok (.iconst 0, 1) := by decide +kernel
theorem dX9_left_5 : decode cX9_left 5 = .ok (.istore 4, 2) := by decide +kernel
theorem dX9_left_7 : decode cX9_left 7 = .ok (.iload 4, 2) := by decide +kernel
theorem dX9_left_9 : decode cX9_left 9 = .ok (.aload_n 0, 1) := by decide +kernel
theorem dX9_left_10 : decode cX9_left 10 = .ok (.getfield 27, 3) := by decide +kernel
theorem dX9_left_13 : decode cX9_left 13 = .ok (.if_icmp .ge 87, 3) := by decide +kernel
theorem dX9_left_16 : decode cX9_left 16 = .ok (.aload_n 0, 1) := by decide +kernel
theorem dX9_left_17 : decode cX9_left 17 = .ok (.iload 4, 2) := by decide +kernel
theorem dX9_left_19 : decode cX9_left 19 = .ok (.invokevirtual 92, 3) := by decide +kernel
theorem dX9_left_22 : decode cX9_left 22 = .ok (.ifCond .eq 20, 3) := by decide +kernel
theorem dX9_left_25 : decode cX9_left 25 = .ok (.iload_n 2, 1) := by decide +kernel
theorem dX9_left_26 : decode cX9_left 26 = .ok (.aload_n 0, 1) := by decide +kernel
theorem dX9_left_27 : decode cX9_left 27 = .ok (.iload 4, 2) := by decide +kernel
theorem dX9_left_29 : decode cX9_left 29 = .ok (.invokevirtual 95, 3) := by decide +kernel
theorem dX9_left_32 : decode cX9_left 32 = .ok (.ishr, 1) := by decide +kernel
theorem dX9_left_33 : decode cX9_left 33 = .ok (.iconst 1, 1) := by decide +kernel
theorem dX9_left_34 : decode cX9_left 34 = .ok (.iand, 1) := by decide +kernel
theorem dX9_left_35 : decode cX9_left 35 = .ok (.ifCond .eq 7, 3) := by decide +kernel
theorem dX9_left_38 : decode cX9_left 38 = .ok (.iconst 1, 1) := by decide +kernel
theorem dX9_left_39 : decode cX9_left 39 = .ok (.goto 4, 3) := by decide +kernel
theorem dX9_left_42 : decode cX9_left 42 = .ok (.iconst 0, 1) := by decide +kernel
theorem dX9_left_43 : decode cX9_left 43 = .ok (.istore 5, 2) := by decide +kernel
theorem dX9_left_45 : decode cX9_left 45 = .ok (.iload_n 1, 1) := by decide +kernel
theorem dX9_left_46 : decode cX9_left 46 = .ok (.iload 4, 2) := by decide +kernel
theorem dX9_left_48 : decode cX9_left 48 = .ok (.ishr, 1) := by decide +kernel
theorem dX9_left_49 : decode cX9_left 49 = .ok (.iconst 1, 1) := by decide +kernel
theorem dX9_left_50 : decode cX9_left 50 = .ok (.iand, 1) := by decide +kernel
theorem dX9_left_51 : decode cX9_left 51 = .ok (.ifCond .ne 8, 3) := by decide +kernel
theorem dX9_left_54 : decode cX9_left 54 = .ok (.iload 5, 2) := by decide +kernel
theorem dX9_left_56 : decode cX9_left 56 = .ok (.ifCond .eq 13, 3) := by decide +kernel
theorem dX9_left_59 : decode cX9_left 59 = .ok (.iload_n 2, 1) := by decide +kernel
theorem dX9_left_60 : decode cX9_left 60 = .ok (.iconst 1, 1) := by decide +kernel
theorem dX9_left_61 : decode cX9_left 61 = .ok (.iload 4, 2) := by decide +kernel
theorem dX9_left_63 : decode cX9_left 63 = .ok (.ishl, 1) := by decide +kernel
theorem dX9_left_64 : decode cX9_left 64 = .ok (.ior, 1) := by decide +kernel
theorem dX9_left_65 : decode cX9_left 65 = .ok (.istore_n 2, 1) := by decide +kernel
theorem dX9_left_66 : decode cX9_left 66 = .ok (.goto 28, 3) := by decide +kernel
theorem dX9_left_69 : decode cX9_left 69 = .ok (.aload_n 0, 1) := by decide +kernel
theorem dX9_left_70 : decode cX9_left 70 = .ok (.iload 4, 2) := by decide +kernel
theorem dX9_left_72 : decode cX9_left 72 = .ok (.invokevirtual 92, 3) := by decide +kernel
theorem dX9_left_75 : decode cX9_left 75 = .ok (.ifCond .eq 19, 3) := by decide +kernel
theorem dX9_left_78 : decode cX9_left 78 = .ok (.iload_n 3, 1) := by decide +kernel
theorem dX9_left_79 : decode cX9_left 79 = .ok (.iconst 1, 1) := by decide +kernel
theorem dX9_left_80 : decode cX9_left 80 = .ok (.iload 4, 2) := by decide +kernel
theorem dX9_left_82 : decode cX9_left 82 = .ok (.ishl, 1) := by decide +kernel
theorem dX9_left_83 : decode cX9_left 83 = .ok (.iconst 1, 1) := by decide +kernel
theorem dX9_left_84 : decode cX9_left 84 = .ok (.aload_n 0, 1) := by decide +kernel
theorem dX9_left_85 : decode cX9_left 85 = .ok (.iload 4, 2) := by decide +kernel
theorem dX9_left_87 : decode cX9_left 87 = .ok (.invokevirtual 95, 3) := by decide +kernel
theorem dX9_left_90 : decode cX9_left 90 = .ok (.ishl, 1) := by decide +kernel
theorem dX9_left_91 : decode cX9_left 91 = .ok (.ior, 1) := by decide +kernel
theorem dX9_left_92 : decode cX9_left 92 = .ok (.ior, 1) := by decide +kernel
theorem dX9_left_93 : decode cX9_left 93 = .ok (.istore_n 3, 1) := by decide +kernel
theorem dX9_left_94 : decode cX9_left 94 = .ok (.iinc 4 1, 3) := by decide +kernel
theorem dX9_left_97 : decode cX9_left 97 = .ok (.goto (-90), 3) := by decide +kernel
theorem dX9_left_100 : decode cX9_left 100 = .ok (.iload_n 3, 1) := by decide +kernel
theorem dX9_left_101 : decode cX9_left 101 = .ok (.ireturn, 1) := by decide +kernel
theorem dX9_keyLine_0 : decode cX9_keyLine 0 = .ok (.bipush (-9), 2) := by decide +kernel
theorem dX9_keyLine_2 : decode cX9_keyLine 2 = .ok (.istore_n 1, 1) := by decide +kernel
theorem dX9_keyLine_3 : decode cX9_keyLine 3 = .ok (.bipush 9, 2) := by decide +kernel
theorem dX9_keyLine_5 : decode cX9_keyLine 5 = .ok (.istore_n 2, 1) := by decide +kernel
theorem dX9_keyLine_6 : decode cX9_keyLine 6 = .ok (.iconst 0, 1) := by decide +kernel
theorem dX9_keyLine_7 : decode cX9_keyLine 7 = .ok (.istore_n 3, 1) := by decide +kernel
theorem dX9_keyLine_8 : decode cX9_keyLine 8 = .ok (.iload_n 3, 1) := by decide +kernel
theorem dX9_keyLine_9 : decode cX9_keyLine 9 = .ok (.aload_n 0, 1) := by decide +kernel
theorem dX9_keyLine_10 : decode cX9_keyLine 10 = .ok (.getfield 27, 3) := by decide +kernel
theorem dX9_keyLine_13 : decode cX9_keyLine 13 = .ok (.if_icmp .ge 32, 3) := by decide +kernel
theorem dX9_keyLine_16 : decode cX9_keyLine 16 = .ok (.aload_n 0, 1) := by decide +kernel
theorem dX9_keyLine_17 : decode cX9_keyLine 17 = .ok (.iconst 1, 1) := by decide +kernel
theorem dX9_keyLine_18 : decode cX9_keyLine 18 = .ok (.iload_n 3, 1) := by decide +kernel
theorem dX9_keyLine_19 : decode cX9_keyLine 19 = .ok (.ishl, 1) := by decide +kernel
theorem dX9_keyLine_20 : decode cX9_keyLine 20 = .ok (.invokevirtual 98, 3) := by decide +kernel
theorem dX9_keyLine_23 : decode cX9_keyLine 23 = .ok (.invokestatic 101, 3) := by decide +kernel
theorem dX9_keyLine_26 : decode cX9_keyLine 26 = .ok (.istore 4, 2) := by decide +kernel
theorem dX9_keyLine_28 : decode cX9_keyLine 28 = .ok (.iload 4, 2) := by decide +kernel
theorem dX9_keyLine_30 : decode cX9_keyLine 30 = .ok (.iload_n 2, 1) := by decide +kernel
theorem dX9_keyLine_31 : decode cX9_keyLine 31 = .ok (.if_icmp .ge 8, 3) := by decide +kernel
theorem dX9_keyLine_34 : decode cX9_keyLine 34 = .ok (.iload 4, 2) := by decide +kernel
theorem dX9_keyLine_36 : decode cX9_keyLine 36 = .ok (.istore_n 2, 1) := by decide +kernel
theorem dX9_keyLine_37 : decode cX9_keyLine 37 = .ok (.iload_n 3, 1) := by decide +kernel
theorem dX9_keyLine_38 : decode cX9_keyLine 38 = .ok (.istore_n 1, 1) := by decide +kernel
theorem dX9_keyLine_39 : decode cX9_keyLine 39 = .ok (.iinc 3 1, 3) := by decide +kernel
theorem dX9_keyLine_42 : decode cX9_keyLine 42 = .ok (.goto (-34), 3) := by decide +kernel
theorem dX9_keyLine_45 : decode cX9_keyLine 45 = .ok (.iload_n 1, 1) := by decide +kernel
theorem dX9_keyLine_46 : decode cX9_keyLine 46 = .ok (.ireturn, 1) := by decide +kernel
theorem dX10_init_0 : decode cX10_init 0 = .ok (.aload_n 0, 1) := by decide +kernel
theorem dX10_init_1 : decode cX10_init 1 = .ok (.invokespecial 3, 3) := by decide +kernel
theorem dX10_init_4 : decode cX10_init 4 = .ok (.aload_n 0, 1) := by decide +kernel
theorem dX10_init_5 : decode cX10_init 5 = .ok (.bipush 48, 2) := by decide +kernel
theorem dX10_init_7 : decode cX10_init 7 = .ok (.newarray .int, 2) := by decide +kernel
theorem dX10_init_9 : decode cX10_init 9 = .ok (.putfield 9, 3) := by decide +kernel
theorem dX10_init_12 : decode cX10_init 12 = .ok (.aload_n 0, 1) := by decide +kernel
theorem dX10_init_13 : decode cX10_init 13 = .ok (.bipush 16, 2) := by decide +kernel
theorem dX10_init_15 : decode cX10_init 15 = .ok (.newarray .int, 2) := by decide +kernel
theorem dX10_init_17 : decode cX10_init 17 = .ok (.putfield 15, 3) := by decide +kernel
theorem dX10_init_20 : decode cX10_init 20 = .ok (.aload_n 0, 1) := by decide +kernel
theorem dX10_init_21 : decode cX10_init 21 = .ok (.bipush 16, 2) := by decide +kernel
theorem dX10_init_23 : decode cX10_init 23 = .ok (.newarray .int, 2) := by decide +kernel
theorem dX10_init_25 : decode cX10_init 25 = .ok (.putfield 18, 3) := by decide +kernel
theorem dX10_init_28 : decode cX10_init 28 = .ok (.return_, 1) := by decide +kernel
theorem dX10_size_0 : decode cX10_size 0 = .ok (.aload_n 0, 1) := by decide +kernel
theorem dX10_size_1 : decode cX10_size 1 = .ok (.getfield 21, 3) := by decide +kernel
theorem dX10_size_4 : decode cX10_size 4 = .ok (.ireturn, 1) := by decide +kernel
theorem dX10_isFull_0 : decode cX10_isFull 0 = .ok (.aload_n 0, 1) := by decide +kernel
theorem dX10_isFull_1 : decode cX10_isFull 1 = .ok (.getfield 21, 3) := by decide +kernel
theorem dX10_isFull_4 : decode cX10_isFull 4 = .ok (.bipush 16, 2) := by decide +kernel
theorem dX10_isFull_6 : decode cX10_isFull 6 = .ok (.if_icmp .lt 7, 3) := by decide +kernel
theorem dX10_isFull_9 : decode cX10_isFull 9 = .ok (.iconst 1, 1) := by decide +kernel
theorem dX10_isFull_10 : decode cX10_isFull 10 = .ok (.goto 4, 3) := by decide +kernel
theorem dX10_isFull_13 : decode cX10_isFull 13 = .ok (.iconst 0, 1) := by decide +kernel
theorem dX10_isFull_14 : decode cX10_isFull 14 = .ok (.ireturn, 1) := by decide +kernel
theorem dX10_has_0 : decode cX10_has 0 = .ok (.iload_n 1, 1) := by decide +kernel
theorem dX10_has_1 : decode cX10_has 1 = .ok (.ifCond .lt 15, 3) := by decide +kernel
theorem dX10_has_4 : decode cX10_has 4 = .ok (.iload_n 1, 1) := by decide +kernel
theorem dX10_has_5 : decode cX10_has 5 = .ok (.aload_n 0, 1) := by decide +kernel
theorem dX10_has_6 : decode cX10_has 6 = .ok (.getfield 21, 3) := by decide +kernel
theorem dX10_has_9 : decode cX10_has 9 = .ok (.if_icmp .ge 7, 3) := by decide +kernel
theorem dX10_has_12 : decode cX10_has 12 = .ok (.iconst 1, 1) := by decide +kernel
theorem dX10_has_13 : decode cX10_has 13 = .ok (.goto 4, 3) := by decide +kernel
theorem dX10_has_16 : decode cX10_has 16 = .ok (.iconst 0, 1) := by decide +kernel
theorem dX10_has_17 : decode cX10_has 17 = .ok (.ireturn, 1) := by decide +kernel
theorem dX10_wipe_0 : decode cX10_wipe 0 = .ok (.aload_n 0, 1) := by decide +kernel
theorem dX10_wipe_1 : decode cX10_wipe 1 = .ok (.iconst 0, 1) := by decide +kernel
theorem dX10_wipe_2 : decode cX10_wipe 2 = .ok (.putfield 21, 3) := by decide +kernel
theorem dX10_wipe_5 : decode cX10_wipe 5 = .ok (.return_, 1) := by decide +kernel
theorem dX10_add_0 : decode cX10_add 0 = .ok (.aload_n 0, 1) := by decide +kernel
theorem dX10_add_1 : decode cX10_add 1 = .ok (.invokevirtual 25, 3) := by decide +kernel
theorem dX10_add_4 : decode cX10_add 4 = .ok (.ifCond .eq 4, 3) := by decide +kernel
theorem dX10_add_7 : decode cX10_add 7 = .ok (.return_, 1) := by decide +kernel
theorem dX10_add_8 : decode cX10_add 8 = .ok (.aload_n 0, 1) := by decide +kernel
theorem dX10_add_9 : decode cX10_add 9 = .ok (.getfield 9, 3) := by decide +kernel
theorem dX10_add_12 : decode cX10_add 12 = .ok (.aload_n 0, 1) := by decide +kernel
theorem dX10_add_13 : decode cX10_add 13 = .ok (.getfield 21, 3) := by decide +kernel
theorem dX10_add_16 : decode cX10_add 16 = .ok (.iload_n 1, 1) := by decide +kernel
theorem dX10_add_17 : decode cX10_add 17 = .ok (.invokestatic 29, 3) := by decide +kernel
theorem dX10_add_20 : decode cX10_add 20 = .ok (.aload_n 0, 1) := by decide +kernel
theorem dX10_add_21 : decode cX10_add 21 = .ok (.getfield 9, 3) := by decide +kernel
theorem dX10_add_24 : decode cX10_add 24 = .ok (.bipush 16, 2) := by decide +kernel
theorem dX10_add_26 : decode cX10_add 26 = .ok (.aload_n 0, 1) := by decide +kernel
theorem dX10_add_27 : decode cX10_add 27 = .ok (.getfield 21, 3) := by decide +kernel
theorem dX10_add_30 : decode cX10_add 30 = .ok (.iadd, 1) := by decide +kernel
theorem dX10_add_31 : decode cX10_add 31 = .ok (.iload_n 2, 1) := by decide +kernel
theorem dX10_add_32 : decode cX10_add 32 = .ok (.invokestatic 29, 3) := by decide +kernel
theorem dX10_add_35 : decode cX10_add 35 = .ok (.aload_n 0, 1) := by decide +kernel
theorem dX10_add_36 : decode cX10_add 36 = .ok (.getfield 15, 3) := by decide +kernel
theorem dX10_add_39 : decode cX10_add 39 = .ok (.aload_n 0, 1) := by decide +kernel
theorem dX10_add_40 : decode cX10_add 40 = .ok (.getfield 21, 3) := by decide +kernel
theorem dX10_add_43 : decode cX10_add 43 = .ok (.iload_n 3, 1) := by decide +kernel
theorem dX10_add_44 : decode cX10_add 44 = .ok (.invokestatic 29, 3) := by decide +kernel
theorem dX10_add_47 : decode cX10_add 47 = .ok (.aload_n 0, 1) := by decide +kernel
theorem dX10_add_48 : decode cX10_add 48 = .ok (.getfield 18, 3) := by decide +kernel
theorem dX10_add_51 : decode cX10_add 51 = .ok (.aload_n 0, 1) := by decide +kernel
theorem dX10_add_52 : decode cX10_add 52 = .ok (.getfield 21, 3) := by decide +kernel
theorem dX10_add_55 : decode cX10_add 55 = .ok (.iload 4, 2) := by decide +kernel
theorem dX10_add_57 : decode cX10_add 57 = .ok (.invokestatic 29, 3) := by decide +kernel
theorem dX10_add_60 : decode cX10_add 60 = .ok (.aload_n 0, 1) := by decide +kernel
theorem dX10_add_61 : decode cX10_add 61 = .ok (.dup, 1) := by decide +kernel
theorem dX10_add_62 : decode cX10_add 62 = .ok (.getfield 21, 3) := by decide +kernel
theorem dX10_add_65 : decode cX10_add 65 = .ok (.iconst 1, 1) := by decide +kernel
theorem dX10_add_66 : decode cX10_add 66 = .ok (.iadd, 1) := by decide +kernel
theorem dX10_add_67 : decode cX10_add 67 = .ok (.putfield 21, 3) := by decide +kernel
theorem dX10_add_70 : decode cX10_add 70 = .ok (.return_, 1) := by decide +kernel
theorem dX10_sound_0 : decode cX10_sound 0 = .ok (.aload_n 0, 1) := by decide +kernel
theorem dX10_sound_1 : decode cX10_sound 1 = .ok (.getfield 9, 3) := by decide +kernel
theorem dX10_sound_4 : decode cX10_sound 4 = .ok (.iload_n 1, 1) := by decide +kernel
theorem dX10_sound_5 : decode cX10_sound 5 = .ok (.bipush 16, 2) := by decide +kernel
theorem dX10_sound_7 : decode cX10_sound 7 = .ok (.imul, 1) := by decide +kernel
theorem dX10_sound_8 : decode cX10_sound 8 = .ok (.iload_n 2, 1) := by decide +kernel
theorem dX10_sound_9 : decode cX10_sound 9 = .ok (.iadd, 1) := by decide +kernel
theorem dX10_sound_10 : decode cX10_sound 10 = .ok (.invokestatic 35, 3) := by decide +kernel
theorem dX10_sound_13 : decode cX10_sound 13 = .ok (.ireturn, 1) := by decide +kernel
theorem dX10_meaning_0 : decode cX10_meaning 0 = .ok (.aload_n 0, 1) := by decide +kernel
theorem dX10_meaning_1 : decode cX10_meaning 1 = .ok (.getfield 15, 3) := by decide +kernel
theorem dX10_meaning_4 : decode cX10_meaning 4 = .ok (.iload_n 1, 1) := by decide +kernel
theorem dX10_meaning_5 : decode cX10_meaning 5 = .ok (.invokestatic 35, 3) := by decide +kernel
theorem dX10_meaning_8 : decode cX10_meaning 8 = .ok (.ireturn, 1) := by decide +kernel
theorem dX10_syllables_0 : decode cX10_syllables 0 = .ok (.aload_n 0, 1) := by decide +kernel
theorem dX10_syllables_1 : decode cX10_syllables 1 = .ok (.getfield 18, 3) := by decide +kernel
theorem dX10_syllables_4 : decode cX10_syllables 4 = .ok (.iload_n 1, 1) := by decide +kernel
theorem dX10_syllables_5 : decode cX10_syllables 5 = .ok (.invokestatic 35, 3) := by decide +kernel
theorem dX10_syllables_8 : decode cX10_syllables 8 = .ok (.ireturn, 1) := by decide +kernel
theorem dX10_rhyme_0 : decode cX10_rhyme 0 = .ok (.iload_n 2, 1) := by decide +kernel
theorem dX10_rhyme_1 : decode cX10_rhyme 1 = .ok (.iload_n 3, 1) := by decide +kernel
theorem dX10_rhyme_2 : decode cX10_rhyme 2 = .ok (.if_icmp .eq 22, 3) := by decide +kernel
theorem dX10_rhyme_5 : decode cX10_rhyme 5 = .ok (.aload_n 0, 1) := by decide +kernel
theorem dX10_rhyme_6 : decode cX10_rhyme 6 = .ok (.iload_n 1, 1) := by decide +kernel
theorem dX10_rhyme_7 : decode cX10_rhyme 7 = .ok (.iload_n 2, 1) := by decide +kernel
theorem dX10_rhyme_8 : decode cX10_rhyme 8 = .ok (.invokevirtual 39, 3) := by decide +kernel
theorem dX10_rhyme_11 : decode cX10_rhyme 11 = .ok (.aload_n 0, 1) := by decide +kernel
theorem dX10_rhyme_12 : decode cX10_rhyme 12 = .ok (.iload_n 1, 1) := by decide +kernel
theorem dX10_rhyme_13 : decode cX10_rhyme 13 = .ok (.iload_n 3, 1) := by decide +kernel
theorem dX10_rhyme_14 : decode cX10_rhyme 14 = .ok (.invokevirtual 39, 3) := by decide +kernel
theorem dX10_rhyme_17 : decode cX10_rhyme 17 = .ok (.if_icmp .ne 7, 3) := by decide +kernel
theorem dX10_rhyme_20 : decode cX10_rhyme 20 = .ok (.iconst 1, 1) := by decide +kernel
theorem dX10_rhyme_21 : decode cX10_rhyme 21 = .ok (.goto 4, 3) := by decide +kernel
theorem dX10_rhyme_24 : decode cX10_rhyme 24 = .ok (.iconst 0, 1) := by decide +kernel
theorem dX10_rhyme_25 : decode cX10_rhyme 25 = .ok (.ireturn, 1) := by decide +kernel
theorem dX10_mix_0 : decode cX10_mix 0 = .ok (.iconst 0, 1) := by decide +kernel
theorem dX10_mix_1 : decode cX10_mix 1 = .ok (.istore_n 2, 1) := by decide +kernel
theorem dX10_mix_2 : decode cX10_mix 2 = .ok (.iload_n 2, 1) := by decide +kernel
theorem dX10_mix_3 : decode cX10_mix 3 = .ok (.aload_n 0, 1) := by decide +kernel
theorem dX10_mix_4 : decode cX10_mix 4 = .ok (.getfield 21, 3) := by decide +kernel
theorem dX10_mix_7 : decode cX10_mix 7 = .ok (.if_icmp .ge 35, 3) := by decide +kernel
theorem dX10_mix_10 : decode cX10_mix 10 = .ok (.aload_n 0, 1) := by decide +kernel
theorem dX10_mix_11 : decode cX10_mix 11 = .ok (.getfield 9, 3) := by decide +kernel
theorem dX10_mix_14 : decode cX10_mix 14 = .ok (.bipush 32, 2) := by decide +kernel
theorem dX10_mix_16 : decode cX10_mix 16 = .ok (.iload_n 2, 1) := by decide +kernel
theorem dX10_mix_17 : decode cX10_mix 17 = .ok (.iadd, 1) := by decide +kernel
theorem dX10_mix_18 : decode cX10_mix 18 = .ok (.aload_n 0, 1) := by decide +kernel
theorem dX10_mix_19 : decode cX10_mix 19 = .ok (.iload_n 2, 1) := by decide +kernel
theorem dX10_mix_20 : decode cX10_mix 20 = .ok (.iload_n 1, 1) := by decide +kernel
theorem dX10_mix_21 : decode cX10_mix 21 = .ok (.if_icmp .ne 7, 3) := by decide +kernel
theorem dX10_mix_24 : decode cX10_mix 24 = .ok (.iconst 0, 1) := by decide +kernel
theorem dX10_mix_25 : decode cX10_mix 25 = .ok (.goto 4, 3) := by decide +kernel
theorem dX10_mix_28 : decode cX10_mix 28 = .ok (.iconst 1, 1) := by decide +kernel
theorem dX10_mix_29 : decode cX10_mix 29 = .ok (.iload_n 2, 1) := by decide +kernel
theorem dX10_mix_30 : decode cX10_mix 30 = .ok (.invokevirtual 39, 3) := by decide +kernel
theorem dX10_mix_33 : decode cX10_mix 33 = .ok (.invokestatic 29, 3) := by decide +kernel
theorem dX10_mix_36 : decode cX10_mix 36 = .ok (.iinc 2 1, 3) := by decide +kernel
theorem dX10_mix_39 : decode cX10_mix 39 = .ok (.goto (-37), 3) := by decide +kernel
theorem dX10_mix_42 : decode cX10_mix 42 = .ok (.return_, 1) := by decide +kernel
theorem dX11_init_0 : decode cX11_init 0 = .ok (.aload_n 0, 1) := by decide +kernel
theorem dX11_init_1 : decode cX11_init 1 = .ok (.invokespecial 1, 3) := by decide +kernel
theorem dX11_init_4 : decode cX11_init 4 = .ok (.aload_n 0, 1) := by decide +kernel
theorem dX11_init_5 : decode cX11_init 5 = .ok (.new 7, 3) := by decide +kernel
theorem dX11_init_8 : decode cX11_init 8 = .ok (.dup, 1) := by decide +kernel
theorem dX11_init_9 : decode cX11_init 9 = .ok (.invokespecial 9, 3) := by decide +kernel
theorem dX11_init_12 : decode cX11_init 12 = .ok (.putfield 10, 3) := by decide +kernel
theorem dX11_init_15 : decode cX11_init 15 = .ok (.aload_n 0, 1) := by decide +kernel
theorem dX11_init_16 : decode cX11_init 16 = .ok (.new 16, 3) := by decide +kernel
theorem dX11_init_19 : decode cX11_init 19 = .ok (.dup, 1) := by decide +kernel
theorem dX11_init_20 : decode cX11_init 20 = .ok (.invokespecial 18, 3) := by decide +kernel
theorem dX11_init_23 : decode cX11_init 23 = .ok (.putfield 19, 3) := by decide +kernel
theorem dX11_init_26 : decode cX11_init 26 = .ok (.aload_n 0, 1) := by decide +kernel
theorem dX11_init_27 : decode cX11_init 27 = .ok (.new 23, 3) := by decide +kernel
theorem dX11_init_30 : decode cX11_init 30 = .ok (.dup, 1) := by decide +kernel
theorem dX11_init_31 : decode cX11_init 31 = .ok (.bipush 8, 2) := by decide +kernel
theorem dX11_init_33 : decode cX11_init 33 = .ok (.invokespecial 25, 3) := by decide +kernel
theorem dX11_init_36 : decode cX11_init 36 = .ok (.putfield 28, 3) := by decide +kernel
theorem dX11_init_39 : decode cX11_init 39 = .ok (.aload_n 0, 1) := by decide +kernel
theorem dX11_init_40 : decode cX11_init 40 = .ok (.new 32, 3) := by decide +kernel
theorem dX11_init_43 : decode cX11_init 43 = .ok (.dup, 1) := by decide +kernel
theorem dX11_init_44 : decode cX11_init 44 = .ok (.invokespecial 34, 3) := by decide +kernel
theorem dX11_init_47 : decode cX11_init 47 = .ok (.putfield 35, 3) := by decide +kernel
theorem dX11_init_50 : decode cX11_init 50 = .ok (.aload_n 0, 1) := by decide +kernel
theorem dX11_init_51 : decode cX11_init 51 = .ok (.new 39, 3) := by decide +kernel
theorem dX11_init_54 : decode cX11_init 54 = .ok (.dup, 1) := by decide +kernel
theorem dX11_init_55 : decode cX11_init 55 = .ok (.invokespecial 41, 3) := by decide +kernel
theorem dX11_init_58 : decode cX11_init 58 = .ok (.putfield 42, 3) := by decide +kernel
theorem dX11_init_61 : decode cX11_init 61 = .ok (.aload_n 0, 1) := by decide +kernel
theorem dX11_init_62 : decode cX11_init 62 = .ok (.new 46, 3) := by decide +kernel
theorem dX11_init_65 : decode cX11_init 65 = .ok (.dup, 1) := by decide +kernel
theorem dX11_init_66 : decode cX11_init 66 = .ok (.invokespecial 48, 3) := by decide +kernel
theorem dX11_init_69 : decode cX11_init 69 = .ok (.putfield 49, 3) := by decide +kernel
theorem dX11_init_72 : decode cX11_init 72 = .ok (.aload_n 0, 1) := by decide +kernel
theorem dX11_init_73 : decode cX11_init 73 = .ok (.new 23, 3) := by decide +kernel
theorem dX11_init_76 : decode cX11_init 76 = .ok (.dup, 1) := by decide +kernel
theorem dX11_init_77 : decode cX11_init 77 = .ok (.bipush 8, 2) := by decide +kernel
theorem dX11_init_79 : decode cX11_init 79 = .ok (.invokespecial 25, 3) := by decide +kernel
theorem dX11_init_82 : decode cX11_init 82 = .ok (.putfield 53, 3) := by decide +kernel
theorem dX11_init_85 : decode cX11_init 85 = .ok (.aload_n 0, 1) := by decide +kernel
theorem dX11_init_86 : decode cX11_init 86 = .ok (.new 23, 3) := by decide +kernel
theorem dX11_init_89 : decode cX11_init 89 = .ok (.dup, 1) := by decide +kernel
theorem dX11_init_90 : decode cX11_init 90 = .ok (.bipush 8, 2) := by decide +kernel
theorem dX11_init_92 : decode cX11_init 92 = .ok (.invokespecial 25, 3) := by decide +kernel
theorem dX11_init_95 : decode cX11_init 95 = .ok (.putfield 56, 3) := by decide +kernel
theorem dX11_init_98 : decode cX11_init 98 = .ok (.aload_n 0, 1) := by decide +kernel
theorem dX11_init_99 : decode cX11_init 99 = .ok (.new 59, 3) := by decide +kernel
theorem dX11_init_102 : decode cX11_init 102 = .ok (.dup, 1) := by decide +kernel
theorem dX11_init_103 : decode cX11_init 103 = .ok (.invokespecial 61, 3) := by decide +kernel
theorem dX11_init_106 : decode cX11_init 106 = .ok (.putfield 62, 3) := by decide +kernel
theorem dX11_init_109 : decode cX11_init 109 = .ok (.aload_n 0, 1) := by decide +kernel
theorem dX11_init_110 : decode cX11_init 110 = .ok (.new 59, 3) := by decide +kernel
theorem dX11_init_113 : decode cX11_init 113 = .ok (.dup, 1) := by decide +kernel
theorem dX11_init_114 : decode cX11_init 114 = .ok (.invokespecial 61, 3) := by decide +kernel
theorem dX11_init_117 : decode cX11_init 117 = .ok (.putfield 66, 3) := by decide +kernel
theorem dX11_init_120 : decode cX11_init 120 = .ok (.return_, 1) := by decide +kernel
theorem dX11_type_0 : decode cX11_type 0 = .ok (.iload_n 3, 1) := by decide +kernel
theorem dX11_type_1 : decode cX11_type 1 = .ok (.iconst 1, 1) := by decide +kernel
theorem dX11_type_2 : decode cX11_type 2 = .ok (.if_icmp .lt 9, 3) := by decide +kernel
theorem dX11_type_5 : decode cX11_type 5 = .ok (.iload_n 3, 1) := by decide +kernel
theorem dX11_type_6 : decode cX11_type 6 = .ok (.bipush 8, 2) := by decide +kernel
theorem dX11_type_8 : decode cX11_type 8 = .ok (.if_icmp .le 5, 3) := by decide +kernel
theorem dX11_type_11 : decode cX11_type 11 = .ok (.iconst (-1), 1) := by decide +kernel
theorem dX11_type_12 : decode cX11_type 12 = .ok (.ireturn, 1) := by decide +kernel
theorem dX11_type_13 : decode cX11_type 13 = .ok (.aload_n 0, 1) := by decide +kernel
theorem dX11_type_14 : decode cX11_type 14 = .ok (.getfield 10, 3) := by decide +kernel
theorem dX11_type_17 : decode cX11_type 17 = .ok (.invokevirtual 69, 3) := by decide +kernel
theorem dX11_type_20 : decode cX11_type 20 = .ok (.iload_n 3, 1) := by decide +kernel
theorem dX11_type_21 : decode cX11_type 21 = .ok (.iadd, 1) := by decide +kernel
theorem dX11_type_22 : decode cX11_type 22 = .ok (.sipush 500, 3) := by decide +kernel
theorem dX11_type_25 : decode cX11_type 25 = .ok (.if_icmp .le 6, 3) := by decide +kernel
theorem dX11_type_28 : decode cX11_type 28 = .ok (.bipush (-3), 2) := by decide +kernel
theorem dX11_type_30 : decode cX11_type 30 = .ok (.ireturn, 1) := by decide +kernel
theorem dX11_type_31 : decode cX11_type 31 = .ok (.iload_n 3, 1) := by decide +kernel
theorem dX11_type_32 : decode cX11_type 32 = .ok (.iconst 1, 1) := by decide +kernel
theorem dX11_type_33 : decode cX11_type 33 = .ok (.isub, 1) := by decide +kernel
theorem dX11_type_34 : decode cX11_type 34 = .ok (.istore 4, 2) := by decide +kernel
theorem dX11_type_36 : decode cX11_type 36 = .ok (.iload 4, 2) := by decide +kernel
theorem dX11_type_38 : decode cX11_type 38 = .ok (.ifCond .lt 28, 3) := by decide +kernel
theorem dX11_type_41 : decode cX11_type 41 = .ok (.aload_n 0, 1) := by decide +kernel
theorem dX11_type_42 : decode cX11_type 42 = .ok (.getfield 10, 3) := by decide +kernel
theorem dX11_type_45 : decode cX11_type 45 = .ok (.lload_n 1, 1) := by decide +kernel
theorem dX11_type_46 : decode cX11_type 46 = .ok (.bipush 8, 2) := by decide +kernel
theorem dX11_type_48 : decode cX11_type 48 = .ok (.iload 4, 2) := by decide +kernel
theorem dX11_type_50 : decode cX11_type 50 = .ok (.imul, 1) := by decide +kernel
theorem dX11_type_51 : decode cX11_type 51 = .ok (.lushr, 1) := by decide +kernel
theorem dX11_type_52 : decode cX11_type 52 = .ok (.l2i, 1) := by decide +kernel
theorem dX11_type_53 : decode cX11_type 53 = .ok (.sipush 255, 3) := by decide +kernel
theorem dX11_type_56 : decode cX11_type 56 = .ok (.iand, 1) := by decide +kernel
theorem dX11_type_57 : decode cX11_type 57 = .ok (.invokevirtual 73, 3) := by decide +kernel
theorem dX11_type_60 : decode cX11_type 60 = .ok (.iinc 4 (-1), 3) := by decide +kernel
theorem dX11_type_63 : decode cX11_type 63 = .ok (.goto (-27), 3) := by decide +kernel
theorem dX11_type_66 : decode cX11_type 66 = .ok (.aload_n 0, 1) := by decide +kernel
theorem dX11_type_67 : decode cX11_type 67 = .ok (.getfield 10, 3) := by decide +kernel
theorem dX11_type_70 : decode cX11_type 70 = .ok (.invokevirtual 69, 3) := by decide +kernel
theorem dX11_type_73 : decode cX11_type 73 = .ok (.ireturn, 1) := by decide +kernel
theorem dX11_clear_0 : decode cX11_clear 0 = .ok (.aload_n 0, 1) := by decide +kernel
theorem dX11_clear_1 : decode cX11_clear 1 = .ok (.getfield 10, 3) := by decide +kernel
theorem dX11_clear_4 : decode cX11_clear 4 = .ok (.invokevirtual 69, 3) := by decide +kernel
theorem dX11_clear_7 : decode cX11_clear 7 = .ok (.istore_n 1, 1) := by decide +kernel
theorem dX11_clear_8 : decode cX11_clear 8 = .ok (.aload_n 0, 1) := by decide +kernel
theorem dX11_clear_9 : decode cX11_clear 9 = .ok (.getfield 10, 3) := by decide +kernel
theorem dX11_clear_12 : decode cX11_clear 12 = .ok (.invokevirtual 76, 3) := by decide +kernel
theorem dX11_clear_15 : decode cX11_clear 15 = .ok (.iload_n 1, 1) := by decide +kernel
theorem dX11_clear_16 : decode cX11_clear 16 = .ok (.ireturn, 1) := by decide +kernel
theorem dX11_read_0 : decode cX11_read 0 = .ok (.aload_n 0, 1) := by decide +kernel
theorem dX11_read_1 : decode cX11_read 1 = .ok (.getfield 10, 3) := by decide +kernel
theorem dX11_read_4 : decode cX11_read 4 = .ok (.aload_n 0, 1) := by decide +kernel
theorem dX11_read_5 : decode cX11_read 5 = .ok (.getfield 66, 3) := by decide +kernel
theorem dX11_read_8 : decode cX11_read 8 = .ok (.invokestatic 79, 3) := by decide +kernel
theorem dX11_read_11 : decode cX11_read 11 = .ok (.istore_n 1, 1) := by decide +kernel
theorem dX11_read_12 : decode cX11_read 12 = .ok (.iload_n 1, 1) := by decide +kernel
theorem dX11_read_13 : decode cX11_read 13 = .ok (.ifCond .ge 5, 3) := by decide +kernel
theorem dX11_read_16 : decode cX11_read 16 = .ok (.iload_n 1, 1) := by decide +kernel
theorem dX11_read_17 : decode cX11_read 17 = .ok (.ireturn, 1) := by decide +kernel
theorem dX11_read_18 : decode cX11_read 18 = .ok (.aload_n 0, 1) := by decide +kernel
theorem dX11_read_19 : decode cX11_read 19 = .ok (.getfield 62, 3) := by decide +kernel
theorem dX11_read_22 : decode cX11_read 22 = .ok (.astore_n 2, 1) := by decide +kernel
theorem dX11_read_23 : decode cX11_read 23 = .ok (.aload_n 0, 1) := by decide +kernel
theorem dX11_read_24 : decode cX11_read 24 = .ok (.aload_n 0, 1) := by decide +kernel
theorem dX11_read_25 : decode cX11_read 25 = .ok (.getfield 66, 3) := by decide +kernel
theorem dX11_read_28 : decode cX11_read 28 = .ok (.putfield 62, 3) := by decide +kernel
theorem dX11_read_31 : decode cX11_read 31 = .ok (.aload_n 0, 1) := by decide +kernel
theorem dX11_read_32 : decode cX11_read 32 = .ok (.aload_n 2, 1) := by decide +kernel
theorem dX11_read_33 : decode cX11_read 33 = .ok (.putfield 66, 3) := by decide +kernel
theorem dX11_read_36 : decode cX11_read 36 = .ok (.aload_n 0, 1) := by decide +kernel
theorem dX11_read_37 : decode cX11_read 37 = .ok (.getfield 10, 3) := by decide +kernel
theorem dX11_read_40 : decode cX11_read 40 = .ok (.invokevirtual 76, 3) := by decide +kernel
theorem dX11_read_43 : decode cX11_read 43 = .ok (.aload_n 0, 1) := by decide +kernel
theorem dX11_read_44 : decode cX11_read 44 = .ok (.iconst 0, 1) := by decide +kernel
theorem dX11_read_45 : decode cX11_read 45 = .ok (.putfield 85, 3) := by decide +kernel
theorem dX11_read_48 : decode cX11_read 48 = .ok (.iload_n 1, 1) := by decide +kernel
theorem dX11_read_49 : decode cX11_read 49 = .ok (.ireturn, 1) := by decide +kernel
theorem dX11_word_0 : decode cX11_word 0 = .ok (.aload_n 0, 1) := by decide +kernel
theorem dX11_word_1 : decode cX11_word 1 = .ok (.getfield 62, 3) := by decide +kernel
theorem dX11_word_4 : decode cX11_word 4 = .ok (.getfield 89, 3) := by decide +kernel
theorem dX11_word_7 : decode cX11_word 7 = .ok (.iload_n 1, 1) := by decide +kernel
theorem dX11_word_8 : decode cX11_word 8 = .ok (.invokevirtual 93, 3) := by decide +kernel
theorem dX11_word_11 : decode cX11_word 11 = .ok (.ifCond .ne 5, 3) := by decide +kernel
theorem dX11_word_14 : decode cX11_word 14 = .ok (.iconst (-1), 1) := by decide +kernel
theorem dX11_word_15 : decode cX11_word 15 = .ok (.ireturn, 1) := by decide +kernel
theorem dX11_word_16 : decode cX11_word 16 = .ok (.iload_n 2, 1) := by decide +kernel
theorem dX11_word_17 : decode cX11_word 17 = .ok (.tableswitch 81 0 3 #[31, 44, 57, 69], 31) := by decide +kernel
theorem dX11_word_48 : decode cX11_word 48 = .ok (.aload_n 0, 1) := by decide +kernel
theorem dX11_word_49 : decode cX11_word 49 = .ok (.getfield 62, 3) := by decide +kernel
theorem dX11_word_52 : decode cX11_word 52 = .ok (.getfield 89, 3) := by decide +kernel
theorem dX11_word_55 : decode cX11_word 55 = .ok (.iconst 0, 1) := by decide +kernel
theorem dX11_word_56 : decode cX11_word 56 = .ok (.iload_n 1, 1) := by decide +kernel
theorem dX11_word_57 : decode cX11_word 57 = .ok (.invokevirtual 99, 3) := by decide +kernel
theorem dX11_word_60 : decode cX11_word 60 = .ok (.ireturn, 1) := by decide +kernel
theorem dX11_word_61 : decode cX11_word 61 = .ok (.aload_n 0, 1) := by decide +kernel
theorem dX11_word_62 : decode cX11_word 62 = .ok (.getfield 62, 3) := by decide +kernel
theorem dX11_word_65 : decode cX11_word 65 = .ok (.getfield 89, 3) := by decide +kernel
theorem dX11_word_68 : decode cX11_word 68 = .ok (.iconst 1, 1) := by decide +kernel
theorem dX11_word_69 : decode cX11_word 69 = .ok (.iload_n 1, 1) := by decide +kernel
theorem dX11_word_70 : decode cX11_word 70 = .ok (.invokevirtual 99, 3) := by decide +kernel
theorem dX11_word_73 : decode cX11_word 73 = .ok (.ireturn, 1) := by decide +kernel
theorem dX11_word_74 : decode cX11_word 74 = .ok (.aload_n 0, 1) := by decide +kernel
theorem dX11_word_75 : decode cX11_word 75 = .ok (.getfield 62, 3) := by decide +kernel
theorem dX11_word_78 : decode cX11_word 78 = .ok (.getfield 89, 3) := by decide +kernel
theorem dX11_word_81 : decode cX11_word 81 = .ok (.iload_n 1, 1) := by decide +kernel
theorem dX11_word_82 : decode cX11_word 82 = .ok (.invokevirtual 103, 3) := by decide +kernel
theorem dX11_word_85 : decode cX11_word 85 = .ok (.ireturn, 1) := by decide +kernel
theorem dX11_word_86 : decode cX11_word 86 = .ok (.aload_n 0, 1) := by decide +kernel
theorem dX11_word_87 : decode cX11_word 87 = .ok (.getfield 62, 3) := by decide +kernel
theorem dX11_word_90 : decode cX11_word 90 = .ok (.getfield 89, 3) := by decide +kernel
theorem dX11_word_93 : decode cX11_word 93 = .ok (.iload_n 1, 1) := by decide +kernel
theorem dX11_word_94 : decode cX11_word 94 = .ok (.invokevirtual 107, 3) := by decide +kernel
theorem dX11_word_97 : decode cX11_word 97 = .ok (.ireturn, 1) := by decide +kernel
theorem dX11_word_98 : decode cX11_word 98 = .ok (.iconst (-1), 1) := by decide +kernel
theorem dX11_word_99 : decode cX11_word 99 = .ok (.ireturn, 1) := by decide +kernel
theorem dX11_form_0 : decode cX11_form 0 = .ok (.aload_n 0, 1) := by decide +kernel
theorem dX11_form_1 : decode cX11_form 1 = .ok (.getfield 62, 3) := by decide +kernel
theorem dX11_form_4 : decode cX11_form 4 = .ok (.getfield 110, 3) := by decide +kernel
theorem dX11_form_7 : decode cX11_form 7 = .ok (.iload_n 1, 1) := by decide +kernel
theorem dX11_form_8 : decode cX11_form 8 = .ok (.invokevirtual 114, 3) := by decide +kernel
theorem dX11_form_11 : decode cX11_form 11 = .ok (.ifCond .eq 13, 3) := by decide +kernel
theorem dX11_form_14 : decode cX11_form 14 = .ok (.iload_n 2, 1) := by decide +kernel
theorem dX11_form_15 : decode cX11_form 15 = .ok (.ifCond .lt 9, 3) := by decide +kernel
theorem dX11_form_18 : decode cX11_form 18 = .ok (.iload_n 2, 1) := by decide +kernel
theorem dX11_form_19 : decode cX11_form 19 = .ok (.bipush 99, 2) := by decide +kernel
theorem dX11_form_21 : decode cX11_form 21 = .ok (.if_icmp .le 5, 3) := by decide +kernel
theorem dX11_form_24 : decode cX11_form 24 = .ok (.iconst (-1), 1) := by decide +kernel
theorem dX11_form_25 : decode cX11_form 25 = .ok (.ireturn, 1) := by decide +kernel
theorem dX11_form_26 : decode cX11_form 26 = .ok (.aload_n 0, 1) := by decide +kernel
theorem dX11_form_27 : decode cX11_form 27 = .ok (.getfield 62, 3) := by decide +kernel
theorem dX11_form_30 : decode cX11_form 30 = .ok (.getfield 110, 3) := by decide +kernel
theorem dX11_form_33 : decode cX11_form 33 = .ok (.iload_n 1, 1) := by decide +kernel
theorem dX11_form_34 : decode cX11_form 34 = .ok (.iload_n 2, 1) := by decide +kernel
theorem dX11_form_35 : decode cX11_form 35 = .ok (.invokevirtual 117, 3) := by decide +kernel
theorem dX11_form_38 : decode cX11_form 38 = .ok (.ireturn, 1) := by decide +kernel
theorem dX11_metre_0 : decode cX11_metre 0 = .ok (.iload_n 1, 1) := by decide +kernel
theorem dX11_metre_1 : decode cX11_metre 1 = .ok (.ifCond .lt 19, 3) := by decide +kernel
theorem dX11_metre_4 : decode cX11_metre 4 = .ok (.iload_n 1, 1) := by decide +kernel
theorem dX11_metre_5 : decode cX11_metre 5 = .ok (.bipush 8, 2) := by decide +kernel
theorem dX11_metre_7 : decode cX11_metre 7 = .ok (.if_icmp .ge 13, 3) := by decide +kernel
theorem dX11_metre_10 : decode cX11_metre 10 = .ok (.iload_n 2, 1) := by decide +kernel
theorem dX11_metre_11 : decode cX11_metre 11 = .ok (.ifCond .lt 9, 3) := by decide +kernel
theorem dX11_metre_14 : decode cX11_metre 14 = .ok (.iload_n 2, 1) := by decide +kernel
theorem dX11_metre_15 : decode cX11_metre 15 = .ok (.bipush 20, 2) := by decide +kernel
theorem dX11_metre_17 : decode cX11_metre 17 = .ok (.if_icmp .le 5, 3) := by decide +kernel
theorem dX11_metre_20 : decode cX11_metre 20 = .ok (.iconst (-1), 1) := by decide +kernel
theorem dX11_metre_21 : decode cX11_metre 21 = .ok (.ireturn, 1) := by decide +kernel
theorem dX11_metre_22 : decode cX11_metre 22 = .ok (.aload_n 0, 1) := by decide +kernel
theorem dX11_metre_23 : decode cX11_metre 23 = .ok (.getfield 62, 3) := by decide +kernel
theorem dX11_metre_26 : decode cX11_metre 26 = .ok (.iload_n 1, 1) := by decide +kernel
theorem dX11_metre_27 : decode cX11_metre 27 = .ok (.invokevirtual 120, 3) := by decide +kernel
theorem dX11_metre_30 : decode cX11_metre 30 = .ok (.istore_n 3, 1) := by decide +kernel
theorem dX11_metre_31 : decode cX11_metre 31 = .ok (.aload_n 0, 1) := by decide +kernel
theorem dX11_metre_32 : decode cX11_metre 32 = .ok (.getfield 62, 3) := by decide +kernel
theorem dX11_metre_35 : decode cX11_metre 35 = .ok (.iload_n 1, 1) := by decide +kernel
theorem dX11_metre_36 : decode cX11_metre 36 = .ok (.iload_n 2, 1) := by decide +kernel
theorem dX11_metre_37 : decode cX11_metre 37 = .ok (.invokevirtual 123, 3) := by decide +kernel
theorem dX11_metre_40 : decode cX11_metre 40 = .ok (.iload_n 3, 1) := by decide +kernel
theorem dX11_metre_41 : decode cX11_metre 41 = .ok (.ireturn, 1) := by decide +kernel
theorem dX11_line_0 : decode cX11_line 0 = .ok (.aload_n 0, 1) := by decide +kernel
theorem dX11_line_1 : decode cX11_line 1 = .ok (.getfield 62, 3) := by decide +kernel
theorem dX11_line_4 : decode cX11_line 4 = .ok (.getfield 127, 3) := by decide +kernel
theorem dX11_line_7 : decode cX11_line 7 = .ok (.iload_n 1, 1) := by decide +kernel
theorem dX11_line_8 : decode cX11_line 8 = .ok (.iload_n 2, 1) := by decide +kernel
theorem dX11_line_9 : decode cX11_line 9 = .ok (.invokevirtual 130, 3) := by decide +kernel
theorem dX11_line_12 : decode cX11_line 12 = .ok (.ireturn, 1) := by decide +kernel
theorem dX11_stock_0 : decode cX11_stock 0 = .ok (.aload_n 0, 1) := by decide +kernel
theorem dX11_stock_1 : decode cX11_stock 1 = .ok (.getfield 62, 3) := by decide +kernel
theorem dX11_stock_4 : decode cX11_stock 4 = .ok (.getfield 133, 3) := by decide +kernel
theorem dX11_stock_7 : decode cX11_stock 7 = .ok (.iload_n 1, 1) := by decide +kernel
theorem dX11_stock_8 : decode cX11_stock 8 = .ok (.iload_n 2, 1) := by decide +kernel
theorem dX11_stock_9 : decode cX11_stock 9 = .ok (.invokevirtual 130, 3) := by decide +kernel
theorem dX11_stock_12 : decode cX11_stock 12 = .ok (.ireturn, 1) := by decide +kernel
theorem dX11_put_0 : decode cX11_put 0 = .ok (.iload_n 1, 1) := by decide +kernel
theorem dX11_put_1 : decode cX11_put 1 = .ok (.ifCond .lt 53, 3) := by decide +kernel
theorem dX11_put_4 : decode cX11_put 4 = .ok (.iload_n 1, 1) := by decide +kernel
theorem dX11_put_5 : decode cX11_put 5 = .ok (.aload_n 0, 1) := by decide +kernel
theorem dX11_put_6 : decode cX11_put 6 = .ok (.getfield 62, 3) := by decide +kernel
theorem dX11_put_9 : decode cX11_put 9 = .ok (.getfield 127, 3) := by decide +kernel
theorem dX11_put_12 : decode cX11_put 12 = .ok (.invokevirtual 136, 3) := by decide +kernel
theorem dX11_put_15 : decode cX11_put 15 = .ok (.if_icmp .gt 39, 3) := by decide +kernel
theorem dX11_put_18 : decode cX11_put 18 = .ok (.aload_n 0, 1) := by decide +kernel
theorem dX11_put_19 : decode cX11_put 19 = .ok (.getfield 62, 3) := by decide +kernel
theorem dX11_put_22 : decode cX11_put 22 = .ok (.getfield 89, 3) := by decide +kernel
theorem dX11_put_25 : decode cX11_put 25 = .ok (.iload_n 2, 1) := by decide +kernel
theorem dX11_put_26 : decode cX11_put 26 = .ok (.invokevirtual 93, 3) := by decide +kernel
theorem dX11_put_29 : decode cX11_put 29 = .ok (.ifCond .eq 25, 3) := by decide +kernel
theorem dX11_put_32 : decode cX11_put 32 = .ok (.iload_n 3, 1) := by decide +kernel
theorem dX11_put_33 : decode cX11_put 33 = .ok (.ifCond .lt 21, 3) := by decide +kernel
theorem dX11_put_36 : decode cX11_put 36 = .ok (.iload_n 3, 1) := by decide +kernel
theorem dX11_put_37 : decode cX11_put 37 = .ok (.bipush 9, 2) := by decide +kernel
theorem dX11_put_39 : decode cX11_put 39 = .ok (.if_icmp .gt 15, 3) := by decide +kernel
theorem dX11_put_42 : decode cX11_put 42 = .ok (.iload 4, 2) := by decide +kernel
theorem dX11_put_44 : decode cX11_put 44 = .ok (.ifCond .lt 10, 3) := by decide +kernel
theorem dX11_put_47 : decode cX11_put 47 = .ok (.iload 4, 2) := by decide +kernel
theorem dX11_put_49 : decode cX11_put 49 = .ok (.bipush 16, 2) := by decide +kernel
theorem dX11_put_51 : decode cX11_put 51 = .ok (.if_icmp .le 5, 3) := by decide +kernel
theorem dX11_put_54 : decode cX11_put 54 = .ok (.iconst (-1), 1) := by decide +kernel
theorem dX11_put_55 : decode cX11_put 55 = .ok (.ireturn, 1) := by decide +kernel
theorem dX11_put_56 : decode cX11_put 56 = .ok (.aload_n 0, 1) := by decide +kernel
theorem dX11_put_57 : decode cX11_put 57 = .ok (.getfield 62, 3) := by decide +kernel
theorem dX11_put_60 : decode cX11_put 60 = .ok (.getfield 127, 3) := by decide +kernel
theorem dX11_put_63 : decode cX11_put 63 = .ok (.invokevirtual 139, 3) := by decide +kernel
theorem dX11_put_66 : decode cX11_put 66 = .ok (.ifCond .eq 6, 3) := by decide +kernel
theorem dX11_put_69 : decode cX11_put 69 = .ok (.bipush (-3), 2) := by decide +kernel
theorem dX11_put_71 : decode cX11_put 71 = .ok (.ireturn, 1) := by decide +kernel
theorem dX11_put_72 : decode cX11_put 72 = .ok (.aload_n 0, 1) := by decide +kernel
theorem dX11_put_73 : decode cX11_put 73 = .ok (.getfield 62, 3) := by decide +kernel
theorem dX11_put_76 : decode cX11_put 76 = .ok (.getfield 127, 3) := by decide +kernel
theorem dX11_put_79 : decode cX11_put 79 = .ok (.iload_n 1, 1) := by decide +kernel
theorem dX11_put_80 : decode cX11_put 80 = .ok (.iload_n 2, 1) := by decide +kernel
theorem dX11_put_81 : decode cX11_put 81 = .ok (.iload_n 3, 1) := by decide +kernel
theorem dX11_put_82 : decode cX11_put 82 = .ok (.iload 4, 2) := by decide +kernel
theorem dX11_put_84 : decode cX11_put 84 = .ok (.invokevirtual 143, 3) := by decide +kernel
theorem dX11_put_87 : decode cX11_put 87 = .ok (.aload_n 0, 1) := by decide +kernel
theorem dX11_put_88 : decode cX11_put 88 = .ok (.getfield 62, 3) := by decide +kernel
theorem dX11_put_91 : decode cX11_put 91 = .ok (.getfield 127, 3) := by decide +kernel
theorem dX11_put_94 : decode cX11_put 94 = .ok (.invokevirtual 136, 3) := by decide +kernel
theorem dX11_put_97 : decode cX11_put 97 = .ok (.ireturn, 1) := by decide +kernel
theorem dX11_change_0 : decode cX11_change 0 = .ok (.aload_n 0, 1) := by decide +kernel
theorem dX11_change_1 : decode cX11_change 1 = .ok (.getfield 62, 3) := by decide +kernel
theorem dX11_change_4 : decode cX11_change 4 = .ok (.getfield 127, 3) := by decide +kernel
theorem dX11_change_7 : decode cX11_change 7 = .ok (.iload_n 1, 1) := by decide +kernel
theorem dX11_change_8 : decode cX11_change 8 = .ok (.invokevirtual 147, 3) := by decide +kernel
theorem dX11_change_11 : decode cX11_change 11 = .ok (.ifCond .eq 17, 3) := by decide +kernel
theorem dX11_change_14 : decode cX11_change 14 = .ok (.aload_n 0, 1) := by decide +kernel
theorem dX11_change_15 : decode cX11_change 15 = .ok (.getfield 62, 3) := by decide +kernel
theorem dX11_change_18 : decode cX11_change 18 = .ok (.getfield 89, 3) := by decide +kernel
theorem dX11_change_21 : decode cX11_change 21 = .ok (.iload_n 2, 1) := by decide +kernel
theorem dX11_change_22 : decode cX11_change 22 = .ok (.invokevirtual 93, 3) := by decide +kernel
theorem dX11_change_25 : decode cX11_change 25 = .ok (.ifCond .ne 5, 3) := by decide +kernel
theorem dX11_change_28 : decode cX11_change 28 = .ok (.iconst (-1), 1) := by decide +kernel
theorem dX11_change_29 : decode cX11_change 29 = .ok (.ireturn, 1) := by decide +kernel
theorem dX11_change_30 : decode cX11_change 30 = .ok (.aload_n 0, 1) := by decide +kernel
theorem dX11_change_31 : decode cX11_change 31 = .ok (.getfield 62, 3) := by decide +kernel
theorem dX11_change_34 : decode cX11_change 34 = .ok (.getfield 127, 3) := by decide +kernel
theorem dX11_change_37 : decode cX11_change 37 = .ok (.iload_n 1, 1) := by decide +kernel
theorem dX11_change_38 : decode cX11_change 38 = .ok (.invokevirtual 148, 3) := by decide +kernel
theorem dX11_change_41 : decode cX11_change 41 = .ok (.istore_n 3, 1) := by decide +kernel
theorem dX11_change_42 : decode cX11_change 42 = .ok (.aload_n 0, 1) := by decide +kernel
theorem dX11_change_43 : decode cX11_change 43 = .ok (.getfield 62, 3) := by decide +kernel
theorem dX11_change_46 : decode cX11_change 46 = .ok (.getfield 127, 3) := by decide +kernel
theorem dX11_change_49 : decode cX11_change 49 = .ok (.iload_n 1, 1) := by decide +kernel
theorem dX11_change_50 : decode cX11_change 50 = .ok (.iload_n 2, 1) := by decide +kernel
theorem dX11_change_51 : decode cX11_change 51 = .ok (.invokevirtual 151, 3) := by decide +kernel
theorem dX11_change_54 : decode cX11_change 54 = .ok (.iload_n 3, 1) := by decide +kernel
theorem dX11_change_55 : decode cX11_change 55 = .ok (.ireturn, 1) := by decide +kernel
theorem dX11_take_0 : decode cX11_take 0 = .ok (.aload_n 0, 1) := by decide +kernel
theorem dX11_take_1 : decode cX11_take 1 = .ok (.getfield 62, 3) := by decide +kernel
theorem dX11_take_4 : decode cX11_take 4 = .ok (.getfield 127, 3) := by decide +kernel
theorem dX11_take_7 : decode cX11_take 7 = .ok (.iload_n 1, 1) := by decide +kernel
theorem dX11_take_8 : decode cX11_take 8 = .ok (.invokevirtual 147, 3) := by decide +kernel
theorem dX11_take_11 : decode cX11_take 11 = .ok (.ifCond .ne 5, 3) := by decide +kernel
theorem dX11_take_14 : decode cX11_take 14 = .ok (.iconst (-1), 1) := by decide +kernel
theorem dX11_take_15 : decode cX11_take 15 = .ok (.ireturn, 1) := by decide +kernel
theorem dX11_take_16 : decode cX11_take 16 = .ok (.aload_n 0, 1) := by decide +kernel
theorem dX11_take_17 : decode cX11_take 17 = .ok (.getfield 62, 3) := by decide +kernel
theorem dX11_take_20 : decode cX11_take 20 = .ok (.getfield 127, 3) := by decide +kernel
theorem dX11_take_23 : decode cX11_take 23 = .ok (.iload_n 1, 1) := by decide +kernel
theorem dX11_take_24 : decode cX11_take 24 = .ok (.invokevirtual 154, 3) := by decide +kernel
theorem dX11_take_27 : decode cX11_take 27 = .ok (.aload_n 0, 1) := by decide +kernel
theorem dX11_take_28 : decode cX11_take 28 = .ok (.getfield 62, 3) := by decide +kernel
theorem dX11_take_31 : decode cX11_take 31 = .ok (.getfield 127, 3) := by decide +kernel
theorem dX11_take_34 : decode cX11_take 34 = .ok (.invokevirtual 136, 3) := by decide +kernel
theorem dX11_take_37 : decode cX11_take 37 = .ok (.ireturn, 1) := by decide +kernel
theorem dX11_judged_0 : decode cX11_judged 0 = .ok (.aload_n 0, 1) := by decide +kernel
theorem dX11_judged_1 : decode cX11_judged 1 = .ok (.iload_n 1, 1) := by decide +kernel
theorem dX11_judged_2 : decode cX11_judged 2 = .ok (.iload_n 2, 1) := by decide +kernel
theorem dX11_judged_3 : decode cX11_judged 3 = .ok (.invokevirtual 157, 3) := by decide +kernel
theorem dX11_judged_6 : decode cX11_judged 6 = .ok (.ifCond .ne 17, 3) := by decide +kernel
theorem dX11_judged_9 : decode cX11_judged 9 = .ok (.aload_n 0, 1) := by decide +kernel
theorem dX11_judged_10 : decode cX11_judged 10 = .ok (.getfield 62, 3) := by decide +kernel
theorem dX11_judged_13 : decode cX11_judged 13 = .ok (.getfield 127, 3) := by decide +kernel
theorem dX11_judged_16 : decode cX11_judged 16 = .ok (.iload_n 3, 1) := by decide +kernel
theorem dX11_judged_17 : decode cX11_judged 17 = .ok (.invokevirtual 147, 3) := by decide +kernel
theorem dX11_judged_20 : decode cX11_judged 20 = .ok (.ifCond .ne 5, 3) := by decide +kernel
theorem dX11_judged_23 : decode cX11_judged 23 = .ok (.iconst (-1), 1) := by decide +kernel
theorem dX11_judged_24 : decode cX11_judged 24 = .ok (.ireturn, 1) := by decide +kernel
theorem dX11_judged_25 : decode cX11_judged 25 = .ok (.aload_n 0, 1) := by decide +kernel
theorem dX11_judged_26 : decode cX11_judged 26 = .ok (.iload_n 1, 1) := by decide +kernel
theorem dX11_judged_27 : decode cX11_judged 27 = .ok (.iload_n 2, 1) := by decide +kernel
theorem dX11_judged_28 : decode cX11_judged 28 = .ok (.invokevirtual 161, 3) := by decide +kernel
theorem dX11_judged_31 : decode cX11_judged 31 = .ok (.astore 5, 2) := by decide +kernel
theorem dX11_judged_33 : decode cX11_judged 33 = .ok (.iload 4, 2) := by decide +kernel
theorem dX11_judged_35 : decode cX11_judged 35 = .ok (.tableswitch 95 0 3 #[29, 44, 59, 74], 29) := by decide +kernel
theorem dX11_judged_64 : decode cX11_judged 64 = .ok (.aload 5, 2) := by decide +kernel
theorem dX11_judged_66 : decode cX11_judged 66 = .ok (.iload_n 3, 1) := by decide +kernel
theorem dX11_judged_67 : decode cX11_judged 67 = .ok (.invokevirtual 165, 3) := by decide +kernel
theorem dX11_judged_70 : decode cX11_judged 70 = .ok (.ifCond .eq 7, 3) := by decide +kernel
theorem dX11_judged_73 : decode cX11_judged 73 = .ok (.iconst 1, 1) := by decide +kernel
theorem dX11_judged_74 : decode cX11_judged 74 = .ok (.goto 4, 3) := by decide +kernel
theorem dX11_judged_77 : decode cX11_judged 77 = .ok (.iconst 0, 1) := by decide +kernel
theorem dX11_judged_78 : decode cX11_judged 78 = .ok (.ireturn, 1) := by decide +kernel
theorem dX11_judged_79 : decode cX11_judged 79 = .ok (.aload 5, 2) := by decide +kernel
theorem dX11_judged_81 : decode cX11_judged 81 = .ok (.iload_n 3, 1) := by decide +kernel
theorem dX11_judged_82 : decode cX11_judged 82 = .ok (.invokevirtual 168, 3) := by decide +kernel
theorem dX11_judged_85 : decode cX11_judged 85 = .ok (.ifCond .eq 7, 3) := by decide +kernel
theorem dX11_judged_88 : decode cX11_judged 88 = .ok (.iconst 1, 1) := by decide +kernel
theorem dX11_judged_89 : decode cX11_judged 89 = .ok (.goto 4, 3) := by decide +kernel
theorem dX11_judged_92 : decode cX11_judged 92 = .ok (.iconst 0, 1) := by decide +kernel
theorem dX11_judged_93 : decode cX11_judged 93 = .ok (.ireturn, 1) := by decide +kernel
theorem dX11_judged_94 : decode cX11_judged 94 = .ok (.aload 5, 2) := by decide +kernel
theorem dX11_judged_96 : decode cX11_judged 96 = .ok (.iload_n 3, 1) := by decide +kernel
theorem dX11_judged_97 : decode cX11_judged 97 = .ok (.invokevirtual 171, 3) := by decide +kernel
theorem dX11_judged_100 : decode cX11_judged 100 = .ok (.ifCond .eq 7, 3) := by decide +kernel
theorem dX11_judged_103 : decode cX11_judged 103 = .ok (.iconst 1, 1) := by decide +kernel
theorem dX11_judged_104 : decode cX11_judged 104 = .ok (.goto 4, 3) := by decide +kernel
theorem dX11_judged_107 : decode cX11_judged 107 = .ok (.iconst 0, 1) := by decide +kernel
theorem dX11_judged_108 : decode cX11_judged 108 = .ok (.ireturn, 1) := by decide +kernel
theorem dX11_judged_109 : decode cX11_judged 109 = .ok (.aload 5, 2) := by decide +kernel
theorem dX11_judged_111 : decode cX11_judged 111 = .ok (.iload_n 3, 1) := by decide +kernel
theorem dX11_judged_112 : decode cX11_judged 112 = .ok (.invokevirtual 174, 3) := by decide +kernel
theorem dX11_judged_115 : decode cX11_judged 115 = .ok (.ifCond .eq 12, 3) := by decide +kernel
theorem dX11_judged_118 : decode cX11_judged 118 = .ok (.aload 5, 2) := by decide +kernel
theorem dX11_judged_120 : decode cX11_judged 120 = .ok (.iload_n 3, 1) := by decide +kernel
theorem dX11_judged_121 : decode cX11_judged 121 = .ok (.invokevirtual 177, 3) := by decide +kernel
theorem dX11_judged_124 : decode cX11_judged 124 = .ok (.goto 5, 3) := by decide +kernel
theorem dX11_judged_127 : decode cX11_judged 127 = .ok (.bipush (-9), 2) := by decide +kernel
theorem dX11_judged_129 : decode cX11_judged 129 = .ok (.ireturn, 1) := by decide +kernel
theorem dX11_judged_130 : decode cX11_judged 130 = .ok (.iconst (-1), 1) := by decide +kernel
theorem dX11_judged_131 : decode cX11_judged 131 = .ok (.ireturn, 1) := by decide +kernel
theorem dX11_law_0 : decode cX11_law 0 = .ok (.aload_n 0, 1) := by decide +kernel
theorem dX11_law_1 : decode cX11_law 1 = .ok (.iload_n 1, 1) := by decide +kernel
theorem dX11_law_2 : decode cX11_law 2 = .ok (.iload_n 2, 1) := by decide +kernel
theorem dX11_law_3 : decode cX11_law 3 = .ok (.invokevirtual 157, 3) := by decide +kernel
theorem dX11_law_6 : decode cX11_law 6 = .ok (.ifCond .eq 5, 3) := by decide +kernel
theorem dX11_law_9 : decode cX11_law 9 = .ok (.iconst (-1), 1) := by decide +kernel
theorem dX11_law_10 : decode cX11_law 10 = .ok (.ireturn, 1) := by decide +kernel
theorem dX11_law_11 : decode cX11_law 11 = .ok (.aload_n 0, 1) := by decide +kernel
theorem dX11_law_12 : decode cX11_law 12 = .ok (.iload_n 1, 1) := by decide +kernel
theorem dX11_law_13 : decode cX11_law 13 = .ok (.iload_n 2, 1) := by decide +kernel
theorem dX11_law_14 : decode cX11_law 14 = .ok (.invokevirtual 161, 3) := by decide +kernel
theorem dX11_law_17 : decode cX11_law 17 = .ok (.invokevirtual 180, 3) := by decide +kernel
theorem dX11_law_20 : decode cX11_law 20 = .ok (.ifCond .eq 7, 3) := by decide +kernel
theorem dX11_law_23 : decode cX11_law 23 = .ok (.iconst 1, 1) := by decide +kernel
theorem dX11_law_24 : decode cX11_law 24 = .ok (.goto 4, 3) := by decide +kernel
theorem dX11_law_27 : decode cX11_law 27 = .ok (.iconst 0, 1) := by decide +kernel
theorem dX11_law_28 : decode cX11_law 28 = .ok (.ireturn, 1) := by decide +kernel
theorem dX11_empty_0 : decode cX11_empty 0 = .ok (.aload_n 0, 1) := by decide +kernel
theorem dX11_empty_1 : decode cX11_empty 1 = .ok (.iload_n 1, 1) := by decide +kernel
theorem dX11_empty_2 : decode cX11_empty 2 = .ok (.iload_n 2, 1) := by decide +kernel
theorem dX11_empty_3 : decode cX11_empty 3 = .ok (.invokevirtual 157, 3) := by decide +kernel
theorem dX11_empty_6 : decode cX11_empty 6 = .ok (.ifCond .eq 5, 3) := by decide +kernel
theorem dX11_empty_9 : decode cX11_empty 9 = .ok (.iconst (-1), 1) := by decide +kernel
theorem dX11_empty_10 : decode cX11_empty 10 = .ok (.ireturn, 1) := by decide +kernel
theorem dX11_empty_11 : decode cX11_empty 11 = .ok (.aload_n 0, 1) := by decide +kernel
theorem dX11_empty_12 : decode cX11_empty 12 = .ok (.iload_n 1, 1) := by decide +kernel
theorem dX11_empty_13 : decode cX11_empty 13 = .ok (.iload_n 2, 1) := by decide +kernel
theorem dX11_empty_14 : decode cX11_empty 14 = .ok (.invokevirtual 161, 3) := by decide +kernel
theorem dX11_empty_17 : decode cX11_empty 17 = .ok (.invokevirtual 183, 3) := by decide +kernel
theorem dX11_empty_20 : decode cX11_empty 20 = .ok (.ireturn, 1) := by decide +kernel
theorem dX11_bound_0 : decode cX11_bound 0 = .ok (.aload_n 0, 1) := by decide +kernel
theorem dX11_bound_1 : decode cX11_bound 1 = .ok (.iload_n 1, 1) := by decide +kernel
theorem dX11_bound_2 : decode cX11_bound 2 = .ok (.iload_n 2, 1) := by decide +kernel
theorem dX11_bound_3 : decode cX11_bound 3 = .ok (.invokevirtual 157, 3) := by decide +kernel
theorem dX11_bound_6 : decode cX11_bound 6 = .ok (.ifCond .eq 5, 3) := by decide +kernel
theorem dX11_bound_9 : decode cX11_bound 9 = .ok (.iconst (-1), 1) := by decide +kernel
theorem dX11_bound_10 : decode cX11_bound 10 = .ok (.ireturn, 1) := by decide +kernel
theorem dX11_bound_11 : decode cX11_bound 11 = .ok (.aload_n 0, 1) := by decide +kernel
theorem dX11_bound_12 : decode cX11_bound 12 = .ok (.iload_n 1, 1) := by decide +kernel
theorem dX11_bound_13 : decode cX11_bound 13 = .ok (.iload_n 2, 1) := by decide +kernel
theorem dX11_bound_14 : decode cX11_bound 14 = .ok (.invokevirtual 161, 3) := by decide +kernel
theorem dX11_bound_17 : decode cX11_bound 17 = .ok (.aload_n 0, 1) := by decide +kernel
theorem dX11_bound_18 : decode cX11_bound 18 = .ok (.getfield 62, 3) := by decide +kernel
theorem dX11_bound_21 : decode cX11_bound 21 = .ok (.getfield 127, 3) := by decide +kernel
theorem dX11_bound_24 : decode cX11_bound 24 = .ok (.invokevirtual 186, 3) := by decide +kernel
theorem dX11_bound_27 : decode cX11_bound 27 = .ok (.ireturn, 1) := by decide +kernel
theorem dX11_struck_0 : decode cX11_struck 0 = .ok (.aload_n 0, 1) := by decide +kernel
theorem dX11_struck_1 : decode cX11_struck 1 = .ok (.iload_n 1, 1) := by decide +kernel
theorem dX11_struck_2 : decode cX11_struck 2 = .ok (.iload_n 2, 1) := by decide +kernel
theorem dX11_struck_3 : decode cX11_struck 3 = .ok (.invokevirtual 157, 3) := by decide +kernel
theorem dX11_struck_6 : decode cX11_struck 6 = .ok (.ifCond .eq 5, 3) := by decide +kernel
theorem dX11_struck_9 : decode cX11_struck 9 = .ok (.iconst (-1), 1) := by decide +kernel
theorem dX11_struck_10 : decode cX11_struck 10 = .ok (.ireturn, 1) := by decide +kernel
theorem dX11_struck_11 : decode cX11_struck 11 = .ok (.aload_n 0, 1) := by decide +kernel
theorem dX11_struck_12 : decode cX11_struck 12 = .ok (.iload_n 1, 1) := by decide +kernel
theorem dX11_struck_13 : decode cX11_struck 13 = .ok (.iload_n 2, 1) := by decide +kernel
theorem dX11_struck_14 : decode cX11_struck 14 = .ok (.invokevirtual 161, 3) := by decide +kernel
theorem dX11_struck_17 : decode cX11_struck 17 = .ok (.iload_n 3, 1) := by decide +kernel
theorem dX11_struck_18 : decode cX11_struck 18 = .ok (.invokevirtual 190, 3) := by decide +kernel
theorem dX11_struck_21 : decode cX11_struck 21 = .ok (.ireturn, 1) := by decide +kernel
theorem dX11_key_0 : decode cX11_key 0 = .ok (.aload_n 0, 1) := by decide +kernel
theorem dX11_key_1 : decode cX11_key 1 = .ok (.iload_n 1, 1) := by decide +kernel
theorem dX11_key_2 : decode cX11_key 2 = .ok (.iload_n 2, 1) := by decide +kernel
theorem dX11_key_3 : decode cX11_key 3 = .ok (.invokevirtual 157, 3) := by decide +kernel
theorem dX11_key_6 : decode cX11_key 6 = .ok (.ifCond .eq 5, 3) := by decide +kernel
theorem dX11_key_9 : decode cX11_key 9 = .ok (.iconst (-1), 1) := by decide +kernel
theorem dX11_key_10 : decode cX11_key 10 = .ok (.ireturn, 1) := by decide +kernel
theorem dX11_key_11 : decode cX11_key 11 = .ok (.aload_n 0, 1) := by decide +kernel
theorem dX11_key_12 : decode cX11_key 12 = .ok (.iload_n 1, 1) := by decide +kernel
theorem dX11_key_13 : decode cX11_key 13 = .ok (.iload_n 2, 1) := by decide +kernel
theorem dX11_key_14 : decode cX11_key 14 = .ok (.invokevirtual 161, 3) := by decide +kernel
theorem dX11_key_17 : decode cX11_key 17 = .ok (.invokevirtual 193, 3) := by decide +kernel
theorem dX11_key_20 : decode cX11_key 20 = .ok (.ireturn, 1) := by decide +kernel
theorem dX11_mended_0 : decode cX11_mended 0 = .ok (.aload_n 0, 1) := by decide +kernel
theorem dX11_mended_1 : decode cX11_mended 1 = .ok (.iload_n 1, 1) := by decide +kernel
theorem dX11_mended_2 : decode cX11_mended 2 = .ok (.iload_n 2, 1) := by decide +kernel
theorem dX11_mended_3 : decode cX11_mended 3 = .ok (.invokevirtual 157, 3) := by decide +kernel
theorem dX11_mended_6 : decode cX11_mended 6 = .ok (.ifCond .ne 11, 3) := by decide +kernel
theorem dX11_mended_9 : decode cX11_mended 9 = .ok (.aload_n 0, 1) := by decide +kernel
theorem dX11_mended_10 : decode cX11_mended 10 = .ok (.iload_n 3, 1) := by decide +kernel
theorem dX11_mended_11 : decode cX11_mended 11 = .ok (.invokevirtual 196, 3) := by decide +kernel
theorem dX11_mended_14 : decode cX11_mended 14 = .ok (.ifCond .eq 5, 3) := by decide +kernel
theorem dX11_mended_17 : decode cX11_mended 17 = .ok (.iconst (-1), 1) := by decide +kernel
theorem dX11_mended_18 : decode cX11_mended 18 = .ok (.ireturn, 1) := by decide +kernel
theorem dX11_mended_19 : decode cX11_mended 19 = .ok (.aload_n 0, 1) := by decide +kernel
theorem dX11_mended_20 : decode cX11_mended 20 = .ok (.getfield 35, 3) := by decide +kernel
theorem dX11_mended_23 : decode cX11_mended 23 = .ok (.aload_n 0, 1) := by decide +kernel
theorem dX11_mended_24 : decode cX11_mended 24 = .ok (.getfield 62, 3) := by decide +kernel
theorem dX11_mended_27 : decode cX11_mended 27 = .ok (.iload_n 1, 1) := by decide +kernel
theorem dX11_mended_28 : decode cX11_mended 28 = .ok (.iload_n 2, 1) := by decide +kernel
theorem dX11_mended_29 : decode cX11_mended 29 = .ok (.invokevirtual 199, 3) := by decide +kernel
theorem dX11_mended_32 : decode cX11_mended 32 = .ok (.istore 4, 2) := by decide +kernel
theorem dX11_mended_34 : decode cX11_mended 34 = .ok (.iload 4, 2) := by decide +kernel
theorem dX11_mended_36 : decode cX11_mended 36 = .ok (.ifCond .lt 7, 3) := by decide +kernel
theorem dX11_mended_39 : decode cX11_mended 39 = .ok (.iload_n 3, 1) := by decide +kernel
theorem dX11_mended_40 : decode cX11_mended 40 = .ok (.ifCond .ge 8, 3) := by decide +kernel
theorem dX11_mended_43 : decode cX11_mended 43 = .ok (.iload 4, 2) := by decide +kernel
theorem dX11_mended_45 : decode cX11_mended 45 = .ok (.goto 11, 3) := by decide +kernel
theorem dX11_mended_48 : decode cX11_mended 48 = .ok (.aload_n 0, 1) := by decide +kernel
theorem dX11_mended_49 : decode cX11_mended 49 = .ok (.getfield 35, 3) := by decide +kernel
theorem dX11_mended_52 : decode cX11_mended 52 = .ok (.iload_n 3, 1) := by decide +kernel
theorem dX11_mended_53 : decode cX11_mended 53 = .ok (.invokevirtual 203, 3) := by decide +kernel
theorem dX11_mended_56 : decode cX11_mended 56 = .ok (.ireturn, 1) := by decide +kernel
theorem dX11_shortest_0 : decode cX11_shortest 0 = .ok (.aload_n 0, 1) := by decide +kernel
theorem dX11_shortest_1 : decode cX11_shortest 1 = .ok (.iload_n 1, 1) := by decide +kernel
theorem dX11_shortest_2 : decode cX11_shortest 2 = .ok (.iload_n 2, 1) := by decide +kernel
theorem dX11_shortest_3 : decode cX11_shortest 3 = .ok (.invokevirtual 157, 3) := by decide +kernel
theorem dX11_shortest_6 : decode cX11_shortest 6 = .ok (.ifCond .ne 20, 3) := by decide +kernel
theorem dX11_shortest_9 : decode cX11_shortest 9 = .ok (.iload_n 3, 1) := by decide +kernel
theorem dX11_shortest_10 : decode cX11_shortest 10 = .ok (.ifCond .lt 16, 3) := by decide +kernel
theorem dX11_shortest_13 : decode cX11_shortest 13 = .ok (.iload_n 3, 1) := by decide +kernel
theorem dX11_shortest_14 : decode cX11_shortest 14 = .ok (.sipush 1023, 3) := by decide +kernel
theorem dX11_shortest_17 : decode cX11_shortest 17 = .ok (.if_icmp .gt 9, 3) := by decide +kernel
theorem dX11_shortest_20 : decode cX11_shortest 20 = .ok (.iload 4, 2) := by decide +kernel
theorem dX11_shortest_22 : decode cX11_shortest 22 = .ok (.iconst (-1), 1) := by decide +kernel
theorem dX11_shortest_23 : decode cX11_shortest 23 = .ok (.if_icmp .ge 5, 3) := by decide +kernel
theorem dX11_shortest_26 : decode cX11_shortest 26 = .ok (.iconst (-1), 1) := by decide +kernel
theorem dX11_shortest_27 : decode cX11_shortest 27 = .ok (.ireturn, 1) := by decide +kernel
theorem dX11_shortest_28 : decode cX11_shortest 28 = .ok (.aload_n 0, 1) := by decide +kernel
theorem dX11_shortest_29 : decode cX11_shortest 29 = .ok (.getfield 49, 3) := by decide +kernel
theorem dX11_shortest_32 : decode cX11_shortest 32 = .ok (.aload_n 0, 1) := by decide +kernel
theorem dX11_shortest_33 : decode cX11_shortest 33 = .ok (.getfield 62, 3) := by decide +kernel
theorem dX11_shortest_36 : decode cX11_shortest 36 = .ok (.iload_n 1, 1) := by decide +kernel
theorem dX11_shortest_37 : decode cX11_shortest 37 = .ok (.iload_n 2, 1) := by decide +kernel
theorem dX11_shortest_38 : decode cX11_shortest 38 = .ok (.iload_n 3, 1) := by decide +kernel
theorem dX11_shortest_39 : decode cX11_shortest 39 = .ok (.invokevirtual 204, 3) := by decide +kernel
theorem dX11_shortest_42 : decode cX11_shortest 42 = .ok (.istore 5, 2) := by decide +kernel
theorem dX11_shortest_44 : decode cX11_shortest 44 = .ok (.iload 5, 2) := by decide +kernel
theorem dX11_shortest_46 : decode cX11_shortest 46 = .ok (.ifCond .lt 8, 3) := by decide +kernel
theorem dX11_shortest_49 : decode cX11_shortest 49 = .ok (.iload 4, 2) := by decide +kernel
theorem dX11_shortest_51 : decode cX11_shortest 51 = .ok (.ifCond .ge 6, 3) := by decide +kernel
theorem dX11_shortest_54 : decode cX11_shortest 54 = .ok (.iload 5, 2) := by decide +kernel
theorem dX11_shortest_56 : decode cX11_shortest 56 = .ok (.ireturn, 1) := by decide +kernel
theorem dX11_shortest_57 : decode cX11_shortest 57 = .ok (.iload 4, 2) := by decide +kernel
theorem dX11_shortest_59 : decode cX11_shortest 59 = .ok (.iload 5, 2) := by decide +kernel
theorem dX11_shortest_61 : decode cX11_shortest 61 = .ok (.if_icmp .ge 15, 3) := by decide +kernel
theorem dX11_shortest_64 : decode cX11_shortest 64 = .ok (.aload_n 0, 1) := by decide +kernel
theorem dX11_shortest_65 : decode cX11_shortest 65 = .ok (.getfield 49, 3) := by decide +kernel
theorem dX11_shortest_68 : decode cX11_shortest 68 = .ok (.iload 4, 2) := by decide +kernel
theorem dX11_shortest_70 : decode cX11_shortest 70 = .ok (.invokevirtual 208, 3) := by decide +kernel
theorem dX11_shortest_73 : decode cX11_shortest 73 = .ok (.goto 5, 3) := by decide +kernel
theorem dX11_shortest_76 : decode cX11_shortest 76 = .ok (.bipush (-5), 2) := by decide +kernel
theorem dX11_shortest_78 : decode cX11_shortest 78 = .ok (.ireturn, 1) := by decide +kernel
theorem dX11_both_0 : decode cX11_both 0 = .ok (.aload_n 0, 1) := by decide +kernel
theorem dX11_both_1 : decode cX11_both 1 = .ok (.iconst 0, 1) := by decide +kernel
theorem dX11_both_2 : decode cX11_both 2 = .ok (.iload_n 1, 1) := by decide +kernel
theorem dX11_both_3 : decode cX11_both 3 = .ok (.invokevirtual 157, 3) := by decide +kernel
theorem dX11_both_6 : decode cX11_both 6 = .ok (.ifCond .ne 12, 3) := by decide +kernel
theorem dX11_both_9 : decode cX11_both 9 = .ok (.aload_n 0, 1) := by decide +kernel
theorem dX11_both_10 : decode cX11_both 10 = .ok (.iconst 1, 1) := by decide +kernel
theorem dX11_both_11 : decode cX11_both 11 = .ok (.iload_n 1, 1) := by decide +kernel
theorem dX11_both_12 : decode cX11_both 12 = .ok (.invokevirtual 157, 3) := by decide +kernel
theorem dX11_both_15 : decode cX11_both 15 = .ok (.ifCond .eq 5, 3) := by decide +kernel
theorem dX11_both_18 : decode cX11_both 18 = .ok (.iconst (-1), 1) := by decide +kernel
theorem dX11_both_19 : decode cX11_both 19 = .ok (.ireturn, 1) := by decide +kernel
theorem dX11_both_20 : decode cX11_both 20 = .ok (.aload_n 0, 1) := by decide +kernel
theorem dX11_both_21 : decode cX11_both 21 = .ok (.iconst 0, 1) := by decide +kernel
theorem dX11_both_22 : decode cX11_both 22 = .ok (.iload_n 1, 1) := by decide +kernel
theorem dX11_both_23 : decode cX11_both 23 = .ok (.invokevirtual 161, 3) := by decide +kernel
theorem dX11_both_26 : decode cX11_both 26 = .ok (.invokevirtual 180, 3) := by decide +kernel
theorem dX11_both_29 : decode cX11_both 29 = .ok (.ifCond .eq 19, 3) := by decide +kernel
theorem dX11_both_32 : decode cX11_both 32 = .ok (.aload_n 0, 1) := by decide +kernel
theorem dX11_both_33 : decode cX11_both 33 = .ok (.iconst 1, 1) := by decide +kernel
theorem dX11_both_34 : decode cX11_both 34 = .ok (.iload_n 1, 1) := by decide +kernel
theorem dX11_both_35 : decode cX11_both 35 = .ok (.invokevirtual 161, 3) := by decide +kernel
theorem dX11_both_38 : decode cX11_both 38 = .ok (.invokevirtual 180, 3) := by decide +kernel
theorem dX11_both_41 : decode cX11_both 41 = .ok (.ifCond .eq 7, 3) := by decide +kernel
theorem dX11_both_44 : decode cX11_both 44 = .ok (.iconst 1, 1) := by decide +kernel
theorem dX11_both_45 : decode cX11_both 45 = .ok (.goto 4, 3) := by decide +kernel
theorem dX11_both_48 : decode cX11_both 48 = .ok (.iconst 0, 1) := by decide +kernel
theorem dX11_both_49 : decode cX11_both 49 = .ok (.ireturn, 1) := by decide +kernel
theorem dX11_parting_0 : decode cX11_parting 0 = .ok (.aload_n 0, 1) := by decide +kernel
theorem dX11_parting_1 : decode cX11_parting 1 = .ok (.getfield 62, 3) := by decide +kernel
theorem dX11_parting_4 : decode cX11_parting 4 = .ok (.getfield 110, 3) := by decide +kernel
theorem dX11_parting_7 : decode cX11_parting 7 = .ok (.iload_n 1, 1) := by decide +kernel
theorem dX11_parting_8 : decode cX11_parting 8 = .ok (.invokevirtual 114, 3) := by decide +kernel
theorem dX11_parting_11 : decode cX11_parting 11 = .ok (.ifCond .ne 5, 3) := by decide +kernel
theorem dX11_parting_14 : decode cX11_parting 14 = .ok (.iconst (-1), 1) := by decide +kernel
theorem dX11_parting_15 : decode cX11_parting 15 = .ok (.ireturn, 1) := by decide +kernel
theorem dX11_parting_16 : decode cX11_parting 16 = .ok (.aload_n 0, 1) := by decide +kernel
theorem dX11_parting_17 : decode cX11_parting 17 = .ok (.iload_n 1, 1) := by decide +kernel
theorem dX11_parting_18 : decode cX11_parting 18 = .ok (.iconst 0, 1) := by decide +kernel
theorem dX11_parting_19 : decode cX11_parting 19 = .ok (.invokevirtual 161, 3) := by decide +kernel
theorem dX11_parting_22 : decode cX11_parting 22 = .ok (.invokevirtual 180, 3) := by decide +kernel
theorem dX11_parting_25 : decode cX11_parting 25 = .ok (.ifCond .eq 15, 3) := by decide +kernel
theorem dX11_parting_28 : decode cX11_parting 28 = .ok (.aload_n 0, 1) := by decide +kernel
theorem dX11_parting_29 : decode cX11_parting 29 = .ok (.iload_n 1, 1) := by decide +kernel
theorem dX11_parting_30 : decode cX11_parting 30 = .ok (.iconst 1, 1) := by decide +kernel
theorem dX11_parting_31 : decode cX11_parting 31 = .ok (.invokevirtual 161, 3) := by decide +kernel
theorem dX11_parting_34 : decode cX11_parting 34 = .ok (.invokevirtual 180, 3) := by decide +kernel
theorem dX11_parting_37 : decode cX11_parting 37 = .ok (.ifCond .eq 6, 3) := by decide +kernel
theorem dX11_parting_40 : decode cX11_parting 40 = .ok (.bipush (-9), 2) := by decide +kernel
theorem dX11_parting_42 : decode cX11_parting 42 = .ok (.ireturn, 1) := by decide +kernel
theorem dX11_parting_43 : decode cX11_parting 43 = .ok (.iconst 0, 1) := by decide +kernel
theorem dX11_parting_44 : decode cX11_parting 44 = .ok (.istore_n 2, 1) := by decide +kernel
theorem dX11_parting_45 : decode cX11_parting 45 = .ok (.iload_n 2, 1) := by decide +kernel
theorem dX11_parting_46 : decode cX11_parting 46 = .ok (.aload_n 0, 1) := by decide +kernel
theorem dX11_parting_47 : decode cX11_parting 47 = .ok (.getfield 62, 3) := by decide +kernel
theorem dX11_parting_50 : decode cX11_parting 50 = .ok (.getfield 89, 3) := by decide +kernel
theorem dX11_parting_53 : decode cX11_parting 53 = .ok (.invokevirtual 211, 3) := by decide +kernel
theorem dX11_parting_56 : decode cX11_parting 56 = .ok (.if_icmp .ge 20, 3) := by decide +kernel
theorem dX11_parting_59 : decode cX11_parting 59 = .ok (.aload_n 0, 1) := by decide +kernel
theorem dX11_parting_60 : decode cX11_parting 60 = .ok (.iload_n 1, 1) := by decide +kernel
theorem dX11_parting_61 : decode cX11_parting 61 = .ok (.iload_n 2, 1) := by decide +kernel
theorem dX11_parting_62 : decode cX11_parting 62 = .ok (.invokevirtual 212, 3) := by decide +kernel
theorem dX11_parting_65 : decode cX11_parting 65 = .ok (.ifCond .eq 5, 3) := by decide +kernel
theorem dX11_parting_68 : decode cX11_parting 68 = .ok (.iload_n 2, 1) := by decide +kernel
theorem dX11_parting_69 : decode cX11_parting 69 = .ok (.ireturn, 1) := by decide +kernel
theorem dX11_parting_70 : decode cX11_parting 70 = .ok (.iinc 2 1, 3) := by decide +kernel
theorem dX11_parting_73 : decode cX11_parting 73 = .ok (.goto (-28), 3) := by decide +kernel
theorem dX11_parting_76 : decode cX11_parting 76 = .ok (.bipush (-9), 2) := by decide +kernel
theorem dX11_parting_78 : decode cX11_parting 78 = .ok (.ireturn, 1) := by decide +kernel
theorem dX11_forged_0 : decode cX11_forged 0 = .ok (.aload_n 0, 1) := by decide +kernel
theorem dX11_forged_1 : decode cX11_forged 1 = .ok (.iload_n 1, 1) := by decide +kernel
theorem dX11_forged_2 : decode cX11_forged 2 = .ok (.iload_n 2, 1) := by decide +kernel
theorem dX11_forged_3 : decode cX11_forged 3 = .ok (.invokevirtual 157, 3) := by decide +kernel
theorem dX11_forged_6 : decode cX11_forged 6 = .ok (.ifCond .ne 17, 3) := by decide +kernel
theorem dX11_forged_9 : decode cX11_forged 9 = .ok (.aload_n 0, 1) := by decide +kernel
theorem dX11_forged_10 : decode cX11_forged 10 = .ok (.getfield 62, 3) := by decide +kernel
theorem dX11_forged_13 : decode cX11_forged 13 = .ok (.getfield 127, 3) := by decide +kernel
theorem dX11_forged_16 : decode cX11_forged 16 = .ok (.iload_n 3, 1) := by decide +kernel
theorem dX11_forged_17 : decode cX11_forged 17 = .ok (.invokevirtual 147, 3) := by decide +kernel
theorem dX11_forged_20 : decode cX11_forged 20 = .ok (.ifCond .ne 5, 3) := by decide +kernel
theorem dX11_forged_23 : decode cX11_forged 23 = .ok (.iconst (-1), 1) := by decide +kernel
theorem dX11_forged_24 : decode cX11_forged 24 = .ok (.ireturn, 1) := by decide +kernel
theorem dX11_forged_25 : decode cX11_forged 25 = .ok (.aload_n 0, 1) := by decide +kernel
theorem dX11_forged_26 : decode cX11_forged 26 = .ok (.iload_n 1, 1) := by decide +kernel
theorem dX11_forged_27 : decode cX11_forged 27 = .ok (.iload_n 2, 1) := by decide +kernel
theorem dX11_forged_28 : decode cX11_forged 28 = .ok (.invokevirtual 161, 3) := by decide +kernel
theorem dX11_forged_31 : decode cX11_forged 31 = .ok (.iload_n 3, 1) := by decide +kernel
theorem dX11_forged_32 : decode cX11_forged 32 = .ok (.invokevirtual 171, 3) := by decide +kernel
theorem dX11_forged_35 : decode cX11_forged 35 = .ok (.ifCond .ne 6, 3) := by decide +kernel
theorem dX11_forged_38 : decode cX11_forged 38 = .ok (.bipush (-2), 2) := by decide +kernel
theorem dX11_forged_40 : decode cX11_forged 40 = .ok (.ireturn, 1) := by decide +kernel
theorem dX11_forged_41 : decode cX11_forged 41 = .ok (.aload_n 0, 1) := by decide +kernel
theorem dX11_forged_42 : decode cX11_forged 42 = .ok (.getfield 62, 3) := by decide +kernel
theorem dX11_forged_45 : decode cX11_forged 45 = .ok (.getfield 127, 3) := by decide +kernel
theorem dX11_forged_48 : decode cX11_forged 48 = .ok (.invokevirtual 139, 3) := by decide +kernel
theorem dX11_forged_51 : decode cX11_forged 51 = .ok (.ifCond .eq 6, 3) := by decide +kernel
theorem dX11_forged_54 : decode cX11_forged 54 = .ok (.bipush (-3), 2) := by decide +kernel
theorem dX11_forged_56 : decode cX11_forged 56 = .ok (.ireturn, 1) := by decide +kernel
theorem dX11_forged_57 : decode cX11_forged 57 = .ok (.iconst 0, 1) := by decide +kernel
theorem dX11_forged_58 : decode cX11_forged 58 = .ok (.istore 4, 2) := by decide +kernel
theorem dX11_forged_60 : decode cX11_forged 60 = .ok (.iload 4, 2) := by decide +kernel
theorem dX11_forged_62 : decode cX11_forged 62 = .ok (.aload_n 0, 1) := by decide +kernel
theorem dX11_forged_63 : decode cX11_forged 63 = .ok (.getfield 62, 3) := by decide +kernel
theorem dX11_forged_66 : decode cX11_forged 66 = .ok (.getfield 127, 3) := by decide +kernel
theorem dX11_forged_69 : decode cX11_forged 69 = .ok (.invokevirtual 136, 3) := by decide +kernel
theorem dX11_forged_72 : decode cX11_forged 72 = .ok (.if_icmp .gt 56, 3) := by decide +kernel
theorem dX11_forged_75 : decode cX11_forged 75 = .ok (.iconst 0, 1) := by decide +kernel
theorem dX11_forged_76 : decode cX11_forged 76 = .ok (.istore 5, 2) := by decide +kernel
theorem dX11_forged_78 : decode cX11_forged 78 = .ok (.iload 5, 2) := by decide +kernel
theorem dX11_forged_80 : decode cX11_forged 80 = .ok (.aload_n 0, 1) := by decide +kernel
theorem dX11_forged_81 : decode cX11_forged 81 = .ok (.getfield 62, 3) := by decide +kernel
theorem dX11_forged_84 : decode cX11_forged 84 = .ok (.getfield 133, 3) := by decide +kernel
theorem dX11_forged_87 : decode cX11_forged 87 = .ok (.invokevirtual 136, 3) := by decide +kernel
theorem dX11_forged_90 : decode cX11_forged 90 = .ok (.if_icmp .ge 32, 3) := by decide +kernel
theorem dX11_forged_93 : decode cX11_forged 93 = .ok (.aload_n 0, 1) := by decide +kernel
theorem dX11_forged_94 : decode cX11_forged 94 = .ok (.iload_n 1, 1) := by decide +kernel
theorem dX11_forged_95 : decode cX11_forged 95 = .ok (.iload_n 2, 1) := by decide +kernel
theorem dX11_forged_96 : decode cX11_forged 96 = .ok (.iload_n 3, 1) := by decide +kernel
theorem dX11_forged_97 : decode cX11_forged 97 = .ok (.iload 4, 2) := by decide +kernel
theorem dX11_forged_99 : decode cX11_forged 99 = .ok (.iload 5, 2) := by decide +kernel
theorem dX11_forged_101 : decode cX11_forged 101 = .ok (.invokevirtual 215, 3) := by decide +kernel
theorem dX11_forged_104 : decode cX11_forged 104 = .ok (.ifCond .eq 12, 3) := by decide +kernel
theorem dX11_forged_107 : decode cX11_forged 107 = .ok (.bipush 10, 2) := by decide +kernel
theorem dX11_forged_109 : decode cX11_forged 109 = .ok (.iload 4, 2) := by decide +kernel
theorem dX11_forged_111 : decode cX11_forged 111 = .ok (.imul, 1) := by decide +kernel
theorem dX11_forged_112 : decode cX11_forged 112 = .ok (.iload 5, 2) := by decide +kernel
theorem dX11_forged_114 : decode cX11_forged 114 = .ok (.iadd, 1) := by decide +kernel
theorem dX11_forged_115 : decode cX11_forged 115 = .ok (.ireturn, 1) := by decide +kernel
theorem dX11_forged_116 : decode cX11_forged 116 = .ok (.iinc 5 1, 3) := by decide +kernel
theorem dX11_forged_119 : decode cX11_forged 119 = .ok (.goto (-41), 3) := by decide +kernel
theorem dX11_forged_122 : decode cX11_forged 122 = .ok (.iinc 4 1, 3) := by decide +kernel
theorem dX11_forged_125 : decode cX11_forged 125 = .ok (.goto (-65), 3) := by decide +kernel
theorem dX11_forged_128 : decode cX11_forged 128 = .ok (.bipush (-9), 2) := by decide +kernel
theorem dX11_forged_130 : decode cX11_forged 130 = .ok (.ireturn, 1) := by decide +kernel
theorem dX11_burnt_0 : decode cX11_burnt 0 = .ok (.aload_n 0, 1) := by decide +kernel
theorem dX11_burnt_1 : decode cX11_burnt 1 = .ok (.iload_n 1, 1) := by decide +kernel
theorem dX11_burnt_2 : decode cX11_burnt 2 = .ok (.iload_n 2, 1) := by decide +kernel
theorem dX11_burnt_3 : decode cX11_burnt 3 = .ok (.invokevirtual 157, 3) := by decide +kernel
theorem dX11_burnt_6 : decode cX11_burnt 6 = .ok (.ifCond .ne 12, 3) := by decide +kernel
theorem dX11_burnt_9 : decode cX11_burnt 9 = .ok (.aload_n 0, 1) := by decide +kernel
theorem dX11_burnt_10 : decode cX11_burnt 10 = .ok (.iload 4, 2) := by decide +kernel
theorem dX11_burnt_12 : decode cX11_burnt 12 = .ok (.invokevirtual 196, 3) := by decide +kernel
theorem dX11_burnt_15 : decode cX11_burnt 15 = .ok (.ifCond .eq 7, 3) := by decide +kernel
theorem dX11_burnt_18 : decode cX11_burnt 18 = .ok (.ldc2_w 219, 3) := by decide +kernel
theorem dX11_burnt_21 : decode cX11_burnt 21 = .ok (.lreturn, 1) := by decide +kernel
theorem dX11_burnt_22 : decode cX11_burnt 22 = .ok (.aload_n 0, 1) := by decide +kernel
theorem dX11_burnt_23 : decode cX11_burnt 23 = .ok (.getfield 42, 3) := by decide +kernel
theorem dX11_burnt_26 : decode cX11_burnt 26 = .ok (.aload_n 0, 1) := by decide +kernel
theorem dX11_burnt_27 : decode cX11_burnt 27 = .ok (.getfield 62, 3) := by decide +kernel
theorem dX11_burnt_30 : decode cX11_burnt 30 = .ok (.iload_n 1, 1) := by decide +kernel
theorem dX11_burnt_31 : decode cX11_burnt 31 = .ok (.iload_n 2, 1) := by decide +kernel
theorem dX11_burnt_32 : decode cX11_burnt 32 = .ok (.iload_n 3, 1) := by decide +kernel
theorem dX11_burnt_33 : decode cX11_burnt 33 = .ok (.invokevirtual 221, 3) := by decide +kernel
theorem dX11_burnt_36 : decode cX11_burnt 36 = .ok (.lstore 5, 2) := by decide +kernel
theorem dX11_burnt_38 : decode cX11_burnt 38 = .ok (.iload 4, 2) := by decide +kernel
theorem dX11_burnt_40 : decode cX11_burnt 40 = .ok (.ifCond .ge 6, 3) := by decide +kernel
theorem dX11_burnt_43 : decode cX11_burnt 43 = .ok (.lload 5, 2) := by decide +kernel
theorem dX11_burnt_45 : decode cX11_burnt 45 = .ok (.lreturn, 1) := by decide +kernel
theorem dX11_burnt_46 : decode cX11_burnt 46 = .ok (.lload 5, 2) := by decide +kernel
theorem dX11_burnt_48 : decode cX11_burnt 48 = .ok (.lconst 0, 1) := by decide +kernel
theorem dX11_burnt_49 : decode cX11_burnt 49 = .ok (.lcmp, 1) := by decide +kernel
theorem dX11_burnt_50 : decode cX11_burnt 50 = .ok (.ifCond .le 22, 3) := by decide +kernel
theorem dX11_burnt_53 : decode cX11_burnt 53 = .ok (.aload_n 0, 1) := by decide +kernel
theorem dX11_burnt_54 : decode cX11_burnt 54 = .ok (.getfield 42, 3) := by decide +kernel
theorem dX11_burnt_57 : decode cX11_burnt 57 = .ok (.aload_n 0, 1) := by decide +kernel
theorem dX11_burnt_58 : decode cX11_burnt 58 = .ok (.getfield 62, 3) := by decide +kernel
theorem dX11_burnt_61 : decode cX11_burnt 61 = .ok (.iload_n 1, 1) := by decide +kernel
theorem dX11_burnt_62 : decode cX11_burnt 62 = .ok (.iload_n 2, 1) := by decide +kernel
theorem dX11_burnt_63 : decode cX11_burnt 63 = .ok (.iload 4, 2) := by decide +kernel
theorem dX11_burnt_65 : decode cX11_burnt 65 = .ok (.invokevirtual 225, 3) := by decide +kernel
theorem dX11_burnt_68 : decode cX11_burnt 68 = .ok (.i2l, 1) := by decide +kernel
theorem dX11_burnt_69 : decode cX11_burnt 69 = .ok (.goto 4, 3) := by decide +kernel
theorem dX11_burnt_72 : decode cX11_burnt 72 = .ok (.lconst 0, 1) := by decide +kernel
theorem dX11_burnt_73 : decode cX11_burnt 73 = .ok (.lreturn, 1) := by decide +kernel
theorem dX11_rate_0 : decode cX11_rate 0 = .ok (.aload_n 0, 1) := by decide +kernel
theorem dX11_rate_1 : decode cX11_rate 1 = .ok (.getfield 62, 3) := by decide +kernel
theorem dX11_rate_4 : decode cX11_rate 4 = .ok (.getfield 127, 3) := by decide +kernel
theorem dX11_rate_7 : decode cX11_rate 7 = .ok (.iload_n 2, 1) := by decide +kernel
theorem dX11_rate_8 : decode cX11_rate 8 = .ok (.invokevirtual 147, 3) := by decide +kernel
theorem dX11_rate_11 : decode cX11_rate 11 = .ok (.ifCond .ne 6, 3) := by decide +kernel
theorem dX11_rate_14 : decode cX11_rate 14 = .ok (.ldc 228, 2) := by decide +kernel
theorem dX11_rate_16 : decode cX11_rate 16 = .ok (.ireturn, 1) := by decide +kernel
theorem dX11_rate_17 : decode cX11_rate 17 = .ok (.iload_n 1, 1) := by decide +kernel
theorem dX11_rate_18 : decode cX11_rate 18 = .ok (.tableswitch 74 0 5 #[38, 44, 50, 56, 62, 68], 38) := by decide +kernel
theorem dX11_rate_56 : decode cX11_rate 56 = .ok (.aload_n 0, 1) := by decide +kernel
theorem dX11_rate_57 : decode cX11_rate 57 = .ok (.iload_n 2, 1) := by decide +kernel
theorem dX11_rate_58 : decode cX11_rate 58 = .ok (.invokevirtual 229, 3) := by decide +kernel
theorem dX11_rate_61 : decode cX11_rate 61 = .ok (.ireturn, 1) := by decide +kernel
theorem dX11_rate_62 : decode cX11_rate 62 = .ok (.aload_n 0, 1) := by decide +kernel
theorem dX11_rate_63 : decode cX11_rate 63 = .ok (.iload_n 2, 1) := by decide +kernel
theorem dX11_rate_64 : decode cX11_rate 64 = .ok (.invokevirtual 232, 3) := by decide +kernel
theorem dX11_rate_67 : decode cX11_rate 67 = .ok (.ireturn, 1) := by decide +kernel
theorem dX11_rate_68 : decode cX11_rate 68 = .ok (.aload_n 0, 1) := by decide +kernel
theorem dX11_rate_69 : decode cX11_rate 69 = .ok (.iload_n 2, 1) := by decide +kernel
theorem dX11_rate_70 : decode cX11_rate 70 = .ok (.invokevirtual 235, 3) := by decide +kernel
theorem dX11_rate_73 : decode cX11_rate 73 = .ok (.ireturn, 1) := by decide +kernel
theorem dX11_rate_74 : decode cX11_rate 74 = .ok (.aload_n 0, 1) := by decide +kernel
theorem dX11_rate_75 : decode cX11_rate 75 = .ok (.iload_n 2, 1) := by decide +kernel
theorem dX11_rate_76 : decode cX11_rate 76 = .ok (.invokevirtual 238, 3) := by decide +kernel
theorem dX11_rate_79 : decode cX11_rate 79 = .ok (.ireturn, 1) := by decide +kernel
theorem dX11_rate_80 : decode cX11_rate 80 = .ok (.aload_n 0, 1) := by decide +kernel
theorem dX11_rate_81 : decode cX11_rate 81 = .ok (.iload_n 2, 1) := by decide +kernel
theorem dX11_rate_82 : decode cX11_rate 82 = .ok (.invokevirtual 241, 3) := by decide +kernel
theorem dX11_rate_85 : decode cX11_rate 85 = .ok (.ireturn, 1) := by decide +kernel
theorem dX11_rate_86 : decode cX11_rate 86 = .ok (.aload_n 0, 1) := by decide +kernel
theorem dX11_rate_87 : decode cX11_rate 87 = .ok (.iload_n 2, 1) := by decide +kernel
theorem dX11_rate_88 : decode cX11_rate 88 = .ok (.invokevirtual 244, 3) := by decide +kernel
theorem dX11_rate_91 : decode cX11_rate 91 = .ok (.ireturn, 1) := by decide +kernel
theorem dX11_rate_92 : decode cX11_rate 92 = .ok (.ldc 228, 2) := by decide +kernel
theorem dX11_rate_94 : decode cX11_rate 94 = .ok (.ireturn, 1) := by decide +kernel
theorem dX11_keep_0 : decode cX11_keep 0 = .ok (.iload_n 1, 1) := by decide +kernel
theorem dX11_keep_1 : decode cX11_keep 1 = .ok (.ifCond .lt 8, 3) := by decide +kernel
theorem dX11_keep_4 : decode cX11_keep 4 = .ok (.iload_n 1, 1) := by decide +kernel
theorem dX11_keep_5 : decode cX11_keep 5 = .ok (.iconst 2, 1) := by decide +kernel
theorem dX11_keep_6 : decode cX11_keep 6 = .ok (.if_icmp .lt 5, 3) := by decide +kernel
theorem dX11_keep_9 : decode cX11_keep 9 = .ok (.iconst (-1), 1) := by decide +kernel
theorem dX11_keep_10 : decode cX11_keep 10 = .ok (.ireturn, 1) := by decide +kernel
theorem dX11_keep_11 : decode cX11_keep 11 = .ok (.aload_n 0, 1) := by decide +kernel
theorem dX11_keep_12 : decode cX11_keep 12 = .ok (.iload_n 1, 1) := by decide +kernel
theorem dX11_keep_13 : decode cX11_keep 13 = .ok (.invokevirtual 247, 3) := by decide +kernel
theorem dX11_keep_16 : decode cX11_keep 16 = .ok (.aload_n 0, 1) := by decide +kernel
theorem dX11_keep_17 : decode cX11_keep 17 = .ok (.getfield 62, 3) := by decide +kernel
theorem dX11_keep_20 : decode cX11_keep 20 = .ok (.getfield 127, 3) := by decide +kernel
theorem dX11_keep_23 : decode cX11_keep 23 = .ok (.invokevirtual 251, 3) := by decide +kernel
theorem dX11_keep_26 : decode cX11_keep 26 = .ok (.aload_n 0, 1) := by decide +kernel
theorem dX11_keep_27 : decode cX11_keep 27 = .ok (.dup, 1) := by decide +kernel
theorem dX11_keep_28 : decode cX11_keep 28 = .ok (.getfield 85, 3) := by decide +kernel
theorem dX11_keep_31 : decode cX11_keep 31 = .ok (.iconst 1, 1) := by decide +kernel
theorem dX11_keep_32 : decode cX11_keep 32 = .ok (.iload_n 1, 1) := by decide +kernel
theorem dX11_keep_33 : decode cX11_keep 33 = .ok (.ishl, 1) := by decide +kernel
theorem dX11_keep_34 : decode cX11_keep 34 = .ok (.ior, 1) := by decide +kernel
theorem dX11_keep_35 : decode cX11_keep 35 = .ok (.putfield 85, 3) := by decide +kernel
theorem dX11_keep_38 : decode cX11_keep 38 = .ok (.aload_n 0, 1) := by decide +kernel
theorem dX11_keep_39 : decode cX11_keep 39 = .ok (.getfield 62, 3) := by decide +kernel
theorem dX11_keep_42 : decode cX11_keep 42 = .ok (.getfield 127, 3) := by decide +kernel
theorem dX11_keep_45 : decode cX11_keep 45 = .ok (.invokevirtual 136, 3) := by decide +kernel
theorem dX11_keep_48 : decode cX11_keep 48 = .ok (.ireturn, 1) := by decide +kernel
theorem dX11_back_0 : decode cX11_back 0 = .ok (.iload_n 1, 1) := by decide +kernel
theorem dX11_back_1 : decode cX11_back 1 = .ok (.ifCond .lt 8, 3) := by decide +kernel
theorem dX11_back_4 : decode cX11_back 4 = .ok (.iload_n 1, 1) := by decide +kernel
theorem dX11_back_5 : decode cX11_back 5 = .ok (.iconst 2, 1) := by decide +kernel
theorem dX11_back_6 : decode cX11_back 6 = .ok (.if_icmp .lt 5, 3) := by decide +kernel
theorem dX11_back_9 : decode cX11_back 9 = .ok (.iconst (-1), 1) := by decide +kernel
theorem dX11_back_10 : decode cX11_back 10 = .ok (.ireturn, 1) := by decide +kernel
theorem dX11_back_11 : decode cX11_back 11 = .ok (.aload_n 0, 1) := by decide +kernel
theorem dX11_back_12 : decode cX11_back 12 = .ok (.getfield 85, 3) := by decide +kernel
theorem dX11_back_15 : decode cX11_back 15 = .ok (.iload_n 1, 1) := by decide +kernel
theorem dX11_back_16 : decode cX11_back 16 = .ok (.ishr, 1) := by decide +kernel
theorem dX11_back_17 : decode cX11_back 17 = .ok (.iconst 1, 1) := by decide +kernel
theorem dX11_back_18 : decode cX11_back 18 = .ok (.iand, 1) := by decide +kernel
theorem dX11_back_19 : decode cX11_back 19 = .ok (.ifCond .ne 6, 3) := by decide +kernel
theorem dX11_back_22 : decode cX11_back 22 = .ok (.bipush (-2), 2) := by decide +kernel
theorem dX11_back_24 : decode cX11_back 24 = .ok (.ireturn, 1) := by decide +kernel
theorem dX11_back_25 : decode cX11_back 25 = .ok (.aload_n 0, 1) := by decide +kernel
theorem dX11_back_26 : decode cX11_back 26 = .ok (.getfield 62, 3) := by decide +kernel
theorem dX11_back_29 : decode cX11_back 29 = .ok (.getfield 127, 3) := by decide +kernel
theorem dX11_back_32 : decode cX11_back 32 = .ok (.aload_n 0, 1) := by decide +kernel
theorem dX11_back_33 : decode cX11_back 33 = .ok (.iload_n 1, 1) := by decide +kernel
theorem dX11_back_34 : decode cX11_back 34 = .ok (.invokevirtual 247, 3) := by decide +kernel
theorem dX11_back_37 : decode cX11_back 37 = .ok (.invokevirtual 251, 3) := by decide +kernel
theorem dX11_back_40 : decode cX11_back 40 = .ok (.aload_n 0, 1) := by decide +kernel
theorem dX11_back_41 : decode cX11_back 41 = .ok (.getfield 62, 3) := by decide +kernel
theorem dX11_back_44 : decode cX11_back 44 = .ok (.getfield 127, 3) := by decide +kernel
theorem dX11_back_47 : decode cX11_back 47 = .ok (.invokevirtual 136, 3) := by decide +kernel
theorem dX11_back_50 : decode cX11_back 50 = .ok (.ireturn, 1) := by decide +kernel
theorem dX11_count_0 : decode cX11_count 0 = .ok (.iload_n 1, 1) := by decide +kernel
theorem dX11_count_1 : decode cX11_count 1 = .ok (.tableswitch 87 0 4 #[35, 46, 57, 68, 79], 35) := by decide +kernel
theorem dX11_count_36 : decode cX11_count 36 = .ok (.aload_n 0, 1) := by decide +kernel
theorem dX11_count_37 : decode cX11_count 37 = .ok (.getfield 62, 3) := by decide +kernel
theorem dX11_count_40 : decode cX11_count 40 = .ok (.getfield 89, 3) := by decide +kernel
theorem dX11_count_43 : decode cX11_count 43 = .ok (.invokevirtual 211, 3) := by decide +kernel
theorem dX11_count_46 : decode cX11_count 46 = .ok (.ireturn, 1) := by decide +kernel
theorem dX11_count_47 : decode cX11_count 47 = .ok (.aload_n 0, 1) := by decide +kernel
theorem dX11_count_48 : decode cX11_count 48 = .ok (.getfield 62, 3) := by decide +kernel
theorem dX11_count_51 : decode cX11_count 51 = .ok (.getfield 110, 3) := by decide +kernel
theorem dX11_count_54 : decode cX11_count 54 = .ok (.invokevirtual 255, 3) := by decide +kernel
theorem dX11_count_57 : decode cX11_count 57 = .ok (.ireturn, 1) := by decide +kernel
theorem dX11_count_58 : decode cX11_count 58 = .ok (.aload_n 0, 1) := by decide +kernel
theorem dX11_count_59 : decode cX11_count 59 = .ok (.getfield 62, 3) := by decide +kernel
theorem dX11_count_62 : decode cX11_count 62 = .ok (.getfield 127, 3) := by decide +kernel
theorem dX11_count_65 : decode cX11_count 65 = .ok (.invokevirtual 136, 3) := by decide +kernel
theorem dX11_count_68 : decode cX11_count 68 = .ok (.ireturn, 1) := by decide +kernel
theorem dX11_count_69 : decode cX11_count 69 = .ok (.aload_n 0, 1) := by decide +kernel
theorem dX11_count_70 : decode cX11_count 70 = .ok (.getfield 62, 3) := by decide +kernel
theorem dX11_count_73 : decode cX11_count 73 = .ok (.getfield 133, 3) := by decide +kernel
theorem dX11_count_76 : decode cX11_count 76 = .ok (.invokevirtual 136, 3) := by decide +kernel
theorem dX11_count_79 : decode cX11_count 79 = .ok (.ireturn, 1) := by decide +kernel
theorem dX11_count_80 : decode cX11_count 80 = .ok (.aload_n 0, 1) := by decide +kernel
theorem dX11_count_81 : decode cX11_count 81 = .ok (.getfield 10, 3) := by decide +kernel
theorem dX11_count_84 : decode cX11_count 84 = .ok (.invokevirtual 69, 3) := by decide +kernel
theorem dX11_count_87 : decode cX11_count 87 = .ok (.ireturn, 1) := by decide +kernel
theorem dX11_count_88 : decode cX11_count 88 = .ok (.iconst (-1), 1) := by decide +kernel
theorem dX11_count_89 : decode cX11_count 89 = .ok (.ireturn, 1) := by decide +kernel
theorem dX11_trace_0 : decode cX11_trace 0 = .ok (.aload_n 0, 1) := by decide +kernel
theorem dX11_trace_1 : decode cX11_trace 1 = .ok (.getfield 256, 3) := by decide +kernel
theorem dX11_trace_4 : decode cX11_trace 4 = .ok (.lreturn, 1) := by decide +kernel
theorem dX11_isNoView_0 : decode cX11_isNoView 0 = .ok (.aload_n 0, 1) := by decide +kernel
theorem dX11_isNoView_1 : decode cX11_isNoView 1 = .ok (.getfield 62, 3) := by decide +kernel
theorem dX11_isNoView_4 : decode cX11_isNoView 4 = .ok (.getfield 110, 3) := by decide +kernel
theorem dX11_isNoView_7 : decode cX11_isNoView 7 = .ok (.iload_n 1, 1) := by decide +kernel
theorem dX11_isNoView_8 : decode cX11_isNoView 8 = .ok (.invokevirtual 114, 3) := by decide +kernel
theorem dX11_isNoView_11 : decode cX11_isNoView 11 = .ok (.ifCond .eq 12, 3) := by decide +kernel
theorem dX11_isNoView_14 : decode cX11_isNoView 14 = .ok (.iload_n 2, 1) := by decide +kernel
theorem dX11_isNoView_15 : decode cX11_isNoView 15 = .ok (.ifCond .lt 8, 3) := by decide +kernel
theorem dX11_isNoView_18 : decode cX11_isNoView 18 = .ok (.iload_n 2, 1) := by decide +kernel
theorem dX11_isNoView_19 : decode cX11_isNoView 19 = .ok (.iconst 2, 1) := by decide +kernel
theorem dX11_isNoView_20 : decode cX11_isNoView 20 = .ok (.if_icmp .lt 7, 3) := by decide +kernel
theorem dX11_isNoView_23 : decode cX11_isNoView 23 = .ok (.iconst 1, 1) := by decide +kernel
theorem dX11_isNoView_24 : decode cX11_isNoView 24 = .ok (.goto 4, 3) := by decide +kernel
theorem dX11_isNoView_27 : decode cX11_isNoView 27 = .ok (.iconst 0, 1) := by decide +kernel
theorem dX11_isNoView_28 : decode cX11_isNoView 28 = .ok (.ireturn, 1) := by decide +kernel
theorem dX11_isNoLineNorAll_0 : decode cX11_isNoLineNorAll 0 = .ok (.iload_n 1, 1) := by decide +kernel
theorem dX11_isNoLineNorAll_1 : decode cX11_isNoLineNorAll 1 = .ok (.iconst (-1), 1) := by decide +kernel
theorem dX11_isNoLineNorAll_2 : decode cX11_isNoLineNorAll 2 = .ok (.if_icmp .eq 21, 3) := by decide +kernel
theorem dX11_isNoLineNorAll_5 : decode cX11_isNoLineNorAll 5 = .ok (.aload_n 0, 1) := by decide +kernel
theorem dX11_isNoLineNorAll_6 : decode cX11_isNoLineNorAll 6 = .ok (.getfield 62, 3) := by decide +kernel
theorem dX11_isNoLineNorAll_9 : decode cX11_isNoLineNorAll 9 = .ok (.getfield 127, 3) := by decide +kernel
theorem dX11_isNoLineNorAll_12 : decode cX11_isNoLineNorAll 12 = .ok (.iload_n 1, 1) := by decide +kernel
theorem dX11_isNoLineNorAll_13 : decode cX11_isNoLineNorAll 13 = .ok (.invokevirtual 147, 3) := by decide +kernel
theorem dX11_isNoLineNorAll_16 : decode cX11_isNoLineNorAll 16 = .ok (.ifCond .ne 7, 3) := by decide +kernel
theorem dX11_isNoLineNorAll_19 : decode cX11_isNoLineNorAll 19 = .ok (.iconst 1, 1) := by decide +kernel
theorem dX11_isNoLineNorAll_20 : decode cX11_isNoLineNorAll 20 = .ok (.goto 4, 3) := by decide +kernel
theorem dX11_isNoLineNorAll_23 : decode cX11_isNoLineNorAll 23 = .ok (.iconst 0, 1) := by decide +kernel
theorem dX11_isNoLineNorAll_24 : decode cX11_isNoLineNorAll 24 = .ok (.ireturn, 1) := by decide +kernel
theorem dX11_view_0 : decode cX11_view 0 = .ok (.aload_n 0, 1) := by decide +kernel
theorem dX11_view_1 : decode cX11_view 1 = .ok (.getfield 19, 3) := by decide +kernel
theorem dX11_view_4 : decode cX11_view 4 = .ok (.aload_n 0, 1) := by decide +kernel
theorem dX11_view_5 : decode cX11_view 5 = .ok (.getfield 62, 3) := by decide +kernel
theorem dX11_view_8 : decode cX11_view 8 = .ok (.aload_n 0, 1) := by decide +kernel
theorem dX11_view_9 : decode cX11_view 9 = .ok (.getfield 62, 3) := by decide +kernel
theorem dX11_view_12 : decode cX11_view 12 = .ok (.getfield 127, 3) := by decide +kernel
theorem dX11_view_15 : decode cX11_view 15 = .ok (.iload_n 1, 1) := by decide +kernel
theorem dX11_view_16 : decode cX11_view 16 = .ok (.iload_n 2, 1) := by decide +kernel
theorem dX11_view_17 : decode cX11_view 17 = .ok (.invokevirtual 260, 3) := by decide +kernel
theorem dX11_view_20 : decode cX11_view 20 = .ok (.aload_n 0, 1) := by decide +kernel
theorem dX11_view_21 : decode cX11_view 21 = .ok (.getfield 19, 3) := by decide +kernel
theorem dX11_view_24 : decode cX11_view 24 = .ok (.areturn, 1) := by decide +kernel
theorem dX11_isMixedLaw_0 : decode cX11_isMixedLaw 0 = .ok (.aload_n 0, 1) := by decide +kernel
theorem dX11_isMixedLaw_1 : decode cX11_isMixedLaw 1 = .ok (.getfield 62, 3) := by decide +kernel
theorem dX11_isMixedLaw_4 : decode cX11_isMixedLaw 4 = .ok (.getfield 89, 3) := by decide +kernel
theorem dX11_isMixedLaw_7 : decode cX11_isMixedLaw 7 = .ok (.iload_n 2, 1) := by decide +kernel
theorem dX11_isMixedLaw_8 : decode cX11_isMixedLaw 8 = .ok (.invokevirtual 264, 3) := by decide +kernel
theorem dX11_isMixedLaw_11 : decode cX11_isMixedLaw 11 = .ok (.aload_n 0, 1) := by decide +kernel
theorem dX11_isMixedLaw_12 : decode cX11_isMixedLaw 12 = .ok (.iload_n 1, 1) := by decide +kernel
theorem dX11_isMixedLaw_13 : decode cX11_isMixedLaw 13 = .ok (.iconst 2, 1) := by decide +kernel
theorem dX11_isMixedLaw_14 : decode cX11_isMixedLaw 14 = .ok (.invokevirtual 161, 3) := by decide +kernel
theorem dX11_isMixedLaw_17 : decode cX11_isMixedLaw 17 = .ok (.invokevirtual 180, 3) := by decide +kernel
theorem dX11_isMixedLaw_20 : decode cX11_isMixedLaw 20 = .ok (.ireturn, 1) := by decide +kernel
theorem dX11_isLoosed_0 : decode cX11_isLoosed 0 = .ok (.aload_n 0, 1) := by decide +kernel
theorem dX11_isLoosed_1 : decode cX11_isLoosed 1 = .ok (.getfield 28, 3) := by decide +kernel
theorem dX11_isLoosed_4 : decode cX11_isLoosed 4 = .ok (.aload_n 0, 1) := by decide +kernel
theorem dX11_isLoosed_5 : decode cX11_isLoosed 5 = .ok (.getfield 62, 3) := by decide +kernel
theorem dX11_isLoosed_8 : decode cX11_isLoosed 8 = .ok (.getfield 127, 3) := by decide +kernel
theorem dX11_isLoosed_11 : decode cX11_isLoosed 11 = .ok (.invokevirtual 251, 3) := by decide +kernel
theorem dX11_isLoosed_14 : decode cX11_isLoosed 14 = .ok (.aload_n 0, 1) := by decide +kernel
theorem dX11_isLoosed_15 : decode cX11_isLoosed 15 = .ok (.getfield 28, 3) := by decide +kernel
theorem dX11_isLoosed_18 : decode cX11_isLoosed 18 = .ok (.iload 4, 2) := by decide +kernel
theorem dX11_isLoosed_20 : decode cX11_isLoosed 20 = .ok (.aload_n 0, 1) := by decide +kernel
theorem dX11_isLoosed_21 : decode cX11_isLoosed 21 = .ok (.getfield 62, 3) := by decide +kernel
theorem dX11_isLoosed_24 : decode cX11_isLoosed 24 = .ok (.getfield 133, 3) := by decide +kernel
theorem dX11_isLoosed_27 : decode cX11_isLoosed 27 = .ok (.iload 5, 2) := by decide +kernel
theorem dX11_isLoosed_29 : decode cX11_isLoosed 29 = .ok (.invokevirtual 148, 3) := by decide +kernel
theorem dX11_isLoosed_32 : decode cX11_isLoosed 32 = .ok (.aload_n 0, 1) := by decide +kernel
theorem dX11_isLoosed_33 : decode cX11_isLoosed 33 = .ok (.getfield 62, 3) := by decide +kernel
theorem dX11_isLoosed_36 : decode cX11_isLoosed 36 = .ok (.getfield 133, 3) := by decide +kernel
theorem dX11_isLoosed_39 : decode cX11_isLoosed 39 = .ok (.iload 5, 2) := by decide +kernel
theorem dX11_isLoosed_41 : decode cX11_isLoosed 41 = .ok (.invokevirtual 267, 3) := by decide +kernel
theorem dX11_isLoosed_44 : decode cX11_isLoosed 44 = .ok (.aload_n 0, 1) := by decide +kernel
theorem dX11_isLoosed_45 : decode cX11_isLoosed 45 = .ok (.getfield 62, 3) := by decide +kernel
theorem dX11_isLoosed_48 : decode cX11_isLoosed 48 = .ok (.getfield 133, 3) := by decide +kernel
theorem dX11_isLoosed_51 : decode cX11_isLoosed 51 = .ok (.iload 5, 2) := by decide +kernel
theorem dX11_isLoosed_53 : decode cX11_isLoosed 53 = .ok (.invokevirtual 270, 3) := by decide +kernel
theorem dX11_isLoosed_56 : decode cX11_isLoosed 56 = .ok (.invokevirtual 143, 3) := by decide +kernel
theorem dX11_isLoosed_59 : decode cX11_isLoosed 59 = .ok (.aload_n 0, 1) := by decide +kernel
theorem dX11_isLoosed_60 : decode cX11_isLoosed 60 = .ok (.getfield 19, 3) := by decide +kernel
theorem dX11_isLoosed_63 : decode cX11_isLoosed 63 = .ok (.aload_n 0, 1) := by decide +kernel
theorem dX11_isLoosed_64 : decode cX11_isLoosed 64 = .ok (.getfield 62, 3) := by decide +kernel
theorem dX11_isLoosed_67 : decode cX11_isLoosed 67 = .ok (.aload_n 0, 1) := by decide +kernel
theorem dX11_isLoosed_68 : decode cX11_isLoosed 68 = .ok (.getfield 28, 3) := by decide +kernel
theorem dX11_isLoosed_71 : decode cX11_isLoosed 71 = .ok (.iload_n 1, 1) := by decide +kernel
theorem dX11_isLoosed_72 : decode cX11_isLoosed 72 = .ok (.iload_n 2, 1) := by decide +kernel
theorem dX11_isLoosed_73 : decode cX11_isLoosed 73 = .ok (.invokevirtual 260, 3) := by decide +kernel
theorem dX11_isLoosed_76 : decode cX11_isLoosed 76 = .ok (.aload_n 0, 1) := by decide +kernel
theorem dX11_isLoosed_77 : decode cX11_isLoosed 77 = .ok (.getfield 19, 3) := by decide +kernel
theorem dX11_isLoosed_80 : decode cX11_isLoosed 80 = .ok (.iload 4, 2) := by decide +kernel
theorem dX11_isLoosed_82 : decode cX11_isLoosed 82 = .ok (.iload_n 3, 1) := by decide +kernel
theorem dX11_isLoosed_83 : decode cX11_isLoosed 83 = .ok (.if_icmp .gt 9, 3) := by decide +kernel
theorem dX11_isLoosed_86 : decode cX11_isLoosed 86 = .ok (.iload_n 3, 1) := by decide +kernel
theorem dX11_isLoosed_87 : decode cX11_isLoosed 87 = .ok (.iconst 1, 1) := by decide +kernel
theorem dX11_isLoosed_88 : decode cX11_isLoosed 88 = .ok (.iadd, 1) := by decide +kernel
theorem dX11_isLoosed_89 : decode cX11_isLoosed 89 = .ok (.goto 4, 3) := by decide +kernel
theorem dX11_isLoosed_92 : decode cX11_isLoosed 92 = .ok (.iload_n 3, 1) := by decide +kernel
theorem dX11_isLoosed_93 : decode cX11_isLoosed 93 = .ok (.invokevirtual 171, 3) := by decide +kernel
theorem dX11_isLoosed_96 : decode cX11_isLoosed 96 = .ok (.ifCond .ne 7, 3) := by decide +kernel
theorem dX11_isLoosed_99 : decode cX11_isLoosed 99 = .ok (.iconst 1, 1) := by decide +kernel
theorem dX11_isLoosed_100 : decode cX11_isLoosed 100 = .ok (.goto 4, 3) := by decide +kernel
theorem dX11_isLoosed_103 : decode cX11_isLoosed 103 = .ok (.iconst 0, 1) := by decide +kernel
theorem dX11_isLoosed_104 : decode cX11_isLoosed 104 = .ok (.ireturn, 1) := by decide +kernel
theorem dX11_imageOf_0 : decode cX11_imageOf 0 = .ok (.iload_n 1, 1) := by decide +kernel
theorem dX11_imageOf_1 : decode cX11_imageOf 1 = .ok (.ifCond .ne 10, 3) := by decide +kernel
theorem dX11_imageOf_4 : decode cX11_imageOf 4 = .ok (.aload_n 0, 1) := by decide +kernel
theorem dX11_imageOf_5 : decode cX11_imageOf 5 = .ok (.getfield 53, 3) := by decide +kernel
theorem dX11_imageOf_8 : decode cX11_imageOf 8 = .ok (.goto 7, 3) := by decide +kernel
theorem dX11_imageOf_11 : decode cX11_imageOf 11 = .ok (.aload_n 0, 1) := by decide +kernel
theorem dX11_imageOf_12 : decode cX11_imageOf 12 = .ok (.getfield 56, 3) := by decide +kernel
theorem dX11_imageOf_15 : decode cX11_imageOf 15 = .ok (.areturn, 1) := by decide +kernel
theorem dX11_asLine_0 : decode cX11_asLine 0 = .ok (.aload_n 0, 1) := by decide +kernel
theorem dX11_asLine_1 : decode cX11_asLine 1 = .ok (.dup, 1) := by decide +kernel
theorem dX11_asLine_2 : decode cX11_asLine 2 = .ok (.getfield 256, 3) := by decide +kernel
theorem dX11_asLine_5 : decode cX11_asLine 5 = .ok (.lconst 1, 1) := by decide +kernel
theorem dX11_asLine_6 : decode cX11_asLine 6 = .ok (.ladd, 1) := by decide +kernel
theorem dX11_asLine_7 : decode cX11_asLine 7 = .ok (.putfield 256, 3) := by decide +kernel
theorem dX11_asLine_10 : decode cX11_asLine 10 = .ok (.aload_n 0, 1) := by decide +kernel
theorem dX11_asLine_11 : decode cX11_asLine 11 = .ok (.getfield 62, 3) := by decide +kernel
theorem dX11_asLine_14 : decode cX11_asLine 14 = .ok (.getfield 127, 3) := by decide +kernel
theorem dX11_asLine_17 : decode cX11_asLine 17 = .ok (.iload_n 1, 1) := by decide +kernel
theorem dX11_asLine_18 : decode cX11_asLine 18 = .ok (.invokevirtual 267, 3) := by decide +kernel
theorem dX11_asLine_21 : decode cX11_asLine 21 = .ok (.ireturn, 1) := by decide +kernel
theorem dX11_asOpening_0 : decode cX11_asOpening 0 = .ok (.aload_n 0, 1) := by decide +kernel
theorem dX11_asOpening_1 : decode cX11_asOpening 1 = .ok (.dup, 1) := by decide +kernel
theorem dX11_asOpening_2 : decode cX11_asOpening 2 = .ok (.getfield 256, 3) := by decide +kernel
theorem dX11_asOpening_5 : decode cX11_asOpening 5 = .ok (.ldc2_w 273, 3) := by decide +kernel
theorem dX11_asOpening_8 : decode cX11_asOpening 8 = .ok (.ladd, 1) := by decide +kernel
theorem dX11_asOpening_9 : decode cX11_asOpening 9 = .ok (.putfield 256, 3) := by decide +kernel
theorem dX11_asOpening_12 : decode cX11_asOpening 12 = .ok (.aload_n 0, 1) := by decide +kernel
theorem dX11_asOpening_13 : decode cX11_asOpening 13 = .ok (.iload_n 1, 1) := by decide +kernel
theorem dX11_asOpening_14 : decode cX11_asOpening 14 = .ok (.invokevirtual 229, 3) := by decide +kernel
theorem dX11_asOpening_17 : decode cX11_asOpening 17 = .ok (.aload_n 0, 1) := by decide +kernel
theorem dX11_asOpening_18 : decode cX11_asOpening 18 = .ok (.getfield 62, 3) := by decide +kernel
theorem dX11_asOpening_21 : decode cX11_asOpening 21 = .ok (.getfield 89, 3) := by decide +kernel
theorem dX11_asOpening_24 : decode cX11_asOpening 24 = .ok (.aload_n 0, 1) := by decide +kernel
theorem dX11_asOpening_25 : decode cX11_asOpening 25 = .ok (.getfield 62, 3) := by decide +kernel
theorem dX11_asOpening_28 : decode cX11_asOpening 28 = .ok (.getfield 127, 3) := by decide +kernel
theorem dX11_asOpening_31 : decode cX11_asOpening 31 = .ok (.iload_n 1, 1) := by decide +kernel
theorem dX11_asOpening_32 : decode cX11_asOpening 32 = .ok (.invokevirtual 148, 3) := by decide +kernel
theorem dX11_asOpening_35 : decode cX11_asOpening 35 = .ok (.invokevirtual 107, 3) := by decide +kernel
theorem dX11_asOpening_38 : decode cX11_asOpening 38 = .ok (.iadd, 1) := by decide +kernel
theorem dX11_asOpening_39 : decode cX11_asOpening 39 = .ok (.ireturn, 1) := by decide +kernel
theorem dX11_asRhymed_0 : decode cX11_asRhymed 0 = .ok (.aload_n 0, 1) := by decide +kernel
theorem dX11_asRhymed_1 : decode cX11_asRhymed 1 = .ok (.dup, 1) := by decide +kernel
theorem dX11_asRhymed_2 : decode cX11_asRhymed 2 = .ok (.getfield 256, 3) := by decide +kernel
theorem dX11_asRhymed_5 : decode cX11_asRhymed 5 = .ok (.ldc2_w 275, 3) := by decide +kernel
theorem dX11_asRhymed_8 : decode cX11_asRhymed 8 = .ok (.ladd, 1) := by decide +kernel
theorem dX11_asRhymed_9 : decode cX11_asRhymed 9 = .ok (.putfield 256, 3) := by decide +kernel
theorem dX11_asRhymed_12 : decode cX11_asRhymed 12 = .ok (.aload_n 0, 1) := by decide +kernel
theorem dX11_asRhymed_13 : decode cX11_asRhymed 13 = .ok (.iload_n 1, 1) := by decide +kernel
theorem dX11_asRhymed_14 : decode cX11_asRhymed 14 = .ok (.invokevirtual 229, 3) := by decide +kernel
theorem dX11_asRhymed_17 : decode cX11_asRhymed 17 = .ok (.aload_n 0, 1) := by decide +kernel
theorem dX11_asRhymed_18 : decode cX11_asRhymed 18 = .ok (.getfield 62, 3) := by decide +kernel
theorem dX11_asRhymed_21 : decode cX11_asRhymed 21 = .ok (.getfield 127, 3) := by decide +kernel
theorem dX11_asRhymed_24 : decode cX11_asRhymed 24 = .ok (.iload_n 1, 1) := by decide +kernel
theorem dX11_asRhymed_25 : decode cX11_asRhymed 25 = .ok (.invokevirtual 270, 3) := by decide +kernel
theorem dX11_asRhymed_28 : decode cX11_asRhymed 28 = .ok (.iadd, 1) := by decide +kernel
theorem dX11_asRhymed_29 : decode cX11_asRhymed 29 = .ok (.ireturn, 1) := by decide +kernel
theorem dX11_asAnchor_0 : decode cX11_asAnchor 0 = .ok (.aload_n 0, 1) := by decide +kernel
theorem dX11_asAnchor_1 : decode cX11_asAnchor 1 = .ok (.dup, 1) := by decide +kernel
theorem dX11_asAnchor_2 : decode cX11_asAnchor 2 = .ok (.getfield 256, 3) := by decide +kernel
theorem dX11_asAnchor_5 : decode cX11_asAnchor 5 = .ok (.ldc2_w 277, 3) := by decide +kernel
theorem dX11_asAnchor_8 : decode cX11_asAnchor 8 = .ok (.ladd, 1) := by decide +kernel
theorem dX11_asAnchor_9 : decode cX11_asAnchor 9 = .ok (.putfield 256, 3) := by decide +kernel
theorem dX11_asAnchor_12 : decode cX11_asAnchor 12 = .ok (.iconst 2, 1) := by decide +kernel
theorem dX11_asAnchor_13 : decode cX11_asAnchor 13 = .ok (.aload_n 0, 1) := by decide +kernel
theorem dX11_asAnchor_14 : decode cX11_asAnchor 14 = .ok (.iload_n 1, 1) := by decide +kernel
theorem dX11_asAnchor_15 : decode cX11_asAnchor 15 = .ok (.invokevirtual 235, 3) := by decide +kernel
theorem dX11_asAnchor_18 : decode cX11_asAnchor 18 = .ok (.imul, 1) := by decide +kernel
theorem dX11_asAnchor_19 : decode cX11_asAnchor 19 = .ok (.ireturn, 1) := by decide +kernel
theorem dX11_asKey_0 : decode cX11_asKey 0 = .ok (.aload_n 0, 1) := by decide +kernel
theorem dX11_asKey_1 : decode cX11_asKey 1 = .ok (.dup, 1) := by decide +kernel
theorem dX11_asKey_2 : decode cX11_asKey 2 = .ok (.getfield 256, 3) := by decide +kernel
theorem dX11_asKey_5 : decode cX11_asKey 5 = .ok (.ldc2_w 279, 3) := by decide +kernel
theorem dX11_asKey_8 : decode cX11_asKey 8 = .ok (.ladd, 1) := by decide +kernel
theorem dX11_asKey_9 : decode cX11_asKey 9 = .ok (.putfield 256, 3) := by decide +kernel
theorem dX11_asKey_12 : decode cX11_asKey 12 = .ok (.aload_n 0, 1) := by decide +kernel
theorem dX11_asKey_13 : decode cX11_asKey 13 = .ok (.iload_n 1, 1) := by decide +kernel
theorem dX11_asKey_14 : decode cX11_asKey 14 = .ok (.invokevirtual 232, 3) := by decide +kernel
theorem dX11_asKey_17 : decode cX11_asKey 17 = .ok (.iload_n 1, 1) := by decide +kernel
theorem dX11_asKey_18 : decode cX11_asKey 18 = .ok (.iadd, 1) := by decide +kernel
theorem dX11_asKey_19 : decode cX11_asKey 19 = .ok (.ireturn, 1) := by decide +kernel
theorem dX11_asFallen_0 : decode cX11_asFallen 0 = .ok (.aload_n 0, 1) := by decide +kernel
theorem dX11_asFallen_1 : decode cX11_asFallen 1 = .ok (.dup, 1) := by decide +kernel
theorem dX11_asFallen_2 : decode cX11_asFallen 2 = .ok (.getfield 256, 3) := by decide +kernel
theorem dX11_asFallen_5 : decode cX11_asFallen 5 = .ok (.ldc2_w 281, 3) := by decide +kernel
theorem dX11_asFallen_8 : decode cX11_asFallen 8 = .ok (.ladd, 1) := by decide +kernel
theorem dX11_asFallen_9 : decode cX11_asFallen 9 = .ok (.putfield 256, 3) := by decide +kernel
theorem dX11_asFallen_12 : decode cX11_asFallen 12 = .ok (.aload_n 0, 1) := by decide +kernel
theorem dX11_asFallen_13 : decode cX11_asFallen 13 = .ok (.iload_n 1, 1) := by decide +kernel
theorem dX11_asFallen_14 : decode cX11_asFallen 14 = .ok (.invokevirtual 229, 3) := by decide +kernel
theorem dX11_asFallen_17 : decode cX11_asFallen 17 = .ok (.aload_n 0, 1) := by decide +kernel
theorem dX11_asFallen_18 : decode cX11_asFallen 18 = .ok (.getfield 62, 3) := by decide +kernel
theorem dX11_asFallen_21 : decode cX11_asFallen 21 = .ok (.getfield 89, 3) := by decide +kernel
theorem dX11_asFallen_24 : decode cX11_asFallen 24 = .ok (.aload_n 0, 1) := by decide +kernel
theorem dX11_asFallen_25 : decode cX11_asFallen 25 = .ok (.getfield 62, 3) := by decide +kernel
theorem dX11_asFallen_28 : decode cX11_asFallen 28 = .ok (.getfield 127, 3) := by decide +kernel
theorem dX11_asFallen_31 : decode cX11_asFallen 31 = .ok (.iload_n 1, 1) := by decide +kernel
theorem dX11_asFallen_32 : decode cX11_asFallen 32 = .ok (.invokevirtual 148, 3) := by decide +kernel
theorem dX11_asFallen_35 : decode cX11_asFallen 35 = .ok (.invokevirtual 103, 3) := by decide +kernel
theorem dX11_asFallen_38 : decode cX11_asFallen 38 = .ok (.isub, 1) := by decide +kernel
theorem dX11_asFallen_39 : decode cX11_asFallen 39 = .ok (.ireturn, 1) := by decide +kernel
theorem dX12_init_0 : decode cX12_init 0 = .ok (.aload_n 0, 1) := by decide +kernel
theorem dX12_init_1 : decode cX12_init 1 = .ok (.invokespecial 1, 3) := by decide +kernel
theorem dX12_init_4 : decode cX12_init 4 = .ok (.aload_n 0, 1) := by decide +kernel
theorem dX12_init_5 : decode cX12_init 5 = .ok (.sipush 500, 3) := by decide +kernel
theorem dX12_init_8 : decode cX12_init 8 = .ok (.newarray .int, 2) := by decide +kernel
theorem dX12_init_10 : decode cX12_init 10 = .ok (.putfield 7, 3) := by decide +kernel
theorem dX12_init_13 : decode cX12_init 13 = .ok (.aload_n 0, 1) := by decide +kernel
theorem dX12_init_14 : decode cX12_init 14 = .ok (.sipush 128, 3) := by decide +kernel
theorem dX12_init_17 : decode cX12_init 17 = .ok (.newarray .int, 2) := by decide +kernel
theorem dX12_init_19 : decode cX12_init 19 = .ok (.putfield 13, 3) := by decide +kernel
theorem dX12_init_22 : decode cX12_init 22 = .ok (.aload_n 0, 1) := by decide +kernel
theorem dX12_init_23 : decode cX12_init 23 = .ok (.bipush 36, 2) := by decide +kernel
theorem dX12_init_25 : decode cX12_init 25 = .ok (.newarray .int, 2) := by decide +kernel
theorem dX12_init_27 : decode cX12_init 27 = .ok (.putfield 16, 3) := by decide +kernel
theorem dX12_init_30 : decode cX12_init 30 = .ok (.aload_n 0, 1) := by decide +kernel
theorem dX12_init_31 : decode cX12_init 31 = .ok (.bipush 16, 2) := by decide +kernel
theorem dX12_init_33 : decode cX12_init 33 = .ok (.newarray .int, 2) := by decide +kernel
theorem dX12_init_35 : decode cX12_init 35 = .ok (.putfield 19, 3) := by decide +kernel
theorem dX12_init_38 : decode cX12_init 38 = .ok (.aload_n 0, 1) := by decide +kernel
theorem dX12_init_39 : decode cX12_init 39 = .ok (.bipush 36, 2) := by decide +kernel
theorem dX12_init_41 : decode cX12_init 41 = .ok (.newarray .int, 2) := by decide +kernel
theorem dX12_init_43 : decode cX12_init 43 = .ok (.putfield 22, 3) := by decide +kernel
theorem dX12_init_46 : decode cX12_init 46 = .ok (.aload_n 0, 1) := by decide +kernel
theorem dX12_init_47 : decode cX12_init 47 = .ok (.bipush 24, 2) := by decide +kernel
theorem dX12_init_49 : decode cX12_init 49 = .ok (.newarray .int, 2) := by decide +kernel
theorem dX12_init_51 : decode cX12_init 51 = .ok (.putfield 25, 3) := by decide +kernel
theorem dX12_init_54 : decode cX12_init 54 = .ok (.aload_n 0, 1) := by decide +kernel
theorem dX12_init_55 : decode cX12_init 55 = .ok (.bipush 25, 2) := by decide +kernel
theorem dX12_init_57 : decode cX12_init 57 = .ok (.newarray .int, 2) := by decide +kernel
theorem dX12_init_59 : decode cX12_init 59 = .ok (.putfield 28, 3) := by decide +kernel
theorem dX12_init_62 : decode cX12_init 62 = .ok (.aload_n 0, 1) := by decide +kernel
theorem dX12_init_63 : decode cX12_init 63 = .ok (.bipush 50, 2) := by decide +kernel
theorem dX12_init_65 : decode cX12_init 65 = .ok (.newarray .int, 2) := by decide +kernel
theorem dX12_init_67 : decode cX12_init 67 = .ok (.putfield 31, 3) := by decide +kernel
theorem dX12_init_70 : decode cX12_init 70 = .ok (.aload_n 0, 1) := by decide +kernel
theorem dX12_init_71 : decode cX12_init 71 = .ok (.iconst 2, 1) := by decide +kernel
theorem dX12_init_72 : decode cX12_init 72 = .ok (.newarray .boolean, 2) := by decide +kernel
theorem dX12_init_74 : decode cX12_init 74 = .ok (.putfield 34, 3) := by decide +kernel
theorem dX12_init_77 : decode cX12_init 77 = .ok (.aload_n 0, 1) := by decide +kernel
theorem dX12_init_78 : decode cX12_init 78 = .ok (.bipush 27, 2) := by decide +kernel
theorem dX12_init_80 : decode cX12_init 80 = .ok (.newarray .int, 2) := by decide +kernel
theorem dX12_init_82 : decode cX12_init 82 = .ok (.putfield 38, 3) := by decide +kernel
theorem dX12_init_85 : decode cX12_init 85 = .ok (.aload_n 0, 1) := by decide +kernel
theorem dX12_init_86 : decode cX12_init 86 = .ok (.bipush 9, 2) := by decide +kernel
theorem dX12_init_88 : decode cX12_init 88 = .ok (.newarray .boolean, 2) := by decide +kernel
theorem dX12_init_90 : decode cX12_init 90 = .ok (.putfield 41, 3) := by decide +kernel
theorem dX12_init_93 : decode cX12_init 93 = .ok (.aload_n 0, 1) := by decide +kernel
theorem dX12_init_94 : decode cX12_init 94 = .ok (.bipush 9, 2) := by decide +kernel
theorem dX12_init_96 : decode cX12_init 96 = .ok (.newarray .boolean, 2) := by decide +kernel
theorem dX12_init_98 : decode cX12_init 98 = .ok (.putfield 44, 3) := by decide +kernel
theorem dX12_init_101 : decode cX12_init 101 = .ok (.aload_n 0, 1) := by decide +kernel
theorem dX12_init_102 : decode cX12_init 102 = .ok (.bipush 9, 2) := by decide +kernel
theorem dX12_init_104 : decode cX12_init 104 = .ok (.newarray .boolean, 2) := by decide +kernel
theorem dX12_init_106 : decode cX12_init 106 = .ok (.putfield 47, 3) := by decide +kernel
theorem dX12_init_109 : decode cX12_init 109 = .ok (.aload_n 0, 1) := by decide +kernel
theorem dX12_init_110 : decode cX12_init 110 = .ok (.bipush 9, 2) := by decide +kernel
theorem dX12_init_112 : decode cX12_init 112 = .ok (.newarray .int, 2) := by decide +kernel
theorem dX12_init_114 : decode cX12_init 114 = .ok (.putfield 50, 3) := by decide +kernel
theorem dX12_init_117 : decode cX12_init 117 = .ok (.aload_n 0, 1) := by decide +kernel
theorem dX12_init_118 : decode cX12_init 118 = .ok (.bipush 9, 2) := by decide +kernel
theorem dX12_init_120 : decode cX12_init 120 = .ok (.newarray .boolean, 2) := by decide +kernel
theorem dX12_init_122 : decode cX12_init 122 = .ok (.putfield 53, 3) := by decide +kernel
theorem dX12_init_125 : decode cX12_init 125 = .ok (.aload_n 0, 1) := by decide +kernel
theorem dX12_init_126 : decode cX12_init 126 = .ok (.bipush 16, 2) := by decide +kernel
theorem dX12_init_128 : decode cX12_init 128 = .ok (.newarray .int, 2) := by decide +kernel
theorem dX12_init_130 : decode cX12_init 130 = .ok (.putfield 56, 3) := by decide +kernel
theorem dX12_init_133 : decode cX12_init 133 = .ok (.aload_n 0, 1) := by decide +kernel
theorem dX12_init_134 : decode cX12_init 134 = .ok (.bipush 9, 2) := by decide +kernel
theorem dX12_init_136 : decode cX12_init 136 = .ok (.newarray .int, 2) := by decide +kernel
theorem dX12_init_138 : decode cX12_init 138 = .ok (.putfield 59, 3) := by decide +kernel
theorem dX12_init_141 : decode cX12_init 141 = .ok (.aload_n 0, 1) := by decide +kernel
theorem dX12_init_142 : decode cX12_init 142 = .ok (.bipush 6, 2) := by decide +kernel
theorem dX12_init_144 : decode cX12_init 144 = .ok (.newarray .int, 2) := by decide +kernel
theorem dX12_init_146 : decode cX12_init 146 = .ok (.putfield 62, 3) := by decide +kernel
theorem dX12_init_149 : decode cX12_init 149 = .ok (.aload_n 0, 1) := by decide +kernel
theorem dX12_init_150 : decode cX12_init 150 = .ok (.bipush 16, 2) := by decide +kernel
theorem dX12_init_152 : decode cX12_init 152 = .ok (.newarray .long, 2) := by decide +kernel
theorem dX12_init_154 : decode cX12_init 154 = .ok (.putfield 65, 3) := by decide +kernel
theorem dX12_init_157 : decode cX12_init 157 = .ok (.aload_n 0, 1) := by decide +kernel
theorem dX12_init_158 : decode cX12_init 158 = .ok (.bipush 16, 2) := by decide +kernel
theorem dX12_init_160 : decode cX12_init 160 = .ok (.newarray .long, 2) := by decide +kernel
theorem dX12_init_162 : decode cX12_init 162 = .ok (.putfield 69, 3) := by decide +kernel
theorem dX12_init_165 : decode cX12_init 165 = .ok (.aload_n 0, 1) := by decide +kernel
theorem dX12_init_166 : decode cX12_init 166 = .ok (.bipush 16, 2) := by decide +kernel
theorem dX12_init_168 : decode cX12_init 168 = .ok (.newarray .int, 2) := by decide +kernel
theorem dX12_init_170 : decode cX12_init 170 = .ok (.putfield 72, 3) := by decide +kernel
theorem dX12_init_173 : decode cX12_init 173 = .ok (.aload_n 0, 1) := by decide +kernel
theorem dX12_init_174 : decode cX12_init 174 = .ok (.bipush 16, 2) := by decide +kernel
theorem dX12_init_176 : decode cX12_init 176 = .ok (.newarray .int, 2) := by decide +kernel
theorem dX12_init_178 : decode cX12_init 178 = .ok (.putfield 75, 3) := by decide +kernel
theorem dX12_init_181 : decode cX12_init 181 = .ok (.aload_n 0, 1) := by decide +kernel
theorem dX12_init_182 : decode cX12_init 182 = .ok (.iconst 0, 1) := by decide +kernel
theorem dX12_init_183 : decode cX12_init 183 = .ok (.putfield 78, 3) := by decide +kernel
theorem dX12_init_186 : decode cX12_init 186 = .ok (.return_, 1) := by decide +kernel
theorem dX12_in_0 : decode cX12_in 0 = .ok (.iload_n 0, 1) := by decide +kernel
theorem dX12_in_1 : decode cX12_in 1 = .ok (.iload_n 1, 1) := by decide +kernel
theorem dX12_in_2 : decode cX12_in 2 = .ok (.if_icmp .lt 12, 3) := by decide +kernel
theorem dX12_in_5 : decode cX12_in 5 = .ok (.iload_n 0, 1) := by decide +kernel
theorem dX12_in_6 : decode cX12_in 6 = .ok (.iload_n 2, 1) := by decide +kernel
theorem dX12_in_7 : decode cX12_in 7 = .ok (.if_icmp .gt 7, 3) := by decide +kernel
theorem dX12_in_10 : decode cX12_in 10 = .ok (.iconst 1, 1) := by decide +kernel
theorem dX12_in_11 : decode cX12_in 11 = .ok (.goto 4, 3) := by decide +kernel
theorem dX12_in_14 : decode cX12_in 14 = .ok (.iconst 0, 1) := by decide +kernel
theorem dX12_in_15 : decode cX12_in 15 = .ok (.ireturn, 1) := by decide +kernel
theorem dX12_type_0 : decode cX12_type 0 = .ok (.aload_n 0, 1) := by decide +kernel
theorem dX12_type_1 : decode cX12_type 1 = .ok (.iconst 0, 1) := by decide +kernel
theorem dX12_type_2 : decode cX12_type 2 = .ok (.putfield 78, 3) := by decide +kernel
theorem dX12_type_5 : decode cX12_type 5 = .ok (.iload_n 3, 1) := by decide +kernel
theorem dX12_type_6 : decode cX12_type 6 = .ok (.iconst 1, 1) := by decide +kernel
theorem dX12_type_7 : decode cX12_type 7 = .ok (.bipush 8, 2) := by decide +kernel
theorem dX12_type_9 : decode cX12_type 9 = .ok (.invokestatic 82, 3) := by decide +kernel
theorem dX12_type_12 : decode cX12_type 12 = .ok (.ifCond .ne 5, 3) := by decide +kernel
theorem dX12_type_15 : decode cX12_type 15 = .ok (.iconst (-1), 1) := by decide +kernel
theorem dX12_type_16 : decode cX12_type 16 = .ok (.ireturn, 1) := by decide +kernel
theorem dX12_type_17 : decode cX12_type 17 = .ok (.aload_n 0, 1) := by decide +kernel
theorem dX12_type_18 : decode cX12_type 18 = .ok (.getfield 86, 3) := by decide +kernel
theorem dX12_type_21 : decode cX12_type 21 = .ok (.iload_n 3, 1) := by decide +kernel
theorem dX12_type_22 : decode cX12_type 22 = .ok (.iadd, 1) := by decide +kernel
theorem dX12_type_23 : decode cX12_type 23 = .ok (.sipush 500, 3) := by decide +kernel
theorem dX12_type_26 : decode cX12_type 26 = .ok (.if_icmp .le 6, 3) := by decide +kernel
theorem dX12_type_29 : decode cX12_type 29 = .ok (.bipush (-3), 2) := by decide +kernel
theorem dX12_type_31 : decode cX12_type 31 = .ok (.ireturn, 1) := by decide +kernel
theorem dX12_type_32 : decode cX12_type 32 = .ok (.iload_n 3, 1) := by decide +kernel
theorem dX12_type_33 : decode cX12_type 33 = .ok (.iconst 1, 1) := by decide +kernel
theorem dX12_type_34 : decode cX12_type 34 = .ok (.isub, 1) := by decide +kernel
theorem dX12_type_35 : decode cX12_type 35 = .ok (.istore 4, 2) := by decide +kernel
theorem dX12_type_37 : decode cX12_type 37 = .ok (.iload 4, 2) := by decide +kernel
theorem dX12_type_39 : decode cX12_type 39 = .ok (.ifCond .lt 40, 3) := by decide +kernel
theorem dX12_type_42 : decode cX12_type 42 = .ok (.aload_n 0, 1) := by decide +kernel
theorem dX12_type_43 : decode cX12_type 43 = .ok (.getfield 7, 3) := by decide +kernel
theorem dX12_type_46 : decode cX12_type 46 = .ok (.aload_n 0, 1) := by decide +kernel
theorem dX12_type_47 : decode cX12_type 47 = .ok (.getfield 86, 3) := by decide +kernel
theorem dX12_type_50 : decode cX12_type 50 = .ok (.lload_n 1, 1) := by decide +kernel
theorem dX12_type_51 : decode cX12_type 51 = .ok (.bipush 8, 2) := by decide +kernel
theorem dX12_type_53 : decode cX12_type 53 = .ok (.iload 4, 2) := by decide +kernel
theorem dX12_type_55 : decode cX12_type 55 = .ok (.imul, 1) := by decide +kernel
theorem dX12_type_56 : decode cX12_type 56 = .ok (.lshr, 1) := by decide +kernel
theorem dX12_type_57 : decode cX12_type 57 = .ok (.ldc2_w 89, 3) := by decide +kernel
theorem dX12_type_60 : decode cX12_type 60 = .ok (.land, 1) := by decide +kernel
theorem dX12_type_61 : decode cX12_type 61 = .ok (.l2i, 1) := by decide +kernel
theorem dX12_type_62 : decode cX12_type 62 = .ok (.iastore, 1) := by decide +kernel
theorem dX12_type_63 : decode cX12_type 63 = .ok (.aload_n 0, 1) := by decide +kernel
theorem dX12_type_64 : decode cX12_type 64 = .ok (.dup, 1) := by decide +kernel
theorem dX12_type_65 : decode cX12_type 65 = .ok (.getfield 86, 3) := by decide +kernel
theorem dX12_type_68 : decode cX12_type 68 = .ok (.iconst 1, 1) := by decide +kernel
theorem dX12_type_69 : decode cX12_type 69 = .ok (.iadd, 1) := by decide +kernel
theorem dX12_type_70 : decode cX12_type 70 = .ok (.putfield 86, 3) := by decide +kernel
theorem dX12_type_73 : decode cX12_type 73 = .ok (.iinc 4 (-1), 3) := by decide +kernel
theorem dX12_type_76 : decode cX12_type 76 = .ok (.goto (-39), 3) := by decide +kernel
theorem dX12_type_79 : decode cX12_type 79 = .ok (.aload_n 0, 1) := by decide +kernel
theorem dX12_type_80 : decode cX12_type 80 = .ok (.getfield 86, 3) := by decide +kernel
theorem dX12_type_83 : decode cX12_type 83 = .ok (.ireturn, 1) := by decide +kernel
theorem dX12_clear_0 : decode cX12_clear 0 = .ok (.aload_n 0, 1) := by decide +kernel
theorem dX12_clear_1 : decode cX12_clear 1 = .ok (.iconst 0, 1) := by decide +kernel
theorem dX12_clear_2 : decode cX12_clear 2 = .ok (.putfield 78, 3) := by decide +kernel
theorem dX12_clear_5 : decode cX12_clear 5 = .ok (.aload_n 0, 1) := by decide +kernel
theorem dX12_clear_6 : decode cX12_clear 6 = .ok (.getfield 86, 3) := by decide +kernel
theorem dX12_clear_9 : decode cX12_clear 9 = .ok (.istore_n 1, 1) := by decide +kernel
theorem dX12_clear_10 : decode cX12_clear 10 = .ok (.aload_n 0, 1) := by decide +kernel
theorem dX12_clear_11 : decode cX12_clear 11 = .ok (.iconst 0, 1) := by decide +kernel
theorem dX12_clear_12 : decode cX12_clear 12 = .ok (.putfield 86, 3) := by decide +kernel
theorem dX12_clear_15 : decode cX12_clear 15 = .ok (.iload_n 1, 1) := by decide +kernel
theorem dX12_clear_16 : decode cX12_clear 16 = .ok (.ireturn, 1) := by decide +kernel
theorem dX12_byteAt_0 : decode cX12_byteAt 0 = .ok (.iload_n 1, 1) := by decide +kernel
theorem dX12_byteAt_1 : decode cX12_byteAt 1 = .ok (.aload_n 0, 1) := by decide +kernel
theorem dX12_byteAt_2 : decode cX12_byteAt 2 = .ok (.getfield 86, 3) := by decide +kernel
theorem dX12_byteAt_5 : decode cX12_byteAt 5 = .ok (.if_icmp .ge 12, 3) := by decide +kernel
theorem dX12_byteAt_8 : decode cX12_byteAt 8 = .ok (.aload_n 0, 1) := by decide +kernel
theorem dX12_byteAt_9 : decode cX12_byteAt 9 = .ok (.getfield 7, 3) := by decide +kernel
theorem dX12_byteAt_12 : decode cX12_byteAt 12 = .ok (.iload_n 1, 1) := by decide +kernel
theorem dX12_byteAt_13 : decode cX12_byteAt 13 = .ok (.iaload, 1) := by decide +kernel
theorem dX12_byteAt_14 : decode cX12_byteAt 14 = .ok (.goto 4, 3) := by decide +kernel
theorem dX12_byteAt_17 : decode cX12_byteAt 17 = .ok (.iconst (-1), 1) := by decide +kernel
theorem dX12_byteAt_18 : decode cX12_byteAt 18 = .ok (.ireturn, 1) := by decide +kernel
theorem dX12_advances_0 : decode cX12_advances 0 = .ok (.aload_n 0, 1) := by decide +kernel
theorem dX12_advances_1 : decode cX12_advances 1 = .ok (.aload_n 0, 1) := by decide +kernel
theorem dX12_advances_2 : decode cX12_advances 2 = .ok (.getfield 91, 3) := by decide +kernel
theorem dX12_advances_5 : decode cX12_advances 5 = .ok (.invokevirtual 94, 3) := by decide +kernel
theorem dX12_advances_8 : decode cX12_advances 8 = .ok (.bipush 32, 2) := by decide +kernel
theorem dX12_advances_10 : decode cX12_advances 10 = .ok (.if_icmp .ne 16, 3) := by decide +kernel
theorem dX12_advances_13 : decode cX12_advances 13 = .ok (.aload_n 0, 1) := by decide +kernel
theorem dX12_advances_14 : decode cX12_advances 14 = .ok (.dup, 1) := by decide +kernel
theorem dX12_advances_15 : decode cX12_advances 15 = .ok (.getfield 91, 3) := by decide +kernel
theorem dX12_advances_18 : decode cX12_advances 18 = .ok (.iconst 1, 1) := by decide +kernel
theorem dX12_advances_19 : decode cX12_advances 19 = .ok (.iadd, 1) := by decide +kernel
theorem dX12_advances_20 : decode cX12_advances 20 = .ok (.putfield 91, 3) := by decide +kernel
theorem dX12_advances_23 : decode cX12_advances 23 = .ok (.goto (-23), 3) := by decide +kernel
theorem dX12_advances_26 : decode cX12_advances 26 = .ok (.aload_n 0, 1) := by decide +kernel
theorem dX12_advances_27 : decode cX12_advances 27 = .ok (.aload_n 0, 1) := by decide +kernel
theorem dX12_advances_28 : decode cX12_advances 28 = .ok (.getfield 91, 3) := by decide +kernel
theorem dX12_advances_31 : decode cX12_advances 31 = .ok (.putfield 98, 3) := by decide +kernel
theorem dX12_advances_34 : decode cX12_advances 34 = .ok (.aload_n 0, 1) := by decide +kernel
theorem dX12_advances_35 : decode cX12_advances 35 = .ok (.aload_n 0, 1) := by decide +kernel
theorem dX12_advances_36 : decode cX12_advances 36 = .ok (.getfield 91, 3) := by decide +kernel
theorem dX12_advances_39 : decode cX12_advances 39 = .ok (.invokevirtual 94, 3) := by decide +kernel
theorem dX12_advances_42 : decode cX12_advances 42 = .ok (.istore_n 1, 1) := by decide +kernel
theorem dX12_advances_43 : decode cX12_advances 43 = .ok (.iload_n 1, 1) := by decide +kernel
theorem dX12_advances_44 : decode cX12_advances 44 = .ok (.ifCond .ge 11, 3) := by decide +kernel
theorem dX12_advances_47 : decode cX12_advances 47 = .ok (.aload_n 0, 1) := by decide +kernel
theorem dX12_advances_48 : decode cX12_advances 48 = .ok (.iconst 0, 1) := by decide +kernel
theorem dX12_advances_49 : decode cX12_advances 49 = .ok (.putfield 101, 3) := by decide +kernel
theorem dX12_advances_52 : decode cX12_advances 52 = .ok (.goto 204, 3) := by decide +kernel
theorem dX12_advances_55 : decode cX12_advances 55 = .ok (.iload_n 1, 1) := by decide +kernel
theorem dX12_advances_56 : decode cX12_advances 56 = .ok (.bipush 97, 2) := by decide +kernel
theorem dX12_advances_58 : decode cX12_advances 58 = .ok (.bipush 122, 2) := by decide +kernel
theorem dX12_advances_60 : decode cX12_advances 60 = .ok (.invokestatic 82, 3) := by decide +kernel
theorem dX12_advances_63 : decode cX12_advances 63 = .ok (.ifCond .eq 42, 3) := by decide +kernel
theorem dX12_advances_66 : decode cX12_advances 66 = .ok (.aload_n 0, 1) := by decide +kernel
theorem dX12_advances_67 : decode cX12_advances 67 = .ok (.aload_n 0, 1) := by decide +kernel
theorem dX12_advances_68 : decode cX12_advances 68 = .ok (.getfield 91, 3) := by decide +kernel
theorem dX12_advances_71 : decode cX12_advances 71 = .ok (.invokevirtual 94, 3) := by decide +kernel
theorem dX12_advances_74 : decode cX12_advances 74 = .ok (.bipush 97, 2) := by decide +kernel
theorem dX12_advances_76 : decode cX12_advances 76 = .ok (.bipush 122, 2) := by decide +kernel
theorem dX12_advances_78 : decode cX12_advances 78 = .ok (.invokestatic 82, 3) := by decide +kernel
theorem dX12_advances_81 : decode cX12_advances 81 = .ok (.ifCond .eq 16, 3) := by decide +kernel
theorem dX12_advances_84 : decode cX12_advances 84 = .ok (.aload_n 0, 1) := by decide +kernel
theorem dX12_advances_85 : decode cX12_advances 85 = .ok (.dup, 1) := by decide +kernel
theorem dX12_advances_86 : decode cX12_advances 86 = .ok (.getfield 91, 3) := by decide +kernel
theorem dX12_advances_89 : decode cX12_advances 89 = .ok (.iconst 1, 1) := by decide +kernel
theorem dX12_advances_90 : decode cX12_advances 90 = .ok (.iadd, 1) := by decide +kernel
theorem dX12_advances_91 : decode cX12_advances 91 = .ok (.putfield 91, 3) := by decide +kernel
theorem dX12_advances_94 : decode cX12_advances 94 = .ok (.goto (-28), 3) := by decide +kernel
theorem dX12_advances_97 : decode cX12_advances 97 = .ok (.aload_n 0, 1) := by decide +kernel
theorem dX12_advances_98 : decode cX12_advances 98 = .ok (.iconst 1, 1) := by decide +kernel
theorem dX12_advances_99 : decode cX12_advances 99 = .ok (.putfield 101, 3) := by decide +kernel
theorem dX12_advances_102 : decode cX12_advances 102 = .ok (.goto 154, 3) := by decide +kernel
theorem dX12_advances_105 : decode cX12_advances 105 = .ok (.iload_n 1, 1) := by decide +kernel
theorem dX12_advances_106 : decode cX12_advances 106 = .ok (.bipush 48, 2) := by decide +kernel
theorem dX12_advances_108 : decode cX12_advances 108 = .ok (.bipush 57, 2) := by decide +kernel
theorem dX12_advances_110 : decode cX12_advances 110 = .ok (.invokestatic 82, 3) := by decide +kernel
theorem dX12_advances_113 : decode cX12_advances 113 = .ok (.ifCond .eq 118, 3) := by decide +kernel
theorem dX12_advances_116 : decode cX12_advances 116 = .ok (.aload_n 0, 1) := by decide +kernel
theorem dX12_advances_117 : decode cX12_advances 117 = .ok (.iconst 0, 1) := by decide +kernel
theorem dX12_advances_118 : decode cX12_advances 118 = .ok (.putfield 104, 3) := by decide +kernel
theorem dX12_advances_121 : decode cX12_advances 121 = .ok (.aload_n 0, 1) := by decide +kernel
theorem dX12_advances_122 : decode cX12_advances 122 = .ok (.aload_n 0, 1) := by decide +kernel
theorem dX12_advances_123 : decode cX12_advances 123 = .ok (.getfield 91, 3) := by decide +kernel
theorem dX12_advances_126 : decode cX12_advances 126 = .ok (.invokevirtual 94, 3) := by decide +kernel
theorem dX12_advances_129 : decode cX12_advances 129 = .ok (.bipush 48, 2) := by decide +kernel
theorem dX12_advances_131 : decode cX12_advances 131 = .ok (.bipush 57, 2) := by decide +kernel
theorem dX12_advances_133 : decode cX12_advances 133 = .ok (.invokestatic 82, 3) := by decide +kernel
theorem dX12_advances_136 : decode cX12_advances 136 = .ok (.ifCond .eq 55, 3) := by decide +kernel
theorem dX12_advances_139 : decode cX12_advances 139 = .ok (.aload_n 0, 1) := by decide +kernel
theorem dX12_advances_140 : decode cX12_advances 140 = .ok (.aload_n 0, 1) := by decide +kernel
theorem dX12_advances_141 : decode cX12_advances 141 = .ok (.getfield 104, 3) := by decide +kernel
theorem dX12_advances_144 : decode cX12_advances 144 = .ok (.bipush 99, 2) := by decide +kernel
theorem dX12_advances_146 : decode cX12_advances 146 = .ok (.if_icmp .le 10, 3) := by decide +kernel
theorem dX12_advances_149 : decode cX12_advances 149 = .ok (.aload_n 0, 1) := by decide +kernel
theorem dX12_advances_150 : decode cX12_advances 150 = .ok (.getfield 104, 3) := by decide +kernel
theorem dX12_advances_153 : decode cX12_advances 153 = .ok (.goto 22, 3) := by decide +kernel
theorem dX12_advances_156 : decode cX12_advances 156 = .ok (.bipush 10, 2) := by decide +kernel
theorem dX12_advances_158 : decode cX12_advances 158 = .ok (.aload_n 0, 1) := by decide +kernel
theorem dX12_advances_159 : decode cX12_advances 159 = .ok (.getfield 104, 3) := by decide +kernel
theorem dX12_advances_162 : decode cX12_advances 162 = .ok (.imul, 1) := by decide +kernel
theorem dX12_advances_163 : decode cX12_advances 163 = .ok (.aload_n 0, 1) := by decide +kernel
theorem dX12_advances_164 : decode cX12_advances 164 = .ok (.aload_n 0, 1) := by decide +kernel
theorem dX12_advances_165 : decode cX12_advances 165 = .ok (.getfield 91, 3) := by decide +kernel
theorem dX12_advances_168 : decode cX12_advances 168 = .ok (.invokevirtual 94, 3) := by decide +kernel
theorem dX12_advances_171 : decode cX12_advances 171 = .ok (.iadd, 1) := by decide +kernel
theorem dX12_advances_172 : decode cX12_advances 172 = .ok (.bipush 48, 2) := by decide +kernel
theorem dX12_advances_174 : decode cX12_advances 174 = .ok (.isub, 1) := by decide +kernel
theorem dX12_advances_175 : decode cX12_advances 175 = .ok (.putfield 104, 3) := by decide +kernel
theorem dX12_advances_178 : decode cX12_advances 178 = .ok (.aload_n 0, 1) := by decide +kernel
theorem dX12_advances_179 : decode cX12_advances 179 = .ok (.dup, 1) := by decide +kernel
theorem dX12_advances_180 : decode cX12_advances 180 = .ok (.getfield 91, 3) := by decide +kernel
theorem dX12_advances_183 : decode cX12_advances 183 = .ok (.iconst 1, 1) := by decide +kernel
theorem dX12_advances_184 : decode cX12_advances 184 = .ok (.iadd, 1) := by decide +kernel
theorem dX12_advances_185 : decode cX12_advances 185 = .ok (.putfield 91, 3) := by decide +kernel
theorem dX12_advances_188 : decode cX12_advances 188 = .ok (.goto (-67), 3) := by decide +kernel
theorem dX12_advances_191 : decode cX12_advances 191 = .ok (.aload_n 0, 1) := by decide +kernel
theorem dX12_advances_192 : decode cX12_advances 192 = .ok (.aload_n 0, 1) := by decide +kernel
theorem dX12_advances_193 : decode cX12_advances 193 = .ok (.getfield 104, 3) := by decide +kernel
theorem dX12_advances_196 : decode cX12_advances 196 = .ok (.bipush 99, 2) := by decide +kernel
theorem dX12_advances_198 : decode cX12_advances 198 = .ok (.if_icmp .gt 22, 3) := by decide +kernel
theorem dX12_advances_201 : decode cX12_advances 201 = .ok (.iload_n 1, 1) := by decide +kernel
theorem dX12_advances_202 : decode cX12_advances 202 = .ok (.bipush 48, 2) := by decide +kernel
theorem dX12_advances_204 : decode cX12_advances 204 = .ok (.if_icmp .ne 20, 3) := by decide +kernel
theorem dX12_advances_207 : decode cX12_advances 207 = .ok (.aload_n 0, 1) := by decide +kernel
theorem dX12_advances_208 : decode cX12_advances 208 = .ok (.getfield 91, 3) := by decide +kernel
theorem dX12_advances_211 : decode cX12_advances 211 = .ok (.aload_n 0, 1) := by decide +kernel
theorem dX12_advances_212 : decode cX12_advances 212 = .ok (.getfield 98, 3) := by decide +kernel
theorem dX12_advances_215 : decode cX12_advances 215 = .ok (.isub, 1) := by decide +kernel
theorem dX12_advances_216 : decode cX12_advances 216 = .ok (.iconst 1, 1) := by decide +kernel
theorem dX12_advances_217 : decode cX12_advances 217 = .ok (.if_icmp .le 7, 3) := by decide +kernel
theorem dX12_advances_220 : decode cX12_advances 220 = .ok (.iconst 4, 1) := by decide +kernel
theorem dX12_advances_221 : decode cX12_advances 221 = .ok (.goto 4, 3) := by decide +kernel
theorem dX12_advances_224 : decode cX12_advances 224 = .ok (.iconst 2, 1) := by decide +kernel
theorem dX12_advances_225 : decode cX12_advances 225 = .ok (.putfield 101, 3) := by decide +kernel
theorem dX12_advances_228 : decode cX12_advances 228 = .ok (.goto 28, 3) := by decide +kernel
theorem dX12_advances_231 : decode cX12_advances 231 = .ok (.aload_n 0, 1) := by decide +kernel
theorem dX12_advances_232 : decode cX12_advances 232 = .ok (.dup, 1) := by decide +kernel
theorem dX12_advances_233 : decode cX12_advances 233 = .ok (.getfield 91, 3) := by decide +kernel
theorem dX12_advances_236 : decode cX12_advances 236 = .ok (.iconst 1, 1) := by decide +kernel
theorem dX12_advances_237 : decode cX12_advances 237 = .ok (.iadd, 1) := by decide +kernel
theorem dX12_advances_238 : decode cX12_advances 238 = .ok (.putfield 91, 3) := by decide +kernel
theorem dX12_advances_241 : decode cX12_advances 241 = .ok (.aload_n 0, 1) := by decide +kernel
theorem dX12_advances_242 : decode cX12_advances 242 = .ok (.iload_n 1, 1) := by decide +kernel
theorem dX12_advances_243 : decode cX12_advances 243 = .ok (.bipush 59, 2) := by decide +kernel
theorem dX12_advances_245 : decode cX12_advances 245 = .ok (.if_icmp .ne 7, 3) := by decide +kernel
theorem dX12_advances_248 : decode cX12_advances 248 = .ok (.iconst 3, 1) := by decide +kernel
theorem dX12_advances_249 : decode cX12_advances 249 = .ok (.goto 4, 3) := by decide +kernel
theorem dX12_advances_252 : decode cX12_advances 252 = .ok (.iconst 4, 1) := by decide +kernel
theorem dX12_advances_253 : decode cX12_advances 253 = .ok (.putfield 101, 3) := by decide +kernel
theorem dX12_advances_256 : decode cX12_advances 256 = .ok (.return_, 1) := by decide +kernel
theorem dX12_isWell_0 : decode cX12_isWell 0 = .ok (.aload_n 0, 1) := by decide +kernel
theorem dX12_isWell_1 : decode cX12_isWell 1 = .ok (.getfield 107, 3) := by decide +kernel
theorem dX12_isWell_4 : decode cX12_isWell 4 = .ok (.ifCond .ge 7, 3) := by decide +kernel
theorem dX12_isWell_7 : decode cX12_isWell 7 = .ok (.iconst 1, 1) := by decide +kernel
theorem dX12_isWell_8 : decode cX12_isWell 8 = .ok (.goto 4, 3) := by decide +kernel
theorem dX12_isWell_11 : decode cX12_isWell 11 = .ok (.iconst 0, 1) := by decide +kernel
theorem dX12_isWell_12 : decode cX12_isWell 12 = .ok (.ireturn, 1) := by decide +kernel
theorem dX12_wants_0 : decode cX12_wants 0 = .ok (.aload_n 0, 1) := by decide +kernel
theorem dX12_wants_1 : decode cX12_wants 1 = .ok (.invokevirtual 110, 3) := by decide +kernel
theorem dX12_wants_4 : decode cX12_wants 4 = .ok (.ifCond .eq 15, 3) := by decide +kernel
theorem dX12_wants_7 : decode cX12_wants 7 = .ok (.iload_n 1, 1) := by decide +kernel
theorem dX12_wants_8 : decode cX12_wants 8 = .ok (.ifCond .ne 11, 3) := by decide +kernel
theorem dX12_wants_11 : decode cX12_wants 11 = .ok (.aload_n 0, 1) := by decide +kernel
theorem dX12_wants_12 : decode cX12_wants 12 = .ok (.aload_n 0, 1) := by decide +kernel
theorem dX12_wants_13 : decode cX12_wants 13 = .ok (.getfield 98, 3) := by decide +kernel
theorem dX12_wants_16 : decode cX12_wants 16 = .ok (.putfield 107, 3) := by decide +kernel
theorem dX12_wants_19 : decode cX12_wants 19 = .ok (.return_, 1) := by decide +kernel
theorem dX12_number_0 : decode cX12_number 0 = .ok (.aload_n 0, 1) := by decide +kernel
theorem dX12_number_1 : decode cX12_number 1 = .ok (.aload_n 0, 1) := by decide +kernel
theorem dX12_number_2 : decode cX12_number 2 = .ok (.getfield 101, 3) := by decide +kernel
theorem dX12_number_5 : decode cX12_number 5 = .ok (.iconst 2, 1) := by decide +kernel
theorem dX12_number_6 : decode cX12_number 6 = .ok (.if_icmp .ne 19, 3) := by decide +kernel
theorem dX12_number_9 : decode cX12_number 9 = .ok (.aload_n 0, 1) := by decide +kernel
theorem dX12_number_10 : decode cX12_number 10 = .ok (.getfield 104, 3) := by decide +kernel
theorem dX12_number_13 : decode cX12_number 13 = .ok (.iload_n 1, 1) := by decide +kernel
theorem dX12_number_14 : decode cX12_number 14 = .ok (.iload_n 2, 1) := by decide +kernel
theorem dX12_number_15 : decode cX12_number 15 = .ok (.invokestatic 82, 3) := by decide +kernel
theorem dX12_number_18 : decode cX12_number 18 = .ok (.ifCond .eq 7, 3) := by decide +kernel
theorem dX12_number_21 : decode cX12_number 21 = .ok (.iconst 1, 1) := by decide +kernel
theorem dX12_number_22 : decode cX12_number 22 = .ok (.goto 4, 3) := by decide +kernel
theorem dX12_number_25 : decode cX12_number 25 = .ok (.iconst 0, 1) := by decide +kernel
theorem dX12_number_26 : decode cX12_number 26 = .ok (.invokevirtual 114, 3) := by decide +kernel
theorem dX12_number_29 : decode cX12_number 29 = .ok (.aload_n 0, 1) := by decide +kernel
theorem dX12_number_30 : decode cX12_number 30 = .ok (.invokevirtual 110, 3) := by decide +kernel
theorem dX12_number_33 : decode cX12_number 33 = .ok (.ifCond .ne 5, 3) := by decide +kernel
theorem dX12_number_36 : decode cX12_number 36 = .ok (.iconst 0, 1) := by decide +kernel
theorem dX12_number_37 : decode cX12_number 37 = .ok (.ireturn, 1) := by decide +kernel
theorem dX12_number_38 : decode cX12_number 38 = .ok (.aload_n 0, 1) := by decide +kernel
theorem dX12_number_39 : decode cX12_number 39 = .ok (.getfield 104, 3) := by decide +kernel
theorem dX12_number_42 : decode cX12_number 42 = .ok (.istore_n 3, 1) := by decide +kernel
theorem dX12_number_43 : decode cX12_number 43 = .ok (.aload_n 0, 1) := by decide +kernel
theorem dX12_number_44 : decode cX12_number 44 = .ok (.invokevirtual 118, 3) := by decide +kernel
theorem dX12_number_47 : decode cX12_number 47 = .ok (.iload_n 3, 1) := by decide +kernel
theorem dX12_number_48 : decode cX12_number 48 = .ok (.ireturn, 1) := by decide +kernel
theorem dX12_says_0 : decode cX12_says 0 = .ok (.iload 5, 2) := by decide +kernel
theorem dX12_says_2 : decode cX12_says 2 = .ok (.ifCond .le 7, 3) := by decide +kernel
theorem dX12_says_5 : decode cX12_says 5 = .ok (.iconst 5, 1) := by decide +kernel
theorem dX12_says_6 : decode cX12_says 6 = .ok (.goto 4, 3) := by decide +kernel
theorem dX12_says_9 : decode cX12_says 9 = .ok (.iconst 4, 1) := by decide +kernel
theorem dX12_says_10 : decode cX12_says 10 = .ok (.istore 6, 2) := by decide +kernel
theorem dX12_says_12 : decode cX12_says 12 = .ok (.aload_n 0, 1) := by decide +kernel
theorem dX12_says_13 : decode cX12_says 13 = .ok (.getfield 101, 3) := by decide +kernel
theorem dX12_says_16 : decode cX12_says 16 = .ok (.iconst 1, 1) := by decide +kernel
theorem dX12_says_17 : decode cX12_says 17 = .ok (.if_icmp .ne 97, 3) := by decide +kernel
theorem dX12_says_20 : decode cX12_says 20 = .ok (.aload_n 0, 1) := by decide +kernel
theorem dX12_says_21 : decode cX12_says 21 = .ok (.getfield 91, 3) := by decide +kernel
theorem dX12_says_24 : decode cX12_says 24 = .ok (.aload_n 0, 1) := by decide +kernel
theorem dX12_says_25 : decode cX12_says 25 = .ok (.getfield 98, 3) := by decide +kernel
theorem dX12_says_28 : decode cX12_says 28 = .ok (.isub, 1) := by decide +kernel
theorem dX12_says_29 : decode cX12_says 29 = .ok (.iload 6, 2) := by decide +kernel
theorem dX12_says_31 : decode cX12_says 31 = .ok (.if_icmp .ne 83, 3) := by decide +kernel
theorem dX12_says_34 : decode cX12_says 34 = .ok (.aload_n 0, 1) := by decide +kernel
theorem dX12_says_35 : decode cX12_says 35 = .ok (.aload_n 0, 1) := by decide +kernel
theorem dX12_says_36 : decode cX12_says 36 = .ok (.getfield 98, 3) := by decide +kernel
theorem dX12_says_39 : decode cX12_says 39 = .ok (.invokevirtual 94, 3) := by decide +kernel
theorem dX12_says_42 : decode cX12_says 42 = .ok (.iload_n 1, 1) := by decide +kernel
theorem dX12_says_43 : decode cX12_says 43 = .ok (.if_icmp .ne 71, 3) := by decide +kernel
theorem dX12_says_46 : decode cX12_says 46 = .ok (.aload_n 0, 1) := by decide +kernel
theorem dX12_says_47 : decode cX12_says 47 = .ok (.aload_n 0, 1) := by decide +kernel
theorem dX12_says_48 : decode cX12_says 48 = .ok (.getfield 98, 3) := by decide +kernel
theorem dX12_says_51 : decode cX12_says 51 = .ok (.iconst 1, 1) := by decide +kernel
theorem dX12_says_52 : decode cX12_says 52 = .ok (.iadd, 1) := by decide +kernel
theorem dX12_says_53 : decode cX12_says 53 = .ok (.invokevirtual 94, 3) := by decide +kernel
theorem dX12_says_56 : decode cX12_says 56 = .ok (.iload_n 2, 1) := by decide +kernel
theorem dX12_says_57 : decode cX12_says 57 = .ok (.if_icmp .ne 57, 3) := by decide +kernel
theorem dX12_says_60 : decode cX12_says 60 = .ok (.aload_n 0, 1) := by decide +kernel
theorem dX12_says_61 : decode cX12_says 61 = .ok (.aload_n 0, 1) := by decide +kernel
theorem dX12_says_62 : decode cX12_says 62 = .ok (.getfield 98, 3) := by decide +kernel
theorem dX12_says_65 : decode cX12_says 65 = .ok (.iconst 2, 1) := by decide +kernel
theorem dX12_says_66 : decode cX12_says 66 = .ok (.iadd, 1) := by decide +kernel
theorem dX12_says_67 : decode cX12_says 67 = .ok (.invokevirtual 94, 3) := by decide +kernel
theorem dX12_says_70 : decode cX12_says 70 = .ok (.iload_n 3, 1) := by decide +kernel
theorem dX12_says_71 : decode cX12_says 71 = .ok (.if_icmp .ne 43, 3) := by decide +kernel
theorem dX12_says_74 : decode cX12_says 74 = .ok (.aload_n 0, 1) := by decide +kernel
theorem dX12_says_75 : decode cX12_says 75 = .ok (.aload_n 0, 1) := by decide +kernel
theorem dX12_says_76 : decode cX12_says 76 = .ok (.getfield 98, 3) := by decide +kernel
theorem dX12_says_79 : decode cX12_says 79 = .ok (.iconst 3, 1) := by decide +kernel
theorem dX12_says_80 : decode cX12_says 80 = .ok (.iadd, 1) := by decide +kernel
theorem dX12_says_81 : decode cX12_says 81 = .ok (.invokevirtual 94, 3) := by decide +kernel
theorem dX12_says_84 : decode cX12_says 84 = .ok (.iload 4, 2) := by decide +kernel
theorem dX12_says_86 : decode cX12_says 86 = .ok (.if_icmp .ne 28, 3) := by decide +kernel
theorem dX12_says_89 : decode cX12_says 89 = .ok (.iload 6, 2) := by decide +kernel
theorem dX12_says_91 : decode cX12_says 91 = .ok (.iconst 4, 1) := by decide +kernel
theorem dX12_says_92 : decode cX12_says 92 = .ok (.if_icmp .eq 18, 3) := by decide +kernel
theorem dX12_says_95 : decode cX12_says 95 = .ok (.aload_n 0, 1) := by decide +kernel
theorem dX12_says_96 : decode cX12_says 96 = .ok (.aload_n 0, 1) := by decide +kernel
theorem dX12_says_97 : decode cX12_says 97 = .ok (.getfield 98, 3) := by decide +kernel
theorem dX12_says_100 : decode cX12_says 100 = .ok (.iconst 4, 1) := by decide +kernel
theorem dX12_says_101 : decode cX12_says 101 = .ok (.iadd, 1) := by decide +kernel
theorem dX12_says_102 : decode cX12_says 102 = .ok (.invokevirtual 94, 3) := by decide +kernel
theorem dX12_says_105 : decode cX12_says 105 = .ok (.iload 5, 2) := by decide +kernel
theorem dX12_says_107 : decode cX12_says 107 = .ok (.if_icmp .ne 7, 3) := by decide +kernel
theorem dX12_says_110 : decode cX12_says 110 = .ok (.iconst 1, 1) := by decide +kernel
theorem dX12_says_111 : decode cX12_says 111 = .ok (.goto 4, 3) := by decide +kernel
theorem dX12_says_114 : decode cX12_says 114 = .ok (.iconst 0, 1) := by decide +kernel
theorem dX12_says_115 : decode cX12_says 115 = .ok (.ireturn, 1) := by decide +kernel
theorem dX12_begins_0 : decode cX12_begins 0 = .ok (.aload_n 0, 1) := by decide +kernel
theorem dX12_begins_1 : decode cX12_begins 1 = .ok (.bipush 119, 2) := by decide +kernel
theorem dX12_begins_3 : decode cX12_begins 3 = .ok (.bipush 111, 2) := by decide +kernel
theorem dX12_begins_5 : decode cX12_begins 5 = .ok (.bipush 114, 2) := by decide +kernel
theorem dX12_begins_7 : decode cX12_begins 7 = .ok (.bipush 100, 2) := by decide +kernel
theorem dX12_begins_9 : decode cX12_begins 9 = .ok (.iconst 0, 1) := by decide +kernel
theorem dX12_begins_10 : decode cX12_begins 10 = .ok (.invokevirtual 121, 3) := by decide +kernel
theorem dX12_begins_13 : decode cX12_begins 13 = .ok (.ifCond .eq 7, 3) := by decide +kernel
theorem dX12_begins_16 : decode cX12_begins 16 = .ok (.iconst 0, 1) := by decide +kernel
theorem dX12_begins_17 : decode cX12_begins 17 = .ok (.goto 46, 3) := by decide +kernel
theorem dX12_begins_20 : decode cX12_begins 20 = .ok (.aload_n 0, 1) := by decide +kernel
theorem dX12_begins_21 : decode cX12_begins 21 = .ok (.bipush 102, 2) := by decide +kernel
theorem dX12_begins_23 : decode cX12_begins 23 = .ok (.bipush 111, 2) := by decide +kernel
theorem dX12_begins_25 : decode cX12_begins 25 = .ok (.bipush 114, 2) := by decide +kernel
theorem dX12_begins_27 : decode cX12_begins 27 = .ok (.bipush 109, 2) := by decide +kernel
theorem dX12_begins_29 : decode cX12_begins 29 = .ok (.iconst 0, 1) := by decide +kernel
theorem dX12_begins_30 : decode cX12_begins 30 = .ok (.invokevirtual 121, 3) := by decide +kernel
theorem dX12_begins_33 : decode cX12_begins 33 = .ok (.ifCond .eq 7, 3) := by decide +kernel
theorem dX12_begins_36 : decode cX12_begins 36 = .ok (.iconst 1, 1) := by decide +kernel
theorem dX12_begins_37 : decode cX12_begins 37 = .ok (.goto 26, 3) := by decide +kernel
theorem dX12_begins_40 : decode cX12_begins 40 = .ok (.aload_n 0, 1) := by decide +kernel
theorem dX12_begins_41 : decode cX12_begins 41 = .ok (.bipush 109, 2) := by decide +kernel
theorem dX12_begins_43 : decode cX12_begins 43 = .ok (.bipush 101, 2) := by decide +kernel
theorem dX12_begins_45 : decode cX12_begins 45 = .ok (.bipush 116, 2) := by decide +kernel
theorem dX12_begins_47 : decode cX12_begins 47 = .ok (.bipush 114, 2) := by decide +kernel
theorem dX12_begins_49 : decode cX12_begins 49 = .ok (.bipush 101, 2) := by decide +kernel
theorem dX12_begins_51 : decode cX12_begins 51 = .ok (.invokevirtual 121, 3) := by decide +kernel
theorem dX12_begins_54 : decode cX12_begins 54 = .ok (.ifCond .eq 7, 3) := by decide +kernel
theorem dX12_begins_57 : decode cX12_begins 57 = .ok (.iconst 2, 1) := by decide +kernel
theorem dX12_begins_58 : decode cX12_begins 58 = .ok (.goto 5, 3) := by decide +kernel
theorem dX12_begins_61 : decode cX12_begins 61 = .ok (.bipush (-9), 2) := by decide +kernel
theorem dX12_begins_63 : decode cX12_begins 63 = .ok (.istore_n 1, 1) := by decide +kernel
theorem dX12_begins_64 : decode cX12_begins 64 = .ok (.iload_n 1, 1) := by decide +kernel
theorem dX12_begins_65 : decode cX12_begins 65 = .ok (.bipush (-9), 2) := by decide +kernel
theorem dX12_begins_67 : decode cX12_begins 67 = .ok (.if_icmp .eq 7, 3) := by decide +kernel
theorem dX12_begins_70 : decode cX12_begins 70 = .ok (.iload_n 1, 1) := by decide +kernel
theorem dX12_begins_71 : decode cX12_begins 71 = .ok (.goto 46, 3) := by decide +kernel
theorem dX12_begins_74 : decode cX12_begins 74 = .ok (.aload_n 0, 1) := by decide +kernel
theorem dX12_begins_75 : decode cX12_begins 75 = .ok (.bipush 108, 2) := by decide +kernel
theorem dX12_begins_77 : decode cX12_begins 77 = .ok (.bipush 105, 2) := by decide +kernel
theorem dX12_begins_79 : decode cX12_begins 79 = .ok (.bipush 110, 2) := by decide +kernel
theorem dX12_begins_81 : decode cX12_begins 81 = .ok (.bipush 101, 2) := by decide +kernel
theorem dX12_begins_83 : decode cX12_begins 83 = .ok (.iconst 0, 1) := by decide +kernel
theorem dX12_begins_84 : decode cX12_begins 84 = .ok (.invokevirtual 121, 3) := by decide +kernel
theorem dX12_begins_87 : decode cX12_begins 87 = .ok (.ifCond .eq 7, 3) := by decide +kernel
theorem dX12_begins_90 : decode cX12_begins 90 = .ok (.iconst 3, 1) := by decide +kernel
theorem dX12_begins_91 : decode cX12_begins 91 = .ok (.goto 26, 3) := by decide +kernel
theorem dX12_begins_94 : decode cX12_begins 94 = .ok (.aload_n 0, 1) := by decide +kernel
theorem dX12_begins_95 : decode cX12_begins 95 = .ok (.bipush 115, 2) := by decide +kernel
theorem dX12_begins_97 : decode cX12_begins 97 = .ok (.bipush 116, 2) := by decide +kernel
theorem dX12_begins_99 : decode cX12_begins 99 = .ok (.bipush 111, 2) := by decide +kernel
theorem dX12_begins_101 : decode cX12_begins 101 = .ok (.bipush 99, 2) := by decide +kernel
theorem dX12_begins_103 : decode cX12_begins 103 = .ok (.bipush 107, 2) := by decide +kernel
theorem dX12_begins_105 : decode cX12_begins 105 = .ok (.invokevirtual 121, 3) := by decide +kernel
theorem dX12_begins_108 : decode cX12_begins 108 = .ok (.ifCond .eq 7, 3) := by decide +kernel
theorem dX12_begins_111 : decode cX12_begins 111 = .ok (.iconst 4, 1) := by decide +kernel
theorem dX12_begins_112 : decode cX12_begins 112 = .ok (.goto 5, 3) := by decide +kernel
theorem dX12_begins_115 : decode cX12_begins 115 = .ok (.bipush (-9), 2) := by decide +kernel
theorem dX12_begins_117 : decode cX12_begins 117 = .ok (.ireturn, 1) := by decide +kernel
theorem dX12_areLetters_0 : decode cX12_areLetters 0 = .ok (.aload_n 0, 1) := by decide +kernel
theorem dX12_areLetters_1 : decode cX12_areLetters 1 = .ok (.getfield 101, 3) := by decide +kernel
theorem dX12_areLetters_4 : decode cX12_areLetters 4 = .ok (.iconst 1, 1) := by decide +kernel
theorem dX12_areLetters_5 : decode cX12_areLetters 5 = .ok (.if_icmp .ne 20, 3) := by decide +kernel
theorem dX12_areLetters_8 : decode cX12_areLetters 8 = .ok (.aload_n 0, 1) := by decide +kernel
theorem dX12_areLetters_9 : decode cX12_areLetters 9 = .ok (.getfield 91, 3) := by decide +kernel
theorem dX12_areLetters_12 : decode cX12_areLetters 12 = .ok (.aload_n 0, 1) := by decide +kernel
theorem dX12_areLetters_13 : decode cX12_areLetters 13 = .ok (.getfield 98, 3) := by decide +kernel
theorem dX12_areLetters_16 : decode cX12_areLetters 16 = .ok (.isub, 1) := by decide +kernel
theorem dX12_areLetters_17 : decode cX12_areLetters 17 = .ok (.iload_n 1, 1) := by decide +kernel
theorem dX12_areLetters_18 : decode cX12_areLetters 18 = .ok (.if_icmp .gt 7, 3) := by decide +kernel
theorem dX12_areLetters_21 : decode cX12_areLetters 21 = .ok (.iconst 1, 1) := by decide +kernel
theorem dX12_areLetters_22 : decode cX12_areLetters 22 = .ok (.goto 4, 3) := by decide +kernel
theorem dX12_areLetters_25 : decode cX12_areLetters 25 = .ok (.iconst 0, 1) := by decide +kernel
theorem dX12_areLetters_26 : decode cX12_areLetters 26 = .ok (.istore_n 2, 1) := by decide +kernel
theorem dX12_areLetters_27 : decode cX12_areLetters 27 = .ok (.aload_n 0, 1) := by decide +kernel
theorem dX12_areLetters_28 : decode cX12_areLetters 28 = .ok (.getfield 98, 3) := by decide +kernel
theorem dX12_areLetters_31 : decode cX12_areLetters 31 = .ok (.istore_n 3, 1) := by decide +kernel
theorem dX12_areLetters_32 : decode cX12_areLetters 32 = .ok (.iload_n 3, 1) := by decide +kernel
theorem dX12_areLetters_33 : decode cX12_areLetters 33 = .ok (.aload_n 0, 1) := by decide +kernel
theorem dX12_areLetters_34 : decode cX12_areLetters 34 = .ok (.getfield 91, 3) := by decide +kernel
theorem dX12_areLetters_37 : decode cX12_areLetters 37 = .ok (.if_icmp .ge 26, 3) := by decide +kernel
theorem dX12_areLetters_40 : decode cX12_areLetters 40 = .ok (.iload_n 2, 1) := by decide +kernel
theorem dX12_areLetters_41 : decode cX12_areLetters 41 = .ok (.ifCond .eq 22, 3) := by decide +kernel
theorem dX12_areLetters_44 : decode cX12_areLetters 44 = .ok (.aload_n 0, 1) := by decide +kernel
theorem dX12_areLetters_45 : decode cX12_areLetters 45 = .ok (.iload_n 3, 1) := by decide +kernel
theorem dX12_areLetters_46 : decode cX12_areLetters 46 = .ok (.invokevirtual 94, 3) := by decide +kernel
theorem dX12_areLetters_49 : decode cX12_areLetters 49 = .ok (.bipush 97, 2) := by decide +kernel
theorem dX12_areLetters_51 : decode cX12_areLetters 51 = .ok (.bipush 104, 2) := by decide +kernel
theorem dX12_areLetters_53 : decode cX12_areLetters 53 = .ok (.invokestatic 82, 3) := by decide +kernel
theorem dX12_areLetters_56 : decode cX12_areLetters 56 = .ok (.istore_n 2, 1) := by decide +kernel
theorem dX12_areLetters_57 : decode cX12_areLetters 57 = .ok (.iinc 3 1, 3) := by decide +kernel
theorem dX12_areLetters_60 : decode cX12_areLetters 60 = .ok (.goto (-28), 3) := by decide +kernel
theorem dX12_areLetters_63 : decode cX12_areLetters 63 = .ok (.iload_n 2, 1) := by decide +kernel
theorem dX12_areLetters_64 : decode cX12_areLetters 64 = .ok (.ireturn, 1) := by decide +kernel
theorem dX12_readsWord_0 : decode cX12_readsWord 0 = .ok (.bipush 64, 2) := by decide +kernel
theorem dX12_readsWord_2 : decode cX12_readsWord 2 = .ok (.iconst 4, 1) := by decide +kernel
theorem dX12_readsWord_3 : decode cX12_readsWord 3 = .ok (.aload_n 0, 1) := by decide +kernel
theorem dX12_readsWord_4 : decode cX12_readsWord 4 = .ok (.getfield 125, 3) := by decide +kernel
theorem dX12_readsWord_7 : decode cX12_readsWord 7 = .ok (.imul, 1) := by decide +kernel
theorem dX12_readsWord_8 : decode cX12_readsWord 8 = .ok (.iadd, 1) := by decide +kernel
theorem dX12_readsWord_9 : decode cX12_readsWord 9 = .ok (.istore_n 1, 1) := by decide +kernel
theorem dX12_readsWord_10 : decode cX12_readsWord 10 = .ok (.aload_n 0, 1) := by decide +kernel
theorem dX12_readsWord_11 : decode cX12_readsWord 11 = .ok (.getfield 13, 3) := by decide +kernel
theorem dX12_readsWord_14 : decode cX12_readsWord 14 = .ok (.iload_n 1, 1) := by decide +kernel
theorem dX12_readsWord_15 : decode cX12_readsWord 15 = .ok (.aload_n 0, 1) := by decide +kernel
theorem dX12_readsWord_16 : decode cX12_readsWord 16 = .ok (.iconst 0, 1) := by decide +kernel
theorem dX12_readsWord_17 : decode cX12_readsWord 17 = .ok (.bipush 25, 2) := by decide +kernel
theorem dX12_readsWord_19 : decode cX12_readsWord 19 = .ok (.invokevirtual 128, 3) := by decide +kernel
theorem dX12_readsWord_22 : decode cX12_readsWord 22 = .ok (.iastore, 1) := by decide +kernel
theorem dX12_readsWord_23 : decode cX12_readsWord 23 = .ok (.aload_n 0, 1) := by decide +kernel
theorem dX12_readsWord_24 : decode cX12_readsWord 24 = .ok (.getfield 13, 3) := by decide +kernel
theorem dX12_readsWord_27 : decode cX12_readsWord 27 = .ok (.iload_n 1, 1) := by decide +kernel
theorem dX12_readsWord_28 : decode cX12_readsWord 28 = .ok (.iconst 1, 1) := by decide +kernel
theorem dX12_readsWord_29 : decode cX12_readsWord 29 = .ok (.iadd, 1) := by decide +kernel
theorem dX12_readsWord_30 : decode cX12_readsWord 30 = .ok (.aload_n 0, 1) := by decide +kernel
theorem dX12_readsWord_31 : decode cX12_readsWord 31 = .ok (.iconst 0, 1) := by decide +kernel
theorem dX12_readsWord_32 : decode cX12_readsWord 32 = .ok (.bipush 25, 2) := by decide +kernel
theorem dX12_readsWord_34 : decode cX12_readsWord 34 = .ok (.invokevirtual 128, 3) := by decide +kernel
theorem dX12_readsWord_37 : decode cX12_readsWord 37 = .ok (.iastore, 1) := by decide +kernel
theorem dX12_readsWord_38 : decode cX12_readsWord 38 = .ok (.aload_n 0, 1) := by decide +kernel
theorem dX12_readsWord_39 : decode cX12_readsWord 39 = .ok (.getfield 13, 3) := by decide +kernel
theorem dX12_readsWord_42 : decode cX12_readsWord 42 = .ok (.iload_n 1, 1) := by decide +kernel
theorem dX12_readsWord_43 : decode cX12_readsWord 43 = .ok (.iconst 2, 1) := by decide +kernel
theorem dX12_readsWord_44 : decode cX12_readsWord 44 = .ok (.iadd, 1) := by decide +kernel
theorem dX12_readsWord_45 : decode cX12_readsWord 45 = .ok (.aload_n 0, 1) := by decide +kernel
theorem dX12_readsWord_46 : decode cX12_readsWord 46 = .ok (.iconst 0, 1) := by decide +kernel
theorem dX12_readsWord_47 : decode cX12_readsWord 47 = .ok (.bipush 9, 2) := by decide +kernel
theorem dX12_readsWord_49 : decode cX12_readsWord 49 = .ok (.invokevirtual 128, 3) := by decide +kernel
theorem dX12_readsWord_52 : decode cX12_readsWord 52 = .ok (.iastore, 1) := by decide +kernel
theorem dX12_readsWord_53 : decode cX12_readsWord 53 = .ok (.aload_n 0, 1) := by decide +kernel
theorem dX12_readsWord_54 : decode cX12_readsWord 54 = .ok (.getfield 13, 3) := by decide +kernel
theorem dX12_readsWord_57 : decode cX12_readsWord 57 = .ok (.iload_n 1, 1) := by decide +kernel
theorem dX12_readsWord_58 : decode cX12_readsWord 58 = .ok (.iconst 3, 1) := by decide +kernel
theorem dX12_readsWord_59 : decode cX12_readsWord 59 = .ok (.iadd, 1) := by decide +kernel
theorem dX12_readsWord_60 : decode cX12_readsWord 60 = .ok (.aload_n 0, 1) := by decide +kernel
theorem dX12_readsWord_61 : decode cX12_readsWord 61 = .ok (.iconst 1, 1) := by decide +kernel
theorem dX12_readsWord_62 : decode cX12_readsWord 62 = .ok (.iconst 4, 1) := by decide +kernel
theorem dX12_readsWord_63 : decode cX12_readsWord 63 = .ok (.invokevirtual 128, 3) := by decide +kernel
theorem dX12_readsWord_66 : decode cX12_readsWord 66 = .ok (.iastore, 1) := by decide +kernel
theorem dX12_readsWord_67 : decode cX12_readsWord 67 = .ok (.aload_n 0, 1) := by decide +kernel
theorem dX12_readsWord_68 : decode cX12_readsWord 68 = .ok (.dup, 1) := by decide +kernel
theorem dX12_readsWord_69 : decode cX12_readsWord 69 = .ok (.getfield 125, 3) := by decide +kernel
theorem dX12_readsWord_72 : decode cX12_readsWord 72 = .ok (.iconst 1, 1) := by decide +kernel
theorem dX12_readsWord_73 : decode cX12_readsWord 73 = .ok (.iadd, 1) := by decide +kernel
theorem dX12_readsWord_74 : decode cX12_readsWord 74 = .ok (.putfield 125, 3) := by decide +kernel
theorem dX12_readsWord_77 : decode cX12_readsWord 77 = .ok (.return_, 1) := by decide +kernel
theorem dX12_readsForm_0 : decode cX12_readsForm 0 = .ok (.aload_n 0, 1) := by decide +kernel
theorem dX12_readsForm_1 : decode cX12_readsForm 1 = .ok (.aload_n 0, 1) := by decide +kernel
theorem dX12_readsForm_2 : decode cX12_readsForm 2 = .ok (.bipush 8, 2) := by decide +kernel
theorem dX12_readsForm_4 : decode cX12_readsForm 4 = .ok (.invokevirtual 132, 3) := by decide +kernel
theorem dX12_readsForm_7 : decode cX12_readsForm 7 = .ok (.invokevirtual 114, 3) := by decide +kernel
theorem dX12_readsForm_10 : decode cX12_readsForm 10 = .ok (.bipush 18, 2) := by decide +kernel
theorem dX12_readsForm_12 : decode cX12_readsForm 12 = .ok (.bipush 9, 2) := by decide +kernel
theorem dX12_readsForm_14 : decode cX12_readsForm 14 = .ok (.aload_n 0, 1) := by decide +kernel
theorem dX12_readsForm_15 : decode cX12_readsForm 15 = .ok (.getfield 136, 3) := by decide +kernel
theorem dX12_readsForm_18 : decode cX12_readsForm 18 = .ok (.imul, 1) := by decide +kernel
theorem dX12_readsForm_19 : decode cX12_readsForm 19 = .ok (.iadd, 1) := by decide +kernel
theorem dX12_readsForm_20 : decode cX12_readsForm 20 = .ok (.istore_n 1, 1) := by decide +kernel
theorem dX12_readsForm_21 : decode cX12_readsForm 21 = .ok (.aload_n 0, 1) := by decide +kernel
theorem dX12_readsForm_22 : decode cX12_readsForm 22 = .ok (.getfield 16, 3) := by decide +kernel
theorem dX12_readsForm_25 : decode cX12_readsForm 25 = .ok (.iload_n 1, 1) := by decide +kernel
theorem dX12_readsForm_26 : decode cX12_readsForm 26 = .ok (.aload_n 0, 1) := by decide +kernel
theorem dX12_readsForm_27 : decode cX12_readsForm 27 = .ok (.getfield 91, 3) := by decide +kernel
theorem dX12_readsForm_30 : decode cX12_readsForm 30 = .ok (.aload_n 0, 1) := by decide +kernel
theorem dX12_readsForm_31 : decode cX12_readsForm 31 = .ok (.getfield 98, 3) := by decide +kernel
theorem dX12_readsForm_34 : decode cX12_readsForm 34 = .ok (.isub, 1) := by decide +kernel
theorem dX12_readsForm_35 : decode cX12_readsForm 35 = .ok (.iastore, 1) := by decide +kernel
theorem dX12_readsForm_36 : decode cX12_readsForm 36 = .ok (.iconst 0, 1) := by decide +kernel
theorem dX12_readsForm_37 : decode cX12_readsForm 37 = .ok (.istore_n 2, 1) := by decide +kernel
theorem dX12_readsForm_38 : decode cX12_readsForm 38 = .ok (.iload_n 2, 1) := by decide +kernel
theorem dX12_readsForm_39 : decode cX12_readsForm 39 = .ok (.aload_n 0, 1) := by decide +kernel
theorem dX12_readsForm_40 : decode cX12_readsForm 40 = .ok (.getfield 16, 3) := by decide +kernel
theorem dX12_readsForm_43 : decode cX12_readsForm 43 = .ok (.iload_n 1, 1) := by decide +kernel
theorem dX12_readsForm_44 : decode cX12_readsForm 44 = .ok (.iaload, 1) := by decide +kernel
theorem dX12_readsForm_45 : decode cX12_readsForm 45 = .ok (.if_icmp .ge 39, 3) := by decide +kernel
theorem dX12_readsForm_48 : decode cX12_readsForm 48 = .ok (.aload_n 0, 1) := by decide +kernel
theorem dX12_readsForm_49 : decode cX12_readsForm 49 = .ok (.invokevirtual 110, 3) := by decide +kernel
theorem dX12_readsForm_52 : decode cX12_readsForm 52 = .ok (.ifCond .eq 32, 3) := by decide +kernel
theorem dX12_readsForm_55 : decode cX12_readsForm 55 = .ok (.aload_n 0, 1) := by decide +kernel
theorem dX12_readsForm_56 : decode cX12_readsForm 56 = .ok (.getfield 16, 3) := by decide +kernel
theorem dX12_readsForm_59 : decode cX12_readsForm 59 = .ok (.iload_n 1, 1) := by decide +kernel
theorem dX12_readsForm_60 : decode cX12_readsForm 60 = .ok (.iconst 1, 1) := by decide +kernel
theorem dX12_readsForm_61 : decode cX12_readsForm 61 = .ok (.iadd, 1) := by decide +kernel
theorem dX12_readsForm_62 : decode cX12_readsForm 62 = .ok (.iload_n 2, 1) := by decide +kernel
theorem dX12_readsForm_63 : decode cX12_readsForm 63 = .ok (.iadd, 1) := by decide +kernel
theorem dX12_readsForm_64 : decode cX12_readsForm 64 = .ok (.aload_n 0, 1) := by decide +kernel
theorem dX12_readsForm_65 : decode cX12_readsForm 65 = .ok (.aload_n 0, 1) := by decide +kernel
theorem dX12_readsForm_66 : decode cX12_readsForm 66 = .ok (.getfield 98, 3) := by decide +kernel
theorem dX12_readsForm_69 : decode cX12_readsForm 69 = .ok (.iload_n 2, 1) := by decide +kernel
theorem dX12_readsForm_70 : decode cX12_readsForm 70 = .ok (.iadd, 1) := by decide +kernel
theorem dX12_readsForm_71 : decode cX12_readsForm 71 = .ok (.invokevirtual 94, 3) := by decide +kernel
theorem dX12_readsForm_74 : decode cX12_readsForm 74 = .ok (.bipush 97, 2) := by decide +kernel
theorem dX12_readsForm_76 : decode cX12_readsForm 76 = .ok (.isub, 1) := by decide +kernel
theorem dX12_readsForm_77 : decode cX12_readsForm 77 = .ok (.iastore, 1) := by decide +kernel
theorem dX12_readsForm_78 : decode cX12_readsForm 78 = .ok (.iinc 2 1, 3) := by decide +kernel
theorem dX12_readsForm_81 : decode cX12_readsForm 81 = .ok (.goto (-43), 3) := by decide +kernel
theorem dX12_readsForm_84 : decode cX12_readsForm 84 = .ok (.aload_n 0, 1) := by decide +kernel
theorem dX12_readsForm_85 : decode cX12_readsForm 85 = .ok (.dup, 1) := by decide +kernel
theorem dX12_readsForm_86 : decode cX12_readsForm 86 = .ok (.getfield 136, 3) := by decide +kernel
theorem dX12_readsForm_89 : decode cX12_readsForm 89 = .ok (.iconst 1, 1) := by decide +kernel
theorem dX12_readsForm_90 : decode cX12_readsForm 90 = .ok (.iadd, 1) := by decide +kernel
theorem dX12_readsForm_91 : decode cX12_readsForm 91 = .ok (.putfield 136, 3) := by decide +kernel
theorem dX12_readsForm_94 : decode cX12_readsForm 94 = .ok (.aload_n 0, 1) := by decide +kernel
theorem dX12_readsForm_95 : decode cX12_readsForm 95 = .ok (.invokevirtual 110, 3) := by decide +kernel
theorem dX12_readsForm_98 : decode cX12_readsForm 98 = .ok (.ifCond .eq 7, 3) := by decide +kernel
theorem dX12_readsForm_101 : decode cX12_readsForm 101 = .ok (.aload_n 0, 1) := by decide +kernel
theorem dX12_readsForm_102 : decode cX12_readsForm 102 = .ok (.invokevirtual 118, 3) := by decide +kernel
theorem dX12_readsForm_105 : decode cX12_readsForm 105 = .ok (.return_, 1) := by decide +kernel
theorem dX12_readsMetre_0 : decode cX12_readsMetre 0 = .ok (.aload_n 0, 1) := by decide +kernel
theorem dX12_readsMetre_1 : decode cX12_readsMetre 1 = .ok (.aload_n 0, 1) := by decide +kernel
theorem dX12_readsMetre_2 : decode cX12_readsMetre 2 = .ok (.iconst 1, 1) := by decide +kernel
theorem dX12_readsMetre_3 : decode cX12_readsMetre 3 = .ok (.invokevirtual 132, 3) := by decide +kernel
theorem dX12_readsMetre_6 : decode cX12_readsMetre 6 = .ok (.invokevirtual 114, 3) := by decide +kernel
theorem dX12_readsMetre_9 : decode cX12_readsMetre 9 = .ok (.aload_n 0, 1) := by decide +kernel
theorem dX12_readsMetre_10 : decode cX12_readsMetre 10 = .ok (.invokevirtual 110, 3) := by decide +kernel
theorem dX12_readsMetre_13 : decode cX12_readsMetre 13 = .ok (.ifCond .eq 17, 3) := by decide +kernel
theorem dX12_readsMetre_16 : decode cX12_readsMetre 16 = .ok (.aload_n 0, 1) := by decide +kernel
theorem dX12_readsMetre_17 : decode cX12_readsMetre 17 = .ok (.aload_n 0, 1) := by decide +kernel
theorem dX12_readsMetre_18 : decode cX12_readsMetre 18 = .ok (.getfield 98, 3) := by decide +kernel
theorem dX12_readsMetre_21 : decode cX12_readsMetre 21 = .ok (.invokevirtual 94, 3) := by decide +kernel
theorem dX12_readsMetre_24 : decode cX12_readsMetre 24 = .ok (.bipush 97, 2) := by decide +kernel
theorem dX12_readsMetre_26 : decode cX12_readsMetre 26 = .ok (.isub, 1) := by decide +kernel
theorem dX12_readsMetre_27 : decode cX12_readsMetre 27 = .ok (.goto 4, 3) := by decide +kernel
theorem dX12_readsMetre_30 : decode cX12_readsMetre 30 = .ok (.iconst 0, 1) := by decide +kernel
theorem dX12_readsMetre_31 : decode cX12_readsMetre 31 = .ok (.istore_n 1, 1) := by decide +kernel
theorem dX12_readsMetre_32 : decode cX12_readsMetre 32 = .ok (.aload_n 0, 1) := by decide +kernel
theorem dX12_readsMetre_33 : decode cX12_readsMetre 33 = .ok (.invokevirtual 110, 3) := by decide +kernel
theorem dX12_readsMetre_36 : decode cX12_readsMetre 36 = .ok (.ifCond .eq 7, 3) := by decide +kernel
theorem dX12_readsMetre_39 : decode cX12_readsMetre 39 = .ok (.aload_n 0, 1) := by decide +kernel
theorem dX12_readsMetre_40 : decode cX12_readsMetre 40 = .ok (.invokevirtual 118, 3) := by decide +kernel
theorem dX12_readsMetre_43 : decode cX12_readsMetre 43 = .ok (.aload_n 0, 1) := by decide +kernel
theorem dX12_readsMetre_44 : decode cX12_readsMetre 44 = .ok (.iconst 0, 1) := by decide +kernel
theorem dX12_readsMetre_45 : decode cX12_readsMetre 45 = .ok (.bipush 20, 2) := by decide +kernel
theorem dX12_readsMetre_47 : decode cX12_readsMetre 47 = .ok (.invokevirtual 128, 3) := by decide +kernel
theorem dX12_readsMetre_50 : decode cX12_readsMetre 50 = .ok (.istore_n 2, 1) := by decide +kernel
theorem dX12_readsMetre_51 : decode cX12_readsMetre 51 = .ok (.aload_n 0, 1) := by decide +kernel
theorem dX12_readsMetre_52 : decode cX12_readsMetre 52 = .ok (.invokevirtual 110, 3) := by decide +kernel
theorem dX12_readsMetre_55 : decode cX12_readsMetre 55 = .ok (.ifCond .eq 13, 3) := by decide +kernel
theorem dX12_readsMetre_58 : decode cX12_readsMetre 58 = .ok (.aload_n 0, 1) := by decide +kernel
theorem dX12_readsMetre_59 : decode cX12_readsMetre 59 = .ok (.getfield 19, 3) := by decide +kernel
theorem dX12_readsMetre_62 : decode cX12_readsMetre 62 = .ok (.bipush 8, 2) := by decide +kernel
theorem dX12_readsMetre_64 : decode cX12_readsMetre 64 = .ok (.iload_n 1, 1) := by decide +kernel
theorem dX12_readsMetre_65 : decode cX12_readsMetre 65 = .ok (.iadd, 1) := by decide +kernel
theorem dX12_readsMetre_66 : decode cX12_readsMetre 66 = .ok (.iload_n 2, 1) := by decide +kernel
theorem dX12_readsMetre_67 : decode cX12_readsMetre 67 = .ok (.iastore, 1) := by decide +kernel
theorem dX12_readsMetre_68 : decode cX12_readsMetre 68 = .ok (.return_, 1) := by decide +kernel
theorem dX12_readsLine_0 : decode cX12_readsLine 0 = .ok (.aload_n 1, 1) := by decide +kernel
theorem dX12_readsLine_1 : decode cX12_readsLine 1 = .ok (.iload_n 2, 1) := by decide +kernel
theorem dX12_readsLine_2 : decode cX12_readsLine 2 = .ok (.aload_n 0, 1) := by decide +kernel
theorem dX12_readsLine_3 : decode cX12_readsLine 3 = .ok (.iconst 0, 1) := by decide +kernel
theorem dX12_readsLine_4 : decode cX12_readsLine 4 = .ok (.aload_n 0, 1) := by decide +kernel
theorem dX12_readsLine_5 : decode cX12_readsLine 5 = .ok (.getfield 125, 3) := by decide +kernel
theorem dX12_readsLine_8 : decode cX12_readsLine 8 = .ok (.iconst 1, 1) := by decide +kernel
theorem dX12_readsLine_9 : decode cX12_readsLine 9 = .ok (.isub, 1) := by decide +kernel
theorem dX12_readsLine_10 : decode cX12_readsLine 10 = .ok (.invokevirtual 128, 3) := by decide +kernel
theorem dX12_readsLine_13 : decode cX12_readsLine 13 = .ok (.iastore, 1) := by decide +kernel
theorem dX12_readsLine_14 : decode cX12_readsLine 14 = .ok (.aload_n 1, 1) := by decide +kernel
theorem dX12_readsLine_15 : decode cX12_readsLine 15 = .ok (.iload_n 2, 1) := by decide +kernel
theorem dX12_readsLine_16 : decode cX12_readsLine 16 = .ok (.iconst 1, 1) := by decide +kernel
theorem dX12_readsLine_17 : decode cX12_readsLine 17 = .ok (.iadd, 1) := by decide +kernel
theorem dX12_readsLine_18 : decode cX12_readsLine 18 = .ok (.aload_n 0, 1) := by decide +kernel
theorem dX12_readsLine_19 : decode cX12_readsLine 19 = .ok (.iconst 0, 1) := by decide +kernel
theorem dX12_readsLine_20 : decode cX12_readsLine 20 = .ok (.bipush 9, 2) := by decide +kernel
theorem dX12_readsLine_22 : decode cX12_readsLine 22 = .ok (.invokevirtual 128, 3) := by decide +kernel
theorem dX12_readsLine_25 : decode cX12_readsLine 25 = .ok (.iastore, 1) := by decide +kernel
theorem dX12_readsLine_26 : decode cX12_readsLine 26 = .ok (.aload_n 1, 1) := by decide +kernel
theorem dX12_readsLine_27 : decode cX12_readsLine 27 = .ok (.iload_n 2, 1) := by decide +kernel
theorem dX12_readsLine_28 : decode cX12_readsLine 28 = .ok (.iconst 2, 1) := by decide +kernel
theorem dX12_readsLine_29 : decode cX12_readsLine 29 = .ok (.iadd, 1) := by decide +kernel
theorem dX12_readsLine_30 : decode cX12_readsLine 30 = .ok (.aload_n 0, 1) := by decide +kernel
theorem dX12_readsLine_31 : decode cX12_readsLine 31 = .ok (.iconst 0, 1) := by decide +kernel
theorem dX12_readsLine_32 : decode cX12_readsLine 32 = .ok (.bipush 16, 2) := by decide +kernel
theorem dX12_readsLine_34 : decode cX12_readsLine 34 = .ok (.invokevirtual 128, 3) := by decide +kernel
theorem dX12_readsLine_37 : decode cX12_readsLine 37 = .ok (.iastore, 1) := by decide +kernel
theorem dX12_readsLine_38 : decode cX12_readsLine 38 = .ok (.return_, 1) := by decide +kernel
theorem dX12_readsItem_0 : decode cX12_readsItem 0 = .ok (.iload_n 1, 1) := by decide +kernel
theorem dX12_readsItem_1 : decode cX12_readsItem 1 = .ok (.ifCond .ne 10, 3) := by decide +kernel
theorem dX12_readsItem_4 : decode cX12_readsItem 4 = .ok (.aload_n 0, 1) := by decide +kernel
theorem dX12_readsItem_5 : decode cX12_readsItem 5 = .ok (.invokevirtual 139, 3) := by decide +kernel
theorem dX12_readsItem_8 : decode cX12_readsItem 8 = .ok (.goto 86, 3) := by decide +kernel
theorem dX12_readsItem_11 : decode cX12_readsItem 11 = .ok (.iload_n 1, 1) := by decide +kernel
theorem dX12_readsItem_12 : decode cX12_readsItem 12 = .ok (.iconst 1, 1) := by decide +kernel
theorem dX12_readsItem_13 : decode cX12_readsItem 13 = .ok (.if_icmp .ne 10, 3) := by decide +kernel
theorem dX12_readsItem_16 : decode cX12_readsItem 16 = .ok (.aload_n 0, 1) := by decide +kernel
theorem dX12_readsItem_17 : decode cX12_readsItem 17 = .ok (.invokevirtual 142, 3) := by decide +kernel
theorem dX12_readsItem_20 : decode cX12_readsItem 20 = .ok (.goto 74, 3) := by decide +kernel
theorem dX12_readsItem_23 : decode cX12_readsItem 23 = .ok (.iload_n 1, 1) := by decide +kernel
theorem dX12_readsItem_24 : decode cX12_readsItem 24 = .ok (.iconst 2, 1) := by decide +kernel
theorem dX12_readsItem_25 : decode cX12_readsItem 25 = .ok (.if_icmp .ne 10, 3) := by decide +kernel
theorem dX12_readsItem_28 : decode cX12_readsItem 28 = .ok (.aload_n 0, 1) := by decide +kernel
theorem dX12_readsItem_29 : decode cX12_readsItem 29 = .ok (.invokevirtual 145, 3) := by decide +kernel
theorem dX12_readsItem_32 : decode cX12_readsItem 32 = .ok (.goto 62, 3) := by decide +kernel
theorem dX12_readsItem_35 : decode cX12_readsItem 35 = .ok (.iload_n 1, 1) := by decide +kernel
theorem dX12_readsItem_36 : decode cX12_readsItem 36 = .ok (.iconst 3, 1) := by decide +kernel
theorem dX12_readsItem_37 : decode cX12_readsItem 37 = .ok (.if_icmp .ne 30, 3) := by decide +kernel
theorem dX12_readsItem_40 : decode cX12_readsItem 40 = .ok (.aload_n 0, 1) := by decide +kernel
theorem dX12_readsItem_41 : decode cX12_readsItem 41 = .ok (.aload_n 0, 1) := by decide +kernel
theorem dX12_readsItem_42 : decode cX12_readsItem 42 = .ok (.getfield 25, 3) := by decide +kernel
theorem dX12_readsItem_45 : decode cX12_readsItem 45 = .ok (.iconst 3, 1) := by decide +kernel
theorem dX12_readsItem_46 : decode cX12_readsItem 46 = .ok (.aload_n 0, 1) := by decide +kernel
theorem dX12_readsItem_47 : decode cX12_readsItem 47 = .ok (.getfield 148, 3) := by decide +kernel
theorem dX12_readsItem_50 : decode cX12_readsItem 50 = .ok (.imul, 1) := by decide +kernel
theorem dX12_readsItem_51 : decode cX12_readsItem 51 = .ok (.invokevirtual 151, 3) := by decide +kernel
theorem dX12_readsItem_54 : decode cX12_readsItem 54 = .ok (.aload_n 0, 1) := by decide +kernel
theorem dX12_readsItem_55 : decode cX12_readsItem 55 = .ok (.dup, 1) := by decide +kernel
theorem dX12_readsItem_56 : decode cX12_readsItem 56 = .ok (.getfield 148, 3) := by decide +kernel
theorem dX12_readsItem_59 : decode cX12_readsItem 59 = .ok (.iconst 1, 1) := by decide +kernel
theorem dX12_readsItem_60 : decode cX12_readsItem 60 = .ok (.iadd, 1) := by decide +kernel
theorem dX12_readsItem_61 : decode cX12_readsItem 61 = .ok (.putfield 148, 3) := by decide +kernel
theorem dX12_readsItem_64 : decode cX12_readsItem 64 = .ok (.goto 30, 3) := by decide +kernel
theorem dX12_readsItem_67 : decode cX12_readsItem 67 = .ok (.aload_n 0, 1) := by decide +kernel
theorem dX12_readsItem_68 : decode cX12_readsItem 68 = .ok (.aload_n 0, 1) := by decide +kernel
theorem dX12_readsItem_69 : decode cX12_readsItem 69 = .ok (.getfield 22, 3) := by decide +kernel
theorem dX12_readsItem_72 : decode cX12_readsItem 72 = .ok (.bipush 18, 2) := by decide +kernel
theorem dX12_readsItem_74 : decode cX12_readsItem 74 = .ok (.iconst 3, 1) := by decide +kernel
theorem dX12_readsItem_75 : decode cX12_readsItem 75 = .ok (.aload_n 0, 1) := by decide +kernel
theorem dX12_readsItem_76 : decode cX12_readsItem 76 = .ok (.getfield 155, 3) := by decide +kernel
theorem dX12_readsItem_79 : decode cX12_readsItem 79 = .ok (.imul, 1) := by decide +kernel
theorem dX12_readsItem_80 : decode cX12_readsItem 80 = .ok (.iadd, 1) := by decide +kernel
theorem dX12_readsItem_81 : decode cX12_readsItem 81 = .ok (.invokevirtual 151, 3) := by decide +kernel
theorem dX12_readsItem_84 : decode cX12_readsItem 84 = .ok (.aload_n 0, 1) := by decide +kernel
theorem dX12_readsItem_85 : decode cX12_readsItem 85 = .ok (.dup, 1) := by decide +kernel
theorem dX12_readsItem_86 : decode cX12_readsItem 86 = .ok (.getfield 155, 3) := by decide +kernel
theorem dX12_readsItem_89 : decode cX12_readsItem 89 = .ok (.iconst 1, 1) := by decide +kernel
theorem dX12_readsItem_90 : decode cX12_readsItem 90 = .ok (.iadd, 1) := by decide +kernel
theorem dX12_readsItem_91 : decode cX12_readsItem 91 = .ok (.putfield 155, 3) := by decide +kernel
theorem dX12_readsItem_94 : decode cX12_readsItem 94 = .ok (.return_, 1) := by decide +kernel
theorem dX12_read_0 : decode cX12_read 0 = .ok (.aload_n 0, 1) := by decide +kernel
theorem dX12_read_1 : decode cX12_read 1 = .ok (.iconst 0, 1) := by decide +kernel
theorem dX12_read_2 : decode cX12_read 2 = .ok (.putfield 78, 3) := by decide +kernel
theorem dX12_read_5 : decode cX12_read 5 = .ok (.aload_n 0, 1) := by decide +kernel
theorem dX12_read_6 : decode cX12_read 6 = .ok (.iconst (-1), 1) := by decide +kernel
theorem dX12_read_7 : decode cX12_read 7 = .ok (.putfield 107, 3) := by decide +kernel
theorem dX12_read_10 : decode cX12_read 10 = .ok (.aload_n 0, 1) := by decide +kernel
theorem dX12_read_11 : decode cX12_read 11 = .ok (.iconst 0, 1) := by decide +kernel
theorem dX12_read_12 : decode cX12_read 12 = .ok (.putfield 91, 3) := by decide +kernel
theorem dX12_read_15 : decode cX12_read 15 = .ok (.iconst 0, 1) := by decide +kernel
theorem dX12_read_16 : decode cX12_read 16 = .ok (.istore_n 1, 1) := by decide +kernel
theorem dX12_read_17 : decode cX12_read 17 = .ok (.aload_n 0, 1) := by decide +kernel
theorem dX12_read_18 : decode cX12_read 18 = .ok (.iconst 0, 1) := by decide +kernel
theorem dX12_read_19 : decode cX12_read 19 = .ok (.putfield 125, 3) := by decide +kernel
theorem dX12_read_22 : decode cX12_read 22 = .ok (.aload_n 0, 1) := by decide +kernel
theorem dX12_read_23 : decode cX12_read 23 = .ok (.iconst 0, 1) := by decide +kernel
theorem dX12_read_24 : decode cX12_read 24 = .ok (.putfield 136, 3) := by decide +kernel
theorem dX12_read_27 : decode cX12_read 27 = .ok (.aload_n 0, 1) := by decide +kernel
theorem dX12_read_28 : decode cX12_read 28 = .ok (.iconst 0, 1) := by decide +kernel
theorem dX12_read_29 : decode cX12_read 29 = .ok (.putfield 148, 3) := by decide +kernel
theorem dX12_read_32 : decode cX12_read 32 = .ok (.aload_n 0, 1) := by decide +kernel
theorem dX12_read_33 : decode cX12_read 33 = .ok (.iconst 0, 1) := by decide +kernel
theorem dX12_read_34 : decode cX12_read 34 = .ok (.putfield 155, 3) := by decide +kernel
theorem dX12_read_37 : decode cX12_read 37 = .ok (.bipush 8, 2) := by decide +kernel
theorem dX12_read_39 : decode cX12_read 39 = .ok (.istore_n 2, 1) := by decide +kernel
theorem dX12_read_40 : decode cX12_read 40 = .ok (.iload_n 2, 1) := by decide +kernel
theorem dX12_read_41 : decode cX12_read 41 = .ok (.bipush 16, 2) := by decide +kernel
theorem dX12_read_43 : decode cX12_read 43 = .ok (.if_icmp .ge 16, 3) := by decide +kernel
theorem dX12_read_46 : decode cX12_read 46 = .ok (.aload_n 0, 1) := by decide +kernel
theorem dX12_read_47 : decode cX12_read 47 = .ok (.getfield 19, 3) := by decide +kernel
theorem dX12_read_50 : decode cX12_read 50 = .ok (.iload_n 2, 1) := by decide +kernel
theorem dX12_read_51 : decode cX12_read 51 = .ok (.iconst 0, 1) := by decide +kernel
theorem dX12_read_52 : decode cX12_read 52 = .ok (.iastore, 1) := by decide +kernel
theorem dX12_read_53 : decode cX12_read 53 = .ok (.iinc 2 1, 3) := by decide +kernel
theorem dX12_read_56 : decode cX12_read 56 = .ok (.goto (-16), 3) := by decide +kernel
theorem dX12_read_59 : decode cX12_read 59 = .ok (.aload_n 0, 1) := by decide +kernel
theorem dX12_read_60 : decode cX12_read 60 = .ok (.invokevirtual 118, 3) := by decide +kernel
theorem dX12_read_63 : decode cX12_read 63 = .ok (.aload_n 0, 1) := by decide +kernel
theorem dX12_read_64 : decode cX12_read 64 = .ok (.invokevirtual 110, 3) := by decide +kernel
theorem dX12_read_67 : decode cX12_read 67 = .ok (.ifCond .eq 152, 3) := by decide +kernel
theorem dX12_read_70 : decode cX12_read 70 = .ok (.aload_n 0, 1) := by decide +kernel
theorem dX12_read_71 : decode cX12_read 71 = .ok (.getfield 101, 3) := by decide +kernel
theorem dX12_read_74 : decode cX12_read 74 = .ok (.ifCond .eq 145, 3) := by decide +kernel
theorem dX12_read_77 : decode cX12_read 77 = .ok (.aload_n 0, 1) := by decide +kernel
theorem dX12_read_78 : decode cX12_read 78 = .ok (.invokevirtual 158, 3) := by decide +kernel
theorem dX12_read_81 : decode cX12_read 81 = .ok (.istore_n 2, 1) := by decide +kernel
theorem dX12_read_82 : decode cX12_read 82 = .ok (.aload_n 0, 1) := by decide +kernel
theorem dX12_read_83 : decode cX12_read 83 = .ok (.iload_n 2, 1) := by decide +kernel
theorem dX12_read_84 : decode cX12_read 84 = .ok (.ifCond .ne 20, 3) := by decide +kernel
theorem dX12_read_87 : decode cX12_read 87 = .ok (.aload_n 0, 1) := by decide +kernel
theorem dX12_read_88 : decode cX12_read 88 = .ok (.getfield 125, 3) := by decide +kernel
theorem dX12_read_91 : decode cX12_read 91 = .ok (.bipush 16, 2) := by decide +kernel
theorem dX12_read_93 : decode cX12_read 93 = .ok (.if_icmp .ge 7, 3) := by decide +kernel
theorem dX12_read_96 : decode cX12_read 96 = .ok (.iconst 1, 1) := by decide +kernel
theorem dX12_read_97 : decode cX12_read 97 = .ok (.goto 69, 3) := by decide +kernel
theorem dX12_read_100 : decode cX12_read 100 = .ok (.iconst 0, 1) := by decide +kernel
theorem dX12_read_101 : decode cX12_read 101 = .ok (.goto 65, 3) := by decide +kernel
theorem dX12_read_104 : decode cX12_read 104 = .ok (.iload_n 2, 1) := by decide +kernel
theorem dX12_read_105 : decode cX12_read 105 = .ok (.iconst 1, 1) := by decide +kernel
theorem dX12_read_106 : decode cX12_read 106 = .ok (.if_icmp .ne 19, 3) := by decide +kernel
theorem dX12_read_109 : decode cX12_read 109 = .ok (.aload_n 0, 1) := by decide +kernel
theorem dX12_read_110 : decode cX12_read 110 = .ok (.getfield 136, 3) := by decide +kernel
theorem dX12_read_113 : decode cX12_read 113 = .ok (.iconst 2, 1) := by decide +kernel
theorem dX12_read_114 : decode cX12_read 114 = .ok (.if_icmp .ge 7, 3) := by decide +kernel
theorem dX12_read_117 : decode cX12_read 117 = .ok (.iconst 1, 1) := by decide +kernel
theorem dX12_read_118 : decode cX12_read 118 = .ok (.goto 48, 3) := by decide +kernel
theorem dX12_read_121 : decode cX12_read 121 = .ok (.iconst 0, 1) := by decide +kernel
theorem dX12_read_122 : decode cX12_read 122 = .ok (.goto 44, 3) := by decide +kernel
theorem dX12_read_125 : decode cX12_read 125 = .ok (.iload_n 2, 1) := by decide +kernel
theorem dX12_read_126 : decode cX12_read 126 = .ok (.iconst 2, 1) := by decide +kernel
theorem dX12_read_127 : decode cX12_read 127 = .ok (.if_icmp .eq 34, 3) := by decide +kernel
theorem dX12_read_130 : decode cX12_read 130 = .ok (.iload_n 2, 1) := by decide +kernel
theorem dX12_read_131 : decode cX12_read 131 = .ok (.iconst 3, 1) := by decide +kernel
theorem dX12_read_132 : decode cX12_read 132 = .ok (.if_icmp .ne 15, 3) := by decide +kernel
theorem dX12_read_135 : decode cX12_read 135 = .ok (.aload_n 0, 1) := by decide +kernel
theorem dX12_read_136 : decode cX12_read 136 = .ok (.getfield 148, 3) := by decide +kernel
theorem dX12_read_139 : decode cX12_read 139 = .ok (.bipush 8, 2) := by decide +kernel
theorem dX12_read_141 : decode cX12_read 141 = .ok (.if_icmp .ge 24, 3) := by decide +kernel
theorem dX12_read_144 : decode cX12_read 144 = .ok (.goto 17, 3) := by decide +kernel
theorem dX12_read_147 : decode cX12_read 147 = .ok (.iload_n 2, 1) := by decide +kernel
theorem dX12_read_148 : decode cX12_read 148 = .ok (.iconst 4, 1) := by decide +kernel
theorem dX12_read_149 : decode cX12_read 149 = .ok (.if_icmp .ne 16, 3) := by decide +kernel
theorem dX12_read_152 : decode cX12_read 152 = .ok (.aload_n 0, 1) := by decide +kernel
theorem dX12_read_153 : decode cX12_read 153 = .ok (.getfield 155, 3) := by decide +kernel
theorem dX12_read_156 : decode cX12_read 156 = .ok (.bipush 6, 2) := by decide +kernel
theorem dX12_read_158 : decode cX12_read 158 = .ok (.if_icmp .ge 7, 3) := by decide +kernel
theorem dX12_read_161 : decode cX12_read 161 = .ok (.iconst 1, 1) := by decide +kernel
theorem dX12_read_162 : decode cX12_read 162 = .ok (.goto 4, 3) := by decide +kernel
theorem dX12_read_165 : decode cX12_read 165 = .ok (.iconst 0, 1) := by decide +kernel
theorem dX12_read_166 : decode cX12_read 166 = .ok (.invokevirtual 114, 3) := by decide +kernel
theorem dX12_read_169 : decode cX12_read 169 = .ok (.aload_n 0, 1) := by decide +kernel
theorem dX12_read_170 : decode cX12_read 170 = .ok (.invokevirtual 110, 3) := by decide +kernel
theorem dX12_read_173 : decode cX12_read 173 = .ok (.ifCond .eq 12, 3) := by decide +kernel
theorem dX12_read_176 : decode cX12_read 176 = .ok (.aload_n 0, 1) := by decide +kernel
theorem dX12_read_177 : decode cX12_read 177 = .ok (.invokevirtual 118, 3) := by decide +kernel
theorem dX12_read_180 : decode cX12_read 180 = .ok (.aload_n 0, 1) := by decide +kernel
theorem dX12_read_181 : decode cX12_read 181 = .ok (.iload_n 2, 1) := by decide +kernel
theorem dX12_read_182 : decode cX12_read 182 = .ok (.invokevirtual 162, 3) := by decide +kernel
theorem dX12_read_185 : decode cX12_read 185 = .ok (.aload_n 0, 1) := by decide +kernel
theorem dX12_read_186 : decode cX12_read 186 = .ok (.aload_n 0, 1) := by decide +kernel
theorem dX12_read_187 : decode cX12_read 187 = .ok (.getfield 101, 3) := by decide +kernel
theorem dX12_read_190 : decode cX12_read 190 = .ok (.iconst 3, 1) := by decide +kernel
theorem dX12_read_191 : decode cX12_read 191 = .ok (.if_icmp .ne 7, 3) := by decide +kernel
theorem dX12_read_194 : decode cX12_read 194 = .ok (.iconst 1, 1) := by decide +kernel
theorem dX12_read_195 : decode cX12_read 195 = .ok (.goto 4, 3) := by decide +kernel
theorem dX12_read_198 : decode cX12_read 198 = .ok (.iconst 0, 1) := by decide +kernel
theorem dX12_read_199 : decode cX12_read 199 = .ok (.invokevirtual 114, 3) := by decide +kernel
theorem dX12_read_202 : decode cX12_read 202 = .ok (.aload_n 0, 1) := by decide +kernel
theorem dX12_read_203 : decode cX12_read 203 = .ok (.invokevirtual 110, 3) := by decide +kernel
theorem dX12_read_206 : decode cX12_read 206 = .ok (.ifCond .eq 7, 3) := by decide +kernel
theorem dX12_read_209 : decode cX12_read 209 = .ok (.aload_n 0, 1) := by decide +kernel
theorem dX12_read_210 : decode cX12_read 210 = .ok (.invokevirtual 118, 3) := by decide +kernel
theorem dX12_read_213 : decode cX12_read 213 = .ok (.iinc 1 1, 3) := by decide +kernel
theorem dX12_read_216 : decode cX12_read 216 = .ok (.goto (-153), 3) := by decide +kernel
theorem dX12_read_219 : decode cX12_read 219 = .ok (.aload_n 0, 1) := by decide +kernel
theorem dX12_read_220 : decode cX12_read 220 = .ok (.invokevirtual 110, 3) := by decide +kernel
theorem dX12_read_223 : decode cX12_read 223 = .ok (.ifCond .ne 11, 3) := by decide +kernel
theorem dX12_read_226 : decode cX12_read 226 = .ok (.bipush (-10), 2) := by decide +kernel
theorem dX12_read_228 : decode cX12_read 228 = .ok (.aload_n 0, 1) := by decide +kernel
theorem dX12_read_229 : decode cX12_read 229 = .ok (.getfield 107, 3) := by decide +kernel
theorem dX12_read_232 : decode cX12_read 232 = .ok (.isub, 1) := by decide +kernel
theorem dX12_read_233 : decode cX12_read 233 = .ok (.ireturn, 1) := by decide +kernel
theorem dX12_read_234 : decode cX12_read 234 = .ok (.iconst 0, 1) := by decide +kernel
theorem dX12_read_235 : decode cX12_read 235 = .ok (.istore_n 2, 1) := by decide +kernel
theorem dX12_read_236 : decode cX12_read 236 = .ok (.iload_n 2, 1) := by decide +kernel
theorem dX12_read_237 : decode cX12_read 237 = .ok (.bipush 64, 2) := by decide +kernel
theorem dX12_read_239 : decode cX12_read 239 = .ok (.if_icmp .ge 24, 3) := by decide +kernel
theorem dX12_read_242 : decode cX12_read 242 = .ok (.aload_n 0, 1) := by decide +kernel
theorem dX12_read_243 : decode cX12_read 243 = .ok (.getfield 13, 3) := by decide +kernel
theorem dX12_read_246 : decode cX12_read 246 = .ok (.iload_n 2, 1) := by decide +kernel
theorem dX12_read_247 : decode cX12_read 247 = .ok (.aload_n 0, 1) := by decide +kernel
theorem dX12_read_248 : decode cX12_read 248 = .ok (.getfield 13, 3) := by decide +kernel
theorem dX12_read_251 : decode cX12_read 251 = .ok (.bipush 64, 2) := by decide +kernel
theorem dX12_read_253 : decode cX12_read 253 = .ok (.iload_n 2, 1) := by decide +kernel
theorem dX12_read_254 : decode cX12_read 254 = .ok (.iadd, 1) := by decide +kernel
theorem dX12_read_255 : decode cX12_read 255 = .ok (.iaload, 1) := by decide +kernel
theorem dX12_read_256 : decode cX12_read 256 = .ok (.iastore, 1) := by decide +kernel
theorem dX12_read_257 : decode cX12_read 257 = .ok (.iinc 2 1, 3) := by decide +kernel
theorem dX12_read_260 : decode cX12_read 260 = .ok (.goto (-24), 3) := by decide +kernel
theorem dX12_read_263 : decode cX12_read 263 = .ok (.iconst 0, 1) := by decide +kernel
theorem dX12_read_264 : decode cX12_read 264 = .ok (.istore_n 2, 1) := by decide +kernel
theorem dX12_read_265 : decode cX12_read 265 = .ok (.iload_n 2, 1) := by decide +kernel
theorem dX12_read_266 : decode cX12_read 266 = .ok (.bipush 18, 2) := by decide +kernel
theorem dX12_read_268 : decode cX12_read 268 = .ok (.if_icmp .ge 39, 3) := by decide +kernel
theorem dX12_read_271 : decode cX12_read 271 = .ok (.aload_n 0, 1) := by decide +kernel
theorem dX12_read_272 : decode cX12_read 272 = .ok (.getfield 16, 3) := by decide +kernel
theorem dX12_read_275 : decode cX12_read 275 = .ok (.iload_n 2, 1) := by decide +kernel
theorem dX12_read_276 : decode cX12_read 276 = .ok (.aload_n 0, 1) := by decide +kernel
theorem dX12_read_277 : decode cX12_read 277 = .ok (.getfield 16, 3) := by decide +kernel
theorem dX12_read_280 : decode cX12_read 280 = .ok (.bipush 18, 2) := by decide +kernel
theorem dX12_read_282 : decode cX12_read 282 = .ok (.iload_n 2, 1) := by decide +kernel
theorem dX12_read_283 : decode cX12_read 283 = .ok (.iadd, 1) := by decide +kernel
theorem dX12_read_284 : decode cX12_read 284 = .ok (.iaload, 1) := by decide +kernel
theorem dX12_read_285 : decode cX12_read 285 = .ok (.iastore, 1) := by decide +kernel
theorem dX12_read_286 : decode cX12_read 286 = .ok (.aload_n 0, 1) := by decide +kernel
theorem dX12_read_287 : decode cX12_read 287 = .ok (.getfield 22, 3) := by decide +kernel
theorem dX12_read_290 : decode cX12_read 290 = .ok (.iload_n 2, 1) := by decide +kernel
theorem dX12_read_291 : decode cX12_read 291 = .ok (.aload_n 0, 1) := by decide +kernel
theorem dX12_read_292 : decode cX12_read 292 = .ok (.getfield 22, 3) := by decide +kernel
theorem dX12_read_295 : decode cX12_read 295 = .ok (.bipush 18, 2) := by decide +kernel
theorem dX12_read_297 : decode cX12_read 297 = .ok (.iload_n 2, 1) := by decide +kernel
theorem dX12_read_298 : decode cX12_read 298 = .ok (.iadd, 1) := by decide +kernel
theorem dX12_read_299 : decode cX12_read 299 = .ok (.iaload, 1) := by decide +kernel
theorem dX12_read_300 : decode cX12_read 300 = .ok (.iastore, 1) := by decide +kernel
theorem dX12_read_301 : decode cX12_read 301 = .ok (.iinc 2 1, 3) := by decide +kernel
theorem dX12_read_304 : decode cX12_read 304 = .ok (.goto (-39), 3) := by decide +kernel
theorem dX12_read_307 : decode cX12_read 307 = .ok (.iconst 0, 1) := by decide +kernel
theorem dX12_read_308 : decode cX12_read 308 = .ok (.istore_n 2, 1) := by decide +kernel
theorem dX12_read_309 : decode cX12_read 309 = .ok (.iload_n 2, 1) := by decide +kernel
theorem dX12_read_310 : decode cX12_read 310 = .ok (.bipush 8, 2) := by decide +kernel
theorem dX12_read_312 : decode cX12_read 312 = .ok (.if_icmp .ge 24, 3) := by decide +kernel
theorem dX12_read_315 : decode cX12_read 315 = .ok (.aload_n 0, 1) := by decide +kernel
theorem dX12_read_316 : decode cX12_read 316 = .ok (.getfield 19, 3) := by decide +kernel
theorem dX12_read_319 : decode cX12_read 319 = .ok (.iload_n 2, 1) := by decide +kernel
theorem dX12_read_320 : decode cX12_read 320 = .ok (.aload_n 0, 1) := by decide +kernel
theorem dX12_read_321 : decode cX12_read 321 = .ok (.getfield 19, 3) := by decide +kernel
theorem dX12_read_324 : decode cX12_read 324 = .ok (.bipush 8, 2) := by decide +kernel
theorem dX12_read_326 : decode cX12_read 326 = .ok (.iload_n 2, 1) := by decide +kernel
theorem dX12_read_327 : decode cX12_read 327 = .ok (.iadd, 1) := by decide +kernel
theorem dX12_read_328 : decode cX12_read 328 = .ok (.iaload, 1) := by decide +kernel
theorem dX12_read_329 : decode cX12_read 329 = .ok (.iastore, 1) := by decide +kernel
theorem dX12_read_330 : decode cX12_read 330 = .ok (.iinc 2 1, 3) := by decide +kernel
theorem dX12_read_333 : decode cX12_read 333 = .ok (.goto (-24), 3) := by decide +kernel
theorem dX12_read_336 : decode cX12_read 336 = .ok (.iconst 0, 1) := by decide +kernel
theorem dX12_read_337 : decode cX12_read 337 = .ok (.istore_n 2, 1) := by decide +kernel
theorem dX12_read_338 : decode cX12_read 338 = .ok (.iload_n 2, 1) := by decide +kernel
theorem dX12_read_339 : decode cX12_read 339 = .ok (.bipush 24, 2) := by decide +kernel
theorem dX12_read_341 : decode cX12_read 341 = .ok (.if_icmp .ge 23, 3) := by decide +kernel
theorem dX12_read_344 : decode cX12_read 344 = .ok (.aload_n 0, 1) := by decide +kernel
theorem dX12_read_345 : decode cX12_read 345 = .ok (.getfield 28, 3) := by decide +kernel
theorem dX12_read_348 : decode cX12_read 348 = .ok (.iconst 1, 1) := by decide +kernel
theorem dX12_read_349 : decode cX12_read 349 = .ok (.iload_n 2, 1) := by decide +kernel
theorem dX12_read_350 : decode cX12_read 350 = .ok (.iadd, 1) := by decide +kernel
theorem dX12_read_351 : decode cX12_read 351 = .ok (.aload_n 0, 1) := by decide +kernel
theorem dX12_read_352 : decode cX12_read 352 = .ok (.getfield 25, 3) := by decide +kernel
theorem dX12_read_355 : decode cX12_read 355 = .ok (.iload_n 2, 1) := by decide +kernel
theorem dX12_read_356 : decode cX12_read 356 = .ok (.iaload, 1) := by decide +kernel
theorem dX12_read_357 : decode cX12_read 357 = .ok (.iastore, 1) := by decide +kernel
theorem dX12_read_358 : decode cX12_read 358 = .ok (.iinc 2 1, 3) := by decide +kernel
theorem dX12_read_361 : decode cX12_read 361 = .ok (.goto (-23), 3) := by decide +kernel
theorem dX12_read_364 : decode cX12_read 364 = .ok (.aload_n 0, 1) := by decide +kernel
theorem dX12_read_365 : decode cX12_read 365 = .ok (.aload_n 0, 1) := by decide +kernel
theorem dX12_read_366 : decode cX12_read 366 = .ok (.getfield 125, 3) := by decide +kernel
theorem dX12_read_369 : decode cX12_read 369 = .ok (.putfield 166, 3) := by decide +kernel
theorem dX12_read_372 : decode cX12_read 372 = .ok (.aload_n 0, 1) := by decide +kernel
theorem dX12_read_373 : decode cX12_read 373 = .ok (.aload_n 0, 1) := by decide +kernel
theorem dX12_read_374 : decode cX12_read 374 = .ok (.getfield 136, 3) := by decide +kernel
theorem dX12_read_377 : decode cX12_read 377 = .ok (.putfield 169, 3) := by decide +kernel
theorem dX12_read_380 : decode cX12_read 380 = .ok (.aload_n 0, 1) := by decide +kernel
theorem dX12_read_381 : decode cX12_read 381 = .ok (.aload_n 0, 1) := by decide +kernel
theorem dX12_read_382 : decode cX12_read 382 = .ok (.getfield 155, 3) := by decide +kernel
theorem dX12_read_385 : decode cX12_read 385 = .ok (.putfield 172, 3) := by decide +kernel
theorem dX12_read_388 : decode cX12_read 388 = .ok (.aload_n 0, 1) := by decide +kernel
theorem dX12_read_389 : decode cX12_read 389 = .ok (.getfield 28, 3) := by decide +kernel
theorem dX12_read_392 : decode cX12_read 392 = .ok (.iconst 0, 1) := by decide +kernel
theorem dX12_read_393 : decode cX12_read 393 = .ok (.aload_n 0, 1) := by decide +kernel
theorem dX12_read_394 : decode cX12_read 394 = .ok (.getfield 148, 3) := by decide +kernel
theorem dX12_read_397 : decode cX12_read 397 = .ok (.iastore, 1) := by decide +kernel
theorem dX12_read_398 : decode cX12_read 398 = .ok (.aload_n 0, 1) := by decide +kernel
theorem dX12_read_399 : decode cX12_read 399 = .ok (.iconst 0, 1) := by decide +kernel
theorem dX12_read_400 : decode cX12_read 400 = .ok (.putfield 86, 3) := by decide +kernel
theorem dX12_read_403 : decode cX12_read 403 = .ok (.aload_n 0, 1) := by decide +kernel
theorem dX12_read_404 : decode cX12_read 404 = .ok (.getfield 34, 3) := by decide +kernel
theorem dX12_read_407 : decode cX12_read 407 = .ok (.iconst 0, 1) := by decide +kernel
theorem dX12_read_408 : decode cX12_read 408 = .ok (.iconst 0, 1) := by decide +kernel
theorem dX12_read_409 : decode cX12_read 409 = .ok (.bastore, 1) := by decide +kernel
theorem dX12_read_410 : decode cX12_read 410 = .ok (.aload_n 0, 1) := by decide +kernel
theorem dX12_read_411 : decode cX12_read 411 = .ok (.getfield 34, 3) := by decide +kernel
theorem dX12_read_414 : decode cX12_read 414 = .ok (.iconst 1, 1) := by decide +kernel
theorem dX12_read_415 : decode cX12_read 415 = .ok (.iconst 0, 1) := by decide +kernel
theorem dX12_read_416 : decode cX12_read 416 = .ok (.bastore, 1) := by decide +kernel
theorem dX12_read_417 : decode cX12_read 417 = .ok (.iload_n 1, 1) := by decide +kernel
theorem dX12_read_418 : decode cX12_read 418 = .ok (.ireturn, 1) := by decide +kernel
theorem dX12_isWord_0 : decode cX12_isWord 0 = .ok (.iload_n 1, 1) := by decide +kernel
theorem dX12_isWord_1 : decode cX12_isWord 1 = .ok (.iconst 0, 1) := by decide +kernel
theorem dX12_isWord_2 : decode cX12_isWord 2 = .ok (.aload_n 0, 1) := by decide +kernel
theorem dX12_isWord_3 : decode cX12_isWord 3 = .ok (.getfield 166, 3) := by decide +kernel
theorem dX12_isWord_6 : decode cX12_isWord 6 = .ok (.iconst 1, 1) := by decide +kernel
theorem dX12_isWord_7 : decode cX12_isWord 7 = .ok (.isub, 1) := by decide +kernel
theorem dX12_isWord_8 : decode cX12_isWord 8 = .ok (.invokestatic 82, 3) := by decide +kernel
theorem dX12_isWord_11 : decode cX12_isWord 11 = .ok (.ireturn, 1) := by decide +kernel
theorem dX12_isLine_0 : decode cX12_isLine 0 = .ok (.iload_n 1, 1) := by decide +kernel
theorem dX12_isLine_1 : decode cX12_isLine 1 = .ok (.iconst 0, 1) := by decide +kernel
theorem dX12_isLine_2 : decode cX12_isLine 2 = .ok (.aload_n 0, 1) := by decide +kernel
theorem dX12_isLine_3 : decode cX12_isLine 3 = .ok (.getfield 28, 3) := by decide +kernel
theorem dX12_isLine_6 : decode cX12_isLine 6 = .ok (.iconst 0, 1) := by decide +kernel
theorem dX12_isLine_7 : decode cX12_isLine 7 = .ok (.iaload, 1) := by decide +kernel
theorem dX12_isLine_8 : decode cX12_isLine 8 = .ok (.iconst 1, 1) := by decide +kernel
theorem dX12_isLine_9 : decode cX12_isLine 9 = .ok (.isub, 1) := by decide +kernel
theorem dX12_isLine_10 : decode cX12_isLine 10 = .ok (.invokestatic 82, 3) := by decide +kernel
theorem dX12_isLine_13 : decode cX12_isLine 13 = .ok (.ireturn, 1) := by decide +kernel
theorem dX12_isForm_0 : decode cX12_isForm 0 = .ok (.iload_n 1, 1) := by decide +kernel
theorem dX12_isForm_1 : decode cX12_isForm 1 = .ok (.iconst 0, 1) := by decide +kernel
theorem dX12_isForm_2 : decode cX12_isForm 2 = .ok (.aload_n 0, 1) := by decide +kernel
theorem dX12_isForm_3 : decode cX12_isForm 3 = .ok (.getfield 169, 3) := by decide +kernel
theorem dX12_isForm_6 : decode cX12_isForm 6 = .ok (.iconst 1, 1) := by decide +kernel
theorem dX12_isForm_7 : decode cX12_isForm 7 = .ok (.isub, 1) := by decide +kernel
theorem dX12_isForm_8 : decode cX12_isForm 8 = .ok (.invokestatic 82, 3) := by decide +kernel
theorem dX12_isForm_11 : decode cX12_isForm 11 = .ok (.ifCond .eq 16, 3) := by decide +kernel
theorem dX12_isForm_14 : decode cX12_isForm 14 = .ok (.iload_n 2, 1) := by decide +kernel
theorem dX12_isForm_15 : decode cX12_isForm 15 = .ok (.iconst 0, 1) := by decide +kernel
theorem dX12_isForm_16 : decode cX12_isForm 16 = .ok (.iconst 1, 1) := by decide +kernel
theorem dX12_isForm_17 : decode cX12_isForm 17 = .ok (.invokestatic 82, 3) := by decide +kernel
theorem dX12_isForm_20 : decode cX12_isForm 20 = .ok (.ifCond .eq 7, 3) := by decide +kernel
theorem dX12_isForm_23 : decode cX12_isForm 23 = .ok (.iconst 1, 1) := by decide +kernel
theorem dX12_isForm_24 : decode cX12_isForm 24 = .ok (.goto 4, 3) := by decide +kernel
theorem dX12_isForm_27 : decode cX12_isForm 27 = .ok (.iconst 0, 1) := by decide +kernel
theorem dX12_isForm_28 : decode cX12_isForm 28 = .ok (.ireturn, 1) := by decide +kernel
theorem dX12_word_0 : decode cX12_word 0 = .ok (.aload_n 0, 1) := by decide +kernel
theorem dX12_word_1 : decode cX12_word 1 = .ok (.iconst 0, 1) := by decide +kernel
theorem dX12_word_2 : decode cX12_word 2 = .ok (.putfield 78, 3) := by decide +kernel
theorem dX12_word_5 : decode cX12_word 5 = .ok (.aload_n 0, 1) := by decide +kernel
theorem dX12_word_6 : decode cX12_word 6 = .ok (.iload_n 1, 1) := by decide +kernel
theorem dX12_word_7 : decode cX12_word 7 = .ok (.invokevirtual 175, 3) := by decide +kernel
theorem dX12_word_10 : decode cX12_word 10 = .ok (.ifCond .eq 25, 3) := by decide +kernel
theorem dX12_word_13 : decode cX12_word 13 = .ok (.iload_n 2, 1) := by decide +kernel
theorem dX12_word_14 : decode cX12_word 14 = .ok (.iconst 0, 1) := by decide +kernel
theorem dX12_word_15 : decode cX12_word 15 = .ok (.iconst 3, 1) := by decide +kernel
theorem dX12_word_16 : decode cX12_word 16 = .ok (.invokestatic 82, 3) := by decide +kernel
theorem dX12_word_19 : decode cX12_word 19 = .ok (.ifCond .eq 16, 3) := by decide +kernel
theorem dX12_word_22 : decode cX12_word 22 = .ok (.aload_n 0, 1) := by decide +kernel
theorem dX12_word_23 : decode cX12_word 23 = .ok (.getfield 13, 3) := by decide +kernel
theorem dX12_word_26 : decode cX12_word 26 = .ok (.iconst 4, 1) := by decide +kernel
theorem dX12_word_27 : decode cX12_word 27 = .ok (.iload_n 1, 1) := by decide +kernel
theorem dX12_word_28 : decode cX12_word 28 = .ok (.imul, 1) := by decide +kernel
theorem dX12_word_29 : decode cX12_word 29 = .ok (.iload_n 2, 1) := by decide +kernel
theorem dX12_word_30 : decode cX12_word 30 = .ok (.iadd, 1) := by decide +kernel
theorem dX12_word_31 : decode cX12_word 31 = .ok (.iaload, 1) := by decide +kernel
theorem dX12_word_32 : decode cX12_word 32 = .ok (.goto 4, 3) := by decide +kernel
theorem dX12_word_35 : decode cX12_word 35 = .ok (.iconst (-1), 1) := by decide +kernel
theorem dX12_word_36 : decode cX12_word 36 = .ok (.ireturn, 1) := by decide +kernel
theorem dX12_letterOf_0 : decode cX12_letterOf 0 = .ok (.aload_n 0, 1) := by decide +kernel
theorem dX12_letterOf_1 : decode cX12_letterOf 1 = .ok (.getfield 16, 3) := by decide +kernel
theorem dX12_letterOf_4 : decode cX12_letterOf 4 = .ok (.bipush 9, 2) := by decide +kernel
theorem dX12_letterOf_6 : decode cX12_letterOf 6 = .ok (.iload_n 1, 1) := by decide +kernel
theorem dX12_letterOf_7 : decode cX12_letterOf 7 = .ok (.imul, 1) := by decide +kernel
theorem dX12_letterOf_8 : decode cX12_letterOf 8 = .ok (.iconst 1, 1) := by decide +kernel
theorem dX12_letterOf_9 : decode cX12_letterOf 9 = .ok (.iadd, 1) := by decide +kernel
theorem dX12_letterOf_10 : decode cX12_letterOf 10 = .ok (.iload_n 2, 1) := by decide +kernel
theorem dX12_letterOf_11 : decode cX12_letterOf 11 = .ok (.aload_n 0, 1) := by decide +kernel
theorem dX12_letterOf_12 : decode cX12_letterOf 12 = .ok (.getfield 16, 3) := by decide +kernel
theorem dX12_letterOf_15 : decode cX12_letterOf 15 = .ok (.bipush 9, 2) := by decide +kernel
theorem dX12_letterOf_17 : decode cX12_letterOf 17 = .ok (.iload_n 1, 1) := by decide +kernel
theorem dX12_letterOf_18 : decode cX12_letterOf 18 = .ok (.imul, 1) := by decide +kernel
theorem dX12_letterOf_19 : decode cX12_letterOf 19 = .ok (.iaload, 1) := by decide +kernel
theorem dX12_letterOf_20 : decode cX12_letterOf 20 = .ok (.irem, 1) := by decide +kernel
theorem dX12_letterOf_21 : decode cX12_letterOf 21 = .ok (.iadd, 1) := by decide +kernel
theorem dX12_letterOf_22 : decode cX12_letterOf 22 = .ok (.iaload, 1) := by decide +kernel
theorem dX12_letterOf_23 : decode cX12_letterOf 23 = .ok (.ireturn, 1) := by decide +kernel
theorem dX12_form_0 : decode cX12_form 0 = .ok (.aload_n 0, 1) := by decide +kernel
theorem dX12_form_1 : decode cX12_form 1 = .ok (.iconst 0, 1) := by decide +kernel
theorem dX12_form_2 : decode cX12_form 2 = .ok (.putfield 78, 3) := by decide +kernel
theorem dX12_form_5 : decode cX12_form 5 = .ok (.aload_n 0, 1) := by decide +kernel
theorem dX12_form_6 : decode cX12_form 6 = .ok (.iload_n 1, 1) := by decide +kernel
theorem dX12_form_7 : decode cX12_form 7 = .ok (.iconst 0, 1) := by decide +kernel
theorem dX12_form_8 : decode cX12_form 8 = .ok (.invokevirtual 178, 3) := by decide +kernel
theorem dX12_form_11 : decode cX12_form 11 = .ok (.ifCond .eq 22, 3) := by decide +kernel
theorem dX12_form_14 : decode cX12_form 14 = .ok (.iload_n 2, 1) := by decide +kernel
theorem dX12_form_15 : decode cX12_form 15 = .ok (.iconst 0, 1) := by decide +kernel
theorem dX12_form_16 : decode cX12_form 16 = .ok (.bipush 99, 2) := by decide +kernel
theorem dX12_form_18 : decode cX12_form 18 = .ok (.invokestatic 82, 3) := by decide +kernel
theorem dX12_form_21 : decode cX12_form 21 = .ok (.ifCond .eq 12, 3) := by decide +kernel
theorem dX12_form_24 : decode cX12_form 24 = .ok (.aload_n 0, 1) := by decide +kernel
theorem dX12_form_25 : decode cX12_form 25 = .ok (.iload_n 1, 1) := by decide +kernel
theorem dX12_form_26 : decode cX12_form 26 = .ok (.iload_n 2, 1) := by decide +kernel
theorem dX12_form_27 : decode cX12_form 27 = .ok (.invokevirtual 182, 3) := by decide +kernel
theorem dX12_form_30 : decode cX12_form 30 = .ok (.goto 4, 3) := by decide +kernel
theorem dX12_form_33 : decode cX12_form 33 = .ok (.iconst (-1), 1) := by decide +kernel
theorem dX12_form_34 : decode cX12_form 34 = .ok (.ireturn, 1) := by decide +kernel
theorem dX12_metre_0 : decode cX12_metre 0 = .ok (.aload_n 0, 1) := by decide +kernel
theorem dX12_metre_1 : decode cX12_metre 1 = .ok (.iconst 0, 1) := by decide +kernel
theorem dX12_metre_2 : decode cX12_metre 2 = .ok (.putfield 78, 3) := by decide +kernel
theorem dX12_metre_5 : decode cX12_metre 5 = .ok (.iload_n 1, 1) := by decide +kernel
theorem dX12_metre_6 : decode cX12_metre 6 = .ok (.iconst 0, 1) := by decide +kernel
theorem dX12_metre_7 : decode cX12_metre 7 = .ok (.bipush 7, 2) := by decide +kernel
theorem dX12_metre_9 : decode cX12_metre 9 = .ok (.invokestatic 82, 3) := by decide +kernel
theorem dX12_metre_12 : decode cX12_metre 12 = .ok (.ifCond .eq 13, 3) := by decide +kernel
theorem dX12_metre_15 : decode cX12_metre 15 = .ok (.iload_n 2, 1) := by decide +kernel
theorem dX12_metre_16 : decode cX12_metre 16 = .ok (.iconst 0, 1) := by decide +kernel
theorem dX12_metre_17 : decode cX12_metre 17 = .ok (.bipush 20, 2) := by decide +kernel
theorem dX12_metre_19 : decode cX12_metre 19 = .ok (.invokestatic 82, 3) := by decide +kernel
theorem dX12_metre_22 : decode cX12_metre 22 = .ok (.ifCond .ne 5, 3) := by decide +kernel
theorem dX12_metre_25 : decode cX12_metre 25 = .ok (.iconst (-1), 1) := by decide +kernel
theorem dX12_metre_26 : decode cX12_metre 26 = .ok (.ireturn, 1) := by decide +kernel
theorem dX12_metre_27 : decode cX12_metre 27 = .ok (.aload_n 0, 1) := by decide +kernel
theorem dX12_metre_28 : decode cX12_metre 28 = .ok (.getfield 19, 3) := by decide +kernel
theorem dX12_metre_31 : decode cX12_metre 31 = .ok (.iload_n 1, 1) := by decide +kernel
theorem dX12_metre_32 : decode cX12_metre 32 = .ok (.iaload, 1) := by decide +kernel
theorem dX12_metre_33 : decode cX12_metre 33 = .ok (.istore_n 3, 1) := by decide +kernel
theorem dX12_metre_34 : decode cX12_metre 34 = .ok (.aload_n 0, 1) := by decide +kernel
theorem dX12_metre_35 : decode cX12_metre 35 = .ok (.getfield 19, 3) := by decide +kernel
theorem dX12_metre_38 : decode cX12_metre 38 = .ok (.iload_n 1, 1) := by decide +kernel
theorem dX12_metre_39 : decode cX12_metre 39 = .ok (.iload_n 2, 1) := by decide +kernel
theorem dX12_metre_40 : decode cX12_metre 40 = .ok (.iastore, 1) := by decide +kernel
theorem dX12_metre_41 : decode cX12_metre 41 = .ok (.iload_n 3, 1) := by decide +kernel
theorem dX12_metre_42 : decode cX12_metre 42 = .ok (.ireturn, 1) := by decide +kernel
theorem dX12_line_0 : decode cX12_line 0 = .ok (.aload_n 0, 1) := by decide +kernel
theorem dX12_line_1 : decode cX12_line 1 = .ok (.iconst 0, 1) := by decide +kernel
theorem dX12_line_2 : decode cX12_line 2 = .ok (.putfield 78, 3) := by decide +kernel
theorem dX12_line_5 : decode cX12_line 5 = .ok (.aload_n 0, 1) := by decide +kernel
theorem dX12_line_6 : decode cX12_line 6 = .ok (.iload_n 1, 1) := by decide +kernel
theorem dX12_line_7 : decode cX12_line 7 = .ok (.invokevirtual 185, 3) := by decide +kernel
theorem dX12_line_10 : decode cX12_line 10 = .ok (.ifCond .eq 27, 3) := by decide +kernel
theorem dX12_line_13 : decode cX12_line 13 = .ok (.iload_n 2, 1) := by decide +kernel
theorem dX12_line_14 : decode cX12_line 14 = .ok (.iconst 0, 1) := by decide +kernel
theorem dX12_line_15 : decode cX12_line 15 = .ok (.iconst 2, 1) := by decide +kernel
theorem dX12_line_16 : decode cX12_line 16 = .ok (.invokestatic 82, 3) := by decide +kernel
theorem dX12_line_19 : decode cX12_line 19 = .ok (.ifCond .eq 18, 3) := by decide +kernel
theorem dX12_line_22 : decode cX12_line 22 = .ok (.aload_n 0, 1) := by decide +kernel
theorem dX12_line_23 : decode cX12_line 23 = .ok (.getfield 28, 3) := by decide +kernel
theorem dX12_line_26 : decode cX12_line 26 = .ok (.iconst 1, 1) := by decide +kernel
theorem dX12_line_27 : decode cX12_line 27 = .ok (.iconst 3, 1) := by decide +kernel
theorem dX12_line_28 : decode cX12_line 28 = .ok (.iload_n 1, 1) := by decide +kernel
theorem dX12_line_29 : decode cX12_line 29 = .ok (.imul, 1) := by decide +kernel
theorem dX12_line_30 : decode cX12_line 30 = .ok (.iadd, 1) := by decide +kernel
theorem dX12_line_31 : decode cX12_line 31 = .ok (.iload_n 2, 1) := by decide +kernel
theorem dX12_line_32 : decode cX12_line 32 = .ok (.iadd, 1) := by decide +kernel
theorem dX12_line_33 : decode cX12_line 33 = .ok (.iaload, 1) := by decide +kernel
theorem dX12_line_34 : decode cX12_line 34 = .ok (.goto 4, 3) := by decide +kernel
theorem dX12_line_37 : decode cX12_line 37 = .ok (.iconst (-1), 1) := by decide +kernel
theorem dX12_line_38 : decode cX12_line 38 = .ok (.ireturn, 1) := by decide +kernel
theorem dX12_stock_0 : decode cX12_stock 0 = .ok (.aload_n 0, 1) := by decide +kernel
theorem dX12_stock_1 : decode cX12_stock 1 = .ok (.iconst 0, 1) := by decide +kernel
theorem dX12_stock_2 : decode cX12_stock 2 = .ok (.putfield 78, 3) := by decide +kernel
theorem dX12_stock_5 : decode cX12_stock 5 = .ok (.iload_n 1, 1) := by decide +kernel
theorem dX12_stock_6 : decode cX12_stock 6 = .ok (.iconst 0, 1) := by decide +kernel
theorem dX12_stock_7 : decode cX12_stock 7 = .ok (.aload_n 0, 1) := by decide +kernel
theorem dX12_stock_8 : decode cX12_stock 8 = .ok (.getfield 172, 3) := by decide +kernel
theorem dX12_stock_11 : decode cX12_stock 11 = .ok (.iconst 1, 1) := by decide +kernel
theorem dX12_stock_12 : decode cX12_stock 12 = .ok (.isub, 1) := by decide +kernel
theorem dX12_stock_13 : decode cX12_stock 13 = .ok (.invokestatic 82, 3) := by decide +kernel
theorem dX12_stock_16 : decode cX12_stock 16 = .ok (.ifCond .eq 25, 3) := by decide +kernel
theorem dX12_stock_19 : decode cX12_stock 19 = .ok (.iload_n 2, 1) := by decide +kernel
theorem dX12_stock_20 : decode cX12_stock 20 = .ok (.iconst 0, 1) := by decide +kernel
theorem dX12_stock_21 : decode cX12_stock 21 = .ok (.iconst 2, 1) := by decide +kernel
theorem dX12_stock_22 : decode cX12_stock 22 = .ok (.invokestatic 82, 3) := by decide +kernel
theorem dX12_stock_25 : decode cX12_stock 25 = .ok (.ifCond .eq 16, 3) := by decide +kernel
theorem dX12_stock_28 : decode cX12_stock 28 = .ok (.aload_n 0, 1) := by decide +kernel
theorem dX12_stock_29 : decode cX12_stock 29 = .ok (.getfield 22, 3) := by decide +kernel
theorem dX12_stock_32 : decode cX12_stock 32 = .ok (.iconst 3, 1) := by decide +kernel
theorem dX12_stock_33 : decode cX12_stock 33 = .ok (.iload_n 1, 1) := by decide +kernel
theorem dX12_stock_34 : decode cX12_stock 34 = .ok (.imul, 1) := by decide +kernel
theorem dX12_stock_35 : decode cX12_stock 35 = .ok (.iload_n 2, 1) := by decide +kernel
theorem dX12_stock_36 : decode cX12_stock 36 = .ok (.iadd, 1) := by decide +kernel
theorem dX12_stock_37 : decode cX12_stock 37 = .ok (.iaload, 1) := by decide +kernel
theorem dX12_stock_38 : decode cX12_stock 38 = .ok (.goto 4, 3) := by decide +kernel
theorem dX12_stock_41 : decode cX12_stock 41 = .ok (.iconst (-1), 1) := by decide +kernel
theorem dX12_stock_42 : decode cX12_stock 42 = .ok (.ireturn, 1) := by decide +kernel
theorem dX12_put_0 : decode cX12_put 0 = .ok (.aload_n 0, 1) := by decide +kernel
theorem dX12_put_1 : decode cX12_put 1 = .ok (.iconst 0, 1) := by decide +kernel
theorem dX12_put_2 : decode cX12_put 2 = .ok (.putfield 78, 3) := by decide +kernel
theorem dX12_put_5 : decode cX12_put 5 = .ok (.iload_n 1, 1) := by decide +kernel
theorem dX12_put_6 : decode cX12_put 6 = .ok (.iconst 0, 1) := by decide +kernel
theorem dX12_put_7 : decode cX12_put 7 = .ok (.aload_n 0, 1) := by decide +kernel
theorem dX12_put_8 : decode cX12_put 8 = .ok (.getfield 28, 3) := by decide +kernel
theorem dX12_put_11 : decode cX12_put 11 = .ok (.iconst 0, 1) := by decide +kernel
theorem dX12_put_12 : decode cX12_put 12 = .ok (.iaload, 1) := by decide +kernel
theorem dX12_put_13 : decode cX12_put 13 = .ok (.invokestatic 82, 3) := by decide +kernel
theorem dX12_put_16 : decode cX12_put 16 = .ok (.ifCond .eq 32, 3) := by decide +kernel
theorem dX12_put_19 : decode cX12_put 19 = .ok (.aload_n 0, 1) := by decide +kernel
theorem dX12_put_20 : decode cX12_put 20 = .ok (.iload_n 2, 1) := by decide +kernel
theorem dX12_put_21 : decode cX12_put 21 = .ok (.invokevirtual 175, 3) := by decide +kernel
theorem dX12_put_24 : decode cX12_put 24 = .ok (.ifCond .eq 24, 3) := by decide +kernel
theorem dX12_put_27 : decode cX12_put 27 = .ok (.iload_n 3, 1) := by decide +kernel
theorem dX12_put_28 : decode cX12_put 28 = .ok (.iconst 0, 1) := by decide +kernel
theorem dX12_put_29 : decode cX12_put 29 = .ok (.bipush 9, 2) := by decide +kernel
theorem dX12_put_31 : decode cX12_put 31 = .ok (.invokestatic 82, 3) := by decide +kernel
theorem dX12_put_34 : decode cX12_put 34 = .ok (.ifCond .eq 14, 3) := by decide +kernel
theorem dX12_put_37 : decode cX12_put 37 = .ok (.iload 4, 2) := by decide +kernel
theorem dX12_put_39 : decode cX12_put 39 = .ok (.iconst 0, 1) := by decide +kernel
theorem dX12_put_40 : decode cX12_put 40 = .ok (.bipush 16, 2) := by decide +kernel
theorem dX12_put_42 : decode cX12_put 42 = .ok (.invokestatic 82, 3) := by decide +kernel
theorem dX12_put_45 : decode cX12_put 45 = .ok (.ifCond .ne 5, 3) := by decide +kernel
theorem dX12_put_48 : decode cX12_put 48 = .ok (.iconst (-1), 1) := by decide +kernel
theorem dX12_put_49 : decode cX12_put 49 = .ok (.ireturn, 1) := by decide +kernel
theorem dX12_put_50 : decode cX12_put 50 = .ok (.aload_n 0, 1) := by decide +kernel
theorem dX12_put_51 : decode cX12_put 51 = .ok (.getfield 28, 3) := by decide +kernel
theorem dX12_put_54 : decode cX12_put 54 = .ok (.iconst 0, 1) := by decide +kernel
theorem dX12_put_55 : decode cX12_put 55 = .ok (.iaload, 1) := by decide +kernel
theorem dX12_put_56 : decode cX12_put 56 = .ok (.bipush 8, 2) := by decide +kernel
theorem dX12_put_58 : decode cX12_put 58 = .ok (.if_icmp .ne 6, 3) := by decide +kernel
theorem dX12_put_61 : decode cX12_put 61 = .ok (.bipush (-3), 2) := by decide +kernel
theorem dX12_put_63 : decode cX12_put 63 = .ok (.ireturn, 1) := by decide +kernel
theorem dX12_put_64 : decode cX12_put 64 = .ok (.iconst 3, 1) := by decide +kernel
theorem dX12_put_65 : decode cX12_put 65 = .ok (.aload_n 0, 1) := by decide +kernel
theorem dX12_put_66 : decode cX12_put 66 = .ok (.getfield 28, 3) := by decide +kernel
theorem dX12_put_69 : decode cX12_put 69 = .ok (.iconst 0, 1) := by decide +kernel
theorem dX12_put_70 : decode cX12_put 70 = .ok (.iaload, 1) := by decide +kernel
theorem dX12_put_71 : decode cX12_put 71 = .ok (.imul, 1) := by decide +kernel
theorem dX12_put_72 : decode cX12_put 72 = .ok (.istore 5, 2) := by decide +kernel
theorem dX12_put_74 : decode cX12_put 74 = .ok (.iload 5, 2) := by decide +kernel
theorem dX12_put_76 : decode cX12_put 76 = .ok (.iconst 3, 1) := by decide +kernel
theorem dX12_put_77 : decode cX12_put 77 = .ok (.iload_n 1, 1) := by decide +kernel
theorem dX12_put_78 : decode cX12_put 78 = .ok (.imul, 1) := by decide +kernel
theorem dX12_put_79 : decode cX12_put 79 = .ok (.if_icmp .le 25, 3) := by decide +kernel
theorem dX12_put_82 : decode cX12_put 82 = .ok (.aload_n 0, 1) := by decide +kernel
theorem dX12_put_83 : decode cX12_put 83 = .ok (.getfield 28, 3) := by decide +kernel
theorem dX12_put_86 : decode cX12_put 86 = .ok (.iconst 3, 1) := by decide +kernel
theorem dX12_put_87 : decode cX12_put 87 = .ok (.iload 5, 2) := by decide +kernel
theorem dX12_put_89 : decode cX12_put 89 = .ok (.iadd, 1) := by decide +kernel
theorem dX12_put_90 : decode cX12_put 90 = .ok (.aload_n 0, 1) := by decide +kernel
theorem dX12_put_91 : decode cX12_put 91 = .ok (.getfield 28, 3) := by decide +kernel
theorem dX12_put_94 : decode cX12_put 94 = .ok (.iload 5, 2) := by decide +kernel
theorem dX12_put_96 : decode cX12_put 96 = .ok (.iaload, 1) := by decide +kernel
theorem dX12_put_97 : decode cX12_put 97 = .ok (.iastore, 1) := by decide +kernel
theorem dX12_put_98 : decode cX12_put 98 = .ok (.iinc 5 (-1), 3) := by decide +kernel
theorem dX12_put_101 : decode cX12_put 101 = .ok (.goto (-27), 3) := by decide +kernel
theorem dX12_put_104 : decode cX12_put 104 = .ok (.aload_n 0, 1) := by decide +kernel
theorem dX12_put_105 : decode cX12_put 105 = .ok (.getfield 28, 3) := by decide +kernel
theorem dX12_put_108 : decode cX12_put 108 = .ok (.iconst 1, 1) := by decide +kernel
theorem dX12_put_109 : decode cX12_put 109 = .ok (.iconst 3, 1) := by decide +kernel
theorem dX12_put_110 : decode cX12_put 110 = .ok (.iload_n 1, 1) := by decide +kernel
theorem dX12_put_111 : decode cX12_put 111 = .ok (.imul, 1) := by decide +kernel
theorem dX12_put_112 : decode cX12_put 112 = .ok (.iadd, 1) := by decide +kernel
theorem dX12_put_113 : decode cX12_put 113 = .ok (.iload_n 2, 1) := by decide +kernel
theorem dX12_put_114 : decode cX12_put 114 = .ok (.iastore, 1) := by decide +kernel
theorem dX12_put_115 : decode cX12_put 115 = .ok (.aload_n 0, 1) := by decide +kernel
theorem dX12_put_116 : decode cX12_put 116 = .ok (.getfield 28, 3) := by decide +kernel
theorem dX12_put_119 : decode cX12_put 119 = .ok (.iconst 2, 1) := by decide +kernel
theorem dX12_put_120 : decode cX12_put 120 = .ok (.iconst 3, 1) := by decide +kernel
theorem dX12_put_121 : decode cX12_put 121 = .ok (.iload_n 1, 1) := by decide +kernel
theorem dX12_put_122 : decode cX12_put 122 = .ok (.imul, 1) := by decide +kernel
theorem dX12_put_123 : decode cX12_put 123 = .ok (.iadd, 1) := by decide +kernel
theorem dX12_put_124 : decode cX12_put 124 = .ok (.iload_n 3, 1) := by decide +kernel
theorem dX12_put_125 : decode cX12_put 125 = .ok (.iastore, 1) := by decide +kernel
theorem dX12_put_126 : decode cX12_put 126 = .ok (.aload_n 0, 1) := by decide +kernel
theorem dX12_put_127 : decode cX12_put 127 = .ok (.getfield 28, 3) := by decide +kernel
theorem dX12_put_130 : decode cX12_put 130 = .ok (.iconst 3, 1) := by decide +kernel
theorem dX12_put_131 : decode cX12_put 131 = .ok (.iconst 3, 1) := by decide +kernel
theorem dX12_put_132 : decode cX12_put 132 = .ok (.iload_n 1, 1) := by decide +kernel
theorem dX12_put_133 : decode cX12_put 133 = .ok (.imul, 1) := by decide +kernel
theorem dX12_put_134 : decode cX12_put 134 = .ok (.iadd, 1) := by decide +kernel
theorem dX12_put_135 : decode cX12_put 135 = .ok (.iload 4, 2) := by decide +kernel
theorem dX12_put_137 : decode cX12_put 137 = .ok (.iastore, 1) := by decide +kernel
theorem dX12_put_138 : decode cX12_put 138 = .ok (.aload_n 0, 1) := by decide +kernel
theorem dX12_put_139 : decode cX12_put 139 = .ok (.getfield 28, 3) := by decide +kernel
theorem dX12_put_142 : decode cX12_put 142 = .ok (.iconst 0, 1) := by decide +kernel
theorem dX12_put_143 : decode cX12_put 143 = .ok (.dup2, 1) := by decide +kernel
theorem dX12_put_144 : decode cX12_put 144 = .ok (.iaload, 1) := by decide +kernel
theorem dX12_put_145 : decode cX12_put 145 = .ok (.iconst 1, 1) := by decide +kernel
theorem dX12_put_146 : decode cX12_put 146 = .ok (.iadd, 1) := by decide +kernel
theorem dX12_put_147 : decode cX12_put 147 = .ok (.iastore, 1) := by decide +kernel
theorem dX12_put_148 : decode cX12_put 148 = .ok (.aload_n 0, 1) := by decide +kernel
theorem dX12_put_149 : decode cX12_put 149 = .ok (.getfield 28, 3) := by decide +kernel
theorem dX12_put_152 : decode cX12_put 152 = .ok (.iconst 0, 1) := by decide +kernel
theorem dX12_put_153 : decode cX12_put 153 = .ok (.iaload, 1) := by decide +kernel
theorem dX12_put_154 : decode cX12_put 154 = .ok (.ireturn, 1) := by decide +kernel
theorem dX12_change_0 : decode cX12_change 0 = .ok (.aload_n 0, 1) := by decide +kernel
theorem dX12_change_1 : decode cX12_change 1 = .ok (.iconst 0, 1) := by decide +kernel
theorem dX12_change_2 : decode cX12_change 2 = .ok (.putfield 78, 3) := by decide +kernel
theorem dX12_change_5 : decode cX12_change 5 = .ok (.aload_n 0, 1) := by decide +kernel
theorem dX12_change_6 : decode cX12_change 6 = .ok (.iload_n 1, 1) := by decide +kernel
theorem dX12_change_7 : decode cX12_change 7 = .ok (.invokevirtual 185, 3) := by decide +kernel
theorem dX12_change_10 : decode cX12_change 10 = .ok (.ifCond .eq 11, 3) := by decide +kernel
theorem dX12_change_13 : decode cX12_change 13 = .ok (.aload_n 0, 1) := by decide +kernel
theorem dX12_change_14 : decode cX12_change 14 = .ok (.iload_n 2, 1) := by decide +kernel
theorem dX12_change_15 : decode cX12_change 15 = .ok (.invokevirtual 175, 3) := by decide +kernel
theorem dX12_change_18 : decode cX12_change 18 = .ok (.ifCond .ne 5, 3) := by decide +kernel
theorem dX12_change_21 : decode cX12_change 21 = .ok (.iconst (-1), 1) := by decide +kernel
theorem dX12_change_22 : decode cX12_change 22 = .ok (.ireturn, 1) := by decide +kernel
theorem dX12_change_23 : decode cX12_change 23 = .ok (.aload_n 0, 1) := by decide +kernel
theorem dX12_change_24 : decode cX12_change 24 = .ok (.getfield 28, 3) := by decide +kernel
theorem dX12_change_27 : decode cX12_change 27 = .ok (.iconst 1, 1) := by decide +kernel
theorem dX12_change_28 : decode cX12_change 28 = .ok (.iconst 3, 1) := by decide +kernel
theorem dX12_change_29 : decode cX12_change 29 = .ok (.iload_n 1, 1) := by decide +kernel
theorem dX12_change_30 : decode cX12_change 30 = .ok (.imul, 1) := by decide +kernel
theorem dX12_change_31 : decode cX12_change 31 = .ok (.iadd, 1) := by decide +kernel
theorem dX12_change_32 : decode cX12_change 32 = .ok (.iaload, 1) := by decide +kernel
theorem dX12_change_33 : decode cX12_change 33 = .ok (.istore_n 3, 1) := by decide +kernel
theorem dX12_change_34 : decode cX12_change 34 = .ok (.aload_n 0, 1) := by decide +kernel
theorem dX12_change_35 : decode cX12_change 35 = .ok (.getfield 28, 3) := by decide +kernel
theorem dX12_change_38 : decode cX12_change 38 = .ok (.iconst 1, 1) := by decide +kernel
theorem dX12_change_39 : decode cX12_change 39 = .ok (.iconst 3, 1) := by decide +kernel
theorem dX12_change_40 : decode cX12_change 40 = .ok (.iload_n 1, 1) := by decide +kernel
theorem dX12_change_41 : decode cX12_change 41 = .ok (.imul, 1) := by decide +kernel
theorem dX12_change_42 : decode cX12_change 42 = .ok (.iadd, 1) := by decide +kernel
theorem dX12_change_43 : decode cX12_change 43 = .ok (.iload_n 2, 1) := by decide +kernel
theorem dX12_change_44 : decode cX12_change 44 = .ok (.iastore, 1) := by decide +kernel
theorem dX12_change_45 : decode cX12_change 45 = .ok (.iload_n 3, 1) := by decide +kernel
theorem dX12_change_46 : decode cX12_change 46 = .ok (.ireturn, 1) := by decide +kernel
theorem dX12_take_0 : decode cX12_take 0 = .ok (.aload_n 0, 1) := by decide +kernel
theorem dX12_take_1 : decode cX12_take 1 = .ok (.iconst 0, 1) := by decide +kernel
theorem dX12_take_2 : decode cX12_take 2 = .ok (.putfield 78, 3) := by decide +kernel
theorem dX12_take_5 : decode cX12_take 5 = .ok (.aload_n 0, 1) := by decide +kernel
theorem dX12_take_6 : decode cX12_take 6 = .ok (.iload_n 1, 1) := by decide +kernel
theorem dX12_take_7 : decode cX12_take 7 = .ok (.invokevirtual 185, 3) := by decide +kernel
theorem dX12_take_10 : decode cX12_take 10 = .ok (.ifCond .ne 5, 3) := by decide +kernel
theorem dX12_take_13 : decode cX12_take 13 = .ok (.iconst (-1), 1) := by decide +kernel
theorem dX12_take_14 : decode cX12_take 14 = .ok (.ireturn, 1) := by decide +kernel
theorem dX12_take_15 : decode cX12_take 15 = .ok (.iconst 3, 1) := by decide +kernel
theorem dX12_take_16 : decode cX12_take 16 = .ok (.iload_n 1, 1) := by decide +kernel
theorem dX12_take_17 : decode cX12_take 17 = .ok (.imul, 1) := by decide +kernel
theorem dX12_take_18 : decode cX12_take 18 = .ok (.istore_n 2, 1) := by decide +kernel
theorem dX12_take_19 : decode cX12_take 19 = .ok (.iload_n 2, 1) := by decide +kernel
theorem dX12_take_20 : decode cX12_take 20 = .ok (.iconst 3, 1) := by decide +kernel
theorem dX12_take_21 : decode cX12_take 21 = .ok (.aload_n 0, 1) := by decide +kernel
theorem dX12_take_22 : decode cX12_take 22 = .ok (.getfield 28, 3) := by decide +kernel
theorem dX12_take_25 : decode cX12_take 25 = .ok (.iconst 0, 1) := by decide +kernel
theorem dX12_take_26 : decode cX12_take 26 = .ok (.iaload, 1) := by decide +kernel
theorem dX12_take_27 : decode cX12_take 27 = .ok (.imul, 1) := by decide +kernel
theorem dX12_take_28 : decode cX12_take 28 = .ok (.iconst 3, 1) := by decide +kernel
theorem dX12_take_29 : decode cX12_take 29 = .ok (.isub, 1) := by decide +kernel
theorem dX12_take_30 : decode cX12_take 30 = .ok (.if_icmp .ge 25, 3) := by decide +kernel
theorem dX12_take_33 : decode cX12_take 33 = .ok (.aload_n 0, 1) := by decide +kernel
theorem dX12_take_34 : decode cX12_take 34 = .ok (.getfield 28, 3) := by decide +kernel
theorem dX12_take_37 : decode cX12_take 37 = .ok (.iconst 1, 1) := by decide +kernel
theorem dX12_take_38 : decode cX12_take 38 = .ok (.iload_n 2, 1) := by decide +kernel
theorem dX12_take_39 : decode cX12_take 39 = .ok (.iadd, 1) := by decide +kernel
theorem dX12_take_40 : decode cX12_take 40 = .ok (.aload_n 0, 1) := by decide +kernel
theorem dX12_take_41 : decode cX12_take 41 = .ok (.getfield 28, 3) := by decide +kernel
theorem dX12_take_44 : decode cX12_take 44 = .ok (.iconst 4, 1) := by decide +kernel
theorem dX12_take_45 : decode cX12_take 45 = .ok (.iload_n 2, 1) := by decide +kernel
theorem dX12_take_46 : decode cX12_take 46 = .ok (.iadd, 1) := by decide +kernel
theorem dX12_take_47 : decode cX12_take 47 = .ok (.iaload, 1) := by decide +kernel
theorem dX12_take_48 : decode cX12_take 48 = .ok (.iastore, 1) := by decide +kernel
theorem dX12_take_49 : decode cX12_take 49 = .ok (.iinc 2 1, 3) := by decide +kernel
theorem dX12_take_52 : decode cX12_take 52 = .ok (.goto (-33), 3) := by decide +kernel
theorem dX12_take_55 : decode cX12_take 55 = .ok (.aload_n 0, 1) := by decide +kernel
theorem dX12_take_56 : decode cX12_take 56 = .ok (.getfield 28, 3) := by decide +kernel
theorem dX12_take_59 : decode cX12_take 59 = .ok (.iconst 0, 1) := by decide +kernel
theorem dX12_take_60 : decode cX12_take 60 = .ok (.dup2, 1) := by decide +kernel
theorem dX12_take_61 : decode cX12_take 61 = .ok (.iaload, 1) := by decide +kernel
theorem dX12_take_62 : decode cX12_take 62 = .ok (.iconst 1, 1) := by decide +kernel
theorem dX12_take_63 : decode cX12_take 63 = .ok (.isub, 1) := by decide +kernel
theorem dX12_take_64 : decode cX12_take 64 = .ok (.iastore, 1) := by decide +kernel
theorem dX12_take_65 : decode cX12_take 65 = .ok (.aload_n 0, 1) := by decide +kernel
theorem dX12_take_66 : decode cX12_take 66 = .ok (.getfield 28, 3) := by decide +kernel
theorem dX12_take_69 : decode cX12_take 69 = .ok (.iconst 0, 1) := by decide +kernel
theorem dX12_take_70 : decode cX12_take 70 = .ok (.iaload, 1) := by decide +kernel
theorem dX12_take_71 : decode cX12_take 71 = .ok (.ireturn, 1) := by decide +kernel
theorem dX12_lays_0 : decode cX12_lays 0 = .ok (.aload_n 0, 1) := by decide +kernel
theorem dX12_lays_1 : decode cX12_lays 1 = .ok (.aload_n 0, 1) := by decide +kernel
theorem dX12_lays_2 : decode cX12_lays 2 = .ok (.getfield 28, 3) := by decide +kernel
theorem dX12_lays_5 : decode cX12_lays 5 = .ok (.iconst 0, 1) := by decide +kernel
theorem dX12_lays_6 : decode cX12_lays 6 = .ok (.iaload, 1) := by decide +kernel
theorem dX12_lays_7 : decode cX12_lays 7 = .ok (.putfield 188, 3) := by decide +kernel
theorem dX12_lays_10 : decode cX12_lays 10 = .ok (.iconst 0, 1) := by decide +kernel
theorem dX12_lays_11 : decode cX12_lays 11 = .ok (.istore_n 1, 1) := by decide +kernel
theorem dX12_lays_12 : decode cX12_lays 12 = .ok (.iload_n 1, 1) := by decide +kernel
theorem dX12_lays_13 : decode cX12_lays 13 = .ok (.iconst 3, 1) := by decide +kernel
theorem dX12_lays_14 : decode cX12_lays 14 = .ok (.aload_n 0, 1) := by decide +kernel
theorem dX12_lays_15 : decode cX12_lays 15 = .ok (.getfield 188, 3) := by decide +kernel
theorem dX12_lays_18 : decode cX12_lays 18 = .ok (.imul, 1) := by decide +kernel
theorem dX12_lays_19 : decode cX12_lays 19 = .ok (.if_icmp .ge 23, 3) := by decide +kernel
theorem dX12_lays_22 : decode cX12_lays 22 = .ok (.aload_n 0, 1) := by decide +kernel
theorem dX12_lays_23 : decode cX12_lays 23 = .ok (.getfield 38, 3) := by decide +kernel
theorem dX12_lays_26 : decode cX12_lays 26 = .ok (.iload_n 1, 1) := by decide +kernel
theorem dX12_lays_27 : decode cX12_lays 27 = .ok (.aload_n 0, 1) := by decide +kernel
theorem dX12_lays_28 : decode cX12_lays 28 = .ok (.getfield 28, 3) := by decide +kernel
theorem dX12_lays_31 : decode cX12_lays 31 = .ok (.iconst 1, 1) := by decide +kernel
theorem dX12_lays_32 : decode cX12_lays 32 = .ok (.iload_n 1, 1) := by decide +kernel
theorem dX12_lays_33 : decode cX12_lays 33 = .ok (.iadd, 1) := by decide +kernel
theorem dX12_lays_34 : decode cX12_lays 34 = .ok (.iaload, 1) := by decide +kernel
theorem dX12_lays_35 : decode cX12_lays 35 = .ok (.iastore, 1) := by decide +kernel
theorem dX12_lays_36 : decode cX12_lays 36 = .ok (.iinc 1 1, 3) := by decide +kernel
theorem dX12_lays_39 : decode cX12_lays 39 = .ok (.goto (-27), 3) := by decide +kernel
theorem dX12_lays_42 : decode cX12_lays 42 = .ok (.return_, 1) := by decide +kernel
theorem dX12_hears_0 : decode cX12_hears 0 = .ok (.iconst 0, 1) := by decide +kernel
theorem dX12_hears_1 : decode cX12_hears 1 = .ok (.istore_n 2, 1) := by decide +kernel
theorem dX12_hears_2 : decode cX12_hears 2 = .ok (.iload_n 2, 1) := by decide +kernel
theorem dX12_hears_3 : decode cX12_hears 3 = .ok (.bipush 16, 2) := by decide +kernel
theorem dX12_hears_5 : decode cX12_hears 5 = .ok (.if_icmp .ge 25, 3) := by decide +kernel
theorem dX12_hears_8 : decode cX12_hears 8 = .ok (.aload_n 0, 1) := by decide +kernel
theorem dX12_hears_9 : decode cX12_hears 9 = .ok (.getfield 56, 3) := by decide +kernel
theorem dX12_hears_12 : decode cX12_hears 12 = .ok (.iload_n 2, 1) := by decide +kernel
theorem dX12_hears_13 : decode cX12_hears 13 = .ok (.aload_n 0, 1) := by decide +kernel
theorem dX12_hears_14 : decode cX12_hears 14 = .ok (.getfield 13, 3) := by decide +kernel
theorem dX12_hears_17 : decode cX12_hears 17 = .ok (.iconst 4, 1) := by decide +kernel
theorem dX12_hears_18 : decode cX12_hears 18 = .ok (.iload_n 2, 1) := by decide +kernel
theorem dX12_hears_19 : decode cX12_hears 19 = .ok (.imul, 1) := by decide +kernel
theorem dX12_hears_20 : decode cX12_hears 20 = .ok (.iload_n 1, 1) := by decide +kernel
theorem dX12_hears_21 : decode cX12_hears 21 = .ok (.iadd, 1) := by decide +kernel
theorem dX12_hears_22 : decode cX12_hears 22 = .ok (.iaload, 1) := by decide +kernel
theorem dX12_hears_23 : decode cX12_hears 23 = .ok (.iastore, 1) := by decide +kernel
theorem dX12_hears_24 : decode cX12_hears 24 = .ok (.iinc 2 1, 3) := by decide +kernel
theorem dX12_hears_27 : decode cX12_hears 27 = .ok (.goto (-25), 3) := by decide +kernel
theorem dX12_hears_30 : decode cX12_hears 30 = .ok (.return_, 1) := by decide +kernel
theorem dX12_isMetre_0 : decode cX12_isMetre 0 = .ok (.aload_n 0, 1) := by decide +kernel
theorem dX12_isMetre_1 : decode cX12_isMetre 1 = .ok (.getfield 19, 3) := by decide +kernel
theorem dX12_isMetre_4 : decode cX12_isMetre 4 = .ok (.aload_n 0, 1) := by decide +kernel
theorem dX12_isMetre_5 : decode cX12_isMetre 5 = .ok (.iload_n 1, 1) := by decide +kernel
theorem dX12_isMetre_6 : decode cX12_isMetre 6 = .ok (.iload_n 2, 1) := by decide +kernel
theorem dX12_isMetre_7 : decode cX12_isMetre 7 = .ok (.invokevirtual 182, 3) := by decide +kernel
theorem dX12_isMetre_10 : decode cX12_isMetre 10 = .ok (.iaload, 1) := by decide +kernel
theorem dX12_isMetre_11 : decode cX12_isMetre 11 = .ok (.istore 4, 2) := by decide +kernel
theorem dX12_isMetre_13 : decode cX12_isMetre 13 = .ok (.iload 4, 2) := by decide +kernel
theorem dX12_isMetre_15 : decode cX12_isMetre 15 = .ok (.ifCond .eq 29, 3) := by decide +kernel
theorem dX12_isMetre_18 : decode cX12_isMetre 18 = .ok (.aload_n 0, 1) := by decide +kernel
theorem dX12_isMetre_19 : decode cX12_isMetre 19 = .ok (.getfield 38, 3) := by decide +kernel
theorem dX12_isMetre_22 : decode cX12_isMetre 22 = .ok (.iconst 3, 1) := by decide +kernel
theorem dX12_isMetre_23 : decode cX12_isMetre 23 = .ok (.iload_n 2, 1) := by decide +kernel
theorem dX12_isMetre_24 : decode cX12_isMetre 24 = .ok (.imul, 1) := by decide +kernel
theorem dX12_isMetre_25 : decode cX12_isMetre 25 = .ok (.iconst 2, 1) := by decide +kernel
theorem dX12_isMetre_26 : decode cX12_isMetre 26 = .ok (.iadd, 1) := by decide +kernel
theorem dX12_isMetre_27 : decode cX12_isMetre 27 = .ok (.iaload, 1) := by decide +kernel
theorem dX12_isMetre_28 : decode cX12_isMetre 28 = .ok (.aload_n 0, 1) := by decide +kernel
theorem dX12_isMetre_29 : decode cX12_isMetre 29 = .ok (.getfield 13, 3) := by decide +kernel
theorem dX12_isMetre_32 : decode cX12_isMetre 32 = .ok (.iconst 4, 1) := by decide +kernel
theorem dX12_isMetre_33 : decode cX12_isMetre 33 = .ok (.iload_n 3, 1) := by decide +kernel
theorem dX12_isMetre_34 : decode cX12_isMetre 34 = .ok (.imul, 1) := by decide +kernel
theorem dX12_isMetre_35 : decode cX12_isMetre 35 = .ok (.iconst 3, 1) := by decide +kernel
theorem dX12_isMetre_36 : decode cX12_isMetre 36 = .ok (.iadd, 1) := by decide +kernel
theorem dX12_isMetre_37 : decode cX12_isMetre 37 = .ok (.iaload, 1) := by decide +kernel
theorem dX12_isMetre_38 : decode cX12_isMetre 38 = .ok (.iadd, 1) := by decide +kernel
theorem dX12_isMetre_39 : decode cX12_isMetre 39 = .ok (.iload 4, 2) := by decide +kernel
theorem dX12_isMetre_41 : decode cX12_isMetre 41 = .ok (.if_icmp .ne 7, 3) := by decide +kernel
theorem dX12_isMetre_44 : decode cX12_isMetre 44 = .ok (.iconst 1, 1) := by decide +kernel
theorem dX12_isMetre_45 : decode cX12_isMetre 45 = .ok (.goto 4, 3) := by decide +kernel
theorem dX12_isMetre_48 : decode cX12_isMetre 48 = .ok (.iconst 0, 1) := by decide +kernel
theorem dX12_isMetre_49 : decode cX12_isMetre 49 = .ok (.ireturn, 1) := by decide +kernel
theorem dX12_judges_0 : decode cX12_judges 0 = .ok (.iconst 0, 1) := by decide +kernel
theorem dX12_judges_1 : decode cX12_judges 1 = .ok (.istore_n 2, 1) := by decide +kernel
theorem dX12_judges_2 : decode cX12_judges 2 = .ok (.iload_n 2, 1) := by decide +kernel
theorem dX12_judges_3 : decode cX12_judges 3 = .ok (.aload_n 0, 1) := by decide +kernel
theorem dX12_judges_4 : decode cX12_judges 4 = .ok (.getfield 188, 3) := by decide +kernel
theorem dX12_judges_7 : decode cX12_judges 7 = .ok (.if_icmp .ge 192, 3) := by decide +kernel
theorem dX12_judges_10 : decode cX12_judges 10 = .ok (.aload_n 0, 1) := by decide +kernel
theorem dX12_judges_11 : decode cX12_judges 11 = .ok (.getfield 38, 3) := by decide +kernel
theorem dX12_judges_14 : decode cX12_judges 14 = .ok (.iconst 3, 1) := by decide +kernel
theorem dX12_judges_15 : decode cX12_judges 15 = .ok (.iload_n 2, 1) := by decide +kernel
theorem dX12_judges_16 : decode cX12_judges 16 = .ok (.imul, 1) := by decide +kernel
theorem dX12_judges_17 : decode cX12_judges 17 = .ok (.iaload, 1) := by decide +kernel
theorem dX12_judges_18 : decode cX12_judges 18 = .ok (.istore_n 3, 1) := by decide +kernel
theorem dX12_judges_19 : decode cX12_judges 19 = .ok (.iload_n 2, 1) := by decide +kernel
theorem dX12_judges_20 : decode cX12_judges 20 = .ok (.iconst 1, 1) := by decide +kernel
theorem dX12_judges_21 : decode cX12_judges 21 = .ok (.isub, 1) := by decide +kernel
theorem dX12_judges_22 : decode cX12_judges 22 = .ok (.istore 4, 2) := by decide +kernel
theorem dX12_judges_24 : decode cX12_judges 24 = .ok (.iload 4, 2) := by decide +kernel
theorem dX12_judges_26 : decode cX12_judges 26 = .ok (.ifCond .lt 35, 3) := by decide +kernel
theorem dX12_judges_29 : decode cX12_judges 29 = .ok (.aload_n 0, 1) := by decide +kernel
theorem dX12_judges_30 : decode cX12_judges 30 = .ok (.getfield 41, 3) := by decide +kernel
theorem dX12_judges_33 : decode cX12_judges 33 = .ok (.iload 4, 2) := by decide +kernel
theorem dX12_judges_35 : decode cX12_judges 35 = .ok (.baload, 1) := by decide +kernel
theorem dX12_judges_36 : decode cX12_judges 36 = .ok (.ifCond .eq 19, 3) := by decide +kernel
theorem dX12_judges_39 : decode cX12_judges 39 = .ok (.aload_n 0, 1) := by decide +kernel
theorem dX12_judges_40 : decode cX12_judges 40 = .ok (.iload_n 1, 1) := by decide +kernel
theorem dX12_judges_41 : decode cX12_judges 41 = .ok (.iload 4, 2) := by decide +kernel
theorem dX12_judges_43 : decode cX12_judges 43 = .ok (.invokevirtual 182, 3) := by decide +kernel
theorem dX12_judges_46 : decode cX12_judges 46 = .ok (.aload_n 0, 1) := by decide +kernel
theorem dX12_judges_47 : decode cX12_judges 47 = .ok (.iload_n 1, 1) := by decide +kernel
theorem dX12_judges_48 : decode cX12_judges 48 = .ok (.iload_n 2, 1) := by decide +kernel
theorem dX12_judges_49 : decode cX12_judges 49 = .ok (.invokevirtual 182, 3) := by decide +kernel
theorem dX12_judges_52 : decode cX12_judges 52 = .ok (.if_icmp .eq 9, 3) := by decide +kernel
theorem dX12_judges_55 : decode cX12_judges 55 = .ok (.iinc 4 (-1), 3) := by decide +kernel
theorem dX12_judges_58 : decode cX12_judges 58 = .ok (.goto (-34), 3) := by decide +kernel
theorem dX12_judges_61 : decode cX12_judges 61 = .ok (.aload_n 0, 1) := by decide +kernel
theorem dX12_judges_62 : decode cX12_judges 62 = .ok (.iload_n 1, 1) := by decide +kernel
theorem dX12_judges_63 : decode cX12_judges 63 = .ok (.iload_n 2, 1) := by decide +kernel
theorem dX12_judges_64 : decode cX12_judges 64 = .ok (.iload_n 3, 1) := by decide +kernel
theorem dX12_judges_65 : decode cX12_judges 65 = .ok (.invokevirtual 191, 3) := by decide +kernel
theorem dX12_judges_68 : decode cX12_judges 68 = .ok (.istore 5, 2) := by decide +kernel
theorem dX12_judges_70 : decode cX12_judges 70 = .ok (.iload 4, 2) := by decide +kernel
theorem dX12_judges_72 : decode cX12_judges 72 = .ok (.ifCond .lt 43, 3) := by decide +kernel
theorem dX12_judges_75 : decode cX12_judges 75 = .ok (.aload_n 0, 1) := by decide +kernel
theorem dX12_judges_76 : decode cX12_judges 76 = .ok (.getfield 38, 3) := by decide +kernel
theorem dX12_judges_79 : decode cX12_judges 79 = .ok (.iconst 3, 1) := by decide +kernel
theorem dX12_judges_80 : decode cX12_judges 80 = .ok (.iload 4, 2) := by decide +kernel
theorem dX12_judges_82 : decode cX12_judges 82 = .ok (.imul, 1) := by decide +kernel
theorem dX12_judges_83 : decode cX12_judges 83 = .ok (.iaload, 1) := by decide +kernel
theorem dX12_judges_84 : decode cX12_judges 84 = .ok (.iload_n 3, 1) := by decide +kernel
theorem dX12_judges_85 : decode cX12_judges 85 = .ok (.if_icmp .eq 30, 3) := by decide +kernel
theorem dX12_judges_88 : decode cX12_judges 88 = .ok (.aload_n 0, 1) := by decide +kernel
theorem dX12_judges_89 : decode cX12_judges 89 = .ok (.getfield 56, 3) := by decide +kernel
theorem dX12_judges_92 : decode cX12_judges 92 = .ok (.aload_n 0, 1) := by decide +kernel
theorem dX12_judges_93 : decode cX12_judges 93 = .ok (.getfield 38, 3) := by decide +kernel
theorem dX12_judges_96 : decode cX12_judges 96 = .ok (.iconst 3, 1) := by decide +kernel
theorem dX12_judges_97 : decode cX12_judges 97 = .ok (.iload 4, 2) := by decide +kernel
theorem dX12_judges_99 : decode cX12_judges 99 = .ok (.imul, 1) := by decide +kernel
theorem dX12_judges_100 : decode cX12_judges 100 = .ok (.iaload, 1) := by decide +kernel
theorem dX12_judges_101 : decode cX12_judges 101 = .ok (.iaload, 1) := by decide +kernel
theorem dX12_judges_102 : decode cX12_judges 102 = .ok (.aload_n 0, 1) := by decide +kernel
theorem dX12_judges_103 : decode cX12_judges 103 = .ok (.getfield 56, 3) := by decide +kernel
theorem dX12_judges_106 : decode cX12_judges 106 = .ok (.iload_n 3, 1) := by decide +kernel
theorem dX12_judges_107 : decode cX12_judges 107 = .ok (.iaload, 1) := by decide +kernel
theorem dX12_judges_108 : decode cX12_judges 108 = .ok (.if_icmp .ne 7, 3) := by decide +kernel
theorem dX12_judges_111 : decode cX12_judges 111 = .ok (.iconst 1, 1) := by decide +kernel
theorem dX12_judges_112 : decode cX12_judges 112 = .ok (.goto 4, 3) := by decide +kernel
theorem dX12_judges_115 : decode cX12_judges 115 = .ok (.iconst 0, 1) := by decide +kernel
theorem dX12_judges_116 : decode cX12_judges 116 = .ok (.istore 6, 2) := by decide +kernel
theorem dX12_judges_118 : decode cX12_judges 118 = .ok (.aload_n 0, 1) := by decide +kernel
theorem dX12_judges_119 : decode cX12_judges 119 = .ok (.getfield 44, 3) := by decide +kernel
theorem dX12_judges_122 : decode cX12_judges 122 = .ok (.iload_n 2, 1) := by decide +kernel
theorem dX12_judges_123 : decode cX12_judges 123 = .ok (.iload 5, 2) := by decide +kernel
theorem dX12_judges_125 : decode cX12_judges 125 = .ok (.ifCond .eq 12, 3) := by decide +kernel
theorem dX12_judges_128 : decode cX12_judges 128 = .ok (.iload 4, 2) := by decide +kernel
theorem dX12_judges_130 : decode cX12_judges 130 = .ok (.ifCond .ge 7, 3) := by decide +kernel
theorem dX12_judges_133 : decode cX12_judges 133 = .ok (.iconst 1, 1) := by decide +kernel
theorem dX12_judges_134 : decode cX12_judges 134 = .ok (.goto 4, 3) := by decide +kernel
theorem dX12_judges_137 : decode cX12_judges 137 = .ok (.iconst 0, 1) := by decide +kernel
theorem dX12_judges_138 : decode cX12_judges 138 = .ok (.bastore, 1) := by decide +kernel
theorem dX12_judges_139 : decode cX12_judges 139 = .ok (.aload_n 0, 1) := by decide +kernel
theorem dX12_judges_140 : decode cX12_judges 140 = .ok (.getfield 50, 3) := by decide +kernel
theorem dX12_judges_143 : decode cX12_judges 143 = .ok (.iload_n 2, 1) := by decide +kernel
theorem dX12_judges_144 : decode cX12_judges 144 = .ok (.iload 5, 2) := by decide +kernel
theorem dX12_judges_146 : decode cX12_judges 146 = .ok (.ifCond .eq 13, 3) := by decide +kernel
theorem dX12_judges_149 : decode cX12_judges 149 = .ok (.iload 6, 2) := by decide +kernel
theorem dX12_judges_151 : decode cX12_judges 151 = .ok (.ifCond .eq 8, 3) := by decide +kernel
theorem dX12_judges_154 : decode cX12_judges 154 = .ok (.iload 4, 2) := by decide +kernel
theorem dX12_judges_156 : decode cX12_judges 156 = .ok (.goto 5, 3) := by decide +kernel
theorem dX12_judges_159 : decode cX12_judges 159 = .ok (.bipush (-9), 2) := by decide +kernel
theorem dX12_judges_161 : decode cX12_judges 161 = .ok (.iastore, 1) := by decide +kernel
theorem dX12_judges_162 : decode cX12_judges 162 = .ok (.aload_n 0, 1) := by decide +kernel
theorem dX12_judges_163 : decode cX12_judges 163 = .ok (.getfield 41, 3) := by decide +kernel
theorem dX12_judges_166 : decode cX12_judges 166 = .ok (.iload_n 2, 1) := by decide +kernel
theorem dX12_judges_167 : decode cX12_judges 167 = .ok (.aload_n 0, 1) := by decide +kernel
theorem dX12_judges_168 : decode cX12_judges 168 = .ok (.getfield 44, 3) := by decide +kernel
theorem dX12_judges_171 : decode cX12_judges 171 = .ok (.iload_n 2, 1) := by decide +kernel
theorem dX12_judges_172 : decode cX12_judges 172 = .ok (.baload, 1) := by decide +kernel
theorem dX12_judges_173 : decode cX12_judges 173 = .ok (.ifCond .ne 14, 3) := by decide +kernel
theorem dX12_judges_176 : decode cX12_judges 176 = .ok (.aload_n 0, 1) := by decide +kernel
theorem dX12_judges_177 : decode cX12_judges 177 = .ok (.getfield 50, 3) := by decide +kernel
theorem dX12_judges_180 : decode cX12_judges 180 = .ok (.iload_n 2, 1) := by decide +kernel
theorem dX12_judges_181 : decode cX12_judges 181 = .ok (.iaload, 1) := by decide +kernel
theorem dX12_judges_182 : decode cX12_judges 182 = .ok (.bipush (-9), 2) := by decide +kernel
theorem dX12_judges_184 : decode cX12_judges 184 = .ok (.if_icmp .eq 7, 3) := by decide +kernel
theorem dX12_judges_187 : decode cX12_judges 187 = .ok (.iconst 1, 1) := by decide +kernel
theorem dX12_judges_188 : decode cX12_judges 188 = .ok (.goto 4, 3) := by decide +kernel
theorem dX12_judges_191 : decode cX12_judges 191 = .ok (.iconst 0, 1) := by decide +kernel
theorem dX12_judges_192 : decode cX12_judges 192 = .ok (.bastore, 1) := by decide +kernel
theorem dX12_judges_193 : decode cX12_judges 193 = .ok (.iinc 2 1, 3) := by decide +kernel
theorem dX12_judges_196 : decode cX12_judges 196 = .ok (.goto (-194), 3) := by decide +kernel
theorem dX12_judges_199 : decode cX12_judges 199 = .ok (.iconst 0, 1) := by decide +kernel
theorem dX12_judges_200 : decode cX12_judges 200 = .ok (.istore_n 2, 1) := by decide +kernel
theorem dX12_judges_201 : decode cX12_judges 201 = .ok (.iload_n 2, 1) := by decide +kernel
theorem dX12_judges_202 : decode cX12_judges 202 = .ok (.aload_n 0, 1) := by decide +kernel
theorem dX12_judges_203 : decode cX12_judges 203 = .ok (.getfield 188, 3) := by decide +kernel
theorem dX12_judges_206 : decode cX12_judges 206 = .ok (.if_icmp .ge 49, 3) := by decide +kernel
theorem dX12_judges_209 : decode cX12_judges 209 = .ok (.aload_n 0, 1) := by decide +kernel
theorem dX12_judges_210 : decode cX12_judges 210 = .ok (.getfield 47, 3) := by decide +kernel
theorem dX12_judges_213 : decode cX12_judges 213 = .ok (.iload_n 2, 1) := by decide +kernel
theorem dX12_judges_214 : decode cX12_judges 214 = .ok (.aload_n 0, 1) := by decide +kernel
theorem dX12_judges_215 : decode cX12_judges 215 = .ok (.getfield 50, 3) := by decide +kernel
theorem dX12_judges_218 : decode cX12_judges 218 = .ok (.iload_n 2, 1) := by decide +kernel
theorem dX12_judges_219 : decode cX12_judges 219 = .ok (.iaload, 1) := by decide +kernel
theorem dX12_judges_220 : decode cX12_judges 220 = .ok (.bipush (-9), 2) := by decide +kernel
theorem dX12_judges_222 : decode cX12_judges 222 = .ok (.if_icmp .ne 21, 3) := by decide +kernel
theorem dX12_judges_225 : decode cX12_judges 225 = .ok (.aload_n 0, 1) := by decide +kernel
theorem dX12_judges_226 : decode cX12_judges 226 = .ok (.getfield 44, 3) := by decide +kernel
theorem dX12_judges_229 : decode cX12_judges 229 = .ok (.iload_n 2, 1) := by decide +kernel
theorem dX12_judges_230 : decode cX12_judges 230 = .ok (.baload, 1) := by decide +kernel
theorem dX12_judges_231 : decode cX12_judges 231 = .ok (.ifCond .eq 16, 3) := by decide +kernel
theorem dX12_judges_234 : decode cX12_judges 234 = .ok (.aload_n 0, 1) := by decide +kernel
theorem dX12_judges_235 : decode cX12_judges 235 = .ok (.iload_n 2, 1) := by decide +kernel
theorem dX12_judges_236 : decode cX12_judges 236 = .ok (.iconst 0, 1) := by decide +kernel
theorem dX12_judges_237 : decode cX12_judges 237 = .ok (.invokevirtual 194, 3) := by decide +kernel
theorem dX12_judges_240 : decode cX12_judges 240 = .ok (.ifCond .eq 7, 3) := by decide +kernel
theorem dX12_judges_243 : decode cX12_judges 243 = .ok (.iconst 1, 1) := by decide +kernel
theorem dX12_judges_244 : decode cX12_judges 244 = .ok (.goto 4, 3) := by decide +kernel
theorem dX12_judges_247 : decode cX12_judges 247 = .ok (.iconst 0, 1) := by decide +kernel
theorem dX12_judges_248 : decode cX12_judges 248 = .ok (.bastore, 1) := by decide +kernel
theorem dX12_judges_249 : decode cX12_judges 249 = .ok (.iinc 2 1, 3) := by decide +kernel
theorem dX12_judges_252 : decode cX12_judges 252 = .ok (.goto (-51), 3) := by decide +kernel
theorem dX12_judges_255 : decode cX12_judges 255 = .ok (.return_, 1) := by decide +kernel
theorem dX12_holds_0 : decode cX12_holds 0 = .ok (.iconst 0, 1) := by decide +kernel
theorem dX12_holds_1 : decode cX12_holds 1 = .ok (.istore_n 3, 1) := by decide +kernel
theorem dX12_holds_2 : decode cX12_holds 2 = .ok (.iload_n 1, 1) := by decide +kernel
theorem dX12_holds_3 : decode cX12_holds 3 = .ok (.iconst 1, 1) := by decide +kernel
theorem dX12_holds_4 : decode cX12_holds 4 = .ok (.iadd, 1) := by decide +kernel
theorem dX12_holds_5 : decode cX12_holds 5 = .ok (.istore 4, 2) := by decide +kernel
theorem dX12_holds_7 : decode cX12_holds 7 = .ok (.iload 4, 2) := by decide +kernel
theorem dX12_holds_9 : decode cX12_holds 9 = .ok (.aload_n 0, 1) := by decide +kernel
theorem dX12_holds_10 : decode cX12_holds 10 = .ok (.getfield 188, 3) := by decide +kernel
theorem dX12_holds_13 : decode cX12_holds 13 = .ok (.if_icmp .ge 44, 3) := by decide +kernel
theorem dX12_holds_16 : decode cX12_holds 16 = .ok (.iload_n 3, 1) := by decide +kernel
theorem dX12_holds_17 : decode cX12_holds 17 = .ok (.ifCond .ne 28, 3) := by decide +kernel
theorem dX12_holds_20 : decode cX12_holds 20 = .ok (.aload_n 0, 1) := by decide +kernel
theorem dX12_holds_21 : decode cX12_holds 21 = .ok (.getfield 50, 3) := by decide +kernel
theorem dX12_holds_24 : decode cX12_holds 24 = .ok (.iload 4, 2) := by decide +kernel
theorem dX12_holds_26 : decode cX12_holds 26 = .ok (.iaload, 1) := by decide +kernel
theorem dX12_holds_27 : decode cX12_holds 27 = .ok (.iload_n 1, 1) := by decide +kernel
theorem dX12_holds_28 : decode cX12_holds 28 = .ok (.if_icmp .ne 21, 3) := by decide +kernel
theorem dX12_holds_31 : decode cX12_holds 31 = .ok (.iload_n 2, 1) := by decide +kernel
theorem dX12_holds_32 : decode cX12_holds 32 = .ok (.ifCond .eq 13, 3) := by decide +kernel
theorem dX12_holds_35 : decode cX12_holds 35 = .ok (.aload_n 0, 1) := by decide +kernel
theorem dX12_holds_36 : decode cX12_holds 36 = .ok (.getfield 53, 3) := by decide +kernel
theorem dX12_holds_39 : decode cX12_holds 39 = .ok (.iload 4, 2) := by decide +kernel
theorem dX12_holds_41 : decode cX12_holds 41 = .ok (.baload, 1) := by decide +kernel
theorem dX12_holds_42 : decode cX12_holds 42 = .ok (.ifCond .ne 7, 3) := by decide +kernel
theorem dX12_holds_45 : decode cX12_holds 45 = .ok (.iconst 1, 1) := by decide +kernel
theorem dX12_holds_46 : decode cX12_holds 46 = .ok (.goto 4, 3) := by decide +kernel
theorem dX12_holds_49 : decode cX12_holds 49 = .ok (.iconst 0, 1) := by decide +kernel
theorem dX12_holds_50 : decode cX12_holds 50 = .ok (.istore_n 3, 1) := by decide +kernel
theorem dX12_holds_51 : decode cX12_holds 51 = .ok (.iinc 4 1, 3) := by decide +kernel
theorem dX12_holds_54 : decode cX12_holds 54 = .ok (.goto (-47), 3) := by decide +kernel
theorem dX12_holds_57 : decode cX12_holds 57 = .ok (.iload_n 3, 1) := by decide +kernel
theorem dX12_holds_58 : decode cX12_holds 58 = .ok (.ireturn, 1) := by decide +kernel
theorem dX12_judgesPaper_0 : decode cX12_judgesPaper 0 = .ok (.aload_n 0, 1) := by decide +kernel
theorem dX12_judgesPaper_1 : decode cX12_judgesPaper 1 = .ok (.invokevirtual 198, 3) := by decide +kernel
theorem dX12_judgesPaper_4 : decode cX12_judgesPaper 4 = .ok (.aload_n 0, 1) := by decide +kernel
theorem dX12_judgesPaper_5 : decode cX12_judgesPaper 5 = .ok (.iload_n 2, 1) := by decide +kernel
theorem dX12_judgesPaper_6 : decode cX12_judgesPaper 6 = .ok (.invokevirtual 201, 3) := by decide +kernel
theorem dX12_judgesPaper_9 : decode cX12_judgesPaper 9 = .ok (.aload_n 0, 1) := by decide +kernel
theorem dX12_judgesPaper_10 : decode cX12_judgesPaper 10 = .ok (.iload_n 1, 1) := by decide +kernel
theorem dX12_judgesPaper_11 : decode cX12_judgesPaper 11 = .ok (.invokevirtual 204, 3) := by decide +kernel
theorem dX12_judgesPaper_14 : decode cX12_judgesPaper 14 = .ok (.return_, 1) := by decide +kernel
theorem dX12_emptyLine_0 : decode cX12_emptyLine 0 = .ok (.iconst 0, 1) := by decide +kernel
theorem dX12_emptyLine_1 : decode cX12_emptyLine 1 = .ok (.istore_n 1, 1) := by decide +kernel
theorem dX12_emptyLine_2 : decode cX12_emptyLine 2 = .ok (.iload_n 1, 1) := by decide +kernel
theorem dX12_emptyLine_3 : decode cX12_emptyLine 3 = .ok (.aload_n 0, 1) := by decide +kernel
theorem dX12_emptyLine_4 : decode cX12_emptyLine 4 = .ok (.getfield 188, 3) := by decide +kernel
theorem dX12_emptyLine_7 : decode cX12_emptyLine 7 = .ok (.if_icmp .ge 20, 3) := by decide +kernel
theorem dX12_emptyLine_10 : decode cX12_emptyLine 10 = .ok (.aload_n 0, 1) := by decide +kernel
theorem dX12_emptyLine_11 : decode cX12_emptyLine 11 = .ok (.getfield 47, 3) := by decide +kernel
theorem dX12_emptyLine_14 : decode cX12_emptyLine 14 = .ok (.iload_n 1, 1) := by decide +kernel
theorem dX12_emptyLine_15 : decode cX12_emptyLine 15 = .ok (.baload, 1) := by decide +kernel
theorem dX12_emptyLine_16 : decode cX12_emptyLine 16 = .ok (.ifCond .ne 5, 3) := by decide +kernel
theorem dX12_emptyLine_19 : decode cX12_emptyLine 19 = .ok (.iload_n 1, 1) := by decide +kernel
theorem dX12_emptyLine_20 : decode cX12_emptyLine 20 = .ok (.ireturn, 1) := by decide +kernel
theorem dX12_emptyLine_21 : decode cX12_emptyLine 21 = .ok (.iinc 1 1, 3) := by decide +kernel
theorem dX12_emptyLine_24 : decode cX12_emptyLine 24 = .ok (.goto (-22), 3) := by decide +kernel
theorem dX12_emptyLine_27 : decode cX12_emptyLine 27 = .ok (.bipush (-9), 2) := by decide +kernel
theorem dX12_emptyLine_29 : decode cX12_emptyLine 29 = .ok (.ireturn, 1) := by decide +kernel
theorem dX12_isLaw_0 : decode cX12_isLaw 0 = .ok (.aload_n 0, 1) := by decide +kernel
theorem dX12_isLaw_1 : decode cX12_isLaw 1 = .ok (.iload_n 1, 1) := by decide +kernel
theorem dX12_isLaw_2 : decode cX12_isLaw 2 = .ok (.invokevirtual 204, 3) := by decide +kernel
theorem dX12_isLaw_5 : decode cX12_isLaw 5 = .ok (.aload_n 0, 1) := by decide +kernel
theorem dX12_isLaw_6 : decode cX12_isLaw 6 = .ok (.getfield 188, 3) := by decide +kernel
theorem dX12_isLaw_9 : decode cX12_isLaw 9 = .ok (.ifCond .le 16, 3) := by decide +kernel
theorem dX12_isLaw_12 : decode cX12_isLaw 12 = .ok (.aload_n 0, 1) := by decide +kernel
theorem dX12_isLaw_13 : decode cX12_isLaw 13 = .ok (.invokevirtual 207, 3) := by decide +kernel
theorem dX12_isLaw_16 : decode cX12_isLaw 16 = .ok (.bipush (-9), 2) := by decide +kernel
theorem dX12_isLaw_18 : decode cX12_isLaw 18 = .ok (.if_icmp .ne 7, 3) := by decide +kernel
theorem dX12_isLaw_21 : decode cX12_isLaw 21 = .ok (.iconst 1, 1) := by decide +kernel
theorem dX12_isLaw_22 : decode cX12_isLaw 22 = .ok (.goto 4, 3) := by decide +kernel
theorem dX12_isLaw_25 : decode cX12_isLaw 25 = .ok (.iconst 0, 1) := by decide +kernel
theorem dX12_isLaw_26 : decode cX12_isLaw 26 = .ok (.ireturn, 1) := by decide +kernel
theorem dX12_judged_0 : decode cX12_judged 0 = .ok (.aload_n 0, 1) := by decide +kernel
theorem dX12_judged_1 : decode cX12_judged 1 = .ok (.iconst 0, 1) := by decide +kernel
theorem dX12_judged_2 : decode cX12_judged 2 = .ok (.putfield 78, 3) := by decide +kernel
theorem dX12_judged_5 : decode cX12_judged 5 = .ok (.aload_n 0, 1) := by decide +kernel
theorem dX12_judged_6 : decode cX12_judged 6 = .ok (.iload_n 1, 1) := by decide +kernel
theorem dX12_judged_7 : decode cX12_judged 7 = .ok (.iload_n 2, 1) := by decide +kernel
theorem dX12_judged_8 : decode cX12_judged 8 = .ok (.invokevirtual 178, 3) := by decide +kernel
theorem dX12_judged_11 : decode cX12_judged 11 = .ok (.ifCond .eq 21, 3) := by decide +kernel
theorem dX12_judged_14 : decode cX12_judged 14 = .ok (.aload_n 0, 1) := by decide +kernel
theorem dX12_judged_15 : decode cX12_judged 15 = .ok (.iload_n 3, 1) := by decide +kernel
theorem dX12_judged_16 : decode cX12_judged 16 = .ok (.invokevirtual 185, 3) := by decide +kernel
theorem dX12_judged_19 : decode cX12_judged 19 = .ok (.ifCond .eq 13, 3) := by decide +kernel
theorem dX12_judged_22 : decode cX12_judged 22 = .ok (.iload 4, 2) := by decide +kernel
theorem dX12_judged_24 : decode cX12_judged 24 = .ok (.iconst 0, 1) := by decide +kernel
theorem dX12_judged_25 : decode cX12_judged 25 = .ok (.iconst 3, 1) := by decide +kernel
theorem dX12_judged_26 : decode cX12_judged 26 = .ok (.invokestatic 82, 3) := by decide +kernel
theorem dX12_judged_29 : decode cX12_judged 29 = .ok (.ifCond .ne 5, 3) := by decide +kernel
theorem dX12_judged_32 : decode cX12_judged 32 = .ok (.iconst (-1), 1) := by decide +kernel
theorem dX12_judged_33 : decode cX12_judged 33 = .ok (.ireturn, 1) := by decide +kernel
theorem dX12_judged_34 : decode cX12_judged 34 = .ok (.aload_n 0, 1) := by decide +kernel
theorem dX12_judged_35 : decode cX12_judged 35 = .ok (.iload_n 1, 1) := by decide +kernel
theorem dX12_judged_36 : decode cX12_judged 36 = .ok (.iload_n 2, 1) := by decide +kernel
theorem dX12_judged_37 : decode cX12_judged 37 = .ok (.invokevirtual 210, 3) := by decide +kernel
theorem dX12_judged_40 : decode cX12_judged 40 = .ok (.iload 4, 2) := by decide +kernel
theorem dX12_judged_42 : decode cX12_judged 42 = .ok (.iconst 3, 1) := by decide +kernel
theorem dX12_judged_43 : decode cX12_judged 43 = .ok (.if_icmp .ne 12, 3) := by decide +kernel
theorem dX12_judged_46 : decode cX12_judged 46 = .ok (.aload_n 0, 1) := by decide +kernel
theorem dX12_judged_47 : decode cX12_judged 47 = .ok (.getfield 50, 3) := by decide +kernel
theorem dX12_judged_50 : decode cX12_judged 50 = .ok (.iload_n 3, 1) := by decide +kernel
theorem dX12_judged_51 : decode cX12_judged 51 = .ok (.iaload, 1) := by decide +kernel
theorem dX12_judged_52 : decode cX12_judged 52 = .ok (.goto 52, 3) := by decide +kernel
theorem dX12_judged_55 : decode cX12_judged 55 = .ok (.iload 4, 2) := by decide +kernel
theorem dX12_judged_57 : decode cX12_judged 57 = .ok (.ifCond .ne 15, 3) := by decide +kernel
theorem dX12_judged_60 : decode cX12_judged 60 = .ok (.aload_n 0, 1) := by decide +kernel
theorem dX12_judged_61 : decode cX12_judged 61 = .ok (.getfield 41, 3) := by decide +kernel
theorem dX12_judged_64 : decode cX12_judged 64 = .ok (.iload_n 3, 1) := by decide +kernel
theorem dX12_judged_65 : decode cX12_judged 65 = .ok (.baload, 1) := by decide +kernel
theorem dX12_judged_66 : decode cX12_judged 66 = .ok (.ifCond .eq 37, 3) := by decide +kernel
theorem dX12_judged_69 : decode cX12_judged 69 = .ok (.goto 30, 3) := by decide +kernel
theorem dX12_judged_72 : decode cX12_judged 72 = .ok (.iload 4, 2) := by decide +kernel
theorem dX12_judged_74 : decode cX12_judged 74 = .ok (.iconst 1, 1) := by decide +kernel
theorem dX12_judged_75 : decode cX12_judged 75 = .ok (.if_icmp .ne 15, 3) := by decide +kernel
theorem dX12_judged_78 : decode cX12_judged 78 = .ok (.aload_n 0, 1) := by decide +kernel
theorem dX12_judged_79 : decode cX12_judged 79 = .ok (.getfield 44, 3) := by decide +kernel
theorem dX12_judged_82 : decode cX12_judged 82 = .ok (.iload_n 3, 1) := by decide +kernel
theorem dX12_judged_83 : decode cX12_judged 83 = .ok (.baload, 1) := by decide +kernel
theorem dX12_judged_84 : decode cX12_judged 84 = .ok (.ifCond .eq 19, 3) := by decide +kernel
theorem dX12_judged_87 : decode cX12_judged 87 = .ok (.goto 12, 3) := by decide +kernel
theorem dX12_judged_90 : decode cX12_judged 90 = .ok (.aload_n 0, 1) := by decide +kernel
theorem dX12_judged_91 : decode cX12_judged 91 = .ok (.getfield 47, 3) := by decide +kernel
theorem dX12_judged_94 : decode cX12_judged 94 = .ok (.iload_n 3, 1) := by decide +kernel
theorem dX12_judged_95 : decode cX12_judged 95 = .ok (.baload, 1) := by decide +kernel
theorem dX12_judged_96 : decode cX12_judged 96 = .ok (.ifCond .eq 7, 3) := by decide +kernel
theorem dX12_judged_99 : decode cX12_judged 99 = .ok (.iconst 1, 1) := by decide +kernel
theorem dX12_judged_100 : decode cX12_judged 100 = .ok (.goto 4, 3) := by decide +kernel
theorem dX12_judged_103 : decode cX12_judged 103 = .ok (.iconst 0, 1) := by decide +kernel
theorem dX12_judged_104 : decode cX12_judged 104 = .ok (.ireturn, 1) := by decide +kernel
theorem dX12_law_0 : decode cX12_law 0 = .ok (.aload_n 0, 1) := by decide +kernel
theorem dX12_law_1 : decode cX12_law 1 = .ok (.iconst 0, 1) := by decide +kernel
theorem dX12_law_2 : decode cX12_law 2 = .ok (.putfield 78, 3) := by decide +kernel
theorem dX12_law_5 : decode cX12_law 5 = .ok (.aload_n 0, 1) := by decide +kernel
theorem dX12_law_6 : decode cX12_law 6 = .ok (.iload_n 1, 1) := by decide +kernel
theorem dX12_law_7 : decode cX12_law 7 = .ok (.iload_n 2, 1) := by decide +kernel
theorem dX12_law_8 : decode cX12_law 8 = .ok (.invokevirtual 178, 3) := by decide +kernel
theorem dX12_law_11 : decode cX12_law 11 = .ok (.ifCond .ne 5, 3) := by decide +kernel
theorem dX12_law_14 : decode cX12_law 14 = .ok (.iconst (-1), 1) := by decide +kernel
theorem dX12_law_15 : decode cX12_law 15 = .ok (.ireturn, 1) := by decide +kernel
theorem dX12_law_16 : decode cX12_law 16 = .ok (.aload_n 0, 1) := by decide +kernel
theorem dX12_law_17 : decode cX12_law 17 = .ok (.invokevirtual 198, 3) := by decide +kernel
theorem dX12_law_20 : decode cX12_law 20 = .ok (.aload_n 0, 1) := by decide +kernel
theorem dX12_law_21 : decode cX12_law 21 = .ok (.iload_n 2, 1) := by decide +kernel
theorem dX12_law_22 : decode cX12_law 22 = .ok (.invokevirtual 201, 3) := by decide +kernel
theorem dX12_law_25 : decode cX12_law 25 = .ok (.aload_n 0, 1) := by decide +kernel
theorem dX12_law_26 : decode cX12_law 26 = .ok (.iload_n 1, 1) := by decide +kernel
theorem dX12_law_27 : decode cX12_law 27 = .ok (.invokevirtual 214, 3) := by decide +kernel
theorem dX12_law_30 : decode cX12_law 30 = .ok (.ifCond .eq 7, 3) := by decide +kernel
theorem dX12_law_33 : decode cX12_law 33 = .ok (.iconst 1, 1) := by decide +kernel
theorem dX12_law_34 : decode cX12_law 34 = .ok (.goto 4, 3) := by decide +kernel
theorem dX12_law_37 : decode cX12_law 37 = .ok (.iconst 0, 1) := by decide +kernel
theorem dX12_law_38 : decode cX12_law 38 = .ok (.ireturn, 1) := by decide +kernel
theorem dX12_empty_0 : decode cX12_empty 0 = .ok (.aload_n 0, 1) := by decide +kernel
theorem dX12_empty_1 : decode cX12_empty 1 = .ok (.iconst 0, 1) := by decide +kernel
theorem dX12_empty_2 : decode cX12_empty 2 = .ok (.putfield 78, 3) := by decide +kernel
theorem dX12_empty_5 : decode cX12_empty 5 = .ok (.aload_n 0, 1) := by decide +kernel
theorem dX12_empty_6 : decode cX12_empty 6 = .ok (.iload_n 1, 1) := by decide +kernel
theorem dX12_empty_7 : decode cX12_empty 7 = .ok (.iload_n 2, 1) := by decide +kernel
theorem dX12_empty_8 : decode cX12_empty 8 = .ok (.invokevirtual 178, 3) := by decide +kernel
theorem dX12_empty_11 : decode cX12_empty 11 = .ok (.ifCond .ne 5, 3) := by decide +kernel
theorem dX12_empty_14 : decode cX12_empty 14 = .ok (.iconst (-1), 1) := by decide +kernel
theorem dX12_empty_15 : decode cX12_empty 15 = .ok (.ireturn, 1) := by decide +kernel
theorem dX12_empty_16 : decode cX12_empty 16 = .ok (.aload_n 0, 1) := by decide +kernel
theorem dX12_empty_17 : decode cX12_empty 17 = .ok (.iload_n 1, 1) := by decide +kernel
theorem dX12_empty_18 : decode cX12_empty 18 = .ok (.iload_n 2, 1) := by decide +kernel
theorem dX12_empty_19 : decode cX12_empty 19 = .ok (.invokevirtual 210, 3) := by decide +kernel
theorem dX12_empty_22 : decode cX12_empty 22 = .ok (.aload_n 0, 1) := by decide +kernel
theorem dX12_empty_23 : decode cX12_empty 23 = .ok (.invokevirtual 207, 3) := by decide +kernel
theorem dX12_empty_26 : decode cX12_empty 26 = .ok (.ireturn, 1) := by decide +kernel
theorem dX12_boundBy_0 : decode cX12_boundBy 0 = .ok (.iconst 0, 1) := by decide +kernel
theorem dX12_boundBy_1 : decode cX12_boundBy 1 = .ok (.istore_n 1, 1) := by decide +kernel
theorem dX12_boundBy_2 : decode cX12_boundBy 2 = .ok (.iconst 0, 1) := by decide +kernel
theorem dX12_boundBy_3 : decode cX12_boundBy 3 = .ok (.istore_n 2, 1) := by decide +kernel
theorem dX12_boundBy_4 : decode cX12_boundBy 4 = .ok (.iload_n 2, 1) := by decide +kernel
theorem dX12_boundBy_5 : decode cX12_boundBy 5 = .ok (.aload_n 0, 1) := by decide +kernel
theorem dX12_boundBy_6 : decode cX12_boundBy 6 = .ok (.getfield 188, 3) := by decide +kernel
theorem dX12_boundBy_9 : decode cX12_boundBy 9 = .ok (.if_icmp .ge 37, 3) := by decide +kernel
theorem dX12_boundBy_12 : decode cX12_boundBy 12 = .ok (.iload_n 1, 1) := by decide +kernel
theorem dX12_boundBy_13 : decode cX12_boundBy 13 = .ok (.aload_n 0, 1) := by decide +kernel
theorem dX12_boundBy_14 : decode cX12_boundBy 14 = .ok (.getfield 47, 3) := by decide +kernel
theorem dX12_boundBy_17 : decode cX12_boundBy 17 = .ok (.iload_n 2, 1) := by decide +kernel
theorem dX12_boundBy_18 : decode cX12_boundBy 18 = .ok (.baload, 1) := by decide +kernel
theorem dX12_boundBy_19 : decode cX12_boundBy 19 = .ok (.ifCond .eq 18, 3) := by decide +kernel
theorem dX12_boundBy_22 : decode cX12_boundBy 22 = .ok (.iconst 1, 1) := by decide +kernel
theorem dX12_boundBy_23 : decode cX12_boundBy 23 = .ok (.aload_n 0, 1) := by decide +kernel
theorem dX12_boundBy_24 : decode cX12_boundBy 24 = .ok (.getfield 38, 3) := by decide +kernel
theorem dX12_boundBy_27 : decode cX12_boundBy 27 = .ok (.iconst 3, 1) := by decide +kernel
theorem dX12_boundBy_28 : decode cX12_boundBy 28 = .ok (.iload_n 2, 1) := by decide +kernel
theorem dX12_boundBy_29 : decode cX12_boundBy 29 = .ok (.imul, 1) := by decide +kernel
theorem dX12_boundBy_30 : decode cX12_boundBy 30 = .ok (.iconst 1, 1) := by decide +kernel
theorem dX12_boundBy_31 : decode cX12_boundBy 31 = .ok (.iadd, 1) := by decide +kernel
theorem dX12_boundBy_32 : decode cX12_boundBy 32 = .ok (.iaload, 1) := by decide +kernel
theorem dX12_boundBy_33 : decode cX12_boundBy 33 = .ok (.ishl, 1) := by decide +kernel
theorem dX12_boundBy_34 : decode cX12_boundBy 34 = .ok (.goto 4, 3) := by decide +kernel
theorem dX12_boundBy_37 : decode cX12_boundBy 37 = .ok (.iconst 0, 1) := by decide +kernel
theorem dX12_boundBy_38 : decode cX12_boundBy 38 = .ok (.ior, 1) := by decide +kernel
theorem dX12_boundBy_39 : decode cX12_boundBy 39 = .ok (.istore_n 1, 1) := by decide +kernel
theorem dX12_boundBy_40 : decode cX12_boundBy 40 = .ok (.iinc 2 1, 3) := by decide +kernel
theorem dX12_boundBy_43 : decode cX12_boundBy 43 = .ok (.goto (-39), 3) := by decide +kernel
theorem dX12_boundBy_46 : decode cX12_boundBy 46 = .ok (.iload_n 1, 1) := by decide +kernel
theorem dX12_boundBy_47 : decode cX12_boundBy 47 = .ok (.ireturn, 1) := by decide +kernel
theorem dX12_bound_0 : decode cX12_bound 0 = .ok (.aload_n 0, 1) := by decide +kernel
theorem dX12_bound_1 : decode cX12_bound 1 = .ok (.iconst 0, 1) := by decide +kernel
theorem dX12_bound_2 : decode cX12_bound 2 = .ok (.putfield 78, 3) := by decide +kernel
theorem dX12_bound_5 : decode cX12_bound 5 = .ok (.aload_n 0, 1) := by decide +kernel
theorem dX12_bound_6 : decode cX12_bound 6 = .ok (.iload_n 1, 1) := by decide +kernel
theorem dX12_bound_7 : decode cX12_bound 7 = .ok (.iload_n 2, 1) := by decide +kernel
theorem dX12_bound_8 : decode cX12_bound 8 = .ok (.invokevirtual 178, 3) := by decide +kernel
theorem dX12_bound_11 : decode cX12_bound 11 = .ok (.ifCond .ne 5, 3) := by decide +kernel
theorem dX12_bound_14 : decode cX12_bound 14 = .ok (.iconst (-1), 1) := by decide +kernel
theorem dX12_bound_15 : decode cX12_bound 15 = .ok (.ireturn, 1) := by decide +kernel
theorem dX12_bound_16 : decode cX12_bound 16 = .ok (.aload_n 0, 1) := by decide +kernel
theorem dX12_bound_17 : decode cX12_bound 17 = .ok (.iload_n 1, 1) := by decide +kernel
theorem dX12_bound_18 : decode cX12_bound 18 = .ok (.iload_n 2, 1) := by decide +kernel
theorem dX12_bound_19 : decode cX12_bound 19 = .ok (.invokevirtual 210, 3) := by decide +kernel
theorem dX12_bound_22 : decode cX12_bound 22 = .ok (.aload_n 0, 1) := by decide +kernel
theorem dX12_bound_23 : decode cX12_bound 23 = .ok (.invokevirtual 217, 3) := by decide +kernel
theorem dX12_bound_26 : decode cX12_bound 26 = .ok (.ireturn, 1) := by decide +kernel
theorem dX12_leftBy_0 : decode cX12_leftBy 0 = .ok (.iconst 0, 1) := by decide +kernel
theorem dX12_leftBy_1 : decode cX12_leftBy 1 = .ok (.istore_n 2, 1) := by decide +kernel
theorem dX12_leftBy_2 : decode cX12_leftBy 2 = .ok (.iconst 0, 1) := by decide +kernel
theorem dX12_leftBy_3 : decode cX12_leftBy 3 = .ok (.istore_n 3, 1) := by decide +kernel
theorem dX12_leftBy_4 : decode cX12_leftBy 4 = .ok (.iload_n 3, 1) := by decide +kernel
theorem dX12_leftBy_5 : decode cX12_leftBy 5 = .ok (.aload_n 0, 1) := by decide +kernel
theorem dX12_leftBy_6 : decode cX12_leftBy 6 = .ok (.getfield 188, 3) := by decide +kernel
theorem dX12_leftBy_9 : decode cX12_leftBy 9 = .ok (.if_icmp .ge 54, 3) := by decide +kernel
theorem dX12_leftBy_12 : decode cX12_leftBy 12 = .ok (.aload_n 0, 1) := by decide +kernel
theorem dX12_leftBy_13 : decode cX12_leftBy 13 = .ok (.getfield 53, 3) := by decide +kernel
theorem dX12_leftBy_16 : decode cX12_leftBy 16 = .ok (.iload_n 3, 1) := by decide +kernel
theorem dX12_leftBy_17 : decode cX12_leftBy 17 = .ok (.iload_n 1, 1) := by decide +kernel
theorem dX12_leftBy_18 : decode cX12_leftBy 18 = .ok (.iload_n 3, 1) := by decide +kernel
theorem dX12_leftBy_19 : decode cX12_leftBy 19 = .ok (.ishr, 1) := by decide +kernel
theorem dX12_leftBy_20 : decode cX12_leftBy 20 = .ok (.iconst 1, 1) := by decide +kernel
theorem dX12_leftBy_21 : decode cX12_leftBy 21 = .ok (.iand, 1) := by decide +kernel
theorem dX12_leftBy_22 : decode cX12_leftBy 22 = .ok (.iconst 1, 1) := by decide +kernel
theorem dX12_leftBy_23 : decode cX12_leftBy 23 = .ok (.if_icmp .eq 28, 3) := by decide +kernel
theorem dX12_leftBy_26 : decode cX12_leftBy 26 = .ok (.aload_n 0, 1) := by decide +kernel
theorem dX12_leftBy_27 : decode cX12_leftBy 27 = .ok (.getfield 50, 3) := by decide +kernel
theorem dX12_leftBy_30 : decode cX12_leftBy 30 = .ok (.iload_n 3, 1) := by decide +kernel
theorem dX12_leftBy_31 : decode cX12_leftBy 31 = .ok (.iaload, 1) := by decide +kernel
theorem dX12_leftBy_32 : decode cX12_leftBy 32 = .ok (.bipush (-9), 2) := by decide +kernel
theorem dX12_leftBy_34 : decode cX12_leftBy 34 = .ok (.if_icmp .eq 21, 3) := by decide +kernel
theorem dX12_leftBy_37 : decode cX12_leftBy 37 = .ok (.aload_n 0, 1) := by decide +kernel
theorem dX12_leftBy_38 : decode cX12_leftBy 38 = .ok (.getfield 53, 3) := by decide +kernel
theorem dX12_leftBy_41 : decode cX12_leftBy 41 = .ok (.aload_n 0, 1) := by decide +kernel
theorem dX12_leftBy_42 : decode cX12_leftBy 42 = .ok (.getfield 50, 3) := by decide +kernel
theorem dX12_leftBy_45 : decode cX12_leftBy 45 = .ok (.iload_n 3, 1) := by decide +kernel
theorem dX12_leftBy_46 : decode cX12_leftBy 46 = .ok (.iaload, 1) := by decide +kernel
theorem dX12_leftBy_47 : decode cX12_leftBy 47 = .ok (.baload, 1) := by decide +kernel
theorem dX12_leftBy_48 : decode cX12_leftBy 48 = .ok (.ifCond .eq 7, 3) := by decide +kernel
theorem dX12_leftBy_51 : decode cX12_leftBy 51 = .ok (.iconst 1, 1) := by decide +kernel
theorem dX12_leftBy_52 : decode cX12_leftBy 52 = .ok (.goto 4, 3) := by decide +kernel
theorem dX12_leftBy_55 : decode cX12_leftBy 55 = .ok (.iconst 0, 1) := by decide +kernel
theorem dX12_leftBy_56 : decode cX12_leftBy 56 = .ok (.bastore, 1) := by decide +kernel
theorem dX12_leftBy_57 : decode cX12_leftBy 57 = .ok (.iinc 3 1, 3) := by decide +kernel
theorem dX12_leftBy_60 : decode cX12_leftBy 60 = .ok (.goto (-56), 3) := by decide +kernel
theorem dX12_leftBy_63 : decode cX12_leftBy 63 = .ok (.iconst 0, 1) := by decide +kernel
theorem dX12_leftBy_64 : decode cX12_leftBy 64 = .ok (.istore_n 3, 1) := by decide +kernel
theorem dX12_leftBy_65 : decode cX12_leftBy 65 = .ok (.iload_n 3, 1) := by decide +kernel
theorem dX12_leftBy_66 : decode cX12_leftBy 66 = .ok (.aload_n 0, 1) := by decide +kernel
theorem dX12_leftBy_67 : decode cX12_leftBy 67 = .ok (.getfield 188, 3) := by decide +kernel
theorem dX12_leftBy_70 : decode cX12_leftBy 70 = .ok (.if_icmp .ge 55, 3) := by decide +kernel
theorem dX12_leftBy_73 : decode cX12_leftBy 73 = .ok (.iload_n 2, 1) := by decide +kernel
theorem dX12_leftBy_74 : decode cX12_leftBy 74 = .ok (.aload_n 0, 1) := by decide +kernel
theorem dX12_leftBy_75 : decode cX12_leftBy 75 = .ok (.getfield 47, 3) := by decide +kernel
theorem dX12_leftBy_78 : decode cX12_leftBy 78 = .ok (.iload_n 3, 1) := by decide +kernel
theorem dX12_leftBy_79 : decode cX12_leftBy 79 = .ok (.baload, 1) := by decide +kernel
theorem dX12_leftBy_80 : decode cX12_leftBy 80 = .ok (.ifCond .eq 36, 3) := by decide +kernel
theorem dX12_leftBy_83 : decode cX12_leftBy 83 = .ok (.aload_n 0, 1) := by decide +kernel
theorem dX12_leftBy_84 : decode cX12_leftBy 84 = .ok (.getfield 53, 3) := by decide +kernel
theorem dX12_leftBy_87 : decode cX12_leftBy 87 = .ok (.iload_n 3, 1) := by decide +kernel
theorem dX12_leftBy_88 : decode cX12_leftBy 88 = .ok (.baload, 1) := by decide +kernel
theorem dX12_leftBy_89 : decode cX12_leftBy 89 = .ok (.ifCond .ne 27, 3) := by decide +kernel
theorem dX12_leftBy_92 : decode cX12_leftBy 92 = .ok (.aload_n 0, 1) := by decide +kernel
theorem dX12_leftBy_93 : decode cX12_leftBy 93 = .ok (.getfield 44, 3) := by decide +kernel
theorem dX12_leftBy_96 : decode cX12_leftBy 96 = .ok (.iload_n 3, 1) := by decide +kernel
theorem dX12_leftBy_97 : decode cX12_leftBy 97 = .ok (.baload, 1) := by decide +kernel
theorem dX12_leftBy_98 : decode cX12_leftBy 98 = .ok (.ifCond .eq 12, 3) := by decide +kernel
theorem dX12_leftBy_101 : decode cX12_leftBy 101 = .ok (.aload_n 0, 1) := by decide +kernel
theorem dX12_leftBy_102 : decode cX12_leftBy 102 = .ok (.iload_n 3, 1) := by decide +kernel
theorem dX12_leftBy_103 : decode cX12_leftBy 103 = .ok (.iconst 1, 1) := by decide +kernel
theorem dX12_leftBy_104 : decode cX12_leftBy 104 = .ok (.invokevirtual 194, 3) := by decide +kernel
theorem dX12_leftBy_107 : decode cX12_leftBy 107 = .ok (.ifCond .eq 9, 3) := by decide +kernel
theorem dX12_leftBy_110 : decode cX12_leftBy 110 = .ok (.iconst 1, 1) := by decide +kernel
theorem dX12_leftBy_111 : decode cX12_leftBy 111 = .ok (.iload_n 3, 1) := by decide +kernel
theorem dX12_leftBy_112 : decode cX12_leftBy 112 = .ok (.ishl, 1) := by decide +kernel
theorem dX12_leftBy_113 : decode cX12_leftBy 113 = .ok (.goto 4, 3) := by decide +kernel
theorem dX12_leftBy_116 : decode cX12_leftBy 116 = .ok (.iconst 0, 1) := by decide +kernel
theorem dX12_leftBy_117 : decode cX12_leftBy 117 = .ok (.ior, 1) := by decide +kernel
theorem dX12_leftBy_118 : decode cX12_leftBy 118 = .ok (.istore_n 2, 1) := by decide +kernel
theorem dX12_leftBy_119 : decode cX12_leftBy 119 = .ok (.iinc 3 1, 3) := by decide +kernel
theorem dX12_leftBy_122 : decode cX12_leftBy 122 = .ok (.goto (-57), 3) := by decide +kernel
theorem dX12_leftBy_125 : decode cX12_leftBy 125 = .ok (.iload_n 2, 1) := by decide +kernel
theorem dX12_leftBy_126 : decode cX12_leftBy 126 = .ok (.ireturn, 1) := by decide +kernel
theorem dX12_struck_0 : decode cX12_struck 0 = .ok (.aload_n 0, 1) := by decide +kernel
theorem dX12_struck_1 : decode cX12_struck 1 = .ok (.iconst 0, 1) := by decide +kernel
theorem dX12_struck_2 : decode cX12_struck 2 = .ok (.putfield 78, 3) := by decide +kernel
theorem dX12_struck_5 : decode cX12_struck 5 = .ok (.aload_n 0, 1) := by decide +kernel
theorem dX12_struck_6 : decode cX12_struck 6 = .ok (.iload_n 1, 1) := by decide +kernel
theorem dX12_struck_7 : decode cX12_struck 7 = .ok (.iload_n 2, 1) := by decide +kernel
theorem dX12_struck_8 : decode cX12_struck 8 = .ok (.invokevirtual 178, 3) := by decide +kernel
theorem dX12_struck_11 : decode cX12_struck 11 = .ok (.ifCond .ne 5, 3) := by decide +kernel
theorem dX12_struck_14 : decode cX12_struck 14 = .ok (.iconst (-1), 1) := by decide +kernel
theorem dX12_struck_15 : decode cX12_struck 15 = .ok (.ireturn, 1) := by decide +kernel
theorem dX12_struck_16 : decode cX12_struck 16 = .ok (.aload_n 0, 1) := by decide +kernel
theorem dX12_struck_17 : decode cX12_struck 17 = .ok (.iload_n 1, 1) := by decide +kernel
theorem dX12_struck_18 : decode cX12_struck 18 = .ok (.iload_n 2, 1) := by decide +kernel
theorem dX12_struck_19 : decode cX12_struck 19 = .ok (.invokevirtual 210, 3) := by decide +kernel
theorem dX12_struck_22 : decode cX12_struck 22 = .ok (.aload_n 0, 1) := by decide +kernel
theorem dX12_struck_23 : decode cX12_struck 23 = .ok (.iload_n 3, 1) := by decide +kernel
theorem dX12_struck_24 : decode cX12_struck 24 = .ok (.invokevirtual 220, 3) := by decide +kernel
theorem dX12_struck_27 : decode cX12_struck 27 = .ok (.ireturn, 1) := by decide +kernel
theorem dX12_ones_0 : decode cX12_ones 0 = .ok (.iconst 0, 1) := by decide +kernel
theorem dX12_ones_1 : decode cX12_ones 1 = .ok (.istore_n 1, 1) := by decide +kernel
theorem dX12_ones_2 : decode cX12_ones 2 = .ok (.iconst 0, 1) := by decide +kernel
theorem dX12_ones_3 : decode cX12_ones 3 = .ok (.istore_n 2, 1) := by decide +kernel
theorem dX12_ones_4 : decode cX12_ones 4 = .ok (.iload_n 2, 1) := by decide +kernel
theorem dX12_ones_5 : decode cX12_ones 5 = .ok (.bipush 16, 2) := by decide +kernel
theorem dX12_ones_7 : decode cX12_ones 7 = .ok (.if_icmp .ge 17, 3) := by decide +kernel
theorem dX12_ones_10 : decode cX12_ones 10 = .ok (.iload_n 1, 1) := by decide +kernel
theorem dX12_ones_11 : decode cX12_ones 11 = .ok (.iload_n 0, 1) := by decide +kernel
theorem dX12_ones_12 : decode cX12_ones 12 = .ok (.iload_n 2, 1) := by decide +kernel
theorem dX12_ones_13 : decode cX12_ones 13 = .ok (.ishr, 1) := by decide +kernel
theorem dX12_ones_14 : decode cX12_ones 14 = .ok (.iconst 1, 1) := by decide +kernel
theorem dX12_ones_15 : decode cX12_ones 15 = .ok (.iand, 1) := by decide +kernel
theorem dX12_ones_16 : decode cX12_ones 16 = .ok (.iadd, 1) := by decide +kernel
theorem dX12_ones_17 : decode cX12_ones 17 = .ok (.istore_n 1, 1) := by decide +kernel
theorem dX12_ones_18 : decode cX12_ones 18 = .ok (.iinc 2 1, 3) := by decide +kernel
theorem dX12_ones_21 : decode cX12_ones 21 = .ok (.goto (-17), 3) := by decide +kernel
theorem dX12_ones_24 : decode cX12_ones 24 = .ok (.iload_n 1, 1) := by decide +kernel
theorem dX12_ones_25 : decode cX12_ones 25 = .ok (.ireturn, 1) := by decide +kernel
theorem dX12_key_0 : decode cX12_key 0 = .ok (.aload_n 0, 1) := by decide +kernel
theorem dX12_key_1 : decode cX12_key 1 = .ok (.iconst 0, 1) := by decide +kernel
theorem dX12_key_2 : decode cX12_key 2 = .ok (.putfield 78, 3) := by decide +kernel
theorem dX12_key_5 : decode cX12_key 5 = .ok (.aload_n 0, 1) := by decide +kernel
theorem dX12_key_6 : decode cX12_key 6 = .ok (.iload_n 1, 1) := by decide +kernel
theorem dX12_key_7 : decode cX12_key 7 = .ok (.iload_n 2, 1) := by decide +kernel
theorem dX12_key_8 : decode cX12_key 8 = .ok (.invokevirtual 178, 3) := by decide +kernel
theorem dX12_key_11 : decode cX12_key 11 = .ok (.ifCond .ne 5, 3) := by decide +kernel
theorem dX12_key_14 : decode cX12_key 14 = .ok (.iconst (-1), 1) := by decide +kernel
theorem dX12_key_15 : decode cX12_key 15 = .ok (.ireturn, 1) := by decide +kernel
theorem dX12_key_16 : decode cX12_key 16 = .ok (.aload_n 0, 1) := by decide +kernel
theorem dX12_key_17 : decode cX12_key 17 = .ok (.iload_n 1, 1) := by decide +kernel
theorem dX12_key_18 : decode cX12_key 18 = .ok (.iload_n 2, 1) := by decide +kernel
theorem dX12_key_19 : decode cX12_key 19 = .ok (.invokevirtual 210, 3) := by decide +kernel
theorem dX12_key_22 : decode cX12_key 22 = .ok (.bipush (-9), 2) := by decide +kernel
theorem dX12_key_24 : decode cX12_key 24 = .ok (.istore_n 3, 1) := by decide +kernel
theorem dX12_key_25 : decode cX12_key 25 = .ok (.iconst 0, 1) := by decide +kernel
theorem dX12_key_26 : decode cX12_key 26 = .ok (.istore 4, 2) := by decide +kernel
theorem dX12_key_28 : decode cX12_key 28 = .ok (.iconst 0, 1) := by decide +kernel
theorem dX12_key_29 : decode cX12_key 29 = .ok (.istore 5, 2) := by decide +kernel
theorem dX12_key_31 : decode cX12_key 31 = .ok (.iload 5, 2) := by decide +kernel
theorem dX12_key_33 : decode cX12_key 33 = .ok (.aload_n 0, 1) := by decide +kernel
theorem dX12_key_34 : decode cX12_key 34 = .ok (.getfield 188, 3) := by decide +kernel
theorem dX12_key_37 : decode cX12_key 37 = .ok (.if_icmp .ge 57, 3) := by decide +kernel
theorem dX12_key_40 : decode cX12_key 40 = .ok (.aload_n 0, 1) := by decide +kernel
theorem dX12_key_41 : decode cX12_key 41 = .ok (.iconst 1, 1) := by decide +kernel
theorem dX12_key_42 : decode cX12_key 42 = .ok (.iload 5, 2) := by decide +kernel
theorem dX12_key_44 : decode cX12_key 44 = .ok (.ishl, 1) := by decide +kernel
theorem dX12_key_45 : decode cX12_key 45 = .ok (.invokevirtual 220, 3) := by decide +kernel
theorem dX12_key_48 : decode cX12_key 48 = .ok (.invokestatic 223, 3) := by decide +kernel
theorem dX12_key_51 : decode cX12_key 51 = .ok (.istore 6, 2) := by decide +kernel
theorem dX12_key_53 : decode cX12_key 53 = .ok (.iload_n 3, 1) := by decide +kernel
theorem dX12_key_54 : decode cX12_key 54 = .ok (.bipush (-9), 2) := by decide +kernel
theorem dX12_key_56 : decode cX12_key 56 = .ok (.if_icmp .eq 10, 3) := by decide +kernel
theorem dX12_key_59 : decode cX12_key 59 = .ok (.iload 6, 2) := by decide +kernel
theorem dX12_key_61 : decode cX12_key 61 = .ok (.iload 4, 2) := by decide +kernel
theorem dX12_key_63 : decode cX12_key 63 = .ok (.if_icmp .ge 8, 3) := by decide +kernel
theorem dX12_key_66 : decode cX12_key 66 = .ok (.iload 5, 2) := by decide +kernel
theorem dX12_key_68 : decode cX12_key 68 = .ok (.goto 4, 3) := by decide +kernel
theorem dX12_key_71 : decode cX12_key 71 = .ok (.iload_n 3, 1) := by decide +kernel
theorem dX12_key_72 : decode cX12_key 72 = .ok (.istore_n 3, 1) := by decide +kernel
theorem dX12_key_73 : decode cX12_key 73 = .ok (.iload_n 3, 1) := by decide +kernel
theorem dX12_key_74 : decode cX12_key 74 = .ok (.iload 5, 2) := by decide +kernel
theorem dX12_key_76 : decode cX12_key 76 = .ok (.if_icmp .ne 8, 3) := by decide +kernel
theorem dX12_key_79 : decode cX12_key 79 = .ok (.iload 6, 2) := by decide +kernel
theorem dX12_key_81 : decode cX12_key 81 = .ok (.goto 5, 3) := by decide +kernel
theorem dX12_key_84 : decode cX12_key 84 = .ok (.iload 4, 2) := by decide +kernel
theorem dX12_key_86 : decode cX12_key 86 = .ok (.istore 4, 2) := by decide +kernel
theorem dX12_key_88 : decode cX12_key 88 = .ok (.iinc 5 1, 3) := by decide +kernel
theorem dX12_key_91 : decode cX12_key 91 = .ok (.goto (-60), 3) := by decide +kernel
theorem dX12_key_94 : decode cX12_key 94 = .ok (.iload_n 3, 1) := by decide +kernel
theorem dX12_key_95 : decode cX12_key 95 = .ok (.ireturn, 1) := by decide +kernel
theorem dX12_fewestOf_0 : decode cX12_fewestOf 0 = .ok (.iconst 0, 1) := by decide +kernel
theorem dX12_fewestOf_1 : decode cX12_fewestOf 1 = .ok (.istore 4, 2) := by decide +kernel
theorem dX12_fewestOf_3 : decode cX12_fewestOf 3 = .ok (.iconst 0, 1) := by decide +kernel
theorem dX12_fewestOf_4 : decode cX12_fewestOf 4 = .ok (.istore 5, 2) := by decide +kernel
theorem dX12_fewestOf_6 : decode cX12_fewestOf 6 = .ok (.iload 5, 2) := by decide +kernel
theorem dX12_fewestOf_8 : decode cX12_fewestOf 8 = .ok (.aload_n 0, 1) := by decide +kernel
theorem dX12_fewestOf_9 : decode cX12_fewestOf 9 = .ok (.getfield 166, 3) := by decide +kernel
theorem dX12_fewestOf_12 : decode cX12_fewestOf 12 = .ok (.if_icmp .ge 17, 3) := by decide +kernel
theorem dX12_fewestOf_15 : decode cX12_fewestOf 15 = .ok (.aload_n 0, 1) := by decide +kernel
theorem dX12_fewestOf_16 : decode cX12_fewestOf 16 = .ok (.getfield 72, 3) := by decide +kernel
theorem dX12_fewestOf_19 : decode cX12_fewestOf 19 = .ok (.iload 5, 2) := by decide +kernel
theorem dX12_fewestOf_21 : decode cX12_fewestOf 21 = .ok (.iconst 0, 1) := by decide +kernel
theorem dX12_fewestOf_22 : decode cX12_fewestOf 22 = .ok (.iastore, 1) := by decide +kernel
theorem dX12_fewestOf_23 : decode cX12_fewestOf 23 = .ok (.iinc 5 1, 3) := by decide +kernel
theorem dX12_fewestOf_26 : decode cX12_fewestOf 26 = .ok (.goto (-20), 3) := by decide +kernel
theorem dX12_fewestOf_29 : decode cX12_fewestOf 29 = .ok (.iconst 0, 1) := by decide +kernel
theorem dX12_fewestOf_30 : decode cX12_fewestOf 30 = .ok (.istore 5, 2) := by decide +kernel
theorem dX12_fewestOf_32 : decode cX12_fewestOf 32 = .ok (.iload 5, 2) := by decide +kernel
theorem dX12_fewestOf_34 : decode cX12_fewestOf 34 = .ok (.aload_n 0, 1) := by decide +kernel
theorem dX12_fewestOf_35 : decode cX12_fewestOf 35 = .ok (.getfield 188, 3) := by decide +kernel
theorem dX12_fewestOf_38 : decode cX12_fewestOf 38 = .ok (.if_icmp .ge 253, 3) := by decide +kernel
theorem dX12_fewestOf_41 : decode cX12_fewestOf 41 = .ok (.aload_n 0, 1) := by decide +kernel
theorem dX12_fewestOf_42 : decode cX12_fewestOf 42 = .ok (.iload_n 1, 1) := by decide +kernel
theorem dX12_fewestOf_43 : decode cX12_fewestOf 43 = .ok (.iload 5, 2) := by decide +kernel
theorem dX12_fewestOf_45 : decode cX12_fewestOf 45 = .ok (.invokevirtual 182, 3) := by decide +kernel
theorem dX12_fewestOf_48 : decode cX12_fewestOf 48 = .ok (.iload_n 2, 1) := by decide +kernel
theorem dX12_fewestOf_49 : decode cX12_fewestOf 49 = .ok (.if_icmp .ne 236, 3) := by decide +kernel
theorem dX12_fewestOf_52 : decode cX12_fewestOf 52 = .ok (.iconst 0, 1) := by decide +kernel
theorem dX12_fewestOf_53 : decode cX12_fewestOf 53 = .ok (.istore 6, 2) := by decide +kernel
theorem dX12_fewestOf_55 : decode cX12_fewestOf 55 = .ok (.iload 6, 2) := by decide +kernel
theorem dX12_fewestOf_57 : decode cX12_fewestOf 57 = .ok (.aload_n 0, 1) := by decide +kernel
theorem dX12_fewestOf_58 : decode cX12_fewestOf 58 = .ok (.getfield 166, 3) := by decide +kernel
theorem dX12_fewestOf_61 : decode cX12_fewestOf 61 = .ok (.if_icmp .ge 189, 3) := by decide +kernel
theorem dX12_fewestOf_64 : decode cX12_fewestOf 64 = .ok (.aload_n 0, 1) := by decide +kernel
theorem dX12_fewestOf_65 : decode cX12_fewestOf 65 = .ok (.getfield 75, 3) := by decide +kernel
theorem dX12_fewestOf_68 : decode cX12_fewestOf 68 = .ok (.iload 6, 2) := by decide +kernel
theorem dX12_fewestOf_70 : decode cX12_fewestOf 70 = .ok (.sipush 1000, 3) := by decide +kernel
theorem dX12_fewestOf_73 : decode cX12_fewestOf 73 = .ok (.iastore, 1) := by decide +kernel
theorem dX12_fewestOf_74 : decode cX12_fewestOf 74 = .ok (.aload_n 0, 1) := by decide +kernel
theorem dX12_fewestOf_75 : decode cX12_fewestOf 75 = .ok (.getfield 59, 3) := by decide +kernel
theorem dX12_fewestOf_78 : decode cX12_fewestOf 78 = .ok (.iload 5, 2) := by decide +kernel
theorem dX12_fewestOf_80 : decode cX12_fewestOf 80 = .ok (.iaload, 1) := by decide +kernel
theorem dX12_fewestOf_81 : decode cX12_fewestOf 81 = .ok (.iload 6, 2) := by decide +kernel
theorem dX12_fewestOf_83 : decode cX12_fewestOf 83 = .ok (.ishr, 1) := by decide +kernel
theorem dX12_fewestOf_84 : decode cX12_fewestOf 84 = .ok (.iconst 1, 1) := by decide +kernel
theorem dX12_fewestOf_85 : decode cX12_fewestOf 85 = .ok (.iand, 1) := by decide +kernel
theorem dX12_fewestOf_86 : decode cX12_fewestOf 86 = .ok (.iconst 1, 1) := by decide +kernel
theorem dX12_fewestOf_87 : decode cX12_fewestOf 87 = .ok (.if_icmp .ne 30, 3) := by decide +kernel
theorem dX12_fewestOf_90 : decode cX12_fewestOf 90 = .ok (.aload_n 0, 1) := by decide +kernel
theorem dX12_fewestOf_91 : decode cX12_fewestOf 91 = .ok (.getfield 56, 3) := by decide +kernel
theorem dX12_fewestOf_94 : decode cX12_fewestOf 94 = .ok (.iload 6, 2) := by decide +kernel
theorem dX12_fewestOf_96 : decode cX12_fewestOf 96 = .ok (.iaload, 1) := by decide +kernel
theorem dX12_fewestOf_97 : decode cX12_fewestOf 97 = .ok (.iload_n 3, 1) := by decide +kernel
theorem dX12_fewestOf_98 : decode cX12_fewestOf 98 = .ok (.if_icmp .ne 19, 3) := by decide +kernel
theorem dX12_fewestOf_101 : decode cX12_fewestOf 101 = .ok (.aload_n 0, 1) := by decide +kernel
theorem dX12_fewestOf_102 : decode cX12_fewestOf 102 = .ok (.iload_n 1, 1) := by decide +kernel
theorem dX12_fewestOf_103 : decode cX12_fewestOf 103 = .ok (.iload 5, 2) := by decide +kernel
theorem dX12_fewestOf_105 : decode cX12_fewestOf 105 = .ok (.iload 6, 2) := by decide +kernel
theorem dX12_fewestOf_107 : decode cX12_fewestOf 107 = .ok (.invokevirtual 191, 3) := by decide +kernel
theorem dX12_fewestOf_110 : decode cX12_fewestOf 110 = .ok (.ifCond .eq 7, 3) := by decide +kernel
theorem dX12_fewestOf_113 : decode cX12_fewestOf 113 = .ok (.iconst 1, 1) := by decide +kernel
theorem dX12_fewestOf_114 : decode cX12_fewestOf 114 = .ok (.goto 4, 3) := by decide +kernel
theorem dX12_fewestOf_117 : decode cX12_fewestOf 117 = .ok (.iconst 0, 1) := by decide +kernel
theorem dX12_fewestOf_118 : decode cX12_fewestOf 118 = .ok (.istore 7, 2) := by decide +kernel
theorem dX12_fewestOf_120 : decode cX12_fewestOf 120 = .ok (.iconst 0, 1) := by decide +kernel
theorem dX12_fewestOf_121 : decode cX12_fewestOf 121 = .ok (.istore 8, 2) := by decide +kernel
theorem dX12_fewestOf_123 : decode cX12_fewestOf 123 = .ok (.iload 8, 2) := by decide +kernel
theorem dX12_fewestOf_125 : decode cX12_fewestOf 125 = .ok (.aload_n 0, 1) := by decide +kernel
theorem dX12_fewestOf_126 : decode cX12_fewestOf 126 = .ok (.getfield 166, 3) := by decide +kernel
theorem dX12_fewestOf_129 : decode cX12_fewestOf 129 = .ok (.if_icmp .ge 115, 3) := by decide +kernel
theorem dX12_fewestOf_132 : decode cX12_fewestOf 132 = .ok (.iload 7, 2) := by decide +kernel
theorem dX12_fewestOf_134 : decode cX12_fewestOf 134 = .ok (.ifCond .eq 110, 3) := by decide +kernel
theorem dX12_fewestOf_137 : decode cX12_fewestOf 137 = .ok (.iload 4, 2) := by decide +kernel
theorem dX12_fewestOf_139 : decode cX12_fewestOf 139 = .ok (.ifCond .ne 18, 3) := by decide +kernel
theorem dX12_fewestOf_142 : decode cX12_fewestOf 142 = .ok (.iload 8, 2) := by decide +kernel
theorem dX12_fewestOf_144 : decode cX12_fewestOf 144 = .ok (.iload 6, 2) := by decide +kernel
theorem dX12_fewestOf_146 : decode cX12_fewestOf 146 = .ok (.if_icmp .ne 7, 3) := by decide +kernel
theorem dX12_fewestOf_149 : decode cX12_fewestOf 149 = .ok (.iconst 1, 1) := by decide +kernel
theorem dX12_fewestOf_150 : decode cX12_fewestOf 150 = .ok (.goto 19, 3) := by decide +kernel
theorem dX12_fewestOf_153 : decode cX12_fewestOf 153 = .ok (.iconst 0, 1) := by decide +kernel
theorem dX12_fewestOf_154 : decode cX12_fewestOf 154 = .ok (.goto 15, 3) := by decide +kernel
theorem dX12_fewestOf_157 : decode cX12_fewestOf 157 = .ok (.iload 8, 2) := by decide +kernel
theorem dX12_fewestOf_159 : decode cX12_fewestOf 159 = .ok (.iload 6, 2) := by decide +kernel
theorem dX12_fewestOf_161 : decode cX12_fewestOf 161 = .ok (.if_icmp .eq 7, 3) := by decide +kernel
theorem dX12_fewestOf_164 : decode cX12_fewestOf 164 = .ok (.iconst 1, 1) := by decide +kernel
theorem dX12_fewestOf_165 : decode cX12_fewestOf 165 = .ok (.goto 4, 3) := by decide +kernel
theorem dX12_fewestOf_168 : decode cX12_fewestOf 168 = .ok (.iconst 0, 1) := by decide +kernel
theorem dX12_fewestOf_169 : decode cX12_fewestOf 169 = .ok (.istore 9, 2) := by decide +kernel
theorem dX12_fewestOf_171 : decode cX12_fewestOf 171 = .ok (.aload_n 0, 1) := by decide +kernel
theorem dX12_fewestOf_172 : decode cX12_fewestOf 172 = .ok (.getfield 72, 3) := by decide +kernel
theorem dX12_fewestOf_175 : decode cX12_fewestOf 175 = .ok (.iload 8, 2) := by decide +kernel
theorem dX12_fewestOf_177 : decode cX12_fewestOf 177 = .ok (.iaload, 1) := by decide +kernel
theorem dX12_fewestOf_178 : decode cX12_fewestOf 178 = .ok (.iload 6, 2) := by decide +kernel
theorem dX12_fewestOf_180 : decode cX12_fewestOf 180 = .ok (.aload_n 0, 1) := by decide +kernel
theorem dX12_fewestOf_181 : decode cX12_fewestOf 181 = .ok (.getfield 28, 3) := by decide +kernel
theorem dX12_fewestOf_184 : decode cX12_fewestOf 184 = .ok (.iconst 1, 1) := by decide +kernel
theorem dX12_fewestOf_185 : decode cX12_fewestOf 185 = .ok (.iconst 3, 1) := by decide +kernel
theorem dX12_fewestOf_186 : decode cX12_fewestOf 186 = .ok (.iload 5, 2) := by decide +kernel
theorem dX12_fewestOf_188 : decode cX12_fewestOf 188 = .ok (.imul, 1) := by decide +kernel
theorem dX12_fewestOf_189 : decode cX12_fewestOf 189 = .ok (.iadd, 1) := by decide +kernel
theorem dX12_fewestOf_190 : decode cX12_fewestOf 190 = .ok (.iaload, 1) := by decide +kernel
theorem dX12_fewestOf_191 : decode cX12_fewestOf 191 = .ok (.if_icmp .ne 7, 3) := by decide +kernel
theorem dX12_fewestOf_194 : decode cX12_fewestOf 194 = .ok (.iconst 0, 1) := by decide +kernel
theorem dX12_fewestOf_195 : decode cX12_fewestOf 195 = .ok (.goto 4, 3) := by decide +kernel
theorem dX12_fewestOf_198 : decode cX12_fewestOf 198 = .ok (.iconst 1, 1) := by decide +kernel
theorem dX12_fewestOf_199 : decode cX12_fewestOf 199 = .ok (.iadd, 1) := by decide +kernel
theorem dX12_fewestOf_200 : decode cX12_fewestOf 200 = .ok (.istore 10, 2) := by decide +kernel
theorem dX12_fewestOf_202 : decode cX12_fewestOf 202 = .ok (.aload_n 0, 1) := by decide +kernel
theorem dX12_fewestOf_203 : decode cX12_fewestOf 203 = .ok (.getfield 75, 3) := by decide +kernel
theorem dX12_fewestOf_206 : decode cX12_fewestOf 206 = .ok (.iload 6, 2) := by decide +kernel
theorem dX12_fewestOf_208 : decode cX12_fewestOf 208 = .ok (.iload 9, 2) := by decide +kernel
theorem dX12_fewestOf_210 : decode cX12_fewestOf 210 = .ok (.ifCond .eq 20, 3) := by decide +kernel
theorem dX12_fewestOf_213 : decode cX12_fewestOf 213 = .ok (.iload 10, 2) := by decide +kernel
theorem dX12_fewestOf_215 : decode cX12_fewestOf 215 = .ok (.aload_n 0, 1) := by decide +kernel
theorem dX12_fewestOf_216 : decode cX12_fewestOf 216 = .ok (.getfield 75, 3) := by decide +kernel
theorem dX12_fewestOf_219 : decode cX12_fewestOf 219 = .ok (.iload 6, 2) := by decide +kernel
theorem dX12_fewestOf_221 : decode cX12_fewestOf 221 = .ok (.iaload, 1) := by decide +kernel
theorem dX12_fewestOf_222 : decode cX12_fewestOf 222 = .ok (.if_icmp .ge 8, 3) := by decide +kernel
theorem dX12_fewestOf_225 : decode cX12_fewestOf 225 = .ok (.iload 10, 2) := by decide +kernel
theorem dX12_fewestOf_227 : decode cX12_fewestOf 227 = .ok (.goto 10, 3) := by decide +kernel
theorem dX12_fewestOf_230 : decode cX12_fewestOf 230 = .ok (.aload_n 0, 1) := by decide +kernel
theorem dX12_fewestOf_231 : decode cX12_fewestOf 231 = .ok (.getfield 75, 3) := by decide +kernel
theorem dX12_fewestOf_234 : decode cX12_fewestOf 234 = .ok (.iload 6, 2) := by decide +kernel
theorem dX12_fewestOf_236 : decode cX12_fewestOf 236 = .ok (.iaload, 1) := by decide +kernel
theorem dX12_fewestOf_237 : decode cX12_fewestOf 237 = .ok (.iastore, 1) := by decide +kernel
theorem dX12_fewestOf_238 : decode cX12_fewestOf 238 = .ok (.iinc 8 1, 3) := by decide +kernel
theorem dX12_fewestOf_241 : decode cX12_fewestOf 241 = .ok (.goto (-118), 3) := by decide +kernel
theorem dX12_fewestOf_244 : decode cX12_fewestOf 244 = .ok (.iinc 6 1, 3) := by decide +kernel
theorem dX12_fewestOf_247 : decode cX12_fewestOf 247 = .ok (.goto (-192), 3) := by decide +kernel
theorem dX12_fewestOf_250 : decode cX12_fewestOf 250 = .ok (.iconst 0, 1) := by decide +kernel
theorem dX12_fewestOf_251 : decode cX12_fewestOf 251 = .ok (.istore 6, 2) := by decide +kernel
theorem dX12_fewestOf_253 : decode cX12_fewestOf 253 = .ok (.iload 6, 2) := by decide +kernel
theorem dX12_fewestOf_255 : decode cX12_fewestOf 255 = .ok (.aload_n 0, 1) := by decide +kernel
theorem dX12_fewestOf_256 : decode cX12_fewestOf 256 = .ok (.getfield 166, 3) := by decide +kernel
theorem dX12_fewestOf_259 : decode cX12_fewestOf 259 = .ok (.if_icmp .ge 23, 3) := by decide +kernel
theorem dX12_fewestOf_262 : decode cX12_fewestOf 262 = .ok (.aload_n 0, 1) := by decide +kernel
theorem dX12_fewestOf_263 : decode cX12_fewestOf 263 = .ok (.getfield 72, 3) := by decide +kernel
theorem dX12_fewestOf_266 : decode cX12_fewestOf 266 = .ok (.iload 6, 2) := by decide +kernel
theorem dX12_fewestOf_268 : decode cX12_fewestOf 268 = .ok (.aload_n 0, 1) := by decide +kernel
theorem dX12_fewestOf_269 : decode cX12_fewestOf 269 = .ok (.getfield 75, 3) := by decide +kernel
theorem dX12_fewestOf_272 : decode cX12_fewestOf 272 = .ok (.iload 6, 2) := by decide +kernel
theorem dX12_fewestOf_274 : decode cX12_fewestOf 274 = .ok (.iaload, 1) := by decide +kernel
theorem dX12_fewestOf_275 : decode cX12_fewestOf 275 = .ok (.iastore, 1) := by decide +kernel
theorem dX12_fewestOf_276 : decode cX12_fewestOf 276 = .ok (.iinc 6 1, 3) := by decide +kernel
theorem dX12_fewestOf_279 : decode cX12_fewestOf 279 = .ok (.goto (-26), 3) := by decide +kernel
theorem dX12_fewestOf_282 : decode cX12_fewestOf 282 = .ok (.iinc 4 1, 3) := by decide +kernel
theorem dX12_fewestOf_285 : decode cX12_fewestOf 285 = .ok (.iinc 5 1, 3) := by decide +kernel
theorem dX12_fewestOf_288 : decode cX12_fewestOf 288 = .ok (.goto (-256), 3) := by decide +kernel
theorem dX12_fewestOf_291 : decode cX12_fewestOf 291 = .ok (.iload 4, 2) := by decide +kernel
theorem dX12_fewestOf_293 : decode cX12_fewestOf 293 = .ok (.ifCond .ne 7, 3) := by decide +kernel
theorem dX12_fewestOf_296 : decode cX12_fewestOf 296 = .ok (.iconst 0, 1) := by decide +kernel
theorem dX12_fewestOf_297 : decode cX12_fewestOf 297 = .ok (.goto 6, 3) := by decide +kernel
theorem dX12_fewestOf_300 : decode cX12_fewestOf 300 = .ok (.sipush 1000, 3) := by decide +kernel
theorem dX12_fewestOf_303 : decode cX12_fewestOf 303 = .ok (.istore 5, 2) := by decide +kernel
theorem dX12_fewestOf_305 : decode cX12_fewestOf 305 = .ok (.iconst 0, 1) := by decide +kernel
theorem dX12_fewestOf_306 : decode cX12_fewestOf 306 = .ok (.istore 6, 2) := by decide +kernel
theorem dX12_fewestOf_308 : decode cX12_fewestOf 308 = .ok (.iload 6, 2) := by decide +kernel
theorem dX12_fewestOf_310 : decode cX12_fewestOf 310 = .ok (.aload_n 0, 1) := by decide +kernel
theorem dX12_fewestOf_311 : decode cX12_fewestOf 311 = .ok (.getfield 166, 3) := by decide +kernel
theorem dX12_fewestOf_314 : decode cX12_fewestOf 314 = .ok (.if_icmp .ge 41, 3) := by decide +kernel
theorem dX12_fewestOf_317 : decode cX12_fewestOf 317 = .ok (.iload 4, 2) := by decide +kernel
theorem dX12_fewestOf_319 : decode cX12_fewestOf 319 = .ok (.iconst 1, 1) := by decide +kernel
theorem dX12_fewestOf_320 : decode cX12_fewestOf 320 = .ok (.if_icmp .le 35, 3) := by decide +kernel
theorem dX12_fewestOf_323 : decode cX12_fewestOf 323 = .ok (.aload_n 0, 1) := by decide +kernel
theorem dX12_fewestOf_324 : decode cX12_fewestOf 324 = .ok (.getfield 72, 3) := by decide +kernel
theorem dX12_fewestOf_327 : decode cX12_fewestOf 327 = .ok (.iload 6, 2) := by decide +kernel
theorem dX12_fewestOf_329 : decode cX12_fewestOf 329 = .ok (.iaload, 1) := by decide +kernel
theorem dX12_fewestOf_330 : decode cX12_fewestOf 330 = .ok (.iload 5, 2) := by decide +kernel
theorem dX12_fewestOf_332 : decode cX12_fewestOf 332 = .ok (.if_icmp .ge 13, 3) := by decide +kernel
theorem dX12_fewestOf_335 : decode cX12_fewestOf 335 = .ok (.aload_n 0, 1) := by decide +kernel
theorem dX12_fewestOf_336 : decode cX12_fewestOf 336 = .ok (.getfield 72, 3) := by decide +kernel
theorem dX12_fewestOf_339 : decode cX12_fewestOf 339 = .ok (.iload 6, 2) := by decide +kernel
theorem dX12_fewestOf_341 : decode cX12_fewestOf 341 = .ok (.iaload, 1) := by decide +kernel
theorem dX12_fewestOf_342 : decode cX12_fewestOf 342 = .ok (.goto 5, 3) := by decide +kernel
theorem dX12_fewestOf_345 : decode cX12_fewestOf 345 = .ok (.iload 5, 2) := by decide +kernel
theorem dX12_fewestOf_347 : decode cX12_fewestOf 347 = .ok (.istore 5, 2) := by decide +kernel
theorem dX12_fewestOf_349 : decode cX12_fewestOf 349 = .ok (.iinc 6 1, 3) := by decide +kernel
theorem dX12_fewestOf_352 : decode cX12_fewestOf 352 = .ok (.goto (-44), 3) := by decide +kernel
theorem dX12_fewestOf_355 : decode cX12_fewestOf 355 = .ok (.iload 5, 2) := by decide +kernel
theorem dX12_fewestOf_357 : decode cX12_fewestOf 357 = .ok (.ireturn, 1) := by decide +kernel
theorem dX12_fewestAll_0 : decode cX12_fewestAll 0 = .ok (.iconst 0, 1) := by decide +kernel
theorem dX12_fewestAll_1 : decode cX12_fewestAll 1 = .ok (.istore_n 2, 1) := by decide +kernel
theorem dX12_fewestAll_2 : decode cX12_fewestAll 2 = .ok (.iconst 0, 1) := by decide +kernel
theorem dX12_fewestAll_3 : decode cX12_fewestAll 3 = .ok (.istore_n 3, 1) := by decide +kernel
theorem dX12_fewestAll_4 : decode cX12_fewestAll 4 = .ok (.iload_n 3, 1) := by decide +kernel
theorem dX12_fewestAll_5 : decode cX12_fewestAll 5 = .ok (.bipush 8, 2) := by decide +kernel
theorem dX12_fewestAll_7 : decode cX12_fewestAll 7 = .ok (.if_icmp .ge 61, 3) := by decide +kernel
theorem dX12_fewestAll_10 : decode cX12_fewestAll 10 = .ok (.sipush 1000, 3) := by decide +kernel
theorem dX12_fewestAll_13 : decode cX12_fewestAll 13 = .ok (.istore 4, 2) := by decide +kernel
theorem dX12_fewestAll_15 : decode cX12_fewestAll 15 = .ok (.iconst 0, 1) := by decide +kernel
theorem dX12_fewestAll_16 : decode cX12_fewestAll 16 = .ok (.istore 5, 2) := by decide +kernel
theorem dX12_fewestAll_18 : decode cX12_fewestAll 18 = .ok (.iload 5, 2) := by decide +kernel
theorem dX12_fewestAll_20 : decode cX12_fewestAll 20 = .ok (.bipush 26, 2) := by decide +kernel
theorem dX12_fewestAll_22 : decode cX12_fewestAll 22 = .ok (.if_icmp .ge 35, 3) := by decide +kernel
theorem dX12_fewestAll_25 : decode cX12_fewestAll 25 = .ok (.aload_n 0, 1) := by decide +kernel
theorem dX12_fewestAll_26 : decode cX12_fewestAll 26 = .ok (.iload_n 1, 1) := by decide +kernel
theorem dX12_fewestAll_27 : decode cX12_fewestAll 27 = .ok (.iload_n 3, 1) := by decide +kernel
theorem dX12_fewestAll_28 : decode cX12_fewestAll 28 = .ok (.iload 5, 2) := by decide +kernel
theorem dX12_fewestAll_30 : decode cX12_fewestAll 30 = .ok (.invokevirtual 226, 3) := by decide +kernel
theorem dX12_fewestAll_33 : decode cX12_fewestAll 33 = .ok (.istore 6, 2) := by decide +kernel
theorem dX12_fewestAll_35 : decode cX12_fewestAll 35 = .ok (.iload 6, 2) := by decide +kernel
theorem dX12_fewestAll_37 : decode cX12_fewestAll 37 = .ok (.iload 4, 2) := by decide +kernel
theorem dX12_fewestAll_39 : decode cX12_fewestAll 39 = .ok (.if_icmp .ge 8, 3) := by decide +kernel
theorem dX12_fewestAll_42 : decode cX12_fewestAll 42 = .ok (.iload 6, 2) := by decide +kernel
theorem dX12_fewestAll_44 : decode cX12_fewestAll 44 = .ok (.goto 5, 3) := by decide +kernel
theorem dX12_fewestAll_47 : decode cX12_fewestAll 47 = .ok (.iload 4, 2) := by decide +kernel
theorem dX12_fewestAll_49 : decode cX12_fewestAll 49 = .ok (.istore 4, 2) := by decide +kernel
theorem dX12_fewestAll_51 : decode cX12_fewestAll 51 = .ok (.iinc 5 1, 3) := by decide +kernel
theorem dX12_fewestAll_54 : decode cX12_fewestAll 54 = .ok (.goto (-36), 3) := by decide +kernel
theorem dX12_fewestAll_57 : decode cX12_fewestAll 57 = .ok (.iload_n 2, 1) := by decide +kernel
theorem dX12_fewestAll_58 : decode cX12_fewestAll 58 = .ok (.iload 4, 2) := by decide +kernel
theorem dX12_fewestAll_60 : decode cX12_fewestAll 60 = .ok (.iadd, 1) := by decide +kernel
theorem dX12_fewestAll_61 : decode cX12_fewestAll 61 = .ok (.istore_n 2, 1) := by decide +kernel
theorem dX12_fewestAll_62 : decode cX12_fewestAll 62 = .ok (.iinc 3 1, 3) := by decide +kernel
theorem dX12_fewestAll_65 : decode cX12_fewestAll 65 = .ok (.goto (-61), 3) := by decide +kernel
theorem dX12_fewestAll_68 : decode cX12_fewestAll 68 = .ok (.iload_n 2, 1) := by decide +kernel
theorem dX12_fewestAll_69 : decode cX12_fewestAll 69 = .ok (.sipush 1000, 3) := by decide +kernel
theorem dX12_fewestAll_72 : decode cX12_fewestAll 72 = .ok (.if_icmp .le 9, 3) := by decide +kernel
theorem dX12_fewestAll_75 : decode cX12_fewestAll 75 = .ok (.sipush 1000, 3) := by decide +kernel
theorem dX12_fewestAll_78 : decode cX12_fewestAll 78 = .ok (.goto 4, 3) := by decide +kernel
theorem dX12_fewestAll_81 : decode cX12_fewestAll 81 = .ok (.iload_n 2, 1) := by decide +kernel
theorem dX12_fewestAll_82 : decode cX12_fewestAll 82 = .ok (.ireturn, 1) := by decide +kernel
theorem dX12_mended_0 : decode cX12_mended 0 = .ok (.aload_n 0, 1) := by decide +kernel
theorem dX12_mended_1 : decode cX12_mended 1 = .ok (.iconst 0, 1) := by decide +kernel
theorem dX12_mended_2 : decode cX12_mended 2 = .ok (.putfield 78, 3) := by decide +kernel
theorem dX12_mended_5 : decode cX12_mended 5 = .ok (.aload_n 0, 1) := by decide +kernel
theorem dX12_mended_6 : decode cX12_mended 6 = .ok (.iload_n 1, 1) := by decide +kernel
theorem dX12_mended_7 : decode cX12_mended 7 = .ok (.iload_n 2, 1) := by decide +kernel
theorem dX12_mended_8 : decode cX12_mended 8 = .ok (.invokevirtual 178, 3) := by decide +kernel
theorem dX12_mended_11 : decode cX12_mended 11 = .ok (.ifCond .eq 16, 3) := by decide +kernel
theorem dX12_mended_14 : decode cX12_mended 14 = .ok (.iload_n 3, 1) := by decide +kernel
theorem dX12_mended_15 : decode cX12_mended 15 = .ok (.iconst (-1), 1) := by decide +kernel
theorem dX12_mended_16 : decode cX12_mended 16 = .ok (.if_icmp .eq 13, 3) := by decide +kernel
theorem dX12_mended_19 : decode cX12_mended 19 = .ok (.aload_n 0, 1) := by decide +kernel
theorem dX12_mended_20 : decode cX12_mended 20 = .ok (.iload_n 3, 1) := by decide +kernel
theorem dX12_mended_21 : decode cX12_mended 21 = .ok (.invokevirtual 185, 3) := by decide +kernel
theorem dX12_mended_24 : decode cX12_mended 24 = .ok (.ifCond .ne 5, 3) := by decide +kernel
theorem dX12_mended_27 : decode cX12_mended 27 = .ok (.iconst (-1), 1) := by decide +kernel
theorem dX12_mended_28 : decode cX12_mended 28 = .ok (.ireturn, 1) := by decide +kernel
theorem dX12_mended_29 : decode cX12_mended 29 = .ok (.aload_n 0, 1) := by decide +kernel
theorem dX12_mended_30 : decode cX12_mended 30 = .ok (.invokevirtual 198, 3) := by decide +kernel
theorem dX12_mended_33 : decode cX12_mended 33 = .ok (.aload_n 0, 1) := by decide +kernel
theorem dX12_mended_34 : decode cX12_mended 34 = .ok (.iload_n 2, 1) := by decide +kernel
theorem dX12_mended_35 : decode cX12_mended 35 = .ok (.invokevirtual 201, 3) := by decide +kernel
theorem dX12_mended_38 : decode cX12_mended 38 = .ok (.iconst 0, 1) := by decide +kernel
theorem dX12_mended_39 : decode cX12_mended 39 = .ok (.istore 4, 2) := by decide +kernel
theorem dX12_mended_41 : decode cX12_mended 41 = .ok (.iload 4, 2) := by decide +kernel
theorem dX12_mended_43 : decode cX12_mended 43 = .ok (.aload_n 0, 1) := by decide +kernel
theorem dX12_mended_44 : decode cX12_mended 44 = .ok (.getfield 188, 3) := by decide +kernel
theorem dX12_mended_47 : decode cX12_mended 47 = .ok (.if_icmp .ge 87, 3) := by decide +kernel
theorem dX12_mended_50 : decode cX12_mended 50 = .ok (.aload_n 0, 1) := by decide +kernel
theorem dX12_mended_51 : decode cX12_mended 51 = .ok (.getfield 59, 3) := by decide +kernel
theorem dX12_mended_54 : decode cX12_mended 54 = .ok (.iload 4, 2) := by decide +kernel
theorem dX12_mended_56 : decode cX12_mended 56 = .ok (.iconst 0, 1) := by decide +kernel
theorem dX12_mended_57 : decode cX12_mended 57 = .ok (.iastore, 1) := by decide +kernel
theorem dX12_mended_58 : decode cX12_mended 58 = .ok (.iconst 0, 1) := by decide +kernel
theorem dX12_mended_59 : decode cX12_mended 59 = .ok (.istore 5, 2) := by decide +kernel
theorem dX12_mended_61 : decode cX12_mended 61 = .ok (.iload 5, 2) := by decide +kernel
theorem dX12_mended_63 : decode cX12_mended 63 = .ok (.aload_n 0, 1) := by decide +kernel
theorem dX12_mended_64 : decode cX12_mended 64 = .ok (.getfield 166, 3) := by decide +kernel
theorem dX12_mended_67 : decode cX12_mended 67 = .ok (.if_icmp .ge 61, 3) := by decide +kernel
theorem dX12_mended_70 : decode cX12_mended 70 = .ok (.aload_n 0, 1) := by decide +kernel
theorem dX12_mended_71 : decode cX12_mended 71 = .ok (.getfield 59, 3) := by decide +kernel
theorem dX12_mended_74 : decode cX12_mended 74 = .ok (.iload 4, 2) := by decide +kernel
theorem dX12_mended_76 : decode cX12_mended 76 = .ok (.dup2, 1) := by decide +kernel
theorem dX12_mended_77 : decode cX12_mended 77 = .ok (.iaload, 1) := by decide +kernel
theorem dX12_mended_78 : decode cX12_mended 78 = .ok (.aload_n 0, 1) := by decide +kernel
theorem dX12_mended_79 : decode cX12_mended 79 = .ok (.getfield 13, 3) := by decide +kernel
theorem dX12_mended_82 : decode cX12_mended 82 = .ok (.iconst 4, 1) := by decide +kernel
theorem dX12_mended_83 : decode cX12_mended 83 = .ok (.iload 5, 2) := by decide +kernel
theorem dX12_mended_85 : decode cX12_mended 85 = .ok (.imul, 1) := by decide +kernel
theorem dX12_mended_86 : decode cX12_mended 86 = .ok (.iconst 2, 1) := by decide +kernel
theorem dX12_mended_87 : decode cX12_mended 87 = .ok (.iadd, 1) := by decide +kernel
theorem dX12_mended_88 : decode cX12_mended 88 = .ok (.iaload, 1) := by decide +kernel
theorem dX12_mended_89 : decode cX12_mended 89 = .ok (.aload_n 0, 1) := by decide +kernel
theorem dX12_mended_90 : decode cX12_mended 90 = .ok (.getfield 13, 3) := by decide +kernel
theorem dX12_mended_93 : decode cX12_mended 93 = .ok (.iconst 4, 1) := by decide +kernel
theorem dX12_mended_94 : decode cX12_mended 94 = .ok (.aload_n 0, 1) := by decide +kernel
theorem dX12_mended_95 : decode cX12_mended 95 = .ok (.getfield 28, 3) := by decide +kernel
theorem dX12_mended_98 : decode cX12_mended 98 = .ok (.iconst 1, 1) := by decide +kernel
theorem dX12_mended_99 : decode cX12_mended 99 = .ok (.iconst 3, 1) := by decide +kernel
theorem dX12_mended_100 : decode cX12_mended 100 = .ok (.iload 4, 2) := by decide +kernel
theorem dX12_mended_102 : decode cX12_mended 102 = .ok (.imul, 1) := by decide +kernel
theorem dX12_mended_103 : decode cX12_mended 103 = .ok (.iadd, 1) := by decide +kernel
theorem dX12_mended_104 : decode cX12_mended 104 = .ok (.iaload, 1) := by decide +kernel
theorem dX12_mended_105 : decode cX12_mended 105 = .ok (.imul, 1) := by decide +kernel
theorem dX12_mended_106 : decode cX12_mended 106 = .ok (.iconst 2, 1) := by decide +kernel
theorem dX12_mended_107 : decode cX12_mended 107 = .ok (.iadd, 1) := by decide +kernel
theorem dX12_mended_108 : decode cX12_mended 108 = .ok (.iaload, 1) := by decide +kernel
theorem dX12_mended_109 : decode cX12_mended 109 = .ok (.if_icmp .ne 10, 3) := by decide +kernel
theorem dX12_mended_112 : decode cX12_mended 112 = .ok (.iconst 1, 1) := by decide +kernel
theorem dX12_mended_113 : decode cX12_mended 113 = .ok (.iload 5, 2) := by decide +kernel
theorem dX12_mended_115 : decode cX12_mended 115 = .ok (.ishl, 1) := by decide +kernel
theorem dX12_mended_116 : decode cX12_mended 116 = .ok (.goto 4, 3) := by decide +kernel
theorem dX12_mended_119 : decode cX12_mended 119 = .ok (.iconst 0, 1) := by decide +kernel
theorem dX12_mended_120 : decode cX12_mended 120 = .ok (.ior, 1) := by decide +kernel
theorem dX12_mended_121 : decode cX12_mended 121 = .ok (.iastore, 1) := by decide +kernel
theorem dX12_mended_122 : decode cX12_mended 122 = .ok (.iinc 5 1, 3) := by decide +kernel
theorem dX12_mended_125 : decode cX12_mended 125 = .ok (.goto (-64), 3) := by decide +kernel
theorem dX12_mended_128 : decode cX12_mended 128 = .ok (.iinc 4 1, 3) := by decide +kernel
theorem dX12_mended_131 : decode cX12_mended 131 = .ok (.goto (-90), 3) := by decide +kernel
theorem dX12_mended_134 : decode cX12_mended 134 = .ok (.aload_n 0, 1) := by decide +kernel
theorem dX12_mended_135 : decode cX12_mended 135 = .ok (.iload_n 1, 1) := by decide +kernel
theorem dX12_mended_136 : decode cX12_mended 136 = .ok (.invokevirtual 230, 3) := by decide +kernel
theorem dX12_mended_139 : decode cX12_mended 139 = .ok (.istore 4, 2) := by decide +kernel
theorem dX12_mended_141 : decode cX12_mended 141 = .ok (.aload_n 0, 1) := by decide +kernel
theorem dX12_mended_142 : decode cX12_mended 142 = .ok (.getfield 188, 3) := by decide +kernel
theorem dX12_mended_145 : decode cX12_mended 145 = .ok (.ifCond .eq 11, 3) := by decide +kernel
theorem dX12_mended_148 : decode cX12_mended 148 = .ok (.iload 4, 2) := by decide +kernel
theorem dX12_mended_150 : decode cX12_mended 150 = .ok (.sipush 1000, 3) := by decide +kernel
theorem dX12_mended_153 : decode cX12_mended 153 = .ok (.if_icmp .lt 6, 3) := by decide +kernel
theorem dX12_mended_156 : decode cX12_mended 156 = .ok (.bipush (-9), 2) := by decide +kernel
theorem dX12_mended_158 : decode cX12_mended 158 = .ok (.ireturn, 1) := by decide +kernel
theorem dX12_mended_159 : decode cX12_mended 159 = .ok (.iconst 0, 1) := by decide +kernel
theorem dX12_mended_160 : decode cX12_mended 160 = .ok (.istore 5, 2) := by decide +kernel
theorem dX12_mended_162 : decode cX12_mended 162 = .ok (.iload 5, 2) := by decide +kernel
theorem dX12_mended_164 : decode cX12_mended 164 = .ok (.iload_n 3, 1) := by decide +kernel
theorem dX12_mended_165 : decode cX12_mended 165 = .ok (.if_icmp .gt 76, 3) := by decide +kernel
theorem dX12_mended_168 : decode cX12_mended 168 = .ok (.aload_n 0, 1) := by decide +kernel
theorem dX12_mended_169 : decode cX12_mended 169 = .ok (.getfield 59, 3) := by decide +kernel
theorem dX12_mended_172 : decode cX12_mended 172 = .ok (.iload 5, 2) := by decide +kernel
theorem dX12_mended_174 : decode cX12_mended 174 = .ok (.iaload, 1) := by decide +kernel
theorem dX12_mended_175 : decode cX12_mended 175 = .ok (.istore 6, 2) := by decide +kernel
theorem dX12_mended_177 : decode cX12_mended 177 = .ok (.iconst 0, 1) := by decide +kernel
theorem dX12_mended_178 : decode cX12_mended 178 = .ok (.istore 7, 2) := by decide +kernel
theorem dX12_mended_180 : decode cX12_mended 180 = .ok (.iconst 0, 1) := by decide +kernel
theorem dX12_mended_181 : decode cX12_mended 181 = .ok (.istore 8, 2) := by decide +kernel
theorem dX12_mended_183 : decode cX12_mended 183 = .ok (.iload 8, 2) := by decide +kernel
theorem dX12_mended_185 : decode cX12_mended 185 = .ok (.ifCond .ne 50, 3) := by decide +kernel
theorem dX12_mended_188 : decode cX12_mended 188 = .ok (.aload_n 0, 1) := by decide +kernel
theorem dX12_mended_189 : decode cX12_mended 189 = .ok (.getfield 59, 3) := by decide +kernel
theorem dX12_mended_192 : decode cX12_mended 192 = .ok (.iload 5, 2) := by decide +kernel
theorem dX12_mended_194 : decode cX12_mended 194 = .ok (.iload 6, 2) := by decide +kernel
theorem dX12_mended_196 : decode cX12_mended 196 = .ok (.iconst 1, 1) := by decide +kernel
theorem dX12_mended_197 : decode cX12_mended 197 = .ok (.iload 7, 2) := by decide +kernel
theorem dX12_mended_199 : decode cX12_mended 199 = .ok (.ishl, 1) := by decide +kernel
theorem dX12_mended_200 : decode cX12_mended 200 = .ok (.iand, 1) := by decide +kernel
theorem dX12_mended_201 : decode cX12_mended 201 = .ok (.iastore, 1) := by decide +kernel
theorem dX12_mended_202 : decode cX12_mended 202 = .ok (.aload_n 0, 1) := by decide +kernel
theorem dX12_mended_203 : decode cX12_mended 203 = .ok (.getfield 59, 3) := by decide +kernel
theorem dX12_mended_206 : decode cX12_mended 206 = .ok (.iload 5, 2) := by decide +kernel
theorem dX12_mended_208 : decode cX12_mended 208 = .ok (.iaload, 1) := by decide +kernel
theorem dX12_mended_209 : decode cX12_mended 209 = .ok (.ifCond .eq 17, 3) := by decide +kernel
theorem dX12_mended_212 : decode cX12_mended 212 = .ok (.aload_n 0, 1) := by decide +kernel
theorem dX12_mended_213 : decode cX12_mended 213 = .ok (.iload_n 1, 1) := by decide +kernel
theorem dX12_mended_214 : decode cX12_mended 214 = .ok (.invokevirtual 230, 3) := by decide +kernel
theorem dX12_mended_217 : decode cX12_mended 217 = .ok (.iload 4, 2) := by decide +kernel
theorem dX12_mended_219 : decode cX12_mended 219 = .ok (.if_icmp .ne 7, 3) := by decide +kernel
theorem dX12_mended_222 : decode cX12_mended 222 = .ok (.iconst 1, 1) := by decide +kernel
theorem dX12_mended_223 : decode cX12_mended 223 = .ok (.goto 4, 3) := by decide +kernel
theorem dX12_mended_226 : decode cX12_mended 226 = .ok (.iconst 0, 1) := by decide +kernel
theorem dX12_mended_227 : decode cX12_mended 227 = .ok (.istore 8, 2) := by decide +kernel
theorem dX12_mended_229 : decode cX12_mended 229 = .ok (.iinc 7 1, 3) := by decide +kernel
theorem dX12_mended_232 : decode cX12_mended 232 = .ok (.goto (-49), 3) := by decide +kernel
theorem dX12_mended_235 : decode cX12_mended 235 = .ok (.iinc 5 1, 3) := by decide +kernel
theorem dX12_mended_238 : decode cX12_mended 238 = .ok (.goto (-76), 3) := by decide +kernel
theorem dX12_mended_241 : decode cX12_mended 241 = .ok (.iload_n 3, 1) := by decide +kernel
theorem dX12_mended_242 : decode cX12_mended 242 = .ok (.ifCond .ge 6, 3) := by decide +kernel
theorem dX12_mended_245 : decode cX12_mended 245 = .ok (.iload 4, 2) := by decide +kernel
theorem dX12_mended_247 : decode cX12_mended 247 = .ok (.ireturn, 1) := by decide +kernel
theorem dX12_mended_248 : decode cX12_mended 248 = .ok (.iconst 0, 1) := by decide +kernel
theorem dX12_mended_249 : decode cX12_mended 249 = .ok (.istore 5, 2) := by decide +kernel
theorem dX12_mended_251 : decode cX12_mended 251 = .ok (.aload_n 0, 1) := by decide +kernel
theorem dX12_mended_252 : decode cX12_mended 252 = .ok (.getfield 59, 3) := by decide +kernel
theorem dX12_mended_255 : decode cX12_mended 255 = .ok (.iload_n 3, 1) := by decide +kernel
theorem dX12_mended_256 : decode cX12_mended 256 = .ok (.iaload, 1) := by decide +kernel
theorem dX12_mended_257 : decode cX12_mended 257 = .ok (.iload 5, 2) := by decide +kernel
theorem dX12_mended_259 : decode cX12_mended 259 = .ok (.ishr, 1) := by decide +kernel
theorem dX12_mended_260 : decode cX12_mended 260 = .ok (.iconst 1, 1) := by decide +kernel
theorem dX12_mended_261 : decode cX12_mended 261 = .ok (.if_icmp .eq 9, 3) := by decide +kernel
theorem dX12_mended_264 : decode cX12_mended 264 = .ok (.iinc 5 1, 3) := by decide +kernel
theorem dX12_mended_267 : decode cX12_mended 267 = .ok (.goto (-16), 3) := by decide +kernel
theorem dX12_mended_270 : decode cX12_mended 270 = .ok (.iload 5, 2) := by decide +kernel
theorem dX12_mended_272 : decode cX12_mended 272 = .ok (.ireturn, 1) := by decide +kernel
theorem dX12_goesOn_0 : decode cX12_goesOn 0 = .ok (.iload_n 1, 1) := by decide +kernel
theorem dX12_goesOn_1 : decode cX12_goesOn 1 = .ok (.iconst 1, 1) := by decide +kernel
theorem dX12_goesOn_2 : decode cX12_goesOn 2 = .ok (.isub, 1) := by decide +kernel
theorem dX12_goesOn_3 : decode cX12_goesOn 3 = .ok (.istore_n 2, 1) := by decide +kernel
theorem dX12_goesOn_4 : decode cX12_goesOn 4 = .ok (.iload_n 2, 1) := by decide +kernel
theorem dX12_goesOn_5 : decode cX12_goesOn 5 = .ok (.ifCond .lt 66, 3) := by decide +kernel
theorem dX12_goesOn_8 : decode cX12_goesOn 8 = .ok (.aload_n 0, 1) := by decide +kernel
theorem dX12_goesOn_9 : decode cX12_goesOn 9 = .ok (.getfield 62, 3) := by decide +kernel
theorem dX12_goesOn_12 : decode cX12_goesOn 12 = .ok (.iload_n 2, 1) := by decide +kernel
theorem dX12_goesOn_13 : decode cX12_goesOn 13 = .ok (.iaload, 1) := by decide +kernel
theorem dX12_goesOn_14 : decode cX12_goesOn 14 = .ok (.iconst 1, 1) := by decide +kernel
theorem dX12_goesOn_15 : decode cX12_goesOn 15 = .ok (.iadd, 1) := by decide +kernel
theorem dX12_goesOn_16 : decode cX12_goesOn 16 = .ok (.istore_n 3, 1) := by decide +kernel
theorem dX12_goesOn_17 : decode cX12_goesOn 17 = .ok (.iload_n 3, 1) := by decide +kernel
theorem dX12_goesOn_18 : decode cX12_goesOn 18 = .ok (.aload_n 0, 1) := by decide +kernel
theorem dX12_goesOn_19 : decode cX12_goesOn 19 = .ok (.getfield 172, 3) := by decide +kernel
theorem dX12_goesOn_22 : decode cX12_goesOn 22 = .ok (.if_icmp .ge 18, 3) := by decide +kernel
theorem dX12_goesOn_25 : decode cX12_goesOn 25 = .ok (.aload_n 0, 1) := by decide +kernel
theorem dX12_goesOn_26 : decode cX12_goesOn 26 = .ok (.iload_n 3, 1) := by decide +kernel
theorem dX12_goesOn_27 : decode cX12_goesOn 27 = .ok (.iload_n 2, 1) := by decide +kernel
theorem dX12_goesOn_28 : decode cX12_goesOn 28 = .ok (.invokevirtual 233, 3) := by decide +kernel
theorem dX12_goesOn_31 : decode cX12_goesOn 31 = .ok (.ifCond .eq 9, 3) := by decide +kernel
theorem dX12_goesOn_34 : decode cX12_goesOn 34 = .ok (.iinc 3 1, 3) := by decide +kernel
theorem dX12_goesOn_37 : decode cX12_goesOn 37 = .ok (.goto (-20), 3) := by decide +kernel
theorem dX12_goesOn_40 : decode cX12_goesOn 40 = .ok (.iload_n 3, 1) := by decide +kernel
theorem dX12_goesOn_41 : decode cX12_goesOn 41 = .ok (.aload_n 0, 1) := by decide +kernel
theorem dX12_goesOn_42 : decode cX12_goesOn 42 = .ok (.getfield 172, 3) := by decide +kernel
theorem dX12_goesOn_45 : decode cX12_goesOn 45 = .ok (.if_icmp .ge 20, 3) := by decide +kernel
theorem dX12_goesOn_48 : decode cX12_goesOn 48 = .ok (.aload_n 0, 1) := by decide +kernel
theorem dX12_goesOn_49 : decode cX12_goesOn 49 = .ok (.getfield 62, 3) := by decide +kernel
theorem dX12_goesOn_52 : decode cX12_goesOn 52 = .ok (.iload_n 2, 1) := by decide +kernel
theorem dX12_goesOn_53 : decode cX12_goesOn 53 = .ok (.iload_n 3, 1) := by decide +kernel
theorem dX12_goesOn_54 : decode cX12_goesOn 54 = .ok (.iastore, 1) := by decide +kernel
theorem dX12_goesOn_55 : decode cX12_goesOn 55 = .ok (.aload_n 0, 1) := by decide +kernel
theorem dX12_goesOn_56 : decode cX12_goesOn 56 = .ok (.iload_n 2, 1) := by decide +kernel
theorem dX12_goesOn_57 : decode cX12_goesOn 57 = .ok (.iconst 1, 1) := by decide +kernel
theorem dX12_goesOn_58 : decode cX12_goesOn 58 = .ok (.iadd, 1) := by decide +kernel
theorem dX12_goesOn_59 : decode cX12_goesOn 59 = .ok (.iload_n 1, 1) := by decide +kernel
theorem dX12_goesOn_60 : decode cX12_goesOn 60 = .ok (.invokevirtual 236, 3) := by decide +kernel
theorem dX12_goesOn_63 : decode cX12_goesOn 63 = .ok (.iconst 1, 1) := by decide +kernel
theorem dX12_goesOn_64 : decode cX12_goesOn 64 = .ok (.ireturn, 1) := by decide +kernel
theorem dX12_goesOn_65 : decode cX12_goesOn 65 = .ok (.iinc 2 (-1), 3) := by decide +kernel
theorem dX12_goesOn_68 : decode cX12_goesOn 68 = .ok (.goto (-64), 3) := by decide +kernel
theorem dX12_goesOn_71 : decode cX12_goesOn 71 = .ok (.iconst 0, 1) := by decide +kernel
theorem dX12_goesOn_72 : decode cX12_goesOn 72 = .ok (.ireturn, 1) := by decide +kernel
theorem dX12_isInRow_0 : decode cX12_isInRow 0 = .ok (.iconst 0, 1) := by decide +kernel
theorem dX12_isInRow_1 : decode cX12_isInRow 1 = .ok (.istore_n 3, 1) := by decide +kernel
theorem dX12_isInRow_2 : decode cX12_isInRow 2 = .ok (.iconst 0, 1) := by decide +kernel
theorem dX12_isInRow_3 : decode cX12_isInRow 3 = .ok (.istore 4, 2) := by decide +kernel
theorem dX12_isInRow_5 : decode cX12_isInRow 5 = .ok (.iload 4, 2) := by decide +kernel
theorem dX12_isInRow_7 : decode cX12_isInRow 7 = .ok (.iload_n 2, 1) := by decide +kernel
theorem dX12_isInRow_8 : decode cX12_isInRow 8 = .ok (.if_icmp .ge 28, 3) := by decide +kernel
theorem dX12_isInRow_11 : decode cX12_isInRow 11 = .ok (.iload_n 3, 1) := by decide +kernel
theorem dX12_isInRow_12 : decode cX12_isInRow 12 = .ok (.aload_n 0, 1) := by decide +kernel
theorem dX12_isInRow_13 : decode cX12_isInRow 13 = .ok (.getfield 62, 3) := by decide +kernel
theorem dX12_isInRow_16 : decode cX12_isInRow 16 = .ok (.iload 4, 2) := by decide +kernel
theorem dX12_isInRow_18 : decode cX12_isInRow 18 = .ok (.iaload, 1) := by decide +kernel
theorem dX12_isInRow_19 : decode cX12_isInRow 19 = .ok (.iload_n 1, 1) := by decide +kernel
theorem dX12_isInRow_20 : decode cX12_isInRow 20 = .ok (.if_icmp .ne 7, 3) := by decide +kernel
theorem dX12_isInRow_23 : decode cX12_isInRow 23 = .ok (.iconst 1, 1) := by decide +kernel
theorem dX12_isInRow_24 : decode cX12_isInRow 24 = .ok (.goto 4, 3) := by decide +kernel
theorem dX12_isInRow_27 : decode cX12_isInRow 27 = .ok (.iconst 0, 1) := by decide +kernel
theorem dX12_isInRow_28 : decode cX12_isInRow 28 = .ok (.ior, 1) := by decide +kernel
theorem dX12_isInRow_29 : decode cX12_isInRow 29 = .ok (.istore_n 3, 1) := by decide +kernel
theorem dX12_isInRow_30 : decode cX12_isInRow 30 = .ok (.iinc 4 1, 3) := by decide +kernel
theorem dX12_isInRow_33 : decode cX12_isInRow 33 = .ok (.goto (-28), 3) := by decide +kernel
theorem dX12_isInRow_36 : decode cX12_isInRow 36 = .ok (.iload_n 3, 1) := by decide +kernel
theorem dX12_isInRow_37 : decode cX12_isInRow 37 = .ok (.ireturn, 1) := by decide +kernel
theorem dX12_fills_0 : decode cX12_fills 0 = .ok (.iload_n 1, 1) := by decide +kernel
theorem dX12_fills_1 : decode cX12_fills 1 = .ok (.istore_n 3, 1) := by decide +kernel
theorem dX12_fills_2 : decode cX12_fills 2 = .ok (.iload_n 3, 1) := by decide +kernel
theorem dX12_fills_3 : decode cX12_fills 3 = .ok (.iload_n 2, 1) := by decide +kernel
theorem dX12_fills_4 : decode cX12_fills 4 = .ok (.if_icmp .ge 36, 3) := by decide +kernel
theorem dX12_fills_7 : decode cX12_fills 7 = .ok (.iconst 0, 1) := by decide +kernel
theorem dX12_fills_8 : decode cX12_fills 8 = .ok (.istore 4, 2) := by decide +kernel
theorem dX12_fills_10 : decode cX12_fills 10 = .ok (.aload_n 0, 1) := by decide +kernel
theorem dX12_fills_11 : decode cX12_fills 11 = .ok (.iload 4, 2) := by decide +kernel
theorem dX12_fills_13 : decode cX12_fills 13 = .ok (.iload_n 3, 1) := by decide +kernel
theorem dX12_fills_14 : decode cX12_fills 14 = .ok (.invokevirtual 233, 3) := by decide +kernel
theorem dX12_fills_17 : decode cX12_fills 17 = .ok (.ifCond .eq 9, 3) := by decide +kernel
theorem dX12_fills_20 : decode cX12_fills 20 = .ok (.iinc 4 1, 3) := by decide +kernel
theorem dX12_fills_23 : decode cX12_fills 23 = .ok (.goto (-13), 3) := by decide +kernel
theorem dX12_fills_26 : decode cX12_fills 26 = .ok (.aload_n 0, 1) := by decide +kernel
theorem dX12_fills_27 : decode cX12_fills 27 = .ok (.getfield 62, 3) := by decide +kernel
theorem dX12_fills_30 : decode cX12_fills 30 = .ok (.iload_n 3, 1) := by decide +kernel
theorem dX12_fills_31 : decode cX12_fills 31 = .ok (.iload 4, 2) := by decide +kernel
theorem dX12_fills_33 : decode cX12_fills 33 = .ok (.iastore, 1) := by decide +kernel
theorem dX12_fills_34 : decode cX12_fills 34 = .ok (.iinc 3 1, 3) := by decide +kernel
theorem dX12_fills_37 : decode cX12_fills 37 = .ok (.goto (-35), 3) := by decide +kernel
theorem dX12_fills_40 : decode cX12_fills 40 = .ok (.return_, 1) := by decide +kernel
theorem dX12_laysRow_0 : decode cX12_laysRow 0 = .ok (.aload_n 0, 1) := by decide +kernel
theorem dX12_laysRow_1 : decode cX12_laysRow 1 = .ok (.iload_n 1, 1) := by decide +kernel
theorem dX12_laysRow_2 : decode cX12_laysRow 2 = .ok (.putfield 188, 3) := by decide +kernel
theorem dX12_laysRow_5 : decode cX12_laysRow 5 = .ok (.iconst 0, 1) := by decide +kernel
theorem dX12_laysRow_6 : decode cX12_laysRow 6 = .ok (.istore_n 2, 1) := by decide +kernel
theorem dX12_laysRow_7 : decode cX12_laysRow 7 = .ok (.iload_n 2, 1) := by decide +kernel
theorem dX12_laysRow_8 : decode cX12_laysRow 8 = .ok (.iload_n 1, 1) := by decide +kernel
theorem dX12_laysRow_9 : decode cX12_laysRow 9 = .ok (.if_icmp .ge 80, 3) := by decide +kernel
theorem dX12_laysRow_12 : decode cX12_laysRow 12 = .ok (.aload_n 0, 1) := by decide +kernel
theorem dX12_laysRow_13 : decode cX12_laysRow 13 = .ok (.getfield 38, 3) := by decide +kernel
theorem dX12_laysRow_16 : decode cX12_laysRow 16 = .ok (.iconst 3, 1) := by decide +kernel
theorem dX12_laysRow_17 : decode cX12_laysRow 17 = .ok (.iload_n 2, 1) := by decide +kernel
theorem dX12_laysRow_18 : decode cX12_laysRow 18 = .ok (.imul, 1) := by decide +kernel
theorem dX12_laysRow_19 : decode cX12_laysRow 19 = .ok (.aload_n 0, 1) := by decide +kernel
theorem dX12_laysRow_20 : decode cX12_laysRow 20 = .ok (.getfield 22, 3) := by decide +kernel
theorem dX12_laysRow_23 : decode cX12_laysRow 23 = .ok (.iconst 3, 1) := by decide +kernel
theorem dX12_laysRow_24 : decode cX12_laysRow 24 = .ok (.aload_n 0, 1) := by decide +kernel
theorem dX12_laysRow_25 : decode cX12_laysRow 25 = .ok (.getfield 62, 3) := by decide +kernel
theorem dX12_laysRow_28 : decode cX12_laysRow 28 = .ok (.iload_n 2, 1) := by decide +kernel
theorem dX12_laysRow_29 : decode cX12_laysRow 29 = .ok (.iaload, 1) := by decide +kernel
theorem dX12_laysRow_30 : decode cX12_laysRow 30 = .ok (.imul, 1) := by decide +kernel
theorem dX12_laysRow_31 : decode cX12_laysRow 31 = .ok (.iaload, 1) := by decide +kernel
theorem dX12_laysRow_32 : decode cX12_laysRow 32 = .ok (.iastore, 1) := by decide +kernel
theorem dX12_laysRow_33 : decode cX12_laysRow 33 = .ok (.aload_n 0, 1) := by decide +kernel
theorem dX12_laysRow_34 : decode cX12_laysRow 34 = .ok (.getfield 38, 3) := by decide +kernel
theorem dX12_laysRow_37 : decode cX12_laysRow 37 = .ok (.iconst 3, 1) := by decide +kernel
theorem dX12_laysRow_38 : decode cX12_laysRow 38 = .ok (.iload_n 2, 1) := by decide +kernel
theorem dX12_laysRow_39 : decode cX12_laysRow 39 = .ok (.imul, 1) := by decide +kernel
theorem dX12_laysRow_40 : decode cX12_laysRow 40 = .ok (.iconst 1, 1) := by decide +kernel
theorem dX12_laysRow_41 : decode cX12_laysRow 41 = .ok (.iadd, 1) := by decide +kernel
theorem dX12_laysRow_42 : decode cX12_laysRow 42 = .ok (.aload_n 0, 1) := by decide +kernel
theorem dX12_laysRow_43 : decode cX12_laysRow 43 = .ok (.getfield 22, 3) := by decide +kernel
theorem dX12_laysRow_46 : decode cX12_laysRow 46 = .ok (.iconst 3, 1) := by decide +kernel
theorem dX12_laysRow_47 : decode cX12_laysRow 47 = .ok (.aload_n 0, 1) := by decide +kernel
theorem dX12_laysRow_48 : decode cX12_laysRow 48 = .ok (.getfield 62, 3) := by decide +kernel
theorem dX12_laysRow_51 : decode cX12_laysRow 51 = .ok (.iload_n 2, 1) := by decide +kernel
theorem dX12_laysRow_52 : decode cX12_laysRow 52 = .ok (.iaload, 1) := by decide +kernel
theorem dX12_laysRow_53 : decode cX12_laysRow 53 = .ok (.imul, 1) := by decide +kernel
theorem dX12_laysRow_54 : decode cX12_laysRow 54 = .ok (.iconst 1, 1) := by decide +kernel
theorem dX12_laysRow_55 : decode cX12_laysRow 55 = .ok (.iadd, 1) := by decide +kernel
theorem dX12_laysRow_56 : decode cX12_laysRow 56 = .ok (.iaload, 1) := by decide +kernel
theorem dX12_laysRow_57 : decode cX12_laysRow 57 = .ok (.iastore, 1) := by decide +kernel
theorem dX12_laysRow_58 : decode cX12_laysRow 58 = .ok (.aload_n 0, 1) := by decide +kernel
theorem dX12_laysRow_59 : decode cX12_laysRow 59 = .ok (.getfield 38, 3) := by decide +kernel
theorem dX12_laysRow_62 : decode cX12_laysRow 62 = .ok (.iconst 3, 1) := by decide +kernel
theorem dX12_laysRow_63 : decode cX12_laysRow 63 = .ok (.iload_n 2, 1) := by decide +kernel
theorem dX12_laysRow_64 : decode cX12_laysRow 64 = .ok (.imul, 1) := by decide +kernel
theorem dX12_laysRow_65 : decode cX12_laysRow 65 = .ok (.iconst 2, 1) := by decide +kernel
theorem dX12_laysRow_66 : decode cX12_laysRow 66 = .ok (.iadd, 1) := by decide +kernel
theorem dX12_laysRow_67 : decode cX12_laysRow 67 = .ok (.aload_n 0, 1) := by decide +kernel
theorem dX12_laysRow_68 : decode cX12_laysRow 68 = .ok (.getfield 22, 3) := by decide +kernel
theorem dX12_laysRow_71 : decode cX12_laysRow 71 = .ok (.iconst 3, 1) := by decide +kernel
theorem dX12_laysRow_72 : decode cX12_laysRow 72 = .ok (.aload_n 0, 1) := by decide +kernel
theorem dX12_laysRow_73 : decode cX12_laysRow 73 = .ok (.getfield 62, 3) := by decide +kernel
theorem dX12_laysRow_76 : decode cX12_laysRow 76 = .ok (.iload_n 2, 1) := by decide +kernel
theorem dX12_laysRow_77 : decode cX12_laysRow 77 = .ok (.iaload, 1) := by decide +kernel
theorem dX12_laysRow_78 : decode cX12_laysRow 78 = .ok (.imul, 1) := by decide +kernel
theorem dX12_laysRow_79 : decode cX12_laysRow 79 = .ok (.iconst 2, 1) := by decide +kernel
theorem dX12_laysRow_80 : decode cX12_laysRow 80 = .ok (.iadd, 1) := by decide +kernel
theorem dX12_laysRow_81 : decode cX12_laysRow 81 = .ok (.iaload, 1) := by decide +kernel
theorem dX12_laysRow_82 : decode cX12_laysRow 82 = .ok (.iastore, 1) := by decide +kernel
theorem dX12_laysRow_83 : decode cX12_laysRow 83 = .ok (.iinc 2 1, 3) := by decide +kernel
theorem dX12_laysRow_86 : decode cX12_laysRow 86 = .ok (.goto (-79), 3) := by decide +kernel
theorem dX12_laysRow_89 : decode cX12_laysRow 89 = .ok (.return_, 1) := by decide +kernel
theorem dX12_shortest_0 : decode cX12_shortest 0 = .ok (.aload_n 0, 1) := by decide +kernel
theorem dX12_shortest_1 : decode cX12_shortest 1 = .ok (.iconst 0, 1) := by decide +kernel
theorem dX12_shortest_2 : decode cX12_shortest 2 = .ok (.putfield 78, 3) := by decide +kernel
theorem dX12_shortest_5 : decode cX12_shortest 5 = .ok (.aload_n 0, 1) := by decide +kernel
theorem dX12_shortest_6 : decode cX12_shortest 6 = .ok (.iload_n 1, 1) := by decide +kernel
theorem dX12_shortest_7 : decode cX12_shortest 7 = .ok (.iload_n 2, 1) := by decide +kernel
theorem dX12_shortest_8 : decode cX12_shortest 8 = .ok (.invokevirtual 178, 3) := by decide +kernel
theorem dX12_shortest_11 : decode cX12_shortest 11 = .ok (.ifCond .eq 24, 3) := by decide +kernel
theorem dX12_shortest_14 : decode cX12_shortest 14 = .ok (.iload_n 3, 1) := by decide +kernel
theorem dX12_shortest_15 : decode cX12_shortest 15 = .ok (.iconst 0, 1) := by decide +kernel
theorem dX12_shortest_16 : decode cX12_shortest 16 = .ok (.sipush 1023, 3) := by decide +kernel
theorem dX12_shortest_19 : decode cX12_shortest 19 = .ok (.invokestatic 82, 3) := by decide +kernel
theorem dX12_shortest_22 : decode cX12_shortest 22 = .ok (.ifCond .eq 13, 3) := by decide +kernel
theorem dX12_shortest_25 : decode cX12_shortest 25 = .ok (.iload 4, 2) := by decide +kernel
theorem dX12_shortest_27 : decode cX12_shortest 27 = .ok (.iconst (-1), 1) := by decide +kernel
theorem dX12_shortest_28 : decode cX12_shortest 28 = .ok (.iconst 5, 1) := by decide +kernel
theorem dX12_shortest_29 : decode cX12_shortest 29 = .ok (.invokestatic 82, 3) := by decide +kernel
theorem dX12_shortest_32 : decode cX12_shortest 32 = .ok (.ifCond .ne 5, 3) := by decide +kernel
theorem dX12_shortest_35 : decode cX12_shortest 35 = .ok (.iconst (-1), 1) := by decide +kernel
theorem dX12_shortest_36 : decode cX12_shortest 36 = .ok (.ireturn, 1) := by decide +kernel
theorem dX12_shortest_37 : decode cX12_shortest 37 = .ok (.aload_n 0, 1) := by decide +kernel
theorem dX12_shortest_38 : decode cX12_shortest 38 = .ok (.iload_n 2, 1) := by decide +kernel
theorem dX12_shortest_39 : decode cX12_shortest 39 = .ok (.invokevirtual 201, 3) := by decide +kernel
theorem dX12_shortest_42 : decode cX12_shortest 42 = .ok (.iconst 1, 1) := by decide +kernel
theorem dX12_shortest_43 : decode cX12_shortest 43 = .ok (.istore 5, 2) := by decide +kernel
theorem dX12_shortest_45 : decode cX12_shortest 45 = .ok (.iload 5, 2) := by decide +kernel
theorem dX12_shortest_47 : decode cX12_shortest 47 = .ok (.aload_n 0, 1) := by decide +kernel
theorem dX12_shortest_48 : decode cX12_shortest 48 = .ok (.getfield 172, 3) := by decide +kernel
theorem dX12_shortest_51 : decode cX12_shortest 51 = .ok (.if_icmp .gt 90, 3) := by decide +kernel
theorem dX12_shortest_54 : decode cX12_shortest 54 = .ok (.aload_n 0, 1) := by decide +kernel
theorem dX12_shortest_55 : decode cX12_shortest 55 = .ok (.iconst 0, 1) := by decide +kernel
theorem dX12_shortest_56 : decode cX12_shortest 56 = .ok (.iload 5, 2) := by decide +kernel
theorem dX12_shortest_58 : decode cX12_shortest 58 = .ok (.invokevirtual 236, 3) := by decide +kernel
theorem dX12_shortest_61 : decode cX12_shortest 61 = .ok (.iconst 1, 1) := by decide +kernel
theorem dX12_shortest_62 : decode cX12_shortest 62 = .ok (.istore 6, 2) := by decide +kernel
theorem dX12_shortest_64 : decode cX12_shortest 64 = .ok (.iload 6, 2) := by decide +kernel
theorem dX12_shortest_66 : decode cX12_shortest 66 = .ok (.ifCond .eq 69, 3) := by decide +kernel
theorem dX12_shortest_69 : decode cX12_shortest 69 = .ok (.aload_n 0, 1) := by decide +kernel
theorem dX12_shortest_70 : decode cX12_shortest 70 = .ok (.iload 5, 2) := by decide +kernel
theorem dX12_shortest_72 : decode cX12_shortest 72 = .ok (.invokevirtual 239, 3) := by decide +kernel
theorem dX12_shortest_75 : decode cX12_shortest 75 = .ok (.aload_n 0, 1) := by decide +kernel
theorem dX12_shortest_76 : decode cX12_shortest 76 = .ok (.iload_n 1, 1) := by decide +kernel
theorem dX12_shortest_77 : decode cX12_shortest 77 = .ok (.invokevirtual 214, 3) := by decide +kernel
theorem dX12_shortest_80 : decode cX12_shortest 80 = .ok (.ifCond .eq 44, 3) := by decide +kernel
theorem dX12_shortest_83 : decode cX12_shortest 83 = .ok (.iload_n 3, 1) := by decide +kernel
theorem dX12_shortest_84 : decode cX12_shortest 84 = .ok (.aload_n 0, 1) := by decide +kernel
theorem dX12_shortest_85 : decode cX12_shortest 85 = .ok (.invokevirtual 217, 3) := by decide +kernel
theorem dX12_shortest_88 : decode cX12_shortest 88 = .ok (.iconst (-1), 1) := by decide +kernel
theorem dX12_shortest_89 : decode cX12_shortest 89 = .ok (.ixor, 1) := by decide +kernel
theorem dX12_shortest_90 : decode cX12_shortest 90 = .ok (.iand, 1) := by decide +kernel
theorem dX12_shortest_91 : decode cX12_shortest 91 = .ok (.ifCond .ne 33, 3) := by decide +kernel
theorem dX12_shortest_94 : decode cX12_shortest 94 = .ok (.iload 4, 2) := by decide +kernel
theorem dX12_shortest_96 : decode cX12_shortest 96 = .ok (.ifCond .ge 8, 3) := by decide +kernel
theorem dX12_shortest_99 : decode cX12_shortest 99 = .ok (.iload 5, 2) := by decide +kernel
theorem dX12_shortest_101 : decode cX12_shortest 101 = .ok (.goto 22, 3) := by decide +kernel
theorem dX12_shortest_104 : decode cX12_shortest 104 = .ok (.iload 4, 2) := by decide +kernel
theorem dX12_shortest_106 : decode cX12_shortest 106 = .ok (.iload 5, 2) := by decide +kernel
theorem dX12_shortest_108 : decode cX12_shortest 108 = .ok (.if_icmp .ge 13, 3) := by decide +kernel
theorem dX12_shortest_111 : decode cX12_shortest 111 = .ok (.aload_n 0, 1) := by decide +kernel
theorem dX12_shortest_112 : decode cX12_shortest 112 = .ok (.getfield 62, 3) := by decide +kernel
theorem dX12_shortest_115 : decode cX12_shortest 115 = .ok (.iload 4, 2) := by decide +kernel
theorem dX12_shortest_117 : decode cX12_shortest 117 = .ok (.iaload, 1) := by decide +kernel
theorem dX12_shortest_118 : decode cX12_shortest 118 = .ok (.goto 5, 3) := by decide +kernel
theorem dX12_shortest_121 : decode cX12_shortest 121 = .ok (.bipush (-5), 2) := by decide +kernel
theorem dX12_shortest_123 : decode cX12_shortest 123 = .ok (.ireturn, 1) := by decide +kernel
theorem dX12_shortest_124 : decode cX12_shortest 124 = .ok (.aload_n 0, 1) := by decide +kernel
theorem dX12_shortest_125 : decode cX12_shortest 125 = .ok (.iload 5, 2) := by decide +kernel
theorem dX12_shortest_127 : decode cX12_shortest 127 = .ok (.invokevirtual 242, 3) := by decide +kernel
theorem dX12_shortest_130 : decode cX12_shortest 130 = .ok (.istore 6, 2) := by decide +kernel
theorem dX12_shortest_132 : decode cX12_shortest 132 = .ok (.goto (-68), 3) := by decide +kernel
theorem dX12_shortest_135 : decode cX12_shortest 135 = .ok (.iinc 5 1, 3) := by decide +kernel
theorem dX12_shortest_138 : decode cX12_shortest 138 = .ok (.goto (-93), 3) := by decide +kernel
theorem dX12_shortest_141 : decode cX12_shortest 141 = .ok (.bipush (-9), 2) := by decide +kernel
theorem dX12_shortest_143 : decode cX12_shortest 143 = .ok (.ireturn, 1) := by decide +kernel
theorem dX12_both_0 : decode cX12_both 0 = .ok (.aload_n 0, 1) := by decide +kernel
theorem dX12_both_1 : decode cX12_both 1 = .ok (.iconst 0, 1) := by decide +kernel
theorem dX12_both_2 : decode cX12_both 2 = .ok (.putfield 78, 3) := by decide +kernel
theorem dX12_both_5 : decode cX12_both 5 = .ok (.aload_n 0, 1) := by decide +kernel
theorem dX12_both_6 : decode cX12_both 6 = .ok (.getfield 169, 3) := by decide +kernel
theorem dX12_both_9 : decode cX12_both 9 = .ok (.iconst 2, 1) := by decide +kernel
theorem dX12_both_10 : decode cX12_both 10 = .ok (.if_icmp .lt 12, 3) := by decide +kernel
theorem dX12_both_13 : decode cX12_both 13 = .ok (.iload_n 1, 1) := by decide +kernel
theorem dX12_both_14 : decode cX12_both 14 = .ok (.iconst 0, 1) := by decide +kernel
theorem dX12_both_15 : decode cX12_both 15 = .ok (.iconst 1, 1) := by decide +kernel
theorem dX12_both_16 : decode cX12_both 16 = .ok (.invokestatic 82, 3) := by decide +kernel
theorem dX12_both_19 : decode cX12_both 19 = .ok (.ifCond .ne 5, 3) := by decide +kernel
theorem dX12_both_22 : decode cX12_both 22 = .ok (.iconst (-1), 1) := by decide +kernel
theorem dX12_both_23 : decode cX12_both 23 = .ok (.ireturn, 1) := by decide +kernel
theorem dX12_both_24 : decode cX12_both 24 = .ok (.aload_n 0, 1) := by decide +kernel
theorem dX12_both_25 : decode cX12_both 25 = .ok (.invokevirtual 198, 3) := by decide +kernel
theorem dX12_both_28 : decode cX12_both 28 = .ok (.aload_n 0, 1) := by decide +kernel
theorem dX12_both_29 : decode cX12_both 29 = .ok (.iload_n 1, 1) := by decide +kernel
theorem dX12_both_30 : decode cX12_both 30 = .ok (.invokevirtual 201, 3) := by decide +kernel
theorem dX12_both_33 : decode cX12_both 33 = .ok (.aload_n 0, 1) := by decide +kernel
theorem dX12_both_34 : decode cX12_both 34 = .ok (.iconst 0, 1) := by decide +kernel
theorem dX12_both_35 : decode cX12_both 35 = .ok (.invokevirtual 214, 3) := by decide +kernel
theorem dX12_both_38 : decode cX12_both 38 = .ok (.ifCond .eq 15, 3) := by decide +kernel
theorem dX12_both_41 : decode cX12_both 41 = .ok (.aload_n 0, 1) := by decide +kernel
theorem dX12_both_42 : decode cX12_both 42 = .ok (.iconst 1, 1) := by decide +kernel
theorem dX12_both_43 : decode cX12_both 43 = .ok (.invokevirtual 214, 3) := by decide +kernel
theorem dX12_both_46 : decode cX12_both 46 = .ok (.ifCond .eq 7, 3) := by decide +kernel
theorem dX12_both_49 : decode cX12_both 49 = .ok (.iconst 1, 1) := by decide +kernel
theorem dX12_both_50 : decode cX12_both 50 = .ok (.goto 4, 3) := by decide +kernel
theorem dX12_both_53 : decode cX12_both 53 = .ok (.iconst 0, 1) := by decide +kernel
theorem dX12_both_54 : decode cX12_both 54 = .ok (.ireturn, 1) := by decide +kernel
theorem dX12_parting_0 : decode cX12_parting 0 = .ok (.aload_n 0, 1) := by decide +kernel
theorem dX12_parting_1 : decode cX12_parting 1 = .ok (.iconst 0, 1) := by decide +kernel
theorem dX12_parting_2 : decode cX12_parting 2 = .ok (.putfield 78, 3) := by decide +kernel
theorem dX12_parting_5 : decode cX12_parting 5 = .ok (.aload_n 0, 1) := by decide +kernel
theorem dX12_parting_6 : decode cX12_parting 6 = .ok (.iload_n 1, 1) := by decide +kernel
theorem dX12_parting_7 : decode cX12_parting 7 = .ok (.iconst 0, 1) := by decide +kernel
theorem dX12_parting_8 : decode cX12_parting 8 = .ok (.invokevirtual 178, 3) := by decide +kernel
theorem dX12_parting_11 : decode cX12_parting 11 = .ok (.ifCond .ne 5, 3) := by decide +kernel
theorem dX12_parting_14 : decode cX12_parting 14 = .ok (.iconst (-1), 1) := by decide +kernel
theorem dX12_parting_15 : decode cX12_parting 15 = .ok (.ireturn, 1) := by decide +kernel
theorem dX12_parting_16 : decode cX12_parting 16 = .ok (.aload_n 0, 1) := by decide +kernel
theorem dX12_parting_17 : decode cX12_parting 17 = .ok (.invokevirtual 198, 3) := by decide +kernel
theorem dX12_parting_20 : decode cX12_parting 20 = .ok (.aload_n 0, 1) := by decide +kernel
theorem dX12_parting_21 : decode cX12_parting 21 = .ok (.iconst 1, 1) := by decide +kernel
theorem dX12_parting_22 : decode cX12_parting 22 = .ok (.invokevirtual 201, 3) := by decide +kernel
theorem dX12_parting_25 : decode cX12_parting 25 = .ok (.aload_n 0, 1) := by decide +kernel
theorem dX12_parting_26 : decode cX12_parting 26 = .ok (.iload_n 1, 1) := by decide +kernel
theorem dX12_parting_27 : decode cX12_parting 27 = .ok (.invokevirtual 214, 3) := by decide +kernel
theorem dX12_parting_30 : decode cX12_parting 30 = .ok (.istore_n 2, 1) := by decide +kernel
theorem dX12_parting_31 : decode cX12_parting 31 = .ok (.aload_n 0, 1) := by decide +kernel
theorem dX12_parting_32 : decode cX12_parting 32 = .ok (.iconst 0, 1) := by decide +kernel
theorem dX12_parting_33 : decode cX12_parting 33 = .ok (.invokevirtual 201, 3) := by decide +kernel
theorem dX12_parting_36 : decode cX12_parting 36 = .ok (.iload_n 2, 1) := by decide +kernel
theorem dX12_parting_37 : decode cX12_parting 37 = .ok (.ifCond .ne 11, 3) := by decide +kernel
theorem dX12_parting_40 : decode cX12_parting 40 = .ok (.aload_n 0, 1) := by decide +kernel
theorem dX12_parting_41 : decode cX12_parting 41 = .ok (.iload_n 1, 1) := by decide +kernel
theorem dX12_parting_42 : decode cX12_parting 42 = .ok (.invokevirtual 214, 3) := by decide +kernel
theorem dX12_parting_45 : decode cX12_parting 45 = .ok (.ifCond .ne 6, 3) := by decide +kernel
theorem dX12_parting_48 : decode cX12_parting 48 = .ok (.bipush (-9), 2) := by decide +kernel
theorem dX12_parting_50 : decode cX12_parting 50 = .ok (.ireturn, 1) := by decide +kernel
theorem dX12_parting_51 : decode cX12_parting 51 = .ok (.iconst 0, 1) := by decide +kernel
theorem dX12_parting_52 : decode cX12_parting 52 = .ok (.istore_n 3, 1) := by decide +kernel
theorem dX12_parting_53 : decode cX12_parting 53 = .ok (.iload_n 3, 1) := by decide +kernel
theorem dX12_parting_54 : decode cX12_parting 54 = .ok (.aload_n 0, 1) := by decide +kernel
theorem dX12_parting_55 : decode cX12_parting 55 = .ok (.getfield 166, 3) := by decide +kernel
theorem dX12_parting_58 : decode cX12_parting 58 = .ok (.if_icmp .ge 87, 3) := by decide +kernel
theorem dX12_parting_61 : decode cX12_parting 61 = .ok (.iconst 0, 1) := by decide +kernel
theorem dX12_parting_62 : decode cX12_parting 62 = .ok (.istore 4, 2) := by decide +kernel
theorem dX12_parting_64 : decode cX12_parting 64 = .ok (.iconst 0, 1) := by decide +kernel
theorem dX12_parting_65 : decode cX12_parting 65 = .ok (.istore 5, 2) := by decide +kernel
theorem dX12_parting_67 : decode cX12_parting 67 = .ok (.iload 5, 2) := by decide +kernel
theorem dX12_parting_69 : decode cX12_parting 69 = .ok (.aload_n 0, 1) := by decide +kernel
theorem dX12_parting_70 : decode cX12_parting 70 = .ok (.getfield 188, 3) := by decide +kernel
theorem dX12_parting_73 : decode cX12_parting 73 = .ok (.if_icmp .ge 32, 3) := by decide +kernel
theorem dX12_parting_76 : decode cX12_parting 76 = .ok (.iload 4, 2) := by decide +kernel
theorem dX12_parting_78 : decode cX12_parting 78 = .ok (.aload_n 0, 1) := by decide +kernel
theorem dX12_parting_79 : decode cX12_parting 79 = .ok (.getfield 38, 3) := by decide +kernel
theorem dX12_parting_82 : decode cX12_parting 82 = .ok (.iconst 3, 1) := by decide +kernel
theorem dX12_parting_83 : decode cX12_parting 83 = .ok (.iload 5, 2) := by decide +kernel
theorem dX12_parting_85 : decode cX12_parting 85 = .ok (.imul, 1) := by decide +kernel
theorem dX12_parting_86 : decode cX12_parting 86 = .ok (.iaload, 1) := by decide +kernel
theorem dX12_parting_87 : decode cX12_parting 87 = .ok (.iload_n 3, 1) := by decide +kernel
theorem dX12_parting_88 : decode cX12_parting 88 = .ok (.if_icmp .ne 7, 3) := by decide +kernel
theorem dX12_parting_91 : decode cX12_parting 91 = .ok (.iconst 1, 1) := by decide +kernel
theorem dX12_parting_92 : decode cX12_parting 92 = .ok (.goto 4, 3) := by decide +kernel
theorem dX12_parting_95 : decode cX12_parting 95 = .ok (.iconst 0, 1) := by decide +kernel
theorem dX12_parting_96 : decode cX12_parting 96 = .ok (.ior, 1) := by decide +kernel
theorem dX12_parting_97 : decode cX12_parting 97 = .ok (.istore 4, 2) := by decide +kernel
theorem dX12_parting_99 : decode cX12_parting 99 = .ok (.iinc 5 1, 3) := by decide +kernel
theorem dX12_parting_102 : decode cX12_parting 102 = .ok (.goto (-35), 3) := by decide +kernel
theorem dX12_parting_105 : decode cX12_parting 105 = .ok (.aload_n 0, 1) := by decide +kernel
theorem dX12_parting_106 : decode cX12_parting 106 = .ok (.iconst 1, 1) := by decide +kernel
theorem dX12_parting_107 : decode cX12_parting 107 = .ok (.invokevirtual 201, 3) := by decide +kernel
theorem dX12_parting_110 : decode cX12_parting 110 = .ok (.aload_n 0, 1) := by decide +kernel
theorem dX12_parting_111 : decode cX12_parting 111 = .ok (.getfield 56, 3) := by decide +kernel
theorem dX12_parting_114 : decode cX12_parting 114 = .ok (.iload_n 3, 1) := by decide +kernel
theorem dX12_parting_115 : decode cX12_parting 115 = .ok (.aload_n 0, 1) := by decide +kernel
theorem dX12_parting_116 : decode cX12_parting 116 = .ok (.getfield 13, 3) := by decide +kernel
theorem dX12_parting_119 : decode cX12_parting 119 = .ok (.iconst 4, 1) := by decide +kernel
theorem dX12_parting_120 : decode cX12_parting 120 = .ok (.iload_n 3, 1) := by decide +kernel
theorem dX12_parting_121 : decode cX12_parting 121 = .ok (.imul, 1) := by decide +kernel
theorem dX12_parting_122 : decode cX12_parting 122 = .ok (.iaload, 1) := by decide +kernel
theorem dX12_parting_123 : decode cX12_parting 123 = .ok (.iastore, 1) := by decide +kernel
theorem dX12_parting_124 : decode cX12_parting 124 = .ok (.iload 4, 2) := by decide +kernel
theorem dX12_parting_126 : decode cX12_parting 126 = .ok (.ifCond .eq 13, 3) := by decide +kernel
theorem dX12_parting_129 : decode cX12_parting 129 = .ok (.aload_n 0, 1) := by decide +kernel
theorem dX12_parting_130 : decode cX12_parting 130 = .ok (.iload_n 1, 1) := by decide +kernel
theorem dX12_parting_131 : decode cX12_parting 131 = .ok (.invokevirtual 214, 3) := by decide +kernel
theorem dX12_parting_134 : decode cX12_parting 134 = .ok (.ifCond .eq 5, 3) := by decide +kernel
theorem dX12_parting_137 : decode cX12_parting 137 = .ok (.iload_n 3, 1) := by decide +kernel
theorem dX12_parting_138 : decode cX12_parting 138 = .ok (.ireturn, 1) := by decide +kernel
theorem dX12_parting_139 : decode cX12_parting 139 = .ok (.iinc 3 1, 3) := by decide +kernel
theorem dX12_parting_142 : decode cX12_parting 142 = .ok (.goto (-89), 3) := by decide +kernel
theorem dX12_parting_145 : decode cX12_parting 145 = .ok (.bipush (-9), 2) := by decide +kernel
theorem dX12_parting_147 : decode cX12_parting 147 = .ok (.ireturn, 1) := by decide +kernel
theorem dX12_forged_0 : decode cX12_forged 0 = .ok (.aload_n 0, 1) := by decide +kernel
theorem dX12_forged_1 : decode cX12_forged 1 = .ok (.iconst 0, 1) := by decide +kernel
theorem dX12_forged_2 : decode cX12_forged 2 = .ok (.putfield 78, 3) := by decide +kernel
theorem dX12_forged_5 : decode cX12_forged 5 = .ok (.aload_n 0, 1) := by decide +kernel
theorem dX12_forged_6 : decode cX12_forged 6 = .ok (.iload_n 1, 1) := by decide +kernel
theorem dX12_forged_7 : decode cX12_forged 7 = .ok (.iload_n 2, 1) := by decide +kernel
theorem dX12_forged_8 : decode cX12_forged 8 = .ok (.invokevirtual 178, 3) := by decide +kernel
theorem dX12_forged_11 : decode cX12_forged 11 = .ok (.ifCond .eq 11, 3) := by decide +kernel
theorem dX12_forged_14 : decode cX12_forged 14 = .ok (.aload_n 0, 1) := by decide +kernel
theorem dX12_forged_15 : decode cX12_forged 15 = .ok (.iload_n 3, 1) := by decide +kernel
theorem dX12_forged_16 : decode cX12_forged 16 = .ok (.invokevirtual 185, 3) := by decide +kernel
theorem dX12_forged_19 : decode cX12_forged 19 = .ok (.ifCond .ne 5, 3) := by decide +kernel
theorem dX12_forged_22 : decode cX12_forged 22 = .ok (.iconst (-1), 1) := by decide +kernel
theorem dX12_forged_23 : decode cX12_forged 23 = .ok (.ireturn, 1) := by decide +kernel
theorem dX12_forged_24 : decode cX12_forged 24 = .ok (.aload_n 0, 1) := by decide +kernel
theorem dX12_forged_25 : decode cX12_forged 25 = .ok (.iload_n 1, 1) := by decide +kernel
theorem dX12_forged_26 : decode cX12_forged 26 = .ok (.iload_n 2, 1) := by decide +kernel
theorem dX12_forged_27 : decode cX12_forged 27 = .ok (.invokevirtual 210, 3) := by decide +kernel
theorem dX12_forged_30 : decode cX12_forged 30 = .ok (.aload_n 0, 1) := by decide +kernel
theorem dX12_forged_31 : decode cX12_forged 31 = .ok (.getfield 47, 3) := by decide +kernel
theorem dX12_forged_34 : decode cX12_forged 34 = .ok (.iload_n 3, 1) := by decide +kernel
theorem dX12_forged_35 : decode cX12_forged 35 = .ok (.baload, 1) := by decide +kernel
theorem dX12_forged_36 : decode cX12_forged 36 = .ok (.ifCond .ne 6, 3) := by decide +kernel
theorem dX12_forged_39 : decode cX12_forged 39 = .ok (.bipush (-2), 2) := by decide +kernel
theorem dX12_forged_41 : decode cX12_forged 41 = .ok (.ireturn, 1) := by decide +kernel
theorem dX12_forged_42 : decode cX12_forged 42 = .ok (.aload_n 0, 1) := by decide +kernel
theorem dX12_forged_43 : decode cX12_forged 43 = .ok (.getfield 28, 3) := by decide +kernel
theorem dX12_forged_46 : decode cX12_forged 46 = .ok (.iconst 0, 1) := by decide +kernel
theorem dX12_forged_47 : decode cX12_forged 47 = .ok (.iaload, 1) := by decide +kernel
theorem dX12_forged_48 : decode cX12_forged 48 = .ok (.bipush 8, 2) := by decide +kernel
theorem dX12_forged_50 : decode cX12_forged 50 = .ok (.if_icmp .ne 6, 3) := by decide +kernel
theorem dX12_forged_53 : decode cX12_forged 53 = .ok (.bipush (-3), 2) := by decide +kernel
theorem dX12_forged_55 : decode cX12_forged 55 = .ok (.ireturn, 1) := by decide +kernel
theorem dX12_forged_56 : decode cX12_forged 56 = .ok (.iconst 0, 1) := by decide +kernel
theorem dX12_forged_57 : decode cX12_forged 57 = .ok (.istore 4, 2) := by decide +kernel
theorem dX12_forged_59 : decode cX12_forged 59 = .ok (.iload 4, 2) := by decide +kernel
theorem dX12_forged_61 : decode cX12_forged 61 = .ok (.aload_n 0, 1) := by decide +kernel
theorem dX12_forged_62 : decode cX12_forged 62 = .ok (.getfield 28, 3) := by decide +kernel
theorem dX12_forged_65 : decode cX12_forged 65 = .ok (.iconst 0, 1) := by decide +kernel
theorem dX12_forged_66 : decode cX12_forged 66 = .ok (.iaload, 1) := by decide +kernel
theorem dX12_forged_67 : decode cX12_forged 67 = .ok (.if_icmp .gt 169, 3) := by decide +kernel
theorem dX12_forged_70 : decode cX12_forged 70 = .ok (.iconst 0, 1) := by decide +kernel
theorem dX12_forged_71 : decode cX12_forged 71 = .ok (.istore 5, 2) := by decide +kernel
theorem dX12_forged_73 : decode cX12_forged 73 = .ok (.iload 5, 2) := by decide +kernel
theorem dX12_forged_75 : decode cX12_forged 75 = .ok (.aload_n 0, 1) := by decide +kernel
theorem dX12_forged_76 : decode cX12_forged 76 = .ok (.getfield 172, 3) := by decide +kernel
theorem dX12_forged_79 : decode cX12_forged 79 = .ok (.if_icmp .ge 151, 3) := by decide +kernel
theorem dX12_forged_82 : decode cX12_forged 82 = .ok (.aload_n 0, 1) := by decide +kernel
theorem dX12_forged_83 : decode cX12_forged 83 = .ok (.aload_n 0, 1) := by decide +kernel
theorem dX12_forged_84 : decode cX12_forged 84 = .ok (.getfield 28, 3) := by decide +kernel
theorem dX12_forged_87 : decode cX12_forged 87 = .ok (.iconst 0, 1) := by decide +kernel
theorem dX12_forged_88 : decode cX12_forged 88 = .ok (.iaload, 1) := by decide +kernel
theorem dX12_forged_89 : decode cX12_forged 89 = .ok (.iconst 1, 1) := by decide +kernel
theorem dX12_forged_90 : decode cX12_forged 90 = .ok (.iadd, 1) := by decide +kernel
theorem dX12_forged_91 : decode cX12_forged 91 = .ok (.putfield 188, 3) := by decide +kernel
theorem dX12_forged_94 : decode cX12_forged 94 = .ok (.iconst 0, 1) := by decide +kernel
theorem dX12_forged_95 : decode cX12_forged 95 = .ok (.istore 6, 2) := by decide +kernel
theorem dX12_forged_97 : decode cX12_forged 97 = .ok (.iload 6, 2) := by decide +kernel
theorem dX12_forged_99 : decode cX12_forged 99 = .ok (.aload_n 0, 1) := by decide +kernel
theorem dX12_forged_100 : decode cX12_forged 100 = .ok (.getfield 188, 3) := by decide +kernel
theorem dX12_forged_103 : decode cX12_forged 103 = .ok (.if_icmp .ge 86, 3) := by decide +kernel
theorem dX12_forged_106 : decode cX12_forged 106 = .ok (.iconst 0, 1) := by decide +kernel
theorem dX12_forged_107 : decode cX12_forged 107 = .ok (.istore 7, 2) := by decide +kernel
theorem dX12_forged_109 : decode cX12_forged 109 = .ok (.iload 7, 2) := by decide +kernel
theorem dX12_forged_111 : decode cX12_forged 111 = .ok (.iconst 3, 1) := by decide +kernel
theorem dX12_forged_112 : decode cX12_forged 112 = .ok (.if_icmp .ge 71, 3) := by decide +kernel
theorem dX12_forged_115 : decode cX12_forged 115 = .ok (.aload_n 0, 1) := by decide +kernel
theorem dX12_forged_116 : decode cX12_forged 116 = .ok (.getfield 38, 3) := by decide +kernel
theorem dX12_forged_119 : decode cX12_forged 119 = .ok (.iconst 3, 1) := by decide +kernel
theorem dX12_forged_120 : decode cX12_forged 120 = .ok (.iload 6, 2) := by decide +kernel
theorem dX12_forged_122 : decode cX12_forged 122 = .ok (.imul, 1) := by decide +kernel
theorem dX12_forged_123 : decode cX12_forged 123 = .ok (.iload 7, 2) := by decide +kernel
theorem dX12_forged_125 : decode cX12_forged 125 = .ok (.iadd, 1) := by decide +kernel
theorem dX12_forged_126 : decode cX12_forged 126 = .ok (.iload 6, 2) := by decide +kernel
theorem dX12_forged_128 : decode cX12_forged 128 = .ok (.iload 4, 2) := by decide +kernel
theorem dX12_forged_130 : decode cX12_forged 130 = .ok (.if_icmp .ne 18, 3) := by decide +kernel
theorem dX12_forged_133 : decode cX12_forged 133 = .ok (.aload_n 0, 1) := by decide +kernel
theorem dX12_forged_134 : decode cX12_forged 134 = .ok (.getfield 22, 3) := by decide +kernel
theorem dX12_forged_137 : decode cX12_forged 137 = .ok (.iconst 3, 1) := by decide +kernel
theorem dX12_forged_138 : decode cX12_forged 138 = .ok (.iload 5, 2) := by decide +kernel
theorem dX12_forged_140 : decode cX12_forged 140 = .ok (.imul, 1) := by decide +kernel
theorem dX12_forged_141 : decode cX12_forged 141 = .ok (.iload 7, 2) := by decide +kernel
theorem dX12_forged_143 : decode cX12_forged 143 = .ok (.iadd, 1) := by decide +kernel
theorem dX12_forged_144 : decode cX12_forged 144 = .ok (.iaload, 1) := by decide +kernel
theorem dX12_forged_145 : decode cX12_forged 145 = .ok (.goto 31, 3) := by decide +kernel
theorem dX12_forged_148 : decode cX12_forged 148 = .ok (.aload_n 0, 1) := by decide +kernel
theorem dX12_forged_149 : decode cX12_forged 149 = .ok (.getfield 28, 3) := by decide +kernel
theorem dX12_forged_152 : decode cX12_forged 152 = .ok (.iconst 1, 1) := by decide +kernel
theorem dX12_forged_153 : decode cX12_forged 153 = .ok (.iconst 3, 1) := by decide +kernel
theorem dX12_forged_154 : decode cX12_forged 154 = .ok (.iload 6, 2) := by decide +kernel
theorem dX12_forged_156 : decode cX12_forged 156 = .ok (.iload 4, 2) := by decide +kernel
theorem dX12_forged_158 : decode cX12_forged 158 = .ok (.if_icmp .ge 8, 3) := by decide +kernel
theorem dX12_forged_161 : decode cX12_forged 161 = .ok (.iload 6, 2) := by decide +kernel
theorem dX12_forged_163 : decode cX12_forged 163 = .ok (.goto 7, 3) := by decide +kernel
theorem dX12_forged_166 : decode cX12_forged 166 = .ok (.iload 6, 2) := by decide +kernel
theorem dX12_forged_168 : decode cX12_forged 168 = .ok (.iconst 1, 1) := by decide +kernel
theorem dX12_forged_169 : decode cX12_forged 169 = .ok (.isub, 1) := by decide +kernel
theorem dX12_forged_170 : decode cX12_forged 170 = .ok (.imul, 1) := by decide +kernel
theorem dX12_forged_171 : decode cX12_forged 171 = .ok (.iadd, 1) := by decide +kernel
theorem dX12_forged_172 : decode cX12_forged 172 = .ok (.iload 7, 2) := by decide +kernel
theorem dX12_forged_174 : decode cX12_forged 174 = .ok (.iadd, 1) := by decide +kernel
theorem dX12_forged_175 : decode cX12_forged 175 = .ok (.iaload, 1) := by decide +kernel
theorem dX12_forged_176 : decode cX12_forged 176 = .ok (.iastore, 1) := by decide +kernel
theorem dX12_forged_177 : decode cX12_forged 177 = .ok (.iinc 7 1, 3) := by decide +kernel
theorem dX12_forged_180 : decode cX12_forged 180 = .ok (.goto (-71), 3) := by decide +kernel
theorem dX12_forged_183 : decode cX12_forged 183 = .ok (.iinc 6 1, 3) := by decide +kernel
theorem dX12_forged_186 : decode cX12_forged 186 = .ok (.goto (-89), 3) := by decide +kernel
theorem dX12_forged_189 : decode cX12_forged 189 = .ok (.aload_n 0, 1) := by decide +kernel
theorem dX12_forged_190 : decode cX12_forged 190 = .ok (.iload_n 1, 1) := by decide +kernel
theorem dX12_forged_191 : decode cX12_forged 191 = .ok (.invokevirtual 204, 3) := by decide +kernel
theorem dX12_forged_194 : decode cX12_forged 194 = .ok (.aload_n 0, 1) := by decide +kernel
theorem dX12_forged_195 : decode cX12_forged 195 = .ok (.getfield 47, 3) := by decide +kernel
theorem dX12_forged_198 : decode cX12_forged 198 = .ok (.iload 4, 2) := by decide +kernel
theorem dX12_forged_200 : decode cX12_forged 200 = .ok (.iload_n 3, 1) := by decide +kernel
theorem dX12_forged_201 : decode cX12_forged 201 = .ok (.if_icmp .gt 9, 3) := by decide +kernel
theorem dX12_forged_204 : decode cX12_forged 204 = .ok (.iload_n 3, 1) := by decide +kernel
theorem dX12_forged_205 : decode cX12_forged 205 = .ok (.iconst 1, 1) := by decide +kernel
theorem dX12_forged_206 : decode cX12_forged 206 = .ok (.iadd, 1) := by decide +kernel
theorem dX12_forged_207 : decode cX12_forged 207 = .ok (.goto 4, 3) := by decide +kernel
theorem dX12_forged_210 : decode cX12_forged 210 = .ok (.iload_n 3, 1) := by decide +kernel
theorem dX12_forged_211 : decode cX12_forged 211 = .ok (.baload, 1) := by decide +kernel
theorem dX12_forged_212 : decode cX12_forged 212 = .ok (.ifCond .ne 12, 3) := by decide +kernel
theorem dX12_forged_215 : decode cX12_forged 215 = .ok (.bipush 10, 2) := by decide +kernel
theorem dX12_forged_217 : decode cX12_forged 217 = .ok (.iload 4, 2) := by decide +kernel
theorem dX12_forged_219 : decode cX12_forged 219 = .ok (.imul, 1) := by decide +kernel
theorem dX12_forged_220 : decode cX12_forged 220 = .ok (.iload 5, 2) := by decide +kernel
theorem dX12_forged_222 : decode cX12_forged 222 = .ok (.iadd, 1) := by decide +kernel
theorem dX12_forged_223 : decode cX12_forged 223 = .ok (.ireturn, 1) := by decide +kernel
theorem dX12_forged_224 : decode cX12_forged 224 = .ok (.iinc 5 1, 3) := by decide +kernel
theorem dX12_forged_227 : decode cX12_forged 227 = .ok (.goto (-154), 3) := by decide +kernel
theorem dX12_forged_230 : decode cX12_forged 230 = .ok (.iinc 4 1, 3) := by decide +kernel
theorem dX12_forged_233 : decode cX12_forged 233 = .ok (.goto (-174), 3) := by decide +kernel
theorem dX12_forged_236 : decode cX12_forged 236 = .ok (.bipush (-9), 2) := by decide +kernel
theorem dX12_forged_238 : decode cX12_forged 238 = .ok (.ireturn, 1) := by decide +kernel
theorem dX12_waysOf_0 : decode cX12_waysOf 0 = .ok (.iconst 0, 1) := by decide +kernel
theorem dX12_waysOf_1 : decode cX12_waysOf 1 = .ok (.istore 4, 2) := by decide +kernel
theorem dX12_waysOf_3 : decode cX12_waysOf 3 = .ok (.iconst 0, 1) := by decide +kernel
theorem dX12_waysOf_4 : decode cX12_waysOf 4 = .ok (.istore 5, 2) := by decide +kernel
theorem dX12_waysOf_6 : decode cX12_waysOf 6 = .ok (.iload 5, 2) := by decide +kernel
theorem dX12_waysOf_8 : decode cX12_waysOf 8 = .ok (.aload_n 0, 1) := by decide +kernel
theorem dX12_waysOf_9 : decode cX12_waysOf 9 = .ok (.getfield 188, 3) := by decide +kernel
theorem dX12_waysOf_12 : decode cX12_waysOf 12 = .ok (.if_icmp .ge 196, 3) := by decide +kernel
theorem dX12_waysOf_15 : decode cX12_waysOf 15 = .ok (.aload_n 0, 1) := by decide +kernel
theorem dX12_waysOf_16 : decode cX12_waysOf 16 = .ok (.iload_n 1, 1) := by decide +kernel
theorem dX12_waysOf_17 : decode cX12_waysOf 17 = .ok (.iload 5, 2) := by decide +kernel
theorem dX12_waysOf_19 : decode cX12_waysOf 19 = .ok (.invokevirtual 182, 3) := by decide +kernel
theorem dX12_waysOf_22 : decode cX12_waysOf 22 = .ok (.iload_n 2, 1) := by decide +kernel
theorem dX12_waysOf_23 : decode cX12_waysOf 23 = .ok (.if_icmp .ne 179, 3) := by decide +kernel
theorem dX12_waysOf_26 : decode cX12_waysOf 26 = .ok (.lconst 0, 1) := by decide +kernel
theorem dX12_waysOf_27 : decode cX12_waysOf 27 = .ok (.lstore 6, 2) := by decide +kernel
theorem dX12_waysOf_29 : decode cX12_waysOf 29 = .ok (.iconst 0, 1) := by decide +kernel
theorem dX12_waysOf_30 : decode cX12_waysOf 30 = .ok (.istore 8, 2) := by decide +kernel
theorem dX12_waysOf_32 : decode cX12_waysOf 32 = .ok (.iload 8, 2) := by decide +kernel
theorem dX12_waysOf_34 : decode cX12_waysOf 34 = .ok (.aload_n 0, 1) := by decide +kernel
theorem dX12_waysOf_35 : decode cX12_waysOf 35 = .ok (.getfield 166, 3) := by decide +kernel
theorem dX12_waysOf_38 : decode cX12_waysOf 38 = .ok (.if_icmp .ge 30, 3) := by decide +kernel
theorem dX12_waysOf_41 : decode cX12_waysOf 41 = .ok (.lload 6, 2) := by decide +kernel
theorem dX12_waysOf_43 : decode cX12_waysOf 43 = .ok (.iload 4, 2) := by decide +kernel
theorem dX12_waysOf_45 : decode cX12_waysOf 45 = .ok (.ifCond .ne 7, 3) := by decide +kernel
theorem dX12_waysOf_48 : decode cX12_waysOf 48 = .ok (.lconst 0, 1) := by decide +kernel
theorem dX12_waysOf_49 : decode cX12_waysOf 49 = .ok (.goto 10, 3) := by decide +kernel
theorem dX12_waysOf_52 : decode cX12_waysOf 52 = .ok (.aload_n 0, 1) := by decide +kernel
theorem dX12_waysOf_53 : decode cX12_waysOf 53 = .ok (.getfield 65, 3) := by decide +kernel
theorem dX12_waysOf_56 : decode cX12_waysOf 56 = .ok (.iload 8, 2) := by decide +kernel
theorem dX12_waysOf_58 : decode cX12_waysOf 58 = .ok (.laload, 1) := by decide +kernel
theorem dX12_waysOf_59 : decode cX12_waysOf 59 = .ok (.ladd, 1) := by decide +kernel
theorem dX12_waysOf_60 : decode cX12_waysOf 60 = .ok (.lstore 6, 2) := by decide +kernel
theorem dX12_waysOf_62 : decode cX12_waysOf 62 = .ok (.iinc 8 1, 3) := by decide +kernel
theorem dX12_waysOf_65 : decode cX12_waysOf 65 = .ok (.goto (-33), 3) := by decide +kernel
theorem dX12_waysOf_68 : decode cX12_waysOf 68 = .ok (.iconst 0, 1) := by decide +kernel
theorem dX12_waysOf_69 : decode cX12_waysOf 69 = .ok (.istore 8, 2) := by decide +kernel
theorem dX12_waysOf_71 : decode cX12_waysOf 71 = .ok (.iload 8, 2) := by decide +kernel
theorem dX12_waysOf_73 : decode cX12_waysOf 73 = .ok (.aload_n 0, 1) := by decide +kernel
theorem dX12_waysOf_74 : decode cX12_waysOf 74 = .ok (.getfield 166, 3) := by decide +kernel
theorem dX12_waysOf_77 : decode cX12_waysOf 77 = .ok (.if_icmp .ge 90, 3) := by decide +kernel
theorem dX12_waysOf_80 : decode cX12_waysOf 80 = .ok (.aload_n 0, 1) := by decide +kernel
theorem dX12_waysOf_81 : decode cX12_waysOf 81 = .ok (.getfield 59, 3) := by decide +kernel
theorem dX12_waysOf_84 : decode cX12_waysOf 84 = .ok (.iload 5, 2) := by decide +kernel
theorem dX12_waysOf_86 : decode cX12_waysOf 86 = .ok (.iaload, 1) := by decide +kernel
theorem dX12_waysOf_87 : decode cX12_waysOf 87 = .ok (.iload 8, 2) := by decide +kernel
theorem dX12_waysOf_89 : decode cX12_waysOf 89 = .ok (.ishr, 1) := by decide +kernel
theorem dX12_waysOf_90 : decode cX12_waysOf 90 = .ok (.iconst 1, 1) := by decide +kernel
theorem dX12_waysOf_91 : decode cX12_waysOf 91 = .ok (.iand, 1) := by decide +kernel
theorem dX12_waysOf_92 : decode cX12_waysOf 92 = .ok (.iconst 1, 1) := by decide +kernel
theorem dX12_waysOf_93 : decode cX12_waysOf 93 = .ok (.if_icmp .ne 30, 3) := by decide +kernel
theorem dX12_waysOf_96 : decode cX12_waysOf 96 = .ok (.aload_n 0, 1) := by decide +kernel
theorem dX12_waysOf_97 : decode cX12_waysOf 97 = .ok (.getfield 56, 3) := by decide +kernel
theorem dX12_waysOf_100 : decode cX12_waysOf 100 = .ok (.iload 8, 2) := by decide +kernel
theorem dX12_waysOf_102 : decode cX12_waysOf 102 = .ok (.iaload, 1) := by decide +kernel
theorem dX12_waysOf_103 : decode cX12_waysOf 103 = .ok (.iload_n 3, 1) := by decide +kernel
theorem dX12_waysOf_104 : decode cX12_waysOf 104 = .ok (.if_icmp .ne 19, 3) := by decide +kernel
theorem dX12_waysOf_107 : decode cX12_waysOf 107 = .ok (.aload_n 0, 1) := by decide +kernel
theorem dX12_waysOf_108 : decode cX12_waysOf 108 = .ok (.iload_n 1, 1) := by decide +kernel
theorem dX12_waysOf_109 : decode cX12_waysOf 109 = .ok (.iload 5, 2) := by decide +kernel
theorem dX12_waysOf_111 : decode cX12_waysOf 111 = .ok (.iload 8, 2) := by decide +kernel
theorem dX12_waysOf_113 : decode cX12_waysOf 113 = .ok (.invokevirtual 191, 3) := by decide +kernel
theorem dX12_waysOf_116 : decode cX12_waysOf 116 = .ok (.ifCond .eq 7, 3) := by decide +kernel
theorem dX12_waysOf_119 : decode cX12_waysOf 119 = .ok (.iconst 1, 1) := by decide +kernel
theorem dX12_waysOf_120 : decode cX12_waysOf 120 = .ok (.goto 4, 3) := by decide +kernel
theorem dX12_waysOf_123 : decode cX12_waysOf 123 = .ok (.iconst 0, 1) := by decide +kernel
theorem dX12_waysOf_124 : decode cX12_waysOf 124 = .ok (.istore 9, 2) := by decide +kernel
theorem dX12_waysOf_126 : decode cX12_waysOf 126 = .ok (.aload_n 0, 1) := by decide +kernel
theorem dX12_waysOf_127 : decode cX12_waysOf 127 = .ok (.getfield 69, 3) := by decide +kernel
theorem dX12_waysOf_130 : decode cX12_waysOf 130 = .ok (.iload 8, 2) := by decide +kernel
theorem dX12_waysOf_132 : decode cX12_waysOf 132 = .ok (.iload 9, 2) := by decide +kernel
theorem dX12_waysOf_134 : decode cX12_waysOf 134 = .ok (.ifCond .ne 7, 3) := by decide +kernel
theorem dX12_waysOf_137 : decode cX12_waysOf 137 = .ok (.lconst 0, 1) := by decide +kernel
theorem dX12_waysOf_138 : decode cX12_waysOf 138 = .ok (.goto 22, 3) := by decide +kernel
theorem dX12_waysOf_141 : decode cX12_waysOf 141 = .ok (.iload 4, 2) := by decide +kernel
theorem dX12_waysOf_143 : decode cX12_waysOf 143 = .ok (.ifCond .ne 7, 3) := by decide +kernel
theorem dX12_waysOf_146 : decode cX12_waysOf 146 = .ok (.lconst 1, 1) := by decide +kernel
theorem dX12_waysOf_147 : decode cX12_waysOf 147 = .ok (.goto 13, 3) := by decide +kernel
theorem dX12_waysOf_150 : decode cX12_waysOf 150 = .ok (.lload 6, 2) := by decide +kernel
theorem dX12_waysOf_152 : decode cX12_waysOf 152 = .ok (.aload_n 0, 1) := by decide +kernel
theorem dX12_waysOf_153 : decode cX12_waysOf 153 = .ok (.getfield 65, 3) := by decide +kernel
theorem dX12_waysOf_156 : decode cX12_waysOf 156 = .ok (.iload 8, 2) := by decide +kernel
theorem dX12_waysOf_158 : decode cX12_waysOf 158 = .ok (.laload, 1) := by decide +kernel
theorem dX12_waysOf_159 : decode cX12_waysOf 159 = .ok (.lsub, 1) := by decide +kernel
theorem dX12_waysOf_160 : decode cX12_waysOf 160 = .ok (.lastore, 1) := by decide +kernel
theorem dX12_waysOf_161 : decode cX12_waysOf 161 = .ok (.iinc 8 1, 3) := by decide +kernel
theorem dX12_waysOf_164 : decode cX12_waysOf 164 = .ok (.goto (-93), 3) := by decide +kernel
theorem dX12_waysOf_167 : decode cX12_waysOf 167 = .ok (.iconst 0, 1) := by decide +kernel
theorem dX12_waysOf_168 : decode cX12_waysOf 168 = .ok (.istore 8, 2) := by decide +kernel
theorem dX12_waysOf_170 : decode cX12_waysOf 170 = .ok (.iload 8, 2) := by decide +kernel
theorem dX12_waysOf_172 : decode cX12_waysOf 172 = .ok (.aload_n 0, 1) := by decide +kernel
theorem dX12_waysOf_173 : decode cX12_waysOf 173 = .ok (.getfield 166, 3) := by decide +kernel
theorem dX12_waysOf_176 : decode cX12_waysOf 176 = .ok (.if_icmp .ge 23, 3) := by decide +kernel
theorem dX12_waysOf_179 : decode cX12_waysOf 179 = .ok (.aload_n 0, 1) := by decide +kernel
theorem dX12_waysOf_180 : decode cX12_waysOf 180 = .ok (.getfield 65, 3) := by decide +kernel
theorem dX12_waysOf_183 : decode cX12_waysOf 183 = .ok (.iload 8, 2) := by decide +kernel
theorem dX12_waysOf_185 : decode cX12_waysOf 185 = .ok (.aload_n 0, 1) := by decide +kernel
theorem dX12_waysOf_186 : decode cX12_waysOf 186 = .ok (.getfield 69, 3) := by decide +kernel
theorem dX12_waysOf_189 : decode cX12_waysOf 189 = .ok (.iload 8, 2) := by decide +kernel
theorem dX12_waysOf_191 : decode cX12_waysOf 191 = .ok (.laload, 1) := by decide +kernel
theorem dX12_waysOf_192 : decode cX12_waysOf 192 = .ok (.lastore, 1) := by decide +kernel
theorem dX12_waysOf_193 : decode cX12_waysOf 193 = .ok (.iinc 8 1, 3) := by decide +kernel
theorem dX12_waysOf_196 : decode cX12_waysOf 196 = .ok (.goto (-26), 3) := by decide +kernel
theorem dX12_waysOf_199 : decode cX12_waysOf 199 = .ok (.iinc 4 1, 3) := by decide +kernel
theorem dX12_waysOf_202 : decode cX12_waysOf 202 = .ok (.iinc 5 1, 3) := by decide +kernel
theorem dX12_waysOf_205 : decode cX12_waysOf 205 = .ok (.goto (-199), 3) := by decide +kernel
theorem dX12_waysOf_208 : decode cX12_waysOf 208 = .ok (.lconst 0, 1) := by decide +kernel
theorem dX12_waysOf_209 : decode cX12_waysOf 209 = .ok (.lstore 5, 2) := by decide +kernel
theorem dX12_waysOf_211 : decode cX12_waysOf 211 = .ok (.iconst 0, 1) := by decide +kernel
theorem dX12_waysOf_212 : decode cX12_waysOf 212 = .ok (.istore 7, 2) := by decide +kernel
theorem dX12_waysOf_214 : decode cX12_waysOf 214 = .ok (.iload 7, 2) := by decide +kernel
theorem dX12_waysOf_216 : decode cX12_waysOf 216 = .ok (.aload_n 0, 1) := by decide +kernel
theorem dX12_waysOf_217 : decode cX12_waysOf 217 = .ok (.getfield 166, 3) := by decide +kernel
theorem dX12_waysOf_220 : decode cX12_waysOf 220 = .ok (.if_icmp .ge 27, 3) := by decide +kernel
theorem dX12_waysOf_223 : decode cX12_waysOf 223 = .ok (.iload 4, 2) := by decide +kernel
theorem dX12_waysOf_225 : decode cX12_waysOf 225 = .ok (.iconst 1, 1) := by decide +kernel
theorem dX12_waysOf_226 : decode cX12_waysOf 226 = .ok (.if_icmp .le 21, 3) := by decide +kernel
theorem dX12_waysOf_229 : decode cX12_waysOf 229 = .ok (.lload 5, 2) := by decide +kernel
theorem dX12_waysOf_231 : decode cX12_waysOf 231 = .ok (.aload_n 0, 1) := by decide +kernel
theorem dX12_waysOf_232 : decode cX12_waysOf 232 = .ok (.getfield 65, 3) := by decide +kernel
theorem dX12_waysOf_235 : decode cX12_waysOf 235 = .ok (.iload 7, 2) := by decide +kernel
theorem dX12_waysOf_237 : decode cX12_waysOf 237 = .ok (.laload, 1) := by decide +kernel
theorem dX12_waysOf_238 : decode cX12_waysOf 238 = .ok (.ladd, 1) := by decide +kernel
theorem dX12_waysOf_239 : decode cX12_waysOf 239 = .ok (.lstore 5, 2) := by decide +kernel
theorem dX12_waysOf_241 : decode cX12_waysOf 241 = .ok (.iinc 7 1, 3) := by decide +kernel
theorem dX12_waysOf_244 : decode cX12_waysOf 244 = .ok (.goto (-30), 3) := by decide +kernel
theorem dX12_waysOf_247 : decode cX12_waysOf 247 = .ok (.lload 5, 2) := by decide +kernel
theorem dX12_waysOf_249 : decode cX12_waysOf 249 = .ok (.lreturn, 1) := by decide +kernel
theorem dX12_waysAll_0 : decode cX12_waysAll 0 = .ok (.lconst 1, 1) := by decide +kernel
theorem dX12_waysAll_1 : decode cX12_waysAll 1 = .ok (.lstore_n 2, 1) := by decide +kernel
theorem dX12_waysAll_2 : decode cX12_waysAll 2 = .ok (.iconst 0, 1) := by decide +kernel
theorem dX12_waysAll_3 : decode cX12_waysAll 3 = .ok (.istore 4, 2) := by decide +kernel
theorem dX12_waysAll_5 : decode cX12_waysAll 5 = .ok (.iload 4, 2) := by decide +kernel
theorem dX12_waysAll_7 : decode cX12_waysAll 7 = .ok (.bipush 8, 2) := by decide +kernel
theorem dX12_waysAll_9 : decode cX12_waysAll 9 = .ok (.if_icmp .ge 104, 3) := by decide +kernel
theorem dX12_waysAll_12 : decode cX12_waysAll 12 = .ok (.iconst 0, 1) := by decide +kernel
theorem dX12_waysAll_13 : decode cX12_waysAll 13 = .ok (.istore 5, 2) := by decide +kernel
theorem dX12_waysAll_15 : decode cX12_waysAll 15 = .ok (.iconst 0, 1) := by decide +kernel
theorem dX12_waysAll_16 : decode cX12_waysAll 16 = .ok (.istore 6, 2) := by decide +kernel
theorem dX12_waysAll_18 : decode cX12_waysAll 18 = .ok (.iload 6, 2) := by decide +kernel
theorem dX12_waysAll_20 : decode cX12_waysAll 20 = .ok (.aload_n 0, 1) := by decide +kernel
theorem dX12_waysAll_21 : decode cX12_waysAll 21 = .ok (.getfield 188, 3) := by decide +kernel
theorem dX12_waysAll_24 : decode cX12_waysAll 24 = .ok (.if_icmp .ge 31, 3) := by decide +kernel
theorem dX12_waysAll_27 : decode cX12_waysAll 27 = .ok (.iload 5, 2) := by decide +kernel
theorem dX12_waysAll_29 : decode cX12_waysAll 29 = .ok (.aload_n 0, 1) := by decide +kernel
theorem dX12_waysAll_30 : decode cX12_waysAll 30 = .ok (.iload_n 1, 1) := by decide +kernel
theorem dX12_waysAll_31 : decode cX12_waysAll 31 = .ok (.iload 6, 2) := by decide +kernel
theorem dX12_waysAll_33 : decode cX12_waysAll 33 = .ok (.invokevirtual 182, 3) := by decide +kernel
theorem dX12_waysAll_36 : decode cX12_waysAll 36 = .ok (.iload 4, 2) := by decide +kernel
theorem dX12_waysAll_38 : decode cX12_waysAll 38 = .ok (.if_icmp .ne 7, 3) := by decide +kernel
theorem dX12_waysAll_41 : decode cX12_waysAll 41 = .ok (.iconst 1, 1) := by decide +kernel
theorem dX12_waysAll_42 : decode cX12_waysAll 42 = .ok (.goto 4, 3) := by decide +kernel
theorem dX12_waysAll_45 : decode cX12_waysAll 45 = .ok (.iconst 0, 1) := by decide +kernel
theorem dX12_waysAll_46 : decode cX12_waysAll 46 = .ok (.ior, 1) := by decide +kernel
theorem dX12_waysAll_47 : decode cX12_waysAll 47 = .ok (.istore 5, 2) := by decide +kernel
theorem dX12_waysAll_49 : decode cX12_waysAll 49 = .ok (.iinc 6 1, 3) := by decide +kernel
theorem dX12_waysAll_52 : decode cX12_waysAll 52 = .ok (.goto (-34), 3) := by decide +kernel
theorem dX12_waysAll_55 : decode cX12_waysAll 55 = .ok (.lconst 0, 1) := by decide +kernel
theorem dX12_waysAll_56 : decode cX12_waysAll 56 = .ok (.lstore 6, 2) := by decide +kernel
theorem dX12_waysAll_58 : decode cX12_waysAll 58 = .ok (.iconst 0, 1) := by decide +kernel
theorem dX12_waysAll_59 : decode cX12_waysAll 59 = .ok (.istore 8, 2) := by decide +kernel
theorem dX12_waysAll_61 : decode cX12_waysAll 61 = .ok (.iload 8, 2) := by decide +kernel
theorem dX12_waysAll_63 : decode cX12_waysAll 63 = .ok (.bipush 26, 2) := by decide +kernel
theorem dX12_waysAll_65 : decode cX12_waysAll 65 = .ok (.if_icmp .ge 28, 3) := by decide +kernel
theorem dX12_waysAll_68 : decode cX12_waysAll 68 = .ok (.iload 5, 2) := by decide +kernel
theorem dX12_waysAll_70 : decode cX12_waysAll 70 = .ok (.ifCond .eq 23, 3) := by decide +kernel
theorem dX12_waysAll_73 : decode cX12_waysAll 73 = .ok (.lload 6, 2) := by decide +kernel
theorem dX12_waysAll_75 : decode cX12_waysAll 75 = .ok (.aload_n 0, 1) := by decide +kernel
theorem dX12_waysAll_76 : decode cX12_waysAll 76 = .ok (.iload_n 1, 1) := by decide +kernel
theorem dX12_waysAll_77 : decode cX12_waysAll 77 = .ok (.iload 4, 2) := by decide +kernel
theorem dX12_waysAll_79 : decode cX12_waysAll 79 = .ok (.iload 8, 2) := by decide +kernel
theorem dX12_waysAll_81 : decode cX12_waysAll 81 = .ok (.invokevirtual 245, 3) := by decide +kernel
theorem dX12_waysAll_84 : decode cX12_waysAll 84 = .ok (.ladd, 1) := by decide +kernel
theorem dX12_waysAll_85 : decode cX12_waysAll 85 = .ok (.lstore 6, 2) := by decide +kernel
theorem dX12_waysAll_87 : decode cX12_waysAll 87 = .ok (.iinc 8 1, 3) := by decide +kernel
theorem dX12_waysAll_90 : decode cX12_waysAll 90 = .ok (.goto (-29), 3) := by decide +kernel
theorem dX12_waysAll_93 : decode cX12_waysAll 93 = .ok (.lload_n 2, 1) := by decide +kernel
theorem dX12_waysAll_94 : decode cX12_waysAll 94 = .ok (.iload 5, 2) := by decide +kernel
theorem dX12_waysAll_96 : decode cX12_waysAll 96 = .ok (.ifCond .eq 8, 3) := by decide +kernel
theorem dX12_waysAll_99 : decode cX12_waysAll 99 = .ok (.lload 6, 2) := by decide +kernel
theorem dX12_waysAll_101 : decode cX12_waysAll 101 = .ok (.goto 4, 3) := by decide +kernel
theorem dX12_waysAll_104 : decode cX12_waysAll 104 = .ok (.lconst 1, 1) := by decide +kernel
theorem dX12_waysAll_105 : decode cX12_waysAll 105 = .ok (.lmul, 1) := by decide +kernel
theorem dX12_waysAll_106 : decode cX12_waysAll 106 = .ok (.lstore_n 2, 1) := by decide +kernel
theorem dX12_waysAll_107 : decode cX12_waysAll 107 = .ok (.iinc 4 1, 3) := by decide +kernel
theorem dX12_waysAll_110 : decode cX12_waysAll 110 = .ok (.goto (-105), 3) := by decide +kernel
theorem dX12_waysAll_113 : decode cX12_waysAll 113 = .ok (.aload_n 0, 1) := by decide +kernel
theorem dX12_waysAll_114 : decode cX12_waysAll 114 = .ok (.getfield 188, 3) := by decide +kernel
theorem dX12_waysAll_117 : decode cX12_waysAll 117 = .ok (.ifCond .ne 7, 3) := by decide +kernel
theorem dX12_waysAll_120 : decode cX12_waysAll 120 = .ok (.lconst 0, 1) := by decide +kernel
theorem dX12_waysAll_121 : decode cX12_waysAll 121 = .ok (.goto 4, 3) := by decide +kernel
theorem dX12_waysAll_124 : decode cX12_waysAll 124 = .ok (.lload_n 2, 1) := by decide +kernel
theorem dX12_waysAll_125 : decode cX12_waysAll 125 = .ok (.lreturn, 1) := by decide +kernel
theorem dX12_burnt_0 : decode cX12_burnt 0 = .ok (.aload_n 0, 1) := by decide +kernel
theorem dX12_burnt_1 : decode cX12_burnt 1 = .ok (.iconst 0, 1) := by decide +kernel
theorem dX12_burnt_2 : decode cX12_burnt 2 = .ok (.putfield 78, 3) := by decide +kernel
theorem dX12_burnt_5 : decode cX12_burnt 5 = .ok (.aload_n 0, 1) := by decide +kernel
theorem dX12_burnt_6 : decode cX12_burnt 6 = .ok (.iload_n 1, 1) := by decide +kernel
theorem dX12_burnt_7 : decode cX12_burnt 7 = .ok (.iload_n 2, 1) := by decide +kernel
theorem dX12_burnt_8 : decode cX12_burnt 8 = .ok (.invokevirtual 178, 3) := by decide +kernel
theorem dX12_burnt_11 : decode cX12_burnt 11 = .ok (.ifCond .eq 18, 3) := by decide +kernel
theorem dX12_burnt_14 : decode cX12_burnt 14 = .ok (.iload 4, 2) := by decide +kernel
theorem dX12_burnt_16 : decode cX12_burnt 16 = .ok (.iconst (-1), 1) := by decide +kernel
theorem dX12_burnt_17 : decode cX12_burnt 17 = .ok (.if_icmp .eq 16, 3) := by decide +kernel
theorem dX12_burnt_20 : decode cX12_burnt 20 = .ok (.aload_n 0, 1) := by decide +kernel
theorem dX12_burnt_21 : decode cX12_burnt 21 = .ok (.iload 4, 2) := by decide +kernel
theorem dX12_burnt_23 : decode cX12_burnt 23 = .ok (.invokevirtual 185, 3) := by decide +kernel
theorem dX12_burnt_26 : decode cX12_burnt 26 = .ok (.ifCond .ne 7, 3) := by decide +kernel
theorem dX12_burnt_29 : decode cX12_burnt 29 = .ok (.ldc2_w 249, 3) := by decide +kernel
theorem dX12_burnt_32 : decode cX12_burnt 32 = .ok (.lreturn, 1) := by decide +kernel
theorem dX12_burnt_33 : decode cX12_burnt 33 = .ok (.aload_n 0, 1) := by decide +kernel
theorem dX12_burnt_34 : decode cX12_burnt 34 = .ok (.invokevirtual 198, 3) := by decide +kernel
theorem dX12_burnt_37 : decode cX12_burnt 37 = .ok (.aload_n 0, 1) := by decide +kernel
theorem dX12_burnt_38 : decode cX12_burnt 38 = .ok (.iload_n 2, 1) := by decide +kernel
theorem dX12_burnt_39 : decode cX12_burnt 39 = .ok (.invokevirtual 201, 3) := by decide +kernel
theorem dX12_burnt_42 : decode cX12_burnt 42 = .ok (.iconst 0, 1) := by decide +kernel
theorem dX12_burnt_43 : decode cX12_burnt 43 = .ok (.istore 5, 2) := by decide +kernel
theorem dX12_burnt_45 : decode cX12_burnt 45 = .ok (.iload 5, 2) := by decide +kernel
theorem dX12_burnt_47 : decode cX12_burnt 47 = .ok (.aload_n 0, 1) := by decide +kernel
theorem dX12_burnt_48 : decode cX12_burnt 48 = .ok (.getfield 188, 3) := by decide +kernel
theorem dX12_burnt_51 : decode cX12_burnt 51 = .ok (.if_icmp .ge 50, 3) := by decide +kernel
theorem dX12_burnt_54 : decode cX12_burnt 54 = .ok (.aload_n 0, 1) := by decide +kernel
theorem dX12_burnt_55 : decode cX12_burnt 55 = .ok (.getfield 59, 3) := by decide +kernel
theorem dX12_burnt_58 : decode cX12_burnt 58 = .ok (.iload 5, 2) := by decide +kernel
theorem dX12_burnt_60 : decode cX12_burnt 60 = .ok (.iload_n 3, 1) := by decide +kernel
theorem dX12_burnt_61 : decode cX12_burnt 61 = .ok (.iload 5, 2) := by decide +kernel
theorem dX12_burnt_63 : decode cX12_burnt 63 = .ok (.ishr, 1) := by decide +kernel
theorem dX12_burnt_64 : decode cX12_burnt 64 = .ok (.iconst 1, 1) := by decide +kernel
theorem dX12_burnt_65 : decode cX12_burnt 65 = .ok (.iand, 1) := by decide +kernel
theorem dX12_burnt_66 : decode cX12_burnt 66 = .ok (.iconst 1, 1) := by decide +kernel
theorem dX12_burnt_67 : decode cX12_burnt 67 = .ok (.if_icmp .ne 14, 3) := by decide +kernel
theorem dX12_burnt_70 : decode cX12_burnt 70 = .ok (.iconst 1, 1) := by decide +kernel
theorem dX12_burnt_71 : decode cX12_burnt 71 = .ok (.aload_n 0, 1) := by decide +kernel
theorem dX12_burnt_72 : decode cX12_burnt 72 = .ok (.getfield 166, 3) := by decide +kernel
theorem dX12_burnt_75 : decode cX12_burnt 75 = .ok (.ishl, 1) := by decide +kernel
theorem dX12_burnt_76 : decode cX12_burnt 76 = .ok (.iconst 1, 1) := by decide +kernel
theorem dX12_burnt_77 : decode cX12_burnt 77 = .ok (.isub, 1) := by decide +kernel
theorem dX12_burnt_78 : decode cX12_burnt 78 = .ok (.goto 16, 3) := by decide +kernel
theorem dX12_burnt_81 : decode cX12_burnt 81 = .ok (.iconst 1, 1) := by decide +kernel
theorem dX12_burnt_82 : decode cX12_burnt 82 = .ok (.aload_n 0, 1) := by decide +kernel
theorem dX12_burnt_83 : decode cX12_burnt 83 = .ok (.getfield 28, 3) := by decide +kernel
theorem dX12_burnt_86 : decode cX12_burnt 86 = .ok (.iconst 1, 1) := by decide +kernel
theorem dX12_burnt_87 : decode cX12_burnt 87 = .ok (.iconst 3, 1) := by decide +kernel
theorem dX12_burnt_88 : decode cX12_burnt 88 = .ok (.iload 5, 2) := by decide +kernel
theorem dX12_burnt_90 : decode cX12_burnt 90 = .ok (.imul, 1) := by decide +kernel
theorem dX12_burnt_91 : decode cX12_burnt 91 = .ok (.iadd, 1) := by decide +kernel
theorem dX12_burnt_92 : decode cX12_burnt 92 = .ok (.iaload, 1) := by decide +kernel
theorem dX12_burnt_93 : decode cX12_burnt 93 = .ok (.ishl, 1) := by decide +kernel
theorem dX12_burnt_94 : decode cX12_burnt 94 = .ok (.iastore, 1) := by decide +kernel
theorem dX12_burnt_95 : decode cX12_burnt 95 = .ok (.iinc 5 1, 3) := by decide +kernel
theorem dX12_burnt_98 : decode cX12_burnt 98 = .ok (.goto (-53), 3) := by decide +kernel
theorem dX12_burnt_101 : decode cX12_burnt 101 = .ok (.iload 4, 2) := by decide +kernel
theorem dX12_burnt_103 : decode cX12_burnt 103 = .ok (.ifCond .ge 9, 3) := by decide +kernel
theorem dX12_burnt_106 : decode cX12_burnt 106 = .ok (.aload_n 0, 1) := by decide +kernel
theorem dX12_burnt_107 : decode cX12_burnt 107 = .ok (.iload_n 1, 1) := by decide +kernel
theorem dX12_burnt_108 : decode cX12_burnt 108 = .ok (.invokevirtual 251, 3) := by decide +kernel
theorem dX12_burnt_111 : decode cX12_burnt 111 = .ok (.lreturn, 1) := by decide +kernel
theorem dX12_burnt_112 : decode cX12_burnt 112 = .ok (.aload_n 0, 1) := by decide +kernel
theorem dX12_burnt_113 : decode cX12_burnt 113 = .ok (.getfield 59, 3) := by decide +kernel
theorem dX12_burnt_116 : decode cX12_burnt 116 = .ok (.iload 4, 2) := by decide +kernel
theorem dX12_burnt_118 : decode cX12_burnt 118 = .ok (.iaload, 1) := by decide +kernel
theorem dX12_burnt_119 : decode cX12_burnt 119 = .ok (.istore 5, 2) := by decide +kernel
theorem dX12_burnt_121 : decode cX12_burnt 121 = .ok (.lconst 0, 1) := by decide +kernel
theorem dX12_burnt_122 : decode cX12_burnt 122 = .ok (.lstore 6, 2) := by decide +kernel
theorem dX12_burnt_124 : decode cX12_burnt 124 = .ok (.iconst 0, 1) := by decide +kernel
theorem dX12_burnt_125 : decode cX12_burnt 125 = .ok (.istore 8, 2) := by decide +kernel
theorem dX12_burnt_127 : decode cX12_burnt 127 = .ok (.iload 8, 2) := by decide +kernel
theorem dX12_burnt_129 : decode cX12_burnt 129 = .ok (.aload_n 0, 1) := by decide +kernel
theorem dX12_burnt_130 : decode cX12_burnt 130 = .ok (.getfield 166, 3) := by decide +kernel
theorem dX12_burnt_133 : decode cX12_burnt 133 = .ok (.if_icmp .ge 53, 3) := by decide +kernel
theorem dX12_burnt_136 : decode cX12_burnt 136 = .ok (.aload_n 0, 1) := by decide +kernel
theorem dX12_burnt_137 : decode cX12_burnt 137 = .ok (.getfield 59, 3) := by decide +kernel
theorem dX12_burnt_140 : decode cX12_burnt 140 = .ok (.iload 4, 2) := by decide +kernel
theorem dX12_burnt_142 : decode cX12_burnt 142 = .ok (.iload 5, 2) := by decide +kernel
theorem dX12_burnt_144 : decode cX12_burnt 144 = .ok (.iconst 1, 1) := by decide +kernel
theorem dX12_burnt_145 : decode cX12_burnt 145 = .ok (.iload 8, 2) := by decide +kernel
theorem dX12_burnt_147 : decode cX12_burnt 147 = .ok (.ishl, 1) := by decide +kernel
theorem dX12_burnt_148 : decode cX12_burnt 148 = .ok (.iand, 1) := by decide +kernel
theorem dX12_burnt_149 : decode cX12_burnt 149 = .ok (.iastore, 1) := by decide +kernel
theorem dX12_burnt_150 : decode cX12_burnt 150 = .ok (.lload 6, 2) := by decide +kernel
theorem dX12_burnt_152 : decode cX12_burnt 152 = .ok (.aload_n 0, 1) := by decide +kernel
theorem dX12_burnt_153 : decode cX12_burnt 153 = .ok (.getfield 59, 3) := by decide +kernel
theorem dX12_burnt_156 : decode cX12_burnt 156 = .ok (.iload 4, 2) := by decide +kernel
theorem dX12_burnt_158 : decode cX12_burnt 158 = .ok (.iaload, 1) := by decide +kernel
theorem dX12_burnt_159 : decode cX12_burnt 159 = .ok (.ifCond .eq 17, 3) := by decide +kernel
theorem dX12_burnt_162 : decode cX12_burnt 162 = .ok (.aload_n 0, 1) := by decide +kernel
theorem dX12_burnt_163 : decode cX12_burnt 163 = .ok (.iload_n 1, 1) := by decide +kernel
theorem dX12_burnt_164 : decode cX12_burnt 164 = .ok (.invokevirtual 251, 3) := by decide +kernel
theorem dX12_burnt_167 : decode cX12_burnt 167 = .ok (.lconst 0, 1) := by decide +kernel
theorem dX12_burnt_168 : decode cX12_burnt 168 = .ok (.lcmp, 1) := by decide +kernel
theorem dX12_burnt_169 : decode cX12_burnt 169 = .ok (.ifCond .le 7, 3) := by decide +kernel
theorem dX12_burnt_172 : decode cX12_burnt 172 = .ok (.lconst 1, 1) := by decide +kernel
theorem dX12_burnt_173 : decode cX12_burnt 173 = .ok (.goto 4, 3) := by decide +kernel
theorem dX12_burnt_176 : decode cX12_burnt 176 = .ok (.lconst 0, 1) := by decide +kernel
theorem dX12_burnt_177 : decode cX12_burnt 177 = .ok (.ladd, 1) := by decide +kernel
theorem dX12_burnt_178 : decode cX12_burnt 178 = .ok (.lstore 6, 2) := by decide +kernel
theorem dX12_burnt_180 : decode cX12_burnt 180 = .ok (.iinc 8 1, 3) := by decide +kernel
theorem dX12_burnt_183 : decode cX12_burnt 183 = .ok (.goto (-56), 3) := by decide +kernel
theorem dX12_burnt_186 : decode cX12_burnt 186 = .ok (.lload 6, 2) := by decide +kernel
theorem dX12_burnt_188 : decode cX12_burnt 188 = .ok (.lreturn, 1) := by decide +kernel
theorem dX12_rate_0 : decode cX12_rate 0 = .ok (.aload_n 0, 1) := by decide +kernel
theorem dX12_rate_1 : decode cX12_rate 1 = .ok (.iconst 0, 1) := by decide +kernel
theorem dX12_rate_2 : decode cX12_rate 2 = .ok (.putfield 78, 3) := by decide +kernel
theorem dX12_rate_5 : decode cX12_rate 5 = .ok (.iload_n 1, 1) := by decide +kernel
theorem dX12_rate_6 : decode cX12_rate 6 = .ok (.iconst 0, 1) := by decide +kernel
theorem dX12_rate_7 : decode cX12_rate 7 = .ok (.iconst 5, 1) := by decide +kernel
theorem dX12_rate_8 : decode cX12_rate 8 = .ok (.invokestatic 82, 3) := by decide +kernel
theorem dX12_rate_11 : decode cX12_rate 11 = .ok (.ifCond .eq 11, 3) := by decide +kernel
theorem dX12_rate_14 : decode cX12_rate 14 = .ok (.aload_n 0, 1) := by decide +kernel
theorem dX12_rate_15 : decode cX12_rate 15 = .ok (.iload_n 2, 1) := by decide +kernel
theorem dX12_rate_16 : decode cX12_rate 16 = .ok (.invokevirtual 185, 3) := by decide +kernel
theorem dX12_rate_19 : decode cX12_rate 19 = .ok (.ifCond .ne 6, 3) := by decide +kernel
theorem dX12_rate_22 : decode cX12_rate 22 = .ok (.ldc 255, 2) := by decide +kernel
theorem dX12_rate_24 : decode cX12_rate 24 = .ok (.ireturn, 1) := by decide +kernel
theorem dX12_rate_25 : decode cX12_rate 25 = .ok (.aload_n 0, 1) := by decide +kernel
theorem dX12_rate_26 : decode cX12_rate 26 = .ok (.getfield 28, 3) := by decide +kernel
theorem dX12_rate_29 : decode cX12_rate 29 = .ok (.iconst 1, 1) := by decide +kernel
theorem dX12_rate_30 : decode cX12_rate 30 = .ok (.iconst 3, 1) := by decide +kernel
theorem dX12_rate_31 : decode cX12_rate 31 = .ok (.iload_n 2, 1) := by decide +kernel
theorem dX12_rate_32 : decode cX12_rate 32 = .ok (.imul, 1) := by decide +kernel
theorem dX12_rate_33 : decode cX12_rate 33 = .ok (.iadd, 1) := by decide +kernel
theorem dX12_rate_34 : decode cX12_rate 34 = .ok (.iaload, 1) := by decide +kernel
theorem dX12_rate_35 : decode cX12_rate 35 = .ok (.istore_n 3, 1) := by decide +kernel
theorem dX12_rate_36 : decode cX12_rate 36 = .ok (.aload_n 0, 1) := by decide +kernel
theorem dX12_rate_37 : decode cX12_rate 37 = .ok (.getfield 28, 3) := by decide +kernel
theorem dX12_rate_40 : decode cX12_rate 40 = .ok (.iconst 2, 1) := by decide +kernel
theorem dX12_rate_41 : decode cX12_rate 41 = .ok (.iconst 3, 1) := by decide +kernel
theorem dX12_rate_42 : decode cX12_rate 42 = .ok (.iload_n 2, 1) := by decide +kernel
theorem dX12_rate_43 : decode cX12_rate 43 = .ok (.imul, 1) := by decide +kernel
theorem dX12_rate_44 : decode cX12_rate 44 = .ok (.iadd, 1) := by decide +kernel
theorem dX12_rate_45 : decode cX12_rate 45 = .ok (.iaload, 1) := by decide +kernel
theorem dX12_rate_46 : decode cX12_rate 46 = .ok (.istore 4, 2) := by decide +kernel
theorem dX12_rate_48 : decode cX12_rate 48 = .ok (.iload 4, 2) := by decide +kernel
theorem dX12_rate_50 : decode cX12_rate 50 = .ok (.aload_n 0, 1) := by decide +kernel
theorem dX12_rate_51 : decode cX12_rate 51 = .ok (.getfield 13, 3) := by decide +kernel
theorem dX12_rate_54 : decode cX12_rate 54 = .ok (.iconst 4, 1) := by decide +kernel
theorem dX12_rate_55 : decode cX12_rate 55 = .ok (.iload_n 3, 1) := by decide +kernel
theorem dX12_rate_56 : decode cX12_rate 56 = .ok (.imul, 1) := by decide +kernel
theorem dX12_rate_57 : decode cX12_rate 57 = .ok (.iconst 3, 1) := by decide +kernel
theorem dX12_rate_58 : decode cX12_rate 58 = .ok (.iadd, 1) := by decide +kernel
theorem dX12_rate_59 : decode cX12_rate 59 = .ok (.iaload, 1) := by decide +kernel
theorem dX12_rate_60 : decode cX12_rate 60 = .ok (.iadd, 1) := by decide +kernel
theorem dX12_rate_61 : decode cX12_rate 61 = .ok (.istore 5, 2) := by decide +kernel
theorem dX12_rate_63 : decode cX12_rate 63 = .ok (.iload 4, 2) := by decide +kernel
theorem dX12_rate_65 : decode cX12_rate 65 = .ok (.aload_n 0, 1) := by decide +kernel
theorem dX12_rate_66 : decode cX12_rate 66 = .ok (.getfield 28, 3) := by decide +kernel
theorem dX12_rate_69 : decode cX12_rate 69 = .ok (.iconst 3, 1) := by decide +kernel
theorem dX12_rate_70 : decode cX12_rate 70 = .ok (.iconst 3, 1) := by decide +kernel
theorem dX12_rate_71 : decode cX12_rate 71 = .ok (.iload_n 2, 1) := by decide +kernel
theorem dX12_rate_72 : decode cX12_rate 72 = .ok (.imul, 1) := by decide +kernel
theorem dX12_rate_73 : decode cX12_rate 73 = .ok (.iadd, 1) := by decide +kernel
theorem dX12_rate_74 : decode cX12_rate 74 = .ok (.iaload, 1) := by decide +kernel
theorem dX12_rate_75 : decode cX12_rate 75 = .ok (.iadd, 1) := by decide +kernel
theorem dX12_rate_76 : decode cX12_rate 76 = .ok (.istore 6, 2) := by decide +kernel
theorem dX12_rate_78 : decode cX12_rate 78 = .ok (.aload_n 0, 1) := by decide +kernel
theorem dX12_rate_79 : decode cX12_rate 79 = .ok (.dup, 1) := by decide +kernel
theorem dX12_rate_80 : decode cX12_rate 80 = .ok (.getfield 256, 3) := by decide +kernel
theorem dX12_rate_83 : decode cX12_rate 83 = .ok (.iload_n 1, 1) := by decide +kernel
theorem dX12_rate_84 : decode cX12_rate 84 = .ok (.ifCond .ne 7, 3) := by decide +kernel
theorem dX12_rate_87 : decode cX12_rate 87 = .ok (.lconst 1, 1) := by decide +kernel
theorem dX12_rate_88 : decode cX12_rate 88 = .ok (.goto 50, 3) := by decide +kernel
theorem dX12_rate_91 : decode cX12_rate 91 = .ok (.iload_n 1, 1) := by decide +kernel
theorem dX12_rate_92 : decode cX12_rate 92 = .ok (.iconst 1, 1) := by decide +kernel
theorem dX12_rate_93 : decode cX12_rate 93 = .ok (.if_icmp .ne 9, 3) := by decide +kernel
theorem dX12_rate_96 : decode cX12_rate 96 = .ok (.ldc2_w 260, 3) := by decide +kernel
theorem dX12_rate_99 : decode cX12_rate 99 = .ok (.goto 39, 3) := by decide +kernel
theorem dX12_rate_102 : decode cX12_rate 102 = .ok (.iload_n 1, 1) := by decide +kernel
theorem dX12_rate_103 : decode cX12_rate 103 = .ok (.iconst 2, 1) := by decide +kernel
theorem dX12_rate_104 : decode cX12_rate 104 = .ok (.if_icmp .ne 9, 3) := by decide +kernel
theorem dX12_rate_107 : decode cX12_rate 107 = .ok (.ldc2_w 262, 3) := by decide +kernel
theorem dX12_rate_110 : decode cX12_rate 110 = .ok (.goto 28, 3) := by decide +kernel
theorem dX12_rate_113 : decode cX12_rate 113 = .ok (.iload_n 1, 1) := by decide +kernel
theorem dX12_rate_114 : decode cX12_rate 114 = .ok (.iconst 3, 1) := by decide +kernel
theorem dX12_rate_115 : decode cX12_rate 115 = .ok (.if_icmp .ne 9, 3) := by decide +kernel
theorem dX12_rate_118 : decode cX12_rate 118 = .ok (.ldc2_w 264, 3) := by decide +kernel
theorem dX12_rate_121 : decode cX12_rate 121 = .ok (.goto 17, 3) := by decide +kernel
theorem dX12_rate_124 : decode cX12_rate 124 = .ok (.iload_n 1, 1) := by decide +kernel
theorem dX12_rate_125 : decode cX12_rate 125 = .ok (.iconst 4, 1) := by decide +kernel
theorem dX12_rate_126 : decode cX12_rate 126 = .ok (.if_icmp .ne 9, 3) := by decide +kernel
theorem dX12_rate_129 : decode cX12_rate 129 = .ok (.ldc2_w 266, 3) := by decide +kernel
theorem dX12_rate_132 : decode cX12_rate 132 = .ok (.goto 6, 3) := by decide +kernel
theorem dX12_rate_135 : decode cX12_rate 135 = .ok (.ldc2_w 268, 3) := by decide +kernel
theorem dX12_rate_138 : decode cX12_rate 138 = .ok (.ladd, 1) := by decide +kernel
theorem dX12_rate_139 : decode cX12_rate 139 = .ok (.putfield 256, 3) := by decide +kernel
theorem dX12_rate_142 : decode cX12_rate 142 = .ok (.iload_n 1, 1) := by decide +kernel
theorem dX12_rate_143 : decode cX12_rate 143 = .ok (.ifCond .ne 8, 3) := by decide +kernel
theorem dX12_rate_146 : decode cX12_rate 146 = .ok (.iload 4, 2) := by decide +kernel
theorem dX12_rate_148 : decode cX12_rate 148 = .ok (.goto 60, 3) := by decide +kernel
theorem dX12_rate_151 : decode cX12_rate 151 = .ok (.iload_n 1, 1) := by decide +kernel
theorem dX12_rate_152 : decode cX12_rate 152 = .ok (.iconst 1, 1) := by decide +kernel
theorem dX12_rate_153 : decode cX12_rate 153 = .ok (.if_icmp .ne 8, 3) := by decide +kernel
theorem dX12_rate_156 : decode cX12_rate 156 = .ok (.iload 5, 2) := by decide +kernel
theorem dX12_rate_158 : decode cX12_rate 158 = .ok (.goto 50, 3) := by decide +kernel
theorem dX12_rate_161 : decode cX12_rate 161 = .ok (.iload_n 1, 1) := by decide +kernel
theorem dX12_rate_162 : decode cX12_rate 162 = .ok (.iconst 2, 1) := by decide +kernel
theorem dX12_rate_163 : decode cX12_rate 163 = .ok (.if_icmp .ne 8, 3) := by decide +kernel
theorem dX12_rate_166 : decode cX12_rate 166 = .ok (.iload 6, 2) := by decide +kernel
theorem dX12_rate_168 : decode cX12_rate 168 = .ok (.goto 40, 3) := by decide +kernel
theorem dX12_rate_171 : decode cX12_rate 171 = .ok (.iload_n 1, 1) := by decide +kernel
theorem dX12_rate_172 : decode cX12_rate 172 = .ok (.iconst 3, 1) := by decide +kernel
theorem dX12_rate_173 : decode cX12_rate 173 = .ok (.if_icmp .ne 10, 3) := by decide +kernel
theorem dX12_rate_176 : decode cX12_rate 176 = .ok (.iconst 2, 1) := by decide +kernel
theorem dX12_rate_177 : decode cX12_rate 177 = .ok (.iload 6, 2) := by decide +kernel
theorem dX12_rate_179 : decode cX12_rate 179 = .ok (.imul, 1) := by decide +kernel
theorem dX12_rate_180 : decode cX12_rate 180 = .ok (.goto 28, 3) := by decide +kernel
theorem dX12_rate_183 : decode cX12_rate 183 = .ok (.iload_n 1, 1) := by decide +kernel
theorem dX12_rate_184 : decode cX12_rate 184 = .ok (.iconst 4, 1) := by decide +kernel
theorem dX12_rate_185 : decode cX12_rate 185 = .ok (.if_icmp .ne 10, 3) := by decide +kernel
theorem dX12_rate_188 : decode cX12_rate 188 = .ok (.iload 5, 2) := by decide +kernel
theorem dX12_rate_190 : decode cX12_rate 190 = .ok (.iload_n 2, 1) := by decide +kernel
theorem dX12_rate_191 : decode cX12_rate 191 = .ok (.iadd, 1) := by decide +kernel
theorem dX12_rate_192 : decode cX12_rate 192 = .ok (.goto 16, 3) := by decide +kernel
theorem dX12_rate_195 : decode cX12_rate 195 = .ok (.iload 4, 2) := by decide +kernel
theorem dX12_rate_197 : decode cX12_rate 197 = .ok (.aload_n 0, 1) := by decide +kernel
theorem dX12_rate_198 : decode cX12_rate 198 = .ok (.getfield 13, 3) := by decide +kernel
theorem dX12_rate_201 : decode cX12_rate 201 = .ok (.iconst 4, 1) := by decide +kernel
theorem dX12_rate_202 : decode cX12_rate 202 = .ok (.iload_n 3, 1) := by decide +kernel
theorem dX12_rate_203 : decode cX12_rate 203 = .ok (.imul, 1) := by decide +kernel
theorem dX12_rate_204 : decode cX12_rate 204 = .ok (.iconst 2, 1) := by decide +kernel
theorem dX12_rate_205 : decode cX12_rate 205 = .ok (.iadd, 1) := by decide +kernel
theorem dX12_rate_206 : decode cX12_rate 206 = .ok (.iaload, 1) := by decide +kernel
theorem dX12_rate_207 : decode cX12_rate 207 = .ok (.isub, 1) := by decide +kernel
theorem dX12_rate_208 : decode cX12_rate 208 = .ok (.ireturn, 1) := by decide +kernel
theorem dX12_keep_0 : decode cX12_keep 0 = .ok (.aload_n 0, 1) := by decide +kernel
theorem dX12_keep_1 : decode cX12_keep 1 = .ok (.iconst 0, 1) := by decide +kernel
theorem dX12_keep_2 : decode cX12_keep 2 = .ok (.putfield 78, 3) := by decide +kernel
theorem dX12_keep_5 : decode cX12_keep 5 = .ok (.iload_n 1, 1) := by decide +kernel
theorem dX12_keep_6 : decode cX12_keep 6 = .ok (.iconst 0, 1) := by decide +kernel
theorem dX12_keep_7 : decode cX12_keep 7 = .ok (.iconst 1, 1) := by decide +kernel
theorem dX12_keep_8 : decode cX12_keep 8 = .ok (.invokestatic 82, 3) := by decide +kernel
theorem dX12_keep_11 : decode cX12_keep 11 = .ok (.ifCond .ne 5, 3) := by decide +kernel
theorem dX12_keep_14 : decode cX12_keep 14 = .ok (.iconst (-1), 1) := by decide +kernel
theorem dX12_keep_15 : decode cX12_keep 15 = .ok (.ireturn, 1) := by decide +kernel
theorem dX12_keep_16 : decode cX12_keep 16 = .ok (.iconst 0, 1) := by decide +kernel
theorem dX12_keep_17 : decode cX12_keep 17 = .ok (.istore_n 2, 1) := by decide +kernel
theorem dX12_keep_18 : decode cX12_keep 18 = .ok (.iload_n 2, 1) := by decide +kernel
theorem dX12_keep_19 : decode cX12_keep 19 = .ok (.bipush 25, 2) := by decide +kernel
theorem dX12_keep_21 : decode cX12_keep 21 = .ok (.if_icmp .ge 26, 3) := by decide +kernel
theorem dX12_keep_24 : decode cX12_keep 24 = .ok (.aload_n 0, 1) := by decide +kernel
theorem dX12_keep_25 : decode cX12_keep 25 = .ok (.getfield 31, 3) := by decide +kernel
theorem dX12_keep_28 : decode cX12_keep 28 = .ok (.bipush 25, 2) := by decide +kernel
theorem dX12_keep_30 : decode cX12_keep 30 = .ok (.iload_n 1, 1) := by decide +kernel
theorem dX12_keep_31 : decode cX12_keep 31 = .ok (.imul, 1) := by decide +kernel
theorem dX12_keep_32 : decode cX12_keep 32 = .ok (.iload_n 2, 1) := by decide +kernel
theorem dX12_keep_33 : decode cX12_keep 33 = .ok (.iadd, 1) := by decide +kernel
theorem dX12_keep_34 : decode cX12_keep 34 = .ok (.aload_n 0, 1) := by decide +kernel
theorem dX12_keep_35 : decode cX12_keep 35 = .ok (.getfield 28, 3) := by decide +kernel
theorem dX12_keep_38 : decode cX12_keep 38 = .ok (.iload_n 2, 1) := by decide +kernel
theorem dX12_keep_39 : decode cX12_keep 39 = .ok (.iaload, 1) := by decide +kernel
theorem dX12_keep_40 : decode cX12_keep 40 = .ok (.iastore, 1) := by decide +kernel
theorem dX12_keep_41 : decode cX12_keep 41 = .ok (.iinc 2 1, 3) := by decide +kernel
theorem dX12_keep_44 : decode cX12_keep 44 = .ok (.goto (-26), 3) := by decide +kernel
theorem dX12_keep_47 : decode cX12_keep 47 = .ok (.aload_n 0, 1) := by decide +kernel
theorem dX12_keep_48 : decode cX12_keep 48 = .ok (.getfield 34, 3) := by decide +kernel
theorem dX12_keep_51 : decode cX12_keep 51 = .ok (.iload_n 1, 1) := by decide +kernel
theorem dX12_keep_52 : decode cX12_keep 52 = .ok (.iconst 1, 1) := by decide +kernel
theorem dX12_keep_53 : decode cX12_keep 53 = .ok (.bastore, 1) := by decide +kernel
theorem dX12_keep_54 : decode cX12_keep 54 = .ok (.aload_n 0, 1) := by decide +kernel
theorem dX12_keep_55 : decode cX12_keep 55 = .ok (.getfield 28, 3) := by decide +kernel
theorem dX12_keep_58 : decode cX12_keep 58 = .ok (.iconst 0, 1) := by decide +kernel
theorem dX12_keep_59 : decode cX12_keep 59 = .ok (.iaload, 1) := by decide +kernel
theorem dX12_keep_60 : decode cX12_keep 60 = .ok (.ireturn, 1) := by decide +kernel
theorem dX12_back_0 : decode cX12_back 0 = .ok (.aload_n 0, 1) := by decide +kernel
theorem dX12_back_1 : decode cX12_back 1 = .ok (.iconst 0, 1) := by decide +kernel
theorem dX12_back_2 : decode cX12_back 2 = .ok (.putfield 78, 3) := by decide +kernel
theorem dX12_back_5 : decode cX12_back 5 = .ok (.iload_n 1, 1) := by decide +kernel
theorem dX12_back_6 : decode cX12_back 6 = .ok (.iconst 0, 1) := by decide +kernel
theorem dX12_back_7 : decode cX12_back 7 = .ok (.iconst 1, 1) := by decide +kernel
theorem dX12_back_8 : decode cX12_back 8 = .ok (.invokestatic 82, 3) := by decide +kernel
theorem dX12_back_11 : decode cX12_back 11 = .ok (.ifCond .ne 5, 3) := by decide +kernel
theorem dX12_back_14 : decode cX12_back 14 = .ok (.iconst (-1), 1) := by decide +kernel
theorem dX12_back_15 : decode cX12_back 15 = .ok (.ireturn, 1) := by decide +kernel
theorem dX12_back_16 : decode cX12_back 16 = .ok (.aload_n 0, 1) := by decide +kernel
theorem dX12_back_17 : decode cX12_back 17 = .ok (.getfield 34, 3) := by decide +kernel
theorem dX12_back_20 : decode cX12_back 20 = .ok (.iload_n 1, 1) := by decide +kernel
theorem dX12_back_21 : decode cX12_back 21 = .ok (.baload, 1) := by decide +kernel
theorem dX12_back_22 : decode cX12_back 22 = .ok (.ifCond .ne 6, 3) := by decide +kernel
theorem dX12_back_25 : decode cX12_back 25 = .ok (.bipush (-2), 2) := by decide +kernel
theorem dX12_back_27 : decode cX12_back 27 = .ok (.ireturn, 1) := by decide +kernel
theorem dX12_back_28 : decode cX12_back 28 = .ok (.iconst 0, 1) := by decide +kernel
theorem dX12_back_29 : decode cX12_back 29 = .ok (.istore_n 2, 1) := by decide +kernel
theorem dX12_back_30 : decode cX12_back 30 = .ok (.iload_n 2, 1) := by decide +kernel
theorem dX12_back_31 : decode cX12_back 31 = .ok (.bipush 25, 2) := by decide +kernel
theorem dX12_back_33 : decode cX12_back 33 = .ok (.if_icmp .ge 26, 3) := by decide +kernel
theorem dX12_back_36 : decode cX12_back 36 = .ok (.aload_n 0, 1) := by decide +kernel
theorem dX12_back_37 : decode cX12_back 37 = .ok (.getfield 28, 3) := by decide +kernel
theorem dX12_back_40 : decode cX12_back 40 = .ok (.iload_n 2, 1) := by decide +kernel
theorem dX12_back_41 : decode cX12_back 41 = .ok (.aload_n 0, 1) := by decide +kernel
theorem dX12_back_42 : decode cX12_back 42 = .ok (.getfield 31, 3) := by decide +kernel
theorem dX12_back_45 : decode cX12_back 45 = .ok (.bipush 25, 2) := by decide +kernel
theorem dX12_back_47 : decode cX12_back 47 = .ok (.iload_n 1, 1) := by decide +kernel
theorem dX12_back_48 : decode cX12_back 48 = .ok (.imul, 1) := by decide +kernel
theorem dX12_back_49 : decode cX12_back 49 = .ok (.iload_n 2, 1) := by decide +kernel
theorem dX12_back_50 : decode cX12_back 50 = .ok (.iadd, 1) := by decide +kernel
theorem dX12_back_51 : decode cX12_back 51 = .ok (.iaload, 1) := by decide +kernel
theorem dX12_back_52 : decode cX12_back 52 = .ok (.iastore, 1) := by decide +kernel
theorem dX12_back_53 : decode cX12_back 53 = .ok (.iinc 2 1, 3) := by decide +kernel
theorem dX12_back_56 : decode cX12_back 56 = .ok (.goto (-26), 3) := by decide +kernel
theorem dX12_back_59 : decode cX12_back 59 = .ok (.aload_n 0, 1) := by decide +kernel
theorem dX12_back_60 : decode cX12_back 60 = .ok (.getfield 28, 3) := by decide +kernel
theorem dX12_back_63 : decode cX12_back 63 = .ok (.iconst 0, 1) := by decide +kernel
theorem dX12_back_64 : decode cX12_back 64 = .ok (.iaload, 1) := by decide +kernel
theorem dX12_back_65 : decode cX12_back 65 = .ok (.ireturn, 1) := by decide +kernel
theorem dX12_count_0 : decode cX12_count 0 = .ok (.aload_n 0, 1) := by decide +kernel
theorem dX12_count_1 : decode cX12_count 1 = .ok (.iconst 0, 1) := by decide +kernel
theorem dX12_count_2 : decode cX12_count 2 = .ok (.putfield 78, 3) := by decide +kernel
theorem dX12_count_5 : decode cX12_count 5 = .ok (.iload_n 1, 1) := by decide +kernel
theorem dX12_count_6 : decode cX12_count 6 = .ok (.ifCond .ne 10, 3) := by decide +kernel
theorem dX12_count_9 : decode cX12_count 9 = .ok (.aload_n 0, 1) := by decide +kernel
theorem dX12_count_10 : decode cX12_count 10 = .ok (.getfield 166, 3) := by decide +kernel
theorem dX12_count_13 : decode cX12_count 13 = .ok (.goto 54, 3) := by decide +kernel
theorem dX12_count_16 : decode cX12_count 16 = .ok (.iload_n 1, 1) := by decide +kernel
theorem dX12_count_17 : decode cX12_count 17 = .ok (.iconst 1, 1) := by decide +kernel
theorem dX12_count_18 : decode cX12_count 18 = .ok (.if_icmp .ne 10, 3) := by decide +kernel
theorem dX12_count_21 : decode cX12_count 21 = .ok (.aload_n 0, 1) := by decide +kernel
theorem dX12_count_22 : decode cX12_count 22 = .ok (.getfield 169, 3) := by decide +kernel
theorem dX12_count_25 : decode cX12_count 25 = .ok (.goto 42, 3) := by decide +kernel
theorem dX12_count_28 : decode cX12_count 28 = .ok (.iload_n 1, 1) := by decide +kernel
theorem dX12_count_29 : decode cX12_count 29 = .ok (.iconst 2, 1) := by decide +kernel
theorem dX12_count_30 : decode cX12_count 30 = .ok (.if_icmp .ne 12, 3) := by decide +kernel
theorem dX12_count_33 : decode cX12_count 33 = .ok (.aload_n 0, 1) := by decide +kernel
theorem dX12_count_34 : decode cX12_count 34 = .ok (.getfield 28, 3) := by decide +kernel
theorem dX12_count_37 : decode cX12_count 37 = .ok (.iconst 0, 1) := by decide +kernel
theorem dX12_count_38 : decode cX12_count 38 = .ok (.iaload, 1) := by decide +kernel
theorem dX12_count_39 : decode cX12_count 39 = .ok (.goto 28, 3) := by decide +kernel
theorem dX12_count_42 : decode cX12_count 42 = .ok (.iload_n 1, 1) := by decide +kernel
theorem dX12_count_43 : decode cX12_count 43 = .ok (.iconst 3, 1) := by decide +kernel
theorem dX12_count_44 : decode cX12_count 44 = .ok (.if_icmp .ne 10, 3) := by decide +kernel
theorem dX12_count_47 : decode cX12_count 47 = .ok (.aload_n 0, 1) := by decide +kernel
theorem dX12_count_48 : decode cX12_count 48 = .ok (.getfield 172, 3) := by decide +kernel
theorem dX12_count_51 : decode cX12_count 51 = .ok (.goto 16, 3) := by decide +kernel
theorem dX12_count_54 : decode cX12_count 54 = .ok (.iload_n 1, 1) := by decide +kernel
theorem dX12_count_55 : decode cX12_count 55 = .ok (.iconst 4, 1) := by decide +kernel
theorem dX12_count_56 : decode cX12_count 56 = .ok (.if_icmp .ne 10, 3) := by decide +kernel
theorem dX12_count_59 : decode cX12_count 59 = .ok (.aload_n 0, 1) := by decide +kernel
theorem dX12_count_60 : decode cX12_count 60 = .ok (.getfield 86, 3) := by decide +kernel
theorem dX12_count_63 : decode cX12_count 63 = .ok (.goto 4, 3) := by decide +kernel
theorem dX12_count_66 : decode cX12_count 66 = .ok (.iconst (-1), 1) := by decide +kernel
theorem dX12_count_67 : decode cX12_count 67 = .ok (.ireturn, 1) := by decide +kernel
theorem dX12_trace_0 : decode cX12_trace 0 = .ok (.aload_n 0, 1) := by decide +kernel
theorem dX12_trace_1 : decode cX12_trace 1 = .ok (.iconst 0, 1) := by decide +kernel
theorem dX12_trace_2 : decode cX12_trace 2 = .ok (.putfield 78, 3) := by decide +kernel
theorem dX12_trace_5 : decode cX12_trace 5 = .ok (.aload_n 0, 1) := by decide +kernel
theorem dX12_trace_6 : decode cX12_trace 6 = .ok (.getfield 256, 3) := by decide +kernel
theorem dX12_trace_9 : decode cX12_trace 9 = .ok (.lreturn, 1) := by decide +kernel
theorem dJ6_bitCount_0f7a4_0 : decode cJ6_bitCount_0f7a4 0 = .ok (.iload_n 0, 1) := by decide +kernel
theorem dJ6_bitCount_0f7a4_1 : decode cJ6_bitCount_0f7a4 1 = .ok (.iload_n 0, 1) := by decide +kernel
theorem dJ6_bitCount_0f7a4_2 : decode cJ6_bitCount_0f7a4 2 = .ok (.iconst 1, 1) := by decide +kernel
theorem dJ6_bitCount_0f7a4_3 : decode cJ6_bitCount_0f7a4 3 = .ok (.iushr, 1) := by decide +kernel
theorem dJ6_bitCount_0f7a4_4 : decode cJ6_bitCount_0f7a4 4 = .ok (.ldc_w 265, 3) := by decide +kernel
theorem dJ6_bitCount_0f7a4_7 : decode cJ6_bitCount_0f7a4 7 = .ok (.iand, 1) := by decide +kernel
theorem dJ6_bitCount_0f7a4_8 : decode cJ6_bitCount_0f7a4 8 = .ok (.isub, 1) := by decide +kernel
theorem dJ6_bitCount_0f7a4_9 : decode cJ6_bitCount_0f7a4 9 = .ok (.istore_n 0, 1) := by decide +kernel
theorem dJ6_bitCount_0f7a4_10 : decode cJ6_bitCount_0f7a4 10 = .ok (.iload_n 0, 1) := by decide +kernel
theorem dJ6_bitCount_0f7a4_11 : decode cJ6_bitCount_0f7a4 11 = .ok (.ldc_w 266, 3) := by decide +kernel
theorem dJ6_bitCount_0f7a4_14 : decode cJ6_bitCount_0f7a4 14 = .ok (.iand, 1) := by decide +kernel
theorem dJ6_bitCount_0f7a4_15 : decode cJ6_bitCount_0f7a4 15 = .ok (.iload_n 0, 1) := by decide +kernel
theorem dJ6_bitCount_0f7a4_16 : decode cJ6_bitCount_0f7a4 16 = .ok (.iconst 2, 1) := by decide +kernel
theorem dJ6_bitCount_0f7a4_17 : decode cJ6_bitCount_0f7a4 17 = .ok (.iushr, 1) := by decide +kernel
theorem dJ6_bitCount_0f7a4_18 : decode cJ6_bitCount_0f7a4 18 = .ok (.ldc_w 266, 3) := by decide +kernel
theorem dJ6_bitCount_0f7a4_21 : decode cJ6_bitCount_0f7a4 21 = .ok (.iand, 1) := by decide +kernel
theorem dJ6_bitCount_0f7a4_22 : decode cJ6_bitCount_0f7a4 22 = .ok (.iadd, 1) := by decide +kernel
theorem dJ6_bitCount_0f7a4_23 : decode cJ6_bitCount_0f7a4 23 = .ok (.istore_n 0, 1) := by decide +kernel
theorem dJ6_bitCount_0f7a4_24 : decode cJ6_bitCount_0f7a4 24 = .ok (.iload_n 0, 1) := by decide +kernel
theorem dJ6_bitCount_0f7a4_25 : decode cJ6_bitCount_0f7a4 25 = .ok (.iload_n 0, 1) := by decide +kernel
theorem dJ6_bitCount_0f7a4_26 : decode cJ6_bitCount_0f7a4 26 = .ok (.iconst 4, 1) := by decide +kernel
theorem dJ6_bitCount_0f7a4_27 : decode cJ6_bitCount_0f7a4 27 = .ok (.iushr, 1) := by decide +kernel
theorem dJ6_bitCount_0f7a4_28 : decode cJ6_bitCount_0f7a4 28 = .ok (.iadd, 1) := by decide +kernel
theorem dJ6_bitCount_0f7a4_29 : decode cJ6_bitCount_0f7a4 29 = .ok (.ldc_w 267, 3) := by decide +kernel
theorem dJ6_bitCount_0f7a4_32 : decode cJ6_bitCount_0f7a4 32 = .ok (.iand, 1) := by decide +kernel
theorem dJ6_bitCount_0f7a4_33 : decode cJ6_bitCount_0f7a4 33 = .ok (.istore_n 0, 1) := by decide +kernel
theorem dJ6_bitCount_0f7a4_34 : decode cJ6_bitCount_0f7a4 34 = .ok (.iload_n 0, 1) := by decide +kernel
theorem dJ6_bitCount_0f7a4_35 : decode cJ6_bitCount_0f7a4 35 = .ok (.iload_n 0, 1) := by decide +kernel
theorem dJ6_bitCount_0f7a4_36 : decode cJ6_bitCount_0f7a4 36 = .ok (.bipush 8, 2) := by decide +kernel
theorem dJ6_bitCount_0f7a4_38 : decode cJ6_bitCount_0f7a4 38 = .ok (.iushr, 1) := by decide +kernel
theorem dJ6_bitCount_0f7a4_39 : decode cJ6_bitCount_0f7a4 39 = .ok (.iadd, 1) := by decide +kernel
theorem dJ6_bitCount_0f7a4_40 : decode cJ6_bitCount_0f7a4 40 = .ok (.istore_n 0, 1) := by decide +kernel
theorem dJ6_bitCount_0f7a4_41 : decode cJ6_bitCount_0f7a4 41 = .ok (.iload_n 0, 1) := by decide +kernel
theorem dJ6_bitCount_0f7a4_42 : decode cJ6_bitCount_0f7a4 42 = .ok (.iload_n 0, 1) := by decide +kernel
theorem dJ6_bitCount_0f7a4_43 : decode cJ6_bitCount_0f7a4 43 = .ok (.bipush 16, 2) := by decide +kernel
theorem dJ6_bitCount_0f7a4_45 : decode cJ6_bitCount_0f7a4 45 = .ok (.iushr, 1) := by decide +kernel
theorem dJ6_bitCount_0f7a4_46 : decode cJ6_bitCount_0f7a4 46 = .ok (.iadd, 1) := by decide +kernel
theorem dJ6_bitCount_0f7a4_47 : decode cJ6_bitCount_0f7a4 47 = .ok (.istore_n 0, 1) := by decide +kernel
theorem dJ6_bitCount_0f7a4_48 : decode cJ6_bitCount_0f7a4 48 = .ok (.iload_n 0, 1) := by decide +kernel
theorem dJ6_bitCount_0f7a4_49 : decode cJ6_bitCount_0f7a4 49 = .ok (.bipush 63, 2) := by decide +kernel
theorem dJ6_bitCount_0f7a4_51 : decode cJ6_bitCount_0f7a4 51 = .ok (.iand, 1) := by decide +kernel
theorem dJ6_bitCount_0f7a4_52 : decode cJ6_bitCount_0f7a4 52 = .ok (.ireturn, 1) := by decide +kernel
theorem dJ9_max_7cf53_0 : decode cJ9_max_7cf53 0 = .ok (.iload_n 0, 1) := by decide +kernel
theorem dJ9_max_7cf53_1 : decode cJ9_max_7cf53 1 = .ok (.iload_n 1, 1) := by decide +kernel
theorem dJ9_max_7cf53_2 : decode cJ9_max_7cf53 2 = .ok (.if_icmp .lt 7, 3) := by decide +kernel
theorem dJ9_max_7cf53_5 : decode cJ9_max_7cf53 5 = .ok (.iload_n 0, 1) := by decide +kernel
theorem dJ9_max_7cf53_6 : decode cJ9_max_7cf53 6 = .ok (.goto 4, 3) := by decide +kernel
theorem dJ9_max_7cf53_9 : decode cJ9_max_7cf53 9 = .ok (.iload_n 1, 1) := by decide +kernel
theorem dJ9_max_7cf53_10 : decode cJ9_max_7cf53 10 = .ok (.ireturn, 1) := by decide +kernel
theorem dJ9_min_7cf53_0 : decode cJ9_min_7cf53 0 = .ok (.iload_n 0, 1) := by decide +kernel
theorem dJ9_min_7cf53_1 : decode cJ9_min_7cf53 1 = .ok (.iload_n 1, 1) := by decide +kernel
theorem dJ9_min_7cf53_2 : decode cJ9_min_7cf53 2 = .ok (.if_icmp .gt 7, 3) := by decide +kernel
theorem dJ9_min_7cf53_5 : decode cJ9_min_7cf53 5 = .ok (.iload_n 0, 1) := by decide +kernel
theorem dJ9_min_7cf53_6 : decode cJ9_min_7cf53 6 = .ok (.goto 4, 3) := by decide +kernel
theorem dJ9_min_7cf53_9 : decode cJ9_min_7cf53 9 = .ok (.iload_n 1, 1) := by decide +kernel
theorem dJ9_min_7cf53_10 : decode cJ9_min_7cf53 10 = .ok (.ireturn, 1) := by decide +kernel
theorem dJ0_length_8abf5_0 : decode cJ0_length_8abf5 0 = .ok (.aload_n 0, 1) := by decide +kernel
theorem dJ0_length_8abf5_1 : decode cJ0_length_8abf5 1 = .ok (.getfield 9, 3) := by decide +kernel
theorem dJ0_length_8abf5_4 : decode cJ0_length_8abf5 4 = .ok (.arraylength, 1) := by decide +kernel
theorem dJ0_length_8abf5_5 : decode cJ0_length_8abf5 5 = .ok (.aload_n 0, 1) := by decide +kernel
theorem dJ0_length_8abf5_6 : decode cJ0_length_8abf5 6 = .ok (.invokevirtual 335, 3) := by decide +kernel
theorem dJ0_length_8abf5_9 : decode cJ0_length_8abf5 9 = .ok (.ishr, 1) := by decide +kernel
theorem dJ0_length_8abf5_10 : decode cJ0_length_8abf5 10 = .ok (.ireturn, 1) := by decide +kernel
theorem dJ0_charAt_5068e_0 : decode cJ0_charAt_5068e 0 = .ok (.aload_n 0, 1) := by decide +kernel
theorem dJ0_charAt_5068e_1 : decode cJ0_charAt_5068e 1 = .ok (.invokevirtual 492, 3) := by decide +kernel
theorem dJ0_charAt_5068e_4 : decode cJ0_charAt_5068e 4 = .ok (.ifCond .eq 12, 3) := by decide +kernel
theorem dJ0_charAt_5068e_7 : decode cJ0_charAt_5068e 7 = .ok (.aload_n 0, 1) := by decide +kernel
theorem dJ0_charAt_5068e_8 : decode cJ0_charAt_5068e 8 = .ok (.getfield 9, 3) := by decide +kernel
theorem dJ0_charAt_5068e_11 : decode cJ0_charAt_5068e 11 = .ok (.iload_n 1, 1) := by decide +kernel
theorem dJ0_charAt_5068e_12 : decode cJ0_charAt_5068e 12 = .ok (.invokestatic 495, 3) := by decide +kernel
theorem dJ0_charAt_5068e_15 : decode cJ0_charAt_5068e 15 = .ok (.ireturn, 1) := by decide +kernel
theorem dJ0_charAt_5068e_16 : decode cJ0_charAt_5068e 16 = .ok (.aload_n 0, 1) := by decide +kernel
theorem dJ0_charAt_5068e_17 : decode cJ0_charAt_5068e 17 = .ok (.getfield 9, 3) := by decide +kernel
theorem dJ0_charAt_5068e_20 : decode cJ0_charAt_5068e 20 = .ok (.iload_n 1, 1) := by decide +kernel
theorem dJ0_charAt_5068e_21 : decode cJ0_charAt_5068e 21 = .ok (.invokestatic 498, 3) := by decide +kernel
theorem dJ0_charAt_5068e_24 : decode cJ0_charAt_5068e 24 = .ok (.ireturn, 1) := by decide +kernel
theorem dJ0_coder_7d493_0 : decode cJ0_coder_7d493 0 = .ok (.getstatic 38, 3) := by decide +kernel
theorem dJ0_coder_7d493_3 : decode cJ0_coder_7d493 3 = .ok (.ifCond .eq 10, 3) := by decide +kernel
theorem dJ0_coder_7d493_6 : decode cJ0_coder_7d493 6 = .ok (.aload_n 0, 1) := by decide +kernel
theorem dJ0_coder_7d493_7 : decode cJ0_coder_7d493 7 = .ok (.getfield 15, 3) := by decide +kernel
theorem dJ0_coder_7d493_10 : decode cJ0_coder_7d493 10 = .ok (.goto 4, 3) := by decide +kernel
theorem dJ0_coder_7d493_13 : decode cJ0_coder_7d493 13 = .ok (.iconst 1, 1) := by decide +kernel
theorem dJ0_coder_7d493_14 : decode cJ0_coder_7d493 14 = .ok (.ireturn, 1) := by decide +kernel
theorem dJ0_isLatin1_aae02_0 : decode cJ0_isLatin1_aae02 0 = .ok (.getstatic 38, 3) := by decide +kernel
theorem dJ0_isLatin1_aae02_3 : decode cJ0_isLatin1_aae02 3 = .ok (.ifCond .eq 14, 3) := by decide +kernel
theorem dJ0_isLatin1_aae02_6 : decode cJ0_isLatin1_aae02 6 = .ok (.aload_n 0, 1) := by decide +kernel
theorem dJ0_isLatin1_aae02_7 : decode cJ0_isLatin1_aae02 7 = .ok (.getfield 15, 3) := by decide +kernel
theorem dJ0_isLatin1_aae02_10 : decode cJ0_isLatin1_aae02 10 = .ok (.ifCond .ne 7, 3) := by decide +kernel
theorem dJ0_isLatin1_aae02_13 : decode cJ0_isLatin1_aae02 13 = .ok (.iconst 1, 1) := by decide +kernel
theorem dJ0_isLatin1_aae02_14 : decode cJ0_isLatin1_aae02 14 = .ok (.goto 4, 3) := by decide +kernel
theorem dJ0_isLatin1_aae02_17 : decode cJ0_isLatin1_aae02 17 = .ok (.iconst 0, 1) := by decide +kernel
theorem dJ0_isLatin1_aae02_18 : decode cJ0_isLatin1_aae02 18 = .ok (.ireturn, 1) := by decide +kernel
theorem dJ0_checkIndex_df160_0 : decode cJ0_checkIndex_df160 0 = .ok (.iload_n 0, 1) := by decide +kernel
theorem dJ0_checkIndex_df160_1 : decode cJ0_checkIndex_df160 1 = .ok (.iload_n 1, 1) := by decide +kernel
theorem dJ0_checkIndex_df160_2 : decode cJ0_checkIndex_df160 2 = .ok (.getstatic 1053, 3) := by decide +kernel
theorem dJ0_checkIndex_df160_5 : decode cJ0_checkIndex_df160 5 = .ok (.invokestatic 1059, 3) := by decide +kernel
theorem dJ0_checkIndex_df160_8 : decode cJ0_checkIndex_df160 8 = .ok (.pop, 1) := by decide +kernel
theorem dJ0_checkIndex_df160_9 : decode cJ0_checkIndex_df160 9 = .ok (.return_, 1) := by decide +kernel
theorem dJ1_charAt_3b067_0 : decode cJ1_charAt_3b067 0 = .ok (.iload_n 1, 1) := by decide +kernel
theorem dJ1_charAt_3b067_1 : decode cJ1_charAt_3b067 1 = .ok (.aload_n 0, 1) := by decide +kernel
theorem dJ1_charAt_3b067_2 : decode cJ1_charAt_3b067 2 = .ok (.arraylength, 1) := by decide +kernel
theorem dJ1_charAt_3b067_3 : decode cJ1_charAt_3b067 3 = .ok (.invokestatic 9, 3) := by decide +kernel
theorem dJ1_charAt_3b067_6 : decode cJ1_charAt_3b067 6 = .ok (.aload_n 0, 1) := by decide +kernel
theorem dJ1_charAt_3b067_7 : decode cJ1_charAt_3b067 7 = .ok (.iload_n 1, 1) := by decide +kernel
theorem dJ1_charAt_3b067_8 : decode cJ1_charAt_3b067 8 = .ok (.baload, 1) := by decide +kernel
theorem dJ1_charAt_3b067_9 : decode cJ1_charAt_3b067 9 = .ok (.sipush 255, 3) := by decide +kernel
theorem dJ1_charAt_3b067_12 : decode cJ1_charAt_3b067 12 = .ok (.iand, 1) := by decide +kernel
theorem dJ1_charAt_3b067_13 : decode cJ1_charAt_3b067 13 = .ok (.i2c, 1) := by decide +kernel
theorem dJ1_charAt_3b067_14 : decode cJ1_charAt_3b067 14 = .ok (.ireturn, 1) := by decide +kernel
theorem dJ2_getChar_3b067_0 : decode cJ2_getChar_3b067 0 = .ok (.getstatic 44, 3) := by decide +kernel
theorem dJ2_getChar_3b067_3 : decode cJ2_getChar_3b067 3 = .ok (.ifCond .ne 25, 3) := by decide +kernel
theorem dJ2_getChar_3b067_6 : decode cJ2_getChar_3b067 6 = .ok (.iload_n 1, 1) := by decide +kernel
theorem dJ2_getChar_3b067_7 : decode cJ2_getChar_3b067 7 = .ok (.ifCond .lt 11, 3) := by decide +kernel
theorem dJ2_getChar_3b067_10 : decode cJ2_getChar_3b067 10 = .ok (.iload_n 1, 1) := by decide +kernel
theorem dJ2_getChar_3b067_11 : decode cJ2_getChar_3b067 11 = .ok (.aload_n 0, 1) := by decide +kernel
theorem dJ2_getChar_3b067_12 : decode cJ2_getChar_3b067 12 = .ok (.invokestatic 48, 3) := by decide +kernel
theorem dJ2_getChar_3b067_15 : decode cJ2_getChar_3b067 15 = .ok (.if_icmp .lt 13, 3) := by decide +kernel
theorem dJ2_getChar_3b067_18 : decode cJ2_getChar_3b067 18 = .ok (.new 52, 3) := by decide +kernel
theorem dJ2_getChar_3b067_21 : decode cJ2_getChar_3b067 21 = .ok (.dup, 1) := by decide +kernel
theorem dJ2_getChar_3b067_22 : decode cJ2_getChar_3b067 22 = .ok (.ldc 54, 2) := by decide +kernel
theorem dJ2_getChar_3b067_24 : decode cJ2_getChar_3b067 24 = .ok (.invokespecial 56, 3) := by decide +kernel
theorem dJ2_getChar_3b067_27 : decode cJ2_getChar_3b067 27 = .ok (.athrow, 1) := by decide +kernel
theorem dJ2_getChar_3b067_28 : decode cJ2_getChar_3b067 28 = .ok (.iload_n 1, 1) := by decide +kernel
theorem dJ2_getChar_3b067_29 : decode cJ2_getChar_3b067 29 = .ok (.iconst 1, 1) := by decide +kernel
theorem dJ2_getChar_3b067_30 : decode cJ2_getChar_3b067 30 = .ok (.ishl, 1) := by decide +kernel
theorem dJ2_getChar_3b067_31 : decode cJ2_getChar_3b067 31 = .ok (.istore_n 1, 1) := by decide +kernel
theorem dJ2_getChar_3b067_32 : decode cJ2_getChar_3b067 32 = .ok (.aload_n 0, 1) := by decide +kernel
theorem dJ2_getChar_3b067_33 : decode cJ2_getChar_3b067 33 = .ok (.iload_n 1, 1) := by decide +kernel
theorem dJ2_getChar_3b067_34 : decode cJ2_getChar_3b067 34 = .ok (.iinc 1 1, 3) := by decide +kernel
theorem dJ2_getChar_3b067_37 : decode cJ2_getChar_3b067 37 = .ok (.baload, 1) := by decide +kernel
theorem dJ2_getChar_3b067_38 : decode cJ2_getChar_3b067 38 = .ok (.sipush 255, 3) := by decide +kernel
theorem dJ2_getChar_3b067_41 : decode cJ2_getChar_3b067 41 = .ok (.iand, 1) := by decide +kernel
theorem dJ2_getChar_3b067_42 : decode cJ2_getChar_3b067 42 = .ok (.getstatic 59, 3) := by decide +kernel
theorem dJ2_getChar_3b067_45 : decode cJ2_getChar_3b067 45 = .ok (.ishl, 1) := by decide +kernel
theorem dJ2_getChar_3b067_46 : decode cJ2_getChar_3b067 46 = .ok (.aload_n 0, 1) := by decide +kernel
theorem dJ2_getChar_3b067_47 : decode cJ2_getChar_3b067 47 = .ok (.iload_n 1, 1) := by decide +kernel
theorem dJ2_getChar_3b067_48 : decode cJ2_getChar_3b067 48 = .ok (.baload, 1) := by decide +kernel
theorem dJ2_getChar_3b067_49 : decode cJ2_getChar_3b067 49 = .ok (.sipush 255, 3) := by decide +kernel
theorem dJ2_getChar_3b067_52 : decode cJ2_getChar_3b067 52 = .ok (.iand, 1) := by decide +kernel
theorem dJ2_getChar_3b067_53 : decode cJ2_getChar_3b067 53 = .ok (.getstatic 63, 3) := by decide +kernel
theorem dJ2_getChar_3b067_56 : decode cJ2_getChar_3b067 56 = .ok (.ishl, 1) := by decide +kernel
theorem dJ2_getChar_3b067_57 : decode cJ2_getChar_3b067 57 = .ok (.ior, 1) := by decide +kernel
theorem dJ2_getChar_3b067_58 : decode cJ2_getChar_3b067 58 = .ok (.i2c, 1) := by decide +kernel
theorem dJ2_getChar_3b067_59 : decode cJ2_getChar_3b067 59 = .ok (.ireturn, 1) := by decide +kernel
theorem dJ2_length_9d52b_0 : decode cJ2_length_9d52b 0 = .ok (.aload_n 0, 1) := by decide +kernel
theorem dJ2_length_9d52b_1 : decode cJ2_length_9d52b 1 = .ok (.arraylength, 1) := by decide +kernel
theorem dJ2_length_9d52b_2 : decode cJ2_length_9d52b 2 = .ok (.iconst 1, 1) := by decide +kernel
theorem dJ2_length_9d52b_3 : decode cJ2_length_9d52b 3 = .ok (.ishr, 1) := by decide +kernel
theorem dJ2_length_9d52b_4 : decode cJ2_length_9d52b 4 = .ok (.ireturn, 1) := by decide +kernel
theorem dJ2_charAt_3b067_0 : decode cJ2_charAt_3b067 0 = .ok (.iload_n 1, 1) := by decide +kernel
theorem dJ2_charAt_3b067_1 : decode cJ2_charAt_3b067 1 = .ok (.aload_n 0, 1) := by decide +kernel
theorem dJ2_charAt_3b067_2 : decode cJ2_charAt_3b067 2 = .ok (.invokestatic 67, 3) := by decide +kernel
theorem dJ2_charAt_3b067_5 : decode cJ2_charAt_3b067 5 = .ok (.aload_n 0, 1) := by decide +kernel
theorem dJ2_charAt_3b067_6 : decode cJ2_charAt_3b067 6 = .ok (.iload_n 1, 1) := by decide +kernel
theorem dJ2_charAt_3b067_7 : decode cJ2_charAt_3b067 7 = .ok (.invokestatic 71, 3) := by decide +kernel
theorem dJ2_charAt_3b067_10 : decode cJ2_charAt_3b067 10 = .ok (.ireturn, 1) := by decide +kernel
theorem dJ2_checkIndex_2214a_0 : decode cJ2_checkIndex_2214a 0 = .ok (.iload_n 0, 1) := by decide +kernel
theorem dJ2_checkIndex_2214a_1 : decode cJ2_checkIndex_2214a 1 = .ok (.aload_n 1, 1) := by decide +kernel
theorem dJ2_checkIndex_2214a_2 : decode cJ2_checkIndex_2214a 2 = .ok (.invokestatic 48, 3) := by decide +kernel
theorem dJ2_checkIndex_2214a_5 : decode cJ2_checkIndex_2214a 5 = .ok (.invokestatic 414, 3) := by decide +kernel
theorem dJ2_checkIndex_2214a_8 : decode cJ2_checkIndex_2214a 8 = .ok (.return_, 1) := by decide +kernel
theorem dJ7_fill_53178_0 : decode cJ7_fill_53178 0 = .ok (.iconst 0, 1) := by decide +kernel
theorem dJ7_fill_53178_1 : decode cJ7_fill_53178 1 = .ok (.istore_n 2, 1) := by decide +kernel
theorem dJ7_fill_53178_2 : decode cJ7_fill_53178 2 = .ok (.aload_n 0, 1) := by decide +kernel
theorem dJ7_fill_53178_3 : decode cJ7_fill_53178 3 = .ok (.arraylength, 1) := by decide +kernel
theorem dJ7_fill_53178_4 : decode cJ7_fill_53178 4 = .ok (.istore_n 3, 1) := by decide +kernel
theorem dJ7_fill_53178_5 : decode cJ7_fill_53178 5 = .ok (.iload_n 2, 1) := by decide +kernel
theorem dJ7_fill_53178_6 : decode cJ7_fill_53178 6 = .ok (.iload_n 3, 1) := by decide +kernel
theorem dJ7_fill_53178_7 : decode cJ7_fill_53178 7 = .ok (.if_icmp .ge 13, 3) := by decide +kernel
theorem dJ7_fill_53178_10 : decode cJ7_fill_53178 10 = .ok (.aload_n 0, 1) := by decide +kernel
theorem dJ7_fill_53178_11 : decode cJ7_fill_53178 11 = .ok (.iload_n 2, 1) := by decide +kernel
theorem dJ7_fill_53178_12 : decode cJ7_fill_53178 12 = .ok (.iload_n 1, 1) := by decide +kernel
theorem dJ7_fill_53178_13 : decode cJ7_fill_53178 13 = .ok (.iastore, 1) := by decide +kernel
theorem dJ7_fill_53178_14 : decode cJ7_fill_53178 14 = .ok (.iinc 2 1, 3) := by decide +kernel
theorem dJ7_fill_53178_17 : decode cJ7_fill_53178 17 = .ok (.goto (-12), 3) := by decide +kernel
theorem dJ7_fill_53178_20 : decode cJ7_fill_53178 20 = .ok (.return_, 1) := by decide +kernel
theorem dJ3_checkIndex_8e157_0 : decode cJ3_checkIndex_8e157 0 = .ok (.iload_n 0, 1) := by decide +kernel
theorem dJ3_checkIndex_8e157_1 : decode cJ3_checkIndex_8e157 1 = .ok (.ifCond .lt 8, 3) := by decide +kernel
theorem dJ3_checkIndex_8e157_4 : decode cJ3_checkIndex_8e157 4 = .ok (.iload_n 0, 1) := by decide +kernel
theorem dJ3_checkIndex_8e157_5 : decode cJ3_checkIndex_8e157 5 = .ok (.iload_n 1, 1) := by decide +kernel
theorem dJ3_checkIndex_8e157_6 : decode cJ3_checkIndex_8e157 6 = .ok (.if_icmp .lt 10, 3) := by decide +kernel
theorem dJ3_checkIndex_8e157_9 : decode cJ3_checkIndex_8e157 9 = .ok (.aload_n 2, 1) := by decide +kernel
theorem dJ3_checkIndex_8e157_10 : decode cJ3_checkIndex_8e157 10 = .ok (.iload_n 0, 1) := by decide +kernel
theorem dJ3_checkIndex_8e157_11 : decode cJ3_checkIndex_8e157 11 = .ok (.iload_n 1, 1) := by decide +kernel
theorem dJ3_checkIndex_8e157_12 : decode cJ3_checkIndex_8e157 12 = .ok (.invokestatic 95, 3) := by decide +kernel
theorem dJ3_checkIndex_8e157_15 : decode cJ3_checkIndex_8e157 15 = .ok (.athrow, 1) := by decide +kernel
theorem dJ3_checkIndex_8e157_16 : decode cJ3_checkIndex_8e157 16 = .ok (.iload_n 0, 1) := by decide +kernel
theorem dJ3_checkIndex_8e157_17 : decode cJ3_checkIndex_8e157 17 = .ok (.ireturn, 1) := by decide +kernel
theorem dL_law_0 : decode cL_law 0 = .ok (.new 7, 3) := by decide +kernel
theorem dL_law_3 : decode cL_law 3 = .ok (.dup, 1) := by decide +kernel
theorem dL_law_4 : decode cL_law 4 = .ok (.invokespecial 9, 3) := by decide +kernel
theorem dL_law_7 : decode cL_law 7 = .ok (.astore_n 1, 1) := by decide +kernel
theorem dL_law_8 : decode cL_law 8 = .ok (.new 10, 3) := by decide +kernel
theorem dL_law_11 : decode cL_law 11 = .ok (.dup, 1) := by decide +kernel
theorem dL_law_12 : decode cL_law 12 = .ok (.invokespecial 12, 3) := by decide +kernel
theorem dL_law_15 : decode cL_law 15 = .ok (.astore_n 2, 1) := by decide +kernel
theorem dL_law_16 : decode cL_law 16 = .ok (.iconst 0, 1) := by decide +kernel
theorem dL_law_17 : decode cL_law 17 = .ok (.istore_n 3, 1) := by decide +kernel
theorem dL_law_18 : decode cL_law 18 = .ok (.iload_n 3, 1) := by decide +kernel
theorem dL_law_19 : decode cL_law 19 = .ok (.aload_n 0, 1) := by decide +kernel
theorem dL_law_20 : decode cL_law 20 = .ok (.arraylength, 1) := by decide +kernel
theorem dL_law_21 : decode cL_law 21 = .ok (.iconst 5, 1) := by decide +kernel
theorem dL_law_22 : decode cL_law 22 = .ok (.isub, 1) := by decide +kernel
theorem dL_law_23 : decode cL_law 23 = .ok (.if_icmp .gt 1089, 3) := by decide +kernel
theorem dL_law_26 : decode cL_law 26 = .ok (.aload_n 0, 1) := by decide +kernel
theorem dL_law_27 : decode cL_law 27 = .ok (.iload_n 3, 1) := by decide +kernel
theorem dL_law_28 : decode cL_law 28 = .ok (.iaload, 1) := by decide +kernel
theorem dL_law_29 : decode cL_law 29 = .ok (.bipush 31, 2) := by decide +kernel
theorem dL_law_31 : decode cL_law 31 = .ok (.iand, 1) := by decide +kernel
theorem dL_law_32 : decode cL_law 32 = .ok (.tableswitch 1074 0 27 #[128, 191, 204, 217, 250, 283, 316, 349, 382, 435, 468, 491, 544, 577, 610, 643, 686, 719, 762, 815, 838, 861, 904, 958, 991, 1014, 1037, 1060], 128) := by decide +kernel
theorem dL_law_160 : decode cL_law 160 = .ok (.aload_n 1, 1) := by decide +kernel
theorem dL_law_161 : decode cL_law 161 = .ok (.aload_n 0, 1) := by decide +kernel
theorem dL_law_162 : decode cL_law 162 = .ok (.iload_n 3, 1) := by decide +kernel
theorem dL_law_163 : decode cL_law 163 = .ok (.iconst 1, 1) := by decide +kernel
theorem dL_law_164 : decode cL_law 164 = .ok (.iadd, 1) := by decide +kernel
theorem dL_law_165 : decode cL_law 165 = .ok (.iaload, 1) := by decide +kernel
theorem dL_law_166 : decode cL_law 166 = .ok (.i2l, 1) := by decide +kernel
theorem dL_law_167 : decode cL_law 167 = .ok (.bipush 32, 2) := by decide +kernel
theorem dL_law_169 : decode cL_law 169 = .ok (.lshl, 1) := by decide +kernel
theorem dL_law_170 : decode cL_law 170 = .ok (.aload_n 0, 1) := by decide +kernel
theorem dL_law_171 : decode cL_law 171 = .ok (.iload_n 3, 1) := by decide +kernel
theorem dL_law_172 : decode cL_law 172 = .ok (.iconst 2, 1) := by decide +kernel
theorem dL_law_173 : decode cL_law 173 = .ok (.iadd, 1) := by decide +kernel
theorem dL_law_174 : decode cL_law 174 = .ok (.iaload, 1) := by decide +kernel
theorem dL_law_175 : decode cL_law 175 = .ok (.i2l, 1) := by decide +kernel
theorem dL_law_176 : decode cL_law 176 = .ok (.ldc2_w 13, 3) := by decide +kernel
theorem dL_law_179 : decode cL_law 179 = .ok (.land, 1) := by decide +kernel
theorem dL_law_180 : decode cL_law 180 = .ok (.lor, 1) := by decide +kernel
theorem dL_law_181 : decode cL_law 181 = .ok (.aload_n 0, 1) := by decide +kernel
theorem dL_law_182 : decode cL_law 182 = .ok (.iload_n 3, 1) := by decide +kernel
theorem dL_law_183 : decode cL_law 183 = .ok (.iconst 3, 1) := by decide +kernel
theorem dL_law_184 : decode cL_law 184 = .ok (.iadd, 1) := by decide +kernel
theorem dL_law_185 : decode cL_law 185 = .ok (.iaload, 1) := by decide +kernel
theorem dL_law_186 : decode cL_law 186 = .ok (.invokevirtual 15, 3) := by decide +kernel
theorem dL_law_189 : decode cL_law 189 = .ok (.aload_n 2, 1) := by decide +kernel
theorem dL_law_190 : decode cL_law 190 = .ok (.aload_n 0, 1) := by decide +kernel
theorem dL_law_191 : decode cL_law 191 = .ok (.iload_n 3, 1) := by decide +kernel
theorem dL_law_192 : decode cL_law 192 = .ok (.iconst 1, 1) := by decide +kernel
theorem dL_law_193 : decode cL_law 193 = .ok (.iadd, 1) := by decide +kernel
theorem dL_law_194 : decode cL_law 194 = .ok (.iaload, 1) := by decide +kernel
theorem dL_law_195 : decode cL_law 195 = .ok (.i2l, 1) := by decide +kernel
theorem dL_law_196 : decode cL_law 196 = .ok (.bipush 32, 2) := by decide +kernel
theorem dL_law_198 : decode cL_law 198 = .ok (.lshl, 1) := by decide +kernel
theorem dL_law_199 : decode cL_law 199 = .ok (.aload_n 0, 1) := by decide +kernel
theorem dL_law_200 : decode cL_law 200 = .ok (.iload_n 3, 1) := by decide +kernel
theorem dL_law_201 : decode cL_law 201 = .ok (.iconst 2, 1) := by decide +kernel
theorem dL_law_202 : decode cL_law 202 = .ok (.iadd, 1) := by decide +kernel
theorem dL_law_203 : decode cL_law 203 = .ok (.iaload, 1) := by decide +kernel
theorem dL_law_204 : decode cL_law 204 = .ok (.i2l, 1) := by decide +kernel
theorem dL_law_205 : decode cL_law 205 = .ok (.ldc2_w 13, 3) := by decide +kernel
theorem dL_law_208 : decode cL_law 208 = .ok (.land, 1) := by decide +kernel
theorem dL_law_209 : decode cL_law 209 = .ok (.lor, 1) := by decide +kernel
theorem dL_law_210 : decode cL_law 210 = .ok (.aload_n 0, 1) := by decide +kernel
theorem dL_law_211 : decode cL_law 211 = .ok (.iload_n 3, 1) := by decide +kernel
theorem dL_law_212 : decode cL_law 212 = .ok (.iconst 3, 1) := by decide +kernel
theorem dL_law_213 : decode cL_law 213 = .ok (.iadd, 1) := by decide +kernel
theorem dL_law_214 : decode cL_law 214 = .ok (.iaload, 1) := by decide +kernel
theorem dL_law_215 : decode cL_law 215 = .ok (.invokevirtual 19, 3) := by decide +kernel
theorem dL_law_218 : decode cL_law 218 = .ok (.if_icmp .eq 888, 3) := by decide +kernel
theorem dL_law_221 : decode cL_law 221 = .ok (.iconst 0, 1) := by decide +kernel
theorem dL_law_222 : decode cL_law 222 = .ok (.ireturn, 1) := by decide +kernel
theorem dL_law_223 : decode cL_law 223 = .ok (.aload_n 1, 1) := by decide +kernel
theorem dL_law_224 : decode cL_law 224 = .ok (.invokevirtual 20, 3) := by decide +kernel
theorem dL_law_227 : decode cL_law 227 = .ok (.aload_n 2, 1) := by decide +kernel
theorem dL_law_228 : decode cL_law 228 = .ok (.invokevirtual 24, 3) := by decide +kernel
theorem dL_law_231 : decode cL_law 231 = .ok (.if_icmp .eq 875, 3) := by decide +kernel
theorem dL_law_234 : decode cL_law 234 = .ok (.iconst 0, 1) := by decide +kernel
theorem dL_law_235 : decode cL_law 235 = .ok (.ireturn, 1) := by decide +kernel
theorem dL_law_236 : decode cL_law 236 = .ok (.aload_n 1, 1) := by decide +kernel
theorem dL_law_237 : decode cL_law 237 = .ok (.invokevirtual 25, 3) := by decide +kernel
theorem dL_law_240 : decode cL_law 240 = .ok (.aload_n 2, 1) := by decide +kernel
theorem dL_law_241 : decode cL_law 241 = .ok (.invokevirtual 28, 3) := by decide +kernel
theorem dL_law_244 : decode cL_law 244 = .ok (.if_icmp .eq 862, 3) := by decide +kernel
theorem dL_law_247 : decode cL_law 247 = .ok (.iconst 0, 1) := by decide +kernel
theorem dL_law_248 : decode cL_law 248 = .ok (.ireturn, 1) := by decide +kernel
theorem dL_law_249 : decode cL_law 249 = .ok (.aload_n 1, 1) := by decide +kernel
theorem dL_law_250 : decode cL_law 250 = .ok (.aload_n 0, 1) := by decide +kernel
theorem dL_law_251 : decode cL_law 251 = .ok (.iload_n 3, 1) := by decide +kernel
theorem dL_law_252 : decode cL_law 252 = .ok (.iconst 1, 1) := by decide +kernel
theorem dL_law_253 : decode cL_law 253 = .ok (.iadd, 1) := by decide +kernel
theorem dL_law_254 : decode cL_law 254 = .ok (.iaload, 1) := by decide +kernel
theorem dL_law_255 : decode cL_law 255 = .ok (.aload_n 0, 1) := by decide +kernel
theorem dL_law_256 : decode cL_law 256 = .ok (.iload_n 3, 1) := by decide +kernel
theorem dL_law_257 : decode cL_law 257 = .ok (.iconst 2, 1) := by decide +kernel
theorem dL_law_258 : decode cL_law 258 = .ok (.iadd, 1) := by decide +kernel
theorem dL_law_259 : decode cL_law 259 = .ok (.iaload, 1) := by decide +kernel
theorem dL_law_260 : decode cL_law 260 = .ok (.invokevirtual 29, 3) := by decide +kernel
theorem dL_law_263 : decode cL_law 263 = .ok (.aload_n 2, 1) := by decide +kernel
theorem dL_law_264 : decode cL_law 264 = .ok (.aload_n 0, 1) := by decide +kernel
theorem dL_law_265 : decode cL_law 265 = .ok (.iload_n 3, 1) := by decide +kernel
theorem dL_law_266 : decode cL_law 266 = .ok (.iconst 1, 1) := by decide +kernel
theorem dL_law_267 : decode cL_law 267 = .ok (.iadd, 1) := by decide +kernel
theorem dL_law_268 : decode cL_law 268 = .ok (.iaload, 1) := by decide +kernel
theorem dL_law_269 : decode cL_law 269 = .ok (.aload_n 0, 1) := by decide +kernel
theorem dL_law_270 : decode cL_law 270 = .ok (.iload_n 3, 1) := by decide +kernel
theorem dL_law_271 : decode cL_law 271 = .ok (.iconst 2, 1) := by decide +kernel
theorem dL_law_272 : decode cL_law 272 = .ok (.iadd, 1) := by decide +kernel
theorem dL_law_273 : decode cL_law 273 = .ok (.iaload, 1) := by decide +kernel
theorem dL_law_274 : decode cL_law 274 = .ok (.invokevirtual 33, 3) := by decide +kernel
theorem dL_law_277 : decode cL_law 277 = .ok (.if_icmp .eq 829, 3) := by decide +kernel
theorem dL_law_280 : decode cL_law 280 = .ok (.iconst 0, 1) := by decide +kernel
theorem dL_law_281 : decode cL_law 281 = .ok (.ireturn, 1) := by decide +kernel
theorem dL_law_282 : decode cL_law 282 = .ok (.aload_n 1, 1) := by decide +kernel
theorem dL_law_283 : decode cL_law 283 = .ok (.aload_n 0, 1) := by decide +kernel
theorem dL_law_284 : decode cL_law 284 = .ok (.iload_n 3, 1) := by decide +kernel
theorem dL_law_285 : decode cL_law 285 = .ok (.iconst 1, 1) := by decide +kernel
theorem dL_law_286 : decode cL_law 286 = .ok (.iadd, 1) := by decide +kernel
theorem dL_law_287 : decode cL_law 287 = .ok (.iaload, 1) := by decide +kernel
theorem dL_law_288 : decode cL_law 288 = .ok (.aload_n 0, 1) := by decide +kernel
theorem dL_law_289 : decode cL_law 289 = .ok (.iload_n 3, 1) := by decide +kernel
theorem dL_law_290 : decode cL_law 290 = .ok (.iconst 2, 1) := by decide +kernel
theorem dL_law_291 : decode cL_law 291 = .ok (.iadd, 1) := by decide +kernel
theorem dL_law_292 : decode cL_law 292 = .ok (.iaload, 1) := by decide +kernel
theorem dL_law_293 : decode cL_law 293 = .ok (.invokevirtual 34, 3) := by decide +kernel
theorem dL_law_296 : decode cL_law 296 = .ok (.aload_n 2, 1) := by decide +kernel
theorem dL_law_297 : decode cL_law 297 = .ok (.aload_n 0, 1) := by decide +kernel
theorem dL_law_298 : decode cL_law 298 = .ok (.iload_n 3, 1) := by decide +kernel
theorem dL_law_299 : decode cL_law 299 = .ok (.iconst 1, 1) := by decide +kernel
theorem dL_law_300 : decode cL_law 300 = .ok (.iadd, 1) := by decide +kernel
theorem dL_law_301 : decode cL_law 301 = .ok (.iaload, 1) := by decide +kernel
theorem dL_law_302 : decode cL_law 302 = .ok (.aload_n 0, 1) := by decide +kernel
theorem dL_law_303 : decode cL_law 303 = .ok (.iload_n 3, 1) := by decide +kernel
theorem dL_law_304 : decode cL_law 304 = .ok (.iconst 2, 1) := by decide +kernel
theorem dL_law_305 : decode cL_law 305 = .ok (.iadd, 1) := by decide +kernel
theorem dL_law_306 : decode cL_law 306 = .ok (.iaload, 1) := by decide +kernel
theorem dL_law_307 : decode cL_law 307 = .ok (.invokevirtual 37, 3) := by decide +kernel
theorem dL_law_310 : decode cL_law 310 = .ok (.if_icmp .eq 796, 3) := by decide +kernel
theorem dL_law_313 : decode cL_law 313 = .ok (.iconst 0, 1) := by decide +kernel
theorem dL_law_314 : decode cL_law 314 = .ok (.ireturn, 1) := by decide +kernel
theorem dL_law_315 : decode cL_law 315 = .ok (.aload_n 1, 1) := by decide +kernel
theorem dL_law_316 : decode cL_law 316 = .ok (.aload_n 0, 1) := by decide +kernel
theorem dL_law_317 : decode cL_law 317 = .ok (.iload_n 3, 1) := by decide +kernel
theorem dL_law_318 : decode cL_law 318 = .ok (.iconst 1, 1) := by decide +kernel
theorem dL_law_319 : decode cL_law 319 = .ok (.iadd, 1) := by decide +kernel
theorem dL_law_320 : decode cL_law 320 = .ok (.iaload, 1) := by decide +kernel
theorem dL_law_321 : decode cL_law 321 = .ok (.aload_n 0, 1) := by decide +kernel
theorem dL_law_322 : decode cL_law 322 = .ok (.iload_n 3, 1) := by decide +kernel
theorem dL_law_323 : decode cL_law 323 = .ok (.iconst 2, 1) := by decide +kernel
theorem dL_law_324 : decode cL_law 324 = .ok (.iadd, 1) := by decide +kernel
theorem dL_law_325 : decode cL_law 325 = .ok (.iaload, 1) := by decide +kernel
theorem dL_law_326 : decode cL_law 326 = .ok (.invokevirtual 38, 3) := by decide +kernel
theorem dL_law_329 : decode cL_law 329 = .ok (.aload_n 2, 1) := by decide +kernel
theorem dL_law_330 : decode cL_law 330 = .ok (.aload_n 0, 1) := by decide +kernel
theorem dL_law_331 : decode cL_law 331 = .ok (.iload_n 3, 1) := by decide +kernel
theorem dL_law_332 : decode cL_law 332 = .ok (.iconst 1, 1) := by decide +kernel
theorem dL_law_333 : decode cL_law 333 = .ok (.iadd, 1) := by decide +kernel
theorem dL_law_334 : decode cL_law 334 = .ok (.iaload, 1) := by decide +kernel
theorem dL_law_335 : decode cL_law 335 = .ok (.aload_n 0, 1) := by decide +kernel
theorem dL_law_336 : decode cL_law 336 = .ok (.iload_n 3, 1) := by decide +kernel
theorem dL_law_337 : decode cL_law 337 = .ok (.iconst 2, 1) := by decide +kernel
theorem dL_law_338 : decode cL_law 338 = .ok (.iadd, 1) := by decide +kernel
theorem dL_law_339 : decode cL_law 339 = .ok (.iaload, 1) := by decide +kernel
theorem dL_law_340 : decode cL_law 340 = .ok (.invokevirtual 41, 3) := by decide +kernel
theorem dL_law_343 : decode cL_law 343 = .ok (.if_icmp .eq 763, 3) := by decide +kernel
theorem dL_law_346 : decode cL_law 346 = .ok (.iconst 0, 1) := by decide +kernel
theorem dL_law_347 : decode cL_law 347 = .ok (.ireturn, 1) := by decide +kernel
theorem dL_law_348 : decode cL_law 348 = .ok (.aload_n 1, 1) := by decide +kernel
theorem dL_law_349 : decode cL_law 349 = .ok (.aload_n 0, 1) := by decide +kernel
theorem dL_law_350 : decode cL_law 350 = .ok (.iload_n 3, 1) := by decide +kernel
theorem dL_law_351 : decode cL_law 351 = .ok (.iconst 1, 1) := by decide +kernel
theorem dL_law_352 : decode cL_law 352 = .ok (.iadd, 1) := by decide +kernel
theorem dL_law_353 : decode cL_law 353 = .ok (.iaload, 1) := by decide +kernel
theorem dL_law_354 : decode cL_law 354 = .ok (.aload_n 0, 1) := by decide +kernel
theorem dL_law_355 : decode cL_law 355 = .ok (.iload_n 3, 1) := by decide +kernel
theorem dL_law_356 : decode cL_law 356 = .ok (.iconst 2, 1) := by decide +kernel
theorem dL_law_357 : decode cL_law 357 = .ok (.iadd, 1) := by decide +kernel
theorem dL_law_358 : decode cL_law 358 = .ok (.iaload, 1) := by decide +kernel
theorem dL_law_359 : decode cL_law 359 = .ok (.invokevirtual 42, 3) := by decide +kernel
theorem dL_law_362 : decode cL_law 362 = .ok (.aload_n 2, 1) := by decide +kernel
theorem dL_law_363 : decode cL_law 363 = .ok (.aload_n 0, 1) := by decide +kernel
theorem dL_law_364 : decode cL_law 364 = .ok (.iload_n 3, 1) := by decide +kernel
theorem dL_law_365 : decode cL_law 365 = .ok (.iconst 1, 1) := by decide +kernel
theorem dL_law_366 : decode cL_law 366 = .ok (.iadd, 1) := by decide +kernel
theorem dL_law_367 : decode cL_law 367 = .ok (.iaload, 1) := by decide +kernel
theorem dL_law_368 : decode cL_law 368 = .ok (.aload_n 0, 1) := by decide +kernel
theorem dL_law_369 : decode cL_law 369 = .ok (.iload_n 3, 1) := by decide +kernel
theorem dL_law_370 : decode cL_law 370 = .ok (.iconst 2, 1) := by decide +kernel
theorem dL_law_371 : decode cL_law 371 = .ok (.iadd, 1) := by decide +kernel
theorem dL_law_372 : decode cL_law 372 = .ok (.iaload, 1) := by decide +kernel
theorem dL_law_373 : decode cL_law 373 = .ok (.invokevirtual 45, 3) := by decide +kernel
theorem dL_law_376 : decode cL_law 376 = .ok (.if_icmp .eq 730, 3) := by decide +kernel
theorem dL_law_379 : decode cL_law 379 = .ok (.iconst 0, 1) := by decide +kernel
theorem dL_law_380 : decode cL_law 380 = .ok (.ireturn, 1) := by decide +kernel
theorem dL_law_381 : decode cL_law 381 = .ok (.aload_n 1, 1) := by decide +kernel
theorem dL_law_382 : decode cL_law 382 = .ok (.aload_n 0, 1) := by decide +kernel
theorem dL_law_383 : decode cL_law 383 = .ok (.iload_n 3, 1) := by decide +kernel
theorem dL_law_384 : decode cL_law 384 = .ok (.iconst 1, 1) := by decide +kernel
theorem dL_law_385 : decode cL_law 385 = .ok (.iadd, 1) := by decide +kernel
theorem dL_law_386 : decode cL_law 386 = .ok (.iaload, 1) := by decide +kernel
theorem dL_law_387 : decode cL_law 387 = .ok (.aload_n 0, 1) := by decide +kernel
theorem dL_law_388 : decode cL_law 388 = .ok (.iload_n 3, 1) := by decide +kernel
theorem dL_law_389 : decode cL_law 389 = .ok (.iconst 2, 1) := by decide +kernel
theorem dL_law_390 : decode cL_law 390 = .ok (.iadd, 1) := by decide +kernel
theorem dL_law_391 : decode cL_law 391 = .ok (.iaload, 1) := by decide +kernel
theorem dL_law_392 : decode cL_law 392 = .ok (.invokevirtual 46, 3) := by decide +kernel
theorem dL_law_395 : decode cL_law 395 = .ok (.aload_n 2, 1) := by decide +kernel
theorem dL_law_396 : decode cL_law 396 = .ok (.aload_n 0, 1) := by decide +kernel
theorem dL_law_397 : decode cL_law 397 = .ok (.iload_n 3, 1) := by decide +kernel
theorem dL_law_398 : decode cL_law 398 = .ok (.iconst 1, 1) := by decide +kernel
theorem dL_law_399 : decode cL_law 399 = .ok (.iadd, 1) := by decide +kernel
theorem dL_law_400 : decode cL_law 400 = .ok (.iaload, 1) := by decide +kernel
theorem dL_law_401 : decode cL_law 401 = .ok (.aload_n 0, 1) := by decide +kernel
theorem dL_law_402 : decode cL_law 402 = .ok (.iload_n 3, 1) := by decide +kernel
theorem dL_law_403 : decode cL_law 403 = .ok (.iconst 2, 1) := by decide +kernel
theorem dL_law_404 : decode cL_law 404 = .ok (.iadd, 1) := by decide +kernel
theorem dL_law_405 : decode cL_law 405 = .ok (.iaload, 1) := by decide +kernel
theorem dL_law_406 : decode cL_law 406 = .ok (.invokevirtual 49, 3) := by decide +kernel
theorem dL_law_409 : decode cL_law 409 = .ok (.if_icmp .eq 697, 3) := by decide +kernel
theorem dL_law_412 : decode cL_law 412 = .ok (.iconst 0, 1) := by decide +kernel
theorem dL_law_413 : decode cL_law 413 = .ok (.ireturn, 1) := by decide +kernel
theorem dL_law_414 : decode cL_law 414 = .ok (.aload_n 1, 1) := by decide +kernel
theorem dL_law_415 : decode cL_law 415 = .ok (.aload_n 0, 1) := by decide +kernel
theorem dL_law_416 : decode cL_law 416 = .ok (.iload_n 3, 1) := by decide +kernel
theorem dL_law_417 : decode cL_law 417 = .ok (.iconst 1, 1) := by decide +kernel
theorem dL_law_418 : decode cL_law 418 = .ok (.iadd, 1) := by decide +kernel
theorem dL_law_419 : decode cL_law 419 = .ok (.iaload, 1) := by decide +kernel
theorem dL_law_420 : decode cL_law 420 = .ok (.aload_n 0, 1) := by decide +kernel
theorem dL_law_421 : decode cL_law 421 = .ok (.iload_n 3, 1) := by decide +kernel
theorem dL_law_422 : decode cL_law 422 = .ok (.iconst 2, 1) := by decide +kernel
theorem dL_law_423 : decode cL_law 423 = .ok (.iadd, 1) := by decide +kernel
theorem dL_law_424 : decode cL_law 424 = .ok (.iaload, 1) := by decide +kernel
theorem dL_law_425 : decode cL_law 425 = .ok (.aload_n 0, 1) := by decide +kernel
theorem dL_law_426 : decode cL_law 426 = .ok (.iload_n 3, 1) := by decide +kernel
theorem dL_law_427 : decode cL_law 427 = .ok (.iconst 3, 1) := by decide +kernel
theorem dL_law_428 : decode cL_law 428 = .ok (.iadd, 1) := by decide +kernel
theorem dL_law_429 : decode cL_law 429 = .ok (.iaload, 1) := by decide +kernel
theorem dL_law_430 : decode cL_law 430 = .ok (.aload_n 0, 1) := by decide +kernel
theorem dL_law_431 : decode cL_law 431 = .ok (.iload_n 3, 1) := by decide +kernel
theorem dL_law_432 : decode cL_law 432 = .ok (.iconst 4, 1) := by decide +kernel
theorem dL_law_433 : decode cL_law 433 = .ok (.iadd, 1) := by decide +kernel
theorem dL_law_434 : decode cL_law 434 = .ok (.iaload, 1) := by decide +kernel
theorem dL_law_435 : decode cL_law 435 = .ok (.invokevirtual 50, 3) := by decide +kernel
theorem dL_law_438 : decode cL_law 438 = .ok (.aload_n 2, 1) := by decide +kernel
theorem dL_law_439 : decode cL_law 439 = .ok (.aload_n 0, 1) := by decide +kernel
theorem dL_law_440 : decode cL_law 440 = .ok (.iload_n 3, 1) := by decide +kernel
theorem dL_law_441 : decode cL_law 441 = .ok (.iconst 1, 1) := by decide +kernel
theorem dL_law_442 : decode cL_law 442 = .ok (.iadd, 1) := by decide +kernel
theorem dL_law_443 : decode cL_law 443 = .ok (.iaload, 1) := by decide +kernel
theorem dL_law_444 : decode cL_law 444 = .ok (.aload_n 0, 1) := by decide +kernel
theorem dL_law_445 : decode cL_law 445 = .ok (.iload_n 3, 1) := by decide +kernel
theorem dL_law_446 : decode cL_law 446 = .ok (.iconst 2, 1) := by decide +kernel
theorem dL_law_447 : decode cL_law 447 = .ok (.iadd, 1) := by decide +kernel
theorem dL_law_448 : decode cL_law 448 = .ok (.iaload, 1) := by decide +kernel
theorem dL_law_449 : decode cL_law 449 = .ok (.aload_n 0, 1) := by decide +kernel
theorem dL_law_450 : decode cL_law 450 = .ok (.iload_n 3, 1) := by decide +kernel
theorem dL_law_451 : decode cL_law 451 = .ok (.iconst 3, 1) := by decide +kernel
theorem dL_law_452 : decode cL_law 452 = .ok (.iadd, 1) := by decide +kernel
theorem dL_law_453 : decode cL_law 453 = .ok (.iaload, 1) := by decide +kernel
theorem dL_law_454 : decode cL_law 454 = .ok (.aload_n 0, 1) := by decide +kernel
theorem dL_law_455 : decode cL_law 455 = .ok (.iload_n 3, 1) := by decide +kernel
theorem dL_law_456 : decode cL_law 456 = .ok (.iconst 4, 1) := by decide +kernel
theorem dL_law_457 : decode cL_law 457 = .ok (.iadd, 1) := by decide +kernel
theorem dL_law_458 : decode cL_law 458 = .ok (.iaload, 1) := by decide +kernel
theorem dL_law_459 : decode cL_law 459 = .ok (.invokevirtual 54, 3) := by decide +kernel
theorem dL_law_462 : decode cL_law 462 = .ok (.if_icmp .eq 644, 3) := by decide +kernel
theorem dL_law_465 : decode cL_law 465 = .ok (.iconst 0, 1) := by decide +kernel
theorem dL_law_466 : decode cL_law 466 = .ok (.ireturn, 1) := by decide +kernel
theorem dL_law_467 : decode cL_law 467 = .ok (.aload_n 1, 1) := by decide +kernel
theorem dL_law_468 : decode cL_law 468 = .ok (.aload_n 0, 1) := by decide +kernel
theorem dL_law_469 : decode cL_law 469 = .ok (.iload_n 3, 1) := by decide +kernel
theorem dL_law_470 : decode cL_law 470 = .ok (.iconst 1, 1) := by decide +kernel
theorem dL_law_471 : decode cL_law 471 = .ok (.iadd, 1) := by decide +kernel
theorem dL_law_472 : decode cL_law 472 = .ok (.iaload, 1) := by decide +kernel
theorem dL_law_473 : decode cL_law 473 = .ok (.aload_n 0, 1) := by decide +kernel
theorem dL_law_474 : decode cL_law 474 = .ok (.iload_n 3, 1) := by decide +kernel
theorem dL_law_475 : decode cL_law 475 = .ok (.iconst 2, 1) := by decide +kernel
theorem dL_law_476 : decode cL_law 476 = .ok (.iadd, 1) := by decide +kernel
theorem dL_law_477 : decode cL_law 477 = .ok (.iaload, 1) := by decide +kernel
theorem dL_law_478 : decode cL_law 478 = .ok (.invokevirtual 55, 3) := by decide +kernel
theorem dL_law_481 : decode cL_law 481 = .ok (.aload_n 2, 1) := by decide +kernel
theorem dL_law_482 : decode cL_law 482 = .ok (.aload_n 0, 1) := by decide +kernel
theorem dL_law_483 : decode cL_law 483 = .ok (.iload_n 3, 1) := by decide +kernel
theorem dL_law_484 : decode cL_law 484 = .ok (.iconst 1, 1) := by decide +kernel
theorem dL_law_485 : decode cL_law 485 = .ok (.iadd, 1) := by decide +kernel
theorem dL_law_486 : decode cL_law 486 = .ok (.iaload, 1) := by decide +kernel
theorem dL_law_487 : decode cL_law 487 = .ok (.aload_n 0, 1) := by decide +kernel
theorem dL_law_488 : decode cL_law 488 = .ok (.iload_n 3, 1) := by decide +kernel
theorem dL_law_489 : decode cL_law 489 = .ok (.iconst 2, 1) := by decide +kernel
theorem dL_law_490 : decode cL_law 490 = .ok (.iadd, 1) := by decide +kernel
theorem dL_law_491 : decode cL_law 491 = .ok (.iaload, 1) := by decide +kernel
theorem dL_law_492 : decode cL_law 492 = .ok (.invokevirtual 58, 3) := by decide +kernel
theorem dL_law_495 : decode cL_law 495 = .ok (.if_icmp .eq 611, 3) := by decide +kernel
theorem dL_law_498 : decode cL_law 498 = .ok (.iconst 0, 1) := by decide +kernel
theorem dL_law_499 : decode cL_law 499 = .ok (.ireturn, 1) := by decide +kernel
theorem dL_law_500 : decode cL_law 500 = .ok (.aload_n 1, 1) := by decide +kernel
theorem dL_law_501 : decode cL_law 501 = .ok (.aload_n 0, 1) := by decide +kernel
theorem dL_law_502 : decode cL_law 502 = .ok (.iload_n 3, 1) := by decide +kernel
theorem dL_law_503 : decode cL_law 503 = .ok (.iconst 1, 1) := by decide +kernel
theorem dL_law_504 : decode cL_law 504 = .ok (.iadd, 1) := by decide +kernel
theorem dL_law_505 : decode cL_law 505 = .ok (.iaload, 1) := by decide +kernel
theorem dL_law_506 : decode cL_law 506 = .ok (.invokevirtual 59, 3) := by decide +kernel
theorem dL_law_509 : decode cL_law 509 = .ok (.aload_n 2, 1) := by decide +kernel
theorem dL_law_510 : decode cL_law 510 = .ok (.aload_n 0, 1) := by decide +kernel
theorem dL_law_511 : decode cL_law 511 = .ok (.iload_n 3, 1) := by decide +kernel
theorem dL_law_512 : decode cL_law 512 = .ok (.iconst 1, 1) := by decide +kernel
theorem dL_law_513 : decode cL_law 513 = .ok (.iadd, 1) := by decide +kernel
theorem dL_law_514 : decode cL_law 514 = .ok (.iaload, 1) := by decide +kernel
theorem dL_law_515 : decode cL_law 515 = .ok (.invokevirtual 63, 3) := by decide +kernel
theorem dL_law_518 : decode cL_law 518 = .ok (.if_icmp .eq 588, 3) := by decide +kernel
theorem dL_law_521 : decode cL_law 521 = .ok (.iconst 0, 1) := by decide +kernel
theorem dL_law_522 : decode cL_law 522 = .ok (.ireturn, 1) := by decide +kernel
theorem dL_law_523 : decode cL_law 523 = .ok (.aload_n 1, 1) := by decide +kernel
theorem dL_law_524 : decode cL_law 524 = .ok (.aload_n 0, 1) := by decide +kernel
theorem dL_law_525 : decode cL_law 525 = .ok (.iload_n 3, 1) := by decide +kernel
theorem dL_law_526 : decode cL_law 526 = .ok (.iconst 1, 1) := by decide +kernel
theorem dL_law_527 : decode cL_law 527 = .ok (.iadd, 1) := by decide +kernel
theorem dL_law_528 : decode cL_law 528 = .ok (.iaload, 1) := by decide +kernel
theorem dL_law_529 : decode cL_law 529 = .ok (.aload_n 0, 1) := by decide +kernel
theorem dL_law_530 : decode cL_law 530 = .ok (.iload_n 3, 1) := by decide +kernel
theorem dL_law_531 : decode cL_law 531 = .ok (.iconst 2, 1) := by decide +kernel
theorem dL_law_532 : decode cL_law 532 = .ok (.iadd, 1) := by decide +kernel
theorem dL_law_533 : decode cL_law 533 = .ok (.iaload, 1) := by decide +kernel
theorem dL_law_534 : decode cL_law 534 = .ok (.aload_n 0, 1) := by decide +kernel
theorem dL_law_535 : decode cL_law 535 = .ok (.iload_n 3, 1) := by decide +kernel
theorem dL_law_536 : decode cL_law 536 = .ok (.iconst 3, 1) := by decide +kernel
theorem dL_law_537 : decode cL_law 537 = .ok (.iadd, 1) := by decide +kernel
theorem dL_law_538 : decode cL_law 538 = .ok (.iaload, 1) := by decide +kernel
theorem dL_law_539 : decode cL_law 539 = .ok (.aload_n 0, 1) := by decide +kernel
theorem dL_law_540 : decode cL_law 540 = .ok (.iload_n 3, 1) := by decide +kernel
theorem dL_law_541 : decode cL_law 541 = .ok (.iconst 4, 1) := by decide +kernel
theorem dL_law_542 : decode cL_law 542 = .ok (.iadd, 1) := by decide +kernel
theorem dL_law_543 : decode cL_law 543 = .ok (.iaload, 1) := by decide +kernel
theorem dL_law_544 : decode cL_law 544 = .ok (.invokevirtual 64, 3) := by decide +kernel
theorem dL_law_547 : decode cL_law 547 = .ok (.aload_n 2, 1) := by decide +kernel
theorem dL_law_548 : decode cL_law 548 = .ok (.aload_n 0, 1) := by decide +kernel
theorem dL_law_549 : decode cL_law 549 = .ok (.iload_n 3, 1) := by decide +kernel
theorem dL_law_550 : decode cL_law 550 = .ok (.iconst 1, 1) := by decide +kernel
theorem dL_law_551 : decode cL_law 551 = .ok (.iadd, 1) := by decide +kernel
theorem dL_law_552 : decode cL_law 552 = .ok (.iaload, 1) := by decide +kernel
theorem dL_law_553 : decode cL_law 553 = .ok (.aload_n 0, 1) := by decide +kernel
theorem dL_law_554 : decode cL_law 554 = .ok (.iload_n 3, 1) := by decide +kernel
theorem dL_law_555 : decode cL_law 555 = .ok (.iconst 2, 1) := by decide +kernel
theorem dL_law_556 : decode cL_law 556 = .ok (.iadd, 1) := by decide +kernel
theorem dL_law_557 : decode cL_law 557 = .ok (.iaload, 1) := by decide +kernel
theorem dL_law_558 : decode cL_law 558 = .ok (.aload_n 0, 1) := by decide +kernel
theorem dL_law_559 : decode cL_law 559 = .ok (.iload_n 3, 1) := by decide +kernel
theorem dL_law_560 : decode cL_law 560 = .ok (.iconst 3, 1) := by decide +kernel
theorem dL_law_561 : decode cL_law 561 = .ok (.iadd, 1) := by decide +kernel
theorem dL_law_562 : decode cL_law 562 = .ok (.iaload, 1) := by decide +kernel
theorem dL_law_563 : decode cL_law 563 = .ok (.aload_n 0, 1) := by decide +kernel
theorem dL_law_564 : decode cL_law 564 = .ok (.iload_n 3, 1) := by decide +kernel
theorem dL_law_565 : decode cL_law 565 = .ok (.iconst 4, 1) := by decide +kernel
theorem dL_law_566 : decode cL_law 566 = .ok (.iadd, 1) := by decide +kernel
theorem dL_law_567 : decode cL_law 567 = .ok (.iaload, 1) := by decide +kernel
theorem dL_law_568 : decode cL_law 568 = .ok (.invokevirtual 67, 3) := by decide +kernel
theorem dL_law_571 : decode cL_law 571 = .ok (.if_icmp .eq 535, 3) := by decide +kernel
theorem dL_law_574 : decode cL_law 574 = .ok (.iconst 0, 1) := by decide +kernel
theorem dL_law_575 : decode cL_law 575 = .ok (.ireturn, 1) := by decide +kernel
theorem dL_law_576 : decode cL_law 576 = .ok (.aload_n 1, 1) := by decide +kernel
theorem dL_law_577 : decode cL_law 577 = .ok (.aload_n 0, 1) := by decide +kernel
theorem dL_law_578 : decode cL_law 578 = .ok (.iload_n 3, 1) := by decide +kernel
theorem dL_law_579 : decode cL_law 579 = .ok (.iconst 1, 1) := by decide +kernel
theorem dL_law_580 : decode cL_law 580 = .ok (.iadd, 1) := by decide +kernel
theorem dL_law_581 : decode cL_law 581 = .ok (.iaload, 1) := by decide +kernel
theorem dL_law_582 : decode cL_law 582 = .ok (.aload_n 0, 1) := by decide +kernel
theorem dL_law_583 : decode cL_law 583 = .ok (.iload_n 3, 1) := by decide +kernel
theorem dL_law_584 : decode cL_law 584 = .ok (.iconst 2, 1) := by decide +kernel
theorem dL_law_585 : decode cL_law 585 = .ok (.iadd, 1) := by decide +kernel
theorem dL_law_586 : decode cL_law 586 = .ok (.iaload, 1) := by decide +kernel
theorem dL_law_587 : decode cL_law 587 = .ok (.invokevirtual 68, 3) := by decide +kernel
theorem dL_law_590 : decode cL_law 590 = .ok (.aload_n 2, 1) := by decide +kernel
theorem dL_law_591 : decode cL_law 591 = .ok (.aload_n 0, 1) := by decide +kernel
theorem dL_law_592 : decode cL_law 592 = .ok (.iload_n 3, 1) := by decide +kernel
theorem dL_law_593 : decode cL_law 593 = .ok (.iconst 1, 1) := by decide +kernel
theorem dL_law_594 : decode cL_law 594 = .ok (.iadd, 1) := by decide +kernel
theorem dL_law_595 : decode cL_law 595 = .ok (.iaload, 1) := by decide +kernel
theorem dL_law_596 : decode cL_law 596 = .ok (.aload_n 0, 1) := by decide +kernel
theorem dL_law_597 : decode cL_law 597 = .ok (.iload_n 3, 1) := by decide +kernel
theorem dL_law_598 : decode cL_law 598 = .ok (.iconst 2, 1) := by decide +kernel
theorem dL_law_599 : decode cL_law 599 = .ok (.iadd, 1) := by decide +kernel
theorem dL_law_600 : decode cL_law 600 = .ok (.iaload, 1) := by decide +kernel
theorem dL_law_601 : decode cL_law 601 = .ok (.invokevirtual 71, 3) := by decide +kernel
theorem dL_law_604 : decode cL_law 604 = .ok (.if_icmp .eq 502, 3) := by decide +kernel
theorem dL_law_607 : decode cL_law 607 = .ok (.iconst 0, 1) := by decide +kernel
theorem dL_law_608 : decode cL_law 608 = .ok (.ireturn, 1) := by decide +kernel
theorem dL_law_609 : decode cL_law 609 = .ok (.aload_n 1, 1) := by decide +kernel
theorem dL_law_610 : decode cL_law 610 = .ok (.aload_n 0, 1) := by decide +kernel
theorem dL_law_611 : decode cL_law 611 = .ok (.iload_n 3, 1) := by decide +kernel
theorem dL_law_612 : decode cL_law 612 = .ok (.iconst 1, 1) := by decide +kernel
theorem dL_law_613 : decode cL_law 613 = .ok (.iadd, 1) := by decide +kernel
theorem dL_law_614 : decode cL_law 614 = .ok (.iaload, 1) := by decide +kernel
theorem dL_law_615 : decode cL_law 615 = .ok (.aload_n 0, 1) := by decide +kernel
theorem dL_law_616 : decode cL_law 616 = .ok (.iload_n 3, 1) := by decide +kernel
theorem dL_law_617 : decode cL_law 617 = .ok (.iconst 2, 1) := by decide +kernel
theorem dL_law_618 : decode cL_law 618 = .ok (.iadd, 1) := by decide +kernel
theorem dL_law_619 : decode cL_law 619 = .ok (.iaload, 1) := by decide +kernel
theorem dL_law_620 : decode cL_law 620 = .ok (.invokevirtual 72, 3) := by decide +kernel
theorem dL_law_623 : decode cL_law 623 = .ok (.aload_n 2, 1) := by decide +kernel
theorem dL_law_624 : decode cL_law 624 = .ok (.aload_n 0, 1) := by decide +kernel
theorem dL_law_625 : decode cL_law 625 = .ok (.iload_n 3, 1) := by decide +kernel
theorem dL_law_626 : decode cL_law 626 = .ok (.iconst 1, 1) := by decide +kernel
theorem dL_law_627 : decode cL_law 627 = .ok (.iadd, 1) := by decide +kernel
theorem dL_law_628 : decode cL_law 628 = .ok (.iaload, 1) := by decide +kernel
theorem dL_law_629 : decode cL_law 629 = .ok (.aload_n 0, 1) := by decide +kernel
theorem dL_law_630 : decode cL_law 630 = .ok (.iload_n 3, 1) := by decide +kernel
theorem dL_law_631 : decode cL_law 631 = .ok (.iconst 2, 1) := by decide +kernel
theorem dL_law_632 : decode cL_law 632 = .ok (.iadd, 1) := by decide +kernel
theorem dL_law_633 : decode cL_law 633 = .ok (.iaload, 1) := by decide +kernel
theorem dL_law_634 : decode cL_law 634 = .ok (.invokevirtual 75, 3) := by decide +kernel
theorem dL_law_637 : decode cL_law 637 = .ok (.if_icmp .eq 469, 3) := by decide +kernel
theorem dL_law_640 : decode cL_law 640 = .ok (.iconst 0, 1) := by decide +kernel
theorem dL_law_641 : decode cL_law 641 = .ok (.ireturn, 1) := by decide +kernel
theorem dL_law_642 : decode cL_law 642 = .ok (.aload_n 1, 1) := by decide +kernel
theorem dL_law_643 : decode cL_law 643 = .ok (.aload_n 0, 1) := by decide +kernel
theorem dL_law_644 : decode cL_law 644 = .ok (.iload_n 3, 1) := by decide +kernel
theorem dL_law_645 : decode cL_law 645 = .ok (.iconst 1, 1) := by decide +kernel
theorem dL_law_646 : decode cL_law 646 = .ok (.iadd, 1) := by decide +kernel
theorem dL_law_647 : decode cL_law 647 = .ok (.iaload, 1) := by decide +kernel
theorem dL_law_648 : decode cL_law 648 = .ok (.aload_n 0, 1) := by decide +kernel
theorem dL_law_649 : decode cL_law 649 = .ok (.iload_n 3, 1) := by decide +kernel
theorem dL_law_650 : decode cL_law 650 = .ok (.iconst 2, 1) := by decide +kernel
theorem dL_law_651 : decode cL_law 651 = .ok (.iadd, 1) := by decide +kernel
theorem dL_law_652 : decode cL_law 652 = .ok (.iaload, 1) := by decide +kernel
theorem dL_law_653 : decode cL_law 653 = .ok (.invokevirtual 76, 3) := by decide +kernel
theorem dL_law_656 : decode cL_law 656 = .ok (.aload_n 2, 1) := by decide +kernel
theorem dL_law_657 : decode cL_law 657 = .ok (.aload_n 0, 1) := by decide +kernel
theorem dL_law_658 : decode cL_law 658 = .ok (.iload_n 3, 1) := by decide +kernel
theorem dL_law_659 : decode cL_law 659 = .ok (.iconst 1, 1) := by decide +kernel
theorem dL_law_660 : decode cL_law 660 = .ok (.iadd, 1) := by decide +kernel
theorem dL_law_661 : decode cL_law 661 = .ok (.iaload, 1) := by decide +kernel
theorem dL_law_662 : decode cL_law 662 = .ok (.aload_n 0, 1) := by decide +kernel
theorem dL_law_663 : decode cL_law 663 = .ok (.iload_n 3, 1) := by decide +kernel
theorem dL_law_664 : decode cL_law 664 = .ok (.iconst 2, 1) := by decide +kernel
theorem dL_law_665 : decode cL_law 665 = .ok (.iadd, 1) := by decide +kernel
theorem dL_law_666 : decode cL_law 666 = .ok (.iaload, 1) := by decide +kernel
theorem dL_law_667 : decode cL_law 667 = .ok (.invokevirtual 79, 3) := by decide +kernel
theorem dL_law_670 : decode cL_law 670 = .ok (.if_icmp .eq 436, 3) := by decide +kernel
theorem dL_law_673 : decode cL_law 673 = .ok (.iconst 0, 1) := by decide +kernel
theorem dL_law_674 : decode cL_law 674 = .ok (.ireturn, 1) := by decide +kernel
theorem dL_law_675 : decode cL_law 675 = .ok (.aload_n 1, 1) := by decide +kernel
theorem dL_law_676 : decode cL_law 676 = .ok (.aload_n 0, 1) := by decide +kernel
theorem dL_law_677 : decode cL_law 677 = .ok (.iload_n 3, 1) := by decide +kernel
theorem dL_law_678 : decode cL_law 678 = .ok (.iconst 1, 1) := by decide +kernel
theorem dL_law_679 : decode cL_law 679 = .ok (.iadd, 1) := by decide +kernel
theorem dL_law_680 : decode cL_law 680 = .ok (.iaload, 1) := by decide +kernel
theorem dL_law_681 : decode cL_law 681 = .ok (.aload_n 0, 1) := by decide +kernel
theorem dL_law_682 : decode cL_law 682 = .ok (.iload_n 3, 1) := by decide +kernel
theorem dL_law_683 : decode cL_law 683 = .ok (.iconst 2, 1) := by decide +kernel
theorem dL_law_684 : decode cL_law 684 = .ok (.iadd, 1) := by decide +kernel
theorem dL_law_685 : decode cL_law 685 = .ok (.iaload, 1) := by decide +kernel
theorem dL_law_686 : decode cL_law 686 = .ok (.aload_n 0, 1) := by decide +kernel
theorem dL_law_687 : decode cL_law 687 = .ok (.iload_n 3, 1) := by decide +kernel
theorem dL_law_688 : decode cL_law 688 = .ok (.iconst 3, 1) := by decide +kernel
theorem dL_law_689 : decode cL_law 689 = .ok (.iadd, 1) := by decide +kernel
theorem dL_law_690 : decode cL_law 690 = .ok (.iaload, 1) := by decide +kernel
theorem dL_law_691 : decode cL_law 691 = .ok (.invokevirtual 80, 3) := by decide +kernel
theorem dL_law_694 : decode cL_law 694 = .ok (.aload_n 2, 1) := by decide +kernel
theorem dL_law_695 : decode cL_law 695 = .ok (.aload_n 0, 1) := by decide +kernel
theorem dL_law_696 : decode cL_law 696 = .ok (.iload_n 3, 1) := by decide +kernel
theorem dL_law_697 : decode cL_law 697 = .ok (.iconst 1, 1) := by decide +kernel
theorem dL_law_698 : decode cL_law 698 = .ok (.iadd, 1) := by decide +kernel
theorem dL_law_699 : decode cL_law 699 = .ok (.iaload, 1) := by decide +kernel
theorem dL_law_700 : decode cL_law 700 = .ok (.aload_n 0, 1) := by decide +kernel
theorem dL_law_701 : decode cL_law 701 = .ok (.iload_n 3, 1) := by decide +kernel
theorem dL_law_702 : decode cL_law 702 = .ok (.iconst 2, 1) := by decide +kernel
theorem dL_law_703 : decode cL_law 703 = .ok (.iadd, 1) := by decide +kernel
theorem dL_law_704 : decode cL_law 704 = .ok (.iaload, 1) := by decide +kernel
theorem dL_law_705 : decode cL_law 705 = .ok (.aload_n 0, 1) := by decide +kernel
theorem dL_law_706 : decode cL_law 706 = .ok (.iload_n 3, 1) := by decide +kernel
theorem dL_law_707 : decode cL_law 707 = .ok (.iconst 3, 1) := by decide +kernel
theorem dL_law_708 : decode cL_law 708 = .ok (.iadd, 1) := by decide +kernel
theorem dL_law_709 : decode cL_law 709 = .ok (.iaload, 1) := by decide +kernel
theorem dL_law_710 : decode cL_law 710 = .ok (.invokevirtual 84, 3) := by decide +kernel
theorem dL_law_713 : decode cL_law 713 = .ok (.if_icmp .eq 393, 3) := by decide +kernel
theorem dL_law_716 : decode cL_law 716 = .ok (.iconst 0, 1) := by decide +kernel
theorem dL_law_717 : decode cL_law 717 = .ok (.ireturn, 1) := by decide +kernel
theorem dL_law_718 : decode cL_law 718 = .ok (.aload_n 1, 1) := by decide +kernel
theorem dL_law_719 : decode cL_law 719 = .ok (.aload_n 0, 1) := by decide +kernel
theorem dL_law_720 : decode cL_law 720 = .ok (.iload_n 3, 1) := by decide +kernel
theorem dL_law_721 : decode cL_law 721 = .ok (.iconst 1, 1) := by decide +kernel
theorem dL_law_722 : decode cL_law 722 = .ok (.iadd, 1) := by decide +kernel
theorem dL_law_723 : decode cL_law 723 = .ok (.iaload, 1) := by decide +kernel
theorem dL_law_724 : decode cL_law 724 = .ok (.aload_n 0, 1) := by decide +kernel
theorem dL_law_725 : decode cL_law 725 = .ok (.iload_n 3, 1) := by decide +kernel
theorem dL_law_726 : decode cL_law 726 = .ok (.iconst 2, 1) := by decide +kernel
theorem dL_law_727 : decode cL_law 727 = .ok (.iadd, 1) := by decide +kernel
theorem dL_law_728 : decode cL_law 728 = .ok (.iaload, 1) := by decide +kernel
theorem dL_law_729 : decode cL_law 729 = .ok (.invokevirtual 85, 3) := by decide +kernel
theorem dL_law_732 : decode cL_law 732 = .ok (.aload_n 2, 1) := by decide +kernel
theorem dL_law_733 : decode cL_law 733 = .ok (.aload_n 0, 1) := by decide +kernel
theorem dL_law_734 : decode cL_law 734 = .ok (.iload_n 3, 1) := by decide +kernel
theorem dL_law_735 : decode cL_law 735 = .ok (.iconst 1, 1) := by decide +kernel
theorem dL_law_736 : decode cL_law 736 = .ok (.iadd, 1) := by decide +kernel
theorem dL_law_737 : decode cL_law 737 = .ok (.iaload, 1) := by decide +kernel
theorem dL_law_738 : decode cL_law 738 = .ok (.aload_n 0, 1) := by decide +kernel
theorem dL_law_739 : decode cL_law 739 = .ok (.iload_n 3, 1) := by decide +kernel
theorem dL_law_740 : decode cL_law 740 = .ok (.iconst 2, 1) := by decide +kernel
theorem dL_law_741 : decode cL_law 741 = .ok (.iadd, 1) := by decide +kernel
theorem dL_law_742 : decode cL_law 742 = .ok (.iaload, 1) := by decide +kernel
theorem dL_law_743 : decode cL_law 743 = .ok (.invokevirtual 88, 3) := by decide +kernel
theorem dL_law_746 : decode cL_law 746 = .ok (.if_icmp .eq 360, 3) := by decide +kernel
theorem dL_law_749 : decode cL_law 749 = .ok (.iconst 0, 1) := by decide +kernel
theorem dL_law_750 : decode cL_law 750 = .ok (.ireturn, 1) := by decide +kernel
theorem dL_law_751 : decode cL_law 751 = .ok (.aload_n 1, 1) := by decide +kernel
theorem dL_law_752 : decode cL_law 752 = .ok (.aload_n 0, 1) := by decide +kernel
theorem dL_law_753 : decode cL_law 753 = .ok (.iload_n 3, 1) := by decide +kernel
theorem dL_law_754 : decode cL_law 754 = .ok (.iconst 1, 1) := by decide +kernel
theorem dL_law_755 : decode cL_law 755 = .ok (.iadd, 1) := by decide +kernel
theorem dL_law_756 : decode cL_law 756 = .ok (.iaload, 1) := by decide +kernel
theorem dL_law_757 : decode cL_law 757 = .ok (.aload_n 0, 1) := by decide +kernel
theorem dL_law_758 : decode cL_law 758 = .ok (.iload_n 3, 1) := by decide +kernel
theorem dL_law_759 : decode cL_law 759 = .ok (.iconst 2, 1) := by decide +kernel
theorem dL_law_760 : decode cL_law 760 = .ok (.iadd, 1) := by decide +kernel
theorem dL_law_761 : decode cL_law 761 = .ok (.iaload, 1) := by decide +kernel
theorem dL_law_762 : decode cL_law 762 = .ok (.aload_n 0, 1) := by decide +kernel
theorem dL_law_763 : decode cL_law 763 = .ok (.iload_n 3, 1) := by decide +kernel
theorem dL_law_764 : decode cL_law 764 = .ok (.iconst 3, 1) := by decide +kernel
theorem dL_law_765 : decode cL_law 765 = .ok (.iadd, 1) := by decide +kernel
theorem dL_law_766 : decode cL_law 766 = .ok (.iaload, 1) := by decide +kernel
theorem dL_law_767 : decode cL_law 767 = .ok (.invokevirtual 89, 3) := by decide +kernel
theorem dL_law_770 : decode cL_law 770 = .ok (.aload_n 2, 1) := by decide +kernel
theorem dL_law_771 : decode cL_law 771 = .ok (.aload_n 0, 1) := by decide +kernel
theorem dL_law_772 : decode cL_law 772 = .ok (.iload_n 3, 1) := by decide +kernel
theorem dL_law_773 : decode cL_law 773 = .ok (.iconst 1, 1) := by decide +kernel
theorem dL_law_774 : decode cL_law 774 = .ok (.iadd, 1) := by decide +kernel
theorem dL_law_775 : decode cL_law 775 = .ok (.iaload, 1) := by decide +kernel
theorem dL_law_776 : decode cL_law 776 = .ok (.aload_n 0, 1) := by decide +kernel
theorem dL_law_777 : decode cL_law 777 = .ok (.iload_n 3, 1) := by decide +kernel
theorem dL_law_778 : decode cL_law 778 = .ok (.iconst 2, 1) := by decide +kernel
theorem dL_law_779 : decode cL_law 779 = .ok (.iadd, 1) := by decide +kernel
theorem dL_law_780 : decode cL_law 780 = .ok (.iaload, 1) := by decide +kernel
theorem dL_law_781 : decode cL_law 781 = .ok (.aload_n 0, 1) := by decide +kernel
theorem dL_law_782 : decode cL_law 782 = .ok (.iload_n 3, 1) := by decide +kernel
theorem dL_law_783 : decode cL_law 783 = .ok (.iconst 3, 1) := by decide +kernel
theorem dL_law_784 : decode cL_law 784 = .ok (.iadd, 1) := by decide +kernel
theorem dL_law_785 : decode cL_law 785 = .ok (.iaload, 1) := by decide +kernel
theorem dL_law_786 : decode cL_law 786 = .ok (.invokevirtual 92, 3) := by decide +kernel
theorem dL_law_789 : decode cL_law 789 = .ok (.if_icmp .eq 317, 3) := by decide +kernel
theorem dL_law_792 : decode cL_law 792 = .ok (.iconst 0, 1) := by decide +kernel
theorem dL_law_793 : decode cL_law 793 = .ok (.ireturn, 1) := by decide +kernel
theorem dL_law_794 : decode cL_law 794 = .ok (.aload_n 1, 1) := by decide +kernel
theorem dL_law_795 : decode cL_law 795 = .ok (.aload_n 0, 1) := by decide +kernel
theorem dL_law_796 : decode cL_law 796 = .ok (.iload_n 3, 1) := by decide +kernel
theorem dL_law_797 : decode cL_law 797 = .ok (.iconst 1, 1) := by decide +kernel
theorem dL_law_798 : decode cL_law 798 = .ok (.iadd, 1) := by decide +kernel
theorem dL_law_799 : decode cL_law 799 = .ok (.iaload, 1) := by decide +kernel
theorem dL_law_800 : decode cL_law 800 = .ok (.aload_n 0, 1) := by decide +kernel
theorem dL_law_801 : decode cL_law 801 = .ok (.iload_n 3, 1) := by decide +kernel
theorem dL_law_802 : decode cL_law 802 = .ok (.iconst 2, 1) := by decide +kernel
theorem dL_law_803 : decode cL_law 803 = .ok (.iadd, 1) := by decide +kernel
theorem dL_law_804 : decode cL_law 804 = .ok (.iaload, 1) := by decide +kernel
theorem dL_law_805 : decode cL_law 805 = .ok (.aload_n 0, 1) := by decide +kernel
theorem dL_law_806 : decode cL_law 806 = .ok (.iload_n 3, 1) := by decide +kernel
theorem dL_law_807 : decode cL_law 807 = .ok (.iconst 3, 1) := by decide +kernel
theorem dL_law_808 : decode cL_law 808 = .ok (.iadd, 1) := by decide +kernel
theorem dL_law_809 : decode cL_law 809 = .ok (.iaload, 1) := by decide +kernel
theorem dL_law_810 : decode cL_law 810 = .ok (.aload_n 0, 1) := by decide +kernel
theorem dL_law_811 : decode cL_law 811 = .ok (.iload_n 3, 1) := by decide +kernel
theorem dL_law_812 : decode cL_law 812 = .ok (.iconst 4, 1) := by decide +kernel
theorem dL_law_813 : decode cL_law 813 = .ok (.iadd, 1) := by decide +kernel
theorem dL_law_814 : decode cL_law 814 = .ok (.iaload, 1) := by decide +kernel
theorem dL_law_815 : decode cL_law 815 = .ok (.invokevirtual 93, 3) := by decide +kernel
theorem dL_law_818 : decode cL_law 818 = .ok (.aload_n 2, 1) := by decide +kernel
theorem dL_law_819 : decode cL_law 819 = .ok (.aload_n 0, 1) := by decide +kernel
theorem dL_law_820 : decode cL_law 820 = .ok (.iload_n 3, 1) := by decide +kernel
theorem dL_law_821 : decode cL_law 821 = .ok (.iconst 1, 1) := by decide +kernel
theorem dL_law_822 : decode cL_law 822 = .ok (.iadd, 1) := by decide +kernel
theorem dL_law_823 : decode cL_law 823 = .ok (.iaload, 1) := by decide +kernel
theorem dL_law_824 : decode cL_law 824 = .ok (.aload_n 0, 1) := by decide +kernel
theorem dL_law_825 : decode cL_law 825 = .ok (.iload_n 3, 1) := by decide +kernel
theorem dL_law_826 : decode cL_law 826 = .ok (.iconst 2, 1) := by decide +kernel
theorem dL_law_827 : decode cL_law 827 = .ok (.iadd, 1) := by decide +kernel
theorem dL_law_828 : decode cL_law 828 = .ok (.iaload, 1) := by decide +kernel
theorem dL_law_829 : decode cL_law 829 = .ok (.aload_n 0, 1) := by decide +kernel
theorem dL_law_830 : decode cL_law 830 = .ok (.iload_n 3, 1) := by decide +kernel
theorem dL_law_831 : decode cL_law 831 = .ok (.iconst 3, 1) := by decide +kernel
theorem dL_law_832 : decode cL_law 832 = .ok (.iadd, 1) := by decide +kernel
theorem dL_law_833 : decode cL_law 833 = .ok (.iaload, 1) := by decide +kernel
theorem dL_law_834 : decode cL_law 834 = .ok (.aload_n 0, 1) := by decide +kernel
theorem dL_law_835 : decode cL_law 835 = .ok (.iload_n 3, 1) := by decide +kernel
theorem dL_law_836 : decode cL_law 836 = .ok (.iconst 4, 1) := by decide +kernel
theorem dL_law_837 : decode cL_law 837 = .ok (.iadd, 1) := by decide +kernel
theorem dL_law_838 : decode cL_law 838 = .ok (.iaload, 1) := by decide +kernel
theorem dL_law_839 : decode cL_law 839 = .ok (.invokevirtual 96, 3) := by decide +kernel
theorem dL_law_842 : decode cL_law 842 = .ok (.if_icmp .eq 264, 3) := by decide +kernel
theorem dL_law_845 : decode cL_law 845 = .ok (.iconst 0, 1) := by decide +kernel
theorem dL_law_846 : decode cL_law 846 = .ok (.ireturn, 1) := by decide +kernel
theorem dL_law_847 : decode cL_law 847 = .ok (.aload_n 1, 1) := by decide +kernel
theorem dL_law_848 : decode cL_law 848 = .ok (.aload_n 0, 1) := by decide +kernel
theorem dL_law_849 : decode cL_law 849 = .ok (.iload_n 3, 1) := by decide +kernel
theorem dL_law_850 : decode cL_law 850 = .ok (.iconst 1, 1) := by decide +kernel
theorem dL_law_851 : decode cL_law 851 = .ok (.iadd, 1) := by decide +kernel
theorem dL_law_852 : decode cL_law 852 = .ok (.iaload, 1) := by decide +kernel
theorem dL_law_853 : decode cL_law 853 = .ok (.invokevirtual 97, 3) := by decide +kernel
theorem dL_law_856 : decode cL_law 856 = .ok (.aload_n 2, 1) := by decide +kernel
theorem dL_law_857 : decode cL_law 857 = .ok (.aload_n 0, 1) := by decide +kernel
theorem dL_law_858 : decode cL_law 858 = .ok (.iload_n 3, 1) := by decide +kernel
theorem dL_law_859 : decode cL_law 859 = .ok (.iconst 1, 1) := by decide +kernel
theorem dL_law_860 : decode cL_law 860 = .ok (.iadd, 1) := by decide +kernel
theorem dL_law_861 : decode cL_law 861 = .ok (.iaload, 1) := by decide +kernel
theorem dL_law_862 : decode cL_law 862 = .ok (.invokevirtual 100, 3) := by decide +kernel
theorem dL_law_865 : decode cL_law 865 = .ok (.if_icmp .eq 241, 3) := by decide +kernel
theorem dL_law_868 : decode cL_law 868 = .ok (.iconst 0, 1) := by decide +kernel
theorem dL_law_869 : decode cL_law 869 = .ok (.ireturn, 1) := by decide +kernel
theorem dL_law_870 : decode cL_law 870 = .ok (.aload_n 1, 1) := by decide +kernel
theorem dL_law_871 : decode cL_law 871 = .ok (.aload_n 0, 1) := by decide +kernel
theorem dL_law_872 : decode cL_law 872 = .ok (.iload_n 3, 1) := by decide +kernel
theorem dL_law_873 : decode cL_law 873 = .ok (.iconst 1, 1) := by decide +kernel
theorem dL_law_874 : decode cL_law 874 = .ok (.iadd, 1) := by decide +kernel
theorem dL_law_875 : decode cL_law 875 = .ok (.iaload, 1) := by decide +kernel
theorem dL_law_876 : decode cL_law 876 = .ok (.invokevirtual 101, 3) := by decide +kernel
theorem dL_law_879 : decode cL_law 879 = .ok (.aload_n 2, 1) := by decide +kernel
theorem dL_law_880 : decode cL_law 880 = .ok (.aload_n 0, 1) := by decide +kernel
theorem dL_law_881 : decode cL_law 881 = .ok (.iload_n 3, 1) := by decide +kernel
theorem dL_law_882 : decode cL_law 882 = .ok (.iconst 1, 1) := by decide +kernel
theorem dL_law_883 : decode cL_law 883 = .ok (.iadd, 1) := by decide +kernel
theorem dL_law_884 : decode cL_law 884 = .ok (.iaload, 1) := by decide +kernel
theorem dL_law_885 : decode cL_law 885 = .ok (.invokevirtual 104, 3) := by decide +kernel
theorem dL_law_888 : decode cL_law 888 = .ok (.if_icmp .eq 218, 3) := by decide +kernel
theorem dL_law_891 : decode cL_law 891 = .ok (.iconst 0, 1) := by decide +kernel
theorem dL_law_892 : decode cL_law 892 = .ok (.ireturn, 1) := by decide +kernel
theorem dL_law_893 : decode cL_law 893 = .ok (.aload_n 1, 1) := by decide +kernel
theorem dL_law_894 : decode cL_law 894 = .ok (.aload_n 0, 1) := by decide +kernel
theorem dL_law_895 : decode cL_law 895 = .ok (.iload_n 3, 1) := by decide +kernel
theorem dL_law_896 : decode cL_law 896 = .ok (.iconst 1, 1) := by decide +kernel
theorem dL_law_897 : decode cL_law 897 = .ok (.iadd, 1) := by decide +kernel
theorem dL_law_898 : decode cL_law 898 = .ok (.iaload, 1) := by decide +kernel
theorem dL_law_899 : decode cL_law 899 = .ok (.aload_n 0, 1) := by decide +kernel
theorem dL_law_900 : decode cL_law 900 = .ok (.iload_n 3, 1) := by decide +kernel
theorem dL_law_901 : decode cL_law 901 = .ok (.iconst 2, 1) := by decide +kernel
theorem dL_law_902 : decode cL_law 902 = .ok (.iadd, 1) := by decide +kernel
theorem dL_law_903 : decode cL_law 903 = .ok (.iaload, 1) := by decide +kernel
theorem dL_law_904 : decode cL_law 904 = .ok (.aload_n 0, 1) := by decide +kernel
theorem dL_law_905 : decode cL_law 905 = .ok (.iload_n 3, 1) := by decide +kernel
theorem dL_law_906 : decode cL_law 906 = .ok (.iconst 3, 1) := by decide +kernel
theorem dL_law_907 : decode cL_law 907 = .ok (.iadd, 1) := by decide +kernel
theorem dL_law_908 : decode cL_law 908 = .ok (.iaload, 1) := by decide +kernel
theorem dL_law_909 : decode cL_law 909 = .ok (.invokevirtual 105, 3) := by decide +kernel
theorem dL_law_912 : decode cL_law 912 = .ok (.aload_n 2, 1) := by decide +kernel
theorem dL_law_913 : decode cL_law 913 = .ok (.aload_n 0, 1) := by decide +kernel
theorem dL_law_914 : decode cL_law 914 = .ok (.iload_n 3, 1) := by decide +kernel
theorem dL_law_915 : decode cL_law 915 = .ok (.iconst 1, 1) := by decide +kernel
theorem dL_law_916 : decode cL_law 916 = .ok (.iadd, 1) := by decide +kernel
theorem dL_law_917 : decode cL_law 917 = .ok (.iaload, 1) := by decide +kernel
theorem dL_law_918 : decode cL_law 918 = .ok (.aload_n 0, 1) := by decide +kernel
theorem dL_law_919 : decode cL_law 919 = .ok (.iload_n 3, 1) := by decide +kernel
theorem dL_law_920 : decode cL_law 920 = .ok (.iconst 2, 1) := by decide +kernel
theorem dL_law_921 : decode cL_law 921 = .ok (.iadd, 1) := by decide +kernel
theorem dL_law_922 : decode cL_law 922 = .ok (.iaload, 1) := by decide +kernel
theorem dL_law_923 : decode cL_law 923 = .ok (.aload_n 0, 1) := by decide +kernel
theorem dL_law_924 : decode cL_law 924 = .ok (.iload_n 3, 1) := by decide +kernel
theorem dL_law_925 : decode cL_law 925 = .ok (.iconst 3, 1) := by decide +kernel
theorem dL_law_926 : decode cL_law 926 = .ok (.iadd, 1) := by decide +kernel
theorem dL_law_927 : decode cL_law 927 = .ok (.iaload, 1) := by decide +kernel
theorem dL_law_928 : decode cL_law 928 = .ok (.invokevirtual 108, 3) := by decide +kernel
theorem dL_law_931 : decode cL_law 931 = .ok (.if_icmp .eq 175, 3) := by decide +kernel
theorem dL_law_934 : decode cL_law 934 = .ok (.iconst 0, 1) := by decide +kernel
theorem dL_law_935 : decode cL_law 935 = .ok (.ireturn, 1) := by decide +kernel
theorem dL_law_936 : decode cL_law 936 = .ok (.aload_n 1, 1) := by decide +kernel
theorem dL_law_937 : decode cL_law 937 = .ok (.aload_n 0, 1) := by decide +kernel
theorem dL_law_938 : decode cL_law 938 = .ok (.iload_n 3, 1) := by decide +kernel
theorem dL_law_939 : decode cL_law 939 = .ok (.iconst 1, 1) := by decide +kernel
theorem dL_law_940 : decode cL_law 940 = .ok (.iadd, 1) := by decide +kernel
theorem dL_law_941 : decode cL_law 941 = .ok (.iaload, 1) := by decide +kernel
theorem dL_law_942 : decode cL_law 942 = .ok (.aload_n 0, 1) := by decide +kernel
theorem dL_law_943 : decode cL_law 943 = .ok (.iload_n 3, 1) := by decide +kernel
theorem dL_law_944 : decode cL_law 944 = .ok (.iconst 2, 1) := by decide +kernel
theorem dL_law_945 : decode cL_law 945 = .ok (.iadd, 1) := by decide +kernel
theorem dL_law_946 : decode cL_law 946 = .ok (.iaload, 1) := by decide +kernel
theorem dL_law_947 : decode cL_law 947 = .ok (.aload_n 0, 1) := by decide +kernel
theorem dL_law_948 : decode cL_law 948 = .ok (.iload_n 3, 1) := by decide +kernel
theorem dL_law_949 : decode cL_law 949 = .ok (.iconst 3, 1) := by decide +kernel
theorem dL_law_950 : decode cL_law 950 = .ok (.iadd, 1) := by decide +kernel
theorem dL_law_951 : decode cL_law 951 = .ok (.iaload, 1) := by decide +kernel
theorem dL_law_952 : decode cL_law 952 = .ok (.aload_n 0, 1) := by decide +kernel
theorem dL_law_953 : decode cL_law 953 = .ok (.iload_n 3, 1) := by decide +kernel
theorem dL_law_954 : decode cL_law 954 = .ok (.iconst 4, 1) := by decide +kernel
theorem dL_law_955 : decode cL_law 955 = .ok (.iadd, 1) := by decide +kernel
theorem dL_law_956 : decode cL_law 956 = .ok (.iaload, 1) := by decide +kernel
theorem dL_law_957 : decode cL_law 957 = .ok (.invokevirtual 109, 3) := by decide +kernel
theorem dL_law_960 : decode cL_law 960 = .ok (.aload_n 2, 1) := by decide +kernel
theorem dL_law_961 : decode cL_law 961 = .ok (.aload_n 0, 1) := by decide +kernel
theorem dL_law_962 : decode cL_law 962 = .ok (.iload_n 3, 1) := by decide +kernel
theorem dL_law_963 : decode cL_law 963 = .ok (.iconst 1, 1) := by decide +kernel
theorem dL_law_964 : decode cL_law 964 = .ok (.iadd, 1) := by decide +kernel
theorem dL_law_965 : decode cL_law 965 = .ok (.iaload, 1) := by decide +kernel
theorem dL_law_966 : decode cL_law 966 = .ok (.aload_n 0, 1) := by decide +kernel
theorem dL_law_967 : decode cL_law 967 = .ok (.iload_n 3, 1) := by decide +kernel
theorem dL_law_968 : decode cL_law 968 = .ok (.iconst 2, 1) := by decide +kernel
theorem dL_law_969 : decode cL_law 969 = .ok (.iadd, 1) := by decide +kernel
theorem dL_law_970 : decode cL_law 970 = .ok (.iaload, 1) := by decide +kernel
theorem dL_law_971 : decode cL_law 971 = .ok (.aload_n 0, 1) := by decide +kernel
theorem dL_law_972 : decode cL_law 972 = .ok (.iload_n 3, 1) := by decide +kernel
theorem dL_law_973 : decode cL_law 973 = .ok (.iconst 3, 1) := by decide +kernel
theorem dL_law_974 : decode cL_law 974 = .ok (.iadd, 1) := by decide +kernel
theorem dL_law_975 : decode cL_law 975 = .ok (.iaload, 1) := by decide +kernel
theorem dL_law_976 : decode cL_law 976 = .ok (.aload_n 0, 1) := by decide +kernel
theorem dL_law_977 : decode cL_law 977 = .ok (.iload_n 3, 1) := by decide +kernel
theorem dL_law_978 : decode cL_law 978 = .ok (.iconst 4, 1) := by decide +kernel
theorem dL_law_979 : decode cL_law 979 = .ok (.iadd, 1) := by decide +kernel
theorem dL_law_980 : decode cL_law 980 = .ok (.iaload, 1) := by decide +kernel
theorem dL_law_981 : decode cL_law 981 = .ok (.invokevirtual 113, 3) := by decide +kernel
theorem dL_law_984 : decode cL_law 984 = .ok (.lcmp, 1) := by decide +kernel
theorem dL_law_985 : decode cL_law 985 = .ok (.ifCond .eq 121, 3) := by decide +kernel
theorem dL_law_988 : decode cL_law 988 = .ok (.iconst 0, 1) := by decide +kernel
theorem dL_law_989 : decode cL_law 989 = .ok (.ireturn, 1) := by decide +kernel
theorem dL_law_990 : decode cL_law 990 = .ok (.aload_n 1, 1) := by decide +kernel
theorem dL_law_991 : decode cL_law 991 = .ok (.aload_n 0, 1) := by decide +kernel
theorem dL_law_992 : decode cL_law 992 = .ok (.iload_n 3, 1) := by decide +kernel
theorem dL_law_993 : decode cL_law 993 = .ok (.iconst 1, 1) := by decide +kernel
theorem dL_law_994 : decode cL_law 994 = .ok (.iadd, 1) := by decide +kernel
theorem dL_law_995 : decode cL_law 995 = .ok (.iaload, 1) := by decide +kernel
theorem dL_law_996 : decode cL_law 996 = .ok (.aload_n 0, 1) := by decide +kernel
theorem dL_law_997 : decode cL_law 997 = .ok (.iload_n 3, 1) := by decide +kernel
theorem dL_law_998 : decode cL_law 998 = .ok (.iconst 2, 1) := by decide +kernel
theorem dL_law_999 : decode cL_law 999 = .ok (.iadd, 1) := by decide +kernel
theorem dL_law_1000 : decode cL_law 1000 = .ok (.iaload, 1) := by decide +kernel
theorem dL_law_1001 : decode cL_law 1001 = .ok (.invokevirtual 114, 3) := by decide +kernel
theorem dL_law_1004 : decode cL_law 1004 = .ok (.aload_n 2, 1) := by decide +kernel
theorem dL_law_1005 : decode cL_law 1005 = .ok (.aload_n 0, 1) := by decide +kernel
theorem dL_law_1006 : decode cL_law 1006 = .ok (.iload_n 3, 1) := by decide +kernel
theorem dL_law_1007 : decode cL_law 1007 = .ok (.iconst 1, 1) := by decide +kernel
theorem dL_law_1008 : decode cL_law 1008 = .ok (.iadd, 1) := by decide +kernel
theorem dL_law_1009 : decode cL_law 1009 = .ok (.iaload, 1) := by decide +kernel
theorem dL_law_1010 : decode cL_law 1010 = .ok (.aload_n 0, 1) := by decide +kernel
theorem dL_law_1011 : decode cL_law 1011 = .ok (.iload_n 3, 1) := by decide +kernel
theorem dL_law_1012 : decode cL_law 1012 = .ok (.iconst 2, 1) := by decide +kernel
theorem dL_law_1013 : decode cL_law 1013 = .ok (.iadd, 1) := by decide +kernel
theorem dL_law_1014 : decode cL_law 1014 = .ok (.iaload, 1) := by decide +kernel
theorem dL_law_1015 : decode cL_law 1015 = .ok (.invokevirtual 117, 3) := by decide +kernel
theorem dL_law_1018 : decode cL_law 1018 = .ok (.if_icmp .eq 88, 3) := by decide +kernel
theorem dL_law_1021 : decode cL_law 1021 = .ok (.iconst 0, 1) := by decide +kernel
theorem dL_law_1022 : decode cL_law 1022 = .ok (.ireturn, 1) := by decide +kernel
theorem dL_law_1023 : decode cL_law 1023 = .ok (.aload_n 1, 1) := by decide +kernel
theorem dL_law_1024 : decode cL_law 1024 = .ok (.aload_n 0, 1) := by decide +kernel
theorem dL_law_1025 : decode cL_law 1025 = .ok (.iload_n 3, 1) := by decide +kernel
theorem dL_law_1026 : decode cL_law 1026 = .ok (.iconst 1, 1) := by decide +kernel
theorem dL_law_1027 : decode cL_law 1027 = .ok (.iadd, 1) := by decide +kernel
theorem dL_law_1028 : decode cL_law 1028 = .ok (.iaload, 1) := by decide +kernel
theorem dL_law_1029 : decode cL_law 1029 = .ok (.invokevirtual 118, 3) := by decide +kernel
theorem dL_law_1032 : decode cL_law 1032 = .ok (.aload_n 2, 1) := by decide +kernel
theorem dL_law_1033 : decode cL_law 1033 = .ok (.aload_n 0, 1) := by decide +kernel
theorem dL_law_1034 : decode cL_law 1034 = .ok (.iload_n 3, 1) := by decide +kernel
theorem dL_law_1035 : decode cL_law 1035 = .ok (.iconst 1, 1) := by decide +kernel
theorem dL_law_1036 : decode cL_law 1036 = .ok (.iadd, 1) := by decide +kernel
theorem dL_law_1037 : decode cL_law 1037 = .ok (.iaload, 1) := by decide +kernel
theorem dL_law_1038 : decode cL_law 1038 = .ok (.invokevirtual 121, 3) := by decide +kernel
theorem dL_law_1041 : decode cL_law 1041 = .ok (.if_icmp .eq 65, 3) := by decide +kernel
theorem dL_law_1044 : decode cL_law 1044 = .ok (.iconst 0, 1) := by decide +kernel
theorem dL_law_1045 : decode cL_law 1045 = .ok (.ireturn, 1) := by decide +kernel
theorem dL_law_1046 : decode cL_law 1046 = .ok (.aload_n 1, 1) := by decide +kernel
theorem dL_law_1047 : decode cL_law 1047 = .ok (.aload_n 0, 1) := by decide +kernel
theorem dL_law_1048 : decode cL_law 1048 = .ok (.iload_n 3, 1) := by decide +kernel
theorem dL_law_1049 : decode cL_law 1049 = .ok (.iconst 1, 1) := by decide +kernel
theorem dL_law_1050 : decode cL_law 1050 = .ok (.iadd, 1) := by decide +kernel
theorem dL_law_1051 : decode cL_law 1051 = .ok (.iaload, 1) := by decide +kernel
theorem dL_law_1052 : decode cL_law 1052 = .ok (.invokevirtual 122, 3) := by decide +kernel
theorem dL_law_1055 : decode cL_law 1055 = .ok (.aload_n 2, 1) := by decide +kernel
theorem dL_law_1056 : decode cL_law 1056 = .ok (.aload_n 0, 1) := by decide +kernel
theorem dL_law_1057 : decode cL_law 1057 = .ok (.iload_n 3, 1) := by decide +kernel
theorem dL_law_1058 : decode cL_law 1058 = .ok (.iconst 1, 1) := by decide +kernel
theorem dL_law_1059 : decode cL_law 1059 = .ok (.iadd, 1) := by decide +kernel
theorem dL_law_1060 : decode cL_law 1060 = .ok (.iaload, 1) := by decide +kernel
theorem dL_law_1061 : decode cL_law 1061 = .ok (.invokevirtual 125, 3) := by decide +kernel
theorem dL_law_1064 : decode cL_law 1064 = .ok (.if_icmp .eq 42, 3) := by decide +kernel
theorem dL_law_1067 : decode cL_law 1067 = .ok (.iconst 0, 1) := by decide +kernel
theorem dL_law_1068 : decode cL_law 1068 = .ok (.ireturn, 1) := by decide +kernel
theorem dL_law_1069 : decode cL_law 1069 = .ok (.aload_n 1, 1) := by decide +kernel
theorem dL_law_1070 : decode cL_law 1070 = .ok (.aload_n 0, 1) := by decide +kernel
theorem dL_law_1071 : decode cL_law 1071 = .ok (.iload_n 3, 1) := by decide +kernel
theorem dL_law_1072 : decode cL_law 1072 = .ok (.iconst 1, 1) := by decide +kernel
theorem dL_law_1073 : decode cL_law 1073 = .ok (.iadd, 1) := by decide +kernel
theorem dL_law_1074 : decode cL_law 1074 = .ok (.iaload, 1) := by decide +kernel
theorem dL_law_1075 : decode cL_law 1075 = .ok (.invokevirtual 126, 3) := by decide +kernel
theorem dL_law_1078 : decode cL_law 1078 = .ok (.aload_n 2, 1) := by decide +kernel
theorem dL_law_1079 : decode cL_law 1079 = .ok (.aload_n 0, 1) := by decide +kernel
theorem dL_law_1080 : decode cL_law 1080 = .ok (.iload_n 3, 1) := by decide +kernel
theorem dL_law_1081 : decode cL_law 1081 = .ok (.iconst 1, 1) := by decide +kernel
theorem dL_law_1082 : decode cL_law 1082 = .ok (.iadd, 1) := by decide +kernel
theorem dL_law_1083 : decode cL_law 1083 = .ok (.iaload, 1) := by decide +kernel
theorem dL_law_1084 : decode cL_law 1084 = .ok (.invokevirtual 129, 3) := by decide +kernel
theorem dL_law_1087 : decode cL_law 1087 = .ok (.if_icmp .eq 19, 3) := by decide +kernel
theorem dL_law_1090 : decode cL_law 1090 = .ok (.iconst 0, 1) := by decide +kernel
theorem dL_law_1091 : decode cL_law 1091 = .ok (.ireturn, 1) := by decide +kernel
theorem dL_law_1092 : decode cL_law 1092 = .ok (.aload_n 1, 1) := by decide +kernel
theorem dL_law_1093 : decode cL_law 1093 = .ok (.invokevirtual 130, 3) := by decide +kernel
theorem dL_law_1096 : decode cL_law 1096 = .ok (.aload_n 2, 1) := by decide +kernel
theorem dL_law_1097 : decode cL_law 1097 = .ok (.invokevirtual 134, 3) := by decide +kernel
theorem dL_law_1100 : decode cL_law 1100 = .ok (.lcmp, 1) := by decide +kernel
theorem dL_law_1101 : decode cL_law 1101 = .ok (.ifCond .eq 5, 3) := by decide +kernel
theorem dL_law_1104 : decode cL_law 1104 = .ok (.iconst 0, 1) := by decide +kernel
theorem dL_law_1105 : decode cL_law 1105 = .ok (.ireturn, 1) := by decide +kernel
theorem dL_law_1106 : decode cL_law 1106 = .ok (.iinc 3 5, 3) := by decide +kernel
theorem dL_law_1109 : decode cL_law 1109 = .ok (.goto (-1091), 3) := by decide +kernel
theorem dL_law_1112 : decode cL_law 1112 = .ok (.iconst 1, 1) := by decide +kernel
theorem dL_law_1113 : decode cL_law 1113 = .ok (.ireturn, 1) := by decide +kernel
abbrev vwCl : List vw_C := [(RX0, TX0, 6), (RX1, TX1, 3), (RX2, TX2, 2), (RX3, TX3, 2), (RX4, TX4, 5), (RX7, TX7, 5), (RX8, TX8, 5), (RX9, TX9, 5), (RX10, TX10, 4), (RX11, TX11, 12), (RX12, TX12, 38)]

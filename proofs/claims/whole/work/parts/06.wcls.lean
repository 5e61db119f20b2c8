def tX0 : u_T := fun k => match k with
  | 0 => ("LabourExchange$Act", "code", "[I", true)
  | 1 => ("LabourExchange$Act", "length", "I", false)
  | 2 => ("LabourExchange$Act", "params", "[I", true)
  | 3 => ("LabourExchange$Act", "insured", "I", false)
  | 4 => ("LabourExchange$Act", "pay", "I", false)
  | 5 => ("LabourExchange$Act", "needy", "I", false)
  | 6 => ("LabourExchange$Act", "bar", "I", false)
  | 7 => ("LabourExchange$Act", "suits", "[I", true)
  | 8 => ("LabourExchange$Act", "suitCount", "I", false)
  | 9 => ("LabourExchange$Act", "likes", "[I", true)
  | 10 => ("LabourExchange$Act", "likeDays", "[I", true)
  | 11 => ("LabourExchange$Act", "likeCount", "I", false)
  | 12 => ("LabourExchange$Act", "from", "I", false)
  | 13 => ("LabourExchange$Act", "to", "I", false)
  | _ => ("LabourExchange$Act", "told", "I", false)
def tyX0 : Nat → FieldType := fun k => match k with
  | 0 => .array (.int)
  | 1 => .int
  | 2 => .array (.int)
  | 3 => .int
  | 4 => .int
  | 5 => .int
  | 6 => .int
  | 7 => .array (.int)
  | 8 => .int
  | 9 => .array (.int)
  | 10 => .array (.int)
  | 11 => .int
  | 12 => .int
  | 13 => .int
  | _ => .int
theorem nmX0 : ∀ a, a < 15 → ∀ b, b < 15 → a ≠ b → (tX0 a).2.1 ≠ (tX0 b).2.1 := by decide +kernel
theorem tyX0_ok : ∀ k, k < 15 → parseFieldDescriptor (tX0 k).2.2.1 = some (tyX0 k) := by decide +kernel
theorem inX0 : ∀ w ∈ u_ws "LabourExchange$Act" tX0 15, w ∈ TB := by
  have h : ∀ k, k < 15 → lw_tbl[([586, 588, 590, 592, 594, 596, 598, 600, 602, 604, 606, 608, 610, 612, 614] : List Nat).getD k 0]? = some (u_lay "LabourExchange$Act" tX0 k) ∧ goodWord (u_lay "LabourExchange$Act" tX0 k) = true := by decide +kernel
  intro w hw
  obtain ⟨k, hk, rfl⟩ := List.mem_map.mp hw
  exact tb_of _ (h k (List.mem_range.mp hk)).1 (h k (List.mem_range.mp hk)).2
def tX1 : u_T := fun k => match k with
  | 0 => ("LabourExchange$Books", "rows", "[B", true)
  | 1 => ("LabourExchange$Books", "rowPerson", "[I", true)
  | 2 => ("LabourExchange$Books", "rowYear", "[I", true)
  | 3 => ("LabourExchange$Books", "rowLength", "[I", true)
  | 4 => ("LabourExchange$Books", "rowTold", "[I", true)
  | 5 => ("LabourExchange$Books", "rowCount", "I", false)
  | 6 => ("LabourExchange$Books", "returnPerson", "[I", true)
  | 7 => ("LabourExchange$Books", "returnWeek", "[I", true)
  | 8 => ("LabourExchange$Books", "returnDays", "[I", true)
  | 9 => ("LabourExchange$Books", "returnTold", "[I", true)
  | _ => ("LabourExchange$Books", "returnCount", "I", false)
def tyX1 : Nat → FieldType := fun k => match k with
  | 0 => .array (.byte)
  | 1 => .array (.int)
  | 2 => .array (.int)
  | 3 => .array (.int)
  | 4 => .array (.int)
  | 5 => .int
  | 6 => .array (.int)
  | 7 => .array (.int)
  | 8 => .array (.int)
  | 9 => .array (.int)
  | _ => .int
theorem nmX1 : ∀ a, a < 11 → ∀ b, b < 11 → a ≠ b → (tX1 a).2.1 ≠ (tX1 b).2.1 := by decide +kernel
theorem tyX1_ok : ∀ k, k < 11 → parseFieldDescriptor (tX1 k).2.2.1 = some (tyX1 k) := by decide +kernel
theorem inX1 : ∀ w ∈ u_ws "LabourExchange$Books" tX1 11, w ∈ TB := by
  have h : ∀ k, k < 11 → lw_tbl[([311, 313, 315, 317, 319, 321, 323, 325, 327, 329, 331] : List Nat).getD k 0]? = some (u_lay "LabourExchange$Books" tX1 k) ∧ goodWord (u_lay "LabourExchange$Books" tX1 k) = true := by decide +kernel
  intro w hw
  obtain ⟨k, hk, rfl⟩ := List.mem_map.mp hw
  exact tb_of _ (h k (List.mem_range.mp hk)).1 (h k (List.mem_range.mp hk)).2
def tX2 : u_T := fun k => match k with
  | 0 => ("LabourExchange$Courts", "listOf", "[I", true)
  | 1 => ("LabourExchange$Courts", "family", "[I", true)
  | 2 => ("LabourExchange$Courts", "judges", "I", false)
  | 3 => ("LabourExchange$Courts", "takenLast", "[I", true)
  | 4 => ("LabourExchange$Courts", "event", "[I", true)
  | 5 => ("LabourExchange$Courts", "came", "[I", true)
  | 6 => ("LabourExchange$Courts", "bench", "[I", true)
  | 7 => ("LabourExchange$Courts", "closed", "[I", true)
  | 8 => ("LabourExchange$Courts", "allowed", "[Z", true)
  | _ => ("LabourExchange$Courts", "cases", "I", false)
def tyX2 : Nat → FieldType := fun k => match k with
  | 0 => .array (.int)
  | 1 => .array (.int)
  | 2 => .int
  | 3 => .array (.int)
  | 4 => .array (.int)
  | 5 => .array (.int)
  | 6 => .array (.int)
  | 7 => .array (.int)
  | 8 => .array (.boolean)
  | _ => .int
theorem nmX2 : ∀ a, a < 10 → ∀ b, b < 10 → a ≠ b → (tX2 a).2.1 ≠ (tX2 b).2.1 := by decide +kernel
theorem tyX2_ok : ∀ k, k < 10 → parseFieldDescriptor (tX2 k).2.2.1 = some (tyX2 k) := by decide +kernel
theorem inX2 : ∀ w ∈ u_ws "LabourExchange$Courts" tX2 10, w ∈ TB := by
  have h : ∀ k, k < 10 → lw_tbl[([526, 528, 530, 532, 534, 536, 538, 540, 542, 544] : List Nat).getD k 0]? = some (u_lay "LabourExchange$Courts" tX2 k) ∧ goodWord (u_lay "LabourExchange$Courts" tX2 k) = true := by decide +kernel
  intro w hw
  obtain ⟨k, hk, rfl⟩ := List.mem_map.mp hw
  exact tb_of _ (h k (List.mem_range.mp hk)).1 (h k (List.mem_range.mp hk)).2
def tX3 : u_T := fun k => match k with
  | 0 => ("LabourExchange$Events", "kind", "[I", true)
  | 1 => ("LabourExchange$Events", "person", "[I", true)
  | 2 => ("LabourExchange$Events", "number", "[I", true)
  | 3 => ("LabourExchange$Events", "from", "[I", true)
  | 4 => ("LabourExchange$Events", "told", "[I", true)
  | 5 => ("LabourExchange$Events", "takenBack", "[I", true)
  | _ => ("LabourExchange$Events", "count", "I", false)
def tyX3 : Nat → FieldType := fun k => match k with
  | 0 => .array (.int)
  | 1 => .array (.int)
  | 2 => .array (.int)
  | 3 => .array (.int)
  | 4 => .array (.int)
  | 5 => .array (.int)
  | _ => .int
theorem nmX3 : ∀ a, a < 7 → ∀ b, b < 7 → a ≠ b → (tX3 a).2.1 ≠ (tX3 b).2.1 := by decide +kernel
theorem tyX3_ok : ∀ k, k < 7 → parseFieldDescriptor (tX3 k).2.2.1 = some (tyX3 k) := by decide +kernel
theorem inX3 : ∀ w ∈ u_ws "LabourExchange$Events" tX3 7, w ∈ TB := by
  have h : ∀ k, k < 7 → lw_tbl[([359, 361, 363, 365, 367, 369, 371] : List Nat).getD k 0]? = some (u_lay "LabourExchange$Events" tX3 k) ∧ goodWord (u_lay "LabourExchange$Events" tX3 k) = true := by decide +kernel
  intro w hw
  obtain ⟨k, hk, rfl⟩ := List.mem_map.mp hw
  exact tb_of _ (h k (List.mem_range.mp hk)).1 (h k (List.mem_range.mp hk)).2
def tX4 : u_T := fun k => match k with
  | 0 => ("LabourExchange$Land", "x", "[I", true)
  | 1 => ("LabourExchange$Land", "y", "[I", true)
  | 2 => ("LabourExchange$Land", "offices", "I", false)
  | 3 => ("LabourExchange$Land", "trade", "[I", true)
  | 4 => ("LabourExchange$Land", "age", "[I", true)
  | 5 => ("LabourExchange$Land", "office", "[I", true)
  | 6 => ("LabourExchange$Land", "wage", "[I", true)
  | 7 => ("LabourExchange$Land", "family", "[I", true)
  | 8 => ("LabourExchange$Land", "people", "I", false)
  | 9 => ("LabourExchange$Land", "changes", "[I", true)
  | 10 => ("LabourExchange$Land", "received", "[I", true)
  | 11 => ("LabourExchange$Land", "owed", "[I", true)
  | 12 => ("LabourExchange$Land", "has", "I", false)
  | 13 => ("LabourExchange$Land", "got", "I", false)
  | 14 => ("LabourExchange$Land", "gave", "I", false)
  | 15 => ("LabourExchange$Land", "lately", "[I", true)
  | _ => ("LabourExchange$Land", "weeks", "I", false)
def tyX4 : Nat → FieldType := fun k => match k with
  | 0 => .array (.int)
  | 1 => .array (.int)
  | 2 => .int
  | 3 => .array (.int)
  | 4 => .array (.int)
  | 5 => .array (.int)
  | 6 => .array (.int)
  | 7 => .array (.int)
  | 8 => .int
  | 9 => .array (.int)
  | 10 => .array (.int)
  | 11 => .array (.int)
  | 12 => .int
  | 13 => .int
  | 14 => .int
  | 15 => .array (.int)
  | _ => .int
theorem nmX4 : ∀ a, a < 17 → ∀ b, b < 17 → a ≠ b → (tX4 a).2.1 ≠ (tX4 b).2.1 := by decide +kernel
theorem tyX4_ok : ∀ k, k < 17 → parseFieldDescriptor (tX4 k).2.2.1 = some (tyX4 k) := by decide +kernel
theorem inX4 : ∀ w ∈ u_ws "LabourExchange$Land" tX4 17, w ∈ TB := by
  have h : ∀ k, k < 17 → lw_tbl[([256, 258, 260, 262, 264, 266, 268, 270, 272, 274, 276, 278, 280, 282, 284, 286, 288] : List Nat).getD k 0]? = some (u_lay "LabourExchange$Land" tX4 k) ∧ goodWord (u_lay "LabourExchange$Land" tX4 k) = true := by decide +kernel
  intro w hw
  obtain ⟨k, hk, rfl⟩ := List.mem_map.mp hw
  exact tb_of _ (h k (List.mem_range.mp hk)).1 (h k (List.mem_range.mp hk)).2
def tX5 : u_T := fun k => match k with
  | 0 => ("LabourExchange$Law", "acts", "[LLabourExchange$Act;", true)
  | 1 => ("LabourExchange$Law", "size", "I", false)
  | 2 => ("LabourExchange$Law", "spanOf", "[B", true)
  | 3 => ("LabourExchange$Law", "params", "[[I", true)
  | 4 => ("LabourExchange$Law", "inForce", "[[I", true)
  | 5 => ("LabourExchange$Law", "forceCount", "[I", true)
  | 6 => ("LabourExchange$Law", "insured", "[I", true)
  | 7 => ("LabourExchange$Law", "payAct", "[I", true)
  | 8 => ("LabourExchange$Law", "needyAct", "[I", true)
  | 9 => ("LabourExchange$Law", "barAct", "[I", true)
  | 10 => ("LabourExchange$Law", "suitAct", "[I", true)
  | 11 => ("LabourExchange$Law", "values", "[J", true)
  | _ => ("LabourExchange$Law", "stack", "[J", true)
def tyX5 : Nat → FieldType := fun k => match k with
  | 0 => .array (.object "LabourExchange$Act")
  | 1 => .int
  | 2 => .array (.byte)
  | 3 => .array (.array (.int))
  | 4 => .array (.array (.int))
  | 5 => .array (.int)
  | 6 => .array (.int)
  | 7 => .array (.int)
  | 8 => .array (.int)
  | 9 => .array (.int)
  | 10 => .array (.int)
  | 11 => .array (.long)
  | _ => .array (.long)
theorem nmX5 : ∀ a, a < 13 → ∀ b, b < 13 → a ≠ b → (tX5 a).2.1 ≠ (tX5 b).2.1 := by decide +kernel
theorem tyX5_ok : ∀ k, k < 13 → parseFieldDescriptor (tX5 k).2.2.1 = some (tyX5 k) := by decide +kernel
theorem inX5 : ∀ w ∈ u_ws "LabourExchange$Law" tX5 13, w ∈ TB := by
  have h : ∀ k, k < 13 → lw_tbl[([649, 651, 653, 655, 657, 659, 661, 663, 665, 667, 669, 671, 673] : List Nat).getD k 0]? = some (u_lay "LabourExchange$Law" tX5 k) ∧ goodWord (u_lay "LabourExchange$Law" tX5 k) = true := by decide +kernel
  intro w hw
  obtain ⟨k, hk, rfl⟩ := List.mem_map.mp hw
  exact tb_of _ (h k (List.mem_range.mp hk)).1 (h k (List.mem_range.mp hk)).2
def tX6 : u_T := fun k => match k with
  | 0 => ("LabourExchange$Life", "person", "I", true)
  | 1 => ("LabourExchange$Life", "land", "LLabourExchange$Land;", true)
  | 2 => ("LabourExchange$Life", "market", "LLabourExchange$Market;", true)
  | 3 => ("LabourExchange$Life", "law", "LLabourExchange$Law;", true)
  | 4 => ("LabourExchange$Life", "past", "[I", true)
  | 5 => ("LabourExchange$Life", "claims", "[I", true)
  | 6 => ("LabourExchange$Life", "stamps", "[B", true)
  | 7 => ("LabourExchange$Life", "totals", "[I", true)
  | 8 => ("LabourExchange$Life", "seen", "I", false)
  | 9 => ("LabourExchange$Life", "upTo", "I", false)
  | 10 => ("LabourExchange$Life", "claimCount", "I", false)
  | 11 => ("LabourExchange$Life", "open", "Z", false)
  | 12 => ("LabourExchange$Life", "closedOn", "I", false)
  | 13 => ("LabourExchange$Life", "inWork", "Z", false)
  | 14 => ("LabourExchange$Life", "away", "Z", false)
  | 15 => ("LabourExchange$Life", "daysShort", "I", false)
  | 16 => ("LabourExchange$Life", "barredTo", "I", false)
  | 17 => ("LabourExchange$Life", "leftOn", "I", false)
  | 18 => ("LabourExchange$Life", "reason", "I", false)
  | 19 => ("LabourExchange$Life", "usual", "I", false)
  | _ => ("LabourExchange$Life", "means", "I", false)
def tyX6 : Nat → FieldType := fun k => match k with
  | 0 => .int
  | 1 => .object "LabourExchange$Land"
  | 2 => .object "LabourExchange$Market"
  | 3 => .object "LabourExchange$Law"
  | 4 => .array (.int)
  | 5 => .array (.int)
  | 6 => .array (.byte)
  | 7 => .array (.int)
  | 8 => .int
  | 9 => .int
  | 10 => .int
  | 11 => .boolean
  | 12 => .int
  | 13 => .boolean
  | 14 => .boolean
  | 15 => .int
  | 16 => .int
  | 17 => .int
  | 18 => .int
  | 19 => .int
  | _ => .int
theorem nmX6 : ∀ a, a < 21 → ∀ b, b < 21 → a ≠ b → (tX6 a).2.1 ≠ (tX6 b).2.1 := by decide +kernel
theorem tyX6_ok : ∀ k, k < 21 → parseFieldDescriptor (tX6 k).2.2.1 = some (tyX6 k) := by decide +kernel
theorem inX6 : ∀ w ∈ u_ws "LabourExchange$Life" tX6 21, w ∈ TB := by
  have h : ∀ k, k < 21 → lw_tbl[([712, 714, 716, 718, 720, 722, 724, 726, 728, 730, 732, 734, 736, 738, 740, 742, 744, 746, 748, 750, 752] : List Nat).getD k 0]? = some (u_lay "LabourExchange$Life" tX6 k) ∧ goodWord (u_lay "LabourExchange$Life" tX6 k) = true := by decide +kernel
  intro w hw
  obtain ⟨k, hk, rfl⟩ := List.mem_map.mp hw
  exact tb_of _ (h k (List.mem_range.mp hk)).1 (h k (List.mem_range.mp hk)).2
def tX7 : u_T := fun k => match k with
  | 0 => ("LabourExchange$Market", "land", "LLabourExchange$Land;", true)
  | 1 => ("LabourExchange$Market", "office", "[I", true)
  | 2 => ("LabourExchange$Market", "trade", "[I", true)
  | 3 => ("LabourExchange$Market", "wage", "[I", true)
  | 4 => ("LabourExchange$Market", "worth", "[I", true)
  | 5 => ("LabourExchange$Market", "since", "[I", true)
  | 6 => ("LabourExchange$Market", "filled", "[Z", true)
  | 7 => ("LabourExchange$Market", "vacancies", "I", false)
  | 8 => ("LabourExchange$Market", "offered", "[I", true)
  | 9 => ("LabourExchange$Market", "vacancy", "[I", true)
  | 10 => ("LabourExchange$Market", "objection", "[I", true)
  | 11 => ("LabourExchange$Market", "fate", "[I", true)
  | 12 => ("LabourExchange$Market", "offers", "I", false)
  | 13 => ("LabourExchange$Market", "personPrice", "[I", true)
  | _ => ("LabourExchange$Market", "vacancyPrice", "[I", true)
def tyX7 : Nat → FieldType := fun k => match k with
  | 0 => .object "LabourExchange$Land"
  | 1 => .array (.int)
  | 2 => .array (.int)
  | 3 => .array (.int)
  | 4 => .array (.int)
  | 5 => .array (.int)
  | 6 => .array (.boolean)
  | 7 => .int
  | 8 => .array (.int)
  | 9 => .array (.int)
  | 10 => .array (.int)
  | 11 => .array (.int)
  | 12 => .int
  | 13 => .array (.int)
  | _ => .array (.int)
theorem nmX7 : ∀ a, a < 15 → ∀ b, b < 15 → a ≠ b → (tX7 a).2.1 ≠ (tX7 b).2.1 := by decide +kernel
theorem tyX7_ok : ∀ k, k < 15 → parseFieldDescriptor (tX7 k).2.2.1 = some (tyX7 k) := by decide +kernel
theorem inX7 : ∀ w ∈ u_ws "LabourExchange$Market" tX7 15, w ∈ TB := by
  have h : ∀ k, k < 15 → lw_tbl[([408, 410, 412, 414, 416, 418, 420, 422, 424, 426, 428, 430, 432, 434, 436] : List Nat).getD k 0]? = some (u_lay "LabourExchange$Market" tX7 k) ∧ goodWord (u_lay "LabourExchange$Market" tX7 k) = true := by decide +kernel
  intro w hw
  obtain ⟨k, hk, rfl⟩ := List.mem_map.mp hw
  exact tb_of _ (h k (List.mem_range.mp hk)).1 (h k (List.mem_range.mp hk)).2
def tX8 : u_T := fun k => match k with
  | 0 => ("LabourExchange$Reader", "tape", "[B", true)
  | 1 => ("LabourExchange$Reader", "size", "I", false)
  | 2 => ("LabourExchange$Reader", "place", "I", false)
  | 3 => ("LabourExchange$Reader", "fault", "I", false)
  | 4 => ("LabourExchange$Reader", "length", "I", false)
  | 5 => ("LabourExchange$Reader", "start", "I", false)
  | 6 => ("LabourExchange$Reader", "at", "I", false)
  | 7 => ("LabourExchange$Reader", "token", "I", false)
  | 8 => ("LabourExchange$Reader", "keyword", "I", false)
  | 9 => ("LabourExchange$Reader", "value", "I", false)
  | 10 => ("LabourExchange$Reader", "number", "I", false)
  | _ => ("LabourExchange$Reader", "act", "LLabourExchange$Act;", false)
def tyX8 : Nat → FieldType := fun k => match k with
  | 0 => .array (.byte)
  | 1 => .int
  | 2 => .int
  | 3 => .int
  | 4 => .int
  | 5 => .int
  | 6 => .int
  | 7 => .int
  | 8 => .int
  | 9 => .int
  | 10 => .int
  | _ => .object "LabourExchange$Act"
theorem nmX8 : ∀ a, a < 12 → ∀ b, b < 12 → a ≠ b → (tX8 a).2.1 ≠ (tX8 b).2.1 := by decide +kernel
theorem tyX8_ok : ∀ k, k < 12 → parseFieldDescriptor (tX8 k).2.2.1 = some (tyX8 k) := by decide +kernel
theorem inX8 : ∀ w ∈ u_ws "LabourExchange$Reader" tX8 12, w ∈ TB := by
  have h : ∀ k, k < 12 → lw_tbl[([192, 194, 196, 198, 200, 202, 204, 206, 208, 210, 212, 214] : List Nat).getD k 0]? = some (u_lay "LabourExchange$Reader" tX8 k) ∧ goodWord (u_lay "LabourExchange$Reader" tX8 k) = true := by decide +kernel
  intro w hw
  obtain ⟨k, hk, rfl⟩ := List.mem_map.mp hw
  exact tb_of _ (h k (List.mem_range.mp hk)).1 (h k (List.mem_range.mp hk)).2
def tX9 : u_T := fun k => match k with
  | 0 => ("LabourExchange$Sending", "gain", "[[I", true)
  | 1 => ("LabourExchange$Sending", "sentTo", "[I", true)
  | 2 => ("LabourExchange$Sending", "who", "[I", true)
  | 3 => ("LabourExchange$Sending", "where", "[I", true)
  | 4 => ("LabourExchange$Sending", "rows", "I", false)
  | 5 => ("LabourExchange$Sending", "columns", "I", false)
  | 6 => ("LabourExchange$Sending", "size", "I", false)
  | 7 => ("LabourExchange$Sending", "rowPrice", "[I", true)
  | 8 => ("LabourExchange$Sending", "columnPrice", "[I", true)
  | 9 => ("LabourExchange$Sending", "rowAt", "[I", true)
  | 10 => ("LabourExchange$Sending", "columnOf", "[I", true)
  | 11 => ("LabourExchange$Sending", "from", "[I", true)
  | 12 => ("LabourExchange$Sending", "least", "[I", true)
  | 13 => ("LabourExchange$Sending", "reached", "[Z", true)
  | 14 => ("LabourExchange$Sending", "settled", "[Z", true)
  | _ => ("LabourExchange$Sending", "queue", "[I", true)
def tyX9 : Nat → FieldType := fun k => match k with
  | 0 => .array (.array (.int))
  | 1 => .array (.int)
  | 2 => .array (.int)
  | 3 => .array (.int)
  | 4 => .int
  | 5 => .int
  | 6 => .int
  | 7 => .array (.int)
  | 8 => .array (.int)
  | 9 => .array (.int)
  | 10 => .array (.int)
  | 11 => .array (.int)
  | 12 => .array (.int)
  | 13 => .array (.boolean)
  | 14 => .array (.boolean)
  | _ => .array (.int)
theorem nmX9 : ∀ a, a < 16 → ∀ b, b < 16 → a ≠ b → (tX9 a).2.1 ≠ (tX9 b).2.1 := by decide +kernel
theorem tyX9_ok : ∀ k, k < 16 → parseFieldDescriptor (tX9 k).2.2.1 = some (tyX9 k) := by decide +kernel
theorem inX9 : ∀ w ∈ u_ws "LabourExchange$Sending" tX9 16, w ∈ TB := by
  have h : ∀ k, k < 16 → lw_tbl[([469, 471, 473, 475, 477, 479, 481, 483, 485, 487, 489, 491, 493, 495, 497, 499] : List Nat).getD k 0]? = some (u_lay "LabourExchange$Sending" tX9 k) ∧ goodWord (u_lay "LabourExchange$Sending" tX9 k) = true := by decide +kernel
  intro w hw
  obtain ⟨k, hk, rfl⟩ := List.mem_map.mp hw
  exact tb_of _ (h k (List.mem_range.mp hk)).1 (h k (List.mem_range.mp hk)).2
def tX10 : u_T := fun k => match k with
  | 0 => ("LabourExchange$View", "land", "LLabourExchange$Land;", true)
  | 1 => ("LabourExchange$View", "books", "LLabourExchange$Books;", true)
  | 2 => ("LabourExchange$View", "events", "LLabourExchange$Events;", true)
  | 3 => ("LabourExchange$View", "law", "LLabourExchange$Law;", true)
  | 4 => ("LabourExchange$View", "ofToday", "Z", true)
  | 5 => ("LabourExchange$View", "lives", "[LLabourExchange$Life;", true)
  | 6 => ("LabourExchange$View", "does", "[Z", true)
  | 7 => ("LabourExchange$View", "cleared", "[Z", true)
  | 8 => ("LabourExchange$View", "list", "[I", true)
  | _ => ("LabourExchange$View", "on", "I", false)
def tyX10 : Nat → FieldType := fun k => match k with
  | 0 => .object "LabourExchange$Land"
  | 1 => .object "LabourExchange$Books"
  | 2 => .object "LabourExchange$Events"
  | 3 => .object "LabourExchange$Law"
  | 4 => .boolean
  | 5 => .array (.object "LabourExchange$Life")
  | 6 => .array (.boolean)
  | 7 => .array (.boolean)
  | 8 => .array (.int)
  | _ => .int
theorem nmX10 : ∀ a, a < 10 → ∀ b, b < 10 → a ≠ b → (tX10 a).2.1 ≠ (tX10 b).2.1 := by decide +kernel
theorem tyX10_ok : ∀ k, k < 10 → parseFieldDescriptor (tX10 k).2.2.1 = some (tyX10 k) := by decide +kernel
theorem inX10 : ∀ w ∈ u_ws "LabourExchange$View" tX10 10, w ∈ TB := by
  have h : ∀ k, k < 10 → lw_tbl[([767, 769, 771, 773, 775, 777, 779, 781, 783, 785] : List Nat).getD k 0]? = some (u_lay "LabourExchange$View" tX10 k) ∧ goodWord (u_lay "LabourExchange$View" tX10 k) = true := by decide +kernel
  intro w hw
  obtain ⟨k, hk, rfl⟩ := List.mem_map.mp hw
  exact tb_of _ (h k (List.mem_range.mp hk)).1 (h k (List.mem_range.mp hk)).2
def tX11 : u_T := fun k => match k with
  | 0 => ("LabourExchange", "reader", "LLabourExchange$Reader;", true)
  | 1 => ("LabourExchange", "land", "LLabourExchange$Land;", true)
  | 2 => ("LabourExchange", "books", "LLabourExchange$Books;", true)
  | 3 => ("LabourExchange", "events", "LLabourExchange$Events;", true)
  | 4 => ("LabourExchange", "acts", "[LLabourExchange$Act;", true)
  | 5 => ("LabourExchange", "market", "LLabourExchange$Market;", true)
  | 6 => ("LabourExchange", "sending", "LLabourExchange$Sending;", true)
  | 7 => ("LabourExchange", "courts", "LLabourExchange$Courts;", true)
  | 8 => ("LabourExchange", "now", "LLabourExchange$View;", true)
  | 9 => ("LabourExchange", "then", "LLabourExchange$View;", true)
  | 10 => ("LabourExchange", "more", "[I", true)
  | 11 => ("LabourExchange", "texts", "I", false)
  | 12 => ("LabourExchange", "wasTried", "Z", false)
  | 13 => ("LabourExchange", "today", "I", false)
  | _ => ("LabourExchange", "theDay", "I", false)
def tyX11 : Nat → FieldType := fun k => match k with
  | 0 => .object "LabourExchange$Reader"
  | 1 => .object "LabourExchange$Land"
  | 2 => .object "LabourExchange$Books"
  | 3 => .object "LabourExchange$Events"
  | 4 => .array (.object "LabourExchange$Act")
  | 5 => .object "LabourExchange$Market"
  | 6 => .object "LabourExchange$Sending"
  | 7 => .object "LabourExchange$Courts"
  | 8 => .object "LabourExchange$View"
  | 9 => .object "LabourExchange$View"
  | 10 => .array (.int)
  | 11 => .int
  | 12 => .boolean
  | 13 => .int
  | _ => .int
theorem nmX11 : ∀ a, a < 15 → ∀ b, b < 15 → a ≠ b → (tX11 a).2.1 ≠ (tX11 b).2.1 := by decide +kernel
theorem tyX11_ok : ∀ k, k < 15 → parseFieldDescriptor (tX11 k).2.2.1 = some (tyX11 k) := by decide +kernel
theorem inX11 : ∀ w ∈ u_ws "LabourExchange" tX11 15, w ∈ TB := by
  have h : ∀ k, k < 15 → lw_tbl[([803, 805, 807, 809, 811, 813, 815, 817, 819, 821, 823, 825, 827, 829, 831] : List Nat).getD k 0]? = some (u_lay "LabourExchange" tX11 k) ∧ goodWord (u_lay "LabourExchange" tX11 k) = true := by decide +kernel
  intro w hw
  obtain ⟨k, hk, rfl⟩ := List.mem_map.mp hw
  exact tb_of _ (h k (List.mem_range.mp hk)).1 (h k (List.mem_range.mp hk)).2
def tX12 : u_T := fun k => match k with
  | 0 => ("LabourExchangeModel", "params", "[Ljava/lang/String;", true)
  | 1 => ("LabourExchangeModel", "values", "[Ljava/lang/String;", true)
  | 2 => ("LabourExchangeModel", "defaults", "[I", true)
  | 3 => ("LabourExchangeModel", "code", "I", false)
  | 4 => ("LabourExchangeModel", "today", "I", false)
  | 5 => ("LabourExchangeModel", "looked", "I", false)
  | 6 => ("LabourExchangeModel", "offices", "I", false)
  | 7 => ("LabourExchangeModel", "people", "I", false)
  | 8 => ("LabourExchangeModel", "officeX", "[I", true)
  | 9 => ("LabourExchangeModel", "officeY", "[I", true)
  | 10 => ("LabourExchangeModel", "trade", "[I", true)
  | 11 => ("LabourExchangeModel", "age", "[I", true)
  | 12 => ("LabourExchangeModel", "office", "[I", true)
  | 13 => ("LabourExchangeModel", "wage", "[I", true)
  | 14 => ("LabourExchangeModel", "family", "[I", true)
  | 15 => ("LabourExchangeModel", "rows", "I", false)
  | 16 => ("LabourExchangeModel", "returned", "I", false)
  | 17 => ("LabourExchangeModel", "events", "I", false)
  | 18 => ("LabourExchangeModel", "texts", "I", false)
  | 19 => ("LabourExchangeModel", "rowPerson", "[I", true)
  | 20 => ("LabourExchangeModel", "rowYear", "[I", true)
  | 21 => ("LabourExchangeModel", "rowMany", "[I", true)
  | 22 => ("LabourExchangeModel", "rowTold", "[I", true)
  | 23 => ("LabourExchangeModel", "rowStamp", "[I", true)
  | 24 => ("LabourExchangeModel", "returnPerson", "[I", true)
  | 25 => ("LabourExchangeModel", "returnWeek", "[I", true)
  | 26 => ("LabourExchangeModel", "returnDays", "[I", true)
  | 27 => ("LabourExchangeModel", "returnTold", "[I", true)
  | 28 => ("LabourExchangeModel", "eventKind", "[I", true)
  | 29 => ("LabourExchangeModel", "eventPerson", "[I", true)
  | 30 => ("LabourExchangeModel", "eventNumber", "[I", true)
  | 31 => ("LabourExchangeModel", "eventDay", "[I", true)
  | 32 => ("LabourExchangeModel", "eventTold", "[I", true)
  | 33 => ("LabourExchangeModel", "eventBack", "[I", true)
  | 34 => ("LabourExchangeModel", "textFrom", "[I", true)
  | 35 => ("LabourExchangeModel", "textTo", "[I", true)
  | 36 => ("LabourExchangeModel", "textTold", "[I", true)
  | 37 => ("LabourExchangeModel", "clauses", "[I", true)
  | 38 => ("LabourExchangeModel", "clauseIs", "[I", true)
  | 39 => ("LabourExchangeModel", "clauseOne", "[I", true)
  | 40 => ("LabourExchangeModel", "clauseTwo", "[I", true)
  | 41 => ("LabourExchangeModel", "codeFrom", "[I", true)
  | 42 => ("LabourExchangeModel", "codeMid", "[I", true)
  | 43 => ("LabourExchangeModel", "codeTo", "[I", true)
  | 44 => ("LabourExchangeModel", "codeRow", "[I", true)
  | 45 => ("LabourExchangeModel", "tape", "[I", true)
  | 46 => ("LabourExchangeModel", "taped", "I", false)
  | 47 => ("LabourExchangeModel", "at", "I", false)
  | 48 => ("LabourExchangeModel", "size", "I", false)
  | 49 => ("LabourExchangeModel", "token", "I", false)
  | 50 => ("LabourExchangeModel", "sign", "I", false)
  | 51 => ("LabourExchangeModel", "number", "I", false)
  | 52 => ("LabourExchangeModel", "begins", "I", false)
  | 53 => ("LabourExchangeModel", "ends", "I", false)
  | 54 => ("LabourExchangeModel", "bad", "I", false)
  | 55 => ("LabourExchangeModel", "badPlace", "I", false)
  | 56 => ("LabourExchangeModel", "faultPlace", "I", false)
  | 57 => ("LabourExchangeModel", "codes", "I", false)
  | 58 => ("LabourExchangeModel", "textNow", "I", false)
  | 59 => ("LabourExchangeModel", "rowNow", "[I", true)
  | 60 => ("LabourExchangeModel", "returnNow", "[I", true)
  | 61 => ("LabourExchangeModel", "force", "[I", true)
  | 62 => ("LabourExchangeModel", "forces", "I", false)
  | 63 => ("LabourExchangeModel", "lawClause", "[I", true)
  | 64 => ("LabourExchangeModel", "lawParam", "[I", true)
  | 65 => ("LabourExchangeModel", "isTrying", "Z", false)
  | 66 => ("LabourExchangeModel", "stack", "[J", true)
  | 67 => ("LabourExchangeModel", "who", "I", false)
  | 68 => ("LabourExchangeModel", "nowDay", "I", false)
  | 69 => ("LabourExchangeModel", "ofMiles", "I", false)
  | 70 => ("LabourExchangeModel", "ofWage", "I", false)
  | 71 => ("LabourExchangeModel", "ofSame", "I", false)
  | 72 => ("LabourExchangeModel", "isRun", "Z", false)
  | 73 => ("LabourExchangeModel", "runKnown", "I", false)
  | 74 => ("LabourExchangeModel", "isWork", "[Z", true)
  | 75 => ("LabourExchangeModel", "isAway", "[Z", true)
  | 76 => ("LabourExchangeModel", "isDone", "[Z", true)
  | 77 => ("LabourExchangeModel", "isCleared", "[Z", true)
  | 78 => ("LabourExchangeModel", "shortOf", "[I", true)
  | 79 => ("LabourExchangeModel", "usual", "[I", true)
  | 80 => ("LabourExchangeModel", "left", "[I", true)
  | 81 => ("LabourExchangeModel", "means", "[I", true)
  | 82 => ("LabourExchangeModel", "reason", "[I", true)
  | 83 => ("LabourExchangeModel", "latest", "[I", true)
  | 84 => ("LabourExchangeModel", "claimCount", "[I", true)
  | 85 => ("LabourExchangeModel", "claims", "I", false)
  | 86 => ("LabourExchangeModel", "bars", "I", false)
  | 87 => ("LabourExchangeModel", "claimPerson", "[I", true)
  | 88 => ("LabourExchangeModel", "claimNumber", "[I", true)
  | 89 => ("LabourExchangeModel", "claimFirst", "[I", true)
  | 90 => ("LabourExchangeModel", "claimDays", "[I", true)
  | 91 => ("LabourExchangeModel", "claimWaited", "[I", true)
  | 92 => ("LabourExchangeModel", "claimEarned", "[I", true)
  | 93 => ("LabourExchangeModel", "claimExtended", "[I", true)
  | 94 => ("LabourExchangeModel", "claimNeedy", "[I", true)
  | 95 => ("LabourExchangeModel", "claimJoined", "[I", true)
  | 96 => ("LabourExchangeModel", "claimClosed", "[I", true)
  | 97 => ("LabourExchangeModel", "claimStamps", "[I", true)
  | 98 => ("LabourExchangeModel", "claimUnknown", "[I", true)
  | 99 => ("LabourExchangeModel", "claimPay", "[J", true)
  | 100 => ("LabourExchangeModel", "barPerson", "[I", true)
  | 101 => ("LabourExchangeModel", "barFrom", "[I", true)
  | 102 => ("LabourExchangeModel", "barTo", "[I", true)
  | 103 => ("LabourExchangeModel", "dayKind", "[I", true)
  | 104 => ("LabourExchangeModel", "dayText", "[I", true)
  | 105 => ("LabourExchangeModel", "dayClaim", "[I", true)
  | 106 => ("LabourExchangeModel", "dayInsured", "[I", true)
  | 107 => ("LabourExchangeModel", "dayPay", "[J", true)
  | 108 => ("LabourExchangeModel", "paidOut", "[J", true)
  | 109 => ("LabourExchangeModel", "owed", "[J", true)
  | 110 => ("LabourExchangeModel", "change", "[J", true)
  | 111 => ("LabourExchangeModel", "funds", "J", false)
  | 112 => ("LabourExchangeModel", "gotLast", "J", false)
  | 113 => ("LabourExchangeModel", "paidLast", "J", false)
  | 114 => ("LabourExchangeModel", "settled", "I", false)
  | 115 => ("LabourExchangeModel", "vacancies", "I", false)
  | 116 => ("LabourExchangeModel", "offers", "I", false)
  | 117 => ("LabourExchangeModel", "vacancyOffice", "[I", true)
  | 118 => ("LabourExchangeModel", "vacancyTrade", "[I", true)
  | 119 => ("LabourExchangeModel", "vacancyWage", "[I", true)
  | 120 => ("LabourExchangeModel", "vacancyWorth", "[I", true)
  | 121 => ("LabourExchangeModel", "vacancyTold", "[I", true)
  | 122 => ("LabourExchangeModel", "isFilled", "[Z", true)
  | 123 => ("LabourExchangeModel", "isSuitable", "[Z", true)
  | 124 => ("LabourExchangeModel", "offerPerson", "[I", true)
  | 125 => ("LabourExchangeModel", "offerVacancy", "[I", true)
  | 126 => ("LabourExchangeModel", "offerFailed", "[I", true)
  | 127 => ("LabourExchangeModel", "offerCame", "[I", true)
  | 128 => ("LabourExchangeModel", "gain", "[I", true)
  | 129 => ("LabourExchangeModel", "sentTo", "[I", true)
  | 130 => ("LabourExchangeModel", "priceOf", "[I", true)
  | 131 => ("LabourExchangeModel", "priceAt", "[I", true)
  | 132 => ("LabourExchangeModel", "isSent", "Z", false)
  | 133 => ("LabourExchangeModel", "holder0", "[I", true)
  | 134 => ("LabourExchangeModel", "reach", "[I", true)
  | 135 => ("LabourExchangeModel", "cameBy", "[I", true)
  | 136 => ("LabourExchangeModel", "judges", "I", false)
  | 137 => ("LabourExchangeModel", "cases", "I", false)
  | 138 => ("LabourExchangeModel", "judgeList", "[I", true)
  | 139 => ("LabourExchangeModel", "judgeFamily", "[I", true)
  | 140 => ("LabourExchangeModel", "lastJudge", "[I", true)
  | 141 => ("LabourExchangeModel", "caseEvent", "[I", true)
  | 142 => ("LabourExchangeModel", "caseCame", "[I", true)
  | 143 => ("LabourExchangeModel", "caseJudge", "[I", true)
  | 144 => ("LabourExchangeModel", "caseClosed", "[I", true)
  | 145 => ("LabourExchangeModel", "isAllowed", "[Z", true)
  | 146 => ("LabourExchangeModel", "isTried", "Z", false)
  | 147 => ("LabourExchangeModel", "triedPay", "[J", true)
  | 148 => ("LabourExchangeModel", "triedPaid", "[I", true)
  | _ => ("LabourExchangeModel", "triedEnded", "[I", true)
def tyX12 : Nat → FieldType := fun k => match k with
  | 0 => .array (.object "java/lang/String")
  | 1 => .array (.object "java/lang/String")
  | 2 => .array (.int)
  | 3 => .int
  | 4 => .int
  | 5 => .int
  | 6 => .int
  | 7 => .int
  | 8 => .array (.int)
  | 9 => .array (.int)
  | 10 => .array (.int)
  | 11 => .array (.int)
  | 12 => .array (.int)
  | 13 => .array (.int)
  | 14 => .array (.int)
  | 15 => .int
  | 16 => .int
  | 17 => .int
  | 18 => .int
  | 19 => .array (.int)
  | 20 => .array (.int)
  | 21 => .array (.int)
  | 22 => .array (.int)
  | 23 => .array (.int)
  | 24 => .array (.int)
  | 25 => .array (.int)
  | 26 => .array (.int)
  | 27 => .array (.int)
  | 28 => .array (.int)
  | 29 => .array (.int)
  | 30 => .array (.int)
  | 31 => .array (.int)
  | 32 => .array (.int)
  | 33 => .array (.int)
  | 34 => .array (.int)
  | 35 => .array (.int)
  | 36 => .array (.int)
  | 37 => .array (.int)
  | 38 => .array (.int)
  | 39 => .array (.int)
  | 40 => .array (.int)
  | 41 => .array (.int)
  | 42 => .array (.int)
  | 43 => .array (.int)
  | 44 => .array (.int)
  | 45 => .array (.int)
  | 46 => .int
  | 47 => .int
  | 48 => .int
  | 49 => .int
  | 50 => .int
  | 51 => .int
  | 52 => .int
  | 53 => .int
  | 54 => .int
  | 55 => .int
  | 56 => .int
  | 57 => .int
  | 58 => .int
  | 59 => .array (.int)
  | 60 => .array (.int)
  | 61 => .array (.int)
  | 62 => .int
  | 63 => .array (.int)
  | 64 => .array (.int)
  | 65 => .boolean
  | 66 => .array (.long)
  | 67 => .int
  | 68 => .int
  | 69 => .int
  | 70 => .int
  | 71 => .int
  | 72 => .boolean
  | 73 => .int
  | 74 => .array (.boolean)
  | 75 => .array (.boolean)
  | 76 => .array (.boolean)
  | 77 => .array (.boolean)
  | 78 => .array (.int)
  | 79 => .array (.int)
  | 80 => .array (.int)
  | 81 => .array (.int)
  | 82 => .array (.int)
  | 83 => .array (.int)
  | 84 => .array (.int)
  | 85 => .int
  | 86 => .int
  | 87 => .array (.int)
  | 88 => .array (.int)
  | 89 => .array (.int)
  | 90 => .array (.int)
  | 91 => .array (.int)
  | 92 => .array (.int)
  | 93 => .array (.int)
  | 94 => .array (.int)
  | 95 => .array (.int)
  | 96 => .array (.int)
  | 97 => .array (.int)
  | 98 => .array (.int)
  | 99 => .array (.long)
  | 100 => .array (.int)
  | 101 => .array (.int)
  | 102 => .array (.int)
  | 103 => .array (.int)
  | 104 => .array (.int)
  | 105 => .array (.int)
  | 106 => .array (.int)
  | 107 => .array (.long)
  | 108 => .array (.long)
  | 109 => .array (.long)
  | 110 => .array (.long)
  | 111 => .long
  | 112 => .long
  | 113 => .long
  | 114 => .int
  | 115 => .int
  | 116 => .int
  | 117 => .array (.int)
  | 118 => .array (.int)
  | 119 => .array (.int)
  | 120 => .array (.int)
  | 121 => .array (.int)
  | 122 => .array (.boolean)
  | 123 => .array (.boolean)
  | 124 => .array (.int)
  | 125 => .array (.int)
  | 126 => .array (.int)
  | 127 => .array (.int)
  | 128 => .array (.int)
  | 129 => .array (.int)
  | 130 => .array (.int)
  | 131 => .array (.int)
  | 132 => .boolean
  | 133 => .array (.int)
  | 134 => .array (.int)
  | 135 => .array (.int)
  | 136 => .int
  | 137 => .int
  | 138 => .array (.int)
  | 139 => .array (.int)
  | 140 => .array (.int)
  | 141 => .array (.int)
  | 142 => .array (.int)
  | 143 => .array (.int)
  | 144 => .array (.int)
  | 145 => .array (.boolean)
  | 146 => .boolean
  | 147 => .array (.long)
  | 148 => .array (.int)
  | _ => .array (.int)
theorem nmX12 : ∀ a, a < 150 → ∀ b, b < 150 → a ≠ b → (tX12 a).2.1 ≠ (tX12 b).2.1 := by decide +kernel
theorem tyX12_ok : ∀ k, k < 150 → parseFieldDescriptor (tX12 k).2.2.1 = some (tyX12 k) := by decide +kernel
theorem inX12 : ∀ w ∈ u_ws "LabourExchangeModel" tX12 150, w ∈ TB := by
  have h : ∀ k, k < 150 → lw_tbl[([1921, 1923, 1925, 1927, 1929, 1931, 1933, 1935, 1937, 1939, 1941, 1943, 1945, 1947, 1949, 1951, 1953, 1955, 1957, 1959, 1961, 1963, 1965, 1967, 1969, 1971, 1973, 1975, 1977, 1979, 1981, 1983, 1985, 1987, 1989, 1991, 1993, 1995, 1997, 1999, 2001, 2003, 2005, 2007, 2009, 2011, 2013, 2015, 2017, 2019, 2021, 2023, 2025, 2027, 2029, 2031, 2033, 2035, 2037, 2039, 2041, 2043, 2045, 2047, 2049, 2051, 2053, 2055, 2057, 2059, 2061, 2063, 2065, 2067, 2069, 2071, 2073, 2075, 2077, 2079, 2081, 2083, 2085, 2087, 2089, 2091, 2093, 2095, 2097, 2099, 2101, 2103, 2105, 2107, 2109, 2111, 2113, 2115, 2117, 2119, 2121, 2123, 2125, 2127, 2129, 2131, 2133, 2135, 2137, 2139, 2141, 2143, 2145, 2147, 2149, 2151, 2153, 2155, 2157, 2159, 2161, 2163, 2165, 2167, 2169, 2171, 2173, 2175, 2177, 2179, 2181, 2183, 2185, 2187, 2189, 2191, 2193, 2195, 2197, 2199, 2201, 2203, 2205, 2207, 2209, 2211, 2213, 2215, 2217, 2219] : List Nat).getD k 0]? = some (u_lay "LabourExchangeModel" tX12 k) ∧ goodWord (u_lay "LabourExchangeModel" tX12 k) = true := by decide +kernel
  intro w hw
  obtain ⟨k, hk, rfl⟩ := List.mem_map.mp hw
  exact tb_of _ (h k (List.mem_range.mp hk)).1 (h k (List.mem_range.mp hk)).2
abbrev wdcl : List vw_C := [("LabourExchange$Act", tX0, 15), ("LabourExchange$Books", tX1, 11), ("LabourExchange$Courts", tX2, 10), ("LabourExchange$Events", tX3, 7), ("LabourExchange$Land", tX4, 17), ("LabourExchange$Law", tX5, 13), ("LabourExchange$Life", tX6, 21), ("LabourExchange$Market", tX7, 15), ("LabourExchange$Reader", tX8, 12), ("LabourExchange$Sending", tX9, 16), ("LabourExchange$View", tX10, 10), ("LabourExchange", tX11, 15), ("LabourExchangeModel", tX12, 150)]

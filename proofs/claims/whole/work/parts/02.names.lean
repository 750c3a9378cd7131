/-! Names of the program, by program (wip/whole/gen.py): fields of the own kinds of object, methods by their numbers. -/
theorem am_mem {w : Cond} (i : Nat) (h : lw_tbl[i]? = some w) : w ∈ lw_tbl := List.mem_of_getElem? h
def RX0 : String := "SaltMinds$Court"
def TX0 : u_T := fun k => match k with
  | 0 => ("SaltMinds$Court", "who", "[I", true)
  | 1 => ("SaltMinds$Court", "which", "[I", true)
  | 2 => ("SaltMinds$Court", "recalled", "[Z", true)
  | _ => ("SaltMinds$Court", "seen", "I", false)
def tyX0 : Nat → FieldType := fun k => match k with
  | 0 => .array .int
  | 1 => .array .int
  | 2 => .array .boolean
  | _ => .int
def RX1 : String := "SaltMinds$Diet"
def TX1 : u_T := fun k => match k with
  | 0 => ("SaltMinds$Diet", "levels", "[LSaltMinds$Minds;", true)
  | 1 => ("SaltMinds$Diet", "tried", "[I", true)
  | 2 => ("SaltMinds$Diet", "best", "[I", true)
  | 3 => ("SaltMinds$Diet", "bestCost", "I", false)
  | _ => ("SaltMinds$Diet", "length", "I", false)
def tyX1 : Nat → FieldType := fun k => match k with
  | 0 => .array (.object "SaltMinds$Minds")
  | 1 => .array .int
  | 2 => .array .int
  | 3 => .int
  | _ => .int
def RX2 : String := "SaltMinds$History"
def TX2 : u_T := fun k => match k with
  | 0 => ("SaltMinds$History", "rows", "[I", true)
  | _ => ("SaltMinds$History", "kept", "I", false)
def tyX2 : Nat → FieldType := fun k => match k with
  | 0 => .array .int
  | _ => .int
def RX3 : String := "SaltMinds$Market"
def TX3 : u_T := fun k => match k with
  | 0 => ("SaltMinds$Market", "gain", "[I", true)
  | 1 => ("SaltMinds$Market", "resting", "I", false)
  | _ => ("SaltMinds$Market", "first", "I", false)
def tyX3 : Nat → FieldType := fun k => match k with
  | 0 => .array .int
  | 1 => .int
  | _ => .int
def RX4 : String := "SaltMinds$Minds"
def TX4 : u_T := fun k => match k with
  | 0 => ("SaltMinds$Minds", "today", "I", false)
  | 1 => ("SaltMinds$Minds", "purse", "[I", true)
  | 2 => ("SaltMinds$Minds", "table", "[I", true)
  | 3 => ("SaltMinds$Minds", "grains", "[I", true)
  | 4 => ("SaltMinds$Minds", "codes", "[I", true)
  | 5 => ("SaltMinds$Minds", "bought", "[I", true)
  | _ => ("SaltMinds$Minds", "company", "[I", true)
def tyX4 : Nat → FieldType := fun k => match k with
  | 0 => .int
  | 1 => .array .int
  | 2 => .array .int
  | 3 => .array .int
  | 4 => .array .int
  | 5 => .array .int
  | _ => .array .int
def RX5 : String := "SaltMinds$Rations"
def TX5 : u_T := fun k => match k with
  | 0 => ("SaltMinds$Rations", "worth", "[[I", true)
  | 1 => ("SaltMinds$Rations", "most", "[[I", true)
  | 2 => ("SaltMinds$Rations", "given", "[I", true)
  | _ => ("SaltMinds$Rations", "kept", "Z", false)
def tyX5 : Nat → FieldType := fun k => match k with
  | 0 => .array (.array .int)
  | 1 => .array (.array .int)
  | 2 => .array .int
  | _ => .boolean
def RX6 : String := "SaltMinds$Reader"
def TX6 : u_T := fun k => match k with
  | 0 => ("SaltMinds$Reader", "tape", "LSaltMinds$Tape;", true)
  | 1 => ("SaltMinds$Reader", "wrong", "I", false)
  | 2 => ("SaltMinds$Reader", "place", "I", false)
  | 3 => ("SaltMinds$Reader", "wantsPart", "Z", false)
  | 4 => ("SaltMinds$Reader", "mayNot", "Z", false)
  | 5 => ("SaltMinds$Reader", "depth", "I", false)
  | _ => ("SaltMinds$Reader", "nots", "I", false)
def tyX6 : Nat → FieldType := fun k => match k with
  | 0 => .object "SaltMinds$Tape"
  | 1 => .int
  | 2 => .int
  | 3 => .boolean
  | 4 => .boolean
  | 5 => .int
  | _ => .int
def RX7 : String := "SaltMinds$Rule"
def TX7 : u_T := fun k => match k with
  | 0 => ("SaltMinds$Rule", "steps", "[I", true)
  | 1 => ("SaltMinds$Rule", "length", "I", false)
  | 2 => ("SaltMinds$Rule", "values", "[I", true)
  | 3 => ("SaltMinds$Rule", "stack", "[I", true)
  | 4 => ("SaltMinds$Rule", "held", "[I", true)
  | _ => ("SaltMinds$Rule", "waiting", "I", false)
def tyX7 : Nat → FieldType := fun k => match k with
  | 0 => .array .int
  | 1 => .int
  | 2 => .array .int
  | 3 => .array .int
  | 4 => .array .int
  | _ => .int
def RX8 : String := "SaltMinds$Tale"
def TX8 : u_T := fun k => match k with
  | 0 => ("SaltMinds$Tale", "people", "I", false)
  | 1 => ("SaltMinds$Tale", "facts", "I", false)
  | 2 => ("SaltMinds$Tale", "talks", "I", false)
  | 3 => ("SaltMinds$Tale", "prices", "I", false)
  | 4 => ("SaltMinds$Tale", "ruled", "Z", false)
  | 5 => ("SaltMinds$Tale", "purse", "[I", true)
  | 6 => ("SaltMinds$Tale", "table", "[I", true)
  | 7 => ("SaltMinds$Tale", "day", "[I", true)
  | 8 => ("SaltMinds$Tale", "weight", "[I", true)
  | 9 => ("SaltMinds$Tale", "learners", "[I", true)
  | 10 => ("SaltMinds$Tale", "debtor", "[I", true)
  | 11 => ("SaltMinds$Tale", "creditor", "[I", true)
  | 12 => ("SaltMinds$Tale", "amount", "[I", true)
  | 13 => ("SaltMinds$Tale", "talkOne", "[I", true)
  | 14 => ("SaltMinds$Tale", "talkOther", "[I", true)
  | 15 => ("SaltMinds$Tale", "priceDay", "[I", true)
  | 16 => ("SaltMinds$Tale", "price", "[I", true)
  | _ => ("SaltMinds$Tale", "rule", "LSaltMinds$Rule;", true)
def tyX8 : Nat → FieldType := fun k => match k with
  | 0 => .int
  | 1 => .int
  | 2 => .int
  | 3 => .int
  | 4 => .boolean
  | 5 => .array .int
  | 6 => .array .int
  | 7 => .array .int
  | 8 => .array .int
  | 9 => .array .int
  | 10 => .array .int
  | 11 => .array .int
  | 12 => .array .int
  | 13 => .array .int
  | 14 => .array .int
  | 15 => .array .int
  | 16 => .array .int
  | _ => .object "SaltMinds$Rule"
def RX9 : String := "SaltMinds$Tape"
def TX9 : u_T := fun k => match k with
  | 0 => ("SaltMinds$Tape", "bytes", "[I", true)
  | 1 => ("SaltMinds$Tape", "filled", "I", false)
  | 2 => ("SaltMinds$Tape", "length", "I", false)
  | 3 => ("SaltMinds$Tape", "kind", "I", false)
  | 4 => ("SaltMinds$Tape", "start", "I", false)
  | 5 => ("SaltMinds$Tape", "end", "I", false)
  | _ => ("SaltMinds$Tape", "number", "I", false)
def tyX9 : Nat → FieldType := fun k => match k with
  | 0 => .array .int
  | 1 => .int
  | 2 => .int
  | 3 => .int
  | 4 => .int
  | 5 => .int
  | _ => .int
def RX10 : String := "SaltMinds"
def TX10 : u_T := fun k => match k with
  | 0 => ("SaltMinds", "reader", "LSaltMinds$Reader;", true)
  | 1 => ("SaltMinds", "tale", "LSaltMinds$Tale;", false)
  | 2 => ("SaltMinds", "spare", "LSaltMinds$Tale;", false)
  | 3 => ("SaltMinds", "now", "LSaltMinds$Minds;", true)
  | 4 => ("SaltMinds", "later", "LSaltMinds$Minds;", true)
  | 5 => ("SaltMinds", "acts", "LSaltMinds$History;", true)
  | 6 => ("SaltMinds", "court", "LSaltMinds$Court;", true)
  | 7 => ("SaltMinds", "diet", "LSaltMinds$Diet;", true)
  | 8 => ("SaltMinds", "shares", "LSaltMinds$Rations;", true)
  | 9 => ("SaltMinds", "market", "LSaltMinds$Market;", true)
  | 10 => ("SaltMinds", "status", "[I", true)
  | 11 => ("SaltMinds", "witnessed", "[I", true)
  | 12 => ("SaltMinds", "distance", "[I", true)
  | 13 => ("SaltMinds", "imageOfNow", "LSaltMinds$Minds;", true)
  | 14 => ("SaltMinds", "imageOfActs", "LSaltMinds$History;", true)
  | 15 => ("SaltMinds", "imageOfCourt", "LSaltMinds$Court;", true)
  | _ => ("SaltMinds", "imaged", "Z", false)
def tyX10 : Nat → FieldType := fun k => match k with
  | 0 => .object "SaltMinds$Reader"
  | 1 => .object "SaltMinds$Tale"
  | 2 => .object "SaltMinds$Tale"
  | 3 => .object "SaltMinds$Minds"
  | 4 => .object "SaltMinds$Minds"
  | 5 => .object "SaltMinds$History"
  | 6 => .object "SaltMinds$Court"
  | 7 => .object "SaltMinds$Diet"
  | 8 => .object "SaltMinds$Rations"
  | 9 => .object "SaltMinds$Market"
  | 10 => .array .int
  | 11 => .array .int
  | 12 => .array .int
  | 13 => .object "SaltMinds$Minds"
  | 14 => .object "SaltMinds$History"
  | 15 => .object "SaltMinds$Court"
  | _ => .boolean
def RX11 : String := "SaltMindsModel"
def TX11 : u_T := fun k => match k with
  | 0 => ("SaltMindsModel", "thrown", "I", false)
  | 1 => ("SaltMindsModel", "people", "I", false)
  | 2 => ("SaltMindsModel", "facts", "I", false)
  | 3 => ("SaltMindsModel", "talks", "I", false)
  | 4 => ("SaltMindsModel", "prices", "I", false)
  | 5 => ("SaltMindsModel", "keepsAt", "I", false)
  | 6 => ("SaltMindsModel", "fact", "[I", true)
  | 7 => ("SaltMindsModel", "talk", "[I", true)
  | 8 => ("SaltMindsModel", "price", "[I", true)
  | 9 => ("SaltMindsModel", "firstPurse", "[I", true)
  | 10 => ("SaltMindsModel", "firstTable", "[I", true)
  | 11 => ("SaltMindsModel", "code", "[I", true)
  | 12 => ("SaltMindsModel", "tape", "[I", true)
  | 13 => ("SaltMindsModel", "taped", "I", false)
  | 14 => ("SaltMindsModel", "faultKind", "I", false)
  | 15 => ("SaltMindsModel", "faultPlace", "I", false)
  | 16 => ("SaltMindsModel", "refused", "[I", true)
  | 17 => ("SaltMindsModel", "long1", "I", false)
  | 18 => ("SaltMindsModel", "next", "I", false)
  | 19 => ("SaltMindsModel", "sort", "I", false)
  | 20 => ("SaltMindsModel", "place", "I", false)
  | 21 => ("SaltMindsModel", "long0", "I", false)
  | 22 => ("SaltMindsModel", "value", "I", false)
  | 23 => ("SaltMindsModel", "sign", "I", false)
  | 24 => ("SaltMindsModel", "word", "J", false)
  | 25 => ("SaltMindsModel", "newPeople", "I", false)
  | 26 => ("SaltMindsModel", "newFacts", "I", false)
  | 27 => ("SaltMindsModel", "newTalks", "I", false)
  | 28 => ("SaltMindsModel", "newPrices", "I", false)
  | 29 => ("SaltMindsModel", "newKeepsAt", "I", false)
  | 30 => ("SaltMindsModel", "top", "I", false)
  | 31 => ("SaltMindsModel", "waiting", "I", false)
  | 32 => ("SaltMindsModel", "depth", "I", false)
  | 33 => ("SaltMindsModel", "newFact", "[I", true)
  | 34 => ("SaltMindsModel", "newTalk", "[I", true)
  | 35 => ("SaltMindsModel", "newPrice", "[I", true)
  | 36 => ("SaltMindsModel", "newPurse", "[I", true)
  | 37 => ("SaltMindsModel", "newTable", "[I", true)
  | 38 => ("SaltMindsModel", "readCode", "[I", true)
  | 39 => ("SaltMindsModel", "waits", "[I", true)
  | 40 => ("SaltMindsModel", "tested", "[Z", true)
  | 41 => ("SaltMindsModel", "now", "[I", true)
  | 42 => ("SaltMindsModel", "then", "[I", true)
  | 43 => ("SaltMindsModel", "ahead", "[I", true)
  | 44 => ("SaltMindsModel", "acts", "I", false)
  | 45 => ("SaltMindsModel", "told", "[I", true)
  | 46 => ("SaltMindsModel", "pile", "[I", true)
  | 47 => ("SaltMindsModel", "bought", "[I", true)
  | 48 => ("SaltMindsModel", "sitting", "[I", true)
  | 49 => ("SaltMindsModel", "sickOne", "I", false)
  | 50 => ("SaltMindsModel", "feastOf", "I", false)
  | 51 => ("SaltMindsModel", "rowLong", "I", false)
  | 52 => ("SaltMindsModel", "row", "[I", true)
  | 53 => ("SaltMindsModel", "rowTried", "[I", true)
  | 54 => ("SaltMindsModel", "holdsOf", "[I", true)
  | 55 => ("SaltMindsModel", "worth", "[I", true)
  | 56 => ("SaltMindsModel", "mostOf", "[I", true)
  | 57 => ("SaltMindsModel", "ration", "[I", true)
  | 58 => ("SaltMindsModel", "hasRations", "Z", false)
  | 59 => ("SaltMindsModel", "seenMany", "I", false)
  | 60 => ("SaltMindsModel", "seen", "[I", true)
  | 61 => ("SaltMindsModel", "its0", "I", false)
  | 62 => ("SaltMindsModel", "hasImage", "Z", false)
  | 63 => ("SaltMindsModel", "imageActs", "I", false)
  | 64 => ("SaltMindsModel", "imageSeen", "I", false)
  | 65 => ("SaltMindsModel", "imageNow", "[I", true)
  | 66 => ("SaltMindsModel", "imageAhead", "[I", true)
  | _ => ("SaltMindsModel", "imageSees", "[I", true)
def tyX11 : Nat → FieldType := fun k => match k with
  | 0 => .int
  | 1 => .int
  | 2 => .int
  | 3 => .int
  | 4 => .int
  | 5 => .int
  | 6 => .array .int
  | 7 => .array .int
  | 8 => .array .int
  | 9 => .array .int
  | 10 => .array .int
  | 11 => .array .int
  | 12 => .array .int
  | 13 => .int
  | 14 => .int
  | 15 => .int
  | 16 => .array .int
  | 17 => .int
  | 18 => .int
  | 19 => .int
  | 20 => .int
  | 21 => .int
  | 22 => .int
  | 23 => .int
  | 24 => .long
  | 25 => .int
  | 26 => .int
  | 27 => .int
  | 28 => .int
  | 29 => .int
  | 30 => .int
  | 31 => .int
  | 32 => .int
  | 33 => .array .int
  | 34 => .array .int
  | 35 => .array .int
  | 36 => .array .int
  | 37 => .array .int
  | 38 => .array .int
  | 39 => .array .int
  | 40 => .array .boolean
  | 41 => .array .int
  | 42 => .array .int
  | 43 => .array .int
  | 44 => .int
  | 45 => .array .int
  | 46 => .array .int
  | 47 => .array .int
  | 48 => .array .int
  | 49 => .int
  | 50 => .int
  | 51 => .int
  | 52 => .array .int
  | 53 => .array .int
  | 54 => .array .int
  | 55 => .array .int
  | 56 => .array .int
  | 57 => .array .int
  | 58 => .boolean
  | 59 => .int
  | 60 => .array .int
  | 61 => .int
  | 62 => .boolean
  | 63 => .int
  | 64 => .int
  | 65 => .array .int
  | 66 => .array .int
  | _ => .array .int
abbrev vwCl : List vw_C := [(RX0, TX0, 4), (RX1, TX1, 5), (RX2, TX2, 2), (RX3, TX3, 3), (RX4, TX4, 7), (RX5, TX5, 4), (RX6, TX6, 7), (RX7, TX7, 6), (RX8, TX8, 18), (RX9, TX9, 7), (RX10, TX10, 17), (RX11, TX11, 68)]
def am_T (c : Nat) : u_T := match c with
  | 0 => TX0
  | 1 => TX1
  | 2 => TX2
  | 3 => TX3
  | 4 => TX4
  | 5 => TX5
  | 6 => TX6
  | 7 => TX7
  | 8 => TX8
  | 9 => TX9
  | 10 => TX10
  | _ => TX11
def am_ty (c : Nat) : Nat → FieldType := match c with
  | 0 => tyX0
  | 1 => tyX1
  | 2 => tyX2
  | 3 => tyX3
  | 4 => tyX4
  | 5 => tyX5
  | 6 => tyX6
  | 7 => tyX7
  | 8 => tyX8
  | 9 => tyX9
  | 10 => tyX10
  | _ => tyX11
def am_nf (c : Nat) : Nat := match c with
  | 0 => 4
  | 1 => 5
  | 2 => 2
  | 3 => 3
  | 4 => 7
  | 5 => 4
  | 6 => 7
  | 7 => 6
  | 8 => 18
  | 9 => 7
  | 10 => 17
  | _ => 68
def am_cn (c : Nat) : String := match c with
  | 0 => RX0
  | 1 => RX1
  | 2 => RX2
  | 3 => RX3
  | 4 => RX4
  | 5 => RX5
  | 6 => RX6
  | 7 => RX7
  | 8 => RX8
  | 9 => RX9
  | 10 => RX10
  | _ => RX11
theorem am_cl : ∀ c, c < 12 → vwCl[c]? = some (am_cn c, am_T c, am_nf c) := by
  intro c hc
  match c, hc with
  | 0, _ => rfl
  | 1, _ => rfl
  | 2, _ => rfl
  | 3, _ => rfl
  | 4, _ => rfl
  | 5, _ => rfl
  | 6, _ => rfl
  | 7, _ => rfl
  | 8, _ => rfl
  | 9, _ => rfl
  | 10, _ => rfl
  | 11, _ => rfl
theorem am_nm : ∀ c, c < 12 → ∀ a, a < am_nf c → ∀ b, b < am_nf c → a ≠ b → (am_T c a).2.1 ≠ (am_T c b).2.1 := by decide +kernel
theorem am_tyok : ∀ c, c < 12 → ∀ k, k < am_nf c → parseFieldDescriptor (am_T c k).2.2.1 = some (am_ty c k) := by decide +kernel
theorem am_dcl : ∀ c, c < 12 → ∀ k, k < am_nf c → (am_T c k).1 = am_cn c := by decide +kernel
theorem am_wf0 : ∀ w ∈ u_ws RX0 TX0 4, w ∈ lw_tbl := fun w h => (goodIn_r (u_ws RX0 TX0 4) [383, 385, 387, 389] (by decide +kernel) (by decide +kernel) w h).1
theorem am_wf1 : ∀ w ∈ u_ws RX1 TX1 5, w ∈ lw_tbl := fun w h => (goodIn_r (u_ws RX1 TX1 5) [409, 411, 413, 415, 417] (by decide +kernel) (by decide +kernel) w h).1
theorem am_wf2 : ∀ w ∈ u_ws RX2 TX2 2, w ∈ lw_tbl := fun w h => (goodIn_r (u_ws RX2 TX2 2) [367, 369] (by decide +kernel) (by decide +kernel) w h).1
theorem am_wf3 : ∀ w ∈ u_ws RX3 TX3 3, w ∈ lw_tbl := fun w h => (goodIn_r (u_ws RX3 TX3 3) [455, 457, 459] (by decide +kernel) (by decide +kernel) w h).1
theorem am_wf4 : ∀ w ∈ u_ws RX4 TX4 7, w ∈ lw_tbl := fun w h => (goodIn_r (u_ws RX4 TX4 7) [343, 345, 347, 349, 351, 353, 355] (by decide +kernel) (by decide +kernel) w h).1
theorem am_wf5 : ∀ w ∈ u_ws RX5 TX5 4, w ∈ lw_tbl := fun w h => (goodIn_r (u_ws RX5 TX5 4) [435, 437, 439, 441] (by decide +kernel) (by decide +kernel) w h).1
theorem am_wf6 : ∀ w ∈ u_ws RX6 TX6 7, w ∈ lw_tbl := fun w h => (goodIn_r (u_ws RX6 TX6 7) [184, 186, 188, 190, 192, 194, 196] (by decide +kernel) (by decide +kernel) w h).1
theorem am_wf7 : ∀ w ∈ u_ws RX7 TX7 6, w ∈ lw_tbl := fun w h => (goodIn_r (u_ws RX7 TX7 6) [217, 219, 221, 223, 225, 227] (by decide +kernel) (by decide +kernel) w h).1
theorem am_wf8 : ∀ w ∈ u_ws RX8 TX8 18, w ∈ lw_tbl := fun w h => (goodIn_r (u_ws RX8 TX8 18) [287, 289, 291, 293, 295, 297, 299, 301, 303, 305, 307, 309, 311, 313, 315, 317, 319, 321] (by decide +kernel) (by decide +kernel) w h).1
theorem am_wf9 : ∀ w ∈ u_ws RX9 TX9 7, w ∈ lw_tbl := fun w h => (goodIn_r (u_ws RX9 TX9 7) [159, 161, 163, 165, 167, 169, 171] (by decide +kernel) (by decide +kernel) w h).1
theorem am_wf10 : ∀ w ∈ u_ws RX10 TX10 17, w ∈ lw_tbl := fun w h => (goodIn_r (u_ws RX10 TX10 17) [479, 481, 483, 485, 487, 489, 491, 493, 495, 497, 499, 501, 503, 505, 507, 509, 511] (by decide +kernel) (by decide +kernel) w h).1
theorem am_wf11 : ∀ w ∈ u_ws RX11 TX11 68, w ∈ lw_tbl := fun w h => (goodIn_r (u_ws RX11 TX11 68) [1462, 1464, 1466, 1468, 1470, 1472, 1474, 1476, 1478, 1480, 1482, 1484, 1486, 1488, 1490, 1492, 1494, 1496, 1498, 1500, 1502, 1504, 1506, 1508, 1510, 1512, 1514, 1516, 1518, 1520, 1522, 1524, 1526, 1528, 1530, 1532, 1534, 1536, 1538, 1540, 1542, 1544, 1546, 1548, 1550, 1552, 1554, 1556, 1558, 1560, 1562, 1564, 1566, 1568, 1570, 1572, 1574, 1576, 1578, 1580, 1582, 1584, 1586, 1588, 1590, 1592, 1594, 1596] (by decide +kernel) (by decide +kernel) w h).1
theorem am_wf : ∀ c, c < 12 → ∀ w ∈ u_ws (am_cn c) (am_T c) (am_nf c), w ∈ lw_tbl := by
  intro c hc
  match c, hc with
  | 0, _ => exact am_wf0
  | 1, _ => exact am_wf1
  | 2, _ => exact am_wf2
  | 3, _ => exact am_wf3
  | 4, _ => exact am_wf4
  | 5, _ => exact am_wf5
  | 6, _ => exact am_wf6
  | 7, _ => exact am_wf7
  | 8, _ => exact am_wf8
  | 9, _ => exact am_wf9
  | 10, _ => exact am_wf10
  | 11, _ => exact am_wf11
theorem am_in0 : Cond.instantiable RX0 4 ∈ lw_tbl := am_mem 373 (by decide +kernel)
theorem am_in1 : Cond.instantiable RX1 5 ∈ lw_tbl := am_mem 394 (by decide +kernel)
theorem am_in2 : Cond.instantiable RX2 2 ∈ lw_tbl := am_mem 359 (by decide +kernel)
theorem am_in3 : Cond.instantiable RX3 3 ∈ lw_tbl := am_mem 445 (by decide +kernel)
theorem am_in4 : Cond.instantiable RX4 7 ∈ lw_tbl := am_mem 325 (by decide +kernel)
theorem am_in5 : Cond.instantiable RX5 4 ∈ lw_tbl := am_mem 421 (by decide +kernel)
theorem am_in6 : Cond.instantiable RX6 7 ∈ lw_tbl := am_mem 137 (by decide +kernel)
theorem am_in7 : Cond.instantiable RX7 6 ∈ lw_tbl := am_mem 206 (by decide +kernel)
theorem am_in8 : Cond.instantiable RX8 18 ∈ lw_tbl := am_mem 200 (by decide +kernel)
theorem am_in9 : Cond.instantiable RX9 7 ∈ lw_tbl := am_mem 143 (by decide +kernel)
theorem am_in10 : Cond.instantiable RX10 17 ∈ lw_tbl := am_mem 129 (by decide +kernel)
theorem am_in11 : Cond.instantiable RX11 68 ∈ lw_tbl := am_mem 1385 (by decide +kernel)
theorem am_in : ∀ c, c < 12 → Cond.instantiable (am_cn c) (am_nf c) ∈ lw_tbl := by
  intro c hc
  match c, hc with
  | 0, _ => exact am_in0
  | 1, _ => exact am_in1
  | 2, _ => exact am_in2
  | 3, _ => exact am_in3
  | 4, _ => exact am_in4
  | 5, _ => exact am_in5
  | 6, _ => exact am_in6
  | 7, _ => exact am_in7
  | 8, _ => exact am_in8
  | 9, _ => exact am_in9
  | 10, _ => exact am_in10
  | 11, _ => exact am_in11
theorem am_ini0 : Cond.initialized RX0 ∈ lw_tbl := am_mem 110 (by decide +kernel)
theorem am_ini1 : Cond.initialized RX1 ∈ lw_tbl := am_mem 111 (by decide +kernel)
theorem am_ini2 : Cond.initialized RX2 ∈ lw_tbl := am_mem 109 (by decide +kernel)
theorem am_ini3 : Cond.initialized RX3 ∈ lw_tbl := am_mem 113 (by decide +kernel)
theorem am_ini4 : Cond.initialized RX4 ∈ lw_tbl := am_mem 108 (by decide +kernel)
theorem am_ini5 : Cond.initialized RX5 ∈ lw_tbl := am_mem 112 (by decide +kernel)
theorem am_ini6 : Cond.initialized RX6 ∈ lw_tbl := am_mem 104 (by decide +kernel)
theorem am_ini7 : Cond.initialized RX7 ∈ lw_tbl := am_mem 107 (by decide +kernel)
theorem am_ini8 : Cond.initialized RX8 ∈ lw_tbl := am_mem 106 (by decide +kernel)
theorem am_ini9 : Cond.initialized RX9 ∈ lw_tbl := am_mem 105 (by decide +kernel)
theorem am_ini10 : Cond.initialized RX10 ∈ lw_tbl := am_mem 103 (by decide +kernel)
theorem am_ini11 : Cond.initialized RX11 ∈ lw_tbl := am_mem 114 (by decide +kernel)
theorem am_ini : ∀ c, c < 12 → Cond.initialized (am_cn c) ∈ lw_tbl := by
  intro c hc
  match c, hc with
  | 0, _ => exact am_ini0
  | 1, _ => exact am_ini1
  | 2, _ => exact am_ini2
  | 3, _ => exact am_ini3
  | 4, _ => exact am_ini4
  | 5, _ => exact am_ini5
  | 6, _ => exact am_ini6
  | 7, _ => exact am_ini7
  | 8, _ => exact am_ini8
  | 9, _ => exact am_ini9
  | 10, _ => exact am_ini10
  | 11, _ => exact am_ini11
abbrev am_Y : Type := MethodName × ByteArray × Nat × Option FieldType × List (Nat × Nat × Nat × Nat)
def am_ys0 : List am_Y := [(⟨"SaltMinds$Court", "<init>", "()V"⟩, prog_2_method_1_code, 1, none, []),
  (⟨"SaltMinds$Court", "add", "(IIZ)V"⟩, prog_2_method_2_code, 4, none, []),
  (⟨"SaltMinds$Court", "fits", "(II)Z"⟩, prog_2_method_3_code, 4, some (.boolean), []),
  (⟨"SaltMinds$Court", "copyAll", "(LSaltMinds$Court;)V"⟩, prog_2_method_4_code, 3, none, []),
  (⟨"SaltMinds$Diet", "<init>", "()V"⟩, prog_3_method_1_code, 2, none, []),
  (⟨"SaltMinds$Diet", "searchFor", "(LSaltMinds$Tale;LSaltMinds$Minds;III)I"⟩, prog_3_method_2_code, 6, some (.int), []),
  (⟨"SaltMinds$Diet", "tryDay", "(LSaltMinds$Tale;IIIII)V"⟩, prog_3_method_3_code, 10, none, []),
  (⟨"SaltMinds$History", "<init>", "()V"⟩, prog_4_method_1_code, 1, none, []),
  (⟨"SaltMinds$History", "push", "(LSaltMinds$Minds;)V"⟩, prog_4_method_2_code, 2, none, []),
  (⟨"SaltMinds$History", "popInto", "(LSaltMinds$Minds;)V"⟩, prog_4_method_3_code, 2, none, []),
  (⟨"SaltMinds$History", "copyAll", "(LSaltMinds$History;)V"⟩, prog_4_method_4_code, 2, none, []),
  (⟨"SaltMinds$Market", "<init>", "()V"⟩, prog_5_method_1_code, 1, none, []),
  (⟨"SaltMinds$Market", "soldAt", "(ILSaltMinds$Minds;I)I"⟩, prog_5_method_2_code, 6, some (.int), []),
  (⟨"SaltMinds$Market", "ask", "(LSaltMinds$Minds;I)V"⟩, prog_5_method_3_code, 5, none, []),
  (⟨"SaltMinds$Market", "isResting", "(II)Z"⟩, prog_5_method_4_code, 4, some (.boolean), []),
  (⟨"SaltMinds$Market", "firstGains", "(II)I"⟩, prog_5_method_5_code, 3, some (.int), []),
  (⟨"SaltMinds$Market", "secondGains", "(II)I"⟩, prog_5_method_6_code, 3, some (.int), []),
  (⟨"SaltMinds$Minds", "<init>", "()V"⟩, prog_6_method_1_code, 2, none, []),
  (⟨"SaltMinds$Minds", "beginAnew", "(LSaltMinds$Tale;)V"⟩, prog_6_method_2_code, 2, none, []),
  (⟨"SaltMinds$Minds", "copyAll", "(LSaltMinds$Minds;)V"⟩, prog_6_method_3_code, 2, none, []),
  (⟨"SaltMinds$Minds", "copyPerson", "(LSaltMinds$Minds;I)V"⟩, prog_6_method_4_code, 4, none, []),
  (⟨"SaltMinds$Minds", "writeTo", "([II)V"⟩, prog_6_method_5_code, 3, none, []),
  (⟨"SaltMinds$Minds", "readFrom", "([II)V"⟩, prog_6_method_6_code, 3, none, []),
  (⟨"SaltMinds$Minds", "codeOf", "(II)I"⟩, prog_6_method_7_code, 4, some (.int), []),
  (⟨"SaltMinds$Minds", "setCode", "(III)V"⟩, prog_6_method_8_code, 5, none, []),
  (⟨"SaltMinds$Minds", "isTold", "(I)Z"⟩, prog_6_method_9_code, 1, some (.boolean), []),
  (⟨"SaltMinds$Minds", "lastDay", "(I)I"⟩, prog_6_method_10_code, 1, some (.int), []),
  (⟨"SaltMinds$Minds", "recalls", "(II)Z"⟩, prog_6_method_11_code, 3, some (.boolean), []),
  (⟨"SaltMinds$Minds", "factsOf", "(I)I"⟩, prog_6_method_12_code, 4, some (.int), []),
  (⟨"SaltMinds$Minds", "factsOfAll", "()I"⟩, prog_6_method_13_code, 3, some (.int), []),
  (⟨"SaltMinds$Minds", "whoRecalls", "(I)I"⟩, prog_6_method_14_code, 4, some (.int), []),
  (⟨"SaltMinds$Minds", "recalledInAll", "()I"⟩, prog_6_method_15_code, 3, some (.int), []),
  (⟨"SaltMinds$Minds", "isSure", "(II)Z"⟩, prog_6_method_16_code, 4, some (.boolean), []),
  (⟨"SaltMinds$Minds", "hear", "(II)V"⟩, prog_6_method_17_code, 3, none, []),
  (⟨"SaltMinds$Minds", "tellAll", "(II)V"⟩, prog_6_method_18_code, 4, none, []),
  (⟨"SaltMinds$Minds", "passDay", "(LSaltMinds$Tale;I)I"⟩, prog_6_method_19_code, 6, some (.int), []),
  (⟨"SaltMinds$Minds", "seatOf", "(I)I"⟩, prog_6_method_20_code, 3, some (.int), []),
  (⟨"SaltMinds$Minds", "buyGrains", "(LSaltMinds$Tale;I)V"⟩, prog_6_method_21_code, 6, none, []),
  (⟨"SaltMinds$Minds", "learnToday", "(LSaltMinds$Tale;)V"⟩, prog_6_method_22_code, 4, none, []),
  (⟨"SaltMinds$Minds", "learn", "(II)V"⟩, prog_6_method_23_code, 4, none, [])]
def am_ys1 : List am_Y := [(⟨"SaltMinds$Minds", "keepFacts", "(LSaltMinds$Tale;III)V"⟩, prog_6_method_24_code, 10, none, []),
  (⟨"SaltMinds$Minds", "passMidnight", "(LSaltMinds$Tale;)I"⟩, prog_6_method_25_code, 4, some (.int), []),
  (⟨"SaltMinds$Minds", "loseFacts", "(I)I"⟩, prog_6_method_26_code, 4, some (.int), []),
  (⟨"SaltMinds$Minds", "passAlone", "(LSaltMinds$Tale;II)V"⟩, prog_6_method_27_code, 4, none, []),
  (⟨"SaltMinds$Rations", "<init>", "()V"⟩, prog_7_method_1_code, 1, none, []),
  (⟨"SaltMinds$Rations", "divide", "(II)I"⟩, prog_7_method_2_code, 5, some (.int), []),
  (⟨"SaltMinds$Rations", "mostOf", "(II)I"⟩, prog_7_method_3_code, 5, some (.int), []),
  (⟨"SaltMinds$Rations", "sumWith", "(III)I"⟩, prog_7_method_4_code, 5, some (.int), []),
  (⟨"SaltMinds$Rations", "giveOut", "(II)V"⟩, prog_7_method_5_code, 6, none, []),
  (⟨"SaltMinds$Reader", "<init>", "()V"⟩, prog_8_method_1_code, 1, none, []),
  (⟨"SaltMinds$Reader", "readText", "(ILSaltMinds$Tale;)I"⟩, prog_8_method_2_code, 4, some (.int), []),
  (⟨"SaltMinds$Reader", "readPersonLine", "(LSaltMinds$Tale;)V"⟩, prog_8_method_3_code, 3, none, []),
  (⟨"SaltMinds$Reader", "readFactLine", "(LSaltMinds$Tale;)V"⟩, prog_8_method_4_code, 5, none, []),
  (⟨"SaltMinds$Reader", "readTalkLine", "(LSaltMinds$Tale;)V"⟩, prog_8_method_5_code, 4, none, []),
  (⟨"SaltMinds$Reader", "readPriceLine", "(LSaltMinds$Tale;)V"⟩, prog_8_method_6_code, 5, none, []),
  (⟨"SaltMinds$Reader", "readKeepsLine", "(LSaltMinds$Tale;)V"⟩, prog_8_method_7_code, 3, none, []),
  (⟨"SaltMinds$Reader", "readPart", "(LSaltMinds$Rule;)V"⟩, prog_8_method_8_code, 2, none, []),
  (⟨"SaltMinds$Reader", "readNot", "(LSaltMinds$Rule;)V"⟩, prog_8_method_9_code, 2, none, []),
  (⟨"SaltMinds$Reader", "readLeaf", "(LSaltMinds$Rule;)V"⟩, prog_8_method_10_code, 3, none, []),
  (⟨"SaltMinds$Reader", "readJoint", "(LSaltMinds$Rule;)V"⟩, prog_8_method_11_code, 5, none, []),
  (⟨"SaltMinds$Reader", "readClosing", "(LSaltMinds$Rule;)V"⟩, prog_8_method_12_code, 2, none, []),
  (⟨"SaltMinds$Reader", "expectPart", "(Z)V"⟩, prog_8_method_13_code, 2, none, []),
  (⟨"SaltMinds$Reader", "readNumber", "(II)I"⟩, prog_8_method_14_code, 4, some (.int), []),
  (⟨"SaltMinds$Reader", "readPerson", "(LSaltMinds$Tale;I)I"⟩, prog_8_method_15_code, 4, some (.int), []),
  (⟨"SaltMinds$Reader", "bit", "(I)I"⟩, prog_8_method_16_code, 1, some (.int), []),
  (⟨"SaltMinds$Reader", "needSemicolon", "()V"⟩, prog_8_method_17_code, 1, none, []),
  (⟨"SaltMinds$Reader", "refuse", "(I)V"⟩, prog_8_method_18_code, 2, none, []),
  (⟨"SaltMinds$Reader", "refuseAt", "(II)V"⟩, prog_8_method_19_code, 3, none, []),
  (⟨"SaltMinds$Rule", "<init>", "()V"⟩, prog_9_method_1_code, 1, none, []),
  (⟨"SaltMinds$Rule", "valueNamed", "(LSaltMinds$Tape;)I"⟩, prog_9_method_2_code, 1, some (.int), []),
  (⟨"SaltMinds$Rule", "jointNamed", "(LSaltMinds$Tape;)I"⟩, prog_9_method_3_code, 1, some (.int), []),
  (⟨"SaltMinds$Rule", "strengthOf", "(I)I"⟩, prog_9_method_4_code, 1, some (.int), []),
  (⟨"SaltMinds$Rule", "clearAll", "()V"⟩, prog_9_method_5_code, 1, none, []),
  (⟨"SaltMinds$Rule", "add", "(I)V"⟩, prog_9_method_6_code, 2, none, []),
  (⟨"SaltMinds$Rule", "hold", "(I)V"⟩, prog_9_method_7_code, 2, none, []),
  (⟨"SaltMinds$Rule", "heldStrength", "()I"⟩, prog_9_method_8_code, 1, some (.int), []),
  (⟨"SaltMinds$Rule", "settle", "(I)V"⟩, prog_9_method_9_code, 3, none, []),
  (⟨"SaltMinds$Rule", "dropOpen", "()V"⟩, prog_9_method_10_code, 1, none, []),
  (⟨"SaltMinds$Rule", "setValue", "(II)V"⟩, prog_9_method_11_code, 3, none, []),
  (⟨"SaltMinds$Rule", "result", "()I"⟩, prog_9_method_12_code, 4, some (.int), [])]
def am_ys2 : List am_Y := [(⟨"SaltMinds$Rule", "joined", "(III)I"⟩, prog_9_method_13_code, 3, some (.int), []),
  (⟨"SaltMinds$Tale", "<init>", "()V"⟩, prog_10_method_1_code, 1, none, []),
  (⟨"SaltMinds$Tale", "clearAll", "()V"⟩, prog_10_method_2_code, 1, none, []),
  (⟨"SaltMinds$Tale", "allFacts", "()I"⟩, prog_10_method_3_code, 1, some (.int), []),
  (⟨"SaltMinds$Tale", "weightOf", "(I)I"⟩, prog_10_method_4_code, 4, some (.int), []),
  (⟨"SaltMinds$Tale", "hasPriceFrom", "(I)Z"⟩, prog_10_method_5_code, 3, some (.boolean), []),
  (⟨"SaltMinds$Tale", "priceOn", "(I)I"⟩, prog_10_method_6_code, 5, some (.int), []),
  (⟨"SaltMinds$Tale", "talkersWith", "(I)I"⟩, prog_10_method_7_code, 4, some (.int), []),
  (⟨"SaltMinds$Tale", "measureTalks", "(I[I)V"⟩, prog_10_method_8_code, 7, none, []),
  (⟨"SaltMinds$Tale", "isHeld", "(II)Z"⟩, prog_10_method_9_code, 4, some (.boolean), []),
  (⟨"SaltMinds$Tape", "<init>", "()V"⟩, prog_11_method_1_code, 1, none, []),
  (⟨"SaltMinds$Tape", "hasRoomFor", "(I)Z"⟩, prog_11_method_2_code, 2, some (.boolean), []),
  (⟨"SaltMinds$Tape", "addBytes", "(I)V"⟩, prog_11_method_3_code, 3, none, []),
  (⟨"SaltMinds$Tape", "openText", "(I)V"⟩, prog_11_method_4_code, 2, none, []),
  (⟨"SaltMinds$Tape", "advance", "()V"⟩, prog_11_method_5_code, 3, none, []),
  (⟨"SaltMinds$Tape", "readDigits", "(I)V"⟩, prog_11_method_6_code, 3, none, []),
  (⟨"SaltMinds$Tape", "isWord", "(Ljava/lang/String;)Z"⟩, prog_11_method_7_code, 3, some (.boolean), []),
  (⟨"SaltMinds$Tape", "isSign", "(C)Z"⟩, prog_11_method_8_code, 2, some (.boolean), []),
  (⟨"SaltMinds$Tape", "byteAt", "(I)I"⟩, prog_11_method_9_code, 2, some (.int), []),
  (⟨"SaltMinds$Tape", "isBlank", "(I)Z"⟩, prog_11_method_10_code, 1, some (.boolean), []),
  (⟨"SaltMinds$Tape", "isLetter", "(I)Z"⟩, prog_11_method_11_code, 1, some (.boolean), []),
  (⟨"SaltMinds$Tape", "isDigit", "(I)Z"⟩, prog_11_method_12_code, 1, some (.boolean), []),
  (⟨"SaltMinds$Tape", "isSignByte", "(I)Z"⟩, prog_11_method_13_code, 1, some (.boolean), []),
  (⟨"SaltMinds", "<init>", "()V"⟩, prog_1_method_1_code, 1, none, []),
  (⟨"SaltMinds", "feed", "(IIIII)I"⟩, prog_1_method_2_code, 7, some (.int), []),
  (⟨"SaltMinds", "salt", "(I)I"⟩, prog_1_method_3_code, 4, some (.int), []),
  (⟨"SaltMinds", "fault", "()I"⟩, prog_1_method_4_code, 1, some (.int), []),
  (⟨"SaltMinds", "count", "(I)I"⟩, prog_1_method_5_code, 2, some (.int), []),
  (⟨"SaltMinds", "person", "(II)I"⟩, prog_1_method_6_code, 3, some (.int), []),
  (⟨"SaltMinds", "fact", "(II)I"⟩, prog_1_method_7_code, 3, some (.int), []),
  (⟨"SaltMinds", "until", "(II)I"⟩, prog_1_method_8_code, 3, some (.int), []),
  (⟨"SaltMinds", "grains", "(II)I"⟩, prog_1_method_9_code, 4, some (.int), []),
  (⟨"SaltMinds", "sit", "(II)I"⟩, prog_1_method_10_code, 4, some (.int), []),
  (⟨"SaltMinds", "tell", "(III)Z"⟩, prog_1_method_11_code, 4, some (.boolean), []),
  (⟨"SaltMinds", "days", "(I)I"⟩, prog_1_method_12_code, 4, some (.int), []),
  (⟨"SaltMinds", "undo", "()I"⟩, prog_1_method_13_code, 1, some (.int), []),
  (⟨"SaltMinds", "ahead", "(II)I"⟩, prog_1_method_14_code, 3, some (.int), []),
  (⟨"SaltMinds", "blank", "(II)I"⟩, prog_1_method_15_code, 6, some (.int), []),
  (⟨"SaltMinds", "enough", "(III)I"⟩, prog_1_method_16_code, 5, some (.int), []),
  (⟨"SaltMinds", "cheapest", "(III)I"⟩, prog_1_method_17_code, 4, some (.int), [])]
def am_ys3 : List am_Y := [(⟨"SaltMinds", "row", "(I)I"⟩, prog_1_method_18_code, 2, some (.int), []),
  (⟨"SaltMinds", "witnesses", "(III)I"⟩, prog_1_method_19_code, 7, some (.int), []),
  (⟨"SaltMinds", "rations", "(II)I"⟩, prog_1_method_20_code, 5, some (.int), []),
  (⟨"SaltMinds", "ration", "(I)I"⟩, prog_1_method_21_code, 2, some (.int), []),
  (⟨"SaltMinds", "steps", "(II)I"⟩, prog_1_method_22_code, 3, some (.int), []),
  (⟨"SaltMinds", "teller", "(I)I"⟩, prog_1_method_23_code, 8, some (.int), []),
  (⟨"SaltMinds", "gathering", "(I)I"⟩, prog_1_method_24_code, 5, some (.int), []),
  (⟨"SaltMinds", "holds", "(I)Z"⟩, prog_1_method_25_code, 2, some (.boolean), []),
  (⟨"SaltMinds", "owed", "(I)I"⟩, prog_1_method_26_code, 2, some (.int), []),
  (⟨"SaltMinds", "profits", "(I)I"⟩, prog_1_method_27_code, 6, some (.int), []),
  (⟨"SaltMinds", "see", "(IIZ)I"⟩, prog_1_method_28_code, 4, some (.int), []),
  (⟨"SaltMinds", "forget", "()V"⟩, prog_1_method_29_code, 1, none, []),
  (⟨"SaltMinds", "ate", "(II)I"⟩, prog_1_method_30_code, 4, some (.int), []),
  (⟨"SaltMinds", "blamed", "()I"⟩, prog_1_method_31_code, 3, some (.int), []),
  (⟨"SaltMinds", "merchants", "(I)I"⟩, prog_1_method_32_code, 2, some (.int), []),
  (⟨"SaltMinds", "corner", "(I)I"⟩, prog_1_method_33_code, 3, some (.int), []),
  (⟨"SaltMinds", "season", "(III)I"⟩, prog_1_method_34_code, 5, some (.int), []),
  (⟨"SaltMinds", "feast", "(I)I"⟩, prog_1_method_35_code, 3, some (.int), []),
  (⟨"SaltMinds", "sick", "(II)I"⟩, prog_1_method_36_code, 4, some (.int), []),
  (⟨"SaltMinds", "spent", "(I)I"⟩, prog_1_method_37_code, 4, some (.int), []),
  (⟨"SaltMinds", "image", "()V"⟩, prog_1_method_38_code, 1, none, []),
  (⟨"SaltMinds", "restore", "()Z"⟩, prog_1_method_39_code, 1, some (.boolean), []),
  (⟨"SaltMinds", "needPerson", "(I)V"⟩, prog_1_method_40_code, 2, none, []),
  (⟨"SaltMinds", "needFact", "(I)V"⟩, prog_1_method_41_code, 2, none, []),
  (⟨"SaltMinds", "needBetween", "(III)V"⟩, prog_1_method_42_code, 3, none, []),
  (⟨"SaltMinds", "has", "(II)Z"⟩, prog_1_method_43_code, 2, some (.boolean), []),
  (⟨"SaltMinds", "lookAhead", "(II)V"⟩, prog_1_method_44_code, 4, none, []),
  (⟨"SaltMinds", "recalledAlone", "(III)I"⟩, prog_1_method_45_code, 6, some (.int), []),
  (⟨"SaltMinds", "witnessedBy", "(I)I"⟩, prog_1_method_46_code, 4, some (.int), []),
  (⟨"SaltMinds", "reachedPeople", "()I"⟩, prog_1_method_47_code, 3, some (.int), []),
  (⟨"SaltMinds", "talksInAll", "()I"⟩, prog_1_method_48_code, 3, some (.int), []),
  (⟨"SaltMinds", "owedIn", "(LSaltMinds$Minds;I)I"⟩, prog_1_method_49_code, 5, some (.int), []),
  (⟨"SaltMinds", "grainsThatFit", "(I)I"⟩, prog_1_method_50_code, 4, some (.int), []),
  (⟨"SaltMinds", "playSeason", "(II)I"⟩, prog_1_method_51_code, 7, some (.int), []),
  (⟨"SaltMinds", "nextSeed", "(I)I"⟩, prog_1_method_52_code, 1, some (.int), []),
  (⟨"SaltMinds", "drawn", "(II)I"⟩, prog_1_method_53_code, 2, some (.int), []),
  (⟨"SaltMindsModel", "<init>", "()V"⟩, prog_13_method_1_code, 1, none, []),
  (⟨"SaltMindsModel", "thrown", "()I"⟩, prog_13_method_2_code, 1, some (.int), []),
  (⟨"SaltMindsModel", "right", "(ZI)Z"⟩, prog_13_method_3_code, 3, some (.boolean), []),
  (⟨"SaltMindsModel", "within", "(III)Z"⟩, prog_13_method_4_code, 3, some (.boolean), [])]
def am_ys4 : List am_Y := [(⟨"SaltMindsModel", "copies", "([I[I)V"⟩, prog_13_method_5_code, 4, none, []),
  (⟨"SaltMindsModel", "bits", "(I)I"⟩, prog_13_method_6_code, 3, some (.int), []),
  (⟨"SaltMindsModel", "feed", "(IIIII)I"⟩, prog_13_method_7_code, 6, some (.int), []),
  (⟨"SaltMindsModel", "lays", "(I)V"⟩, prog_13_method_8_code, 3, none, []),
  (⟨"SaltMindsModel", "byteAt", "(I)I"⟩, prog_13_method_9_code, 2, some (.int), []),
  (⟨"SaltMindsModel", "isLetter", "(I)Z"⟩, prog_13_method_10_code, 1, some (.boolean), []),
  (⟨"SaltMindsModel", "isDigit", "(I)Z"⟩, prog_13_method_11_code, 1, some (.boolean), []),
  (⟨"SaltMindsModel", "goes", "()V"⟩, prog_13_method_12_code, 2, none, []),
  (⟨"SaltMindsModel", "spelled", "(IIIIII)J"⟩, prog_13_method_13_code, 8, some (.long), []),
  (⟨"SaltMindsModel", "letters", "(I)J"⟩, prog_13_method_14_code, 1, some (.long), []),
  (⟨"SaltMindsModel", "knownWord", "()I"⟩, prog_13_method_15_code, 2, some (.int), []),
  (⟨"SaltMindsModel", "wrong", "(I)V"⟩, prog_13_method_16_code, 2, none, []),
  (⟨"SaltMindsModel", "isGood", "()Z"⟩, prog_13_method_17_code, 1, some (.boolean), []),
  (⟨"SaltMindsModel", "isSign", "(I)Z"⟩, prog_13_method_18_code, 2, some (.boolean), []),
  (⟨"SaltMindsModel", "need", "(Z)V"⟩, prog_13_method_19_code, 2, none, []),
  (⟨"SaltMindsModel", "number", "(II)I"⟩, prog_13_method_20_code, 4, some (.int), []),
  (⟨"SaltMindsModel", "oneHere", "()I"⟩, prog_13_method_21_code, 1, some (.int), []),
  (⟨"SaltMindsModel", "puts", "(I)V"⟩, prog_13_method_22_code, 2, none, []),
  (⟨"SaltMindsModel", "isOpen", "(I)Z"⟩, prog_13_method_23_code, 1, some (.boolean), []),
  (⟨"SaltMindsModel", "strength", "(I)I"⟩, prog_13_method_24_code, 1, some (.int), []),
  (⟨"SaltMindsModel", "drops", "(I)V"⟩, prog_13_method_25_code, 2, none, []),
  (⟨"SaltMindsModel", "waitsFor", "(I)V"⟩, prog_13_method_26_code, 2, none, []),
  (⟨"SaltMindsModel", "part", "()V"⟩, prog_13_method_27_code, 2, none, []),
  (⟨"SaltMindsModel", "deeper", "()V"⟩, prog_13_method_28_code, 1, none, []),
  (⟨"SaltMindsModel", "operand", "(Z)V"⟩, prog_13_method_29_code, 5, none, []),
  (⟨"SaltMindsModel", "isOpened", "()Z"⟩, prog_13_method_30_code, 2, some (.boolean), []),
  (⟨"SaltMindsModel", "closes", "()V"⟩, prog_13_method_31_code, 1, none, []),
  (⟨"SaltMindsModel", "expression", "()V"⟩, prog_13_method_32_code, 3, none, []),
  (⟨"SaltMindsModel", "readsFact", "()V"⟩, prog_13_method_33_code, 4, none, []),
  (⟨"SaltMindsModel", "readsTalk", "()V"⟩, prog_13_method_34_code, 5, none, []),
  (⟨"SaltMindsModel", "readsPrice", "()V"⟩, prog_13_method_35_code, 2, none, []),
  (⟨"SaltMindsModel", "line", "()V"⟩, prog_13_method_36_code, 2, none, []),
  (⟨"SaltMindsModel", "salt", "(I)I"⟩, prog_13_method_37_code, 2, some (.int), []),
  (⟨"SaltMindsModel", "fault", "()I"⟩, prog_13_method_38_code, 1, some (.int), []),
  (⟨"SaltMindsModel", "begins", "()V"⟩, prog_13_method_39_code, 2, none, []),
  (⟨"SaltMindsModel", "keepsNow", "()V"⟩, prog_13_method_40_code, 2, none, []),
  (⟨"SaltMindsModel", "refuses", "(I)I"⟩, prog_13_method_41_code, 2, some (.int), []),
  (⟨"SaltMindsModel", "undo", "()I"⟩, prog_13_method_42_code, 2, some (.int), []),
  (⟨"SaltMindsModel", "priceOf", "(I)I"⟩, prog_13_method_43_code, 4, some (.int), []),
  (⟨"SaltMindsModel", "recalls", "([III)Z"⟩, prog_13_method_44_code, 3, some (.boolean), [])]
def am_ys5 : List am_Y := [(⟨"SaltMindsModel", "recalled", "([II)I"⟩, prog_13_method_45_code, 5, some (.int), []),
  (⟨"SaltMindsModel", "recallers", "([II)I"⟩, prog_13_method_46_code, 5, some (.int), []),
  (⟨"SaltMindsModel", "couples", "([I)I"⟩, prog_13_method_47_code, 4, some (.int), []),
  (⟨"SaltMindsModel", "count", "(I)I"⟩, prog_13_method_48_code, 2, some (.int), []),
  (⟨"SaltMindsModel", "isPerson", "(I)Z"⟩, prog_13_method_49_code, 2, some (.boolean), []),
  (⟨"SaltMindsModel", "isFact", "(I)Z"⟩, prog_13_method_50_code, 2, some (.boolean), []),
  (⟨"SaltMindsModel", "isWhat", "(II)Z"⟩, prog_13_method_51_code, 3, some (.boolean), []),
  (⟨"SaltMindsModel", "person", "(II)I"⟩, prog_13_method_52_code, 3, some (.int), []),
  (⟨"SaltMindsModel", "fact", "(II)I"⟩, prog_13_method_53_code, 3, some (.int), []),
  (⟨"SaltMindsModel", "until", "(II)I"⟩, prog_13_method_54_code, 4, some (.int), []),
  (⟨"SaltMindsModel", "works", "(III)I"⟩, prog_13_method_55_code, 3, some (.int), []),
  (⟨"SaltMindsModel", "reckons", "()I"⟩, prog_13_method_56_code, 4, some (.int), []),
  (⟨"SaltMindsModel", "keeps", "([IIIIII)I"⟩, prog_13_method_57_code, 8, some (.int), []),
  (⟨"SaltMindsModel", "eats", "([IIII)V"⟩, prog_13_method_58_code, 8, none, []),
  (⟨"SaltMindsModel", "forgets", "([II)I"⟩, prog_13_method_59_code, 5, some (.int), []),
  (⟨"SaltMindsModel", "dinner", "([I)V"⟩, prog_13_method_60_code, 5, none, []),
  (⟨"SaltMindsModel", "dayOf", "([I)I"⟩, prog_13_method_61_code, 4, some (.int), []),
  (⟨"SaltMindsModel", "alone", "([III)V"⟩, prog_13_method_62_code, 4, none, []),
  (⟨"SaltMindsModel", "tells", "([III)V"⟩, prog_13_method_63_code, 4, none, []),
  (⟨"SaltMindsModel", "grains", "(II)I"⟩, prog_13_method_64_code, 4, some (.int), []),
  (⟨"SaltMindsModel", "sit", "(II)I"⟩, prog_13_method_65_code, 4, some (.int), []),
  (⟨"SaltMindsModel", "tell", "(III)Z"⟩, prog_13_method_66_code, 4, some (.boolean), []),
  (⟨"SaltMindsModel", "days", "(I)I"⟩, prog_13_method_67_code, 4, some (.int), []),
  (⟨"SaltMindsModel", "isDays", "(III)Z"⟩, prog_13_method_68_code, 4, some (.boolean), []),
  (⟨"SaltMindsModel", "copiesNow", "()V"⟩, prog_13_method_69_code, 1, none, []),
  (⟨"SaltMindsModel", "ahead", "(II)I"⟩, prog_13_method_70_code, 4, some (.int), []),
  (⟨"SaltMindsModel", "recalledBySome", "([I)I"⟩, prog_13_method_71_code, 4, some (.int), []),
  (⟨"SaltMindsModel", "blank", "(II)I"⟩, prog_13_method_72_code, 8, some (.int), []),
  (⟨"SaltMindsModel", "feast", "(I)I"⟩, prog_13_method_73_code, 2, some (.int), []),
  (⟨"SaltMindsModel", "manyBehind", "(II)I"⟩, prog_13_method_74_code, 4, some (.int), []),
  (⟨"SaltMindsModel", "sick", "(II)I"⟩, prog_13_method_75_code, 5, some (.int), []),
  (⟨"SaltMindsModel", "purses", "([I)I"⟩, prog_13_method_76_code, 4, some (.int), []),
  (⟨"SaltMindsModel", "spent", "(I)I"⟩, prog_13_method_77_code, 3, some (.int), []),
  (⟨"SaltMindsModel", "recalledBehind", "(III)I"⟩, prog_13_method_78_code, 5, some (.int), []),
  (⟨"SaltMindsModel", "enough", "(III)I"⟩, prog_13_method_79_code, 5, some (.int), []),
  (⟨"SaltMindsModel", "cheapest", "(III)I"⟩, prog_13_method_80_code, 10, some (.int), []),
  (⟨"SaltMindsModel", "row", "(I)I"⟩, prog_13_method_81_code, 2, some (.int), []),
  (⟨"SaltMindsModel", "witnesses", "(III)I"⟩, prog_13_method_82_code, 8, some (.int), []),
  (⟨"SaltMindsModel", "weightOf", "(I)I"⟩, prog_13_method_83_code, 4, some (.int), []),
  (⟨"SaltMindsModel", "rations", "(II)I"⟩, prog_13_method_84_code, 8, some (.int), [])]
def am_ys6 : List am_Y := [(⟨"SaltMindsModel", "ration", "(I)I"⟩, prog_13_method_85_code, 2, some (.int), []),
  (⟨"SaltMindsModel", "talkersOf", "(I)I"⟩, prog_13_method_86_code, 6, some (.int), []),
  (⟨"SaltMindsModel", "stepsFrom", "(II)I"⟩, prog_13_method_87_code, 5, some (.int), []),
  (⟨"SaltMindsModel", "steps", "(II)I"⟩, prog_13_method_88_code, 3, some (.int), []),
  (⟨"SaltMindsModel", "teller", "(I)I"⟩, prog_13_method_89_code, 10, some (.int), []),
  (⟨"SaltMindsModel", "gathering", "(I)I"⟩, prog_13_method_90_code, 5, some (.int), []),
  (⟨"SaltMindsModel", "holdsIn", "([II)Z"⟩, prog_13_method_91_code, 7, some (.boolean), []),
  (⟨"SaltMindsModel", "owedBy", "([II)I"⟩, prog_13_method_92_code, 5, some (.int), []),
  (⟨"SaltMindsModel", "holds", "(I)Z"⟩, prog_13_method_93_code, 2, some (.boolean), []),
  (⟨"SaltMindsModel", "owed", "(I)I"⟩, prog_13_method_94_code, 2, some (.int), []),
  (⟨"SaltMindsModel", "profits", "(I)I"⟩, prog_13_method_95_code, 6, some (.int), []),
  (⟨"SaltMindsModel", "see", "(IIZ)I"⟩, prog_13_method_96_code, 4, some (.int), []),
  (⟨"SaltMindsModel", "forget", "()V"⟩, prog_13_method_97_code, 1, none, []),
  (⟨"SaltMindsModel", "isSeen", "(II)Z"⟩, prog_13_method_98_code, 5, some (.boolean), []),
  (⟨"SaltMindsModel", "ateOf", "(II)I"⟩, prog_13_method_99_code, 6, some (.int), []),
  (⟨"SaltMindsModel", "ate", "(II)I"⟩, prog_13_method_100_code, 3, some (.int), []),
  (⟨"SaltMindsModel", "blamed", "()I"⟩, prog_13_method_101_code, 3, some (.int), []),
  (⟨"SaltMindsModel", "buys", "(II)I"⟩, prog_13_method_102_code, 4, some (.int), []),
  (⟨"SaltMindsModel", "buysAll", "(I)I"⟩, prog_13_method_103_code, 4, some (.int), []),
  (⟨"SaltMindsModel", "gains", "(IIZ)I"⟩, prog_13_method_104_code, 5, some (.int), []),
  (⟨"SaltMindsModel", "merchants", "(I)I"⟩, prog_13_method_105_code, 8, some (.int), []),
  (⟨"SaltMindsModel", "corner", "(I)I"⟩, prog_13_method_106_code, 3, some (.int), []),
  (⟨"SaltMindsModel", "draw", "(I)I"⟩, prog_13_method_107_code, 2, some (.int), []),
  (⟨"SaltMindsModel", "tellsAll", "([III)V"⟩, prog_13_method_108_code, 5, none, []),
  (⟨"SaltMindsModel", "season", "(III)I"⟩, prog_13_method_109_code, 8, some (.int), []),
  (⟨"SaltMindsModel", "image", "()V"⟩, prog_13_method_110_code, 1, none, []),
  (⟨"SaltMindsModel", "restore", "()Z"⟩, prog_13_method_111_code, 1, some (.boolean), []),
  (⟨"java/lang/Integer", "numberOfTrailingZeros", "(I)I"⟩, prog_19_method_48_code, 2, some (.int), []),
  (⟨"java/lang/Integer", "bitCount", "(I)I"⟩, prog_19_method_49_code, 1, some (.int), []),
  (⟨"java/lang/Math", "max", "(II)I"⟩, prog_20_method_65_code, 2, some (.int), []),
  (⟨"java/lang/Math", "min", "(II)I"⟩, prog_20_method_69_code, 2, some (.int), []),
  (⟨"java/util/Arrays", "fill", "([II)V"⟩, prog_29_method_103_code, 4, none, []),
  (⟨"SaltMindsLaw", "salt", "(LSaltMinds;I[J)I"⟩, method_3_code, 4, some (.int), [(0, 9, 12, 13)]),
  (⟨"SaltMindsLaw", "count", "(LSaltMinds;I[J)I"⟩, method_4_code, 4, some (.int), [(0, 9, 12, 18)]),
  (⟨"SaltMindsLaw", "person", "(LSaltMinds;II[J)I"⟩, method_5_code, 5, some (.int), [(0, 10, 13, 18)]),
  (⟨"SaltMindsLaw", "fact", "(LSaltMinds;II[J)I"⟩, method_6_code, 5, some (.int), [(0, 10, 13, 18)]),
  (⟨"SaltMindsLaw", "until", "(LSaltMinds;II[J)I"⟩, method_7_code, 5, some (.int), [(0, 10, 13, 18)]),
  (⟨"SaltMindsLaw", "grains", "(LSaltMinds;II[J)I"⟩, method_8_code, 5, some (.int), [(0, 10, 13, 18)]),
  (⟨"SaltMindsLaw", "sit", "(LSaltMinds;II[J)I"⟩, method_9_code, 5, some (.int), [(0, 10, 13, 18)]),
  (⟨"SaltMindsLaw", "tell", "(LSaltMinds;III[J)I"⟩, method_10_code, 6, some (.int), [(0, 19, 22, 18)])]
def am_ys7 : List am_Y := [(⟨"SaltMindsLaw", "ahead", "(LSaltMinds;II[J)I"⟩, method_11_code, 5, some (.int), [(0, 10, 13, 18), (0, 10, 17, 13)]),
  (⟨"SaltMindsLaw", "blank", "(LSaltMinds;II[J)I"⟩, method_12_code, 5, some (.int), [(0, 10, 13, 18), (0, 10, 17, 13)]),
  (⟨"SaltMindsLaw", "enough", "(LSaltMinds;III[J)I"⟩, method_13_code, 6, some (.int), [(0, 12, 15, 18), (0, 12, 19, 13)]),
  (⟨"SaltMindsLaw", "cheapest", "(LSaltMinds;III[J)I"⟩, method_14_code, 6, some (.int), [(0, 12, 15, 18), (0, 12, 19, 13)]),
  (⟨"SaltMindsLaw", "row", "(LSaltMinds;I[J)I"⟩, method_15_code, 4, some (.int), [(0, 9, 12, 18)]),
  (⟨"SaltMindsLaw", "witnesses", "(LSaltMinds;III[J)I"⟩, method_16_code, 6, some (.int), [(0, 12, 15, 13)]),
  (⟨"SaltMindsLaw", "rations", "(LSaltMinds;II[J)I"⟩, method_17_code, 5, some (.int), [(0, 10, 13, 13)]),
  (⟨"SaltMindsLaw", "ration", "(LSaltMinds;I[J)I"⟩, method_18_code, 4, some (.int), [(0, 9, 12, 18)]),
  (⟨"SaltMindsLaw", "steps", "(LSaltMinds;II[J)I"⟩, method_19_code, 5, some (.int), [(0, 10, 13, 18)]),
  (⟨"SaltMindsLaw", "teller", "(LSaltMinds;I[J)I"⟩, method_20_code, 4, some (.int), [(0, 9, 12, 18)]),
  (⟨"SaltMindsLaw", "gathering", "(LSaltMinds;I[J)I"⟩, method_21_code, 4, some (.int), [(0, 9, 12, 18)]),
  (⟨"SaltMindsLaw", "holds", "(LSaltMinds;I[J)I"⟩, method_22_code, 4, some (.int), [(0, 16, 19, 18)]),
  (⟨"SaltMindsLaw", "owed", "(LSaltMinds;I[J)I"⟩, method_23_code, 4, some (.int), [(0, 9, 12, 18)]),
  (⟨"SaltMindsLaw", "profits", "(LSaltMinds;I[J)I"⟩, method_24_code, 4, some (.int), [(0, 9, 12, 13)]),
  (⟨"SaltMindsLaw", "see", "(LSaltMinds;IIZ[J)I"⟩, method_25_code, 6, some (.int), [(0, 12, 15, 18)]),
  (⟨"SaltMindsLaw", "ate", "(LSaltMinds;II[J)I"⟩, method_26_code, 5, some (.int), [(0, 10, 13, 18)]),
  (⟨"SaltMindsLaw", "merchants", "(LSaltMinds;I[J)I"⟩, method_27_code, 4, some (.int), [(0, 9, 12, 18)]),
  (⟨"SaltMindsLaw", "corner", "(LSaltMinds;I[J)I"⟩, method_28_code, 4, some (.int), [(0, 9, 12, 13)]),
  (⟨"SaltMindsLaw", "season", "(LSaltMinds;III[J)I"⟩, method_29_code, 6, some (.int), [(0, 12, 15, 18), (0, 12, 19, 13)]),
  (⟨"SaltMindsLaw", "feast", "(LSaltMinds;I[J)I"⟩, method_30_code, 4, some (.int), [(0, 9, 12, 13)]),
  (⟨"SaltMindsLaw", "sick", "(LSaltMinds;II[J)I"⟩, method_31_code, 5, some (.int), [(0, 10, 13, 18), (0, 10, 17, 13)]),
  (⟨"SaltMindsLaw", "spent", "(LSaltMinds;I[J)I"⟩, method_32_code, 4, some (.int), [(0, 9, 12, 13)]),
  (x, code, maxLocals, ret, [])]
def am_ys : List am_Y := am_ys0 ++ (am_ys1 ++ (am_ys2 ++ (am_ys3 ++ (am_ys4 ++ (am_ys5 ++ (am_ys6 ++ (am_ys7)))))))
def am_q (j : Nat) : am_Y := am_ys.getD j (x, code, maxLocals, ret, [])
def am_y (j : Nat) : MethodName := (am_q j).1
def am_cc (j : Nat) : ByteArray := (am_q j).2.1
def am_mL (j : Nat) : Nat := (am_q j).2.2.1
def am_rt (j : Nat) : Option FieldType := (am_q j).2.2.2.1
def am_hh (j : Nat) : List (Nat × Nat × Nat × Nat) := (am_q j).2.2.2.2
/-- the strings of the text: whose entry, which, what -/
def am_str : List (String × Nat × String) := [("SaltMinds", 110, "the tape has not so many bytes"), ("SaltMinds$Reader", 37, "person"), ("SaltMinds$Reader", 47, "fact"), ("SaltMinds$Reader", 119, "debt"), ("SaltMinds$Reader", 52, "talk"), ("SaltMinds$Reader", 57, "price"), ("SaltMinds$Reader", 62, "keeps"), ("SaltMinds$Reader", 188, "not"), ("SaltMinds$Rule", 24, "salt"), ("SaltMinds$Rule", 32, "weight"), ("SaltMinds$Rule", 34, "age"), ("SaltMinds$Rule", 36, "told"), ("SaltMinds$Rule", 38, "facts"), ("SaltMinds$Rule", 40, "table"), ("SaltMinds$Rule", 42, "day"), ("SaltMinds$Rule", 44, "or"), ("SaltMinds$Rule", 46, "and"), ("SaltMinds", 166, "no such count"), ("SaltMinds", 363, "no such person"), ("SaltMinds", 184, "no such thing of a person"), ("SaltMinds", 365, "no such fact"), ("SaltMinds", 210, "no such thing of a fact"), ("SaltMinds", 367, "too little or too much"), ("SaltMinds", 242, "no such thing of a blank"), ("SaltMinds", 262, "facts that he doesn't recall"), ("SaltMinds", 268, "no such day of a row that is kept"), ("SaltMinds", 276, "facts that there aren't"), ("SaltMinds", 294, "no rations are kept"), ("SaltMinds", 309, "no such table"), ("SaltMinds", 322, "no such thing of what one ate"), ("SaltMinds", 327, "no such thing of merchants")]

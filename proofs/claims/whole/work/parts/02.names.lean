/-! NAMES: printed by wip/whole/gen_names.py out of the claim's tables -/
def xIsNest : Cond → Bool
  | .fieldLinkNest .. => true
  | .methodLinkNest .. => true
  | _ => false
def xTbl : List Cond := lw_tbl.filter goodWord
def xNest : List Cond := lw_tbl.filter xIsNest
theorem xin {w : Cond} (i : Nat) (h : lw_tbl[i]? = some w) (hg : goodWord w = true) : w ∈ xTbl := List.mem_filter.mpr ⟨List.mem_of_getElem? h, hg⟩
theorem xinN {w : Cond} (i : Nat) (h : lw_tbl[i]? = some w) (hg : xIsNest w = true) : w ∈ xNest := List.mem_filter.mpr ⟨List.mem_of_getElem? h, hg⟩
theorem xGood {w : Cond} (h : w ∈ xTbl) : GoodIn xTbl (w :: xTbl) := fun v hv => by
  have hv : v ∈ xTbl := (List.mem_cons.mp hv).elim (fun e => e ▸ h) id
  exact ⟨hv, good_of_word (List.mem_filter.mp hv).2⟩
theorem xin2 {w : Cond} (h : w ∈ tables_1) (hg : goodWord w = true) : w ∈ xTbl := List.mem_filter.mpr ⟨List.mem_append_right _ h, hg⟩
theorem xin2N {w : Cond} (h : w ∈ tables_1) (hg : xIsNest w = true) : w ∈ xNest := List.mem_filter.mpr ⟨List.mem_append_right _ h, hg⟩
theorem xch1 {w : Cond} (i : Nat) (h : tables_1_1[i]? = some w) : w ∈ tables_1 := List.mem_append_left _ (List.mem_of_getElem? h)
theorem xch2 {w : Cond} (i : Nat) (h : tables_1_2[i]? = some w) : w ∈ tables_1 := List.mem_append_right _ (List.mem_append_left _ (List.mem_of_getElem? h))
theorem xch3 {w : Cond} (i : Nat) (h : tables_1_3[i]? = some w) : w ∈ tables_1 := List.mem_append_right _ (List.mem_append_right _ (List.mem_append_left _ (List.mem_of_getElem? h)))
theorem xch4 {w : Cond} (i : Nat) (h : tables_1_4[i]? = some w) : w ∈ tables_1 := List.mem_append_right _ (List.mem_append_right _ (List.mem_append_right _ (List.mem_append_left _ (List.mem_of_getElem? h))))
theorem xch5 {w : Cond} (i : Nat) (h : tables_1_5[i]? = some w) : w ∈ tables_1 := List.mem_append_right _ (List.mem_append_right _ (List.mem_append_right _ (List.mem_append_right _ (List.mem_append_left _ (List.mem_of_getElem? h)))))
theorem xch6 {w : Cond} (i : Nat) (h : tables_1_6[i]? = some w) : w ∈ tables_1 := List.mem_append_right _ (List.mem_append_right _ (List.mem_append_right _ (List.mem_append_right _ (List.mem_append_right _ (List.mem_of_getElem? h)))))
def xWords : String := "warrant does gain fine appeal toll or and not day province last seen sky decree trade fear act wet hats mine others "
def xWordsN : Nat := 116
def xWordsB : List Int32 := [119, 97, 114, 114, 97, 110, 116, 32, 100, 111, 101, 115, 32, 103, 97, 105, 110, 32, 102, 105, 110, 101, 32, 97, 112, 112, 101, 97, 108, 32, 116, 111, 108, 108, 32, 111, 114, 32, 97, 110, 100, 32, 110, 111, 116, 32, 100, 97, 121, 32, 112, 114, 111, 118, 105, 110, 99, 101, 32, 108, 97, 115, 116, 32, 115, 101, 101, 110, 32, 115, 107, 121, 32, 100, 101, 99, 114, 101, 101, 32, 116, 114, 97, 100, 101, 32, 102, 101, 97, 114, 32, 97, 99, 116, 32, 119, 101, 116, 32, 104, 97, 116, 115, 32, 109, 105, 110, 101, 32, 111, 116, 104, 101, 114, 115, 32]
def xNames : List Int32 := [0b111111, 0b111111, 0b000001, 0b000001, 0b010111, 0b011110, 0b011110, 0b011110, 0b001100, 0b000100, 0b010000, 0b100000, 0b100000]
def R_Bench : String := "WarrantWeather$Bench"
def T_Bench : u_T := fun k => match k with
  | 0 => ("WarrantWeather$Bench", "stack", "[I", true)
  | _ => ("WarrantWeather$Bench", "told", "[I", true)
def ty_Bench : Nat → FieldType := fun k => match k with
  | 0 => .array .int
  | _ => .array .int
def R_Council : String := "WarrantWeather$Council"
def T_Council : u_T := fun k => match k with
  | 0 => ("WarrantWeather$Council", "rolls", "LWarrantWeather$Rolls;", true)
  | 1 => ("WarrantWeather$Council", "court", "LWarrantWeather$Court;", true)
  | 2 => ("WarrantWeather$Council", "gains", "[I", true)
  | _ => ("WarrantWeather$Council", "tolls", "[I", true)
def ty_Council : Nat → FieldType := fun k => match k with
  | 0 => .object "WarrantWeather$Rolls"
  | 1 => .object "WarrantWeather$Court"
  | 2 => .array .int
  | _ => .array .int
def R_Court : String := "WarrantWeather$Court"
def T_Court : u_T := fun k => match k with
  | 0 => ("WarrantWeather$Court", "hats", "I", false)
  | 1 => ("WarrantWeather$Court", "leftOut", "I", false)
  | 2 => ("WarrantWeather$Court", "rolls", "LWarrantWeather$Rolls;", true)
  | 3 => ("WarrantWeather$Court", "shelf", "LWarrantWeather$Shelf;", true)
  | 4 => ("WarrantWeather$Court", "bench", "LWarrantWeather$Bench;", true)
  | 5 => ("WarrantWeather$Court", "acts", "[I", true)
  | 6 => ("WarrantWeather$Court", "totals", "[I", true)
  | 7 => ("WarrantWeather$Court", "province", "I", false)
  | 8 => ("WarrantWeather$Court", "truly", "I", false)
  | _ => ("WarrantWeather$Court", "decree", "I", false)
def ty_Court : Nat → FieldType := fun k => match k with
  | 0 => .int
  | 1 => .int
  | 2 => .object "WarrantWeather$Rolls"
  | 3 => .object "WarrantWeather$Shelf"
  | 4 => .object "WarrantWeather$Bench"
  | 5 => .array .int
  | 6 => .array .int
  | 7 => .int
  | 8 => .int
  | _ => .int
def R_Law : String := "WarrantWeather$Law"
def T_Law : u_T := fun k => match k with
  | 0 => ("WarrantWeather$Law", "code", "[I", true)
  | 1 => ("WarrantWeather$Law", "starts", "[I", true)
  | 2 => ("WarrantWeather$Law", "stops", "[I", true)
  | 3 => ("WarrantWeather$Law", "order", "[I", true)
  | 4 => ("WarrantWeather$Law", "clauses", "I", false)
  | _ => ("WarrantWeather$Law", "length", "I", false)
def ty_Law : Nat → FieldType := fun k => match k with
  | 0 => .array .int
  | 1 => .array .int
  | 2 => .array .int
  | 3 => .array .int
  | 4 => .int
  | _ => .int
def R_Planner : String := "WarrantWeather$Planner"
def T_Planner : u_T := fun k => match k with
  | 0 => ("WarrantWeather$Planner", "best", "I", false)
  | 1 => ("WarrantWeather$Planner", "bestPath", "I", false)
  | 2 => ("WarrantWeather$Planner", "rolls", "LWarrantWeather$Rolls;", true)
  | 3 => ("WarrantWeather$Planner", "court", "LWarrantWeather$Court;", true)
  | 4 => ("WarrantWeather$Planner", "gains", "[I", true)
  | 5 => ("WarrantWeather$Planner", "rule", "[I", true)
  | 6 => ("WarrantWeather$Planner", "first", "I", false)
  | 7 => ("WarrantWeather$Planner", "length", "I", false)
  | _ => ("WarrantWeather$Planner", "any", "Z", false)
def ty_Planner : Nat → FieldType := fun k => match k with
  | 0 => .int
  | 1 => .int
  | 2 => .object "WarrantWeather$Rolls"
  | 3 => .object "WarrantWeather$Court"
  | 4 => .array .int
  | 5 => .array .int
  | 6 => .int
  | 7 => .int
  | _ => .boolean
def R_Reader : String := "WarrantWeather$Reader"
def T_Reader : u_T := fun k => match k with
  | 0 => ("WarrantWeather$Reader", "hasRead", "Z", false)
  | 1 => ("WarrantWeather$Reader", "faultKind", "I", false)
  | 2 => ("WarrantWeather$Reader", "faultAt", "I", false)
  | 3 => ("WarrantWeather$Reader", "tokens", "LWarrantWeather$Tokens;", true)
  | 4 => ("WarrantWeather$Reader", "law", "LWarrantWeather$Law;", false)
  | 5 => ("WarrantWeather$Reader", "at", "I", false)
  | _ => ("WarrantWeather$Reader", "clause", "I", false)
def ty_Reader : Nat → FieldType := fun k => match k with
  | 0 => .boolean
  | 1 => .int
  | 2 => .int
  | 3 => .object "WarrantWeather$Tokens"
  | 4 => .object "WarrantWeather$Law"
  | 5 => .int
  | _ => .int
def R_Rolls : String := "WarrantWeather$Rolls"
def T_Rolls : u_T := fun k => match k with
  | 0 => ("WarrantWeather$Rolls", "home", "[I", true)
  | 1 => ("WarrantWeather$Rolls", "trade", "[I", true)
  | 2 => ("WarrantWeather$Rolls", "fear", "[I", true)
  | 3 => ("WarrantWeather$Rolls", "skies", "[I", true)
  | 4 => ("WarrantWeather$Rolls", "decrees", "[I", true)
  | 5 => ("WarrantWeather$Rolls", "chances", "[I", true)
  | 6 => ("WarrantWeather$Rolls", "steps", "[I", true)
  | 7 => ("WarrantWeather$Rolls", "count", "I", false)
  | 8 => ("WarrantWeather$Rolls", "ruinAt", "I", false)
  | 9 => ("WarrantWeather$Rolls", "texts", "I", false)
  | 10 => ("WarrantWeather$Rolls", "ruling", "I", false)
  | 11 => ("WarrantWeather$Rolls", "stepCount", "I", false)
  | _ => ("WarrantWeather$Rolls", "nextStep", "I", false)
def ty_Rolls : Nat → FieldType := fun k => match k with
  | 0 => .array .int
  | 1 => .array .int
  | 2 => .array .int
  | 3 => .array .int
  | 4 => .array .int
  | 5 => .array .int
  | 6 => .array .int
  | 7 => .int
  | 8 => .int
  | 9 => .int
  | 10 => .int
  | 11 => .int
  | _ => .int
def R_Shelf : String := "WarrantWeather$Shelf"
def T_Shelf : u_T := fun k => match k with
  | 0 => ("WarrantWeather$Shelf", "rolls", "LWarrantWeather$Rolls;", true)
  | 1 => ("WarrantWeather$Shelf", "blank", "LWarrantWeather$Law;", true)
  | _ => ("WarrantWeather$Shelf", "laws", "[LWarrantWeather$Law;", true)
def ty_Shelf : Nat → FieldType := fun k => match k with
  | 0 => .object "WarrantWeather$Rolls"
  | 1 => .object "WarrantWeather$Law"
  | _ => .array (.object "WarrantWeather$Law")
def R_Song : String := "WarrantWeather$Song"
def T_Song : u_T := fun k => match k with
  | 0 => ("WarrantWeather$Song", "words", "I", false)
  | _ => ("WarrantWeather$Song", "vowels", "[I", true)
def ty_Song : Nat → FieldType := fun k => match k with
  | 0 => .int
  | _ => .array .int
def R_Tape : String := "WarrantWeather$Tape"
def T_Tape : u_T := fun k => match k with
  | 0 => ("WarrantWeather$Tape", "bytes", "[I", true)
  | _ => ("WarrantWeather$Tape", "count", "I", false)
def ty_Tape : Nat → FieldType := fun k => match k with
  | 0 => .array .int
  | _ => .int
def R_Tokens : String := "WarrantWeather$Tokens"
def T_Tokens : u_T := fun k => match k with
  | 0 => ("WarrantWeather$Tokens", "kinds", "[I", true)
  | 1 => ("WarrantWeather$Tokens", "places", "[I", true)
  | 2 => ("WarrantWeather$Tokens", "values", "[I", true)
  | _ => ("WarrantWeather$Tokens", "count", "I", false)
def ty_Tokens : Nat → FieldType := fun k => match k with
  | 0 => .array .int
  | 1 => .array .int
  | 2 => .array .int
  | _ => .int
def R_Ww : String := "WarrantWeather"
def T_Ww : u_T := fun k => match k with
  | 0 => ("WarrantWeather", "now", "LWarrantWeather$Rolls;", true)
  | 1 => ("WarrantWeather", "kept", "LWarrantWeather$Rolls;", true)
  | 2 => ("WarrantWeather", "tape", "LWarrantWeather$Tape;", true)
  | 3 => ("WarrantWeather", "reader", "LWarrantWeather$Reader;", true)
  | 4 => ("WarrantWeather", "shelf", "LWarrantWeather$Shelf;", true)
  | 5 => ("WarrantWeather", "court", "LWarrantWeather$Court;", true)
  | 6 => ("WarrantWeather", "planner", "LWarrantWeather$Planner;", true)
  | 7 => ("WarrantWeather", "council", "LWarrantWeather$Council;", true)
  | _ => ("WarrantWeather", "song", "LWarrantWeather$Song;", true)
def ty_Ww : Nat → FieldType := fun k => match k with
  | 0 => .object "WarrantWeather$Rolls"
  | 1 => .object "WarrantWeather$Rolls"
  | 2 => .object "WarrantWeather$Tape"
  | 3 => .object "WarrantWeather$Reader"
  | 4 => .object "WarrantWeather$Shelf"
  | 5 => .object "WarrantWeather$Court"
  | 6 => .object "WarrantWeather$Planner"
  | 7 => .object "WarrantWeather$Council"
  | _ => .object "WarrantWeather$Song"
def R_Md : String := "WarrantWeatherModel"
def T_Md : u_T := fun k => match k with
  | 0 => ("WarrantWeatherModel", "a", "[I", true)
  | 1 => ("WarrantWeatherModel", "image", "[I", true)
  | 2 => ("WarrantWeatherModel", "tape", "[B", true)
  | 3 => ("WarrantWeatherModel", "taped", "I", false)
  | 4 => ("WarrantWeatherModel", "fault", "I", false)
  | 5 => ("WarrantWeatherModel", "faultAt", "I", false)
  | 6 => ("WarrantWeatherModel", "clauses", "[I", true)
  | 7 => ("WarrantWeatherModel", "clauseAt", "[I", true)
  | 8 => ("WarrantWeatherModel", "clauseNumber", "[I", true)
  | 9 => ("WarrantWeatherModel", "order", "[I", true)
  | 10 => ("WarrantWeatherModel", "value", "[I", true)
  | 11 => ("WarrantWeatherModel", "length", "I", false)
  | 12 => ("WarrantWeatherModel", "at", "I", false)
  | 13 => ("WarrantWeatherModel", "token", "I", false)
  | 14 => ("WarrantWeatherModel", "sort", "I", false)
  | 15 => ("WarrantWeatherModel", "told", "I", false)
  | 16 => ("WarrantWeatherModel", "wrong", "I", false)
  | 17 => ("WarrantWeatherModel", "wrongAt", "I", false)
  | 18 => ("WarrantWeatherModel", "open", "I", false)
  | 19 => ("WarrantWeatherModel", "frames", "I", false)
  | 20 => ("WarrantWeatherModel", "frame", "[I", true)
  | 21 => ("WarrantWeatherModel", "compare", "[I", true)
  | 22 => ("WarrantWeatherModel", "waits", "I", false)
  | 23 => ("WarrantWeatherModel", "wait", "[I", true)
  | 24 => ("WarrantWeatherModel", "waitFrame", "[I", true)
  | 25 => ("WarrantWeatherModel", "state", "I", false)
  | 26 => ("WarrantWeatherModel", "newClauses", "I", false)
  | 27 => ("WarrantWeatherModel", "newKind", "I", false)
  | 28 => ("WarrantWeatherModel", "newAt", "[I", true)
  | 29 => ("WarrantWeatherModel", "newNumber", "[I", true)
  | 30 => ("WarrantWeatherModel", "newOrders", "I", false)
  | 31 => ("WarrantWeatherModel", "newOrder", "[I", true)
  | 32 => ("WarrantWeatherModel", "newValue", "[I", true)
  | 33 => ("WarrantWeatherModel", "name", "[I", true)
  | 34 => ("WarrantWeatherModel", "pile", "[J", true)
  | 35 => ("WarrantWeatherModel", "without", "I", false)
  | 36 => ("WarrantWeatherModel", "known", "[I", true)
  | 37 => ("WarrantWeatherModel", "gains", "[I", true)
  | _ => ("WarrantWeatherModel", "sung", "[I", true)
def ty_Md : Nat → FieldType := fun k => match k with
  | 0 => .array .int
  | 1 => .array .int
  | 2 => .array .byte
  | 3 => .int
  | 4 => .int
  | 5 => .int
  | 6 => .array .int
  | 7 => .array .int
  | 8 => .array .int
  | 9 => .array .int
  | 10 => .array .int
  | 11 => .int
  | 12 => .int
  | 13 => .int
  | 14 => .int
  | 15 => .int
  | 16 => .int
  | 17 => .int
  | 18 => .int
  | 19 => .int
  | 20 => .array .int
  | 21 => .array .int
  | 22 => .int
  | 23 => .array .int
  | 24 => .array .int
  | 25 => .int
  | 26 => .int
  | 27 => .int
  | 28 => .array .int
  | 29 => .array .int
  | 30 => .int
  | 31 => .array .int
  | 32 => .array .int
  | 33 => .array .int
  | 34 => .array .long
  | 35 => .int
  | 36 => .array .int
  | 37 => .array .int
  | _ => .array .int
abbrev classes : List vw_C := [(R_Bench, T_Bench, 2), (R_Council, T_Council, 4), (R_Court, T_Court, 10), (R_Law, T_Law, 6), (R_Planner, T_Planner, 9), (R_Reader, T_Reader, 7), (R_Rolls, T_Rolls, 13), (R_Shelf, T_Shelf, 3), (R_Song, T_Song, 2), (R_Tape, T_Tape, 2), (R_Tokens, T_Tokens, 4), (R_Ww, T_Ww, 9), (R_Md, T_Md, 39)]
/-- what is known of a class: its fields' rows of the tables, their types, that their names differ -/
def xCls (C : String) (T : u_T) (N : Nat) (ty : Nat → FieldType) : Prop := (∀ w ∈ u_ws C T N, w ∈ xTbl) ∧ (∀ k, k < N → parseFieldDescriptor (T k).2.2.1 = some (ty k)) ∧ (∀ a, a < N → ∀ b, b < N → a ≠ b → (T a).2.1 ≠ (T b).2.1)
set_option maxRecDepth 20000 in
theorem q_Bench : xCls R_Bench T_Bench 2 ty_Bench := by
  refine ⟨fun w hw => ?_, by decide +kernel, by decide +kernel⟩
  have h : u_ws R_Bench T_Bench 2 = [284, 286].filterMap (fun i => lw_tbl[i]?) ∧ (u_ws R_Bench T_Bench 2).all goodWord = true := by decide +kernel
  refine List.mem_filter.mpr ⟨?_, List.all_eq_true.mp h.2 w hw⟩
  rw [h.1] at hw
  obtain ⟨i, -, hi⟩ := List.mem_filterMap.mp hw
  exact List.mem_of_getElem? hi
set_option maxRecDepth 20000 in
theorem q_Council : xCls R_Council T_Council 4 ty_Council := by
  refine ⟨fun w hw => ?_, by decide +kernel, by decide +kernel⟩
  have h : u_ws R_Council T_Council 4 = [368, 370, 372, 374].filterMap (fun i => lw_tbl[i]?) ∧ (u_ws R_Council T_Council 4).all goodWord = true := by decide +kernel
  refine List.mem_filter.mpr ⟨?_, List.all_eq_true.mp h.2 w hw⟩
  rw [h.1] at hw
  obtain ⟨i, -, hi⟩ := List.mem_filterMap.mp hw
  exact List.mem_of_getElem? hi
set_option maxRecDepth 20000 in
theorem q_Court : xCls R_Court T_Court 10 ty_Court := by
  refine ⟨fun w hw => ?_, by decide +kernel, by decide +kernel⟩
  have h : u_ws R_Court T_Court 10 = [301, 303, 305, 307, 309, 311, 313, 315, 317, 319].filterMap (fun i => lw_tbl[i]?) ∧ (u_ws R_Court T_Court 10).all goodWord = true := by decide +kernel
  refine List.mem_filter.mpr ⟨?_, List.all_eq_true.mp h.2 w hw⟩
  rw [h.1] at hw
  obtain ⟨i, -, hi⟩ := List.mem_filterMap.mp hw
  exact List.mem_of_getElem? hi
set_option maxRecDepth 20000 in
theorem q_Law : xCls R_Law T_Law 6 ty_Law := by
  refine ⟨fun w hw => ?_, by decide +kernel, by decide +kernel⟩
  have h : u_ws R_Law T_Law 6 = [191, 193, 195, 197, 199, 201].filterMap (fun i => lw_tbl[i]?) ∧ (u_ws R_Law T_Law 6).all goodWord = true := by decide +kernel
  refine List.mem_filter.mpr ⟨?_, List.all_eq_true.mp h.2 w hw⟩
  rw [h.1] at hw
  obtain ⟨i, -, hi⟩ := List.mem_filterMap.mp hw
  exact List.mem_of_getElem? hi
set_option maxRecDepth 20000 in
theorem q_Planner : xCls R_Planner T_Planner 9 ty_Planner := by
  refine ⟨fun w hw => ?_, by decide +kernel, by decide +kernel⟩
  have h : u_ws R_Planner T_Planner 9 = [339, 341, 343, 345, 347, 349, 351, 353, 355].filterMap (fun i => lw_tbl[i]?) ∧ (u_ws R_Planner T_Planner 9).all goodWord = true := by decide +kernel
  refine List.mem_filter.mpr ⟨?_, List.all_eq_true.mp h.2 w hw⟩
  rw [h.1] at hw
  obtain ⟨i, -, hi⟩ := List.mem_filterMap.mp hw
  exact List.mem_of_getElem? hi
set_option maxRecDepth 20000 in
theorem q_Reader : xCls R_Reader T_Reader 7 ty_Reader := by
  refine ⟨fun w hw => ?_, by decide +kernel, by decide +kernel⟩
  have h : u_ws R_Reader T_Reader 7 = [255, 257, 259, 261, 263, 265, 267].filterMap (fun i => lw_tbl[i]?) ∧ (u_ws R_Reader T_Reader 7).all goodWord = true := by decide +kernel
  refine List.mem_filter.mpr ⟨?_, List.all_eq_true.mp h.2 w hw⟩
  rw [h.1] at hw
  obtain ⟨i, -, hi⟩ := List.mem_filterMap.mp hw
  exact List.mem_of_getElem? hi
set_option maxRecDepth 20000 in
theorem q_Rolls : xCls R_Rolls T_Rolls 13 ty_Rolls := by
  refine ⟨fun w hw => ?_, by decide +kernel, by decide +kernel⟩
  have h : u_ws R_Rolls T_Rolls 13 = [125, 127, 129, 131, 133, 135, 137, 139, 141, 143, 145, 147, 149].filterMap (fun i => lw_tbl[i]?) ∧ (u_ws R_Rolls T_Rolls 13).all goodWord = true := by decide +kernel
  refine List.mem_filter.mpr ⟨?_, List.all_eq_true.mp h.2 w hw⟩
  rw [h.1] at hw
  obtain ⟨i, -, hi⟩ := List.mem_filterMap.mp hw
  exact List.mem_of_getElem? hi
set_option maxRecDepth 20000 in
theorem q_Shelf : xCls R_Shelf T_Shelf 3 ty_Shelf := by
  refine ⟨fun w hw => ?_, by decide +kernel, by decide +kernel⟩
  have h : u_ws R_Shelf T_Shelf 3 = [209, 211, 213].filterMap (fun i => lw_tbl[i]?) ∧ (u_ws R_Shelf T_Shelf 3).all goodWord = true := by decide +kernel
  refine List.mem_filter.mpr ⟨?_, List.all_eq_true.mp h.2 w hw⟩
  rw [h.1] at hw
  obtain ⟨i, -, hi⟩ := List.mem_filterMap.mp hw
  exact List.mem_of_getElem? hi
set_option maxRecDepth 20000 in
theorem q_Song : xCls R_Song T_Song 2 ty_Song := by
  refine ⟨fun w hw => ?_, by decide +kernel, by decide +kernel⟩
  have h : u_ws R_Song T_Song 2 = [386, 388].filterMap (fun i => lw_tbl[i]?) ∧ (u_ws R_Song T_Song 2).all goodWord = true := by decide +kernel
  refine List.mem_filter.mpr ⟨?_, List.all_eq_true.mp h.2 w hw⟩
  rw [h.1] at hw
  obtain ⟨i, -, hi⟩ := List.mem_filterMap.mp hw
  exact List.mem_of_getElem? hi
set_option maxRecDepth 20000 in
theorem q_Tape : xCls R_Tape T_Tape 2 ty_Tape := by
  refine ⟨fun w hw => ?_, by decide +kernel, by decide +kernel⟩
  have h : u_ws R_Tape T_Tape 2 = [164, 166].filterMap (fun i => lw_tbl[i]?) ∧ (u_ws R_Tape T_Tape 2).all goodWord = true := by decide +kernel
  refine List.mem_filter.mpr ⟨?_, List.all_eq_true.mp h.2 w hw⟩
  rw [h.1] at hw
  obtain ⟨i, -, hi⟩ := List.mem_filterMap.mp hw
  exact List.mem_of_getElem? hi
set_option maxRecDepth 20000 in
theorem q_Tokens : xCls R_Tokens T_Tokens 4 ty_Tokens := by
  refine ⟨fun w hw => ?_, by decide +kernel, by decide +kernel⟩
  have h : u_ws R_Tokens T_Tokens 4 = [236, 238, 240, 242].filterMap (fun i => lw_tbl[i]?) ∧ (u_ws R_Tokens T_Tokens 4).all goodWord = true := by decide +kernel
  refine List.mem_filter.mpr ⟨?_, List.all_eq_true.mp h.2 w hw⟩
  rw [h.1] at hw
  obtain ⟨i, -, hi⟩ := List.mem_filterMap.mp hw
  exact List.mem_of_getElem? hi
set_option maxRecDepth 20000 in
theorem q_Ww : xCls R_Ww T_Ww 9 ty_Ww := by
  refine ⟨fun w hw => ?_, by decide +kernel, by decide +kernel⟩
  have h : u_ws R_Ww T_Ww 9 = [400, 402, 404, 406, 408, 410, 412, 414, 416].filterMap (fun i => lw_tbl[i]?) ∧ (u_ws R_Ww T_Ww 9).all goodWord = true := by decide +kernel
  refine List.mem_filter.mpr ⟨?_, List.all_eq_true.mp h.2 w hw⟩
  rw [h.1] at hw
  obtain ⟨i, -, hi⟩ := List.mem_filterMap.mp hw
  exact List.mem_of_getElem? hi
set_option maxRecDepth 20000 in
theorem q_Md : xCls R_Md T_Md 39 ty_Md := by
  refine ⟨fun w hw => ?_, by decide +kernel, by decide +kernel⟩
  have h : u_ws R_Md T_Md 39 = [996, 998, 1000, 1002, 1004, 1006, 1008, 1010, 1012, 1014, 1016, 1018, 1020, 1022, 1024, 1026, 1028, 1030, 1032, 1034, 1036, 1038, 1040, 1042, 1044, 1046, 1048, 1050, 1052, 1054, 1056, 1058, 1060, 1062, 1064, 1066, 1068, 1070, 1072].filterMap (fun i => lw_tbl[i]?) ∧ (u_ws R_Md T_Md 39).all goodWord = true := by decide +kernel
  refine List.mem_filter.mpr ⟨?_, List.all_eq_true.mp h.2 w hw⟩
  rw [h.1] at hw
  obtain ⟨i, -, hi⟩ := List.mem_filterMap.mp hw
  exact List.mem_of_getElem? hi

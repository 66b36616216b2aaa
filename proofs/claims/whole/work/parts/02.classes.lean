/-! the tables' words that stay true while classes warm up; the classes by number -/
def zTB : List Cond := lw_tbl.filter goodWord
theorem zt_in {w : Cond} (i : Nat) (h : tables_1[i]? = some w) (g : goodWord w = true) : w ∈ zTB := List.mem_filter.mpr ⟨List.mem_append_right _ (List.mem_of_getElem? h), g⟩
theorem zt_sel {w : Cond} (i : Nat) (h : (k2_sels lw_privs)[i]? = some w) (g : goodWord w = true) : w ∈ zTB := List.mem_filter.mpr ⟨List.mem_append_left _ (List.mem_of_getElem? h), g⟩
theorem zt_all {ws : List Cond} (ps : List Nat) (hp : ws = ps.filterMap (fun i => tables_1[i]?)) (h : ws.all goodWord = true) : ∀ w ∈ ws, w ∈ zTB := by
  intro w hw
  have h1 := List.all_eq_true.mp h w hw
  rw [hp] at hw
  obtain ⟨i, -, hi⟩ := List.mem_filterMap.mp hw
  exact zt_in i hi h1
def zR : Nat → String
  | 0 => "WantShelves$Acts"
  | 1 => "WantShelves$Errand"
  | 2 => "WantShelves$Formula"
  | 3 => "WantShelves$Looks"
  | 4 => "WantShelves$Now"
  | 5 => "WantShelves$Orders"
  | 6 => "WantShelves$Rows"
  | 7 => "WantShelves$Scanner"
  | 8 => "WantShelves$Shelves"
  | 9 => "WantShelves$Teller"
  | 10 => "WantShelves$Told"
  | 11 => "WantShelves"
  | _ => "WantShelvesModel"
def zT0 : u_T := fun k => match k with
  | 0 => ("WantShelves$Acts", "done", "I", false)
  | 1 => ("WantShelves$Acts", "undone", "I", false)
  | 2 => ("WantShelves$Acts", "oldest", "I", false)
  | 3 => ("WantShelves$Acts", "sort", "[I", true)
  | 4 => ("WantShelves$Acts", "who", "[I", true)
  | 5 => ("WantShelves$Acts", "before", "[I", true)
  | 6 => ("WantShelves$Acts", "after", "[I", true)
  | _ => ("WantShelves$Acts", "wantsBefore", "[I", true)
def zy0 : Nat → FieldType := fun k => match k with
  | 0 => .int
  | 1 => .int
  | 2 => .int
  | 3 => .array .int
  | 4 => .array .int
  | 5 => .array .int
  | 6 => .array .int
  | _ => .array .int
def zT1 : u_T := fun k => match k with
  | 0 => ("WantShelves$Errand", "farthest", "[I", true)
  | 1 => ("WantShelves$Errand", "once", "[I", true)
  | _ => ("WantShelves$Errand", "twice", "[I", true)
def zy1 : Nat → FieldType := fun k => match k with
  | 0 => .array .int
  | 1 => .array .int
  | _ => .array .int
def zT2 : u_T := fun k => match k with
  | 0 => ("WantShelves$Formula", "marks", "[I", true)
  | 1 => ("WantShelves$Formula", "stack", "[I", true)
  | _ => ("WantShelves$Formula", "size", "I", false)
def zy2 : Nat → FieldType := fun k => match k with
  | 0 => .array .int
  | 1 => .array .int
  | _ => .int
def zT3 : u_T := fun k => match k with
  | 0 => ("WantShelves$Looks", "count", "I", false)
  | 1 => ("WantShelves$Looks", "time", "I", false)
  | 2 => ("WantShelves$Looks", "ahead", "[I", true)
  | 3 => ("WantShelves$Looks", "behind", "[I", true)
  | 4 => ("WantShelves$Looks", "who", "[I", true)
  | 5 => ("WantShelves$Looks", "toldAt", "[I", true)
  | _ => ("WantShelves$Looks", "untoldAt", "[I", true)
def zy3 : Nat → FieldType := fun k => match k with
  | 0 => .int
  | 1 => .int
  | 2 => .array .int
  | 3 => .array .int
  | 4 => .array .int
  | 5 => .array .int
  | _ => .array .int
def zT4 : u_T := fun k => match k with
  | 0 => ("WantShelves$Now", "wants", "[I", true)
  | 1 => ("WantShelves$Now", "moods", "[I", true)
  | 2 => ("WantShelves$Now", "reads", "[I", true)
  | 3 => ("WantShelves$Now", "in", "I", false)
  | 4 => ("WantShelves$Now", "out", "I", false)
  | 5 => ("WantShelves$Now", "kept", "Z", false)
  | _ => ("WantShelves$Now", "words", "[I", true)
def zy4 : Nat → FieldType := fun k => match k with
  | 0 => .array .int
  | 1 => .array .int
  | 2 => .array .int
  | 3 => .int
  | 4 => .int
  | 5 => .boolean
  | _ => .array .int
def zT5 : u_T := fun k => match k with
  | 0 => ("WantShelves$Orders", "asNumbers", "[J", true)
  | 1 => ("WantShelves$Orders", "firstRows", "[I", true)
  | 2 => ("WantShelves$Orders", "counts", "[I", true)
  | 3 => ("WantShelves$Orders", "size", "I", false)
  | _ => ("WantShelves$Orders", "length", "I", false)
def zy5 : Nat → FieldType := fun k => match k with
  | 0 => .array .long
  | 1 => .array .int
  | 2 => .array .int
  | 3 => .int
  | _ => .int
def zT6 : u_T := fun k => match k with
  | 0 => ("WantShelves$Rows", "fits", "I", false)
  | 1 => ("WantShelves$Rows", "taken", "I", false)
  | 2 => ("WantShelves$Rows", "reader", "I", false)
  | 3 => ("WantShelves$Rows", "topics", "I", false)
  | 4 => ("WantShelves$Rows", "count", "I", false)
  | 5 => ("WantShelves$Rows", "cells", "[I", true)
  | 6 => ("WantShelves$Rows", "keys", "[I", true)
  | _ => ("WantShelves$Rows", "fitting", "[I", true)
def zy6 : Nat → FieldType := fun k => match k with
  | 0 => .int
  | 1 => .int
  | 2 => .int
  | 3 => .int
  | 4 => .int
  | 5 => .array .int
  | 6 => .array .int
  | _ => .array .int
def zT7 : u_T := fun k => match k with
  | 0 => ("WantShelves$Scanner", "kind", "I", false)
  | 1 => ("WantShelves$Scanner", "place", "I", false)
  | 2 => ("WantShelves$Scanner", "number", "I", false)
  | 3 => ("WantShelves$Scanner", "name", "J", false)
  | 4 => ("WantShelves$Scanner", "text", "[B", false)
  | 5 => ("WantShelves$Scanner", "length", "I", false)
  | _ => ("WantShelves$Scanner", "at", "I", false)
def zy7 : Nat → FieldType := fun k => match k with
  | 0 => .int
  | 1 => .int
  | 2 => .int
  | 3 => .long
  | 4 => .array .byte
  | 5 => .int
  | _ => .int
def zT8 : u_T := fun k => match k with
  | 0 => ("WantShelves$Shelves", "told", "LWantShelves$Told;", false)
  | 1 => ("WantShelves$Shelves", "here", "I", false)
  | 2 => ("WantShelves$Shelves", "laid", "I", false)
  | 3 => ("WantShelves$Shelves", "keys", "[I", true)
  | 4 => ("WantShelves$Shelves", "together", "[I", true)
  | 5 => ("WantShelves$Shelves", "order", "[I", true)
  | _ => ("WantShelves$Shelves", "words", "[I", true)
def zy8 : Nat → FieldType := fun k => match k with
  | 0 => .object "WantShelves$Told"
  | 1 => .int
  | 2 => .int
  | 3 => .array .int
  | 4 => .array .int
  | 5 => .array .int
  | _ => .array .int
def zT9 : u_T := fun k => match k with
  | 0 => ("WantShelves$Teller", "fault", "I", false)
  | 1 => ("WantShelves$Teller", "place", "I", false)
  | 2 => ("WantShelves$Teller", "token", "LWantShelves$Scanner;", true)
  | 3 => ("WantShelves$Teller", "topicNames", "[J", true)
  | 4 => ("WantShelves$Teller", "bookNames", "[J", true)
  | 5 => ("WantShelves$Teller", "readerNames", "[J", true)
  | 6 => ("WantShelves$Teller", "into", "LWantShelves$Told;", false)
  | 7 => ("WantShelves$Teller", "formula", "LWantShelves$Formula;", false)
  | 8 => ("WantShelves$Teller", "units", "I", false)
  | 9 => ("WantShelves$Teller", "onceSeen", "I", false)
  | _ => ("WantShelves$Teller", "taken", "I", false)
def zy9 : Nat → FieldType := fun k => match k with
  | 0 => .int
  | 1 => .int
  | 2 => .object "WantShelves$Scanner"
  | 3 => .array .long
  | 4 => .array .long
  | 5 => .array .long
  | 6 => .object "WantShelves$Told"
  | 7 => .object "WantShelves$Formula"
  | 8 => .int
  | 9 => .int
  | _ => .int
def zT10 : u_T := fun k => match k with
  | 0 => ("WantShelves$Told", "topics", "I", false)
  | 1 => ("WantShelves$Told", "books", "I", false)
  | 2 => ("WantShelves$Told", "readers", "I", false)
  | 3 => ("WantShelves$Told", "quarrel", "I", false)
  | 4 => ("WantShelves$Told", "shelf", "I", false)
  | 5 => ("WantShelves$Told", "mood", "I", false)
  | 6 => ("WantShelves$Told", "units", "I", false)
  | 7 => ("WantShelves$Told", "weights", "[I", true)
  | 8 => ("WantShelves$Told", "wanted", "[I", true)
  | 9 => ("WantShelves$Told", "oughts", "[I", true)
  | 10 => ("WantShelves$Told", "odds", "[I", true)
  | 11 => ("WantShelves$Told", "law", "LWantShelves$Formula;", true)
  | _ => ("WantShelves$Told", "bend", "LWantShelves$Formula;", true)
def zy10 : Nat → FieldType := fun k => match k with
  | 0 => .int
  | 1 => .int
  | 2 => .int
  | 3 => .int
  | 4 => .int
  | 5 => .int
  | 6 => .int
  | 7 => .array .int
  | 8 => .array .int
  | 9 => .array .int
  | 10 => .array .int
  | 11 => .object "WantShelves$Formula"
  | _ => .object "WantShelves$Formula"
def zT11 : u_T := fun k => match k with
  | 0 => ("WantShelves", "tape", "[B", true)
  | 1 => ("WantShelves", "taped", "I", false)
  | 2 => ("WantShelves", "told", "LWantShelves$Told;", false)
  | 3 => ("WantShelves", "spare", "LWantShelves$Told;", false)
  | 4 => ("WantShelves", "teller", "LWantShelves$Teller;", true)
  | 5 => ("WantShelves", "now", "LWantShelves$Now;", true)
  | 6 => ("WantShelves", "trial", "LWantShelves$Now;", true)
  | 7 => ("WantShelves", "boxes", "[LWantShelves$Now;", true)
  | 8 => ("WantShelves", "acts", "LWantShelves$Acts;", true)
  | 9 => ("WantShelves", "shelves", "LWantShelves$Shelves;", true)
  | 10 => ("WantShelves", "rows", "LWantShelves$Rows;", true)
  | 11 => ("WantShelves", "otherRows", "LWantShelves$Rows;", true)
  | 12 => ("WantShelves", "orders", "LWantShelves$Orders;", true)
  | 13 => ("WantShelves", "walks", "LWantShelves$Errand;", true)
  | 14 => ("WantShelves", "looks", "LWantShelves$Looks;", true)
  | 15 => ("WantShelves", "standing", "[I", true)
  | 16 => ("WantShelves", "standingCount", "I", false)
  | 17 => ("WantShelves", "lain", "[I", true)
  | _ => ("WantShelves", "lying", "I", false)
def zy11 : Nat → FieldType := fun k => match k with
  | 0 => .array .byte
  | 1 => .int
  | 2 => .object "WantShelves$Told"
  | 3 => .object "WantShelves$Told"
  | 4 => .object "WantShelves$Teller"
  | 5 => .object "WantShelves$Now"
  | 6 => .object "WantShelves$Now"
  | 7 => .array (.object "WantShelves$Now")
  | 8 => .object "WantShelves$Acts"
  | 9 => .object "WantShelves$Shelves"
  | 10 => .object "WantShelves$Rows"
  | 11 => .object "WantShelves$Rows"
  | 12 => .object "WantShelves$Orders"
  | 13 => .object "WantShelves$Errand"
  | 14 => .object "WantShelves$Looks"
  | 15 => .array .int
  | 16 => .int
  | 17 => .array .int
  | _ => .int
def zT12 : u_T := fun k => match k with
  | 0 => ("WantShelvesModel", "tape", "[I", true)
  | 1 => ("WantShelvesModel", "taped", "I", false)
  | 2 => ("WantShelvesModel", "fault", "I", false)
  | 3 => ("WantShelvesModel", "faultPlace", "I", false)
  | 4 => ("WantShelvesModel", "at", "I", false)
  | 5 => ("WantShelvesModel", "size", "I", false)
  | 6 => ("WantShelvesModel", "sort", "I", false)
  | 7 => ("WantShelvesModel", "place", "I", false)
  | 8 => ("WantShelvesModel", "number", "I", false)
  | 9 => ("WantShelvesModel", "word", "J", false)
  | 10 => ("WantShelvesModel", "nName", "[J", true)
  | 11 => ("WantShelvesModel", "nStep", "[I", true)
  | 12 => ("WantShelvesModel", "nArg", "[I", true)
  | 13 => ("WantShelvesModel", "nMany", "[I", true)
  | 14 => ("WantShelvesModel", "step", "[I", true)
  | 15 => ("WantShelvesModel", "arg", "[I", true)
  | 16 => ("WantShelvesModel", "many", "[I", true)
  | 17 => ("WantShelvesModel", "open", "[I", true)
  | 18 => ("WantShelvesModel", "values", "[I", true)
  | 19 => ("WantShelvesModel", "form", "I", false)
  | 20 => ("WantShelvesModel", "opens", "I", false)
  | 21 => ("WantShelvesModel", "nUnits", "I", false)
  | 22 => ("WantShelvesModel", "units", "I", false)
  | 23 => ("WantShelvesModel", "ownUnits", "I", false)
  | 24 => ("WantShelvesModel", "deep", "I", false)
  | 25 => ("WantShelvesModel", "asks", "[I", true)
  | 26 => ("WantShelvesModel", "nWeight", "[I", true)
  | 27 => ("WantShelvesModel", "nWants", "[I", true)
  | 28 => ("WantShelvesModel", "nOught", "[I", true)
  | 29 => ("WantShelvesModel", "nOdds", "[I", true)
  | 30 => ("WantShelvesModel", "weights", "[I", true)
  | 31 => ("WantShelvesModel", "wantsTold", "[I", true)
  | 32 => ("WantShelvesModel", "oughts", "[I", true)
  | 33 => ("WantShelvesModel", "odds", "[I", true)
  | 34 => ("WantShelvesModel", "nTopics", "I", false)
  | 35 => ("WantShelvesModel", "nBooks", "I", false)
  | 36 => ("WantShelvesModel", "nReaders", "I", false)
  | 37 => ("WantShelvesModel", "nQuarrel", "I", false)
  | 38 => ("WantShelvesModel", "nShelf", "I", false)
  | 39 => ("WantShelvesModel", "nMood", "I", false)
  | 40 => ("WantShelvesModel", "nOnce", "I", false)
  | 41 => ("WantShelvesModel", "topics", "I", false)
  | 42 => ("WantShelvesModel", "books", "I", false)
  | 43 => ("WantShelvesModel", "readers", "I", false)
  | 44 => ("WantShelvesModel", "quarrel", "I", false)
  | 45 => ("WantShelvesModel", "shelf", "I", false)
  | 46 => ("WantShelvesModel", "mood", "I", false)
  | 47 => ("WantShelvesModel", "hasLaw", "Z", false)
  | 48 => ("WantShelvesModel", "hasBend", "Z", false)
  | 49 => ("WantShelvesModel", "now", "[I", true)
  | 50 => ("WantShelvesModel", "hand", "[I", true)
  | 51 => ("WantShelvesModel", "keys", "[I", true)
  | 52 => ("WantShelvesModel", "order", "[I", true)
  | 53 => ("WantShelvesModel", "placeOf", "[I", true)
  | 54 => ("WantShelvesModel", "ordered", "I", false)
  | 55 => ("WantShelvesModel", "were", "[I", true)
  | 56 => ("WantShelvesModel", "acts", "I", false)
  | 57 => ("WantShelvesModel", "undone", "I", false)
  | 58 => ("WantShelvesModel", "lies", "[I", true)
  | 59 => ("WantShelvesModel", "lain", "I", false)
  | 60 => ("WantShelvesModel", "visit", "[I", true)
  | 61 => ("WantShelvesModel", "cheapest", "[I", true)
  | 62 => ("WantShelvesModel", "then", "[I", true)
  | 63 => ("WantShelvesModel", "kept", "[I", true)
  | 64 => ("WantShelvesModel", "codes", "[J", true)
  | 65 => ("WantShelvesModel", "stands", "[Z", true)
  | 66 => ("WantShelvesModel", "bestRow", "I", false)
  | 67 => ("WantShelvesModel", "bestSteps", "I", false)
  | 68 => ("WantShelvesModel", "rowOne", "I", false)
  | 69 => ("WantShelvesModel", "rowTwo", "I", false)
  | 70 => ("WantShelvesModel", "leftBooks", "[I", true)
  | 71 => ("WantShelvesModel", "leftMany", "I", false)
  | 72 => ("WantShelvesModel", "walked", "[I", true)
  | 73 => ("WantShelvesModel", "lookReader", "[I", true)
  | 74 => ("WantShelvesModel", "lookAhead", "[I", true)
  | 75 => ("WantShelvesModel", "lookBehind", "[I", true)
  | 76 => ("WantShelvesModel", "lookTold", "[I", true)
  | 77 => ("WantShelvesModel", "lookUntold", "[I", true)
  | 78 => ("WantShelvesModel", "looks", "I", false)
  | 79 => ("WantShelvesModel", "time", "I", false)
  | 80 => ("WantShelvesModel", "tally", "[I", true)
  | 81 => ("WantShelvesModel", "hasBox", "[Z", true)
  | _ => ("WantShelvesModel", "boxes", "[I", true)
def zy12 : Nat → FieldType := fun k => match k with
  | 0 => .array .int
  | 1 => .int
  | 2 => .int
  | 3 => .int
  | 4 => .int
  | 5 => .int
  | 6 => .int
  | 7 => .int
  | 8 => .int
  | 9 => .long
  | 10 => .array .long
  | 11 => .array .int
  | 12 => .array .int
  | 13 => .array .int
  | 14 => .array .int
  | 15 => .array .int
  | 16 => .array .int
  | 17 => .array .int
  | 18 => .array .int
  | 19 => .int
  | 20 => .int
  | 21 => .int
  | 22 => .int
  | 23 => .int
  | 24 => .int
  | 25 => .array .int
  | 26 => .array .int
  | 27 => .array .int
  | 28 => .array .int
  | 29 => .array .int
  | 30 => .array .int
  | 31 => .array .int
  | 32 => .array .int
  | 33 => .array .int
  | 34 => .int
  | 35 => .int
  | 36 => .int
  | 37 => .int
  | 38 => .int
  | 39 => .int
  | 40 => .int
  | 41 => .int
  | 42 => .int
  | 43 => .int
  | 44 => .int
  | 45 => .int
  | 46 => .int
  | 47 => .boolean
  | 48 => .boolean
  | 49 => .array .int
  | 50 => .array .int
  | 51 => .array .int
  | 52 => .array .int
  | 53 => .array .int
  | 54 => .int
  | 55 => .array .int
  | 56 => .int
  | 57 => .int
  | 58 => .array .int
  | 59 => .int
  | 60 => .array .int
  | 61 => .array .int
  | 62 => .array .int
  | 63 => .array .int
  | 64 => .array .long
  | 65 => .array .boolean
  | 66 => .int
  | 67 => .int
  | 68 => .int
  | 69 => .int
  | 70 => .array .int
  | 71 => .int
  | 72 => .array .int
  | 73 => .array .int
  | 74 => .array .int
  | 75 => .array .int
  | 76 => .array .int
  | 77 => .array .int
  | 78 => .int
  | 79 => .int
  | 80 => .array .int
  | 81 => .array .boolean
  | _ => .array .int
def zT : Nat → u_T
  | 0 => zT0
  | 1 => zT1
  | 2 => zT2
  | 3 => zT3
  | 4 => zT4
  | 5 => zT5
  | 6 => zT6
  | 7 => zT7
  | 8 => zT8
  | 9 => zT9
  | 10 => zT10
  | 11 => zT11
  | _ => zT12
def zN : Nat → Nat
  | 0 => 8
  | 1 => 3
  | 2 => 3
  | 3 => 7
  | 4 => 7
  | 5 => 5
  | 6 => 8
  | 7 => 7
  | 8 => 7
  | 9 => 11
  | 10 => 13
  | 11 => 19
  | _ => 83
def zty : Nat → Nat → FieldType
  | 0 => zy0
  | 1 => zy1
  | 2 => zy2
  | 3 => zy3
  | 4 => zy4
  | 5 => zy5
  | 6 => zy6
  | 7 => zy7
  | 8 => zy8
  | 9 => zy9
  | 10 => zy10
  | 11 => zy11
  | _ => zy12
theorem zu_0 : ∀ w ∈ u_ws (zR 0) zT0 8, w ∈ zTB := zt_all [284, 286, 288, 290, 292, 294, 296, 298] (by decide +kernel) (by decide +kernel)
theorem zy_0 : ∀ k, k < 8 → parseFieldDescriptor (zT0 k).2.2.1 = some (zy0 k) := by decide +kernel
theorem zn_0 : ∀ a, a < 8 → ∀ b, b < 8 → a ≠ b → (zT0 a).2.1 ≠ (zT0 b).2.1 := by decide +kernel
theorem zu_1 : ∀ w ∈ u_ws (zR 1) zT1 3, w ∈ zTB := zt_all [394, 396, 398] (by decide +kernel) (by decide +kernel)
theorem zy_1 : ∀ k, k < 3 → parseFieldDescriptor (zT1 k).2.2.1 = some (zy1 k) := by decide +kernel
theorem zn_1 : ∀ a, a < 3 → ∀ b, b < 3 → a ≠ b → (zT1 a).2.1 ≠ (zT1 b).2.1 := by decide +kernel
theorem zu_2 : ∀ w ∈ u_ws (zR 2) zT2 3, w ∈ zTB := zt_all [46, 48, 50] (by decide +kernel) (by decide +kernel)
theorem zy_2 : ∀ k, k < 3 → parseFieldDescriptor (zT2 k).2.2.1 = some (zy2 k) := by decide +kernel
theorem zn_2 : ∀ a, a < 3 → ∀ b, b < 3 → a ≠ b → (zT2 a).2.1 ≠ (zT2 b).2.1 := by decide +kernel
theorem zu_3 : ∀ w ∈ u_ws (zR 3) zT3 7, w ∈ zTB := zt_all [419, 421, 423, 425, 427, 429, 431] (by decide +kernel) (by decide +kernel)
theorem zy_3 : ∀ k, k < 7 → parseFieldDescriptor (zT3 k).2.2.1 = some (zy3 k) := by decide +kernel
theorem zn_3 : ∀ a, a < 7 → ∀ b, b < 7 → a ≠ b → (zT3 a).2.1 ≠ (zT3 b).2.1 := by decide +kernel
theorem zu_4 : ∀ w ∈ u_ws (zR 4) zT4 7, w ∈ zTB := zt_all [252, 254, 256, 258, 260, 262, 264] (by decide +kernel) (by decide +kernel)
theorem zy_4 : ∀ k, k < 7 → parseFieldDescriptor (zT4 k).2.2.1 = some (zy4 k) := by decide +kernel
theorem zn_4 : ∀ a, a < 7 → ∀ b, b < 7 → a ≠ b → (zT4 a).2.1 ≠ (zT4 b).2.1 := by decide +kernel
theorem zu_5 : ∀ w ∈ u_ws (zR 5) zT5 5, w ∈ zTB := zt_all [374, 376, 378, 380, 382] (by decide +kernel) (by decide +kernel)
theorem zy_5 : ∀ k, k < 5 → parseFieldDescriptor (zT5 k).2.2.1 = some (zy5 k) := by decide +kernel
theorem zn_5 : ∀ a, a < 5 → ∀ b, b < 5 → a ≠ b → (zT5 a).2.1 ≠ (zT5 b).2.1 := by decide +kernel
theorem zu_6 : ∀ w ∈ u_ws (zR 6) zT6 8, w ∈ zTB := zt_all [346, 348, 350, 352, 354, 356, 358, 360] (by decide +kernel) (by decide +kernel)
theorem zy_6 : ∀ k, k < 8 → parseFieldDescriptor (zT6 k).2.2.1 = some (zy6 k) := by decide +kernel
theorem zn_6 : ∀ a, a < 8 → ∀ b, b < 8 → a ≠ b → (zT6 a).2.1 ≠ (zT6 b).2.1 := by decide +kernel
theorem zu_7 : ∀ w ∈ u_ws (zR 7) zT7 7, w ∈ zTB := zt_all [174, 176, 178, 180, 182, 184, 186] (by decide +kernel) (by decide +kernel)
theorem zy_7 : ∀ k, k < 7 → parseFieldDescriptor (zT7 k).2.2.1 = some (zy7 k) := by decide +kernel
theorem zn_7 : ∀ a, a < 7 → ∀ b, b < 7 → a ≠ b → (zT7 a).2.1 ≠ (zT7 b).2.1 := by decide +kernel
theorem zu_8 : ∀ w ∈ u_ws (zR 8) zT8 7, w ∈ zTB := zt_all [315, 317, 319, 321, 323, 325, 327] (by decide +kernel) (by decide +kernel)
theorem zy_8 : ∀ k, k < 7 → parseFieldDescriptor (zT8 k).2.2.1 = some (zy8 k) := by decide +kernel
theorem zn_8 : ∀ a, a < 7 → ∀ b, b < 7 → a ≠ b → (zT8 a).2.1 ≠ (zT8 b).2.1 := by decide +kernel
theorem zu_9 : ∀ w ∈ u_ws (zR 9) zT9 11, w ∈ zTB := zt_all [202, 204, 206, 208, 210, 212, 214, 216, 218, 220, 222] (by decide +kernel) (by decide +kernel)
theorem zy_9 : ∀ k, k < 11 → parseFieldDescriptor (zT9 k).2.2.1 = some (zy9 k) := by decide +kernel
theorem zn_9 : ∀ a, a < 11 → ∀ b, b < 11 → a ≠ b → (zT9 a).2.1 ≠ (zT9 b).2.1 := by decide +kernel
theorem zu_10 : ∀ w ∈ u_ws (zR 10) zT10 13, w ∈ zTB := zt_all [124, 126, 128, 130, 132, 134, 136, 138, 140, 142, 144, 146, 148] (by decide +kernel) (by decide +kernel)
theorem zy_10 : ∀ k, k < 13 → parseFieldDescriptor (zT10 k).2.2.1 = some (zy10 k) := by decide +kernel
theorem zn_10 : ∀ a, a < 13 → ∀ b, b < 13 → a ≠ b → (zT10 a).2.1 ≠ (zT10 b).2.1 := by decide +kernel
theorem zu_11 : ∀ w ∈ u_ws (zR 11) zT11 19, w ∈ zTB := zt_all [461, 463, 465, 467, 469, 471, 473, 475, 477, 479, 481, 483, 485, 487, 489, 491, 493, 495, 497] (by decide +kernel) (by decide +kernel)
theorem zy_11 : ∀ k, k < 19 → parseFieldDescriptor (zT11 k).2.2.1 = some (zy11 k) := by decide +kernel
theorem zn_11 : ∀ a, a < 19 → ∀ b, b < 19 → a ≠ b → (zT11 a).2.1 ≠ (zT11 b).2.1 := by decide +kernel
theorem zu_12 : ∀ w ∈ u_ws (zR 12) zT12 83, w ∈ zTB := zt_all [1363, 1365, 1367, 1369, 1371, 1373, 1375, 1377, 1379, 1381, 1383, 1385, 1387, 1389, 1391, 1393, 1395, 1397, 1399, 1401, 1403, 1405, 1407, 1409, 1411, 1413, 1415, 1417, 1419, 1421, 1423, 1425, 1427, 1429, 1431, 1433, 1435, 1437, 1439, 1441, 1443, 1445, 1447, 1449, 1451, 1453, 1455, 1457, 1459, 1461, 1463, 1465, 1467, 1469, 1471, 1473, 1475, 1477, 1479, 1481, 1483, 1485, 1487, 1489, 1491, 1493, 1495, 1497, 1499, 1501, 1503, 1505, 1507, 1509, 1511, 1513, 1515, 1517, 1519, 1521, 1523, 1525, 1527] (by decide +kernel) (by decide +kernel)
theorem zy_12 : ∀ k, k < 83 → parseFieldDescriptor (zT12 k).2.2.1 = some (zy12 k) := by decide +kernel
theorem zn_12 : ∀ a, a < 83 → ∀ b, b < 83 → a ≠ b → (zT12 a).2.1 ≠ (zT12 b).2.1 := by decide +kernel
theorem zu : ∀ c, c < 13 → ∀ w ∈ u_ws (zR c) (zT c) (zN c), w ∈ zTB
  | 0, _ => zu_0
  | 1, _ => zu_1
  | 2, _ => zu_2
  | 3, _ => zu_3
  | 4, _ => zu_4
  | 5, _ => zu_5
  | 6, _ => zu_6
  | 7, _ => zu_7
  | 8, _ => zu_8
  | 9, _ => zu_9
  | 10, _ => zu_10
  | 11, _ => zu_11
  | 12, _ => zu_12
  | n + 13, h => absurd h (by omega)
theorem zyo : ∀ c, c < 13 → ∀ k, k < zN c → parseFieldDescriptor (zT c k).2.2.1 = some (zty c k)
  | 0, _ => zy_0
  | 1, _ => zy_1
  | 2, _ => zy_2
  | 3, _ => zy_3
  | 4, _ => zy_4
  | 5, _ => zy_5
  | 6, _ => zy_6
  | 7, _ => zy_7
  | 8, _ => zy_8
  | 9, _ => zy_9
  | 10, _ => zy_10
  | 11, _ => zy_11
  | 12, _ => zy_12
  | n + 13, h => absurd h (by omega)
theorem znm : ∀ c, c < 13 → ∀ a, a < zN c → ∀ b, b < zN c → a ≠ b → (zT c a).2.1 ≠ (zT c b).2.1
  | 0, _ => zn_0
  | 1, _ => zn_1
  | 2, _ => zn_2
  | 3, _ => zn_3
  | 4, _ => zn_4
  | 5, _ => zn_5
  | 6, _ => zn_6
  | 7, _ => zn_7
  | 8, _ => zn_8
  | 9, _ => zn_9
  | 10, _ => zn_10
  | 11, _ => zn_11
  | 12, _ => zn_12
  | n + 13, h => absurd h (by omega)
def zCl : List vw_C := (List.range 13).map fun c => (zR c, zT c, zN c)
theorem zcl {c : Nat} (h : c < 13) : zCl[c]? = some (zR c, zT c, zN c) := by simp [zCl, h]

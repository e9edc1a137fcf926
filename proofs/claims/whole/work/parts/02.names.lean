/-- the tables' words that a callee's state keeps -/
def GT : List Cond := lw_tbl.filter goodWord
theorem GT_at {i : Nat} {w : Cond} (h : lw_tbl[i]? = some w) (hg : goodWord w = true) : w ∈ GT := List.mem_filter.mpr ⟨List.mem_of_getElem? h, hg⟩
theorem GT_good {w : Cond} (h : w ∈ GT) : (w.onTables && w.keeps) = true ∨ ∃ ty, w = .arrayClass ty := good_of_word (List.mem_filter.mp h).2
theorem mem_pos (ws : List Cond) (ps : List Nat) (hp : ws.map some = ps.map (fun i => lw_tbl[i]?)) (hg : ws.all goodWord = true) : ∀ w ∈ ws, w ∈ GT := by
  intro w hw
  have h : some w ∈ ps.map (fun i => lw_tbl[i]?) := by rw [← hp]; exact List.mem_map.mpr ⟨w, hw, rfl⟩
  obtain ⟨i, -, hi⟩ := List.mem_map.mp h
  exact GT_at hi (List.all_eq_true.mp hg w hw)
def RX0 : String := "PageFormatter$Command"
def TX0 : u_T := fun k => match k with
  | 0 => ("PageFormatter$Command", "name", "I", false)
  | 1 => ("PageFormatter$Command", "rest", "I", false)
  | 2 => ("PageFormatter$Command", "sign", "I", false)
  | 3 => ("PageFormatter$Command", "amount", "I", false)
  | _ => ("PageFormatter$Command", "numbered", "Z", false)
def tyX0 : Nat → FieldType := fun k => match k with
  | 0 => .int
  | 1 => .int
  | 2 => .int
  | 3 => .int
  | _ => .boolean
theorem nmX0 : ∀ a, a < 5 → ∀ b, b < 5 → a ≠ b → (TX0 a).2.1 ≠ (TX0 b).2.1 := by decide +kernel
theorem tyX0_ok : ∀ k, k < 5 → parseFieldDescriptor (TX0 k).2.2.1 = some (tyX0 k) := by decide +kernel
def RX1 : String := "PageFormatter$Layout"
def TX1 : u_T := fun k => match k with
  | 0 => ("PageFormatter$Layout", "right", "I", false)
  | 1 => ("PageFormatter$Layout", "indent", "I", false)
  | 2 => ("PageFormatter$Layout", "thisIndent", "I", false)
  | 3 => ("PageFormatter$Layout", "spacing", "I", false)
  | 4 => ("PageFormatter$Layout", "centred", "I", false)
  | 5 => ("PageFormatter$Layout", "underlined", "I", false)
  | 6 => ("PageFormatter$Layout", "pageLength", "I", false)
  | 7 => ("PageFormatter$Layout", "fill", "Z", false)
  | _ => ("PageFormatter$Layout", "justify", "Z", false)
def tyX1 : Nat → FieldType := fun k => match k with
  | 0 => .int
  | 1 => .int
  | 2 => .int
  | 3 => .int
  | 4 => .int
  | 5 => .int
  | 6 => .int
  | 7 => .boolean
  | _ => .boolean
theorem nmX1 : ∀ a, a < 9 → ∀ b, b < 9 → a ≠ b → (TX1 a).2.1 ≠ (TX1 b).2.1 := by decide +kernel
theorem tyX1_ok : ∀ k, k < 9 → parseFieldDescriptor (TX1 k).2.2.1 = some (tyX1 k) := by decide +kernel
def RX2 : String := "PageFormatter$Output"
def TX2 : u_T := fun k => match k with
  | 0 => ("PageFormatter$Output", "bytes", "[B", true)
  | _ => ("PageFormatter$Output", "size", "I", false)
def tyX2 : Nat → FieldType := fun k => match k with
  | 0 => .array .byte
  | _ => .int
theorem nmX2 : ∀ a, a < 2 → ∀ b, b < 2 → a ≠ b → (TX2 a).2.1 ≠ (TX2 b).2.1 := by decide +kernel
theorem tyX2_ok : ∀ k, k < 2 → parseFieldDescriptor (TX2 k).2.2.1 = some (tyX2 k) := by decide +kernel
def RX3 : String := "PageFormatter$Pages"
def TX3 : u_T := fun k => match k with
  | 0 => ("PageFormatter$Pages", "layout", "LPageFormatter$Layout;", true)
  | 1 => ("PageFormatter$Pages", "output", "LPageFormatter$Output;", true)
  | 2 => ("PageFormatter$Pages", "head", "LPageFormatter$Text;", true)
  | 3 => ("PageFormatter$Pages", "foot", "LPageFormatter$Text;", true)
  | 4 => ("PageFormatter$Pages", "lineNumber", "I", false)
  | 5 => ("PageFormatter$Pages", "page", "I", false)
  | 6 => ("PageFormatter$Pages", "nextPage", "I", false)
  | _ => ("PageFormatter$Pages", "linesPut", "I", false)
def tyX3 : Nat → FieldType := fun k => match k with
  | 0 => .object "PageFormatter$Layout"
  | 1 => .object "PageFormatter$Output"
  | 2 => .object "PageFormatter$Text"
  | 3 => .object "PageFormatter$Text"
  | 4 => .int
  | 5 => .int
  | 6 => .int
  | _ => .int
theorem nmX3 : ∀ a, a < 8 → ∀ b, b < 8 → a ≠ b → (TX3 a).2.1 ≠ (TX3 b).2.1 := by decide +kernel
theorem tyX3_ok : ∀ k, k < 8 → parseFieldDescriptor (TX3 k).2.2.1 = some (tyX3 k) := by decide +kernel
def RX4 : String := "PageFormatter$Paragraph"
def TX4 : u_T := fun k => match k with
  | 0 => ("PageFormatter$Paragraph", "letters", "[B", true)
  | 1 => ("PageFormatter$Paragraph", "lettersBefore", "[I", true)
  | 2 => ("PageFormatter$Paragraph", "wordsBefore", "[I", true)
  | 3 => ("PageFormatter$Paragraph", "underlinedWords", "[Z", true)
  | 4 => ("PageFormatter$Paragraph", "letterCount", "I", false)
  | 5 => ("PageFormatter$Paragraph", "lastPlace", "I", false)
  | _ => ("PageFormatter$Paragraph", "wordCount", "I", false)
def tyX4 : Nat → FieldType := fun k => match k with
  | 0 => .array .byte
  | 1 => .array .int
  | 2 => .array .int
  | 3 => .array .boolean
  | 4 => .int
  | 5 => .int
  | _ => .int
theorem nmX4 : ∀ a, a < 7 → ∀ b, b < 7 → a ≠ b → (TX4 a).2.1 ≠ (TX4 b).2.1 := by decide +kernel
theorem tyX4_ok : ∀ k, k < 7 → parseFieldDescriptor (TX4 k).2.2.1 = some (tyX4 k) := by decide +kernel
def RX5 : String := "PageFormatter$Parting"
def TX5 : u_T := fun k => match k with
  | 0 => ("PageFormatter$Parting", "leastCost", "[J", true)
  | 1 => ("PageFormatter$Parting", "bestEnd", "[I", true)
  | 2 => ("PageFormatter$Parting", "ends", "[I", true)
  | 3 => ("PageFormatter$Parting", "facts", "[I", true)
  | 4 => ("PageFormatter$Parting", "firstRoom", "I", false)
  | 5 => ("PageFormatter$Parting", "otherRoom", "I", false)
  | 6 => ("PageFormatter$Parting", "lineCount", "I", false)
  | _ => ("PageFormatter$Parting", "sum", "J", false)
def tyX5 : Nat → FieldType := fun k => match k with
  | 0 => .array .long
  | 1 => .array .int
  | 2 => .array .int
  | 3 => .array .int
  | 4 => .int
  | 5 => .int
  | 6 => .int
  | _ => .long
theorem nmX5 : ∀ a, a < 8 → ∀ b, b < 8 → a ≠ b → (TX5 a).2.1 ≠ (TX5 b).2.1 := by decide +kernel
theorem tyX5_ok : ∀ k, k < 8 → parseFieldDescriptor (TX5 k).2.2.1 = some (tyX5 k) := by decide +kernel
def RX6 : String := "PageFormatter$Text"
def TX6 : u_T := fun k => match k with
  | 0 => ("PageFormatter$Text", "bytes", "[B", true)
  | _ => ("PageFormatter$Text", "size", "I", false)
def tyX6 : Nat → FieldType := fun k => match k with
  | 0 => .array .byte
  | _ => .int
theorem nmX6 : ∀ a, a < 2 → ∀ b, b < 2 → a ≠ b → (TX6 a).2.1 ≠ (TX6 b).2.1 := by decide +kernel
theorem tyX6_ok : ∀ k, k < 2 → parseFieldDescriptor (TX6 k).2.2.1 = some (tyX6 k) := by decide +kernel
def RX7 : String := "PageFormatter"
def TX7 : u_T := fun k => match k with
  | 0 => ("PageFormatter", "entered", "LPageFormatter$Text;", true)
  | 1 => ("PageFormatter", "command", "LPageFormatter$Command;", true)
  | 2 => ("PageFormatter", "layout", "LPageFormatter$Layout;", true)
  | 3 => ("PageFormatter", "output", "LPageFormatter$Output;", true)
  | 4 => ("PageFormatter", "pages", "LPageFormatter$Pages;", true)
  | 5 => ("PageFormatter", "paragraph", "LPageFormatter$Paragraph;", true)
  | 6 => ("PageFormatter", "parting", "LPageFormatter$Parting;", true)
  | _ => ("PageFormatter", "passedOver", "I", false)
def tyX7 : Nat → FieldType := fun k => match k with
  | 0 => .object "PageFormatter$Text"
  | 1 => .object "PageFormatter$Command"
  | 2 => .object "PageFormatter$Layout"
  | 3 => .object "PageFormatter$Output"
  | 4 => .object "PageFormatter$Pages"
  | 5 => .object "PageFormatter$Paragraph"
  | 6 => .object "PageFormatter$Parting"
  | _ => .int
theorem nmX7 : ∀ a, a < 8 → ∀ b, b < 8 → a ≠ b → (TX7 a).2.1 ≠ (TX7 b).2.1 := by decide +kernel
theorem tyX7_ok : ∀ k, k < 8 → parseFieldDescriptor (TX7 k).2.2.1 = some (tyX7 k) := by decide +kernel
def RX8 : String := "PageFormatterModel"
def TX8 : u_T := fun k => match k with
  | 0 => ("PageFormatterModel", "line", "[I", true)
  | 1 => ("PageFormatterModel", "lineSize", "I", false)
  | 2 => ("PageFormatterModel", "sheet", "[I", true)
  | 3 => ("PageFormatterModel", "sheetSize", "I", false)
  | 4 => ("PageFormatterModel", "letters", "[I", true)
  | 5 => ("PageFormatterModel", "wordEnds", "[I", true)
  | 6 => ("PageFormatterModel", "words", "I", false)
  | 7 => ("PageFormatterModel", "placeBytes", "[I", true)
  | 8 => ("PageFormatterModel", "placeWords", "[I", true)
  | 9 => ("PageFormatterModel", "isPoint", "[Z", true)
  | 10 => ("PageFormatterModel", "placeAt", "[I", true)
  | 11 => ("PageFormatterModel", "places", "I", false)
  | 12 => ("PageFormatterModel", "sums", "[J", true)
  | 13 => ("PageFormatterModel", "lines", "[I", true)
  | 14 => ("PageFormatterModel", "nexts", "[I", true)
  | 15 => ("PageFormatterModel", "demerits", "J", false)
  | 16 => ("PageFormatterModel", "parted", "I", false)
  | 17 => ("PageFormatterModel", "lineLength", "[I", true)
  | 18 => ("PageFormatterModel", "lineSlack", "[I", true)
  | 19 => ("PageFormatterModel", "lineBad", "[I", true)
  | 20 => ("PageFormatterModel", "lineBlanks", "[I", true)
  | 21 => ("PageFormatterModel", "lineHyphen", "[Z", true)
  | 22 => ("PageFormatterModel", "lineRoom", "[I", true)
  | 23 => ("PageFormatterModel", "output", "[I", true)
  | 24 => ("PageFormatterModel", "length", "I", false)
  | 25 => ("PageFormatterModel", "fill", "Z", false)
  | 26 => ("PageFormatterModel", "justify", "Z", false)
  | 27 => ("PageFormatterModel", "spacing", "I", false)
  | 28 => ("PageFormatterModel", "indent", "I", false)
  | 29 => ("PageFormatterModel", "here", "I", false)
  | 30 => ("PageFormatterModel", "right", "I", false)
  | 31 => ("PageFormatterModel", "centred", "I", false)
  | 32 => ("PageFormatterModel", "underlined", "I", false)
  | 33 => ("PageFormatterModel", "pageLength", "I", false)
  | 34 => ("PageFormatterModel", "number", "I", false)
  | 35 => ("PageFormatterModel", "page", "I", false)
  | 36 => ("PageFormatterModel", "nextPage", "I", false)
  | 37 => ("PageFormatterModel", "head", "[I", true)
  | 38 => ("PageFormatterModel", "headSize", "I", false)
  | 39 => ("PageFormatterModel", "foot", "[I", true)
  | 40 => ("PageFormatterModel", "footSize", "I", false)
  | 41 => ("PageFormatterModel", "passed", "I", false)
  | 42 => ("PageFormatterModel", "puts", "I", false)
  | 43 => ("PageFormatterModel", "firstIndent", "I", false)
  | 44 => ("PageFormatterModel", "restAt", "I", false)
  | 45 => ("PageFormatterModel", "hasNumber", "Z", false)
  | 46 => ("PageFormatterModel", "sign", "I", false)
  | _ => ("PageFormatterModel", "amount", "I", false)
def tyX8 : Nat → FieldType := fun k => match k with
  | 0 => .array .int
  | 1 => .int
  | 2 => .array .int
  | 3 => .int
  | 4 => .array .int
  | 5 => .array .int
  | 6 => .int
  | 7 => .array .int
  | 8 => .array .int
  | 9 => .array .boolean
  | 10 => .array .int
  | 11 => .int
  | 12 => .array .long
  | 13 => .array .int
  | 14 => .array .int
  | 15 => .long
  | 16 => .int
  | 17 => .array .int
  | 18 => .array .int
  | 19 => .array .int
  | 20 => .array .int
  | 21 => .array .boolean
  | 22 => .array .int
  | 23 => .array .int
  | 24 => .int
  | 25 => .boolean
  | 26 => .boolean
  | 27 => .int
  | 28 => .int
  | 29 => .int
  | 30 => .int
  | 31 => .int
  | 32 => .int
  | 33 => .int
  | 34 => .int
  | 35 => .int
  | 36 => .int
  | 37 => .array .int
  | 38 => .int
  | 39 => .array .int
  | 40 => .int
  | 41 => .int
  | 42 => .int
  | 43 => .int
  | 44 => .int
  | 45 => .boolean
  | 46 => .int
  | _ => .int
theorem nmX8 : ∀ a, a < 48 → ∀ b, b < 48 → a ≠ b → (TX8 a).2.1 ≠ (TX8 b).2.1 := by decide +kernel
theorem tyX8_ok : ∀ k, k < 48 → parseFieldDescriptor (TX8 k).2.2.1 = some (tyX8 k) := by decide +kernel
abbrev CLS : List vw_C := [(RX0, TX0, 5), (RX1, TX1, 9), (RX2, TX2, 2), (RX3, TX3, 8), (RX4, TX4, 7), (RX5, TX5, 8), (RX6, TX6, 2), (RX7, TX7, 8), (RX8, TX8, 48)]
/-- the cells: an object (class, its fields: 0 an int, 1 a long, 2 a boolean, n + 3 the cell n) or an array (type, length, 1 for longs) -/
def lay : List ((Nat × List Nat) ⊕ (Nat × Nat × Nat)) := [.inl (7, [4, 6, 7, 8, 10, 15, 20, 0]),
  .inl (6, [5, 0]),
  .inr (0, 100, 0),
  .inl (0, [0, 0, 0, 0, 2]),
  .inl (1, [0, 0, 0, 0, 0, 0, 0, 2, 2]),
  .inl (2, [9, 0]),
  .inr (0, 20000, 0),
  .inl (3, [7, 8, 11, 13, 0, 0, 0, 0]),
  .inl (6, [12, 0]),
  .inr (0, 100, 0),
  .inl (6, [14, 0]),
  .inr (0, 100, 0),
  .inl (4, [16, 17, 18, 19, 0, 0, 0]),
  .inr (0, 8000, 0),
  .inr (1, 4001, 0),
  .inr (1, 4001, 0),
  .inr (2, 80, 0),
  .inl (5, [21, 22, 23, 24, 0, 0, 0, 1]),
  .inr (3, 12003, 1),
  .inr (1, 12003, 0),
  .inr (1, 4000, 0),
  .inr (1, 24000, 0),
  .inl (8, [26, 0, 27, 0, 28, 29, 0, 30, 31, 32, 33, 0, 34, 35, 36, 1, 0, 37, 38, 39, 40, 41, 42, 43, 0, 2, 2, 0, 0, 0, 0, 0, 0, 0, 0, 0, 0, 44, 0, 45, 0, 0, 0, 0, 0, 2, 0, 0]),
  .inr (1, 100, 0),
  .inr (1, 300, 0),
  .inr (1, 8100, 0),
  .inr (1, 80, 0),
  .inr (1, 8101, 0),
  .inr (1, 8101, 0),
  .inr (2, 8101, 0),
  .inr (1, 8101, 0),
  .inr (3, 32404, 1),
  .inr (1, 32404, 0),
  .inr (1, 32404, 0),
  .inr (1, 8100, 0),
  .inr (1, 8100, 0),
  .inr (1, 8100, 0),
  .inr (1, 8100, 0),
  .inr (2, 8100, 0),
  .inr (1, 8100, 0),
  .inr (1, 20000, 0),
  .inr (1, 100, 0),
  .inr (1, 100, 0)]
theorem uX0 : ∀ w ∈ u_ws RX0 TX0 5, w ∈ GT := mem_pos _ [105, 107, 109, 111, 113] (by decide +kernel) (by decide +kernel)
theorem uX1 : ∀ w ∈ u_ws RX1 TX1 9, w ∈ GT := mem_pos _ [148, 150, 152, 154, 156, 158, 160, 162, 164] (by decide +kernel) (by decide +kernel)
theorem uX2 : ∀ w ∈ u_ws RX2 TX2 2, w ∈ GT := mem_pos _ [176, 178] (by decide +kernel) (by decide +kernel)
theorem uX3 : ∀ w ∈ u_ws RX3 TX3 8, w ∈ GT := mem_pos _ [203, 205, 207, 209, 211, 213, 215, 217] (by decide +kernel) (by decide +kernel)
theorem uX4 : ∀ w ∈ u_ws RX4 TX4 7, w ∈ GT := mem_pos _ [235, 237, 239, 241, 243, 245, 247] (by decide +kernel) (by decide +kernel)
theorem uX5 : ∀ w ∈ u_ws RX5 TX5 8, w ∈ GT := mem_pos _ [269, 271, 273, 275, 277, 279, 281, 283] (by decide +kernel) (by decide +kernel)
theorem uX6 : ∀ w ∈ u_ws RX6 TX6 2, w ∈ GT := mem_pos _ [86, 88] (by decide +kernel) (by decide +kernel)
theorem uX7 : ∀ w ∈ u_ws RX7 TX7 8, w ∈ GT := mem_pos _ [295, 297, 299, 301, 303, 305, 307, 309] (by decide +kernel) (by decide +kernel)
theorem uX8 : ∀ w ∈ u_ws RX8 TX8 48, w ∈ GT := mem_pos _ [679, 681, 683, 685, 687, 689, 691, 693, 695, 697, 699, 701, 703, 705, 707, 709, 711, 713, 715, 717, 719, 721, 723, 725, 727, 729, 731, 733, 735, 737, 739, 741, 743, 745, 747, 749, 751, 753, 755, 757, 759, 761, 763, 765, 767, 769, 771, 773] (by decide +kernel) (by decide +kernel)

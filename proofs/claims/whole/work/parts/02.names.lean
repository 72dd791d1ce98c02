def sm_T0 : u_T := fun k => match k with
  | 0 => ("SnowMoney$Duchy", "warmth", "[I", true)
  | 1 => ("SnowMoney$Duchy", "roads", "[I", true)
  | 2 => ("SnowMoney$Duchy", "kinds", "[I", true)
  | 3 => ("SnowMoney$Duchy", "ms", "[I", true)
  | 4 => ("SnowMoney$Duchy", "snow", "[I", true)
  | 5 => ("SnowMoney$Duchy", "at", "[I", true)
  | 6 => ("SnowMoney$Duchy", "owners", "[I", true)
  | 7 => ("SnowMoney$Duchy", "tape", "[I", true)
  | 8 => ("SnowMoney$Duchy", "waiting", "[I", true)
  | 9 => ("SnowMoney$Duchy", "heat", "LSnowMoney$Text;", true)
  | 10 => ("SnowMoney$Duchy", "found", "LSnowMoney$Text;", true)
  | 11 => ("SnowMoney$Duchy", "places", "I", false)
  | 12 => ("SnowMoney$Duchy", "notes", "I", false)
  | 13 => ("SnowMoney$Duchy", "weather", "I", false)
  | 14 => ("SnowMoney$Duchy", "hour", "I", false)
  | 15 => ("SnowMoney$Duchy", "taped", "I", false)
  | 16 => ("SnowMoney$Duchy", "waits", "I", false)
  | _ => ("SnowMoney$Duchy", "z", "I", false)
def sm_t0 : Nat → FieldType := fun k => match k with
  | 0 => .array .int
  | 1 => .array .int
  | 2 => .array .int
  | 3 => .array .int
  | 4 => .array .int
  | 5 => .array .int
  | 6 => .array .int
  | 7 => .array .int
  | 8 => .array .int
  | 9 => .object "SnowMoney$Text"
  | 10 => .object "SnowMoney$Text"
  | 11 => .int
  | 12 => .int
  | 13 => .int
  | 14 => .int
  | 15 => .int
  | 16 => .int
  | _ => .int
def sm_T1 : u_T := fun k => match k with
  | 0 => ("SnowMoney$Foresight", "duchy", "LSnowMoney$Duchy;", true)
  | 1 => ("SnowMoney$Foresight", "heats", "[I", true)
  | 2 => ("SnowMoney$Foresight", "course", "[I", true)
  | 3 => ("SnowMoney$Foresight", "totals", "[I", true)
  | 4 => ("SnowMoney$Foresight", "sums", "[I", true)
  | 5 => ("SnowMoney$Foresight", "steps", "[I", true)
  | 6 => ("SnowMoney$Foresight", "aim", "I", false)
  | 7 => ("SnowMoney$Foresight", "bestValue", "I", false)
  | _ => ("SnowMoney$Foresight", "bestNumber", "I", false)
def sm_t1 : Nat → FieldType := fun k => match k with
  | 0 => .object "SnowMoney$Duchy"
  | 1 => .array .int
  | 2 => .array .int
  | 3 => .array .int
  | 4 => .array .int
  | 5 => .array .int
  | 6 => .int
  | 7 => .int
  | _ => .int
def sm_T2 : u_T := fun k => match k with
  | 0 => ("SnowMoney$Reader", "text", "LSnowMoney$Text;", true)
  | 1 => ("SnowMoney$Reader", "tape", "[I", true)
  | 2 => ("SnowMoney$Reader", "size", "I", false)
  | 3 => ("SnowMoney$Reader", "at", "I", false)
  | _ => ("SnowMoney$Reader", "names", "Ljava/lang/String;", false)
def sm_t2 : Nat → FieldType := fun k => match k with
  | 0 => .object "SnowMoney$Text"
  | 1 => .array .int
  | 2 => .int
  | 3 => .int
  | _ => .object "java/lang/String"
def sm_T3 : u_T := fun k => match k with
  | 0 => ("SnowMoney$Sheet", "numbers", "[I", true)
  | 1 => ("SnowMoney$Sheet", "bits", "I", false)
  | _ => ("SnowMoney$Sheet", "length", "I", false)
def sm_t3 : Nat → FieldType := fun k => match k with
  | 0 => .array .int
  | 1 => .int
  | _ => .int
def sm_T4 : u_T := fun k => match k with
  | 0 => ("SnowMoney$Text", "signs", "[I", true)
  | 1 => ("SnowMoney$Text", "values", "[I", true)
  | 2 => ("SnowMoney$Text", "stack", "[I", true)
  | _ => ("SnowMoney$Text", "length", "I", false)
def sm_t4 : Nat → FieldType := fun k => match k with
  | 0 => .array .int
  | 1 => .array .int
  | 2 => .array .int
  | _ => .int
def sm_T5 : u_T := fun k => match k with
  | 0 => ("SnowMoney$Voices", "bodies", "[I", true)
  | 1 => ("SnowMoney$Voices", "traced", "I", false)
  | 2 => ("SnowMoney$Voices", "kind", "I", false)
  | 3 => ("SnowMoney$Voices", "number", "I", false)
  | _ => ("SnowMoney$Voices", "m", "I", false)
def sm_t5 : Nat → FieldType := fun k => match k with
  | 0 => .array .int
  | 1 => .int
  | 2 => .int
  | 3 => .int
  | _ => .int
def sm_T6 : u_T := fun k => match k with
  | 0 => ("SnowMoney", "duchy", "LSnowMoney$Duchy;", true)
  | 1 => ("SnowMoney", "kept", "LSnowMoney$Duchy;", true)
  | 2 => ("SnowMoney", "foresight", "LSnowMoney$Foresight;", true)
  | 3 => ("SnowMoney", "reader", "LSnowMoney$Reader;", true)
  | 4 => ("SnowMoney", "voices", "LSnowMoney$Voices;", true)
  | 5 => ("SnowMoney", "rows", "[LSnowMoney$Sheet;", true)
  | 6 => ("SnowMoney", "errors", "[I", true)
  | _ => ("SnowMoney", "images", "I", false)
def sm_t6 : Nat → FieldType := fun k => match k with
  | 0 => .object "SnowMoney$Duchy"
  | 1 => .object "SnowMoney$Duchy"
  | 2 => .object "SnowMoney$Foresight"
  | 3 => .object "SnowMoney$Reader"
  | 4 => .object "SnowMoney$Voices"
  | 5 => .array (.object "SnowMoney$Sheet")
  | 6 => .array .int
  | _ => .int
def sm_T7 : u_T := fun k => match k with
  | 0 => ("SnowMoneyModel", "row", "[I", true)
  | 1 => ("SnowMoneyModel", "kept", "[I", true)
  | 2 => ("SnowMoneyModel", "tried", "[I", true)
  | 3 => ("SnowMoneyModel", "before", "[I", true)
  | 4 => ("SnowMoneyModel", "isKept", "Z", false)
  | 5 => ("SnowMoneyModel", "images", "I", false)
  | 6 => ("SnowMoneyModel", "found", "[I", true)
  | 7 => ("SnowMoneyModel", "use", "I", false)
  | 8 => ("SnowMoneyModel", "at", "I", false)
  | 9 => ("SnowMoneyModel", "end", "I", false)
  | 10 => ("SnowMoneyModel", "open", "I", false)
  | 11 => ("SnowMoneyModel", "namedA", "I", false)
  | 12 => ("SnowMoneyModel", "namedB", "I", false)
  | 13 => ("SnowMoneyModel", "namedC", "I", false)
  | 14 => ("SnowMoneyModel", "good", "Z", false)
  | 15 => ("SnowMoneyModel", "warmer", "I", false)
  | 16 => ("SnowMoneyModel", "path", "[I", true)
  | 17 => ("SnowMoneyModel", "mostLeft", "I", false)
  | 18 => ("SnowMoneyModel", "nextOn", "I", false)
  | 19 => ("SnowMoneyModel", "bitsOf", "[I", true)
  | 20 => ("SnowMoneyModel", "sizeOf", "[I", true)
  | 21 => ("SnowMoneyModel", "sheets", "[I", true)
  | 22 => ("SnowMoneyModel", "moved", "[I", true)
  | 23 => ("SnowMoneyModel", "traced", "[I", true)
  | 24 => ("SnowMoneyModel", "tracedMany", "I", false)
  | 25 => ("SnowMoneyModel", "voiceKind", "I", false)
  | 26 => ("SnowMoneyModel", "voiceN", "I", false)
  | _ => ("SnowMoneyModel", "voiceM", "I", false)
def sm_t7 : Nat → FieldType := fun k => match k with
  | 0 => .array .int
  | 1 => .array .int
  | 2 => .array .int
  | 3 => .array .int
  | 4 => .boolean
  | 5 => .int
  | 6 => .array .int
  | 7 => .int
  | 8 => .int
  | 9 => .int
  | 10 => .int
  | 11 => .int
  | 12 => .int
  | 13 => .int
  | 14 => .boolean
  | 15 => .int
  | 16 => .array .int
  | 17 => .int
  | 18 => .int
  | 19 => .array .int
  | 20 => .array .int
  | 21 => .array .int
  | 22 => .array .int
  | 23 => .array .int
  | 24 => .int
  | 25 => .int
  | 26 => .int
  | _ => .int
abbrev sm_cls : List vw_C := [("SnowMoney$Duchy", sm_T0, 18), ("SnowMoney$Foresight", sm_T1, 9), ("SnowMoney$Reader", sm_T2, 5), ("SnowMoney$Sheet", sm_T3, 3), ("SnowMoney$Text", sm_T4, 4), ("SnowMoney$Voices", sm_T5, 5), ("SnowMoney", sm_T6, 8), ("SnowMoneyModel", sm_T7, 28)]
def sm_lays : List (Nat × Nat × List Nat) := [(1, 6, [3, 21, 39, 45, 51, 53, 62, 0]), (1, 0, [4, 5, 6, 7, 8, 9, 10, 11, 12, 13, 17, 0, 0, 0, 0, 0, 0, 0]), (0, 6, []), (0, 36, []), (0, 10, []), (0, 10, []), (0, 10, []), (0, 10, []), (0, 10, []), (0, 50, []), (0, 20, []), (1, 4, [14, 15, 16, 0]), (0, 50, []), (0, 50, []), (0, 50, []), (1, 4, [18, 19, 20, 0]), (0, 50, []), (0, 50, []), (0, 50, []), (1, 0, [22, 23, 24, 25, 26, 27, 28, 29, 30, 31, 35, 0, 0, 0, 0, 0, 0, 0]), (0, 6, []), (0, 36, []), (0, 10, []), (0, 10, []), (0, 10, []), (0, 10, []), (0, 10, []), (0, 50, []), (0, 20, []), (1, 4, [32, 33, 34, 0]), (0, 50, []), (0, 50, []), (0, 50, []), (1, 4, [36, 37, 38, 0]), (0, 50, []), (0, 50, []), (0, 50, []), (1, 1, [3, 40, 41, 42, 43, 44, 0, 0, 0]), (0, 24, []), (0, 61, []), (0, 61, []), (0, 1024, []), (0, 6, []), (1, 2, [46, 50, 0, 0, 1]), (1, 4, [47, 48, 49, 0]), (0, 50, []), (0, 50, []), (0, 50, []), (0, 50, []), (1, 5, [52, 0, 0, 0, 0]), (0, 40, []), (2, 4, [52, 54, 56, 58]), (1, 3, [55, 0, 0]), (0, 40, []), (1, 3, [57, 0, 0]), (0, 40, []), (1, 3, [59, 0, 0]), (0, 40, []), (1, 3, [61, 0, 0]), (0, 40, []), (0, 6, []), (1, 7, [64, 65, 66, 67, 0, 0, 68, 0, 0, 0, 0, 0, 0, 0, 0, 0, 69, 0, 0, 70, 71, 72, 73, 74, 0, 0, 0, 0]), (0, 271, []), (0, 271, []), (0, 271, []), (0, 271, []), (0, 6, []), (0, 6, []), (0, 4, []), (0, 4, []), (0, 160, []), (0, 40, []), (0, 40, [])]
theorem sm_l0 : sm_lays[0]? = some (1, 6, [3, 21, 39, 45, 51, 53, 62, 0]) := by decide +kernel
theorem sm_l1 : sm_lays[1]? = some (1, 0, [4, 5, 6, 7, 8, 9, 10, 11, 12, 13, 17, 0, 0, 0, 0, 0, 0, 0]) := by decide +kernel
theorem sm_l2 : sm_lays[2]? = some (0, 6, []) := by decide +kernel
theorem sm_l3 : sm_lays[3]? = some (0, 36, []) := by decide +kernel
theorem sm_l4 : sm_lays[4]? = some (0, 10, []) := by decide +kernel
theorem sm_l5 : sm_lays[5]? = some (0, 10, []) := by decide +kernel
theorem sm_l6 : sm_lays[6]? = some (0, 10, []) := by decide +kernel
theorem sm_l7 : sm_lays[7]? = some (0, 10, []) := by decide +kernel
theorem sm_l8 : sm_lays[8]? = some (0, 10, []) := by decide +kernel
theorem sm_l9 : sm_lays[9]? = some (0, 50, []) := by decide +kernel
theorem sm_l10 : sm_lays[10]? = some (0, 20, []) := by decide +kernel
theorem sm_l11 : sm_lays[11]? = some (1, 4, [14, 15, 16, 0]) := by decide +kernel
theorem sm_l12 : sm_lays[12]? = some (0, 50, []) := by decide +kernel
theorem sm_l13 : sm_lays[13]? = some (0, 50, []) := by decide +kernel
theorem sm_l14 : sm_lays[14]? = some (0, 50, []) := by decide +kernel
theorem sm_l15 : sm_lays[15]? = some (1, 4, [18, 19, 20, 0]) := by decide +kernel
theorem sm_l16 : sm_lays[16]? = some (0, 50, []) := by decide +kernel
theorem sm_l17 : sm_lays[17]? = some (0, 50, []) := by decide +kernel
theorem sm_l18 : sm_lays[18]? = some (0, 50, []) := by decide +kernel
theorem sm_l19 : sm_lays[19]? = some (1, 0, [22, 23, 24, 25, 26, 27, 28, 29, 30, 31, 35, 0, 0, 0, 0, 0, 0, 0]) := by decide +kernel
theorem sm_l20 : sm_lays[20]? = some (0, 6, []) := by decide +kernel
theorem sm_l21 : sm_lays[21]? = some (0, 36, []) := by decide +kernel
theorem sm_l22 : sm_lays[22]? = some (0, 10, []) := by decide +kernel
theorem sm_l23 : sm_lays[23]? = some (0, 10, []) := by decide +kernel
theorem sm_l24 : sm_lays[24]? = some (0, 10, []) := by decide +kernel
theorem sm_l25 : sm_lays[25]? = some (0, 10, []) := by decide +kernel
theorem sm_l26 : sm_lays[26]? = some (0, 10, []) := by decide +kernel
theorem sm_l27 : sm_lays[27]? = some (0, 50, []) := by decide +kernel
theorem sm_l28 : sm_lays[28]? = some (0, 20, []) := by decide +kernel
theorem sm_l29 : sm_lays[29]? = some (1, 4, [32, 33, 34, 0]) := by decide +kernel
theorem sm_l30 : sm_lays[30]? = some (0, 50, []) := by decide +kernel
theorem sm_l31 : sm_lays[31]? = some (0, 50, []) := by decide +kernel
theorem sm_l32 : sm_lays[32]? = some (0, 50, []) := by decide +kernel
theorem sm_l33 : sm_lays[33]? = some (1, 4, [36, 37, 38, 0]) := by decide +kernel
theorem sm_l34 : sm_lays[34]? = some (0, 50, []) := by decide +kernel
theorem sm_l35 : sm_lays[35]? = some (0, 50, []) := by decide +kernel
theorem sm_l36 : sm_lays[36]? = some (0, 50, []) := by decide +kernel
theorem sm_l37 : sm_lays[37]? = some (1, 1, [3, 40, 41, 42, 43, 44, 0, 0, 0]) := by decide +kernel
theorem sm_l38 : sm_lays[38]? = some (0, 24, []) := by decide +kernel
theorem sm_l39 : sm_lays[39]? = some (0, 61, []) := by decide +kernel
theorem sm_l40 : sm_lays[40]? = some (0, 61, []) := by decide +kernel
theorem sm_l41 : sm_lays[41]? = some (0, 1024, []) := by decide +kernel
theorem sm_l42 : sm_lays[42]? = some (0, 6, []) := by decide +kernel
theorem sm_l43 : sm_lays[43]? = some (1, 2, [46, 50, 0, 0, 1]) := by decide +kernel
theorem sm_l44 : sm_lays[44]? = some (1, 4, [47, 48, 49, 0]) := by decide +kernel
theorem sm_l45 : sm_lays[45]? = some (0, 50, []) := by decide +kernel
theorem sm_l46 : sm_lays[46]? = some (0, 50, []) := by decide +kernel
theorem sm_l47 : sm_lays[47]? = some (0, 50, []) := by decide +kernel
theorem sm_l48 : sm_lays[48]? = some (0, 50, []) := by decide +kernel
theorem sm_l49 : sm_lays[49]? = some (1, 5, [52, 0, 0, 0, 0]) := by decide +kernel
theorem sm_l50 : sm_lays[50]? = some (0, 40, []) := by decide +kernel
theorem sm_l51 : sm_lays[51]? = some (2, 4, [52, 54, 56, 58]) := by decide +kernel
theorem sm_l52 : sm_lays[52]? = some (1, 3, [55, 0, 0]) := by decide +kernel
theorem sm_l53 : sm_lays[53]? = some (0, 40, []) := by decide +kernel
theorem sm_l54 : sm_lays[54]? = some (1, 3, [57, 0, 0]) := by decide +kernel
theorem sm_l55 : sm_lays[55]? = some (0, 40, []) := by decide +kernel
theorem sm_l56 : sm_lays[56]? = some (1, 3, [59, 0, 0]) := by decide +kernel
theorem sm_l57 : sm_lays[57]? = some (0, 40, []) := by decide +kernel
theorem sm_l58 : sm_lays[58]? = some (1, 3, [61, 0, 0]) := by decide +kernel
theorem sm_l59 : sm_lays[59]? = some (0, 40, []) := by decide +kernel
theorem sm_l60 : sm_lays[60]? = some (0, 6, []) := by decide +kernel
theorem sm_l61 : sm_lays[61]? = some (1, 7, [64, 65, 66, 67, 0, 0, 68, 0, 0, 0, 0, 0, 0, 0, 0, 0, 69, 0, 0, 70, 71, 72, 73, 74, 0, 0, 0, 0]) := by decide +kernel
theorem sm_l62 : sm_lays[62]? = some (0, 271, []) := by decide +kernel
theorem sm_l63 : sm_lays[63]? = some (0, 271, []) := by decide +kernel
theorem sm_l64 : sm_lays[64]? = some (0, 271, []) := by decide +kernel
theorem sm_l65 : sm_lays[65]? = some (0, 271, []) := by decide +kernel
theorem sm_l66 : sm_lays[66]? = some (0, 6, []) := by decide +kernel
theorem sm_l67 : sm_lays[67]? = some (0, 6, []) := by decide +kernel
theorem sm_l68 : sm_lays[68]? = some (0, 4, []) := by decide +kernel
theorem sm_l69 : sm_lays[69]? = some (0, 4, []) := by decide +kernel
theorem sm_l70 : sm_lays[70]? = some (0, 160, []) := by decide +kernel
theorem sm_l71 : sm_lays[71]? = some (0, 40, []) := by decide +kernel
theorem sm_l72 : sm_lays[72]? = some (0, 40, []) := by decide +kernel

/-- locals -/
abbrev mx_L : Type := Nat → Option Value
/-- cells made, slots made, kinds and lengths, whole numbers, references, longs -/
abbrev mx_H : Type := Nat × Nat × (Nat → Option (Nat × Nat)) × (Nat → Nat → Int32) × (Nat → Nat → Option Nat) × (Nat → Nat → Int64)
/-- returned a value, or threw an exception of that number -/
abbrev mx_O : Type := Option Value ⊕ Nat
/-- a method: where its code stands in lw_tbl, class, number of locals, answer's type, exception table, name -/
abbrev mx_M : Type := Nat × String × Nat × Option FieldType × List (Nat × Nat × Nat × Nat) × String
/-- the start: its state, its heap's size, the classes' numbers and slots, where the static array lies -/
abbrev mx_E : Type := State × Nat × (Nat → ClassId) × (Nat → Nat → Nat) × Nat
/-! NAMES: printed by wip/whole/gen.py out of the Statement. Classes, fields, methods, links; where each word stands in lw_tbl. -/
def mx_T0 : u_T := fun k => match k with
  | 0 => ("IdealWorks$Ideal", "generators", "[[I", true)
  | 1 => ("IdealWorks$Ideal", "generatorCount", "I", false)
  | 2 => ("IdealWorks$Ideal", "hasBasis", "Z", false)
  | 3 => ("IdealWorks$Ideal", "complete", "Z", false)
  | 4 => ("IdealWorks$Ideal", "space", "LIdealWorks$Space;", true)
  | 5 => ("IdealWorks$Ideal", "corners", "[I", true)
  | _ => ("IdealWorks$Ideal", "cornerCount", "I", false)
def mx_T1 : u_T := fun k => match k with
  | 0 => ("IdealWorks$Lexicon", "variables", "I", false)
  | 1 => ("IdealWorks$Lexicon", "headCount", "I", false)
  | 2 => ("IdealWorks$Lexicon", "heads", "[I", true)
  | 3 => ("IdealWorks$Lexicon", "tails", "[[I", true)
  | 4 => ("IdealWorks$Lexicon", "smallCount", "I", false)
  | 5 => ("IdealWorks$Lexicon", "smalls", "[I", true)
  | 6 => ("IdealWorks$Lexicon", "smallRows", "[[I", true)
  | 7 => ("IdealWorks$Lexicon", "pivotRows", "[[I", true)
  | 8 => ("IdealWorks$Lexicon", "pivotSums", "[[I", true)
  | 9 => ("IdealWorks$Lexicon", "pivots", "[I", true)
  | 10 => ("IdealWorks$Lexicon", "queued", "I", false)
  | 11 => ("IdealWorks$Lexicon", "queue", "[I", true)
  | 12 => ("IdealWorks$Lexicon", "queueOrigins", "[I", true)
  | 13 => ("IdealWorks$Lexicon", "wholeRow", "[I", true)
  | 14 => ("IdealWorks$Lexicon", "row", "[I", true)
  | _ => ("IdealWorks$Lexicon", "sum", "[I", true)
def mx_T2 : u_T := fun k => match k with
  | 0 => ("IdealWorks$Printer", "ring", "LIdealWorks$Ring;", true)
  | 1 => ("IdealWorks$Printer", "bytes", "[B", true)
  | _ => ("IdealWorks$Printer", "length", "I", false)
def mx_T3 : u_T := fun k => match k with
  | 0 => ("IdealWorks$Quotient", "size", "I", false)
  | 1 => ("IdealWorks$Quotient", "standards", "[I", true)
  | 2 => ("IdealWorks$Quotient", "cornerCount", "I", false)
  | 3 => ("IdealWorks$Quotient", "corners", "[I", true)
  | 4 => ("IdealWorks$Quotient", "borderSize", "I", false)
  | 5 => ("IdealWorks$Quotient", "border", "[I", true)
  | 6 => ("IdealWorks$Quotient", "forms", "[[I", true)
  | 7 => ("IdealWorks$Quotient", "products", "[I", true)
  | _ => ("IdealWorks$Quotient", "polynomial", "[I", true)
def mx_T4 : u_T := fun k => match k with
  | 0 => ("IdealWorks$Ring", "prime", "I", false)
  | 1 => ("IdealWorks$Ring", "variables", "I", false)
  | 2 => ("IdealWorks$Ring", "order", "I", false)
  | 3 => ("IdealWorks$Ring", "highest", "I", false)
  | 4 => ("IdealWorks$Ring", "count", "I", false)
  | 5 => ("IdealWorks$Ring", "degrees", "[I", true)
  | 6 => ("IdealWorks$Ring", "ends", "[I", true)
  | 7 => ("IdealWorks$Ring", "exponents", "[I", true)
  | 8 => ("IdealWorks$Ring", "codes", "[I", true)
  | 9 => ("IdealWorks$Ring", "weights", "[I", true)
  | 10 => ("IdealWorks$Ring", "places", "[I", true)
  | 11 => ("IdealWorks$Ring", "aboves", "[I", true)
  | 12 => ("IdealWorks$Ring", "belows", "[I", true)
  | 13 => ("IdealWorks$Ring", "hand", "[I", true)
  | _ => ("IdealWorks$Ring", "powers", "[I", true)
def mx_T5 : u_T := fun k => match k with
  | 0 => ("IdealWorks$Space", "bound", "I", false)
  | 1 => ("IdealWorks$Space", "made", "I", false)
  | 2 => ("IdealWorks$Space", "checked", "I", false)
  | 3 => ("IdealWorks$Space", "rows", "[[I", true)
  | 4 => ("IdealWorks$Space", "leads", "[I", true)
  | 5 => ("IdealWorks$Space", "rowOfLead", "[I", true)
  | 6 => ("IdealWorks$Space", "sources", "[I", true)
  | 7 => ("IdealWorks$Space", "recipes", "[[I", true)
  | 8 => ("IdealWorks$Space", "scales", "[I", true)
  | 9 => ("IdealWorks$Space", "work", "[I", true)
  | _ => ("IdealWorks$Space", "shares", "[I", true)
def mx_T6 : u_T := fun k => match k with
  | 0 => ("IdealWorks$TextReader", "faultKind", "I", false)
  | 1 => ("IdealWorks$TextReader", "faultPlace", "I", false)
  | 2 => ("IdealWorks$TextReader", "ring", "LIdealWorks$Ring;", true)
  | 3 => ("IdealWorks$TextReader", "ready", "[I", true)
  | 4 => ("IdealWorks$TextReader", "text", "[I", true)
  | 5 => ("IdealWorks$TextReader", "length", "I", false)
  | 6 => ("IdealWorks$TextReader", "at", "I", false)
  | 7 => ("IdealWorks$TextReader", "sums", "[[I", true)
  | 8 => ("IdealWorks$TextReader", "terms", "[[I", true)
  | 9 => ("IdealWorks$TextReader", "factors", "[[I", true)
  | 10 => ("IdealWorks$TextReader", "base", "[I", true)
  | _ => ("IdealWorks$TextReader", "product", "[I", true)
def mx_T7 : u_T := fun k => match k with
  | 0 => ("IdealWorks$ZeroFinder", "variables", "I", false)
  | 1 => ("IdealWorks$ZeroFinder", "found", "I", false)
  | 2 => ("IdealWorks$ZeroFinder", "kept", "[I", true)
  | 3 => ("IdealWorks$ZeroFinder", "point", "[I", true)
  | 4 => ("IdealWorks$ZeroFinder", "stages", "[[I", true)
  | 5 => ("IdealWorks$ZeroFinder", "generatorCount", "I", false)
  | 6 => ("IdealWorks$ZeroFinder", "lines", "[[I", true)
  | _ => ("IdealWorks$ZeroFinder", "lineTops", "[I", true)
def mx_T8 : u_T := fun k => match k with
  | 0 => ("IdealWorks", "ring", "LIdealWorks$Ring;", true)
  | 1 => ("IdealWorks", "wideRing", "LIdealWorks$Ring;", true)
  | 2 => ("IdealWorks", "polynomials", "[[I", true)
  | 3 => ("IdealWorks", "ideals", "[LIdealWorks$Ideal;", true)
  | 4 => ("IdealWorks", "draft", "LIdealWorks$Ideal;", true)
  | 5 => ("IdealWorks", "reader", "LIdealWorks$TextReader;", true)
  | 6 => ("IdealWorks", "printer", "LIdealWorks$Printer;", true)
  | 7 => ("IdealWorks", "quotient", "LIdealWorks$Quotient;", true)
  | 8 => ("IdealWorks", "lexicon", "LIdealWorks$Lexicon;", true)
  | 9 => ("IdealWorks", "zeroFinder", "LIdealWorks$ZeroFinder;", true)
  | 10 => ("IdealWorks", "result", "[I", true)
  | _ => ("IdealWorks", "proofs", "I", false)
def mx_T9 : u_T := fun k => match k with
  | 0 => ("IdealWorksModel", "thrown", "I", false)
  | 1 => ("IdealWorksModel", "p", "I", false)
  | 2 => ("IdealWorksModel", "n", "I", false)
  | 3 => ("IdealWorksModel", "order", "I", false)
  | 4 => ("IdealWorksModel", "exponents", "[I", true)
  | 5 => ("IdealWorksModel", "degrees", "[I", true)
  | 6 => ("IdealWorksModel", "many", "[I", true)
  | 7 => ("IdealWorksModel", "place", "[I", true)
  | 8 => ("IdealWorksModel", "poly", "[I", true)
  | 9 => ("IdealWorksModel", "generators", "[I", true)
  | 10 => ("IdealWorksModel", "generatorMany", "[I", true)
  | 11 => ("IdealWorksModel", "rows", "[I", true)
  | 12 => ("IdealWorksModel", "upTo", "[I", true)
  | 13 => ("IdealWorksModel", "leads", "[Z", true)
  | 14 => ("IdealWorksModel", "hasBasis", "[Z", true)
  | 15 => ("IdealWorksModel", "ready", "[I", true)
  | 16 => ("IdealWorksModel", "text", "[I", true)
  | 17 => ("IdealWorksModel", "output", "[I", true)
  | 18 => ("IdealWorksModel", "texted", "I", false)
  | 19 => ("IdealWorksModel", "out", "I", false)
  | 20 => ("IdealWorksModel", "proved", "I", false)
  | 21 => ("IdealWorksModel", "sum", "[I", true)
  | 22 => ("IdealWorksModel", "at", "I", false)
  | 23 => ("IdealWorksModel", "size", "I", false)
  | 24 => ("IdealWorksModel", "depth", "I", false)
  | 25 => ("IdealWorksModel", "fault", "I", false)
  | 26 => ("IdealWorksModel", "faultPlace", "I", false)
  | 27 => ("IdealWorksModel", "wants", "Z", false)
  | 28 => ("IdealWorksModel", "fresh", "Z", false)
  | 29 => ("IdealWorksModel", "sums", "[I", true)
  | 30 => ("IdealWorksModel", "terms", "[I", true)
  | 31 => ("IdealWorksModel", "signs", "[I", true)
  | 32 => ("IdealWorksModel", "stars", "[I", true)
  | 33 => ("IdealWorksModel", "factor", "[I", true)
  | 34 => ("IdealWorksModel", "once", "[I", true)
  | 35 => ("IdealWorksModel", "gathered", "[I", true)
  | 36 => ("IdealWorksModel", "vector", "[I", true)
  | 37 => ("IdealWorksModel", "waits", "[I", true)
  | 38 => ("IdealWorksModel", "waiting", "I", false)
  | 39 => ("IdealWorksModel", "table", "I", false)
  | 40 => ("IdealWorksModel", "plain", "I", false)
  | 41 => ("IdealWorksModel", "plainAt", "[I", true)
  | 42 => ("IdealWorksModel", "products", "[I", true)
  | 43 => ("IdealWorksModel", "found", "I", false)
  | 44 => ("IdealWorksModel", "entries", "I", false)
  | 45 => ("IdealWorksModel", "entryVariables", "I", false)
  | 46 => ("IdealWorksModel", "foundAt", "[I", true)
  | 47 => ("IdealWorksModel", "foundRow", "[I", true)
  | 48 => ("IdealWorksModel", "apart", "[I", true)
  | 49 => ("IdealWorksModel", "made", "[I", true)
  | 50 => ("IdealWorksModel", "apartLead", "[I", true)
  | 51 => ("IdealWorksModel", "entryAt", "[I", true)
  | 52 => ("IdealWorksModel", "entryRow", "[I", true)
  | 53 => ("IdealWorksModel", "row", "[I", true)
  | 54 => ("IdealWorksModel", "way", "[I", true)
  | 55 => ("IdealWorksModel", "leader", "I", false)
  | 56 => ("IdealWorksModel", "trial", "[I", true)
  | 57 => ("IdealWorksModel", "trialMost", "[I", true)
  | 58 => ("IdealWorksModel", "pairs", "[I", true)
  | 59 => ("IdealWorksModel", "pairOf", "[I", true)
  | 60 => ("IdealWorksModel", "least", "[I", true)
  | 61 => ("IdealWorksModel", "leastFrom", "I", false)
  | 62 => ("IdealWorksModel", "leastBy", "I", false)
  | 63 => ("IdealWorksModel", "zeroMany", "I", false)
  | 64 => ("IdealWorksModel", "zeroVariables", "I", false)
  | 65 => ("IdealWorksModel", "zeroAt", "[I", true)
  | _ => ("IdealWorksModel", "point", "[I", true)
def mx_Y0 : Nat → FieldType := fun k => match k with
  | 0 => (.array (.array .int))
  | 1 => .int
  | 2 => .boolean
  | 3 => .boolean
  | 4 => (.object "IdealWorks$Space")
  | 5 => (.array .int)
  | _ => .int
def mx_Y1 : Nat → FieldType := fun k => match k with
  | 0 => .int
  | 1 => .int
  | 2 => (.array .int)
  | 3 => (.array (.array .int))
  | 4 => .int
  | 5 => (.array .int)
  | 6 => (.array (.array .int))
  | 7 => (.array (.array .int))
  | 8 => (.array (.array .int))
  | 9 => (.array .int)
  | 10 => .int
  | 11 => (.array .int)
  | 12 => (.array .int)
  | 13 => (.array .int)
  | 14 => (.array .int)
  | _ => (.array .int)
def mx_Y2 : Nat → FieldType := fun k => match k with
  | 0 => (.object "IdealWorks$Ring")
  | 1 => (.array .byte)
  | _ => .int
def mx_Y3 : Nat → FieldType := fun k => match k with
  | 0 => .int
  | 1 => (.array .int)
  | 2 => .int
  | 3 => (.array .int)
  | 4 => .int
  | 5 => (.array .int)
  | 6 => (.array (.array .int))
  | 7 => (.array .int)
  | _ => (.array .int)
def mx_Y4 : Nat → FieldType := fun k => match k with
  | 0 => .int
  | 1 => .int
  | 2 => .int
  | 3 => .int
  | 4 => .int
  | 5 => (.array .int)
  | 6 => (.array .int)
  | 7 => (.array .int)
  | 8 => (.array .int)
  | 9 => (.array .int)
  | 10 => (.array .int)
  | 11 => (.array .int)
  | 12 => (.array .int)
  | 13 => (.array .int)
  | _ => (.array .int)
def mx_Y5 : Nat → FieldType := fun k => match k with
  | 0 => .int
  | 1 => .int
  | 2 => .int
  | 3 => (.array (.array .int))
  | 4 => (.array .int)
  | 5 => (.array .int)
  | 6 => (.array .int)
  | 7 => (.array (.array .int))
  | 8 => (.array .int)
  | 9 => (.array .int)
  | _ => (.array .int)
def mx_Y6 : Nat → FieldType := fun k => match k with
  | 0 => .int
  | 1 => .int
  | 2 => (.object "IdealWorks$Ring")
  | 3 => (.array .int)
  | 4 => (.array .int)
  | 5 => .int
  | 6 => .int
  | 7 => (.array (.array .int))
  | 8 => (.array (.array .int))
  | 9 => (.array (.array .int))
  | 10 => (.array .int)
  | _ => (.array .int)
def mx_Y7 : Nat → FieldType := fun k => match k with
  | 0 => .int
  | 1 => .int
  | 2 => (.array .int)
  | 3 => (.array .int)
  | 4 => (.array (.array .int))
  | 5 => .int
  | 6 => (.array (.array .int))
  | _ => (.array .int)
def mx_Y8 : Nat → FieldType := fun k => match k with
  | 0 => (.object "IdealWorks$Ring")
  | 1 => (.object "IdealWorks$Ring")
  | 2 => (.array (.array .int))
  | 3 => (.array (.object "IdealWorks$Ideal"))
  | 4 => (.object "IdealWorks$Ideal")
  | 5 => (.object "IdealWorks$TextReader")
  | 6 => (.object "IdealWorks$Printer")
  | 7 => (.object "IdealWorks$Quotient")
  | 8 => (.object "IdealWorks$Lexicon")
  | 9 => (.object "IdealWorks$ZeroFinder")
  | 10 => (.array .int)
  | _ => .int
def mx_Y9 : Nat → FieldType := fun k => match k with
  | 0 => .int
  | 1 => .int
  | 2 => .int
  | 3 => .int
  | 4 => (.array .int)
  | 5 => (.array .int)
  | 6 => (.array .int)
  | 7 => (.array .int)
  | 8 => (.array .int)
  | 9 => (.array .int)
  | 10 => (.array .int)
  | 11 => (.array .int)
  | 12 => (.array .int)
  | 13 => (.array .boolean)
  | 14 => (.array .boolean)
  | 15 => (.array .int)
  | 16 => (.array .int)
  | 17 => (.array .int)
  | 18 => .int
  | 19 => .int
  | 20 => .int
  | 21 => (.array .int)
  | 22 => .int
  | 23 => .int
  | 24 => .int
  | 25 => .int
  | 26 => .int
  | 27 => .boolean
  | 28 => .boolean
  | 29 => (.array .int)
  | 30 => (.array .int)
  | 31 => (.array .int)
  | 32 => (.array .int)
  | 33 => (.array .int)
  | 34 => (.array .int)
  | 35 => (.array .int)
  | 36 => (.array .int)
  | 37 => (.array .int)
  | 38 => .int
  | 39 => .int
  | 40 => .int
  | 41 => (.array .int)
  | 42 => (.array .int)
  | 43 => .int
  | 44 => .int
  | 45 => .int
  | 46 => (.array .int)
  | 47 => (.array .int)
  | 48 => (.array .int)
  | 49 => (.array .int)
  | 50 => (.array .int)
  | 51 => (.array .int)
  | 52 => (.array .int)
  | 53 => (.array .int)
  | 54 => (.array .int)
  | 55 => .int
  | 56 => (.array .int)
  | 57 => (.array .int)
  | 58 => (.array .int)
  | 59 => (.array .int)
  | 60 => (.array .int)
  | 61 => .int
  | 62 => .int
  | 63 => .int
  | 64 => .int
  | 65 => (.array .int)
  | _ => (.array .int)
abbrev mx_cl : List vw_C := [("IdealWorks$Ideal", mx_T0, 7), ("IdealWorks$Lexicon", mx_T1, 16), ("IdealWorks$Printer", mx_T2, 3), ("IdealWorks$Quotient", mx_T3, 9), ("IdealWorks$Ring", mx_T4, 15), ("IdealWorks$Space", mx_T5, 11), ("IdealWorks$TextReader", mx_T6, 12), ("IdealWorks$ZeroFinder", mx_T7, 8), ("IdealWorks", mx_T8, 12), ("IdealWorksModel", mx_T9, 67)]
def mx_T (c : Nat) : u_T := ([mx_T0, mx_T1, mx_T2, mx_T3, mx_T4, mx_T5, mx_T6, mx_T7, mx_T8, mx_T9] : List u_T).getD c mx_T0
/-- the types of the fields -/
def mx_Y (c : Nat) : Nat → FieldType := ([mx_Y0, mx_Y1, mx_Y2, mx_Y3, mx_Y4, mx_Y5, mx_Y6, mx_Y7, mx_Y8, mx_Y9] : List (Nat → FieldType)).getD c mx_Y0
def mx_rfl : List (List Bool) := [[true, false, false, false, true, true, false], [false, false, true, true, false, true, true, true, true, true, false, true, true, true, true, true], [true, true, false], [false, true, false, true, false, true, true, true, true], [false, false, false, false, false, true, true, true, true, true, true, true, true, true, true], [false, false, false, true, true, true, true, true, true, true, true], [false, false, true, true, true, false, false, true, true, true, true, true], [false, false, true, true, true, false, true, true], [true, true, true, true, true, true, true, true, true, true, true, false], [false, false, false, false, true, true, true, true, true, true, true, true, true, true, true, true, true, true, false, false, false, true, false, false, false, false, false, false, false, true, true, true, true, true, true, true, true, true, false, false, false, true, true, false, false, false, true, true, true, true, true, true, true, true, true, false, true, true, true, true, true, false, false, false, false, true, true]]
/-- is field j of class c a reference -/
def mx_rf (c j : Nat) : Bool := (mx_rfl.getD c []).getD j false
/-- exceptions by number -/
def mx_xn (x : Nat) : String := if x = 0 then "java/lang/IllegalArgumentException" else if x = 1 then "java/lang/IllegalStateException" else "java/lang/IndexOutOfBoundsException"
def mx_flT : List (String × Nat × Nat × Nat × Nat × Nat) := [("IdealWorks$Ring", 9, 4, 0, 0, 141), ("IdealWorks$ZeroFinder", 67, 4, 0, 0, 142), ("IdealWorks$TextReader", 82, 4, 0, 0, 143), ("IdealWorks$Quotient", 139, 4, 0, 0, 144), ("IdealWorks$Ring", 15, 4, 1, 0, 145), ("IdealWorks$Lexicon", 65, 4, 1, 0, 146), ("IdealWorks$ZeroFinder", 41, 4, 1, 0, 147), ("IdealWorks$Quotient", 60, 4, 1, 0, 148), ("IdealWorks$Space", 66, 4, 1, 0, 149), ("IdealWorks$Printer", 39, 4, 1, 0, 150), ("IdealWorks$Ideal", 86, 4, 1, 0, 151), ("IdealWorks$TextReader", 131, 4, 1, 0, 152), ("IdealWorks", 260, 4, 1, 0, 153), ("IdealWorks$Ring", 18, 4, 2, 0, 154), ("IdealWorks$Quotient", 105, 4, 2, 0, 155), ("IdealWorks$Ring", 21, 4, 3, 0, 156), ("IdealWorks$TextReader", 141, 4, 3, 0, 157), ("IdealWorks", 202, 4, 3, 0, 158), ("IdealWorks$Ring", 24, 4, 4, 0, 159), ("IdealWorks$Printer", 23, 4, 4, 0, 160), ("IdealWorks", 129, 4, 4, 0, 161), ("IdealWorks$TextReader", 87, 4, 4, 0, 162), ("IdealWorks$Space", 123, 4, 4, 0, 163), ("IdealWorks$Ring", 27, 4, 5, 12, 164), ("IdealWorks$Space", 92, 4, 5, 12, 165), ("IdealWorks$Ideal", 102, 4, 5, 12, 166), ("IdealWorks$Ring", 31, 4, 6, 12, 167), ("IdealWorks$Space", 71, 4, 6, 12, 168), ("IdealWorks$Ideal", 67, 4, 6, 12, 169), ("IdealWorks$Ring", 34, 4, 7, 12, 170), ("IdealWorks$Ring", 37, 4, 8, 12, 171), ("IdealWorks$Ring", 40, 4, 9, 12, 172), ("IdealWorks$Ring", 43, 4, 10, 12, 173), ("IdealWorks$Ring", 46, 4, 11, 12, 174), ("IdealWorks$Ring", 49, 4, 12, 12, 175), ("IdealWorks$Ring", 52, 4, 13, 12, 176), ("IdealWorks$Ring", 55, 4, 14, 12, 177), ("IdealWorks$Space", 9, 5, 0, 0, 227), ("IdealWorks$Ideal", 99, 5, 0, 0, 228), ("IdealWorks", 238, 5, 0, 0, 229), ("IdealWorks$Space", 15, 5, 1, 0, 230), ("IdealWorks$Space", 18, 5, 2, 0, 231), ("IdealWorks$Space", 23, 5, 3, 12, 232), ("IdealWorks$Space", 26, 5, 4, 12, 233), ("IdealWorks$Space", 30, 5, 5, 12, 234), ("IdealWorks$Space", 33, 5, 6, 12, 235), ("IdealWorks$Space", 36, 5, 7, 12, 236), ("IdealWorks$Space", 39, 5, 8, 12, 237), ("IdealWorks$Space", 42, 5, 9, 12, 238), ("IdealWorks$Space", 45, 5, 10, 12, 239), ("IdealWorks$Ideal", 13, 0, 0, 12, 263), ("IdealWorks$ZeroFinder", 51, 0, 0, 12, 264), ("IdealWorks", 253, 0, 0, 12, 265), ("IdealWorks$Ideal", 16, 0, 1, 0, 266), ("IdealWorks$ZeroFinder", 42, 0, 1, 0, 267), ("IdealWorks", 187, 0, 1, 0, 268), ("IdealWorks$Ideal", 20, 0, 2, 1, 269), ("IdealWorks", 212, 0, 2, 1, 270), ("IdealWorks$Ideal", 24, 0, 3, 1, 271), ("IdealWorks", 235, 0, 3, 1, 272), ("IdealWorks$Ideal", 30, 0, 4, 12, 273), ("IdealWorks$Quotient", 116, 0, 4, 12, 274), ("IdealWorks", 219, 0, 4, 12, 275), ("IdealWorks$Ideal", 34, 0, 5, 12, 276), ("IdealWorks$Quotient", 45, 0, 5, 12, 277), ("IdealWorks", 223, 0, 5, 12, 278), ("IdealWorks$Ideal", 38, 0, 6, 0, 279), ("IdealWorks$Quotient", 42, 0, 6, 0, 280), ("IdealWorks", 209, 0, 6, 0, 281), ("IdealWorks$TextReader", 9, 6, 0, 0, 304), ("IdealWorks", 114, 6, 0, 0, 305), ("IdealWorks$TextReader", 15, 6, 1, 0, 306), ("IdealWorks", 117, 6, 1, 0, 307), ("IdealWorks$TextReader", 48, 6, 2, 12, 308), ("IdealWorks$TextReader", 18, 6, 3, 12, 309), ("IdealWorks$TextReader", 22, 6, 4, 12, 310), ("IdealWorks$TextReader", 25, 6, 5, 0, 311), ("IdealWorks$TextReader", 28, 6, 6, 0, 312), ("IdealWorks$TextReader", 33, 6, 7, 12, 313), ("IdealWorks$TextReader", 36, 6, 8, 12, 314), ("IdealWorks$TextReader", 39, 6, 9, 12, 315), ("IdealWorks$TextReader", 42, 6, 10, 12, 316), ("IdealWorks$TextReader", 45, 6, 11, 12, 317), ("IdealWorks$Printer", 19, 2, 0, 12, 349), ("IdealWorks$Printer", 11, 2, 1, 12, 350), ("IdealWorks$Printer", 15, 2, 2, 0, 351), ("IdealWorks$Quotient", 11, 3, 0, 0, 367), ("IdealWorks$Quotient", 15, 3, 1, 12, 368), ("IdealWorks$Quotient", 19, 3, 2, 0, 369), ("IdealWorks$Quotient", 22, 3, 3, 12, 370), ("IdealWorks$Quotient", 25, 3, 4, 0, 371), ("IdealWorks$Quotient", 28, 3, 5, 12, 372), ("IdealWorks$Quotient", 33, 3, 6, 12, 373), ("IdealWorks$Quotient", 36, 3, 7, 12, 374), ("IdealWorks$Quotient", 39, 3, 8, 12, 375), ("IdealWorks$Lexicon", 11, 1, 0, 0, 402), ("IdealWorks$Lexicon", 17, 1, 1, 0, 403), ("IdealWorks$Lexicon", 20, 1, 2, 12, 404), ("IdealWorks$Lexicon", 26, 1, 3, 12, 405), ("IdealWorks$Lexicon", 29, 1, 4, 0, 406), ("IdealWorks$Lexicon", 32, 1, 5, 12, 407), ("IdealWorks$Lexicon", 35, 1, 6, 12, 408), ("IdealWorks$Lexicon", 38, 1, 7, 12, 409), ("IdealWorks$Lexicon", 41, 1, 8, 12, 410), ("IdealWorks$Lexicon", 44, 1, 9, 12, 411), ("IdealWorks$Lexicon", 47, 1, 10, 0, 412), ("IdealWorks$Lexicon", 50, 1, 11, 12, 413), ("IdealWorks$Lexicon", 53, 1, 12, 12, 414), ("IdealWorks$Lexicon", 56, 1, 13, 12, 415), ("IdealWorks$Lexicon", 59, 1, 14, 12, 416), ("IdealWorks$Lexicon", 62, 1, 15, 12, 417), ("IdealWorks$ZeroFinder", 9, 7, 0, 0, 458), ("IdealWorks$ZeroFinder", 15, 7, 1, 0, 459), ("IdealWorks$ZeroFinder", 18, 7, 2, 12, 460), ("IdealWorks$ZeroFinder", 22, 7, 3, 12, 461), ("IdealWorks$ZeroFinder", 27, 7, 4, 12, 462), ("IdealWorks$ZeroFinder", 30, 7, 5, 0, 463), ("IdealWorks$ZeroFinder", 35, 7, 6, 12, 464), ("IdealWorks$ZeroFinder", 38, 7, 7, 12, 465), ("IdealWorks", 10, 8, 0, 12, 521), ("IdealWorks", 16, 8, 1, 12, 522), ("IdealWorks", 21, 8, 2, 12, 523), ("IdealWorks", 26, 8, 3, 12, 524), ("IdealWorks", 31, 8, 4, 12, 525), ("IdealWorks", 40, 8, 5, 12, 526), ("IdealWorks", 47, 8, 6, 12, 527), ("IdealWorks", 54, 8, 7, 12, 528), ("IdealWorks", 61, 8, 8, 12, 529), ("IdealWorks", 68, 8, 9, 12, 530), ("IdealWorks", 72, 8, 10, 12, 531), ("IdealWorks", 76, 8, 11, 0, 532), ("IdealWorksModel", 152, 9, 0, 0, 1310), ("IdealWorksModel", 7, 9, 1, 0, 1311), ("IdealWorksModel", 13, 9, 2, 0, 1312), ("IdealWorksModel", 155, 9, 3, 0, 1313), ("IdealWorksModel", 16, 9, 4, 12, 1314), ("IdealWorksModel", 20, 9, 5, 12, 1315), ("IdealWorksModel", 23, 9, 6, 12, 1316), ("IdealWorksModel", 27, 9, 7, 12, 1317), ("IdealWorksModel", 30, 9, 8, 12, 1318), ("IdealWorksModel", 33, 9, 9, 12, 1319), ("IdealWorksModel", 36, 9, 10, 12, 1320), ("IdealWorksModel", 40, 9, 11, 12, 1321), ("IdealWorksModel", 43, 9, 12, 12, 1322), ("IdealWorksModel", 46, 9, 13, 12, 1323), ("IdealWorksModel", 50, 9, 14, 12, 1324), ("IdealWorksModel", 53, 9, 15, 12, 1325), ("IdealWorksModel", 56, 9, 16, 12, 1326), ("IdealWorksModel", 59, 9, 17, 12, 1327), ("IdealWorksModel", 197, 9, 18, 0, 1328), ("IdealWorksModel", 194, 9, 19, 0, 1329), ("IdealWorksModel", 350, 9, 20, 0, 1330), ("IdealWorksModel", 62, 9, 21, 12, 1331), ("IdealWorksModel", 203, 9, 22, 0, 1332), ("IdealWorksModel", 206, 9, 23, 0, 1333), ("IdealWorksModel", 209, 9, 24, 0, 1334), ("IdealWorksModel", 200, 9, 25, 0, 1335), ("IdealWorksModel", 65, 9, 26, 0, 1336), ("IdealWorksModel", 212, 9, 27, 1, 1337), ("IdealWorksModel", 216, 9, 28, 1, 1338), ("IdealWorksModel", 68, 9, 29, 12, 1339), ("IdealWorksModel", 71, 9, 30, 12, 1340), ("IdealWorksModel", 74, 9, 31, 12, 1341), ("IdealWorksModel", 77, 9, 32, 12, 1342), ("IdealWorksModel", 80, 9, 33, 12, 1343), ("IdealWorksModel", 83, 9, 34, 12, 1344), ("IdealWorksModel", 86, 9, 35, 12, 1345), ("IdealWorksModel", 89, 9, 36, 12, 1346), ("IdealWorksModel", 92, 9, 37, 12, 1347), ("IdealWorksModel", 319, 9, 38, 0, 1348), ("IdealWorksModel", 310, 9, 39, 0, 1349), ("IdealWorksModel", 362, 9, 40, 0, 1350), ("IdealWorksModel", 95, 9, 41, 12, 1351), ("IdealWorksModel", 98, 9, 42, 12, 1352), ("IdealWorksModel", 384, 9, 43, 0, 1353), ("IdealWorksModel", 381, 9, 44, 0, 1354), ("IdealWorksModel", 409, 9, 45, 0, 1355), ("IdealWorksModel", 101, 9, 46, 12, 1356), ("IdealWorksModel", 104, 9, 47, 12, 1357), ("IdealWorksModel", 107, 9, 48, 12, 1358), ("IdealWorksModel", 110, 9, 49, 12, 1359), ("IdealWorksModel", 113, 9, 50, 12, 1360), ("IdealWorksModel", 116, 9, 51, 12, 1361), ("IdealWorksModel", 119, 9, 52, 12, 1362), ("IdealWorksModel", 122, 9, 53, 12, 1363), ("IdealWorksModel", 125, 9, 54, 12, 1364), ("IdealWorksModel", 356, 9, 55, 0, 1365), ("IdealWorksModel", 128, 9, 56, 12, 1366), ("IdealWorksModel", 131, 9, 57, 12, 1367), ("IdealWorksModel", 134, 9, 58, 12, 1368), ("IdealWorksModel", 137, 9, 59, 12, 1369), ("IdealWorksModel", 140, 9, 60, 12, 1370), ("IdealWorksModel", 387, 9, 61, 0, 1371), ("IdealWorksModel", 400, 9, 62, 0, 1372), ("IdealWorksModel", 435, 9, 63, 0, 1373), ("IdealWorksModel", 429, 9, 64, 0, 1374), ("IdealWorksModel", 143, 9, 65, 12, 1375), ("IdealWorksModel", 146, 9, 66, 12, 1376)]
/-- a field link: class, place, sort (0 int, 1 boolean, 2 reference; 10 more: final) -/
def mx_fl (own : String) (idx : Nat) : Option (Nat × Nat × Nat) := (mx_flT.find? (fun e => e.2.1 == idx && e.1 == own)).map (fun e => (e.2.2.1, e.2.2.2.1, e.2.2.2.2.1))
theorem fl_Ring : (mx_fl "IdealWorks$Ring" 9 = some (4, 0, 0) ∧ mx_fl "IdealWorks$Ring" 15 = some (4, 1, 0) ∧ mx_fl "IdealWorks$Ring" 18 = some (4, 2, 0) ∧ mx_fl "IdealWorks$Ring" 21 = some (4, 3, 0) ∧ mx_fl "IdealWorks$Ring" 24 = some (4, 4, 0) ∧ mx_fl "IdealWorks$Ring" 27 = some (4, 5, 12) ∧ mx_fl "IdealWorks$Ring" 31 = some (4, 6, 12) ∧ mx_fl "IdealWorks$Ring" 34 = some (4, 7, 12)) ∧ (mx_fl "IdealWorks$Ring" 37 = some (4, 8, 12) ∧ mx_fl "IdealWorks$Ring" 40 = some (4, 9, 12) ∧ mx_fl "IdealWorks$Ring" 43 = some (4, 10, 12) ∧ mx_fl "IdealWorks$Ring" 46 = some (4, 11, 12) ∧ mx_fl "IdealWorks$Ring" 49 = some (4, 12, 12) ∧ mx_fl "IdealWorks$Ring" 52 = some (4, 13, 12) ∧ mx_fl "IdealWorks$Ring" 55 = some (4, 14, 12)) := ⟨by decide +kernel, by decide +kernel⟩
theorem fl_ZeroFinder : (mx_fl "IdealWorks$ZeroFinder" 67 = some (4, 0, 0) ∧ mx_fl "IdealWorks$ZeroFinder" 41 = some (4, 1, 0) ∧ mx_fl "IdealWorks$ZeroFinder" 51 = some (0, 0, 12) ∧ mx_fl "IdealWorks$ZeroFinder" 42 = some (0, 1, 0) ∧ mx_fl "IdealWorks$ZeroFinder" 9 = some (7, 0, 0) ∧ mx_fl "IdealWorks$ZeroFinder" 15 = some (7, 1, 0) ∧ mx_fl "IdealWorks$ZeroFinder" 18 = some (7, 2, 12) ∧ mx_fl "IdealWorks$ZeroFinder" 22 = some (7, 3, 12)) ∧ (mx_fl "IdealWorks$ZeroFinder" 27 = some (7, 4, 12) ∧ mx_fl "IdealWorks$ZeroFinder" 30 = some (7, 5, 0) ∧ mx_fl "IdealWorks$ZeroFinder" 35 = some (7, 6, 12) ∧ mx_fl "IdealWorks$ZeroFinder" 38 = some (7, 7, 12)) := ⟨by decide +kernel, by decide +kernel⟩
theorem fl_TextReader : (mx_fl "IdealWorks$TextReader" 82 = some (4, 0, 0) ∧ mx_fl "IdealWorks$TextReader" 131 = some (4, 1, 0) ∧ mx_fl "IdealWorks$TextReader" 141 = some (4, 3, 0) ∧ mx_fl "IdealWorks$TextReader" 87 = some (4, 4, 0) ∧ mx_fl "IdealWorks$TextReader" 9 = some (6, 0, 0) ∧ mx_fl "IdealWorks$TextReader" 15 = some (6, 1, 0) ∧ mx_fl "IdealWorks$TextReader" 48 = some (6, 2, 12) ∧ mx_fl "IdealWorks$TextReader" 18 = some (6, 3, 12)) ∧ (mx_fl "IdealWorks$TextReader" 22 = some (6, 4, 12) ∧ mx_fl "IdealWorks$TextReader" 25 = some (6, 5, 0) ∧ mx_fl "IdealWorks$TextReader" 28 = some (6, 6, 0) ∧ mx_fl "IdealWorks$TextReader" 33 = some (6, 7, 12) ∧ mx_fl "IdealWorks$TextReader" 36 = some (6, 8, 12) ∧ mx_fl "IdealWorks$TextReader" 39 = some (6, 9, 12) ∧ mx_fl "IdealWorks$TextReader" 42 = some (6, 10, 12) ∧ mx_fl "IdealWorks$TextReader" 45 = some (6, 11, 12)) := ⟨by decide +kernel, by decide +kernel⟩
theorem fl_Quotient : (mx_fl "IdealWorks$Quotient" 139 = some (4, 0, 0) ∧ mx_fl "IdealWorks$Quotient" 60 = some (4, 1, 0) ∧ mx_fl "IdealWorks$Quotient" 105 = some (4, 2, 0) ∧ mx_fl "IdealWorks$Quotient" 116 = some (0, 4, 12) ∧ mx_fl "IdealWorks$Quotient" 45 = some (0, 5, 12) ∧ mx_fl "IdealWorks$Quotient" 42 = some (0, 6, 0) ∧ mx_fl "IdealWorks$Quotient" 11 = some (3, 0, 0) ∧ mx_fl "IdealWorks$Quotient" 15 = some (3, 1, 12)) ∧ (mx_fl "IdealWorks$Quotient" 19 = some (3, 2, 0) ∧ mx_fl "IdealWorks$Quotient" 22 = some (3, 3, 12) ∧ mx_fl "IdealWorks$Quotient" 25 = some (3, 4, 0) ∧ mx_fl "IdealWorks$Quotient" 28 = some (3, 5, 12) ∧ mx_fl "IdealWorks$Quotient" 33 = some (3, 6, 12) ∧ mx_fl "IdealWorks$Quotient" 36 = some (3, 7, 12) ∧ mx_fl "IdealWorks$Quotient" 39 = some (3, 8, 12)) := ⟨by decide +kernel, by decide +kernel⟩
theorem fl_Lexicon : (mx_fl "IdealWorks$Lexicon" 65 = some (4, 1, 0) ∧ mx_fl "IdealWorks$Lexicon" 11 = some (1, 0, 0) ∧ mx_fl "IdealWorks$Lexicon" 17 = some (1, 1, 0) ∧ mx_fl "IdealWorks$Lexicon" 20 = some (1, 2, 12) ∧ mx_fl "IdealWorks$Lexicon" 26 = some (1, 3, 12) ∧ mx_fl "IdealWorks$Lexicon" 29 = some (1, 4, 0) ∧ mx_fl "IdealWorks$Lexicon" 32 = some (1, 5, 12) ∧ mx_fl "IdealWorks$Lexicon" 35 = some (1, 6, 12)) ∧ (mx_fl "IdealWorks$Lexicon" 38 = some (1, 7, 12) ∧ mx_fl "IdealWorks$Lexicon" 41 = some (1, 8, 12) ∧ mx_fl "IdealWorks$Lexicon" 44 = some (1, 9, 12) ∧ mx_fl "IdealWorks$Lexicon" 47 = some (1, 10, 0) ∧ mx_fl "IdealWorks$Lexicon" 50 = some (1, 11, 12) ∧ mx_fl "IdealWorks$Lexicon" 53 = some (1, 12, 12) ∧ mx_fl "IdealWorks$Lexicon" 56 = some (1, 13, 12) ∧ mx_fl "IdealWorks$Lexicon" 59 = some (1, 14, 12)) ∧ (mx_fl "IdealWorks$Lexicon" 62 = some (1, 15, 12)) := ⟨by decide +kernel, by decide +kernel, by decide +kernel⟩
theorem fl_Space : (mx_fl "IdealWorks$Space" 66 = some (4, 1, 0) ∧ mx_fl "IdealWorks$Space" 123 = some (4, 4, 0) ∧ mx_fl "IdealWorks$Space" 92 = some (4, 5, 12) ∧ mx_fl "IdealWorks$Space" 71 = some (4, 6, 12) ∧ mx_fl "IdealWorks$Space" 9 = some (5, 0, 0) ∧ mx_fl "IdealWorks$Space" 15 = some (5, 1, 0) ∧ mx_fl "IdealWorks$Space" 18 = some (5, 2, 0) ∧ mx_fl "IdealWorks$Space" 23 = some (5, 3, 12)) ∧ (mx_fl "IdealWorks$Space" 26 = some (5, 4, 12) ∧ mx_fl "IdealWorks$Space" 30 = some (5, 5, 12) ∧ mx_fl "IdealWorks$Space" 33 = some (5, 6, 12) ∧ mx_fl "IdealWorks$Space" 36 = some (5, 7, 12) ∧ mx_fl "IdealWorks$Space" 39 = some (5, 8, 12) ∧ mx_fl "IdealWorks$Space" 42 = some (5, 9, 12) ∧ mx_fl "IdealWorks$Space" 45 = some (5, 10, 12)) := ⟨by decide +kernel, by decide +kernel⟩
theorem fl_Printer : mx_fl "IdealWorks$Printer" 39 = some (4, 1, 0) ∧ mx_fl "IdealWorks$Printer" 23 = some (4, 4, 0) ∧ mx_fl "IdealWorks$Printer" 19 = some (2, 0, 12) ∧ mx_fl "IdealWorks$Printer" 11 = some (2, 1, 12) ∧ mx_fl "IdealWorks$Printer" 15 = some (2, 2, 0) := by decide +kernel
theorem fl_Ideal : (mx_fl "IdealWorks$Ideal" 86 = some (4, 1, 0) ∧ mx_fl "IdealWorks$Ideal" 102 = some (4, 5, 12) ∧ mx_fl "IdealWorks$Ideal" 67 = some (4, 6, 12) ∧ mx_fl "IdealWorks$Ideal" 99 = some (5, 0, 0) ∧ mx_fl "IdealWorks$Ideal" 13 = some (0, 0, 12) ∧ mx_fl "IdealWorks$Ideal" 16 = some (0, 1, 0) ∧ mx_fl "IdealWorks$Ideal" 20 = some (0, 2, 1) ∧ mx_fl "IdealWorks$Ideal" 24 = some (0, 3, 1)) ∧ (mx_fl "IdealWorks$Ideal" 30 = some (0, 4, 12) ∧ mx_fl "IdealWorks$Ideal" 34 = some (0, 5, 12) ∧ mx_fl "IdealWorks$Ideal" 38 = some (0, 6, 0)) := ⟨by decide +kernel, by decide +kernel⟩
theorem fl_I : (mx_fl "IdealWorks" 260 = some (4, 1, 0) ∧ mx_fl "IdealWorks" 202 = some (4, 3, 0) ∧ mx_fl "IdealWorks" 129 = some (4, 4, 0) ∧ mx_fl "IdealWorks" 238 = some (5, 0, 0) ∧ mx_fl "IdealWorks" 253 = some (0, 0, 12) ∧ mx_fl "IdealWorks" 187 = some (0, 1, 0) ∧ mx_fl "IdealWorks" 212 = some (0, 2, 1) ∧ mx_fl "IdealWorks" 235 = some (0, 3, 1)) ∧ (mx_fl "IdealWorks" 219 = some (0, 4, 12) ∧ mx_fl "IdealWorks" 223 = some (0, 5, 12) ∧ mx_fl "IdealWorks" 209 = some (0, 6, 0) ∧ mx_fl "IdealWorks" 114 = some (6, 0, 0) ∧ mx_fl "IdealWorks" 117 = some (6, 1, 0) ∧ mx_fl "IdealWorks" 10 = some (8, 0, 12) ∧ mx_fl "IdealWorks" 16 = some (8, 1, 12) ∧ mx_fl "IdealWorks" 21 = some (8, 2, 12)) ∧ (mx_fl "IdealWorks" 26 = some (8, 3, 12) ∧ mx_fl "IdealWorks" 31 = some (8, 4, 12) ∧ mx_fl "IdealWorks" 40 = some (8, 5, 12) ∧ mx_fl "IdealWorks" 47 = some (8, 6, 12) ∧ mx_fl "IdealWorks" 54 = some (8, 7, 12) ∧ mx_fl "IdealWorks" 61 = some (8, 8, 12) ∧ mx_fl "IdealWorks" 68 = some (8, 9, 12) ∧ mx_fl "IdealWorks" 72 = some (8, 10, 12)) ∧ (mx_fl "IdealWorks" 76 = some (8, 11, 0)) := ⟨by decide +kernel, by decide +kernel, by decide +kernel, by decide +kernel⟩
theorem fl_M : (mx_fl "IdealWorksModel" 152 = some (9, 0, 0) ∧ mx_fl "IdealWorksModel" 7 = some (9, 1, 0) ∧ mx_fl "IdealWorksModel" 13 = some (9, 2, 0) ∧ mx_fl "IdealWorksModel" 155 = some (9, 3, 0) ∧ mx_fl "IdealWorksModel" 16 = some (9, 4, 12) ∧ mx_fl "IdealWorksModel" 20 = some (9, 5, 12) ∧ mx_fl "IdealWorksModel" 23 = some (9, 6, 12) ∧ mx_fl "IdealWorksModel" 27 = some (9, 7, 12)) ∧ (mx_fl "IdealWorksModel" 30 = some (9, 8, 12) ∧ mx_fl "IdealWorksModel" 33 = some (9, 9, 12) ∧ mx_fl "IdealWorksModel" 36 = some (9, 10, 12) ∧ mx_fl "IdealWorksModel" 40 = some (9, 11, 12) ∧ mx_fl "IdealWorksModel" 43 = some (9, 12, 12) ∧ mx_fl "IdealWorksModel" 46 = some (9, 13, 12) ∧ mx_fl "IdealWorksModel" 50 = some (9, 14, 12) ∧ mx_fl "IdealWorksModel" 53 = some (9, 15, 12)) ∧ (mx_fl "IdealWorksModel" 56 = some (9, 16, 12) ∧ mx_fl "IdealWorksModel" 59 = some (9, 17, 12) ∧ mx_fl "IdealWorksModel" 197 = some (9, 18, 0) ∧ mx_fl "IdealWorksModel" 194 = some (9, 19, 0) ∧ mx_fl "IdealWorksModel" 350 = some (9, 20, 0) ∧ mx_fl "IdealWorksModel" 62 = some (9, 21, 12) ∧ mx_fl "IdealWorksModel" 203 = some (9, 22, 0) ∧ mx_fl "IdealWorksModel" 206 = some (9, 23, 0)) ∧ (mx_fl "IdealWorksModel" 209 = some (9, 24, 0) ∧ mx_fl "IdealWorksModel" 200 = some (9, 25, 0) ∧ mx_fl "IdealWorksModel" 65 = some (9, 26, 0) ∧ mx_fl "IdealWorksModel" 212 = some (9, 27, 1) ∧ mx_fl "IdealWorksModel" 216 = some (9, 28, 1) ∧ mx_fl "IdealWorksModel" 68 = some (9, 29, 12) ∧ mx_fl "IdealWorksModel" 71 = some (9, 30, 12) ∧ mx_fl "IdealWorksModel" 74 = some (9, 31, 12)) ∧ (mx_fl "IdealWorksModel" 77 = some (9, 32, 12) ∧ mx_fl "IdealWorksModel" 80 = some (9, 33, 12) ∧ mx_fl "IdealWorksModel" 83 = some (9, 34, 12) ∧ mx_fl "IdealWorksModel" 86 = some (9, 35, 12) ∧ mx_fl "IdealWorksModel" 89 = some (9, 36, 12) ∧ mx_fl "IdealWorksModel" 92 = some (9, 37, 12) ∧ mx_fl "IdealWorksModel" 319 = some (9, 38, 0) ∧ mx_fl "IdealWorksModel" 310 = some (9, 39, 0)) ∧ (mx_fl "IdealWorksModel" 362 = some (9, 40, 0) ∧ mx_fl "IdealWorksModel" 95 = some (9, 41, 12) ∧ mx_fl "IdealWorksModel" 98 = some (9, 42, 12) ∧ mx_fl "IdealWorksModel" 384 = some (9, 43, 0) ∧ mx_fl "IdealWorksModel" 381 = some (9, 44, 0) ∧ mx_fl "IdealWorksModel" 409 = some (9, 45, 0) ∧ mx_fl "IdealWorksModel" 101 = some (9, 46, 12) ∧ mx_fl "IdealWorksModel" 104 = some (9, 47, 12)) ∧ (mx_fl "IdealWorksModel" 107 = some (9, 48, 12) ∧ mx_fl "IdealWorksModel" 110 = some (9, 49, 12) ∧ mx_fl "IdealWorksModel" 113 = some (9, 50, 12) ∧ mx_fl "IdealWorksModel" 116 = some (9, 51, 12) ∧ mx_fl "IdealWorksModel" 119 = some (9, 52, 12) ∧ mx_fl "IdealWorksModel" 122 = some (9, 53, 12) ∧ mx_fl "IdealWorksModel" 125 = some (9, 54, 12) ∧ mx_fl "IdealWorksModel" 356 = some (9, 55, 0)) ∧ (mx_fl "IdealWorksModel" 128 = some (9, 56, 12) ∧ mx_fl "IdealWorksModel" 131 = some (9, 57, 12) ∧ mx_fl "IdealWorksModel" 134 = some (9, 58, 12) ∧ mx_fl "IdealWorksModel" 137 = some (9, 59, 12) ∧ mx_fl "IdealWorksModel" 140 = some (9, 60, 12) ∧ mx_fl "IdealWorksModel" 387 = some (9, 61, 0) ∧ mx_fl "IdealWorksModel" 400 = some (9, 62, 0) ∧ mx_fl "IdealWorksModel" 435 = some (9, 63, 0)) ∧ (mx_fl "IdealWorksModel" 429 = some (9, 64, 0) ∧ mx_fl "IdealWorksModel" 143 = some (9, 65, 12) ∧ mx_fl "IdealWorksModel" 146 = some (9, 66, 12)) := ⟨by decide +kernel, by decide +kernel, by decide +kernel, by decide +kernel, by decide +kernel, by decide +kernel, by decide +kernel, by decide +kernel, by decide +kernel⟩
def j_I_init : Nat := 0
def mm_I_init : mx_M := (131, "IdealWorks", 2, none, [], "<init>")
def j_Ring_init : Nat := 1
def mm_Ring_init : mx_M := (139, "IdealWorks$Ring", 1, none, [], "<init>")
def j_Ideal_init : Nat := 2
def mm_Ideal_init : mx_M := (217, "IdealWorks$Ideal", 1, none, [], "<init>")
def j_Space_init : Nat := 3
def mm_Space_init : mx_M := (224, "IdealWorks$Space", 1, none, [], "<init>")
def j_TextReader_init : Nat := 4
def mm_TextReader_init : mx_M := (301, "IdealWorks$TextReader", 2, none, [], "<init>")
def j_Printer_init : Nat := 5
def mm_Printer_init : mx_M := (347, "IdealWorks$Printer", 2, none, [], "<init>")
def j_Quotient_init : Nat := 6
def mm_Quotient_init : mx_M := (364, "IdealWorks$Quotient", 1, none, [], "<init>")
def j_Lexicon_init : Nat := 7
def mm_Lexicon_init : mx_M := (399, "IdealWorks$Lexicon", 1, none, [], "<init>")
def j_ZeroFinder_init : Nat := 8
def mm_ZeroFinder_init : mx_M := (455, "IdealWorks$ZeroFinder", 1, none, [], "<init>")
def j_I_beginAnew : Nat := 9
def mm_I_beginAnew : mx_M := (486, "IdealWorks", 5, none, [], "beginAnew")
def j_Ring_lay : Nat := 10
def mm_Ring_lay : mx_M := (490, "IdealWorks$Ring", 6, none, [], "lay")
def j_Arrays_fill : Nat := 11
def mm_Arrays_fill : mx_M := (495, "java/util/Arrays", 4, none, [], "fill")
def j_Ring_layDegree : Nat := 12
def mm_Ring_layDegree : mx_M := (499, "IdealWorks$Ring", 4, none, [], "layDegree")
def j_Ring_layMonomial : Nat := 13
def mm_Ring_layMonomial : mx_M := (503, "IdealWorks$Ring", 4, none, [], "layMonomial")
def j_Ring_linkNeighbours : Nat := 14
def mm_Ring_linkNeighbours : mx_M := (507, "IdealWorks$Ring", 4, none, [], "linkNeighbours")
def j_Ring_placeOf : Nat := 15
def mm_Ring_placeOf : mx_M := (511, "IdealWorks$Ring", 2, (some .int), [], "placeOf")
def j_Ideal_forget : Nat := 16
def mm_Ideal_forget : mx_M := (516, "IdealWorks$Ideal", 1, none, [], "forget")
def j_Printer_forget : Nat := 17
def mm_Printer_forget : mx_M := (520, "IdealWorks$Printer", 1, none, [], "forget")
def j_I_feed : Nat := 18
def mm_I_feed : mx_M := (561, "IdealWorks", 6, none, [], "feed")
def j_TextReader_makeReady : Nat := 19
def mm_TextReader_makeReady : mx_M := (565, "IdealWorks$TextReader", 4, none, [], "makeReady")
def j_I_end : Nat := 20
def mm_I_end : mx_M := (569, "IdealWorks", 2, (some .int), [], "end")
def j_TextReader_lengthen : Nat := 21
def mm_TextReader_lengthen : mx_M := (573, "IdealWorks$TextReader", 2, (some .int), [], "lengthen")
def j_I_fault : Nat := 22
def mm_I_fault : mx_M := (581, "IdealWorks", 2, (some .int), [], "fault")
def j_I_about : Nat := 23
def mm_I_about : mx_M := (585, "IdealWorks", 3, (some .int), [], "about")
def j_I_isPolynomial : Nat := 24
def mm_I_isPolynomial : mx_M := (588, "IdealWorks", 1, (some .boolean), [], "isPolynomial")
def j_Ring_termsOf : Nat := 25
def mm_Ring_termsOf : mx_M := (592, "IdealWorks$Ring", 4, (some .int), [], "termsOf")
def j_Ring_degreeOf : Nat := 26
def mm_Ring_degreeOf : mx_M := (596, "IdealWorks$Ring", 3, (some .int), [], "degreeOf")
def j_Ring_topOf : Nat := 27
def mm_Ring_topOf : mx_M := (600, "IdealWorks$Ring", 3, (some .int), [], "topOf")
def j_I_term : Nat := 28
def mm_I_term : mx_M := (604, "IdealWorks", 5, (some .int), [], "term")
def j_Ring_monomialOfTerm : Nat := 29
def mm_Ring_monomialOfTerm : mx_M := (608, "IdealWorks$Ring", 5, (some .int), [], "monomialOfTerm")
def j_Ring_exponentOf : Nat := 30
def mm_Ring_exponentOf : mx_M := (612, "IdealWorks$Ring", 3, (some .int), [], "exponentOf")
def j_I_output : Nat := 31
def mm_I_output : mx_M := (616, "IdealWorks", 2, (some .int), [], "output")
def j_Printer_byteAt : Nat := 32
def mm_Printer_byteAt : mx_M := (620, "IdealWorks$Printer", 2, (some .int), [], "byteAt")
def j_I_ideal : Nat := 33
def mm_I_ideal : mx_M := (624, "IdealWorks", 3, (some .int), [], "ideal")
def j_I_isIdeal : Nat := 34
def mm_I_isIdeal : mx_M := (627, "IdealWorks", 1, (some .boolean), [], "isIdeal")
def j_Ideal_dimension : Nat := 35
def mm_Ideal_dimension : mx_M := (631, "IdealWorks$Ideal", 4, (some .int), [], "dimension")
def j_Ideal_isFree : Nat := 36
def mm_Ideal_isFree : mx_M := (635, "IdealWorks$Ideal", 6, (some .boolean), [], "isFree")
def j_Integer_bitCount : Nat := 37
def mm_Integer_bitCount : mx_M := (639, "java/lang/Integer", 1, (some .int), [], "bitCount")
def j_Math_max : Nat := 38
def mm_Math_max : mx_M := (645, "java/lang/Math", 2, (some .int), [], "max")
def j_I_standard : Nat := 39
def mm_I_standard : mx_M := (649, "IdealWorks", 3, (some .int), [], "standard")
def j_Space_gapsOfDegree : Nat := 40
def mm_Space_gapsOfDegree : mx_M := (653, "IdealWorks$Space", 5, (some .int), [], "gapsOfDegree")
def j_Space_isLead : Nat := 41
def mm_Space_isLead : mx_M := (657, "IdealWorks$Space", 2, (some .boolean), [], "isLead")
def j_I_proved : Nat := 42
def mm_I_proved : mx_M := (661, "IdealWorks", 1, (some .int), [], "proved")
def j_I_entry : Nat := 43
def mm_I_entry : mx_M := (665, "IdealWorks", 4, (some .int), [], "entry")
def j_Lexicon_look : Nat := 44
def mm_Lexicon_look : mx_M := (669, "IdealWorks$Lexicon", 6, (some .int), [], "look")
def j_Packed_exponent : Nat := 45
def mm_Packed_exponent : mx_M := (672, "IdealWorks$Packed", 2, (some .int), [], "exponent")
def j_I_zero : Nat := 46
def mm_I_zero : mx_M := (676, "IdealWorks", 3, (some .int), [], "zero")
def j_ZeroFinder_coordinate : Nat := 47
def mm_ZeroFinder_coordinate : mx_M := (680, "IdealWorks$ZeroFinder", 4, (some .int), [], "coordinate")
def j_W_field : Nat := 48
def mm_W_field : mx_M := (683, "IdealWorksLaw", 5, (some .int), [(0, 7, 10, 13)], "field")
def j_I_field : Nat := 49
def mm_I_field : mx_M := (688, "IdealWorks", 5, none, [], "field")
def j_I_isPrime : Nat := 50
def mm_I_isPrime : mx_M := (691, "IdealWorks", 2, (some .boolean), [], "isPrime")
def j_W_read : Nat := 51
def mm_W_read : mx_M := (757, "IdealWorksLaw", 4, (some .int), [(0, 9, 12, 19), (0, 9, 15, 13)], "read")
def j_I_read : Nat := 52
def mm_I_read : mx_M := (762, "IdealWorks", 2, (some .int), [], "read")
def j_I_needPolynomial : Nat := 53
def mm_I_needPolynomial : mx_M := (765, "IdealWorks", 1, none, [], "needPolynomial")
def j_TextReader_understand : Nat := 54
def mm_TextReader_understand : mx_M := (784, "IdealWorks$TextReader", 2, (some .boolean), [], "understand")
def j_TextReader_takeSum : Nat := 55
def mm_TextReader_takeSum : mx_M := (788, "IdealWorks$TextReader", 5, none, [], "takeSum")
def j_TextReader_skipSpaces : Nat := 56
def mm_TextReader_skipSpaces : mx_M := (792, "IdealWorks$TextReader", 1, none, [], "skipSpaces")
def j_TextReader_isNext : Nat := 57
def mm_TextReader_isNext : mx_M := (796, "IdealWorks$TextReader", 2, (some .boolean), [], "isNext")
def j_TextReader_takeTerm : Nat := 58
def mm_TextReader_takeTerm : mx_M := (800, "IdealWorks$TextReader", 5, none, [], "takeTerm")
def j_TextReader_takeFactor : Nat := 59
def mm_TextReader_takeFactor : mx_M := (804, "IdealWorks$TextReader", 4, none, [], "takeFactor")
def j_TextReader_variableNext : Nat := 60
def mm_TextReader_variableNext : mx_M := (808, "IdealWorks$TextReader", 2, (some .int), [], "variableNext")
def j_TextReader_letterOf : Nat := 61
def mm_TextReader_letterOf : mx_M := (811, "IdealWorks$TextReader", 1, (some .int), [], "letterOf")
def j_Ring_above : Nat := 62
def mm_Ring_above : mx_M := (815, "IdealWorks$Ring", 3, (some .int), [], "above")
def j_TextReader_isDigitNext : Nat := 63
def mm_TextReader_isDigitNext : mx_M := (819, "IdealWorks$TextReader", 1, (some .boolean), [], "isDigitNext")
def j_TextReader_takeNumber : Nat := 64
def mm_TextReader_takeNumber : mx_M := (823, "IdealWorks$TextReader", 4, (some .int), [], "takeNumber")
def j_TextReader_blame : Nat := 65
def mm_TextReader_blame : mx_M := (827, "IdealWorks$TextReader", 3, none, [], "blame")
def j_Ring_residue : Nat := 66
def mm_Ring_residue : mx_M := (831, "IdealWorks$Ring", 2, (some .int), [], "residue")
def j_Math_floorMod : Nat := 67
def mm_Math_floorMod : mx_M := (834, "java/lang/Math", 3, (some .int), [], "floorMod")
def j_TextReader_takeBrackets : Nat := 68
def mm_TextReader_takeBrackets : mx_M := (838, "IdealWorks$TextReader", 2, none, [], "takeBrackets")
def j_TextReader_takePower : Nat := 69
def mm_TextReader_takePower : mx_M := (842, "IdealWorks$TextReader", 4, none, [], "takePower")
def j_TextReader_raise : Nat := 70
def mm_TextReader_raise : mx_M := (847, "IdealWorks$TextReader", 4, none, [], "raise")
def j_Ring_productInto : Nat := 71
def mm_Ring_productInto : mx_M := (851, "IdealWorks$Ring", 10, none, [], "productInto")
def j_Ring_productFits : Nat := 72
def mm_Ring_productFits : mx_M := (855, "IdealWorks$Ring", 5, (some .boolean), [], "productFits")
def j_Ring_addMultiple : Nat := 73
def mm_Ring_addMultiple : mx_M := (860, "IdealWorks$Ring", 7, none, [], "addMultiple")
def j_I_keepResult : Nat := 74
def mm_I_keepResult : mx_M := (864, "IdealWorks", 2, none, [], "keepResult")
def j_W_add : Nat := 75
def mm_W_add : mx_M := (868, "IdealWorksLaw", 6, (some .int), [(0, 9, 12, 19)], "add")
def j_I_add : Nat := 76
def mm_I_add : mx_M := (872, "IdealWorks", 5, none, [], "add")
def j_W_multiply : Nat := 77
def mm_W_multiply : mx_M := (877, "IdealWorksLaw", 5, (some .int), [(0, 7, 10, 19), (0, 7, 14, 28)], "multiply")
def j_I_multiply : Nat := 78
def mm_I_multiply : mx_M := (882, "IdealWorks", 4, none, [], "multiply")
def j_W_derive : Nat := 79
def mm_W_derive : mx_M := (902, "IdealWorksLaw", 5, (some .int), [(0, 7, 10, 19)], "derive")
def j_I_derive : Nat := 80
def mm_I_derive : mx_M := (906, "IdealWorks", 4, none, [], "derive")
def j_I_needVariable : Nat := 81
def mm_I_needVariable : mx_M := (910, "IdealWorks", 2, none, [], "needVariable")
def j_Ring_derivativeInto : Nat := 82
def mm_Ring_derivativeInto : mx_M := (914, "IdealWorks$Ring", 6, none, [], "derivativeInto")
def j_W_put : Nat := 83
def mm_W_put : mx_M := (918, "IdealWorksLaw", 6, (some .int), [(0, 9, 12, 19)], "put")
def j_I_put : Nat := 84
def mm_I_put : mx_M := (922, "IdealWorks", 5, none, [], "put")
def j_Ring_substituteInto : Nat := 85
def mm_Ring_substituteInto : mx_M := (926, "IdealWorks$Ring", 8, none, [], "substituteInto")
def j_W_print : Nat := 86
def mm_W_print : mx_M := (929, "IdealWorksLaw", 4, (some .int), [(0, 9, 12, 19)], "print")
def j_I_print : Nat := 87
def mm_I_print : mx_M := (933, "IdealWorks", 2, (some .int), [], "print")
def j_Printer_write : Nat := 88
def mm_Printer_write : mx_M := (937, "IdealWorks$Printer", 3, (some .int), [], "write")
def j_Printer_writeTerm : Nat := 89
def mm_Printer_writeTerm : mx_M := (941, "IdealWorks$Printer", 6, none, [], "writeTerm")
def j_Printer_writeByte : Nat := 90
def mm_Printer_writeByte : mx_M := (945, "IdealWorks$Printer", 2, none, [], "writeByte")
def j_Printer_writeNumber : Nat := 91
def mm_Printer_writeNumber : mx_M := (949, "IdealWorks$Printer", 5, none, [], "writeNumber")
def j_W_clear : Nat := 92
def mm_W_clear : mx_M := (954, "IdealWorksLaw", 3, (some .int), [(0, 5, 8, 19)], "clear")
def j_I_clear : Nat := 93
def mm_I_clear : mx_M := (958, "IdealWorks", 2, none, [], "clear")
def j_I_needIdeal : Nat := 94
def mm_I_needIdeal : mx_M := (961, "IdealWorks", 1, none, [], "needIdeal")
def j_W_join : Nat := 95
def mm_W_join : mx_M := (964, "IdealWorksLaw", 5, (some .int), [(0, 10, 13, 19), (0, 10, 17, 13), (0, 10, 21, 28)], "join")
def j_I_join : Nat := 96
def mm_I_join : mx_M := (968, "IdealWorks", 3, (some .int), [], "join")
def j_Ideal_append : Nat := 97
def mm_Ideal_append : mx_M := (973, "IdealWorks$Ideal", 2, none, [], "append")
def j_W_both : Nat := 98
def mm_W_both : mx_M := (977, "IdealWorksLaw", 6, (some .int), [(0, 9, 12, 19), (0, 9, 16, 28)], "both")
def j_I_both : Nat := 99
def mm_I_both : mx_M := (981, "IdealWorks", 7, none, [], "both")
def j_Ideal_appendAll : Nat := 100
def mm_Ideal_appendAll : mx_M := (985, "IdealWorks$Ideal", 3, none, [], "appendAll")
def j_I_draftProducts : Nat := 101
def mm_I_draftProducts : mx_M := (990, "IdealWorks", 5, (some .boolean), [], "draftProducts")
def j_W_basis : Nat := 102
def mm_W_basis : mx_M := (993, "IdealWorksLaw", 5, (some .int), [(0, 10, 13, 19), (0, 10, 17, 13)], "basis")
def j_I_basis : Nat := 103
def mm_I_basis : mx_M := (997, "IdealWorks", 3, (some .int), [], "basis")
def j_Ideal_findBasis : Nat := 104
def mm_Ideal_findBasis : mx_M := (1001, "IdealWorks$Ideal", 4, none, [], "findBasis")
def j_Space_build : Nat := 105
def mm_Space_build : mx_M := (1005, "IdealWorks$Space", 7, none, [], "build")
def j_Space_sourceOfGenerator : Nat := 106
def mm_Space_sourceOfGenerator : mx_M := (1009, "IdealWorks$Space", 1, (some .int), [], "sourceOfGenerator")
def j_Space_loadSource : Nat := 107
def mm_Space_loadSource : mx_M := (1013, "IdealWorks$Space", 5, (some .boolean), [], "loadSource")
def j_Ring_raisedInto : Nat := 108
def mm_Ring_raisedInto : mx_M := (1019, "IdealWorks$Ring", 6, none, [], "raisedInto")
def j_Space_takeIn : Nat := 109
def mm_Space_takeIn : mx_M := (1023, "IdealWorks$Space", 4, none, [], "takeIn")
def j_Space_reduce : Nat := 110
def mm_Space_reduce : mx_M := (1027, "IdealWorks$Space", 7, (some .int), [], "reduce")
def j_Ring_negative : Nat := 111
def mm_Ring_negative : mx_M := (1031, "IdealWorks$Ring", 2, (some .int), [], "negative")
def j_Ring_inverse : Nat := 112
def mm_Ring_inverse : mx_M := (1036, "IdealWorks$Ring", 2, (some .int), [], "inverse")
def j_Ring_power : Nat := 113
def mm_Ring_power : mx_M := (1040, "IdealWorks$Ring", 6, (some .int), [], "power")
def j_Space_sourceOfProduct : Nat := 114
def mm_Space_sourceOfProduct : mx_M := (1043, "IdealWorks$Space", 2, (some .int), [], "sourceOfProduct")
def j_Ideal_isCorner : Nat := 115
def mm_Ideal_isCorner : mx_M := (1047, "IdealWorks$Ideal", 5, (some .boolean), [], "isCorner")
def j_Ring_below : Nat := 116
def mm_Ring_below : mx_M := (1052, "IdealWorks$Ring", 3, (some .int), [], "below")
def j_Ideal_greatestDegree : Nat := 117
def mm_Ideal_greatestDegree : mx_M := (1056, "IdealWorks$Ideal", 4, (some .int), [], "greatestDegree")
def j_Ideal_pairsAreLow : Nat := 118
def mm_Ideal_pairsAreLow : mx_M := (1061, "IdealWorks$Ideal", 4, (some .boolean), [], "pairsAreLow")
def j_Ideal_isLowPair : Nat := 119
def mm_Ideal_isLowPair : mx_M := (1065, "IdealWorks$Ideal", 6, (some .boolean), [], "isLowPair")
def j_W_element : Nat := 120
def mm_W_element : mx_M := (1068, "IdealWorksLaw", 5, (some .int), [(0, 7, 10, 19), (0, 7, 14, 28)], "element")
def j_I_element : Nat := 121
def mm_I_element : mx_M := (1072, "IdealWorks", 4, none, [], "element")
def j_Space_reducedInto : Nat := 122
def mm_Space_reducedInto : mx_M := (1076, "IdealWorks$Space", 5, none, [], "reducedInto")
def j_W_remainder : Nat := 123
def mm_W_remainder : mx_M := (1079, "IdealWorksLaw", 6, (some .int), [(0, 19, 22, 19), (0, 19, 26, 28)], "remainder")
def j_I_remainder : Nat := 124
def mm_I_remainder : mx_M := (1083, "IdealWorks", 6, (some .boolean), [], "remainder")
def j_Space_remainderInto : Nat := 125
def mm_Space_remainderInto : mx_M := (1087, "IdealWorks$Space", 5, (some .boolean), [], "remainderInto")
def j_Space_proves : Nat := 126
def mm_Space_proves : mx_M := (1091, "IdealWorks$Space", 5, (some .boolean), [], "proves")
def j_Space_checkUpTo : Nat := 127
def mm_Space_checkUpTo : mx_M := (1095, "IdealWorks$Space", 4, (some .boolean), [], "checkUpTo")
def j_Space_isAsTold : Nat := 128
def mm_Space_isAsTold : mx_M := (1099, "IdealWorks$Space", 5, (some .boolean), [], "isAsTold")
def j_Space_same : Nat := 129
def mm_Space_same : mx_M := (1103, "IdealWorks$Space", 3, (some .boolean), [], "same")
def j_W_radical : Nat := 130
def mm_W_radical : mx_M := (1106, "IdealWorksLaw", 6, (some .int), [(0, 19, 22, 19), (0, 19, 26, 13)], "radical")
def j_I_radical : Nat := 131
def mm_I_radical : mx_M := (1110, "IdealWorks", 5, (some .boolean), [], "radical")
def j_Ring_widenInto : Nat := 132
def mm_Ring_widenInto : mx_M := (1115, "IdealWorks$Ring", 6, none, [], "widenInto")
def j_Ring_codeOf : Nat := 133
def mm_Ring_codeOf : mx_M := (1119, "IdealWorks$Ring", 5, (some .int), [], "codeOf")
def j_Ring_inverterInto : Nat := 134
def mm_Ring_inverterInto : mx_M := (1124, "IdealWorks$Ring", 6, none, [], "inverterInto")
def j_W_dictionary : Nat := 135
def mm_W_dictionary : mx_M := (1130, "IdealWorksLaw", 4, (some .int), [(0, 9, 12, 19), (0, 9, 15, 28)], "dictionary")
def j_I_dictionary : Nat := 136
def mm_I_dictionary : mx_M := (1134, "IdealWorks", 4, (some .int), [], "dictionary")
def j_Quotient_gather : Nat := 137
def mm_Quotient_gather : mx_M := (1138, "IdealWorks$Quotient", 4, (some .boolean), [], "gather")
def j_Packed_pack : Nat := 138
def mm_Packed_pack : mx_M := (1141, "IdealWorks$Packed", 4, (some .int), [], "pack")
def j_Packed_variable : Nat := 139
def mm_Packed_variable : mx_M := (1145, "IdealWorks$Packed", 1, (some .int), [], "variable")
def j_Quotient_gatherAbove : Nat := 140
def mm_Quotient_gatherAbove : mx_M := (1149, "IdealWorks$Quotient", 5, (some .boolean), [], "gatherAbove")
def j_Quotient_lastVariable : Nat := 141
def mm_Quotient_lastVariable : mx_M := (1152, "IdealWorks$Quotient", 3, (some .int), [], "lastVariable")
def j_Quotient_isStandard : Nat := 142
def mm_Quotient_isStandard : mx_M := (1158, "IdealWorks$Quotient", 3, (some .boolean), [], "isStandard")
def j_Packed_divides : Nat := 143
def mm_Packed_divides : mx_M := (1161, "IdealWorks$Packed", 3, (some .boolean), [], "divides")
def j_Quotient_findForms : Nat := 144
def mm_Quotient_findForms : mx_M := (1166, "IdealWorks$Quotient", 5, none, [], "findForms")
def j_Quotient_gatherBorder : Nat := 145
def mm_Quotient_gatherBorder : mx_M := (1170, "IdealWorks$Quotient", 5, none, [], "gatherBorder")
def j_Packed_find : Nat := 146
def mm_Packed_find : mx_M := (1173, "IdealWorks$Packed", 4, (some .int), [], "find")
def j_Quotient_insert : Nat := 147
def mm_Quotient_insert : mx_M := (1177, "IdealWorks$Quotient", 4, none, [], "insert")
def j_Packed_isLess : Nat := 148
def mm_Packed_isLess : mx_M := (1180, "IdealWorks$Packed", 6, (some .boolean), [], "isLess")
def j_Packed_degree : Nat := 149
def mm_Packed_degree : mx_M := (1183, "IdealWorks$Packed", 3, (some .int), [], "degree")
def j_Quotient_findProducts : Nat := 150
def mm_Quotient_findProducts : mx_M := (1187, "IdealWorks$Quotient", 7, none, [], "findProducts")
def j_Quotient_formFromBelow : Nat := 151
def mm_Quotient_formFromBelow : mx_M := (1192, "IdealWorks$Quotient", 6, none, [], "formFromBelow")
def j_Quotient_timesInto : Nat := 152
def mm_Quotient_timesInto : mx_M := (1196, "IdealWorks$Quotient", 7, none, [], "timesInto")
def j_Quotient_addRow : Nat := 153
def mm_Quotient_addRow : mx_M := (1199, "IdealWorks$Quotient", 6, none, [], "addRow")
def j_Quotient_formFromBasis : Nat := 154
def mm_Quotient_formFromBasis : mx_M := (1204, "IdealWorks$Quotient", 7, none, [], "formFromBasis")
def j_Lexicon_compile : Nat := 155
def mm_Lexicon_compile : mx_M := (1210, "IdealWorks$Lexicon", 4, (some .int), [], "compile")
def j_Lexicon_takeLeast : Nat := 156
def mm_Lexicon_takeLeast : mx_M := (1214, "IdealWorks$Lexicon", 7, none, [], "takeLeast")
def j_Lexicon_isDone : Nat := 157
def mm_Lexicon_isDone : mx_M := (1218, "IdealWorks$Lexicon", 3, (some .boolean), [], "isDone")
def j_Lexicon_loadRow : Nat := 158
def mm_Lexicon_loadRow : mx_M := (1224, "IdealWorks$Lexicon", 4, none, [], "loadRow")
def j_Lexicon_eliminate : Nat := 159
def mm_Lexicon_eliminate : mx_M := (1230, "IdealWorks$Lexicon", 4, (some .int), [], "eliminate")
def j_Lexicon_keepHead : Nat := 160
def mm_Lexicon_keepHead : mx_M := (1237, "IdealWorks$Lexicon", 2, none, [], "keepHead")
def j_Lexicon_keepSmall : Nat := 161
def mm_Lexicon_keepSmall : mx_M := (1241, "IdealWorks$Lexicon", 6, none, [], "keepSmall")
def j_W_zeros : Nat := 162
def mm_W_zeros : mx_M := (1246, "IdealWorksLaw", 4, (some .int), [(0, 9, 12, 19), (0, 9, 15, 28)], "zeros")
def j_I_zeros : Nat := 163
def mm_I_zeros : mx_M := (1250, "IdealWorks", 2, (some .int), [], "zeros")
def j_Ring_points : Nat := 164
def mm_Ring_points : mx_M := (1254, "IdealWorks$Ring", 4, (some .int), [], "points")
def j_ZeroFinder_search : Nat := 165
def mm_ZeroFinder_search : mx_M := (1258, "IdealWorks$ZeroFinder", 4, (some .int), [], "search")
def j_Math_min : Nat := 166
def mm_Math_min : mx_M := (1261, "java/lang/Math", 2, (some .int), [], "min")
def j_ZeroFinder_searchFrom : Nat := 167
def mm_ZeroFinder_searchFrom : mx_M := (1266, "IdealWorks$ZeroFinder", 6, none, [], "searchFrom")
def j_ZeroFinder_searchLine : Nat := 168
def mm_ZeroFinder_searchLine : mx_M := (1270, "IdealWorks$ZeroFinder", 4, none, [], "searchLine")
def j_Ring_lineInto : Nat := 169
def mm_Ring_lineInto : mx_M := (1274, "IdealWorks$Ring", 7, (some .int), [], "lineInto")
def j_ZeroFinder_isZeroOfLines : Nat := 170
def mm_ZeroFinder_isZeroOfLines : mx_M := (1278, "IdealWorks$ZeroFinder", 7, (some .boolean), [], "isZeroOfLines")
def j_ZeroFinder_keepPoint : Nat := 171
def mm_ZeroFinder_keepPoint : mx_M := (1282, "IdealWorks$ZeroFinder", 1, none, [], "keepPoint")
def j_M_init : Nat := 172
def mm_M_init : mx_M := (1288, "IdealWorksModel", 1, none, [], "<init>")
def j_M_make : Nat := 173
def mm_M_make : mx_M := (1295, "IdealWorksModel", 1, none, [], "make")
def j_M_list : Nat := 174
def mm_M_list : mx_M := (1299, "IdealWorksModel", 13, none, [], "list")
def j_M_highest : Nat := 175
def mm_M_highest : mx_M := (1302, "IdealWorksModel", 1, (some .int), [], "highest")
def j_M_isLess : Nat := 176
def mm_M_isLess : mx_M := (1306, "IdealWorksModel", 9, (some .boolean), [], "isLess")
def j_M_key : Nat := 177
def mm_M_key : mx_M := (1309, "IdealWorksModel", 4, (some .int), [], "key")
def j_M_thrown : Nat := 178
def mm_M_thrown : mx_M := (1516, "IdealWorksModel", 1, (some .int), [], "thrown")
def j_M_field : Nat := 179
def mm_M_field : mx_M := (1520, "IdealWorksModel", 5, none, [], "field")
def j_M_isPrime : Nat := 180
def mm_M_isPrime : mx_M := (1523, "IdealWorksModel", 3, (some .boolean), [], "isPrime")
def j_M_feed : Nat := 181
def mm_M_feed : mx_M := (1527, "IdealWorksModel", 8, none, [], "feed")
def j_M_end : Nat := 182
def mm_M_end : mx_M := (1531, "IdealWorksModel", 3, (some .int), [], "end")
def j_M_read : Nat := 183
def mm_M_read : mx_M := (1535, "IdealWorksModel", 4, (some .int), [], "read")
def j_M_isNumber : Nat := 184
def mm_M_isNumber : mx_M := (1538, "IdealWorksModel", 2, (some .boolean), [], "isNumber")
def j_M_openSum : Nat := 185
def mm_M_openSum : mx_M := (1542, "IdealWorksModel", 2, none, [], "openSum")
def j_M_here : Nat := 186
def mm_M_here : mx_M := (1546, "IdealWorksModel", 1, (some .int), [], "here")
def j_M_readFactor : Nat := 187
def mm_M_readFactor : mx_M := (1550, "IdealWorksModel", 3, none, [], "readFactor")
def j_M_variableOf : Nat := 188
def mm_M_variableOf : mx_M := (1553, "IdealWorksModel", 1, (some .int), [], "variableOf")
def j_M_isDigit : Nat := 189
def mm_M_isDigit : mx_M := (1556, "IdealWorksModel", 1, (some .boolean), [], "isDigit")
def j_M_digits : Nat := 190
def mm_M_digits : mx_M := (1560, "IdealWorksModel", 5, (some .int), [], "digits")
def j_M_wrong : Nat := 191
def mm_M_wrong : mx_M := (1566, "IdealWorksModel", 3, none, [], "wrong")
def j_M_constant : Nat := 192
def mm_M_constant : mx_M := (1570, "IdealWorksModel", 3, none, [], "constant")
def j_M_variable : Nat := 193
def mm_M_variable : mx_M := (1574, "IdealWorksModel", 3, (some .int), [], "variable")
def j_M_takeFactor : Nat := 194
def mm_M_takeFactor : mx_M := (1578, "IdealWorksModel", 3, none, [], "takeFactor")
def j_M_degree : Nat := 195
def mm_M_degree : mx_M := (1582, "IdealWorksModel", 4, (some .int), [], "degree")
def j_M_lead : Nat := 196
def mm_M_lead : mx_M := (1586, "IdealWorksModel", 5, (some .int), [], "lead")
def j_M_raise : Nat := 197
def mm_M_raise : mx_M := (1590, "IdealWorksModel", 3, none, [], "raise")
def j_M_copy : Nat := 198
def mm_M_copy : mx_M := (1593, "IdealWorksModel", 5, none, [], "copy")
def j_M_product : Nat := 199
def mm_M_product : mx_M := (1597, "IdealWorksModel", 8, none, [], "product")
def j_M_times : Nat := 200
def mm_M_times : mx_M := (1601, "IdealWorksModel", 6, (some .int), [], "times")
def j_M_fits : Nat := 201
def mm_M_fits : mx_M := (1605, "IdealWorksModel", 7, (some .boolean), [], "fits")
def j_M_readSign : Nat := 202
def mm_M_readSign : mx_M := (1609, "IdealWorksModel", 2, none, [], "readSign")
def j_M_endTerm : Nat := 203
def mm_M_endTerm : mx_M := (1613, "IdealWorksModel", 3, none, [], "endTerm")
def j_M_mod : Nat := 204
def mm_M_mod : mx_M := (1617, "IdealWorksModel", 4, (some .int), [], "mod")
def j_M_termsOf : Nat := 205
def mm_M_termsOf : mx_M := (1621, "IdealWorksModel", 4, (some .int), [], "termsOf")
def j_M_fault : Nat := 206
def mm_M_fault : mx_M := (1625, "IdealWorksModel", 2, (some .int), [], "fault")
def j_M_add : Nat := 207
def mm_M_add : mx_M := (1629, "IdealWorksModel", 8, none, [], "add")
def j_M_areThree : Nat := 208
def mm_M_areThree : mx_M := (1632, "IdealWorksModel", 3, (some .boolean), [], "areThree")
def j_M_multiply : Nat := 209
def mm_M_multiply : mx_M := (1636, "IdealWorksModel", 4, none, [], "multiply")
def j_M_derive : Nat := 210
def mm_M_derive : mx_M := (1640, "IdealWorksModel", 7, none, [], "derive")
def j_M_changed : Nat := 211
def mm_M_changed : mx_M := (1644, "IdealWorksModel", 5, (some .int), [], "changed")
def j_M_put : Nat := 212
def mm_M_put : mx_M := (1648, "IdealWorksModel", 7, none, [], "put")
def j_M_power : Nat := 213
def mm_M_power : mx_M := (1652, "IdealWorksModel", 6, (some .int), [], "power")
def j_M_about : Nat := 214
def mm_M_about : mx_M := (1656, "IdealWorksModel", 3, (some .int), [], "about")
def j_M_term : Nat := 215
def mm_M_term : mx_M := (1660, "IdealWorksModel", 6, (some .int), [], "term")
def j_M_print : Nat := 216
def mm_M_print : mx_M := (1664, "IdealWorksModel", 7, (some .int), [], "print")
def j_M_write : Nat := 217
def mm_M_write : mx_M := (1668, "IdealWorksModel", 2, none, [], "write")
def j_M_writeNumber : Nat := 218
def mm_M_writeNumber : mx_M := (1672, "IdealWorksModel", 3, none, [], "writeNumber")
def j_M_letter : Nat := 219
def mm_M_letter : mx_M := (1675, "IdealWorksModel", 1, (some .int), [], "letter")
def j_M_output : Nat := 220
def mm_M_output : mx_M := (1679, "IdealWorksModel", 2, (some .int), [], "output")
def j_M_clear : Nat := 221
def mm_M_clear : mx_M := (1683, "IdealWorksModel", 2, none, [], "clear")
def j_M_isIdeal : Nat := 222
def mm_M_isIdeal : mx_M := (1686, "IdealWorksModel", 1, (some .boolean), [], "isIdeal")
def j_M_gone : Nat := 223
def mm_M_gone : mx_M := (1690, "IdealWorksModel", 2, none, [], "gone")
def j_M_join : Nat := 224
def mm_M_join : mx_M := (1694, "IdealWorksModel", 3, (some .int), [], "join")
def j_M_both : Nat := 225
def mm_M_both : mx_M := (1698, "IdealWorksModel", 11, none, [], "both")
def j_M_basis : Nat := 226
def mm_M_basis : mx_M := (1702, "IdealWorksModel", 5, (some .int), [], "basis")
def j_M_emptySpace : Nat := 227
def mm_M_emptySpace : mx_M := (1706, "IdealWorksModel", 4, none, [], "emptySpace")
def j_M_insert : Nat := 228
def mm_M_insert : mx_M := (1710, "IdealWorksModel", 7, none, [], "insert")
def j_M_reduce : Nat := 229
def mm_M_reduce : mx_M := (1714, "IdealWorksModel", 7, none, [], "reduce")
def j_M_rowAt : Nat := 230
def mm_M_rowAt : mx_M := (1718, "IdealWorksModel", 3, (some .int), [], "rowAt")
def j_M_inverse : Nat := 231
def mm_M_inverse : mx_M := (1722, "IdealWorksModel", 2, (some .int), [], "inverse")
def j_M_grow : Nat := 232
def mm_M_grow : mx_M := (1726, "IdealWorksModel", 9, none, [], "grow")
def j_M_basisMany : Nat := 233
def mm_M_basisMany : mx_M := (1730, "IdealWorksModel", 4, (some .int), [], "basisMany")
def j_M_isBasic : Nat := 234
def mm_M_isBasic : mx_M := (1734, "IdealWorksModel", 5, (some .boolean), [], "isBasic")
def j_M_divides : Nat := 235
def mm_M_divides : mx_M := (1738, "IdealWorksModel", 5, (some .boolean), [], "divides")
def j_M_element : Nat := 236
def mm_M_element : mx_M := (1742, "IdealWorksModel", 6, none, [], "element")
def j_M_ideal : Nat := 237
def mm_M_ideal : mx_M := (1746, "IdealWorksModel", 3, (some .int), [], "ideal")
def j_M_isComplete : Nat := 238
def mm_M_isComplete : mx_M := (1750, "IdealWorksModel", 5, (some .boolean), [], "isComplete")
def j_M_commonDegree : Nat := 239
def mm_M_commonDegree : mx_M := (1754, "IdealWorksModel", 5, (some .int), [], "commonDegree")
def j_M_dimension : Nat := 240
def mm_M_dimension : mx_M := (1758, "IdealWorksModel", 9, (some .int), [], "dimension")
def j_M_standard : Nat := 241
def mm_M_standard : mx_M := (1762, "IdealWorksModel", 5, (some .int), [], "standard")
def j_M_remainder : Nat := 242
def mm_M_remainder : mx_M := (1766, "IdealWorksModel", 5, (some .boolean), [], "remainder")
def j_M_proved : Nat := 243
def mm_M_proved : mx_M := (1770, "IdealWorksModel", 1, (some .int), [], "proved")
def j_M_radical : Nat := 244
def mm_M_radical : mx_M := (1774, "IdealWorksModel", 11, (some .boolean), [], "radical")
def j_M_wider : Nat := 245
def mm_M_wider : mx_M := (1778, "IdealWorksModel", 4, (some .int), [], "wider")
def j_M_dictionary : Nat := 246
def mm_M_dictionary : mx_M := (1782, "IdealWorksModel", 4, (some .int), [], "dictionary")
def j_M_listPlain : Nat := 247
def mm_M_listPlain : mx_M := (1786, "IdealWorksModel", 8, (some .boolean), [], "listPlain")
def j_M_pure : Nat := 248
def mm_M_pure : mx_M := (1790, "IdealWorksModel", 4, (some .int), [], "pure")
def j_M_isMultiple : Nat := 249
def mm_M_isMultiple : mx_M := (1794, "IdealWorksModel", 7, (some .boolean), [], "isMultiple")
def j_M_copyFour : Nat := 250
def mm_M_copyFour : mx_M := (1797, "IdealWorksModel", 5, none, [], "copyFour")
def j_M_multiplyAll : Nat := 251
def mm_M_multiplyAll : mx_M := (1801, "IdealWorksModel", 6, none, [], "multiplyAll")
def j_M_multiplyOne : Nat := 252
def mm_M_multiplyOne : mx_M := (1805, "IdealWorksModel", 14, none, [], "multiplyOne")
def j_M_plainOf : Nat := 253
def mm_M_plainOf : mx_M := (1809, "IdealWorksModel", 6, (some .int), [], "plainOf")
def j_M_productAt : Nat := 254
def mm_M_productAt : mx_M := (1813, "IdealWorksModel", 3, (some .int), [], "productAt")
def j_M_depends : Nat := 255
def mm_M_depends : mx_M := (1817, "IdealWorksModel", 4, (some .boolean), [], "depends")
def j_M_copyRow : Nat := 256
def mm_M_copyRow : mx_M := (1821, "IdealWorksModel", 3, none, [], "copyRow")
def j_M_addFound : Nat := 257
def mm_M_addFound : mx_M := (1825, "IdealWorksModel", 7, none, [], "addFound")
def j_M_nextOne : Nat := 258
def mm_M_nextOne : mx_M := (1829, "IdealWorksModel", 3, (some .boolean), [], "nextOne")
def j_M_isFound : Nat := 259
def mm_M_isFound : mx_M := (1833, "IdealWorksModel", 5, (some .boolean), [], "isFound")
def j_M_isEntered : Nat := 260
def mm_M_isEntered : mx_M := (1837, "IdealWorksModel", 5, (some .boolean), [], "isEntered")
def j_M_isBefore : Nat := 261
def mm_M_isBefore : mx_M := (1840, "IdealWorksModel", 5, (some .boolean), [], "isBefore")
def j_M_rowOfLeast : Nat := 262
def mm_M_rowOfLeast : mx_M := (1844, "IdealWorksModel", 5, none, [], "rowOfLeast")
def j_M_entry : Nat := 263
def mm_M_entry : mx_M := (1848, "IdealWorksModel", 6, (some .int), [], "entry")
def j_M_zeros : Nat := 264
def mm_M_zeros : mx_M := (1852, "IdealWorksModel", 9, (some .int), [], "zeros")
def j_M_valueAt : Nat := 265
def mm_M_valueAt : mx_M := (1857, "IdealWorksModel", 9, (some .int), [], "valueAt")
def j_M_zero : Nat := 266
def mm_M_zero : mx_M := (1861, "IdealWorksModel", 3, (some .int), [], "zero")
/-- methods: what each is, its name, how many parameters, its kind (0 static, 1 of an object, 2 a constructor), places of its words -/
def mx_mt0 : List (mx_M × MethodName × Nat × Nat × Nat × Nat × Nat × Nat × Nat) := [(mm_I_init, ⟨"IdealWorks", "<init>", "()V"⟩, 0, 2, 131, 130, 130, 106, 0), (mm_Ring_init, ⟨"IdealWorks$Ring", "<init>", "()V"⟩, 0, 2, 139, 138, 138, 107, 0), (mm_Ideal_init, ⟨"IdealWorks$Ideal", "<init>", "()V"⟩, 0, 2, 217, 216, 216, 108, 0), (mm_Space_init, ⟨"IdealWorks$Space", "<init>", "()V"⟩, 0, 2, 224, 223, 223, 109, 0), (mm_TextReader_init, ⟨"IdealWorks$TextReader", "<init>", "(LIdealWorks$Ring;)V"⟩, 1, 2, 301, 300, 300, 110, 0), (mm_Printer_init, ⟨"IdealWorks$Printer", "<init>", "(LIdealWorks$Ring;)V"⟩, 1, 2, 347, 346, 346, 111, 0), (mm_Quotient_init, ⟨"IdealWorks$Quotient", "<init>", "()V"⟩, 0, 2, 364, 363, 363, 112, 0), (mm_Lexicon_init, ⟨"IdealWorks$Lexicon", "<init>", "()V"⟩, 0, 2, 399, 398, 398, 113, 0), (mm_ZeroFinder_init, ⟨"IdealWorks$ZeroFinder", "<init>", "()V"⟩, 0, 2, 455, 454, 454, 114, 0), (mm_I_beginAnew, ⟨"IdealWorks", "beginAnew", "(III)V"⟩, 3, 1, 486, 485, 0, 106, 0), (mm_Ring_lay, ⟨"IdealWorks$Ring", "lay", "(III)V"⟩, 3, 1, 490, 488, 489, 107, 0), (mm_Arrays_fill, ⟨"java/util/Arrays", "fill", "([II)V"⟩, 2, 0, 495, 494, 494, 115, 0), (mm_Ring_layDegree, ⟨"IdealWorks$Ring", "layDegree", "(II)V"⟩, 2, 1, 499, 498, 1, 107, 0), (mm_Ring_layMonomial, ⟨"IdealWorks$Ring", "layMonomial", "()V"⟩, 0, 1, 503, 502, 2, 107, 0), (mm_Ring_linkNeighbours, ⟨"IdealWorks$Ring", "linkNeighbours", "()V"⟩, 0, 1, 507, 506, 3, 107, 0), (mm_Ring_placeOf, ⟨"IdealWorks$Ring", "placeOf", "(I)I"⟩, 1, 1, 511, 510, 4, 107, 0), (mm_Ideal_forget, ⟨"IdealWorks$Ideal", "forget", "()V"⟩, 0, 1, 516, 514, 515, 108, 0), (mm_Printer_forget, ⟨"IdealWorks$Printer", "forget", "()V"⟩, 0, 1, 520, 518, 519, 111, 0), (mm_I_feed, ⟨"IdealWorks", "feed", "(IIIII)V"⟩, 5, 1, 561, 559, 560, 106, 0), (mm_TextReader_makeReady, ⟨"IdealWorks$TextReader", "makeReady", "(II)V"⟩, 2, 1, 565, 563, 564, 110, 0), (mm_I_end, ⟨"IdealWorks", "end", "(I)I"⟩, 1, 1, 569, 567, 568, 106, 0), (mm_TextReader_lengthen, ⟨"IdealWorks$TextReader", "lengthen", "(I)I"⟩, 1, 1, 573, 571, 572, 110, 0), (mm_I_fault, ⟨"IdealWorks", "fault", "(I)I"⟩, 1, 1, 581, 579, 580, 106, 0), (mm_I_about, ⟨"IdealWorks", "about", "(II)I"⟩, 2, 1, 585, 583, 584, 106, 0), (mm_I_isPolynomial, ⟨"IdealWorks", "isPolynomial", "(I)Z"⟩, 1, 0, 588, 587, 587, 106, 0), (mm_Ring_termsOf, ⟨"IdealWorks$Ring", "termsOf", "([I)I"⟩, 1, 1, 592, 590, 591, 107, 0), (mm_Ring_degreeOf, ⟨"IdealWorks$Ring", "degreeOf", "([I)I"⟩, 1, 1, 596, 594, 595, 107, 0), (mm_Ring_topOf, ⟨"IdealWorks$Ring", "topOf", "([I)I"⟩, 1, 1, 600, 598, 599, 107, 0), (mm_I_term, ⟨"IdealWorks", "term", "(III)I"⟩, 3, 1, 604, 602, 603, 106, 0), (mm_Ring_monomialOfTerm, ⟨"IdealWorks$Ring", "monomialOfTerm", "([II)I"⟩, 2, 1, 608, 606, 607, 107, 0), (mm_Ring_exponentOf, ⟨"IdealWorks$Ring", "exponentOf", "(II)I"⟩, 2, 1, 612, 610, 611, 107, 0), (mm_I_output, ⟨"IdealWorks", "output", "(I)I"⟩, 1, 1, 616, 614, 615, 106, 0), (mm_Printer_byteAt, ⟨"IdealWorks$Printer", "byteAt", "(I)I"⟩, 1, 1, 620, 618, 619, 111, 0), (mm_I_ideal, ⟨"IdealWorks", "ideal", "(II)I"⟩, 2, 1, 624, 622, 623, 106, 0), (mm_I_isIdeal, ⟨"IdealWorks", "isIdeal", "(I)Z"⟩, 1, 0, 627, 626, 626, 106, 0), (mm_Ideal_dimension, ⟨"IdealWorks$Ideal", "dimension", "(LIdealWorks$Ring;)I"⟩, 1, 1, 631, 629, 630, 108, 0), (mm_Ideal_isFree, ⟨"IdealWorks$Ideal", "isFree", "(LIdealWorks$Ring;I)Z"⟩, 2, 1, 635, 634, 5, 108, 0), (mm_Integer_bitCount, ⟨"java/lang/Integer", "bitCount", "(I)I"⟩, 1, 0, 639, 638, 638, 125, 0), (mm_Math_max, ⟨"java/lang/Math", "max", "(II)I"⟩, 2, 0, 645, 644, 644, 123, 0), (mm_I_standard, ⟨"IdealWorks", "standard", "(II)I"⟩, 2, 1, 649, 647, 648, 106, 0)]
def mx_mt1 : List (mx_M × MethodName × Nat × Nat × Nat × Nat × Nat × Nat × Nat) := [(mm_Space_gapsOfDegree, ⟨"IdealWorks$Space", "gapsOfDegree", "(LIdealWorks$Ring;I)I"⟩, 2, 1, 653, 651, 652, 109, 0), (mm_Space_isLead, ⟨"IdealWorks$Space", "isLead", "(I)Z"⟩, 1, 1, 657, 655, 656, 109, 0), (mm_I_proved, ⟨"IdealWorks", "proved", "()I"⟩, 0, 1, 661, 659, 660, 106, 0), (mm_I_entry, ⟨"IdealWorks", "entry", "(III)I"⟩, 3, 1, 665, 663, 664, 106, 0), (mm_Lexicon_look, ⟨"IdealWorks$Lexicon", "look", "(III)I"⟩, 3, 1, 669, 667, 668, 113, 0), (mm_Packed_exponent, ⟨"IdealWorks$Packed", "exponent", "(II)I"⟩, 2, 0, 672, 671, 671, 126, 0), (mm_I_zero, ⟨"IdealWorks", "zero", "(II)I"⟩, 2, 1, 676, 674, 675, 106, 0), (mm_ZeroFinder_coordinate, ⟨"IdealWorks$ZeroFinder", "coordinate", "(II)I"⟩, 2, 1, 680, 678, 679, 114, 0), (mm_W_field, ⟨"IdealWorksLaw", "field", "(LIdealWorks;III)I"⟩, 4, 0, 683, 682, 682, 105, 1), (mm_I_field, ⟨"IdealWorks", "field", "(III)V"⟩, 3, 1, 688, 686, 687, 106, 0), (mm_I_isPrime, ⟨"IdealWorks", "isPrime", "(I)Z"⟩, 1, 0, 691, 690, 690, 106, 0), (mm_W_read, ⟨"IdealWorksLaw", "read", "(LIdealWorks;I[J)I"⟩, 3, 0, 757, 756, 756, 105, 1), (mm_I_read, ⟨"IdealWorks", "read", "(I)I"⟩, 1, 1, 762, 760, 761, 106, 0), (mm_I_needPolynomial, ⟨"IdealWorks", "needPolynomial", "(I)V"⟩, 1, 0, 765, 764, 764, 106, 0), (mm_TextReader_understand, ⟨"IdealWorks$TextReader", "understand", "([I)Z"⟩, 1, 1, 784, 782, 783, 110, 0), (mm_TextReader_takeSum, ⟨"IdealWorks$TextReader", "takeSum", "(I)V"⟩, 1, 1, 788, 787, 7, 110, 0), (mm_TextReader_skipSpaces, ⟨"IdealWorks$TextReader", "skipSpaces", "()V"⟩, 0, 1, 792, 791, 8, 110, 0), (mm_TextReader_isNext, ⟨"IdealWorks$TextReader", "isNext", "(I)Z"⟩, 1, 1, 796, 795, 9, 110, 0), (mm_TextReader_takeTerm, ⟨"IdealWorks$TextReader", "takeTerm", "(I)V"⟩, 1, 1, 800, 799, 10, 110, 0), (mm_TextReader_takeFactor, ⟨"IdealWorks$TextReader", "takeFactor", "(I)V"⟩, 1, 1, 804, 803, 11, 110, 0), (mm_TextReader_variableNext, ⟨"IdealWorks$TextReader", "variableNext", "()I"⟩, 0, 1, 808, 807, 12, 110, 0), (mm_TextReader_letterOf, ⟨"IdealWorks$TextReader", "letterOf", "(I)I"⟩, 1, 0, 811, 810, 810, 110, 0), (mm_Ring_above, ⟨"IdealWorks$Ring", "above", "(II)I"⟩, 2, 1, 815, 813, 814, 107, 0), (mm_TextReader_isDigitNext, ⟨"IdealWorks$TextReader", "isDigitNext", "()Z"⟩, 0, 1, 819, 818, 13, 110, 0), (mm_TextReader_takeNumber, ⟨"IdealWorks$TextReader", "takeNumber", "(I)I"⟩, 1, 1, 823, 822, 14, 110, 0), (mm_TextReader_blame, ⟨"IdealWorks$TextReader", "blame", "(II)V"⟩, 2, 1, 827, 826, 15, 110, 0), (mm_Ring_residue, ⟨"IdealWorks$Ring", "residue", "(I)I"⟩, 1, 1, 831, 829, 830, 107, 0), (mm_Math_floorMod, ⟨"java/lang/Math", "floorMod", "(II)I"⟩, 2, 0, 834, 833, 833, 123, 0), (mm_TextReader_takeBrackets, ⟨"IdealWorks$TextReader", "takeBrackets", "(I)V"⟩, 1, 1, 838, 837, 16, 110, 0), (mm_TextReader_takePower, ⟨"IdealWorks$TextReader", "takePower", "([I)V"⟩, 1, 1, 842, 841, 17, 110, 0), (mm_TextReader_raise, ⟨"IdealWorks$TextReader", "raise", "([II)V"⟩, 2, 1, 847, 846, 18, 110, 0), (mm_Ring_productInto, ⟨"IdealWorks$Ring", "productInto", "([I[I[I)V"⟩, 3, 1, 851, 849, 850, 107, 0), (mm_Ring_productFits, ⟨"IdealWorks$Ring", "productFits", "([I[I)Z"⟩, 2, 1, 855, 853, 854, 107, 0), (mm_Ring_addMultiple, ⟨"IdealWorks$Ring", "addMultiple", "([II[II)V"⟩, 4, 1, 860, 858, 859, 107, 0), (mm_I_keepResult, ⟨"IdealWorks", "keepResult", "(I)V"⟩, 1, 1, 864, 863, 19, 106, 0), (mm_W_add, ⟨"IdealWorksLaw", "add", "(LIdealWorks;IIII)I"⟩, 5, 0, 868, 867, 867, 105, 1), (mm_I_add, ⟨"IdealWorks", "add", "(IIII)V"⟩, 4, 1, 872, 870, 871, 106, 0), (mm_W_multiply, ⟨"IdealWorksLaw", "multiply", "(LIdealWorks;III)I"⟩, 4, 0, 877, 876, 876, 105, 1), (mm_I_multiply, ⟨"IdealWorks", "multiply", "(III)V"⟩, 3, 1, 882, 880, 881, 106, 0), (mm_W_derive, ⟨"IdealWorksLaw", "derive", "(LIdealWorks;III)I"⟩, 4, 0, 902, 901, 901, 105, 1)]
def mx_mt2 : List (mx_M × MethodName × Nat × Nat × Nat × Nat × Nat × Nat × Nat) := [(mm_I_derive, ⟨"IdealWorks", "derive", "(III)V"⟩, 3, 1, 906, 904, 905, 106, 0), (mm_I_needVariable, ⟨"IdealWorks", "needVariable", "(I)V"⟩, 1, 1, 910, 909, 20, 106, 0), (mm_Ring_derivativeInto, ⟨"IdealWorks$Ring", "derivativeInto", "([II[I)V"⟩, 3, 1, 914, 912, 913, 107, 0), (mm_W_put, ⟨"IdealWorksLaw", "put", "(LIdealWorks;IIII)I"⟩, 5, 0, 918, 917, 917, 105, 1), (mm_I_put, ⟨"IdealWorks", "put", "(IIII)V"⟩, 4, 1, 922, 920, 921, 106, 0), (mm_Ring_substituteInto, ⟨"IdealWorks$Ring", "substituteInto", "([III[I)V"⟩, 4, 1, 926, 924, 925, 107, 0), (mm_W_print, ⟨"IdealWorksLaw", "print", "(LIdealWorks;I[J)I"⟩, 3, 0, 929, 928, 928, 105, 1), (mm_I_print, ⟨"IdealWorks", "print", "(I)I"⟩, 1, 1, 933, 931, 932, 106, 0), (mm_Printer_write, ⟨"IdealWorks$Printer", "write", "([I)I"⟩, 1, 1, 937, 935, 936, 111, 0), (mm_Printer_writeTerm, ⟨"IdealWorks$Printer", "writeTerm", "(II)V"⟩, 2, 1, 941, 940, 21, 111, 0), (mm_Printer_writeByte, ⟨"IdealWorks$Printer", "writeByte", "(I)V"⟩, 1, 1, 945, 944, 22, 111, 0), (mm_Printer_writeNumber, ⟨"IdealWorks$Printer", "writeNumber", "(I)V"⟩, 1, 1, 949, 948, 23, 111, 0), (mm_W_clear, ⟨"IdealWorksLaw", "clear", "(LIdealWorks;I)I"⟩, 2, 0, 954, 953, 953, 105, 1), (mm_I_clear, ⟨"IdealWorks", "clear", "(I)V"⟩, 1, 1, 958, 956, 957, 106, 0), (mm_I_needIdeal, ⟨"IdealWorks", "needIdeal", "(I)V"⟩, 1, 0, 961, 960, 960, 106, 0), (mm_W_join, ⟨"IdealWorksLaw", "join", "(LIdealWorks;II[J)I"⟩, 4, 0, 964, 963, 963, 105, 1), (mm_I_join, ⟨"IdealWorks", "join", "(II)I"⟩, 2, 1, 968, 966, 967, 106, 0), (mm_Ideal_append, ⟨"IdealWorks$Ideal", "append", "([I)V"⟩, 1, 1, 973, 971, 972, 108, 0), (mm_W_both, ⟨"IdealWorksLaw", "both", "(LIdealWorks;IIZI)I"⟩, 5, 0, 977, 976, 976, 105, 1), (mm_I_both, ⟨"IdealWorks", "both", "(IIZI)V"⟩, 4, 1, 981, 979, 980, 106, 0), (mm_Ideal_appendAll, ⟨"IdealWorks$Ideal", "appendAll", "(LIdealWorks$Ideal;)V"⟩, 1, 1, 985, 983, 984, 108, 0), (mm_I_draftProducts, ⟨"IdealWorks", "draftProducts", "(LIdealWorks$Ideal;LIdealWorks$Ideal;)Z"⟩, 2, 1, 990, 989, 24, 106, 0), (mm_W_basis, ⟨"IdealWorksLaw", "basis", "(LIdealWorks;II[J)I"⟩, 4, 0, 993, 992, 992, 105, 1), (mm_I_basis, ⟨"IdealWorks", "basis", "(II)I"⟩, 2, 1, 997, 995, 996, 106, 0), (mm_Ideal_findBasis, ⟨"IdealWorks$Ideal", "findBasis", "(LIdealWorks$Ring;I)V"⟩, 2, 1, 1001, 999, 1000, 108, 0), (mm_Space_build, ⟨"IdealWorks$Space", "build", "(LIdealWorks$Ring;[[III)V"⟩, 4, 1, 1005, 1003, 1004, 109, 0), (mm_Space_sourceOfGenerator, ⟨"IdealWorks$Space", "sourceOfGenerator", "(I)I"⟩, 1, 0, 1009, 1008, 1008, 109, 0), (mm_Space_loadSource, ⟨"IdealWorks$Space", "loadSource", "(LIdealWorks$Ring;[[II)Z"⟩, 3, 1, 1013, 1012, 25, 109, 0), (mm_Ring_raisedInto, ⟨"IdealWorks$Ring", "raisedInto", "([II[I)V"⟩, 3, 1, 1019, 1017, 1018, 107, 0), (mm_Space_takeIn, ⟨"IdealWorks$Space", "takeIn", "(LIdealWorks$Ring;I)V"⟩, 2, 1, 1023, 1022, 26, 109, 0), (mm_Space_reduce, ⟨"IdealWorks$Space", "reduce", "(LIdealWorks$Ring;Z)I"⟩, 2, 1, 1027, 1026, 27, 109, 0), (mm_Ring_negative, ⟨"IdealWorks$Ring", "negative", "(I)I"⟩, 1, 1, 1031, 1029, 1030, 107, 0), (mm_Ring_inverse, ⟨"IdealWorks$Ring", "inverse", "(I)I"⟩, 1, 1, 1036, 1034, 1035, 107, 0), (mm_Ring_power, ⟨"IdealWorks$Ring", "power", "(II)I"⟩, 2, 1, 1040, 1038, 1039, 107, 0), (mm_Space_sourceOfProduct, ⟨"IdealWorks$Space", "sourceOfProduct", "(II)I"⟩, 2, 0, 1043, 1042, 1042, 109, 0), (mm_Ideal_isCorner, ⟨"IdealWorks$Ideal", "isCorner", "(LIdealWorks$Ring;I)Z"⟩, 2, 1, 1047, 1046, 28, 108, 0), (mm_Ring_below, ⟨"IdealWorks$Ring", "below", "(II)I"⟩, 2, 1, 1052, 1050, 1051, 107, 0), (mm_Ideal_greatestDegree, ⟨"IdealWorks$Ideal", "greatestDegree", "(LIdealWorks$Ring;)I"⟩, 1, 1, 1056, 1054, 1055, 108, 0), (mm_Ideal_pairsAreLow, ⟨"IdealWorks$Ideal", "pairsAreLow", "(LIdealWorks$Ring;)Z"⟩, 1, 1, 1061, 1060, 29, 108, 0), (mm_Ideal_isLowPair, ⟨"IdealWorks$Ideal", "isLowPair", "(LIdealWorks$Ring;II)Z"⟩, 3, 1, 1065, 1064, 30, 108, 0)]
def mx_mt3 : List (mx_M × MethodName × Nat × Nat × Nat × Nat × Nat × Nat × Nat) := [(mm_W_element, ⟨"IdealWorksLaw", "element", "(LIdealWorks;III)I"⟩, 4, 0, 1068, 1067, 1067, 105, 1), (mm_I_element, ⟨"IdealWorks", "element", "(III)V"⟩, 3, 1, 1072, 1070, 1071, 106, 0), (mm_Space_reducedInto, ⟨"IdealWorks$Space", "reducedInto", "(LIdealWorks$Ring;I[I)V"⟩, 3, 1, 1076, 1074, 1075, 109, 0), (mm_W_remainder, ⟨"IdealWorksLaw", "remainder", "(LIdealWorks;III[J)I"⟩, 5, 0, 1079, 1078, 1078, 105, 1), (mm_I_remainder, ⟨"IdealWorks", "remainder", "(III)Z"⟩, 3, 1, 1083, 1081, 1082, 106, 0), (mm_Space_remainderInto, ⟨"IdealWorks$Space", "remainderInto", "(LIdealWorks$Ring;[I[I)Z"⟩, 3, 1, 1087, 1085, 1086, 109, 0), (mm_Space_proves, ⟨"IdealWorks$Space", "proves", "(LIdealWorks$Ring;[[I[I)Z"⟩, 3, 1, 1091, 1089, 1090, 109, 0), (mm_Space_checkUpTo, ⟨"IdealWorks$Space", "checkUpTo", "(LIdealWorks$Ring;[[II)Z"⟩, 3, 1, 1095, 1094, 31, 109, 0), (mm_Space_isAsTold, ⟨"IdealWorks$Space", "isAsTold", "(LIdealWorks$Ring;[[II)Z"⟩, 3, 1, 1099, 1098, 32, 109, 0), (mm_Space_same, ⟨"IdealWorks$Space", "same", "([I[I)Z"⟩, 2, 0, 1103, 1102, 1102, 109, 0), (mm_W_radical, ⟨"IdealWorksLaw", "radical", "(LIdealWorks;III[J)I"⟩, 5, 0, 1106, 1105, 1105, 105, 1), (mm_I_radical, ⟨"IdealWorks", "radical", "(III)Z"⟩, 3, 1, 1110, 1108, 1109, 106, 0), (mm_Ring_widenInto, ⟨"IdealWorks$Ring", "widenInto", "([ILIdealWorks$Ring;[I)V"⟩, 3, 1, 1115, 1113, 1114, 107, 0), (mm_Ring_codeOf, ⟨"IdealWorks$Ring", "codeOf", "(LIdealWorks$Ring;I)I"⟩, 2, 1, 1119, 1118, 33, 107, 0), (mm_Ring_inverterInto, ⟨"IdealWorks$Ring", "inverterInto", "([ILIdealWorks$Ring;[I)V"⟩, 3, 1, 1124, 1122, 1123, 107, 0), (mm_W_dictionary, ⟨"IdealWorksLaw", "dictionary", "(LIdealWorks;I[J)I"⟩, 3, 0, 1130, 1129, 1129, 105, 1), (mm_I_dictionary, ⟨"IdealWorks", "dictionary", "(I)I"⟩, 1, 1, 1134, 1132, 1133, 106, 0), (mm_Quotient_gather, ⟨"IdealWorks$Quotient", "gather", "(LIdealWorks$Ring;LIdealWorks$Ideal;)Z"⟩, 2, 1, 1138, 1136, 1137, 112, 0), (mm_Packed_pack, ⟨"IdealWorks$Packed", "pack", "(LIdealWorks$Ring;I)I"⟩, 2, 0, 1141, 1140, 1140, 126, 0), (mm_Packed_variable, ⟨"IdealWorks$Packed", "variable", "(I)I"⟩, 1, 0, 1145, 1144, 1144, 126, 0), (mm_Quotient_gatherAbove, ⟨"IdealWorks$Quotient", "gatherAbove", "(LIdealWorks$Ring;I)Z"⟩, 2, 1, 1149, 1148, 34, 112, 0), (mm_Quotient_lastVariable, ⟨"IdealWorks$Quotient", "lastVariable", "(I)I"⟩, 1, 0, 1152, 1151, 1151, 112, 0), (mm_Quotient_isStandard, ⟨"IdealWorks$Quotient", "isStandard", "(I)Z"⟩, 1, 1, 1158, 1157, 35, 112, 0), (mm_Packed_divides, ⟨"IdealWorks$Packed", "divides", "(II)Z"⟩, 2, 0, 1161, 1160, 1160, 126, 0), (mm_Quotient_findForms, ⟨"IdealWorks$Quotient", "findForms", "(LIdealWorks$Ring;LIdealWorks$Ideal;)V"⟩, 2, 1, 1166, 1164, 1165, 112, 0), (mm_Quotient_gatherBorder, ⟨"IdealWorks$Quotient", "gatherBorder", "(LIdealWorks$Ring;)V"⟩, 1, 1, 1170, 1169, 36, 112, 0), (mm_Packed_find, ⟨"IdealWorks$Packed", "find", "([III)I"⟩, 3, 0, 1173, 1172, 1172, 126, 0), (mm_Quotient_insert, ⟨"IdealWorks$Quotient", "insert", "(II)V"⟩, 2, 1, 1177, 1176, 37, 112, 0), (mm_Packed_isLess, ⟨"IdealWorks$Packed", "isLess", "(III)Z"⟩, 3, 0, 1180, 1179, 1179, 126, 0), (mm_Packed_degree, ⟨"IdealWorks$Packed", "degree", "(I)I"⟩, 1, 0, 1183, 1182, 1182, 126, 0), (mm_Quotient_findProducts, ⟨"IdealWorks$Quotient", "findProducts", "(LIdealWorks$Ring;)V"⟩, 1, 1, 1187, 1186, 38, 112, 0), (mm_Quotient_formFromBelow, ⟨"IdealWorks$Quotient", "formFromBelow", "(LIdealWorks$Ring;I)V"⟩, 2, 1, 1192, 1191, 39, 112, 0), (mm_Quotient_timesInto, ⟨"IdealWorks$Quotient", "timesInto", "(LIdealWorks$Ring;[II[I)V"⟩, 4, 1, 1196, 1194, 1195, 112, 0), (mm_Quotient_addRow, ⟨"IdealWorks$Quotient", "addRow", "(LIdealWorks$Ring;[II[I)V"⟩, 4, 0, 1199, 1198, 1198, 112, 0), (mm_Quotient_formFromBasis, ⟨"IdealWorks$Quotient", "formFromBasis", "(LIdealWorks$Ring;LIdealWorks$Ideal;II)V"⟩, 4, 1, 1204, 1203, 40, 112, 0), (mm_Lexicon_compile, ⟨"IdealWorks$Lexicon", "compile", "(LIdealWorks$Ring;LIdealWorks$Quotient;)I"⟩, 2, 1, 1210, 1208, 1209, 113, 0), (mm_Lexicon_takeLeast, ⟨"IdealWorks$Lexicon", "takeLeast", "(LIdealWorks$Ring;LIdealWorks$Quotient;)V"⟩, 2, 1, 1214, 1213, 41, 113, 0), (mm_Lexicon_isDone, ⟨"IdealWorks$Lexicon", "isDone", "(I)Z"⟩, 1, 1, 1218, 1217, 42, 113, 0), (mm_Lexicon_loadRow, ⟨"IdealWorks$Lexicon", "loadRow", "(LIdealWorks$Ring;LIdealWorks$Quotient;I)V"⟩, 3, 1, 1224, 1223, 43, 113, 0), (mm_Lexicon_eliminate, ⟨"IdealWorks$Lexicon", "eliminate", "(LIdealWorks$Ring;)I"⟩, 1, 1, 1230, 1229, 44, 113, 0)]
def mx_mt4 : List (mx_M × MethodName × Nat × Nat × Nat × Nat × Nat × Nat × Nat) := [(mm_Lexicon_keepHead, ⟨"IdealWorks$Lexicon", "keepHead", "(I)V"⟩, 1, 1, 1237, 1236, 45, 113, 0), (mm_Lexicon_keepSmall, ⟨"IdealWorks$Lexicon", "keepSmall", "(LIdealWorks$Ring;II)V"⟩, 3, 1, 1241, 1240, 46, 113, 0), (mm_W_zeros, ⟨"IdealWorksLaw", "zeros", "(LIdealWorks;I[J)I"⟩, 3, 0, 1246, 1245, 1245, 105, 1), (mm_I_zeros, ⟨"IdealWorks", "zeros", "(I)I"⟩, 1, 1, 1250, 1248, 1249, 106, 0), (mm_Ring_points, ⟨"IdealWorks$Ring", "points", "(I)I"⟩, 1, 1, 1254, 1252, 1253, 107, 0), (mm_ZeroFinder_search, ⟨"IdealWorks$ZeroFinder", "search", "(LIdealWorks$Ring;LIdealWorks$Ideal;)I"⟩, 2, 1, 1258, 1256, 1257, 114, 0), (mm_Math_min, ⟨"java/lang/Math", "min", "(II)I"⟩, 2, 0, 1261, 1260, 1260, 123, 0), (mm_ZeroFinder_searchFrom, ⟨"IdealWorks$ZeroFinder", "searchFrom", "(LIdealWorks$Ring;I)V"⟩, 2, 1, 1266, 1265, 47, 114, 0), (mm_ZeroFinder_searchLine, ⟨"IdealWorks$ZeroFinder", "searchLine", "(LIdealWorks$Ring;I)V"⟩, 2, 1, 1270, 1269, 48, 114, 0), (mm_Ring_lineInto, ⟨"IdealWorks$Ring", "lineInto", "([II[I)I"⟩, 3, 1, 1274, 1272, 1273, 107, 0), (mm_ZeroFinder_isZeroOfLines, ⟨"IdealWorks$ZeroFinder", "isZeroOfLines", "(II)Z"⟩, 2, 1, 1278, 1277, 49, 114, 0), (mm_ZeroFinder_keepPoint, ⟨"IdealWorks$ZeroFinder", "keepPoint", "()V"⟩, 0, 1, 1282, 1281, 50, 114, 0), (mm_M_init, ⟨"IdealWorksModel", "<init>", "()V"⟩, 0, 2, 1288, 1287, 1287, 116, 0), (mm_M_make, ⟨"IdealWorksModel", "make", "()V"⟩, 0, 1, 1295, 1294, 51, 116, 0), (mm_M_list, ⟨"IdealWorksModel", "list", "(II)V"⟩, 2, 1, 1299, 1298, 52, 116, 0), (mm_M_highest, ⟨"IdealWorksModel", "highest", "(I)I"⟩, 1, 0, 1302, 1301, 1301, 116, 0), (mm_M_isLess, ⟨"IdealWorksModel", "isLess", "([II[II)Z"⟩, 4, 1, 1306, 1305, 53, 116, 0), (mm_M_key, ⟨"IdealWorksModel", "key", "(IIII)I"⟩, 4, 0, 1309, 1308, 1308, 116, 0), (mm_M_thrown, ⟨"IdealWorksModel", "thrown", "()I"⟩, 0, 1, 1516, 1514, 1515, 116, 0), (mm_M_field, ⟨"IdealWorksModel", "field", "(III)V"⟩, 3, 1, 1520, 1518, 1519, 116, 0), (mm_M_isPrime, ⟨"IdealWorksModel", "isPrime", "(I)Z"⟩, 1, 0, 1523, 1522, 1522, 116, 0), (mm_M_feed, ⟨"IdealWorksModel", "feed", "(IIIII)V"⟩, 5, 1, 1527, 1525, 1526, 116, 0), (mm_M_end, ⟨"IdealWorksModel", "end", "(I)I"⟩, 1, 1, 1531, 1529, 1530, 116, 0), (mm_M_read, ⟨"IdealWorksModel", "read", "(I)I"⟩, 1, 1, 1535, 1533, 1534, 116, 0), (mm_M_isNumber, ⟨"IdealWorksModel", "isNumber", "(II)Z"⟩, 2, 0, 1538, 1537, 1537, 116, 0), (mm_M_openSum, ⟨"IdealWorksModel", "openSum", "()V"⟩, 0, 1, 1542, 1541, 54, 116, 0), (mm_M_here, ⟨"IdealWorksModel", "here", "()I"⟩, 0, 1, 1546, 1545, 55, 116, 0), (mm_M_readFactor, ⟨"IdealWorksModel", "readFactor", "(I)V"⟩, 1, 1, 1550, 1549, 56, 116, 0), (mm_M_variableOf, ⟨"IdealWorksModel", "variableOf", "(I)I"⟩, 1, 0, 1553, 1552, 1552, 116, 0), (mm_M_isDigit, ⟨"IdealWorksModel", "isDigit", "(I)Z"⟩, 1, 0, 1556, 1555, 1555, 116, 0), (mm_M_digits, ⟨"IdealWorksModel", "digits", "(I)I"⟩, 1, 1, 1560, 1559, 57, 116, 0), (mm_M_wrong, ⟨"IdealWorksModel", "wrong", "(II)V"⟩, 2, 1, 1566, 1565, 58, 116, 0), (mm_M_constant, ⟨"IdealWorksModel", "constant", "(I)V"⟩, 1, 1, 1570, 1569, 59, 116, 0), (mm_M_variable, ⟨"IdealWorksModel", "variable", "(II)I"⟩, 2, 1, 1574, 1573, 60, 116, 0), (mm_M_takeFactor, ⟨"IdealWorksModel", "takeFactor", "()V"⟩, 0, 1, 1578, 1577, 61, 116, 0), (mm_M_degree, ⟨"IdealWorksModel", "degree", "([II)I"⟩, 2, 1, 1582, 1581, 62, 116, 0), (mm_M_lead, ⟨"IdealWorksModel", "lead", "([III)I"⟩, 3, 1, 1586, 1585, 63, 116, 0), (mm_M_raise, ⟨"IdealWorksModel", "raise", "(I)V"⟩, 1, 1, 1590, 1589, 64, 116, 0), (mm_M_copy, ⟨"IdealWorksModel", "copy", "([II[II)V"⟩, 4, 0, 1593, 1592, 1592, 116, 0), (mm_M_product, ⟨"IdealWorksModel", "product", "([II[II)V"⟩, 4, 1, 1597, 1596, 65, 116, 0)]
def mx_mt5 : List (mx_M × MethodName × Nat × Nat × Nat × Nat × Nat × Nat × Nat) := [(mm_M_times, ⟨"IdealWorksModel", "times", "(III)I"⟩, 3, 1, 1601, 1600, 66, 116, 0), (mm_M_fits, ⟨"IdealWorksModel", "fits", "([II[II)Z"⟩, 4, 1, 1605, 1604, 67, 116, 0), (mm_M_readSign, ⟨"IdealWorksModel", "readSign", "(I)V"⟩, 1, 1, 1609, 1608, 68, 116, 0), (mm_M_endTerm, ⟨"IdealWorksModel", "endTerm", "()V"⟩, 0, 1, 1613, 1612, 69, 116, 0), (mm_M_mod, ⟨"IdealWorksModel", "mod", "(J)I"⟩, 1, 1, 1617, 1616, 70, 116, 0), (mm_M_termsOf, ⟨"IdealWorksModel", "termsOf", "(I)I"⟩, 1, 1, 1621, 1620, 71, 116, 0), (mm_M_fault, ⟨"IdealWorksModel", "fault", "(I)I"⟩, 1, 1, 1625, 1623, 1624, 116, 0), (mm_M_add, ⟨"IdealWorksModel", "add", "(IIII)V"⟩, 4, 1, 1629, 1627, 1628, 116, 0), (mm_M_areThree, ⟨"IdealWorksModel", "areThree", "(III)Z"⟩, 3, 0, 1632, 1631, 1631, 116, 0), (mm_M_multiply, ⟨"IdealWorksModel", "multiply", "(III)V"⟩, 3, 1, 1636, 1634, 1635, 116, 0), (mm_M_derive, ⟨"IdealWorksModel", "derive", "(III)V"⟩, 3, 1, 1640, 1638, 1639, 116, 0), (mm_M_changed, ⟨"IdealWorksModel", "changed", "(III)I"⟩, 3, 1, 1644, 1643, 72, 116, 0), (mm_M_put, ⟨"IdealWorksModel", "put", "(IIII)V"⟩, 4, 1, 1648, 1646, 1647, 116, 0), (mm_M_power, ⟨"IdealWorksModel", "power", "(II)I"⟩, 2, 1, 1652, 1651, 73, 116, 0), (mm_M_about, ⟨"IdealWorksModel", "about", "(II)I"⟩, 2, 1, 1656, 1654, 1655, 116, 0), (mm_M_term, ⟨"IdealWorksModel", "term", "(III)I"⟩, 3, 1, 1660, 1658, 1659, 116, 0), (mm_M_print, ⟨"IdealWorksModel", "print", "(I)I"⟩, 1, 1, 1664, 1662, 1663, 116, 0), (mm_M_write, ⟨"IdealWorksModel", "write", "(I)V"⟩, 1, 1, 1668, 1667, 74, 116, 0), (mm_M_writeNumber, ⟨"IdealWorksModel", "writeNumber", "(I)V"⟩, 1, 1, 1672, 1671, 75, 116, 0), (mm_M_letter, ⟨"IdealWorksModel", "letter", "(I)I"⟩, 1, 0, 1675, 1674, 1674, 116, 0), (mm_M_output, ⟨"IdealWorksModel", "output", "(I)I"⟩, 1, 1, 1679, 1677, 1678, 116, 0), (mm_M_clear, ⟨"IdealWorksModel", "clear", "(I)V"⟩, 1, 1, 1683, 1681, 1682, 116, 0), (mm_M_isIdeal, ⟨"IdealWorksModel", "isIdeal", "(I)Z"⟩, 1, 0, 1686, 1685, 1685, 116, 0), (mm_M_gone, ⟨"IdealWorksModel", "gone", "(I)V"⟩, 1, 1, 1690, 1689, 76, 116, 0), (mm_M_join, ⟨"IdealWorksModel", "join", "(II)I"⟩, 2, 1, 1694, 1692, 1693, 116, 0), (mm_M_both, ⟨"IdealWorksModel", "both", "(IIZI)V"⟩, 4, 1, 1698, 1696, 1697, 116, 0), (mm_M_basis, ⟨"IdealWorksModel", "basis", "(II)I"⟩, 2, 1, 1702, 1700, 1701, 116, 0), (mm_M_emptySpace, ⟨"IdealWorksModel", "emptySpace", "(II)V"⟩, 2, 1, 1706, 1705, 77, 116, 0), (mm_M_insert, ⟨"IdealWorksModel", "insert", "(I)V"⟩, 1, 1, 1710, 1709, 78, 116, 0), (mm_M_reduce, ⟨"IdealWorksModel", "reduce", "(II)V"⟩, 2, 1, 1714, 1713, 79, 116, 0), (mm_M_rowAt, ⟨"IdealWorksModel", "rowAt", "(II)I"⟩, 2, 1, 1718, 1717, 80, 116, 0), (mm_M_inverse, ⟨"IdealWorksModel", "inverse", "(I)I"⟩, 1, 1, 1722, 1721, 81, 116, 0), (mm_M_grow, ⟨"IdealWorksModel", "grow", "(III)V"⟩, 3, 1, 1726, 1725, 82, 116, 0), (mm_M_basisMany, ⟨"IdealWorksModel", "basisMany", "(I)I"⟩, 1, 1, 1730, 1729, 83, 116, 0), (mm_M_isBasic, ⟨"IdealWorksModel", "isBasic", "(II)Z"⟩, 2, 1, 1734, 1733, 84, 116, 0), (mm_M_divides, ⟨"IdealWorksModel", "divides", "(II)Z"⟩, 2, 1, 1738, 1737, 85, 116, 0), (mm_M_element, ⟨"IdealWorksModel", "element", "(III)V"⟩, 3, 1, 1742, 1740, 1741, 116, 0), (mm_M_ideal, ⟨"IdealWorksModel", "ideal", "(II)I"⟩, 2, 1, 1746, 1744, 1745, 116, 0), (mm_M_isComplete, ⟨"IdealWorksModel", "isComplete", "(I)Z"⟩, 1, 1, 1750, 1749, 86, 116, 0), (mm_M_commonDegree, ⟨"IdealWorksModel", "commonDegree", "(II)I"⟩, 2, 1, 1754, 1753, 87, 116, 0)]
def mx_mt6 : List (mx_M × MethodName × Nat × Nat × Nat × Nat × Nat × Nat × Nat) := [(mm_M_dimension, ⟨"IdealWorksModel", "dimension", "(I)I"⟩, 1, 1, 1758, 1757, 88, 116, 0), (mm_M_standard, ⟨"IdealWorksModel", "standard", "(II)I"⟩, 2, 1, 1762, 1760, 1761, 116, 0), (mm_M_remainder, ⟨"IdealWorksModel", "remainder", "(III)Z"⟩, 3, 1, 1766, 1764, 1765, 116, 0), (mm_M_proved, ⟨"IdealWorksModel", "proved", "()I"⟩, 0, 1, 1770, 1768, 1769, 116, 0), (mm_M_radical, ⟨"IdealWorksModel", "radical", "(III)Z"⟩, 3, 1, 1774, 1772, 1773, 116, 0), (mm_M_wider, ⟨"IdealWorksModel", "wider", "(II)I"⟩, 2, 1, 1778, 1777, 89, 116, 0), (mm_M_dictionary, ⟨"IdealWorksModel", "dictionary", "(I)I"⟩, 1, 1, 1782, 1780, 1781, 116, 0), (mm_M_listPlain, ⟨"IdealWorksModel", "listPlain", "(I)Z"⟩, 1, 1, 1786, 1785, 90, 116, 0), (mm_M_pure, ⟨"IdealWorksModel", "pure", "(II)I"⟩, 2, 1, 1790, 1789, 91, 116, 0), (mm_M_isMultiple, ⟨"IdealWorksModel", "isMultiple", "(I[II)Z"⟩, 3, 1, 1794, 1793, 92, 116, 0), (mm_M_copyFour, ⟨"IdealWorksModel", "copyFour", "([II[II)V"⟩, 4, 0, 1797, 1796, 1796, 116, 0), (mm_M_multiplyAll, ⟨"IdealWorksModel", "multiplyAll", "(I)V"⟩, 1, 1, 1801, 1800, 93, 116, 0), (mm_M_multiplyOne, ⟨"IdealWorksModel", "multiplyOne", "(II)V"⟩, 2, 1, 1805, 1804, 94, 116, 0), (mm_M_plainOf, ⟨"IdealWorksModel", "plainOf", "([II)I"⟩, 2, 1, 1809, 1808, 95, 116, 0), (mm_M_productAt, ⟨"IdealWorksModel", "productAt", "(II)I"⟩, 2, 1, 1813, 1812, 96, 116, 0), (mm_M_depends, ⟨"IdealWorksModel", "depends", "()Z"⟩, 0, 1, 1817, 1816, 97, 116, 0), (mm_M_copyRow, ⟨"IdealWorksModel", "copyRow", "(I)V"⟩, 1, 1, 1821, 1820, 98, 116, 0), (mm_M_addFound, ⟨"IdealWorksModel", "addFound", "()V"⟩, 0, 1, 1825, 1824, 99, 116, 0), (mm_M_nextOne, ⟨"IdealWorksModel", "nextOne", "()Z"⟩, 0, 1, 1829, 1828, 100, 116, 0), (mm_M_isFound, ⟨"IdealWorksModel", "isFound", "()Z"⟩, 0, 1, 1833, 1832, 101, 116, 0), (mm_M_isEntered, ⟨"IdealWorksModel", "isEntered", "()Z"⟩, 0, 1, 1837, 1836, 102, 116, 0), (mm_M_isBefore, ⟨"IdealWorksModel", "isBefore", "([II[II)Z"⟩, 4, 0, 1840, 1839, 1839, 116, 0), (mm_M_rowOfLeast, ⟨"IdealWorksModel", "rowOfLeast", "()V"⟩, 0, 1, 1844, 1843, 103, 116, 0), (mm_M_entry, ⟨"IdealWorksModel", "entry", "(III)I"⟩, 3, 1, 1848, 1846, 1847, 116, 0), (mm_M_zeros, ⟨"IdealWorksModel", "zeros", "(I)I"⟩, 1, 1, 1852, 1850, 1851, 116, 0), (mm_M_valueAt, ⟨"IdealWorksModel", "valueAt", "(I)I"⟩, 1, 1, 1857, 1856, 104, 116, 0), (mm_M_zero, ⟨"IdealWorksModel", "zero", "(II)I"⟩, 2, 1, 1861, 1859, 1860, 116, 0)]
def mx_mtT : List (mx_M × MethodName × Nat × Nat × Nat × Nat × Nat × Nat × Nat) := mx_mt0 ++ (mx_mt1 ++ (mx_mt2 ++ (mx_mt3 ++ (mx_mt4 ++ (mx_mt5 ++ (mx_mt6))))))
def mx_slT : List (String × Nat × Nat × Nat) := [("IdealWorksLaw", 70, 0, 129), ("IdealWorks", 9, 1, 137), ("IdealWorks", 30, 2, 215), ("IdealWorks$Ideal", 29, 3, 222), ("IdealWorks", 37, 4, 299), ("IdealWorks", 46, 5, 345), ("IdealWorks", 53, 6, 362), ("IdealWorks", 60, 7, 397), ("IdealWorks", 67, 8, 453), ("IdealWorks", 80, 9, 483), ("IdealWorks", 306, 10, 487), ("IdealWorks$Ring", 61, 11, 493), ("IdealWorks$Ring", 67, 12, 496), ("IdealWorks$Ring", 74, 13, 500), ("IdealWorks$Ring", 71, 14, 504), ("IdealWorks$Ring", 77, 15, 508), ("IdealWorks", 309, 11, 512), ("IdealWorks", 181, 16, 513), ("IdealWorks", 315, 17, 517), ("IdealWorksLaw", 84, 18, 558), ("IdealWorks", 91, 19, 562), ("IdealWorksLaw", 89, 20, 566), ("IdealWorks", 95, 21, 570), ("IdealWorks$TextReader", 58, 11, 577), ("IdealWorksLaw", 97, 22, 578), ("IdealWorksLaw", 114, 23, 582), ("IdealWorks", 158, 24, 586), ("IdealWorks", 110, 25, 589), ("IdealWorks", 161, 26, 593), ("IdealWorks$Ring", 93, 27, 597), ("IdealWorksLaw", 118, 28, 601), ("IdealWorks", 164, 29, 605), ("IdealWorks", 168, 30, 609), ("IdealWorksLaw", 126, 31, 613), ("IdealWorks", 175, 32, 617), ("IdealWorksLaw", 148, 33, 621), ("IdealWorks", 232, 34, 625), ("IdealWorks", 241, 35, 628), ("IdealWorks$Ideal", 105, 36, 632), ("IdealWorks$Ideal", 96, 30, 636), ("IdealWorks$Ideal", 108, 37, 637), ("IdealWorks$Ideal", 57, 38, 643), ("IdealWorksLaw", 152, 39, 646), ("IdealWorks", 245, 40, 650), ("IdealWorks$Space", 109, 41, 654), ("IdealWorksLaw", 160, 42, 658), ("IdealWorksLaw", 170, 43, 662), ("IdealWorks", 292, 44, 666), ("IdealWorks$Lexicon", 131, 45, 670), ("IdealWorksLaw", 177, 46, 673), ("IdealWorks", 303, 47, 677), ("IdealWorksLaw", 74, 48, 681), ("IdealWorksLaw", 7, 49, 685), ("IdealWorks", 84, 50, 689), ("IdealWorksLaw", 93, 51, 755), ("IdealWorksLaw", 15, 52, 759), ("IdealWorks", 99, 53, 763), ("IdealWorks", 103, 54, 781), ("IdealWorks$TextReader", 64, 55, 785), ("IdealWorks$TextReader", 72, 56, 789), ("IdealWorks$TextReader", 75, 57, 793), ("IdealWorks$TextReader", 79, 58, 797), ("IdealWorks$TextReader", 94, 59, 801), ("IdealWorks$TextReader", 105, 60, 805), ("IdealWorks$TextReader", 134, 61, 809), ("IdealWorks$TextReader", 120, 62, 812), ("IdealWorks$TextReader", 109, 63, 816), ("IdealWorks$TextReader", 113, 64, 820), ("IdealWorks$TextReader", 68, 65, 824), ("IdealWorks$TextReader", 117, 66, 828), ("IdealWorks$Ring", 81, 67, 832), ("IdealWorks$TextReader", 124, 68, 835), ("IdealWorks$TextReader", 127, 69, 839), ("IdealWorks$TextReader", 137, 26, 843), ("IdealWorks$TextReader", 144, 70, 844), ("IdealWorks$TextReader", 101, 71, 848), ("IdealWorks$TextReader", 97, 72, 852), ("IdealWorks$Ring", 97, 26, 856), ("IdealWorks$TextReader", 90, 73, 857), ("IdealWorks", 107, 74, 861), ("IdealWorksLaw", 101, 75, 866), ("IdealWorksLaw", 21, 76, 869), ("IdealWorks", 126, 66, 873), ("IdealWorks", 132, 73, 874), ("IdealWorksLaw", 105, 77, 875), ("IdealWorksLaw", 25, 78, 879), ("IdealWorks", 136, 72, 883), ("IdealWorks", 143, 71, 899), ("IdealWorksLaw", 108, 79, 900), ("IdealWorksLaw", 30, 80, 903), ("IdealWorks", 147, 81, 907), ("IdealWorks", 150, 82, 911), ("IdealWorks$Ring", 87, 66, 915), ("IdealWorksLaw", 111, 83, 916), ("IdealWorksLaw", 33, 84, 919), ("IdealWorks", 154, 85, 923), ("IdealWorksLaw", 123, 86, 927), ("IdealWorksLaw", 36, 87, 930), ("IdealWorks", 172, 88, 934), ("IdealWorks$Printer", 28, 89, 938), ("IdealWorks$Printer", 32, 90, 942), ("IdealWorks$Printer", 36, 91, 946), ("IdealWorks$Printer", 42, 30, 950), ("IdealWorks$Printer", 46, 61, 951), ("IdealWorksLaw", 130, 92, 952), ("IdealWorksLaw", 39, 93, 955), ("IdealWorks", 178, 94, 959), ("IdealWorksLaw", 134, 95, 962), ("IdealWorksLaw", 43, 96, 965), ("IdealWorks", 184, 27, 969), ("IdealWorks", 190, 97, 970), ("IdealWorksLaw", 138, 98, 975), ("IdealWorksLaw", 47, 99, 978), ("IdealWorks", 194, 100, 982), ("IdealWorks$Ideal", 47, 97, 986), ("IdealWorks", 198, 101, 987), ("IdealWorksLaw", 142, 102, 991), ("IdealWorksLaw", 51, 103, 994), ("IdealWorks", 205, 104, 998), ("IdealWorks$Ideal", 63, 105, 1002), ("IdealWorks$Space", 48, 11, 1006), ("IdealWorks$Space", 54, 106, 1007), ("IdealWorks$Space", 58, 107, 1010), ("IdealWorks$Space", 84, 26, 1015), ("IdealWorks$Space", 88, 108, 1016), ("IdealWorks$Space", 62, 109, 1020), ("IdealWorks$Space", 102, 110, 1024), ("IdealWorks$Space", 95, 111, 1028), ("IdealWorks$Space", 98, 73, 1032), ("IdealWorks$Space", 106, 112, 1033), ("IdealWorks$Ring", 90, 113, 1037), ("IdealWorks$Space", 74, 114, 1041), ("IdealWorks$Ideal", 70, 115, 1044), ("IdealWorks$Ideal", 82, 41, 1048), ("IdealWorks$Ideal", 89, 116, 1049), ("IdealWorks$Ideal", 74, 117, 1053), ("IdealWorks$Ideal", 51, 26, 1057), ("IdealWorks$Ideal", 78, 118, 1058), ("IdealWorks$Ideal", 92, 119, 1062), ("IdealWorksLaw", 145, 120, 1066), ("IdealWorksLaw", 54, 121, 1069), ("IdealWorks", 226, 122, 1073), ("IdealWorksLaw", 156, 123, 1077), ("IdealWorksLaw", 57, 124, 1080), ("IdealWorks", 249, 125, 1084), ("IdealWorks", 256, 126, 1088), ("IdealWorks$Space", 113, 127, 1092), ("IdealWorks$Space", 120, 128, 1096), ("IdealWorks$Space", 126, 66, 1100), ("IdealWorks$Space", 116, 129, 1101), ("IdealWorksLaw", 164, 130, 1104), ("IdealWorksLaw", 61, 131, 1107), ("IdealWorks", 263, 117, 1111), ("IdealWorks", 266, 132, 1112), ("IdealWorks$Ring", 100, 133, 1116), ("IdealWorks$Ring", 107, 30, 1120), ("IdealWorks", 270, 134, 1121), ("IdealWorks$Ring", 104, 111, 1125), ("IdealWorks", 273, 105, 1126), ("IdealWorks", 277, 41, 1127), ("IdealWorksLaw", 167, 135, 1128), ("IdealWorksLaw", 64, 136, 1131), ("IdealWorks", 280, 137, 1135), ("IdealWorks$Quotient", 46, 138, 1139), ("IdealWorks$Packed", 15, 30, 1142), ("IdealWorks$Packed", 20, 139, 1143), ("IdealWorks$Quotient", 52, 140, 1146), ("IdealWorks$Quotient", 56, 141, 1150), ("IdealWorks$Quotient", 72, 45, 1153), ("IdealWorks$Quotient", 65, 139, 1154), ("IdealWorks$Quotient", 68, 142, 1155), ("IdealWorks$Quotient", 76, 143, 1159), ("IdealWorks$Packed", 11, 45, 1162), ("IdealWorks", 284, 144, 1163), ("IdealWorks$Quotient", 80, 145, 1167), ("IdealWorks$Quotient", 93, 146, 1171), ("IdealWorks$Quotient", 108, 147, 1174), ("IdealWorks$Quotient", 112, 148, 1178), ("IdealWorks$Packed", 24, 149, 1181), ("IdealWorks$Quotient", 84, 150, 1184), ("IdealWorks$Quotient", 87, 11, 1188), ("IdealWorks$Quotient", 97, 151, 1189), ("IdealWorks$Quotient", 129, 152, 1193), ("IdealWorks$Quotient", 133, 153, 1197), ("IdealWorks$Quotient", 136, 66, 1200), ("IdealWorks$Quotient", 101, 154, 1201), ("IdealWorks$Quotient", 120, 122, 1205), ("IdealWorks$Quotient", 126, 111, 1206), ("IdealWorks", 288, 155, 1207), ("IdealWorks$Lexicon", 68, 156, 1211), ("IdealWorks$Lexicon", 72, 157, 1215), ("IdealWorks$Lexicon", 92, 143, 1219), ("IdealWorks$Lexicon", 98, 146, 1220), ("IdealWorks$Lexicon", 76, 158, 1221), ("IdealWorks$Lexicon", 102, 11, 1225), ("IdealWorks$Lexicon", 108, 152, 1226), ("IdealWorks$Lexicon", 80, 159, 1227), ("IdealWorks$Lexicon", 118, 111, 1232), ("IdealWorks$Lexicon", 122, 153, 1233), ("IdealWorks$Lexicon", 84, 160, 1234), ("IdealWorks$Lexicon", 88, 161, 1238), ("IdealWorks$Lexicon", 125, 112, 1242), ("IdealWorks$Lexicon", 128, 139, 1243), ("IdealWorksLaw", 174, 162, 1244), ("IdealWorksLaw", 67, 163, 1247), ("IdealWorks", 296, 164, 1251), ("IdealWorks", 299, 165, 1255), ("IdealWorks$ZeroFinder", 45, 166, 1259), ("IdealWorks$ZeroFinder", 60, 167, 1263), ("IdealWorks$ZeroFinder", 64, 168, 1267), ("IdealWorks$ZeroFinder", 74, 169, 1271), ("IdealWorks$ZeroFinder", 78, 170, 1275), ("IdealWorks$ZeroFinder", 82, 171, 1279), ("IdealWorks$ZeroFinder", 70, 85, 1283), ("IdealWorksLaw", 73, 172, 1286), ("IdealWorksModel", 149, 173, 1292), ("IdealWorksModel", 170, 174, 1296), ("IdealWorksModel", 158, 175, 1300), ("IdealWorksModel", 162, 176, 1303), ("IdealWorksModel", 166, 177, 1307), ("IdealWorksLaw", 80, 178, 1513), ("IdealWorksLaw", 79, 179, 1517), ("IdealWorksModel", 190, 180, 1521), ("IdealWorksLaw", 88, 181, 1524), ("IdealWorksLaw", 92, 182, 1528), ("IdealWorksLaw", 96, 183, 1532), ("IdealWorksModel", 272, 184, 1536), ("IdealWorksModel", 263, 185, 1539), ("IdealWorksModel", 229, 186, 1543), ("IdealWorksModel", 276, 187, 1547), ("IdealWorksModel", 257, 188, 1551), ("IdealWorksModel", 219, 189, 1554), ("IdealWorksModel", 233, 190, 1557), ("IdealWorksModel", 226, 191, 1563), ("IdealWorksModel", 250, 192, 1567), ("IdealWorksModel", 260, 193, 1571), ("IdealWorksModel", 266, 194, 1575), ("IdealWorksModel", 186, 195, 1579), ("IdealWorksModel", 178, 196, 1583), ("IdealWorksModel", 236, 197, 1587), ("IdealWorksModel", 247, 198, 1591), ("IdealWorksModel", 243, 199, 1594), ("IdealWorksModel", 182, 200, 1598), ("IdealWorksModel", 240, 201, 1602), ("IdealWorksModel", 279, 202, 1606), ("IdealWorksModel", 269, 203, 1610), ("IdealWorksModel", 253, 204, 1614), ("IdealWorksModel", 282, 205, 1618), ("IdealWorksLaw", 100, 206, 1622), ("IdealWorksLaw", 104, 207, 1626), ("IdealWorksModel", 285, 208, 1630), ("IdealWorksLaw", 107, 209, 1633), ("IdealWorksLaw", 110, 210, 1637), ("IdealWorksModel", 289, 211, 1641), ("IdealWorksLaw", 113, 212, 1645), ("IdealWorksModel", 174, 213, 1649), ("IdealWorksLaw", 117, 214, 1653), ("IdealWorksLaw", 122, 215, 1657), ("IdealWorksLaw", 125, 216, 1661), ("IdealWorksModel", 292, 217, 1665), ("IdealWorksModel", 295, 218, 1669), ("IdealWorksModel", 298, 219, 1673), ("IdealWorksLaw", 129, 220, 1676), ("IdealWorksLaw", 133, 221, 1680), ("IdealWorksModel", 301, 222, 1684), ("IdealWorksModel", 304, 223, 1687), ("IdealWorksLaw", 137, 224, 1691), ("IdealWorksLaw", 141, 225, 1695), ("IdealWorksLaw", 144, 226, 1699), ("IdealWorksModel", 331, 227, 1703), ("IdealWorksModel", 322, 228, 1707), ("IdealWorksModel", 313, 229, 1711), ("IdealWorksModel", 307, 230, 1715), ("IdealWorksModel", 316, 231, 1719), ("IdealWorksModel", 334, 232, 1723), ("IdealWorksModel", 338, 233, 1727), ("IdealWorksModel", 328, 234, 1731), ("IdealWorksModel", 325, 235, 1735), ("IdealWorksLaw", 147, 236, 1739), ("IdealWorksLaw", 151, 237, 1743), ("IdealWorksModel", 344, 238, 1747), ("IdealWorksModel", 341, 239, 1751), ("IdealWorksModel", 347, 240, 1755), ("IdealWorksLaw", 155, 241, 1759), ("IdealWorksLaw", 159, 242, 1763), ("IdealWorksLaw", 163, 243, 1767), ("IdealWorksLaw", 166, 244, 1771), ("IdealWorksModel", 353, 245, 1775), ("IdealWorksLaw", 169, 246, 1779), ("IdealWorksModel", 403, 247, 1783), ("IdealWorksModel", 359, 248, 1787), ("IdealWorksModel", 365, 249, 1791), ("IdealWorksModel", 369, 250, 1795), ("IdealWorksModel", 406, 251, 1798), ("IdealWorksModel", 372, 252, 1802), ("IdealWorksModel", 375, 253, 1806), ("IdealWorksModel", 378, 254, 1810), ("IdealWorksModel", 412, 255, 1814), ("IdealWorksModel", 415, 256, 1818), ("IdealWorksModel", 418, 257, 1822), ("IdealWorksModel", 421, 258, 1826), ("IdealWorksModel", 390, 259, 1830), ("IdealWorksModel", 394, 260, 1834), ("IdealWorksModel", 397, 261, 1838), ("IdealWorksModel", 424, 262, 1841), ("IdealWorksLaw", 173, 263, 1845), ("IdealWorksLaw", 176, 264, 1849), ("IdealWorksModel", 432, 265, 1854), ("IdealWorksLaw", 180, 266, 1858)]
/-- a method link: the method's number -/
def mx_sl (own : String) (idx : Nat) : Option Nat := (mx_slT.find? (fun e => e.2.1 == idx && e.1 == own)).map (fun e => e.2.2.1)
theorem sl_W : (mx_sl "IdealWorksLaw" 70 = some j_I_init ∧ mx_sl "IdealWorksLaw" 84 = some j_I_feed ∧ mx_sl "IdealWorksLaw" 89 = some j_I_end ∧ mx_sl "IdealWorksLaw" 97 = some j_I_fault ∧ mx_sl "IdealWorksLaw" 114 = some j_I_about ∧ mx_sl "IdealWorksLaw" 118 = some j_I_term ∧ mx_sl "IdealWorksLaw" 126 = some j_I_output ∧ mx_sl "IdealWorksLaw" 148 = some j_I_ideal) ∧ (mx_sl "IdealWorksLaw" 152 = some j_I_standard ∧ mx_sl "IdealWorksLaw" 160 = some j_I_proved ∧ mx_sl "IdealWorksLaw" 170 = some j_I_entry ∧ mx_sl "IdealWorksLaw" 177 = some j_I_zero ∧ mx_sl "IdealWorksLaw" 74 = some j_W_field ∧ mx_sl "IdealWorksLaw" 7 = some j_I_field ∧ mx_sl "IdealWorksLaw" 93 = some j_W_read ∧ mx_sl "IdealWorksLaw" 15 = some j_I_read) ∧ (mx_sl "IdealWorksLaw" 101 = some j_W_add ∧ mx_sl "IdealWorksLaw" 21 = some j_I_add ∧ mx_sl "IdealWorksLaw" 105 = some j_W_multiply ∧ mx_sl "IdealWorksLaw" 25 = some j_I_multiply ∧ mx_sl "IdealWorksLaw" 108 = some j_W_derive ∧ mx_sl "IdealWorksLaw" 30 = some j_I_derive ∧ mx_sl "IdealWorksLaw" 111 = some j_W_put ∧ mx_sl "IdealWorksLaw" 33 = some j_I_put) ∧ (mx_sl "IdealWorksLaw" 123 = some j_W_print ∧ mx_sl "IdealWorksLaw" 36 = some j_I_print ∧ mx_sl "IdealWorksLaw" 130 = some j_W_clear ∧ mx_sl "IdealWorksLaw" 39 = some j_I_clear ∧ mx_sl "IdealWorksLaw" 134 = some j_W_join ∧ mx_sl "IdealWorksLaw" 43 = some j_I_join ∧ mx_sl "IdealWorksLaw" 138 = some j_W_both ∧ mx_sl "IdealWorksLaw" 47 = some j_I_both) ∧ (mx_sl "IdealWorksLaw" 142 = some j_W_basis ∧ mx_sl "IdealWorksLaw" 51 = some j_I_basis ∧ mx_sl "IdealWorksLaw" 145 = some j_W_element ∧ mx_sl "IdealWorksLaw" 54 = some j_I_element ∧ mx_sl "IdealWorksLaw" 156 = some j_W_remainder ∧ mx_sl "IdealWorksLaw" 57 = some j_I_remainder ∧ mx_sl "IdealWorksLaw" 164 = some j_W_radical ∧ mx_sl "IdealWorksLaw" 61 = some j_I_radical) ∧ (mx_sl "IdealWorksLaw" 167 = some j_W_dictionary ∧ mx_sl "IdealWorksLaw" 64 = some j_I_dictionary ∧ mx_sl "IdealWorksLaw" 174 = some j_W_zeros ∧ mx_sl "IdealWorksLaw" 67 = some j_I_zeros ∧ mx_sl "IdealWorksLaw" 73 = some j_M_init ∧ mx_sl "IdealWorksLaw" 80 = some j_M_thrown ∧ mx_sl "IdealWorksLaw" 79 = some j_M_field ∧ mx_sl "IdealWorksLaw" 88 = some j_M_feed) ∧ (mx_sl "IdealWorksLaw" 92 = some j_M_end ∧ mx_sl "IdealWorksLaw" 96 = some j_M_read ∧ mx_sl "IdealWorksLaw" 100 = some j_M_fault ∧ mx_sl "IdealWorksLaw" 104 = some j_M_add ∧ mx_sl "IdealWorksLaw" 107 = some j_M_multiply ∧ mx_sl "IdealWorksLaw" 110 = some j_M_derive ∧ mx_sl "IdealWorksLaw" 113 = some j_M_put ∧ mx_sl "IdealWorksLaw" 117 = some j_M_about) ∧ (mx_sl "IdealWorksLaw" 122 = some j_M_term ∧ mx_sl "IdealWorksLaw" 125 = some j_M_print ∧ mx_sl "IdealWorksLaw" 129 = some j_M_output ∧ mx_sl "IdealWorksLaw" 133 = some j_M_clear ∧ mx_sl "IdealWorksLaw" 137 = some j_M_join ∧ mx_sl "IdealWorksLaw" 141 = some j_M_both ∧ mx_sl "IdealWorksLaw" 144 = some j_M_basis ∧ mx_sl "IdealWorksLaw" 147 = some j_M_element) ∧ (mx_sl "IdealWorksLaw" 151 = some j_M_ideal ∧ mx_sl "IdealWorksLaw" 155 = some j_M_standard ∧ mx_sl "IdealWorksLaw" 159 = some j_M_remainder ∧ mx_sl "IdealWorksLaw" 163 = some j_M_proved ∧ mx_sl "IdealWorksLaw" 166 = some j_M_radical ∧ mx_sl "IdealWorksLaw" 169 = some j_M_dictionary ∧ mx_sl "IdealWorksLaw" 173 = some j_M_entry ∧ mx_sl "IdealWorksLaw" 176 = some j_M_zeros) ∧ (mx_sl "IdealWorksLaw" 180 = some j_M_zero) := ⟨by decide +kernel, by decide +kernel, by decide +kernel, by decide +kernel, by decide +kernel, by decide +kernel, by decide +kernel, by decide +kernel, by decide +kernel, by decide +kernel⟩
theorem sl_I : (mx_sl "IdealWorks" 9 = some j_Ring_init ∧ mx_sl "IdealWorks" 30 = some j_Ideal_init ∧ mx_sl "IdealWorks" 37 = some j_TextReader_init ∧ mx_sl "IdealWorks" 46 = some j_Printer_init ∧ mx_sl "IdealWorks" 53 = some j_Quotient_init ∧ mx_sl "IdealWorks" 60 = some j_Lexicon_init ∧ mx_sl "IdealWorks" 67 = some j_ZeroFinder_init ∧ mx_sl "IdealWorks" 80 = some j_I_beginAnew) ∧ (mx_sl "IdealWorks" 306 = some j_Ring_lay ∧ mx_sl "IdealWorks" 309 = some j_Arrays_fill ∧ mx_sl "IdealWorks" 181 = some j_Ideal_forget ∧ mx_sl "IdealWorks" 315 = some j_Printer_forget ∧ mx_sl "IdealWorks" 91 = some j_TextReader_makeReady ∧ mx_sl "IdealWorks" 95 = some j_TextReader_lengthen ∧ mx_sl "IdealWorks" 158 = some j_I_isPolynomial ∧ mx_sl "IdealWorks" 110 = some j_Ring_termsOf) ∧ (mx_sl "IdealWorks" 161 = some j_Ring_degreeOf ∧ mx_sl "IdealWorks" 164 = some j_Ring_monomialOfTerm ∧ mx_sl "IdealWorks" 168 = some j_Ring_exponentOf ∧ mx_sl "IdealWorks" 175 = some j_Printer_byteAt ∧ mx_sl "IdealWorks" 232 = some j_I_isIdeal ∧ mx_sl "IdealWorks" 241 = some j_Ideal_dimension ∧ mx_sl "IdealWorks" 245 = some j_Space_gapsOfDegree ∧ mx_sl "IdealWorks" 292 = some j_Lexicon_look) ∧ (mx_sl "IdealWorks" 303 = some j_ZeroFinder_coordinate ∧ mx_sl "IdealWorks" 84 = some j_I_isPrime ∧ mx_sl "IdealWorks" 99 = some j_I_needPolynomial ∧ mx_sl "IdealWorks" 103 = some j_TextReader_understand ∧ mx_sl "IdealWorks" 107 = some j_I_keepResult ∧ mx_sl "IdealWorks" 126 = some j_Ring_residue ∧ mx_sl "IdealWorks" 132 = some j_Ring_addMultiple ∧ mx_sl "IdealWorks" 136 = some j_Ring_productFits) ∧ (mx_sl "IdealWorks" 143 = some j_Ring_productInto ∧ mx_sl "IdealWorks" 147 = some j_I_needVariable ∧ mx_sl "IdealWorks" 150 = some j_Ring_derivativeInto ∧ mx_sl "IdealWorks" 154 = some j_Ring_substituteInto ∧ mx_sl "IdealWorks" 172 = some j_Printer_write ∧ mx_sl "IdealWorks" 178 = some j_I_needIdeal ∧ mx_sl "IdealWorks" 184 = some j_Ring_topOf ∧ mx_sl "IdealWorks" 190 = some j_Ideal_append) ∧ (mx_sl "IdealWorks" 194 = some j_Ideal_appendAll ∧ mx_sl "IdealWorks" 198 = some j_I_draftProducts ∧ mx_sl "IdealWorks" 205 = some j_Ideal_findBasis ∧ mx_sl "IdealWorks" 226 = some j_Space_reducedInto ∧ mx_sl "IdealWorks" 249 = some j_Space_remainderInto ∧ mx_sl "IdealWorks" 256 = some j_Space_proves ∧ mx_sl "IdealWorks" 263 = some j_Ideal_greatestDegree ∧ mx_sl "IdealWorks" 266 = some j_Ring_widenInto) ∧ (mx_sl "IdealWorks" 270 = some j_Ring_inverterInto ∧ mx_sl "IdealWorks" 273 = some j_Space_build ∧ mx_sl "IdealWorks" 277 = some j_Space_isLead ∧ mx_sl "IdealWorks" 280 = some j_Quotient_gather ∧ mx_sl "IdealWorks" 284 = some j_Quotient_findForms ∧ mx_sl "IdealWorks" 288 = some j_Lexicon_compile ∧ mx_sl "IdealWorks" 296 = some j_Ring_points ∧ mx_sl "IdealWorks" 299 = some j_ZeroFinder_search) := ⟨by decide +kernel, by decide +kernel, by decide +kernel, by decide +kernel, by decide +kernel, by decide +kernel, by decide +kernel⟩
theorem sl_Ideal : (mx_sl "IdealWorks$Ideal" 29 = some j_Space_init ∧ mx_sl "IdealWorks$Ideal" 105 = some j_Ideal_isFree ∧ mx_sl "IdealWorks$Ideal" 96 = some j_Ring_exponentOf ∧ mx_sl "IdealWorks$Ideal" 108 = some j_Integer_bitCount ∧ mx_sl "IdealWorks$Ideal" 57 = some j_Math_max ∧ mx_sl "IdealWorks$Ideal" 47 = some j_Ideal_append ∧ mx_sl "IdealWorks$Ideal" 63 = some j_Space_build ∧ mx_sl "IdealWorks$Ideal" 70 = some j_Ideal_isCorner) ∧ (mx_sl "IdealWorks$Ideal" 82 = some j_Space_isLead ∧ mx_sl "IdealWorks$Ideal" 89 = some j_Ring_below ∧ mx_sl "IdealWorks$Ideal" 74 = some j_Ideal_greatestDegree ∧ mx_sl "IdealWorks$Ideal" 51 = some j_Ring_degreeOf ∧ mx_sl "IdealWorks$Ideal" 78 = some j_Ideal_pairsAreLow ∧ mx_sl "IdealWorks$Ideal" 92 = some j_Ideal_isLowPair) := ⟨by decide +kernel, by decide +kernel⟩
theorem sl_Ring : (mx_sl "IdealWorks$Ring" 61 = some j_Arrays_fill ∧ mx_sl "IdealWorks$Ring" 67 = some j_Ring_layDegree ∧ mx_sl "IdealWorks$Ring" 74 = some j_Ring_layMonomial ∧ mx_sl "IdealWorks$Ring" 71 = some j_Ring_linkNeighbours ∧ mx_sl "IdealWorks$Ring" 77 = some j_Ring_placeOf ∧ mx_sl "IdealWorks$Ring" 93 = some j_Ring_topOf ∧ mx_sl "IdealWorks$Ring" 81 = some j_Math_floorMod ∧ mx_sl "IdealWorks$Ring" 97 = some j_Ring_degreeOf) ∧ (mx_sl "IdealWorks$Ring" 87 = some j_Ring_residue ∧ mx_sl "IdealWorks$Ring" 90 = some j_Ring_power ∧ mx_sl "IdealWorks$Ring" 100 = some j_Ring_codeOf ∧ mx_sl "IdealWorks$Ring" 107 = some j_Ring_exponentOf ∧ mx_sl "IdealWorks$Ring" 104 = some j_Ring_negative) := ⟨by decide +kernel, by decide +kernel⟩
theorem sl_TextReader : (mx_sl "IdealWorks$TextReader" 58 = some j_Arrays_fill ∧ mx_sl "IdealWorks$TextReader" 64 = some j_TextReader_takeSum ∧ mx_sl "IdealWorks$TextReader" 72 = some j_TextReader_skipSpaces ∧ mx_sl "IdealWorks$TextReader" 75 = some j_TextReader_isNext ∧ mx_sl "IdealWorks$TextReader" 79 = some j_TextReader_takeTerm ∧ mx_sl "IdealWorks$TextReader" 94 = some j_TextReader_takeFactor ∧ mx_sl "IdealWorks$TextReader" 105 = some j_TextReader_variableNext ∧ mx_sl "IdealWorks$TextReader" 134 = some j_TextReader_letterOf) ∧ (mx_sl "IdealWorks$TextReader" 120 = some j_Ring_above ∧ mx_sl "IdealWorks$TextReader" 109 = some j_TextReader_isDigitNext ∧ mx_sl "IdealWorks$TextReader" 113 = some j_TextReader_takeNumber ∧ mx_sl "IdealWorks$TextReader" 68 = some j_TextReader_blame ∧ mx_sl "IdealWorks$TextReader" 117 = some j_Ring_residue ∧ mx_sl "IdealWorks$TextReader" 124 = some j_TextReader_takeBrackets ∧ mx_sl "IdealWorks$TextReader" 127 = some j_TextReader_takePower ∧ mx_sl "IdealWorks$TextReader" 137 = some j_Ring_degreeOf) ∧ (mx_sl "IdealWorks$TextReader" 144 = some j_TextReader_raise ∧ mx_sl "IdealWorks$TextReader" 101 = some j_Ring_productInto ∧ mx_sl "IdealWorks$TextReader" 97 = some j_Ring_productFits ∧ mx_sl "IdealWorks$TextReader" 90 = some j_Ring_addMultiple) := ⟨by decide +kernel, by decide +kernel, by decide +kernel⟩
theorem sl_Space : (mx_sl "IdealWorks$Space" 109 = some j_Space_isLead ∧ mx_sl "IdealWorks$Space" 48 = some j_Arrays_fill ∧ mx_sl "IdealWorks$Space" 54 = some j_Space_sourceOfGenerator ∧ mx_sl "IdealWorks$Space" 58 = some j_Space_loadSource ∧ mx_sl "IdealWorks$Space" 84 = some j_Ring_degreeOf ∧ mx_sl "IdealWorks$Space" 88 = some j_Ring_raisedInto ∧ mx_sl "IdealWorks$Space" 62 = some j_Space_takeIn ∧ mx_sl "IdealWorks$Space" 102 = some j_Space_reduce) ∧ (mx_sl "IdealWorks$Space" 95 = some j_Ring_negative ∧ mx_sl "IdealWorks$Space" 98 = some j_Ring_addMultiple ∧ mx_sl "IdealWorks$Space" 106 = some j_Ring_inverse ∧ mx_sl "IdealWorks$Space" 74 = some j_Space_sourceOfProduct ∧ mx_sl "IdealWorks$Space" 113 = some j_Space_checkUpTo ∧ mx_sl "IdealWorks$Space" 120 = some j_Space_isAsTold ∧ mx_sl "IdealWorks$Space" 126 = some j_Ring_residue ∧ mx_sl "IdealWorks$Space" 116 = some j_Space_same) := ⟨by decide +kernel, by decide +kernel⟩
theorem sl_Lexicon : (mx_sl "IdealWorks$Lexicon" 131 = some j_Packed_exponent ∧ mx_sl "IdealWorks$Lexicon" 68 = some j_Lexicon_takeLeast ∧ mx_sl "IdealWorks$Lexicon" 72 = some j_Lexicon_isDone ∧ mx_sl "IdealWorks$Lexicon" 92 = some j_Packed_divides ∧ mx_sl "IdealWorks$Lexicon" 98 = some j_Packed_find ∧ mx_sl "IdealWorks$Lexicon" 76 = some j_Lexicon_loadRow ∧ mx_sl "IdealWorks$Lexicon" 102 = some j_Arrays_fill ∧ mx_sl "IdealWorks$Lexicon" 108 = some j_Quotient_timesInto) ∧ (mx_sl "IdealWorks$Lexicon" 80 = some j_Lexicon_eliminate ∧ mx_sl "IdealWorks$Lexicon" 118 = some j_Ring_negative ∧ mx_sl "IdealWorks$Lexicon" 122 = some j_Quotient_addRow ∧ mx_sl "IdealWorks$Lexicon" 84 = some j_Lexicon_keepHead ∧ mx_sl "IdealWorks$Lexicon" 88 = some j_Lexicon_keepSmall ∧ mx_sl "IdealWorks$Lexicon" 125 = some j_Ring_inverse ∧ mx_sl "IdealWorks$Lexicon" 128 = some j_Packed_variable) := ⟨by decide +kernel, by decide +kernel⟩
theorem sl_Printer : mx_sl "IdealWorks$Printer" 28 = some j_Printer_writeTerm ∧ mx_sl "IdealWorks$Printer" 32 = some j_Printer_writeByte ∧ mx_sl "IdealWorks$Printer" 36 = some j_Printer_writeNumber ∧ mx_sl "IdealWorks$Printer" 42 = some j_Ring_exponentOf ∧ mx_sl "IdealWorks$Printer" 46 = some j_TextReader_letterOf := by decide +kernel
theorem sl_Quotient : (mx_sl "IdealWorks$Quotient" 46 = some j_Packed_pack ∧ mx_sl "IdealWorks$Quotient" 52 = some j_Quotient_gatherAbove ∧ mx_sl "IdealWorks$Quotient" 56 = some j_Quotient_lastVariable ∧ mx_sl "IdealWorks$Quotient" 72 = some j_Packed_exponent ∧ mx_sl "IdealWorks$Quotient" 65 = some j_Packed_variable ∧ mx_sl "IdealWorks$Quotient" 68 = some j_Quotient_isStandard ∧ mx_sl "IdealWorks$Quotient" 76 = some j_Packed_divides ∧ mx_sl "IdealWorks$Quotient" 80 = some j_Quotient_gatherBorder) ∧ (mx_sl "IdealWorks$Quotient" 93 = some j_Packed_find ∧ mx_sl "IdealWorks$Quotient" 108 = some j_Quotient_insert ∧ mx_sl "IdealWorks$Quotient" 112 = some j_Packed_isLess ∧ mx_sl "IdealWorks$Quotient" 84 = some j_Quotient_findProducts ∧ mx_sl "IdealWorks$Quotient" 87 = some j_Arrays_fill ∧ mx_sl "IdealWorks$Quotient" 97 = some j_Quotient_formFromBelow ∧ mx_sl "IdealWorks$Quotient" 129 = some j_Quotient_timesInto ∧ mx_sl "IdealWorks$Quotient" 133 = some j_Quotient_addRow) ∧ (mx_sl "IdealWorks$Quotient" 136 = some j_Ring_residue ∧ mx_sl "IdealWorks$Quotient" 101 = some j_Quotient_formFromBasis ∧ mx_sl "IdealWorks$Quotient" 120 = some j_Space_reducedInto ∧ mx_sl "IdealWorks$Quotient" 126 = some j_Ring_negative) := ⟨by decide +kernel, by decide +kernel, by decide +kernel⟩
theorem sl_Packed : mx_sl "IdealWorks$Packed" 15 = some j_Ring_exponentOf ∧ mx_sl "IdealWorks$Packed" 20 = some j_Packed_variable ∧ mx_sl "IdealWorks$Packed" 11 = some j_Packed_exponent ∧ mx_sl "IdealWorks$Packed" 24 = some j_Packed_degree := by decide +kernel
theorem sl_ZeroFinder : mx_sl "IdealWorks$ZeroFinder" 45 = some j_Math_min ∧ mx_sl "IdealWorks$ZeroFinder" 60 = some j_ZeroFinder_searchFrom ∧ mx_sl "IdealWorks$ZeroFinder" 64 = some j_ZeroFinder_searchLine ∧ mx_sl "IdealWorks$ZeroFinder" 74 = some j_Ring_lineInto ∧ mx_sl "IdealWorks$ZeroFinder" 78 = some j_ZeroFinder_isZeroOfLines ∧ mx_sl "IdealWorks$ZeroFinder" 82 = some j_ZeroFinder_keepPoint ∧ mx_sl "IdealWorks$ZeroFinder" 70 = some j_Ring_substituteInto := by decide +kernel
theorem sl_M : (mx_sl "IdealWorksModel" 149 = some j_M_make ∧ mx_sl "IdealWorksModel" 170 = some j_M_list ∧ mx_sl "IdealWorksModel" 158 = some j_M_highest ∧ mx_sl "IdealWorksModel" 162 = some j_M_isLess ∧ mx_sl "IdealWorksModel" 166 = some j_M_key ∧ mx_sl "IdealWorksModel" 190 = some j_M_isPrime ∧ mx_sl "IdealWorksModel" 272 = some j_M_isNumber ∧ mx_sl "IdealWorksModel" 263 = some j_M_openSum) ∧ (mx_sl "IdealWorksModel" 229 = some j_M_here ∧ mx_sl "IdealWorksModel" 276 = some j_M_readFactor ∧ mx_sl "IdealWorksModel" 257 = some j_M_variableOf ∧ mx_sl "IdealWorksModel" 219 = some j_M_isDigit ∧ mx_sl "IdealWorksModel" 233 = some j_M_digits ∧ mx_sl "IdealWorksModel" 226 = some j_M_wrong ∧ mx_sl "IdealWorksModel" 250 = some j_M_constant ∧ mx_sl "IdealWorksModel" 260 = some j_M_variable) ∧ (mx_sl "IdealWorksModel" 266 = some j_M_takeFactor ∧ mx_sl "IdealWorksModel" 186 = some j_M_degree ∧ mx_sl "IdealWorksModel" 178 = some j_M_lead ∧ mx_sl "IdealWorksModel" 236 = some j_M_raise ∧ mx_sl "IdealWorksModel" 247 = some j_M_copy ∧ mx_sl "IdealWorksModel" 243 = some j_M_product ∧ mx_sl "IdealWorksModel" 182 = some j_M_times ∧ mx_sl "IdealWorksModel" 240 = some j_M_fits) ∧ (mx_sl "IdealWorksModel" 279 = some j_M_readSign ∧ mx_sl "IdealWorksModel" 269 = some j_M_endTerm ∧ mx_sl "IdealWorksModel" 253 = some j_M_mod ∧ mx_sl "IdealWorksModel" 282 = some j_M_termsOf ∧ mx_sl "IdealWorksModel" 285 = some j_M_areThree ∧ mx_sl "IdealWorksModel" 289 = some j_M_changed ∧ mx_sl "IdealWorksModel" 174 = some j_M_power ∧ mx_sl "IdealWorksModel" 292 = some j_M_write) ∧ (mx_sl "IdealWorksModel" 295 = some j_M_writeNumber ∧ mx_sl "IdealWorksModel" 298 = some j_M_letter ∧ mx_sl "IdealWorksModel" 301 = some j_M_isIdeal ∧ mx_sl "IdealWorksModel" 304 = some j_M_gone ∧ mx_sl "IdealWorksModel" 331 = some j_M_emptySpace ∧ mx_sl "IdealWorksModel" 322 = some j_M_insert ∧ mx_sl "IdealWorksModel" 313 = some j_M_reduce ∧ mx_sl "IdealWorksModel" 307 = some j_M_rowAt) ∧ (mx_sl "IdealWorksModel" 316 = some j_M_inverse ∧ mx_sl "IdealWorksModel" 334 = some j_M_grow ∧ mx_sl "IdealWorksModel" 338 = some j_M_basisMany ∧ mx_sl "IdealWorksModel" 328 = some j_M_isBasic ∧ mx_sl "IdealWorksModel" 325 = some j_M_divides ∧ mx_sl "IdealWorksModel" 344 = some j_M_isComplete ∧ mx_sl "IdealWorksModel" 341 = some j_M_commonDegree ∧ mx_sl "IdealWorksModel" 347 = some j_M_dimension) ∧ (mx_sl "IdealWorksModel" 353 = some j_M_wider ∧ mx_sl "IdealWorksModel" 403 = some j_M_listPlain ∧ mx_sl "IdealWorksModel" 359 = some j_M_pure ∧ mx_sl "IdealWorksModel" 365 = some j_M_isMultiple ∧ mx_sl "IdealWorksModel" 369 = some j_M_copyFour ∧ mx_sl "IdealWorksModel" 406 = some j_M_multiplyAll ∧ mx_sl "IdealWorksModel" 372 = some j_M_multiplyOne ∧ mx_sl "IdealWorksModel" 375 = some j_M_plainOf) ∧ (mx_sl "IdealWorksModel" 378 = some j_M_productAt ∧ mx_sl "IdealWorksModel" 412 = some j_M_depends ∧ mx_sl "IdealWorksModel" 415 = some j_M_copyRow ∧ mx_sl "IdealWorksModel" 418 = some j_M_addFound ∧ mx_sl "IdealWorksModel" 421 = some j_M_nextOne ∧ mx_sl "IdealWorksModel" 390 = some j_M_isFound ∧ mx_sl "IdealWorksModel" 394 = some j_M_isEntered ∧ mx_sl "IdealWorksModel" 397 = some j_M_isBefore) ∧ (mx_sl "IdealWorksModel" 424 = some j_M_rowOfLeast ∧ mx_sl "IdealWorksModel" 432 = some j_M_valueAt) := ⟨by decide +kernel, by decide +kernel, by decide +kernel, by decide +kernel, by decide +kernel, by decide +kernel, by decide +kernel, by decide +kernel, by decide +kernel⟩
/-- the sort of a field agrees with its type -/
def mx_tg (t : Nat) (ty : FieldType) (rf fin : Bool) : Bool := match ty with
  | .int => (t % 10 == 0) && !rf && ((t / 10 == 1) == fin)
  | .boolean => (t % 10 == 1) && !rf && ((t / 10 == 1) == fin)
  | .array _ => (t % 10 == 2) && rf && ((t / 10 == 1) == fin)
  | .object _ => (t % 10 == 2) && rf && ((t / 10 == 1) == fin)
  | _ => false
theorem mx_flT_tg : ∀ e ∈ mx_flT, mx_tg e.2.2.2.2.1 (mx_Y e.2.2.1 e.2.2.2.1) (mx_rf e.2.2.1 e.2.2.2.1) (mx_T e.2.2.1 e.2.2.2.1).2.2.2 = true ∧ e.2.2.1 < 10 ∧ ((mx_cl[e.2.2.1]?).map (fun r => decide (e.2.2.2.1 < r.2.2))) = some true := by decide +kernel
theorem mx_cl_T : ∀ c, c < 10 → (mx_cl[c]?).map (fun r => r.1) = some (mx_T c 0).1 ∧ ∃ r, mx_cl[c]? = some r ∧ r.2.1 = mx_T c := fun c hc => match c, hc with
  | 0, _ => ⟨rfl, _, rfl, rfl⟩
  | 1, _ => ⟨rfl, _, rfl, rfl⟩
  | 2, _ => ⟨rfl, _, rfl, rfl⟩
  | 3, _ => ⟨rfl, _, rfl, rfl⟩
  | 4, _ => ⟨rfl, _, rfl, rfl⟩
  | 5, _ => ⟨rfl, _, rfl, rfl⟩
  | 6, _ => ⟨rfl, _, rfl, rfl⟩
  | 7, _ => ⟨rfl, _, rfl, rfl⟩
  | 8, _ => ⟨rfl, _, rfl, rfl⟩
  | 9, _ => ⟨rfl, _, rfl, rfl⟩
theorem mx_in0 : ∀ w ∈ u_ws "IdealWorks$Ideal" mx_T0 7, w ∈ lw_tbl := by decide +kernel
theorem mx_ok0 : ∀ k, k < 7 → parseFieldDescriptor (mx_T0 k).2.2.1 = some (mx_Y0 k) := by decide +kernel
theorem mx_nm0 : ∀ a, a < 7 → ∀ b, b < 7 → a ≠ b → (mx_T0 a).2.1 ≠ (mx_T0 b).2.1 := by decide +kernel
theorem mx_in1 : ∀ w ∈ u_ws "IdealWorks$Lexicon" mx_T1 16, w ∈ lw_tbl := by decide +kernel
theorem mx_ok1 : ∀ k, k < 16 → parseFieldDescriptor (mx_T1 k).2.2.1 = some (mx_Y1 k) := by decide +kernel
theorem mx_nm1 : ∀ a, a < 16 → ∀ b, b < 16 → a ≠ b → (mx_T1 a).2.1 ≠ (mx_T1 b).2.1 := by decide +kernel
theorem mx_in2 : ∀ w ∈ u_ws "IdealWorks$Printer" mx_T2 3, w ∈ lw_tbl := by decide +kernel
theorem mx_ok2 : ∀ k, k < 3 → parseFieldDescriptor (mx_T2 k).2.2.1 = some (mx_Y2 k) := by decide +kernel
theorem mx_nm2 : ∀ a, a < 3 → ∀ b, b < 3 → a ≠ b → (mx_T2 a).2.1 ≠ (mx_T2 b).2.1 := by decide +kernel
theorem mx_in3 : ∀ w ∈ u_ws "IdealWorks$Quotient" mx_T3 9, w ∈ lw_tbl := by decide +kernel
theorem mx_ok3 : ∀ k, k < 9 → parseFieldDescriptor (mx_T3 k).2.2.1 = some (mx_Y3 k) := by decide +kernel
theorem mx_nm3 : ∀ a, a < 9 → ∀ b, b < 9 → a ≠ b → (mx_T3 a).2.1 ≠ (mx_T3 b).2.1 := by decide +kernel
theorem mx_in4 : ∀ w ∈ u_ws "IdealWorks$Ring" mx_T4 15, w ∈ lw_tbl := by decide +kernel
theorem mx_ok4 : ∀ k, k < 15 → parseFieldDescriptor (mx_T4 k).2.2.1 = some (mx_Y4 k) := by decide +kernel
theorem mx_nm4 : ∀ a, a < 15 → ∀ b, b < 15 → a ≠ b → (mx_T4 a).2.1 ≠ (mx_T4 b).2.1 := by decide +kernel
theorem mx_in5 : ∀ w ∈ u_ws "IdealWorks$Space" mx_T5 11, w ∈ lw_tbl := by decide +kernel
theorem mx_ok5 : ∀ k, k < 11 → parseFieldDescriptor (mx_T5 k).2.2.1 = some (mx_Y5 k) := by decide +kernel
theorem mx_nm5 : ∀ a, a < 11 → ∀ b, b < 11 → a ≠ b → (mx_T5 a).2.1 ≠ (mx_T5 b).2.1 := by decide +kernel
theorem mx_in6 : ∀ w ∈ u_ws "IdealWorks$TextReader" mx_T6 12, w ∈ lw_tbl := by decide +kernel
theorem mx_ok6 : ∀ k, k < 12 → parseFieldDescriptor (mx_T6 k).2.2.1 = some (mx_Y6 k) := by decide +kernel
theorem mx_nm6 : ∀ a, a < 12 → ∀ b, b < 12 → a ≠ b → (mx_T6 a).2.1 ≠ (mx_T6 b).2.1 := by decide +kernel
theorem mx_in7 : ∀ w ∈ u_ws "IdealWorks$ZeroFinder" mx_T7 8, w ∈ lw_tbl := by decide +kernel
theorem mx_ok7 : ∀ k, k < 8 → parseFieldDescriptor (mx_T7 k).2.2.1 = some (mx_Y7 k) := by decide +kernel
theorem mx_nm7 : ∀ a, a < 8 → ∀ b, b < 8 → a ≠ b → (mx_T7 a).2.1 ≠ (mx_T7 b).2.1 := by decide +kernel
theorem mx_in8 : ∀ w ∈ u_ws "IdealWorks" mx_T8 12, w ∈ lw_tbl := by decide +kernel
theorem mx_ok8 : ∀ k, k < 12 → parseFieldDescriptor (mx_T8 k).2.2.1 = some (mx_Y8 k) := by decide +kernel
theorem mx_nm8 : ∀ a, a < 12 → ∀ b, b < 12 → a ≠ b → (mx_T8 a).2.1 ≠ (mx_T8 b).2.1 := by decide +kernel
theorem mx_in9 : ∀ w ∈ u_ws "IdealWorksModel" mx_T9 67, w ∈ lw_tbl := by decide +kernel
theorem mx_ok9 : ∀ k, k < 67 → parseFieldDescriptor (mx_T9 k).2.2.1 = some (mx_Y9 k) := by decide +kernel
theorem mx_nm9 : ∀ a, a < 67 → ∀ b, b < 67 → a ≠ b → (mx_T9 a).2.1 ≠ (mx_T9 b).2.1 := by decide +kernel
theorem mx_in (c : Nat) (r : vw_C) (h : mx_cl[c]? = some r) : ∀ w ∈ u_ws r.1 r.2.1 r.2.2, w ∈ lw_tbl := match c, h with
  | 0, h => by cases h; exact mx_in0
  | 1, h => by cases h; exact mx_in1
  | 2, h => by cases h; exact mx_in2
  | 3, h => by cases h; exact mx_in3
  | 4, h => by cases h; exact mx_in4
  | 5, h => by cases h; exact mx_in5
  | 6, h => by cases h; exact mx_in6
  | 7, h => by cases h; exact mx_in7
  | 8, h => by cases h; exact mx_in8
  | 9, h => by cases h; exact mx_in9
theorem mx_ok (c : Nat) (r : vw_C) (h : mx_cl[c]? = some r) : ∀ k, k < r.2.2 → parseFieldDescriptor (r.2.1 k).2.2.1 = some (mx_Y c k) := match c, h with
  | 0, h => by cases h; exact mx_ok0
  | 1, h => by cases h; exact mx_ok1
  | 2, h => by cases h; exact mx_ok2
  | 3, h => by cases h; exact mx_ok3
  | 4, h => by cases h; exact mx_ok4
  | 5, h => by cases h; exact mx_ok5
  | 6, h => by cases h; exact mx_ok6
  | 7, h => by cases h; exact mx_ok7
  | 8, h => by cases h; exact mx_ok8
  | 9, h => by cases h; exact mx_ok9
theorem mx_nm (c : Nat) (r : vw_C) (h : mx_cl[c]? = some r) : ∀ a, a < r.2.2 → ∀ b, b < r.2.2 → a ≠ b → (r.2.1 a).2.1 ≠ (r.2.1 b).2.1 := match c, h with
  | 0, h => by cases h; exact mx_nm0
  | 1, h => by cases h; exact mx_nm1
  | 2, h => by cases h; exact mx_nm2
  | 3, h => by cases h; exact mx_nm3
  | 4, h => by cases h; exact mx_nm4
  | 5, h => by cases h; exact mx_nm5
  | 6, h => by cases h; exact mx_nm6
  | 7, h => by cases h; exact mx_nm7
  | 8, h => by cases h; exact mx_nm8
  | 9, h => by cases h; exact mx_nm9
theorem mx_flT_ok : ∀ e ∈ mx_flT, lw_tbl[e.2.2.2.2.2]? = some (.fieldLink e.1 e.2.1 (mx_T e.2.2.1 e.2.2.2.1).1 (mx_T e.2.2.1 e.2.2.2.1).2.1 (mx_T e.2.2.1 e.2.2.2.1).2.2.1) := by decide +kernel
def mx_cnT : List (String × Nat × Nat × Nat × Nat × Nat × Nat) := [("IdealWorksLaw", 8, 8, 12, 127, 128, 106), ("IdealWorks", 7, 4, 15, 135, 136, 107), ("IdealWorks", 24, 0, 7, 212, 214, 108), ("IdealWorks$Ideal", 27, 5, 11, 220, 221, 109), ("IdealWorks", 35, 6, 12, 297, 298, 110), ("IdealWorks", 44, 2, 3, 343, 344, 111), ("IdealWorks", 51, 3, 9, 360, 361, 112), ("IdealWorks", 58, 1, 16, 395, 396, 113), ("IdealWorks", 65, 7, 8, 451, 452, 114), ("IdealWorksLaw", 71, 9, 67, 1284, 1285, 116)]
/-- a class link: the class, how many fields -/
def mx_cn (own : String) (idx : Nat) : Option (Nat × Nat) := (mx_cnT.find? (fun e => e.2.1 == idx && e.1 == own)).map (fun e => (e.2.2.1, e.2.2.2.1))
theorem mx_cn_r : (mx_cn "IdealWorksLaw" 8 = some (8, 12) ∧ mx_cn "IdealWorks" 7 = some (4, 15) ∧ mx_cn "IdealWorks" 24 = some (0, 7) ∧ mx_cn "IdealWorks$Ideal" 27 = some (5, 11) ∧ mx_cn "IdealWorks" 35 = some (6, 12) ∧ mx_cn "IdealWorks" 44 = some (2, 3) ∧ mx_cn "IdealWorks" 51 = some (3, 9) ∧ mx_cn "IdealWorks" 58 = some (1, 16)) ∧ (mx_cn "IdealWorks" 65 = some (7, 8) ∧ mx_cn "IdealWorksLaw" 71 = some (9, 67)) := ⟨by decide +kernel, by decide +kernel⟩
theorem mx_cnT_ok : ∀ e ∈ mx_cnT, lw_tbl[e.2.2.2.2.1]? = some (.classLink e.1 e.2.1 (mx_T e.2.2.1 0).1) ∧ lw_tbl[e.2.2.2.2.2.1]? = some (.instantiable (mx_T e.2.2.1 0).1 e.2.2.2.1) ∧ lw_tbl[e.2.2.2.2.2.2]? = some (.initialized (mx_T e.2.2.1 0).1) ∧ e.2.2.1 < 10 ∧ ((mx_cl[e.2.2.1]?).map (fun r => r.2.2)) = some e.2.2.2.1 := by decide +kernel
theorem mx_df0 : ∀ k, k < 7 → defaultValue (mx_Y0 k) = if mx_rf 0 k = true then Value.null else .int 0 := by decide +kernel
theorem mx_df1 : ∀ k, k < 16 → defaultValue (mx_Y1 k) = if mx_rf 1 k = true then Value.null else .int 0 := by decide +kernel
theorem mx_df2 : ∀ k, k < 3 → defaultValue (mx_Y2 k) = if mx_rf 2 k = true then Value.null else .int 0 := by decide +kernel
theorem mx_df3 : ∀ k, k < 9 → defaultValue (mx_Y3 k) = if mx_rf 3 k = true then Value.null else .int 0 := by decide +kernel
theorem mx_df4 : ∀ k, k < 15 → defaultValue (mx_Y4 k) = if mx_rf 4 k = true then Value.null else .int 0 := by decide +kernel
theorem mx_df5 : ∀ k, k < 11 → defaultValue (mx_Y5 k) = if mx_rf 5 k = true then Value.null else .int 0 := by decide +kernel
theorem mx_df6 : ∀ k, k < 12 → defaultValue (mx_Y6 k) = if mx_rf 6 k = true then Value.null else .int 0 := by decide +kernel
theorem mx_df7 : ∀ k, k < 8 → defaultValue (mx_Y7 k) = if mx_rf 7 k = true then Value.null else .int 0 := by decide +kernel
theorem mx_df8 : ∀ k, k < 12 → defaultValue (mx_Y8 k) = if mx_rf 8 k = true then Value.null else .int 0 := by decide +kernel
theorem mx_df9 : ∀ k, k < 67 → defaultValue (mx_Y9 k) = if mx_rf 9 k = true then Value.null else .int 0 := by decide +kernel
theorem mx_df (c : Nat) (r : vw_C) (h : mx_cl[c]? = some r) : ∀ k, k < r.2.2 → defaultValue (mx_Y c k) = if mx_rf c k = true then Value.null else .int 0 := match c, h with
  | 0, h => by cases h; exact mx_df0
  | 1, h => by cases h; exact mx_df1
  | 2, h => by cases h; exact mx_df2
  | 3, h => by cases h; exact mx_df3
  | 4, h => by cases h; exact mx_df4
  | 5, h => by cases h; exact mx_df5
  | 6, h => by cases h; exact mx_df6
  | 7, h => by cases h; exact mx_df7
  | 8, h => by cases h; exact mx_df8
  | 9, h => by cases h; exact mx_df9
def mx_kcT : List (String × Nat × Int32 × Nat) := [("java/lang/Integer", 265, 1431655765, 640), ("java/lang/Integer", 266, 858993459, 641), ("java/lang/Integer", 267, 252645135, 642), ("IdealWorksModel", 26, 38688, 1290), ("IdealWorksModel", 39, 79380, 1291)]
def mx_kc (own : String) (idx : Nat) : Option Int32 := (mx_kcT.find? (fun e => e.2.1 == idx && e.1 == own)).map (fun e => e.2.2.1)
theorem mx_kc_r : mx_kc "java/lang/Integer" 265 = some 1431655765 ∧ mx_kc "java/lang/Integer" 266 = some 858993459 ∧ mx_kc "java/lang/Integer" 267 = some 252645135 ∧ mx_kc "IdealWorksModel" 26 = some 38688 ∧ mx_kc "IdealWorksModel" 39 = some 79380 := by decide +kernel
theorem mx_kcT_ok : ∀ e ∈ mx_kcT, lw_tbl[e.2.2.2]? = some (.constant e.1 e.2.1 e.2.2.1) := by decide +kernel
def mx_klT : List (String × Nat × Int64 × Nat) := [("IdealWorksModel", 222, 10, 1561), ("IdealWorksModel", 224, 48, 1562), ("IdealWorksModel", 427, 20000, 1853)]
def mx_kl (own : String) (idx : Nat) : Option Int64 := (mx_klT.find? (fun e => e.2.1 == idx && e.1 == own)).map (fun e => e.2.2.1)
theorem mx_kl_r : mx_kl "IdealWorksModel" 222 = some 10 ∧ mx_kl "IdealWorksModel" 224 = some 48 ∧ mx_kl "IdealWorksModel" 427 = some 20000 := by decide +kernel
theorem mx_klT_ok : ∀ e ∈ mx_klT, lw_tbl[e.2.2.2]? = some (.constantLong e.1 e.2.1 e.2.2.1) := by decide +kernel
def mx_oiT : List (String × Nat × Nat) := [("IdealWorks", 1, 132), ("IdealWorks$Ring", 3, 140), ("IdealWorks$Ideal", 3, 218), ("IdealWorks$Space", 3, 225), ("IdealWorks$TextReader", 3, 302), ("IdealWorks$Printer", 3, 348), ("IdealWorks$Quotient", 5, 365), ("IdealWorks$Lexicon", 5, 400), ("IdealWorks$ZeroFinder", 3, 456), ("IdealWorksModel", 1, 1289)]
def mx_oi (own : String) (idx : Nat) : Bool := (mx_oiT.find? (fun e => e.2.1 == idx && e.1 == own)).isSome
theorem mx_oi_r : (mx_oi "IdealWorks" 1 = true ∧ mx_oi "IdealWorks$Ring" 3 = true ∧ mx_oi "IdealWorks$Ideal" 3 = true ∧ mx_oi "IdealWorks$Space" 3 = true ∧ mx_oi "IdealWorks$TextReader" 3 = true ∧ mx_oi "IdealWorks$Printer" 3 = true ∧ mx_oi "IdealWorks$Quotient" 5 = true ∧ mx_oi "IdealWorks$Lexicon" 5 = true) ∧ (mx_oi "IdealWorks$ZeroFinder" 3 = true ∧ mx_oi "IdealWorksModel" 1 = true) := ⟨by decide +kernel, by decide +kernel⟩
theorem mx_oiT_ok : ∀ e ∈ mx_oiT, lw_tbl[e.2.2]? = some (.methodLink e.1 e.2.1 objectInit) := by decide +kernel
theorem mx_oi_i : Cond.instanceMethod objectInit ∈ lw_tbl := List.mem_of_getElem? (i := 133) (by decide +kernel)
theorem mx_oi_c : Cond.code objectInit ⟨#[0xb1]⟩ 1 none ∈ lw_tbl := List.mem_of_getElem? (i := 134) (by decide +kernel)
def mx_cpT : List (String × Nat × Nat) := [("IdealWorks$TextReader", 52, 574), ("IdealWorks", 120, 865), ("IdealWorks$Ideal", 41, 974), ("IdealWorks$Space", 78, 1014), ("IdealWorks$Lexicon", 112, 1231), ("IdealWorks$ZeroFinder", 54, 1262)]
def mx_cp (own : String) (idx : Nat) : Bool := (mx_cpT.find? (fun e => e.2.1 == idx && e.1 == own)).isSome
theorem mx_cp_r : mx_cp "IdealWorks$TextReader" 52 = true ∧ mx_cp "IdealWorks" 120 = true ∧ mx_cp "IdealWorks$Ideal" 41 = true ∧ mx_cp "IdealWorks$Space" 78 = true ∧ mx_cp "IdealWorks$Lexicon" 112 = true ∧ mx_cp "IdealWorks$ZeroFinder" 54 = true := by decide +kernel
theorem mx_cpT_ok : ∀ e ∈ mx_cpT, lw_tbl[e.2.2]? = some (.methodLink e.1 e.2.1 arraycopyName) := by decide +kernel
theorem mx_cp_n : Cond.native arraycopyName ∈ lw_tbl := List.mem_of_getElem? (i := 576) (by decide +kernel)
theorem mx_cp_s : Cond.static arraycopyName ∈ lw_tbl := List.mem_of_getElem? (i := 575) (by decide +kernel)
theorem mx_cp_i : Cond.initialized "java/lang/System" ∈ lw_tbl := List.mem_of_getElem? (i := 121) (by decide +kernel)
theorem mx_ac_int : Cond.arrayClass .int ∈ lw_tbl := List.mem_of_getElem? (i := 209) (by decide +kernel)
theorem mx_ac_byte : Cond.arrayClass .byte ∈ lw_tbl := List.mem_of_getElem? (i := 359) (by decide +kernel)
theorem mx_ac_boolean : Cond.arrayClass .boolean ∈ lw_tbl := List.mem_of_getElem? (i := 1512) (by decide +kernel)
theorem mx_ac_long : Cond.arrayClass .long ∈ lw_tbl := List.mem_of_getElem? (i := 1862) (by decide +kernel)
theorem mx_ao_i : Cond.arrayOver (.array .int) ∈ lw_tbl := List.mem_of_getElem? (i := 211) (by decide +kernel)
theorem mx_ao_o : Cond.arrayOver (.object "IdealWorks$Ideal") ∈ lw_tbl := List.mem_of_getElem? (i := 213) (by decide +kernel)
def mx_aaT : List (String × Nat × Nat) := [("IdealWorks", 19, 210), ("IdealWorks$Ideal", 11, 219), ("IdealWorks$Space", 21, 226), ("IdealWorks$TextReader", 31, 303), ("IdealWorks$Quotient", 31, 366), ("IdealWorks$Lexicon", 24, 401), ("IdealWorks$ZeroFinder", 25, 457)]
/-- a class link to int[][] -/
def mx_aa (own : String) (idx : Nat) : Bool := (mx_aaT.find? (fun e => e.2.1 == idx && e.1 == own)).isSome
theorem mx_aa_r : mx_aa "IdealWorks" 19 = true ∧ mx_aa "IdealWorks$Ideal" 11 = true ∧ mx_aa "IdealWorks$Space" 21 = true ∧ mx_aa "IdealWorks$TextReader" 31 = true ∧ mx_aa "IdealWorks$Quotient" 31 = true ∧ mx_aa "IdealWorks$Lexicon" 24 = true ∧ mx_aa "IdealWorks$ZeroFinder" 25 = true := by decide +kernel
theorem mx_aaT_ok : ∀ e ∈ mx_aaT, lw_tbl[e.2.2]? = some (.classLink e.1 e.2.1 "[[I") := by decide +kernel
theorem mx_nh : Cond.fieldLinkNest "IdealWorks$Ring" 58 "IdealWorks" "HIGHEST" "[I" "IdealWorks" ∈ lw_tbl := List.mem_of_getElem? (i := 491) (by decide +kernel)

/-! own frame: an abstract heap of whole numbers with fixed shapes, and a judgement over it -/
abbrev HI : Type := Nat → Nat → Int32
abbrev HL : Type := Nat → Int64
abbrev Out : Type := Option Value × HI × HL
def up (X : HI) (a k : Nat) (v : Int32) : HI := fun b => if b = a then upd (X a) k v else X b
def upY (Y : HL) (a : Nat) (v : Int64) : HL := fun b => if b = a then v else Y b
-- classes
abbrev cAct : String := "BrinePans$Acts"
abbrev cFin : String := "BrinePans$Finds"
abbrev cGro : String := "BrinePans$Ground"
abbrev cPan : String := "BrinePans$Pans"
abbrev cTxt : String := "BrinePans$Text"
abbrev cBri : String := "BrinePans"
abbrev cMod : String := "BrinePansModel"
def tAct : u_T := fun k => match k with
  | 0 => ("BrinePans$Acts", "before", "[LBrinePans$Pans;", true)
  | 1 => ("BrinePans$Acts", "next", "I", false)
  | _ => ("BrinePans$Acts", "count", "I", false)
def tFin : u_T := fun k => match k with
  | 0 => ("BrinePans$Finds", "water", "[I", true)
  | 1 => ("BrinePans$Finds", "crusts", "[I", true)
  | 2 => ("BrinePans$Finds", "isMore", "[Z", true)
  | _ => ("BrinePans$Finds", "count", "I", false)
def tGro : u_T := fun k => match k with
  | 0 => ("BrinePans$Ground", "kinds", "[I", true)
  | 1 => ("BrinePans$Ground", "sky", "[I", true)
  | 2 => ("BrinePans$Ground", "pans", "I", false)
  | _ => ("BrinePans$Ground", "skies", "I", false)
def tPan : u_T := fun k => match k with
  | 0 => ("BrinePans$Pans", "ground", "LBrinePans$Ground;", true)
  | 1 => ("BrinePans$Pans", "water", "[I", true)
  | 2 => ("BrinePans$Pans", "salt", "[I", true)
  | 3 => ("BrinePans$Pans", "open", "I", false)
  | 4 => ("BrinePans$Pans", "heap", "I", false)
  | _ => ("BrinePans$Pans", "day", "I", false)
def tTxt : u_T := fun k => match k with
  | 0 => ("BrinePans$Text", "letters", "[I", true)
  | _ => ("BrinePans$Text", "length", "I", false)
def tBri : u_T := fun k => match k with
  | 0 => ("BrinePans", "text", "LBrinePans$Text;", true)
  | 1 => ("BrinePans", "ground", "LBrinePans$Ground;", true)
  | 2 => ("BrinePans", "now", "LBrinePans$Pans;", true)
  | 3 => ("BrinePans", "trial", "LBrinePans$Pans;", true)
  | 4 => ("BrinePans", "acts", "LBrinePans$Acts;", true)
  | 5 => ("BrinePans", "finds", "LBrinePans$Finds;", true)
  | 6 => ("BrinePans", "slots", "[LBrinePans$Pans;", true)
  | 7 => ("BrinePans", "isKept", "[Z", true)
  | 8 => ("BrinePans", "crustOfSets", "[I", true)
  | 9 => ("BrinePans", "gains", "[I", true)
  | _ => ("BrinePans", "chance", "J", false)
def tMod : u_T := fun k => match k with
  | 0 => ("BrinePansModel", "thrown", "I", false)
  | 1 => ("BrinePansModel", "text", "[I", true)
  | 2 => ("BrinePansModel", "textSize", "I", false)
  | 3 => ("BrinePansModel", "place", "I", false)
  | 4 => ("BrinePansModel", "pans", "I", false)
  | 5 => ("BrinePansModel", "kind", "[I", true)
  | 6 => ("BrinePansModel", "skies", "I", false)
  | 7 => ("BrinePansModel", "sky", "[I", true)
  | 8 => ("BrinePansModel", "readPans", "I", false)
  | 9 => ("BrinePansModel", "readPan", "[I", true)
  | 10 => ("BrinePansModel", "readSkies", "I", false)
  | 11 => ("BrinePansModel", "readSky", "[I", true)
  | 12 => ("BrinePansModel", "page", "[I", true)
  | 13 => ("BrinePansModel", "trial", "[I", true)
  | 14 => ("BrinePansModel", "book", "[I", true)
  | 15 => ("BrinePansModel", "acts", "I", false)
  | 16 => ("BrinePansModel", "kept", "[I", true)
  | 17 => ("BrinePansModel", "isKept", "[Z", true)
  | 18 => ("BrinePansModel", "found", "I", false)
  | 19 => ("BrinePansModel", "foundWater", "[I", true)
  | 20 => ("BrinePansModel", "foundCrust", "[I", true)
  | 21 => ("BrinePansModel", "foundIs", "[I", true)
  | 22 => ("BrinePansModel", "seed", "J", false)
  | 23 => ("BrinePansModel", "bestMuch", "I", false)
  | 24 => ("BrinePansModel", "bestWay", "I", false)
  | 25 => ("BrinePansModel", "saltMany", "I", false)
  | 26 => ("BrinePansModel", "saltFirst", "I", false)
  | 27 => ("BrinePansModel", "restMany", "I", false)
  | 28 => ("BrinePansModel", "restFirst", "I", false)
  | 29 => ("BrinePansModel", "gains", "[I", true)
  | _ => ("BrinePansModel", "value", "[I", true)
def yAct : Nat → FieldType := fun k => match k with
  | 0 => .array (.object "BrinePans$Pans")
  | 1 => .int
  | _ => .int
def yFin : Nat → FieldType := fun k => match k with
  | 0 => .array .int
  | 1 => .array .int
  | 2 => .array .boolean
  | _ => .int
def yGro : Nat → FieldType := fun k => match k with
  | 0 => .array .int
  | 1 => .array .int
  | 2 => .int
  | _ => .int
def yPan : Nat → FieldType := fun k => match k with
  | 0 => .object "BrinePans$Ground"
  | 1 => .array .int
  | 2 => .array .int
  | 3 => .int
  | 4 => .int
  | _ => .int
def yTxt : Nat → FieldType := fun k => match k with
  | 0 => .array .int
  | _ => .int
def yBri : Nat → FieldType := fun k => match k with
  | 0 => .object "BrinePans$Text"
  | 1 => .object "BrinePans$Ground"
  | 2 => .object "BrinePans$Pans"
  | 3 => .object "BrinePans$Pans"
  | 4 => .object "BrinePans$Acts"
  | 5 => .object "BrinePans$Finds"
  | 6 => .array (.object "BrinePans$Pans")
  | 7 => .array .boolean
  | 8 => .array .int
  | 9 => .array .int
  | _ => .long
def yMod : Nat → FieldType := fun k => match k with
  | 0 => .int
  | 1 => .array .int
  | 2 => .int
  | 3 => .int
  | 4 => .int
  | 5 => .array .int
  | 6 => .int
  | 7 => .array .int
  | 8 => .int
  | 9 => .array .int
  | 10 => .int
  | 11 => .array .int
  | 12 => .array .int
  | 13 => .array .int
  | 14 => .array .int
  | 15 => .int
  | 16 => .array .int
  | 17 => .array .boolean
  | 18 => .int
  | 19 => .array .int
  | 20 => .array .int
  | 21 => .array .int
  | 22 => .long
  | 23 => .int
  | 24 => .int
  | 25 => .int
  | 26 => .int
  | 27 => .int
  | 28 => .int
  | 29 => .array .int
  | _ => .array .int
abbrev classes : List vw_C := [(cAct, tAct, 3), (cFin, tFin, 4), (cGro, tGro, 4), (cPan, tPan, 6), (cTxt, tTxt, 2), (cBri, tBri, 11), (cMod, tMod, 31)]

/-! THE PROGRAM, by a program (wip/p1/gen.py) out of the claim's own tables and decode rows: classes, methods, entries (pc, family, length, instruction, three numbers, the place of its word in the tables). -/
def xT0 : u_T := fun k => match k with
  | _ => ("EmberScript$Row", "cells", "[J", true)
def xY0 : Nat → FieldType := fun k => match k with
  | _ => .array (.long)
def xD0 : List Value := [.null]
def xT1 : u_T := fun k => match k with
  | 0 => ("EmberScript$Tokens", "tape", "LEmberScript$Row;", true)
  | 1 => ("EmberScript$Tokens", "keywords", "LEmberScript$Row;", true)
  | 2 => ("EmberScript$Tokens", "types", "LEmberScript$Row;", true)
  | 3 => ("EmberScript$Tokens", "places", "LEmberScript$Row;", true)
  | 4 => ("EmberScript$Tokens", "keys", "LEmberScript$Row;", true)
  | 5 => ("EmberScript$Tokens", "length", "I", false)
  | _ => ("EmberScript$Tokens", "count", "I", false)
def xY1 : Nat → FieldType := fun k => match k with
  | 0 => .object "EmberScript$Row"
  | 1 => .object "EmberScript$Row"
  | 2 => .object "EmberScript$Row"
  | 3 => .object "EmberScript$Row"
  | 4 => .object "EmberScript$Row"
  | 5 => .int
  | _ => .int
def xD1 : List Value := [.null, .null, .null, .null, .null, .int 0, .int 0]
def xT2 : u_T := fun k => match k with
  | 0 => ("EmberScript$Names", "functions", "LEmberScript$Row;", true)
  | 1 => ("EmberScript$Names", "keys", "LEmberScript$Row;", true)
  | 2 => ("EmberScript$Names", "numbers", "LEmberScript$Row;", true)
  | 3 => ("EmberScript$Names", "words", "LEmberScript$Row;", true)
  | 4 => ("EmberScript$Names", "count", "I", false)
  | 5 => ("EmberScript$Names", "wordCount", "I", false)
  | 6 => ("EmberScript$Names", "error", "I", false)
  | _ => ("EmberScript$Names", "errorToken", "I", false)
def xY2 : Nat → FieldType := fun k => match k with
  | 0 => .object "EmberScript$Row"
  | 1 => .object "EmberScript$Row"
  | 2 => .object "EmberScript$Row"
  | 3 => .object "EmberScript$Row"
  | 4 => .int
  | 5 => .int
  | 6 => .int
  | _ => .int
def xD2 : List Value := [.null, .null, .null, .null, .int 0, .int 0, .int 0, .int 0]
def xT3 : u_T := fun k => match k with
  | 0 => ("EmberScript$Script", "operations", "LEmberScript$Row;", true)
  | 1 => ("EmberScript$Script", "firsts", "LEmberScript$Row;", true)
  | 2 => ("EmberScript$Script", "seconds", "LEmberScript$Row;", true)
  | 3 => ("EmberScript$Script", "entries", "LEmberScript$Row;", true)
  | 4 => ("EmberScript$Script", "outers", "LEmberScript$Row;", true)
  | 5 => ("EmberScript$Script", "inputs", "LEmberScript$Row;", true)
  | 6 => ("EmberScript$Script", "variables", "LEmberScript$Row;", true)
  | 7 => ("EmberScript$Script", "yields", "LEmberScript$Row;", true)
  | 8 => ("EmberScript$Script", "length", "I", false)
  | 9 => ("EmberScript$Script", "functions", "I", false)
  | _ => ("EmberScript$Script", "words", "I", false)
def xY3 : Nat → FieldType := fun k => match k with
  | 0 => .object "EmberScript$Row"
  | 1 => .object "EmberScript$Row"
  | 2 => .object "EmberScript$Row"
  | 3 => .object "EmberScript$Row"
  | 4 => .object "EmberScript$Row"
  | 5 => .object "EmberScript$Row"
  | 6 => .object "EmberScript$Row"
  | 7 => .object "EmberScript$Row"
  | 8 => .int
  | 9 => .int
  | _ => .int
def xD3 : List Value := [.null, .null, .null, .null, .null, .null, .null, .null, .int 0, .int 0, .int 0]
def xT4 : u_T := fun k => match k with
  | 0 => ("EmberScript$Reader", "tokens", "LEmberScript$Tokens;", true)
  | 1 => ("EmberScript$Reader", "names", "LEmberScript$Names;", true)
  | 2 => ("EmberScript$Reader", "draft", "LEmberScript$Script;", true)
  | 3 => ("EmberScript$Reader", "slotWords", "LEmberScript$Row;", true)
  | 4 => ("EmberScript$Reader", "loopStarts", "LEmberScript$Row;", true)
  | 5 => ("EmberScript$Reader", "loopEnds", "LEmberScript$Row;", true)
  | 6 => ("EmberScript$Reader", "loopLevels", "LEmberScript$Row;", true)
  | 7 => ("EmberScript$Reader", "roundLevels", "LEmberScript$Row;", true)
  | 8 => ("EmberScript$Reader", "slotCount", "I", false)
  | 9 => ("EmberScript$Reader", "loopCount", "I", false)
  | 10 => ("EmberScript$Reader", "at", "I", false)
  | 11 => ("EmberScript$Reader", "failed", "Z", false)
  | 12 => ("EmberScript$Reader", "function", "I", false)
  | 13 => ("EmberScript$Reader", "loop", "I", false)
  | 14 => ("EmberScript$Reader", "loopDepth", "I", false)
  | 15 => ("EmberScript$Reader", "level", "I", false)
  | 16 => ("EmberScript$Reader", "callStart", "I", false)
  | 17 => ("EmberScript$Reader", "callEnd", "I", false)
  | _ => ("EmberScript$Reader", "callShape", "I", false)
def xY4 : Nat → FieldType := fun k => match k with
  | 0 => .object "EmberScript$Tokens"
  | 1 => .object "EmberScript$Names"
  | 2 => .object "EmberScript$Script"
  | 3 => .object "EmberScript$Row"
  | 4 => .object "EmberScript$Row"
  | 5 => .object "EmberScript$Row"
  | 6 => .object "EmberScript$Row"
  | 7 => .object "EmberScript$Row"
  | 8 => .int
  | 9 => .int
  | 10 => .int
  | 11 => .boolean
  | 12 => .int
  | 13 => .int
  | 14 => .int
  | 15 => .int
  | 16 => .int
  | 17 => .int
  | _ => .int
def xD4 : List Value := [.null, .null, .null, .null, .null, .null, .null, .null, .int 0, .int 0, .int 0, .int 0, .int 0, .int 0, .int 0, .int 0, .int 0, .int 0, .int 0]
def xT5 : u_T := fun k => match k with
  | 0 => ("EmberScript$Things", "kinds", "LEmberScript$Row;", true)
  | 1 => ("EmberScript$Things", "functions", "LEmberScript$Row;", true)
  | 2 => ("EmberScript$Things", "scopes", "LEmberScript$Row;", true)
  | 3 => ("EmberScript$Things", "progresses", "LEmberScript$Row;", true)
  | 4 => ("EmberScript$Things", "parents", "LEmberScript$Row;", true)
  | 5 => ("EmberScript$Things", "targets", "LEmberScript$Row;", true)
  | 6 => ("EmberScript$Things", "slotCounts", "LEmberScript$Row;", true)
  | 7 => ("EmberScript$Things", "slotWords", "LEmberScript$Row;", true)
  | 8 => ("EmberScript$Things", "slotValues", "LEmberScript$Row;", true)
  | _ => ("EmberScript$Things", "count", "I", false)
def xY5 : Nat → FieldType := fun k => match k with
  | 0 => .object "EmberScript$Row"
  | 1 => .object "EmberScript$Row"
  | 2 => .object "EmberScript$Row"
  | 3 => .object "EmberScript$Row"
  | 4 => .object "EmberScript$Row"
  | 5 => .object "EmberScript$Row"
  | 6 => .object "EmberScript$Row"
  | 7 => .object "EmberScript$Row"
  | 8 => .object "EmberScript$Row"
  | _ => .int
def xD5 : List Value := [.null, .null, .null, .null, .null, .null, .null, .null, .null, .int 0]
def xT6 : u_T := fun k => match k with
  | 0 => ("EmberScript$Scopes", "values", "LEmberScript$Row;", true)
  | 1 => ("EmberScript$Scopes", "outers", "LEmberScript$Row;", true)
  | 2 => ("EmberScript$Scopes", "free", "LEmberScript$Row;", true)
  | 3 => ("EmberScript$Scopes", "kept", "LEmberScript$Row;", true)
  | _ => ("EmberScript$Scopes", "freeCount", "I", false)
def xY6 : Nat → FieldType := fun k => match k with
  | 0 => .object "EmberScript$Row"
  | 1 => .object "EmberScript$Row"
  | 2 => .object "EmberScript$Row"
  | 3 => .object "EmberScript$Row"
  | _ => .int
def xD6 : List Value := [.null, .null, .null, .null, .int 0]
def xT7 : u_T := fun k => match k with
  | 0 => ("EmberScript$Frames", "places", "LEmberScript$Row;", true)
  | 1 => ("EmberScript$Frames", "functions", "LEmberScript$Row;", true)
  | 2 => ("EmberScript$Frames", "scopes", "LEmberScript$Row;", true)
  | 3 => ("EmberScript$Frames", "selves", "LEmberScript$Row;", true)
  | 4 => ("EmberScript$Frames", "entryCounts", "LEmberScript$Row;", true)
  | 5 => ("EmberScript$Frames", "entryTypes", "LEmberScript$Row;", true)
  | 6 => ("EmberScript$Frames", "entryFirsts", "LEmberScript$Row;", true)
  | 7 => ("EmberScript$Frames", "entrySeconds", "LEmberScript$Row;", true)
  | 8 => ("EmberScript$Frames", "records", "LEmberScript$Row;", true)
  | 9 => ("EmberScript$Frames", "bases", "LEmberScript$Row;", true)
  | 10 => ("EmberScript$Frames", "operands", "LEmberScript$Row;", true)
  | 11 => ("EmberScript$Frames", "depth", "I", false)
  | _ => ("EmberScript$Frames", "top", "I", false)
def xY7 : Nat → FieldType := fun k => match k with
  | 0 => .object "EmberScript$Row"
  | 1 => .object "EmberScript$Row"
  | 2 => .object "EmberScript$Row"
  | 3 => .object "EmberScript$Row"
  | 4 => .object "EmberScript$Row"
  | 5 => .object "EmberScript$Row"
  | 6 => .object "EmberScript$Row"
  | 7 => .object "EmberScript$Row"
  | 8 => .object "EmberScript$Row"
  | 9 => .object "EmberScript$Row"
  | 10 => .object "EmberScript$Row"
  | 11 => .int
  | _ => .int
def xD7 : List Value := [.null, .null, .null, .null, .null, .null, .null, .null, .null, .null, .null, .int 0, .int 0]
def xT8 : u_T := fun k => match k with
  | 0 => ("EmberScript$Reach", "things", "LEmberScript$Things;", true)
  | 1 => ("EmberScript$Reach", "scopes", "LEmberScript$Scopes;", true)
  | 2 => ("EmberScript$Reach", "frames", "LEmberScript$Frames;", true)
  | 3 => ("EmberScript$Reach", "distances", "LEmberScript$Row;", true)
  | 4 => ("EmberScript$Reach", "queue", "LEmberScript$Row;", true)
  | 5 => ("EmberScript$Reach", "seenScopes", "LEmberScript$Row;", true)
  | 6 => ("EmberScript$Reach", "count", "I", false)
  | 7 => ("EmberScript$Reach", "next", "I", false)
  | _ => ("EmberScript$Reach", "without", "I", false)
def xY8 : Nat → FieldType := fun k => match k with
  | 0 => .object "EmberScript$Things"
  | 1 => .object "EmberScript$Scopes"
  | 2 => .object "EmberScript$Frames"
  | 3 => .object "EmberScript$Row"
  | 4 => .object "EmberScript$Row"
  | 5 => .object "EmberScript$Row"
  | 6 => .int
  | 7 => .int
  | _ => .int
def xD8 : List Value := [.null, .null, .null, .null, .null, .null, .int 0, .int 0, .int 0]
def xT9 : u_T := fun k => match k with
  | 0 => ("EmberScript$Machine", "script", "LEmberScript$Script;", true)
  | 1 => ("EmberScript$Machine", "things", "LEmberScript$Things;", true)
  | 2 => ("EmberScript$Machine", "scopes", "LEmberScript$Scopes;", true)
  | 3 => ("EmberScript$Machine", "frames", "LEmberScript$Frames;", true)
  | 4 => ("EmberScript$Machine", "reach", "LEmberScript$Reach;", true)
  | 5 => ("EmberScript$Machine", "without", "LEmberScript$Reach;", true)
  | 6 => ("EmberScript$Machine", "prints", "LEmberScript$Row;", true)
  | 7 => ("EmberScript$Machine", "condition", "I", false)
  | 8 => ("EmberScript$Machine", "stepCount", "I", false)
  | 9 => ("EmberScript$Machine", "counted", "I", false)
  | 10 => ("EmberScript$Machine", "collectionCount", "I", false)
  | 11 => ("EmberScript$Machine", "freedCount", "I", false)
  | 12 => ("EmberScript$Machine", "printCount", "I", false)
  | 13 => ("EmberScript$Machine", "thrown", "J", false)
  | 14 => ("EmberScript$Machine", "wish", "I", false)
  | 15 => ("EmberScript$Machine", "carried", "J", false)
  | _ => ("EmberScript$Machine", "newScope", "I", false)
def xY9 : Nat → FieldType := fun k => match k with
  | 0 => .object "EmberScript$Script"
  | 1 => .object "EmberScript$Things"
  | 2 => .object "EmberScript$Scopes"
  | 3 => .object "EmberScript$Frames"
  | 4 => .object "EmberScript$Reach"
  | 5 => .object "EmberScript$Reach"
  | 6 => .object "EmberScript$Row"
  | 7 => .int
  | 8 => .int
  | 9 => .int
  | 10 => .int
  | 11 => .int
  | 12 => .int
  | 13 => .long
  | 14 => .int
  | 15 => .long
  | _ => .int
def xD9 : List Value := [.null, .null, .null, .null, .null, .null, .null, .int 0, .int 0, .int 0, .int 0, .int 0, .int 0, .long 0, .int 0, .long 0, .int 0]
def xT10 : u_T := fun k => match k with
  | 0 => ("EmberScript", "tokens", "LEmberScript$Tokens;", true)
  | 1 => ("EmberScript", "reader", "LEmberScript$Reader;", true)
  | 2 => ("EmberScript", "script", "LEmberScript$Script;", true)
  | 3 => ("EmberScript", "machine", "LEmberScript$Machine;", true)
  | 4 => ("EmberScript", "spare", "LEmberScript$Machine;", true)
  | _ => ("EmberScript", "errorPlace", "I", false)
def xY10 : Nat → FieldType := fun k => match k with
  | 0 => .object "EmberScript$Tokens"
  | 1 => .object "EmberScript$Reader"
  | 2 => .object "EmberScript$Script"
  | 3 => .object "EmberScript$Machine"
  | 4 => .object "EmberScript$Machine"
  | _ => .int
def xD10 : List Value := [.null, .null, .null, .null, .null, .int 0]
def xT11 : u_T := fun k => match k with
  | 0 => ("EmberScriptModel$Script", "knots", "I", false)
  | 1 => ("EmberScriptModel$Script", "sort", "[I", true)
  | 2 => ("EmberScriptModel$Script", "a", "[I", true)
  | 3 => ("EmberScriptModel$Script", "b", "[I", true)
  | 4 => ("EmberScriptModel$Script", "c", "[I", true)
  | 5 => ("EmberScriptModel$Script", "d", "[I", true)
  | 6 => ("EmberScriptModel$Script", "sign", "[I", true)
  | 7 => ("EmberScriptModel$Script", "next", "[I", true)
  | 8 => ("EmberScriptModel$Script", "at", "[I", true)
  | 9 => ("EmberScriptModel$Script", "functions", "I", false)
  | 10 => ("EmberScriptModel$Script", "parent", "[I", true)
  | 11 => ("EmberScriptModel$Script", "inputs", "[I", true)
  | 12 => ("EmberScriptModel$Script", "own", "[I", true)
  | 13 => ("EmberScriptModel$Script", "body", "[I", true)
  | 14 => ("EmberScriptModel$Script", "yields", "[Z", true)
  | 15 => ("EmberScriptModel$Script", "globals", "I", false)
  | 16 => ("EmberScriptModel$Script", "words", "I", false)
  | _ => ("EmberScriptModel$Script", "first", "I", false)
def xY11 : Nat → FieldType := fun k => match k with
  | 0 => .int
  | 1 => .array (.int)
  | 2 => .array (.int)
  | 3 => .array (.int)
  | 4 => .array (.int)
  | 5 => .array (.int)
  | 6 => .array (.int)
  | 7 => .array (.int)
  | 8 => .array (.int)
  | 9 => .int
  | 10 => .array (.int)
  | 11 => .array (.int)
  | 12 => .array (.int)
  | 13 => .array (.int)
  | 14 => .array (.boolean)
  | 15 => .int
  | 16 => .int
  | _ => .int
def xD11 : List Value := [.int 0, .null, .null, .null, .null, .null, .null, .null, .null, .int 0, .null, .null, .null, .null, .null, .int 0, .int 0, .int 0]
def xT12 : u_T := fun k => match k with
  | 0 => ("EmberScriptModel$Reader", "tape", "[I", true)
  | 1 => ("EmberScriptModel$Reader", "length", "I", true)
  | 2 => ("EmberScriptModel$Reader", "s", "LEmberScriptModel$Script;", true)
  | 3 => ("EmberScriptModel$Reader", "letters", "[I", true)
  | 4 => ("EmberScriptModel$Reader", "from", "[I", true)
  | 5 => ("EmberScriptModel$Reader", "many", "[I", true)
  | 6 => ("EmberScriptModel$Reader", "wordOf", "[I", true)
  | 7 => ("EmberScriptModel$Reader", "texts", "I", false)
  | 8 => ("EmberScriptModel$Reader", "used", "I", false)
  | 9 => ("EmberScriptModel$Reader", "declarer", "[I", true)
  | 10 => ("EmberScriptModel$Reader", "declared", "[I", true)
  | 11 => ("EmberScriptModel$Reader", "declarations", "I", false)
  | 12 => ("EmberScriptModel$Reader", "valued", "[I", true)
  | 13 => ("EmberScriptModel$Reader", "place", "I", false)
  | 14 => ("EmberScriptModel$Reader", "at", "I", false)
  | 15 => ("EmberScriptModel$Reader", "kind", "I", false)
  | 16 => ("EmberScriptModel$Reader", "text", "I", false)
  | 17 => ("EmberScriptModel$Reader", "number", "I", false)
  | 18 => ("EmberScriptModel$Reader", "tokens", "I", false)
  | 19 => ("EmberScriptModel$Reader", "depth", "I", false)
  | 20 => ("EmberScriptModel$Reader", "loops", "I", false)
  | 21 => ("EmberScriptModel$Reader", "now", "I", false)
  | 22 => ("EmberScriptModel$Reader", "error", "I", false)
  | _ => ("EmberScriptModel$Reader", "errorAt", "I", false)
def xY12 : Nat → FieldType := fun k => match k with
  | 0 => .array (.int)
  | 1 => .int
  | 2 => .object "EmberScriptModel$Script"
  | 3 => .array (.int)
  | 4 => .array (.int)
  | 5 => .array (.int)
  | 6 => .array (.int)
  | 7 => .int
  | 8 => .int
  | 9 => .array (.int)
  | 10 => .array (.int)
  | 11 => .int
  | 12 => .array (.int)
  | 13 => .int
  | 14 => .int
  | 15 => .int
  | 16 => .int
  | 17 => .int
  | 18 => .int
  | 19 => .int
  | 20 => .int
  | 21 => .int
  | 22 => .int
  | _ => .int
def xD12 : List Value := [.null, .int 0, .null, .null, .null, .null, .null, .int 0, .int 0, .null, .null, .int 0, .null, .int 0, .int 0, .int 0, .int 0, .int 0, .int 0, .int 0, .int 0, .int 0, .int 0, .int 0]
def xT13 : u_T := fun k => match k with
  | 0 => ("EmberScriptModel$Run", "s", "LEmberScriptModel$Script;", false)
  | 1 => ("EmberScriptModel$Run", "state", "I", false)
  | 2 => ("EmberScriptModel$Run", "steps", "I", false)
  | 3 => ("EmberScriptModel$Run", "collections", "I", false)
  | 4 => ("EmberScriptModel$Run", "freed", "I", false)
  | 5 => ("EmberScriptModel$Run", "printed", "I", false)
  | 6 => ("EmberScriptModel$Run", "thrownKind", "I", false)
  | 7 => ("EmberScriptModel$Run", "thrownNumber", "I", false)
  | 8 => ("EmberScriptModel$Run", "printKind", "[I", true)
  | 9 => ("EmberScriptModel$Run", "printNumber", "[I", true)
  | 10 => ("EmberScriptModel$Run", "kind", "[I", true)
  | 11 => ("EmberScriptModel$Run", "function", "[I", true)
  | 12 => ("EmberScriptModel$Run", "around", "[I", true)
  | 13 => ("EmberScriptModel$Run", "where", "[I", true)
  | 14 => ("EmberScriptModel$Run", "stage", "[I", true)
  | 15 => ("EmberScriptModel$Run", "parent", "[I", true)
  | 16 => ("EmberScriptModel$Run", "slots", "[I", true)
  | 17 => ("EmberScriptModel$Run", "referent", "[I", true)
  | 18 => ("EmberScriptModel$Run", "slotWord", "[I", true)
  | 19 => ("EmberScriptModel$Run", "slotKind", "[I", true)
  | 20 => ("EmberScriptModel$Run", "slotNumber", "[I", true)
  | 21 => ("EmberScriptModel$Run", "scopes", "I", false)
  | 22 => ("EmberScriptModel$Run", "frees", "I", false)
  | 23 => ("EmberScriptModel$Run", "outer", "[I", true)
  | 24 => ("EmberScriptModel$Run", "free", "[I", true)
  | 25 => ("EmberScriptModel$Run", "scopeMark", "[I", true)
  | 26 => ("EmberScriptModel$Run", "varKind", "[I", true)
  | 27 => ("EmberScriptModel$Run", "varNumber", "[I", true)
  | 28 => ("EmberScriptModel$Run", "isTaken", "[I", true)
  | 29 => ("EmberScriptModel$Run", "its", "[I", true)
  | 30 => ("EmberScriptModel$Run", "scope", "[I", true)
  | 31 => ("EmberScriptModel$Run", "self", "[I", true)
  | 32 => ("EmberScriptModel$Run", "generator", "[I", true)
  | 33 => ("EmberScriptModel$Run", "left", "[I", true)
  | 34 => ("EmberScriptModel$Run", "height", "[I", true)
  | 35 => ("EmberScriptModel$Run", "todo", "[[I", true)
  | 36 => ("EmberScriptModel$Run", "values", "[[I", true)
  | 37 => ("EmberScriptModel$Run", "frame", "[I", true)
  | 38 => ("EmberScriptModel$Run", "frames", "I", false)
  | 39 => ("EmberScriptModel$Run", "coming", "I", false)
  | 40 => ("EmberScriptModel$Run", "level", "[I", true)
  | 41 => ("EmberScriptModel$Run", "row", "[I", true)
  | 42 => ("EmberScriptModel$Run", "rowEnd", "I", false)
  | 43 => ("EmberScriptModel$Run", "blocked", "I", false)
  | 44 => ("EmberScriptModel$Run", "k", "I", false)
  | _ => ("EmberScriptModel$Run", "n", "I", false)
def xY13 : Nat → FieldType := fun k => match k with
  | 0 => .object "EmberScriptModel$Script"
  | 1 => .int
  | 2 => .int
  | 3 => .int
  | 4 => .int
  | 5 => .int
  | 6 => .int
  | 7 => .int
  | 8 => .array (.int)
  | 9 => .array (.int)
  | 10 => .array (.int)
  | 11 => .array (.int)
  | 12 => .array (.int)
  | 13 => .array (.int)
  | 14 => .array (.int)
  | 15 => .array (.int)
  | 16 => .array (.int)
  | 17 => .array (.int)
  | 18 => .array (.int)
  | 19 => .array (.int)
  | 20 => .array (.int)
  | 21 => .int
  | 22 => .int
  | 23 => .array (.int)
  | 24 => .array (.int)
  | 25 => .array (.int)
  | 26 => .array (.int)
  | 27 => .array (.int)
  | 28 => .array (.int)
  | 29 => .array (.int)
  | 30 => .array (.int)
  | 31 => .array (.int)
  | 32 => .array (.int)
  | 33 => .array (.int)
  | 34 => .array (.int)
  | 35 => .array (.array (.int))
  | 36 => .array (.array (.int))
  | 37 => .array (.int)
  | 38 => .int
  | 39 => .int
  | 40 => .array (.int)
  | 41 => .array (.int)
  | 42 => .int
  | 43 => .int
  | 44 => .int
  | _ => .int
def xD13 : List Value := [.null, .int 0, .int 0, .int 0, .int 0, .int 0, .int 0, .int 0, .null, .null, .null, .null, .null, .null, .null, .null, .null, .null, .null, .null, .null, .int 0, .int 0, .null, .null, .null, .null, .null, .null, .null, .null, .null, .null, .null, .null, .null, .null, .null, .int 0, .int 0, .null, .null, .int 0, .int 0, .int 0, .int 0]
def xT14 : u_T := fun k => match k with
  | 0 => ("EmberScriptModel", "tape", "[I", true)
  | 1 => ("EmberScriptModel", "length", "I", false)
  | 2 => ("EmberScriptModel", "errorAt", "I", false)
  | 3 => ("EmberScriptModel", "thrown", "I", false)
  | 4 => ("EmberScriptModel", "run", "LEmberScriptModel$Run;", false)
  | _ => ("EmberScriptModel", "spare", "LEmberScriptModel$Run;", false)
def xY14 : Nat → FieldType := fun k => match k with
  | 0 => .array (.int)
  | 1 => .int
  | 2 => .int
  | 3 => .int
  | 4 => .object "EmberScriptModel$Run"
  | _ => .object "EmberScriptModel$Run"
def xD14 : List Value := [.null, .int 0, .int 0, .int 0, .null, .null]
def xcl : List vw_C := [("EmberScript$Row", xT0, 1), ("EmberScript$Tokens", xT1, 7), ("EmberScript$Names", xT2, 8), ("EmberScript$Script", xT3, 11), ("EmberScript$Reader", xT4, 19), ("EmberScript$Things", xT5, 10), ("EmberScript$Scopes", xT6, 5), ("EmberScript$Frames", xT7, 13), ("EmberScript$Reach", xT8, 9), ("EmberScript$Machine", xT9, 17), ("EmberScript", xT10, 6), ("EmberScriptModel$Script", xT11, 18), ("EmberScriptModel$Reader", xT12, 24), ("EmberScriptModel$Run", xT13, 46), ("EmberScriptModel", xT14, 6)]
def xdef : Lean.RArray (Nat × List Value) := .branch 7 (.branch 3 (.branch 1 (.leaf (1, xD0)) (.branch 2 (.leaf (7, xD1)) (.leaf (8, xD2)))) (.branch 5 (.branch 4 (.leaf (11, xD3)) (.leaf (19, xD4))) (.branch 6 (.leaf (10, xD5)) (.leaf (5, xD6))))) (.branch 11 (.branch 9 (.branch 8 (.leaf (13, xD7)) (.leaf (9, xD8))) (.branch 10 (.leaf (17, xD9)) (.leaf (6, xD10)))) (.branch 13 (.branch 12 (.leaf (18, xD11)) (.leaf (24, xD12))) (.branch 14 (.leaf (46, xD13)) (.leaf (6, xD14)))))
-- 0: EmberScriptLaw.law([I)Z
set_option maxRecDepth 100000 in
noncomputable def xc_0_2631 : List XE := (4, 3, 0, 0, 2631, 1) :: (26, 0, 0, 0, 2632, 1) :: []
set_option maxRecDepth 100000 in
noncomputable def xc_0_2625 : List XE := (5, 4, 4, 0, 2625, 3) :: (14, 23, 0, 0, 2628, 3) :: xc_0_2631
set_option maxRecDepth 100000 in
noncomputable def xc_0_2611 : List XE := (1, 1, 2, 0, 2611, 1) :: (24, 112, 0, 11, 2612, 3) :: (1, 2, 2, 0, 2615, 1) :: (24, 113, 0, 15, 2616, 3) :: (45, 0, 0, 0, 2619, 1) :: (12, 2625, 0, 0, 2620, 3) :: (4, 0, 0, 0, 2623, 1) :: (26, 0, 0, 0, 2624, 1) :: xc_0_2625
set_option maxRecDepth 100000 in
noncomputable def xc_0_2608 : List XE := (14, 2625, 0, 0, 2608, 3) :: xc_0_2611
set_option maxRecDepth 100000 in
noncomputable def xc_0_2591 : List XE := (1, 5, 0, 0, 2591, 2) :: (12, 2608, 1, 0, 2593, 3) :: (1, 3, 2, 0, 2596, 1) :: (4, 0, 0, 0, 2597, 1) :: (18, 1, 0, 0, 2598, 1) :: (1, 6, 0, 0, 2599, 2) :: (40, 0, 0, 0, 2601, 1) :: (45, 0, 0, 0, 2602, 1) :: (12, 2608, 0, 0, 2603, 3) :: (4, 0, 0, 0, 2606, 1) :: (26, 0, 0, 0, 2607, 1) :: xc_0_2608
set_option maxRecDepth 100000 in
noncomputable def xc_0_2555 : List XE := (1, 1, 2, 0, 2555, 1) :: (1, 0, 2, 0, 2556, 1) :: (1, 4, 0, 0, 2557, 2) :: (4, 3, 0, 0, 2559, 1) :: (6, 0, 0, 0, 2560, 1) :: (18, 0, 0, 0, 2561, 1) :: (1, 3, 2, 0, 2562, 1) :: (24, 110, 0, 0, 2563, 3) :: (2, 5, 0, 0, 2566, 2) :: (1, 2, 2, 0, 2568, 1) :: (1, 0, 2, 0, 2569, 1) :: (1, 4, 0, 0, 2570, 2) :: (4, 3, 0, 0, 2572, 1) :: (6, 0, 0, 0, 2573, 1) :: (18, 0, 0, 0, 2574, 1) :: (24, 111, 0, 15, 2575, 3) :: (2, 6, 0, 0, 2578, 2) :: (1, 2, 2, 0, 2580, 1) :: (24, 5, 0, 15, 2581, 3) :: (1, 5, 0, 0, 2584, 2) :: (13, 2591, 0, 0, 2586, 3) :: (4, 0, 0, 0, 2589, 1) :: (26, 0, 0, 0, 2590, 1) :: xc_0_2591
set_option maxRecDepth 100000 in
noncomputable def xc_0_2542 : List XE := (1, 1, 2, 0, 2542, 1) :: (24, 108, 0, 11, 2543, 3) :: (1, 2, 2, 0, 2546, 1) :: (24, 109, 0, 15, 2547, 3) :: (13, 2625, 0, 0, 2550, 3) :: (4, 0, 0, 0, 2553, 1) :: (26, 0, 0, 0, 2554, 1) :: xc_0_2555
set_option maxRecDepth 100000 in
noncomputable def xc_0_2539 : List XE := (14, 2625, 0, 0, 2539, 3) :: xc_0_2542
set_option maxRecDepth 100000 in
noncomputable def xc_0_2522 : List XE := (1, 5, 0, 0, 2522, 2) :: (12, 2539, 1, 0, 2524, 3) :: (1, 3, 2, 0, 2527, 1) :: (4, 0, 0, 0, 2528, 1) :: (18, 1, 0, 0, 2529, 1) :: (1, 6, 0, 0, 2530, 2) :: (40, 0, 0, 0, 2532, 1) :: (45, 0, 0, 0, 2533, 1) :: (12, 2539, 0, 0, 2534, 3) :: (4, 0, 0, 0, 2537, 1) :: (26, 0, 0, 0, 2538, 1) :: xc_0_2539
set_option maxRecDepth 100000 in
noncomputable def xc_0_2486 : List XE := (1, 1, 2, 0, 2486, 1) :: (1, 0, 2, 0, 2487, 1) :: (1, 4, 0, 0, 2488, 2) :: (4, 3, 0, 0, 2490, 1) :: (6, 0, 0, 0, 2491, 1) :: (18, 0, 0, 0, 2492, 1) :: (1, 3, 2, 0, 2493, 1) :: (24, 106, 0, 0, 2494, 3) :: (2, 5, 0, 0, 2497, 2) :: (1, 2, 2, 0, 2499, 1) :: (1, 0, 2, 0, 2500, 1) :: (1, 4, 0, 0, 2501, 2) :: (4, 3, 0, 0, 2503, 1) :: (6, 0, 0, 0, 2504, 1) :: (18, 0, 0, 0, 2505, 1) :: (24, 107, 0, 15, 2506, 3) :: (2, 6, 0, 0, 2509, 2) :: (1, 2, 2, 0, 2511, 1) :: (24, 5, 0, 15, 2512, 3) :: (1, 5, 0, 0, 2515, 2) :: (13, 2522, 0, 0, 2517, 3) :: (4, 0, 0, 0, 2520, 1) :: (26, 0, 0, 0, 2521, 1) :: xc_0_2522
set_option maxRecDepth 100000 in
noncomputable def xc_0_2483 : List XE := (14, 2625, 0, 0, 2483, 3) :: xc_0_2486
set_option maxRecDepth 100000 in
noncomputable def xc_0_2466 : List XE := (1, 5, 0, 0, 2466, 2) :: (12, 2483, 1, 0, 2468, 3) :: (1, 3, 2, 0, 2471, 1) :: (4, 0, 0, 0, 2472, 1) :: (18, 1, 0, 0, 2473, 1) :: (1, 6, 0, 0, 2474, 2) :: (40, 0, 0, 0, 2476, 1) :: (45, 0, 0, 0, 2477, 1) :: (12, 2483, 0, 0, 2478, 3) :: (4, 0, 0, 0, 2481, 1) :: (26, 0, 0, 0, 2482, 1) :: xc_0_2483
set_option maxRecDepth 100000 in
noncomputable def xc_0_2430 : List XE := (1, 1, 2, 0, 2430, 1) :: (1, 0, 2, 0, 2431, 1) :: (1, 4, 0, 0, 2432, 2) :: (4, 3, 0, 0, 2434, 1) :: (6, 0, 0, 0, 2435, 1) :: (18, 0, 0, 0, 2436, 1) :: (1, 3, 2, 0, 2437, 1) :: (24, 104, 0, 0, 2438, 3) :: (2, 5, 0, 0, 2441, 2) :: (1, 2, 2, 0, 2443, 1) :: (1, 0, 2, 0, 2444, 1) :: (1, 4, 0, 0, 2445, 2) :: (4, 3, 0, 0, 2447, 1) :: (6, 0, 0, 0, 2448, 1) :: (18, 0, 0, 0, 2449, 1) :: (24, 105, 0, 15, 2450, 3) :: (2, 6, 0, 0, 2453, 2) :: (1, 2, 2, 0, 2455, 1) :: (24, 5, 0, 15, 2456, 3) :: (1, 5, 0, 0, 2459, 2) :: (13, 2466, 0, 0, 2461, 3) :: (4, 0, 0, 0, 2464, 1) :: (26, 0, 0, 0, 2465, 1) :: xc_0_2466
set_option maxRecDepth 100000 in
noncomputable def xc_0_2427 : List XE := (14, 2625, 0, 0, 2427, 3) :: xc_0_2430
set_option maxRecDepth 100000 in
noncomputable def xc_0_2410 : List XE := (1, 5, 0, 0, 2410, 2) :: (12, 2427, 1, 0, 2412, 3) :: (1, 3, 2, 0, 2415, 1) :: (4, 0, 0, 0, 2416, 1) :: (18, 1, 0, 0, 2417, 1) :: (1, 6, 0, 0, 2418, 2) :: (40, 0, 0, 0, 2420, 1) :: (45, 0, 0, 0, 2421, 1) :: (12, 2427, 0, 0, 2422, 3) :: (4, 0, 0, 0, 2425, 1) :: (26, 0, 0, 0, 2426, 1) :: xc_0_2427
set_option maxRecDepth 100000 in
noncomputable def xc_0_2374 : List XE := (1, 1, 2, 0, 2374, 1) :: (1, 0, 2, 0, 2375, 1) :: (1, 4, 0, 0, 2376, 2) :: (4, 3, 0, 0, 2378, 1) :: (6, 0, 0, 0, 2379, 1) :: (18, 0, 0, 0, 2380, 1) :: (1, 3, 2, 0, 2381, 1) :: (24, 102, 0, 0, 2382, 3) :: (2, 5, 0, 0, 2385, 2) :: (1, 2, 2, 0, 2387, 1) :: (1, 0, 2, 0, 2388, 1) :: (1, 4, 0, 0, 2389, 2) :: (4, 3, 0, 0, 2391, 1) :: (6, 0, 0, 0, 2392, 1) :: (18, 0, 0, 0, 2393, 1) :: (24, 103, 0, 15, 2394, 3) :: (2, 6, 0, 0, 2397, 2) :: (1, 2, 2, 0, 2399, 1) :: (24, 5, 0, 15, 2400, 3) :: (1, 5, 0, 0, 2403, 2) :: (13, 2410, 0, 0, 2405, 3) :: (4, 0, 0, 0, 2408, 1) :: (26, 0, 0, 0, 2409, 1) :: xc_0_2410
set_option maxRecDepth 100000 in
noncomputable def xc_0_2371 : List XE := (14, 2625, 0, 0, 2371, 3) :: xc_0_2374
set_option maxRecDepth 100000 in
noncomputable def xc_0_2369 : List XE := (4, 0, 0, 0, 2369, 1) :: (26, 0, 0, 0, 2370, 1) :: xc_0_2371
set_option maxRecDepth 100000 in
noncomputable def xc_0_2333 : List XE := (1, 1, 2, 0, 2333, 1) :: (24, 100, 0, 11, 2334, 3) :: (3, 5, 3, 0, 2337, 2) :: (1, 2, 2, 0, 2339, 1) :: (24, 101, 0, 15, 2340, 3) :: (3, 7, 3, 0, 2343, 2) :: (1, 5, 3, 0, 2345, 2) :: (1, 7, 3, 0, 2347, 2) :: (48, 1, 0, 0, 2349, 1) :: (12, 2371, 0, 0, 2350, 3) :: (1, 5, 3, 0, 2353, 2) :: (1, 5, 3, 0, 2355, 2) :: (48, 1, 0, 0, 2357, 1) :: (12, 2369, 0, 0, 2358, 3) :: (1, 7, 3, 0, 2361, 2) :: (1, 7, 3, 0, 2363, 2) :: (48, 1, 0, 0, 2365, 1) :: (12, 2371, 1, 0, 2366, 3) :: xc_0_2369
set_option maxRecDepth 100000 in
noncomputable def xc_0_2330 : List XE := (14, 2625, 0, 0, 2330, 3) :: xc_0_2333
set_option maxRecDepth 100000 in
noncomputable def xc_0_2324 : List XE := (45, 0, 0, 0, 2324, 1) :: (12, 2330, 0, 0, 2325, 3) :: (4, 0, 0, 0, 2328, 1) :: (26, 0, 0, 0, 2329, 1) :: xc_0_2330
set_option maxRecDepth 100000 in
noncomputable def xc_0_2323 : List XE := (4, 1, 0, 0, 2323, 1) :: xc_0_2324
set_option maxRecDepth 100000 in
noncomputable def xc_0_2306 : List XE := (1, 5, 0, 0, 2306, 2) :: (12, 2330, 1, 0, 2308, 3) :: (1, 3, 2, 0, 2311, 1) :: (4, 0, 0, 0, 2312, 1) :: (18, 1, 0, 0, 2313, 1) :: (1, 6, 0, 0, 2314, 2) :: (12, 2323, 0, 0, 2316, 3) :: (4, 10, 0, 0, 2319, 1) :: (14, 2324, 0, 0, 2320, 3) :: xc_0_2323
set_option maxRecDepth 100000 in
noncomputable def xc_0_2258 : List XE := (1, 1, 2, 0, 2258, 1) :: (1, 0, 2, 0, 2259, 1) :: (1, 4, 0, 0, 2260, 2) :: (4, 3, 0, 0, 2262, 1) :: (6, 0, 0, 0, 2263, 1) :: (18, 0, 0, 0, 2264, 1) :: (1, 0, 2, 0, 2265, 1) :: (1, 4, 0, 0, 2266, 2) :: (4, 6, 0, 0, 2268, 1) :: (6, 0, 0, 0, 2269, 1) :: (18, 0, 0, 0, 2270, 1) :: (1, 3, 2, 0, 2271, 1) :: (24, 98, 0, 0, 2272, 3) :: (2, 5, 0, 0, 2275, 2) :: (1, 2, 2, 0, 2277, 1) :: (1, 0, 2, 0, 2278, 1) :: (1, 4, 0, 0, 2279, 2) :: (4, 3, 0, 0, 2281, 1) :: (6, 0, 0, 0, 2282, 1) :: (18, 0, 0, 0, 2283, 1) :: (1, 0, 2, 0, 2284, 1) :: (1, 4, 0, 0, 2285, 2) :: (4, 6, 0, 0, 2287, 1) :: (6, 0, 0, 0, 2288, 1) :: (18, 0, 0, 0, 2289, 1) :: (24, 99, 0, 15, 2290, 3) :: (2, 6, 0, 0, 2293, 2) :: (1, 2, 2, 0, 2295, 1) :: (24, 5, 0, 15, 2296, 3) :: (1, 5, 0, 0, 2299, 2) :: (13, 2306, 0, 0, 2301, 3) :: (4, 0, 0, 0, 2304, 1) :: (26, 0, 0, 0, 2305, 1) :: xc_0_2306
set_option maxRecDepth 100000 in
noncomputable def xc_0_2255 : List XE := (14, 2625, 0, 0, 2255, 3) :: xc_0_2258
set_option maxRecDepth 100000 in
noncomputable def xc_0_2238 : List XE := (1, 5, 0, 0, 2238, 2) :: (12, 2255, 1, 0, 2240, 3) :: (1, 3, 2, 0, 2243, 1) :: (4, 0, 0, 0, 2244, 1) :: (18, 1, 0, 0, 2245, 1) :: (1, 6, 0, 0, 2246, 2) :: (40, 0, 0, 0, 2248, 1) :: (45, 0, 0, 0, 2249, 1) :: (12, 2255, 0, 0, 2250, 3) :: (4, 0, 0, 0, 2253, 1) :: (26, 0, 0, 0, 2254, 1) :: xc_0_2255
set_option maxRecDepth 100000 in
noncomputable def xc_0_2202 : List XE := (1, 1, 2, 0, 2202, 1) :: (1, 0, 2, 0, 2203, 1) :: (1, 4, 0, 0, 2204, 2) :: (4, 3, 0, 0, 2206, 1) :: (6, 0, 0, 0, 2207, 1) :: (18, 0, 0, 0, 2208, 1) :: (1, 3, 2, 0, 2209, 1) :: (24, 96, 0, 0, 2210, 3) :: (2, 5, 0, 0, 2213, 2) :: (1, 2, 2, 0, 2215, 1) :: (1, 0, 2, 0, 2216, 1) :: (1, 4, 0, 0, 2217, 2) :: (4, 3, 0, 0, 2219, 1) :: (6, 0, 0, 0, 2220, 1) :: (18, 0, 0, 0, 2221, 1) :: (24, 97, 0, 15, 2222, 3) :: (2, 6, 0, 0, 2225, 2) :: (1, 2, 2, 0, 2227, 1) :: (24, 5, 0, 15, 2228, 3) :: (1, 5, 0, 0, 2231, 2) :: (13, 2238, 0, 0, 2233, 3) :: (4, 0, 0, 0, 2236, 1) :: (26, 0, 0, 0, 2237, 1) :: xc_0_2238
set_option maxRecDepth 100000 in
noncomputable def xc_0_2199 : List XE := (14, 2625, 0, 0, 2199, 3) :: xc_0_2202
set_option maxRecDepth 100000 in
noncomputable def xc_0_2182 : List XE := (1, 5, 0, 0, 2182, 2) :: (12, 2199, 1, 0, 2184, 3) :: (1, 3, 2, 0, 2187, 1) :: (4, 0, 0, 0, 2188, 1) :: (18, 1, 0, 0, 2189, 1) :: (1, 6, 0, 0, 2190, 2) :: (40, 0, 0, 0, 2192, 1) :: (45, 0, 0, 0, 2193, 1) :: (12, 2199, 0, 0, 2194, 3) :: (4, 0, 0, 0, 2197, 1) :: (26, 0, 0, 0, 2198, 1) :: xc_0_2199
set_option maxRecDepth 100000 in
noncomputable def xc_0_2146 : List XE := (1, 1, 2, 0, 2146, 1) :: (1, 0, 2, 0, 2147, 1) :: (1, 4, 0, 0, 2148, 2) :: (4, 3, 0, 0, 2150, 1) :: (6, 0, 0, 0, 2151, 1) :: (18, 0, 0, 0, 2152, 1) :: (1, 3, 2, 0, 2153, 1) :: (24, 94, 0, 0, 2154, 3) :: (2, 5, 0, 0, 2157, 2) :: (1, 2, 2, 0, 2159, 1) :: (1, 0, 2, 0, 2160, 1) :: (1, 4, 0, 0, 2161, 2) :: (4, 3, 0, 0, 2163, 1) :: (6, 0, 0, 0, 2164, 1) :: (18, 0, 0, 0, 2165, 1) :: (24, 95, 0, 15, 2166, 3) :: (2, 6, 0, 0, 2169, 2) :: (1, 2, 2, 0, 2171, 1) :: (24, 5, 0, 15, 2172, 3) :: (1, 5, 0, 0, 2175, 2) :: (13, 2182, 0, 0, 2177, 3) :: (4, 0, 0, 0, 2180, 1) :: (26, 0, 0, 0, 2181, 1) :: xc_0_2182
set_option maxRecDepth 100000 in
noncomputable def xc_0_2133 : List XE := (1, 1, 2, 0, 2133, 1) :: (24, 92, 0, 11, 2134, 3) :: (1, 2, 2, 0, 2137, 1) :: (24, 93, 0, 15, 2138, 3) :: (13, 2625, 0, 0, 2141, 3) :: (4, 0, 0, 0, 2144, 1) :: (26, 0, 0, 0, 2145, 1) :: xc_0_2146
set_option maxRecDepth 100000 in
noncomputable def xc_0_2130 : List XE := (14, 2625, 0, 0, 2130, 3) :: xc_0_2133
set_option maxRecDepth 100000 in
noncomputable def xc_0_2124 : List XE := (45, 0, 0, 0, 2124, 1) :: (12, 2130, 0, 0, 2125, 3) :: (4, 0, 0, 0, 2128, 1) :: (26, 0, 0, 0, 2129, 1) :: xc_0_2130
set_option maxRecDepth 100000 in
noncomputable def xc_0_2123 : List XE := (4, 1, 0, 0, 2123, 1) :: xc_0_2124
set_option maxRecDepth 100000 in
noncomputable def xc_0_2106 : List XE := (1, 5, 0, 0, 2106, 2) :: (12, 2130, 1, 0, 2108, 3) :: (1, 3, 2, 0, 2111, 1) :: (4, 0, 0, 0, 2112, 1) :: (18, 1, 0, 0, 2113, 1) :: (1, 6, 0, 0, 2114, 2) :: (12, 2123, 0, 0, 2116, 3) :: (4, 10, 0, 0, 2119, 1) :: (14, 2124, 0, 0, 2120, 3) :: xc_0_2123
set_option maxRecDepth 100000 in
noncomputable def xc_0_2070 : List XE := (1, 1, 2, 0, 2070, 1) :: (1, 0, 2, 0, 2071, 1) :: (1, 4, 0, 0, 2072, 2) :: (4, 3, 0, 0, 2074, 1) :: (6, 0, 0, 0, 2075, 1) :: (18, 0, 0, 0, 2076, 1) :: (1, 3, 2, 0, 2077, 1) :: (24, 90, 0, 0, 2078, 3) :: (2, 5, 0, 0, 2081, 2) :: (1, 2, 2, 0, 2083, 1) :: (1, 0, 2, 0, 2084, 1) :: (1, 4, 0, 0, 2085, 2) :: (4, 3, 0, 0, 2087, 1) :: (6, 0, 0, 0, 2088, 1) :: (18, 0, 0, 0, 2089, 1) :: (24, 91, 0, 15, 2090, 3) :: (2, 6, 0, 0, 2093, 2) :: (1, 2, 2, 0, 2095, 1) :: (24, 5, 0, 15, 2096, 3) :: (1, 5, 0, 0, 2099, 2) :: (13, 2106, 0, 0, 2101, 3) :: (4, 0, 0, 0, 2104, 1) :: (26, 0, 0, 0, 2105, 1) :: xc_0_2106
set_option maxRecDepth 100000 in
noncomputable def xc_0_2067 : List XE := (14, 2625, 0, 0, 2067, 3) :: xc_0_2070
set_option maxRecDepth 100000 in
noncomputable def xc_0_2050 : List XE := (1, 5, 0, 0, 2050, 2) :: (12, 2067, 1, 0, 2052, 3) :: (1, 3, 2, 0, 2055, 1) :: (4, 0, 0, 0, 2056, 1) :: (18, 1, 0, 0, 2057, 1) :: (1, 6, 0, 0, 2058, 2) :: (40, 0, 0, 0, 2060, 1) :: (45, 0, 0, 0, 2061, 1) :: (12, 2067, 0, 0, 2062, 3) :: (4, 0, 0, 0, 2065, 1) :: (26, 0, 0, 0, 2066, 1) :: xc_0_2067
set_option maxRecDepth 100000 in
noncomputable def xc_0_2014 : List XE := (1, 1, 2, 0, 2014, 1) :: (1, 0, 2, 0, 2015, 1) :: (1, 4, 0, 0, 2016, 2) :: (4, 3, 0, 0, 2018, 1) :: (6, 0, 0, 0, 2019, 1) :: (18, 0, 0, 0, 2020, 1) :: (1, 3, 2, 0, 2021, 1) :: (24, 88, 0, 0, 2022, 3) :: (2, 5, 0, 0, 2025, 2) :: (1, 2, 2, 0, 2027, 1) :: (1, 0, 2, 0, 2028, 1) :: (1, 4, 0, 0, 2029, 2) :: (4, 3, 0, 0, 2031, 1) :: (6, 0, 0, 0, 2032, 1) :: (18, 0, 0, 0, 2033, 1) :: (24, 89, 0, 15, 2034, 3) :: (2, 6, 0, 0, 2037, 2) :: (1, 2, 2, 0, 2039, 1) :: (24, 5, 0, 15, 2040, 3) :: (1, 5, 0, 0, 2043, 2) :: (13, 2050, 0, 0, 2045, 3) :: (4, 0, 0, 0, 2048, 1) :: (26, 0, 0, 0, 2049, 1) :: xc_0_2050
set_option maxRecDepth 100000 in
noncomputable def xc_0_2011 : List XE := (14, 2625, 0, 0, 2011, 3) :: xc_0_2014
set_option maxRecDepth 100000 in
noncomputable def xc_0_1994 : List XE := (1, 5, 0, 0, 1994, 2) :: (12, 2011, 1, 0, 1996, 3) :: (1, 3, 2, 0, 1999, 1) :: (4, 0, 0, 0, 2000, 1) :: (18, 1, 0, 0, 2001, 1) :: (1, 6, 0, 0, 2002, 2) :: (40, 0, 0, 0, 2004, 1) :: (45, 0, 0, 0, 2005, 1) :: (12, 2011, 0, 0, 2006, 3) :: (4, 0, 0, 0, 2009, 1) :: (26, 0, 0, 0, 2010, 1) :: xc_0_2011
set_option maxRecDepth 100000 in
noncomputable def xc_0_1958 : List XE := (1, 1, 2, 0, 1958, 1) :: (1, 0, 2, 0, 1959, 1) :: (1, 4, 0, 0, 1960, 2) :: (4, 3, 0, 0, 1962, 1) :: (6, 0, 0, 0, 1963, 1) :: (18, 0, 0, 0, 1964, 1) :: (1, 3, 2, 0, 1965, 1) :: (24, 86, 0, 0, 1966, 3) :: (2, 5, 0, 0, 1969, 2) :: (1, 2, 2, 0, 1971, 1) :: (1, 0, 2, 0, 1972, 1) :: (1, 4, 0, 0, 1973, 2) :: (4, 3, 0, 0, 1975, 1) :: (6, 0, 0, 0, 1976, 1) :: (18, 0, 0, 0, 1977, 1) :: (24, 87, 0, 15, 1978, 3) :: (2, 6, 0, 0, 1981, 2) :: (1, 2, 2, 0, 1983, 1) :: (24, 5, 0, 15, 1984, 3) :: (1, 5, 0, 0, 1987, 2) :: (13, 1994, 0, 0, 1989, 3) :: (4, 0, 0, 0, 1992, 1) :: (26, 0, 0, 0, 1993, 1) :: xc_0_1994
set_option maxRecDepth 100000 in
noncomputable def xc_0_1955 : List XE := (14, 2625, 0, 0, 1955, 3) :: xc_0_1958
set_option maxRecDepth 100000 in
noncomputable def xc_0_1949 : List XE := (45, 0, 0, 0, 1949, 1) :: (12, 1955, 0, 0, 1950, 3) :: (4, 0, 0, 0, 1953, 1) :: (26, 0, 0, 0, 1954, 1) :: xc_0_1955
set_option maxRecDepth 100000 in
noncomputable def xc_0_1948 : List XE := (4, 1, 0, 0, 1948, 1) :: xc_0_1949
set_option maxRecDepth 100000 in
noncomputable def xc_0_1931 : List XE := (1, 5, 0, 0, 1931, 2) :: (12, 1955, 1, 0, 1933, 3) :: (1, 3, 2, 0, 1936, 1) :: (4, 0, 0, 0, 1937, 1) :: (18, 1, 0, 0, 1938, 1) :: (1, 6, 0, 0, 1939, 2) :: (12, 1948, 0, 0, 1941, 3) :: (4, 10, 0, 0, 1944, 1) :: (14, 1949, 0, 0, 1945, 3) :: xc_0_1948
set_option maxRecDepth 100000 in
noncomputable def xc_0_1883 : List XE := (1, 1, 2, 0, 1883, 1) :: (1, 0, 2, 0, 1884, 1) :: (1, 4, 0, 0, 1885, 2) :: (4, 3, 0, 0, 1887, 1) :: (6, 0, 0, 0, 1888, 1) :: (18, 0, 0, 0, 1889, 1) :: (1, 0, 2, 0, 1890, 1) :: (1, 4, 0, 0, 1891, 2) :: (4, 6, 0, 0, 1893, 1) :: (6, 0, 0, 0, 1894, 1) :: (18, 0, 0, 0, 1895, 1) :: (1, 3, 2, 0, 1896, 1) :: (24, 84, 0, 0, 1897, 3) :: (2, 5, 0, 0, 1900, 2) :: (1, 2, 2, 0, 1902, 1) :: (1, 0, 2, 0, 1903, 1) :: (1, 4, 0, 0, 1904, 2) :: (4, 3, 0, 0, 1906, 1) :: (6, 0, 0, 0, 1907, 1) :: (18, 0, 0, 0, 1908, 1) :: (1, 0, 2, 0, 1909, 1) :: (1, 4, 0, 0, 1910, 2) :: (4, 6, 0, 0, 1912, 1) :: (6, 0, 0, 0, 1913, 1) :: (18, 0, 0, 0, 1914, 1) :: (24, 85, 0, 15, 1915, 3) :: (2, 6, 0, 0, 1918, 2) :: (1, 2, 2, 0, 1920, 1) :: (24, 5, 0, 15, 1921, 3) :: (1, 5, 0, 0, 1924, 2) :: (13, 1931, 0, 0, 1926, 3) :: (4, 0, 0, 0, 1929, 1) :: (26, 0, 0, 0, 1930, 1) :: xc_0_1931
set_option maxRecDepth 100000 in
noncomputable def xc_0_1880 : List XE := (14, 2625, 0, 0, 1880, 3) :: xc_0_1883
set_option maxRecDepth 100000 in
noncomputable def xc_0_1863 : List XE := (1, 5, 0, 0, 1863, 2) :: (12, 1880, 1, 0, 1865, 3) :: (1, 3, 2, 0, 1868, 1) :: (4, 0, 0, 0, 1869, 1) :: (18, 1, 0, 0, 1870, 1) :: (1, 6, 0, 0, 1871, 2) :: (40, 0, 0, 0, 1873, 1) :: (45, 0, 0, 0, 1874, 1) :: (12, 1880, 0, 0, 1875, 3) :: (4, 0, 0, 0, 1878, 1) :: (26, 0, 0, 0, 1879, 1) :: xc_0_1880
set_option maxRecDepth 100000 in
noncomputable def xc_0_1815 : List XE := (1, 1, 2, 0, 1815, 1) :: (1, 0, 2, 0, 1816, 1) :: (1, 4, 0, 0, 1817, 2) :: (4, 3, 0, 0, 1819, 1) :: (6, 0, 0, 0, 1820, 1) :: (18, 0, 0, 0, 1821, 1) :: (1, 0, 2, 0, 1822, 1) :: (1, 4, 0, 0, 1823, 2) :: (4, 6, 0, 0, 1825, 1) :: (6, 0, 0, 0, 1826, 1) :: (18, 0, 0, 0, 1827, 1) :: (1, 3, 2, 0, 1828, 1) :: (24, 82, 0, 0, 1829, 3) :: (2, 5, 0, 0, 1832, 2) :: (1, 2, 2, 0, 1834, 1) :: (1, 0, 2, 0, 1835, 1) :: (1, 4, 0, 0, 1836, 2) :: (4, 3, 0, 0, 1838, 1) :: (6, 0, 0, 0, 1839, 1) :: (18, 0, 0, 0, 1840, 1) :: (1, 0, 2, 0, 1841, 1) :: (1, 4, 0, 0, 1842, 2) :: (4, 6, 0, 0, 1844, 1) :: (6, 0, 0, 0, 1845, 1) :: (18, 0, 0, 0, 1846, 1) :: (24, 83, 0, 15, 1847, 3) :: (2, 6, 0, 0, 1850, 2) :: (1, 2, 2, 0, 1852, 1) :: (24, 5, 0, 15, 1853, 3) :: (1, 5, 0, 0, 1856, 2) :: (13, 1863, 0, 0, 1858, 3) :: (4, 0, 0, 0, 1861, 1) :: (26, 0, 0, 0, 1862, 1) :: xc_0_1863
set_option maxRecDepth 100000 in
noncomputable def xc_0_1812 : List XE := (14, 2625, 0, 0, 1812, 3) :: xc_0_1815
set_option maxRecDepth 100000 in
noncomputable def xc_0_1795 : List XE := (1, 5, 0, 0, 1795, 2) :: (12, 1812, 1, 0, 1797, 3) :: (1, 3, 2, 0, 1800, 1) :: (4, 0, 0, 0, 1801, 1) :: (18, 1, 0, 0, 1802, 1) :: (1, 6, 0, 0, 1803, 2) :: (40, 0, 0, 0, 1805, 1) :: (45, 0, 0, 0, 1806, 1) :: (12, 1812, 0, 0, 1807, 3) :: (4, 0, 0, 0, 1810, 1) :: (26, 0, 0, 0, 1811, 1) :: xc_0_1812
set_option maxRecDepth 100000 in
noncomputable def xc_0_1759 : List XE := (1, 1, 2, 0, 1759, 1) :: (1, 0, 2, 0, 1760, 1) :: (1, 4, 0, 0, 1761, 2) :: (4, 3, 0, 0, 1763, 1) :: (6, 0, 0, 0, 1764, 1) :: (18, 0, 0, 0, 1765, 1) :: (1, 3, 2, 0, 1766, 1) :: (24, 80, 0, 0, 1767, 3) :: (2, 5, 0, 0, 1770, 2) :: (1, 2, 2, 0, 1772, 1) :: (1, 0, 2, 0, 1773, 1) :: (1, 4, 0, 0, 1774, 2) :: (4, 3, 0, 0, 1776, 1) :: (6, 0, 0, 0, 1777, 1) :: (18, 0, 0, 0, 1778, 1) :: (24, 81, 0, 15, 1779, 3) :: (2, 6, 0, 0, 1782, 2) :: (1, 2, 2, 0, 1784, 1) :: (24, 5, 0, 15, 1785, 3) :: (1, 5, 0, 0, 1788, 2) :: (13, 1795, 0, 0, 1790, 3) :: (4, 0, 0, 0, 1793, 1) :: (26, 0, 0, 0, 1794, 1) :: xc_0_1795
set_option maxRecDepth 100000 in
noncomputable def xc_0_1756 : List XE := (14, 2625, 0, 0, 1756, 3) :: xc_0_1759
set_option maxRecDepth 100000 in
noncomputable def xc_0_1739 : List XE := (1, 5, 0, 0, 1739, 2) :: (12, 1756, 1, 0, 1741, 3) :: (1, 3, 2, 0, 1744, 1) :: (4, 0, 0, 0, 1745, 1) :: (18, 1, 0, 0, 1746, 1) :: (1, 6, 0, 0, 1747, 2) :: (40, 0, 0, 0, 1749, 1) :: (45, 0, 0, 0, 1750, 1) :: (12, 1756, 0, 0, 1751, 3) :: (4, 0, 0, 0, 1754, 1) :: (26, 0, 0, 0, 1755, 1) :: xc_0_1756
set_option maxRecDepth 100000 in
noncomputable def xc_0_1691 : List XE := (1, 1, 2, 0, 1691, 1) :: (1, 0, 2, 0, 1692, 1) :: (1, 4, 0, 0, 1693, 2) :: (4, 3, 0, 0, 1695, 1) :: (6, 0, 0, 0, 1696, 1) :: (18, 0, 0, 0, 1697, 1) :: (1, 0, 2, 0, 1698, 1) :: (1, 4, 0, 0, 1699, 2) :: (4, 6, 0, 0, 1701, 1) :: (6, 0, 0, 0, 1702, 1) :: (18, 0, 0, 0, 1703, 1) :: (1, 3, 2, 0, 1704, 1) :: (24, 78, 0, 0, 1705, 3) :: (2, 5, 0, 0, 1708, 2) :: (1, 2, 2, 0, 1710, 1) :: (1, 0, 2, 0, 1711, 1) :: (1, 4, 0, 0, 1712, 2) :: (4, 3, 0, 0, 1714, 1) :: (6, 0, 0, 0, 1715, 1) :: (18, 0, 0, 0, 1716, 1) :: (1, 0, 2, 0, 1717, 1) :: (1, 4, 0, 0, 1718, 2) :: (4, 6, 0, 0, 1720, 1) :: (6, 0, 0, 0, 1721, 1) :: (18, 0, 0, 0, 1722, 1) :: (24, 79, 0, 15, 1723, 3) :: (2, 6, 0, 0, 1726, 2) :: (1, 2, 2, 0, 1728, 1) :: (24, 5, 0, 15, 1729, 3) :: (1, 5, 0, 0, 1732, 2) :: (13, 1739, 0, 0, 1734, 3) :: (4, 0, 0, 0, 1737, 1) :: (26, 0, 0, 0, 1738, 1) :: xc_0_1739
set_option maxRecDepth 100000 in
noncomputable def xc_0_1688 : List XE := (14, 2625, 0, 0, 1688, 3) :: xc_0_1691
set_option maxRecDepth 100000 in
noncomputable def xc_0_1671 : List XE := (1, 5, 0, 0, 1671, 2) :: (12, 1688, 1, 0, 1673, 3) :: (1, 3, 2, 0, 1676, 1) :: (4, 0, 0, 0, 1677, 1) :: (18, 1, 0, 0, 1678, 1) :: (1, 6, 0, 0, 1679, 2) :: (40, 0, 0, 0, 1681, 1) :: (45, 0, 0, 0, 1682, 1) :: (12, 1688, 0, 0, 1683, 3) :: (4, 0, 0, 0, 1686, 1) :: (26, 0, 0, 0, 1687, 1) :: xc_0_1688
set_option maxRecDepth 100000 in
noncomputable def xc_0_1623 : List XE := (1, 1, 2, 0, 1623, 1) :: (1, 0, 2, 0, 1624, 1) :: (1, 4, 0, 0, 1625, 2) :: (4, 3, 0, 0, 1627, 1) :: (6, 0, 0, 0, 1628, 1) :: (18, 0, 0, 0, 1629, 1) :: (1, 0, 2, 0, 1630, 1) :: (1, 4, 0, 0, 1631, 2) :: (4, 6, 0, 0, 1633, 1) :: (6, 0, 0, 0, 1634, 1) :: (18, 0, 0, 0, 1635, 1) :: (1, 3, 2, 0, 1636, 1) :: (24, 76, 0, 0, 1637, 3) :: (2, 5, 0, 0, 1640, 2) :: (1, 2, 2, 0, 1642, 1) :: (1, 0, 2, 0, 1643, 1) :: (1, 4, 0, 0, 1644, 2) :: (4, 3, 0, 0, 1646, 1) :: (6, 0, 0, 0, 1647, 1) :: (18, 0, 0, 0, 1648, 1) :: (1, 0, 2, 0, 1649, 1) :: (1, 4, 0, 0, 1650, 2) :: (4, 6, 0, 0, 1652, 1) :: (6, 0, 0, 0, 1653, 1) :: (18, 0, 0, 0, 1654, 1) :: (24, 77, 0, 15, 1655, 3) :: (2, 6, 0, 0, 1658, 2) :: (1, 2, 2, 0, 1660, 1) :: (24, 5, 0, 15, 1661, 3) :: (1, 5, 0, 0, 1664, 2) :: (13, 1671, 0, 0, 1666, 3) :: (4, 0, 0, 0, 1669, 1) :: (26, 0, 0, 0, 1670, 1) :: xc_0_1671
set_option maxRecDepth 100000 in
noncomputable def xc_0_1620 : List XE := (14, 2625, 0, 0, 1620, 3) :: xc_0_1623
set_option maxRecDepth 100000 in
noncomputable def xc_0_1603 : List XE := (1, 5, 0, 0, 1603, 2) :: (12, 1620, 1, 0, 1605, 3) :: (1, 3, 2, 0, 1608, 1) :: (4, 0, 0, 0, 1609, 1) :: (18, 1, 0, 0, 1610, 1) :: (1, 6, 0, 0, 1611, 2) :: (40, 0, 0, 0, 1613, 1) :: (45, 0, 0, 0, 1614, 1) :: (12, 1620, 0, 0, 1615, 3) :: (4, 0, 0, 0, 1618, 1) :: (26, 0, 0, 0, 1619, 1) :: xc_0_1620
set_option maxRecDepth 100000 in
noncomputable def xc_0_1555 : List XE := (1, 1, 2, 0, 1555, 1) :: (1, 0, 2, 0, 1556, 1) :: (1, 4, 0, 0, 1557, 2) :: (4, 3, 0, 0, 1559, 1) :: (6, 0, 0, 0, 1560, 1) :: (18, 0, 0, 0, 1561, 1) :: (1, 0, 2, 0, 1562, 1) :: (1, 4, 0, 0, 1563, 2) :: (4, 6, 0, 0, 1565, 1) :: (6, 0, 0, 0, 1566, 1) :: (18, 0, 0, 0, 1567, 1) :: (1, 3, 2, 0, 1568, 1) :: (24, 74, 0, 0, 1569, 3) :: (2, 5, 0, 0, 1572, 2) :: (1, 2, 2, 0, 1574, 1) :: (1, 0, 2, 0, 1575, 1) :: (1, 4, 0, 0, 1576, 2) :: (4, 3, 0, 0, 1578, 1) :: (6, 0, 0, 0, 1579, 1) :: (18, 0, 0, 0, 1580, 1) :: (1, 0, 2, 0, 1581, 1) :: (1, 4, 0, 0, 1582, 2) :: (4, 6, 0, 0, 1584, 1) :: (6, 0, 0, 0, 1585, 1) :: (18, 0, 0, 0, 1586, 1) :: (24, 75, 0, 15, 1587, 3) :: (2, 6, 0, 0, 1590, 2) :: (1, 2, 2, 0, 1592, 1) :: (24, 5, 0, 15, 1593, 3) :: (1, 5, 0, 0, 1596, 2) :: (13, 1603, 0, 0, 1598, 3) :: (4, 0, 0, 0, 1601, 1) :: (26, 0, 0, 0, 1602, 1) :: xc_0_1603
set_option maxRecDepth 100000 in
noncomputable def xc_0_1552 : List XE := (14, 2625, 0, 0, 1552, 3) :: xc_0_1555
set_option maxRecDepth 100000 in
noncomputable def xc_0_1535 : List XE := (1, 5, 0, 0, 1535, 2) :: (12, 1552, 1, 0, 1537, 3) :: (1, 3, 2, 0, 1540, 1) :: (4, 0, 0, 0, 1541, 1) :: (18, 1, 0, 0, 1542, 1) :: (1, 6, 0, 0, 1543, 2) :: (40, 0, 0, 0, 1545, 1) :: (45, 0, 0, 0, 1546, 1) :: (12, 1552, 0, 0, 1547, 3) :: (4, 0, 0, 0, 1550, 1) :: (26, 0, 0, 0, 1551, 1) :: xc_0_1552
set_option maxRecDepth 100000 in
noncomputable def xc_0_1499 : List XE := (1, 1, 2, 0, 1499, 1) :: (1, 0, 2, 0, 1500, 1) :: (1, 4, 0, 0, 1501, 2) :: (4, 3, 0, 0, 1503, 1) :: (6, 0, 0, 0, 1504, 1) :: (18, 0, 0, 0, 1505, 1) :: (1, 3, 2, 0, 1506, 1) :: (24, 72, 0, 0, 1507, 3) :: (2, 5, 0, 0, 1510, 2) :: (1, 2, 2, 0, 1512, 1) :: (1, 0, 2, 0, 1513, 1) :: (1, 4, 0, 0, 1514, 2) :: (4, 3, 0, 0, 1516, 1) :: (6, 0, 0, 0, 1517, 1) :: (18, 0, 0, 0, 1518, 1) :: (24, 73, 0, 15, 1519, 3) :: (2, 6, 0, 0, 1522, 2) :: (1, 2, 2, 0, 1524, 1) :: (24, 5, 0, 15, 1525, 3) :: (1, 5, 0, 0, 1528, 2) :: (13, 1535, 0, 0, 1530, 3) :: (4, 0, 0, 0, 1533, 1) :: (26, 0, 0, 0, 1534, 1) :: xc_0_1535
set_option maxRecDepth 100000 in
noncomputable def xc_0_1496 : List XE := (14, 2625, 0, 0, 1496, 3) :: xc_0_1499
set_option maxRecDepth 100000 in
noncomputable def xc_0_1479 : List XE := (1, 5, 0, 0, 1479, 2) :: (12, 1496, 1, 0, 1481, 3) :: (1, 3, 2, 0, 1484, 1) :: (4, 0, 0, 0, 1485, 1) :: (18, 1, 0, 0, 1486, 1) :: (1, 6, 0, 0, 1487, 2) :: (40, 0, 0, 0, 1489, 1) :: (45, 0, 0, 0, 1490, 1) :: (12, 1496, 0, 0, 1491, 3) :: (4, 0, 0, 0, 1494, 1) :: (26, 0, 0, 0, 1495, 1) :: xc_0_1496
set_option maxRecDepth 100000 in
noncomputable def xc_0_1443 : List XE := (1, 1, 2, 0, 1443, 1) :: (1, 0, 2, 0, 1444, 1) :: (1, 4, 0, 0, 1445, 2) :: (4, 3, 0, 0, 1447, 1) :: (6, 0, 0, 0, 1448, 1) :: (18, 0, 0, 0, 1449, 1) :: (1, 3, 2, 0, 1450, 1) :: (24, 70, 0, 0, 1451, 3) :: (2, 5, 0, 0, 1454, 2) :: (1, 2, 2, 0, 1456, 1) :: (1, 0, 2, 0, 1457, 1) :: (1, 4, 0, 0, 1458, 2) :: (4, 3, 0, 0, 1460, 1) :: (6, 0, 0, 0, 1461, 1) :: (18, 0, 0, 0, 1462, 1) :: (24, 71, 0, 15, 1463, 3) :: (2, 6, 0, 0, 1466, 2) :: (1, 2, 2, 0, 1468, 1) :: (24, 5, 0, 15, 1469, 3) :: (1, 5, 0, 0, 1472, 2) :: (13, 1479, 0, 0, 1474, 3) :: (4, 0, 0, 0, 1477, 1) :: (26, 0, 0, 0, 1478, 1) :: xc_0_1479
set_option maxRecDepth 100000 in
noncomputable def xc_0_1440 : List XE := (14, 2625, 0, 0, 1440, 3) :: xc_0_1443
set_option maxRecDepth 100000 in
noncomputable def xc_0_1423 : List XE := (1, 5, 0, 0, 1423, 2) :: (12, 1440, 1, 0, 1425, 3) :: (1, 3, 2, 0, 1428, 1) :: (4, 0, 0, 0, 1429, 1) :: (18, 1, 0, 0, 1430, 1) :: (1, 6, 0, 0, 1431, 2) :: (40, 0, 0, 0, 1433, 1) :: (45, 0, 0, 0, 1434, 1) :: (12, 1440, 0, 0, 1435, 3) :: (4, 0, 0, 0, 1438, 1) :: (26, 0, 0, 0, 1439, 1) :: xc_0_1440
set_option maxRecDepth 100000 in
noncomputable def xc_0_1387 : List XE := (1, 1, 2, 0, 1387, 1) :: (1, 0, 2, 0, 1388, 1) :: (1, 4, 0, 0, 1389, 2) :: (4, 3, 0, 0, 1391, 1) :: (6, 0, 0, 0, 1392, 1) :: (18, 0, 0, 0, 1393, 1) :: (1, 3, 2, 0, 1394, 1) :: (24, 68, 0, 0, 1395, 3) :: (2, 5, 0, 0, 1398, 2) :: (1, 2, 2, 0, 1400, 1) :: (1, 0, 2, 0, 1401, 1) :: (1, 4, 0, 0, 1402, 2) :: (4, 3, 0, 0, 1404, 1) :: (6, 0, 0, 0, 1405, 1) :: (18, 0, 0, 0, 1406, 1) :: (24, 69, 0, 15, 1407, 3) :: (2, 6, 0, 0, 1410, 2) :: (1, 2, 2, 0, 1412, 1) :: (24, 5, 0, 15, 1413, 3) :: (1, 5, 0, 0, 1416, 2) :: (13, 1423, 0, 0, 1418, 3) :: (4, 0, 0, 0, 1421, 1) :: (26, 0, 0, 0, 1422, 1) :: xc_0_1423
set_option maxRecDepth 100000 in
noncomputable def xc_0_1384 : List XE := (14, 2625, 0, 0, 1384, 3) :: xc_0_1387
set_option maxRecDepth 100000 in
noncomputable def xc_0_1378 : List XE := (45, 0, 0, 0, 1378, 1) :: (12, 1384, 0, 0, 1379, 3) :: (4, 0, 0, 0, 1382, 1) :: (26, 0, 0, 0, 1383, 1) :: xc_0_1384
set_option maxRecDepth 100000 in
noncomputable def xc_0_1377 : List XE := (4, 1, 0, 0, 1377, 1) :: xc_0_1378
set_option maxRecDepth 100000 in
noncomputable def xc_0_1360 : List XE := (1, 5, 0, 0, 1360, 2) :: (12, 1384, 1, 0, 1362, 3) :: (1, 3, 2, 0, 1365, 1) :: (4, 0, 0, 0, 1366, 1) :: (18, 1, 0, 0, 1367, 1) :: (1, 6, 0, 0, 1368, 2) :: (12, 1377, 0, 0, 1370, 3) :: (4, 10, 0, 0, 1373, 1) :: (14, 1378, 0, 0, 1374, 3) :: xc_0_1377
set_option maxRecDepth 100000 in
noncomputable def xc_0_1324 : List XE := (1, 1, 2, 0, 1324, 1) :: (1, 0, 2, 0, 1325, 1) :: (1, 4, 0, 0, 1326, 2) :: (4, 3, 0, 0, 1328, 1) :: (6, 0, 0, 0, 1329, 1) :: (18, 0, 0, 0, 1330, 1) :: (1, 3, 2, 0, 1331, 1) :: (24, 66, 0, 0, 1332, 3) :: (2, 5, 0, 0, 1335, 2) :: (1, 2, 2, 0, 1337, 1) :: (1, 0, 2, 0, 1338, 1) :: (1, 4, 0, 0, 1339, 2) :: (4, 3, 0, 0, 1341, 1) :: (6, 0, 0, 0, 1342, 1) :: (18, 0, 0, 0, 1343, 1) :: (24, 67, 0, 15, 1344, 3) :: (2, 6, 0, 0, 1347, 2) :: (1, 2, 2, 0, 1349, 1) :: (24, 5, 0, 15, 1350, 3) :: (1, 5, 0, 0, 1353, 2) :: (13, 1360, 0, 0, 1355, 3) :: (4, 0, 0, 0, 1358, 1) :: (26, 0, 0, 0, 1359, 1) :: xc_0_1360
set_option maxRecDepth 100000 in
noncomputable def xc_0_1311 : List XE := (1, 1, 2, 0, 1311, 1) :: (24, 64, 0, 11, 1312, 3) :: (1, 2, 2, 0, 1315, 1) :: (24, 65, 0, 15, 1316, 3) :: (13, 2625, 0, 0, 1319, 3) :: (4, 0, 0, 0, 1322, 1) :: (26, 0, 0, 0, 1323, 1) :: xc_0_1324
set_option maxRecDepth 100000 in
noncomputable def xc_0_1308 : List XE := (14, 2625, 0, 0, 1308, 3) :: xc_0_1311
set_option maxRecDepth 100000 in
noncomputable def xc_0_1291 : List XE := (1, 5, 0, 0, 1291, 2) :: (12, 1308, 1, 0, 1293, 3) :: (1, 3, 2, 0, 1296, 1) :: (4, 0, 0, 0, 1297, 1) :: (18, 1, 0, 0, 1298, 1) :: (1, 6, 0, 0, 1299, 2) :: (40, 0, 0, 0, 1301, 1) :: (45, 0, 0, 0, 1302, 1) :: (12, 1308, 0, 0, 1303, 3) :: (4, 0, 0, 0, 1306, 1) :: (26, 0, 0, 0, 1307, 1) :: xc_0_1308
set_option maxRecDepth 100000 in
noncomputable def xc_0_1267 : List XE := (1, 1, 2, 0, 1267, 1) :: (1, 3, 2, 0, 1268, 1) :: (24, 62, 0, 0, 1269, 3) :: (2, 5, 0, 0, 1272, 2) :: (1, 2, 2, 0, 1274, 1) :: (24, 63, 0, 15, 1275, 3) :: (2, 6, 0, 0, 1278, 2) :: (1, 2, 2, 0, 1280, 1) :: (24, 5, 0, 15, 1281, 3) :: (1, 5, 0, 0, 1284, 2) :: (13, 1291, 0, 0, 1286, 3) :: (4, 0, 0, 0, 1289, 1) :: (26, 0, 0, 0, 1290, 1) :: xc_0_1291
set_option maxRecDepth 100000 in
noncomputable def xc_0_1264 : List XE := (14, 2625, 0, 0, 1264, 3) :: xc_0_1267
set_option maxRecDepth 100000 in
noncomputable def xc_0_1247 : List XE := (1, 5, 0, 0, 1247, 2) :: (12, 1264, 1, 0, 1249, 3) :: (1, 3, 2, 0, 1252, 1) :: (4, 0, 0, 0, 1253, 1) :: (18, 1, 0, 0, 1254, 1) :: (1, 6, 0, 0, 1255, 2) :: (40, 0, 0, 0, 1257, 1) :: (45, 0, 0, 0, 1258, 1) :: (12, 1264, 0, 0, 1259, 3) :: (4, 0, 0, 0, 1262, 1) :: (26, 0, 0, 0, 1263, 1) :: xc_0_1264
set_option maxRecDepth 100000 in
noncomputable def xc_0_1223 : List XE := (1, 1, 2, 0, 1223, 1) :: (1, 3, 2, 0, 1224, 1) :: (24, 60, 0, 0, 1225, 3) :: (2, 5, 0, 0, 1228, 2) :: (1, 2, 2, 0, 1230, 1) :: (24, 61, 0, 15, 1231, 3) :: (2, 6, 0, 0, 1234, 2) :: (1, 2, 2, 0, 1236, 1) :: (24, 5, 0, 15, 1237, 3) :: (1, 5, 0, 0, 1240, 2) :: (13, 1247, 0, 0, 1242, 3) :: (4, 0, 0, 0, 1245, 1) :: (26, 0, 0, 0, 1246, 1) :: xc_0_1247
set_option maxRecDepth 100000 in
noncomputable def xc_0_1220 : List XE := (14, 2625, 0, 0, 1220, 3) :: xc_0_1223
set_option maxRecDepth 100000 in
noncomputable def xc_0_1203 : List XE := (1, 5, 0, 0, 1203, 2) :: (12, 1220, 1, 0, 1205, 3) :: (1, 3, 2, 0, 1208, 1) :: (4, 0, 0, 0, 1209, 1) :: (18, 1, 0, 0, 1210, 1) :: (1, 6, 0, 0, 1211, 2) :: (40, 0, 0, 0, 1213, 1) :: (45, 0, 0, 0, 1214, 1) :: (12, 1220, 0, 0, 1215, 3) :: (4, 0, 0, 0, 1218, 1) :: (26, 0, 0, 0, 1219, 1) :: xc_0_1220
set_option maxRecDepth 100000 in
noncomputable def xc_0_1167 : List XE := (1, 1, 2, 0, 1167, 1) :: (1, 0, 2, 0, 1168, 1) :: (1, 4, 0, 0, 1169, 2) :: (4, 3, 0, 0, 1171, 1) :: (6, 0, 0, 0, 1172, 1) :: (18, 0, 0, 0, 1173, 1) :: (1, 3, 2, 0, 1174, 1) :: (24, 58, 0, 0, 1175, 3) :: (2, 5, 0, 0, 1178, 2) :: (1, 2, 2, 0, 1180, 1) :: (1, 0, 2, 0, 1181, 1) :: (1, 4, 0, 0, 1182, 2) :: (4, 3, 0, 0, 1184, 1) :: (6, 0, 0, 0, 1185, 1) :: (18, 0, 0, 0, 1186, 1) :: (24, 59, 0, 15, 1187, 3) :: (2, 6, 0, 0, 1190, 2) :: (1, 2, 2, 0, 1192, 1) :: (24, 5, 0, 15, 1193, 3) :: (1, 5, 0, 0, 1196, 2) :: (13, 1203, 0, 0, 1198, 3) :: (4, 0, 0, 0, 1201, 1) :: (26, 0, 0, 0, 1202, 1) :: xc_0_1203
set_option maxRecDepth 100000 in
noncomputable def xc_0_1164 : List XE := (14, 2625, 0, 0, 1164, 3) :: xc_0_1167
set_option maxRecDepth 100000 in
noncomputable def xc_0_1147 : List XE := (1, 5, 0, 0, 1147, 2) :: (12, 1164, 1, 0, 1149, 3) :: (1, 3, 2, 0, 1152, 1) :: (4, 0, 0, 0, 1153, 1) :: (18, 1, 0, 0, 1154, 1) :: (1, 6, 0, 0, 1155, 2) :: (40, 0, 0, 0, 1157, 1) :: (45, 0, 0, 0, 1158, 1) :: (12, 1164, 0, 0, 1159, 3) :: (4, 0, 0, 0, 1162, 1) :: (26, 0, 0, 0, 1163, 1) :: xc_0_1164
set_option maxRecDepth 100000 in
noncomputable def xc_0_1111 : List XE := (1, 1, 2, 0, 1111, 1) :: (1, 0, 2, 0, 1112, 1) :: (1, 4, 0, 0, 1113, 2) :: (4, 3, 0, 0, 1115, 1) :: (6, 0, 0, 0, 1116, 1) :: (18, 0, 0, 0, 1117, 1) :: (1, 3, 2, 0, 1118, 1) :: (24, 56, 0, 0, 1119, 3) :: (2, 5, 0, 0, 1122, 2) :: (1, 2, 2, 0, 1124, 1) :: (1, 0, 2, 0, 1125, 1) :: (1, 4, 0, 0, 1126, 2) :: (4, 3, 0, 0, 1128, 1) :: (6, 0, 0, 0, 1129, 1) :: (18, 0, 0, 0, 1130, 1) :: (24, 57, 0, 15, 1131, 3) :: (2, 6, 0, 0, 1134, 2) :: (1, 2, 2, 0, 1136, 1) :: (24, 5, 0, 15, 1137, 3) :: (1, 5, 0, 0, 1140, 2) :: (13, 1147, 0, 0, 1142, 3) :: (4, 0, 0, 0, 1145, 1) :: (26, 0, 0, 0, 1146, 1) :: xc_0_1147
set_option maxRecDepth 100000 in
noncomputable def xc_0_1098 : List XE := (1, 1, 2, 0, 1098, 1) :: (24, 54, 0, 11, 1099, 3) :: (1, 2, 2, 0, 1102, 1) :: (24, 55, 0, 15, 1103, 3) :: (13, 2625, 0, 0, 1106, 3) :: (4, 0, 0, 0, 1109, 1) :: (26, 0, 0, 0, 1110, 1) :: xc_0_1111
set_option maxRecDepth 100000 in
noncomputable def xc_0_1085 : List XE := (1, 1, 2, 0, 1085, 1) :: (24, 52, 0, 11, 1086, 3) :: (1, 2, 2, 0, 1089, 1) :: (24, 53, 0, 15, 1090, 3) :: (13, 2625, 0, 0, 1093, 3) :: (4, 0, 0, 0, 1096, 1) :: (26, 0, 0, 0, 1097, 1) :: xc_0_1098
set_option maxRecDepth 100000 in
noncomputable def xc_0_1082 : List XE := (14, 2625, 0, 0, 1082, 3) :: xc_0_1085
set_option maxRecDepth 100000 in
noncomputable def xc_0_1065 : List XE := (1, 5, 0, 0, 1065, 2) :: (12, 1082, 1, 0, 1067, 3) :: (1, 3, 2, 0, 1070, 1) :: (4, 0, 0, 0, 1071, 1) :: (18, 1, 0, 0, 1072, 1) :: (1, 6, 0, 0, 1073, 2) :: (40, 0, 0, 0, 1075, 1) :: (45, 0, 0, 0, 1076, 1) :: (12, 1082, 0, 0, 1077, 3) :: (4, 0, 0, 0, 1080, 1) :: (26, 0, 0, 0, 1081, 1) :: xc_0_1082
set_option maxRecDepth 100000 in
noncomputable def xc_0_1029 : List XE := (1, 1, 2, 0, 1029, 1) :: (1, 0, 2, 0, 1030, 1) :: (1, 4, 0, 0, 1031, 2) :: (4, 3, 0, 0, 1033, 1) :: (6, 0, 0, 0, 1034, 1) :: (18, 0, 0, 0, 1035, 1) :: (1, 3, 2, 0, 1036, 1) :: (24, 50, 0, 0, 1037, 3) :: (2, 5, 0, 0, 1040, 2) :: (1, 2, 2, 0, 1042, 1) :: (1, 0, 2, 0, 1043, 1) :: (1, 4, 0, 0, 1044, 2) :: (4, 3, 0, 0, 1046, 1) :: (6, 0, 0, 0, 1047, 1) :: (18, 0, 0, 0, 1048, 1) :: (24, 51, 0, 15, 1049, 3) :: (2, 6, 0, 0, 1052, 2) :: (1, 2, 2, 0, 1054, 1) :: (24, 5, 0, 15, 1055, 3) :: (1, 5, 0, 0, 1058, 2) :: (13, 1065, 0, 0, 1060, 3) :: (4, 0, 0, 0, 1063, 1) :: (26, 0, 0, 0, 1064, 1) :: xc_0_1065
set_option maxRecDepth 100000 in
noncomputable def xc_0_1026 : List XE := (14, 2625, 0, 0, 1026, 3) :: xc_0_1029
set_option maxRecDepth 100000 in
noncomputable def xc_0_1009 : List XE := (1, 5, 0, 0, 1009, 2) :: (12, 1026, 1, 0, 1011, 3) :: (1, 3, 2, 0, 1014, 1) :: (4, 0, 0, 0, 1015, 1) :: (18, 1, 0, 0, 1016, 1) :: (1, 6, 0, 0, 1017, 2) :: (40, 0, 0, 0, 1019, 1) :: (45, 0, 0, 0, 1020, 1) :: (12, 1026, 0, 0, 1021, 3) :: (4, 0, 0, 0, 1024, 1) :: (26, 0, 0, 0, 1025, 1) :: xc_0_1026
set_option maxRecDepth 100000 in
noncomputable def xc_0_973 : List XE := (1, 1, 2, 0, 973, 1) :: (1, 0, 2, 0, 974, 1) :: (1, 4, 0, 0, 975, 2) :: (4, 3, 0, 0, 977, 1) :: (6, 0, 0, 0, 978, 1) :: (18, 0, 0, 0, 979, 1) :: (1, 3, 2, 0, 980, 1) :: (24, 48, 0, 0, 981, 3) :: (2, 5, 0, 0, 984, 2) :: (1, 2, 2, 0, 986, 1) :: (1, 0, 2, 0, 987, 1) :: (1, 4, 0, 0, 988, 2) :: (4, 3, 0, 0, 990, 1) :: (6, 0, 0, 0, 991, 1) :: (18, 0, 0, 0, 992, 1) :: (24, 49, 0, 15, 993, 3) :: (2, 6, 0, 0, 996, 2) :: (1, 2, 2, 0, 998, 1) :: (24, 5, 0, 15, 999, 3) :: (1, 5, 0, 0, 1002, 2) :: (13, 1009, 0, 0, 1004, 3) :: (4, 0, 0, 0, 1007, 1) :: (26, 0, 0, 0, 1008, 1) :: xc_0_1009
set_option maxRecDepth 100000 in
noncomputable def xc_0_960 : List XE := (1, 1, 2, 0, 960, 1) :: (24, 46, 0, 11, 961, 3) :: (1, 2, 2, 0, 964, 1) :: (24, 47, 0, 15, 965, 3) :: (13, 2625, 0, 0, 968, 3) :: (4, 0, 0, 0, 971, 1) :: (26, 0, 0, 0, 972, 1) :: xc_0_973
set_option maxRecDepth 100000 in
noncomputable def xc_0_957 : List XE := (14, 2625, 0, 0, 957, 3) :: xc_0_960
set_option maxRecDepth 100000 in
noncomputable def xc_0_951 : List XE := (45, 0, 0, 0, 951, 1) :: (12, 957, 0, 0, 952, 3) :: (4, 0, 0, 0, 955, 1) :: (26, 0, 0, 0, 956, 1) :: xc_0_957
set_option maxRecDepth 100000 in
noncomputable def xc_0_950 : List XE := (4, 1, 0, 0, 950, 1) :: xc_0_951
set_option maxRecDepth 100000 in
noncomputable def xc_0_933 : List XE := (1, 5, 0, 0, 933, 2) :: (12, 957, 1, 0, 935, 3) :: (1, 3, 2, 0, 938, 1) :: (4, 0, 0, 0, 939, 1) :: (18, 1, 0, 0, 940, 1) :: (1, 6, 0, 0, 941, 2) :: (12, 950, 0, 0, 943, 3) :: (4, 10, 0, 0, 946, 1) :: (14, 951, 0, 0, 947, 3) :: xc_0_950
set_option maxRecDepth 100000 in
noncomputable def xc_0_897 : List XE := (1, 1, 2, 0, 897, 1) :: (1, 0, 2, 0, 898, 1) :: (1, 4, 0, 0, 899, 2) :: (4, 3, 0, 0, 901, 1) :: (6, 0, 0, 0, 902, 1) :: (18, 0, 0, 0, 903, 1) :: (1, 3, 2, 0, 904, 1) :: (24, 44, 0, 0, 905, 3) :: (2, 5, 0, 0, 908, 2) :: (1, 2, 2, 0, 910, 1) :: (1, 0, 2, 0, 911, 1) :: (1, 4, 0, 0, 912, 2) :: (4, 3, 0, 0, 914, 1) :: (6, 0, 0, 0, 915, 1) :: (18, 0, 0, 0, 916, 1) :: (24, 45, 0, 15, 917, 3) :: (2, 6, 0, 0, 920, 2) :: (1, 2, 2, 0, 922, 1) :: (24, 5, 0, 15, 923, 3) :: (1, 5, 0, 0, 926, 2) :: (13, 933, 0, 0, 928, 3) :: (4, 0, 0, 0, 931, 1) :: (26, 0, 0, 0, 932, 1) :: xc_0_933
set_option maxRecDepth 100000 in
noncomputable def xc_0_894 : List XE := (14, 2625, 0, 0, 894, 3) :: xc_0_897
set_option maxRecDepth 100000 in
noncomputable def xc_0_877 : List XE := (1, 5, 0, 0, 877, 2) :: (12, 894, 1, 0, 879, 3) :: (1, 3, 2, 0, 882, 1) :: (4, 0, 0, 0, 883, 1) :: (18, 1, 0, 0, 884, 1) :: (1, 6, 0, 0, 885, 2) :: (40, 0, 0, 0, 887, 1) :: (45, 0, 0, 0, 888, 1) :: (12, 894, 0, 0, 889, 3) :: (4, 0, 0, 0, 892, 1) :: (26, 0, 0, 0, 893, 1) :: xc_0_894
set_option maxRecDepth 100000 in
noncomputable def xc_0_841 : List XE := (1, 1, 2, 0, 841, 1) :: (1, 0, 2, 0, 842, 1) :: (1, 4, 0, 0, 843, 2) :: (4, 3, 0, 0, 845, 1) :: (6, 0, 0, 0, 846, 1) :: (18, 0, 0, 0, 847, 1) :: (1, 3, 2, 0, 848, 1) :: (24, 42, 0, 0, 849, 3) :: (2, 5, 0, 0, 852, 2) :: (1, 2, 2, 0, 854, 1) :: (1, 0, 2, 0, 855, 1) :: (1, 4, 0, 0, 856, 2) :: (4, 3, 0, 0, 858, 1) :: (6, 0, 0, 0, 859, 1) :: (18, 0, 0, 0, 860, 1) :: (24, 43, 0, 15, 861, 3) :: (2, 6, 0, 0, 864, 2) :: (1, 2, 2, 0, 866, 1) :: (24, 5, 0, 15, 867, 3) :: (1, 5, 0, 0, 870, 2) :: (13, 877, 0, 0, 872, 3) :: (4, 0, 0, 0, 875, 1) :: (26, 0, 0, 0, 876, 1) :: xc_0_877
set_option maxRecDepth 100000 in
noncomputable def xc_0_838 : List XE := (14, 2625, 0, 0, 838, 3) :: xc_0_841
set_option maxRecDepth 100000 in
noncomputable def xc_0_821 : List XE := (1, 5, 0, 0, 821, 2) :: (12, 838, 1, 0, 823, 3) :: (1, 3, 2, 0, 826, 1) :: (4, 0, 0, 0, 827, 1) :: (18, 1, 0, 0, 828, 1) :: (1, 6, 0, 0, 829, 2) :: (40, 0, 0, 0, 831, 1) :: (45, 0, 0, 0, 832, 1) :: (12, 838, 0, 0, 833, 3) :: (4, 0, 0, 0, 836, 1) :: (26, 0, 0, 0, 837, 1) :: xc_0_838
set_option maxRecDepth 100000 in
noncomputable def xc_0_785 : List XE := (1, 1, 2, 0, 785, 1) :: (1, 0, 2, 0, 786, 1) :: (1, 4, 0, 0, 787, 2) :: (4, 3, 0, 0, 789, 1) :: (6, 0, 0, 0, 790, 1) :: (18, 0, 0, 0, 791, 1) :: (1, 3, 2, 0, 792, 1) :: (24, 40, 0, 0, 793, 3) :: (2, 5, 0, 0, 796, 2) :: (1, 2, 2, 0, 798, 1) :: (1, 0, 2, 0, 799, 1) :: (1, 4, 0, 0, 800, 2) :: (4, 3, 0, 0, 802, 1) :: (6, 0, 0, 0, 803, 1) :: (18, 0, 0, 0, 804, 1) :: (24, 41, 0, 15, 805, 3) :: (2, 6, 0, 0, 808, 2) :: (1, 2, 2, 0, 810, 1) :: (24, 5, 0, 15, 811, 3) :: (1, 5, 0, 0, 814, 2) :: (13, 821, 0, 0, 816, 3) :: (4, 0, 0, 0, 819, 1) :: (26, 0, 0, 0, 820, 1) :: xc_0_821
set_option maxRecDepth 100000 in
noncomputable def xc_0_772 : List XE := (1, 1, 2, 0, 772, 1) :: (24, 38, 0, 11, 773, 3) :: (1, 2, 2, 0, 776, 1) :: (24, 39, 0, 15, 777, 3) :: (13, 2625, 0, 0, 780, 3) :: (4, 0, 0, 0, 783, 1) :: (26, 0, 0, 0, 784, 1) :: xc_0_785
set_option maxRecDepth 100000 in
noncomputable def xc_0_759 : List XE := (1, 1, 2, 0, 759, 1) :: (24, 36, 0, 11, 760, 3) :: (1, 2, 2, 0, 763, 1) :: (24, 37, 0, 15, 764, 3) :: (13, 2625, 0, 0, 767, 3) :: (4, 0, 0, 0, 770, 1) :: (26, 0, 0, 0, 771, 1) :: xc_0_772
set_option maxRecDepth 100000 in
noncomputable def xc_0_746 : List XE := (1, 1, 2, 0, 746, 1) :: (24, 34, 0, 11, 747, 3) :: (1, 2, 2, 0, 750, 1) :: (24, 35, 0, 15, 751, 3) :: (13, 2625, 0, 0, 754, 3) :: (4, 0, 0, 0, 757, 1) :: (26, 0, 0, 0, 758, 1) :: xc_0_759
set_option maxRecDepth 100000 in
noncomputable def xc_0_733 : List XE := (1, 1, 2, 0, 733, 1) :: (24, 32, 0, 11, 734, 3) :: (1, 2, 2, 0, 737, 1) :: (24, 33, 0, 15, 738, 3) :: (13, 2625, 0, 0, 741, 3) :: (4, 0, 0, 0, 744, 1) :: (26, 0, 0, 0, 745, 1) :: xc_0_746
set_option maxRecDepth 100000 in
noncomputable def xc_0_720 : List XE := (1, 1, 2, 0, 720, 1) :: (24, 30, 0, 11, 721, 3) :: (1, 2, 2, 0, 724, 1) :: (24, 31, 0, 15, 725, 3) :: (13, 2625, 0, 0, 728, 3) :: (4, 0, 0, 0, 731, 1) :: (26, 0, 0, 0, 732, 1) :: xc_0_733
set_option maxRecDepth 100000 in
noncomputable def xc_0_707 : List XE := (1, 1, 2, 0, 707, 1) :: (24, 28, 0, 11, 708, 3) :: (1, 2, 2, 0, 711, 1) :: (24, 29, 0, 15, 712, 3) :: (13, 2625, 0, 0, 715, 3) :: (4, 0, 0, 0, 718, 1) :: (26, 0, 0, 0, 719, 1) :: xc_0_720
set_option maxRecDepth 100000 in
noncomputable def xc_0_694 : List XE := (1, 1, 2, 0, 694, 1) :: (24, 26, 0, 11, 695, 3) :: (1, 2, 2, 0, 698, 1) :: (24, 27, 0, 15, 699, 3) :: (13, 2625, 0, 0, 702, 3) :: (4, 0, 0, 0, 705, 1) :: (26, 0, 0, 0, 706, 1) :: xc_0_707
set_option maxRecDepth 100000 in
noncomputable def xc_0_681 : List XE := (1, 1, 2, 0, 681, 1) :: (24, 24, 0, 11, 682, 3) :: (1, 2, 2, 0, 685, 1) :: (24, 25, 0, 15, 686, 3) :: (13, 2625, 0, 0, 689, 3) :: (4, 0, 0, 0, 692, 1) :: (26, 0, 0, 0, 693, 1) :: xc_0_694
set_option maxRecDepth 100000 in
noncomputable def xc_0_668 : List XE := (1, 1, 2, 0, 668, 1) :: (24, 22, 0, 11, 669, 3) :: (1, 2, 2, 0, 672, 1) :: (24, 23, 0, 15, 673, 3) :: (13, 2625, 0, 0, 676, 3) :: (4, 0, 0, 0, 679, 1) :: (26, 0, 0, 0, 680, 1) :: xc_0_681
set_option maxRecDepth 100000 in
noncomputable def xc_0_655 : List XE := (1, 1, 2, 0, 655, 1) :: (24, 20, 0, 11, 656, 3) :: (1, 2, 2, 0, 659, 1) :: (24, 21, 0, 15, 660, 3) :: (13, 2625, 0, 0, 663, 3) :: (4, 0, 0, 0, 666, 1) :: (26, 0, 0, 0, 667, 1) :: xc_0_668
set_option maxRecDepth 100000 in
noncomputable def xc_0_642 : List XE := (1, 1, 2, 0, 642, 1) :: (24, 18, 0, 11, 643, 3) :: (1, 2, 2, 0, 646, 1) :: (24, 19, 0, 15, 647, 3) :: (13, 2625, 0, 0, 650, 3) :: (4, 0, 0, 0, 653, 1) :: (26, 0, 0, 0, 654, 1) :: xc_0_655
set_option maxRecDepth 100000 in
noncomputable def xc_0_639 : List XE := (14, 2625, 0, 0, 639, 3) :: xc_0_642
set_option maxRecDepth 100000 in
noncomputable def xc_0_622 : List XE := (1, 5, 0, 0, 622, 2) :: (12, 639, 1, 0, 624, 3) :: (1, 3, 2, 0, 627, 1) :: (4, 0, 0, 0, 628, 1) :: (18, 1, 0, 0, 629, 1) :: (1, 6, 0, 0, 630, 2) :: (40, 0, 0, 0, 632, 1) :: (45, 0, 0, 0, 633, 1) :: (12, 639, 0, 0, 634, 3) :: (4, 0, 0, 0, 637, 1) :: (26, 0, 0, 0, 638, 1) :: xc_0_639
set_option maxRecDepth 100000 in
noncomputable def xc_0_574 : List XE := (1, 1, 2, 0, 574, 1) :: (1, 0, 2, 0, 575, 1) :: (1, 4, 0, 0, 576, 2) :: (4, 3, 0, 0, 578, 1) :: (6, 0, 0, 0, 579, 1) :: (18, 0, 0, 0, 580, 1) :: (1, 0, 2, 0, 581, 1) :: (1, 4, 0, 0, 582, 2) :: (4, 6, 0, 0, 584, 1) :: (6, 0, 0, 0, 585, 1) :: (18, 0, 0, 0, 586, 1) :: (1, 3, 2, 0, 587, 1) :: (24, 16, 0, 0, 588, 3) :: (2, 5, 0, 0, 591, 2) :: (1, 2, 2, 0, 593, 1) :: (1, 0, 2, 0, 594, 1) :: (1, 4, 0, 0, 595, 2) :: (4, 3, 0, 0, 597, 1) :: (6, 0, 0, 0, 598, 1) :: (18, 0, 0, 0, 599, 1) :: (1, 0, 2, 0, 600, 1) :: (1, 4, 0, 0, 601, 2) :: (4, 6, 0, 0, 603, 1) :: (6, 0, 0, 0, 604, 1) :: (18, 0, 0, 0, 605, 1) :: (24, 17, 0, 15, 606, 3) :: (2, 6, 0, 0, 609, 2) :: (1, 2, 2, 0, 611, 1) :: (24, 5, 0, 15, 612, 3) :: (1, 5, 0, 0, 615, 2) :: (13, 622, 0, 0, 617, 3) :: (4, 0, 0, 0, 620, 1) :: (26, 0, 0, 0, 621, 1) :: xc_0_622
set_option maxRecDepth 100000 in
noncomputable def xc_0_571 : List XE := (14, 2625, 0, 0, 571, 3) :: xc_0_574
set_option maxRecDepth 100000 in
noncomputable def xc_0_554 : List XE := (1, 5, 0, 0, 554, 2) :: (12, 571, 1, 0, 556, 3) :: (1, 3, 2, 0, 559, 1) :: (4, 0, 0, 0, 560, 1) :: (18, 1, 0, 0, 561, 1) :: (1, 6, 0, 0, 562, 2) :: (40, 0, 0, 0, 564, 1) :: (45, 0, 0, 0, 565, 1) :: (12, 571, 0, 0, 566, 3) :: (4, 0, 0, 0, 569, 1) :: (26, 0, 0, 0, 570, 1) :: xc_0_571
set_option maxRecDepth 100000 in
noncomputable def xc_0_518 : List XE := (1, 1, 2, 0, 518, 1) :: (1, 0, 2, 0, 519, 1) :: (1, 4, 0, 0, 520, 2) :: (4, 3, 0, 0, 522, 1) :: (6, 0, 0, 0, 523, 1) :: (18, 0, 0, 0, 524, 1) :: (1, 3, 2, 0, 525, 1) :: (24, 14, 0, 0, 526, 3) :: (2, 5, 0, 0, 529, 2) :: (1, 2, 2, 0, 531, 1) :: (1, 0, 2, 0, 532, 1) :: (1, 4, 0, 0, 533, 2) :: (4, 3, 0, 0, 535, 1) :: (6, 0, 0, 0, 536, 1) :: (18, 0, 0, 0, 537, 1) :: (24, 15, 0, 15, 538, 3) :: (2, 6, 0, 0, 541, 2) :: (1, 2, 2, 0, 543, 1) :: (24, 5, 0, 15, 544, 3) :: (1, 5, 0, 0, 547, 2) :: (13, 554, 0, 0, 549, 3) :: (4, 0, 0, 0, 552, 1) :: (26, 0, 0, 0, 553, 1) :: xc_0_554
set_option maxRecDepth 100000 in
noncomputable def xc_0_515 : List XE := (14, 2625, 0, 0, 515, 3) :: xc_0_518
set_option maxRecDepth 100000 in
noncomputable def xc_0_498 : List XE := (1, 5, 0, 0, 498, 2) :: (12, 515, 1, 0, 500, 3) :: (1, 3, 2, 0, 503, 1) :: (4, 0, 0, 0, 504, 1) :: (18, 1, 0, 0, 505, 1) :: (1, 6, 0, 0, 506, 2) :: (40, 0, 0, 0, 508, 1) :: (45, 0, 0, 0, 509, 1) :: (12, 515, 0, 0, 510, 3) :: (4, 0, 0, 0, 513, 1) :: (26, 0, 0, 0, 514, 1) :: xc_0_515
set_option maxRecDepth 100000 in
noncomputable def xc_0_462 : List XE := (1, 1, 2, 0, 462, 1) :: (1, 0, 2, 0, 463, 1) :: (1, 4, 0, 0, 464, 2) :: (4, 3, 0, 0, 466, 1) :: (6, 0, 0, 0, 467, 1) :: (18, 0, 0, 0, 468, 1) :: (1, 3, 2, 0, 469, 1) :: (24, 12, 0, 0, 470, 3) :: (2, 5, 0, 0, 473, 2) :: (1, 2, 2, 0, 475, 1) :: (1, 0, 2, 0, 476, 1) :: (1, 4, 0, 0, 477, 2) :: (4, 3, 0, 0, 479, 1) :: (6, 0, 0, 0, 480, 1) :: (18, 0, 0, 0, 481, 1) :: (24, 13, 0, 15, 482, 3) :: (2, 6, 0, 0, 485, 2) :: (1, 2, 2, 0, 487, 1) :: (24, 5, 0, 15, 488, 3) :: (1, 5, 0, 0, 491, 2) :: (13, 498, 0, 0, 493, 3) :: (4, 0, 0, 0, 496, 1) :: (26, 0, 0, 0, 497, 1) :: xc_0_498
set_option maxRecDepth 100000 in
noncomputable def xc_0_449 : List XE := (1, 1, 2, 0, 449, 1) :: (24, 10, 0, 11, 450, 3) :: (1, 2, 2, 0, 453, 1) :: (24, 11, 0, 15, 454, 3) :: (13, 2625, 0, 0, 457, 3) :: (4, 0, 0, 0, 460, 1) :: (26, 0, 0, 0, 461, 1) :: xc_0_462
set_option maxRecDepth 100000 in
noncomputable def xc_0_436 : List XE := (1, 1, 2, 0, 436, 1) :: (24, 8, 0, 11, 437, 3) :: (1, 2, 2, 0, 440, 1) :: (24, 9, 0, 15, 441, 3) :: (13, 2625, 0, 0, 444, 3) :: (4, 0, 0, 0, 447, 1) :: (26, 0, 0, 0, 448, 1) :: xc_0_449
set_option maxRecDepth 100000 in
noncomputable def xc_0_433 : List XE := (14, 2625, 0, 0, 433, 3) :: xc_0_436
set_option maxRecDepth 100000 in
noncomputable def xc_0_416 : List XE := (1, 5, 0, 0, 416, 2) :: (12, 433, 1, 0, 418, 3) :: (1, 3, 2, 0, 421, 1) :: (4, 0, 0, 0, 422, 1) :: (18, 1, 0, 0, 423, 1) :: (1, 6, 0, 0, 424, 2) :: (40, 0, 0, 0, 426, 1) :: (45, 0, 0, 0, 427, 1) :: (12, 433, 0, 0, 428, 3) :: (4, 0, 0, 0, 431, 1) :: (26, 0, 0, 0, 432, 1) :: xc_0_433
set_option maxRecDepth 100000 in
noncomputable def xc_0_380 : List XE := (1, 1, 2, 0, 380, 1) :: (1, 0, 2, 0, 381, 1) :: (1, 4, 0, 0, 382, 2) :: (4, 3, 0, 0, 384, 1) :: (6, 0, 0, 0, 385, 1) :: (18, 0, 0, 0, 386, 1) :: (1, 3, 2, 0, 387, 1) :: (24, 6, 0, 0, 388, 3) :: (2, 5, 0, 0, 391, 2) :: (1, 2, 2, 0, 393, 1) :: (1, 0, 2, 0, 394, 1) :: (1, 4, 0, 0, 395, 2) :: (4, 3, 0, 0, 397, 1) :: (6, 0, 0, 0, 398, 1) :: (18, 0, 0, 0, 399, 1) :: (24, 7, 0, 15, 400, 3) :: (2, 6, 0, 0, 403, 2) :: (1, 2, 2, 0, 405, 1) :: (24, 5, 0, 15, 406, 3) :: (1, 5, 0, 0, 409, 2) :: (13, 416, 0, 0, 411, 3) :: (4, 0, 0, 0, 414, 1) :: (26, 0, 0, 0, 415, 1) :: xc_0_416
set_option maxRecDepth 100000 in
noncomputable def xc_0_377 : List XE := (14, 2625, 0, 0, 377, 3) :: xc_0_380
set_option maxRecDepth 100000 in
noncomputable def xc_0_360 : List XE := (1, 5, 0, 0, 360, 2) :: (12, 377, 1, 0, 362, 3) :: (1, 3, 2, 0, 365, 1) :: (4, 0, 0, 0, 366, 1) :: (18, 1, 0, 0, 367, 1) :: (1, 6, 0, 0, 368, 2) :: (40, 0, 0, 0, 370, 1) :: (45, 0, 0, 0, 371, 1) :: (12, 377, 0, 0, 372, 3) :: (4, 0, 0, 0, 375, 1) :: (26, 0, 0, 0, 376, 1) :: xc_0_377
set_option maxRecDepth 100000 in
noncomputable def xc_0_276 : List XE := (1, 1, 2, 0, 276, 1) :: (1, 0, 2, 0, 277, 1) :: (1, 4, 0, 0, 278, 2) :: (4, 3, 0, 0, 280, 1) :: (6, 0, 0, 0, 281, 1) :: (18, 0, 0, 0, 282, 1) :: (1, 0, 2, 0, 283, 1) :: (1, 4, 0, 0, 284, 2) :: (4, 6, 0, 0, 286, 1) :: (6, 0, 0, 0, 287, 1) :: (18, 0, 0, 0, 288, 1) :: (1, 0, 2, 0, 289, 1) :: (1, 4, 0, 0, 290, 2) :: (4, 7, 0, 0, 292, 1) :: (6, 0, 0, 0, 293, 1) :: (18, 0, 0, 0, 294, 1) :: (1, 0, 2, 0, 295, 1) :: (1, 4, 0, 0, 296, 2) :: (4, 8, 0, 0, 298, 1) :: (6, 0, 0, 0, 299, 1) :: (18, 0, 0, 0, 300, 1) :: (1, 0, 2, 0, 301, 1) :: (1, 4, 0, 0, 302, 2) :: (4, 9, 0, 0, 304, 1) :: (6, 0, 0, 0, 305, 1) :: (18, 0, 0, 0, 306, 1) :: (1, 3, 2, 0, 307, 1) :: (24, 3, 0, 0, 308, 3) :: (2, 5, 0, 0, 311, 2) :: (1, 2, 2, 0, 313, 1) :: (1, 0, 2, 0, 314, 1) :: (1, 4, 0, 0, 315, 2) :: (4, 3, 0, 0, 317, 1) :: (6, 0, 0, 0, 318, 1) :: (18, 0, 0, 0, 319, 1) :: (1, 0, 2, 0, 320, 1) :: (1, 4, 0, 0, 321, 2) :: (4, 6, 0, 0, 323, 1) :: (6, 0, 0, 0, 324, 1) :: (18, 0, 0, 0, 325, 1) :: (1, 0, 2, 0, 326, 1) :: (1, 4, 0, 0, 327, 2) :: (4, 7, 0, 0, 329, 1) :: (6, 0, 0, 0, 330, 1) :: (18, 0, 0, 0, 331, 1) :: (1, 0, 2, 0, 332, 1) :: (1, 4, 0, 0, 333, 2) :: (4, 8, 0, 0, 335, 1) :: (6, 0, 0, 0, 336, 1) :: (18, 0, 0, 0, 337, 1) :: (1, 0, 2, 0, 338, 1) :: (1, 4, 0, 0, 339, 2) :: (4, 9, 0, 0, 341, 1) :: (6, 0, 0, 0, 342, 1) :: (18, 0, 0, 0, 343, 1) :: (24, 4, 0, 15, 344, 3) :: (2, 6, 0, 0, 347, 2) :: (1, 2, 2, 0, 349, 1) :: (24, 5, 0, 15, 350, 3) :: (1, 5, 0, 0, 353, 2) :: (13, 360, 0, 0, 355, 3) :: (4, 0, 0, 0, 358, 1) :: (26, 0, 0, 0, 359, 1) :: xc_0_360
set_option maxRecDepth 100000 in
noncomputable def xc_0_23 : List XE := (1, 4, 0, 0, 23, 2) :: (1, 0, 2, 0, 25, 1) :: (20, 0, 0, 0, 26, 1) :: (4, 4, 0, 0, 27, 2) :: (6, 1, 0, 0, 29, 1) :: (13, 2631, 4, 0, 30, 3) :: (1, 0, 2, 0, 33, 1) :: (1, 4, 0, 0, 34, 2) :: (18, 0, 0, 0, 36, 1) :: (4, 5, 0, 0, 37, 2) :: (6, 3, 0, 0, 39, 1) :: (15, 0, 0, 0, 40, 236) :: xc_0_276
set_option maxRecDepth 100000 in
noncomputable def xc_0_0 : List XE := (21, 10, 0, 0, 0, 3) :: (34, 0, 0, 0, 3, 1) :: (24, 1, 2, 11, 4, 3) :: (2, 1, 2, 0, 7, 1) :: (21, 14, 0, 0, 8, 3) :: (34, 0, 0, 0, 11, 1) :: (24, 2, 2, 15, 12, 3) :: (2, 2, 2, 0, 15, 1) :: (4, 3, 0, 0, 16, 1) :: (22, 1, 1, 0, 17, 2) :: (2, 3, 2, 0, 19, 1) :: (4, 0, 0, 0, 20, 1) :: (2, 4, 0, 0, 21, 2) :: xc_0_23
noncomputable def xj_0 : Lean.RArray (List XE) := .branch 1440 (.branch 894 (.branch 639 (.branch 449 (.branch 380 (.branch 360 (.branch 276 (.leaf xc_0_23) (.leaf xc_0_276)) (.branch 377 (.leaf xc_0_360) (.leaf xc_0_377))) (.branch 433 (.branch 416 (.leaf xc_0_380) (.leaf xc_0_416)) (.branch 436 (.leaf xc_0_433) (.leaf xc_0_436)))) (.branch 518 (.branch 498 (.branch 462 (.leaf xc_0_449) (.leaf xc_0_462)) (.branch 515 (.leaf xc_0_498) (.leaf xc_0_515))) (.branch 571 (.branch 554 (.leaf xc_0_518) (.leaf xc_0_554)) (.branch 574 (.leaf xc_0_571) (.branch 622 (.leaf xc_0_574) (.leaf xc_0_622)))))) (.branch 733 (.branch 681 (.branch 655 (.branch 642 (.leaf xc_0_639) (.leaf xc_0_642)) (.branch 668 (.leaf xc_0_655) (.leaf xc_0_668))) (.branch 707 (.branch 694 (.leaf xc_0_681) (.leaf xc_0_694)) (.branch 720 (.leaf xc_0_707) (.leaf xc_0_720)))) (.branch 785 (.branch 759 (.branch 746 (.leaf xc_0_733) (.leaf xc_0_746)) (.branch 772 (.leaf xc_0_759) (.leaf xc_0_772))) (.branch 838 (.branch 821 (.leaf xc_0_785) (.leaf xc_0_821)) (.branch 841 (.leaf xc_0_838) (.branch 877 (.leaf xc_0_841) (.leaf xc_0_877))))))) (.branch 1164 (.branch 1009 (.branch 951 (.branch 933 (.branch 897 (.leaf xc_0_894) (.leaf xc_0_897)) (.branch 950 (.leaf xc_0_933) (.leaf xc_0_950))) (.branch 960 (.branch 957 (.leaf xc_0_951) (.leaf xc_0_957)) (.branch 973 (.leaf xc_0_960) (.leaf xc_0_973)))) (.branch 1082 (.branch 1029 (.branch 1026 (.leaf xc_0_1009) (.leaf xc_0_1026)) (.branch 1065 (.leaf xc_0_1029) (.leaf xc_0_1065))) (.branch 1098 (.branch 1085 (.leaf xc_0_1082) (.leaf xc_0_1085)) (.branch 1111 (.leaf xc_0_1098) (.branch 1147 (.leaf xc_0_1111) (.leaf xc_0_1147)))))) (.branch 1308 (.branch 1223 (.branch 1203 (.branch 1167 (.leaf xc_0_1164) (.leaf xc_0_1167)) (.branch 1220 (.leaf xc_0_1203) (.leaf xc_0_1220))) (.branch 1264 (.branch 1247 (.leaf xc_0_1223) (.leaf xc_0_1247)) (.branch 1267 (.leaf xc_0_1264) (.branch 1291 (.leaf xc_0_1267) (.leaf xc_0_1291))))) (.branch 1377 (.branch 1324 (.branch 1311 (.leaf xc_0_1308) (.leaf xc_0_1311)) (.branch 1360 (.leaf xc_0_1324) (.leaf xc_0_1360))) (.branch 1384 (.branch 1378 (.leaf xc_0_1377) (.leaf xc_0_1378)) (.branch 1387 (.leaf xc_0_1384) (.branch 1423 (.leaf xc_0_1387) (.leaf xc_0_1423)))))))) (.branch 2106 (.branch 1795 (.branch 1603 (.branch 1499 (.branch 1479 (.branch 1443 (.leaf xc_0_1440) (.leaf xc_0_1443)) (.branch 1496 (.leaf xc_0_1479) (.leaf xc_0_1496))) (.branch 1552 (.branch 1535 (.leaf xc_0_1499) (.leaf xc_0_1535)) (.branch 1555 (.leaf xc_0_1552) (.leaf xc_0_1555)))) (.branch 1688 (.branch 1623 (.branch 1620 (.leaf xc_0_1603) (.leaf xc_0_1620)) (.branch 1671 (.leaf xc_0_1623) (.leaf xc_0_1671))) (.branch 1739 (.branch 1691 (.leaf xc_0_1688) (.leaf xc_0_1691)) (.branch 1756 (.leaf xc_0_1739) (.branch 1759 (.leaf xc_0_1756) (.leaf xc_0_1759)))))) (.branch 1949 (.branch 1880 (.branch 1815 (.branch 1812 (.leaf xc_0_1795) (.leaf xc_0_1812)) (.branch 1863 (.leaf xc_0_1815) (.leaf xc_0_1863))) (.branch 1931 (.branch 1883 (.leaf xc_0_1880) (.leaf xc_0_1883)) (.branch 1948 (.leaf xc_0_1931) (.leaf xc_0_1948)))) (.branch 2011 (.branch 1958 (.branch 1955 (.leaf xc_0_1949) (.leaf xc_0_1955)) (.branch 1994 (.leaf xc_0_1958) (.leaf xc_0_1994))) (.branch 2050 (.branch 2014 (.leaf xc_0_2011) (.leaf xc_0_2014)) (.branch 2067 (.leaf xc_0_2050) (.branch 2070 (.leaf xc_0_2067) (.leaf xc_0_2070))))))) (.branch 2369 (.branch 2202 (.branch 2133 (.branch 2124 (.branch 2123 (.leaf xc_0_2106) (.leaf xc_0_2123)) (.branch 2130 (.leaf xc_0_2124) (.leaf xc_0_2130))) (.branch 2182 (.branch 2146 (.leaf xc_0_2133) (.leaf xc_0_2146)) (.branch 2199 (.leaf xc_0_2182) (.leaf xc_0_2199)))) (.branch 2306 (.branch 2255 (.branch 2238 (.leaf xc_0_2202) (.leaf xc_0_2238)) (.branch 2258 (.leaf xc_0_2255) (.leaf xc_0_2258))) (.branch 2324 (.branch 2323 (.leaf xc_0_2306) (.leaf xc_0_2323)) (.branch 2330 (.leaf xc_0_2324) (.branch 2333 (.leaf xc_0_2330) (.leaf xc_0_2333)))))) (.branch 2522 (.branch 2427 (.branch 2374 (.branch 2371 (.leaf xc_0_2369) (.leaf xc_0_2371)) (.branch 2410 (.leaf xc_0_2374) (.leaf xc_0_2410))) (.branch 2466 (.branch 2430 (.leaf xc_0_2427) (.leaf xc_0_2430)) (.branch 2483 (.leaf xc_0_2466) (.branch 2486 (.leaf xc_0_2483) (.leaf xc_0_2486))))) (.branch 2591 (.branch 2542 (.branch 2539 (.leaf xc_0_2522) (.leaf xc_0_2539)) (.branch 2555 (.leaf xc_0_2542) (.leaf xc_0_2555))) (.branch 2611 (.branch 2608 (.leaf xc_0_2591) (.leaf xc_0_2608)) (.branch 2625 (.leaf xc_0_2611) (.branch 2631 (.leaf xc_0_2625) (.leaf xc_0_2631))))))))
-- 1: EmberScript.<init>()V
set_option maxRecDepth 100000 in
noncomputable def xc_1_0 : List XE := (1, 0, 2, 0, 0, 1) :: (25, 0, 0, 0, 1, 3) :: (1, 0, 2, 0, 4, 1) :: (21, 1, 0, 0, 5, 3) :: (34, 0, 0, 0, 8, 1) :: (24, 114, 2, 2, 9, 3) :: (17, 10, 0, 2, 12, 3) :: (1, 0, 2, 0, 15, 1) :: (21, 4, 0, 0, 16, 3) :: (34, 0, 0, 0, 19, 1) :: (1, 0, 2, 0, 20, 1) :: (16, 10, 0, 2, 21, 3) :: (24, 115, 2, 5, 24, 3) :: (17, 10, 1, 2, 27, 3) :: (1, 0, 2, 0, 30, 1) :: (21, 3, 0, 0, 31, 3) :: (34, 0, 0, 0, 34, 1) :: (24, 116, 3, 4, 35, 3) :: (17, 10, 2, 2, 38, 3) :: (1, 0, 2, 0, 41, 1) :: (21, 9, 0, 0, 42, 3) :: (34, 0, 0, 0, 45, 1) :: (1, 0, 2, 0, 46, 1) :: (16, 10, 2, 2, 47, 3) :: (24, 117, 2, 10, 50, 3) :: (17, 10, 3, 2, 53, 3) :: (1, 0, 2, 0, 56, 1) :: (21, 9, 0, 0, 57, 3) :: (34, 0, 0, 0, 60, 1) :: (1, 0, 2, 0, 61, 1) :: (16, 10, 2, 2, 62, 3) :: (24, 117, 2, 10, 65, 3) :: (17, 10, 4, 2, 68, 3) :: (1, 0, 2, 0, 71, 1) :: (4, 11, 0, 0, 72, 1) :: (17, 10, 5, 0, 73, 3) :: (26, 9, 0, 0, 76, 1) :: []
noncomputable def xj_1 : Lean.RArray (List XE) := .leaf []
-- 2: EmberScriptModel.<init>()V
set_option maxRecDepth 100000 in
noncomputable def xc_2_0 : List XE := (1, 0, 2, 0, 0, 1) :: (25, 0, 0, 0, 1, 3) :: (1, 0, 2, 0, 4, 1) :: (4, 12, 0, 0, 5, 3) :: (22, 0, 0, 0, 8, 2) :: (17, 14, 0, 2, 10, 3) :: (1, 0, 2, 0, 13, 1) :: (4, 11, 0, 0, 14, 1) :: (17, 14, 2, 0, 15, 3) :: (1, 0, 2, 0, 18, 1) :: (21, 13, 0, 0, 19, 3) :: (34, 0, 0, 0, 22, 1) :: (21, 12, 0, 0, 23, 3) :: (34, 0, 0, 0, 26, 1) :: (1, 0, 2, 0, 27, 1) :: (16, 14, 0, 2, 28, 3) :: (4, 0, 0, 0, 31, 1) :: (24, 118, 2, 13, 32, 3) :: (16, 12, 2, 2, 35, 3) :: (24, 119, 2, 14, 38, 3) :: (17, 14, 4, 2, 41, 3) :: (1, 0, 2, 0, 44, 1) :: (21, 13, 0, 0, 45, 3) :: (34, 0, 0, 0, 48, 1) :: (1, 0, 2, 0, 49, 1) :: (16, 14, 4, 2, 50, 3) :: (16, 13, 0, 2, 53, 3) :: (24, 119, 2, 14, 56, 3) :: (17, 14, 5, 2, 59, 3) :: (26, 9, 0, 0, 62, 1) :: []
noncomputable def xj_2 : Lean.RArray (List XE) := .leaf []
-- 3: EmberScriptLaw.feed(LEmberScript;IIIII[J)I
set_option maxRecDepth 100000 in
noncomputable def xc_3_23 : List XE := (4, 0, 0, 0, 23, 1) :: (26, 0, 0, 0, 24, 1) :: []
set_option maxRecDepth 100000 in
noncomputable def xc_3_19 : List XE := (2, 7, 2, 0, 19, 2) :: (4, 3, 0, 0, 21, 1) :: (26, 0, 0, 0, 22, 1) :: xc_3_23
set_option maxRecDepth 100000 in
noncomputable def xc_3_0 : List XE := (1, 6, 2, 0, 0, 2) :: (4, 0, 0, 0, 2, 1) :: (1, 0, 2, 0, 3, 1) :: (1, 1, 0, 0, 4, 1) :: (1, 2, 0, 0, 5, 1) :: (1, 3, 0, 0, 6, 1) :: (1, 4, 0, 0, 7, 2) :: (1, 5, 0, 0, 9, 2) :: (24, 120, 0, 11, 11, 3) :: (40, 0, 0, 0, 14, 1) :: (19, 1, 1, 0, 15, 1) :: (14, 23, 0, 0, 16, 3) :: xc_3_19
noncomputable def xj_3 : Lean.RArray (List XE) := .branch 23 (.leaf xc_3_19) (.leaf xc_3_23)
-- 4: EmberScriptModel.feed(IIIII)I
set_option maxRecDepth 100000 in
noncomputable def xc_4_24 : List XE := (1, 0, 2, 0, 24, 1) :: (1, 1, 0, 0, 25, 1) :: (24, 122, 0, 15, 26, 3) :: (1, 0, 2, 0, 29, 1) :: (1, 2, 0, 0, 30, 1) :: (24, 122, 0, 15, 31, 3) :: (1, 0, 2, 0, 34, 1) :: (1, 3, 0, 0, 35, 1) :: (24, 122, 0, 15, 36, 3) :: (1, 0, 2, 0, 39, 1) :: (1, 4, 0, 0, 40, 2) :: (24, 122, 0, 15, 42, 3) :: (1, 0, 2, 0, 45, 1) :: (1, 5, 0, 0, 46, 2) :: (24, 122, 0, 15, 48, 3) :: (1, 0, 2, 0, 51, 1) :: (16, 14, 1, 0, 52, 3) :: (26, 0, 0, 0, 55, 1) :: []
set_option maxRecDepth 100000 in
noncomputable def xc_4_0 : List XE := (1, 0, 2, 0, 0, 1) :: (4, 0, 0, 0, 1, 1) :: (17, 14, 3, 0, 2, 3) :: (1, 0, 2, 0, 5, 1) :: (16, 14, 1, 0, 6, 3) :: (4, 13, 0, 0, 9, 2) :: (6, 0, 0, 0, 11, 1) :: (4, 12, 0, 0, 12, 3) :: (13, 24, 5, 0, 15, 3) :: (1, 0, 2, 0, 18, 1) :: (4, 3, 0, 0, 19, 1) :: (24, 121, 0, 15, 20, 3) :: (26, 0, 0, 0, 23, 1) :: xc_4_24
noncomputable def xj_4 : Lean.RArray (List XE) := .leaf xc_4_24
-- 5: EmberScriptModel.thrown()I
set_option maxRecDepth 100000 in
noncomputable def xc_5_0 : List XE := (1, 0, 2, 0, 0, 1) :: (16, 14, 3, 0, 1, 3) :: (26, 0, 0, 0, 4, 1) :: []
noncomputable def xj_5 : Lean.RArray (List XE) := .leaf []
-- 6: EmberScriptLaw.trim(LEmberScript;I[J)I
set_option maxRecDepth 100000 in
noncomputable def xc_6_15 : List XE := (4, 0, 0, 0, 15, 1) :: (26, 0, 0, 0, 16, 1) :: []
set_option maxRecDepth 100000 in
noncomputable def xc_6_12 : List XE := (2, 3, 2, 0, 12, 1) :: (4, 3, 0, 0, 13, 1) :: (26, 0, 0, 0, 14, 1) :: xc_6_15
set_option maxRecDepth 100000 in
noncomputable def xc_6_0 : List XE := (1, 2, 2, 0, 0, 1) :: (4, 0, 0, 0, 1, 1) :: (1, 0, 2, 0, 2, 1) :: (1, 1, 0, 0, 3, 1) :: (24, 123, 0, 11, 4, 3) :: (40, 0, 0, 0, 7, 1) :: (19, 1, 1, 0, 8, 1) :: (14, 15, 0, 0, 9, 3) :: xc_6_12
noncomputable def xj_6 : Lean.RArray (List XE) := .branch 15 (.leaf xc_6_12) (.leaf xc_6_15)
-- 7: EmberScriptModel.trim(I)I
set_option maxRecDepth 100000 in
noncomputable def xc_7_23 : List XE := (1, 0, 2, 0, 23, 1) :: (1, 1, 0, 0, 24, 1) :: (17, 14, 1, 0, 25, 3) :: (1, 1, 0, 0, 28, 1) :: (26, 0, 0, 0, 29, 1) :: []
set_option maxRecDepth 100000 in
noncomputable def xc_7_0 : List XE := (1, 0, 2, 0, 0, 1) :: (4, 0, 0, 0, 1, 1) :: (17, 14, 3, 0, 2, 3) :: (1, 1, 0, 0, 5, 1) :: (4, 0, 0, 0, 6, 1) :: (1, 0, 2, 0, 7, 1) :: (16, 14, 1, 0, 8, 3) :: (24, 124, 0, 0, 11, 3) :: (12, 23, 1, 0, 14, 3) :: (1, 0, 2, 0, 17, 1) :: (4, 3, 0, 0, 18, 1) :: (24, 121, 0, 15, 19, 3) :: (26, 0, 0, 0, 22, 1) :: xc_7_23
noncomputable def xj_7 : Lean.RArray (List XE) := .leaf xc_7_23
-- 8: EmberScript.load()I
set_option maxRecDepth 100000 in
noncomputable def xc_8_60 : List XE := (1, 1, 0, 0, 60, 1) :: (26, 0, 0, 0, 61, 1) :: []
set_option maxRecDepth 100000 in
noncomputable def xc_8_24 : List XE := (17, 10, 5, 0, 24, 3) :: (1, 0, 2, 0, 27, 1) :: (16, 10, 0, 2, 28, 3) :: (4, 0, 0, 0, 31, 1) :: (24, 127, 0, 2, 32, 3) :: (1, 1, 0, 0, 35, 1) :: (12, 60, 1, 0, 36, 3) :: (1, 0, 2, 0, 39, 1) :: (16, 10, 2, 2, 40, 3) :: (1, 0, 2, 0, 43, 1) :: (16, 10, 1, 2, 44, 3) :: (24, 128, 0, 5, 47, 3) :: (24, 129, 0, 4, 50, 3) :: (1, 0, 2, 0, 53, 1) :: (16, 10, 3, 2, 54, 3) :: (24, 130, 0, 10, 57, 3) :: xc_8_60
set_option maxRecDepth 100000 in
noncomputable def xc_8_17 : List XE := (1, 0, 2, 0, 17, 1) :: (16, 10, 1, 2, 18, 3) :: (24, 126, 0, 5, 21, 3) :: xc_8_24
set_option maxRecDepth 100000 in
noncomputable def xc_8_0 : List XE := (1, 0, 2, 0, 0, 1) :: (16, 10, 1, 2, 1, 3) :: (24, 125, 0, 5, 4, 3) :: (2, 1, 0, 0, 7, 1) :: (1, 0, 2, 0, 8, 1) :: (1, 1, 0, 0, 9, 1) :: (12, 17, 1, 0, 10, 3) :: (4, 11, 0, 0, 13, 1) :: (14, 24, 0, 0, 14, 3) :: xc_8_17
noncomputable def xj_8 : Lean.RArray (List XE) := .branch 24 (.leaf xc_8_17) (.branch 60 (.leaf xc_8_24) (.leaf xc_8_60))
-- 9: EmberScriptModel.load()I
set_option maxRecDepth 100000 in
noncomputable def xc_9_69 : List XE := (1, 0, 2, 0, 69, 1) :: (21, 13, 0, 0, 70, 3) :: (34, 0, 0, 0, 73, 1) :: (1, 1, 2, 0, 74, 1) :: (16, 12, 2, 2, 75, 3) :: (24, 119, 2, 14, 78, 3) :: (17, 14, 4, 2, 81, 3) :: (1, 0, 2, 0, 84, 1) :: (16, 14, 4, 2, 85, 3) :: (4, 0, 0, 0, 88, 1) :: (17, 13, 1, 0, 89, 3) :: (1, 0, 2, 0, 92, 1) :: (16, 14, 4, 2, 93, 3) :: (4, 0, 0, 0, 96, 1) :: (4, 3, 0, 0, 97, 1) :: (1, 1, 2, 0, 98, 1) :: (16, 12, 2, 2, 99, 3) :: (16, 11, 17, 0, 102, 3) :: (4, 0, 0, 0, 105, 1) :: (4, 0, 0, 0, 106, 1) :: (24, 132, 1, 14, 107, 3) :: (1, 0, 2, 0, 110, 1) :: (16, 14, 4, 2, 111, 3) :: (24, 133, 0, 14, 114, 3) :: (4, 0, 0, 0, 117, 1) :: (26, 0, 0, 0, 118, 1) :: []
set_option maxRecDepth 100000 in
noncomputable def xc_9_49 : List XE := (1, 1, 2, 0, 49, 1) :: (16, 12, 22, 0, 50, 3) :: (12, 69, 0, 0, 53, 3) :: (1, 0, 2, 0, 56, 1) :: (1, 1, 2, 0, 57, 1) :: (16, 12, 23, 0, 58, 3) :: (17, 14, 2, 0, 61, 3) :: (1, 1, 2, 0, 64, 1) :: (16, 12, 22, 0, 65, 3) :: (26, 0, 0, 0, 68, 1) :: xc_9_69
set_option maxRecDepth 100000 in
noncomputable def xc_9_38 : List XE := (2, 2, 2, 0, 38, 1) :: (1, 0, 2, 0, 39, 1) :: (1, 2, 2, 0, 40, 1) :: (0, 0, 0, 0, 41, 3) :: (17, 14, 2, 0, 44, 3) :: (4, 3, 0, 0, 47, 1) :: (26, 0, 0, 0, 48, 1) :: xc_9_49
set_option maxRecDepth 100000 in
noncomputable def xc_9_0 : List XE := (1, 0, 2, 0, 0, 1) :: (4, 0, 0, 0, 1, 1) :: (17, 14, 3, 0, 2, 3) :: (21, 12, 0, 0, 5, 3) :: (34, 0, 0, 0, 8, 1) :: (1, 0, 2, 0, 9, 1) :: (16, 14, 0, 2, 10, 3) :: (1, 0, 2, 0, 13, 1) :: (16, 14, 1, 0, 14, 3) :: (24, 118, 2, 13, 17, 3) :: (2, 1, 2, 0, 20, 1) :: (1, 0, 2, 0, 21, 1) :: (4, 0, 0, 0, 22, 1) :: (17, 14, 1, 0, 23, 3) :: (1, 0, 2, 0, 26, 1) :: (4, 11, 0, 0, 27, 1) :: (17, 14, 2, 0, 28, 3) :: (1, 1, 2, 0, 31, 1) :: (24, 131, 0, 13, 32, 3) :: (14, 49, 0, 0, 35, 3) :: xc_9_38
noncomputable def xj_9 : Lean.RArray (List XE) := .branch 49 (.leaf xc_9_38) (.branch 69 (.leaf xc_9_49) (.leaf xc_9_69))
-- 10: EmberScript.errorAt()I
set_option maxRecDepth 100000 in
noncomputable def xc_10_0 : List XE := (1, 0, 2, 0, 0, 1) :: (16, 10, 5, 0, 1, 3) :: (26, 0, 0, 0, 4, 1) :: []
noncomputable def xj_10 : Lean.RArray (List XE) := .leaf []
-- 11: EmberScriptModel.errorAt()I
set_option maxRecDepth 100000 in
noncomputable def xc_11_0 : List XE := (1, 0, 2, 0, 0, 1) :: (1, 0, 2, 0, 1, 1) :: (16, 14, 2, 0, 2, 3) :: (24, 134, 0, 15, 5, 3) :: (26, 0, 0, 0, 8, 1) :: []
noncomputable def xj_11 : Lean.RArray (List XE) := .leaf []
-- 12: EmberScriptLaw.run(LEmberScript;I[J)I
set_option maxRecDepth 100000 in
noncomputable def xc_12_18 : List XE := (4, 0, 0, 0, 18, 1) :: (26, 0, 0, 0, 19, 1) :: []
set_option maxRecDepth 100000 in
noncomputable def xc_12_15 : List XE := (2, 3, 2, 0, 15, 1) :: (4, 6, 0, 0, 16, 1) :: (26, 0, 0, 0, 17, 1) :: xc_12_18
set_option maxRecDepth 100000 in
noncomputable def xc_12_12 : List XE := (2, 3, 2, 0, 12, 1) :: (4, 3, 0, 0, 13, 1) :: (26, 0, 0, 0, 14, 1) :: xc_12_15
set_option maxRecDepth 100000 in
noncomputable def xc_12_0 : List XE := (1, 2, 2, 0, 0, 1) :: (4, 0, 0, 0, 1, 1) :: (1, 0, 2, 0, 2, 1) :: (1, 1, 0, 0, 3, 1) :: (24, 135, 0, 11, 4, 3) :: (40, 0, 0, 0, 7, 1) :: (19, 1, 1, 0, 8, 1) :: (14, 18, 0, 0, 9, 3) :: xc_12_12
noncomputable def xj_12 : Lean.RArray (List XE) := .branch 15 (.leaf xc_12_12) (.branch 18 (.leaf xc_12_15) (.leaf xc_12_18))
-- 13: EmberScriptModel.run(I)I
set_option maxRecDepth 100000 in
noncomputable def xc_13_48 : List XE := (26, 0, 0, 0, 48, 1) :: []
set_option maxRecDepth 100000 in
noncomputable def xc_13_40 : List XE := (1, 0, 2, 0, 40, 1) :: (16, 14, 4, 2, 41, 3) :: (1, 1, 0, 0, 44, 1) :: (0, 0, 0, 0, 45, 3) :: xc_13_48
set_option maxRecDepth 100000 in
noncomputable def xc_13_22 : List XE := (1, 0, 2, 0, 22, 1) :: (16, 14, 4, 2, 23, 3) :: (16, 13, 1, 0, 26, 3) :: (12, 40, 0, 0, 29, 3) :: (1, 0, 2, 0, 32, 1) :: (4, 6, 0, 0, 33, 1) :: (24, 121, 0, 15, 34, 3) :: (14, 48, 0, 0, 37, 3) :: xc_13_40
set_option maxRecDepth 100000 in
noncomputable def xc_13_0 : List XE := (1, 0, 2, 0, 0, 1) :: (4, 0, 0, 0, 1, 1) :: (17, 14, 3, 0, 2, 3) :: (1, 1, 0, 0, 5, 1) :: (4, 3, 0, 0, 6, 1) :: (4, 14, 0, 0, 7, 3) :: (24, 124, 0, 0, 10, 3) :: (12, 22, 1, 0, 13, 3) :: (1, 0, 2, 0, 16, 1) :: (4, 3, 0, 0, 17, 1) :: (24, 121, 0, 15, 18, 3) :: (26, 0, 0, 0, 21, 1) :: xc_13_22
noncomputable def xj_13 : Lean.RArray (List XE) := .branch 40 (.leaf xc_13_22) (.branch 48 (.leaf xc_13_40) (.leaf xc_13_48))
-- 14: EmberScriptLaw.interrupt(LEmberScript;I[J)I
set_option maxRecDepth 100000 in
noncomputable def xc_14_18 : List XE := (4, 0, 0, 0, 18, 1) :: (26, 0, 0, 0, 19, 1) :: []
set_option maxRecDepth 100000 in
noncomputable def xc_14_15 : List XE := (2, 3, 2, 0, 15, 1) :: (4, 6, 0, 0, 16, 1) :: (26, 0, 0, 0, 17, 1) :: xc_14_18
set_option maxRecDepth 100000 in
noncomputable def xc_14_12 : List XE := (2, 3, 2, 0, 12, 1) :: (4, 3, 0, 0, 13, 1) :: (26, 0, 0, 0, 14, 1) :: xc_14_15
set_option maxRecDepth 100000 in
noncomputable def xc_14_0 : List XE := (1, 2, 2, 0, 0, 1) :: (4, 0, 0, 0, 1, 1) :: (1, 0, 2, 0, 2, 1) :: (1, 1, 0, 0, 3, 1) :: (24, 136, 0, 11, 4, 3) :: (40, 0, 0, 0, 7, 1) :: (19, 1, 1, 0, 8, 1) :: (14, 18, 0, 0, 9, 3) :: xc_14_12
noncomputable def xj_14 : Lean.RArray (List XE) := .branch 15 (.leaf xc_14_12) (.branch 18 (.leaf xc_14_15) (.leaf xc_14_18))
-- 15: EmberScriptModel.interrupt(I)I
set_option maxRecDepth 100000 in
noncomputable def xc_15_45 : List XE := (26, 0, 0, 0, 45, 1) :: []
set_option maxRecDepth 100000 in
noncomputable def xc_15_37 : List XE := (1, 0, 2, 0, 37, 1) :: (16, 14, 4, 2, 38, 3) :: (1, 1, 0, 0, 41, 1) :: (0, 0, 0, 0, 42, 3) :: xc_15_45
set_option maxRecDepth 100000 in
noncomputable def xc_15_19 : List XE := (1, 0, 2, 0, 19, 1) :: (16, 14, 4, 2, 20, 3) :: (16, 13, 1, 0, 23, 3) :: (12, 37, 0, 0, 26, 3) :: (1, 0, 2, 0, 29, 1) :: (4, 6, 0, 0, 30, 1) :: (24, 121, 0, 15, 31, 3) :: (14, 45, 0, 0, 34, 3) :: xc_15_37
set_option maxRecDepth 100000 in
noncomputable def xc_15_0 : List XE := (1, 0, 2, 0, 0, 1) :: (4, 0, 0, 0, 1, 1) :: (17, 14, 3, 0, 2, 3) :: (1, 0, 2, 0, 5, 1) :: (1, 1, 0, 0, 6, 1) :: (24, 137, 0, 15, 7, 3) :: (12, 19, 1, 0, 10, 3) :: (1, 0, 2, 0, 13, 1) :: (4, 3, 0, 0, 14, 1) :: (24, 121, 0, 15, 15, 3) :: (26, 0, 0, 0, 18, 1) :: xc_15_19
noncomputable def xj_15 : Lean.RArray (List XE) := .branch 37 (.leaf xc_15_19) (.branch 45 (.leaf xc_15_37) (.leaf xc_15_45))
-- 16: EmberScriptLaw.setNumber(LEmberScript;II[J)I
set_option maxRecDepth 100000 in
noncomputable def xc_16_17 : List XE := (4, 0, 0, 0, 17, 1) :: (26, 0, 0, 0, 18, 1) :: []
set_option maxRecDepth 100000 in
noncomputable def xc_16_13 : List XE := (2, 4, 2, 0, 13, 2) :: (4, 3, 0, 0, 15, 1) :: (26, 0, 0, 0, 16, 1) :: xc_16_17
set_option maxRecDepth 100000 in
noncomputable def xc_16_0 : List XE := (1, 3, 2, 0, 0, 1) :: (4, 0, 0, 0, 1, 1) :: (1, 0, 2, 0, 2, 1) :: (1, 1, 0, 0, 3, 1) :: (1, 2, 0, 0, 4, 1) :: (24, 138, 0, 11, 5, 3) :: (40, 0, 0, 0, 8, 1) :: (19, 1, 1, 0, 9, 1) :: (14, 17, 0, 0, 10, 3) :: xc_16_13
noncomputable def xj_16 : Lean.RArray (List XE) := .branch 17 (.leaf xc_16_13) (.leaf xc_16_17)
-- 17: EmberScriptModel.setNumber(II)I
set_option maxRecDepth 100000 in
noncomputable def xc_17_19 : List XE := (1, 0, 2, 0, 19, 1) :: (16, 14, 4, 2, 20, 3) :: (16, 13, 26, 2, 23, 3) :: (1, 1, 0, 0, 26, 1) :: (18, 0, 0, 0, 27, 1) :: (2, 3, 0, 0, 28, 1) :: (1, 0, 2, 0, 29, 1) :: (16, 14, 4, 2, 30, 3) :: (16, 13, 26, 2, 33, 3) :: (1, 1, 0, 0, 36, 1) :: (4, 6, 0, 0, 37, 1) :: (19, 0, 0, 0, 38, 1) :: (1, 0, 2, 0, 39, 1) :: (16, 14, 4, 2, 40, 3) :: (16, 13, 27, 2, 43, 3) :: (1, 1, 0, 0, 46, 1) :: (1, 2, 0, 0, 47, 1) :: (19, 0, 0, 0, 48, 1) :: (1, 3, 0, 0, 49, 1) :: (26, 0, 0, 0, 50, 1) :: []
set_option maxRecDepth 100000 in
noncomputable def xc_17_0 : List XE := (1, 0, 2, 0, 0, 1) :: (4, 0, 0, 0, 1, 1) :: (17, 14, 3, 0, 2, 3) :: (1, 0, 2, 0, 5, 1) :: (1, 1, 0, 0, 6, 1) :: (24, 139, 0, 15, 7, 3) :: (12, 19, 1, 0, 10, 3) :: (1, 0, 2, 0, 13, 1) :: (4, 3, 0, 0, 14, 1) :: (24, 121, 0, 15, 15, 3) :: (26, 0, 0, 0, 18, 1) :: xc_17_19
noncomputable def xj_17 : Lean.RArray (List XE) := .leaf xc_17_19
-- 18: EmberScript.collect()I
set_option maxRecDepth 100000 in
noncomputable def xc_18_0 : List XE := (1, 0, 2, 0, 0, 1) :: (16, 10, 3, 2, 1, 3) :: (24, 140, 0, 10, 4, 3) :: (26, 0, 0, 0, 7, 1) :: []
noncomputable def xj_18 : Lean.RArray (List XE) := .leaf []
-- 19: EmberScriptModel.collect()I
set_option maxRecDepth 100000 in
noncomputable def xc_19_0 : List XE := (1, 0, 2, 0, 0, 1) :: (1, 0, 2, 0, 1, 1) :: (16, 14, 4, 2, 2, 3) :: (24, 141, 0, 14, 5, 3) :: (24, 134, 0, 15, 8, 3) :: (26, 0, 0, 0, 11, 1) :: []
noncomputable def xj_19 : Lean.RArray (List XE) := .leaf []
-- 20: EmberScript.state()I
set_option maxRecDepth 100000 in
noncomputable def xc_20_0 : List XE := (1, 0, 2, 0, 0, 1) :: (16, 10, 3, 2, 1, 3) :: (24, 142, 0, 10, 4, 3) :: (26, 0, 0, 0, 7, 1) :: []
noncomputable def xj_20 : Lean.RArray (List XE) := .leaf []
-- 21: EmberScriptModel.state()I
set_option maxRecDepth 100000 in
noncomputable def xc_21_0 : List XE := (1, 0, 2, 0, 0, 1) :: (1, 0, 2, 0, 1, 1) :: (16, 14, 4, 2, 2, 3) :: (16, 13, 1, 0, 5, 3) :: (24, 134, 0, 15, 8, 3) :: (26, 0, 0, 0, 11, 1) :: []
noncomputable def xj_21 : Lean.RArray (List XE) := .leaf []
-- 22: EmberScript.steps()I
set_option maxRecDepth 100000 in
noncomputable def xc_22_0 : List XE := (1, 0, 2, 0, 0, 1) :: (16, 10, 3, 2, 1, 3) :: (24, 143, 0, 10, 4, 3) :: (26, 0, 0, 0, 7, 1) :: []
noncomputable def xj_22 : Lean.RArray (List XE) := .leaf []
-- 23: EmberScriptModel.steps()I
set_option maxRecDepth 100000 in
noncomputable def xc_23_0 : List XE := (1, 0, 2, 0, 0, 1) :: (1, 0, 2, 0, 1, 1) :: (16, 14, 4, 2, 2, 3) :: (16, 13, 2, 0, 5, 3) :: (24, 134, 0, 15, 8, 3) :: (26, 0, 0, 0, 11, 1) :: []
noncomputable def xj_23 : Lean.RArray (List XE) := .leaf []
-- 24: EmberScript.frames()I
set_option maxRecDepth 100000 in
noncomputable def xc_24_0 : List XE := (1, 0, 2, 0, 0, 1) :: (16, 10, 3, 2, 1, 3) :: (24, 144, 0, 10, 4, 3) :: (26, 0, 0, 0, 7, 1) :: []
noncomputable def xj_24 : Lean.RArray (List XE) := .leaf []
-- 25: EmberScriptModel.frames()I
set_option maxRecDepth 100000 in
noncomputable def xc_25_0 : List XE := (1, 0, 2, 0, 0, 1) :: (1, 0, 2, 0, 1, 1) :: (16, 14, 4, 2, 2, 3) :: (16, 13, 38, 0, 5, 3) :: (24, 134, 0, 15, 8, 3) :: (26, 0, 0, 0, 11, 1) :: []
noncomputable def xj_25 : Lean.RArray (List XE) := .leaf []
-- 26: EmberScript.place()I
set_option maxRecDepth 100000 in
noncomputable def xc_26_0 : List XE := (1, 0, 2, 0, 0, 1) :: (16, 10, 3, 2, 1, 3) :: (24, 145, 0, 10, 4, 3) :: (26, 0, 0, 0, 7, 1) :: []
noncomputable def xj_26 : Lean.RArray (List XE) := .leaf []
-- 27: EmberScriptModel.place()I
set_option maxRecDepth 100000 in
noncomputable def xc_27_0 : List XE := (1, 0, 2, 0, 0, 1) :: (1, 0, 2, 0, 1, 1) :: (16, 14, 4, 2, 2, 3) :: (24, 146, 0, 14, 5, 3) :: (24, 134, 0, 15, 8, 3) :: (26, 0, 0, 0, 11, 1) :: []
noncomputable def xj_27 : Lean.RArray (List XE) := .leaf []
-- 28: EmberScript.functionNow()I
set_option maxRecDepth 100000 in
noncomputable def xc_28_0 : List XE := (1, 0, 2, 0, 0, 1) :: (16, 10, 3, 2, 1, 3) :: (24, 147, 0, 10, 4, 3) :: (26, 0, 0, 0, 7, 1) :: []
noncomputable def xj_28 : Lean.RArray (List XE) := .leaf []
-- 29: EmberScriptModel.functionNow()I
set_option maxRecDepth 100000 in
noncomputable def xc_29_0 : List XE := (1, 0, 2, 0, 0, 1) :: (1, 0, 2, 0, 1, 1) :: (16, 14, 4, 2, 2, 3) :: (24, 148, 0, 14, 5, 3) :: (24, 134, 0, 15, 8, 3) :: (26, 0, 0, 0, 11, 1) :: []
noncomputable def xj_29 : Lean.RArray (List XE) := .leaf []
-- 30: EmberScript.loops()I
set_option maxRecDepth 100000 in
noncomputable def xc_30_0 : List XE := (1, 0, 2, 0, 0, 1) :: (16, 10, 3, 2, 1, 3) :: (24, 149, 0, 10, 4, 3) :: (26, 0, 0, 0, 7, 1) :: []
noncomputable def xj_30 : Lean.RArray (List XE) := .leaf []
-- 31: EmberScriptModel.loops()I
set_option maxRecDepth 100000 in
noncomputable def xc_31_0 : List XE := (1, 0, 2, 0, 0, 1) :: (1, 0, 2, 0, 1, 1) :: (16, 14, 4, 2, 2, 3) :: (24, 150, 0, 14, 5, 3) :: (24, 134, 0, 15, 8, 3) :: (26, 0, 0, 0, 11, 1) :: []
noncomputable def xj_31 : Lean.RArray (List XE) := .leaf []
-- 32: EmberScript.isGuarded()Z
set_option maxRecDepth 100000 in
noncomputable def xc_32_0 : List XE := (1, 0, 2, 0, 0, 1) :: (16, 10, 3, 2, 1, 3) :: (24, 151, 0, 10, 4, 3) :: (26, 0, 0, 0, 7, 1) :: []
noncomputable def xj_32 : Lean.RArray (List XE) := .leaf []
-- 33: EmberScriptModel.isGuarded()Z
set_option maxRecDepth 100000 in
noncomputable def xc_33_0 : List XE := (1, 0, 2, 0, 0, 1) :: (4, 0, 0, 0, 1, 1) :: (17, 14, 3, 0, 2, 3) :: (1, 0, 2, 0, 5, 1) :: (16, 14, 4, 2, 6, 3) :: (24, 152, 0, 14, 9, 3) :: (26, 0, 0, 0, 12, 1) :: []
noncomputable def xj_33 : Lean.RArray (List XE) := .leaf []
-- 34: EmberScript.collections()I
set_option maxRecDepth 100000 in
noncomputable def xc_34_0 : List XE := (1, 0, 2, 0, 0, 1) :: (16, 10, 3, 2, 1, 3) :: (24, 153, 0, 10, 4, 3) :: (26, 0, 0, 0, 7, 1) :: []
noncomputable def xj_34 : Lean.RArray (List XE) := .leaf []
-- 35: EmberScriptModel.collections()I
set_option maxRecDepth 100000 in
noncomputable def xc_35_0 : List XE := (1, 0, 2, 0, 0, 1) :: (1, 0, 2, 0, 1, 1) :: (16, 14, 4, 2, 2, 3) :: (16, 13, 3, 0, 5, 3) :: (24, 134, 0, 15, 8, 3) :: (26, 0, 0, 0, 11, 1) :: []
noncomputable def xj_35 : Lean.RArray (List XE) := .leaf []
-- 36: EmberScript.freed()I
set_option maxRecDepth 100000 in
noncomputable def xc_36_0 : List XE := (1, 0, 2, 0, 0, 1) :: (16, 10, 3, 2, 1, 3) :: (24, 154, 0, 10, 4, 3) :: (26, 0, 0, 0, 7, 1) :: []
noncomputable def xj_36 : Lean.RArray (List XE) := .leaf []
-- 37: EmberScriptModel.freed()I
set_option maxRecDepth 100000 in
noncomputable def xc_37_0 : List XE := (1, 0, 2, 0, 0, 1) :: (1, 0, 2, 0, 1, 1) :: (16, 14, 4, 2, 2, 3) :: (16, 13, 4, 0, 5, 3) :: (24, 134, 0, 15, 8, 3) :: (26, 0, 0, 0, 11, 1) :: []
noncomputable def xj_37 : Lean.RArray (List XE) := .leaf []
-- 38: EmberScript.functions()I
set_option maxRecDepth 100000 in
noncomputable def xc_38_0 : List XE := (1, 0, 2, 0, 0, 1) :: (16, 10, 2, 2, 1, 3) :: (24, 155, 0, 4, 4, 3) :: (26, 0, 0, 0, 7, 1) :: []
noncomputable def xj_38 : Lean.RArray (List XE) := .leaf []
-- 39: EmberScriptModel.functions()I
set_option maxRecDepth 100000 in
noncomputable def xc_39_0 : List XE := (1, 0, 2, 0, 0, 1) :: (1, 0, 2, 0, 1, 1) :: (16, 14, 4, 2, 2, 3) :: (16, 13, 0, 2, 5, 3) :: (16, 11, 9, 0, 8, 3) :: (24, 134, 0, 15, 11, 3) :: (26, 0, 0, 0, 14, 1) :: []
noncomputable def xj_39 : Lean.RArray (List XE) := .leaf []
-- 40: EmberScriptLaw.inputsOf(LEmberScript;I[J)I
set_option maxRecDepth 100000 in
noncomputable def xc_40_15 : List XE := (4, 0, 0, 0, 15, 1) :: (26, 0, 0, 0, 16, 1) :: []
set_option maxRecDepth 100000 in
noncomputable def xc_40_12 : List XE := (2, 3, 2, 0, 12, 1) :: (4, 3, 0, 0, 13, 1) :: (26, 0, 0, 0, 14, 1) :: xc_40_15
set_option maxRecDepth 100000 in
noncomputable def xc_40_0 : List XE := (1, 2, 2, 0, 0, 1) :: (4, 0, 0, 0, 1, 1) :: (1, 0, 2, 0, 2, 1) :: (1, 1, 0, 0, 3, 1) :: (24, 156, 0, 11, 4, 3) :: (40, 0, 0, 0, 7, 1) :: (19, 1, 1, 0, 8, 1) :: (14, 15, 0, 0, 9, 3) :: xc_40_12
noncomputable def xj_40 : Lean.RArray (List XE) := .branch 15 (.leaf xc_40_12) (.leaf xc_40_15)
-- 41: EmberScriptModel.inputsOf(I)I
set_option maxRecDepth 100000 in
noncomputable def xc_41_0 : List XE := (1, 0, 2, 0, 0, 1) :: (1, 1, 0, 0, 1, 1) :: (1, 0, 2, 0, 2, 1) :: (16, 14, 4, 2, 3, 3) :: (16, 13, 0, 2, 6, 3) :: (16, 11, 11, 2, 9, 3) :: (24, 157, 0, 15, 12, 3) :: (26, 0, 0, 0, 15, 1) :: []
noncomputable def xj_41 : Lean.RArray (List XE) := .leaf []
-- 42: EmberScriptLaw.variablesOf(LEmberScript;I[J)I
set_option maxRecDepth 100000 in
noncomputable def xc_42_15 : List XE := (4, 0, 0, 0, 15, 1) :: (26, 0, 0, 0, 16, 1) :: []
set_option maxRecDepth 100000 in
noncomputable def xc_42_12 : List XE := (2, 3, 2, 0, 12, 1) :: (4, 3, 0, 0, 13, 1) :: (26, 0, 0, 0, 14, 1) :: xc_42_15
set_option maxRecDepth 100000 in
noncomputable def xc_42_0 : List XE := (1, 2, 2, 0, 0, 1) :: (4, 0, 0, 0, 1, 1) :: (1, 0, 2, 0, 2, 1) :: (1, 1, 0, 0, 3, 1) :: (24, 158, 0, 11, 4, 3) :: (40, 0, 0, 0, 7, 1) :: (19, 1, 1, 0, 8, 1) :: (14, 15, 0, 0, 9, 3) :: xc_42_12
noncomputable def xj_42 : Lean.RArray (List XE) := .branch 15 (.leaf xc_42_12) (.leaf xc_42_15)
-- 43: EmberScriptModel.variablesOf(I)I
set_option maxRecDepth 100000 in
noncomputable def xc_43_0 : List XE := (1, 0, 2, 0, 0, 1) :: (1, 1, 0, 0, 1, 1) :: (1, 0, 2, 0, 2, 1) :: (16, 14, 4, 2, 3, 3) :: (16, 13, 0, 2, 6, 3) :: (16, 11, 12, 2, 9, 3) :: (24, 157, 0, 15, 12, 3) :: (26, 0, 0, 0, 15, 1) :: []
noncomputable def xj_43 : Lean.RArray (List XE) := .leaf []
-- 44: EmberScriptLaw.isGenerator(LEmberScript;I[J)I
set_option maxRecDepth 100000 in
noncomputable def xc_44_22 : List XE := (4, 0, 0, 0, 22, 1) :: (26, 0, 0, 0, 23, 1) :: []
set_option maxRecDepth 100000 in
noncomputable def xc_44_19 : List XE := (2, 3, 2, 0, 19, 1) :: (4, 3, 0, 0, 20, 1) :: (26, 0, 0, 0, 21, 1) :: xc_44_22
set_option maxRecDepth 100000 in
noncomputable def xc_44_15 : List XE := (19, 1, 1, 0, 15, 1) :: (14, 22, 0, 0, 16, 3) :: xc_44_19
set_option maxRecDepth 100000 in
noncomputable def xc_44_14 : List XE := (4, 1, 0, 0, 14, 1) :: xc_44_15
set_option maxRecDepth 100000 in
noncomputable def xc_44_0 : List XE := (1, 2, 2, 0, 0, 1) :: (4, 0, 0, 0, 1, 1) :: (1, 0, 2, 0, 2, 1) :: (1, 1, 0, 0, 3, 1) :: (24, 159, 0, 11, 4, 3) :: (12, 14, 0, 0, 7, 3) :: (4, 10, 0, 0, 10, 1) :: (14, 15, 0, 0, 11, 3) :: xc_44_14
noncomputable def xj_44 : Lean.RArray (List XE) := .branch 19 (.branch 15 (.leaf xc_44_14) (.leaf xc_44_15)) (.branch 22 (.leaf xc_44_19) (.leaf xc_44_22))
-- 45: EmberScriptModel.isGenerator(I)Z
set_option maxRecDepth 100000 in
noncomputable def xc_45_45 : List XE := (26, 0, 0, 0, 45, 1) :: []
set_option maxRecDepth 100000 in
noncomputable def xc_45_40 : List XE := (1, 0, 2, 0, 40, 1) :: (4, 3, 0, 0, 41, 1) :: (24, 160, 0, 15, 42, 3) :: xc_45_45
set_option maxRecDepth 100000 in
noncomputable def xc_45_0 : List XE := (1, 0, 2, 0, 0, 1) :: (4, 0, 0, 0, 1, 1) :: (17, 14, 3, 0, 2, 3) :: (1, 1, 0, 0, 5, 1) :: (4, 0, 0, 0, 6, 1) :: (1, 0, 2, 0, 7, 1) :: (16, 14, 4, 2, 8, 3) :: (16, 13, 0, 2, 11, 3) :: (16, 11, 9, 0, 14, 3) :: (4, 3, 0, 0, 17, 1) :: (6, 1, 0, 0, 18, 1) :: (24, 124, 0, 0, 19, 3) :: (12, 40, 0, 0, 22, 3) :: (1, 0, 2, 0, 25, 1) :: (16, 14, 4, 2, 26, 3) :: (16, 13, 0, 2, 29, 3) :: (16, 11, 14, 2, 32, 3) :: (1, 1, 0, 0, 35, 1) :: (18, 2, 0, 0, 36, 1) :: (14, 45, 0, 0, 37, 3) :: xc_45_40
noncomputable def xj_45 : Lean.RArray (List XE) := .branch 45 (.leaf xc_45_40) (.leaf xc_45_45)
-- 46: EmberScript.variables()I
set_option maxRecDepth 100000 in
noncomputable def xc_46_0 : List XE := (1, 0, 2, 0, 0, 1) :: (16, 10, 2, 2, 1, 3) :: (4, 11, 0, 0, 4, 1) :: (24, 161, 0, 4, 5, 3) :: (26, 0, 0, 0, 8, 1) :: []
noncomputable def xj_46 : Lean.RArray (List XE) := .leaf []
-- 47: EmberScriptModel.variables()I
set_option maxRecDepth 100000 in
noncomputable def xc_47_0 : List XE := (1, 0, 2, 0, 0, 1) :: (1, 0, 2, 0, 1, 1) :: (16, 14, 4, 2, 2, 3) :: (16, 13, 0, 2, 5, 3) :: (16, 11, 15, 0, 8, 3) :: (24, 134, 0, 15, 11, 3) :: (26, 0, 0, 0, 14, 1) :: []
noncomputable def xj_47 : Lean.RArray (List XE) := .leaf []
-- 48: EmberScriptLaw.kindOf(LEmberScript;I[J)I
set_option maxRecDepth 100000 in
noncomputable def xc_48_15 : List XE := (4, 0, 0, 0, 15, 1) :: (26, 0, 0, 0, 16, 1) :: []
set_option maxRecDepth 100000 in
noncomputable def xc_48_12 : List XE := (2, 3, 2, 0, 12, 1) :: (4, 3, 0, 0, 13, 1) :: (26, 0, 0, 0, 14, 1) :: xc_48_15
set_option maxRecDepth 100000 in
noncomputable def xc_48_0 : List XE := (1, 2, 2, 0, 0, 1) :: (4, 0, 0, 0, 1, 1) :: (1, 0, 2, 0, 2, 1) :: (1, 1, 0, 0, 3, 1) :: (24, 162, 0, 11, 4, 3) :: (40, 0, 0, 0, 7, 1) :: (19, 1, 1, 0, 8, 1) :: (14, 15, 0, 0, 9, 3) :: xc_48_12
noncomputable def xj_48 : Lean.RArray (List XE) := .branch 15 (.leaf xc_48_12) (.leaf xc_48_15)
-- 49: EmberScriptModel.kindOf(I)I
set_option maxRecDepth 100000 in
noncomputable def xc_49_30 : List XE := (26, 0, 0, 0, 30, 1) :: []
set_option maxRecDepth 100000 in
noncomputable def xc_49_25 : List XE := (1, 0, 2, 0, 25, 1) :: (4, 3, 0, 0, 26, 1) :: (24, 121, 0, 15, 27, 3) :: xc_49_30
set_option maxRecDepth 100000 in
noncomputable def xc_49_0 : List XE := (1, 0, 2, 0, 0, 1) :: (4, 0, 0, 0, 1, 1) :: (17, 14, 3, 0, 2, 3) :: (1, 0, 2, 0, 5, 1) :: (1, 1, 0, 0, 6, 1) :: (24, 139, 0, 15, 7, 3) :: (12, 25, 0, 0, 10, 3) :: (1, 0, 2, 0, 13, 1) :: (16, 14, 4, 2, 14, 3) :: (16, 13, 26, 2, 17, 3) :: (1, 1, 0, 0, 20, 1) :: (18, 0, 0, 0, 21, 1) :: (14, 30, 0, 0, 22, 3) :: xc_49_25
noncomputable def xj_49 : Lean.RArray (List XE) := .branch 30 (.leaf xc_49_25) (.leaf xc_49_30)
-- 50: EmberScriptLaw.numberOf(LEmberScript;I[J)I
set_option maxRecDepth 100000 in
noncomputable def xc_50_15 : List XE := (4, 0, 0, 0, 15, 1) :: (26, 0, 0, 0, 16, 1) :: []
set_option maxRecDepth 100000 in
noncomputable def xc_50_12 : List XE := (2, 3, 2, 0, 12, 1) :: (4, 3, 0, 0, 13, 1) :: (26, 0, 0, 0, 14, 1) :: xc_50_15
set_option maxRecDepth 100000 in
noncomputable def xc_50_0 : List XE := (1, 2, 2, 0, 0, 1) :: (4, 0, 0, 0, 1, 1) :: (1, 0, 2, 0, 2, 1) :: (1, 1, 0, 0, 3, 1) :: (24, 163, 0, 11, 4, 3) :: (40, 0, 0, 0, 7, 1) :: (19, 1, 1, 0, 8, 1) :: (14, 15, 0, 0, 9, 3) :: xc_50_12
noncomputable def xj_50 : Lean.RArray (List XE) := .branch 15 (.leaf xc_50_12) (.leaf xc_50_15)
-- 51: EmberScriptModel.numberOf(I)I
set_option maxRecDepth 100000 in
noncomputable def xc_51_30 : List XE := (26, 0, 0, 0, 30, 1) :: []
set_option maxRecDepth 100000 in
noncomputable def xc_51_25 : List XE := (1, 0, 2, 0, 25, 1) :: (4, 3, 0, 0, 26, 1) :: (24, 121, 0, 15, 27, 3) :: xc_51_30
set_option maxRecDepth 100000 in
noncomputable def xc_51_0 : List XE := (1, 0, 2, 0, 0, 1) :: (4, 0, 0, 0, 1, 1) :: (17, 14, 3, 0, 2, 3) :: (1, 0, 2, 0, 5, 1) :: (1, 1, 0, 0, 6, 1) :: (24, 139, 0, 15, 7, 3) :: (12, 25, 0, 0, 10, 3) :: (1, 0, 2, 0, 13, 1) :: (16, 14, 4, 2, 14, 3) :: (16, 13, 27, 2, 17, 3) :: (1, 1, 0, 0, 20, 1) :: (18, 0, 0, 0, 21, 1) :: (14, 30, 0, 0, 22, 3) :: xc_51_25
noncomputable def xj_51 : Lean.RArray (List XE) := .branch 30 (.leaf xc_51_25) (.leaf xc_51_30)
-- 52: EmberScript.words()I
set_option maxRecDepth 100000 in
noncomputable def xc_52_0 : List XE := (1, 0, 2, 0, 0, 1) :: (16, 10, 2, 2, 1, 3) :: (24, 164, 0, 4, 4, 3) :: (26, 0, 0, 0, 7, 1) :: []
noncomputable def xj_52 : Lean.RArray (List XE) := .leaf []
-- 53: EmberScriptModel.words()I
set_option maxRecDepth 100000 in
noncomputable def xc_53_0 : List XE := (1, 0, 2, 0, 0, 1) :: (1, 0, 2, 0, 1, 1) :: (16, 14, 4, 2, 2, 3) :: (16, 13, 0, 2, 5, 3) :: (16, 11, 16, 0, 8, 3) :: (24, 134, 0, 15, 11, 3) :: (26, 0, 0, 0, 14, 1) :: []
noncomputable def xj_53 : Lean.RArray (List XE) := .leaf []
-- 54: EmberScript.printed()I
set_option maxRecDepth 100000 in
noncomputable def xc_54_0 : List XE := (1, 0, 2, 0, 0, 1) :: (16, 10, 3, 2, 1, 3) :: (24, 165, 0, 10, 4, 3) :: (26, 0, 0, 0, 7, 1) :: []
noncomputable def xj_54 : Lean.RArray (List XE) := .leaf []
-- 55: EmberScriptModel.printed()I
set_option maxRecDepth 100000 in
noncomputable def xc_55_0 : List XE := (1, 0, 2, 0, 0, 1) :: (1, 0, 2, 0, 1, 1) :: (16, 14, 4, 2, 2, 3) :: (16, 13, 5, 0, 5, 3) :: (24, 134, 0, 15, 8, 3) :: (26, 0, 0, 0, 11, 1) :: []
noncomputable def xj_55 : Lean.RArray (List XE) := .leaf []
-- 56: EmberScriptLaw.kindPrinted(LEmberScript;I[J)I
set_option maxRecDepth 100000 in
noncomputable def xc_56_15 : List XE := (4, 0, 0, 0, 15, 1) :: (26, 0, 0, 0, 16, 1) :: []
set_option maxRecDepth 100000 in
noncomputable def xc_56_12 : List XE := (2, 3, 2, 0, 12, 1) :: (4, 3, 0, 0, 13, 1) :: (26, 0, 0, 0, 14, 1) :: xc_56_15
set_option maxRecDepth 100000 in
noncomputable def xc_56_0 : List XE := (1, 2, 2, 0, 0, 1) :: (4, 0, 0, 0, 1, 1) :: (1, 0, 2, 0, 2, 1) :: (1, 1, 0, 0, 3, 1) :: (24, 166, 0, 11, 4, 3) :: (40, 0, 0, 0, 7, 1) :: (19, 1, 1, 0, 8, 1) :: (14, 15, 0, 0, 9, 3) :: xc_56_12
noncomputable def xj_56 : Lean.RArray (List XE) := .branch 15 (.leaf xc_56_12) (.leaf xc_56_15)
-- 57: EmberScriptModel.kindPrinted(I)I
set_option maxRecDepth 100000 in
noncomputable def xc_57_0 : List XE := (1, 0, 2, 0, 0, 1) :: (1, 1, 0, 0, 1, 1) :: (1, 0, 2, 0, 2, 1) :: (16, 14, 4, 2, 3, 3) :: (16, 13, 8, 2, 6, 3) :: (24, 167, 0, 15, 9, 3) :: (26, 0, 0, 0, 12, 1) :: []
noncomputable def xj_57 : Lean.RArray (List XE) := .leaf []
-- 58: EmberScriptLaw.numberPrinted(LEmberScript;I[J)I
set_option maxRecDepth 100000 in
noncomputable def xc_58_15 : List XE := (4, 0, 0, 0, 15, 1) :: (26, 0, 0, 0, 16, 1) :: []
set_option maxRecDepth 100000 in
noncomputable def xc_58_12 : List XE := (2, 3, 2, 0, 12, 1) :: (4, 3, 0, 0, 13, 1) :: (26, 0, 0, 0, 14, 1) :: xc_58_15
set_option maxRecDepth 100000 in
noncomputable def xc_58_0 : List XE := (1, 2, 2, 0, 0, 1) :: (4, 0, 0, 0, 1, 1) :: (1, 0, 2, 0, 2, 1) :: (1, 1, 0, 0, 3, 1) :: (24, 168, 0, 11, 4, 3) :: (40, 0, 0, 0, 7, 1) :: (19, 1, 1, 0, 8, 1) :: (14, 15, 0, 0, 9, 3) :: xc_58_12
noncomputable def xj_58 : Lean.RArray (List XE) := .branch 15 (.leaf xc_58_12) (.leaf xc_58_15)
-- 59: EmberScriptModel.numberPrinted(I)I
set_option maxRecDepth 100000 in
noncomputable def xc_59_0 : List XE := (1, 0, 2, 0, 0, 1) :: (1, 1, 0, 0, 1, 1) :: (1, 0, 2, 0, 2, 1) :: (16, 14, 4, 2, 3, 3) :: (16, 13, 9, 2, 6, 3) :: (24, 167, 0, 15, 9, 3) :: (26, 0, 0, 0, 12, 1) :: []
noncomputable def xj_59 : Lean.RArray (List XE) := .leaf []
-- 60: EmberScriptLaw.kindThrown(LEmberScript;[J)I
set_option maxRecDepth 100000 in
noncomputable def xc_60_14 : List XE := (4, 0, 0, 0, 14, 1) :: (26, 0, 0, 0, 15, 1) :: []
set_option maxRecDepth 100000 in
noncomputable def xc_60_11 : List XE := (2, 2, 2, 0, 11, 1) :: (4, 3, 0, 0, 12, 1) :: (26, 0, 0, 0, 13, 1) :: xc_60_14
set_option maxRecDepth 100000 in
noncomputable def xc_60_0 : List XE := (1, 1, 2, 0, 0, 1) :: (4, 0, 0, 0, 1, 1) :: (1, 0, 2, 0, 2, 1) :: (24, 169, 0, 11, 3, 3) :: (40, 0, 0, 0, 6, 1) :: (19, 1, 1, 0, 7, 1) :: (14, 14, 0, 0, 8, 3) :: xc_60_11
noncomputable def xj_60 : Lean.RArray (List XE) := .branch 14 (.leaf xc_60_11) (.leaf xc_60_14)
-- 61: EmberScriptModel.kindThrown()I
set_option maxRecDepth 100000 in
noncomputable def xc_61_30 : List XE := (26, 0, 0, 0, 30, 1) :: []
set_option maxRecDepth 100000 in
noncomputable def xc_61_25 : List XE := (1, 0, 2, 0, 25, 1) :: (4, 3, 0, 0, 26, 1) :: (24, 121, 0, 15, 27, 3) :: xc_61_30
set_option maxRecDepth 100000 in
noncomputable def xc_61_0 : List XE := (1, 0, 2, 0, 0, 1) :: (16, 14, 4, 2, 1, 3) :: (16, 13, 1, 0, 4, 3) :: (4, 6, 0, 0, 7, 1) :: (13, 25, 1, 0, 8, 3) :: (1, 0, 2, 0, 11, 1) :: (1, 0, 2, 0, 12, 1) :: (16, 14, 4, 2, 13, 3) :: (16, 13, 6, 0, 16, 3) :: (24, 134, 0, 15, 19, 3) :: (14, 30, 0, 0, 22, 3) :: xc_61_25
noncomputable def xj_61 : Lean.RArray (List XE) := .branch 30 (.leaf xc_61_25) (.leaf xc_61_30)
-- 62: EmberScriptLaw.numberThrown(LEmberScript;[J)I
set_option maxRecDepth 100000 in
noncomputable def xc_62_14 : List XE := (4, 0, 0, 0, 14, 1) :: (26, 0, 0, 0, 15, 1) :: []
set_option maxRecDepth 100000 in
noncomputable def xc_62_11 : List XE := (2, 2, 2, 0, 11, 1) :: (4, 3, 0, 0, 12, 1) :: (26, 0, 0, 0, 13, 1) :: xc_62_14
set_option maxRecDepth 100000 in
noncomputable def xc_62_0 : List XE := (1, 1, 2, 0, 0, 1) :: (4, 0, 0, 0, 1, 1) :: (1, 0, 2, 0, 2, 1) :: (24, 170, 0, 11, 3, 3) :: (40, 0, 0, 0, 6, 1) :: (19, 1, 1, 0, 7, 1) :: (14, 14, 0, 0, 8, 3) :: xc_62_11
noncomputable def xj_62 : Lean.RArray (List XE) := .branch 14 (.leaf xc_62_11) (.leaf xc_62_14)
-- 63: EmberScriptModel.numberThrown()I
set_option maxRecDepth 100000 in
noncomputable def xc_63_30 : List XE := (26, 0, 0, 0, 30, 1) :: []
set_option maxRecDepth 100000 in
noncomputable def xc_63_25 : List XE := (1, 0, 2, 0, 25, 1) :: (4, 3, 0, 0, 26, 1) :: (24, 121, 0, 15, 27, 3) :: xc_63_30
set_option maxRecDepth 100000 in
noncomputable def xc_63_0 : List XE := (1, 0, 2, 0, 0, 1) :: (16, 14, 4, 2, 1, 3) :: (16, 13, 1, 0, 4, 3) :: (4, 6, 0, 0, 7, 1) :: (13, 25, 1, 0, 8, 3) :: (1, 0, 2, 0, 11, 1) :: (1, 0, 2, 0, 12, 1) :: (16, 14, 4, 2, 13, 3) :: (16, 13, 7, 0, 16, 3) :: (24, 134, 0, 15, 19, 3) :: (14, 30, 0, 0, 22, 3) :: xc_63_25
noncomputable def xj_63 : Lean.RArray (List XE) := .branch 30 (.leaf xc_63_25) (.leaf xc_63_30)
-- 64: EmberScript.things()I
set_option maxRecDepth 100000 in
noncomputable def xc_64_0 : List XE := (1, 0, 2, 0, 0, 1) :: (16, 10, 3, 2, 1, 3) :: (24, 171, 0, 10, 4, 3) :: (24, 172, 0, 6, 7, 3) :: (26, 0, 0, 0, 10, 1) :: []
noncomputable def xj_64 : Lean.RArray (List XE) := .leaf []
-- 65: EmberScriptModel.things()I
set_option maxRecDepth 100000 in
noncomputable def xc_65_0 : List XE := (1, 0, 2, 0, 0, 1) :: (1, 0, 2, 0, 1, 1) :: (16, 14, 4, 2, 2, 3) :: (24, 173, 0, 14, 5, 3) :: (24, 134, 0, 15, 8, 3) :: (26, 0, 0, 0, 11, 1) :: []
noncomputable def xj_65 : Lean.RArray (List XE) := .leaf []
-- 66: EmberScriptLaw.isThere(LEmberScript;I[J)I
set_option maxRecDepth 100000 in
noncomputable def xc_66_22 : List XE := (4, 0, 0, 0, 22, 1) :: (26, 0, 0, 0, 23, 1) :: []
set_option maxRecDepth 100000 in
noncomputable def xc_66_19 : List XE := (2, 3, 2, 0, 19, 1) :: (4, 3, 0, 0, 20, 1) :: (26, 0, 0, 0, 21, 1) :: xc_66_22
set_option maxRecDepth 100000 in
noncomputable def xc_66_15 : List XE := (19, 1, 1, 0, 15, 1) :: (14, 22, 0, 0, 16, 3) :: xc_66_19
set_option maxRecDepth 100000 in
noncomputable def xc_66_14 : List XE := (4, 1, 0, 0, 14, 1) :: xc_66_15
set_option maxRecDepth 100000 in
noncomputable def xc_66_0 : List XE := (1, 2, 2, 0, 0, 1) :: (4, 0, 0, 0, 1, 1) :: (1, 0, 2, 0, 2, 1) :: (1, 1, 0, 0, 3, 1) :: (24, 174, 0, 11, 4, 3) :: (12, 14, 0, 0, 7, 3) :: (4, 10, 0, 0, 10, 1) :: (14, 15, 0, 0, 11, 3) :: xc_66_14
noncomputable def xj_66 : Lean.RArray (List XE) := .branch 19 (.branch 15 (.leaf xc_66_14) (.leaf xc_66_15)) (.branch 22 (.leaf xc_66_19) (.leaf xc_66_22))
-- 67: EmberScriptModel.isThere(I)Z
set_option maxRecDepth 100000 in
noncomputable def xc_67_40 : List XE := (26, 0, 0, 0, 40, 1) :: []
set_option maxRecDepth 100000 in
noncomputable def xc_67_35 : List XE := (1, 0, 2, 0, 35, 1) :: (4, 3, 0, 0, 36, 1) :: (24, 160, 0, 15, 37, 3) :: xc_67_40
set_option maxRecDepth 100000 in
noncomputable def xc_67_31 : List XE := (4, 0, 0, 0, 31, 1) :: (14, 40, 0, 0, 32, 3) :: xc_67_35
set_option maxRecDepth 100000 in
noncomputable def xc_67_0 : List XE := (1, 0, 2, 0, 0, 1) :: (4, 0, 0, 0, 1, 1) :: (17, 14, 3, 0, 2, 3) :: (1, 1, 0, 0, 5, 1) :: (4, 0, 0, 0, 6, 1) :: (4, 15, 0, 0, 7, 2) :: (24, 124, 0, 0, 9, 3) :: (12, 35, 0, 0, 12, 3) :: (1, 0, 2, 0, 15, 1) :: (16, 14, 4, 2, 16, 3) :: (16, 13, 10, 2, 19, 3) :: (1, 1, 0, 0, 22, 1) :: (18, 0, 0, 0, 23, 1) :: (12, 31, 0, 0, 24, 3) :: (4, 3, 0, 0, 27, 1) :: (14, 40, 0, 0, 28, 3) :: xc_67_31
noncomputable def xj_67 : Lean.RArray (List XE) := .branch 35 (.leaf xc_67_31) (.branch 40 (.leaf xc_67_35) (.leaf xc_67_40))
-- 68: EmberScriptLaw.kindOfThing(LEmberScript;I[J)I
set_option maxRecDepth 100000 in
noncomputable def xc_68_15 : List XE := (4, 0, 0, 0, 15, 1) :: (26, 0, 0, 0, 16, 1) :: []
set_option maxRecDepth 100000 in
noncomputable def xc_68_12 : List XE := (2, 3, 2, 0, 12, 1) :: (4, 3, 0, 0, 13, 1) :: (26, 0, 0, 0, 14, 1) :: xc_68_15
set_option maxRecDepth 100000 in
noncomputable def xc_68_0 : List XE := (1, 2, 2, 0, 0, 1) :: (4, 0, 0, 0, 1, 1) :: (1, 0, 2, 0, 2, 1) :: (1, 1, 0, 0, 3, 1) :: (24, 175, 0, 11, 4, 3) :: (40, 0, 0, 0, 7, 1) :: (19, 1, 1, 0, 8, 1) :: (14, 15, 0, 0, 9, 3) :: xc_68_12
noncomputable def xj_68 : Lean.RArray (List XE) := .branch 15 (.leaf xc_68_12) (.leaf xc_68_15)
-- 69: EmberScriptModel.kindOfThing(I)I
set_option maxRecDepth 100000 in
noncomputable def xc_69_30 : List XE := (26, 0, 0, 0, 30, 1) :: []
set_option maxRecDepth 100000 in
noncomputable def xc_69_25 : List XE := (1, 0, 2, 0, 25, 1) :: (4, 3, 0, 0, 26, 1) :: (24, 121, 0, 15, 27, 3) :: xc_69_30
set_option maxRecDepth 100000 in
noncomputable def xc_69_0 : List XE := (1, 0, 2, 0, 0, 1) :: (4, 0, 0, 0, 1, 1) :: (17, 14, 3, 0, 2, 3) :: (1, 0, 2, 0, 5, 1) :: (1, 1, 0, 0, 6, 1) :: (24, 176, 0, 15, 7, 3) :: (12, 25, 0, 0, 10, 3) :: (1, 0, 2, 0, 13, 1) :: (16, 14, 4, 2, 14, 3) :: (16, 13, 10, 2, 17, 3) :: (1, 1, 0, 0, 20, 1) :: (18, 0, 0, 0, 21, 1) :: (14, 30, 0, 0, 22, 3) :: xc_69_25
noncomputable def xj_69 : Lean.RArray (List XE) := .branch 30 (.leaf xc_69_25) (.leaf xc_69_30)
-- 70: EmberScriptLaw.functionOf(LEmberScript;I[J)I
set_option maxRecDepth 100000 in
noncomputable def xc_70_18 : List XE := (4, 0, 0, 0, 18, 1) :: (26, 0, 0, 0, 19, 1) :: []
set_option maxRecDepth 100000 in
noncomputable def xc_70_15 : List XE := (2, 3, 2, 0, 15, 1) :: (4, 6, 0, 0, 16, 1) :: (26, 0, 0, 0, 17, 1) :: xc_70_18
set_option maxRecDepth 100000 in
noncomputable def xc_70_12 : List XE := (2, 3, 2, 0, 12, 1) :: (4, 3, 0, 0, 13, 1) :: (26, 0, 0, 0, 14, 1) :: xc_70_15
set_option maxRecDepth 100000 in
noncomputable def xc_70_0 : List XE := (1, 2, 2, 0, 0, 1) :: (4, 0, 0, 0, 1, 1) :: (1, 0, 2, 0, 2, 1) :: (1, 1, 0, 0, 3, 1) :: (24, 177, 0, 11, 4, 3) :: (40, 0, 0, 0, 7, 1) :: (19, 1, 1, 0, 8, 1) :: (14, 18, 0, 0, 9, 3) :: xc_70_12
noncomputable def xj_70 : Lean.RArray (List XE) := .branch 15 (.leaf xc_70_12) (.branch 18 (.leaf xc_70_15) (.leaf xc_70_18))
-- 71: EmberScriptModel.functionOf(I)I
set_option maxRecDepth 100000 in
noncomputable def xc_71_63 : List XE := (26, 0, 0, 0, 63, 1) :: []
set_option maxRecDepth 100000 in
noncomputable def xc_71_58 : List XE := (1, 0, 2, 0, 58, 1) :: (4, 6, 0, 0, 59, 1) :: (24, 121, 0, 15, 60, 3) :: xc_71_63
set_option maxRecDepth 100000 in
noncomputable def xc_71_46 : List XE := (1, 0, 2, 0, 46, 1) :: (16, 14, 4, 2, 47, 3) :: (16, 13, 11, 2, 50, 3) :: (1, 1, 0, 0, 53, 1) :: (18, 0, 0, 0, 54, 1) :: (14, 63, 0, 0, 55, 3) :: xc_71_58
set_option maxRecDepth 100000 in
noncomputable def xc_71_19 : List XE := (1, 0, 2, 0, 19, 1) :: (16, 14, 4, 2, 20, 3) :: (16, 13, 10, 2, 23, 3) :: (1, 1, 0, 0, 26, 1) :: (18, 0, 0, 0, 27, 1) :: (4, 9, 0, 0, 28, 1) :: (13, 46, 0, 0, 29, 3) :: (1, 0, 2, 0, 32, 1) :: (16, 14, 4, 2, 33, 3) :: (16, 13, 10, 2, 36, 3) :: (1, 1, 0, 0, 39, 1) :: (18, 0, 0, 0, 40, 1) :: (4, 4, 0, 0, 41, 2) :: (13, 58, 1, 0, 43, 3) :: xc_71_46
set_option maxRecDepth 100000 in
noncomputable def xc_71_0 : List XE := (1, 0, 2, 0, 0, 1) :: (4, 0, 0, 0, 1, 1) :: (17, 14, 3, 0, 2, 3) :: (1, 0, 2, 0, 5, 1) :: (1, 1, 0, 0, 6, 1) :: (24, 176, 0, 15, 7, 3) :: (12, 19, 1, 0, 10, 3) :: (1, 0, 2, 0, 13, 1) :: (4, 3, 0, 0, 14, 1) :: (24, 121, 0, 15, 15, 3) :: (26, 0, 0, 0, 18, 1) :: xc_71_19
noncomputable def xj_71 : Lean.RArray (List XE) := .branch 58 (.branch 46 (.leaf xc_71_19) (.leaf xc_71_46)) (.branch 63 (.leaf xc_71_58) (.leaf xc_71_63))
-- 72: EmberScriptLaw.slots(LEmberScript;I[J)I
set_option maxRecDepth 100000 in
noncomputable def xc_72_18 : List XE := (4, 0, 0, 0, 18, 1) :: (26, 0, 0, 0, 19, 1) :: []
set_option maxRecDepth 100000 in
noncomputable def xc_72_15 : List XE := (2, 3, 2, 0, 15, 1) :: (4, 6, 0, 0, 16, 1) :: (26, 0, 0, 0, 17, 1) :: xc_72_18
set_option maxRecDepth 100000 in
noncomputable def xc_72_12 : List XE := (2, 3, 2, 0, 12, 1) :: (4, 3, 0, 0, 13, 1) :: (26, 0, 0, 0, 14, 1) :: xc_72_15
set_option maxRecDepth 100000 in
noncomputable def xc_72_0 : List XE := (1, 2, 2, 0, 0, 1) :: (4, 0, 0, 0, 1, 1) :: (1, 0, 2, 0, 2, 1) :: (1, 1, 0, 0, 3, 1) :: (24, 178, 0, 11, 4, 3) :: (40, 0, 0, 0, 7, 1) :: (19, 1, 1, 0, 8, 1) :: (14, 18, 0, 0, 9, 3) :: xc_72_12
noncomputable def xj_72 : Lean.RArray (List XE) := .branch 15 (.leaf xc_72_12) (.branch 18 (.leaf xc_72_15) (.leaf xc_72_18))
-- 73: EmberScriptModel.slots(I)I
set_option maxRecDepth 100000 in
noncomputable def xc_73_44 : List XE := (26, 0, 0, 0, 44, 1) :: []
set_option maxRecDepth 100000 in
noncomputable def xc_73_39 : List XE := (1, 0, 2, 0, 39, 1) :: (4, 6, 0, 0, 40, 1) :: (24, 121, 0, 15, 41, 3) :: xc_73_44
set_option maxRecDepth 100000 in
noncomputable def xc_73_19 : List XE := (1, 0, 2, 0, 19, 1) :: (1, 1, 0, 0, 20, 1) :: (24, 179, 0, 15, 21, 3) :: (12, 39, 0, 0, 24, 3) :: (1, 0, 2, 0, 27, 1) :: (16, 14, 4, 2, 28, 3) :: (16, 13, 16, 2, 31, 3) :: (1, 1, 0, 0, 34, 1) :: (18, 0, 0, 0, 35, 1) :: (14, 44, 0, 0, 36, 3) :: xc_73_39
set_option maxRecDepth 100000 in
noncomputable def xc_73_0 : List XE := (1, 0, 2, 0, 0, 1) :: (4, 0, 0, 0, 1, 1) :: (17, 14, 3, 0, 2, 3) :: (1, 0, 2, 0, 5, 1) :: (1, 1, 0, 0, 6, 1) :: (24, 176, 0, 15, 7, 3) :: (12, 19, 1, 0, 10, 3) :: (1, 0, 2, 0, 13, 1) :: (4, 3, 0, 0, 14, 1) :: (24, 121, 0, 15, 15, 3) :: (26, 0, 0, 0, 18, 1) :: xc_73_19
noncomputable def xj_73 : Lean.RArray (List XE) := .branch 39 (.leaf xc_73_19) (.branch 44 (.leaf xc_73_39) (.leaf xc_73_44))
-- 74: EmberScriptLaw.wordIn(LEmberScript;II[J)I
set_option maxRecDepth 100000 in
noncomputable def xc_74_21 : List XE := (4, 0, 0, 0, 21, 1) :: (26, 0, 0, 0, 22, 1) :: []
set_option maxRecDepth 100000 in
noncomputable def xc_74_17 : List XE := (2, 4, 2, 0, 17, 2) :: (4, 6, 0, 0, 19, 1) :: (26, 0, 0, 0, 20, 1) :: xc_74_21
set_option maxRecDepth 100000 in
noncomputable def xc_74_13 : List XE := (2, 4, 2, 0, 13, 2) :: (4, 3, 0, 0, 15, 1) :: (26, 0, 0, 0, 16, 1) :: xc_74_17
set_option maxRecDepth 100000 in
noncomputable def xc_74_0 : List XE := (1, 3, 2, 0, 0, 1) :: (4, 0, 0, 0, 1, 1) :: (1, 0, 2, 0, 2, 1) :: (1, 1, 0, 0, 3, 1) :: (1, 2, 0, 0, 4, 1) :: (24, 180, 0, 11, 5, 3) :: (40, 0, 0, 0, 8, 1) :: (19, 1, 1, 0, 9, 1) :: (14, 21, 0, 0, 10, 3) :: xc_74_13
noncomputable def xj_74 : Lean.RArray (List XE) := .branch 17 (.leaf xc_74_13) (.branch 21 (.leaf xc_74_17) (.leaf xc_74_21))
-- 75: EmberScriptModel.wordIn(II)I
set_option maxRecDepth 100000 in
noncomputable def xc_75_0 : List XE := (1, 0, 2, 0, 0, 1) :: (1, 1, 0, 0, 1, 1) :: (1, 2, 0, 0, 2, 1) :: (1, 0, 2, 0, 3, 1) :: (16, 14, 4, 2, 4, 3) :: (16, 13, 18, 2, 7, 3) :: (24, 181, 0, 15, 10, 3) :: (26, 0, 0, 0, 13, 1) :: []
noncomputable def xj_75 : Lean.RArray (List XE) := .leaf []
-- 76: EmberScriptLaw.kindIn(LEmberScript;II[J)I
set_option maxRecDepth 100000 in
noncomputable def xc_76_21 : List XE := (4, 0, 0, 0, 21, 1) :: (26, 0, 0, 0, 22, 1) :: []
set_option maxRecDepth 100000 in
noncomputable def xc_76_17 : List XE := (2, 4, 2, 0, 17, 2) :: (4, 6, 0, 0, 19, 1) :: (26, 0, 0, 0, 20, 1) :: xc_76_21
set_option maxRecDepth 100000 in
noncomputable def xc_76_13 : List XE := (2, 4, 2, 0, 13, 2) :: (4, 3, 0, 0, 15, 1) :: (26, 0, 0, 0, 16, 1) :: xc_76_17
set_option maxRecDepth 100000 in
noncomputable def xc_76_0 : List XE := (1, 3, 2, 0, 0, 1) :: (4, 0, 0, 0, 1, 1) :: (1, 0, 2, 0, 2, 1) :: (1, 1, 0, 0, 3, 1) :: (1, 2, 0, 0, 4, 1) :: (24, 182, 0, 11, 5, 3) :: (40, 0, 0, 0, 8, 1) :: (19, 1, 1, 0, 9, 1) :: (14, 21, 0, 0, 10, 3) :: xc_76_13
noncomputable def xj_76 : Lean.RArray (List XE) := .branch 17 (.leaf xc_76_13) (.branch 21 (.leaf xc_76_17) (.leaf xc_76_21))
-- 77: EmberScriptModel.kindIn(II)I
set_option maxRecDepth 100000 in
noncomputable def xc_77_0 : List XE := (1, 0, 2, 0, 0, 1) :: (1, 1, 0, 0, 1, 1) :: (1, 2, 0, 0, 2, 1) :: (1, 0, 2, 0, 3, 1) :: (16, 14, 4, 2, 4, 3) :: (16, 13, 19, 2, 7, 3) :: (24, 181, 0, 15, 10, 3) :: (26, 0, 0, 0, 13, 1) :: []
noncomputable def xj_77 : Lean.RArray (List XE) := .leaf []
-- 78: EmberScriptLaw.numberIn(LEmberScript;II[J)I
set_option maxRecDepth 100000 in
noncomputable def xc_78_21 : List XE := (4, 0, 0, 0, 21, 1) :: (26, 0, 0, 0, 22, 1) :: []
set_option maxRecDepth 100000 in
noncomputable def xc_78_17 : List XE := (2, 4, 2, 0, 17, 2) :: (4, 6, 0, 0, 19, 1) :: (26, 0, 0, 0, 20, 1) :: xc_78_21
set_option maxRecDepth 100000 in
noncomputable def xc_78_13 : List XE := (2, 4, 2, 0, 13, 2) :: (4, 3, 0, 0, 15, 1) :: (26, 0, 0, 0, 16, 1) :: xc_78_17
set_option maxRecDepth 100000 in
noncomputable def xc_78_0 : List XE := (1, 3, 2, 0, 0, 1) :: (4, 0, 0, 0, 1, 1) :: (1, 0, 2, 0, 2, 1) :: (1, 1, 0, 0, 3, 1) :: (1, 2, 0, 0, 4, 1) :: (24, 183, 0, 11, 5, 3) :: (40, 0, 0, 0, 8, 1) :: (19, 1, 1, 0, 9, 1) :: (14, 21, 0, 0, 10, 3) :: xc_78_13
noncomputable def xj_78 : Lean.RArray (List XE) := .branch 17 (.leaf xc_78_13) (.branch 21 (.leaf xc_78_17) (.leaf xc_78_21))
-- 79: EmberScriptModel.numberIn(II)I
set_option maxRecDepth 100000 in
noncomputable def xc_79_0 : List XE := (1, 0, 2, 0, 0, 1) :: (1, 1, 0, 0, 1, 1) :: (1, 2, 0, 0, 2, 1) :: (1, 0, 2, 0, 3, 1) :: (16, 14, 4, 2, 4, 3) :: (16, 13, 20, 2, 7, 3) :: (24, 181, 0, 15, 10, 3) :: (26, 0, 0, 0, 13, 1) :: []
noncomputable def xj_79 : Lean.RArray (List XE) := .leaf []
-- 80: EmberScriptLaw.parentOf(LEmberScript;I[J)I
set_option maxRecDepth 100000 in
noncomputable def xc_80_18 : List XE := (4, 0, 0, 0, 18, 1) :: (26, 0, 0, 0, 19, 1) :: []
set_option maxRecDepth 100000 in
noncomputable def xc_80_15 : List XE := (2, 3, 2, 0, 15, 1) :: (4, 6, 0, 0, 16, 1) :: (26, 0, 0, 0, 17, 1) :: xc_80_18
set_option maxRecDepth 100000 in
noncomputable def xc_80_12 : List XE := (2, 3, 2, 0, 12, 1) :: (4, 3, 0, 0, 13, 1) :: (26, 0, 0, 0, 14, 1) :: xc_80_15
set_option maxRecDepth 100000 in
noncomputable def xc_80_0 : List XE := (1, 2, 2, 0, 0, 1) :: (4, 0, 0, 0, 1, 1) :: (1, 0, 2, 0, 2, 1) :: (1, 1, 0, 0, 3, 1) :: (24, 184, 0, 11, 4, 3) :: (40, 0, 0, 0, 7, 1) :: (19, 1, 1, 0, 8, 1) :: (14, 18, 0, 0, 9, 3) :: xc_80_12
noncomputable def xj_80 : Lean.RArray (List XE) := .branch 15 (.leaf xc_80_12) (.branch 18 (.leaf xc_80_15) (.leaf xc_80_18))
-- 81: EmberScriptModel.parentOf(I)I
set_option maxRecDepth 100000 in
noncomputable def xc_81_44 : List XE := (26, 0, 0, 0, 44, 1) :: []
set_option maxRecDepth 100000 in
noncomputable def xc_81_39 : List XE := (1, 0, 2, 0, 39, 1) :: (4, 6, 0, 0, 40, 1) :: (24, 121, 0, 15, 41, 3) :: xc_81_44
set_option maxRecDepth 100000 in
noncomputable def xc_81_19 : List XE := (1, 0, 2, 0, 19, 1) :: (1, 1, 0, 0, 20, 1) :: (24, 179, 0, 15, 21, 3) :: (12, 39, 0, 0, 24, 3) :: (1, 0, 2, 0, 27, 1) :: (16, 14, 4, 2, 28, 3) :: (16, 13, 15, 2, 31, 3) :: (1, 1, 0, 0, 34, 1) :: (18, 0, 0, 0, 35, 1) :: (14, 44, 0, 0, 36, 3) :: xc_81_39
set_option maxRecDepth 100000 in
noncomputable def xc_81_0 : List XE := (1, 0, 2, 0, 0, 1) :: (4, 0, 0, 0, 1, 1) :: (17, 14, 3, 0, 2, 3) :: (1, 0, 2, 0, 5, 1) :: (1, 1, 0, 0, 6, 1) :: (24, 176, 0, 15, 7, 3) :: (12, 19, 1, 0, 10, 3) :: (1, 0, 2, 0, 13, 1) :: (4, 3, 0, 0, 14, 1) :: (24, 121, 0, 15, 15, 3) :: (26, 0, 0, 0, 18, 1) :: xc_81_19
noncomputable def xj_81 : Lean.RArray (List XE) := .branch 39 (.leaf xc_81_19) (.branch 44 (.leaf xc_81_39) (.leaf xc_81_44))
-- 82: EmberScriptLaw.foundIn(LEmberScript;II[J)I
set_option maxRecDepth 100000 in
noncomputable def xc_82_21 : List XE := (4, 0, 0, 0, 21, 1) :: (26, 0, 0, 0, 22, 1) :: []
set_option maxRecDepth 100000 in
noncomputable def xc_82_17 : List XE := (2, 4, 2, 0, 17, 2) :: (4, 6, 0, 0, 19, 1) :: (26, 0, 0, 0, 20, 1) :: xc_82_21
set_option maxRecDepth 100000 in
noncomputable def xc_82_13 : List XE := (2, 4, 2, 0, 13, 2) :: (4, 3, 0, 0, 15, 1) :: (26, 0, 0, 0, 16, 1) :: xc_82_17
set_option maxRecDepth 100000 in
noncomputable def xc_82_0 : List XE := (1, 3, 2, 0, 0, 1) :: (4, 0, 0, 0, 1, 1) :: (1, 0, 2, 0, 2, 1) :: (1, 1, 0, 0, 3, 1) :: (1, 2, 0, 0, 4, 1) :: (24, 185, 0, 11, 5, 3) :: (40, 0, 0, 0, 8, 1) :: (19, 1, 1, 0, 9, 1) :: (14, 21, 0, 0, 10, 3) :: xc_82_13
noncomputable def xj_82 : Lean.RArray (List XE) := .branch 17 (.leaf xc_82_13) (.branch 21 (.leaf xc_82_17) (.leaf xc_82_21))
-- 83: EmberScriptModel.foundIn(II)I
set_option maxRecDepth 100000 in
noncomputable def xc_83_52 : List XE := (26, 0, 0, 0, 52, 1) :: []
set_option maxRecDepth 100000 in
noncomputable def xc_83_47 : List XE := (1, 0, 2, 0, 47, 1) :: (4, 6, 0, 0, 48, 1) :: (24, 121, 0, 15, 49, 3) :: xc_83_52
set_option maxRecDepth 100000 in
noncomputable def xc_83_27 : List XE := (1, 0, 2, 0, 27, 1) :: (1, 1, 0, 0, 28, 1) :: (24, 179, 0, 15, 29, 3) :: (12, 47, 0, 0, 32, 3) :: (1, 0, 2, 0, 35, 1) :: (16, 14, 4, 2, 36, 3) :: (1, 1, 0, 0, 39, 1) :: (1, 2, 0, 0, 40, 1) :: (0, 0, 0, 0, 41, 3) :: (14, 52, 0, 0, 44, 3) :: xc_83_47
set_option maxRecDepth 100000 in
noncomputable def xc_83_21 : List XE := (1, 0, 2, 0, 21, 1) :: (4, 3, 0, 0, 22, 1) :: (24, 121, 0, 15, 23, 3) :: (26, 0, 0, 0, 26, 1) :: xc_83_27
set_option maxRecDepth 100000 in
noncomputable def xc_83_0 : List XE := (1, 0, 2, 0, 0, 1) :: (4, 0, 0, 0, 1, 1) :: (17, 14, 3, 0, 2, 3) :: (1, 0, 2, 0, 5, 1) :: (1, 1, 0, 0, 6, 1) :: (24, 176, 0, 15, 7, 3) :: (12, 21, 0, 0, 10, 3) :: (1, 0, 2, 0, 13, 1) :: (1, 2, 0, 0, 14, 1) :: (24, 137, 0, 15, 15, 3) :: (12, 27, 1, 0, 18, 3) :: xc_83_21
noncomputable def xj_83 : Lean.RArray (List XE) := .branch 47 (.branch 27 (.leaf xc_83_21) (.leaf xc_83_27)) (.branch 52 (.leaf xc_83_47) (.leaf xc_83_52))
-- 84: EmberScriptLaw.isLike(LEmberScript;II[J)I
set_option maxRecDepth 100000 in
noncomputable def xc_84_28 : List XE := (4, 0, 0, 0, 28, 1) :: (26, 0, 0, 0, 29, 1) :: []
set_option maxRecDepth 100000 in
noncomputable def xc_84_24 : List XE := (2, 4, 2, 0, 24, 2) :: (4, 6, 0, 0, 26, 1) :: (26, 0, 0, 0, 27, 1) :: xc_84_28
set_option maxRecDepth 100000 in
noncomputable def xc_84_20 : List XE := (2, 4, 2, 0, 20, 2) :: (4, 3, 0, 0, 22, 1) :: (26, 0, 0, 0, 23, 1) :: xc_84_24
set_option maxRecDepth 100000 in
noncomputable def xc_84_16 : List XE := (19, 1, 1, 0, 16, 1) :: (14, 28, 0, 0, 17, 3) :: xc_84_20
set_option maxRecDepth 100000 in
noncomputable def xc_84_15 : List XE := (4, 1, 0, 0, 15, 1) :: xc_84_16
set_option maxRecDepth 100000 in
noncomputable def xc_84_0 : List XE := (1, 3, 2, 0, 0, 1) :: (4, 0, 0, 0, 1, 1) :: (1, 0, 2, 0, 2, 1) :: (1, 1, 0, 0, 3, 1) :: (1, 2, 0, 0, 4, 1) :: (24, 186, 0, 11, 5, 3) :: (12, 15, 0, 0, 8, 3) :: (4, 10, 0, 0, 11, 1) :: (14, 16, 0, 0, 12, 3) :: xc_84_15
noncomputable def xj_84 : Lean.RArray (List XE) := .branch 20 (.branch 16 (.leaf xc_84_15) (.leaf xc_84_16)) (.branch 24 (.leaf xc_84_20) (.branch 28 (.leaf xc_84_24) (.leaf xc_84_28)))
-- 85: EmberScriptModel.isLike(II)Z
set_option maxRecDepth 100000 in
noncomputable def xc_85_92 : List XE := (26, 0, 0, 0, 92, 1) :: []
set_option maxRecDepth 100000 in
noncomputable def xc_85_91 : List XE := (4, 0, 0, 0, 91, 1) :: xc_85_92
set_option maxRecDepth 100000 in
noncomputable def xc_85_82 : List XE := (1, 3, 0, 0, 82, 1) :: (1, 2, 0, 0, 83, 1) :: (13, 91, 1, 0, 84, 3) :: (4, 3, 0, 0, 87, 1) :: (14, 92, 0, 0, 88, 3) :: xc_85_91
set_option maxRecDepth 100000 in
noncomputable def xc_85_59 : List XE := (1, 3, 0, 0, 59, 1) :: (4, 11, 0, 0, 60, 1) :: (13, 82, 0, 0, 61, 3) :: (1, 3, 0, 0, 64, 1) :: (1, 2, 0, 0, 65, 1) :: (13, 82, 0, 0, 66, 3) :: (1, 0, 2, 0, 69, 1) :: (16, 14, 4, 2, 70, 3) :: (16, 13, 15, 2, 73, 3) :: (1, 3, 0, 0, 76, 1) :: (18, 0, 0, 0, 77, 1) :: (2, 3, 0, 0, 78, 1) :: (14, 59, 0, 0, 79, 3) :: xc_85_82
set_option maxRecDepth 100000 in
noncomputable def xc_85_49 : List XE := (1, 0, 2, 0, 49, 1) :: (16, 14, 4, 2, 50, 3) :: (16, 13, 15, 2, 53, 3) :: (1, 1, 0, 0, 56, 1) :: (18, 0, 0, 0, 57, 1) :: (2, 3, 0, 0, 58, 1) :: xc_85_59
set_option maxRecDepth 100000 in
noncomputable def xc_85_43 : List XE := (1, 0, 2, 0, 43, 1) :: (4, 6, 0, 0, 44, 1) :: (24, 160, 0, 15, 45, 3) :: (26, 0, 0, 0, 48, 1) :: xc_85_49
set_option maxRecDepth 100000 in
noncomputable def xc_85_27 : List XE := (1, 0, 2, 0, 27, 1) :: (1, 1, 0, 0, 28, 1) :: (24, 179, 0, 15, 29, 3) :: (12, 43, 0, 0, 32, 3) :: (1, 0, 2, 0, 35, 1) :: (1, 2, 0, 0, 36, 1) :: (24, 179, 0, 15, 37, 3) :: (12, 49, 1, 0, 40, 3) :: xc_85_43
set_option maxRecDepth 100000 in
noncomputable def xc_85_21 : List XE := (1, 0, 2, 0, 21, 1) :: (4, 3, 0, 0, 22, 1) :: (24, 160, 0, 15, 23, 3) :: (26, 0, 0, 0, 26, 1) :: xc_85_27
set_option maxRecDepth 100000 in
noncomputable def xc_85_0 : List XE := (1, 0, 2, 0, 0, 1) :: (4, 0, 0, 0, 1, 1) :: (17, 14, 3, 0, 2, 3) :: (1, 0, 2, 0, 5, 1) :: (1, 1, 0, 0, 6, 1) :: (24, 176, 0, 15, 7, 3) :: (12, 21, 0, 0, 10, 3) :: (1, 0, 2, 0, 13, 1) :: (1, 2, 0, 0, 14, 1) :: (24, 176, 0, 15, 15, 3) :: (12, 27, 1, 0, 18, 3) :: xc_85_21
noncomputable def xj_85 : Lean.RArray (List XE) := .branch 59 (.branch 43 (.branch 27 (.leaf xc_85_21) (.leaf xc_85_27)) (.branch 49 (.leaf xc_85_43) (.leaf xc_85_49))) (.branch 91 (.branch 82 (.leaf xc_85_59) (.leaf xc_85_82)) (.branch 92 (.leaf xc_85_91) (.leaf xc_85_92)))
-- 86: EmberScriptLaw.stateOf(LEmberScript;I[J)I
set_option maxRecDepth 100000 in
noncomputable def xc_86_18 : List XE := (4, 0, 0, 0, 18, 1) :: (26, 0, 0, 0, 19, 1) :: []
set_option maxRecDepth 100000 in
noncomputable def xc_86_15 : List XE := (2, 3, 2, 0, 15, 1) :: (4, 6, 0, 0, 16, 1) :: (26, 0, 0, 0, 17, 1) :: xc_86_18
set_option maxRecDepth 100000 in
noncomputable def xc_86_12 : List XE := (2, 3, 2, 0, 12, 1) :: (4, 3, 0, 0, 13, 1) :: (26, 0, 0, 0, 14, 1) :: xc_86_15
set_option maxRecDepth 100000 in
noncomputable def xc_86_0 : List XE := (1, 2, 2, 0, 0, 1) :: (4, 0, 0, 0, 1, 1) :: (1, 0, 2, 0, 2, 1) :: (1, 1, 0, 0, 3, 1) :: (24, 187, 0, 11, 4, 3) :: (40, 0, 0, 0, 7, 1) :: (19, 1, 1, 0, 8, 1) :: (14, 18, 0, 0, 9, 3) :: xc_86_12
noncomputable def xj_86 : Lean.RArray (List XE) := .branch 15 (.leaf xc_86_12) (.branch 18 (.leaf xc_86_15) (.leaf xc_86_18))
-- 87: EmberScriptModel.stateOf(I)I
set_option maxRecDepth 100000 in
noncomputable def xc_87_50 : List XE := (26, 0, 0, 0, 50, 1) :: []
set_option maxRecDepth 100000 in
noncomputable def xc_87_45 : List XE := (1, 0, 2, 0, 45, 1) :: (4, 6, 0, 0, 46, 1) :: (24, 121, 0, 15, 47, 3) :: xc_87_50
set_option maxRecDepth 100000 in
noncomputable def xc_87_19 : List XE := (1, 0, 2, 0, 19, 1) :: (16, 14, 4, 2, 20, 3) :: (16, 13, 10, 2, 23, 3) :: (1, 1, 0, 0, 26, 1) :: (18, 0, 0, 0, 27, 1) :: (4, 4, 0, 0, 28, 2) :: (13, 45, 1, 0, 30, 3) :: (1, 0, 2, 0, 33, 1) :: (16, 14, 4, 2, 34, 3) :: (16, 13, 14, 2, 37, 3) :: (1, 1, 0, 0, 40, 1) :: (18, 0, 0, 0, 41, 1) :: (14, 50, 0, 0, 42, 3) :: xc_87_45
set_option maxRecDepth 100000 in
noncomputable def xc_87_0 : List XE := (1, 0, 2, 0, 0, 1) :: (4, 0, 0, 0, 1, 1) :: (17, 14, 3, 0, 2, 3) :: (1, 0, 2, 0, 5, 1) :: (1, 1, 0, 0, 6, 1) :: (24, 176, 0, 15, 7, 3) :: (12, 19, 1, 0, 10, 3) :: (1, 0, 2, 0, 13, 1) :: (4, 3, 0, 0, 14, 1) :: (24, 121, 0, 15, 15, 3) :: (26, 0, 0, 0, 18, 1) :: xc_87_19
noncomputable def xj_87 : Lean.RArray (List XE) := .branch 45 (.leaf xc_87_19) (.branch 50 (.leaf xc_87_45) (.leaf xc_87_50))
-- 88: EmberScriptLaw.refersTo(LEmberScript;I[J)I
set_option maxRecDepth 100000 in
noncomputable def xc_88_18 : List XE := (4, 0, 0, 0, 18, 1) :: (26, 0, 0, 0, 19, 1) :: []
set_option maxRecDepth 100000 in
noncomputable def xc_88_15 : List XE := (2, 3, 2, 0, 15, 1) :: (4, 6, 0, 0, 16, 1) :: (26, 0, 0, 0, 17, 1) :: xc_88_18
set_option maxRecDepth 100000 in
noncomputable def xc_88_12 : List XE := (2, 3, 2, 0, 12, 1) :: (4, 3, 0, 0, 13, 1) :: (26, 0, 0, 0, 14, 1) :: xc_88_15
set_option maxRecDepth 100000 in
noncomputable def xc_88_0 : List XE := (1, 2, 2, 0, 0, 1) :: (4, 0, 0, 0, 1, 1) :: (1, 0, 2, 0, 2, 1) :: (1, 1, 0, 0, 3, 1) :: (24, 188, 0, 11, 4, 3) :: (40, 0, 0, 0, 7, 1) :: (19, 1, 1, 0, 8, 1) :: (14, 18, 0, 0, 9, 3) :: xc_88_12
noncomputable def xj_88 : Lean.RArray (List XE) := .branch 15 (.leaf xc_88_12) (.branch 18 (.leaf xc_88_15) (.leaf xc_88_18))
-- 89: EmberScriptModel.refersTo(I)I
set_option maxRecDepth 100000 in
noncomputable def xc_89_50 : List XE := (26, 0, 0, 0, 50, 1) :: []
set_option maxRecDepth 100000 in
noncomputable def xc_89_45 : List XE := (1, 0, 2, 0, 45, 1) :: (4, 6, 0, 0, 46, 1) :: (24, 121, 0, 15, 47, 3) :: xc_89_50
set_option maxRecDepth 100000 in
noncomputable def xc_89_19 : List XE := (1, 0, 2, 0, 19, 1) :: (16, 14, 4, 2, 20, 3) :: (16, 13, 10, 2, 23, 3) :: (1, 1, 0, 0, 26, 1) :: (18, 0, 0, 0, 27, 1) :: (4, 16, 0, 0, 28, 2) :: (13, 45, 1, 0, 30, 3) :: (1, 0, 2, 0, 33, 1) :: (16, 14, 4, 2, 34, 3) :: (16, 13, 17, 2, 37, 3) :: (1, 1, 0, 0, 40, 1) :: (18, 0, 0, 0, 41, 1) :: (14, 50, 0, 0, 42, 3) :: xc_89_45
set_option maxRecDepth 100000 in
noncomputable def xc_89_0 : List XE := (1, 0, 2, 0, 0, 1) :: (4, 0, 0, 0, 1, 1) :: (17, 14, 3, 0, 2, 3) :: (1, 0, 2, 0, 5, 1) :: (1, 1, 0, 0, 6, 1) :: (24, 176, 0, 15, 7, 3) :: (12, 19, 1, 0, 10, 3) :: (1, 0, 2, 0, 13, 1) :: (4, 3, 0, 0, 14, 1) :: (24, 121, 0, 15, 15, 3) :: (26, 0, 0, 0, 18, 1) :: xc_89_19
noncomputable def xj_89 : Lean.RArray (List XE) := .branch 45 (.leaf xc_89_19) (.branch 50 (.leaf xc_89_45) (.leaf xc_89_50))
-- 90: EmberScriptLaw.isReached(LEmberScript;I[J)I
set_option maxRecDepth 100000 in
noncomputable def xc_90_22 : List XE := (4, 0, 0, 0, 22, 1) :: (26, 0, 0, 0, 23, 1) :: []
set_option maxRecDepth 100000 in
noncomputable def xc_90_19 : List XE := (2, 3, 2, 0, 19, 1) :: (4, 3, 0, 0, 20, 1) :: (26, 0, 0, 0, 21, 1) :: xc_90_22
set_option maxRecDepth 100000 in
noncomputable def xc_90_15 : List XE := (19, 1, 1, 0, 15, 1) :: (14, 22, 0, 0, 16, 3) :: xc_90_19
set_option maxRecDepth 100000 in
noncomputable def xc_90_14 : List XE := (4, 1, 0, 0, 14, 1) :: xc_90_15
set_option maxRecDepth 100000 in
noncomputable def xc_90_0 : List XE := (1, 2, 2, 0, 0, 1) :: (4, 0, 0, 0, 1, 1) :: (1, 0, 2, 0, 2, 1) :: (1, 1, 0, 0, 3, 1) :: (24, 189, 0, 11, 4, 3) :: (12, 14, 0, 0, 7, 3) :: (4, 10, 0, 0, 10, 1) :: (14, 15, 0, 0, 11, 3) :: xc_90_14
noncomputable def xj_90 : Lean.RArray (List XE) := .branch 19 (.branch 15 (.leaf xc_90_14) (.leaf xc_90_15)) (.branch 22 (.leaf xc_90_19) (.leaf xc_90_22))
-- 91: EmberScriptModel.isReached(I)Z
set_option maxRecDepth 100000 in
noncomputable def xc_91_45 : List XE := (26, 0, 0, 0, 45, 1) :: []
set_option maxRecDepth 100000 in
noncomputable def xc_91_44 : List XE := (4, 0, 0, 0, 44, 1) :: xc_91_45
set_option maxRecDepth 100000 in
noncomputable def xc_91_19 : List XE := (1, 0, 2, 0, 19, 1) :: (16, 14, 4, 2, 20, 3) :: (4, 11, 0, 0, 23, 1) :: (24, 190, 0, 14, 24, 3) :: (35, 0, 0, 0, 27, 1) :: (1, 0, 2, 0, 28, 1) :: (16, 14, 4, 2, 29, 3) :: (16, 13, 40, 2, 32, 3) :: (1, 1, 0, 0, 35, 1) :: (18, 0, 0, 0, 36, 1) :: (12, 44, 0, 0, 37, 3) :: (4, 3, 0, 0, 40, 1) :: (14, 45, 0, 0, 41, 3) :: xc_91_44
set_option maxRecDepth 100000 in
noncomputable def xc_91_0 : List XE := (1, 0, 2, 0, 0, 1) :: (4, 0, 0, 0, 1, 1) :: (17, 14, 3, 0, 2, 3) :: (1, 0, 2, 0, 5, 1) :: (1, 1, 0, 0, 6, 1) :: (24, 176, 0, 15, 7, 3) :: (12, 19, 1, 0, 10, 3) :: (1, 0, 2, 0, 13, 1) :: (4, 3, 0, 0, 14, 1) :: (24, 160, 0, 15, 15, 3) :: (26, 0, 0, 0, 18, 1) :: xc_91_19
noncomputable def xj_91 : Lean.RArray (List XE) := .branch 44 (.leaf xc_91_19) (.branch 45 (.leaf xc_91_44) (.leaf xc_91_45))
-- 92: EmberScript.garbage()I
set_option maxRecDepth 100000 in
noncomputable def xc_92_0 : List XE := (1, 0, 2, 0, 0, 1) :: (16, 10, 3, 2, 1, 3) :: (24, 171, 0, 10, 4, 3) :: (24, 172, 0, 6, 7, 3) :: (1, 0, 2, 0, 10, 1) :: (16, 10, 3, 2, 11, 3) :: (24, 191, 0, 10, 14, 3) :: (6, 1, 0, 0, 17, 1) :: (26, 0, 0, 0, 18, 1) :: []
noncomputable def xj_92 : Lean.RArray (List XE) := .leaf []
-- 93: EmberScriptModel.garbage()I
set_option maxRecDepth 100000 in
noncomputable def xc_93_0 : List XE := (1, 0, 2, 0, 0, 1) :: (1, 0, 2, 0, 1, 1) :: (16, 14, 4, 2, 2, 3) :: (24, 173, 0, 14, 5, 3) :: (1, 0, 2, 0, 8, 1) :: (16, 14, 4, 2, 9, 3) :: (4, 11, 0, 0, 12, 1) :: (24, 190, 0, 14, 13, 3) :: (6, 1, 0, 0, 16, 1) :: (24, 134, 0, 15, 17, 3) :: (26, 0, 0, 0, 20, 1) :: []
noncomputable def xj_93 : Lean.RArray (List XE) := .leaf []
-- 94: EmberScriptLaw.retained(LEmberScript;I[J)I
set_option maxRecDepth 100000 in
noncomputable def xc_94_15 : List XE := (4, 0, 0, 0, 15, 1) :: (26, 0, 0, 0, 16, 1) :: []
set_option maxRecDepth 100000 in
noncomputable def xc_94_12 : List XE := (2, 3, 2, 0, 12, 1) :: (4, 3, 0, 0, 13, 1) :: (26, 0, 0, 0, 14, 1) :: xc_94_15
set_option maxRecDepth 100000 in
noncomputable def xc_94_0 : List XE := (1, 2, 2, 0, 0, 1) :: (4, 0, 0, 0, 1, 1) :: (1, 0, 2, 0, 2, 1) :: (1, 1, 0, 0, 3, 1) :: (24, 192, 0, 11, 4, 3) :: (40, 0, 0, 0, 7, 1) :: (19, 1, 1, 0, 8, 1) :: (14, 15, 0, 0, 9, 3) :: xc_94_12
noncomputable def xj_94 : Lean.RArray (List XE) := .branch 15 (.leaf xc_94_12) (.leaf xc_94_15)
-- 95: EmberScriptModel.retained(I)I
set_option maxRecDepth 100000 in
noncomputable def xc_95_26 : List XE := (26, 0, 0, 0, 26, 1) :: []
set_option maxRecDepth 100000 in
noncomputable def xc_95_21 : List XE := (1, 0, 2, 0, 21, 1) :: (4, 3, 0, 0, 22, 1) :: (24, 121, 0, 15, 23, 3) :: xc_95_26
set_option maxRecDepth 100000 in
noncomputable def xc_95_0 : List XE := (1, 0, 2, 0, 0, 1) :: (4, 0, 0, 0, 1, 1) :: (17, 14, 3, 0, 2, 3) :: (1, 0, 2, 0, 5, 1) :: (1, 1, 0, 0, 6, 1) :: (24, 176, 0, 15, 7, 3) :: (12, 21, 0, 0, 10, 3) :: (1, 0, 2, 0, 13, 1) :: (1, 1, 0, 0, 14, 1) :: (24, 193, 0, 15, 15, 3) :: (14, 26, 0, 0, 18, 3) :: xc_95_21
noncomputable def xj_95 : Lean.RArray (List XE) := .branch 26 (.leaf xc_95_21) (.leaf xc_95_26)
-- 96: EmberScriptLaw.distance(LEmberScript;I[J)I
set_option maxRecDepth 100000 in
noncomputable def xc_96_15 : List XE := (4, 0, 0, 0, 15, 1) :: (26, 0, 0, 0, 16, 1) :: []
set_option maxRecDepth 100000 in
noncomputable def xc_96_12 : List XE := (2, 3, 2, 0, 12, 1) :: (4, 3, 0, 0, 13, 1) :: (26, 0, 0, 0, 14, 1) :: xc_96_15
set_option maxRecDepth 100000 in
noncomputable def xc_96_0 : List XE := (1, 2, 2, 0, 0, 1) :: (4, 0, 0, 0, 1, 1) :: (1, 0, 2, 0, 2, 1) :: (1, 1, 0, 0, 3, 1) :: (24, 194, 0, 11, 4, 3) :: (40, 0, 0, 0, 7, 1) :: (19, 1, 1, 0, 8, 1) :: (14, 15, 0, 0, 9, 3) :: xc_96_12
noncomputable def xj_96 : Lean.RArray (List XE) := .branch 15 (.leaf xc_96_12) (.leaf xc_96_15)
-- 97: EmberScriptModel.distance(I)I
set_option maxRecDepth 100000 in
noncomputable def xc_97_26 : List XE := (26, 0, 0, 0, 26, 1) :: []
set_option maxRecDepth 100000 in
noncomputable def xc_97_21 : List XE := (1, 0, 2, 0, 21, 1) :: (4, 3, 0, 0, 22, 1) :: (24, 121, 0, 15, 23, 3) :: xc_97_26
set_option maxRecDepth 100000 in
noncomputable def xc_97_0 : List XE := (1, 0, 2, 0, 0, 1) :: (4, 0, 0, 0, 1, 1) :: (17, 14, 3, 0, 2, 3) :: (1, 0, 2, 0, 5, 1) :: (1, 1, 0, 0, 6, 1) :: (24, 176, 0, 15, 7, 3) :: (12, 21, 0, 0, 10, 3) :: (1, 0, 2, 0, 13, 1) :: (1, 1, 0, 0, 14, 1) :: (24, 195, 0, 15, 15, 3) :: (14, 26, 0, 0, 18, 3) :: xc_97_21
noncomputable def xj_97 : Lean.RArray (List XE) := .branch 26 (.leaf xc_97_21) (.leaf xc_97_26)
-- 98: EmberScriptLaw.reaches(LEmberScript;II[J)I
set_option maxRecDepth 100000 in
noncomputable def xc_98_24 : List XE := (4, 0, 0, 0, 24, 1) :: (26, 0, 0, 0, 25, 1) :: []
set_option maxRecDepth 100000 in
noncomputable def xc_98_20 : List XE := (2, 4, 2, 0, 20, 2) :: (4, 3, 0, 0, 22, 1) :: (26, 0, 0, 0, 23, 1) :: xc_98_24
set_option maxRecDepth 100000 in
noncomputable def xc_98_16 : List XE := (19, 1, 1, 0, 16, 1) :: (14, 24, 0, 0, 17, 3) :: xc_98_20
set_option maxRecDepth 100000 in
noncomputable def xc_98_15 : List XE := (4, 1, 0, 0, 15, 1) :: xc_98_16
set_option maxRecDepth 100000 in
noncomputable def xc_98_0 : List XE := (1, 3, 2, 0, 0, 1) :: (4, 0, 0, 0, 1, 1) :: (1, 0, 2, 0, 2, 1) :: (1, 1, 0, 0, 3, 1) :: (1, 2, 0, 0, 4, 1) :: (24, 196, 0, 11, 5, 3) :: (12, 15, 0, 0, 8, 3) :: (4, 10, 0, 0, 11, 1) :: (14, 16, 0, 0, 12, 3) :: xc_98_15
noncomputable def xj_98 : Lean.RArray (List XE) := .branch 20 (.branch 16 (.leaf xc_98_15) (.leaf xc_98_16)) (.branch 24 (.leaf xc_98_20) (.leaf xc_98_24))
-- 99: EmberScriptModel.reaches(II)Z
set_option maxRecDepth 100000 in
noncomputable def xc_99_38 : List XE := (26, 0, 0, 0, 38, 1) :: []
set_option maxRecDepth 100000 in
noncomputable def xc_99_33 : List XE := (1, 0, 2, 0, 33, 1) :: (4, 3, 0, 0, 34, 1) :: (24, 160, 0, 15, 35, 3) :: xc_99_38
set_option maxRecDepth 100000 in
noncomputable def xc_99_0 : List XE := (1, 0, 2, 0, 0, 1) :: (4, 0, 0, 0, 1, 1) :: (17, 14, 3, 0, 2, 3) :: (1, 0, 2, 0, 5, 1) :: (1, 1, 0, 0, 6, 1) :: (24, 176, 0, 15, 7, 3) :: (12, 33, 0, 0, 10, 3) :: (1, 0, 2, 0, 13, 1) :: (1, 2, 0, 0, 14, 1) :: (24, 176, 0, 15, 15, 3) :: (12, 33, 0, 0, 18, 3) :: (1, 0, 2, 0, 21, 1) :: (16, 14, 4, 2, 22, 3) :: (1, 1, 0, 0, 25, 1) :: (1, 2, 0, 0, 26, 1) :: (24, 197, 0, 14, 27, 3) :: (14, 38, 0, 0, 30, 3) :: xc_99_33
noncomputable def xj_99 : Lean.RArray (List XE) := .branch 38 (.leaf xc_99_33) (.leaf xc_99_38)
-- 100: EmberScript.share()D
set_option maxRecDepth 100000 in
noncomputable def xc_100_17 : List XE := (1, 0, 2, 0, 17, 1) :: (16, 10, 3, 2, 18, 3) :: (24, 191, 0, 10, 21, 3) :: (44, 0, 0, 0, 24, 1) :: (1, 1, 0, 0, 25, 1) :: (44, 0, 0, 0, 26, 1) :: (0, 0, 0, 0, 27, 1) :: (26, 3, 0, 0, 28, 1) :: []
set_option maxRecDepth 100000 in
noncomputable def xc_100_0 : List XE := (1, 0, 2, 0, 0, 1) :: (16, 10, 3, 2, 1, 3) :: (24, 171, 0, 10, 4, 3) :: (24, 172, 0, 6, 7, 3) :: (2, 1, 0, 0, 10, 1) :: (1, 1, 0, 0, 11, 1) :: (12, 17, 4, 0, 12, 3) :: (4, 17, 0, 0, 15, 1) :: (26, 3, 0, 0, 16, 1) :: xc_100_17
noncomputable def xj_100 : Lean.RArray (List XE) := .leaf xc_100_17
-- 101: EmberScriptModel.share()D
set_option maxRecDepth 100000 in
noncomputable def xc_101_33 : List XE := (26, 3, 0, 0, 33, 1) :: []
set_option maxRecDepth 100000 in
noncomputable def xc_101_21 : List XE := (1, 0, 2, 0, 21, 1) :: (16, 14, 4, 2, 22, 3) :: (4, 11, 0, 0, 25, 1) :: (24, 190, 0, 14, 26, 3) :: (44, 0, 0, 0, 29, 1) :: (1, 1, 0, 0, 30, 1) :: (44, 0, 0, 0, 31, 1) :: (0, 0, 0, 0, 32, 1) :: xc_101_33
set_option maxRecDepth 100000 in
noncomputable def xc_101_0 : List XE := (1, 0, 2, 0, 0, 1) :: (4, 0, 0, 0, 1, 1) :: (17, 14, 3, 0, 2, 3) :: (1, 0, 2, 0, 5, 1) :: (16, 14, 4, 2, 6, 3) :: (24, 173, 0, 14, 9, 3) :: (2, 1, 0, 0, 12, 1) :: (1, 1, 0, 0, 13, 1) :: (12, 21, 1, 0, 14, 3) :: (4, 17, 0, 0, 17, 1) :: (14, 33, 0, 0, 18, 3) :: xc_101_21
noncomputable def xj_101 : Lean.RArray (List XE) := .branch 33 (.leaf xc_101_21) (.leaf xc_101_33)
-- 102: EmberScriptLaw.stepsToEnd(LEmberScript;I[J)I
set_option maxRecDepth 100000 in
noncomputable def xc_102_15 : List XE := (4, 0, 0, 0, 15, 1) :: (26, 0, 0, 0, 16, 1) :: []
set_option maxRecDepth 100000 in
noncomputable def xc_102_12 : List XE := (2, 3, 2, 0, 12, 1) :: (4, 3, 0, 0, 13, 1) :: (26, 0, 0, 0, 14, 1) :: xc_102_15
set_option maxRecDepth 100000 in
noncomputable def xc_102_0 : List XE := (1, 2, 2, 0, 0, 1) :: (4, 0, 0, 0, 1, 1) :: (1, 0, 2, 0, 2, 1) :: (1, 1, 0, 0, 3, 1) :: (24, 198, 0, 11, 4, 3) :: (40, 0, 0, 0, 7, 1) :: (19, 1, 1, 0, 8, 1) :: (14, 15, 0, 0, 9, 3) :: xc_102_12
noncomputable def xj_102 : Lean.RArray (List XE) := .branch 15 (.leaf xc_102_12) (.leaf xc_102_15)
-- 103: EmberScriptModel.stepsToEnd(I)I
set_option maxRecDepth 100000 in
noncomputable def xc_103_58 : List XE := (26, 0, 0, 0, 58, 1) :: []
set_option maxRecDepth 100000 in
noncomputable def xc_103_57 : List XE := (4, 11, 0, 0, 57, 1) :: xc_103_58
set_option maxRecDepth 100000 in
noncomputable def xc_103_34 : List XE := (1, 0, 2, 0, 34, 1) :: (24, 199, 0, 15, 35, 3) :: (1, 1, 0, 0, 38, 1) :: (0, 0, 0, 0, 39, 3) :: (2, 2, 0, 0, 42, 1) :: (1, 0, 2, 0, 43, 1) :: (16, 14, 5, 2, 44, 3) :: (16, 13, 1, 0, 47, 3) :: (12, 57, 0, 0, 50, 3) :: (1, 2, 0, 0, 53, 1) :: (14, 58, 0, 0, 54, 3) :: xc_103_57
set_option maxRecDepth 100000 in
noncomputable def xc_103_22 : List XE := (1, 0, 2, 0, 22, 1) :: (16, 14, 4, 2, 23, 3) :: (16, 13, 1, 0, 26, 3) :: (12, 34, 0, 0, 29, 3) :: (4, 0, 0, 0, 32, 1) :: (26, 0, 0, 0, 33, 1) :: xc_103_34
set_option maxRecDepth 100000 in
noncomputable def xc_103_0 : List XE := (1, 0, 2, 0, 0, 1) :: (4, 0, 0, 0, 1, 1) :: (17, 14, 3, 0, 2, 3) :: (1, 1, 0, 0, 5, 1) :: (4, 3, 0, 0, 6, 1) :: (4, 14, 0, 0, 7, 3) :: (24, 124, 0, 0, 10, 3) :: (12, 22, 1, 0, 13, 3) :: (1, 0, 2, 0, 16, 1) :: (4, 3, 0, 0, 17, 1) :: (24, 121, 0, 15, 18, 3) :: (26, 0, 0, 0, 21, 1) :: xc_103_22
noncomputable def xj_103 : Lean.RArray (List XE) := .branch 57 (.branch 34 (.leaf xc_103_22) (.leaf xc_103_34)) (.branch 58 (.leaf xc_103_57) (.leaf xc_103_58))
-- 104: EmberScriptLaw.printedIn(LEmberScript;I[J)I
set_option maxRecDepth 100000 in
noncomputable def xc_104_15 : List XE := (4, 0, 0, 0, 15, 1) :: (26, 0, 0, 0, 16, 1) :: []
set_option maxRecDepth 100000 in
noncomputable def xc_104_12 : List XE := (2, 3, 2, 0, 12, 1) :: (4, 3, 0, 0, 13, 1) :: (26, 0, 0, 0, 14, 1) :: xc_104_15
set_option maxRecDepth 100000 in
noncomputable def xc_104_0 : List XE := (1, 2, 2, 0, 0, 1) :: (4, 0, 0, 0, 1, 1) :: (1, 0, 2, 0, 2, 1) :: (1, 1, 0, 0, 3, 1) :: (24, 200, 0, 11, 4, 3) :: (40, 0, 0, 0, 7, 1) :: (19, 1, 1, 0, 8, 1) :: (14, 15, 0, 0, 9, 3) :: xc_104_12
noncomputable def xj_104 : Lean.RArray (List XE) := .branch 15 (.leaf xc_104_12) (.leaf xc_104_15)
-- 105: EmberScriptModel.printedIn(I)I
set_option maxRecDepth 100000 in
noncomputable def xc_105_34 : List XE := (1, 0, 2, 0, 34, 1) :: (24, 199, 0, 15, 35, 3) :: (1, 1, 0, 0, 38, 1) :: (0, 0, 0, 0, 39, 3) :: (35, 0, 0, 0, 42, 1) :: (1, 0, 2, 0, 43, 1) :: (16, 14, 5, 2, 44, 3) :: (16, 13, 5, 0, 47, 3) :: (1, 0, 2, 0, 50, 1) :: (16, 14, 4, 2, 51, 3) :: (16, 13, 5, 0, 54, 3) :: (6, 1, 0, 0, 57, 1) :: (26, 0, 0, 0, 58, 1) :: []
set_option maxRecDepth 100000 in
noncomputable def xc_105_22 : List XE := (1, 0, 2, 0, 22, 1) :: (16, 14, 4, 2, 23, 3) :: (16, 13, 1, 0, 26, 3) :: (12, 34, 0, 0, 29, 3) :: (4, 0, 0, 0, 32, 1) :: (26, 0, 0, 0, 33, 1) :: xc_105_34
set_option maxRecDepth 100000 in
noncomputable def xc_105_0 : List XE := (1, 0, 2, 0, 0, 1) :: (4, 0, 0, 0, 1, 1) :: (17, 14, 3, 0, 2, 3) :: (1, 1, 0, 0, 5, 1) :: (4, 3, 0, 0, 6, 1) :: (4, 14, 0, 0, 7, 3) :: (24, 124, 0, 0, 10, 3) :: (12, 22, 1, 0, 13, 3) :: (1, 0, 2, 0, 16, 1) :: (4, 3, 0, 0, 17, 1) :: (24, 121, 0, 15, 18, 3) :: (26, 0, 0, 0, 21, 1) :: xc_105_22
noncomputable def xj_105 : Lean.RArray (List XE) := .branch 34 (.leaf xc_105_22) (.leaf xc_105_34)
-- 106: EmberScriptLaw.thingsIn(LEmberScript;I[J)I
set_option maxRecDepth 100000 in
noncomputable def xc_106_15 : List XE := (4, 0, 0, 0, 15, 1) :: (26, 0, 0, 0, 16, 1) :: []
set_option maxRecDepth 100000 in
noncomputable def xc_106_12 : List XE := (2, 3, 2, 0, 12, 1) :: (4, 3, 0, 0, 13, 1) :: (26, 0, 0, 0, 14, 1) :: xc_106_15
set_option maxRecDepth 100000 in
noncomputable def xc_106_0 : List XE := (1, 2, 2, 0, 0, 1) :: (4, 0, 0, 0, 1, 1) :: (1, 0, 2, 0, 2, 1) :: (1, 1, 0, 0, 3, 1) :: (24, 201, 0, 11, 4, 3) :: (40, 0, 0, 0, 7, 1) :: (19, 1, 1, 0, 8, 1) :: (14, 15, 0, 0, 9, 3) :: xc_106_12
noncomputable def xj_106 : Lean.RArray (List XE) := .branch 15 (.leaf xc_106_12) (.leaf xc_106_15)
-- 107: EmberScriptModel.thingsIn(I)I
set_option maxRecDepth 100000 in
noncomputable def xc_107_40 : List XE := (1, 0, 2, 0, 40, 1) :: (24, 199, 0, 15, 41, 3) :: (1, 1, 0, 0, 44, 1) :: (0, 0, 0, 0, 45, 3) :: (35, 0, 0, 0, 48, 1) :: (1, 0, 2, 0, 49, 1) :: (16, 14, 5, 2, 50, 3) :: (24, 173, 0, 14, 53, 3) :: (26, 0, 0, 0, 56, 1) :: []
set_option maxRecDepth 100000 in
noncomputable def xc_107_22 : List XE := (1, 0, 2, 0, 22, 1) :: (16, 14, 4, 2, 23, 3) :: (16, 13, 1, 0, 26, 3) :: (12, 40, 0, 0, 29, 3) :: (1, 0, 2, 0, 32, 1) :: (16, 14, 4, 2, 33, 3) :: (24, 173, 0, 14, 36, 3) :: (26, 0, 0, 0, 39, 1) :: xc_107_40
set_option maxRecDepth 100000 in
noncomputable def xc_107_0 : List XE := (1, 0, 2, 0, 0, 1) :: (4, 0, 0, 0, 1, 1) :: (17, 14, 3, 0, 2, 3) :: (1, 1, 0, 0, 5, 1) :: (4, 3, 0, 0, 6, 1) :: (4, 14, 0, 0, 7, 3) :: (24, 124, 0, 0, 10, 3) :: (12, 22, 1, 0, 13, 3) :: (1, 0, 2, 0, 16, 1) :: (4, 3, 0, 0, 17, 1) :: (24, 121, 0, 15, 18, 3) :: (26, 0, 0, 0, 21, 1) :: xc_107_22
noncomputable def xj_107 : Lean.RArray (List XE) := .branch 40 (.leaf xc_107_22) (.leaf xc_107_40)
-- 108: EmberScript.runsToPrint()I
set_option maxRecDepth 100000 in
noncomputable def xc_108_75 : List XE := (4, 11, 0, 0, 75, 1) :: (26, 0, 0, 0, 76, 1) :: []
set_option maxRecDepth 100000 in
noncomputable def xc_108_69 : List XE := (5, 2, 3, 0, 69, 3) :: (14, 15, 0, 0, 72, 3) :: xc_108_75
set_option maxRecDepth 100000 in
noncomputable def xc_108_15 : List XE := (1, 2, 0, 0, 15, 1) :: (4, 14, 0, 0, 16, 3) :: (13, 75, 4, 0, 19, 3) :: (1, 1, 0, 0, 22, 1) :: (4, 14, 0, 0, 23, 3) :: (13, 75, 3, 0, 26, 3) :: (1, 0, 2, 0, 29, 1) :: (16, 10, 4, 2, 30, 3) :: (24, 203, 0, 10, 33, 3) :: (12, 75, 0, 0, 36, 3) :: (1, 1, 0, 0, 39, 1) :: (1, 0, 2, 0, 40, 1) :: (16, 10, 4, 2, 41, 3) :: (4, 3, 0, 0, 44, 1) :: (24, 204, 0, 10, 45, 3) :: (6, 0, 0, 0, 48, 1) :: (2, 1, 0, 0, 49, 1) :: (1, 0, 2, 0, 50, 1) :: (16, 10, 4, 2, 51, 3) :: (24, 165, 0, 10, 54, 3) :: (1, 0, 2, 0, 57, 1) :: (16, 10, 3, 2, 58, 3) :: (24, 165, 0, 10, 61, 3) :: (13, 69, 5, 0, 64, 3) :: (1, 2, 0, 0, 67, 1) :: (26, 0, 0, 0, 68, 1) :: xc_108_69
set_option maxRecDepth 100000 in
noncomputable def xc_108_0 : List XE := (1, 0, 2, 0, 0, 1) :: (16, 10, 4, 2, 1, 3) :: (1, 0, 2, 0, 4, 1) :: (16, 10, 3, 2, 5, 3) :: (24, 202, 0, 10, 8, 3) :: (4, 0, 0, 0, 11, 1) :: (2, 1, 0, 0, 12, 1) :: (4, 3, 0, 0, 13, 1) :: (2, 2, 0, 0, 14, 1) :: xc_108_15
noncomputable def xj_108 : Lean.RArray (List XE) := .branch 69 (.leaf xc_108_15) (.branch 75 (.leaf xc_108_69) (.leaf xc_108_75))
-- 109: EmberScriptModel.runsToPrint()I
set_option maxRecDepth 100000 in
noncomputable def xc_109_81 : List XE := (4, 11, 0, 0, 81, 1) :: (26, 0, 0, 0, 82, 1) :: []
set_option maxRecDepth 100000 in
noncomputable def xc_109_74 : List XE := (1, 2, 0, 0, 74, 1) :: (1, 3, 0, 0, 75, 1) :: (6, 0, 0, 0, 76, 1) :: (2, 2, 0, 0, 77, 1) :: (14, 26, 0, 0, 78, 3) :: xc_109_81
set_option maxRecDepth 100000 in
noncomputable def xc_109_26 : List XE := (1, 0, 2, 0, 26, 1) :: (16, 14, 5, 2, 27, 3) :: (16, 13, 1, 0, 30, 3) :: (12, 81, 1, 0, 33, 3) :: (1, 2, 0, 0, 36, 1) :: (4, 14, 0, 0, 37, 3) :: (13, 81, 3, 0, 40, 3) :: (1, 0, 2, 0, 43, 1) :: (16, 14, 5, 2, 44, 3) :: (4, 3, 0, 0, 47, 1) :: (0, 0, 0, 0, 48, 3) :: (2, 3, 0, 0, 51, 1) :: (5, 1, 3, 0, 52, 3) :: (1, 0, 2, 0, 55, 1) :: (16, 14, 5, 2, 56, 3) :: (16, 13, 5, 0, 59, 3) :: (1, 0, 2, 0, 62, 1) :: (16, 14, 4, 2, 63, 3) :: (16, 13, 5, 0, 66, 3) :: (13, 74, 5, 0, 69, 3) :: (1, 1, 0, 0, 72, 1) :: (26, 0, 0, 0, 73, 1) :: xc_109_74
set_option maxRecDepth 100000 in
noncomputable def xc_109_17 : List XE := (1, 0, 2, 0, 17, 1) :: (24, 199, 0, 15, 18, 3) :: (35, 0, 0, 0, 21, 1) :: (4, 0, 0, 0, 22, 1) :: (2, 1, 0, 0, 23, 1) :: (4, 0, 0, 0, 24, 1) :: (2, 2, 0, 0, 25, 1) :: xc_109_26
set_option maxRecDepth 100000 in
noncomputable def xc_109_0 : List XE := (1, 0, 2, 0, 0, 1) :: (4, 0, 0, 0, 1, 1) :: (17, 14, 3, 0, 2, 3) :: (1, 0, 2, 0, 5, 1) :: (16, 14, 4, 2, 6, 3) :: (16, 13, 1, 0, 9, 3) :: (12, 17, 0, 0, 12, 3) :: (4, 11, 0, 0, 15, 1) :: (26, 0, 0, 0, 16, 1) :: xc_109_17
noncomputable def xj_109 : Lean.RArray (List XE) := .branch 74 (.branch 26 (.leaf xc_109_17) (.leaf xc_109_26)) (.branch 81 (.leaf xc_109_74) (.leaf xc_109_81))
-- 110: EmberScriptLaw.stateIfInterrupted(LEmberScript;I[J)I
set_option maxRecDepth 100000 in
noncomputable def xc_110_15 : List XE := (4, 0, 0, 0, 15, 1) :: (26, 0, 0, 0, 16, 1) :: []
set_option maxRecDepth 100000 in
noncomputable def xc_110_12 : List XE := (2, 3, 2, 0, 12, 1) :: (4, 3, 0, 0, 13, 1) :: (26, 0, 0, 0, 14, 1) :: xc_110_15
set_option maxRecDepth 100000 in
noncomputable def xc_110_0 : List XE := (1, 2, 2, 0, 0, 1) :: (4, 0, 0, 0, 1, 1) :: (1, 0, 2, 0, 2, 1) :: (1, 1, 0, 0, 3, 1) :: (24, 205, 0, 11, 4, 3) :: (40, 0, 0, 0, 7, 1) :: (19, 1, 1, 0, 8, 1) :: (14, 15, 0, 0, 9, 3) :: xc_110_12
noncomputable def xj_110 : Lean.RArray (List XE) := .branch 15 (.leaf xc_110_12) (.leaf xc_110_15)
-- 111: EmberScriptModel.stateIfInterrupted(I)I
set_option maxRecDepth 100000 in
noncomputable def xc_111_41 : List XE := (26, 0, 0, 0, 41, 1) :: []
set_option maxRecDepth 100000 in
noncomputable def xc_111_33 : List XE := (1, 0, 2, 0, 33, 1) :: (24, 199, 0, 15, 34, 3) :: (1, 1, 0, 0, 37, 1) :: (0, 0, 0, 0, 38, 3) :: xc_111_41
set_option maxRecDepth 100000 in
noncomputable def xc_111_19 : List XE := (1, 0, 2, 0, 19, 1) :: (16, 14, 4, 2, 20, 3) :: (16, 13, 1, 0, 23, 3) :: (12, 33, 0, 0, 26, 3) :: (4, 11, 0, 0, 29, 1) :: (14, 41, 0, 0, 30, 3) :: xc_111_33
set_option maxRecDepth 100000 in
noncomputable def xc_111_0 : List XE := (1, 0, 2, 0, 0, 1) :: (4, 0, 0, 0, 1, 1) :: (17, 14, 3, 0, 2, 3) :: (1, 0, 2, 0, 5, 1) :: (1, 1, 0, 0, 6, 1) :: (24, 137, 0, 15, 7, 3) :: (12, 19, 1, 0, 10, 3) :: (1, 0, 2, 0, 13, 1) :: (4, 3, 0, 0, 14, 1) :: (24, 121, 0, 15, 15, 3) :: (26, 0, 0, 0, 18, 1) :: xc_111_19
noncomputable def xj_111 : Lean.RArray (List XE) := .branch 33 (.leaf xc_111_19) (.branch 41 (.leaf xc_111_33) (.leaf xc_111_41))
-- 112: EmberScript.digest()J
set_option maxRecDepth 100000 in
noncomputable def xc_112_192 : List XE := (1, 1, 1, 0, 192, 1) :: (26, 1, 0, 0, 193, 1) :: []
set_option maxRecDepth 100000 in
noncomputable def xc_112_186 : List XE := (5, 4, 3, 0, 186, 3) :: (14, 155, 0, 0, 189, 3) :: xc_112_192
set_option maxRecDepth 100000 in
noncomputable def xc_112_155 : List XE := (1, 4, 0, 0, 155, 2) :: (4, 19, 0, 0, 157, 2) :: (13, 192, 3, 0, 159, 3) :: (1, 0, 2, 0, 162, 1) :: (16, 10, 3, 2, 163, 3) :: (24, 171, 0, 10, 166, 3) :: (1, 4, 0, 0, 169, 2) :: (24, 208, 0, 6, 171, 3) :: (12, 186, 0, 0, 174, 3) :: (1, 0, 2, 0, 177, 1) :: (1, 1, 1, 0, 178, 1) :: (1, 4, 0, 0, 179, 2) :: (1, 3, 0, 0, 181, 1) :: (0, 0, 0, 0, 182, 3) :: (3, 1, 1, 0, 185, 1) :: xc_112_186
set_option maxRecDepth 100000 in
noncomputable def xc_112_71 : List XE := (24, 206, 0, 0, 71, 3) :: (3, 1, 1, 0, 74, 1) :: (1, 1, 1, 0, 75, 1) :: (1, 0, 2, 0, 76, 1) :: (24, 34, 0, 11, 77, 3) :: (24, 206, 0, 0, 80, 3) :: (3, 1, 1, 0, 83, 1) :: (1, 1, 1, 0, 84, 1) :: (1, 0, 2, 0, 85, 1) :: (24, 36, 0, 11, 86, 3) :: (24, 206, 0, 0, 89, 3) :: (3, 1, 1, 0, 92, 1) :: (1, 1, 1, 0, 93, 1) :: (1, 0, 2, 0, 94, 1) :: (24, 38, 0, 11, 95, 3) :: (24, 206, 0, 0, 98, 3) :: (3, 1, 1, 0, 101, 1) :: (1, 1, 1, 0, 102, 1) :: (1, 0, 2, 0, 103, 1) :: (24, 52, 0, 11, 104, 3) :: (24, 206, 0, 0, 107, 3) :: (3, 1, 1, 0, 110, 1) :: (1, 1, 1, 0, 111, 1) :: (1, 0, 2, 0, 112, 1) :: (24, 54, 0, 11, 113, 3) :: (24, 206, 0, 0, 116, 3) :: (3, 1, 1, 0, 119, 1) :: (1, 1, 1, 0, 120, 1) :: (1, 0, 2, 0, 121, 1) :: (24, 64, 0, 11, 122, 3) :: (24, 206, 0, 0, 125, 3) :: (3, 1, 1, 0, 128, 1) :: (1, 1, 1, 0, 129, 1) :: (1, 0, 2, 0, 130, 1) :: (24, 92, 0, 11, 131, 3) :: (24, 206, 0, 0, 134, 3) :: (3, 1, 1, 0, 137, 1) :: (1, 0, 2, 0, 138, 1) :: (1, 1, 1, 0, 139, 1) :: (24, 207, 0, 11, 140, 3) :: (3, 1, 1, 0, 143, 1) :: (1, 0, 2, 0, 144, 1) :: (16, 10, 3, 2, 145, 3) :: (24, 191, 0, 10, 148, 3) :: (2, 3, 0, 0, 151, 1) :: (4, 0, 0, 0, 152, 1) :: (2, 4, 0, 0, 153, 2) :: xc_112_155
set_option maxRecDepth 100000 in
noncomputable def xc_112_70 : List XE := (4, 0, 0, 0, 70, 1) :: xc_112_71
set_option maxRecDepth 100000 in
noncomputable def xc_112_0 : List XE := (4, 18, 0, 0, 0, 3) :: (3, 1, 1, 0, 3, 1) :: (1, 1, 1, 0, 4, 1) :: (1, 0, 2, 0, 5, 1) :: (24, 20, 0, 11, 6, 3) :: (24, 206, 0, 0, 9, 3) :: (3, 1, 1, 0, 12, 1) :: (1, 1, 1, 0, 13, 1) :: (1, 0, 2, 0, 14, 1) :: (24, 22, 0, 11, 15, 3) :: (24, 206, 0, 0, 18, 3) :: (3, 1, 1, 0, 21, 1) :: (1, 1, 1, 0, 22, 1) :: (1, 0, 2, 0, 23, 1) :: (24, 24, 0, 11, 24, 3) :: (24, 206, 0, 0, 27, 3) :: (3, 1, 1, 0, 30, 1) :: (1, 1, 1, 0, 31, 1) :: (1, 0, 2, 0, 32, 1) :: (24, 26, 0, 11, 33, 3) :: (24, 206, 0, 0, 36, 3) :: (3, 1, 1, 0, 39, 1) :: (1, 1, 1, 0, 40, 1) :: (1, 0, 2, 0, 41, 1) :: (24, 28, 0, 11, 42, 3) :: (24, 206, 0, 0, 45, 3) :: (3, 1, 1, 0, 48, 1) :: (1, 1, 1, 0, 49, 1) :: (1, 0, 2, 0, 50, 1) :: (24, 30, 0, 11, 51, 3) :: (24, 206, 0, 0, 54, 3) :: (3, 1, 1, 0, 57, 1) :: (1, 1, 1, 0, 58, 1) :: (1, 0, 2, 0, 59, 1) :: (24, 32, 0, 11, 60, 3) :: (12, 70, 0, 0, 63, 3) :: (4, 3, 0, 0, 66, 1) :: (14, 71, 0, 0, 67, 3) :: xc_112_70
noncomputable def xj_112 : Lean.RArray (List XE) := .branch 155 (.branch 71 (.leaf xc_112_70) (.leaf xc_112_71)) (.branch 186 (.leaf xc_112_155) (.branch 192 (.leaf xc_112_186) (.leaf xc_112_192)))
-- 113: EmberScriptModel.digest()J
set_option maxRecDepth 100000 in
noncomputable def xc_113_439 : List XE := (1, 2, 1, 0, 439, 1) :: (26, 1, 0, 0, 440, 1) :: []
set_option maxRecDepth 100000 in
noncomputable def xc_113_433 : List XE := (5, 4, 3, 0, 433, 3) :: (14, 405, 0, 0, 436, 3) :: xc_113_439
set_option maxRecDepth 100000 in
noncomputable def xc_113_405 : List XE := (1, 4, 0, 0, 405, 2) :: (4, 19, 0, 0, 407, 2) :: (13, 439, 3, 0, 409, 3) :: (1, 0, 2, 0, 412, 1) :: (16, 14, 4, 2, 413, 3) :: (16, 13, 10, 2, 416, 3) :: (1, 4, 0, 0, 419, 2) :: (18, 0, 0, 0, 421, 1) :: (12, 433, 0, 0, 422, 3) :: (1, 0, 2, 0, 425, 1) :: (1, 2, 1, 0, 426, 1) :: (1, 4, 0, 0, 427, 2) :: (0, 0, 0, 0, 429, 3) :: (3, 2, 1, 0, 432, 1) :: xc_113_433
set_option maxRecDepth 100000 in
noncomputable def xc_113_402 : List XE := (4, 0, 0, 0, 402, 1) :: (2, 4, 0, 0, 403, 2) :: xc_113_405
set_option maxRecDepth 100000 in
noncomputable def xc_113_363 : List XE := (1, 0, 2, 0, 363, 1) :: (16, 14, 4, 2, 364, 3) :: (16, 13, 1, 0, 367, 3) :: (4, 6, 0, 0, 370, 1) :: (13, 402, 1, 0, 371, 3) :: (1, 2, 1, 0, 374, 1) :: (4, 27, 0, 0, 375, 3) :: (8, 2, 0, 0, 378, 1) :: (1, 0, 2, 0, 379, 1) :: (16, 14, 4, 2, 380, 3) :: (16, 13, 6, 0, 383, 3) :: (40, 0, 0, 0, 386, 1) :: (8, 0, 0, 0, 387, 1) :: (4, 27, 0, 0, 388, 3) :: (8, 2, 0, 0, 391, 1) :: (1, 0, 2, 0, 392, 1) :: (16, 14, 4, 2, 393, 3) :: (16, 13, 7, 0, 396, 3) :: (40, 0, 0, 0, 399, 1) :: (8, 0, 0, 0, 400, 1) :: (3, 2, 1, 0, 401, 1) :: xc_113_402
set_option maxRecDepth 100000 in
noncomputable def xc_113_287 : List XE := (1, 4, 0, 0, 287, 2) :: (4, 28, 0, 0, 289, 2) :: (13, 363, 3, 0, 291, 3) :: (1, 4, 0, 0, 294, 2) :: (1, 0, 2, 0, 296, 1) :: (16, 14, 4, 2, 297, 3) :: (16, 13, 5, 0, 300, 3) :: (13, 363, 3, 0, 303, 3) :: (1, 0, 2, 0, 306, 1) :: (16, 14, 4, 2, 307, 3) :: (16, 13, 5, 0, 310, 3) :: (4, 3, 0, 0, 313, 1) :: (6, 1, 0, 0, 314, 1) :: (1, 4, 0, 0, 315, 2) :: (6, 1, 0, 0, 317, 1) :: (4, 28, 0, 0, 318, 2) :: (7, 10, 0, 0, 320, 1) :: (2, 5, 0, 0, 321, 2) :: (1, 2, 1, 0, 323, 1) :: (4, 27, 0, 0, 324, 3) :: (8, 2, 0, 0, 327, 1) :: (1, 0, 2, 0, 328, 1) :: (16, 14, 4, 2, 329, 3) :: (16, 13, 8, 2, 332, 3) :: (1, 5, 0, 0, 335, 2) :: (18, 0, 0, 0, 337, 1) :: (40, 0, 0, 0, 338, 1) :: (8, 0, 0, 0, 339, 1) :: (4, 27, 0, 0, 340, 3) :: (8, 2, 0, 0, 343, 1) :: (1, 0, 2, 0, 344, 1) :: (16, 14, 4, 2, 345, 3) :: (16, 13, 9, 2, 348, 3) :: (1, 5, 0, 0, 351, 2) :: (18, 0, 0, 0, 353, 1) :: (40, 0, 0, 0, 354, 1) :: (8, 0, 0, 0, 355, 1) :: (3, 2, 1, 0, 356, 1) :: (5, 4, 3, 0, 357, 3) :: (14, 287, 0, 0, 360, 3) :: xc_113_363
set_option maxRecDepth 100000 in
noncomputable def xc_113_284 : List XE := (4, 0, 0, 0, 284, 1) :: (2, 4, 0, 0, 285, 2) :: xc_113_287
set_option maxRecDepth 100000 in
noncomputable def xc_113_229 : List XE := (1, 4, 0, 0, 229, 2) :: (1, 0, 2, 0, 231, 1) :: (16, 14, 4, 2, 232, 3) :: (16, 13, 0, 2, 235, 3) :: (16, 11, 15, 0, 238, 3) :: (13, 284, 3, 0, 241, 3) :: (1, 2, 1, 0, 244, 1) :: (4, 27, 0, 0, 245, 3) :: (8, 2, 0, 0, 248, 1) :: (1, 0, 2, 0, 249, 1) :: (16, 14, 4, 2, 250, 3) :: (16, 13, 26, 2, 253, 3) :: (1, 4, 0, 0, 256, 2) :: (18, 0, 0, 0, 258, 1) :: (40, 0, 0, 0, 259, 1) :: (8, 0, 0, 0, 260, 1) :: (4, 27, 0, 0, 261, 3) :: (8, 2, 0, 0, 264, 1) :: (1, 0, 2, 0, 265, 1) :: (16, 14, 4, 2, 266, 3) :: (16, 13, 27, 2, 269, 3) :: (1, 4, 0, 0, 272, 2) :: (18, 0, 0, 0, 274, 1) :: (40, 0, 0, 0, 275, 1) :: (8, 0, 0, 0, 276, 1) :: (3, 2, 1, 0, 277, 1) :: (5, 4, 3, 0, 278, 3) :: (14, 229, 0, 0, 281, 3) :: xc_113_284
set_option maxRecDepth 100000 in
noncomputable def xc_113_226 : List XE := (4, 0, 0, 0, 226, 1) :: (2, 4, 0, 0, 227, 2) :: xc_113_229
set_option maxRecDepth 100000 in
noncomputable def xc_113_196 : List XE := (1, 6, 0, 0, 196, 2) :: (1, 5, 0, 0, 198, 2) :: (13, 226, 3, 0, 200, 3) :: (1, 4, 2, 0, 203, 2) :: (1, 6, 0, 0, 205, 2) :: (18, 0, 0, 0, 207, 1) :: (2, 7, 0, 0, 208, 2) :: (1, 2, 1, 0, 210, 1) :: (4, 27, 0, 0, 211, 3) :: (8, 2, 0, 0, 214, 1) :: (1, 7, 0, 0, 215, 2) :: (40, 0, 0, 0, 217, 1) :: (8, 0, 0, 0, 218, 1) :: (3, 2, 1, 0, 219, 1) :: (5, 6, 3, 0, 220, 3) :: (14, 196, 0, 0, 223, 3) :: xc_113_226
set_option maxRecDepth 100000 in
noncomputable def xc_113_87 : List XE := (19, 0, 0, 0, 87, 1) :: (34, 0, 0, 0, 88, 1) :: (4, 16, 0, 0, 89, 2) :: (1, 0, 2, 0, 91, 1) :: (16, 14, 4, 2, 92, 3) :: (16, 13, 3, 0, 95, 3) :: (19, 0, 0, 0, 98, 1) :: (34, 0, 0, 0, 99, 1) :: (4, 21, 0, 0, 100, 2) :: (1, 0, 2, 0, 102, 1) :: (16, 14, 4, 2, 103, 3) :: (16, 13, 4, 0, 106, 3) :: (19, 0, 0, 0, 109, 1) :: (34, 0, 0, 0, 110, 1) :: (4, 22, 0, 0, 111, 2) :: (1, 0, 2, 0, 113, 1) :: (16, 14, 4, 2, 114, 3) :: (16, 13, 0, 2, 117, 3) :: (16, 11, 9, 0, 120, 3) :: (19, 0, 0, 0, 123, 1) :: (34, 0, 0, 0, 124, 1) :: (4, 23, 0, 0, 125, 2) :: (1, 0, 2, 0, 127, 1) :: (16, 14, 4, 2, 128, 3) :: (16, 13, 0, 2, 131, 3) :: (16, 11, 16, 0, 134, 3) :: (19, 0, 0, 0, 137, 1) :: (34, 0, 0, 0, 138, 1) :: (4, 24, 0, 0, 139, 2) :: (1, 0, 2, 0, 141, 1) :: (16, 14, 4, 2, 142, 3) :: (16, 13, 5, 0, 145, 3) :: (19, 0, 0, 0, 148, 1) :: (34, 0, 0, 0, 149, 1) :: (4, 25, 0, 0, 150, 2) :: (1, 0, 2, 0, 152, 1) :: (16, 14, 4, 2, 153, 3) :: (24, 173, 0, 14, 156, 3) :: (19, 0, 0, 0, 159, 1) :: (34, 0, 0, 0, 160, 1) :: (4, 26, 0, 0, 161, 2) :: (1, 0, 2, 0, 163, 1) :: (16, 14, 4, 2, 164, 3) :: (24, 173, 0, 14, 167, 3) :: (1, 0, 2, 0, 170, 1) :: (16, 14, 4, 2, 171, 3) :: (4, 11, 0, 0, 174, 1) :: (24, 190, 0, 14, 175, 3) :: (6, 1, 0, 0, 178, 1) :: (19, 0, 0, 0, 179, 1) :: (2, 1, 2, 0, 180, 1) :: (4, 18, 0, 0, 181, 3) :: (3, 2, 1, 0, 184, 1) :: (1, 1, 2, 0, 185, 1) :: (2, 4, 2, 0, 186, 2) :: (1, 4, 2, 0, 188, 2) :: (20, 0, 0, 0, 190, 1) :: (2, 5, 0, 0, 191, 2) :: (4, 0, 0, 0, 193, 1) :: (2, 6, 0, 0, 194, 2) :: xc_113_196
set_option maxRecDepth 100000 in
noncomputable def xc_113_86 : List XE := (4, 0, 0, 0, 86, 1) :: xc_113_87
set_option maxRecDepth 100000 in
noncomputable def xc_113_0 : List XE := (1, 0, 2, 0, 0, 1) :: (4, 0, 0, 0, 1, 1) :: (17, 14, 3, 0, 2, 3) :: (4, 20, 0, 0, 5, 2) :: (22, 0, 0, 0, 7, 2) :: (34, 0, 0, 0, 9, 1) :: (4, 0, 0, 0, 10, 1) :: (1, 0, 2, 0, 11, 1) :: (16, 14, 4, 2, 12, 3) :: (16, 13, 1, 0, 15, 3) :: (19, 0, 0, 0, 18, 1) :: (34, 0, 0, 0, 19, 1) :: (4, 3, 0, 0, 20, 1) :: (1, 0, 2, 0, 21, 1) :: (16, 14, 4, 2, 22, 3) :: (16, 13, 2, 0, 25, 3) :: (19, 0, 0, 0, 28, 1) :: (34, 0, 0, 0, 29, 1) :: (4, 6, 0, 0, 30, 1) :: (1, 0, 2, 0, 31, 1) :: (16, 14, 4, 2, 32, 3) :: (16, 13, 38, 0, 35, 3) :: (19, 0, 0, 0, 38, 1) :: (34, 0, 0, 0, 39, 1) :: (4, 7, 0, 0, 40, 1) :: (1, 0, 2, 0, 41, 1) :: (16, 14, 4, 2, 42, 3) :: (24, 146, 0, 14, 45, 3) :: (19, 0, 0, 0, 48, 1) :: (34, 0, 0, 0, 49, 1) :: (4, 8, 0, 0, 50, 1) :: (1, 0, 2, 0, 51, 1) :: (16, 14, 4, 2, 52, 3) :: (24, 148, 0, 14, 55, 3) :: (19, 0, 0, 0, 58, 1) :: (34, 0, 0, 0, 59, 1) :: (4, 9, 0, 0, 60, 1) :: (1, 0, 2, 0, 61, 1) :: (16, 14, 4, 2, 62, 3) :: (24, 150, 0, 14, 65, 3) :: (19, 0, 0, 0, 68, 1) :: (34, 0, 0, 0, 69, 1) :: (4, 4, 0, 0, 70, 2) :: (1, 0, 2, 0, 72, 1) :: (16, 14, 4, 2, 73, 3) :: (24, 152, 0, 14, 76, 3) :: (12, 86, 0, 0, 79, 3) :: (4, 3, 0, 0, 82, 1) :: (14, 87, 0, 0, 83, 3) :: xc_113_86
noncomputable def xj_113 : Lean.RArray (List XE) := .branch 287 (.branch 226 (.branch 87 (.leaf xc_113_86) (.branch 196 (.leaf xc_113_87) (.leaf xc_113_196))) (.branch 229 (.leaf xc_113_226) (.branch 284 (.leaf xc_113_229) (.leaf xc_113_284)))) (.branch 405 (.branch 363 (.leaf xc_113_287) (.branch 402 (.leaf xc_113_363) (.leaf xc_113_402))) (.branch 433 (.leaf xc_113_405) (.branch 439 (.leaf xc_113_433) (.leaf xc_113_439))))
-- 114: EmberScript$Tokens.<init>()V
set_option maxRecDepth 100000 in
noncomputable def xc_114_0 : List XE := (1, 0, 2, 0, 0, 1) :: (25, 0, 0, 0, 1, 3) :: (1, 0, 2, 0, 4, 1) :: (21, 0, 0, 0, 5, 3) :: (34, 0, 0, 0, 8, 1) :: (4, 12, 0, 0, 9, 3) :: (24, 209, 2, 1, 12, 3) :: (17, 1, 0, 2, 15, 3) :: (1, 0, 2, 0, 18, 1) :: (21, 0, 0, 0, 19, 3) :: (34, 0, 0, 0, 22, 1) :: (4, 29, 0, 0, 23, 2) :: (24, 209, 2, 1, 25, 3) :: (17, 1, 1, 2, 28, 3) :: (1, 0, 2, 0, 31, 1) :: (21, 0, 0, 0, 32, 3) :: (34, 0, 0, 0, 35, 1) :: (4, 30, 0, 0, 36, 3) :: (24, 209, 2, 1, 39, 3) :: (17, 1, 2, 2, 42, 3) :: (1, 0, 2, 0, 45, 1) :: (21, 0, 0, 0, 46, 3) :: (34, 0, 0, 0, 49, 1) :: (4, 30, 0, 0, 50, 3) :: (24, 209, 2, 1, 53, 3) :: (17, 1, 3, 2, 56, 3) :: (1, 0, 2, 0, 59, 1) :: (21, 0, 0, 0, 60, 3) :: (34, 0, 0, 0, 63, 1) :: (4, 30, 0, 0, 64, 3) :: (24, 209, 2, 1, 67, 3) :: (17, 1, 4, 2, 70, 3) :: (28, 0, 0, 0, 73, 2) :: (1, 0, 2, 0, 75, 1) :: (16, 1, 1, 2, 76, 3) :: (24, 210, 0, 0, 79, 3) :: (26, 9, 0, 0, 82, 1) :: []
noncomputable def xj_114 : Lean.RArray (List XE) := .leaf []
-- 115: EmberScript$Reader.<init>(LEmberScript$Tokens;)V
set_option maxRecDepth 100000 in
noncomputable def xc_115_0 : List XE := (1, 0, 2, 0, 0, 1) :: (25, 0, 0, 0, 1, 3) :: (1, 0, 2, 0, 4, 1) :: (21, 2, 0, 0, 5, 3) :: (34, 0, 0, 0, 8, 1) :: (24, 211, 3, 3, 9, 3) :: (17, 4, 1, 2, 12, 3) :: (1, 0, 2, 0, 15, 1) :: (21, 3, 0, 0, 16, 3) :: (34, 0, 0, 0, 19, 1) :: (24, 116, 3, 4, 20, 3) :: (17, 4, 2, 2, 23, 3) :: (1, 0, 2, 0, 26, 1) :: (21, 0, 0, 0, 27, 3) :: (34, 0, 0, 0, 30, 1) :: (4, 31, 0, 0, 31, 3) :: (24, 209, 2, 1, 34, 3) :: (17, 4, 3, 2, 37, 3) :: (1, 0, 2, 0, 40, 1) :: (21, 0, 0, 0, 41, 3) :: (34, 0, 0, 0, 44, 1) :: (4, 31, 0, 0, 45, 3) :: (24, 209, 2, 1, 48, 3) :: (17, 4, 4, 2, 51, 3) :: (1, 0, 2, 0, 54, 1) :: (21, 0, 0, 0, 55, 3) :: (34, 0, 0, 0, 58, 1) :: (4, 31, 0, 0, 59, 3) :: (24, 209, 2, 1, 62, 3) :: (17, 4, 5, 2, 65, 3) :: (1, 0, 2, 0, 68, 1) :: (21, 0, 0, 0, 69, 3) :: (34, 0, 0, 0, 72, 1) :: (4, 31, 0, 0, 73, 3) :: (24, 209, 2, 1, 76, 3) :: (17, 4, 6, 2, 79, 3) :: (1, 0, 2, 0, 82, 1) :: (21, 0, 0, 0, 83, 3) :: (34, 0, 0, 0, 86, 1) :: (4, 31, 0, 0, 87, 3) :: (24, 209, 2, 1, 90, 3) :: (17, 4, 7, 2, 93, 3) :: (1, 0, 2, 0, 96, 1) :: (1, 1, 2, 0, 97, 1) :: (17, 4, 0, 2, 98, 3) :: (26, 9, 0, 0, 101, 1) :: []
noncomputable def xj_115 : Lean.RArray (List XE) := .leaf []
-- 116: EmberScript$Script.<init>()V
set_option maxRecDepth 100000 in
noncomputable def xc_116_0 : List XE := (1, 0, 2, 0, 0, 1) :: (25, 0, 0, 0, 1, 3) :: (1, 0, 2, 0, 4, 1) :: (21, 0, 0, 0, 5, 3) :: (34, 0, 0, 0, 8, 1) :: (4, 32, 0, 0, 9, 3) :: (24, 209, 2, 1, 12, 3) :: (17, 3, 0, 2, 15, 3) :: (1, 0, 2, 0, 18, 1) :: (21, 0, 0, 0, 19, 3) :: (34, 0, 0, 0, 22, 1) :: (4, 32, 0, 0, 23, 3) :: (24, 209, 2, 1, 26, 3) :: (17, 3, 1, 2, 29, 3) :: (1, 0, 2, 0, 32, 1) :: (21, 0, 0, 0, 33, 3) :: (34, 0, 0, 0, 36, 1) :: (4, 32, 0, 0, 37, 3) :: (24, 209, 2, 1, 40, 3) :: (17, 3, 2, 2, 43, 3) :: (1, 0, 2, 0, 46, 1) :: (21, 0, 0, 0, 47, 3) :: (34, 0, 0, 0, 50, 1) :: (4, 33, 0, 0, 51, 2) :: (24, 209, 2, 1, 53, 3) :: (17, 3, 3, 2, 56, 3) :: (1, 0, 2, 0, 59, 1) :: (21, 0, 0, 0, 60, 3) :: (34, 0, 0, 0, 63, 1) :: (4, 33, 0, 0, 64, 2) :: (24, 209, 2, 1, 66, 3) :: (17, 3, 4, 2, 69, 3) :: (1, 0, 2, 0, 72, 1) :: (21, 0, 0, 0, 73, 3) :: (34, 0, 0, 0, 76, 1) :: (4, 33, 0, 0, 77, 2) :: (24, 209, 2, 1, 79, 3) :: (17, 3, 5, 2, 82, 3) :: (1, 0, 2, 0, 85, 1) :: (21, 0, 0, 0, 86, 3) :: (34, 0, 0, 0, 89, 1) :: (4, 33, 0, 0, 90, 2) :: (24, 209, 2, 1, 92, 3) :: (17, 3, 6, 2, 95, 3) :: (1, 0, 2, 0, 98, 1) :: (21, 0, 0, 0, 99, 3) :: (34, 0, 0, 0, 102, 1) :: (4, 33, 0, 0, 103, 2) :: (24, 209, 2, 1, 105, 3) :: (17, 3, 7, 2, 108, 3) :: (1, 0, 2, 0, 111, 1) :: (4, 21, 0, 0, 112, 2) :: (17, 3, 10, 0, 114, 3) :: (26, 9, 0, 0, 117, 1) :: []
noncomputable def xj_116 : Lean.RArray (List XE) := .leaf []
-- 117: EmberScript$Machine.<init>(LEmberScript$Script;)V
set_option maxRecDepth 100000 in
noncomputable def xc_117_0 : List XE := (1, 0, 2, 0, 0, 1) :: (25, 0, 0, 0, 1, 3) :: (1, 0, 2, 0, 4, 1) :: (21, 5, 0, 0, 5, 3) :: (34, 0, 0, 0, 8, 1) :: (24, 212, 3, 6, 9, 3) :: (17, 9, 1, 2, 12, 3) :: (1, 0, 2, 0, 15, 1) :: (21, 6, 0, 0, 16, 3) :: (34, 0, 0, 0, 19, 1) :: (24, 213, 3, 7, 20, 3) :: (17, 9, 2, 2, 23, 3) :: (1, 0, 2, 0, 26, 1) :: (21, 7, 0, 0, 27, 3) :: (34, 0, 0, 0, 30, 1) :: (24, 214, 3, 8, 31, 3) :: (17, 9, 3, 2, 34, 3) :: (1, 0, 2, 0, 37, 1) :: (21, 8, 0, 0, 38, 3) :: (34, 0, 0, 0, 41, 1) :: (1, 0, 2, 0, 42, 1) :: (16, 9, 1, 2, 43, 3) :: (1, 0, 2, 0, 46, 1) :: (16, 9, 2, 2, 47, 3) :: (1, 0, 2, 0, 50, 1) :: (16, 9, 3, 2, 51, 3) :: (24, 215, 2, 9, 54, 3) :: (17, 9, 4, 2, 57, 3) :: (1, 0, 2, 0, 60, 1) :: (21, 8, 0, 0, 61, 3) :: (34, 0, 0, 0, 64, 1) :: (1, 0, 2, 0, 65, 1) :: (16, 9, 1, 2, 66, 3) :: (1, 0, 2, 0, 69, 1) :: (16, 9, 2, 2, 70, 3) :: (1, 0, 2, 0, 73, 1) :: (16, 9, 3, 2, 74, 3) :: (24, 215, 2, 9, 77, 3) :: (17, 9, 5, 2, 80, 3) :: (1, 0, 2, 0, 83, 1) :: (21, 0, 0, 0, 84, 3) :: (34, 0, 0, 0, 87, 1) :: (4, 28, 0, 0, 88, 2) :: (24, 209, 2, 1, 90, 3) :: (17, 9, 6, 2, 93, 3) :: (1, 0, 2, 0, 96, 1) :: (4, 3, 0, 0, 97, 1) :: (17, 9, 7, 0, 98, 3) :: (1, 0, 2, 0, 101, 1) :: (1, 1, 2, 0, 102, 1) :: (17, 9, 0, 2, 103, 3) :: (26, 9, 0, 0, 106, 1) :: []
noncomputable def xj_117 : Lean.RArray (List XE) := .leaf []
-- 118: EmberScriptModel$Reader.<init>([II)V
set_option maxRecDepth 100000 in
noncomputable def xc_118_135 : List XE := (1, 0, 2, 0, 135, 1) :: (16, 12, 2, 2, 136, 3) :: (4, 21, 0, 0, 139, 2) :: (17, 11, 16, 0, 141, 3) :: (26, 9, 0, 0, 144, 1) :: []
set_option maxRecDepth 100000 in
noncomputable def xc_118_113 : List XE := (1, 3, 0, 0, 113, 1) :: (4, 21, 0, 0, 114, 2) :: (13, 135, 3, 0, 116, 3) :: (1, 0, 2, 0, 119, 1) :: (16, 12, 6, 2, 120, 3) :: (4, 29, 0, 0, 123, 2) :: (1, 3, 0, 0, 125, 1) :: (6, 0, 0, 0, 126, 1) :: (1, 3, 0, 0, 127, 1) :: (19, 0, 0, 0, 128, 1) :: (5, 3, 3, 0, 129, 3) :: (14, 113, 0, 0, 132, 3) :: xc_118_135
set_option maxRecDepth 100000 in
noncomputable def xc_118_0 : List XE := (1, 0, 2, 0, 0, 1) :: (25, 0, 0, 0, 1, 3) :: (1, 0, 2, 0, 4, 1) :: (21, 11, 0, 0, 5, 3) :: (34, 0, 0, 0, 8, 1) :: (24, 216, 3, 12, 9, 3) :: (17, 12, 2, 2, 12, 3) :: (1, 0, 2, 0, 15, 1) :: (4, 34, 0, 0, 16, 3) :: (22, 0, 0, 0, 19, 2) :: (17, 12, 3, 2, 21, 3) :: (1, 0, 2, 0, 24, 1) :: (4, 35, 0, 0, 25, 3) :: (22, 0, 0, 0, 28, 2) :: (17, 12, 4, 2, 30, 3) :: (1, 0, 2, 0, 33, 1) :: (4, 35, 0, 0, 34, 3) :: (22, 0, 0, 0, 37, 2) :: (17, 12, 5, 2, 39, 3) :: (1, 0, 2, 0, 42, 1) :: (4, 35, 0, 0, 43, 3) :: (22, 0, 0, 0, 46, 2) :: (17, 12, 6, 2, 48, 3) :: (1, 0, 2, 0, 51, 1) :: (4, 36, 0, 0, 52, 3) :: (22, 0, 0, 0, 55, 2) :: (17, 12, 9, 2, 57, 3) :: (1, 0, 2, 0, 60, 1) :: (4, 36, 0, 0, 61, 3) :: (22, 0, 0, 0, 64, 2) :: (17, 12, 10, 2, 66, 3) :: (1, 0, 2, 0, 69, 1) :: (4, 36, 0, 0, 70, 3) :: (22, 0, 0, 0, 73, 2) :: (17, 12, 12, 2, 75, 3) :: (1, 0, 2, 0, 78, 1) :: (4, 11, 0, 0, 79, 1) :: (17, 12, 21, 0, 80, 3) :: (1, 0, 2, 0, 83, 1) :: (4, 37, 0, 0, 84, 2) :: (17, 12, 23, 0, 86, 3) :: (1, 0, 2, 0, 89, 1) :: (1, 1, 2, 0, 90, 1) :: (17, 12, 0, 2, 91, 3) :: (1, 0, 2, 0, 94, 1) :: (1, 2, 0, 0, 95, 1) :: (17, 12, 1, 0, 96, 3) :: (1, 0, 2, 0, 99, 1) :: (28, 3, 0, 0, 100, 2) :: (24, 217, 0, 13, 102, 3) :: (1, 0, 2, 0, 105, 1) :: (28, 4, 0, 0, 106, 2) :: (24, 217, 0, 13, 108, 3) :: (4, 0, 0, 0, 111, 1) :: (2, 3, 0, 0, 112, 1) :: xc_118_113
noncomputable def xj_118 : Lean.RArray (List XE) := .branch 135 (.leaf xc_118_113) (.leaf xc_118_135)
-- 119: EmberScriptModel$Run.<init>(LEmberScriptModel$Script;)V
set_option maxRecDepth 100000 in
noncomputable def xc_119_315 : List XE := (1, 0, 2, 0, 315, 1) :: (16, 13, 28, 2, 316, 3) :: (4, 0, 0, 0, 319, 1) :: (4, 3, 0, 0, 320, 1) :: (19, 0, 0, 0, 321, 1) :: (1, 0, 2, 0, 322, 1) :: (16, 13, 29, 2, 323, 3) :: (4, 0, 0, 0, 326, 1) :: (4, 11, 0, 0, 327, 1) :: (19, 0, 0, 0, 328, 1) :: (1, 0, 2, 0, 329, 1) :: (16, 13, 31, 2, 330, 3) :: (4, 0, 0, 0, 333, 1) :: (4, 11, 0, 0, 334, 1) :: (19, 0, 0, 0, 335, 1) :: (1, 0, 2, 0, 336, 1) :: (16, 13, 32, 2, 337, 3) :: (4, 0, 0, 0, 340, 1) :: (4, 11, 0, 0, 341, 1) :: (19, 0, 0, 0, 342, 1) :: (26, 9, 0, 0, 343, 1) :: []
set_option maxRecDepth 100000 in
noncomputable def xc_119_283 : List XE := (1, 2, 0, 0, 283, 1) :: (4, 41, 0, 0, 284, 2) :: (13, 315, 3, 0, 286, 3) :: (1, 0, 2, 0, 289, 1) :: (16, 13, 35, 2, 290, 3) :: (1, 2, 0, 0, 293, 1) :: (4, 42, 0, 0, 294, 2) :: (22, 0, 0, 0, 296, 2) :: (23, 0, 0, 0, 298, 1) :: (1, 0, 2, 0, 299, 1) :: (16, 13, 36, 2, 300, 3) :: (1, 2, 0, 0, 303, 1) :: (4, 43, 0, 0, 304, 2) :: (22, 0, 0, 0, 306, 2) :: (23, 0, 0, 0, 308, 1) :: (5, 2, 3, 0, 309, 3) :: (14, 283, 0, 0, 312, 3) :: xc_119_315
set_option maxRecDepth 100000 in
noncomputable def xc_119_0 : List XE := (1, 0, 2, 0, 0, 1) :: (25, 0, 0, 0, 1, 3) :: (1, 0, 2, 0, 4, 1) :: (4, 3, 0, 0, 5, 1) :: (17, 13, 1, 0, 6, 3) :: (1, 0, 2, 0, 9, 1) :: (4, 28, 0, 0, 10, 2) :: (22, 0, 0, 0, 12, 2) :: (17, 13, 8, 2, 14, 3) :: (1, 0, 2, 0, 17, 1) :: (4, 28, 0, 0, 18, 2) :: (22, 0, 0, 0, 20, 2) :: (17, 13, 9, 2, 22, 3) :: (1, 0, 2, 0, 25, 1) :: (4, 19, 0, 0, 26, 2) :: (22, 0, 0, 0, 28, 2) :: (17, 13, 10, 2, 30, 3) :: (1, 0, 2, 0, 33, 1) :: (4, 19, 0, 0, 34, 2) :: (22, 0, 0, 0, 36, 2) :: (17, 13, 11, 2, 38, 3) :: (1, 0, 2, 0, 41, 1) :: (4, 19, 0, 0, 42, 2) :: (22, 0, 0, 0, 44, 2) :: (17, 13, 12, 2, 46, 3) :: (1, 0, 2, 0, 49, 1) :: (4, 19, 0, 0, 50, 2) :: (22, 0, 0, 0, 52, 2) :: (17, 13, 13, 2, 54, 3) :: (1, 0, 2, 0, 57, 1) :: (4, 19, 0, 0, 58, 2) :: (22, 0, 0, 0, 60, 2) :: (17, 13, 14, 2, 62, 3) :: (1, 0, 2, 0, 65, 1) :: (4, 19, 0, 0, 66, 2) :: (22, 0, 0, 0, 68, 2) :: (17, 13, 15, 2, 70, 3) :: (1, 0, 2, 0, 73, 1) :: (4, 19, 0, 0, 74, 2) :: (22, 0, 0, 0, 76, 2) :: (17, 13, 16, 2, 78, 3) :: (1, 0, 2, 0, 81, 1) :: (4, 19, 0, 0, 82, 2) :: (22, 0, 0, 0, 84, 2) :: (17, 13, 17, 2, 86, 3) :: (1, 0, 2, 0, 89, 1) :: (4, 38, 0, 0, 90, 3) :: (22, 0, 0, 0, 93, 2) :: (17, 13, 18, 2, 95, 3) :: (1, 0, 2, 0, 98, 1) :: (4, 38, 0, 0, 99, 3) :: (22, 0, 0, 0, 102, 2) :: (17, 13, 19, 2, 104, 3) :: (1, 0, 2, 0, 107, 1) :: (4, 38, 0, 0, 108, 3) :: (22, 0, 0, 0, 111, 2) :: (17, 13, 20, 2, 113, 3) :: (1, 0, 2, 0, 116, 1) :: (4, 39, 0, 0, 117, 3) :: (22, 0, 0, 0, 120, 2) :: (17, 13, 23, 2, 122, 3) :: (1, 0, 2, 0, 125, 1) :: (4, 39, 0, 0, 126, 3) :: (22, 0, 0, 0, 129, 2) :: (17, 13, 24, 2, 131, 3) :: (1, 0, 2, 0, 134, 1) :: (4, 39, 0, 0, 135, 3) :: (22, 0, 0, 0, 138, 2) :: (17, 13, 25, 2, 140, 3) :: (1, 0, 2, 0, 143, 1) :: (4, 40, 0, 0, 144, 3) :: (22, 0, 0, 0, 147, 2) :: (17, 13, 26, 2, 149, 3) :: (1, 0, 2, 0, 152, 1) :: (4, 40, 0, 0, 153, 3) :: (22, 0, 0, 0, 156, 2) :: (17, 13, 27, 2, 158, 3) :: (1, 0, 2, 0, 161, 1) :: (4, 41, 0, 0, 162, 2) :: (22, 0, 0, 0, 164, 2) :: (17, 13, 28, 2, 166, 3) :: (1, 0, 2, 0, 169, 1) :: (4, 41, 0, 0, 170, 2) :: (22, 0, 0, 0, 172, 2) :: (17, 13, 29, 2, 174, 3) :: (1, 0, 2, 0, 177, 1) :: (4, 41, 0, 0, 178, 2) :: (22, 0, 0, 0, 180, 2) :: (17, 13, 30, 2, 182, 3) :: (1, 0, 2, 0, 185, 1) :: (4, 41, 0, 0, 186, 2) :: (22, 0, 0, 0, 188, 2) :: (17, 13, 31, 2, 190, 3) :: (1, 0, 2, 0, 193, 1) :: (4, 41, 0, 0, 194, 2) :: (22, 0, 0, 0, 196, 2) :: (17, 13, 32, 2, 198, 3) :: (1, 0, 2, 0, 201, 1) :: (4, 41, 0, 0, 202, 2) :: (22, 0, 0, 0, 204, 2) :: (17, 13, 33, 2, 206, 3) :: (1, 0, 2, 0, 209, 1) :: (4, 41, 0, 0, 210, 2) :: (22, 0, 0, 0, 212, 2) :: (17, 13, 34, 2, 214, 3) :: (1, 0, 2, 0, 217, 1) :: (4, 41, 0, 0, 218, 2) :: (22, 3, 2, 0, 220, 3) :: (17, 13, 35, 2, 223, 3) :: (1, 0, 2, 0, 226, 1) :: (4, 41, 0, 0, 227, 2) :: (22, 3, 2, 0, 229, 3) :: (17, 13, 36, 2, 232, 3) :: (1, 0, 2, 0, 235, 1) :: (4, 23, 0, 0, 236, 2) :: (22, 0, 0, 0, 238, 2) :: (17, 13, 37, 2, 240, 3) :: (1, 0, 2, 0, 243, 1) :: (4, 11, 0, 0, 244, 1) :: (17, 13, 39, 0, 245, 3) :: (1, 0, 2, 0, 248, 1) :: (4, 19, 0, 0, 249, 2) :: (22, 0, 0, 0, 251, 2) :: (17, 13, 40, 2, 253, 3) :: (1, 0, 2, 0, 256, 1) :: (4, 19, 0, 0, 257, 2) :: (22, 0, 0, 0, 259, 2) :: (17, 13, 41, 2, 261, 3) :: (1, 0, 2, 0, 264, 1) :: (1, 1, 2, 0, 265, 1) :: (17, 13, 0, 2, 266, 3) :: (1, 0, 2, 0, 269, 1) :: (4, 3, 0, 0, 270, 1) :: (17, 13, 21, 0, 271, 3) :: (1, 0, 2, 0, 274, 1) :: (16, 13, 23, 2, 275, 3) :: (4, 0, 0, 0, 278, 1) :: (4, 11, 0, 0, 279, 1) :: (19, 0, 0, 0, 280, 1) :: (4, 0, 0, 0, 281, 1) :: (2, 2, 0, 0, 282, 1) :: xc_119_283
noncomputable def xj_119 : Lean.RArray (List XE) := .branch 315 (.leaf xc_119_283) (.leaf xc_119_315)
-- 120: EmberScript.feed(IIIII)I
set_option maxRecDepth 100000 in
noncomputable def xc_120_20 : List XE := (1, 0, 2, 0, 20, 1) :: (16, 10, 0, 2, 21, 3) :: (1, 1, 0, 0, 24, 1) :: (24, 219, 0, 2, 25, 3) :: (1, 0, 2, 0, 28, 1) :: (16, 10, 0, 2, 29, 3) :: (1, 2, 0, 0, 32, 1) :: (24, 219, 0, 2, 33, 3) :: (1, 0, 2, 0, 36, 1) :: (16, 10, 0, 2, 37, 3) :: (1, 3, 0, 0, 40, 1) :: (24, 219, 0, 2, 41, 3) :: (1, 0, 2, 0, 44, 1) :: (16, 10, 0, 2, 45, 3) :: (1, 4, 0, 0, 48, 2) :: (24, 219, 0, 2, 50, 3) :: (1, 0, 2, 0, 53, 1) :: (16, 10, 0, 2, 54, 3) :: (1, 5, 0, 0, 57, 2) :: (24, 219, 0, 2, 59, 3) :: (1, 0, 2, 0, 62, 1) :: (16, 10, 0, 2, 63, 3) :: (24, 220, 0, 2, 66, 3) :: (26, 0, 0, 0, 69, 1) :: []
set_option maxRecDepth 100000 in
noncomputable def xc_120_0 : List XE := (1, 0, 2, 0, 0, 1) :: (16, 10, 0, 2, 1, 3) :: (4, 13, 0, 0, 4, 2) :: (24, 218, 0, 2, 6, 3) :: (12, 20, 1, 0, 9, 3) :: (27, 0, 54, 0, 12, 3) :: (34, 0, 0, 0, 15, 1) :: (0, 0, 0, 0, 16, 3) :: (0, 0, 0, 0, 19, 1) :: xc_120_20
noncomputable def xj_120 : Lean.RArray (List XE) := .leaf xc_120_20
-- 121: EmberScriptModel.no(I)I
set_option maxRecDepth 100000 in
noncomputable def xc_121_0 : List XE := (1, 0, 2, 0, 0, 1) :: (1, 1, 0, 0, 1, 1) :: (17, 14, 3, 0, 2, 3) :: (4, 0, 0, 0, 5, 1) :: (26, 0, 0, 0, 6, 1) :: []
noncomputable def xj_121 : Lean.RArray (List XE) := .leaf []
-- 122: EmberScriptModel.add(I)V
set_option maxRecDepth 100000 in
noncomputable def xc_122_36 : List XE := (26, 9, 0, 0, 36, 1) :: []
set_option maxRecDepth 100000 in
noncomputable def xc_122_3 : List XE := (1, 2, 0, 0, 3, 1) :: (12, 36, 2, 0, 4, 3) :: (1, 0, 2, 0, 7, 1) :: (16, 14, 0, 2, 8, 3) :: (1, 0, 2, 0, 11, 1) :: (34, 0, 0, 0, 12, 1) :: (16, 14, 1, 0, 13, 3) :: (37, 0, 0, 0, 16, 1) :: (4, 3, 0, 0, 17, 1) :: (6, 0, 0, 0, 18, 1) :: (17, 14, 1, 0, 19, 3) :: (1, 1, 0, 0, 22, 1) :: (1, 2, 0, 0, 23, 1) :: (6, 8, 0, 0, 24, 1) :: (4, 45, 0, 0, 25, 3) :: (6, 3, 0, 0, 28, 1) :: (19, 0, 0, 0, 29, 1) :: (5, 2, 46, 0, 30, 3) :: (14, 3, 0, 0, 33, 3) :: xc_122_36
set_option maxRecDepth 100000 in
noncomputable def xc_122_0 : List XE := (4, 44, 0, 0, 0, 2) :: (2, 2, 0, 0, 2, 1) :: xc_122_3
noncomputable def xj_122 : Lean.RArray (List XE) := .branch 36 (.leaf xc_122_3) (.leaf xc_122_36)
-- 123: EmberScript.trim(I)I
set_option maxRecDepth 100000 in
noncomputable def xc_123_23 : List XE := (1, 0, 2, 0, 23, 1) :: (16, 10, 0, 2, 24, 3) :: (1, 1, 0, 0, 27, 1) :: (24, 127, 0, 2, 28, 3) :: (1, 1, 0, 0, 31, 1) :: (26, 0, 0, 0, 32, 1) :: []
set_option maxRecDepth 100000 in
noncomputable def xc_123_15 : List XE := (27, 1, 65, 0, 15, 3) :: (34, 0, 0, 0, 18, 1) :: (0, 0, 0, 0, 19, 3) :: (0, 0, 0, 0, 22, 1) :: xc_123_23
set_option maxRecDepth 100000 in
noncomputable def xc_123_0 : List XE := (1, 1, 0, 0, 0, 1) :: (12, 15, 2, 0, 1, 3) :: (1, 1, 0, 0, 4, 1) :: (1, 0, 2, 0, 5, 1) :: (16, 10, 0, 2, 6, 3) :: (24, 220, 0, 2, 9, 3) :: (13, 23, 5, 0, 12, 3) :: xc_123_15
noncomputable def xj_123 : Lean.RArray (List XE) := .branch 23 (.leaf xc_123_15) (.leaf xc_123_23)
-- 124: EmberScriptModel.isIn(III)Z
set_option maxRecDepth 100000 in
noncomputable def xc_124_15 : List XE := (26, 0, 0, 0, 15, 1) :: []
set_option maxRecDepth 100000 in
noncomputable def xc_124_14 : List XE := (4, 0, 0, 0, 14, 1) :: xc_124_15
set_option maxRecDepth 100000 in
noncomputable def xc_124_0 : List XE := (1, 0, 0, 0, 0, 1) :: (1, 1, 0, 0, 1, 1) :: (13, 14, 2, 0, 2, 3) :: (1, 0, 0, 0, 5, 1) :: (1, 2, 0, 0, 6, 1) :: (13, 14, 4, 0, 7, 3) :: (4, 3, 0, 0, 10, 1) :: (14, 15, 0, 0, 11, 3) :: xc_124_14
noncomputable def xj_124 : Lean.RArray (List XE) := .branch 15 (.leaf xc_124_14) (.leaf xc_124_15)
-- 125: EmberScript$Reader.read()I
set_option maxRecDepth 100000 in
noncomputable def xc_125_41 : List XE := (1, 0, 2, 0, 41, 1) :: (24, 226, 0, 5, 42, 3) :: (1, 0, 2, 0, 45, 1) :: (16, 4, 2, 2, 46, 3) :: (1, 0, 2, 0, 49, 1) :: (16, 4, 1, 2, 50, 3) :: (24, 227, 0, 3, 53, 3) :: (24, 228, 0, 4, 56, 3) :: (1, 0, 2, 0, 59, 1) :: (16, 4, 1, 2, 60, 3) :: (24, 229, 0, 3, 63, 3) :: (26, 0, 0, 0, 66, 1) :: []
set_option maxRecDepth 100000 in
noncomputable def xc_125_0 : List XE := (1, 0, 2, 0, 0, 1) :: (24, 221, 0, 5, 1, 3) :: (1, 0, 2, 0, 4, 1) :: (16, 4, 0, 2, 5, 3) :: (24, 222, 0, 2, 8, 3) :: (1, 0, 2, 0, 11, 1) :: (4, 0, 0, 0, 12, 1) :: (24, 223, 0, 5, 13, 3) :: (1, 0, 2, 0, 16, 1) :: (4, 3, 0, 0, 17, 1) :: (24, 224, 0, 5, 18, 3) :: (1, 0, 2, 0, 21, 1) :: (16, 4, 2, 2, 22, 3) :: (4, 0, 0, 0, 25, 1) :: (4, 0, 0, 0, 26, 1) :: (4, 0, 0, 0, 27, 1) :: (24, 225, 0, 4, 28, 3) :: (35, 0, 0, 0, 31, 1) :: (1, 0, 2, 0, 32, 1) :: (16, 4, 11, 4, 33, 3) :: (12, 41, 0, 0, 36, 3) :: (4, 3, 0, 0, 39, 1) :: (26, 0, 0, 0, 40, 1) :: xc_125_41
noncomputable def xj_125 : Lean.RArray (List XE) := .leaf xc_125_41
-- 126: EmberScript$Reader.errorPlace()I
set_option maxRecDepth 100000 in
noncomputable def xc_126_25 : List XE := (24, 231, 0, 2, 25, 3) :: (26, 0, 0, 0, 28, 1) :: []
set_option maxRecDepth 100000 in
noncomputable def xc_126_18 : List XE := (1, 0, 2, 0, 18, 1) :: (16, 4, 1, 2, 19, 3) :: (24, 230, 0, 3, 22, 3) :: xc_126_25
set_option maxRecDepth 100000 in
noncomputable def xc_126_0 : List XE := (1, 0, 2, 0, 0, 1) :: (16, 4, 0, 2, 1, 3) :: (1, 0, 2, 0, 4, 1) :: (16, 4, 11, 4, 5, 3) :: (12, 18, 0, 0, 8, 3) :: (1, 0, 2, 0, 11, 1) :: (16, 4, 10, 0, 12, 3) :: (14, 25, 0, 0, 15, 3) :: xc_126_18
noncomputable def xj_126 : Lean.RArray (List XE) := .branch 25 (.leaf xc_126_18) (.leaf xc_126_25)
-- 127: EmberScript$Tokens.shorten(I)V
set_option maxRecDepth 100000 in
noncomputable def xc_127_0 : List XE := (1, 0, 2, 0, 0, 1) :: (1, 1, 0, 0, 1, 1) :: (17, 1, 5, 0, 2, 3) :: (26, 9, 0, 0, 5, 1) :: []
noncomputable def xj_127 : Lean.RArray (List XE) := .leaf []
-- 128: EmberScript$Reader.draft()LEmberScript$Script;
set_option maxRecDepth 100000 in
noncomputable def xc_128_0 : List XE := (1, 0, 2, 0, 0, 1) :: (16, 4, 2, 2, 1, 3) :: (26, 2, 0, 0, 4, 1) :: []
noncomputable def xj_128 : Lean.RArray (List XE) := .leaf []
-- 129: EmberScript$Script.copyFrom(LEmberScript$Script;)V
set_option maxRecDepth 100000 in
noncomputable def xc_129_0 : List XE := (1, 0, 2, 0, 0, 1) :: (16, 3, 0, 2, 1, 3) :: (1, 1, 2, 0, 4, 1) :: (16, 3, 0, 2, 5, 3) :: (24, 232, 0, 1, 8, 3) :: (1, 0, 2, 0, 11, 1) :: (16, 3, 1, 2, 12, 3) :: (1, 1, 2, 0, 15, 1) :: (16, 3, 1, 2, 16, 3) :: (24, 232, 0, 1, 19, 3) :: (1, 0, 2, 0, 22, 1) :: (16, 3, 2, 2, 23, 3) :: (1, 1, 2, 0, 26, 1) :: (16, 3, 2, 2, 27, 3) :: (24, 232, 0, 1, 30, 3) :: (1, 0, 2, 0, 33, 1) :: (16, 3, 3, 2, 34, 3) :: (1, 1, 2, 0, 37, 1) :: (16, 3, 3, 2, 38, 3) :: (24, 232, 0, 1, 41, 3) :: (1, 0, 2, 0, 44, 1) :: (16, 3, 4, 2, 45, 3) :: (1, 1, 2, 0, 48, 1) :: (16, 3, 4, 2, 49, 3) :: (24, 232, 0, 1, 52, 3) :: (1, 0, 2, 0, 55, 1) :: (16, 3, 5, 2, 56, 3) :: (1, 1, 2, 0, 59, 1) :: (16, 3, 5, 2, 60, 3) :: (24, 232, 0, 1, 63, 3) :: (1, 0, 2, 0, 66, 1) :: (16, 3, 6, 2, 67, 3) :: (1, 1, 2, 0, 70, 1) :: (16, 3, 6, 2, 71, 3) :: (24, 232, 0, 1, 74, 3) :: (1, 0, 2, 0, 77, 1) :: (16, 3, 7, 2, 78, 3) :: (1, 1, 2, 0, 81, 1) :: (16, 3, 7, 2, 82, 3) :: (24, 232, 0, 1, 85, 3) :: (1, 0, 2, 0, 88, 1) :: (1, 1, 2, 0, 89, 1) :: (16, 3, 8, 0, 90, 3) :: (17, 3, 8, 0, 93, 3) :: (1, 0, 2, 0, 96, 1) :: (1, 1, 2, 0, 97, 1) :: (16, 3, 9, 0, 98, 3) :: (17, 3, 9, 0, 101, 3) :: (1, 0, 2, 0, 104, 1) :: (1, 1, 2, 0, 105, 1) :: (16, 3, 10, 0, 106, 3) :: (17, 3, 10, 0, 109, 3) :: (26, 9, 0, 0, 112, 1) :: []
noncomputable def xj_129 : Lean.RArray (List XE) := .leaf []
-- 130: EmberScript$Machine.begin()V
set_option maxRecDepth 100000 in
noncomputable def xc_130_38 : List XE := (17, 9, 7, 0, 38, 3) :: (1, 0, 2, 0, 41, 1) :: (4, 0, 0, 0, 42, 1) :: (17, 9, 8, 0, 43, 3) :: (1, 0, 2, 0, 46, 1) :: (4, 0, 0, 0, 47, 1) :: (17, 9, 10, 0, 48, 3) :: (1, 0, 2, 0, 51, 1) :: (4, 0, 0, 0, 52, 1) :: (17, 9, 11, 0, 53, 3) :: (1, 0, 2, 0, 56, 1) :: (4, 0, 0, 0, 57, 1) :: (17, 9, 12, 0, 58, 3) :: (1, 0, 2, 0, 61, 1) :: (4, 1, 0, 0, 62, 1) :: (17, 9, 13, 1, 63, 3) :: (1, 0, 2, 0, 66, 1) :: (4, 0, 0, 0, 67, 1) :: (17, 9, 14, 0, 68, 3) :: (26, 9, 0, 0, 71, 1) :: []
set_option maxRecDepth 100000 in
noncomputable def xc_130_37 : List XE := (4, 0, 0, 0, 37, 1) :: xc_130_38
set_option maxRecDepth 100000 in
noncomputable def xc_130_0 : List XE := (1, 0, 2, 0, 0, 1) :: (16, 9, 1, 2, 1, 3) :: (24, 233, 0, 6, 4, 3) :: (1, 0, 2, 0, 7, 1) :: (16, 9, 2, 2, 8, 3) :: (24, 234, 0, 7, 11, 3) :: (1, 0, 2, 0, 14, 1) :: (16, 9, 3, 2, 15, 3) :: (24, 235, 0, 8, 18, 3) :: (1, 0, 2, 0, 21, 1) :: (1, 0, 2, 0, 22, 1) :: (16, 9, 0, 2, 23, 3) :: (4, 0, 0, 0, 26, 1) :: (24, 236, 0, 4, 27, 3) :: (12, 37, 1, 0, 30, 3) :: (4, 3, 0, 0, 33, 1) :: (14, 38, 0, 0, 34, 3) :: xc_130_37
noncomputable def xj_130 : Lean.RArray (List XE) := .branch 38 (.leaf xc_130_37) (.leaf xc_130_38)
-- 131: EmberScriptModel$Reader.read()V
set_option maxRecDepth 100000 in
noncomputable def xc_131_0 : List XE := (1, 0, 2, 0, 0, 1) :: (24, 237, 0, 13, 1, 3) :: (1, 0, 2, 0, 4, 1) :: (16, 12, 2, 2, 5, 3) :: (1, 0, 2, 0, 8, 1) :: (4, 0, 0, 0, 9, 1) :: (24, 238, 0, 13, 10, 3) :: (17, 11, 17, 0, 13, 3) :: (1, 0, 2, 0, 16, 1) :: (24, 239, 0, 13, 17, 3) :: (26, 9, 0, 0, 20, 1) :: []
noncomputable def xj_131 : Lean.RArray (List XE) := .leaf []
-- 132: EmberScriptModel$Run.push(IIIII)V
set_option maxRecDepth 100000 in
noncomputable def xc_132_37 : List XE := (1, 0, 2, 0, 37, 1) :: (16, 13, 35, 2, 38, 3) :: (1, 1, 0, 0, 41, 1) :: (18, 3, 0, 0, 42, 1) :: (2, 7, 2, 0, 43, 2) :: (1, 7, 2, 0, 45, 2) :: (1, 6, 0, 0, 47, 2) :: (1, 2, 0, 0, 49, 1) :: (19, 0, 0, 0, 50, 1) :: (1, 7, 2, 0, 51, 2) :: (1, 6, 0, 0, 53, 2) :: (4, 3, 0, 0, 55, 1) :: (6, 0, 0, 0, 56, 1) :: (1, 3, 0, 0, 57, 1) :: (19, 0, 0, 0, 58, 1) :: (1, 7, 2, 0, 59, 2) :: (1, 6, 0, 0, 61, 2) :: (4, 6, 0, 0, 63, 1) :: (6, 0, 0, 0, 64, 1) :: (1, 4, 0, 0, 65, 2) :: (19, 0, 0, 0, 67, 1) :: (1, 7, 2, 0, 68, 2) :: (1, 6, 0, 0, 70, 2) :: (4, 7, 0, 0, 72, 1) :: (6, 0, 0, 0, 73, 1) :: (1, 5, 0, 0, 74, 2) :: (19, 0, 0, 0, 76, 1) :: (1, 0, 2, 0, 77, 1) :: (16, 13, 33, 2, 78, 3) :: (1, 1, 0, 0, 81, 1) :: (1, 6, 0, 0, 82, 2) :: (4, 8, 0, 0, 84, 1) :: (6, 0, 0, 0, 85, 1) :: (19, 0, 0, 0, 86, 1) :: (26, 9, 0, 0, 87, 1) :: []
set_option maxRecDepth 100000 in
noncomputable def xc_132_0 : List XE := (1, 0, 2, 0, 0, 1) :: (16, 13, 33, 2, 1, 3) :: (1, 1, 0, 0, 4, 1) :: (18, 0, 0, 0, 5, 1) :: (2, 6, 0, 0, 6, 2) :: (1, 6, 0, 0, 8, 2) :: (4, 8, 0, 0, 10, 1) :: (6, 0, 0, 0, 11, 1) :: (1, 0, 2, 0, 12, 1) :: (16, 13, 35, 2, 13, 3) :: (1, 1, 0, 0, 16, 1) :: (18, 3, 0, 0, 17, 1) :: (20, 0, 0, 0, 18, 1) :: (13, 37, 5, 0, 19, 3) :: (1, 0, 2, 0, 22, 1) :: (16, 13, 35, 2, 23, 3) :: (1, 1, 0, 0, 26, 1) :: (1, 0, 2, 0, 27, 1) :: (16, 13, 35, 2, 28, 3) :: (1, 1, 0, 0, 31, 1) :: (18, 3, 0, 0, 32, 1) :: (24, 240, 0, 0, 33, 3) :: (23, 0, 0, 0, 36, 1) :: xc_132_37
noncomputable def xj_132 : Lean.RArray (List XE) := .leaf xc_132_37
-- 133: EmberScriptModel$Run.settle()V
set_option maxRecDepth 100000 in
noncomputable def xc_133_58 : List XE := (26, 9, 0, 0, 58, 1) :: []
set_option maxRecDepth 100000 in
noncomputable def xc_133_55 : List XE := (14, 0, 0, 0, 55, 3) :: xc_133_58
set_option maxRecDepth 100000 in
noncomputable def xc_133_48 : List XE := (1, 0, 2, 0, 48, 1) :: (1, 1, 0, 0, 49, 1) :: (4, 0, 0, 0, 50, 1) :: (4, 0, 0, 0, 51, 1) :: (0, 0, 0, 0, 52, 3) :: xc_133_55
set_option maxRecDepth 100000 in
noncomputable def xc_133_36 : List XE := (1, 1, 0, 0, 36, 1) :: (12, 48, 1, 0, 37, 3) :: (1, 0, 2, 0, 40, 1) :: (4, 3, 0, 0, 41, 1) :: (17, 13, 1, 0, 42, 3) :: (14, 55, 0, 0, 45, 3) :: xc_133_48
set_option maxRecDepth 100000 in
noncomputable def xc_133_0 : List XE := (1, 0, 2, 0, 0, 1) :: (16, 13, 1, 0, 1, 3) :: (12, 58, 1, 0, 4, 3) :: (1, 0, 2, 0, 7, 1) :: (24, 241, 0, 14, 8, 3) :: (12, 58, 1, 0, 11, 3) :: (1, 0, 2, 0, 14, 1) :: (24, 242, 0, 14, 15, 3) :: (2, 1, 0, 0, 18, 1) :: (1, 0, 2, 0, 19, 1) :: (16, 13, 33, 2, 20, 3) :: (1, 1, 0, 0, 23, 1) :: (18, 0, 0, 0, 24, 1) :: (12, 36, 5, 0, 25, 3) :: (1, 0, 2, 0, 28, 1) :: (1, 1, 0, 0, 29, 1) :: (24, 243, 0, 14, 30, 3) :: (14, 55, 0, 0, 33, 3) :: xc_133_36
noncomputable def xj_133 : Lean.RArray (List XE) := .branch 48 (.branch 36 (.leaf xc_133_0) (.leaf xc_133_36)) (.branch 55 (.leaf xc_133_48) (.branch 58 (.leaf xc_133_55) (.leaf xc_133_58)))
-- 134: EmberScriptModel.ok(I)I
set_option maxRecDepth 100000 in
noncomputable def xc_134_0 : List XE := (1, 0, 2, 0, 0, 1) :: (4, 0, 0, 0, 1, 1) :: (17, 14, 3, 0, 2, 3) :: (1, 1, 0, 0, 5, 1) :: (26, 0, 0, 0, 6, 1) :: []
noncomputable def xj_134 : Lean.RArray (List XE) := .leaf []
-- 135: EmberScript.run(I)I
set_option maxRecDepth 100000 in
noncomputable def xc_135_23 : List XE := (1, 0, 2, 0, 23, 1) :: (16, 10, 3, 2, 24, 3) :: (1, 1, 0, 0, 27, 1) :: (24, 204, 0, 10, 28, 3) :: (26, 0, 0, 0, 31, 1) :: []
set_option maxRecDepth 100000 in
noncomputable def xc_135_0 : List XE := (1, 0, 2, 0, 0, 1) :: (1, 1, 0, 0, 1, 1) :: (24, 244, 0, 11, 2, 3) :: (1, 0, 2, 0, 5, 1) :: (16, 10, 3, 2, 6, 3) :: (24, 203, 0, 10, 9, 3) :: (12, 23, 1, 0, 12, 3) :: (27, 0, 54, 0, 15, 3) :: (34, 0, 0, 0, 18, 1) :: (0, 0, 0, 0, 19, 3) :: (0, 0, 0, 0, 22, 1) :: xc_135_23
noncomputable def xj_135 : Lean.RArray (List XE) := .leaf xc_135_23
-- 136: EmberScript.interrupt(I)I
set_option maxRecDepth 100000 in
noncomputable def xc_136_23 : List XE := (1, 0, 2, 0, 23, 1) :: (16, 10, 3, 2, 24, 3) :: (1, 1, 0, 0, 27, 1) :: (0, 0, 0, 0, 28, 3) :: (1, 0, 2, 0, 31, 1) :: (16, 10, 3, 2, 32, 3) :: (4, 0, 0, 0, 35, 1) :: (24, 204, 0, 10, 36, 3) :: (35, 0, 0, 0, 39, 1) :: (1, 0, 2, 0, 40, 1) :: (16, 10, 3, 2, 41, 3) :: (24, 142, 0, 10, 44, 3) :: (26, 0, 0, 0, 47, 1) :: []
set_option maxRecDepth 100000 in
noncomputable def xc_136_0 : List XE := (1, 0, 2, 0, 0, 1) :: (1, 1, 0, 0, 1, 1) :: (24, 245, 0, 11, 2, 3) :: (1, 0, 2, 0, 5, 1) :: (16, 10, 3, 2, 6, 3) :: (24, 203, 0, 10, 9, 3) :: (12, 23, 1, 0, 12, 3) :: (27, 0, 54, 0, 15, 3) :: (34, 0, 0, 0, 18, 1) :: (0, 0, 0, 0, 19, 3) :: (0, 0, 0, 0, 22, 1) :: xc_136_23
noncomputable def xj_136 : Lean.RArray (List XE) := .leaf xc_136_23
-- 137: EmberScriptModel.isWord(I)Z
set_option maxRecDepth 100000 in
noncomputable def xc_137_0 : List XE := (1, 1, 0, 0, 0, 1) :: (4, 0, 0, 0, 1, 1) :: (1, 0, 2, 0, 2, 1) :: (16, 14, 4, 2, 3, 3) :: (16, 13, 0, 2, 6, 3) :: (16, 11, 16, 0, 9, 3) :: (4, 3, 0, 0, 12, 1) :: (6, 1, 0, 0, 13, 1) :: (24, 124, 0, 0, 14, 3) :: (26, 0, 0, 0, 17, 1) :: []
noncomputable def xj_137 : Lean.RArray (List XE) := .leaf []
-- 138: EmberScript.setNumber(II)I
set_option maxRecDepth 100000 in
noncomputable def xc_138_0 : List XE := (1, 0, 2, 0, 0, 1) :: (1, 1, 0, 0, 1, 1) :: (24, 246, 0, 11, 2, 3) :: (1, 0, 2, 0, 5, 1) :: (16, 10, 3, 2, 6, 3) :: (1, 1, 0, 0, 9, 1) :: (24, 247, 0, 10, 10, 3) :: (24, 248, 0, 0, 13, 3) :: (2, 3, 0, 0, 16, 1) :: (1, 0, 2, 0, 17, 1) :: (16, 10, 3, 2, 18, 3) :: (1, 1, 0, 0, 21, 1) :: (4, 6, 0, 0, 22, 1) :: (1, 2, 0, 0, 23, 1) :: (24, 249, 0, 0, 24, 3) :: (0, 0, 0, 0, 27, 3) :: (1, 3, 0, 0, 30, 1) :: (26, 0, 0, 0, 31, 1) :: []
noncomputable def xj_138 : Lean.RArray (List XE) := .leaf []
-- 139: EmberScriptModel.isVariable(I)Z
set_option maxRecDepth 100000 in
noncomputable def xc_139_0 : List XE := (1, 1, 0, 0, 0, 1) :: (4, 0, 0, 0, 1, 1) :: (1, 0, 2, 0, 2, 1) :: (16, 14, 4, 2, 3, 3) :: (16, 13, 0, 2, 6, 3) :: (16, 11, 15, 0, 9, 3) :: (4, 3, 0, 0, 12, 1) :: (6, 1, 0, 0, 13, 1) :: (24, 124, 0, 0, 14, 3) :: (26, 0, 0, 0, 17, 1) :: []
noncomputable def xj_139 : Lean.RArray (List XE) := .leaf []
-- 140: EmberScript$Machine.freeUnreached()I
set_option maxRecDepth 100000 in
noncomputable def xc_140_113 : List XE := (1, 0, 2, 0, 113, 1) :: (16, 9, 1, 2, 114, 3) :: (24, 257, 0, 6, 117, 3) :: (1, 0, 2, 0, 120, 1) :: (34, 0, 0, 0, 121, 1) :: (16, 9, 10, 0, 122, 3) :: (4, 3, 0, 0, 125, 1) :: (6, 0, 0, 0, 126, 1) :: (17, 9, 10, 0, 127, 3) :: (1, 0, 2, 0, 130, 1) :: (34, 0, 0, 0, 131, 1) :: (16, 9, 11, 0, 132, 3) :: (1, 1, 0, 0, 135, 1) :: (6, 0, 0, 0, 136, 1) :: (17, 9, 11, 0, 137, 3) :: (1, 1, 0, 0, 140, 1) :: (26, 0, 0, 0, 141, 1) :: []
set_option maxRecDepth 100000 in
noncomputable def xc_140_107 : List XE := (5, 2, 3, 0, 107, 3) :: (14, 70, 0, 0, 110, 3) :: xc_140_113
set_option maxRecDepth 100000 in
noncomputable def xc_140_70 : List XE := (1, 2, 0, 0, 70, 1) :: (4, 19, 0, 0, 71, 2) :: (13, 113, 3, 0, 73, 3) :: (1, 0, 2, 0, 76, 1) :: (16, 9, 1, 2, 77, 3) :: (1, 2, 0, 0, 80, 1) :: (24, 208, 0, 6, 81, 3) :: (12, 107, 0, 0, 84, 3) :: (1, 0, 2, 0, 87, 1) :: (16, 9, 4, 2, 88, 3) :: (1, 2, 0, 0, 91, 1) :: (24, 255, 0, 9, 92, 3) :: (4, 11, 0, 0, 95, 1) :: (13, 107, 1, 0, 96, 3) :: (1, 0, 2, 0, 99, 1) :: (16, 9, 1, 2, 100, 3) :: (1, 2, 0, 0, 103, 1) :: (24, 256, 0, 6, 104, 3) :: xc_140_107
set_option maxRecDepth 100000 in
noncomputable def xc_140_48 : List XE := (4, 3, 0, 0, 48, 1) :: (24, 253, 0, 9, 49, 3) :: (1, 0, 2, 0, 52, 1) :: (16, 9, 1, 2, 53, 3) :: (24, 172, 0, 6, 56, 3) :: (1, 0, 2, 0, 59, 1) :: (16, 9, 4, 2, 60, 3) :: (24, 254, 0, 9, 63, 3) :: (6, 1, 0, 0, 66, 1) :: (2, 1, 0, 0, 67, 1) :: (4, 0, 0, 0, 68, 1) :: (2, 2, 0, 0, 69, 1) :: xc_140_70
set_option maxRecDepth 100000 in
noncomputable def xc_140_47 : List XE := (4, 0, 0, 0, 47, 1) :: xc_140_48
set_option maxRecDepth 100000 in
noncomputable def xc_140_0 : List XE := (1, 0, 2, 0, 0, 1) :: (16, 9, 4, 2, 1, 3) :: (4, 11, 0, 0, 4, 1) :: (24, 250, 0, 9, 5, 3) :: (1, 0, 2, 0, 8, 1) :: (16, 9, 4, 2, 9, 3) :: (24, 251, 0, 9, 12, 3) :: (1, 0, 2, 0, 15, 1) :: (16, 9, 4, 2, 16, 3) :: (1, 0, 2, 0, 19, 1) :: (16, 9, 13, 1, 20, 3) :: (4, 3, 0, 0, 23, 1) :: (24, 252, 0, 9, 24, 3) :: (1, 0, 2, 0, 27, 1) :: (16, 9, 4, 2, 28, 3) :: (1, 0, 2, 0, 31, 1) :: (16, 9, 14, 0, 32, 3) :: (4, 4, 0, 0, 35, 2) :: (13, 47, 1, 0, 37, 3) :: (1, 0, 2, 0, 40, 1) :: (16, 9, 16, 0, 41, 3) :: (14, 48, 0, 0, 44, 3) :: xc_140_47
noncomputable def xj_140 : Lean.RArray (List XE) := .branch 70 (.branch 48 (.leaf xc_140_47) (.leaf xc_140_48)) (.branch 107 (.leaf xc_140_70) (.branch 113 (.leaf xc_140_107) (.leaf xc_140_113)))
-- 141: EmberScriptModel$Run.collect()I
set_option maxRecDepth 100000 in
noncomputable def xc_141_128 : List XE := (1, 0, 2, 0, 128, 1) :: (34, 0, 0, 0, 129, 1) :: (16, 13, 3, 0, 130, 3) :: (4, 3, 0, 0, 133, 1) :: (6, 0, 0, 0, 134, 1) :: (17, 13, 3, 0, 135, 3) :: (1, 0, 2, 0, 138, 1) :: (34, 0, 0, 0, 139, 1) :: (16, 13, 4, 0, 140, 3) :: (1, 1, 0, 0, 143, 1) :: (6, 0, 0, 0, 144, 1) :: (17, 13, 4, 0, 145, 3) :: (1, 1, 0, 0, 148, 1) :: (26, 0, 0, 0, 149, 1) :: []
set_option maxRecDepth 100000 in
noncomputable def xc_141_122 : List XE := (5, 2, 3, 0, 122, 3) :: (14, 13, 0, 0, 125, 3) :: xc_141_128
set_option maxRecDepth 100000 in
noncomputable def xc_141_115 : List XE := (1, 0, 2, 0, 115, 1) :: (16, 13, 10, 2, 116, 3) :: (1, 2, 0, 0, 119, 1) :: (4, 0, 0, 0, 120, 1) :: (19, 0, 0, 0, 121, 1) :: xc_141_122
set_option maxRecDepth 100000 in
noncomputable def xc_141_82 : List XE := (1, 0, 2, 0, 82, 1) :: (16, 13, 10, 2, 83, 3) :: (1, 2, 0, 0, 86, 1) :: (18, 0, 0, 0, 87, 1) :: (4, 4, 0, 0, 88, 2) :: (13, 115, 1, 0, 90, 3) :: (1, 0, 2, 0, 93, 1) :: (16, 13, 14, 2, 94, 3) :: (1, 2, 0, 0, 97, 1) :: (18, 0, 0, 0, 98, 1) :: (4, 7, 0, 0, 99, 1) :: (13, 115, 0, 0, 100, 3) :: (1, 0, 2, 0, 103, 1) :: (16, 13, 28, 2, 104, 3) :: (1, 0, 2, 0, 107, 1) :: (16, 13, 13, 2, 108, 3) :: (1, 2, 0, 0, 111, 1) :: (18, 0, 0, 0, 112, 1) :: (4, 0, 0, 0, 113, 1) :: (19, 0, 0, 0, 114, 1) :: xc_141_115
set_option maxRecDepth 100000 in
noncomputable def xc_141_61 : List XE := (1, 0, 2, 0, 61, 1) :: (16, 13, 10, 2, 62, 3) :: (1, 2, 0, 0, 65, 1) :: (18, 0, 0, 0, 66, 1) :: (12, 122, 0, 0, 67, 3) :: (1, 0, 2, 0, 70, 1) :: (16, 13, 40, 2, 71, 3) :: (1, 2, 0, 0, 74, 1) :: (18, 0, 0, 0, 75, 1) :: (12, 82, 0, 0, 76, 3) :: (14, 122, 0, 0, 79, 3) :: xc_141_82
set_option maxRecDepth 100000 in
noncomputable def xc_141_13 : List XE := (1, 2, 0, 0, 13, 1) :: (4, 19, 0, 0, 14, 2) :: (13, 128, 3, 0, 16, 3) :: (1, 0, 2, 0, 19, 1) :: (16, 13, 10, 2, 20, 3) :: (1, 2, 0, 0, 23, 1) :: (18, 0, 0, 0, 24, 1) :: (4, 16, 0, 0, 25, 2) :: (13, 61, 1, 0, 27, 3) :: (1, 0, 2, 0, 30, 1) :: (16, 13, 17, 2, 31, 3) :: (1, 2, 0, 0, 34, 1) :: (18, 0, 0, 0, 35, 1) :: (4, 11, 0, 0, 36, 1) :: (13, 61, 0, 0, 37, 3) :: (1, 0, 2, 0, 40, 1) :: (16, 13, 40, 2, 41, 3) :: (1, 0, 2, 0, 44, 1) :: (16, 13, 17, 2, 45, 3) :: (1, 2, 0, 0, 48, 1) :: (18, 0, 0, 0, 49, 1) :: (18, 0, 0, 0, 50, 1) :: (12, 61, 1, 0, 51, 3) :: (1, 0, 2, 0, 54, 1) :: (16, 13, 17, 2, 55, 3) :: (1, 2, 0, 0, 58, 1) :: (4, 11, 0, 0, 59, 1) :: (19, 0, 0, 0, 60, 1) :: xc_141_61
set_option maxRecDepth 100000 in
noncomputable def xc_141_0 : List XE := (1, 0, 2, 0, 0, 1) :: (24, 173, 0, 14, 1, 3) :: (1, 0, 2, 0, 4, 1) :: (4, 11, 0, 0, 5, 1) :: (24, 190, 0, 14, 6, 3) :: (6, 1, 0, 0, 9, 1) :: (2, 1, 0, 0, 10, 1) :: (4, 0, 0, 0, 11, 1) :: (2, 2, 0, 0, 12, 1) :: xc_141_13
noncomputable def xj_141 : Lean.RArray (List XE) := .branch 115 (.branch 61 (.leaf xc_141_13) (.branch 82 (.leaf xc_141_61) (.leaf xc_141_82))) (.branch 122 (.leaf xc_141_115) (.branch 128 (.leaf xc_141_122) (.leaf xc_141_128)))
-- 142: EmberScript$Machine.condition()I
set_option maxRecDepth 100000 in
noncomputable def xc_142_0 : List XE := (1, 0, 2, 0, 0, 1) :: (16, 9, 7, 0, 1, 3) :: (26, 0, 0, 0, 4, 1) :: []
noncomputable def xj_142 : Lean.RArray (List XE) := .leaf []
-- 143: EmberScript$Machine.stepCount()I
set_option maxRecDepth 100000 in
noncomputable def xc_143_0 : List XE := (1, 0, 2, 0, 0, 1) :: (16, 9, 8, 0, 1, 3) :: (26, 0, 0, 0, 4, 1) :: []
noncomputable def xj_143 : Lean.RArray (List XE) := .leaf []
-- 144: EmberScript$Machine.depth()I
set_option maxRecDepth 100000 in
noncomputable def xc_144_0 : List XE := (1, 0, 2, 0, 0, 1) :: (16, 9, 3, 2, 1, 3) :: (24, 258, 0, 8, 4, 3) :: (26, 0, 0, 0, 7, 1) :: []
noncomputable def xj_144 : Lean.RArray (List XE) := .leaf []
-- 145: EmberScript$Machine.textPlace()I
set_option maxRecDepth 100000 in
noncomputable def xc_145_25 : List XE := (26, 0, 0, 0, 25, 1) :: []
set_option maxRecDepth 100000 in
noncomputable def xc_145_24 : List XE := (4, 11, 0, 0, 24, 1) :: xc_145_25
set_option maxRecDepth 100000 in
noncomputable def xc_145_0 : List XE := (1, 0, 2, 0, 0, 1) :: (16, 9, 7, 0, 1, 3) :: (12, 24, 1, 0, 4, 3) :: (1, 0, 2, 0, 7, 1) :: (16, 9, 0, 2, 8, 3) :: (1, 0, 2, 0, 11, 1) :: (16, 9, 3, 2, 12, 3) :: (24, 259, 0, 8, 15, 3) :: (24, 260, 0, 4, 18, 3) :: (14, 25, 0, 0, 21, 3) :: xc_145_24
noncomputable def xj_145 : Lean.RArray (List XE) := .branch 25 (.leaf xc_145_24) (.leaf xc_145_25)
-- 146: EmberScriptModel$Run.place()I
set_option maxRecDepth 100000 in
noncomputable def xc_146_42 : List XE := (26, 0, 0, 0, 42, 1) :: []
set_option maxRecDepth 100000 in
noncomputable def xc_146_11 : List XE := (1, 0, 2, 0, 11, 1) :: (16, 13, 0, 2, 12, 3) :: (16, 11, 8, 2, 15, 3) :: (1, 0, 2, 0, 18, 1) :: (16, 13, 35, 2, 19, 3) :: (1, 0, 2, 0, 22, 1) :: (24, 242, 0, 14, 23, 3) :: (18, 3, 0, 0, 26, 1) :: (1, 0, 2, 0, 27, 1) :: (16, 13, 33, 2, 28, 3) :: (1, 0, 2, 0, 31, 1) :: (24, 242, 0, 14, 32, 3) :: (18, 0, 0, 0, 35, 1) :: (4, 8, 0, 0, 36, 1) :: (6, 1, 0, 0, 37, 1) :: (4, 3, 0, 0, 38, 1) :: (6, 0, 0, 0, 39, 1) :: (18, 0, 0, 0, 40, 1) :: (18, 0, 0, 0, 41, 1) :: xc_146_42
set_option maxRecDepth 100000 in
noncomputable def xc_146_0 : List XE := (1, 0, 2, 0, 0, 1) :: (16, 13, 1, 0, 1, 3) :: (12, 11, 0, 0, 4, 3) :: (4, 11, 0, 0, 7, 1) :: (14, 42, 0, 0, 8, 3) :: xc_146_11
noncomputable def xj_146 : Lean.RArray (List XE) := .branch 42 (.leaf xc_146_11) (.leaf xc_146_42)
-- 147: EmberScript$Machine.newestFunction()I
set_option maxRecDepth 100000 in
noncomputable def xc_147_28 : List XE := (26, 0, 0, 0, 28, 1) :: []
set_option maxRecDepth 100000 in
noncomputable def xc_147_14 : List XE := (1, 0, 2, 0, 14, 1) :: (16, 9, 3, 2, 15, 3) :: (1, 0, 2, 0, 18, 1) :: (16, 9, 3, 2, 19, 3) :: (24, 261, 0, 8, 22, 3) :: (24, 262, 0, 8, 25, 3) :: xc_147_28
set_option maxRecDepth 100000 in
noncomputable def xc_147_0 : List XE := (1, 0, 2, 0, 0, 1) :: (16, 9, 3, 2, 1, 3) :: (24, 258, 0, 8, 4, 3) :: (12, 14, 1, 0, 7, 3) :: (4, 11, 0, 0, 10, 1) :: (14, 28, 0, 0, 11, 3) :: xc_147_14
noncomputable def xj_147 : Lean.RArray (List XE) := .branch 28 (.leaf xc_147_14) (.leaf xc_147_28)
-- 148: EmberScriptModel$Run.functionNow()I
set_option maxRecDepth 100000 in
noncomputable def xc_148_20 : List XE := (26, 0, 0, 0, 20, 1) :: []
set_option maxRecDepth 100000 in
noncomputable def xc_148_11 : List XE := (1, 0, 2, 0, 11, 1) :: (16, 13, 29, 2, 12, 3) :: (1, 0, 2, 0, 15, 1) :: (24, 242, 0, 14, 16, 3) :: (18, 0, 0, 0, 19, 1) :: xc_148_20
set_option maxRecDepth 100000 in
noncomputable def xc_148_0 : List XE := (1, 0, 2, 0, 0, 1) :: (16, 13, 38, 0, 1, 3) :: (12, 11, 1, 0, 4, 3) :: (4, 11, 0, 0, 7, 1) :: (14, 20, 0, 0, 8, 3) :: xc_148_11
noncomputable def xj_148 : Lean.RArray (List XE) := .branch 20 (.leaf xc_148_11) (.leaf xc_148_20)
-- 149: EmberScript$Machine.loopDepth()I
set_option maxRecDepth 100000 in
noncomputable def xc_149_25 : List XE := (26, 0, 0, 0, 25, 1) :: []
set_option maxRecDepth 100000 in
noncomputable def xc_149_24 : List XE := (4, 0, 0, 0, 24, 1) :: xc_149_25
set_option maxRecDepth 100000 in
noncomputable def xc_149_0 : List XE := (1, 0, 2, 0, 0, 1) :: (16, 9, 7, 0, 1, 3) :: (12, 24, 1, 0, 4, 3) :: (1, 0, 2, 0, 7, 1) :: (16, 9, 0, 2, 8, 3) :: (1, 0, 2, 0, 11, 1) :: (16, 9, 3, 2, 12, 3) :: (24, 259, 0, 8, 15, 3) :: (24, 263, 0, 4, 18, 3) :: (14, 25, 0, 0, 21, 3) :: xc_149_24
noncomputable def xj_149 : Lean.RArray (List XE) := .branch 25 (.leaf xc_149_24) (.leaf xc_149_25)
-- 150: EmberScriptModel$Run.loops()I
set_option maxRecDepth 100000 in
noncomputable def xc_150_55 : List XE := (1, 1, 0, 0, 55, 1) :: (26, 0, 0, 0, 56, 1) :: []
set_option maxRecDepth 100000 in
noncomputable def xc_150_47 : List XE := (6, 0, 0, 0, 47, 1) :: (2, 1, 0, 0, 48, 1) :: (5, 2, 8, 0, 49, 3) :: (14, 4, 0, 0, 52, 3) :: xc_150_55
set_option maxRecDepth 100000 in
noncomputable def xc_150_46 : List XE := (4, 0, 0, 0, 46, 1) :: xc_150_47
set_option maxRecDepth 100000 in
noncomputable def xc_150_4 : List XE := (1, 0, 2, 0, 4, 1) :: (16, 13, 1, 0, 5, 3) :: (12, 55, 1, 0, 8, 3) :: (1, 2, 0, 0, 11, 1) :: (1, 0, 2, 0, 12, 1) :: (16, 13, 33, 2, 13, 3) :: (1, 0, 2, 0, 16, 1) :: (24, 242, 0, 14, 17, 3) :: (18, 0, 0, 0, 20, 1) :: (13, 55, 3, 0, 21, 3) :: (1, 1, 0, 0, 24, 1) :: (1, 0, 2, 0, 25, 1) :: (16, 13, 35, 2, 26, 3) :: (1, 0, 2, 0, 29, 1) :: (24, 242, 0, 14, 30, 3) :: (18, 3, 0, 0, 33, 1) :: (1, 2, 0, 0, 34, 1) :: (18, 0, 0, 0, 35, 1) :: (0, 0, 0, 0, 36, 3) :: (12, 46, 0, 0, 39, 3) :: (4, 3, 0, 0, 42, 1) :: (14, 47, 0, 0, 43, 3) :: xc_150_46
set_option maxRecDepth 100000 in
noncomputable def xc_150_0 : List XE := (4, 0, 0, 0, 0, 1) :: (2, 1, 0, 0, 1, 1) :: (4, 0, 0, 0, 2, 1) :: (2, 2, 0, 0, 3, 1) :: xc_150_4
noncomputable def xj_150 : Lean.RArray (List XE) := .branch 47 (.branch 46 (.leaf xc_150_4) (.leaf xc_150_46)) (.branch 55 (.leaf xc_150_47) (.leaf xc_150_55))
-- 151: EmberScript$Machine.hasCatch()Z
set_option maxRecDepth 100000 in
noncomputable def xc_151_77 : List XE := (4, 0, 0, 0, 77, 1) :: (26, 0, 0, 0, 78, 1) :: []
set_option maxRecDepth 100000 in
noncomputable def xc_151_71 : List XE := (5, 1, 3, 0, 71, 3) :: (14, 2, 0, 0, 74, 3) :: xc_151_77
set_option maxRecDepth 100000 in
noncomputable def xc_151_65 : List XE := (5, 3, 3, 0, 65, 3) :: (14, 24, 0, 0, 68, 3) :: xc_151_71
set_option maxRecDepth 100000 in
noncomputable def xc_151_24 : List XE := (1, 3, 0, 0, 24, 1) :: (1, 0, 2, 0, 25, 1) :: (16, 9, 3, 2, 26, 3) :: (1, 2, 0, 0, 29, 1) :: (24, 265, 0, 8, 30, 3) :: (13, 71, 3, 0, 33, 3) :: (1, 0, 2, 0, 36, 1) :: (16, 9, 3, 2, 37, 3) :: (1, 2, 0, 0, 40, 1) :: (1, 3, 0, 0, 41, 1) :: (24, 266, 0, 8, 42, 3) :: (4, 7, 0, 0, 45, 1) :: (13, 65, 1, 0, 46, 3) :: (1, 0, 2, 0, 49, 1) :: (16, 9, 3, 2, 50, 3) :: (1, 2, 0, 0, 53, 1) :: (1, 3, 0, 0, 54, 1) :: (24, 267, 0, 8, 55, 3) :: (4, 1, 0, 0, 58, 1) :: (45, 0, 0, 0, 59, 1) :: (12, 65, 2, 0, 60, 3) :: (4, 3, 0, 0, 63, 1) :: (26, 0, 0, 0, 64, 1) :: xc_151_65
set_option maxRecDepth 100000 in
noncomputable def xc_151_2 : List XE := (1, 1, 0, 0, 2, 1) :: (1, 0, 2, 0, 3, 1) :: (16, 9, 3, 2, 4, 3) :: (24, 258, 0, 8, 7, 3) :: (13, 77, 4, 0, 10, 3) :: (1, 0, 2, 0, 13, 1) :: (16, 9, 3, 2, 14, 3) :: (1, 1, 0, 0, 17, 1) :: (24, 264, 0, 8, 18, 3) :: (2, 2, 0, 0, 21, 1) :: (4, 0, 0, 0, 22, 1) :: (2, 3, 0, 0, 23, 1) :: xc_151_24
set_option maxRecDepth 100000 in
noncomputable def xc_151_0 : List XE := (4, 0, 0, 0, 0, 1) :: (2, 1, 0, 0, 1, 1) :: xc_151_2
noncomputable def xj_151 : Lean.RArray (List XE) := .branch 65 (.branch 24 (.leaf xc_151_2) (.leaf xc_151_24)) (.branch 71 (.leaf xc_151_65) (.branch 77 (.leaf xc_151_71) (.leaf xc_151_77)))
-- 152: EmberScriptModel$Run.isGuarded()Z
set_option maxRecDepth 100000 in
noncomputable def xc_152_35 : List XE := (1, 1, 0, 0, 35, 1) :: (26, 0, 0, 0, 36, 1) :: []
set_option maxRecDepth 100000 in
noncomputable def xc_152_8 : List XE := (1, 2, 0, 0, 8, 1) :: (1, 0, 2, 0, 9, 1) :: (16, 13, 38, 0, 10, 3) :: (13, 35, 3, 0, 13, 3) :: (1, 1, 0, 0, 16, 1) :: (1, 0, 2, 0, 17, 1) :: (1, 0, 2, 0, 18, 1) :: (16, 13, 37, 2, 19, 3) :: (1, 2, 0, 0, 22, 1) :: (18, 0, 0, 0, 23, 1) :: (24, 268, 0, 14, 24, 3) :: (6, 4, 0, 0, 27, 1) :: (2, 1, 0, 0, 28, 1) :: (5, 2, 3, 0, 29, 3) :: (14, 8, 0, 0, 32, 3) :: xc_152_35
set_option maxRecDepth 100000 in
noncomputable def xc_152_0 : List XE := (1, 0, 2, 0, 0, 1) :: (4, 0, 0, 0, 1, 1) :: (24, 268, 0, 14, 2, 3) :: (2, 1, 0, 0, 5, 1) :: (4, 0, 0, 0, 6, 1) :: (2, 2, 0, 0, 7, 1) :: xc_152_8
noncomputable def xj_152 : Lean.RArray (List XE) := .branch 35 (.leaf xc_152_8) (.leaf xc_152_35)
-- 153: EmberScript$Machine.collectionCount()I
set_option maxRecDepth 100000 in
noncomputable def xc_153_0 : List XE := (1, 0, 2, 0, 0, 1) :: (16, 9, 10, 0, 1, 3) :: (26, 0, 0, 0, 4, 1) :: []
noncomputable def xj_153 : Lean.RArray (List XE) := .leaf []
-- 154: EmberScript$Machine.freedCount()I
set_option maxRecDepth 100000 in
noncomputable def xc_154_0 : List XE := (1, 0, 2, 0, 0, 1) :: (16, 9, 11, 0, 1, 3) :: (26, 0, 0, 0, 4, 1) :: []
noncomputable def xj_154 : Lean.RArray (List XE) := .leaf []
-- 155: EmberScript$Script.functionCount()I
set_option maxRecDepth 100000 in
noncomputable def xc_155_0 : List XE := (1, 0, 2, 0, 0, 1) :: (16, 3, 9, 0, 1, 3) :: (26, 0, 0, 0, 4, 1) :: []
noncomputable def xj_155 : Lean.RArray (List XE) := .leaf []
-- 156: EmberScript.inputsOf(I)I
set_option maxRecDepth 100000 in
noncomputable def xc_156_0 : List XE := (1, 0, 2, 0, 0, 1) :: (1, 1, 0, 0, 1, 1) :: (24, 269, 0, 11, 2, 3) :: (1, 0, 2, 0, 5, 1) :: (16, 10, 2, 2, 6, 3) :: (1, 1, 0, 0, 9, 1) :: (24, 270, 0, 4, 10, 3) :: (26, 0, 0, 0, 13, 1) :: []
noncomputable def xj_156 : Lean.RArray (List XE) := .leaf []
-- 157: EmberScriptModel.ofFunction(I[I)I
set_option maxRecDepth 100000 in
noncomputable def xc_157_36 : List XE := (26, 0, 0, 0, 36, 1) :: []
set_option maxRecDepth 100000 in
noncomputable def xc_157_31 : List XE := (1, 0, 2, 0, 31, 1) :: (4, 3, 0, 0, 32, 1) :: (24, 121, 0, 15, 33, 3) :: xc_157_36
set_option maxRecDepth 100000 in
noncomputable def xc_157_0 : List XE := (1, 0, 2, 0, 0, 1) :: (4, 0, 0, 0, 1, 1) :: (17, 14, 3, 0, 2, 3) :: (1, 1, 0, 0, 5, 1) :: (4, 0, 0, 0, 6, 1) :: (1, 0, 2, 0, 7, 1) :: (16, 14, 4, 2, 8, 3) :: (16, 13, 0, 2, 11, 3) :: (16, 11, 9, 0, 14, 3) :: (4, 3, 0, 0, 17, 1) :: (6, 1, 0, 0, 18, 1) :: (24, 124, 0, 0, 19, 3) :: (12, 31, 0, 0, 22, 3) :: (1, 2, 2, 0, 25, 1) :: (1, 1, 0, 0, 26, 1) :: (18, 0, 0, 0, 27, 1) :: (14, 36, 0, 0, 28, 3) :: xc_157_31
noncomputable def xj_157 : Lean.RArray (List XE) := .branch 36 (.leaf xc_157_31) (.leaf xc_157_36)
-- 158: EmberScript.variablesOf(I)I
set_option maxRecDepth 100000 in
noncomputable def xc_158_0 : List XE := (1, 0, 2, 0, 0, 1) :: (1, 1, 0, 0, 1, 1) :: (24, 269, 0, 11, 2, 3) :: (1, 0, 2, 0, 5, 1) :: (16, 10, 2, 2, 6, 3) :: (1, 1, 0, 0, 9, 1) :: (24, 161, 0, 4, 10, 3) :: (26, 0, 0, 0, 13, 1) :: []
noncomputable def xj_158 : Lean.RArray (List XE) := .leaf []
-- 159: EmberScript.isGenerator(I)Z
set_option maxRecDepth 100000 in
noncomputable def xc_159_0 : List XE := (1, 0, 2, 0, 0, 1) :: (1, 1, 0, 0, 1, 1) :: (24, 269, 0, 11, 2, 3) :: (1, 0, 2, 0, 5, 1) :: (16, 10, 2, 2, 6, 3) :: (1, 1, 0, 0, 9, 1) :: (24, 271, 0, 4, 10, 3) :: (26, 0, 0, 0, 13, 1) :: []
noncomputable def xj_159 : Lean.RArray (List XE) := .leaf []
-- 160: EmberScriptModel.isNot(I)Z
set_option maxRecDepth 100000 in
noncomputable def xc_160_0 : List XE := (1, 0, 2, 0, 0, 1) :: (1, 1, 0, 0, 1, 1) :: (17, 14, 3, 0, 2, 3) :: (4, 0, 0, 0, 5, 1) :: (26, 0, 0, 0, 6, 1) :: []
noncomputable def xj_160 : Lean.RArray (List XE) := .leaf []
-- 161: EmberScript$Script.variableCount(I)I
set_option maxRecDepth 100000 in
noncomputable def xc_161_0 : List XE := (1, 0, 2, 0, 0, 1) :: (16, 3, 6, 2, 1, 3) :: (1, 1, 0, 0, 4, 1) :: (4, 3, 0, 0, 5, 1) :: (6, 0, 0, 0, 6, 1) :: (24, 272, 0, 1, 7, 3) :: (26, 0, 0, 0, 10, 1) :: []
noncomputable def xj_161 : Lean.RArray (List XE) := .leaf []
-- 162: EmberScript.kindOf(I)I
set_option maxRecDepth 100000 in
noncomputable def xc_162_0 : List XE := (1, 0, 2, 0, 0, 1) :: (1, 1, 0, 0, 1, 1) :: (24, 246, 0, 11, 2, 3) :: (1, 0, 2, 0, 5, 1) :: (16, 10, 3, 2, 6, 3) :: (1, 1, 0, 0, 9, 1) :: (24, 247, 0, 10, 10, 3) :: (24, 248, 0, 0, 13, 3) :: (26, 0, 0, 0, 16, 1) :: []
noncomputable def xj_162 : Lean.RArray (List XE) := .leaf []
-- 163: EmberScript.numberOf(I)I
set_option maxRecDepth 100000 in
noncomputable def xc_163_0 : List XE := (1, 0, 2, 0, 0, 1) :: (1, 1, 0, 0, 1, 1) :: (24, 246, 0, 11, 2, 3) :: (1, 0, 2, 0, 5, 1) :: (16, 10, 3, 2, 6, 3) :: (1, 1, 0, 0, 9, 1) :: (24, 247, 0, 10, 10, 3) :: (24, 273, 0, 0, 13, 3) :: (26, 0, 0, 0, 16, 1) :: []
noncomputable def xj_163 : Lean.RArray (List XE) := .leaf []
-- 164: EmberScript$Script.wordCount()I
set_option maxRecDepth 100000 in
noncomputable def xc_164_0 : List XE := (1, 0, 2, 0, 0, 1) :: (16, 3, 10, 0, 1, 3) :: (26, 0, 0, 0, 4, 1) :: []
noncomputable def xj_164 : Lean.RArray (List XE) := .leaf []
-- 165: EmberScript$Machine.printCount()I
set_option maxRecDepth 100000 in
noncomputable def xc_165_0 : List XE := (1, 0, 2, 0, 0, 1) :: (16, 9, 12, 0, 1, 3) :: (26, 0, 0, 0, 4, 1) :: []
noncomputable def xj_165 : Lean.RArray (List XE) := .leaf []
-- 166: EmberScript.kindPrinted(I)I
set_option maxRecDepth 100000 in
noncomputable def xc_166_0 : List XE := (1, 0, 2, 0, 0, 1) :: (1, 1, 0, 0, 1, 1) :: (24, 274, 0, 11, 2, 3) :: (1, 0, 2, 0, 5, 1) :: (16, 10, 3, 2, 6, 3) :: (1, 1, 0, 0, 9, 1) :: (24, 275, 0, 10, 10, 3) :: (24, 248, 0, 0, 13, 3) :: (26, 0, 0, 0, 16, 1) :: []
noncomputable def xj_166 : Lean.RArray (List XE) := .leaf []
-- 167: EmberScriptModel.ofPrint(I[I)I
set_option maxRecDepth 100000 in
noncomputable def xc_167_50 : List XE := (26, 0, 0, 0, 50, 1) :: []
set_option maxRecDepth 100000 in
noncomputable def xc_167_45 : List XE := (1, 0, 2, 0, 45, 1) :: (4, 3, 0, 0, 46, 1) :: (24, 121, 0, 15, 47, 3) :: xc_167_50
set_option maxRecDepth 100000 in
noncomputable def xc_167_0 : List XE := (1, 0, 2, 0, 0, 1) :: (4, 0, 0, 0, 1, 1) :: (17, 14, 3, 0, 2, 3) :: (1, 1, 0, 0, 5, 1) :: (4, 0, 0, 0, 6, 1) :: (4, 47, 0, 0, 7, 2) :: (24, 124, 0, 0, 9, 3) :: (12, 45, 0, 0, 12, 3) :: (1, 1, 0, 0, 15, 1) :: (1, 0, 2, 0, 16, 1) :: (16, 14, 4, 2, 17, 3) :: (16, 13, 5, 0, 20, 3) :: (13, 45, 3, 0, 23, 3) :: (1, 2, 2, 0, 26, 1) :: (1, 0, 2, 0, 27, 1) :: (16, 14, 4, 2, 28, 3) :: (16, 13, 5, 0, 31, 3) :: (4, 3, 0, 0, 34, 1) :: (6, 1, 0, 0, 35, 1) :: (1, 1, 0, 0, 36, 1) :: (6, 1, 0, 0, 37, 1) :: (4, 28, 0, 0, 38, 2) :: (7, 10, 0, 0, 40, 1) :: (18, 0, 0, 0, 41, 1) :: (14, 50, 0, 0, 42, 3) :: xc_167_45
noncomputable def xj_167 : Lean.RArray (List XE) := .branch 50 (.leaf xc_167_45) (.leaf xc_167_50)
-- 168: EmberScript.numberPrinted(I)I
set_option maxRecDepth 100000 in
noncomputable def xc_168_0 : List XE := (1, 0, 2, 0, 0, 1) :: (1, 1, 0, 0, 1, 1) :: (24, 274, 0, 11, 2, 3) :: (1, 0, 2, 0, 5, 1) :: (16, 10, 3, 2, 6, 3) :: (1, 1, 0, 0, 9, 1) :: (24, 275, 0, 10, 10, 3) :: (24, 273, 0, 0, 13, 3) :: (26, 0, 0, 0, 16, 1) :: []
noncomputable def xj_168 : Lean.RArray (List XE) := .leaf []
-- 169: EmberScript.kindThrown()I
set_option maxRecDepth 100000 in
noncomputable def xc_169_0 : List XE := (1, 0, 2, 0, 0, 1) :: (24, 276, 0, 11, 1, 3) :: (1, 0, 2, 0, 4, 1) :: (16, 10, 3, 2, 5, 3) :: (24, 277, 0, 10, 8, 3) :: (24, 248, 0, 0, 11, 3) :: (26, 0, 0, 0, 14, 1) :: []
noncomputable def xj_169 : Lean.RArray (List XE) := .leaf []
-- 170: EmberScript.numberThrown()I
set_option maxRecDepth 100000 in
noncomputable def xc_170_0 : List XE := (1, 0, 2, 0, 0, 1) :: (24, 276, 0, 11, 1, 3) :: (1, 0, 2, 0, 4, 1) :: (16, 10, 3, 2, 5, 3) :: (24, 277, 0, 10, 8, 3) :: (24, 273, 0, 0, 11, 3) :: (26, 0, 0, 0, 14, 1) :: []
noncomputable def xj_170 : Lean.RArray (List XE) := .leaf []
-- 171: EmberScript$Machine.heap()LEmberScript$Things;
set_option maxRecDepth 100000 in
noncomputable def xc_171_0 : List XE := (1, 0, 2, 0, 0, 1) :: (16, 9, 1, 2, 1, 3) :: (26, 2, 0, 0, 4, 1) :: []
noncomputable def xj_171 : Lean.RArray (List XE) := .leaf []
-- 172: EmberScript$Things.count()I
set_option maxRecDepth 100000 in
noncomputable def xc_172_0 : List XE := (1, 0, 2, 0, 0, 1) :: (16, 5, 9, 0, 1, 3) :: (26, 0, 0, 0, 4, 1) :: []
noncomputable def xj_172 : Lean.RArray (List XE) := .leaf []
-- 173: EmberScriptModel$Run.things()I
set_option maxRecDepth 100000 in
noncomputable def xc_173_33 : List XE := (1, 1, 0, 0, 33, 1) :: (26, 0, 0, 0, 34, 1) :: []
set_option maxRecDepth 100000 in
noncomputable def xc_173_25 : List XE := (6, 0, 0, 0, 25, 1) :: (2, 1, 0, 0, 26, 1) :: (5, 2, 3, 0, 27, 3) :: (14, 4, 0, 0, 30, 3) :: xc_173_33
set_option maxRecDepth 100000 in
noncomputable def xc_173_24 : List XE := (4, 3, 0, 0, 24, 1) :: xc_173_25
set_option maxRecDepth 100000 in
noncomputable def xc_173_4 : List XE := (1, 2, 0, 0, 4, 1) :: (4, 19, 0, 0, 5, 2) :: (13, 33, 3, 0, 7, 3) :: (1, 1, 0, 0, 10, 1) :: (1, 0, 2, 0, 11, 1) :: (16, 13, 10, 2, 12, 3) :: (1, 2, 0, 0, 15, 1) :: (18, 0, 0, 0, 16, 1) :: (12, 24, 1, 0, 17, 3) :: (4, 0, 0, 0, 20, 1) :: (14, 25, 0, 0, 21, 3) :: xc_173_24
set_option maxRecDepth 100000 in
noncomputable def xc_173_0 : List XE := (4, 0, 0, 0, 0, 1) :: (2, 1, 0, 0, 1, 1) :: (4, 0, 0, 0, 2, 1) :: (2, 2, 0, 0, 3, 1) :: xc_173_4
noncomputable def xj_173 : Lean.RArray (List XE) := .branch 25 (.branch 24 (.leaf xc_173_4) (.leaf xc_173_24)) (.branch 33 (.leaf xc_173_25) (.leaf xc_173_33))
-- 174: EmberScript.isThere(I)Z
set_option maxRecDepth 100000 in
noncomputable def xc_174_18 : List XE := (1, 0, 2, 0, 18, 1) :: (16, 10, 3, 2, 19, 3) :: (24, 171, 0, 10, 22, 3) :: (1, 1, 0, 0, 25, 1) :: (24, 208, 0, 6, 26, 3) :: (26, 0, 0, 0, 29, 1) :: []
set_option maxRecDepth 100000 in
noncomputable def xc_174_10 : List XE := (27, 2, 200, 0, 10, 3) :: (34, 0, 0, 0, 13, 1) :: (0, 0, 0, 0, 14, 3) :: (0, 0, 0, 0, 17, 1) :: xc_174_18
set_option maxRecDepth 100000 in
noncomputable def xc_174_0 : List XE := (1, 1, 0, 0, 0, 1) :: (12, 10, 2, 0, 1, 3) :: (1, 1, 0, 0, 4, 1) :: (4, 19, 0, 0, 5, 2) :: (13, 18, 2, 0, 7, 3) :: xc_174_10
noncomputable def xj_174 : Lean.RArray (List XE) := .branch 18 (.leaf xc_174_10) (.leaf xc_174_18)
-- 175: EmberScript.kindOfThing(I)I
set_option maxRecDepth 100000 in
noncomputable def xc_175_0 : List XE := (1, 0, 2, 0, 0, 1) :: (1, 1, 0, 0, 1, 1) :: (24, 278, 0, 11, 2, 3) :: (1, 0, 2, 0, 5, 1) :: (16, 10, 3, 2, 6, 3) :: (24, 171, 0, 10, 9, 3) :: (1, 1, 0, 0, 12, 1) :: (24, 279, 0, 6, 13, 3) :: (26, 0, 0, 0, 16, 1) :: []
noncomputable def xj_175 : Lean.RArray (List XE) := .leaf []
-- 176: EmberScriptModel.isThing(I)Z
set_option maxRecDepth 100000 in
noncomputable def xc_176_27 : List XE := (26, 0, 0, 0, 27, 1) :: []
set_option maxRecDepth 100000 in
noncomputable def xc_176_26 : List XE := (4, 0, 0, 0, 26, 1) :: xc_176_27
set_option maxRecDepth 100000 in
noncomputable def xc_176_0 : List XE := (1, 1, 0, 0, 0, 1) :: (4, 0, 0, 0, 1, 1) :: (4, 15, 0, 0, 2, 2) :: (24, 124, 0, 0, 4, 3) :: (12, 26, 0, 0, 7, 3) :: (1, 0, 2, 0, 10, 1) :: (16, 14, 4, 2, 11, 3) :: (16, 13, 10, 2, 14, 3) :: (1, 1, 0, 0, 17, 1) :: (18, 0, 0, 0, 18, 1) :: (12, 26, 0, 0, 19, 3) :: (4, 3, 0, 0, 22, 1) :: (14, 27, 0, 0, 23, 3) :: xc_176_26
noncomputable def xj_176 : Lean.RArray (List XE) := .branch 27 (.leaf xc_176_26) (.leaf xc_176_27)
-- 177: EmberScript.functionOf(I)I
set_option maxRecDepth 100000 in
noncomputable def xc_177_36 : List XE := (1, 0, 2, 0, 36, 1) :: (16, 10, 3, 2, 37, 3) :: (24, 171, 0, 10, 40, 3) :: (1, 1, 0, 0, 43, 1) :: (24, 280, 0, 6, 44, 3) :: (26, 0, 0, 0, 47, 1) :: []
set_option maxRecDepth 100000 in
noncomputable def xc_177_0 : List XE := (1, 0, 2, 0, 0, 1) :: (1, 1, 0, 0, 1, 1) :: (24, 278, 0, 11, 2, 3) :: (1, 0, 2, 0, 5, 1) :: (16, 10, 3, 2, 6, 3) :: (24, 171, 0, 10, 9, 3) :: (1, 1, 0, 0, 12, 1) :: (24, 279, 0, 6, 13, 3) :: (2, 2, 0, 0, 16, 1) :: (1, 2, 0, 0, 17, 1) :: (4, 9, 0, 0, 18, 1) :: (13, 36, 0, 0, 19, 3) :: (1, 2, 0, 0, 22, 1) :: (4, 4, 0, 0, 23, 2) :: (13, 36, 0, 0, 25, 3) :: (27, 1, 65, 0, 28, 3) :: (34, 0, 0, 0, 31, 1) :: (0, 0, 0, 0, 32, 3) :: (0, 0, 0, 0, 35, 1) :: xc_177_36
noncomputable def xj_177 : Lean.RArray (List XE) := .leaf xc_177_36
-- 178: EmberScript.slots(I)I
set_option maxRecDepth 100000 in
noncomputable def xc_178_0 : List XE := (1, 0, 2, 0, 0, 1) :: (1, 1, 0, 0, 1, 1) :: (24, 278, 0, 11, 2, 3) :: (1, 0, 2, 0, 5, 1) :: (1, 1, 0, 0, 6, 1) :: (4, 8, 0, 0, 7, 1) :: (24, 281, 0, 11, 8, 3) :: (1, 0, 2, 0, 11, 1) :: (16, 10, 3, 2, 12, 3) :: (24, 171, 0, 10, 15, 3) :: (1, 1, 0, 0, 18, 1) :: (24, 282, 0, 6, 19, 3) :: (26, 0, 0, 0, 22, 1) :: []
noncomputable def xj_178 : Lean.RArray (List XE) := .leaf []
-- 179: EmberScriptModel.isObject(I)Z
set_option maxRecDepth 100000 in
noncomputable def xc_179_18 : List XE := (26, 0, 0, 0, 18, 1) :: []
set_option maxRecDepth 100000 in
noncomputable def xc_179_17 : List XE := (4, 0, 0, 0, 17, 1) :: xc_179_18
set_option maxRecDepth 100000 in
noncomputable def xc_179_0 : List XE := (1, 0, 2, 0, 0, 1) :: (16, 14, 4, 2, 1, 3) :: (16, 13, 10, 2, 4, 3) :: (1, 1, 0, 0, 7, 1) :: (18, 0, 0, 0, 8, 1) :: (4, 8, 0, 0, 9, 1) :: (13, 17, 1, 0, 10, 3) :: (4, 3, 0, 0, 13, 1) :: (14, 18, 0, 0, 14, 3) :: xc_179_17
noncomputable def xj_179 : Lean.RArray (List XE) := .branch 18 (.leaf xc_179_17) (.leaf xc_179_18)
-- 180: EmberScript.wordIn(II)I
set_option maxRecDepth 100000 in
noncomputable def xc_180_0 : List XE := (1, 0, 2, 0, 0, 1) :: (1, 1, 0, 0, 1, 1) :: (1, 2, 0, 0, 2, 1) :: (24, 283, 0, 11, 3, 3) :: (1, 0, 2, 0, 6, 1) :: (16, 10, 3, 2, 7, 3) :: (24, 171, 0, 10, 10, 3) :: (1, 1, 0, 0, 13, 1) :: (1, 2, 0, 0, 14, 1) :: (24, 284, 0, 6, 15, 3) :: (26, 0, 0, 0, 18, 1) :: []
noncomputable def xj_180 : Lean.RArray (List XE) := .leaf []
-- 181: EmberScriptModel.ofSlot(II[I)I
set_option maxRecDepth 100000 in
noncomputable def xc_181_70 : List XE := (26, 0, 0, 0, 70, 1) :: []
set_option maxRecDepth 100000 in
noncomputable def xc_181_65 : List XE := (1, 0, 2, 0, 65, 1) :: (4, 6, 0, 0, 66, 1) :: (24, 121, 0, 15, 67, 3) :: xc_181_70
set_option maxRecDepth 100000 in
noncomputable def xc_181_46 : List XE := (1, 0, 2, 0, 46, 1) :: (1, 1, 0, 0, 47, 1) :: (24, 179, 0, 15, 48, 3) :: (12, 65, 0, 0, 51, 3) :: (1, 3, 2, 0, 54, 1) :: (1, 1, 0, 0, 55, 1) :: (4, 21, 0, 0, 56, 2) :: (6, 2, 0, 0, 58, 1) :: (1, 2, 0, 0, 59, 1) :: (6, 0, 0, 0, 60, 1) :: (18, 0, 0, 0, 61, 1) :: (14, 70, 0, 0, 62, 3) :: xc_181_65
set_option maxRecDepth 100000 in
noncomputable def xc_181_40 : List XE := (1, 0, 2, 0, 40, 1) :: (4, 3, 0, 0, 41, 1) :: (24, 121, 0, 15, 42, 3) :: (26, 0, 0, 0, 45, 1) :: xc_181_46
set_option maxRecDepth 100000 in
noncomputable def xc_181_0 : List XE := (1, 0, 2, 0, 0, 1) :: (4, 0, 0, 0, 1, 1) :: (17, 14, 3, 0, 2, 3) :: (1, 0, 2, 0, 5, 1) :: (1, 1, 0, 0, 6, 1) :: (24, 176, 0, 15, 7, 3) :: (12, 40, 0, 0, 10, 3) :: (1, 0, 2, 0, 13, 1) :: (1, 1, 0, 0, 14, 1) :: (24, 179, 0, 15, 15, 3) :: (12, 46, 0, 0, 18, 3) :: (1, 2, 0, 0, 21, 1) :: (4, 0, 0, 0, 22, 1) :: (1, 0, 2, 0, 23, 1) :: (16, 14, 4, 2, 24, 3) :: (16, 13, 16, 2, 27, 3) :: (1, 1, 0, 0, 30, 1) :: (18, 0, 0, 0, 31, 1) :: (4, 3, 0, 0, 32, 1) :: (6, 1, 0, 0, 33, 1) :: (24, 124, 0, 0, 34, 3) :: (12, 46, 1, 0, 37, 3) :: xc_181_40
noncomputable def xj_181 : Lean.RArray (List XE) := .branch 65 (.branch 46 (.leaf xc_181_40) (.leaf xc_181_46)) (.branch 70 (.leaf xc_181_65) (.leaf xc_181_70))
-- 182: EmberScript.kindIn(II)I
set_option maxRecDepth 100000 in
noncomputable def xc_182_0 : List XE := (1, 0, 2, 0, 0, 1) :: (1, 1, 0, 0, 1, 1) :: (1, 2, 0, 0, 2, 1) :: (24, 283, 0, 11, 3, 3) :: (1, 0, 2, 0, 6, 1) :: (16, 10, 3, 2, 7, 3) :: (24, 171, 0, 10, 10, 3) :: (1, 1, 0, 0, 13, 1) :: (1, 2, 0, 0, 14, 1) :: (24, 285, 0, 6, 15, 3) :: (24, 248, 0, 0, 18, 3) :: (26, 0, 0, 0, 21, 1) :: []
noncomputable def xj_182 : Lean.RArray (List XE) := .leaf []
-- 183: EmberScript.numberIn(II)I
set_option maxRecDepth 100000 in
noncomputable def xc_183_0 : List XE := (1, 0, 2, 0, 0, 1) :: (1, 1, 0, 0, 1, 1) :: (1, 2, 0, 0, 2, 1) :: (24, 283, 0, 11, 3, 3) :: (1, 0, 2, 0, 6, 1) :: (16, 10, 3, 2, 7, 3) :: (24, 171, 0, 10, 10, 3) :: (1, 1, 0, 0, 13, 1) :: (1, 2, 0, 0, 14, 1) :: (24, 285, 0, 6, 15, 3) :: (24, 273, 0, 0, 18, 3) :: (26, 0, 0, 0, 21, 1) :: []
noncomputable def xj_183 : Lean.RArray (List XE) := .leaf []
-- 184: EmberScript.parentOf(I)I
set_option maxRecDepth 100000 in
noncomputable def xc_184_0 : List XE := (1, 0, 2, 0, 0, 1) :: (1, 1, 0, 0, 1, 1) :: (24, 278, 0, 11, 2, 3) :: (1, 0, 2, 0, 5, 1) :: (1, 1, 0, 0, 6, 1) :: (4, 8, 0, 0, 7, 1) :: (24, 281, 0, 11, 8, 3) :: (1, 0, 2, 0, 11, 1) :: (16, 10, 3, 2, 12, 3) :: (24, 171, 0, 10, 15, 3) :: (1, 1, 0, 0, 18, 1) :: (24, 286, 0, 6, 19, 3) :: (26, 0, 0, 0, 22, 1) :: []
noncomputable def xj_184 : Lean.RArray (List XE) := .leaf []
-- 185: EmberScript.foundIn(II)I
set_option maxRecDepth 100000 in
noncomputable def xc_185_0 : List XE := (1, 0, 2, 0, 0, 1) :: (1, 1, 0, 0, 1, 1) :: (24, 278, 0, 11, 2, 3) :: (1, 0, 2, 0, 5, 1) :: (1, 2, 0, 0, 6, 1) :: (24, 245, 0, 11, 7, 3) :: (1, 0, 2, 0, 10, 1) :: (1, 1, 0, 0, 11, 1) :: (4, 8, 0, 0, 12, 1) :: (24, 281, 0, 11, 13, 3) :: (1, 0, 2, 0, 16, 1) :: (16, 10, 3, 2, 17, 3) :: (24, 171, 0, 10, 20, 3) :: (1, 1, 0, 0, 23, 1) :: (1, 2, 0, 0, 24, 1) :: (0, 0, 0, 0, 25, 3) :: (26, 0, 0, 0, 28, 1) :: []
noncomputable def xj_185 : Lean.RArray (List XE) := .leaf []
-- 186: EmberScript.isLike(II)Z
set_option maxRecDepth 100000 in
noncomputable def xc_186_0 : List XE := (1, 0, 2, 0, 0, 1) :: (1, 1, 0, 0, 1, 1) :: (24, 278, 0, 11, 2, 3) :: (1, 0, 2, 0, 5, 1) :: (1, 2, 0, 0, 6, 1) :: (24, 278, 0, 11, 7, 3) :: (1, 0, 2, 0, 10, 1) :: (1, 1, 0, 0, 11, 1) :: (4, 8, 0, 0, 12, 1) :: (24, 281, 0, 11, 13, 3) :: (1, 0, 2, 0, 16, 1) :: (1, 2, 0, 0, 17, 1) :: (4, 8, 0, 0, 18, 1) :: (24, 281, 0, 11, 19, 3) :: (1, 0, 2, 0, 22, 1) :: (16, 10, 3, 2, 23, 3) :: (24, 171, 0, 10, 26, 3) :: (1, 1, 0, 0, 29, 1) :: (1, 2, 0, 0, 30, 1) :: (0, 0, 0, 0, 31, 3) :: (26, 0, 0, 0, 34, 1) :: []
noncomputable def xj_186 : Lean.RArray (List XE) := .leaf []
-- 187: EmberScript.stateOf(I)I
set_option maxRecDepth 100000 in
noncomputable def xc_187_0 : List XE := (1, 0, 2, 0, 0, 1) :: (1, 1, 0, 0, 1, 1) :: (24, 278, 0, 11, 2, 3) :: (1, 0, 2, 0, 5, 1) :: (1, 1, 0, 0, 6, 1) :: (4, 4, 0, 0, 7, 2) :: (24, 281, 0, 11, 9, 3) :: (1, 0, 2, 0, 12, 1) :: (16, 10, 3, 2, 13, 3) :: (24, 171, 0, 10, 16, 3) :: (1, 1, 0, 0, 19, 1) :: (24, 287, 0, 6, 20, 3) :: (26, 0, 0, 0, 23, 1) :: []
noncomputable def xj_187 : Lean.RArray (List XE) := .leaf []
-- 188: EmberScript.refersTo(I)I
set_option maxRecDepth 100000 in
noncomputable def xc_188_0 : List XE := (1, 0, 2, 0, 0, 1) :: (1, 1, 0, 0, 1, 1) :: (24, 278, 0, 11, 2, 3) :: (1, 0, 2, 0, 5, 1) :: (1, 1, 0, 0, 6, 1) :: (4, 16, 0, 0, 7, 2) :: (24, 281, 0, 11, 9, 3) :: (1, 0, 2, 0, 12, 1) :: (16, 10, 3, 2, 13, 3) :: (24, 171, 0, 10, 16, 3) :: (1, 1, 0, 0, 19, 1) :: (24, 288, 0, 6, 20, 3) :: (26, 0, 0, 0, 23, 1) :: []
noncomputable def xj_188 : Lean.RArray (List XE) := .leaf []
-- 189: EmberScript.isReached(I)Z
set_option maxRecDepth 100000 in
noncomputable def xc_189_30 : List XE := (26, 0, 0, 0, 30, 1) :: []
set_option maxRecDepth 100000 in
noncomputable def xc_189_29 : List XE := (4, 0, 0, 0, 29, 1) :: xc_189_30
set_option maxRecDepth 100000 in
noncomputable def xc_189_0 : List XE := (1, 0, 2, 0, 0, 1) :: (1, 1, 0, 0, 1, 1) :: (24, 278, 0, 11, 2, 3) :: (1, 0, 2, 0, 5, 1) :: (16, 10, 3, 2, 6, 3) :: (24, 191, 0, 10, 9, 3) :: (35, 0, 0, 0, 12, 1) :: (1, 0, 2, 0, 13, 1) :: (16, 10, 3, 2, 14, 3) :: (1, 1, 0, 0, 17, 1) :: (24, 289, 0, 10, 18, 3) :: (4, 11, 0, 0, 21, 1) :: (13, 29, 0, 0, 22, 3) :: (4, 3, 0, 0, 25, 1) :: (14, 30, 0, 0, 26, 3) :: xc_189_29
noncomputable def xj_189 : Lean.RArray (List XE) := .branch 30 (.leaf xc_189_29) (.leaf xc_189_30)
-- 190: EmberScriptModel$Run.reach(I)I
set_option maxRecDepth 100000 in
noncomputable def xc_190_92 : List XE := (1, 0, 2, 0, 92, 1) :: (24, 294, 0, 14, 93, 3) :: (1, 0, 2, 0, 96, 1) :: (16, 13, 42, 0, 97, 3) :: (26, 0, 0, 0, 100, 1) :: []
set_option maxRecDepth 100000 in
noncomputable def xc_190_75 : List XE := (1, 0, 2, 0, 75, 1) :: (16, 13, 39, 0, 76, 3) :: (4, 11, 0, 0, 79, 1) :: (13, 92, 0, 0, 80, 3) :: (1, 0, 2, 0, 83, 1) :: (1, 0, 2, 0, 84, 1) :: (16, 13, 39, 0, 85, 3) :: (4, 3, 0, 0, 88, 1) :: (24, 291, 0, 14, 89, 3) :: xc_190_92
set_option maxRecDepth 100000 in
noncomputable def xc_190_34 : List XE := (1, 2, 0, 0, 34, 1) :: (1, 0, 2, 0, 35, 1) :: (16, 13, 38, 0, 36, 3) :: (13, 75, 3, 0, 39, 3) :: (1, 0, 2, 0, 42, 1) :: (1, 0, 2, 0, 43, 1) :: (16, 13, 37, 2, 44, 3) :: (1, 2, 0, 0, 47, 1) :: (18, 0, 0, 0, 48, 1) :: (4, 3, 0, 0, 49, 1) :: (24, 291, 0, 14, 50, 3) :: (1, 0, 2, 0, 53, 1) :: (1, 0, 2, 0, 54, 1) :: (16, 13, 32, 2, 55, 3) :: (1, 0, 2, 0, 58, 1) :: (16, 13, 37, 2, 59, 3) :: (1, 2, 0, 0, 62, 1) :: (18, 0, 0, 0, 63, 1) :: (18, 0, 0, 0, 64, 1) :: (4, 3, 0, 0, 65, 1) :: (24, 293, 0, 14, 66, 3) :: (5, 2, 3, 0, 69, 3) :: (14, 34, 0, 0, 72, 3) :: xc_190_75
set_option maxRecDepth 100000 in
noncomputable def xc_190_32 : List XE := (4, 0, 0, 0, 32, 1) :: (2, 2, 0, 0, 33, 1) :: xc_190_34
set_option maxRecDepth 100000 in
noncomputable def xc_190_0 : List XE := (1, 0, 2, 0, 0, 1) :: (1, 1, 0, 0, 1, 1) :: (24, 290, 0, 14, 2, 3) :: (1, 0, 2, 0, 5, 1) :: (4, 0, 0, 0, 6, 1) :: (4, 3, 0, 0, 7, 1) :: (24, 291, 0, 14, 8, 3) :: (1, 0, 2, 0, 11, 1) :: (16, 13, 1, 0, 12, 3) :: (4, 6, 0, 0, 15, 1) :: (13, 32, 1, 0, 16, 3) :: (1, 0, 2, 0, 19, 1) :: (1, 0, 2, 0, 20, 1) :: (16, 13, 6, 0, 21, 3) :: (1, 0, 2, 0, 24, 1) :: (16, 13, 7, 0, 25, 3) :: (4, 3, 0, 0, 28, 1) :: (24, 292, 0, 14, 29, 3) :: xc_190_32
noncomputable def xj_190 : Lean.RArray (List XE) := .branch 75 (.branch 34 (.leaf xc_190_32) (.leaf xc_190_34)) (.branch 92 (.leaf xc_190_75) (.leaf xc_190_92))
-- 191: EmberScript$Machine.lookAround()I
set_option maxRecDepth 100000 in
noncomputable def xc_191_0 : List XE := (1, 0, 2, 0, 0, 1) :: (16, 9, 4, 2, 1, 3) :: (4, 11, 0, 0, 4, 1) :: (24, 250, 0, 9, 5, 3) :: (1, 0, 2, 0, 8, 1) :: (16, 9, 4, 2, 9, 3) :: (24, 251, 0, 9, 12, 3) :: (1, 0, 2, 0, 15, 1) :: (16, 9, 4, 2, 16, 3) :: (1, 0, 2, 0, 19, 1) :: (16, 9, 13, 1, 20, 3) :: (4, 3, 0, 0, 23, 1) :: (24, 252, 0, 9, 24, 3) :: (1, 0, 2, 0, 27, 1) :: (16, 9, 4, 2, 28, 3) :: (24, 254, 0, 9, 31, 3) :: (26, 0, 0, 0, 34, 1) :: []
noncomputable def xj_191 : Lean.RArray (List XE) := .leaf []
-- 192: EmberScript.retained(I)I
set_option maxRecDepth 100000 in
noncomputable def xc_192_0 : List XE := (1, 0, 2, 0, 0, 1) :: (1, 1, 0, 0, 1, 1) :: (24, 278, 0, 11, 2, 3) :: (1, 0, 2, 0, 5, 1) :: (16, 10, 3, 2, 6, 3) :: (1, 1, 0, 0, 9, 1) :: (1, 0, 2, 0, 10, 1) :: (16, 10, 3, 2, 11, 3) :: (24, 191, 0, 10, 14, 3) :: (24, 295, 0, 10, 17, 3) :: (26, 0, 0, 0, 20, 1) :: []
noncomputable def xj_192 : Lean.RArray (List XE) := .leaf []
-- 193: EmberScriptModel.keptBy(I)I
set_option maxRecDepth 100000 in
noncomputable def xc_193_35 : List XE := (26, 0, 0, 0, 35, 1) :: []
set_option maxRecDepth 100000 in
noncomputable def xc_193_25 : List XE := (1, 2, 0, 0, 25, 1) :: (1, 0, 2, 0, 26, 1) :: (16, 14, 4, 2, 27, 3) :: (1, 1, 0, 0, 30, 1) :: (24, 190, 0, 14, 31, 3) :: (6, 1, 0, 0, 34, 1) :: xc_193_35
set_option maxRecDepth 100000 in
noncomputable def xc_193_0 : List XE := (1, 0, 2, 0, 0, 1) :: (16, 14, 4, 2, 1, 3) :: (4, 11, 0, 0, 4, 1) :: (24, 190, 0, 14, 5, 3) :: (2, 2, 0, 0, 8, 1) :: (1, 0, 2, 0, 9, 1) :: (16, 14, 4, 2, 10, 3) :: (16, 13, 40, 2, 13, 3) :: (1, 1, 0, 0, 16, 1) :: (18, 0, 0, 0, 17, 1) :: (12, 25, 1, 0, 18, 3) :: (4, 0, 0, 0, 21, 1) :: (14, 35, 0, 0, 22, 3) :: xc_193_25
noncomputable def xj_193 : Lean.RArray (List XE) := .branch 35 (.leaf xc_193_25) (.leaf xc_193_35)
-- 194: EmberScript.distance(I)I
set_option maxRecDepth 100000 in
noncomputable def xc_194_0 : List XE := (1, 0, 2, 0, 0, 1) :: (1, 1, 0, 0, 1, 1) :: (24, 278, 0, 11, 2, 3) :: (1, 0, 2, 0, 5, 1) :: (16, 10, 3, 2, 6, 3) :: (24, 191, 0, 10, 9, 3) :: (35, 0, 0, 0, 12, 1) :: (1, 0, 2, 0, 13, 1) :: (16, 10, 3, 2, 14, 3) :: (1, 1, 0, 0, 17, 1) :: (24, 289, 0, 10, 18, 3) :: (26, 0, 0, 0, 21, 1) :: []
noncomputable def xj_194 : Lean.RArray (List XE) := .leaf []
-- 195: EmberScriptModel.far(I)I
set_option maxRecDepth 100000 in
noncomputable def xc_195_34 : List XE := (26, 0, 0, 0, 34, 1) :: []
set_option maxRecDepth 100000 in
noncomputable def xc_195_25 : List XE := (1, 0, 2, 0, 25, 1) :: (16, 14, 4, 2, 26, 3) :: (16, 13, 40, 2, 29, 3) :: (1, 1, 0, 0, 32, 1) :: (18, 0, 0, 0, 33, 1) :: xc_195_34
set_option maxRecDepth 100000 in
noncomputable def xc_195_0 : List XE := (1, 0, 2, 0, 0, 1) :: (16, 14, 4, 2, 1, 3) :: (4, 11, 0, 0, 4, 1) :: (24, 190, 0, 14, 5, 3) :: (35, 0, 0, 0, 8, 1) :: (1, 0, 2, 0, 9, 1) :: (16, 14, 4, 2, 10, 3) :: (16, 13, 40, 2, 13, 3) :: (1, 1, 0, 0, 16, 1) :: (18, 0, 0, 0, 17, 1) :: (12, 25, 1, 0, 18, 3) :: (4, 11, 0, 0, 21, 1) :: (14, 34, 0, 0, 22, 3) :: xc_195_25
noncomputable def xj_195 : Lean.RArray (List XE) := .branch 34 (.leaf xc_195_25) (.leaf xc_195_34)
-- 196: EmberScript.reaches(II)Z
set_option maxRecDepth 100000 in
noncomputable def xc_196_35 : List XE := (26, 0, 0, 0, 35, 1) :: []
set_option maxRecDepth 100000 in
noncomputable def xc_196_34 : List XE := (4, 0, 0, 0, 34, 1) :: xc_196_35
set_option maxRecDepth 100000 in
noncomputable def xc_196_0 : List XE := (1, 0, 2, 0, 0, 1) :: (1, 1, 0, 0, 1, 1) :: (24, 278, 0, 11, 2, 3) :: (1, 0, 2, 0, 5, 1) :: (1, 2, 0, 0, 6, 1) :: (24, 278, 0, 11, 7, 3) :: (1, 0, 2, 0, 10, 1) :: (16, 10, 3, 2, 11, 3) :: (1, 1, 0, 0, 14, 1) :: (24, 296, 0, 10, 15, 3) :: (1, 0, 2, 0, 18, 1) :: (16, 10, 3, 2, 19, 3) :: (1, 2, 0, 0, 22, 1) :: (24, 289, 0, 10, 23, 3) :: (4, 11, 0, 0, 26, 1) :: (13, 34, 0, 0, 27, 3) :: (4, 3, 0, 0, 30, 1) :: (14, 35, 0, 0, 31, 3) :: xc_196_34
noncomputable def xj_196 : Lean.RArray (List XE) := .branch 35 (.leaf xc_196_34) (.leaf xc_196_35)
-- 197: EmberScriptModel$Run.reaches(II)Z
set_option maxRecDepth 100000 in
noncomputable def xc_197_29 : List XE := (26, 0, 0, 0, 29, 1) :: []
set_option maxRecDepth 100000 in
noncomputable def xc_197_28 : List XE := (4, 0, 0, 0, 28, 1) :: xc_197_29
set_option maxRecDepth 100000 in
noncomputable def xc_197_0 : List XE := (1, 0, 2, 0, 0, 1) :: (4, 11, 0, 0, 1, 1) :: (24, 290, 0, 14, 2, 3) :: (1, 0, 2, 0, 5, 1) :: (1, 1, 0, 0, 6, 1) :: (4, 3, 0, 0, 7, 1) :: (0, 0, 0, 0, 8, 3) :: (1, 0, 2, 0, 11, 1) :: (24, 294, 0, 14, 12, 3) :: (1, 0, 2, 0, 15, 1) :: (16, 13, 40, 2, 16, 3) :: (1, 2, 0, 0, 19, 1) :: (18, 0, 0, 0, 20, 1) :: (12, 28, 0, 0, 21, 3) :: (4, 3, 0, 0, 24, 1) :: (14, 29, 0, 0, 25, 3) :: xc_197_28
noncomputable def xj_197 : Lean.RArray (List XE) := .branch 29 (.leaf xc_197_28) (.leaf xc_197_29)
-- 198: EmberScript.stepsToEnd(I)I
set_option maxRecDepth 100000 in
noncomputable def xc_198_52 : List XE := (26, 0, 0, 0, 52, 1) :: []
set_option maxRecDepth 100000 in
noncomputable def xc_198_51 : List XE := (1, 2, 0, 0, 51, 1) :: xc_198_52
set_option maxRecDepth 100000 in
noncomputable def xc_198_17 : List XE := (1, 0, 2, 0, 17, 1) :: (16, 10, 4, 2, 18, 3) :: (1, 0, 2, 0, 21, 1) :: (16, 10, 3, 2, 22, 3) :: (24, 202, 0, 10, 25, 3) :: (1, 0, 2, 0, 28, 1) :: (16, 10, 4, 2, 29, 3) :: (1, 1, 0, 0, 32, 1) :: (24, 204, 0, 10, 33, 3) :: (2, 2, 0, 0, 36, 1) :: (1, 0, 2, 0, 37, 1) :: (16, 10, 4, 2, 38, 3) :: (24, 203, 0, 10, 41, 3) :: (12, 51, 0, 0, 44, 3) :: (4, 11, 0, 0, 47, 1) :: (14, 52, 0, 0, 48, 3) :: xc_198_51
set_option maxRecDepth 100000 in
noncomputable def xc_198_0 : List XE := (1, 0, 2, 0, 0, 1) :: (1, 1, 0, 0, 1, 1) :: (24, 244, 0, 11, 2, 3) :: (1, 0, 2, 0, 5, 1) :: (16, 10, 3, 2, 6, 3) :: (24, 203, 0, 10, 9, 3) :: (12, 17, 1, 0, 12, 3) :: (4, 0, 0, 0, 15, 1) :: (26, 0, 0, 0, 16, 1) :: xc_198_17
noncomputable def xj_198 : Lean.RArray (List XE) := .branch 51 (.leaf xc_198_17) (.branch 52 (.leaf xc_198_51) (.leaf xc_198_52))
-- 199: EmberScriptModel.ahead()LEmberScriptModel$Run;
set_option maxRecDepth 100000 in
noncomputable def xc_199_0 : List XE := (1, 0, 2, 0, 0, 1) :: (16, 14, 5, 2, 1, 3) :: (1, 0, 2, 0, 4, 1) :: (16, 14, 4, 2, 5, 3) :: (0, 0, 0, 0, 8, 3) :: (1, 0, 2, 0, 11, 1) :: (16, 14, 5, 2, 12, 3) :: (26, 2, 0, 0, 15, 1) :: []
noncomputable def xj_199 : Lean.RArray (List XE) := .leaf []
-- 200: EmberScript.printedIn(I)I
set_option maxRecDepth 100000 in
noncomputable def xc_200_0 : List XE := (1, 0, 2, 0, 0, 1) :: (1, 1, 0, 0, 1, 1) :: (24, 244, 0, 11, 2, 3) :: (1, 0, 2, 0, 5, 1) :: (16, 10, 4, 2, 6, 3) :: (1, 0, 2, 0, 9, 1) :: (16, 10, 3, 2, 10, 3) :: (24, 202, 0, 10, 13, 3) :: (1, 0, 2, 0, 16, 1) :: (16, 10, 4, 2, 17, 3) :: (1, 1, 0, 0, 20, 1) :: (24, 204, 0, 10, 21, 3) :: (35, 0, 0, 0, 24, 1) :: (1, 0, 2, 0, 25, 1) :: (16, 10, 4, 2, 26, 3) :: (24, 165, 0, 10, 29, 3) :: (1, 0, 2, 0, 32, 1) :: (16, 10, 3, 2, 33, 3) :: (24, 165, 0, 10, 36, 3) :: (6, 1, 0, 0, 39, 1) :: (26, 0, 0, 0, 40, 1) :: []
noncomputable def xj_200 : Lean.RArray (List XE) := .leaf []
-- 201: EmberScript.thingsIn(I)I
set_option maxRecDepth 100000 in
noncomputable def xc_201_0 : List XE := (1, 0, 2, 0, 0, 1) :: (1, 1, 0, 0, 1, 1) :: (24, 244, 0, 11, 2, 3) :: (1, 0, 2, 0, 5, 1) :: (16, 10, 4, 2, 6, 3) :: (1, 0, 2, 0, 9, 1) :: (16, 10, 3, 2, 10, 3) :: (24, 202, 0, 10, 13, 3) :: (1, 0, 2, 0, 16, 1) :: (16, 10, 4, 2, 17, 3) :: (1, 1, 0, 0, 20, 1) :: (24, 204, 0, 10, 21, 3) :: (35, 0, 0, 0, 24, 1) :: (1, 0, 2, 0, 25, 1) :: (16, 10, 4, 2, 26, 3) :: (24, 171, 0, 10, 29, 3) :: (24, 172, 0, 6, 32, 3) :: (26, 0, 0, 0, 35, 1) :: []
noncomputable def xj_201 : Lean.RArray (List XE) := .leaf []
-- 202: EmberScript$Machine.copyFrom(LEmberScript$Machine;)V
set_option maxRecDepth 100000 in
noncomputable def xc_202_0 : List XE := (1, 0, 2, 0, 0, 1) :: (16, 9, 1, 2, 1, 3) :: (1, 1, 2, 0, 4, 1) :: (16, 9, 1, 2, 5, 3) :: (24, 297, 0, 6, 8, 3) :: (1, 0, 2, 0, 11, 1) :: (16, 9, 2, 2, 12, 3) :: (1, 1, 2, 0, 15, 1) :: (16, 9, 2, 2, 16, 3) :: (24, 298, 0, 7, 19, 3) :: (1, 0, 2, 0, 22, 1) :: (16, 9, 3, 2, 23, 3) :: (1, 1, 2, 0, 26, 1) :: (16, 9, 3, 2, 27, 3) :: (24, 299, 0, 8, 30, 3) :: (1, 0, 2, 0, 33, 1) :: (16, 9, 6, 2, 34, 3) :: (1, 1, 2, 0, 37, 1) :: (16, 9, 6, 2, 38, 3) :: (24, 232, 0, 1, 41, 3) :: (1, 0, 2, 0, 44, 1) :: (1, 1, 2, 0, 45, 1) :: (16, 9, 7, 0, 46, 3) :: (17, 9, 7, 0, 49, 3) :: (1, 0, 2, 0, 52, 1) :: (1, 1, 2, 0, 53, 1) :: (16, 9, 8, 0, 54, 3) :: (17, 9, 8, 0, 57, 3) :: (1, 0, 2, 0, 60, 1) :: (1, 1, 2, 0, 61, 1) :: (16, 9, 10, 0, 62, 3) :: (17, 9, 10, 0, 65, 3) :: (1, 0, 2, 0, 68, 1) :: (1, 1, 2, 0, 69, 1) :: (16, 9, 11, 0, 70, 3) :: (17, 9, 11, 0, 73, 3) :: (1, 0, 2, 0, 76, 1) :: (1, 1, 2, 0, 77, 1) :: (16, 9, 12, 0, 78, 3) :: (17, 9, 12, 0, 81, 3) :: (1, 0, 2, 0, 84, 1) :: (1, 1, 2, 0, 85, 1) :: (16, 9, 13, 1, 86, 3) :: (17, 9, 13, 1, 89, 3) :: (1, 0, 2, 0, 92, 1) :: (4, 0, 0, 0, 93, 1) :: (17, 9, 14, 0, 94, 3) :: (26, 9, 0, 0, 97, 1) :: []
noncomputable def xj_202 : Lean.RArray (List XE) := .leaf []
-- 203: EmberScript$Machine.canGoOn()Z
set_option maxRecDepth 100000 in
noncomputable def xc_203_12 : List XE := (26, 0, 0, 0, 12, 1) :: []
set_option maxRecDepth 100000 in
noncomputable def xc_203_11 : List XE := (4, 0, 0, 0, 11, 1) :: xc_203_12
set_option maxRecDepth 100000 in
noncomputable def xc_203_0 : List XE := (1, 0, 2, 0, 0, 1) :: (16, 9, 7, 0, 1, 3) :: (12, 11, 1, 0, 4, 3) :: (4, 3, 0, 0, 7, 1) :: (14, 12, 0, 0, 8, 3) :: xc_203_11
noncomputable def xj_203 : Lean.RArray (List XE) := .branch 12 (.leaf xc_203_11) (.leaf xc_203_12)
-- 204: EmberScript$Machine.go(I)I
set_option maxRecDepth 100000 in
noncomputable def xc_204_248 : List XE := (1, 0, 2, 0, 248, 1) :: (34, 0, 0, 0, 249, 1) :: (16, 9, 8, 0, 250, 3) :: (1, 0, 2, 0, 253, 1) :: (16, 9, 9, 0, 254, 3) :: (6, 0, 0, 0, 257, 1) :: (17, 9, 8, 0, 258, 3) :: (1, 0, 2, 0, 261, 1) :: (16, 9, 9, 0, 262, 3) :: (26, 0, 0, 0, 265, 1) :: []
set_option maxRecDepth 100000 in
noncomputable def xc_204_237 : List XE := (1, 0, 2, 0, 237, 1) :: (4, 0, 0, 0, 238, 1) :: (17, 9, 14, 0, 239, 3) :: (5, 2, 3, 0, 242, 3) :: (14, 7, 0, 0, 245, 3) :: xc_204_248
set_option maxRecDepth 100000 in
noncomputable def xc_204_224 : List XE := (1, 0, 2, 0, 224, 1) :: (16, 9, 14, 0, 225, 3) :: (4, 22, 0, 0, 228, 2) :: (13, 237, 1, 0, 230, 3) :: (1, 0, 2, 0, 233, 1) :: (0, 0, 0, 0, 234, 3) :: xc_204_237
set_option maxRecDepth 100000 in
noncomputable def xc_204_211 : List XE := (1, 0, 2, 0, 211, 1) :: (16, 9, 14, 0, 212, 3) :: (4, 23, 0, 0, 215, 2) :: (13, 224, 1, 0, 217, 3) :: (1, 0, 2, 0, 220, 1) :: (0, 0, 0, 0, 221, 3) :: xc_204_224
set_option maxRecDepth 100000 in
noncomputable def xc_204_202 : List XE := (1, 5, 0, 0, 202, 2) :: (12, 211, 0, 0, 204, 3) :: (1, 0, 2, 0, 207, 1) :: (0, 0, 0, 0, 208, 3) :: xc_204_211
set_option maxRecDepth 100000 in
noncomputable def xc_204_197 : List XE := (1, 0, 2, 0, 197, 1) :: (24, 140, 0, 10, 198, 3) :: (35, 0, 0, 0, 201, 1) :: xc_204_202
set_option maxRecDepth 100000 in
noncomputable def xc_204_169 : List XE := (2, 5, 0, 0, 169, 2) :: (1, 0, 2, 0, 171, 1) :: (16, 9, 14, 0, 172, 3) :: (4, 21, 0, 0, 175, 2) :: (13, 197, 0, 0, 177, 3) :: (1, 5, 0, 0, 180, 2) :: (12, 202, 0, 0, 182, 3) :: (1, 0, 2, 0, 185, 1) :: (16, 9, 1, 2, 186, 3) :: (24, 172, 0, 6, 189, 3) :: (4, 19, 0, 0, 192, 2) :: (13, 202, 2, 0, 194, 3) :: xc_204_197
set_option maxRecDepth 100000 in
noncomputable def xc_204_168 : List XE := (4, 0, 0, 0, 168, 1) :: xc_204_169
set_option maxRecDepth 100000 in
noncomputable def xc_204_147 : List XE := (4, 8, 0, 0, 147, 1) :: (1, 0, 2, 0, 148, 1) :: (16, 9, 14, 0, 149, 3) :: (13, 168, 4, 0, 152, 3) :: (1, 0, 2, 0, 155, 1) :: (16, 9, 14, 0, 156, 3) :: (4, 16, 0, 0, 159, 2) :: (13, 168, 4, 0, 161, 3) :: (4, 3, 0, 0, 164, 1) :: (14, 169, 0, 0, 165, 3) :: xc_204_168
set_option maxRecDepth 100000 in
noncomputable def xc_204_125 : List XE := (1, 0, 2, 0, 125, 1) :: (1, 4, 0, 0, 126, 2) :: (1, 0, 2, 0, 128, 1) :: (16, 9, 0, 2, 129, 3) :: (1, 3, 0, 0, 132, 1) :: (24, 260, 0, 4, 133, 3) :: (1, 0, 2, 0, 136, 1) :: (16, 9, 0, 2, 137, 3) :: (1, 3, 0, 0, 140, 1) :: (24, 263, 0, 4, 141, 3) :: (0, 0, 0, 0, 144, 3) :: xc_204_147
set_option maxRecDepth 100000 in
noncomputable def xc_204_101 : List XE := (1, 4, 0, 0, 101, 2) :: (4, 49, 0, 0, 103, 2) :: (13, 125, 4, 0, 105, 3) :: (1, 0, 2, 0, 108, 1) :: (1, 4, 0, 0, 109, 2) :: (1, 0, 2, 0, 111, 1) :: (16, 9, 0, 2, 112, 3) :: (1, 3, 0, 0, 115, 1) :: (24, 260, 0, 4, 116, 3) :: (0, 0, 0, 0, 119, 3) :: (14, 147, 0, 0, 122, 3) :: xc_204_125
set_option maxRecDepth 100000 in
noncomputable def xc_204_85 : List XE := (1, 4, 0, 0, 85, 2) :: (4, 44, 0, 0, 87, 2) :: (13, 101, 4, 0, 89, 3) :: (1, 0, 2, 0, 92, 1) :: (1, 4, 0, 0, 93, 2) :: (0, 0, 0, 0, 95, 3) :: (14, 147, 0, 0, 98, 3) :: xc_204_101
set_option maxRecDepth 100000 in
noncomputable def xc_204_35 : List XE := (1, 0, 2, 0, 35, 1) :: (16, 9, 3, 2, 36, 3) :: (24, 259, 0, 8, 39, 3) :: (2, 3, 0, 0, 42, 1) :: (1, 0, 2, 0, 43, 1) :: (16, 9, 0, 2, 44, 3) :: (1, 3, 0, 0, 47, 1) :: (24, 236, 0, 4, 48, 3) :: (2, 4, 0, 0, 51, 2) :: (1, 4, 0, 0, 53, 2) :: (4, 24, 0, 0, 55, 2) :: (13, 85, 4, 0, 57, 3) :: (1, 0, 2, 0, 60, 1) :: (1, 4, 0, 0, 61, 2) :: (1, 0, 2, 0, 63, 1) :: (16, 9, 0, 2, 64, 3) :: (1, 3, 0, 0, 67, 1) :: (24, 260, 0, 4, 68, 3) :: (1, 0, 2, 0, 71, 1) :: (16, 9, 0, 2, 72, 3) :: (1, 3, 0, 0, 75, 1) :: (24, 263, 0, 4, 76, 3) :: (0, 0, 0, 0, 79, 3) :: (14, 147, 0, 0, 82, 3) :: xc_204_85
set_option maxRecDepth 100000 in
noncomputable def xc_204_7 : List XE := (1, 2, 0, 0, 7, 1) :: (4, 48, 0, 0, 8, 2) :: (13, 248, 3, 0, 10, 3) :: (1, 0, 2, 0, 13, 1) :: (1, 1, 0, 0, 14, 1) :: (24, 300, 0, 10, 15, 3) :: (12, 248, 0, 0, 18, 3) :: (1, 0, 2, 0, 21, 1) :: (16, 9, 2, 2, 22, 3) :: (24, 301, 0, 7, 25, 3) :: (12, 35, 0, 0, 28, 3) :: (1, 0, 2, 0, 31, 1) :: (0, 0, 0, 0, 32, 3) :: xc_204_35
set_option maxRecDepth 100000 in
noncomputable def xc_204_0 : List XE := (1, 0, 2, 0, 0, 1) :: (4, 0, 0, 0, 1, 1) :: (17, 9, 9, 0, 2, 3) :: (4, 0, 0, 0, 5, 1) :: (2, 2, 0, 0, 6, 1) :: xc_204_7
noncomputable def xj_204 : Lean.RArray (List XE) := .branch 169 (.branch 101 (.branch 35 (.leaf xc_204_7) (.branch 85 (.leaf xc_204_35) (.leaf xc_204_85))) (.branch 147 (.branch 125 (.leaf xc_204_101) (.leaf xc_204_125)) (.branch 168 (.leaf xc_204_147) (.leaf xc_204_168)))) (.branch 211 (.branch 197 (.leaf xc_204_169) (.branch 202 (.leaf xc_204_197) (.leaf xc_204_202))) (.branch 237 (.branch 224 (.leaf xc_204_211) (.leaf xc_204_224)) (.branch 248 (.leaf xc_204_237) (.leaf xc_204_248))))
-- 205: EmberScript.stateIfInterrupted(I)I
set_option maxRecDepth 100000 in
noncomputable def xc_205_17 : List XE := (1, 0, 2, 0, 17, 1) :: (16, 10, 4, 2, 18, 3) :: (1, 0, 2, 0, 21, 1) :: (16, 10, 3, 2, 22, 3) :: (24, 202, 0, 10, 25, 3) :: (1, 0, 2, 0, 28, 1) :: (16, 10, 4, 2, 29, 3) :: (1, 1, 0, 0, 32, 1) :: (0, 0, 0, 0, 33, 3) :: (1, 0, 2, 0, 36, 1) :: (16, 10, 4, 2, 37, 3) :: (4, 0, 0, 0, 40, 1) :: (24, 204, 0, 10, 41, 3) :: (35, 0, 0, 0, 44, 1) :: (1, 0, 2, 0, 45, 1) :: (16, 10, 4, 2, 46, 3) :: (24, 142, 0, 10, 49, 3) :: (26, 0, 0, 0, 52, 1) :: []
set_option maxRecDepth 100000 in
noncomputable def xc_205_0 : List XE := (1, 0, 2, 0, 0, 1) :: (1, 1, 0, 0, 1, 1) :: (24, 245, 0, 11, 2, 3) :: (1, 0, 2, 0, 5, 1) :: (16, 10, 3, 2, 6, 3) :: (24, 203, 0, 10, 9, 3) :: (12, 17, 1, 0, 12, 3) :: (4, 11, 0, 0, 15, 1) :: (26, 0, 0, 0, 16, 1) :: xc_205_17
noncomputable def xj_205 : Lean.RArray (List XE) := .leaf xc_205_17
-- 206: EmberScript.mix(JI)J
set_option maxRecDepth 100000 in
noncomputable def xc_206_0 : List XE := (1, 0, 1, 0, 0, 1) :: (4, 27, 0, 0, 1, 3) :: (8, 2, 0, 0, 4, 1) :: (1, 2, 0, 0, 5, 1) :: (40, 0, 0, 0, 6, 1) :: (8, 0, 0, 0, 7, 1) :: (26, 1, 0, 0, 8, 1) :: []
noncomputable def xj_206 : Lean.RArray (List XE) := .leaf []
-- 207: EmberScript.mixValues(J)J
set_option maxRecDepth 100000 in
noncomputable def xc_207_103 : List XE := (1, 3, 1, 0, 103, 1) :: (26, 1, 0, 0, 104, 1) :: []
set_option maxRecDepth 100000 in
noncomputable def xc_207_80 : List XE := (1, 0, 2, 0, 80, 1) :: (16, 10, 3, 2, 81, 3) :: (24, 142, 0, 10, 84, 3) :: (4, 6, 0, 0, 87, 1) :: (13, 103, 1, 0, 88, 3) :: (1, 3, 1, 0, 91, 1) :: (1, 0, 2, 0, 92, 1) :: (16, 10, 3, 2, 93, 3) :: (24, 277, 0, 10, 96, 3) :: (0, 0, 0, 0, 99, 3) :: (3, 3, 1, 0, 102, 1) :: xc_207_103
set_option maxRecDepth 100000 in
noncomputable def xc_207_41 : List XE := (1, 5, 0, 0, 41, 2) :: (4, 28, 0, 0, 43, 2) :: (13, 80, 3, 0, 45, 3) :: (1, 5, 0, 0, 48, 2) :: (1, 0, 2, 0, 50, 1) :: (16, 10, 3, 2, 51, 3) :: (24, 165, 0, 10, 54, 3) :: (13, 80, 3, 0, 57, 3) :: (1, 3, 1, 0, 60, 1) :: (1, 0, 2, 0, 61, 1) :: (16, 10, 3, 2, 62, 3) :: (1, 5, 0, 0, 65, 2) :: (24, 275, 0, 10, 67, 3) :: (0, 0, 0, 0, 70, 3) :: (3, 3, 1, 0, 73, 1) :: (5, 5, 3, 0, 74, 3) :: (14, 41, 0, 0, 77, 3) :: xc_207_80
set_option maxRecDepth 100000 in
noncomputable def xc_207_38 : List XE := (4, 0, 0, 0, 38, 1) :: (2, 5, 0, 0, 39, 2) :: xc_207_41
set_option maxRecDepth 100000 in
noncomputable def xc_207_5 : List XE := (1, 5, 0, 0, 5, 2) :: (1, 0, 2, 0, 7, 1) :: (16, 10, 2, 2, 8, 3) :: (4, 11, 0, 0, 11, 1) :: (24, 161, 0, 4, 12, 3) :: (13, 38, 3, 0, 15, 3) :: (1, 3, 1, 0, 18, 1) :: (1, 0, 2, 0, 19, 1) :: (16, 10, 3, 2, 20, 3) :: (1, 5, 0, 0, 23, 2) :: (24, 247, 0, 10, 25, 3) :: (0, 0, 0, 0, 28, 3) :: (3, 3, 1, 0, 31, 1) :: (5, 5, 3, 0, 32, 3) :: (14, 5, 0, 0, 35, 3) :: xc_207_38
set_option maxRecDepth 100000 in
noncomputable def xc_207_0 : List XE := (1, 1, 1, 0, 0, 1) :: (3, 3, 1, 0, 1, 1) :: (4, 0, 0, 0, 2, 1) :: (2, 5, 0, 0, 3, 2) :: xc_207_5
noncomputable def xj_207 : Lean.RArray (List XE) := .branch 41 (.branch 38 (.leaf xc_207_5) (.leaf xc_207_38)) (.branch 80 (.leaf xc_207_41) (.branch 103 (.leaf xc_207_80) (.leaf xc_207_103)))
-- 208: EmberScript$Things.has(I)Z
set_option maxRecDepth 100000 in
noncomputable def xc_208_16 : List XE := (26, 0, 0, 0, 16, 1) :: []
set_option maxRecDepth 100000 in
noncomputable def xc_208_15 : List XE := (4, 0, 0, 0, 15, 1) :: xc_208_16
set_option maxRecDepth 100000 in
noncomputable def xc_208_0 : List XE := (1, 0, 2, 0, 0, 1) :: (16, 5, 0, 2, 1, 3) :: (1, 1, 0, 0, 4, 1) :: (24, 272, 0, 1, 5, 3) :: (12, 15, 0, 0, 8, 3) :: (4, 3, 0, 0, 11, 1) :: (14, 16, 0, 0, 12, 3) :: xc_208_15
noncomputable def xj_208 : Lean.RArray (List XE) := .branch 16 (.leaf xc_208_15) (.leaf xc_208_16)
-- 209: EmberScript$Row.<init>(I)V
set_option maxRecDepth 100000 in
noncomputable def xc_209_14 : List XE := (22, 1, 1, 0, 14, 2) :: (17, 0, 0, 2, 16, 3) :: (26, 9, 0, 0, 19, 1) :: []
set_option maxRecDepth 100000 in
noncomputable def xc_209_13 : List XE := (1, 1, 0, 0, 13, 1) :: xc_209_14
set_option maxRecDepth 100000 in
noncomputable def xc_209_0 : List XE := (1, 0, 2, 0, 0, 1) :: (25, 0, 0, 0, 1, 3) :: (1, 0, 2, 0, 4, 1) :: (1, 1, 0, 0, 5, 1) :: (12, 13, 3, 0, 6, 3) :: (4, 0, 0, 0, 9, 1) :: (14, 14, 0, 0, 10, 3) :: xc_209_13
noncomputable def xj_209 : Lean.RArray (List XE) := .branch 14 (.leaf xc_209_13) (.leaf xc_209_14)
-- 210: EmberScript$Tokens.fillKeys(Ljava/lang/String;LEmberScript$Row;)V
set_option maxRecDepth 100000 in
noncomputable def xc_210_58 : List XE := (1, 1, 2, 0, 58, 1) :: (1, 2, 0, 0, 59, 1) :: (1, 3, 1, 0, 60, 1) :: (24, 302, 0, 1, 61, 3) :: (26, 9, 0, 0, 64, 1) :: []
set_option maxRecDepth 100000 in
noncomputable def xc_210_52 : List XE := (5, 5, 3, 0, 52, 3) :: (14, 7, 0, 0, 55, 3) :: xc_210_58
set_option maxRecDepth 100000 in
noncomputable def xc_210_45 : List XE := (1, 3, 1, 0, 45, 1) :: (1, 6, 0, 0, 46, 2) :: (24, 303, 0, 0, 48, 3) :: (3, 3, 1, 0, 51, 1) :: xc_210_52
set_option maxRecDepth 100000 in
noncomputable def xc_210_7 : List XE := (1, 5, 0, 0, 7, 2) :: (1, 0, 2, 0, 9, 1) :: (32, 0, 0, 0, 10, 3) :: (13, 58, 3, 0, 13, 3) :: (1, 0, 2, 0, 16, 1) :: (1, 5, 0, 0, 17, 2) :: (33, 0, 0, 0, 19, 3) :: (2, 6, 0, 0, 22, 2) :: (1, 6, 0, 0, 24, 2) :: (4, 42, 0, 0, 26, 2) :: (13, 45, 1, 0, 28, 3) :: (1, 1, 2, 0, 31, 1) :: (1, 2, 0, 0, 32, 1) :: (1, 3, 1, 0, 33, 1) :: (24, 302, 0, 1, 34, 3) :: (5, 2, 3, 0, 37, 3) :: (4, 1, 0, 0, 40, 1) :: (3, 3, 1, 0, 41, 1) :: (14, 52, 0, 0, 42, 3) :: xc_210_45
set_option maxRecDepth 100000 in
noncomputable def xc_210_0 : List XE := (4, 0, 0, 0, 0, 1) :: (2, 2, 0, 0, 1, 1) :: (4, 1, 0, 0, 2, 1) :: (3, 3, 1, 0, 3, 1) :: (4, 0, 0, 0, 4, 1) :: (2, 5, 0, 0, 5, 2) :: xc_210_7
noncomputable def xj_210 : Lean.RArray (List XE) := .branch 52 (.branch 45 (.leaf xc_210_7) (.leaf xc_210_45)) (.branch 58 (.leaf xc_210_52) (.leaf xc_210_58))
-- 211: EmberScript$Names.<init>()V
set_option maxRecDepth 100000 in
noncomputable def xc_211_0 : List XE := (1, 0, 2, 0, 0, 1) :: (25, 0, 0, 0, 1, 3) :: (1, 0, 2, 0, 4, 1) :: (21, 0, 0, 0, 5, 3) :: (34, 0, 0, 0, 8, 1) :: (4, 31, 0, 0, 9, 3) :: (24, 209, 2, 1, 12, 3) :: (17, 2, 0, 2, 15, 3) :: (1, 0, 2, 0, 18, 1) :: (21, 0, 0, 0, 19, 3) :: (34, 0, 0, 0, 22, 1) :: (4, 31, 0, 0, 23, 3) :: (24, 209, 2, 1, 26, 3) :: (17, 2, 1, 2, 29, 3) :: (1, 0, 2, 0, 32, 1) :: (21, 0, 0, 0, 33, 3) :: (34, 0, 0, 0, 36, 1) :: (4, 31, 0, 0, 37, 3) :: (24, 209, 2, 1, 40, 3) :: (17, 2, 2, 2, 43, 3) :: (1, 0, 2, 0, 46, 1) :: (21, 0, 0, 0, 47, 3) :: (34, 0, 0, 0, 50, 1) :: (4, 50, 0, 0, 51, 3) :: (24, 209, 2, 1, 54, 3) :: (17, 2, 3, 2, 57, 3) :: (26, 9, 0, 0, 60, 1) :: []
noncomputable def xj_211 : Lean.RArray (List XE) := .leaf []
-- 212: EmberScript$Things.<init>()V
set_option maxRecDepth 100000 in
noncomputable def xc_212_0 : List XE := (1, 0, 2, 0, 0, 1) :: (25, 0, 0, 0, 1, 3) :: (1, 0, 2, 0, 4, 1) :: (21, 0, 0, 0, 5, 3) :: (34, 0, 0, 0, 8, 1) :: (4, 19, 0, 0, 9, 2) :: (24, 209, 2, 1, 11, 3) :: (17, 5, 0, 2, 14, 3) :: (1, 0, 2, 0, 17, 1) :: (21, 0, 0, 0, 18, 3) :: (34, 0, 0, 0, 21, 1) :: (4, 19, 0, 0, 22, 2) :: (24, 209, 2, 1, 24, 3) :: (17, 5, 1, 2, 27, 3) :: (1, 0, 2, 0, 30, 1) :: (21, 0, 0, 0, 31, 3) :: (34, 0, 0, 0, 34, 1) :: (4, 19, 0, 0, 35, 2) :: (24, 209, 2, 1, 37, 3) :: (17, 5, 2, 2, 40, 3) :: (1, 0, 2, 0, 43, 1) :: (21, 0, 0, 0, 44, 3) :: (34, 0, 0, 0, 47, 1) :: (4, 19, 0, 0, 48, 2) :: (24, 209, 2, 1, 50, 3) :: (17, 5, 3, 2, 53, 3) :: (1, 0, 2, 0, 56, 1) :: (21, 0, 0, 0, 57, 3) :: (34, 0, 0, 0, 60, 1) :: (4, 19, 0, 0, 61, 2) :: (24, 209, 2, 1, 63, 3) :: (17, 5, 4, 2, 66, 3) :: (1, 0, 2, 0, 69, 1) :: (21, 0, 0, 0, 70, 3) :: (34, 0, 0, 0, 73, 1) :: (4, 19, 0, 0, 74, 2) :: (24, 209, 2, 1, 76, 3) :: (17, 5, 5, 2, 79, 3) :: (1, 0, 2, 0, 82, 1) :: (21, 0, 0, 0, 83, 3) :: (34, 0, 0, 0, 86, 1) :: (4, 19, 0, 0, 87, 2) :: (24, 209, 2, 1, 89, 3) :: (17, 5, 6, 2, 92, 3) :: (1, 0, 2, 0, 95, 1) :: (21, 0, 0, 0, 96, 3) :: (34, 0, 0, 0, 99, 1) :: (4, 38, 0, 0, 100, 3) :: (24, 209, 2, 1, 103, 3) :: (17, 5, 7, 2, 106, 3) :: (1, 0, 2, 0, 109, 1) :: (21, 0, 0, 0, 110, 3) :: (34, 0, 0, 0, 113, 1) :: (4, 38, 0, 0, 114, 3) :: (24, 209, 2, 1, 117, 3) :: (17, 5, 8, 2, 120, 3) :: (26, 9, 0, 0, 123, 1) :: []
noncomputable def xj_212 : Lean.RArray (List XE) := .leaf []
-- 213: EmberScript$Scopes.<init>()V
set_option maxRecDepth 100000 in
noncomputable def xc_213_0 : List XE := (1, 0, 2, 0, 0, 1) :: (25, 0, 0, 0, 1, 3) :: (1, 0, 2, 0, 4, 1) :: (21, 0, 0, 0, 5, 3) :: (34, 0, 0, 0, 8, 1) :: (4, 51, 0, 0, 9, 3) :: (24, 209, 2, 1, 12, 3) :: (17, 6, 0, 2, 15, 3) :: (1, 0, 2, 0, 18, 1) :: (21, 0, 0, 0, 19, 3) :: (34, 0, 0, 0, 22, 1) :: (4, 52, 0, 0, 23, 3) :: (24, 209, 2, 1, 26, 3) :: (17, 6, 1, 2, 29, 3) :: (1, 0, 2, 0, 32, 1) :: (21, 0, 0, 0, 33, 3) :: (34, 0, 0, 0, 36, 1) :: (4, 52, 0, 0, 37, 3) :: (24, 209, 2, 1, 40, 3) :: (17, 6, 2, 2, 43, 3) :: (1, 0, 2, 0, 46, 1) :: (21, 0, 0, 0, 47, 3) :: (34, 0, 0, 0, 50, 1) :: (4, 52, 0, 0, 51, 3) :: (24, 209, 2, 1, 54, 3) :: (17, 6, 3, 2, 57, 3) :: (26, 9, 0, 0, 60, 1) :: []
noncomputable def xj_213 : Lean.RArray (List XE) := .leaf []
-- 214: EmberScript$Frames.<init>()V
set_option maxRecDepth 100000 in
noncomputable def xc_214_0 : List XE := (1, 0, 2, 0, 0, 1) :: (25, 0, 0, 0, 1, 3) :: (1, 0, 2, 0, 4, 1) :: (21, 0, 0, 0, 5, 3) :: (34, 0, 0, 0, 8, 1) :: (4, 53, 0, 0, 9, 2) :: (24, 209, 2, 1, 11, 3) :: (17, 7, 0, 2, 14, 3) :: (1, 0, 2, 0, 17, 1) :: (21, 0, 0, 0, 18, 3) :: (34, 0, 0, 0, 21, 1) :: (4, 53, 0, 0, 22, 2) :: (24, 209, 2, 1, 24, 3) :: (17, 7, 1, 2, 27, 3) :: (1, 0, 2, 0, 30, 1) :: (21, 0, 0, 0, 31, 3) :: (34, 0, 0, 0, 34, 1) :: (4, 53, 0, 0, 35, 2) :: (24, 209, 2, 1, 37, 3) :: (17, 7, 2, 2, 40, 3) :: (1, 0, 2, 0, 43, 1) :: (21, 0, 0, 0, 44, 3) :: (34, 0, 0, 0, 47, 1) :: (4, 53, 0, 0, 48, 2) :: (24, 209, 2, 1, 50, 3) :: (17, 7, 3, 2, 53, 3) :: (1, 0, 2, 0, 56, 1) :: (21, 0, 0, 0, 57, 3) :: (34, 0, 0, 0, 60, 1) :: (4, 53, 0, 0, 61, 2) :: (24, 209, 2, 1, 63, 3) :: (17, 7, 4, 2, 66, 3) :: (1, 0, 2, 0, 69, 1) :: (21, 0, 0, 0, 70, 3) :: (34, 0, 0, 0, 73, 1) :: (4, 54, 0, 0, 74, 3) :: (24, 209, 2, 1, 77, 3) :: (17, 7, 5, 2, 80, 3) :: (1, 0, 2, 0, 83, 1) :: (21, 0, 0, 0, 84, 3) :: (34, 0, 0, 0, 87, 1) :: (4, 54, 0, 0, 88, 3) :: (24, 209, 2, 1, 91, 3) :: (17, 7, 6, 2, 94, 3) :: (1, 0, 2, 0, 97, 1) :: (21, 0, 0, 0, 98, 3) :: (34, 0, 0, 0, 101, 1) :: (4, 54, 0, 0, 102, 3) :: (24, 209, 2, 1, 105, 3) :: (17, 7, 7, 2, 108, 3) :: (1, 0, 2, 0, 111, 1) :: (21, 0, 0, 0, 112, 3) :: (34, 0, 0, 0, 115, 1) :: (4, 24, 0, 0, 116, 2) :: (24, 209, 2, 1, 118, 3) :: (17, 7, 8, 2, 121, 3) :: (1, 0, 2, 0, 124, 1) :: (21, 0, 0, 0, 125, 3) :: (34, 0, 0, 0, 128, 1) :: (4, 24, 0, 0, 129, 2) :: (24, 209, 2, 1, 131, 3) :: (17, 7, 9, 2, 134, 3) :: (1, 0, 2, 0, 137, 1) :: (21, 0, 0, 0, 138, 3) :: (34, 0, 0, 0, 141, 1) :: (4, 55, 0, 0, 142, 3) :: (24, 209, 2, 1, 145, 3) :: (17, 7, 10, 2, 148, 3) :: (26, 9, 0, 0, 151, 1) :: []
noncomputable def xj_214 : Lean.RArray (List XE) := .leaf []
-- 215: EmberScript$Reach.<init>(LEmberScript$Things;LEmberScript$Scopes;LEmberScript$Frames;)V
set_option maxRecDepth 100000 in
noncomputable def xc_215_0 : List XE := (1, 0, 2, 0, 0, 1) :: (25, 0, 0, 0, 1, 3) :: (1, 0, 2, 0, 4, 1) :: (21, 0, 0, 0, 5, 3) :: (34, 0, 0, 0, 8, 1) :: (4, 19, 0, 0, 9, 2) :: (24, 209, 2, 1, 11, 3) :: (17, 8, 3, 2, 14, 3) :: (1, 0, 2, 0, 17, 1) :: (21, 0, 0, 0, 18, 3) :: (34, 0, 0, 0, 21, 1) :: (4, 56, 0, 0, 22, 2) :: (24, 209, 2, 1, 24, 3) :: (17, 8, 4, 2, 27, 3) :: (1, 0, 2, 0, 30, 1) :: (21, 0, 0, 0, 31, 3) :: (34, 0, 0, 0, 34, 1) :: (4, 52, 0, 0, 35, 3) :: (24, 209, 2, 1, 38, 3) :: (17, 8, 5, 2, 41, 3) :: (1, 0, 2, 0, 44, 1) :: (1, 1, 2, 0, 45, 1) :: (17, 8, 0, 2, 46, 3) :: (1, 0, 2, 0, 49, 1) :: (1, 2, 2, 0, 50, 1) :: (17, 8, 1, 2, 51, 3) :: (1, 0, 2, 0, 54, 1) :: (1, 3, 2, 0, 55, 1) :: (17, 8, 2, 2, 56, 3) :: (26, 9, 0, 0, 59, 1) :: []
noncomputable def xj_215 : Lean.RArray (List XE) := .leaf []
-- 216: EmberScriptModel$Script.<init>()V
set_option maxRecDepth 100000 in
noncomputable def xc_216_0 : List XE := (1, 0, 2, 0, 0, 1) :: (25, 0, 0, 0, 1, 3) :: (1, 0, 2, 0, 4, 1) :: (4, 3, 0, 0, 5, 1) :: (17, 11, 0, 0, 6, 3) :: (1, 0, 2, 0, 9, 1) :: (4, 57, 0, 0, 10, 3) :: (22, 0, 0, 0, 13, 2) :: (17, 11, 1, 2, 15, 3) :: (1, 0, 2, 0, 18, 1) :: (4, 57, 0, 0, 19, 3) :: (22, 0, 0, 0, 22, 2) :: (17, 11, 2, 2, 24, 3) :: (1, 0, 2, 0, 27, 1) :: (4, 57, 0, 0, 28, 3) :: (22, 0, 0, 0, 31, 2) :: (17, 11, 3, 2, 33, 3) :: (1, 0, 2, 0, 36, 1) :: (4, 57, 0, 0, 37, 3) :: (22, 0, 0, 0, 40, 2) :: (17, 11, 4, 2, 42, 3) :: (1, 0, 2, 0, 45, 1) :: (4, 57, 0, 0, 46, 3) :: (22, 0, 0, 0, 49, 2) :: (17, 11, 5, 2, 51, 3) :: (1, 0, 2, 0, 54, 1) :: (4, 57, 0, 0, 55, 3) :: (22, 0, 0, 0, 58, 2) :: (17, 11, 6, 2, 60, 3) :: (1, 0, 2, 0, 63, 1) :: (4, 57, 0, 0, 64, 3) :: (22, 0, 0, 0, 67, 2) :: (17, 11, 7, 2, 69, 3) :: (1, 0, 2, 0, 72, 1) :: (4, 57, 0, 0, 73, 3) :: (22, 0, 0, 0, 76, 2) :: (17, 11, 8, 2, 78, 3) :: (1, 0, 2, 0, 81, 1) :: (4, 36, 0, 0, 82, 3) :: (22, 0, 0, 0, 85, 2) :: (17, 11, 10, 2, 87, 3) :: (1, 0, 2, 0, 90, 1) :: (4, 36, 0, 0, 91, 3) :: (22, 0, 0, 0, 94, 2) :: (17, 11, 11, 2, 96, 3) :: (1, 0, 2, 0, 99, 1) :: (4, 36, 0, 0, 100, 3) :: (22, 0, 0, 0, 103, 2) :: (17, 11, 12, 2, 105, 3) :: (1, 0, 2, 0, 108, 1) :: (4, 36, 0, 0, 109, 3) :: (22, 0, 0, 0, 112, 2) :: (17, 11, 13, 2, 114, 3) :: (1, 0, 2, 0, 117, 1) :: (4, 36, 0, 0, 118, 3) :: (22, 2, 0, 0, 121, 2) :: (17, 11, 14, 2, 123, 3) :: (26, 9, 0, 0, 126, 1) :: []
noncomputable def xj_216 : Lean.RArray (List XE) := .leaf []
-- 217: EmberScriptModel$Reader.learn(Ljava/lang/String;)V
set_option maxRecDepth 100000 in
noncomputable def xc_217_66 : List XE := (26, 9, 0, 0, 66, 1) :: []
set_option maxRecDepth 100000 in
noncomputable def xc_217_60 : List XE := (5, 3, 3, 0, 60, 3) :: (14, 7, 0, 0, 63, 3) :: xc_217_66
set_option maxRecDepth 100000 in
noncomputable def xc_217_49 : List XE := (1, 0, 2, 0, 49, 1) :: (1, 2, 0, 0, 50, 1) :: (24, 304, 0, 13, 51, 3) :: (35, 0, 0, 0, 54, 1) :: (1, 0, 2, 0, 55, 1) :: (16, 12, 8, 0, 56, 3) :: (2, 2, 0, 0, 59, 1) :: xc_217_60
set_option maxRecDepth 100000 in
noncomputable def xc_217_7 : List XE := (1, 3, 0, 0, 7, 1) :: (1, 1, 2, 0, 8, 1) :: (32, 0, 0, 0, 9, 3) :: (13, 66, 3, 0, 12, 3) :: (1, 1, 2, 0, 15, 1) :: (1, 3, 0, 0, 16, 1) :: (33, 0, 0, 0, 17, 3) :: (4, 42, 0, 0, 20, 2) :: (13, 49, 0, 0, 22, 3) :: (1, 0, 2, 0, 25, 1) :: (16, 12, 3, 2, 26, 3) :: (1, 0, 2, 0, 29, 1) :: (34, 0, 0, 0, 30, 1) :: (16, 12, 8, 0, 31, 3) :: (37, 0, 0, 0, 34, 1) :: (4, 3, 0, 0, 35, 1) :: (6, 0, 0, 0, 36, 1) :: (17, 12, 8, 0, 37, 3) :: (1, 1, 2, 0, 40, 1) :: (1, 3, 0, 0, 41, 1) :: (33, 0, 0, 0, 42, 3) :: (19, 0, 0, 0, 45, 1) :: (14, 60, 0, 0, 46, 3) :: xc_217_49
set_option maxRecDepth 100000 in
noncomputable def xc_217_0 : List XE := (1, 0, 2, 0, 0, 1) :: (16, 12, 8, 0, 1, 3) :: (2, 2, 0, 0, 4, 1) :: (4, 0, 0, 0, 5, 1) :: (2, 3, 0, 0, 6, 1) :: xc_217_7
noncomputable def xj_217 : Lean.RArray (List XE) := .branch 60 (.branch 49 (.leaf xc_217_7) (.leaf xc_217_49)) (.branch 66 (.leaf xc_217_60) (.leaf xc_217_66))
-- 218: EmberScript$Tokens.hasRoom(I)Z
set_option maxRecDepth 100000 in
noncomputable def xc_218_17 : List XE := (26, 0, 0, 0, 17, 1) :: []
set_option maxRecDepth 100000 in
noncomputable def xc_218_16 : List XE := (4, 0, 0, 0, 16, 1) :: xc_218_17
set_option maxRecDepth 100000 in
noncomputable def xc_218_0 : List XE := (1, 0, 2, 0, 0, 1) :: (16, 1, 5, 0, 1, 3) :: (1, 1, 0, 0, 4, 1) :: (6, 0, 0, 0, 5, 1) :: (4, 12, 0, 0, 6, 3) :: (13, 16, 4, 0, 9, 3) :: (4, 3, 0, 0, 12, 1) :: (14, 17, 0, 0, 13, 3) :: xc_218_16
noncomputable def xj_218 : Lean.RArray (List XE) := .branch 17 (.leaf xc_218_16) (.leaf xc_218_17)
-- 219: EmberScript$Tokens.append(I)V
set_option maxRecDepth 100000 in
noncomputable def xc_219_42 : List XE := (26, 9, 0, 0, 42, 1) :: []
set_option maxRecDepth 100000 in
noncomputable def xc_219_3 : List XE := (1, 2, 0, 0, 3, 1) :: (12, 42, 2, 0, 4, 3) :: (1, 0, 2, 0, 7, 1) :: (16, 1, 0, 2, 8, 3) :: (1, 0, 2, 0, 11, 1) :: (16, 1, 5, 0, 12, 3) :: (1, 1, 0, 0, 15, 1) :: (1, 2, 0, 0, 16, 1) :: (6, 8, 0, 0, 17, 1) :: (4, 45, 0, 0, 18, 3) :: (6, 3, 0, 0, 21, 1) :: (40, 0, 0, 0, 22, 1) :: (24, 302, 0, 1, 23, 3) :: (1, 0, 2, 0, 26, 1) :: (34, 0, 0, 0, 27, 1) :: (16, 1, 5, 0, 28, 3) :: (4, 3, 0, 0, 31, 1) :: (6, 0, 0, 0, 32, 1) :: (17, 1, 5, 0, 33, 3) :: (5, 2, 46, 0, 36, 3) :: (14, 3, 0, 0, 39, 3) :: xc_219_42
set_option maxRecDepth 100000 in
noncomputable def xc_219_0 : List XE := (4, 44, 0, 0, 0, 2) :: (2, 2, 0, 0, 2, 1) :: xc_219_3
noncomputable def xj_219 : Lean.RArray (List XE) := .branch 42 (.leaf xc_219_3) (.leaf xc_219_42)
-- 220: EmberScript$Tokens.length()I
set_option maxRecDepth 100000 in
noncomputable def xc_220_0 : List XE := (1, 0, 2, 0, 0, 1) :: (16, 1, 5, 0, 1, 3) :: (26, 0, 0, 0, 4, 1) :: []
noncomputable def xj_220 : Lean.RArray (List XE) := .leaf []
-- 221: EmberScript$Reader.begin()V
set_option maxRecDepth 100000 in
noncomputable def xc_221_0 : List XE := (1, 0, 2, 0, 0, 1) :: (16, 4, 1, 2, 1, 3) :: (24, 305, 0, 3, 4, 3) :: (1, 0, 2, 0, 7, 1) :: (16, 4, 2, 2, 8, 3) :: (24, 306, 0, 4, 11, 3) :: (1, 0, 2, 0, 14, 1) :: (4, 0, 0, 0, 15, 1) :: (17, 4, 8, 0, 16, 3) :: (1, 0, 2, 0, 19, 1) :: (4, 0, 0, 0, 20, 1) :: (17, 4, 9, 0, 21, 3) :: (1, 0, 2, 0, 24, 1) :: (4, 0, 0, 0, 25, 1) :: (17, 4, 10, 0, 26, 3) :: (1, 0, 2, 0, 29, 1) :: (4, 0, 0, 0, 30, 1) :: (17, 4, 11, 4, 31, 3) :: (1, 0, 2, 0, 34, 1) :: (4, 11, 0, 0, 35, 1) :: (17, 4, 12, 0, 36, 3) :: (1, 0, 2, 0, 39, 1) :: (4, 11, 0, 0, 40, 1) :: (17, 4, 13, 0, 41, 3) :: (1, 0, 2, 0, 44, 1) :: (4, 0, 0, 0, 45, 1) :: (17, 4, 14, 0, 46, 3) :: (1, 0, 2, 0, 49, 1) :: (4, 0, 0, 0, 50, 1) :: (17, 4, 15, 0, 51, 3) :: (26, 9, 0, 0, 54, 1) :: []
noncomputable def xj_221 : Lean.RArray (List XE) := .leaf []
-- 222: EmberScript$Tokens.split()V
set_option maxRecDepth 100000 in
noncomputable def xc_222_113 : List XE := (26, 9, 0, 0, 113, 1) :: []
set_option maxRecDepth 100000 in
noncomputable def xc_222_106 : List XE := (2, 2, 0, 0, 106, 1) :: (5, 3, 3, 0, 107, 3) :: (14, 11, 0, 0, 110, 3) :: xc_222_113
set_option maxRecDepth 100000 in
noncomputable def xc_222_105 : List XE := (4, 0, 0, 0, 105, 1) :: xc_222_106
set_option maxRecDepth 100000 in
noncomputable def xc_222_75 : List XE := (1, 0, 2, 0, 75, 1) :: (16, 1, 2, 2, 76, 3) :: (1, 0, 2, 0, 79, 1) :: (16, 1, 6, 0, 80, 3) :: (4, 3, 0, 0, 83, 1) :: (6, 1, 0, 0, 84, 1) :: (24, 272, 0, 1, 85, 3) :: (2, 4, 0, 0, 88, 2) :: (1, 4, 0, 0, 90, 2) :: (4, 3, 0, 0, 92, 1) :: (13, 105, 0, 0, 93, 3) :: (1, 4, 0, 0, 96, 2) :: (12, 105, 0, 0, 98, 3) :: (4, 3, 0, 0, 101, 1) :: (14, 106, 0, 0, 102, 3) :: xc_222_105
set_option maxRecDepth 100000 in
noncomputable def xc_222_69 : List XE := (1, 0, 2, 0, 69, 1) :: (1, 1, 0, 0, 70, 1) :: (0, 0, 0, 0, 71, 3) :: (2, 1, 0, 0, 74, 1) :: xc_222_75
set_option maxRecDepth 100000 in
noncomputable def xc_222_49 : List XE := (1, 0, 2, 0, 49, 1) :: (16, 1, 6, 0, 50, 3) :: (4, 31, 0, 0, 53, 3) :: (13, 69, 1, 0, 56, 3) :: (1, 0, 2, 0, 59, 1) :: (4, 0, 0, 0, 60, 1) :: (1, 1, 0, 0, 61, 1) :: (4, 1, 0, 0, 62, 1) :: (24, 308, 0, 2, 63, 3) :: (14, 75, 0, 0, 66, 3) :: xc_222_69
set_option maxRecDepth 100000 in
noncomputable def xc_222_11 : List XE := (1, 3, 0, 0, 11, 1) :: (4, 31, 0, 0, 12, 3) :: (13, 113, 4, 0, 15, 3) :: (1, 2, 0, 0, 18, 1) :: (12, 113, 0, 0, 19, 3) :: (1, 0, 2, 0, 22, 1) :: (1, 1, 0, 0, 23, 1) :: (24, 307, 0, 2, 24, 3) :: (2, 1, 0, 0, 27, 1) :: (1, 1, 0, 0, 28, 1) :: (1, 0, 2, 0, 29, 1) :: (16, 1, 5, 0, 30, 3) :: (13, 49, 2, 0, 33, 3) :: (1, 0, 2, 0, 36, 1) :: (4, 3, 0, 0, 37, 1) :: (1, 0, 2, 0, 38, 1) :: (16, 1, 5, 0, 39, 3) :: (4, 1, 0, 0, 42, 1) :: (24, 308, 0, 2, 43, 3) :: (14, 75, 0, 0, 46, 3) :: xc_222_49
set_option maxRecDepth 100000 in
noncomputable def xc_222_0 : List XE := (1, 0, 2, 0, 0, 1) :: (4, 0, 0, 0, 1, 1) :: (17, 1, 6, 0, 2, 3) :: (4, 0, 0, 0, 5, 1) :: (2, 1, 0, 0, 6, 1) :: (4, 3, 0, 0, 7, 1) :: (2, 2, 0, 0, 8, 1) :: (4, 0, 0, 0, 9, 1) :: (2, 3, 0, 0, 10, 1) :: xc_222_11
noncomputable def xj_222 : Lean.RArray (List XE) := .branch 75 (.branch 49 (.leaf xc_222_11) (.branch 69 (.leaf xc_222_49) (.leaf xc_222_69))) (.branch 106 (.branch 105 (.leaf xc_222_75) (.leaf xc_222_105)) (.branch 113 (.leaf xc_222_106) (.leaf xc_222_113)))
-- 223: EmberScript$Reader.statements(I)V
set_option maxRecDepth 100000 in
noncomputable def xc_223_27 : List XE := (26, 9, 0, 0, 27, 1) :: []
set_option maxRecDepth 100000 in
noncomputable def xc_223_2 : List XE := (1, 2, 0, 0, 2, 1) :: (4, 31, 0, 0, 3, 3) :: (13, 27, 3, 0, 6, 3) :: (1, 0, 2, 0, 9, 1) :: (24, 309, 0, 5, 10, 3) :: (12, 27, 0, 0, 13, 3) :: (1, 0, 2, 0, 16, 1) :: (1, 1, 0, 0, 17, 1) :: (0, 0, 0, 0, 18, 3) :: (5, 2, 3, 0, 21, 3) :: (14, 2, 0, 0, 24, 3) :: xc_223_27
set_option maxRecDepth 100000 in
noncomputable def xc_223_0 : List XE := (4, 0, 0, 0, 0, 1) :: (2, 2, 0, 0, 1, 1) :: xc_223_2
noncomputable def xj_223 : Lean.RArray (List XE) := .branch 27 (.leaf xc_223_2) (.leaf xc_223_27)
-- 224: EmberScript$Reader.need(I)V
set_option maxRecDepth 100000 in
noncomputable def xc_224_40 : List XE := (26, 9, 0, 0, 40, 1) :: []
set_option maxRecDepth 100000 in
noncomputable def xc_224_30 : List XE := (1, 0, 2, 0, 30, 1) :: (34, 0, 0, 0, 31, 1) :: (16, 4, 10, 0, 32, 3) :: (4, 3, 0, 0, 35, 1) :: (6, 0, 0, 0, 36, 1) :: (17, 4, 10, 0, 37, 3) :: xc_224_40
set_option maxRecDepth 100000 in
noncomputable def xc_224_22 : List XE := (1, 0, 2, 0, 22, 1) :: (4, 3, 0, 0, 23, 1) :: (17, 4, 11, 4, 24, 3) :: (14, 40, 0, 0, 27, 3) :: xc_224_30
set_option maxRecDepth 100000 in
noncomputable def xc_224_0 : List XE := (1, 0, 2, 0, 0, 1) :: (16, 4, 11, 4, 1, 3) :: (12, 22, 1, 0, 4, 3) :: (1, 0, 2, 0, 7, 1) :: (16, 4, 0, 2, 8, 3) :: (1, 0, 2, 0, 11, 1) :: (16, 4, 10, 0, 12, 3) :: (24, 310, 0, 2, 15, 3) :: (1, 1, 0, 0, 18, 1) :: (13, 30, 0, 0, 19, 3) :: xc_224_22
noncomputable def xj_224 : Lean.RArray (List XE) := .branch 30 (.leaf xc_224_22) (.branch 40 (.leaf xc_224_30) (.leaf xc_224_40))
-- 225: EmberScript$Script.add(III)I
set_option maxRecDepth 100000 in
noncomputable def xc_225_43 : List XE := (1, 4, 0, 0, 43, 2) :: (26, 0, 0, 0, 45, 1) :: []
set_option maxRecDepth 100000 in
noncomputable def xc_225_0 : List XE := (1, 0, 2, 0, 0, 1) :: (16, 3, 8, 0, 1, 3) :: (2, 4, 0, 0, 4, 2) :: (1, 4, 0, 0, 6, 2) :: (4, 32, 0, 0, 8, 3) :: (13, 43, 3, 0, 11, 3) :: (1, 0, 2, 0, 14, 1) :: (16, 3, 0, 2, 15, 3) :: (1, 4, 0, 0, 18, 2) :: (1, 1, 0, 0, 20, 1) :: (40, 0, 0, 0, 21, 1) :: (24, 302, 0, 1, 22, 3) :: (1, 0, 2, 0, 25, 1) :: (1, 4, 0, 0, 26, 2) :: (1, 2, 0, 0, 28, 1) :: (1, 3, 0, 0, 29, 1) :: (24, 311, 0, 4, 30, 3) :: (1, 0, 2, 0, 33, 1) :: (34, 0, 0, 0, 34, 1) :: (16, 3, 8, 0, 35, 3) :: (4, 3, 0, 0, 38, 1) :: (6, 0, 0, 0, 39, 1) :: (17, 3, 8, 0, 40, 3) :: xc_225_43
noncomputable def xj_225 : Lean.RArray (List XE) := .leaf xc_225_43
-- 226: EmberScript$Reader.resolve()V
set_option maxRecDepth 100000 in
noncomputable def xc_226_143 : List XE := (26, 9, 0, 0, 143, 1) :: []
set_option maxRecDepth 100000 in
noncomputable def xc_226_137 : List XE := (5, 1, 3, 0, 137, 3) :: (14, 2, 0, 0, 140, 3) :: xc_226_143
set_option maxRecDepth 100000 in
noncomputable def xc_226_85 : List XE := (1, 2, 0, 0, 85, 1) :: (4, 60, 0, 0, 86, 2) :: (13, 137, 1, 0, 88, 3) :: (1, 0, 2, 0, 91, 1) :: (16, 4, 2, 2, 92, 3) :: (1, 1, 0, 0, 95, 1) :: (24, 260, 0, 4, 96, 3) :: (4, 11, 0, 0, 99, 1) :: (13, 137, 0, 0, 100, 3) :: (1, 0, 2, 0, 103, 1) :: (16, 4, 2, 2, 104, 3) :: (1, 0, 2, 0, 107, 1) :: (16, 4, 2, 2, 108, 3) :: (1, 1, 0, 0, 111, 1) :: (24, 263, 0, 4, 112, 3) :: (24, 271, 0, 4, 115, 3) :: (12, 137, 0, 0, 118, 3) :: (1, 0, 2, 0, 121, 1) :: (16, 4, 1, 2, 122, 3) :: (4, 8, 0, 0, 125, 1) :: (1, 0, 2, 0, 126, 1) :: (16, 4, 2, 2, 127, 3) :: (1, 1, 0, 0, 130, 1) :: (24, 260, 0, 4, 131, 3) :: (0, 0, 0, 0, 134, 3) :: xc_226_137
set_option maxRecDepth 100000 in
noncomputable def xc_226_68 : List XE := (1, 0, 2, 0, 68, 1) :: (1, 1, 0, 0, 69, 1) :: (1, 2, 0, 0, 70, 1) :: (1, 0, 2, 0, 71, 1) :: (16, 4, 2, 2, 72, 3) :: (1, 1, 0, 0, 75, 1) :: (24, 260, 0, 4, 76, 3) :: (0, 0, 0, 0, 79, 3) :: (14, 137, 0, 0, 82, 3) :: xc_226_85
set_option maxRecDepth 100000 in
noncomputable def xc_226_56 : List XE := (1, 2, 0, 0, 56, 1) :: (4, 58, 0, 0, 57, 2) :: (13, 68, 0, 0, 59, 3) :: (1, 2, 0, 0, 62, 1) :: (4, 59, 0, 0, 63, 2) :: (13, 85, 1, 0, 65, 3) :: xc_226_68
set_option maxRecDepth 100000 in
noncomputable def xc_226_32 : List XE := (1, 0, 2, 0, 32, 1) :: (1, 1, 0, 0, 33, 1) :: (1, 0, 2, 0, 34, 1) :: (16, 4, 2, 2, 35, 3) :: (1, 1, 0, 0, 38, 1) :: (24, 260, 0, 4, 39, 3) :: (1, 0, 2, 0, 42, 1) :: (16, 4, 2, 2, 43, 3) :: (1, 1, 0, 0, 46, 1) :: (24, 263, 0, 4, 47, 3) :: (0, 0, 0, 0, 50, 3) :: (14, 137, 0, 0, 53, 3) :: xc_226_56
set_option maxRecDepth 100000 in
noncomputable def xc_226_2 : List XE := (1, 1, 0, 0, 2, 1) :: (1, 0, 2, 0, 3, 1) :: (16, 4, 2, 2, 4, 3) :: (24, 312, 0, 4, 7, 3) :: (13, 143, 3, 0, 10, 3) :: (1, 0, 2, 0, 13, 1) :: (16, 4, 2, 2, 14, 3) :: (1, 1, 0, 0, 17, 1) :: (24, 236, 0, 4, 18, 3) :: (2, 2, 0, 0, 21, 1) :: (1, 2, 0, 0, 22, 1) :: (4, 8, 0, 0, 23, 1) :: (13, 32, 0, 0, 24, 3) :: (1, 2, 0, 0, 27, 1) :: (4, 9, 0, 0, 28, 1) :: (13, 56, 1, 0, 29, 3) :: xc_226_32
set_option maxRecDepth 100000 in
noncomputable def xc_226_0 : List XE := (4, 0, 0, 0, 0, 1) :: (2, 1, 0, 0, 1, 1) :: xc_226_2
noncomputable def xj_226 : Lean.RArray (List XE) := .branch 68 (.branch 32 (.leaf xc_226_2) (.branch 56 (.leaf xc_226_32) (.leaf xc_226_56))) (.branch 137 (.branch 85 (.leaf xc_226_68) (.leaf xc_226_85)) (.branch 143 (.leaf xc_226_137) (.leaf xc_226_143)))
-- 227: EmberScript$Names.wordCount()I
set_option maxRecDepth 100000 in
noncomputable def xc_227_0 : List XE := (1, 0, 2, 0, 0, 1) :: (16, 2, 5, 0, 1, 3) :: (26, 0, 0, 0, 4, 1) :: []
noncomputable def xj_227 : Lean.RArray (List XE) := .leaf []
-- 228: EmberScript$Script.setWordCount(I)V
set_option maxRecDepth 100000 in
noncomputable def xc_228_0 : List XE := (1, 0, 2, 0, 0, 1) :: (1, 1, 0, 0, 1, 1) :: (17, 3, 10, 0, 2, 3) :: (26, 9, 0, 0, 5, 1) :: []
noncomputable def xj_228 : Lean.RArray (List XE) := .leaf []
-- 229: EmberScript$Names.error()I
set_option maxRecDepth 100000 in
noncomputable def xc_229_0 : List XE := (1, 0, 2, 0, 0, 1) :: (16, 2, 6, 0, 1, 3) :: (26, 0, 0, 0, 4, 1) :: []
noncomputable def xj_229 : Lean.RArray (List XE) := .leaf []
-- 230: EmberScript$Names.errorToken()I
set_option maxRecDepth 100000 in
noncomputable def xc_230_0 : List XE := (1, 0, 2, 0, 0, 1) :: (16, 2, 7, 0, 1, 3) :: (26, 0, 0, 0, 4, 1) :: []
noncomputable def xj_230 : Lean.RArray (List XE) := .leaf []
-- 231: EmberScript$Tokens.textPlace(I)I
set_option maxRecDepth 100000 in
noncomputable def xc_231_0 : List XE := (1, 0, 2, 0, 0, 1) :: (16, 1, 3, 2, 1, 3) :: (1, 1, 0, 0, 4, 1) :: (24, 272, 0, 1, 5, 3) :: (26, 0, 0, 0, 8, 1) :: []
noncomputable def xj_231 : Lean.RArray (List XE) := .leaf []
-- 232: EmberScript$Row.copyFrom(LEmberScript$Row;)V
set_option maxRecDepth 100000 in
noncomputable def xc_232_0 : List XE := (1, 1, 2, 0, 0, 1) :: (16, 0, 0, 2, 1, 3) :: (4, 0, 0, 0, 4, 1) :: (1, 0, 2, 0, 5, 1) :: (16, 0, 0, 2, 6, 3) :: (4, 0, 0, 0, 9, 1) :: (1, 0, 2, 0, 10, 1) :: (16, 0, 0, 2, 11, 3) :: (20, 0, 0, 0, 14, 1) :: (1, 1, 2, 0, 15, 1) :: (16, 0, 0, 2, 16, 3) :: (20, 0, 0, 0, 19, 1) :: (31, 0, 0, 0, 20, 3) :: (30, 0, 0, 0, 23, 3) :: (26, 9, 0, 0, 26, 1) :: []
noncomputable def xj_232 : Lean.RArray (List XE) := .leaf []
-- 233: EmberScript$Things.clear()V
set_option maxRecDepth 100000 in
noncomputable def xc_233_0 : List XE := (1, 0, 2, 0, 0, 1) :: (16, 5, 0, 2, 1, 3) :: (4, 1, 0, 0, 4, 1) :: (24, 313, 0, 1, 5, 3) :: (1, 0, 2, 0, 8, 1) :: (4, 0, 0, 0, 9, 1) :: (17, 5, 9, 0, 10, 3) :: (26, 9, 0, 0, 13, 1) :: []
noncomputable def xj_233 : Lean.RArray (List XE) := .leaf []
-- 234: EmberScript$Scopes.clear()V
set_option maxRecDepth 100000 in
noncomputable def xc_234_0 : List XE := (1, 0, 2, 0, 0, 1) :: (16, 6, 0, 2, 1, 3) :: (4, 1, 0, 0, 4, 1) :: (24, 313, 0, 1, 5, 3) :: (1, 0, 2, 0, 8, 1) :: (16, 6, 3, 2, 9, 3) :: (4, 1, 0, 0, 12, 1) :: (24, 313, 0, 1, 13, 3) :: (1, 0, 2, 0, 16, 1) :: (24, 314, 0, 7, 17, 3) :: (26, 9, 0, 0, 20, 1) :: []
noncomputable def xj_234 : Lean.RArray (List XE) := .leaf []
-- 235: EmberScript$Frames.clear()V
set_option maxRecDepth 100000 in
noncomputable def xc_235_0 : List XE := (1, 0, 2, 0, 0, 1) :: (4, 0, 0, 0, 1, 1) :: (17, 7, 11, 0, 2, 3) :: (1, 0, 2, 0, 5, 1) :: (4, 0, 0, 0, 6, 1) :: (17, 7, 12, 0, 7, 3) :: (1, 0, 2, 0, 10, 1) :: (4, 0, 0, 0, 11, 1) :: (4, 11, 0, 0, 12, 1) :: (4, 0, 0, 0, 13, 1) :: (4, 1, 0, 0, 14, 1) :: (4, 0, 0, 0, 15, 1) :: (24, 315, 0, 8, 16, 3) :: (26, 9, 0, 0, 19, 1) :: []
noncomputable def xj_235 : Lean.RArray (List XE) := .leaf []
-- 236: EmberScript$Script.operation(I)I
set_option maxRecDepth 100000 in
noncomputable def xc_236_0 : List XE := (1, 0, 2, 0, 0, 1) :: (16, 3, 0, 2, 1, 3) :: (1, 1, 0, 0, 4, 1) :: (24, 272, 0, 1, 5, 3) :: (26, 0, 0, 0, 8, 1) :: []
noncomputable def xj_236 : Lean.RArray (List XE) := .leaf []
-- 237: EmberScriptModel$Reader.advance()V
set_option maxRecDepth 100000 in
noncomputable def xc_237_193 : List XE := (26, 9, 0, 0, 193, 1) :: []
set_option maxRecDepth 100000 in
noncomputable def xc_237_188 : List XE := (1, 0, 2, 0, 188, 1) :: (1, 1, 0, 0, 189, 1) :: (0, 0, 0, 0, 190, 3) :: xc_237_193
set_option maxRecDepth 100000 in
noncomputable def xc_237_174 : List XE := (1, 1, 0, 0, 174, 1) :: (24, 318, 0, 0, 175, 3) :: (12, 188, 0, 0, 178, 3) :: (1, 0, 2, 0, 181, 1) :: (0, 0, 0, 0, 182, 3) :: (14, 193, 0, 0, 185, 3) :: xc_237_188
set_option maxRecDepth 100000 in
noncomputable def xc_237_138 : List XE := (1, 1, 0, 0, 138, 1) :: (4, 47, 0, 0, 139, 2) :: (13, 174, 1, 0, 141, 3) :: (1, 0, 2, 0, 144, 1) :: (1, 0, 2, 0, 145, 1) :: (16, 12, 13, 0, 146, 3) :: (4, 3, 0, 0, 149, 1) :: (6, 0, 0, 0, 150, 1) :: (24, 317, 0, 13, 151, 3) :: (24, 316, 0, 0, 154, 3) :: (12, 174, 0, 0, 157, 3) :: (1, 0, 2, 0, 160, 1) :: (1, 0, 2, 0, 161, 1) :: (16, 12, 13, 0, 162, 3) :: (4, 3, 0, 0, 165, 1) :: (6, 0, 0, 0, 166, 1) :: (4, 3, 0, 0, 167, 1) :: (0, 0, 0, 0, 168, 3) :: (14, 193, 0, 0, 171, 3) :: xc_237_174
set_option maxRecDepth 100000 in
noncomputable def xc_237_99 : List XE := (1, 0, 2, 0, 99, 1) :: (34, 0, 0, 0, 100, 1) :: (16, 12, 18, 0, 101, 3) :: (4, 3, 0, 0, 104, 1) :: (6, 0, 0, 0, 105, 1) :: (17, 12, 18, 0, 106, 3) :: (1, 0, 2, 0, 109, 1) :: (16, 12, 0, 2, 110, 3) :: (1, 0, 2, 0, 113, 1) :: (16, 12, 13, 0, 114, 3) :: (18, 0, 0, 0, 117, 1) :: (2, 1, 0, 0, 118, 1) :: (1, 1, 0, 0, 119, 1) :: (24, 316, 0, 0, 120, 3) :: (12, 138, 0, 0, 123, 3) :: (1, 0, 2, 0, 126, 1) :: (1, 0, 2, 0, 127, 1) :: (16, 12, 13, 0, 128, 3) :: (4, 0, 0, 0, 131, 1) :: (0, 0, 0, 0, 132, 3) :: (14, 193, 0, 0, 135, 3) :: xc_237_138
set_option maxRecDepth 100000 in
noncomputable def xc_237_77 : List XE := (1, 0, 2, 0, 77, 1) :: (16, 12, 18, 0, 78, 3) :: (4, 31, 0, 0, 81, 3) :: (13, 99, 1, 0, 84, 3) :: (0, 0, 0, 0, 87, 3) :: (34, 0, 0, 0, 90, 1) :: (1, 0, 2, 0, 91, 1) :: (16, 12, 14, 0, 92, 3) :: (0, 0, 0, 0, 95, 3) :: (0, 0, 0, 0, 98, 1) :: xc_237_99
set_option maxRecDepth 100000 in
noncomputable def xc_237_52 : List XE := (1, 0, 2, 0, 52, 1) :: (1, 0, 2, 0, 53, 1) :: (16, 12, 13, 0, 54, 3) :: (17, 12, 14, 0, 57, 3) :: (1, 0, 2, 0, 60, 1) :: (4, 0, 0, 0, 61, 1) :: (17, 12, 15, 0, 62, 3) :: (1, 0, 2, 0, 65, 1) :: (16, 12, 13, 0, 66, 3) :: (1, 0, 2, 0, 69, 1) :: (16, 12, 1, 0, 70, 3) :: (13, 77, 1, 0, 73, 3) :: (26, 9, 0, 0, 76, 1) :: xc_237_77
set_option maxRecDepth 100000 in
noncomputable def xc_237_39 : List XE := (1, 0, 2, 0, 39, 1) :: (34, 0, 0, 0, 40, 1) :: (16, 12, 13, 0, 41, 3) :: (4, 3, 0, 0, 44, 1) :: (6, 0, 0, 0, 45, 1) :: (17, 12, 13, 0, 46, 3) :: (14, 0, 0, 0, 49, 3) :: xc_237_52
set_option maxRecDepth 100000 in
noncomputable def xc_237_0 : List XE := (1, 0, 2, 0, 0, 1) :: (16, 12, 13, 0, 1, 3) :: (1, 0, 2, 0, 4, 1) :: (16, 12, 1, 0, 5, 3) :: (13, 52, 3, 0, 8, 3) :: (1, 0, 2, 0, 11, 1) :: (16, 12, 0, 2, 12, 3) :: (1, 0, 2, 0, 15, 1) :: (16, 12, 13, 0, 16, 3) :: (18, 0, 0, 0, 19, 1) :: (4, 42, 0, 0, 20, 2) :: (13, 39, 0, 0, 22, 3) :: (1, 0, 2, 0, 25, 1) :: (16, 12, 0, 2, 26, 3) :: (1, 0, 2, 0, 29, 1) :: (16, 12, 13, 0, 30, 3) :: (18, 0, 0, 0, 33, 1) :: (4, 23, 0, 0, 34, 2) :: (13, 52, 1, 0, 36, 3) :: xc_237_39
noncomputable def xj_237 : Lean.RArray (List XE) := .branch 99 (.branch 52 (.branch 39 (.leaf xc_237_0) (.leaf xc_237_39)) (.branch 77 (.leaf xc_237_52) (.leaf xc_237_77))) (.branch 174 (.branch 138 (.leaf xc_237_99) (.leaf xc_237_138)) (.branch 188 (.leaf xc_237_174) (.branch 193 (.leaf xc_237_188) (.leaf xc_237_193))))
-- 238: EmberScriptModel$Reader.statements(I)I
set_option maxRecDepth 100000 in
noncomputable def xc_238_45 : List XE := (1, 2, 0, 0, 45, 1) :: (26, 0, 0, 0, 46, 1) :: []
set_option maxRecDepth 100000 in
noncomputable def xc_238_39 : List XE := (1, 4, 0, 0, 39, 2) :: (2, 3, 0, 0, 41, 1) :: (14, 4, 0, 0, 42, 3) :: xc_238_45
set_option maxRecDepth 100000 in
noncomputable def xc_238_28 : List XE := (1, 0, 2, 0, 28, 1) :: (16, 12, 2, 2, 29, 3) :: (16, 11, 7, 2, 32, 3) :: (1, 3, 0, 0, 35, 1) :: (1, 4, 0, 0, 36, 2) :: (19, 0, 0, 0, 38, 1) :: xc_238_39
set_option maxRecDepth 100000 in
noncomputable def xc_238_4 : List XE := (1, 0, 2, 0, 4, 1) :: (16, 12, 15, 0, 5, 3) :: (1, 1, 0, 0, 8, 1) :: (13, 45, 0, 0, 9, 3) :: (1, 0, 2, 0, 12, 1) :: (0, 0, 0, 0, 13, 3) :: (2, 4, 0, 0, 16, 2) :: (1, 2, 0, 0, 18, 1) :: (12, 28, 1, 0, 19, 3) :: (1, 4, 0, 0, 22, 2) :: (2, 2, 0, 0, 24, 1) :: (14, 39, 0, 0, 25, 3) :: xc_238_28
set_option maxRecDepth 100000 in
noncomputable def xc_238_0 : List XE := (4, 0, 0, 0, 0, 1) :: (2, 2, 0, 0, 1, 1) :: (4, 0, 0, 0, 2, 1) :: (2, 3, 0, 0, 3, 1) :: xc_238_4
noncomputable def xj_238 : Lean.RArray (List XE) := .branch 39 (.branch 28 (.leaf xc_238_4) (.leaf xc_238_28)) (.branch 45 (.leaf xc_238_39) (.leaf xc_238_45))
-- 239: EmberScriptModel$Reader.settleNames()V
set_option maxRecDepth 100000 in
noncomputable def xc_239_200 : List XE := (26, 9, 0, 0, 200, 1) :: []
set_option maxRecDepth 100000 in
noncomputable def xc_239_194 : List XE := (5, 1, 3, 0, 194, 3) :: (14, 150, 0, 0, 197, 3) :: xc_239_200
set_option maxRecDepth 100000 in
noncomputable def xc_239_150 : List XE := (1, 1, 0, 0, 150, 1) :: (1, 0, 2, 0, 151, 1) :: (16, 12, 2, 2, 152, 3) :: (16, 11, 9, 0, 155, 3) :: (13, 200, 3, 0, 158, 3) :: (1, 0, 2, 0, 161, 1) :: (16, 12, 2, 2, 162, 3) :: (16, 11, 14, 2, 165, 3) :: (1, 1, 0, 0, 168, 1) :: (18, 2, 0, 0, 169, 1) :: (12, 194, 0, 0, 170, 3) :: (1, 0, 2, 0, 173, 1) :: (16, 12, 12, 2, 174, 3) :: (1, 1, 0, 0, 177, 1) :: (18, 0, 0, 0, 178, 1) :: (4, 11, 0, 0, 179, 1) :: (13, 194, 0, 0, 180, 3) :: (1, 0, 2, 0, 183, 1) :: (1, 0, 2, 0, 184, 1) :: (16, 12, 12, 2, 185, 3) :: (1, 1, 0, 0, 188, 1) :: (18, 0, 0, 0, 189, 1) :: (4, 8, 0, 0, 190, 1) :: (0, 0, 0, 0, 191, 3) :: xc_239_194
set_option maxRecDepth 100000 in
noncomputable def xc_239_148 : List XE := (4, 0, 0, 0, 148, 1) :: (2, 1, 0, 0, 149, 1) :: xc_239_150
set_option maxRecDepth 100000 in
noncomputable def xc_239_142 : List XE := (5, 1, 3, 0, 142, 3) :: (14, 2, 0, 0, 145, 3) :: xc_239_148
set_option maxRecDepth 100000 in
noncomputable def xc_239_121 : List XE := (1, 0, 2, 0, 121, 1) :: (16, 12, 2, 2, 122, 3) :: (16, 11, 2, 2, 125, 3) :: (1, 1, 0, 0, 128, 1) :: (1, 3, 0, 0, 129, 1) :: (19, 0, 0, 0, 130, 1) :: (1, 0, 2, 0, 131, 1) :: (16, 12, 2, 2, 132, 3) :: (16, 11, 3, 2, 135, 3) :: (1, 1, 0, 0, 138, 1) :: (1, 4, 0, 0, 139, 2) :: (19, 0, 0, 0, 141, 1) :: xc_239_142
set_option maxRecDepth 100000 in
noncomputable def xc_239_101 : List XE := (1, 4, 0, 0, 101, 2) :: (4, 11, 0, 0, 103, 1) :: (13, 121, 1, 0, 104, 3) :: (1, 0, 2, 0, 107, 1) :: (1, 0, 2, 0, 108, 1) :: (16, 12, 2, 2, 109, 3) :: (16, 11, 8, 2, 112, 3) :: (1, 1, 0, 0, 115, 1) :: (18, 0, 0, 0, 116, 1) :: (4, 6, 0, 0, 117, 1) :: (0, 0, 0, 0, 118, 3) :: xc_239_121
set_option maxRecDepth 100000 in
noncomputable def xc_239_58 : List XE := (1, 4, 0, 0, 58, 2) :: (4, 11, 0, 0, 60, 1) :: (13, 101, 1, 0, 61, 3) :: (1, 2, 0, 0, 64, 1) :: (4, 11, 0, 0, 65, 1) :: (13, 101, 0, 0, 66, 3) :: (1, 0, 2, 0, 69, 1) :: (16, 12, 2, 2, 70, 3) :: (16, 11, 10, 2, 73, 3) :: (1, 2, 0, 0, 76, 1) :: (18, 0, 0, 0, 77, 1) :: (2, 2, 0, 0, 78, 1) :: (5, 3, 3, 0, 79, 3) :: (1, 0, 2, 0, 82, 1) :: (1, 2, 0, 0, 83, 1) :: (1, 0, 2, 0, 84, 1) :: (16, 12, 2, 2, 85, 3) :: (16, 11, 2, 2, 88, 3) :: (1, 1, 0, 0, 91, 1) :: (18, 0, 0, 0, 92, 1) :: (0, 0, 0, 0, 93, 3) :: (2, 4, 0, 0, 96, 2) :: (14, 58, 0, 0, 98, 3) :: xc_239_101
set_option maxRecDepth 100000 in
noncomputable def xc_239_30 : List XE := (1, 0, 2, 0, 30, 1) :: (16, 12, 2, 2, 31, 3) :: (16, 11, 3, 2, 34, 3) :: (1, 1, 0, 0, 37, 1) :: (18, 0, 0, 0, 38, 1) :: (2, 2, 0, 0, 39, 1) :: (4, 0, 0, 0, 40, 1) :: (2, 3, 0, 0, 41, 1) :: (1, 0, 2, 0, 42, 1) :: (1, 2, 0, 0, 43, 1) :: (1, 0, 2, 0, 44, 1) :: (16, 12, 2, 2, 45, 3) :: (16, 11, 2, 2, 48, 3) :: (1, 1, 0, 0, 51, 1) :: (18, 0, 0, 0, 52, 1) :: (0, 0, 0, 0, 53, 3) :: (2, 4, 0, 0, 56, 2) :: xc_239_58
set_option maxRecDepth 100000 in
noncomputable def xc_239_2 : List XE := (1, 1, 0, 0, 2, 1) :: (1, 0, 2, 0, 3, 1) :: (16, 12, 2, 2, 4, 3) :: (16, 11, 0, 0, 7, 3) :: (13, 148, 3, 0, 10, 3) :: (1, 0, 2, 0, 13, 1) :: (16, 12, 2, 2, 14, 3) :: (16, 11, 1, 2, 17, 3) :: (1, 1, 0, 0, 20, 1) :: (18, 0, 0, 0, 21, 1) :: (4, 61, 0, 0, 22, 2) :: (13, 30, 0, 0, 24, 3) :: (14, 142, 0, 0, 27, 3) :: xc_239_30
set_option maxRecDepth 100000 in
noncomputable def xc_239_0 : List XE := (4, 3, 0, 0, 0, 1) :: (2, 1, 0, 0, 1, 1) :: xc_239_2
noncomputable def xj_239 : Lean.RArray (List XE) := .branch 142 (.branch 58 (.branch 30 (.leaf xc_239_2) (.leaf xc_239_30)) (.branch 101 (.leaf xc_239_58) (.branch 121 (.leaf xc_239_101) (.leaf xc_239_121)))) (.branch 150 (.branch 148 (.leaf xc_239_142) (.leaf xc_239_148)) (.branch 194 (.leaf xc_239_150) (.branch 200 (.leaf xc_239_194) (.leaf xc_239_200))))
-- 240: EmberScriptModel$Run.grown([I)[I
set_option maxRecDepth 100000 in
noncomputable def xc_240_0 : List XE := (4, 6, 0, 0, 0, 1) :: (1, 0, 2, 0, 1, 1) :: (20, 0, 0, 0, 2, 1) :: (6, 2, 0, 0, 3, 1) :: (22, 0, 0, 0, 4, 2) :: (2, 1, 2, 0, 6, 1) :: (1, 0, 2, 0, 7, 1) :: (4, 0, 0, 0, 8, 1) :: (1, 1, 2, 0, 9, 1) :: (4, 0, 0, 0, 10, 1) :: (1, 0, 2, 0, 11, 1) :: (20, 0, 0, 0, 12, 1) :: (30, 0, 0, 0, 13, 3) :: (1, 1, 2, 0, 16, 1) :: (26, 2, 0, 0, 17, 1) :: []
noncomputable def xj_240 : Lean.RArray (List XE) := .leaf []
-- 241: EmberScriptModel$Run.stands()Z
set_option maxRecDepth 100000 in
noncomputable def xc_241_69 : List XE := (26, 0, 0, 0, 69, 1) :: []
set_option maxRecDepth 100000 in
noncomputable def xc_241_65 : List XE := (1, 2, 0, 0, 65, 1) :: (0, 0, 0, 0, 66, 3) :: xc_241_69
set_option maxRecDepth 100000 in
noncomputable def xc_241_61 : List XE := (4, 0, 0, 0, 61, 1) :: (14, 69, 0, 0, 62, 3) :: xc_241_65
set_option maxRecDepth 100000 in
noncomputable def xc_241_16 : List XE := (1, 0, 2, 0, 16, 1) :: (16, 13, 35, 2, 17, 3) :: (1, 1, 0, 0, 20, 1) :: (18, 3, 0, 0, 21, 1) :: (1, 0, 2, 0, 22, 1) :: (16, 13, 33, 2, 23, 3) :: (1, 1, 0, 0, 26, 1) :: (18, 0, 0, 0, 27, 1) :: (4, 8, 0, 0, 28, 1) :: (6, 1, 0, 0, 29, 1) :: (18, 0, 0, 0, 30, 1) :: (2, 2, 0, 0, 31, 1) :: (1, 2, 0, 0, 32, 1) :: (4, 3, 0, 0, 33, 1) :: (13, 65, 1, 0, 34, 3) :: (1, 0, 2, 0, 37, 1) :: (16, 13, 35, 2, 38, 3) :: (1, 1, 0, 0, 41, 1) :: (18, 3, 0, 0, 42, 1) :: (1, 0, 2, 0, 43, 1) :: (16, 13, 33, 2, 44, 3) :: (1, 1, 0, 0, 47, 1) :: (18, 0, 0, 0, 48, 1) :: (4, 8, 0, 0, 49, 1) :: (6, 1, 0, 0, 50, 1) :: (4, 3, 0, 0, 51, 1) :: (6, 0, 0, 0, 52, 1) :: (18, 0, 0, 0, 53, 1) :: (12, 61, 0, 0, 54, 3) :: (4, 3, 0, 0, 57, 1) :: (14, 69, 0, 0, 58, 3) :: xc_241_61
set_option maxRecDepth 100000 in
noncomputable def xc_241_0 : List XE := (1, 0, 2, 0, 0, 1) :: (24, 242, 0, 14, 1, 3) :: (2, 1, 0, 0, 4, 1) :: (1, 0, 2, 0, 5, 1) :: (16, 13, 33, 2, 6, 3) :: (1, 1, 0, 0, 9, 1) :: (18, 0, 0, 0, 10, 1) :: (12, 16, 1, 0, 11, 3) :: (4, 0, 0, 0, 14, 1) :: (26, 0, 0, 0, 15, 1) :: xc_241_16
noncomputable def xj_241 : Lean.RArray (List XE) := .branch 65 (.branch 61 (.leaf xc_241_16) (.leaf xc_241_61)) (.branch 69 (.leaf xc_241_65) (.leaf xc_241_69))
-- 242: EmberScriptModel$Run.here()I
set_option maxRecDepth 100000 in
noncomputable def xc_242_22 : List XE := (26, 0, 0, 0, 22, 1) :: []
set_option maxRecDepth 100000 in
noncomputable def xc_242_11 : List XE := (1, 0, 2, 0, 11, 1) :: (16, 13, 37, 2, 12, 3) :: (1, 0, 2, 0, 15, 1) :: (16, 13, 38, 0, 16, 3) :: (4, 3, 0, 0, 19, 1) :: (6, 1, 0, 0, 20, 1) :: (18, 0, 0, 0, 21, 1) :: xc_242_22
set_option maxRecDepth 100000 in
noncomputable def xc_242_0 : List XE := (1, 0, 2, 0, 0, 1) :: (16, 13, 38, 0, 1, 3) :: (12, 11, 1, 0, 4, 3) :: (4, 0, 0, 0, 7, 1) :: (14, 22, 0, 0, 8, 3) :: xc_242_11
noncomputable def xj_242 : Lean.RArray (List XE) := .branch 22 (.leaf xc_242_11) (.leaf xc_242_22)
-- 243: EmberScriptModel$Run.carryOut(I)V
set_option maxRecDepth 100000 in
noncomputable def xc_243_339 : List XE := (26, 9, 0, 0, 339, 1) :: []
set_option maxRecDepth 100000 in
noncomputable def xc_243_323 : List XE := (1, 0, 2, 0, 323, 1) :: (16, 13, 33, 2, 324, 3) :: (1, 1, 0, 0, 327, 1) :: (1, 2, 0, 0, 328, 1) :: (19, 0, 0, 0, 329, 1) :: (1, 0, 2, 0, 330, 1) :: (1, 3, 2, 0, 331, 1) :: (1, 2, 0, 0, 332, 1) :: (18, 0, 0, 0, 333, 1) :: (1, 4, 0, 0, 334, 2) :: (24, 320, 0, 14, 336, 3) :: xc_243_339
set_option maxRecDepth 100000 in
noncomputable def xc_243_300 : List XE := (1, 3, 2, 0, 300, 1) :: (1, 2, 0, 0, 301, 1) :: (4, 62, 0, 0, 302, 2) :: (19, 0, 0, 0, 304, 1) :: (1, 3, 2, 0, 305, 1) :: (1, 2, 0, 0, 306, 1) :: (4, 6, 0, 0, 307, 1) :: (6, 0, 0, 0, 308, 1) :: (1, 0, 2, 0, 309, 1) :: (16, 13, 0, 2, 310, 3) :: (16, 11, 3, 2, 313, 3) :: (1, 4, 0, 0, 316, 2) :: (18, 0, 0, 0, 318, 1) :: (19, 0, 0, 0, 319, 1) :: (14, 339, 0, 0, 320, 3) :: xc_243_323
set_option maxRecDepth 100000 in
noncomputable def xc_243_275 : List XE := (1, 0, 2, 0, 275, 1) :: (1, 1, 0, 0, 276, 1) :: (1, 0, 2, 0, 277, 1) :: (16, 13, 34, 2, 278, 3) :: (1, 1, 0, 0, 281, 1) :: (18, 0, 0, 0, 282, 1) :: (4, 3, 0, 0, 283, 1) :: (6, 1, 0, 0, 284, 1) :: (24, 319, 0, 14, 285, 3) :: (4, 8, 0, 0, 288, 1) :: (13, 300, 0, 0, 289, 3) :: (1, 0, 2, 0, 292, 1) :: (4, 0, 0, 0, 293, 1) :: (0, 0, 0, 0, 294, 3) :: (14, 339, 0, 0, 297, 3) :: xc_243_300
set_option maxRecDepth 100000 in
noncomputable def xc_243_264 : List XE := (1, 0, 2, 0, 264, 1) :: (1, 1, 0, 0, 265, 1) :: (1, 2, 0, 0, 266, 1) :: (1, 4, 0, 0, 267, 2) :: (0, 0, 0, 0, 269, 3) :: (14, 339, 0, 0, 272, 3) :: xc_243_275
set_option maxRecDepth 100000 in
noncomputable def xc_243_239 : List XE := (1, 0, 2, 0, 239, 1) :: (16, 13, 33, 2, 240, 3) :: (1, 1, 0, 0, 243, 1) :: (1, 2, 0, 0, 244, 1) :: (19, 0, 0, 0, 245, 1) :: (1, 0, 2, 0, 246, 1) :: (1, 1, 0, 0, 247, 1) :: (1, 0, 2, 0, 248, 1) :: (16, 13, 0, 2, 249, 3) :: (16, 11, 3, 2, 252, 3) :: (1, 4, 0, 0, 255, 2) :: (18, 0, 0, 0, 257, 1) :: (0, 0, 0, 0, 258, 3) :: (14, 339, 0, 0, 261, 3) :: xc_243_264
set_option maxRecDepth 100000 in
noncomputable def xc_243_200 : List XE := (1, 3, 2, 0, 200, 1) :: (1, 2, 0, 0, 201, 1) :: (4, 6, 0, 0, 202, 1) :: (6, 0, 0, 0, 203, 1) :: (18, 0, 0, 0, 204, 1) :: (12, 239, 0, 0, 205, 3) :: (1, 3, 2, 0, 208, 1) :: (1, 2, 0, 0, 209, 1) :: (4, 6, 0, 0, 210, 1) :: (6, 0, 0, 0, 211, 1) :: (18, 0, 0, 0, 212, 1) :: (2, 5, 0, 0, 213, 2) :: (1, 3, 2, 0, 215, 1) :: (1, 2, 0, 0, 216, 1) :: (4, 6, 0, 0, 217, 1) :: (6, 0, 0, 0, 218, 1) :: (1, 0, 2, 0, 219, 1) :: (16, 13, 0, 2, 220, 3) :: (16, 11, 7, 2, 223, 3) :: (1, 5, 0, 0, 226, 2) :: (18, 0, 0, 0, 228, 1) :: (19, 0, 0, 0, 229, 1) :: (1, 0, 2, 0, 230, 1) :: (1, 5, 0, 0, 231, 2) :: (0, 0, 0, 0, 233, 3) :: (14, 339, 0, 0, 236, 3) :: xc_243_239
set_option maxRecDepth 100000 in
noncomputable def xc_243_191 : List XE := (1, 0, 2, 0, 191, 1) :: (1, 1, 0, 0, 192, 1) :: (1, 2, 0, 0, 193, 1) :: (0, 0, 0, 0, 194, 3) :: (14, 339, 0, 0, 197, 3) :: xc_243_200
set_option maxRecDepth 100000 in
noncomputable def xc_243_182 : List XE := (1, 0, 2, 0, 182, 1) :: (1, 1, 0, 0, 183, 1) :: (1, 2, 0, 0, 184, 1) :: (0, 0, 0, 0, 185, 3) :: (14, 339, 0, 0, 188, 3) :: xc_243_191
set_option maxRecDepth 100000 in
noncomputable def xc_243_171 : List XE := (1, 0, 2, 0, 171, 1) :: (1, 1, 0, 0, 172, 1) :: (1, 2, 0, 0, 173, 1) :: (1, 4, 0, 0, 174, 2) :: (0, 0, 0, 0, 176, 3) :: (14, 339, 0, 0, 179, 3) :: xc_243_182
set_option maxRecDepth 100000 in
noncomputable def xc_243_154 : List XE := (1, 0, 2, 0, 154, 1) :: (16, 13, 33, 2, 155, 3) :: (1, 1, 0, 0, 158, 1) :: (1, 2, 0, 0, 159, 1) :: (19, 0, 0, 0, 160, 1) :: (1, 0, 2, 0, 161, 1) :: (1, 1, 0, 0, 162, 1) :: (1, 4, 0, 0, 163, 2) :: (0, 0, 0, 0, 165, 3) :: (14, 339, 0, 0, 168, 3) :: xc_243_171
set_option maxRecDepth 100000 in
noncomputable def xc_243_120 : List XE := (1, 0, 2, 0, 120, 1) :: (16, 13, 33, 2, 121, 3) :: (1, 1, 0, 0, 124, 1) :: (1, 2, 0, 0, 125, 1) :: (19, 0, 0, 0, 126, 1) :: (1, 0, 2, 0, 127, 1) :: (1, 3, 2, 0, 128, 1) :: (1, 2, 0, 0, 129, 1) :: (4, 6, 0, 0, 130, 1) :: (6, 0, 0, 0, 131, 1) :: (18, 0, 0, 0, 132, 1) :: (4, 16, 0, 0, 133, 2) :: (6, 3, 0, 0, 135, 1) :: (1, 3, 2, 0, 136, 1) :: (1, 2, 0, 0, 137, 1) :: (4, 6, 0, 0, 138, 1) :: (6, 0, 0, 0, 139, 1) :: (18, 0, 0, 0, 140, 1) :: (4, 7, 0, 0, 141, 1) :: (6, 7, 0, 0, 142, 1) :: (1, 3, 2, 0, 143, 1) :: (1, 2, 0, 0, 144, 1) :: (4, 7, 0, 0, 145, 1) :: (6, 0, 0, 0, 146, 1) :: (18, 0, 0, 0, 147, 1) :: (0, 0, 0, 0, 148, 3) :: (14, 339, 0, 0, 151, 3) :: xc_243_154
set_option maxRecDepth 100000 in
noncomputable def xc_243_100 : List XE := (1, 0, 2, 0, 100, 1) :: (16, 13, 33, 2, 101, 3) :: (1, 1, 0, 0, 104, 1) :: (1, 2, 0, 0, 105, 1) :: (19, 0, 0, 0, 106, 1) :: (1, 0, 2, 0, 107, 1) :: (1, 1, 0, 0, 108, 1) :: (1, 4, 0, 0, 109, 2) :: (4, 0, 0, 0, 111, 1) :: (4, 0, 0, 0, 112, 1) :: (4, 0, 0, 0, 113, 1) :: (0, 0, 0, 0, 114, 3) :: (14, 339, 0, 0, 117, 3) :: xc_243_120
set_option maxRecDepth 100000 in
noncomputable def xc_243_0 : List XE := (1, 0, 2, 0, 0, 1) :: (16, 13, 33, 2, 1, 3) :: (1, 1, 0, 0, 4, 1) :: (18, 0, 0, 0, 5, 1) :: (4, 8, 0, 0, 6, 1) :: (6, 1, 0, 0, 7, 1) :: (2, 2, 0, 0, 8, 1) :: (1, 0, 2, 0, 9, 1) :: (16, 13, 35, 2, 10, 3) :: (1, 1, 0, 0, 13, 1) :: (18, 3, 0, 0, 14, 1) :: (2, 3, 2, 0, 15, 1) :: (1, 3, 2, 0, 16, 1) :: (1, 2, 0, 0, 17, 1) :: (4, 3, 0, 0, 18, 1) :: (6, 0, 0, 0, 19, 1) :: (18, 0, 0, 0, 20, 1) :: (2, 4, 0, 0, 21, 2) :: (1, 3, 2, 0, 23, 1) :: (1, 2, 0, 0, 24, 1) :: (18, 0, 0, 0, 25, 1) :: (15, 1, 0, 0, 26, 74) :: xc_243_100
noncomputable def xj_243 : Lean.RArray (List XE) := .branch 200 (.branch 171 (.branch 120 (.leaf xc_243_100) (.branch 154 (.leaf xc_243_120) (.leaf xc_243_154))) (.branch 182 (.leaf xc_243_171) (.branch 191 (.leaf xc_243_182) (.leaf xc_243_191)))) (.branch 275 (.branch 239 (.leaf xc_243_200) (.branch 264 (.leaf xc_243_239) (.leaf xc_243_264))) (.branch 323 (.branch 300 (.leaf xc_243_275) (.leaf xc_243_300)) (.branch 339 (.leaf xc_243_323) (.leaf xc_243_339))))
-- 244: EmberScript.needSteps(I)V
set_option maxRecDepth 100000 in
noncomputable def xc_244_20 : List XE := (26, 9, 0, 0, 20, 1) :: []
set_option maxRecDepth 100000 in
noncomputable def xc_244_12 : List XE := (27, 1, 65, 0, 12, 3) :: (34, 0, 0, 0, 15, 1) :: (0, 0, 0, 0, 16, 3) :: (0, 0, 0, 0, 19, 1) :: xc_244_20
set_option maxRecDepth 100000 in
noncomputable def xc_244_0 : List XE := (1, 1, 0, 0, 0, 1) :: (4, 3, 0, 0, 1, 1) :: (13, 12, 2, 0, 2, 3) :: (1, 1, 0, 0, 5, 1) :: (4, 14, 0, 0, 6, 3) :: (13, 20, 5, 0, 9, 3) :: xc_244_12
noncomputable def xj_244 : Lean.RArray (List XE) := .branch 20 (.leaf xc_244_12) (.leaf xc_244_20)
-- 245: EmberScript.needWord(I)V
set_option maxRecDepth 100000 in
noncomputable def xc_245_23 : List XE := (26, 9, 0, 0, 23, 1) :: []
set_option maxRecDepth 100000 in
noncomputable def xc_245_15 : List XE := (27, 2, 200, 0, 15, 3) :: (34, 0, 0, 0, 18, 1) :: (0, 0, 0, 0, 19, 3) :: (0, 0, 0, 0, 22, 1) :: xc_245_23
set_option maxRecDepth 100000 in
noncomputable def xc_245_0 : List XE := (1, 1, 0, 0, 0, 1) :: (12, 15, 2, 0, 1, 3) :: (1, 1, 0, 0, 4, 1) :: (1, 0, 2, 0, 5, 1) :: (16, 10, 2, 2, 6, 3) :: (24, 164, 0, 4, 9, 3) :: (13, 23, 2, 0, 12, 3) :: xc_245_15
noncomputable def xj_245 : Lean.RArray (List XE) := .branch 23 (.leaf xc_245_15) (.leaf xc_245_23)
-- 246: EmberScript.needVariable(I)V
set_option maxRecDepth 100000 in
noncomputable def xc_246_24 : List XE := (26, 9, 0, 0, 24, 1) :: []
set_option maxRecDepth 100000 in
noncomputable def xc_246_16 : List XE := (27, 2, 200, 0, 16, 3) :: (34, 0, 0, 0, 19, 1) :: (0, 0, 0, 0, 20, 3) :: (0, 0, 0, 0, 23, 1) :: xc_246_24
set_option maxRecDepth 100000 in
noncomputable def xc_246_0 : List XE := (1, 1, 0, 0, 0, 1) :: (12, 16, 2, 0, 1, 3) :: (1, 1, 0, 0, 4, 1) :: (1, 0, 2, 0, 5, 1) :: (16, 10, 2, 2, 6, 3) :: (4, 11, 0, 0, 9, 1) :: (24, 161, 0, 4, 10, 3) :: (13, 24, 2, 0, 13, 3) :: xc_246_16
noncomputable def xj_246 : Lean.RArray (List XE) := .branch 24 (.leaf xc_246_16) (.leaf xc_246_24)
-- 247: EmberScript$Machine.variable(I)J
set_option maxRecDepth 100000 in
noncomputable def xc_247_0 : List XE := (1, 0, 2, 0, 0, 1) :: (16, 9, 2, 2, 1, 3) :: (4, 0, 0, 0, 4, 1) :: (1, 1, 0, 0, 5, 1) :: (24, 321, 0, 7, 6, 3) :: (26, 1, 0, 0, 9, 1) :: []
noncomputable def xj_247 : Lean.RArray (List XE) := .leaf []
-- 248: EmberScript$Value.kind(J)I
set_option maxRecDepth 100000 in
noncomputable def xc_248_0 : List XE := (1, 0, 1, 0, 0, 1) :: (4, 42, 0, 0, 1, 2) :: (46, 0, 0, 0, 3, 1) :: (41, 0, 0, 0, 4, 1) :: (26, 0, 0, 0, 5, 1) :: []
noncomputable def xj_248 : Lean.RArray (List XE) := .leaf []
-- 249: EmberScript$Value.pack(II)J
set_option maxRecDepth 100000 in
noncomputable def xc_249_0 : List XE := (1, 0, 0, 0, 0, 1) :: (40, 0, 0, 0, 1, 1) :: (4, 42, 0, 0, 2, 2) :: (47, 0, 0, 0, 4, 1) :: (1, 1, 0, 0, 5, 1) :: (40, 0, 0, 0, 6, 1) :: (4, 63, 0, 0, 7, 3) :: (8, 3, 0, 0, 10, 1) :: (8, 4, 0, 0, 11, 1) :: (26, 1, 0, 0, 12, 1) :: []
noncomputable def xj_249 : Lean.RArray (List XE) := .leaf []
-- 250: EmberScript$Reach.begin(I)V
set_option maxRecDepth 100000 in
noncomputable def xc_250_0 : List XE := (1, 0, 2, 0, 0, 1) :: (16, 8, 3, 2, 1, 3) :: (4, 64, 0, 0, 4, 3) :: (24, 313, 0, 1, 7, 3) :: (1, 0, 2, 0, 10, 1) :: (16, 8, 5, 2, 11, 3) :: (4, 1, 0, 0, 14, 1) :: (24, 313, 0, 1, 15, 3) :: (1, 0, 2, 0, 18, 1) :: (4, 0, 0, 0, 19, 1) :: (17, 8, 6, 0, 20, 3) :: (1, 0, 2, 0, 23, 1) :: (4, 0, 0, 0, 24, 1) :: (17, 8, 7, 0, 25, 3) :: (1, 0, 2, 0, 28, 1) :: (1, 1, 0, 0, 29, 1) :: (17, 8, 8, 0, 30, 3) :: (26, 9, 0, 0, 33, 1) :: []
noncomputable def xj_250 : Lean.RArray (List XE) := .leaf []
-- 251: EmberScript$Reach.takeRoots()V
set_option maxRecDepth 100000 in
noncomputable def xc_251_54 : List XE := (1, 0, 2, 0, 54, 1) :: (4, 0, 0, 0, 55, 1) :: (1, 0, 2, 0, 56, 1) :: (16, 8, 2, 2, 57, 3) :: (24, 323, 0, 8, 60, 3) :: (4, 3, 0, 0, 63, 1) :: (24, 324, 0, 9, 64, 3) :: (26, 9, 0, 0, 67, 1) :: []
set_option maxRecDepth 100000 in
noncomputable def xc_251_48 : List XE := (5, 1, 3, 0, 48, 3) :: (14, 2, 0, 0, 51, 3) :: xc_251_54
set_option maxRecDepth 100000 in
noncomputable def xc_251_2 : List XE := (1, 1, 0, 0, 2, 1) :: (1, 0, 2, 0, 3, 1) :: (16, 8, 2, 2, 4, 3) :: (24, 258, 0, 8, 7, 3) :: (13, 54, 4, 0, 10, 3) :: (1, 0, 2, 0, 13, 1) :: (16, 8, 2, 2, 14, 3) :: (1, 1, 0, 0, 17, 1) :: (24, 264, 0, 8, 18, 3) :: (2, 2, 0, 0, 21, 1) :: (1, 0, 2, 0, 22, 1) :: (1, 2, 0, 0, 23, 1) :: (4, 3, 0, 0, 24, 1) :: (24, 322, 0, 9, 25, 3) :: (1, 2, 0, 0, 28, 1) :: (4, 24, 0, 0, 29, 2) :: (13, 48, 2, 0, 31, 3) :: (1, 0, 2, 0, 34, 1) :: (4, 4, 0, 0, 35, 2) :: (1, 2, 0, 0, 37, 1) :: (4, 24, 0, 0, 38, 2) :: (6, 1, 0, 0, 40, 1) :: (24, 249, 0, 0, 41, 3) :: (4, 3, 0, 0, 44, 1) :: (24, 252, 0, 9, 45, 3) :: xc_251_48
set_option maxRecDepth 100000 in
noncomputable def xc_251_0 : List XE := (4, 0, 0, 0, 0, 1) :: (2, 1, 0, 0, 1, 1) :: xc_251_2
noncomputable def xj_251 : Lean.RArray (List XE) := .branch 48 (.leaf xc_251_2) (.branch 54 (.leaf xc_251_48) (.leaf xc_251_54))
-- 252: EmberScript$Reach.take(JI)V
set_option maxRecDepth 100000 in
noncomputable def xc_252_74 : List XE := (26, 9, 0, 0, 74, 1) :: []
set_option maxRecDepth 100000 in
noncomputable def xc_252_0 : List XE := (1, 1, 1, 0, 0, 1) :: (24, 273, 0, 0, 1, 3) :: (2, 4, 0, 0, 4, 2) :: (1, 1, 1, 0, 6, 1) :: (4, 42, 0, 0, 7, 2) :: (46, 0, 0, 0, 9, 1) :: (4, 65, 0, 0, 10, 3) :: (45, 0, 0, 0, 13, 1) :: (12, 74, 2, 0, 14, 3) :: (1, 4, 0, 0, 17, 2) :: (1, 0, 2, 0, 19, 1) :: (16, 8, 8, 0, 20, 3) :: (13, 74, 0, 0, 23, 3) :: (1, 0, 2, 0, 26, 1) :: (16, 8, 3, 2, 27, 3) :: (1, 4, 0, 0, 30, 2) :: (24, 272, 0, 1, 32, 3) :: (4, 11, 0, 0, 35, 1) :: (13, 74, 1, 0, 36, 3) :: (1, 0, 2, 0, 39, 1) :: (16, 8, 3, 2, 40, 3) :: (1, 4, 0, 0, 43, 2) :: (1, 3, 0, 0, 45, 1) :: (40, 0, 0, 0, 46, 1) :: (24, 302, 0, 1, 47, 3) :: (1, 0, 2, 0, 50, 1) :: (16, 8, 4, 2, 51, 3) :: (1, 0, 2, 0, 54, 1) :: (16, 8, 6, 0, 55, 3) :: (1, 4, 0, 0, 58, 2) :: (40, 0, 0, 0, 60, 1) :: (24, 302, 0, 1, 61, 3) :: (1, 0, 2, 0, 64, 1) :: (34, 0, 0, 0, 65, 1) :: (16, 8, 6, 0, 66, 3) :: (4, 3, 0, 0, 69, 1) :: (6, 0, 0, 0, 70, 1) :: (17, 8, 6, 0, 71, 3) :: xc_252_74
noncomputable def xj_252 : Lean.RArray (List XE) := .leaf xc_252_74
-- 253: EmberScript$Reach.takeScopes(II)V
set_option maxRecDepth 100000 in
noncomputable def xc_253_84 : List XE := (26, 9, 0, 0, 84, 1) :: []
set_option maxRecDepth 100000 in
noncomputable def xc_253_69 : List XE := (1, 0, 2, 0, 69, 1) :: (16, 8, 1, 2, 70, 3) :: (1, 3, 0, 0, 73, 1) :: (24, 326, 0, 7, 74, 3) :: (2, 3, 0, 0, 77, 1) :: (5, 4, 3, 0, 78, 3) :: (14, 5, 0, 0, 81, 3) :: xc_253_84
set_option maxRecDepth 100000 in
noncomputable def xc_253_35 : List XE := (1, 5, 0, 0, 35, 2) :: (1, 0, 2, 0, 37, 1) :: (16, 8, 1, 2, 38, 3) :: (1, 3, 0, 0, 41, 1) :: (24, 325, 0, 7, 42, 3) :: (13, 69, 3, 0, 45, 3) :: (1, 0, 2, 0, 48, 1) :: (1, 0, 2, 0, 49, 1) :: (16, 8, 1, 2, 50, 3) :: (1, 3, 0, 0, 53, 1) :: (1, 5, 0, 0, 54, 2) :: (24, 321, 0, 7, 56, 3) :: (1, 2, 0, 0, 59, 1) :: (24, 252, 0, 9, 60, 3) :: (5, 5, 3, 0, 63, 3) :: (14, 35, 0, 0, 66, 3) :: xc_253_69
set_option maxRecDepth 100000 in
noncomputable def xc_253_5 : List XE := (1, 4, 0, 0, 5, 2) :: (4, 26, 0, 0, 7, 2) :: (13, 84, 4, 0, 9, 3) :: (1, 0, 2, 0, 12, 1) :: (16, 8, 5, 2, 13, 3) :: (1, 3, 0, 0, 16, 1) :: (24, 272, 0, 1, 17, 3) :: (12, 84, 1, 0, 20, 3) :: (1, 0, 2, 0, 23, 1) :: (16, 8, 5, 2, 24, 3) :: (1, 3, 0, 0, 27, 1) :: (4, 10, 0, 0, 28, 1) :: (24, 302, 0, 1, 29, 3) :: (4, 0, 0, 0, 32, 1) :: (2, 5, 0, 0, 33, 2) :: xc_253_35
set_option maxRecDepth 100000 in
noncomputable def xc_253_0 : List XE := (1, 1, 0, 0, 0, 1) :: (2, 3, 0, 0, 1, 1) :: (4, 0, 0, 0, 2, 1) :: (2, 4, 0, 0, 3, 2) :: xc_253_5
noncomputable def xj_253 : Lean.RArray (List XE) := .branch 69 (.branch 35 (.leaf xc_253_5) (.leaf xc_253_35)) (.branch 84 (.leaf xc_253_69) (.leaf xc_253_84))
-- 254: EmberScript$Reach.spread()I
set_option maxRecDepth 100000 in
noncomputable def xc_254_142 : List XE := (1, 0, 2, 0, 142, 1) :: (16, 8, 6, 0, 143, 3) :: (26, 0, 0, 0, 146, 1) :: []
set_option maxRecDepth 100000 in
noncomputable def xc_254_136 : List XE := (5, 1, 3, 0, 136, 3) :: (14, 2, 0, 0, 139, 3) :: xc_254_142
set_option maxRecDepth 100000 in
noncomputable def xc_254_99 : List XE := (1, 4, 0, 0, 99, 2) :: (4, 4, 0, 0, 101, 2) :: (13, 136, 1, 0, 103, 3) :: (1, 0, 2, 0, 106, 1) :: (16, 8, 0, 2, 107, 3) :: (1, 2, 0, 0, 110, 1) :: (24, 287, 0, 6, 111, 3) :: (4, 7, 0, 0, 114, 1) :: (13, 136, 0, 0, 115, 3) :: (1, 0, 2, 0, 118, 1) :: (4, 24, 0, 0, 119, 2) :: (1, 2, 0, 0, 121, 1) :: (6, 0, 0, 0, 122, 1) :: (1, 3, 0, 0, 123, 1) :: (24, 322, 0, 9, 124, 3) :: (1, 0, 2, 0, 127, 1) :: (4, 24, 0, 0, 128, 2) :: (1, 2, 0, 0, 130, 1) :: (6, 0, 0, 0, 131, 1) :: (1, 3, 0, 0, 132, 1) :: (0, 0, 0, 0, 133, 3) :: xc_254_136
set_option maxRecDepth 100000 in
noncomputable def xc_254_77 : List XE := (1, 4, 0, 0, 77, 2) :: (4, 9, 0, 0, 79, 1) :: (13, 99, 1, 0, 80, 3) :: (1, 0, 2, 0, 83, 1) :: (1, 0, 2, 0, 84, 1) :: (16, 8, 0, 2, 85, 3) :: (1, 2, 0, 0, 88, 1) :: (0, 0, 0, 0, 89, 3) :: (1, 3, 0, 0, 92, 1) :: (24, 253, 0, 9, 93, 3) :: (14, 136, 0, 0, 96, 3) :: xc_254_99
set_option maxRecDepth 100000 in
noncomputable def xc_254_2 : List XE := (1, 1, 0, 0, 2, 1) :: (4, 56, 0, 0, 3, 2) :: (13, 142, 3, 0, 5, 3) :: (1, 0, 2, 0, 8, 1) :: (16, 8, 7, 0, 9, 3) :: (1, 0, 2, 0, 12, 1) :: (16, 8, 6, 0, 13, 3) :: (13, 142, 3, 0, 16, 3) :: (1, 0, 2, 0, 19, 1) :: (16, 8, 4, 2, 20, 3) :: (1, 0, 2, 0, 23, 1) :: (16, 8, 7, 0, 24, 3) :: (24, 272, 0, 1, 27, 3) :: (2, 2, 0, 0, 30, 1) :: (1, 0, 2, 0, 31, 1) :: (34, 0, 0, 0, 32, 1) :: (16, 8, 7, 0, 33, 3) :: (4, 3, 0, 0, 36, 1) :: (6, 0, 0, 0, 37, 1) :: (17, 8, 7, 0, 38, 3) :: (1, 0, 2, 0, 41, 1) :: (16, 8, 3, 2, 42, 3) :: (1, 2, 0, 0, 45, 1) :: (24, 272, 0, 1, 46, 3) :: (4, 3, 0, 0, 49, 1) :: (6, 0, 0, 0, 50, 1) :: (2, 3, 0, 0, 51, 1) :: (1, 0, 2, 0, 52, 1) :: (16, 8, 0, 2, 53, 3) :: (1, 2, 0, 0, 56, 1) :: (24, 279, 0, 6, 57, 3) :: (2, 4, 0, 0, 60, 2) :: (1, 4, 0, 0, 62, 2) :: (4, 8, 0, 0, 64, 1) :: (13, 77, 1, 0, 65, 3) :: (1, 0, 2, 0, 68, 1) :: (1, 2, 0, 0, 69, 1) :: (1, 3, 0, 0, 70, 1) :: (0, 0, 0, 0, 71, 3) :: (14, 136, 0, 0, 74, 3) :: xc_254_77
set_option maxRecDepth 100000 in
noncomputable def xc_254_0 : List XE := (4, 0, 0, 0, 0, 1) :: (2, 1, 0, 0, 1, 1) :: xc_254_2
noncomputable def xj_254 : Lean.RArray (List XE) := .branch 99 (.branch 77 (.leaf xc_254_2) (.leaf xc_254_77)) (.branch 136 (.leaf xc_254_99) (.branch 142 (.leaf xc_254_136) (.leaf xc_254_142)))
-- 255: EmberScript$Reach.distanceOf(I)I
set_option maxRecDepth 100000 in
noncomputable def xc_255_0 : List XE := (1, 0, 2, 0, 0, 1) :: (16, 8, 3, 2, 1, 3) :: (1, 1, 0, 0, 4, 1) :: (24, 272, 0, 1, 5, 3) :: (26, 0, 0, 0, 8, 1) :: []
noncomputable def xj_255 : Lean.RArray (List XE) := .leaf []
-- 256: EmberScript$Things.free(I)V
set_option maxRecDepth 100000 in
noncomputable def xc_256_0 : List XE := (1, 0, 2, 0, 0, 1) :: (16, 5, 0, 2, 1, 3) :: (1, 1, 0, 0, 4, 1) :: (4, 1, 0, 0, 5, 1) :: (24, 302, 0, 1, 6, 3) :: (1, 0, 2, 0, 9, 1) :: (34, 0, 0, 0, 10, 1) :: (16, 5, 9, 0, 11, 3) :: (4, 3, 0, 0, 14, 1) :: (6, 1, 0, 0, 15, 1) :: (17, 5, 9, 0, 16, 3) :: (26, 9, 0, 0, 19, 1) :: []
noncomputable def xj_256 : Lean.RArray (List XE) := .leaf []
-- 257: EmberScript$Things.clearTargets()V
set_option maxRecDepth 100000 in
noncomputable def xc_257_43 : List XE := (26, 9, 0, 0, 43, 1) :: []
set_option maxRecDepth 100000 in
noncomputable def xc_257_37 : List XE := (5, 1, 3, 0, 37, 3) :: (14, 2, 0, 0, 40, 3) :: xc_257_43
set_option maxRecDepth 100000 in
noncomputable def xc_257_2 : List XE := (1, 1, 0, 0, 2, 1) :: (4, 19, 0, 0, 3, 2) :: (13, 43, 3, 0, 5, 3) :: (1, 0, 2, 0, 8, 1) :: (16, 5, 0, 2, 9, 3) :: (1, 0, 2, 0, 12, 1) :: (16, 5, 5, 2, 13, 3) :: (1, 1, 0, 0, 16, 1) :: (24, 272, 0, 1, 17, 3) :: (24, 272, 0, 1, 20, 3) :: (12, 37, 1, 0, 23, 3) :: (1, 0, 2, 0, 26, 1) :: (16, 5, 5, 2, 27, 3) :: (1, 1, 0, 0, 30, 1) :: (4, 64, 0, 0, 31, 3) :: (24, 302, 0, 1, 34, 3) :: xc_257_37
set_option maxRecDepth 100000 in
noncomputable def xc_257_0 : List XE := (4, 0, 0, 0, 0, 1) :: (2, 1, 0, 0, 1, 1) :: xc_257_2
noncomputable def xj_257 : Lean.RArray (List XE) := .branch 37 (.leaf xc_257_2) (.branch 43 (.leaf xc_257_37) (.leaf xc_257_43))
-- 258: EmberScript$Frames.depth()I
set_option maxRecDepth 100000 in
noncomputable def xc_258_0 : List XE := (1, 0, 2, 0, 0, 1) :: (16, 7, 11, 0, 1, 3) :: (26, 0, 0, 0, 4, 1) :: []
noncomputable def xj_258 : Lean.RArray (List XE) := .leaf []
-- 259: EmberScript$Frames.here()I
set_option maxRecDepth 100000 in
noncomputable def xc_259_0 : List XE := (1, 0, 2, 0, 0, 1) :: (16, 7, 0, 2, 1, 3) :: (1, 0, 2, 0, 4, 1) :: (16, 7, 8, 2, 5, 3) :: (1, 0, 2, 0, 8, 1) :: (16, 7, 11, 0, 9, 3) :: (24, 272, 0, 1, 12, 3) :: (24, 272, 0, 1, 15, 3) :: (26, 0, 0, 0, 18, 1) :: []
noncomputable def xj_259 : Lean.RArray (List XE) := .leaf []
-- 260: EmberScript$Script.first(I)I
set_option maxRecDepth 100000 in
noncomputable def xc_260_0 : List XE := (1, 0, 2, 0, 0, 1) :: (16, 3, 1, 2, 1, 3) :: (1, 1, 0, 0, 4, 1) :: (24, 272, 0, 1, 5, 3) :: (26, 0, 0, 0, 8, 1) :: []
noncomputable def xj_260 : Lean.RArray (List XE) := .leaf []
-- 261: EmberScript$Frames.newest()I
set_option maxRecDepth 100000 in
noncomputable def xc_261_0 : List XE := (1, 0, 2, 0, 0, 1) :: (16, 7, 8, 2, 1, 3) :: (1, 0, 2, 0, 4, 1) :: (16, 7, 11, 0, 5, 3) :: (24, 272, 0, 1, 8, 3) :: (26, 0, 0, 0, 11, 1) :: []
noncomputable def xj_261 : Lean.RArray (List XE) := .leaf []
-- 262: EmberScript$Frames.function(I)I
set_option maxRecDepth 100000 in
noncomputable def xc_262_0 : List XE := (1, 0, 2, 0, 0, 1) :: (16, 7, 1, 2, 1, 3) :: (1, 1, 0, 0, 4, 1) :: (24, 272, 0, 1, 5, 3) :: (26, 0, 0, 0, 8, 1) :: []
noncomputable def xj_262 : Lean.RArray (List XE) := .leaf []
-- 263: EmberScript$Script.second(I)I
set_option maxRecDepth 100000 in
noncomputable def xc_263_0 : List XE := (1, 0, 2, 0, 0, 1) :: (16, 3, 2, 2, 1, 3) :: (1, 1, 0, 0, 4, 1) :: (24, 272, 0, 1, 5, 3) :: (26, 0, 0, 0, 8, 1) :: []
noncomputable def xj_263 : Lean.RArray (List XE) := .leaf []
-- 264: EmberScript$Frames.record(I)I
set_option maxRecDepth 100000 in
noncomputable def xc_264_0 : List XE := (1, 0, 2, 0, 0, 1) :: (16, 7, 8, 2, 1, 3) :: (1, 1, 0, 0, 4, 1) :: (24, 272, 0, 1, 5, 3) :: (26, 0, 0, 0, 8, 1) :: []
noncomputable def xj_264 : Lean.RArray (List XE) := .leaf []
-- 265: EmberScript$Frames.entryCount(I)I
set_option maxRecDepth 100000 in
noncomputable def xc_265_0 : List XE := (1, 0, 2, 0, 0, 1) :: (16, 7, 4, 2, 1, 3) :: (1, 1, 0, 0, 4, 1) :: (24, 272, 0, 1, 5, 3) :: (26, 0, 0, 0, 8, 1) :: []
noncomputable def xj_265 : Lean.RArray (List XE) := .leaf []
-- 266: EmberScript$Frames.entryType(II)I
set_option maxRecDepth 100000 in
noncomputable def xc_266_0 : List XE := (1, 0, 2, 0, 0, 1) :: (16, 7, 5, 2, 1, 3) :: (1, 1, 0, 0, 4, 1) :: (4, 26, 0, 0, 5, 2) :: (6, 2, 0, 0, 7, 1) :: (1, 2, 0, 0, 8, 1) :: (6, 0, 0, 0, 9, 1) :: (24, 272, 0, 1, 10, 3) :: (26, 0, 0, 0, 13, 1) :: []
noncomputable def xj_266 : Lean.RArray (List XE) := .leaf []
-- 267: EmberScript$Frames.entryFirst(II)J
set_option maxRecDepth 100000 in
noncomputable def xc_267_0 : List XE := (1, 0, 2, 0, 0, 1) :: (16, 7, 6, 2, 1, 3) :: (1, 1, 0, 0, 4, 1) :: (4, 26, 0, 0, 5, 2) :: (6, 2, 0, 0, 7, 1) :: (1, 2, 0, 0, 8, 1) :: (6, 0, 0, 0, 9, 1) :: (24, 327, 0, 1, 10, 3) :: (26, 1, 0, 0, 13, 1) :: []
noncomputable def xj_267 : Lean.RArray (List XE) := .leaf []
-- 268: EmberScriptModel$Run.hasCatch(I)Z
set_option maxRecDepth 100000 in
noncomputable def xc_268_32 : List XE := (4, 0, 0, 0, 32, 1) :: (26, 0, 0, 0, 33, 1) :: []
set_option maxRecDepth 100000 in
noncomputable def xc_268_26 : List XE := (5, 2, 8, 0, 26, 3) :: (14, 2, 0, 0, 29, 3) :: xc_268_32
set_option maxRecDepth 100000 in
noncomputable def xc_268_2 : List XE := (1, 2, 0, 0, 2, 1) :: (1, 0, 2, 0, 3, 1) :: (16, 13, 33, 2, 4, 3) :: (1, 1, 0, 0, 7, 1) :: (18, 0, 0, 0, 8, 1) :: (13, 32, 3, 0, 9, 3) :: (1, 0, 2, 0, 12, 1) :: (16, 13, 35, 2, 13, 3) :: (1, 1, 0, 0, 16, 1) :: (18, 3, 0, 0, 17, 1) :: (1, 2, 0, 0, 18, 1) :: (18, 0, 0, 0, 19, 1) :: (4, 9, 0, 0, 20, 1) :: (13, 26, 1, 0, 21, 3) :: (4, 3, 0, 0, 24, 1) :: (26, 0, 0, 0, 25, 1) :: xc_268_26
set_option maxRecDepth 100000 in
noncomputable def xc_268_0 : List XE := (4, 0, 0, 0, 0, 1) :: (2, 2, 0, 0, 1, 1) :: xc_268_2
noncomputable def xj_268 : Lean.RArray (List XE) := .branch 26 (.leaf xc_268_2) (.branch 32 (.leaf xc_268_26) (.leaf xc_268_32))
-- 269: EmberScript.needFunction(I)V
set_option maxRecDepth 100000 in
noncomputable def xc_269_23 : List XE := (26, 9, 0, 0, 23, 1) :: []
set_option maxRecDepth 100000 in
noncomputable def xc_269_15 : List XE := (27, 2, 200, 0, 15, 3) :: (34, 0, 0, 0, 18, 1) :: (0, 0, 0, 0, 19, 3) :: (0, 0, 0, 0, 22, 1) :: xc_269_23
set_option maxRecDepth 100000 in
noncomputable def xc_269_0 : List XE := (1, 1, 0, 0, 0, 1) :: (12, 15, 2, 0, 1, 3) :: (1, 1, 0, 0, 4, 1) :: (1, 0, 2, 0, 5, 1) :: (16, 10, 2, 2, 6, 3) :: (24, 155, 0, 4, 9, 3) :: (13, 23, 2, 0, 12, 3) :: xc_269_15
noncomputable def xj_269 : Lean.RArray (List XE) := .branch 23 (.leaf xc_269_15) (.leaf xc_269_23)
-- 270: EmberScript$Script.inputCount(I)I
set_option maxRecDepth 100000 in
noncomputable def xc_270_0 : List XE := (1, 0, 2, 0, 0, 1) :: (16, 3, 5, 2, 1, 3) :: (1, 1, 0, 0, 4, 1) :: (4, 3, 0, 0, 5, 1) :: (6, 0, 0, 0, 6, 1) :: (24, 272, 0, 1, 7, 3) :: (26, 0, 0, 0, 10, 1) :: []
noncomputable def xj_270 : Lean.RArray (List XE) := .leaf []
-- 271: EmberScript$Script.hasYield(I)Z
set_option maxRecDepth 100000 in
noncomputable def xc_271_18 : List XE := (26, 0, 0, 0, 18, 1) :: []
set_option maxRecDepth 100000 in
noncomputable def xc_271_17 : List XE := (4, 0, 0, 0, 17, 1) :: xc_271_18
set_option maxRecDepth 100000 in
noncomputable def xc_271_0 : List XE := (1, 0, 2, 0, 0, 1) :: (16, 3, 7, 2, 1, 3) :: (1, 1, 0, 0, 4, 1) :: (4, 3, 0, 0, 5, 1) :: (6, 0, 0, 0, 6, 1) :: (24, 272, 0, 1, 7, 3) :: (12, 17, 0, 0, 10, 3) :: (4, 3, 0, 0, 13, 1) :: (14, 18, 0, 0, 14, 3) :: xc_271_17
noncomputable def xj_271 : Lean.RArray (List XE) := .branch 18 (.leaf xc_271_17) (.leaf xc_271_18)
-- 272: EmberScript$Row.at(I)I
set_option maxRecDepth 100000 in
noncomputable def xc_272_24 : List XE := (26, 0, 0, 0, 24, 1) :: []
set_option maxRecDepth 100000 in
noncomputable def xc_272_23 : List XE := (4, 0, 0, 0, 23, 1) :: xc_272_24
set_option maxRecDepth 100000 in
noncomputable def xc_272_0 : List XE := (1, 1, 0, 0, 0, 1) :: (12, 23, 2, 0, 1, 3) :: (1, 1, 0, 0, 4, 1) :: (1, 0, 2, 0, 5, 1) :: (16, 0, 0, 2, 6, 3) :: (20, 0, 0, 0, 9, 1) :: (13, 23, 3, 0, 10, 3) :: (1, 0, 2, 0, 13, 1) :: (16, 0, 0, 2, 14, 3) :: (1, 1, 0, 0, 17, 1) :: (18, 1, 0, 0, 18, 1) :: (41, 0, 0, 0, 19, 1) :: (14, 24, 0, 0, 20, 3) :: xc_272_23
noncomputable def xj_272 : Lean.RArray (List XE) := .branch 24 (.leaf xc_272_23) (.leaf xc_272_24)
-- 273: EmberScript$Value.number(J)I
set_option maxRecDepth 100000 in
noncomputable def xc_273_0 : List XE := (1, 0, 1, 0, 0, 1) :: (41, 0, 0, 0, 1, 1) :: (26, 0, 0, 0, 2, 1) :: []
noncomputable def xj_273 : Lean.RArray (List XE) := .leaf []
-- 274: EmberScript.needPrint(I)V
set_option maxRecDepth 100000 in
noncomputable def xc_274_29 : List XE := (26, 9, 0, 0, 29, 1) :: []
set_option maxRecDepth 100000 in
noncomputable def xc_274_21 : List XE := (27, 2, 200, 0, 21, 3) :: (34, 0, 0, 0, 24, 1) :: (0, 0, 0, 0, 25, 3) :: (0, 0, 0, 0, 28, 1) :: xc_274_29
set_option maxRecDepth 100000 in
noncomputable def xc_274_0 : List XE := (1, 1, 0, 0, 0, 1) :: (12, 21, 2, 0, 1, 3) :: (1, 1, 0, 0, 4, 1) :: (4, 28, 0, 0, 5, 2) :: (13, 21, 3, 0, 7, 3) :: (1, 1, 0, 0, 10, 1) :: (1, 0, 2, 0, 11, 1) :: (16, 10, 3, 2, 12, 3) :: (24, 165, 0, 10, 15, 3) :: (13, 29, 2, 0, 18, 3) :: xc_274_21
noncomputable def xj_274 : Lean.RArray (List XE) := .branch 29 (.leaf xc_274_21) (.leaf xc_274_29)
-- 275: EmberScript$Machine.print(I)J
set_option maxRecDepth 100000 in
noncomputable def xc_275_0 : List XE := (1, 0, 2, 0, 0, 1) :: (16, 9, 6, 2, 1, 3) :: (1, 0, 2, 0, 4, 1) :: (16, 9, 12, 0, 5, 3) :: (4, 3, 0, 0, 8, 1) :: (6, 1, 0, 0, 9, 1) :: (1, 1, 0, 0, 10, 1) :: (6, 1, 0, 0, 11, 1) :: (4, 28, 0, 0, 12, 2) :: (7, 10, 0, 0, 14, 1) :: (24, 327, 0, 1, 15, 3) :: (26, 1, 0, 0, 18, 1) :: []
noncomputable def xj_275 : Lean.RArray (List XE) := .leaf []
-- 276: EmberScript.needFailure()V
set_option maxRecDepth 100000 in
noncomputable def xc_276_19 : List XE := (26, 9, 0, 0, 19, 1) :: []
set_option maxRecDepth 100000 in
noncomputable def xc_276_0 : List XE := (1, 0, 2, 0, 0, 1) :: (16, 10, 3, 2, 1, 3) :: (24, 142, 0, 10, 4, 3) :: (4, 6, 0, 0, 7, 1) :: (13, 19, 0, 0, 8, 3) :: (27, 0, 54, 0, 11, 3) :: (34, 0, 0, 0, 14, 1) :: (0, 0, 0, 0, 15, 3) :: (0, 0, 0, 0, 18, 1) :: xc_276_19
noncomputable def xj_276 : Lean.RArray (List XE) := .leaf xc_276_19
-- 277: EmberScript$Machine.thrownValue()J
set_option maxRecDepth 100000 in
noncomputable def xc_277_0 : List XE := (1, 0, 2, 0, 0, 1) :: (16, 9, 13, 1, 1, 3) :: (26, 1, 0, 0, 4, 1) :: []
noncomputable def xj_277 : Lean.RArray (List XE) := .leaf []
-- 278: EmberScript.needThing(I)V
set_option maxRecDepth 100000 in
noncomputable def xc_278_32 : List XE := (26, 9, 0, 0, 32, 1) :: []
set_option maxRecDepth 100000 in
noncomputable def xc_278_24 : List XE := (27, 2, 200, 0, 24, 3) :: (34, 0, 0, 0, 27, 1) :: (0, 0, 0, 0, 28, 3) :: (0, 0, 0, 0, 31, 1) :: xc_278_32
set_option maxRecDepth 100000 in
noncomputable def xc_278_0 : List XE := (1, 1, 0, 0, 0, 1) :: (12, 24, 2, 0, 1, 3) :: (1, 1, 0, 0, 4, 1) :: (4, 19, 0, 0, 5, 2) :: (13, 24, 3, 0, 7, 3) :: (1, 0, 2, 0, 10, 1) :: (16, 10, 3, 2, 11, 3) :: (24, 171, 0, 10, 14, 3) :: (1, 1, 0, 0, 17, 1) :: (24, 208, 0, 6, 18, 3) :: (12, 32, 1, 0, 21, 3) :: xc_278_24
noncomputable def xj_278 : Lean.RArray (List XE) := .branch 32 (.leaf xc_278_24) (.leaf xc_278_32)
-- 279: EmberScript$Things.kind(I)I
set_option maxRecDepth 100000 in
noncomputable def xc_279_0 : List XE := (1, 0, 2, 0, 0, 1) :: (16, 5, 0, 2, 1, 3) :: (1, 1, 0, 0, 4, 1) :: (24, 272, 0, 1, 5, 3) :: (26, 0, 0, 0, 8, 1) :: []
noncomputable def xj_279 : Lean.RArray (List XE) := .leaf []
-- 280: EmberScript$Things.function(I)I
set_option maxRecDepth 100000 in
noncomputable def xc_280_0 : List XE := (1, 0, 2, 0, 0, 1) :: (16, 5, 1, 2, 1, 3) :: (1, 1, 0, 0, 4, 1) :: (24, 272, 0, 1, 5, 3) :: (26, 0, 0, 0, 8, 1) :: []
noncomputable def xj_280 : Lean.RArray (List XE) := .leaf []
-- 281: EmberScript.needKind(II)V
set_option maxRecDepth 100000 in
noncomputable def xc_281_23 : List XE := (26, 9, 0, 0, 23, 1) :: []
set_option maxRecDepth 100000 in
noncomputable def xc_281_0 : List XE := (1, 0, 2, 0, 0, 1) :: (16, 10, 3, 2, 1, 3) :: (24, 171, 0, 10, 4, 3) :: (1, 1, 0, 0, 7, 1) :: (24, 279, 0, 6, 8, 3) :: (1, 2, 0, 0, 11, 1) :: (13, 23, 0, 0, 12, 3) :: (27, 1, 65, 0, 15, 3) :: (34, 0, 0, 0, 18, 1) :: (0, 0, 0, 0, 19, 3) :: (0, 0, 0, 0, 22, 1) :: xc_281_23
noncomputable def xj_281 : Lean.RArray (List XE) := .leaf xc_281_23
-- 282: EmberScript$Things.slotCount(I)I
set_option maxRecDepth 100000 in
noncomputable def xc_282_0 : List XE := (1, 0, 2, 0, 0, 1) :: (16, 5, 6, 2, 1, 3) :: (1, 1, 0, 0, 4, 1) :: (24, 272, 0, 1, 5, 3) :: (26, 0, 0, 0, 8, 1) :: []
noncomputable def xj_282 : Lean.RArray (List XE) := .leaf []
-- 283: EmberScript.needSlot(II)V
set_option maxRecDepth 100000 in
noncomputable def xc_283_38 : List XE := (26, 9, 0, 0, 38, 1) :: []
set_option maxRecDepth 100000 in
noncomputable def xc_283_30 : List XE := (27, 2, 200, 0, 30, 3) :: (34, 0, 0, 0, 33, 1) :: (0, 0, 0, 0, 34, 3) :: (0, 0, 0, 0, 37, 1) :: xc_283_38
set_option maxRecDepth 100000 in
noncomputable def xc_283_0 : List XE := (1, 0, 2, 0, 0, 1) :: (1, 1, 0, 0, 1, 1) :: (24, 278, 0, 11, 2, 3) :: (1, 0, 2, 0, 5, 1) :: (1, 1, 0, 0, 6, 1) :: (4, 8, 0, 0, 7, 1) :: (24, 281, 0, 11, 8, 3) :: (1, 2, 0, 0, 11, 1) :: (12, 30, 2, 0, 12, 3) :: (1, 2, 0, 0, 15, 1) :: (1, 0, 2, 0, 16, 1) :: (16, 10, 3, 2, 17, 3) :: (24, 171, 0, 10, 20, 3) :: (1, 1, 0, 0, 23, 1) :: (24, 282, 0, 6, 24, 3) :: (13, 38, 2, 0, 27, 3) :: xc_283_30
noncomputable def xj_283 : Lean.RArray (List XE) := .branch 38 (.leaf xc_283_30) (.leaf xc_283_38)
-- 284: EmberScript$Things.slotWord(II)I
set_option maxRecDepth 100000 in
noncomputable def xc_284_0 : List XE := (1, 0, 2, 0, 0, 1) :: (16, 5, 7, 2, 1, 3) :: (1, 1, 0, 0, 4, 1) :: (4, 21, 0, 0, 5, 2) :: (6, 2, 0, 0, 7, 1) :: (1, 2, 0, 0, 8, 1) :: (6, 0, 0, 0, 9, 1) :: (24, 272, 0, 1, 10, 3) :: (26, 0, 0, 0, 13, 1) :: []
noncomputable def xj_284 : Lean.RArray (List XE) := .leaf []
-- 285: EmberScript$Things.slotValue(II)J
set_option maxRecDepth 100000 in
noncomputable def xc_285_0 : List XE := (1, 0, 2, 0, 0, 1) :: (16, 5, 8, 2, 1, 3) :: (1, 1, 0, 0, 4, 1) :: (4, 21, 0, 0, 5, 2) :: (6, 2, 0, 0, 7, 1) :: (1, 2, 0, 0, 8, 1) :: (6, 0, 0, 0, 9, 1) :: (24, 327, 0, 1, 10, 3) :: (26, 1, 0, 0, 13, 1) :: []
noncomputable def xj_285 : Lean.RArray (List XE) := .leaf []
-- 286: EmberScript$Things.parent(I)I
set_option maxRecDepth 100000 in
noncomputable def xc_286_0 : List XE := (1, 0, 2, 0, 0, 1) :: (16, 5, 4, 2, 1, 3) :: (1, 1, 0, 0, 4, 1) :: (24, 272, 0, 1, 5, 3) :: (26, 0, 0, 0, 8, 1) :: []
noncomputable def xj_286 : Lean.RArray (List XE) := .leaf []
-- 287: EmberScript$Things.progress(I)I
set_option maxRecDepth 100000 in
noncomputable def xc_287_0 : List XE := (1, 0, 2, 0, 0, 1) :: (16, 5, 3, 2, 1, 3) :: (1, 1, 0, 0, 4, 1) :: (24, 272, 0, 1, 5, 3) :: (26, 0, 0, 0, 8, 1) :: []
noncomputable def xj_287 : Lean.RArray (List XE) := .leaf []
-- 288: EmberScript$Things.target(I)I
set_option maxRecDepth 100000 in
noncomputable def xc_288_0 : List XE := (1, 0, 2, 0, 0, 1) :: (16, 5, 5, 2, 1, 3) :: (1, 1, 0, 0, 4, 1) :: (24, 272, 0, 1, 5, 3) :: (26, 0, 0, 0, 8, 1) :: []
noncomputable def xj_288 : Lean.RArray (List XE) := .leaf []
-- 289: EmberScript$Machine.distanceSeen(I)I
set_option maxRecDepth 100000 in
noncomputable def xc_289_0 : List XE := (1, 0, 2, 0, 0, 1) :: (16, 9, 4, 2, 1, 3) :: (1, 1, 0, 0, 4, 1) :: (24, 255, 0, 9, 5, 3) :: (26, 0, 0, 0, 8, 1) :: []
noncomputable def xj_289 : Lean.RArray (List XE) := .leaf []
-- 290: EmberScriptModel$Run.clearLevels(I)V
set_option maxRecDepth 100000 in
noncomputable def xc_290_21 : List XE := (1, 0, 2, 0, 21, 1) :: (4, 0, 0, 0, 22, 1) :: (17, 13, 42, 0, 23, 3) :: (1, 0, 2, 0, 26, 1) :: (1, 1, 0, 0, 27, 1) :: (17, 13, 43, 0, 28, 3) :: (26, 9, 0, 0, 31, 1) :: []
set_option maxRecDepth 100000 in
noncomputable def xc_290_2 : List XE := (1, 2, 0, 0, 2, 1) :: (4, 19, 0, 0, 3, 2) :: (13, 21, 3, 0, 5, 3) :: (1, 0, 2, 0, 8, 1) :: (16, 13, 40, 2, 9, 3) :: (1, 2, 0, 0, 12, 1) :: (4, 0, 0, 0, 13, 1) :: (19, 0, 0, 0, 14, 1) :: (5, 2, 3, 0, 15, 3) :: (14, 2, 0, 0, 18, 3) :: xc_290_21
set_option maxRecDepth 100000 in
noncomputable def xc_290_0 : List XE := (4, 0, 0, 0, 0, 1) :: (2, 2, 0, 0, 1, 1) :: xc_290_2
noncomputable def xj_290 : Lean.RArray (List XE) := .branch 21 (.leaf xc_290_2) (.leaf xc_290_21)
-- 291: EmberScriptModel$Run.touchPlace(II)V
set_option maxRecDepth 100000 in
noncomputable def xc_291_130 : List XE := (26, 9, 0, 0, 130, 1) :: []
set_option maxRecDepth 100000 in
noncomputable def xc_291_124 : List XE := (5, 3, 8, 0, 124, 3) :: (14, 59, 0, 0, 127, 3) :: xc_291_130
set_option maxRecDepth 100000 in
noncomputable def xc_291_96 : List XE := (1, 4, 2, 0, 96, 2) :: (1, 3, 0, 0, 98, 1) :: (18, 0, 0, 0, 99, 1) :: (4, 16, 0, 0, 100, 2) :: (13, 124, 1, 0, 102, 3) :: (1, 0, 2, 0, 105, 1) :: (1, 4, 2, 0, 106, 2) :: (1, 3, 0, 0, 108, 1) :: (4, 6, 0, 0, 109, 1) :: (6, 0, 0, 0, 110, 1) :: (18, 0, 0, 0, 111, 1) :: (4, 7, 0, 0, 112, 1) :: (6, 7, 0, 0, 113, 1) :: (1, 4, 2, 0, 114, 2) :: (1, 3, 0, 0, 116, 1) :: (4, 7, 0, 0, 117, 1) :: (6, 0, 0, 0, 118, 1) :: (18, 0, 0, 0, 119, 1) :: (1, 2, 0, 0, 120, 1) :: (24, 292, 0, 14, 121, 3) :: xc_291_124
set_option maxRecDepth 100000 in
noncomputable def xc_291_59 : List XE := (1, 3, 0, 0, 59, 1) :: (1, 0, 2, 0, 60, 1) :: (16, 13, 33, 2, 61, 3) :: (1, 1, 0, 0, 64, 1) :: (18, 0, 0, 0, 65, 1) :: (13, 130, 3, 0, 66, 3) :: (1, 0, 2, 0, 69, 1) :: (16, 13, 35, 2, 70, 3) :: (1, 1, 0, 0, 73, 1) :: (18, 3, 0, 0, 74, 1) :: (2, 4, 2, 0, 75, 2) :: (1, 4, 2, 0, 77, 2) :: (1, 3, 0, 0, 79, 1) :: (18, 0, 0, 0, 80, 1) :: (4, 8, 0, 0, 81, 1) :: (13, 96, 1, 0, 82, 3) :: (1, 0, 2, 0, 85, 1) :: (1, 4, 2, 0, 86, 2) :: (1, 3, 0, 0, 88, 1) :: (4, 7, 0, 0, 89, 1) :: (6, 0, 0, 0, 90, 1) :: (18, 0, 0, 0, 91, 1) :: (1, 2, 0, 0, 92, 1) :: (24, 293, 0, 14, 93, 3) :: xc_291_96
set_option maxRecDepth 100000 in
noncomputable def xc_291_57 : List XE := (4, 0, 0, 0, 57, 1) :: (2, 3, 0, 0, 58, 1) :: xc_291_59
set_option maxRecDepth 100000 in
noncomputable def xc_291_24 : List XE := (1, 3, 0, 0, 24, 1) :: (1, 0, 2, 0, 25, 1) :: (16, 13, 34, 2, 26, 3) :: (1, 1, 0, 0, 29, 1) :: (18, 0, 0, 0, 30, 1) :: (13, 57, 3, 0, 31, 3) :: (1, 0, 2, 0, 34, 1) :: (1, 0, 2, 0, 35, 1) :: (1, 1, 0, 0, 36, 1) :: (1, 3, 0, 0, 37, 1) :: (24, 319, 0, 14, 38, 3) :: (1, 0, 2, 0, 41, 1) :: (1, 1, 0, 0, 42, 1) :: (1, 3, 0, 0, 43, 1) :: (24, 329, 0, 14, 44, 3) :: (1, 2, 0, 0, 47, 1) :: (24, 292, 0, 14, 48, 3) :: (5, 3, 3, 0, 51, 3) :: (14, 24, 0, 0, 54, 3) :: xc_291_57
set_option maxRecDepth 100000 in
noncomputable def xc_291_0 : List XE := (1, 0, 2, 0, 0, 1) :: (1, 0, 2, 0, 1, 1) :: (16, 13, 30, 2, 2, 3) :: (1, 1, 0, 0, 5, 1) :: (18, 0, 0, 0, 6, 1) :: (1, 2, 0, 0, 7, 1) :: (24, 328, 0, 14, 8, 3) :: (1, 0, 2, 0, 11, 1) :: (1, 0, 2, 0, 12, 1) :: (16, 13, 31, 2, 13, 3) :: (1, 1, 0, 0, 16, 1) :: (18, 0, 0, 0, 17, 1) :: (1, 2, 0, 0, 18, 1) :: (24, 293, 0, 14, 19, 3) :: (4, 0, 0, 0, 22, 1) :: (2, 3, 0, 0, 23, 1) :: xc_291_24
noncomputable def xj_291 : Lean.RArray (List XE) := .branch 96 (.branch 57 (.leaf xc_291_24) (.branch 59 (.leaf xc_291_57) (.leaf xc_291_59))) (.branch 124 (.leaf xc_291_96) (.branch 130 (.leaf xc_291_124) (.leaf xc_291_130)))
-- 292: EmberScriptModel$Run.touch(III)V
set_option maxRecDepth 100000 in
noncomputable def xc_292_23 : List XE := (1, 0, 2, 0, 23, 1) :: (16, 13, 40, 2, 24, 3) :: (1, 2, 0, 0, 27, 1) :: (1, 3, 0, 0, 28, 1) :: (19, 0, 0, 0, 29, 1) :: (1, 0, 2, 0, 30, 1) :: (16, 13, 41, 2, 31, 3) :: (1, 0, 2, 0, 34, 1) :: (34, 0, 0, 0, 35, 1) :: (16, 13, 42, 0, 36, 3) :: (37, 0, 0, 0, 39, 1) :: (4, 3, 0, 0, 40, 1) :: (6, 0, 0, 0, 41, 1) :: (17, 13, 42, 0, 42, 3) :: (1, 2, 0, 0, 45, 1) :: (19, 0, 0, 0, 46, 1) :: (26, 9, 0, 0, 47, 1) :: []
set_option maxRecDepth 100000 in
noncomputable def xc_292_22 : List XE := (26, 9, 0, 0, 22, 1) :: xc_292_23
set_option maxRecDepth 100000 in
noncomputable def xc_292_0 : List XE := (1, 1, 0, 0, 0, 1) :: (4, 8, 0, 0, 1, 1) :: (13, 22, 2, 0, 2, 3) :: (1, 2, 0, 0, 5, 1) :: (1, 0, 2, 0, 6, 1) :: (16, 13, 43, 0, 7, 3) :: (13, 22, 0, 0, 10, 3) :: (1, 0, 2, 0, 13, 1) :: (16, 13, 40, 2, 14, 3) :: (1, 2, 0, 0, 17, 1) :: (18, 0, 0, 0, 18, 1) :: (12, 23, 0, 0, 19, 3) :: xc_292_22
noncomputable def xj_292 : Lean.RArray (List XE) := .branch 23 (.leaf xc_292_22) (.leaf xc_292_23)
-- 293: EmberScriptModel$Run.touchThing(II)V
set_option maxRecDepth 100000 in
noncomputable def xc_293_17 : List XE := (26, 9, 0, 0, 17, 1) :: []
set_option maxRecDepth 100000 in
noncomputable def xc_293_0 : List XE := (1, 1, 0, 0, 0, 1) :: (4, 11, 0, 0, 1, 1) :: (13, 17, 0, 0, 2, 3) :: (1, 0, 2, 0, 5, 1) :: (1, 0, 2, 0, 6, 1) :: (16, 13, 10, 2, 7, 3) :: (1, 1, 0, 0, 10, 1) :: (18, 0, 0, 0, 11, 1) :: (1, 1, 0, 0, 12, 1) :: (1, 2, 0, 0, 13, 1) :: (24, 292, 0, 14, 14, 3) :: xc_293_17
noncomputable def xj_293 : Lean.RArray (List XE) := .leaf xc_293_17
-- 294: EmberScriptModel$Run.goOnReaching()V
set_option maxRecDepth 100000 in
noncomputable def xc_294_39 : List XE := (26, 9, 0, 0, 39, 1) :: []
set_option maxRecDepth 100000 in
noncomputable def xc_294_2 : List XE := (1, 1, 0, 0, 2, 1) :: (1, 0, 2, 0, 3, 1) :: (16, 13, 42, 0, 4, 3) :: (13, 39, 3, 0, 7, 3) :: (1, 0, 2, 0, 10, 1) :: (1, 0, 2, 0, 11, 1) :: (16, 13, 41, 2, 12, 3) :: (1, 1, 0, 0, 15, 1) :: (18, 0, 0, 0, 16, 1) :: (1, 0, 2, 0, 17, 1) :: (16, 13, 40, 2, 18, 3) :: (1, 0, 2, 0, 21, 1) :: (16, 13, 41, 2, 22, 3) :: (1, 1, 0, 0, 25, 1) :: (18, 0, 0, 0, 26, 1) :: (18, 0, 0, 0, 27, 1) :: (4, 3, 0, 0, 28, 1) :: (6, 0, 0, 0, 29, 1) :: (0, 0, 0, 0, 30, 3) :: (5, 1, 3, 0, 33, 3) :: (14, 2, 0, 0, 36, 3) :: xc_294_39
set_option maxRecDepth 100000 in
noncomputable def xc_294_0 : List XE := (4, 0, 0, 0, 0, 1) :: (2, 1, 0, 0, 1, 1) :: xc_294_2
noncomputable def xj_294 : Lean.RArray (List XE) := .branch 39 (.leaf xc_294_2) (.leaf xc_294_39)
-- 295: EmberScript$Machine.heldBy(II)I
set_option maxRecDepth 100000 in
noncomputable def xc_295_14 : List XE := (1, 0, 2, 0, 14, 1) :: (16, 9, 5, 2, 15, 3) :: (1, 1, 0, 0, 18, 1) :: (24, 250, 0, 9, 19, 3) :: (1, 0, 2, 0, 22, 1) :: (16, 9, 5, 2, 23, 3) :: (24, 251, 0, 9, 26, 3) :: (1, 0, 2, 0, 29, 1) :: (16, 9, 5, 2, 30, 3) :: (1, 0, 2, 0, 33, 1) :: (16, 9, 13, 1, 34, 3) :: (4, 3, 0, 0, 37, 1) :: (24, 252, 0, 9, 38, 3) :: (1, 2, 0, 0, 41, 1) :: (1, 0, 2, 0, 42, 1) :: (16, 9, 5, 2, 43, 3) :: (24, 254, 0, 9, 46, 3) :: (6, 1, 0, 0, 49, 1) :: (26, 0, 0, 0, 50, 1) :: []
set_option maxRecDepth 100000 in
noncomputable def xc_295_0 : List XE := (1, 0, 2, 0, 0, 1) :: (16, 9, 4, 2, 1, 3) :: (1, 1, 0, 0, 4, 1) :: (24, 255, 0, 9, 5, 3) :: (4, 11, 0, 0, 8, 1) :: (13, 14, 1, 0, 9, 3) :: (4, 0, 0, 0, 12, 1) :: (26, 0, 0, 0, 13, 1) :: xc_295_14
noncomputable def xj_295 : Lean.RArray (List XE) := .leaf xc_295_14
-- 296: EmberScript$Machine.lookFrom(I)V
set_option maxRecDepth 100000 in
noncomputable def xc_296_0 : List XE := (1, 0, 2, 0, 0, 1) :: (16, 9, 4, 2, 1, 3) :: (4, 11, 0, 0, 4, 1) :: (24, 250, 0, 9, 5, 3) :: (1, 0, 2, 0, 8, 1) :: (16, 9, 4, 2, 9, 3) :: (1, 1, 0, 0, 12, 1) :: (0, 0, 0, 0, 13, 3) :: (1, 0, 2, 0, 16, 1) :: (16, 9, 4, 2, 17, 3) :: (24, 254, 0, 9, 20, 3) :: (35, 0, 0, 0, 23, 1) :: (26, 9, 0, 0, 24, 1) :: []
noncomputable def xj_296 : Lean.RArray (List XE) := .leaf []
-- 297: EmberScript$Things.copyFrom(LEmberScript$Things;)V
set_option maxRecDepth 100000 in
noncomputable def xc_297_0 : List XE := (1, 0, 2, 0, 0, 1) :: (16, 5, 0, 2, 1, 3) :: (1, 1, 2, 0, 4, 1) :: (16, 5, 0, 2, 5, 3) :: (24, 232, 0, 1, 8, 3) :: (1, 0, 2, 0, 11, 1) :: (16, 5, 1, 2, 12, 3) :: (1, 1, 2, 0, 15, 1) :: (16, 5, 1, 2, 16, 3) :: (24, 232, 0, 1, 19, 3) :: (1, 0, 2, 0, 22, 1) :: (16, 5, 2, 2, 23, 3) :: (1, 1, 2, 0, 26, 1) :: (16, 5, 2, 2, 27, 3) :: (24, 232, 0, 1, 30, 3) :: (1, 0, 2, 0, 33, 1) :: (16, 5, 3, 2, 34, 3) :: (1, 1, 2, 0, 37, 1) :: (16, 5, 3, 2, 38, 3) :: (24, 232, 0, 1, 41, 3) :: (1, 0, 2, 0, 44, 1) :: (16, 5, 4, 2, 45, 3) :: (1, 1, 2, 0, 48, 1) :: (16, 5, 4, 2, 49, 3) :: (24, 232, 0, 1, 52, 3) :: (1, 0, 2, 0, 55, 1) :: (16, 5, 5, 2, 56, 3) :: (1, 1, 2, 0, 59, 1) :: (16, 5, 5, 2, 60, 3) :: (24, 232, 0, 1, 63, 3) :: (1, 0, 2, 0, 66, 1) :: (16, 5, 6, 2, 67, 3) :: (1, 1, 2, 0, 70, 1) :: (16, 5, 6, 2, 71, 3) :: (24, 232, 0, 1, 74, 3) :: (1, 0, 2, 0, 77, 1) :: (16, 5, 7, 2, 78, 3) :: (1, 1, 2, 0, 81, 1) :: (16, 5, 7, 2, 82, 3) :: (24, 232, 0, 1, 85, 3) :: (1, 0, 2, 0, 88, 1) :: (16, 5, 8, 2, 89, 3) :: (1, 1, 2, 0, 92, 1) :: (16, 5, 8, 2, 93, 3) :: (24, 232, 0, 1, 96, 3) :: (1, 0, 2, 0, 99, 1) :: (1, 1, 2, 0, 100, 1) :: (16, 5, 9, 0, 101, 3) :: (17, 5, 9, 0, 104, 3) :: (26, 9, 0, 0, 107, 1) :: []
noncomputable def xj_297 : Lean.RArray (List XE) := .leaf []
-- 298: EmberScript$Scopes.copyFrom(LEmberScript$Scopes;)V
set_option maxRecDepth 100000 in
noncomputable def xc_298_0 : List XE := (1, 0, 2, 0, 0, 1) :: (16, 6, 0, 2, 1, 3) :: (1, 1, 2, 0, 4, 1) :: (16, 6, 0, 2, 5, 3) :: (24, 232, 0, 1, 8, 3) :: (1, 0, 2, 0, 11, 1) :: (16, 6, 1, 2, 12, 3) :: (1, 1, 2, 0, 15, 1) :: (16, 6, 1, 2, 16, 3) :: (24, 232, 0, 1, 19, 3) :: (1, 0, 2, 0, 22, 1) :: (16, 6, 2, 2, 23, 3) :: (1, 1, 2, 0, 26, 1) :: (16, 6, 2, 2, 27, 3) :: (24, 232, 0, 1, 30, 3) :: (1, 0, 2, 0, 33, 1) :: (1, 1, 2, 0, 34, 1) :: (16, 6, 4, 0, 35, 3) :: (17, 6, 4, 0, 38, 3) :: (26, 9, 0, 0, 41, 1) :: []
noncomputable def xj_298 : Lean.RArray (List XE) := .leaf []
-- 299: EmberScript$Frames.copyFrom(LEmberScript$Frames;)V
set_option maxRecDepth 100000 in
noncomputable def xc_299_0 : List XE := (1, 0, 2, 0, 0, 1) :: (16, 7, 0, 2, 1, 3) :: (1, 1, 2, 0, 4, 1) :: (16, 7, 0, 2, 5, 3) :: (24, 232, 0, 1, 8, 3) :: (1, 0, 2, 0, 11, 1) :: (16, 7, 1, 2, 12, 3) :: (1, 1, 2, 0, 15, 1) :: (16, 7, 1, 2, 16, 3) :: (24, 232, 0, 1, 19, 3) :: (1, 0, 2, 0, 22, 1) :: (16, 7, 2, 2, 23, 3) :: (1, 1, 2, 0, 26, 1) :: (16, 7, 2, 2, 27, 3) :: (24, 232, 0, 1, 30, 3) :: (1, 0, 2, 0, 33, 1) :: (16, 7, 3, 2, 34, 3) :: (1, 1, 2, 0, 37, 1) :: (16, 7, 3, 2, 38, 3) :: (24, 232, 0, 1, 41, 3) :: (1, 0, 2, 0, 44, 1) :: (16, 7, 4, 2, 45, 3) :: (1, 1, 2, 0, 48, 1) :: (16, 7, 4, 2, 49, 3) :: (24, 232, 0, 1, 52, 3) :: (1, 0, 2, 0, 55, 1) :: (16, 7, 5, 2, 56, 3) :: (1, 1, 2, 0, 59, 1) :: (16, 7, 5, 2, 60, 3) :: (24, 232, 0, 1, 63, 3) :: (1, 0, 2, 0, 66, 1) :: (16, 7, 6, 2, 67, 3) :: (1, 1, 2, 0, 70, 1) :: (16, 7, 6, 2, 71, 3) :: (24, 232, 0, 1, 74, 3) :: (1, 0, 2, 0, 77, 1) :: (16, 7, 7, 2, 78, 3) :: (1, 1, 2, 0, 81, 1) :: (16, 7, 7, 2, 82, 3) :: (24, 232, 0, 1, 85, 3) :: (1, 0, 2, 0, 88, 1) :: (16, 7, 8, 2, 89, 3) :: (1, 1, 2, 0, 92, 1) :: (16, 7, 8, 2, 93, 3) :: (24, 232, 0, 1, 96, 3) :: (1, 0, 2, 0, 99, 1) :: (16, 7, 9, 2, 100, 3) :: (1, 1, 2, 0, 103, 1) :: (16, 7, 9, 2, 104, 3) :: (24, 232, 0, 1, 107, 3) :: (1, 0, 2, 0, 110, 1) :: (16, 7, 10, 2, 111, 3) :: (1, 1, 2, 0, 114, 1) :: (16, 7, 10, 2, 115, 3) :: (24, 232, 0, 1, 118, 3) :: (1, 0, 2, 0, 121, 1) :: (1, 1, 2, 0, 122, 1) :: (16, 7, 11, 0, 123, 3) :: (17, 7, 11, 0, 126, 3) :: (1, 0, 2, 0, 129, 1) :: (1, 1, 2, 0, 130, 1) :: (16, 7, 12, 0, 131, 3) :: (17, 7, 12, 0, 134, 3) :: (26, 9, 0, 0, 137, 1) :: []
noncomputable def xj_299 : Lean.RArray (List XE) := .leaf []
-- 300: EmberScript$Machine.goesOn(I)Z
set_option maxRecDepth 100000 in
noncomputable def xc_300_38 : List XE := (26, 0, 0, 0, 38, 1) :: []
set_option maxRecDepth 100000 in
noncomputable def xc_300_37 : List XE := (4, 0, 0, 0, 37, 1) :: xc_300_38
set_option maxRecDepth 100000 in
noncomputable def xc_300_33 : List XE := (4, 3, 0, 0, 33, 1) :: (14, 38, 0, 0, 34, 3) :: xc_300_37
set_option maxRecDepth 100000 in
noncomputable def xc_300_0 : List XE := (1, 0, 2, 0, 0, 1) :: (16, 9, 7, 0, 1, 3) :: (12, 37, 1, 0, 4, 3) :: (1, 0, 2, 0, 7, 1) :: (16, 9, 9, 0, 8, 3) :: (1, 1, 0, 0, 11, 1) :: (13, 33, 2, 0, 12, 3) :: (1, 0, 2, 0, 15, 1) :: (16, 9, 0, 2, 16, 3) :: (1, 0, 2, 0, 19, 1) :: (16, 9, 3, 2, 20, 3) :: (24, 259, 0, 8, 23, 3) :: (24, 236, 0, 4, 26, 3) :: (4, 3, 0, 0, 29, 1) :: (13, 37, 0, 0, 30, 3) :: xc_300_33
noncomputable def xj_300 : Lean.RArray (List XE) := .branch 37 (.leaf xc_300_33) (.branch 38 (.leaf xc_300_37) (.leaf xc_300_38))
-- 301: EmberScript$Scopes.isFull()Z
set_option maxRecDepth 100000 in
noncomputable def xc_301_12 : List XE := (26, 0, 0, 0, 12, 1) :: []
set_option maxRecDepth 100000 in
noncomputable def xc_301_11 : List XE := (4, 0, 0, 0, 11, 1) :: xc_301_12
set_option maxRecDepth 100000 in
noncomputable def xc_301_0 : List XE := (1, 0, 2, 0, 0, 1) :: (16, 6, 4, 0, 1, 3) :: (12, 11, 1, 0, 4, 3) :: (4, 3, 0, 0, 7, 1) :: (14, 12, 0, 0, 8, 3) :: xc_301_11
noncomputable def xj_301 : Lean.RArray (List XE) := .branch 12 (.leaf xc_301_11) (.leaf xc_301_12)
-- 302: EmberScript$Row.put(IJ)V
set_option maxRecDepth 100000 in
noncomputable def xc_302_20 : List XE := (26, 9, 0, 0, 20, 1) :: []
set_option maxRecDepth 100000 in
noncomputable def xc_302_0 : List XE := (1, 1, 0, 0, 0, 1) :: (12, 20, 2, 0, 1, 3) :: (1, 1, 0, 0, 4, 1) :: (1, 0, 2, 0, 5, 1) :: (16, 0, 0, 2, 6, 3) :: (20, 0, 0, 0, 9, 1) :: (13, 20, 3, 0, 10, 3) :: (1, 0, 2, 0, 13, 1) :: (16, 0, 0, 2, 14, 3) :: (1, 1, 0, 0, 17, 1) :: (1, 2, 1, 0, 18, 1) :: (19, 1, 1, 0, 19, 1) :: xc_302_20
noncomputable def xj_302 : Lean.RArray (List XE) := .leaf xc_302_20
-- 303: EmberScript$Tokens.longerKey(JI)J
set_option maxRecDepth 100000 in
noncomputable def xc_303_28 : List XE := (40, 0, 0, 0, 28, 1) :: (8, 0, 0, 0, 29, 1) :: (26, 1, 0, 0, 30, 1) :: []
set_option maxRecDepth 100000 in
noncomputable def xc_303_22 : List XE := (1, 2, 0, 0, 22, 1) :: (4, 68, 0, 0, 23, 2) :: (6, 1, 0, 0, 25, 1) :: (4, 3, 0, 0, 26, 1) :: (6, 0, 0, 0, 27, 1) :: xc_303_28
set_option maxRecDepth 100000 in
noncomputable def xc_303_0 : List XE := (1, 0, 1, 0, 0, 1) :: (4, 66, 0, 0, 1, 3) :: (8, 2, 0, 0, 4, 1) :: (1, 2, 0, 0, 5, 1) :: (24, 330, 0, 0, 6, 3) :: (12, 22, 0, 0, 9, 3) :: (1, 2, 0, 0, 12, 1) :: (4, 19, 0, 0, 13, 2) :: (6, 1, 0, 0, 15, 1) :: (4, 67, 0, 0, 16, 2) :: (6, 0, 0, 0, 18, 1) :: (14, 28, 0, 0, 19, 3) :: xc_303_22
noncomputable def xj_303 : Lean.RArray (List XE) := .branch 28 (.leaf xc_303_22) (.leaf xc_303_28)
-- 304: EmberScriptModel$Reader.add(I)I
set_option maxRecDepth 100000 in
noncomputable def xc_304_0 : List XE := (1, 0, 2, 0, 0, 1) :: (16, 12, 4, 2, 1, 3) :: (1, 0, 2, 0, 4, 1) :: (16, 12, 7, 0, 5, 3) :: (1, 1, 0, 0, 8, 1) :: (19, 0, 0, 0, 9, 1) :: (1, 0, 2, 0, 10, 1) :: (16, 12, 5, 2, 11, 3) :: (1, 0, 2, 0, 14, 1) :: (16, 12, 7, 0, 15, 3) :: (1, 0, 2, 0, 18, 1) :: (16, 12, 8, 0, 19, 3) :: (1, 1, 0, 0, 22, 1) :: (6, 1, 0, 0, 23, 1) :: (19, 0, 0, 0, 24, 1) :: (1, 0, 2, 0, 25, 1) :: (16, 12, 6, 2, 26, 3) :: (1, 0, 2, 0, 29, 1) :: (16, 12, 7, 0, 30, 3) :: (4, 11, 0, 0, 33, 1) :: (19, 0, 0, 0, 34, 1) :: (1, 0, 2, 0, 35, 1) :: (34, 0, 0, 0, 36, 1) :: (16, 12, 7, 0, 37, 3) :: (37, 0, 0, 0, 40, 1) :: (4, 3, 0, 0, 41, 1) :: (6, 0, 0, 0, 42, 1) :: (17, 12, 7, 0, 43, 3) :: (26, 0, 0, 0, 46, 1) :: []
noncomputable def xj_304 : Lean.RArray (List XE) := .leaf []
-- 305: EmberScript$Names.clear()V
set_option maxRecDepth 100000 in
noncomputable def xc_305_0 : List XE := (28, 1, 0, 0, 0, 2) :: (1, 0, 2, 0, 2, 1) :: (16, 2, 3, 2, 3, 3) :: (24, 210, 0, 0, 6, 3) :: (1, 0, 2, 0, 9, 1) :: (4, 21, 0, 0, 10, 2) :: (17, 2, 5, 0, 12, 3) :: (1, 0, 2, 0, 15, 1) :: (4, 0, 0, 0, 16, 1) :: (17, 2, 4, 0, 17, 3) :: (1, 0, 2, 0, 20, 1) :: (4, 0, 0, 0, 21, 1) :: (17, 2, 6, 0, 22, 3) :: (1, 0, 2, 0, 25, 1) :: (4, 31, 0, 0, 26, 3) :: (17, 2, 7, 0, 29, 3) :: (26, 9, 0, 0, 32, 1) :: []
noncomputable def xj_305 : Lean.RArray (List XE) := .leaf []
-- 306: EmberScript$Script.clear()V
set_option maxRecDepth 100000 in
noncomputable def xc_306_0 : List XE := (1, 0, 2, 0, 0, 1) :: (16, 3, 0, 2, 1, 3) :: (4, 1, 0, 0, 4, 1) :: (24, 313, 0, 1, 5, 3) :: (1, 0, 2, 0, 8, 1) :: (4, 0, 0, 0, 9, 1) :: (17, 3, 8, 0, 10, 3) :: (1, 0, 2, 0, 13, 1) :: (4, 0, 0, 0, 14, 1) :: (17, 3, 9, 0, 15, 3) :: (1, 0, 2, 0, 18, 1) :: (16, 3, 6, 2, 19, 3) :: (4, 0, 0, 0, 22, 1) :: (4, 1, 0, 0, 23, 1) :: (24, 302, 0, 1, 24, 3) :: (1, 0, 2, 0, 27, 1) :: (16, 3, 7, 2, 28, 3) :: (4, 0, 0, 0, 31, 1) :: (4, 1, 0, 0, 32, 1) :: (24, 302, 0, 1, 33, 3) :: (26, 9, 0, 0, 36, 1) :: []
noncomputable def xj_306 : Lean.RArray (List XE) := .leaf []
-- 307: EmberScript$Tokens.behindBlanks(I)I
set_option maxRecDepth 100000 in
noncomputable def xc_307_42 : List XE := (1, 2, 0, 0, 42, 1) :: (26, 0, 0, 0, 43, 1) :: []
set_option maxRecDepth 100000 in
noncomputable def xc_307_4 : List XE := (1, 3, 0, 0, 4, 1) :: (4, 12, 0, 0, 5, 3) :: (13, 42, 3, 0, 8, 3) :: (1, 2, 0, 0, 11, 1) :: (1, 0, 2, 0, 12, 1) :: (16, 1, 5, 0, 13, 3) :: (13, 42, 3, 0, 16, 3) :: (1, 0, 2, 0, 19, 1) :: (16, 1, 0, 2, 20, 3) :: (1, 2, 0, 0, 23, 1) :: (24, 272, 0, 1, 24, 3) :: (24, 331, 0, 0, 27, 3) :: (12, 42, 0, 0, 30, 3) :: (5, 2, 3, 0, 33, 3) :: (5, 3, 3, 0, 36, 3) :: (14, 4, 0, 0, 39, 3) :: xc_307_42
set_option maxRecDepth 100000 in
noncomputable def xc_307_0 : List XE := (1, 1, 0, 0, 0, 1) :: (2, 2, 0, 0, 1, 1) :: (4, 0, 0, 0, 2, 1) :: (2, 3, 0, 0, 3, 1) :: xc_307_4
noncomputable def xj_307 : Lean.RArray (List XE) := .branch 42 (.leaf xc_307_4) (.leaf xc_307_42)
-- 308: EmberScript$Tokens.add(IIJ)V
set_option maxRecDepth 100000 in
noncomputable def xc_308_0 : List XE := (1, 0, 2, 0, 0, 1) :: (16, 1, 2, 2, 1, 3) :: (1, 0, 2, 0, 4, 1) :: (16, 1, 6, 0, 5, 3) :: (1, 1, 0, 0, 8, 1) :: (40, 0, 0, 0, 9, 1) :: (24, 302, 0, 1, 10, 3) :: (1, 0, 2, 0, 13, 1) :: (16, 1, 3, 2, 14, 3) :: (1, 0, 2, 0, 17, 1) :: (16, 1, 6, 0, 18, 3) :: (1, 2, 0, 0, 21, 1) :: (40, 0, 0, 0, 22, 1) :: (24, 302, 0, 1, 23, 3) :: (1, 0, 2, 0, 26, 1) :: (16, 1, 4, 2, 27, 3) :: (1, 0, 2, 0, 30, 1) :: (16, 1, 6, 0, 31, 3) :: (1, 3, 1, 0, 34, 1) :: (24, 302, 0, 1, 35, 3) :: (1, 0, 2, 0, 38, 1) :: (34, 0, 0, 0, 39, 1) :: (16, 1, 6, 0, 40, 3) :: (4, 3, 0, 0, 43, 1) :: (6, 0, 0, 0, 44, 1) :: (17, 1, 6, 0, 45, 3) :: (26, 9, 0, 0, 48, 1) :: []
noncomputable def xj_308 : Lean.RArray (List XE) := .leaf []
-- 309: EmberScript$Reader.mayGoOn()Z
set_option maxRecDepth 100000 in
noncomputable def xc_309_25 : List XE := (26, 0, 0, 0, 25, 1) :: []
set_option maxRecDepth 100000 in
noncomputable def xc_309_24 : List XE := (4, 0, 0, 0, 24, 1) :: xc_309_25
set_option maxRecDepth 100000 in
noncomputable def xc_309_0 : List XE := (1, 0, 2, 0, 0, 1) :: (24, 332, 0, 5, 1, 3) :: (2, 1, 0, 0, 4, 1) :: (1, 1, 0, 0, 5, 1) :: (4, 69, 0, 0, 6, 2) :: (13, 24, 0, 0, 8, 3) :: (1, 1, 0, 0, 11, 1) :: (4, 3, 0, 0, 12, 1) :: (13, 24, 0, 0, 13, 3) :: (1, 1, 0, 0, 16, 1) :: (12, 24, 0, 0, 17, 3) :: (4, 3, 0, 0, 20, 1) :: (14, 25, 0, 0, 21, 3) :: xc_309_24
noncomputable def xj_309 : Lean.RArray (List XE) := .branch 25 (.leaf xc_309_24) (.leaf xc_309_25)
-- 310: EmberScript$Tokens.type(I)I
set_option maxRecDepth 100000 in
noncomputable def xc_310_0 : List XE := (1, 0, 2, 0, 0, 1) :: (16, 1, 2, 2, 1, 3) :: (1, 1, 0, 0, 4, 1) :: (24, 272, 0, 1, 5, 3) :: (26, 0, 0, 0, 8, 1) :: []
noncomputable def xj_310 : Lean.RArray (List XE) := .leaf []
-- 311: EmberScript$Script.set(III)V
set_option maxRecDepth 100000 in
noncomputable def xc_311_0 : List XE := (1, 0, 2, 0, 0, 1) :: (16, 3, 1, 2, 1, 3) :: (1, 1, 0, 0, 4, 1) :: (1, 2, 0, 0, 5, 1) :: (40, 0, 0, 0, 6, 1) :: (24, 302, 0, 1, 7, 3) :: (1, 0, 2, 0, 10, 1) :: (16, 3, 2, 2, 11, 3) :: (1, 1, 0, 0, 14, 1) :: (1, 3, 0, 0, 15, 1) :: (40, 0, 0, 0, 16, 1) :: (24, 302, 0, 1, 17, 3) :: (26, 9, 0, 0, 20, 1) :: []
noncomputable def xj_311 : Lean.RArray (List XE) := .leaf []
-- 312: EmberScript$Script.length()I
set_option maxRecDepth 100000 in
noncomputable def xc_312_0 : List XE := (1, 0, 2, 0, 0, 1) :: (16, 3, 8, 0, 1, 3) :: (26, 0, 0, 0, 4, 1) :: []
noncomputable def xj_312 : Lean.RArray (List XE) := .leaf []
-- 313: EmberScript$Row.fill(J)V
set_option maxRecDepth 100000 in
noncomputable def xc_313_0 : List XE := (1, 0, 2, 0, 0, 1) :: (16, 0, 0, 2, 1, 3) :: (1, 1, 1, 0, 4, 1) :: (29, 0, 0, 0, 5, 3) :: (26, 9, 0, 0, 8, 1) :: []
noncomputable def xj_313 : Lean.RArray (List XE) := .leaf []
-- 314: EmberScript$Scopes.freeOthers()V
set_option maxRecDepth 100000 in
noncomputable def xc_314_53 : List XE := (26, 9, 0, 0, 53, 1) :: []
set_option maxRecDepth 100000 in
noncomputable def xc_314_47 : List XE := (5, 1, 11, 0, 47, 3) :: (14, 9, 0, 0, 50, 3) :: xc_314_53
set_option maxRecDepth 100000 in
noncomputable def xc_314_9 : List XE := (1, 1, 0, 0, 9, 1) :: (12, 53, 5, 0, 10, 3) :: (1, 0, 2, 0, 13, 1) :: (16, 6, 3, 2, 14, 3) :: (1, 1, 0, 0, 17, 1) :: (24, 272, 0, 1, 18, 3) :: (12, 47, 1, 0, 21, 3) :: (1, 0, 2, 0, 24, 1) :: (16, 6, 2, 2, 25, 3) :: (1, 0, 2, 0, 28, 1) :: (16, 6, 4, 0, 29, 3) :: (1, 1, 0, 0, 32, 1) :: (40, 0, 0, 0, 33, 1) :: (24, 302, 0, 1, 34, 3) :: (1, 0, 2, 0, 37, 1) :: (34, 0, 0, 0, 38, 1) :: (16, 6, 4, 0, 39, 3) :: (4, 3, 0, 0, 42, 1) :: (6, 0, 0, 0, 43, 1) :: (17, 6, 4, 0, 44, 3) :: xc_314_47
set_option maxRecDepth 100000 in
noncomputable def xc_314_0 : List XE := (1, 0, 2, 0, 0, 1) :: (4, 0, 0, 0, 1, 1) :: (17, 6, 4, 0, 2, 3) :: (4, 70, 0, 0, 5, 3) :: (2, 1, 0, 0, 8, 1) :: xc_314_9
noncomputable def xj_314 : Lean.RArray (List XE) := .branch 47 (.leaf xc_314_9) (.branch 53 (.leaf xc_314_47) (.leaf xc_314_53))
-- 315: EmberScript$Frames.setUp(IIIJI)V
set_option maxRecDepth 100000 in
noncomputable def xc_315_0 : List XE := (1, 0, 2, 0, 0, 1) :: (16, 7, 1, 2, 1, 3) :: (1, 1, 0, 0, 4, 1) :: (1, 2, 0, 0, 5, 1) :: (40, 0, 0, 0, 6, 1) :: (24, 302, 0, 1, 7, 3) :: (1, 0, 2, 0, 10, 1) :: (16, 7, 2, 2, 11, 3) :: (1, 1, 0, 0, 14, 1) :: (1, 3, 0, 0, 15, 1) :: (40, 0, 0, 0, 16, 1) :: (24, 302, 0, 1, 17, 3) :: (1, 0, 2, 0, 20, 1) :: (16, 7, 3, 2, 21, 3) :: (1, 1, 0, 0, 24, 1) :: (1, 4, 1, 0, 25, 2) :: (24, 302, 0, 1, 27, 3) :: (1, 0, 2, 0, 30, 1) :: (16, 7, 0, 2, 31, 3) :: (1, 1, 0, 0, 34, 1) :: (1, 6, 0, 0, 35, 2) :: (40, 0, 0, 0, 37, 1) :: (24, 302, 0, 1, 38, 3) :: (1, 0, 2, 0, 41, 1) :: (16, 7, 4, 2, 42, 3) :: (1, 1, 0, 0, 45, 1) :: (4, 1, 0, 0, 46, 1) :: (24, 302, 0, 1, 47, 3) :: (26, 9, 0, 0, 50, 1) :: []
noncomputable def xj_315 : Lean.RArray (List XE) := .leaf []
-- 316: EmberScriptModel$Reader.isLetter(I)Z
set_option maxRecDepth 100000 in
noncomputable def xc_316_17 : List XE := (26, 0, 0, 0, 17, 1) :: []
set_option maxRecDepth 100000 in
noncomputable def xc_316_16 : List XE := (4, 0, 0, 0, 16, 1) :: xc_316_17
set_option maxRecDepth 100000 in
noncomputable def xc_316_0 : List XE := (1, 0, 0, 0, 0, 1) :: (4, 68, 0, 0, 1, 2) :: (13, 16, 2, 0, 3, 3) :: (1, 0, 0, 0, 6, 1) :: (4, 71, 0, 0, 7, 2) :: (13, 16, 4, 0, 9, 3) :: (4, 3, 0, 0, 12, 1) :: (14, 17, 0, 0, 13, 3) :: xc_316_16
noncomputable def xj_316 : Lean.RArray (List XE) := .branch 17 (.leaf xc_316_16) (.leaf xc_316_17)
-- 317: EmberScriptModel$Reader.byteAt(I)I
set_option maxRecDepth 100000 in
noncomputable def xc_317_18 : List XE := (26, 0, 0, 0, 18, 1) :: []
set_option maxRecDepth 100000 in
noncomputable def xc_317_17 : List XE := (4, 0, 0, 0, 17, 1) :: xc_317_18
set_option maxRecDepth 100000 in
noncomputable def xc_317_0 : List XE := (1, 1, 0, 0, 0, 1) :: (1, 0, 2, 0, 1, 1) :: (16, 12, 1, 0, 2, 3) :: (13, 17, 3, 0, 5, 3) :: (1, 0, 2, 0, 8, 1) :: (16, 12, 0, 2, 9, 3) :: (1, 1, 0, 0, 12, 1) :: (18, 0, 0, 0, 13, 1) :: (14, 18, 0, 0, 14, 3) :: xc_317_17
noncomputable def xj_317 : Lean.RArray (List XE) := .branch 18 (.leaf xc_317_17) (.leaf xc_317_18)
-- 318: EmberScriptModel$Reader.isDigit(I)Z
set_option maxRecDepth 100000 in
noncomputable def xc_318_17 : List XE := (26, 0, 0, 0, 17, 1) :: []
set_option maxRecDepth 100000 in
noncomputable def xc_318_16 : List XE := (4, 0, 0, 0, 16, 1) :: xc_318_17
set_option maxRecDepth 100000 in
noncomputable def xc_318_0 : List XE := (1, 0, 0, 0, 0, 1) :: (4, 19, 0, 0, 1, 2) :: (13, 16, 2, 0, 3, 3) :: (1, 0, 0, 0, 6, 1) :: (4, 72, 0, 0, 7, 2) :: (13, 16, 4, 0, 9, 3) :: (4, 3, 0, 0, 12, 1) :: (14, 17, 0, 0, 13, 3) :: xc_318_16
noncomputable def xj_318 : Lean.RArray (List XE) := .branch 17 (.leaf xc_318_16) (.leaf xc_318_17)
-- 319: EmberScriptModel$Run.kindAt(II)I
set_option maxRecDepth 100000 in
noncomputable def xc_319_0 : List XE := (1, 0, 2, 0, 0, 1) :: (16, 13, 36, 2, 1, 3) :: (1, 1, 0, 0, 4, 1) :: (18, 3, 0, 0, 5, 1) :: (4, 6, 0, 0, 6, 1) :: (1, 2, 0, 0, 7, 1) :: (6, 2, 0, 0, 8, 1) :: (18, 0, 0, 0, 9, 1) :: (26, 0, 0, 0, 10, 1) :: []
noncomputable def xj_319 : Lean.RArray (List XE) := .leaf []
-- 320: EmberScriptModel$Run.finish(II)V
set_option maxRecDepth 100000 in
noncomputable def xc_320_194 : List XE := (26, 9, 0, 0, 194, 1) :: []
set_option maxRecDepth 100000 in
noncomputable def xc_320_176 : List XE := (1, 0, 2, 0, 176, 1) :: (4, 43, 0, 0, 177, 2) :: (1, 2, 0, 0, 179, 1) :: (24, 333, 0, 14, 180, 3) :: (1, 0, 2, 0, 183, 1) :: (1, 0, 2, 0, 184, 1) :: (16, 13, 45, 0, 185, 3) :: (0, 0, 0, 0, 188, 3) :: (14, 194, 0, 0, 191, 3) :: xc_320_194
set_option maxRecDepth 100000 in
noncomputable def xc_320_155 : List XE := (1, 0, 2, 0, 155, 1) :: (0, 0, 0, 0, 156, 3) :: (1, 0, 2, 0, 159, 1) :: (16, 13, 44, 0, 160, 3) :: (4, 4, 0, 0, 163, 2) :: (13, 176, 0, 0, 165, 3) :: (1, 0, 2, 0, 168, 1) :: (4, 0, 0, 0, 169, 1) :: (0, 0, 0, 0, 170, 3) :: (14, 194, 0, 0, 173, 3) :: xc_320_176
set_option maxRecDepth 100000 in
noncomputable def xc_320_148 : List XE := (1, 0, 2, 0, 148, 1) :: (0, 0, 0, 0, 149, 3) :: (14, 194, 0, 0, 152, 3) :: xc_320_155
set_option maxRecDepth 100000 in
noncomputable def xc_320_140 : List XE := (1, 0, 2, 0, 140, 1) :: (4, 0, 0, 0, 141, 1) :: (0, 0, 0, 0, 142, 3) :: (14, 194, 0, 0, 145, 3) :: xc_320_148
set_option maxRecDepth 100000 in
noncomputable def xc_320_115 : List XE := (1, 0, 2, 0, 115, 1) :: (0, 0, 0, 0, 116, 3) :: (1, 0, 2, 0, 119, 1) :: (16, 13, 44, 0, 120, 3) :: (4, 6, 0, 0, 123, 1) :: (13, 140, 1, 0, 124, 3) :: (1, 0, 2, 0, 127, 1) :: (4, 6, 0, 0, 128, 1) :: (1, 0, 2, 0, 129, 1) :: (16, 13, 45, 0, 130, 3) :: (43, 0, 0, 0, 133, 1) :: (0, 0, 0, 0, 134, 3) :: (14, 194, 0, 0, 137, 3) :: xc_320_140
set_option maxRecDepth 100000 in
noncomputable def xc_320_109 : List XE := (0, 0, 0, 0, 109, 3) :: (14, 194, 0, 0, 112, 3) :: xc_320_115
set_option maxRecDepth 100000 in
noncomputable def xc_320_108 : List XE := (4, 3, 0, 0, 108, 1) :: xc_320_109
set_option maxRecDepth 100000 in
noncomputable def xc_320_84 : List XE := (1, 0, 2, 0, 84, 1) :: (0, 0, 0, 0, 85, 3) :: (1, 0, 2, 0, 88, 1) :: (4, 3, 0, 0, 89, 1) :: (1, 0, 2, 0, 90, 1) :: (16, 13, 44, 0, 91, 3) :: (1, 0, 2, 0, 94, 1) :: (16, 13, 45, 0, 95, 3) :: (0, 0, 0, 0, 98, 3) :: (12, 108, 0, 0, 101, 3) :: (4, 0, 0, 0, 104, 1) :: (14, 109, 0, 0, 105, 3) :: xc_320_108
set_option maxRecDepth 100000 in
noncomputable def xc_320_68 : List XE := (1, 0, 2, 0, 68, 1) :: (1, 0, 2, 0, 69, 1) :: (16, 13, 0, 2, 70, 3) :: (16, 11, 6, 2, 73, 3) :: (1, 2, 0, 0, 76, 1) :: (18, 0, 0, 0, 77, 1) :: (0, 0, 0, 0, 78, 3) :: (14, 194, 0, 0, 81, 3) :: xc_320_84
set_option maxRecDepth 100000 in
noncomputable def xc_320_60 : List XE := (1, 0, 2, 0, 60, 1) :: (1, 2, 0, 0, 61, 1) :: (0, 0, 0, 0, 62, 3) :: (14, 194, 0, 0, 65, 3) :: xc_320_68
set_option maxRecDepth 100000 in
noncomputable def xc_320_0 : List XE := (1, 1, 0, 0, 0, 1) :: (15, 2, 0, 0, 1, 59) :: xc_320_60
noncomputable def xj_320 : Lean.RArray (List XE) := .branch 115 (.branch 84 (.branch 68 (.leaf xc_320_60) (.leaf xc_320_68)) (.branch 108 (.leaf xc_320_84) (.branch 109 (.leaf xc_320_108) (.leaf xc_320_109)))) (.branch 155 (.branch 140 (.leaf xc_320_115) (.branch 148 (.leaf xc_320_140) (.leaf xc_320_148))) (.branch 176 (.leaf xc_320_155) (.branch 194 (.leaf xc_320_176) (.leaf xc_320_194))))
-- 321: EmberScript$Scopes.value(II)J
set_option maxRecDepth 100000 in
noncomputable def xc_321_0 : List XE := (1, 0, 2, 0, 0, 1) :: (16, 6, 0, 2, 1, 3) :: (1, 1, 0, 0, 4, 1) :: (1, 2, 0, 0, 5, 1) :: (24, 334, 0, 0, 6, 3) :: (24, 327, 0, 1, 9, 3) :: (26, 1, 0, 0, 12, 1) :: []
noncomputable def xj_321 : Lean.RArray (List XE) := .leaf []
-- 322: EmberScript$Reach.takeRecord(II)V
set_option maxRecDepth 100000 in
noncomputable def xc_322_90 : List XE := (26, 9, 0, 0, 90, 1) :: []
set_option maxRecDepth 100000 in
noncomputable def xc_322_84 : List XE := (5, 3, 3, 0, 84, 3) :: (14, 28, 0, 0, 87, 3) :: xc_322_90
set_option maxRecDepth 100000 in
noncomputable def xc_322_70 : List XE := (1, 0, 2, 0, 70, 1) :: (1, 0, 2, 0, 71, 1) :: (16, 8, 2, 2, 72, 3) :: (1, 1, 0, 0, 75, 1) :: (1, 3, 0, 0, 76, 1) :: (24, 267, 0, 8, 77, 3) :: (1, 2, 0, 0, 80, 1) :: (24, 252, 0, 9, 81, 3) :: xc_322_84
set_option maxRecDepth 100000 in
noncomputable def xc_322_28 : List XE := (1, 3, 0, 0, 28, 1) :: (1, 0, 2, 0, 29, 1) :: (16, 8, 2, 2, 30, 3) :: (1, 1, 0, 0, 33, 1) :: (24, 265, 0, 8, 34, 3) :: (13, 90, 3, 0, 37, 3) :: (1, 0, 2, 0, 40, 1) :: (16, 8, 2, 2, 41, 3) :: (1, 1, 0, 0, 44, 1) :: (1, 3, 0, 0, 45, 1) :: (24, 266, 0, 8, 46, 3) :: (2, 4, 0, 0, 49, 2) :: (1, 4, 0, 0, 51, 2) :: (4, 6, 0, 0, 53, 1) :: (13, 70, 0, 0, 54, 3) :: (1, 4, 0, 0, 57, 2) :: (4, 9, 0, 0, 59, 1) :: (13, 70, 0, 0, 60, 3) :: (1, 4, 0, 0, 63, 2) :: (4, 4, 0, 0, 65, 2) :: (13, 84, 1, 0, 67, 3) :: xc_322_70
set_option maxRecDepth 100000 in
noncomputable def xc_322_0 : List XE := (1, 0, 2, 0, 0, 1) :: (1, 0, 2, 0, 1, 1) :: (16, 8, 2, 2, 2, 3) :: (1, 1, 0, 0, 5, 1) :: (24, 335, 0, 8, 6, 3) :: (1, 2, 0, 0, 9, 1) :: (24, 253, 0, 9, 10, 3) :: (1, 0, 2, 0, 13, 1) :: (1, 0, 2, 0, 14, 1) :: (16, 8, 2, 2, 15, 3) :: (1, 1, 0, 0, 18, 1) :: (24, 336, 0, 8, 19, 3) :: (1, 2, 0, 0, 22, 1) :: (24, 252, 0, 9, 23, 3) :: (4, 0, 0, 0, 26, 1) :: (2, 3, 0, 0, 27, 1) :: xc_322_28
noncomputable def xj_322 : Lean.RArray (List XE) := .branch 84 (.branch 70 (.leaf xc_322_28) (.leaf xc_322_70)) (.branch 90 (.leaf xc_322_84) (.leaf xc_322_90))
-- 323: EmberScript$Frames.top()I
set_option maxRecDepth 100000 in
noncomputable def xc_323_0 : List XE := (1, 0, 2, 0, 0, 1) :: (16, 7, 12, 0, 1, 3) :: (26, 0, 0, 0, 4, 1) :: []
noncomputable def xj_323 : Lean.RArray (List XE) := .leaf []
-- 324: EmberScript$Reach.takeOperands(III)V
set_option maxRecDepth 100000 in
noncomputable def xc_324_29 : List XE := (26, 9, 0, 0, 29, 1) :: []
set_option maxRecDepth 100000 in
noncomputable def xc_324_3 : List XE := (1, 4, 0, 0, 3, 2) :: (1, 2, 0, 0, 5, 1) :: (13, 29, 3, 0, 6, 3) :: (1, 0, 2, 0, 9, 1) :: (1, 0, 2, 0, 10, 1) :: (16, 8, 2, 2, 11, 3) :: (1, 4, 0, 0, 14, 2) :: (24, 337, 0, 8, 16, 3) :: (1, 3, 0, 0, 19, 1) :: (24, 252, 0, 9, 20, 3) :: (5, 4, 3, 0, 23, 3) :: (14, 3, 0, 0, 26, 3) :: xc_324_29
set_option maxRecDepth 100000 in
noncomputable def xc_324_0 : List XE := (1, 1, 0, 0, 0, 1) :: (2, 4, 0, 0, 1, 2) :: xc_324_3
noncomputable def xj_324 : Lean.RArray (List XE) := .branch 29 (.leaf xc_324_3) (.leaf xc_324_29)
-- 325: EmberScript$Scopes.size(I)I
set_option maxRecDepth 100000 in
noncomputable def xc_325_11 : List XE := (26, 0, 0, 0, 11, 1) :: []
set_option maxRecDepth 100000 in
noncomputable def xc_325_9 : List XE := (4, 23, 0, 0, 9, 2) :: xc_325_11
set_option maxRecDepth 100000 in
noncomputable def xc_325_0 : List XE := (1, 1, 0, 0, 0, 1) :: (12, 9, 1, 0, 1, 3) :: (4, 43, 0, 0, 4, 2) :: (14, 11, 0, 0, 6, 3) :: xc_325_9
noncomputable def xj_325 : Lean.RArray (List XE) := .branch 11 (.leaf xc_325_9) (.leaf xc_325_11)
-- 326: EmberScript$Scopes.outer(I)I
set_option maxRecDepth 100000 in
noncomputable def xc_326_0 : List XE := (1, 0, 2, 0, 0, 1) :: (16, 6, 1, 2, 1, 3) :: (1, 1, 0, 0, 4, 1) :: (24, 272, 0, 1, 5, 3) :: (26, 0, 0, 0, 8, 1) :: []
noncomputable def xj_326 : Lean.RArray (List XE) := .leaf []
-- 327: EmberScript$Row.valueAt(I)J
set_option maxRecDepth 100000 in
noncomputable def xc_327_23 : List XE := (26, 1, 0, 0, 23, 1) :: []
set_option maxRecDepth 100000 in
noncomputable def xc_327_22 : List XE := (4, 1, 0, 0, 22, 1) :: xc_327_23
set_option maxRecDepth 100000 in
noncomputable def xc_327_0 : List XE := (1, 1, 0, 0, 0, 1) :: (12, 22, 2, 0, 1, 3) :: (1, 1, 0, 0, 4, 1) :: (1, 0, 2, 0, 5, 1) :: (16, 0, 0, 2, 6, 3) :: (20, 0, 0, 0, 9, 1) :: (13, 22, 3, 0, 10, 3) :: (1, 0, 2, 0, 13, 1) :: (16, 0, 0, 2, 14, 3) :: (1, 1, 0, 0, 17, 1) :: (18, 1, 0, 0, 18, 1) :: (14, 23, 0, 0, 19, 3) :: xc_327_22
noncomputable def xj_327 : Lean.RArray (List XE) := .branch 23 (.leaf xc_327_22) (.leaf xc_327_23)
-- 328: EmberScriptModel$Run.touchScopes(II)V
set_option maxRecDepth 100000 in
noncomputable def xc_328_60 : List XE := (26, 9, 0, 0, 60, 1) :: []
set_option maxRecDepth 100000 in
noncomputable def xc_328_50 : List XE := (1, 0, 2, 0, 50, 1) :: (16, 13, 23, 2, 51, 3) :: (1, 3, 0, 0, 54, 1) :: (18, 0, 0, 0, 55, 1) :: (2, 3, 0, 0, 56, 1) :: (14, 2, 0, 0, 57, 3) :: xc_328_60
set_option maxRecDepth 100000 in
noncomputable def xc_328_13 : List XE := (1, 4, 0, 0, 13, 2) :: (1, 3, 0, 0, 15, 1) :: (4, 43, 0, 0, 16, 2) :: (6, 2, 0, 0, 18, 1) :: (4, 43, 0, 0, 19, 2) :: (6, 0, 0, 0, 21, 1) :: (13, 50, 3, 0, 22, 3) :: (1, 0, 2, 0, 25, 1) :: (1, 0, 2, 0, 26, 1) :: (16, 13, 26, 2, 27, 3) :: (1, 4, 0, 0, 30, 2) :: (18, 0, 0, 0, 32, 1) :: (1, 0, 2, 0, 33, 1) :: (16, 13, 27, 2, 34, 3) :: (1, 4, 0, 0, 37, 2) :: (18, 0, 0, 0, 39, 1) :: (1, 2, 0, 0, 40, 1) :: (24, 292, 0, 14, 41, 3) :: (5, 4, 3, 0, 44, 3) :: (14, 13, 0, 0, 47, 3) :: xc_328_50
set_option maxRecDepth 100000 in
noncomputable def xc_328_2 : List XE := (1, 3, 0, 0, 2, 1) :: (4, 11, 0, 0, 3, 1) :: (13, 60, 0, 0, 4, 3) :: (1, 3, 0, 0, 7, 1) :: (4, 43, 0, 0, 8, 2) :: (6, 2, 0, 0, 10, 1) :: (2, 4, 0, 0, 11, 2) :: xc_328_13
set_option maxRecDepth 100000 in
noncomputable def xc_328_0 : List XE := (1, 1, 0, 0, 0, 1) :: (2, 3, 0, 0, 1, 1) :: xc_328_2
noncomputable def xj_328 : Lean.RArray (List XE) := .branch 50 (.branch 13 (.leaf xc_328_2) (.leaf xc_328_13)) (.branch 60 (.leaf xc_328_50) (.leaf xc_328_60))
-- 329: EmberScriptModel$Run.numberAt(II)I
set_option maxRecDepth 100000 in
noncomputable def xc_329_0 : List XE := (1, 0, 2, 0, 0, 1) :: (16, 13, 36, 2, 1, 3) :: (1, 1, 0, 0, 4, 1) :: (18, 3, 0, 0, 5, 1) :: (4, 6, 0, 0, 6, 1) :: (1, 2, 0, 0, 7, 1) :: (6, 2, 0, 0, 8, 1) :: (4, 3, 0, 0, 9, 1) :: (6, 0, 0, 0, 10, 1) :: (18, 0, 0, 0, 11, 1) :: (26, 0, 0, 0, 12, 1) :: []
noncomputable def xj_329 : Lean.RArray (List XE) := .leaf []
-- 330: EmberScript$Tokens.isDigit(I)Z
set_option maxRecDepth 100000 in
noncomputable def xc_330_17 : List XE := (26, 0, 0, 0, 17, 1) :: []
set_option maxRecDepth 100000 in
noncomputable def xc_330_16 : List XE := (4, 0, 0, 0, 16, 1) :: xc_330_17
set_option maxRecDepth 100000 in
noncomputable def xc_330_0 : List XE := (1, 0, 0, 0, 0, 1) :: (4, 19, 0, 0, 1, 2) :: (13, 16, 2, 0, 3, 3) :: (1, 0, 0, 0, 6, 1) :: (4, 72, 0, 0, 7, 2) :: (13, 16, 4, 0, 9, 3) :: (4, 3, 0, 0, 12, 1) :: (14, 17, 0, 0, 13, 3) :: xc_330_16
noncomputable def xj_330 : Lean.RArray (List XE) := .branch 17 (.leaf xc_330_16) (.leaf xc_330_17)
-- 331: EmberScript$Tokens.isBlank(I)Z
set_option maxRecDepth 100000 in
noncomputable def xc_331_17 : List XE := (26, 0, 0, 0, 17, 1) :: []
set_option maxRecDepth 100000 in
noncomputable def xc_331_16 : List XE := (4, 0, 0, 0, 16, 1) :: xc_331_17
set_option maxRecDepth 100000 in
noncomputable def xc_331_12 : List XE := (4, 3, 0, 0, 12, 1) :: (14, 17, 0, 0, 13, 3) :: xc_331_16
set_option maxRecDepth 100000 in
noncomputable def xc_331_0 : List XE := (1, 0, 0, 0, 0, 1) :: (4, 42, 0, 0, 1, 2) :: (13, 12, 0, 0, 3, 3) :: (1, 0, 0, 0, 6, 1) :: (4, 23, 0, 0, 7, 2) :: (13, 16, 1, 0, 9, 3) :: xc_331_12
noncomputable def xj_331 : Lean.RArray (List XE) := .branch 16 (.leaf xc_331_12) (.branch 17 (.leaf xc_331_16) (.leaf xc_331_17))
-- 332: EmberScript$Reader.now()I
set_option maxRecDepth 100000 in
noncomputable def xc_332_22 : List XE := (26, 0, 0, 0, 22, 1) :: []
set_option maxRecDepth 100000 in
noncomputable def xc_332_11 : List XE := (1, 0, 2, 0, 11, 1) :: (16, 4, 0, 2, 12, 3) :: (1, 0, 2, 0, 15, 1) :: (16, 4, 10, 0, 16, 3) :: (24, 310, 0, 2, 19, 3) :: xc_332_22
set_option maxRecDepth 100000 in
noncomputable def xc_332_0 : List XE := (1, 0, 2, 0, 0, 1) :: (16, 4, 11, 4, 1, 3) :: (12, 11, 0, 0, 4, 3) :: (4, 0, 0, 0, 7, 1) :: (14, 22, 0, 0, 8, 3) :: xc_332_11
noncomputable def xj_332 : Lean.RArray (List XE) := .branch 22 (.leaf xc_332_11) (.leaf xc_332_22)
-- 333: EmberScriptModel$Run.push(II)V
set_option maxRecDepth 100000 in
noncomputable def xc_333_0 : List XE := (1, 0, 2, 0, 0, 1) :: (1, 0, 2, 0, 1, 1) :: (24, 242, 0, 14, 2, 3) :: (1, 1, 0, 0, 5, 1) :: (1, 2, 0, 0, 6, 1) :: (4, 0, 0, 0, 7, 1) :: (4, 0, 0, 0, 8, 1) :: (24, 132, 0, 14, 9, 3) :: (26, 9, 0, 0, 12, 1) :: []
noncomputable def xj_333 : Lean.RArray (List XE) := .leaf []
-- 334: EmberScript$Scopes.placeOf(II)I
set_option maxRecDepth 100000 in
noncomputable def xc_334_19 : List XE := (26, 0, 0, 0, 19, 1) :: []
set_option maxRecDepth 100000 in
noncomputable def xc_334_8 : List XE := (4, 43, 0, 0, 8, 2) :: (1, 0, 0, 0, 10, 1) :: (4, 3, 0, 0, 11, 1) :: (6, 1, 0, 0, 12, 1) :: (4, 23, 0, 0, 13, 2) :: (6, 2, 0, 0, 15, 1) :: (6, 0, 0, 0, 16, 1) :: (1, 1, 0, 0, 17, 1) :: (6, 0, 0, 0, 18, 1) :: xc_334_19
set_option maxRecDepth 100000 in
noncomputable def xc_334_0 : List XE := (1, 0, 0, 0, 0, 1) :: (12, 8, 1, 0, 1, 3) :: (1, 1, 0, 0, 4, 1) :: (14, 19, 0, 0, 5, 3) :: xc_334_8
noncomputable def xj_334 : Lean.RArray (List XE) := .branch 19 (.leaf xc_334_8) (.leaf xc_334_19)
-- 335: EmberScript$Frames.scope(I)I
set_option maxRecDepth 100000 in
noncomputable def xc_335_0 : List XE := (1, 0, 2, 0, 0, 1) :: (16, 7, 2, 2, 1, 3) :: (1, 1, 0, 0, 4, 1) :: (24, 272, 0, 1, 5, 3) :: (26, 0, 0, 0, 8, 1) :: []
noncomputable def xj_335 : Lean.RArray (List XE) := .leaf []
-- 336: EmberScript$Frames.self(I)J
set_option maxRecDepth 100000 in
noncomputable def xc_336_0 : List XE := (1, 0, 2, 0, 0, 1) :: (16, 7, 3, 2, 1, 3) :: (1, 1, 0, 0, 4, 1) :: (24, 327, 0, 1, 5, 3) :: (26, 1, 0, 0, 8, 1) :: []
noncomputable def xj_336 : Lean.RArray (List XE) := .leaf []
-- 337: EmberScript$Frames.operand(I)J
set_option maxRecDepth 100000 in
noncomputable def xc_337_0 : List XE := (1, 0, 2, 0, 0, 1) :: (16, 7, 10, 2, 1, 3) :: (1, 1, 0, 0, 4, 1) :: (24, 327, 0, 1, 5, 3) :: (26, 1, 0, 0, 8, 1) :: []
noncomputable def xj_337 : Lean.RArray (List XE) := .leaf []
set_option maxRecDepth 100000 in
noncomputable def xcode : Lean.RArray (List XE) := .branch 169 (.branch 84 (.branch 42 (.branch 21 (.branch 10 (.branch 5 (.branch 2 (.branch 1 (.leaf xc_0_0) (.leaf xc_1_0)) (.branch 3 (.leaf xc_2_0) (.branch 4 (.leaf xc_3_0) (.leaf xc_4_0)))) (.branch 7 (.branch 6 (.leaf xc_5_0) (.leaf xc_6_0)) (.branch 8 (.leaf xc_7_0) (.branch 9 (.leaf xc_8_0) (.leaf xc_9_0))))) (.branch 15 (.branch 12 (.branch 11 (.leaf xc_10_0) (.leaf xc_11_0)) (.branch 13 (.leaf xc_12_0) (.branch 14 (.leaf xc_13_0) (.leaf xc_14_0)))) (.branch 18 (.branch 16 (.leaf xc_15_0) (.branch 17 (.leaf xc_16_0) (.leaf xc_17_0))) (.branch 19 (.leaf xc_18_0) (.branch 20 (.leaf xc_19_0) (.leaf xc_20_0)))))) (.branch 31 (.branch 26 (.branch 23 (.branch 22 (.leaf xc_21_0) (.leaf xc_22_0)) (.branch 24 (.leaf xc_23_0) (.branch 25 (.leaf xc_24_0) (.leaf xc_25_0)))) (.branch 28 (.branch 27 (.leaf xc_26_0) (.leaf xc_27_0)) (.branch 29 (.leaf xc_28_0) (.branch 30 (.leaf xc_29_0) (.leaf xc_30_0))))) (.branch 36 (.branch 33 (.branch 32 (.leaf xc_31_0) (.leaf xc_32_0)) (.branch 34 (.leaf xc_33_0) (.branch 35 (.leaf xc_34_0) (.leaf xc_35_0)))) (.branch 39 (.branch 37 (.leaf xc_36_0) (.branch 38 (.leaf xc_37_0) (.leaf xc_38_0))) (.branch 40 (.leaf xc_39_0) (.branch 41 (.leaf xc_40_0) (.leaf xc_41_0))))))) (.branch 63 (.branch 52 (.branch 47 (.branch 44 (.branch 43 (.leaf xc_42_0) (.leaf xc_43_0)) (.branch 45 (.leaf xc_44_0) (.branch 46 (.leaf xc_45_0) (.leaf xc_46_0)))) (.branch 49 (.branch 48 (.leaf xc_47_0) (.leaf xc_48_0)) (.branch 50 (.leaf xc_49_0) (.branch 51 (.leaf xc_50_0) (.leaf xc_51_0))))) (.branch 57 (.branch 54 (.branch 53 (.leaf xc_52_0) (.leaf xc_53_0)) (.branch 55 (.leaf xc_54_0) (.branch 56 (.leaf xc_55_0) (.leaf xc_56_0)))) (.branch 60 (.branch 58 (.leaf xc_57_0) (.branch 59 (.leaf xc_58_0) (.leaf xc_59_0))) (.branch 61 (.leaf xc_60_0) (.branch 62 (.leaf xc_61_0) (.leaf xc_62_0)))))) (.branch 73 (.branch 68 (.branch 65 (.branch 64 (.leaf xc_63_0) (.leaf xc_64_0)) (.branch 66 (.leaf xc_65_0) (.branch 67 (.leaf xc_66_0) (.leaf xc_67_0)))) (.branch 70 (.branch 69 (.leaf xc_68_0) (.leaf xc_69_0)) (.branch 71 (.leaf xc_70_0) (.branch 72 (.leaf xc_71_0) (.leaf xc_72_0))))) (.branch 78 (.branch 75 (.branch 74 (.leaf xc_73_0) (.leaf xc_74_0)) (.branch 76 (.leaf xc_75_0) (.branch 77 (.leaf xc_76_0) (.leaf xc_77_0)))) (.branch 81 (.branch 79 (.leaf xc_78_0) (.branch 80 (.leaf xc_79_0) (.leaf xc_80_0))) (.branch 82 (.leaf xc_81_0) (.branch 83 (.leaf xc_82_0) (.leaf xc_83_0)))))))) (.branch 126 (.branch 105 (.branch 94 (.branch 89 (.branch 86 (.branch 85 (.leaf xc_84_0) (.leaf xc_85_0)) (.branch 87 (.leaf xc_86_0) (.branch 88 (.leaf xc_87_0) (.leaf xc_88_0)))) (.branch 91 (.branch 90 (.leaf xc_89_0) (.leaf xc_90_0)) (.branch 92 (.leaf xc_91_0) (.branch 93 (.leaf xc_92_0) (.leaf xc_93_0))))) (.branch 99 (.branch 96 (.branch 95 (.leaf xc_94_0) (.leaf xc_95_0)) (.branch 97 (.leaf xc_96_0) (.branch 98 (.leaf xc_97_0) (.leaf xc_98_0)))) (.branch 102 (.branch 100 (.leaf xc_99_0) (.branch 101 (.leaf xc_100_0) (.leaf xc_101_0))) (.branch 103 (.leaf xc_102_0) (.branch 104 (.leaf xc_103_0) (.leaf xc_104_0)))))) (.branch 115 (.branch 110 (.branch 107 (.branch 106 (.leaf xc_105_0) (.leaf xc_106_0)) (.branch 108 (.leaf xc_107_0) (.branch 109 (.leaf xc_108_0) (.leaf xc_109_0)))) (.branch 112 (.branch 111 (.leaf xc_110_0) (.leaf xc_111_0)) (.branch 113 (.leaf xc_112_0) (.branch 114 (.leaf xc_113_0) (.leaf xc_114_0))))) (.branch 120 (.branch 117 (.branch 116 (.leaf xc_115_0) (.leaf xc_116_0)) (.branch 118 (.leaf xc_117_0) (.branch 119 (.leaf xc_118_0) (.leaf xc_119_0)))) (.branch 123 (.branch 121 (.leaf xc_120_0) (.branch 122 (.leaf xc_121_0) (.leaf xc_122_0))) (.branch 124 (.leaf xc_123_0) (.branch 125 (.leaf xc_124_0) (.leaf xc_125_0))))))) (.branch 147 (.branch 136 (.branch 131 (.branch 128 (.branch 127 (.leaf xc_126_0) (.leaf xc_127_0)) (.branch 129 (.leaf xc_128_0) (.branch 130 (.leaf xc_129_0) (.leaf xc_130_0)))) (.branch 133 (.branch 132 (.leaf xc_131_0) (.leaf xc_132_0)) (.branch 134 (.leaf xc_133_0) (.branch 135 (.leaf xc_134_0) (.leaf xc_135_0))))) (.branch 141 (.branch 138 (.branch 137 (.leaf xc_136_0) (.leaf xc_137_0)) (.branch 139 (.leaf xc_138_0) (.branch 140 (.leaf xc_139_0) (.leaf xc_140_0)))) (.branch 144 (.branch 142 (.leaf xc_141_0) (.branch 143 (.leaf xc_142_0) (.leaf xc_143_0))) (.branch 145 (.leaf xc_144_0) (.branch 146 (.leaf xc_145_0) (.leaf xc_146_0)))))) (.branch 158 (.branch 152 (.branch 149 (.branch 148 (.leaf xc_147_0) (.leaf xc_148_0)) (.branch 150 (.leaf xc_149_0) (.branch 151 (.leaf xc_150_0) (.leaf xc_151_0)))) (.branch 155 (.branch 153 (.leaf xc_152_0) (.branch 154 (.leaf xc_153_0) (.leaf xc_154_0))) (.branch 156 (.leaf xc_155_0) (.branch 157 (.leaf xc_156_0) (.leaf xc_157_0))))) (.branch 163 (.branch 160 (.branch 159 (.leaf xc_158_0) (.leaf xc_159_0)) (.branch 161 (.leaf xc_160_0) (.branch 162 (.leaf xc_161_0) (.leaf xc_162_0)))) (.branch 166 (.branch 164 (.leaf xc_163_0) (.branch 165 (.leaf xc_164_0) (.leaf xc_165_0))) (.branch 167 (.leaf xc_166_0) (.branch 168 (.leaf xc_167_0) (.leaf xc_168_0))))))))) (.branch 253 (.branch 211 (.branch 190 (.branch 179 (.branch 174 (.branch 171 (.branch 170 (.leaf xc_169_0) (.leaf xc_170_0)) (.branch 172 (.leaf xc_171_0) (.branch 173 (.leaf xc_172_0) (.leaf xc_173_0)))) (.branch 176 (.branch 175 (.leaf xc_174_0) (.leaf xc_175_0)) (.branch 177 (.leaf xc_176_0) (.branch 178 (.leaf xc_177_0) (.leaf xc_178_0))))) (.branch 184 (.branch 181 (.branch 180 (.leaf xc_179_0) (.leaf xc_180_0)) (.branch 182 (.leaf xc_181_0) (.branch 183 (.leaf xc_182_0) (.leaf xc_183_0)))) (.branch 187 (.branch 185 (.leaf xc_184_0) (.branch 186 (.leaf xc_185_0) (.leaf xc_186_0))) (.branch 188 (.leaf xc_187_0) (.branch 189 (.leaf xc_188_0) (.leaf xc_189_0)))))) (.branch 200 (.branch 195 (.branch 192 (.branch 191 (.leaf xc_190_0) (.leaf xc_191_0)) (.branch 193 (.leaf xc_192_0) (.branch 194 (.leaf xc_193_0) (.leaf xc_194_0)))) (.branch 197 (.branch 196 (.leaf xc_195_0) (.leaf xc_196_0)) (.branch 198 (.leaf xc_197_0) (.branch 199 (.leaf xc_198_0) (.leaf xc_199_0))))) (.branch 205 (.branch 202 (.branch 201 (.leaf xc_200_0) (.leaf xc_201_0)) (.branch 203 (.leaf xc_202_0) (.branch 204 (.leaf xc_203_0) (.leaf xc_204_0)))) (.branch 208 (.branch 206 (.leaf xc_205_0) (.branch 207 (.leaf xc_206_0) (.leaf xc_207_0))) (.branch 209 (.leaf xc_208_0) (.branch 210 (.leaf xc_209_0) (.leaf xc_210_0))))))) (.branch 232 (.branch 221 (.branch 216 (.branch 213 (.branch 212 (.leaf xc_211_0) (.leaf xc_212_0)) (.branch 214 (.leaf xc_213_0) (.branch 215 (.leaf xc_214_0) (.leaf xc_215_0)))) (.branch 218 (.branch 217 (.leaf xc_216_0) (.leaf xc_217_0)) (.branch 219 (.leaf xc_218_0) (.branch 220 (.leaf xc_219_0) (.leaf xc_220_0))))) (.branch 226 (.branch 223 (.branch 222 (.leaf xc_221_0) (.leaf xc_222_0)) (.branch 224 (.leaf xc_223_0) (.branch 225 (.leaf xc_224_0) (.leaf xc_225_0)))) (.branch 229 (.branch 227 (.leaf xc_226_0) (.branch 228 (.leaf xc_227_0) (.leaf xc_228_0))) (.branch 230 (.leaf xc_229_0) (.branch 231 (.leaf xc_230_0) (.leaf xc_231_0)))))) (.branch 242 (.branch 237 (.branch 234 (.branch 233 (.leaf xc_232_0) (.leaf xc_233_0)) (.branch 235 (.leaf xc_234_0) (.branch 236 (.leaf xc_235_0) (.leaf xc_236_0)))) (.branch 239 (.branch 238 (.leaf xc_237_0) (.leaf xc_238_0)) (.branch 240 (.leaf xc_239_0) (.branch 241 (.leaf xc_240_0) (.leaf xc_241_0))))) (.branch 247 (.branch 244 (.branch 243 (.leaf xc_242_0) (.leaf xc_243_0)) (.branch 245 (.leaf xc_244_0) (.branch 246 (.leaf xc_245_0) (.leaf xc_246_0)))) (.branch 250 (.branch 248 (.leaf xc_247_0) (.branch 249 (.leaf xc_248_0) (.leaf xc_249_0))) (.branch 251 (.leaf xc_250_0) (.branch 252 (.leaf xc_251_0) (.leaf xc_252_0)))))))) (.branch 295 (.branch 274 (.branch 263 (.branch 258 (.branch 255 (.branch 254 (.leaf xc_253_0) (.leaf xc_254_0)) (.branch 256 (.leaf xc_255_0) (.branch 257 (.leaf xc_256_0) (.leaf xc_257_0)))) (.branch 260 (.branch 259 (.leaf xc_258_0) (.leaf xc_259_0)) (.branch 261 (.leaf xc_260_0) (.branch 262 (.leaf xc_261_0) (.leaf xc_262_0))))) (.branch 268 (.branch 265 (.branch 264 (.leaf xc_263_0) (.leaf xc_264_0)) (.branch 266 (.leaf xc_265_0) (.branch 267 (.leaf xc_266_0) (.leaf xc_267_0)))) (.branch 271 (.branch 269 (.leaf xc_268_0) (.branch 270 (.leaf xc_269_0) (.leaf xc_270_0))) (.branch 272 (.leaf xc_271_0) (.branch 273 (.leaf xc_272_0) (.leaf xc_273_0)))))) (.branch 284 (.branch 279 (.branch 276 (.branch 275 (.leaf xc_274_0) (.leaf xc_275_0)) (.branch 277 (.leaf xc_276_0) (.branch 278 (.leaf xc_277_0) (.leaf xc_278_0)))) (.branch 281 (.branch 280 (.leaf xc_279_0) (.leaf xc_280_0)) (.branch 282 (.leaf xc_281_0) (.branch 283 (.leaf xc_282_0) (.leaf xc_283_0))))) (.branch 289 (.branch 286 (.branch 285 (.leaf xc_284_0) (.leaf xc_285_0)) (.branch 287 (.leaf xc_286_0) (.branch 288 (.leaf xc_287_0) (.leaf xc_288_0)))) (.branch 292 (.branch 290 (.leaf xc_289_0) (.branch 291 (.leaf xc_290_0) (.leaf xc_291_0))) (.branch 293 (.leaf xc_292_0) (.branch 294 (.leaf xc_293_0) (.leaf xc_294_0))))))) (.branch 316 (.branch 305 (.branch 300 (.branch 297 (.branch 296 (.leaf xc_295_0) (.leaf xc_296_0)) (.branch 298 (.leaf xc_297_0) (.branch 299 (.leaf xc_298_0) (.leaf xc_299_0)))) (.branch 302 (.branch 301 (.leaf xc_300_0) (.leaf xc_301_0)) (.branch 303 (.leaf xc_302_0) (.branch 304 (.leaf xc_303_0) (.leaf xc_304_0))))) (.branch 310 (.branch 307 (.branch 306 (.leaf xc_305_0) (.leaf xc_306_0)) (.branch 308 (.leaf xc_307_0) (.branch 309 (.leaf xc_308_0) (.leaf xc_309_0)))) (.branch 313 (.branch 311 (.leaf xc_310_0) (.branch 312 (.leaf xc_311_0) (.leaf xc_312_0))) (.branch 314 (.leaf xc_313_0) (.branch 315 (.leaf xc_314_0) (.leaf xc_315_0)))))) (.branch 327 (.branch 321 (.branch 318 (.branch 317 (.leaf xc_316_0) (.leaf xc_317_0)) (.branch 319 (.leaf xc_318_0) (.branch 320 (.leaf xc_319_0) (.leaf xc_320_0)))) (.branch 324 (.branch 322 (.leaf xc_321_0) (.branch 323 (.leaf xc_322_0) (.leaf xc_323_0))) (.branch 325 (.leaf xc_324_0) (.branch 326 (.leaf xc_325_0) (.leaf xc_326_0))))) (.branch 332 (.branch 329 (.branch 328 (.leaf xc_327_0) (.leaf xc_328_0)) (.branch 330 (.leaf xc_329_0) (.branch 331 (.leaf xc_330_0) (.leaf xc_331_0)))) (.branch 335 (.branch 333 (.leaf xc_332_0) (.branch 334 (.leaf xc_333_0) (.leaf xc_334_0))) (.branch 336 (.leaf xc_335_0) (.branch 337 (.leaf xc_336_0) (.leaf xc_337_0)))))))))
set_option maxRecDepth 100000 in
noncomputable def xjmp : Lean.RArray (Lean.RArray (List XE)) := .branch 169 (.branch 84 (.branch 42 (.branch 21 (.branch 10 (.branch 5 (.branch 2 (.branch 1 (.leaf xj_0) (.leaf xj_1)) (.branch 3 (.leaf xj_2) (.branch 4 (.leaf xj_3) (.leaf xj_4)))) (.branch 7 (.branch 6 (.leaf xj_5) (.leaf xj_6)) (.branch 8 (.leaf xj_7) (.branch 9 (.leaf xj_8) (.leaf xj_9))))) (.branch 15 (.branch 12 (.branch 11 (.leaf xj_10) (.leaf xj_11)) (.branch 13 (.leaf xj_12) (.branch 14 (.leaf xj_13) (.leaf xj_14)))) (.branch 18 (.branch 16 (.leaf xj_15) (.branch 17 (.leaf xj_16) (.leaf xj_17))) (.branch 19 (.leaf xj_18) (.branch 20 (.leaf xj_19) (.leaf xj_20)))))) (.branch 31 (.branch 26 (.branch 23 (.branch 22 (.leaf xj_21) (.leaf xj_22)) (.branch 24 (.leaf xj_23) (.branch 25 (.leaf xj_24) (.leaf xj_25)))) (.branch 28 (.branch 27 (.leaf xj_26) (.leaf xj_27)) (.branch 29 (.leaf xj_28) (.branch 30 (.leaf xj_29) (.leaf xj_30))))) (.branch 36 (.branch 33 (.branch 32 (.leaf xj_31) (.leaf xj_32)) (.branch 34 (.leaf xj_33) (.branch 35 (.leaf xj_34) (.leaf xj_35)))) (.branch 39 (.branch 37 (.leaf xj_36) (.branch 38 (.leaf xj_37) (.leaf xj_38))) (.branch 40 (.leaf xj_39) (.branch 41 (.leaf xj_40) (.leaf xj_41))))))) (.branch 63 (.branch 52 (.branch 47 (.branch 44 (.branch 43 (.leaf xj_42) (.leaf xj_43)) (.branch 45 (.leaf xj_44) (.branch 46 (.leaf xj_45) (.leaf xj_46)))) (.branch 49 (.branch 48 (.leaf xj_47) (.leaf xj_48)) (.branch 50 (.leaf xj_49) (.branch 51 (.leaf xj_50) (.leaf xj_51))))) (.branch 57 (.branch 54 (.branch 53 (.leaf xj_52) (.leaf xj_53)) (.branch 55 (.leaf xj_54) (.branch 56 (.leaf xj_55) (.leaf xj_56)))) (.branch 60 (.branch 58 (.leaf xj_57) (.branch 59 (.leaf xj_58) (.leaf xj_59))) (.branch 61 (.leaf xj_60) (.branch 62 (.leaf xj_61) (.leaf xj_62)))))) (.branch 73 (.branch 68 (.branch 65 (.branch 64 (.leaf xj_63) (.leaf xj_64)) (.branch 66 (.leaf xj_65) (.branch 67 (.leaf xj_66) (.leaf xj_67)))) (.branch 70 (.branch 69 (.leaf xj_68) (.leaf xj_69)) (.branch 71 (.leaf xj_70) (.branch 72 (.leaf xj_71) (.leaf xj_72))))) (.branch 78 (.branch 75 (.branch 74 (.leaf xj_73) (.leaf xj_74)) (.branch 76 (.leaf xj_75) (.branch 77 (.leaf xj_76) (.leaf xj_77)))) (.branch 81 (.branch 79 (.leaf xj_78) (.branch 80 (.leaf xj_79) (.leaf xj_80))) (.branch 82 (.leaf xj_81) (.branch 83 (.leaf xj_82) (.leaf xj_83)))))))) (.branch 126 (.branch 105 (.branch 94 (.branch 89 (.branch 86 (.branch 85 (.leaf xj_84) (.leaf xj_85)) (.branch 87 (.leaf xj_86) (.branch 88 (.leaf xj_87) (.leaf xj_88)))) (.branch 91 (.branch 90 (.leaf xj_89) (.leaf xj_90)) (.branch 92 (.leaf xj_91) (.branch 93 (.leaf xj_92) (.leaf xj_93))))) (.branch 99 (.branch 96 (.branch 95 (.leaf xj_94) (.leaf xj_95)) (.branch 97 (.leaf xj_96) (.branch 98 (.leaf xj_97) (.leaf xj_98)))) (.branch 102 (.branch 100 (.leaf xj_99) (.branch 101 (.leaf xj_100) (.leaf xj_101))) (.branch 103 (.leaf xj_102) (.branch 104 (.leaf xj_103) (.leaf xj_104)))))) (.branch 115 (.branch 110 (.branch 107 (.branch 106 (.leaf xj_105) (.leaf xj_106)) (.branch 108 (.leaf xj_107) (.branch 109 (.leaf xj_108) (.leaf xj_109)))) (.branch 112 (.branch 111 (.leaf xj_110) (.leaf xj_111)) (.branch 113 (.leaf xj_112) (.branch 114 (.leaf xj_113) (.leaf xj_114))))) (.branch 120 (.branch 117 (.branch 116 (.leaf xj_115) (.leaf xj_116)) (.branch 118 (.leaf xj_117) (.branch 119 (.leaf xj_118) (.leaf xj_119)))) (.branch 123 (.branch 121 (.leaf xj_120) (.branch 122 (.leaf xj_121) (.leaf xj_122))) (.branch 124 (.leaf xj_123) (.branch 125 (.leaf xj_124) (.leaf xj_125))))))) (.branch 147 (.branch 136 (.branch 131 (.branch 128 (.branch 127 (.leaf xj_126) (.leaf xj_127)) (.branch 129 (.leaf xj_128) (.branch 130 (.leaf xj_129) (.leaf xj_130)))) (.branch 133 (.branch 132 (.leaf xj_131) (.leaf xj_132)) (.branch 134 (.leaf xj_133) (.branch 135 (.leaf xj_134) (.leaf xj_135))))) (.branch 141 (.branch 138 (.branch 137 (.leaf xj_136) (.leaf xj_137)) (.branch 139 (.leaf xj_138) (.branch 140 (.leaf xj_139) (.leaf xj_140)))) (.branch 144 (.branch 142 (.leaf xj_141) (.branch 143 (.leaf xj_142) (.leaf xj_143))) (.branch 145 (.leaf xj_144) (.branch 146 (.leaf xj_145) (.leaf xj_146)))))) (.branch 158 (.branch 152 (.branch 149 (.branch 148 (.leaf xj_147) (.leaf xj_148)) (.branch 150 (.leaf xj_149) (.branch 151 (.leaf xj_150) (.leaf xj_151)))) (.branch 155 (.branch 153 (.leaf xj_152) (.branch 154 (.leaf xj_153) (.leaf xj_154))) (.branch 156 (.leaf xj_155) (.branch 157 (.leaf xj_156) (.leaf xj_157))))) (.branch 163 (.branch 160 (.branch 159 (.leaf xj_158) (.leaf xj_159)) (.branch 161 (.leaf xj_160) (.branch 162 (.leaf xj_161) (.leaf xj_162)))) (.branch 166 (.branch 164 (.leaf xj_163) (.branch 165 (.leaf xj_164) (.leaf xj_165))) (.branch 167 (.leaf xj_166) (.branch 168 (.leaf xj_167) (.leaf xj_168))))))))) (.branch 253 (.branch 211 (.branch 190 (.branch 179 (.branch 174 (.branch 171 (.branch 170 (.leaf xj_169) (.leaf xj_170)) (.branch 172 (.leaf xj_171) (.branch 173 (.leaf xj_172) (.leaf xj_173)))) (.branch 176 (.branch 175 (.leaf xj_174) (.leaf xj_175)) (.branch 177 (.leaf xj_176) (.branch 178 (.leaf xj_177) (.leaf xj_178))))) (.branch 184 (.branch 181 (.branch 180 (.leaf xj_179) (.leaf xj_180)) (.branch 182 (.leaf xj_181) (.branch 183 (.leaf xj_182) (.leaf xj_183)))) (.branch 187 (.branch 185 (.leaf xj_184) (.branch 186 (.leaf xj_185) (.leaf xj_186))) (.branch 188 (.leaf xj_187) (.branch 189 (.leaf xj_188) (.leaf xj_189)))))) (.branch 200 (.branch 195 (.branch 192 (.branch 191 (.leaf xj_190) (.leaf xj_191)) (.branch 193 (.leaf xj_192) (.branch 194 (.leaf xj_193) (.leaf xj_194)))) (.branch 197 (.branch 196 (.leaf xj_195) (.leaf xj_196)) (.branch 198 (.leaf xj_197) (.branch 199 (.leaf xj_198) (.leaf xj_199))))) (.branch 205 (.branch 202 (.branch 201 (.leaf xj_200) (.leaf xj_201)) (.branch 203 (.leaf xj_202) (.branch 204 (.leaf xj_203) (.leaf xj_204)))) (.branch 208 (.branch 206 (.leaf xj_205) (.branch 207 (.leaf xj_206) (.leaf xj_207))) (.branch 209 (.leaf xj_208) (.branch 210 (.leaf xj_209) (.leaf xj_210))))))) (.branch 232 (.branch 221 (.branch 216 (.branch 213 (.branch 212 (.leaf xj_211) (.leaf xj_212)) (.branch 214 (.leaf xj_213) (.branch 215 (.leaf xj_214) (.leaf xj_215)))) (.branch 218 (.branch 217 (.leaf xj_216) (.leaf xj_217)) (.branch 219 (.leaf xj_218) (.branch 220 (.leaf xj_219) (.leaf xj_220))))) (.branch 226 (.branch 223 (.branch 222 (.leaf xj_221) (.leaf xj_222)) (.branch 224 (.leaf xj_223) (.branch 225 (.leaf xj_224) (.leaf xj_225)))) (.branch 229 (.branch 227 (.leaf xj_226) (.branch 228 (.leaf xj_227) (.leaf xj_228))) (.branch 230 (.leaf xj_229) (.branch 231 (.leaf xj_230) (.leaf xj_231)))))) (.branch 242 (.branch 237 (.branch 234 (.branch 233 (.leaf xj_232) (.leaf xj_233)) (.branch 235 (.leaf xj_234) (.branch 236 (.leaf xj_235) (.leaf xj_236)))) (.branch 239 (.branch 238 (.leaf xj_237) (.leaf xj_238)) (.branch 240 (.leaf xj_239) (.branch 241 (.leaf xj_240) (.leaf xj_241))))) (.branch 247 (.branch 244 (.branch 243 (.leaf xj_242) (.leaf xj_243)) (.branch 245 (.leaf xj_244) (.branch 246 (.leaf xj_245) (.leaf xj_246)))) (.branch 250 (.branch 248 (.leaf xj_247) (.branch 249 (.leaf xj_248) (.leaf xj_249))) (.branch 251 (.leaf xj_250) (.branch 252 (.leaf xj_251) (.leaf xj_252)))))))) (.branch 295 (.branch 274 (.branch 263 (.branch 258 (.branch 255 (.branch 254 (.leaf xj_253) (.leaf xj_254)) (.branch 256 (.leaf xj_255) (.branch 257 (.leaf xj_256) (.leaf xj_257)))) (.branch 260 (.branch 259 (.leaf xj_258) (.leaf xj_259)) (.branch 261 (.leaf xj_260) (.branch 262 (.leaf xj_261) (.leaf xj_262))))) (.branch 268 (.branch 265 (.branch 264 (.leaf xj_263) (.leaf xj_264)) (.branch 266 (.leaf xj_265) (.branch 267 (.leaf xj_266) (.leaf xj_267)))) (.branch 271 (.branch 269 (.leaf xj_268) (.branch 270 (.leaf xj_269) (.leaf xj_270))) (.branch 272 (.leaf xj_271) (.branch 273 (.leaf xj_272) (.leaf xj_273)))))) (.branch 284 (.branch 279 (.branch 276 (.branch 275 (.leaf xj_274) (.leaf xj_275)) (.branch 277 (.leaf xj_276) (.branch 278 (.leaf xj_277) (.leaf xj_278)))) (.branch 281 (.branch 280 (.leaf xj_279) (.leaf xj_280)) (.branch 282 (.leaf xj_281) (.branch 283 (.leaf xj_282) (.leaf xj_283))))) (.branch 289 (.branch 286 (.branch 285 (.leaf xj_284) (.leaf xj_285)) (.branch 287 (.leaf xj_286) (.branch 288 (.leaf xj_287) (.leaf xj_288)))) (.branch 292 (.branch 290 (.leaf xj_289) (.branch 291 (.leaf xj_290) (.leaf xj_291))) (.branch 293 (.leaf xj_292) (.branch 294 (.leaf xj_293) (.leaf xj_294))))))) (.branch 316 (.branch 305 (.branch 300 (.branch 297 (.branch 296 (.leaf xj_295) (.leaf xj_296)) (.branch 298 (.leaf xj_297) (.branch 299 (.leaf xj_298) (.leaf xj_299)))) (.branch 302 (.branch 301 (.leaf xj_300) (.leaf xj_301)) (.branch 303 (.leaf xj_302) (.branch 304 (.leaf xj_303) (.leaf xj_304))))) (.branch 310 (.branch 307 (.branch 306 (.leaf xj_305) (.leaf xj_306)) (.branch 308 (.leaf xj_307) (.branch 309 (.leaf xj_308) (.leaf xj_309)))) (.branch 313 (.branch 311 (.leaf xj_310) (.branch 312 (.leaf xj_311) (.leaf xj_312))) (.branch 314 (.leaf xj_313) (.branch 315 (.leaf xj_314) (.leaf xj_315)))))) (.branch 327 (.branch 321 (.branch 318 (.branch 317 (.leaf xj_316) (.leaf xj_317)) (.branch 319 (.leaf xj_318) (.branch 320 (.leaf xj_319) (.leaf xj_320)))) (.branch 324 (.branch 322 (.leaf xj_321) (.branch 323 (.leaf xj_322) (.leaf xj_323))) (.branch 325 (.leaf xj_324) (.branch 326 (.leaf xj_325) (.leaf xj_326))))) (.branch 332 (.branch 329 (.branch 328 (.leaf xj_327) (.leaf xj_328)) (.branch 330 (.leaf xj_329) (.branch 331 (.leaf xj_330) (.leaf xj_331)))) (.branch 335 (.branch 333 (.leaf xj_332) (.branch 334 (.leaf xj_333) (.leaf xj_334))) (.branch 336 (.leaf xj_335) (.branch 337 (.leaf xj_336) (.leaf xj_337)))))))))
noncomputable def xsw : Lean.RArray (Nat × Int × List Nat) := .branch 1 (.leaf (2625, 0, [276, 380, 436, 449, 462, 518, 574, 642, 655, 668, 681, 694, 707, 720, 733, 746, 759, 772, 785, 841, 897, 960, 973, 1029, 1085, 1098, 1111, 1167, 1223, 1267, 1311, 1324, 1387, 1443, 1499, 1555, 1623, 1691, 1759, 1815, 1883, 1958, 2014, 2070, 2133, 2146, 2202, 2258, 2333, 2374, 2430, 2486, 2542, 2555, 2611])) (.branch 2 (.leaf (323, 6, [100, 120, 154, 171, 182, 323, 323, 323, 323, 323, 323, 275, 264, 191, 200])) (.leaf (194, 11, [68, 84, 115, 148, 155, 194, 194, 194, 194, 194, 60])))
noncomputable def xK : Lean.RArray Value := .branch 36 (.branch 18 (.branch 9 (.branch 4 (.branch 2 (.branch 1 (.leaf (.int 0)) (.leaf (.long 0))) (.branch 3 (.leaf (.null)) (.leaf (.int 1)))) (.branch 6 (.branch 5 (.leaf (.int 6)) (.leaf (.int 63))) (.branch 7 (.leaf (.int 2)) (.branch 8 (.leaf (.int 3)) (.leaf (.int 4)))))) (.branch 13 (.branch 11 (.branch 10 (.leaf (.int 5)) (.leaf (.long 1))) (.branch 12 (.leaf (.int (-1))) (.leaf (.int 2000)))) (.branch 15 (.branch 14 (.leaf (.int 20)) (.leaf (.int 200))) (.branch 16 (.leaf (.int 47)) (.branch 17 (.leaf (.int 7)) (.leaf (.double FP.dconst0))))))) (.branch 27 (.branch 22 (.branch 20 (.branch 19 (.leaf (.long 2411)) (.leaf (.int 48))) (.branch 21 (.leaf (.int 14)) (.leaf (.int 8)))) (.branch 24 (.branch 23 (.leaf (.int 9)) (.leaf (.int 10))) (.branch 25 (.leaf (.int 11)) (.branch 26 (.leaf (.int 12)) (.leaf (.int 13)))))) (.branch 31 (.branch 29 (.branch 28 (.leaf (.long 31)) (.leaf (.int 40))) (.branch 30 (.leaf (.int 29)) (.leaf (.int 501)))) (.branch 33 (.branch 32 (.leaf (.int 500)) (.leaf (.int 1000))) (.branch 34 (.leaf (.int 101)) (.branch 35 (.leaf (.int 2400)) (.leaf (.int 600)))))))) (.branch 54 (.branch 45 (.branch 40 (.branch 38 (.branch 37 (.leaf (.int 520)) (.leaf (.int 2147483647))) (.branch 39 (.leaf (.int 384)) (.leaf (.int 720)))) (.branch 42 (.branch 41 (.leaf (.int 11520)) (.leaf (.int 60))) (.branch 43 (.leaf (.int 32)) (.branch 44 (.leaf (.int 16)) (.leaf (.int 24)))))) (.branch 49 (.branch 47 (.branch 46 (.leaf (.int 255)) (.leaf (.int (-8)))) (.branch 48 (.leaf (.int 39)) (.leaf (.int 1000000)))) (.branch 51 (.branch 50 (.leaf (.int 33)) (.leaf (.int 508))) (.branch 52 (.leaf (.int 7006)) (.branch 53 (.leaf (.int 700)) (.leaf (.int 59))))))) (.branch 63 (.branch 58 (.branch 56 (.branch 55 (.leaf (.int 767)) (.leaf (.int 1716))) (.branch 57 (.leaf (.int 49)) (.leaf (.int 1600)))) (.branch 60 (.branch 59 (.leaf (.int 45)) (.leaf (.int 46))) (.branch 61 (.leaf (.int 41)) (.branch 62 (.leaf (.int 22)) (.leaf (.int 18)))))) (.branch 68 (.branch 65 (.branch 64 (.leaf (.long 4294967295)) (.leaf (.long (-1)))) (.branch 66 (.leaf (.long 4)) (.branch 67 (.leaf (.long 37)) (.leaf (.int 27))))) (.branch 70 (.branch 69 (.leaf (.int 97)) (.leaf (.int 125))) (.branch 71 (.leaf (.int 699)) (.branch 72 (.leaf (.int 122)) (.leaf (.int 57))))))))
-- a method: its arguments, 1 if it gives nothing back, its handlers
set_option maxRecDepth 100000 in
noncomputable def xmE : Lean.RArray (Nat × Nat × List (Nat × Nat × Nat × Nat)) := .branch 169 (.branch 84 (.branch 42 (.branch 21 (.branch 10 (.branch 5 (.branch 2 (.branch 1 (.leaf (1, 2, [])) (.leaf (1, 1, []))) (.branch 3 (.leaf (1, 1, [])) (.branch 4 (.leaf (7, 0, [(0, 16, 19, 0)])) (.leaf (6, 0, []))))) (.branch 7 (.branch 6 (.leaf (1, 0, [])) (.leaf (3, 0, [(0, 9, 12, 1)]))) (.branch 8 (.leaf (2, 0, [])) (.branch 9 (.leaf (1, 0, [])) (.leaf (1, 0, [(31, 35, 38, 9)])))))) (.branch 15 (.branch 12 (.branch 11 (.leaf (1, 0, [])) (.leaf (1, 0, []))) (.branch 13 (.leaf (3, 0, [(0, 9, 12, 1), (0, 9, 15, 0)])) (.branch 14 (.leaf (2, 0, [])) (.leaf (3, 0, [(0, 9, 12, 2), (0, 9, 15, 0)]))))) (.branch 18 (.branch 16 (.leaf (2, 0, [])) (.branch 17 (.leaf (4, 0, [(0, 10, 13, 2)])) (.leaf (3, 0, [])))) (.branch 19 (.leaf (1, 0, [])) (.branch 20 (.leaf (1, 0, [])) (.leaf (1, 0, []))))))) (.branch 31 (.branch 26 (.branch 23 (.branch 22 (.leaf (1, 0, [])) (.leaf (1, 0, []))) (.branch 24 (.leaf (1, 0, [])) (.branch 25 (.leaf (1, 0, [])) (.leaf (1, 0, []))))) (.branch 28 (.branch 27 (.leaf (1, 0, [])) (.leaf (1, 0, []))) (.branch 29 (.leaf (1, 0, [])) (.branch 30 (.leaf (1, 0, [])) (.leaf (1, 0, [])))))) (.branch 36 (.branch 33 (.branch 32 (.leaf (1, 0, [])) (.leaf (1, 2, []))) (.branch 34 (.leaf (1, 2, [])) (.branch 35 (.leaf (1, 0, [])) (.leaf (1, 0, []))))) (.branch 39 (.branch 37 (.leaf (1, 0, [])) (.branch 38 (.leaf (1, 0, [])) (.leaf (1, 0, [])))) (.branch 40 (.leaf (1, 0, [])) (.branch 41 (.leaf (3, 0, [(0, 9, 12, 2)])) (.leaf (2, 0, [])))))))) (.branch 63 (.branch 52 (.branch 47 (.branch 44 (.branch 43 (.leaf (3, 0, [(0, 9, 12, 2)])) (.leaf (2, 0, []))) (.branch 45 (.leaf (3, 0, [(0, 16, 19, 2)])) (.branch 46 (.leaf (2, 2, [])) (.leaf (1, 0, []))))) (.branch 49 (.branch 48 (.leaf (1, 0, [])) (.leaf (3, 0, [(0, 9, 12, 2)]))) (.branch 50 (.leaf (2, 0, [])) (.branch 51 (.leaf (3, 0, [(0, 9, 12, 2)])) (.leaf (2, 0, [])))))) (.branch 57 (.branch 54 (.branch 53 (.leaf (1, 0, [])) (.leaf (1, 0, []))) (.branch 55 (.leaf (1, 0, [])) (.branch 56 (.leaf (1, 0, [])) (.leaf (3, 0, [(0, 9, 12, 2)]))))) (.branch 60 (.branch 58 (.leaf (2, 0, [])) (.branch 59 (.leaf (3, 0, [(0, 9, 12, 2)])) (.leaf (2, 0, [])))) (.branch 61 (.leaf (2, 0, [(0, 8, 11, 0)])) (.branch 62 (.leaf (1, 0, [])) (.leaf (2, 0, [(0, 8, 11, 0)]))))))) (.branch 73 (.branch 68 (.branch 65 (.branch 64 (.leaf (1, 0, [])) (.leaf (1, 0, []))) (.branch 66 (.leaf (1, 0, [])) (.branch 67 (.leaf (3, 0, [(0, 16, 19, 2)])) (.leaf (2, 2, []))))) (.branch 70 (.branch 69 (.leaf (3, 0, [(0, 9, 12, 2)])) (.leaf (2, 0, []))) (.branch 71 (.leaf (3, 0, [(0, 9, 12, 2), (0, 9, 15, 1)])) (.branch 72 (.leaf (2, 0, [])) (.leaf (3, 0, [(0, 9, 12, 2), (0, 9, 15, 1)])))))) (.branch 78 (.branch 75 (.branch 74 (.leaf (2, 0, [])) (.leaf (4, 0, [(0, 10, 13, 2), (0, 10, 17, 1)]))) (.branch 76 (.leaf (3, 0, [])) (.branch 77 (.leaf (4, 0, [(0, 10, 13, 2), (0, 10, 17, 1)])) (.leaf (3, 0, []))))) (.branch 81 (.branch 79 (.leaf (4, 0, [(0, 10, 13, 2), (0, 10, 17, 1)])) (.branch 80 (.leaf (3, 0, [])) (.leaf (3, 0, [(0, 9, 12, 2), (0, 9, 15, 1)])))) (.branch 82 (.leaf (2, 0, [])) (.branch 83 (.leaf (4, 0, [(0, 10, 13, 2), (0, 10, 17, 1)])) (.leaf (3, 0, []))))))))) (.branch 126 (.branch 105 (.branch 94 (.branch 89 (.branch 86 (.branch 85 (.leaf (4, 0, [(0, 17, 20, 2), (0, 17, 24, 1)])) (.leaf (3, 2, []))) (.branch 87 (.leaf (3, 0, [(0, 9, 12, 2), (0, 9, 15, 1)])) (.branch 88 (.leaf (2, 0, [])) (.leaf (3, 0, [(0, 9, 12, 2), (0, 9, 15, 1)]))))) (.branch 91 (.branch 90 (.leaf (2, 0, [])) (.leaf (3, 0, [(0, 16, 19, 2)]))) (.branch 92 (.leaf (2, 2, [])) (.branch 93 (.leaf (1, 0, [])) (.leaf (1, 0, [])))))) (.branch 99 (.branch 96 (.branch 95 (.leaf (3, 0, [(0, 9, 12, 2)])) (.leaf (2, 0, []))) (.branch 97 (.leaf (3, 0, [(0, 9, 12, 2)])) (.branch 98 (.leaf (2, 0, [])) (.leaf (4, 0, [(0, 17, 20, 2)]))))) (.branch 102 (.branch 100 (.leaf (3, 2, [])) (.branch 101 (.leaf (1, 0, [])) (.leaf (1, 0, [])))) (.branch 103 (.leaf (3, 0, [(0, 9, 12, 1)])) (.branch 104 (.leaf (2, 0, [])) (.leaf (3, 0, [(0, 9, 12, 1)]))))))) (.branch 115 (.branch 110 (.branch 107 (.branch 106 (.leaf (2, 0, [])) (.leaf (3, 0, [(0, 9, 12, 1)]))) (.branch 108 (.leaf (2, 0, [])) (.branch 109 (.leaf (1, 0, [])) (.leaf (1, 0, []))))) (.branch 112 (.branch 111 (.leaf (3, 0, [(0, 9, 12, 2)])) (.leaf (2, 0, []))) (.branch 113 (.leaf (1, 0, [])) (.branch 114 (.leaf (1, 0, [])) (.leaf (1, 1, [])))))) (.branch 120 (.branch 117 (.branch 116 (.leaf (2, 1, [])) (.leaf (1, 1, []))) (.branch 118 (.leaf (2, 1, [])) (.branch 119 (.leaf (3, 1, [])) (.leaf (2, 1, []))))) (.branch 123 (.branch 121 (.leaf (6, 0, [])) (.branch 122 (.leaf (2, 0, [])) (.leaf (2, 1, [])))) (.branch 124 (.leaf (2, 0, [])) (.branch 125 (.leaf (3, 2, [])) (.leaf (1, 0, [])))))))) (.branch 147 (.branch 136 (.branch 131 (.branch 128 (.branch 127 (.leaf (1, 0, [])) (.leaf (2, 1, []))) (.branch 129 (.leaf (1, 0, [])) (.branch 130 (.leaf (2, 1, [])) (.leaf (1, 1, []))))) (.branch 133 (.branch 132 (.leaf (1, 1, [])) (.leaf (6, 1, []))) (.branch 134 (.leaf (1, 1, [])) (.branch 135 (.leaf (2, 0, [])) (.leaf (2, 0, [])))))) (.branch 141 (.branch 138 (.branch 137 (.leaf (2, 0, [])) (.leaf (2, 2, []))) (.branch 139 (.leaf (3, 0, [])) (.branch 140 (.leaf (2, 2, [])) (.leaf (1, 0, []))))) (.branch 144 (.branch 142 (.leaf (1, 0, [])) (.branch 143 (.leaf (1, 0, [])) (.leaf (1, 0, [])))) (.branch 145 (.leaf (1, 0, [])) (.branch 146 (.leaf (1, 0, [])) (.leaf (1, 0, []))))))) (.branch 158 (.branch 152 (.branch 149 (.branch 148 (.leaf (1, 0, [])) (.leaf (1, 0, []))) (.branch 150 (.leaf (1, 0, [])) (.branch 151 (.leaf (1, 0, [])) (.leaf (1, 2, []))))) (.branch 155 (.branch 153 (.leaf (1, 2, [])) (.branch 154 (.leaf (1, 0, [])) (.leaf (1, 0, [])))) (.branch 156 (.leaf (1, 0, [])) (.branch 157 (.leaf (2, 0, [])) (.leaf (3, 0, [])))))) (.branch 163 (.branch 160 (.branch 159 (.leaf (2, 0, [])) (.leaf (2, 2, []))) (.branch 161 (.leaf (2, 2, [])) (.branch 162 (.leaf (2, 0, [])) (.leaf (2, 0, []))))) (.branch 166 (.branch 164 (.leaf (2, 0, [])) (.branch 165 (.leaf (1, 0, [])) (.leaf (1, 0, [])))) (.branch 167 (.leaf (2, 0, [])) (.branch 168 (.leaf (3, 0, [])) (.leaf (2, 0, [])))))))))) (.branch 253 (.branch 211 (.branch 190 (.branch 179 (.branch 174 (.branch 171 (.branch 170 (.leaf (1, 0, [])) (.leaf (1, 0, []))) (.branch 172 (.leaf (1, 0, [])) (.branch 173 (.leaf (1, 0, [])) (.leaf (1, 0, []))))) (.branch 176 (.branch 175 (.leaf (2, 2, [])) (.leaf (2, 0, []))) (.branch 177 (.leaf (2, 2, [])) (.branch 178 (.leaf (2, 0, [])) (.leaf (2, 0, [])))))) (.branch 184 (.branch 181 (.branch 180 (.leaf (2, 2, [])) (.leaf (3, 0, []))) (.branch 182 (.leaf (4, 0, [])) (.branch 183 (.leaf (3, 0, [])) (.leaf (3, 0, []))))) (.branch 187 (.branch 185 (.leaf (2, 0, [])) (.branch 186 (.leaf (3, 0, [])) (.leaf (3, 2, [])))) (.branch 188 (.leaf (2, 0, [])) (.branch 189 (.leaf (2, 0, [])) (.leaf (2, 2, []))))))) (.branch 200 (.branch 195 (.branch 192 (.branch 191 (.leaf (2, 0, [])) (.leaf (1, 0, []))) (.branch 193 (.leaf (2, 0, [])) (.branch 194 (.leaf (2, 0, [])) (.leaf (2, 0, []))))) (.branch 197 (.branch 196 (.leaf (2, 0, [])) (.leaf (3, 2, []))) (.branch 198 (.leaf (3, 2, [])) (.branch 199 (.leaf (2, 0, [])) (.leaf (1, 0, [])))))) (.branch 205 (.branch 202 (.branch 201 (.leaf (2, 0, [])) (.leaf (2, 0, []))) (.branch 203 (.leaf (2, 1, [])) (.branch 204 (.leaf (1, 2, [])) (.leaf (2, 0, []))))) (.branch 208 (.branch 206 (.leaf (2, 0, [])) (.branch 207 (.leaf (2, 0, [])) (.leaf (2, 0, [])))) (.branch 209 (.leaf (2, 2, [])) (.branch 210 (.leaf (2, 1, [])) (.leaf (2, 1, [])))))))) (.branch 232 (.branch 221 (.branch 216 (.branch 213 (.branch 212 (.leaf (1, 1, [])) (.leaf (1, 1, []))) (.branch 214 (.leaf (1, 1, [])) (.branch 215 (.leaf (1, 1, [])) (.leaf (4, 1, []))))) (.branch 218 (.branch 217 (.leaf (1, 1, [])) (.leaf (2, 1, []))) (.branch 219 (.leaf (2, 2, [])) (.branch 220 (.leaf (2, 1, [])) (.leaf (1, 0, [])))))) (.branch 226 (.branch 223 (.branch 222 (.leaf (1, 1, [])) (.leaf (1, 1, []))) (.branch 224 (.leaf (2, 1, [])) (.branch 225 (.leaf (2, 1, [])) (.leaf (4, 0, []))))) (.branch 229 (.branch 227 (.leaf (1, 1, [])) (.branch 228 (.leaf (1, 0, [])) (.leaf (2, 1, [])))) (.branch 230 (.leaf (1, 0, [])) (.branch 231 (.leaf (1, 0, [])) (.leaf (2, 0, []))))))) (.branch 242 (.branch 237 (.branch 234 (.branch 233 (.leaf (2, 1, [])) (.leaf (1, 1, []))) (.branch 235 (.leaf (1, 1, [])) (.branch 236 (.leaf (1, 1, [])) (.leaf (2, 0, []))))) (.branch 239 (.branch 238 (.leaf (1, 1, [])) (.leaf (2, 0, []))) (.branch 240 (.leaf (1, 1, [])) (.branch 241 (.leaf (1, 0, [])) (.leaf (1, 2, [])))))) (.branch 247 (.branch 244 (.branch 243 (.leaf (1, 0, [])) (.leaf (2, 1, []))) (.branch 245 (.leaf (2, 1, [])) (.branch 246 (.leaf (2, 1, [])) (.leaf (2, 1, []))))) (.branch 250 (.branch 248 (.leaf (2, 0, [])) (.branch 249 (.leaf (1, 0, [])) (.leaf (2, 0, [])))) (.branch 251 (.leaf (2, 1, [])) (.branch 252 (.leaf (1, 1, [])) (.leaf (3, 1, []))))))))) (.branch 295 (.branch 274 (.branch 263 (.branch 258 (.branch 255 (.branch 254 (.leaf (3, 1, [])) (.leaf (1, 0, []))) (.branch 256 (.leaf (2, 0, [])) (.branch 257 (.leaf (2, 1, [])) (.leaf (1, 1, []))))) (.branch 260 (.branch 259 (.leaf (1, 0, [])) (.leaf (1, 0, []))) (.branch 261 (.leaf (2, 0, [])) (.branch 262 (.leaf (1, 0, [])) (.leaf (2, 0, [])))))) (.branch 268 (.branch 265 (.branch 264 (.leaf (2, 0, [])) (.leaf (2, 0, []))) (.branch 266 (.leaf (2, 0, [])) (.branch 267 (.leaf (3, 0, [])) (.leaf (3, 0, []))))) (.branch 271 (.branch 269 (.leaf (2, 2, [])) (.branch 270 (.leaf (2, 1, [])) (.leaf (2, 0, [])))) (.branch 272 (.leaf (2, 2, [])) (.branch 273 (.leaf (2, 0, [])) (.leaf (1, 0, []))))))) (.branch 284 (.branch 279 (.branch 276 (.branch 275 (.leaf (2, 1, [])) (.leaf (2, 0, []))) (.branch 277 (.leaf (1, 1, [])) (.branch 278 (.leaf (1, 0, [])) (.leaf (2, 1, []))))) (.branch 281 (.branch 280 (.leaf (2, 0, [])) (.leaf (2, 0, []))) (.branch 282 (.leaf (3, 1, [])) (.branch 283 (.leaf (2, 0, [])) (.leaf (3, 1, [])))))) (.branch 289 (.branch 286 (.branch 285 (.leaf (3, 0, [])) (.leaf (3, 0, []))) (.branch 287 (.leaf (2, 0, [])) (.branch 288 (.leaf (2, 0, [])) (.leaf (2, 0, []))))) (.branch 292 (.branch 290 (.leaf (2, 0, [])) (.branch 291 (.leaf (2, 1, [])) (.leaf (3, 1, [])))) (.branch 293 (.leaf (4, 1, [])) (.branch 294 (.leaf (3, 1, [])) (.leaf (1, 1, [])))))))) (.branch 316 (.branch 305 (.branch 300 (.branch 297 (.branch 296 (.leaf (3, 0, [])) (.leaf (2, 1, []))) (.branch 298 (.leaf (2, 1, [])) (.branch 299 (.leaf (2, 1, [])) (.leaf (2, 1, []))))) (.branch 302 (.branch 301 (.leaf (2, 2, [])) (.leaf (1, 2, []))) (.branch 303 (.leaf (3, 1, [])) (.branch 304 (.leaf (2, 0, [])) (.leaf (2, 0, [])))))) (.branch 310 (.branch 307 (.branch 306 (.leaf (1, 1, [])) (.leaf (1, 1, []))) (.branch 308 (.leaf (2, 0, [])) (.branch 309 (.leaf (4, 1, [])) (.leaf (1, 2, []))))) (.branch 313 (.branch 311 (.leaf (2, 0, [])) (.branch 312 (.leaf (4, 1, [])) (.leaf (1, 0, [])))) (.branch 314 (.leaf (2, 1, [])) (.branch 315 (.leaf (1, 1, [])) (.leaf (6, 1, []))))))) (.branch 327 (.branch 321 (.branch 318 (.branch 317 (.leaf (1, 2, [])) (.leaf (2, 0, []))) (.branch 319 (.leaf (1, 2, [])) (.branch 320 (.leaf (3, 0, [])) (.leaf (3, 1, []))))) (.branch 324 (.branch 322 (.leaf (3, 0, [])) (.branch 323 (.leaf (3, 1, [])) (.leaf (1, 0, [])))) (.branch 325 (.leaf (4, 1, [])) (.branch 326 (.leaf (2, 0, [])) (.leaf (2, 0, [])))))) (.branch 332 (.branch 329 (.branch 328 (.leaf (2, 0, [])) (.leaf (3, 1, []))) (.branch 330 (.leaf (3, 0, [])) (.branch 331 (.leaf (1, 2, [])) (.leaf (1, 2, []))))) (.branch 335 (.branch 333 (.leaf (1, 0, [])) (.branch 334 (.leaf (3, 1, [])) (.leaf (2, 0, [])))) (.branch 336 (.leaf (2, 0, [])) (.branch 337 (.leaf (2, 0, [])) (.leaf (2, 0, []))))))))))
-- its locals
set_option maxRecDepth 100000 in
noncomputable def xmL : Lean.RArray Nat := .branch 169 (.branch 84 (.branch 42 (.branch 21 (.branch 10 (.branch 5 (.branch 2 (.branch 1 (.leaf 9) (.leaf 1)) (.branch 3 (.leaf 1) (.branch 4 (.leaf 8) (.leaf 6)))) (.branch 7 (.branch 6 (.leaf 1) (.leaf 4)) (.branch 8 (.leaf 2) (.branch 9 (.leaf 2) (.leaf 3))))) (.branch 15 (.branch 12 (.branch 11 (.leaf 1) (.leaf 1)) (.branch 13 (.leaf 4) (.branch 14 (.leaf 2) (.leaf 4)))) (.branch 18 (.branch 16 (.leaf 2) (.branch 17 (.leaf 5) (.leaf 4))) (.branch 19 (.leaf 1) (.branch 20 (.leaf 1) (.leaf 1)))))) (.branch 31 (.branch 26 (.branch 23 (.branch 22 (.leaf 1) (.leaf 1)) (.branch 24 (.leaf 1) (.branch 25 (.leaf 1) (.leaf 1)))) (.branch 28 (.branch 27 (.leaf 1) (.leaf 1)) (.branch 29 (.leaf 1) (.branch 30 (.leaf 1) (.leaf 1))))) (.branch 36 (.branch 33 (.branch 32 (.leaf 1) (.leaf 1)) (.branch 34 (.leaf 1) (.branch 35 (.leaf 1) (.leaf 1)))) (.branch 39 (.branch 37 (.leaf 1) (.branch 38 (.leaf 1) (.leaf 1))) (.branch 40 (.leaf 1) (.branch 41 (.leaf 4) (.leaf 2))))))) (.branch 63 (.branch 52 (.branch 47 (.branch 44 (.branch 43 (.leaf 4) (.leaf 2)) (.branch 45 (.leaf 4) (.branch 46 (.leaf 2) (.leaf 1)))) (.branch 49 (.branch 48 (.leaf 1) (.leaf 4)) (.branch 50 (.leaf 2) (.branch 51 (.leaf 4) (.leaf 2))))) (.branch 57 (.branch 54 (.branch 53 (.leaf 1) (.leaf 1)) (.branch 55 (.leaf 1) (.branch 56 (.leaf 1) (.leaf 4)))) (.branch 60 (.branch 58 (.leaf 2) (.branch 59 (.leaf 4) (.leaf 2))) (.branch 61 (.leaf 3) (.branch 62 (.leaf 1) (.leaf 3)))))) (.branch 73 (.branch 68 (.branch 65 (.branch 64 (.leaf 1) (.leaf 1)) (.branch 66 (.leaf 1) (.branch 67 (.leaf 4) (.leaf 2)))) (.branch 70 (.branch 69 (.leaf 4) (.leaf 2)) (.branch 71 (.leaf 4) (.branch 72 (.leaf 2) (.leaf 4))))) (.branch 78 (.branch 75 (.branch 74 (.leaf 2) (.leaf 5)) (.branch 76 (.leaf 3) (.branch 77 (.leaf 5) (.leaf 3)))) (.branch 81 (.branch 79 (.leaf 5) (.branch 80 (.leaf 3) (.leaf 4))) (.branch 82 (.leaf 2) (.branch 83 (.leaf 5) (.leaf 3)))))))) (.branch 126 (.branch 105 (.branch 94 (.branch 89 (.branch 86 (.branch 85 (.leaf 5) (.leaf 4)) (.branch 87 (.leaf 4) (.branch 88 (.leaf 2) (.leaf 4)))) (.branch 91 (.branch 90 (.leaf 2) (.leaf 4)) (.branch 92 (.leaf 2) (.branch 93 (.leaf 1) (.leaf 1))))) (.branch 99 (.branch 96 (.branch 95 (.leaf 4) (.leaf 2)) (.branch 97 (.leaf 4) (.branch 98 (.leaf 2) (.leaf 5)))) (.branch 102 (.branch 100 (.leaf 3) (.branch 101 (.leaf 2) (.leaf 2))) (.branch 103 (.leaf 4) (.branch 104 (.leaf 3) (.leaf 4)))))) (.branch 115 (.branch 110 (.branch 107 (.branch 106 (.leaf 2) (.leaf 4)) (.branch 108 (.leaf 2) (.branch 109 (.leaf 3) (.leaf 4)))) (.branch 112 (.branch 111 (.leaf 4) (.leaf 2)) (.branch 113 (.leaf 5) (.branch 114 (.leaf 8) (.leaf 1))))) (.branch 120 (.branch 117 (.branch 116 (.leaf 2) (.leaf 1)) (.branch 118 (.leaf 2) (.branch 119 (.leaf 4) (.leaf 3)))) (.branch 123 (.branch 121 (.leaf 6) (.branch 122 (.leaf 2) (.leaf 3))) (.branch 124 (.leaf 2) (.branch 125 (.leaf 3) (.leaf 1))))))) (.branch 147 (.branch 136 (.branch 131 (.branch 128 (.branch 127 (.leaf 1) (.leaf 2)) (.branch 129 (.leaf 1) (.branch 130 (.leaf 2) (.leaf 1)))) (.branch 133 (.branch 132 (.leaf 1) (.leaf 8)) (.branch 134 (.leaf 2) (.branch 135 (.leaf 2) (.leaf 2))))) (.branch 141 (.branch 138 (.branch 137 (.leaf 2) (.leaf 2)) (.branch 139 (.leaf 4) (.branch 140 (.leaf 2) (.leaf 3)))) (.branch 144 (.branch 142 (.leaf 3) (.branch 143 (.leaf 1) (.leaf 1))) (.branch 145 (.leaf 1) (.branch 146 (.leaf 1) (.leaf 1)))))) (.branch 158 (.branch 152 (.branch 149 (.branch 148 (.leaf 1) (.leaf 1)) (.branch 150 (.leaf 1) (.branch 151 (.leaf 3) (.leaf 4)))) (.branch 155 (.branch 153 (.leaf 3) (.branch 154 (.leaf 1) (.leaf 1))) (.branch 156 (.leaf 1) (.branch 157 (.leaf 2) (.leaf 3))))) (.branch 163 (.branch 160 (.branch 159 (.leaf 2) (.leaf 2)) (.branch 161 (.leaf 2) (.branch 162 (.leaf 2) (.leaf 2)))) (.branch 166 (.branch 164 (.leaf 2) (.branch 165 (.leaf 1) (.leaf 1))) (.branch 167 (.leaf 2) (.branch 168 (.leaf 3) (.leaf 2))))))))) (.branch 253 (.branch 211 (.branch 190 (.branch 179 (.branch 174 (.branch 171 (.branch 170 (.leaf 1) (.leaf 1)) (.branch 172 (.leaf 1) (.branch 173 (.leaf 1) (.leaf 3)))) (.branch 176 (.branch 175 (.leaf 2) (.leaf 2)) (.branch 177 (.leaf 2) (.branch 178 (.leaf 3) (.leaf 2))))) (.branch 184 (.branch 181 (.branch 180 (.leaf 2) (.leaf 3)) (.branch 182 (.leaf 4) (.branch 183 (.leaf 3) (.leaf 3)))) (.branch 187 (.branch 185 (.leaf 2) (.branch 186 (.leaf 3) (.leaf 3))) (.branch 188 (.leaf 2) (.branch 189 (.leaf 2) (.leaf 2)))))) (.branch 200 (.branch 195 (.branch 192 (.branch 191 (.leaf 3) (.leaf 1)) (.branch 193 (.leaf 2) (.branch 194 (.leaf 3) (.leaf 2)))) (.branch 197 (.branch 196 (.leaf 2) (.leaf 3)) (.branch 198 (.leaf 3) (.branch 199 (.leaf 3) (.leaf 1))))) (.branch 205 (.branch 202 (.branch 201 (.leaf 2) (.leaf 2)) (.branch 203 (.leaf 2) (.branch 204 (.leaf 1) (.leaf 6)))) (.branch 208 (.branch 206 (.leaf 2) (.branch 207 (.leaf 3) (.leaf 6))) (.branch 209 (.leaf 2) (.branch 210 (.leaf 2) (.leaf 7))))))) (.branch 232 (.branch 221 (.branch 216 (.branch 213 (.branch 212 (.leaf 1) (.leaf 1)) (.branch 214 (.leaf 1) (.branch 215 (.leaf 1) (.leaf 4)))) (.branch 218 (.branch 217 (.leaf 1) (.leaf 4)) (.branch 219 (.leaf 2) (.branch 220 (.leaf 3) (.leaf 1))))) (.branch 226 (.branch 223 (.branch 222 (.leaf 1) (.leaf 5)) (.branch 224 (.leaf 3) (.branch 225 (.leaf 2) (.leaf 5)))) (.branch 229 (.branch 227 (.leaf 3) (.branch 228 (.leaf 1) (.leaf 2))) (.branch 230 (.leaf 1) (.branch 231 (.leaf 1) (.leaf 2)))))) (.branch 242 (.branch 237 (.branch 234 (.branch 233 (.leaf 2) (.leaf 1)) (.branch 235 (.leaf 1) (.branch 236 (.leaf 1) (.leaf 2)))) (.branch 239 (.branch 238 (.leaf 2) (.leaf 5)) (.branch 240 (.leaf 5) (.branch 241 (.leaf 2) (.leaf 3))))) (.branch 247 (.branch 244 (.branch 243 (.leaf 1) (.leaf 6)) (.branch 245 (.leaf 2) (.branch 246 (.leaf 2) (.leaf 2)))) (.branch 250 (.branch 248 (.leaf 2) (.branch 249 (.leaf 2) (.leaf 2))) (.branch 251 (.leaf 2) (.branch 252 (.leaf 3) (.leaf 5)))))))) (.branch 295 (.branch 274 (.branch 263 (.branch 258 (.branch 255 (.branch 254 (.leaf 6) (.leaf 5)) (.branch 256 (.leaf 2) (.branch 257 (.leaf 2) (.leaf 2)))) (.branch 260 (.branch 259 (.leaf 1) (.leaf 1)) (.branch 261 (.leaf 2) (.branch 262 (.leaf 1) (.leaf 2))))) (.branch 268 (.branch 265 (.branch 264 (.leaf 2) (.leaf 2)) (.branch 266 (.leaf 2) (.branch 267 (.leaf 3) (.leaf 3)))) (.branch 271 (.branch 269 (.leaf 3) (.branch 270 (.leaf 2) (.leaf 2))) (.branch 272 (.leaf 2) (.branch 273 (.leaf 2) (.leaf 2)))))) (.branch 284 (.branch 279 (.branch 276 (.branch 275 (.leaf 2) (.leaf 2)) (.branch 277 (.leaf 1) (.branch 278 (.leaf 1) (.leaf 2)))) (.branch 281 (.branch 280 (.leaf 2) (.leaf 2)) (.branch 282 (.leaf 3) (.branch 283 (.leaf 2) (.leaf 3))))) (.branch 289 (.branch 286 (.branch 285 (.leaf 3) (.leaf 3)) (.branch 287 (.leaf 2) (.branch 288 (.leaf 2) (.leaf 2)))) (.branch 292 (.branch 290 (.leaf 2) (.branch 291 (.leaf 3) (.leaf 5))) (.branch 293 (.leaf 4) (.branch 294 (.leaf 3) (.leaf 2))))))) (.branch 316 (.branch 305 (.branch 300 (.branch 297 (.branch 296 (.leaf 3) (.leaf 2)) (.branch 298 (.leaf 2) (.branch 299 (.leaf 2) (.leaf 2)))) (.branch 302 (.branch 301 (.leaf 2) (.leaf 1)) (.branch 303 (.leaf 4) (.branch 304 (.leaf 3) (.leaf 2))))) (.branch 310 (.branch 307 (.branch 306 (.leaf 1) (.leaf 1)) (.branch 308 (.leaf 4) (.branch 309 (.leaf 5) (.leaf 2)))) (.branch 313 (.branch 311 (.leaf 2) (.branch 312 (.leaf 4) (.leaf 1))) (.branch 314 (.leaf 3) (.branch 315 (.leaf 2) (.leaf 7)))))) (.branch 327 (.branch 321 (.branch 318 (.branch 317 (.leaf 1) (.leaf 2)) (.branch 319 (.leaf 1) (.branch 320 (.leaf 3) (.leaf 3)))) (.branch 324 (.branch 322 (.leaf 3) (.branch 323 (.leaf 5) (.leaf 1))) (.branch 325 (.leaf 5) (.branch 326 (.leaf 2) (.leaf 2))))) (.branch 332 (.branch 329 (.branch 328 (.leaf 2) (.leaf 5)) (.branch 330 (.leaf 3) (.branch 331 (.leaf 1) (.leaf 1)))) (.branch 335 (.branch 333 (.leaf 1) (.branch 334 (.leaf 3) (.leaf 2))) (.branch 336 (.leaf 2) (.branch 337 (.leaf 2) (.leaf 2)))))))))
noncomputable def xs_0 : Lean.RArray Nat := .branch 75 (.branch 37 (.branch 18 (.branch 9 (.branch 4 (.branch 2 (.branch 1 (.leaf 118) (.leaf 97)) (.branch 3 (.leaf 114) (.leaf 32))) (.branch 6 (.branch 5 (.leaf 100) (.leaf 101)) (.branch 7 (.leaf 102) (.branch 8 (.leaf 32) (.leaf 102))))) (.branch 13 (.branch 11 (.branch 10 (.leaf 117) (.leaf 110)) (.branch 12 (.leaf 32) (.leaf 114))) (.branch 15 (.branch 14 (.leaf 101) (.leaf 116)) (.branch 16 (.leaf 117) (.branch 17 (.leaf 114) (.leaf 110)))))) (.branch 27 (.branch 22 (.branch 20 (.branch 19 (.leaf 32) (.leaf 121)) (.branch 21 (.leaf 105) (.leaf 101))) (.branch 24 (.branch 23 (.leaf 108) (.leaf 100)) (.branch 25 (.leaf 32) (.branch 26 (.leaf 105) (.leaf 102))))) (.branch 32 (.branch 29 (.branch 28 (.leaf 32) (.leaf 101)) (.branch 30 (.leaf 108) (.branch 31 (.leaf 115) (.leaf 101)))) (.branch 34 (.branch 33 (.leaf 32) (.leaf 119)) (.branch 35 (.leaf 104) (.branch 36 (.leaf 105) (.leaf 108))))))) (.branch 56 (.branch 46 (.branch 41 (.branch 39 (.branch 38 (.leaf 101) (.leaf 32)) (.branch 40 (.leaf 102) (.leaf 111))) (.branch 43 (.branch 42 (.leaf 114) (.leaf 32)) (.branch 44 (.leaf 105) (.branch 45 (.leaf 110) (.leaf 32))))) (.branch 51 (.branch 48 (.branch 47 (.leaf 98) (.leaf 114)) (.branch 49 (.leaf 101) (.branch 50 (.leaf 97) (.leaf 107)))) (.branch 53 (.branch 52 (.leaf 32) (.leaf 99)) (.branch 54 (.leaf 111) (.branch 55 (.leaf 110) (.leaf 116)))))) (.branch 65 (.branch 60 (.branch 58 (.branch 57 (.leaf 105) (.leaf 110)) (.branch 59 (.leaf 117) (.leaf 101))) (.branch 62 (.branch 61 (.leaf 32) (.leaf 116)) (.branch 63 (.leaf 114) (.branch 64 (.leaf 121) (.leaf 32))))) (.branch 70 (.branch 67 (.branch 66 (.leaf 99) (.leaf 97)) (.branch 68 (.leaf 116) (.branch 69 (.leaf 99) (.leaf 104)))) (.branch 72 (.branch 71 (.leaf 32) (.leaf 102)) (.branch 73 (.leaf 105) (.branch 74 (.leaf 110) (.leaf 97)))))))) (.branch 113 (.branch 94 (.branch 84 (.branch 79 (.branch 77 (.branch 76 (.leaf 108) (.leaf 108)) (.branch 78 (.leaf 121) (.leaf 32))) (.branch 81 (.branch 80 (.leaf 116) (.leaf 104)) (.branch 82 (.leaf 114) (.branch 83 (.leaf 111) (.leaf 119))))) (.branch 89 (.branch 86 (.branch 85 (.leaf 32) (.leaf 112)) (.branch 87 (.leaf 114) (.branch 88 (.leaf 105) (.leaf 110)))) (.branch 91 (.branch 90 (.leaf 116) (.leaf 32)) (.branch 92 (.leaf 99) (.branch 93 (.leaf 111) (.leaf 108)))))) (.branch 103 (.branch 98 (.branch 96 (.branch 95 (.leaf 108) (.leaf 101)) (.branch 97 (.leaf 99) (.leaf 116))) (.branch 100 (.branch 99 (.leaf 32) (.leaf 111)) (.branch 101 (.leaf 98) (.branch 102 (.leaf 106) (.leaf 101))))) (.branch 108 (.branch 105 (.branch 104 (.leaf 99) (.leaf 116)) (.branch 106 (.leaf 32) (.branch 107 (.leaf 108) (.leaf 105)))) (.branch 110 (.branch 109 (.leaf 107) (.leaf 101)) (.branch 111 (.leaf 32) (.branch 112 (.leaf 110) (.leaf 105))))))) (.branch 132 (.branch 122 (.branch 117 (.branch 115 (.branch 114 (.leaf 108) (.leaf 32)) (.branch 116 (.leaf 116) (.leaf 114))) (.branch 119 (.branch 118 (.leaf 117) (.leaf 101)) (.branch 120 (.leaf 32) (.branch 121 (.leaf 102) (.leaf 97))))) (.branch 127 (.branch 124 (.branch 123 (.leaf 108) (.leaf 115)) (.branch 125 (.leaf 101) (.branch 126 (.leaf 32) (.leaf 115)))) (.branch 129 (.branch 128 (.leaf 101) (.leaf 108)) (.branch 130 (.leaf 102) (.branch 131 (.leaf 32) (.leaf 110)))))) (.branch 141 (.branch 136 (.branch 134 (.branch 133 (.leaf 111) (.leaf 116)) (.branch 135 (.leaf 32) (.leaf 97))) (.branch 138 (.branch 137 (.leaf 110) (.leaf 100)) (.branch 139 (.leaf 32) (.branch 140 (.leaf 111) (.leaf 114))))) (.branch 146 (.branch 143 (.branch 142 (.leaf 32) (.leaf 119)) (.branch 144 (.leaf 101) (.branch 145 (.leaf 97) (.leaf 107)))) (.branch 148 (.branch 147 (.leaf 32) (.leaf 110)) (.branch 149 (.leaf 101) (.branch 150 (.leaf 120) (.leaf 116))))))))
noncomputable def xs_1 : Lean.RArray Nat := .branch 19 (.branch 9 (.branch 4 (.branch 2 (.branch 1 (.leaf 116) (.leaf 121)) (.branch 3 (.leaf 112) (.leaf 101))) (.branch 6 (.branch 5 (.leaf 32) (.leaf 122)) (.branch 7 (.leaf 101) (.branch 8 (.leaf 114) (.leaf 111))))) (.branch 14 (.branch 11 (.branch 10 (.leaf 32) (.leaf 115)) (.branch 12 (.leaf 108) (.branch 13 (.leaf 111) (.leaf 116)))) (.branch 16 (.branch 15 (.leaf 32) (.leaf 97)) (.branch 17 (.leaf 114) (.branch 18 (.leaf 103) (.leaf 115)))))) (.branch 29 (.branch 24 (.branch 21 (.branch 20 (.leaf 32) (.leaf 100)) (.branch 22 (.leaf 101) (.branch 23 (.leaf 101) (.leaf 112)))) (.branch 26 (.branch 25 (.leaf 32) (.leaf 102)) (.branch 27 (.leaf 117) (.branch 28 (.leaf 108) (.leaf 108))))) (.branch 34 (.branch 31 (.branch 30 (.leaf 32) (.leaf 100)) (.branch 32 (.leaf 111) (.branch 33 (.leaf 110) (.leaf 101)))) (.branch 36 (.branch 35 (.leaf 32) (.leaf 98)) (.branch 37 (.leaf 117) (.branch 38 (.leaf 115) (.leaf 121))))))
noncomputable def xs_2 : Lean.RArray Nat := .branch 7 (.branch 3 (.branch 1 (.leaf 40) (.branch 2 (.leaf 41) (.leaf 123))) (.branch 5 (.branch 4 (.leaf 125) (.leaf 44)) (.branch 6 (.leaf 59) (.leaf 46)))) (.branch 11 (.branch 9 (.branch 8 (.leaf 43) (.leaf 45)) (.branch 10 (.leaf 42) (.leaf 47))) (.branch 13 (.branch 12 (.leaf 37) (.leaf 60)) (.branch 14 (.leaf 62) (.leaf 61))))
noncomputable def xs_3 : Lean.RArray Nat := .branch 76 (.branch 38 (.branch 19 (.branch 9 (.branch 4 (.branch 2 (.branch 1 (.leaf 118) (.leaf 97)) (.branch 3 (.leaf 114) (.leaf 32))) (.branch 6 (.branch 5 (.leaf 100) (.leaf 101)) (.branch 7 (.leaf 102) (.branch 8 (.leaf 32) (.leaf 102))))) (.branch 14 (.branch 11 (.branch 10 (.leaf 117) (.leaf 110)) (.branch 12 (.leaf 32) (.branch 13 (.leaf 114) (.leaf 101)))) (.branch 16 (.branch 15 (.leaf 116) (.leaf 117)) (.branch 17 (.leaf 114) (.branch 18 (.leaf 110) (.leaf 32)))))) (.branch 28 (.branch 23 (.branch 21 (.branch 20 (.leaf 121) (.leaf 105)) (.branch 22 (.leaf 101) (.leaf 108))) (.branch 25 (.branch 24 (.leaf 100) (.leaf 32)) (.branch 26 (.leaf 105) (.branch 27 (.leaf 102) (.leaf 32))))) (.branch 33 (.branch 30 (.branch 29 (.leaf 101) (.leaf 108)) (.branch 31 (.leaf 115) (.branch 32 (.leaf 101) (.leaf 32)))) (.branch 35 (.branch 34 (.leaf 119) (.leaf 104)) (.branch 36 (.leaf 105) (.branch 37 (.leaf 108) (.leaf 101))))))) (.branch 57 (.branch 47 (.branch 42 (.branch 40 (.branch 39 (.leaf 32) (.leaf 102)) (.branch 41 (.leaf 111) (.leaf 114))) (.branch 44 (.branch 43 (.leaf 32) (.leaf 105)) (.branch 45 (.leaf 110) (.branch 46 (.leaf 32) (.leaf 98))))) (.branch 52 (.branch 49 (.branch 48 (.leaf 114) (.leaf 101)) (.branch 50 (.leaf 97) (.branch 51 (.leaf 107) (.leaf 32)))) (.branch 54 (.branch 53 (.leaf 99) (.leaf 111)) (.branch 55 (.leaf 110) (.branch 56 (.leaf 116) (.leaf 105)))))) (.branch 66 (.branch 61 (.branch 59 (.branch 58 (.leaf 110) (.leaf 117)) (.branch 60 (.leaf 101) (.leaf 32))) (.branch 63 (.branch 62 (.leaf 116) (.leaf 114)) (.branch 64 (.leaf 121) (.branch 65 (.leaf 32) (.leaf 99))))) (.branch 71 (.branch 68 (.branch 67 (.leaf 97) (.leaf 116)) (.branch 69 (.leaf 99) (.branch 70 (.leaf 104) (.leaf 32)))) (.branch 73 (.branch 72 (.leaf 102) (.leaf 105)) (.branch 74 (.leaf 110) (.branch 75 (.leaf 97) (.leaf 108)))))))) (.branch 114 (.branch 95 (.branch 85 (.branch 80 (.branch 78 (.branch 77 (.leaf 108) (.leaf 121)) (.branch 79 (.leaf 32) (.leaf 116))) (.branch 82 (.branch 81 (.leaf 104) (.leaf 114)) (.branch 83 (.leaf 111) (.branch 84 (.leaf 119) (.leaf 32))))) (.branch 90 (.branch 87 (.branch 86 (.leaf 112) (.leaf 114)) (.branch 88 (.leaf 105) (.branch 89 (.leaf 110) (.leaf 116)))) (.branch 92 (.branch 91 (.leaf 32) (.leaf 99)) (.branch 93 (.leaf 111) (.branch 94 (.leaf 108) (.leaf 108)))))) (.branch 104 (.branch 99 (.branch 97 (.branch 96 (.leaf 101) (.leaf 99)) (.branch 98 (.leaf 116) (.leaf 32))) (.branch 101 (.branch 100 (.leaf 111) (.leaf 98)) (.branch 102 (.leaf 106) (.branch 103 (.leaf 101) (.leaf 99))))) (.branch 109 (.branch 106 (.branch 105 (.leaf 116) (.leaf 32)) (.branch 107 (.leaf 108) (.branch 108 (.leaf 105) (.leaf 107)))) (.branch 111 (.branch 110 (.leaf 101) (.leaf 32)) (.branch 112 (.leaf 110) (.branch 113 (.leaf 105) (.leaf 108))))))) (.branch 133 (.branch 123 (.branch 118 (.branch 116 (.branch 115 (.leaf 32) (.leaf 116)) (.branch 117 (.leaf 114) (.leaf 117))) (.branch 120 (.branch 119 (.leaf 101) (.leaf 32)) (.branch 121 (.leaf 102) (.branch 122 (.leaf 97) (.leaf 108))))) (.branch 128 (.branch 125 (.branch 124 (.leaf 115) (.leaf 101)) (.branch 126 (.leaf 32) (.branch 127 (.leaf 115) (.leaf 101)))) (.branch 130 (.branch 129 (.leaf 108) (.leaf 102)) (.branch 131 (.leaf 32) (.branch 132 (.leaf 110) (.leaf 111)))))) (.branch 142 (.branch 137 (.branch 135 (.branch 134 (.leaf 116) (.leaf 32)) (.branch 136 (.leaf 97) (.leaf 110))) (.branch 139 (.branch 138 (.leaf 100) (.leaf 32)) (.branch 140 (.leaf 111) (.branch 141 (.leaf 114) (.leaf 32))))) (.branch 147 (.branch 144 (.branch 143 (.leaf 119) (.leaf 101)) (.branch 145 (.leaf 97) (.branch 146 (.leaf 107) (.leaf 32)))) (.branch 149 (.branch 148 (.leaf 110) (.leaf 101)) (.branch 150 (.leaf 120) (.branch 151 (.leaf 116) (.leaf 32))))))))
noncomputable def xs_4 : Lean.RArray Nat := .branch 20 (.branch 10 (.branch 5 (.branch 2 (.branch 1 (.leaf 116) (.leaf 121)) (.branch 3 (.leaf 112) (.branch 4 (.leaf 101) (.leaf 32)))) (.branch 7 (.branch 6 (.leaf 122) (.leaf 101)) (.branch 8 (.leaf 114) (.branch 9 (.leaf 111) (.leaf 32))))) (.branch 15 (.branch 12 (.branch 11 (.leaf 115) (.leaf 108)) (.branch 13 (.leaf 111) (.branch 14 (.leaf 116) (.leaf 32)))) (.branch 17 (.branch 16 (.leaf 97) (.leaf 114)) (.branch 18 (.leaf 103) (.branch 19 (.leaf 115) (.leaf 32)))))) (.branch 30 (.branch 25 (.branch 22 (.branch 21 (.leaf 100) (.leaf 101)) (.branch 23 (.leaf 101) (.branch 24 (.leaf 112) (.leaf 32)))) (.branch 27 (.branch 26 (.leaf 102) (.leaf 117)) (.branch 28 (.leaf 108) (.branch 29 (.leaf 108) (.leaf 32))))) (.branch 35 (.branch 32 (.branch 31 (.leaf 100) (.leaf 111)) (.branch 33 (.leaf 110) (.branch 34 (.leaf 101) (.leaf 32)))) (.branch 37 (.branch 36 (.leaf 98) (.leaf 117)) (.branch 38 (.leaf 115) (.branch 39 (.leaf 121) (.leaf 32))))))
noncomputable def xs_5 : Lean.RArray Nat := .branch 7 (.branch 3 (.branch 1 (.leaf 40) (.branch 2 (.leaf 41) (.leaf 123))) (.branch 5 (.branch 4 (.leaf 125) (.leaf 44)) (.branch 6 (.leaf 59) (.leaf 46)))) (.branch 11 (.branch 9 (.branch 8 (.leaf 43) (.leaf 45)) (.branch 10 (.leaf 42) (.leaf 47))) (.branch 13 (.branch 12 (.leaf 37) (.leaf 60)) (.branch 14 (.leaf 62) (.leaf 61))))
noncomputable def xstr : Lean.RArray (Nat × Lean.RArray Nat) := .branch 3 (.branch 1 (.leaf (151, xs_0)) (.branch 2 (.leaf (39, xs_1)) (.leaf (15, xs_2)))) (.branch 4 (.leaf (152, xs_3)) (.branch 5 (.leaf (40, xs_4)) (.leaf (15, xs_5))))

/-- the fields of the classes: 0 int, 1 long, 2 reference -/
def xft : Nat → List Nat := fun c => match c with
  | 0 => [2, 2, 2, 2]
  | 1 => [0, 2, 2, 2, 2, 2, 0, 0]
  | 2 => [0, 2, 2, 0]
  | 3 => [2, 2, 0]
  | 4 => [2, 2, 2, 2, 0]
  | 5 => [2, 2, 0, 0]
  | 6 => [2, 0, 0, 0, 0, 1, 0]
  | 7 => [2, 2, 2, 2, 2, 2, 2]
  | 8 => [2, 0, 0, 0, 0, 2, 2, 2, 0, 0, 2, 0, 2, 0]
  | _ => [0, 0, 0, 0, 0, 2, 2, 2, 2, 2, 2, 2, 2, 2, 0, 2, 2, 0, 0, 0, 0, 0, 0, 0, 0, 0, 0, 2, 2, 2, 2, 2, 2, 2, 2, 0, 0, 0, 2, 2, 2, 2, 2, 0, 0]
def xNest : List (String × Nat × MethodName × String) := [(RX0, 25, yX8_at, "CrossedModules"), (RX0, 94, yX8_isIn, "CrossedModules"), (RX1, 20, yX4_init, "CrossedModules"), (RX1, 45, yX8_at, "CrossedModules"), (RX1, 52, yX8_put, "CrossedModules"), (RX1, 92, yX8_isIn, "CrossedModules"), (RX2, 25, yX8_at, "CrossedModules"), (RX2, 52, yX8_put, "CrossedModules"), (RX2, 59, yX8_isIn, "CrossedModules"), (RX3, 23, yX8_at, "CrossedModules"), (RX3, 37, yX8_put, "CrossedModules"), (RX4, 28, yX8_at, "CrossedModules"), (RX4, 60, yX8_put, "CrossedModules"), (RX5, 174, yX8_isIn, "CrossedModules"), (RX5, 223, yX8_put, "CrossedModules"), (RX5, 227, yX8_isBetween, "CrossedModules"), (RX6, 36, yX8_isBetween, "CrossedModules"), (RX7, 75, yX8_at, "CrossedModules"), (RX7, 79, yX8_put, "CrossedModules"), (RX7, 110, yX8_isIn, "CrossedModules")]
def nJS : Nat := 23
def ownJS (i : Nat) : String := [RX8, RX5, RX5, RX5, RX5, RX5, RX5, RX5, RX5, RX5, RX8, RX8, RX8, RX8, RX9, RX9, RX9, RX9, RX9, RX9, RX9, RX9, RX9].getD i ""
def idxJS (i : Nat) : Nat := [369, 34, 51, 90, 96, 101, 106, 56, 61, 66, 374, 365, 339, 363, 248, 228, 177, 189, 194, 199, 233, 238, 243].getD i 0
def texJS (i : Nat) : String := ["there is no such thing", "crossed", "group", "cyclic", "dihedral", "quaternion", "product", "module", "act", "arrow", "out of range, or not as it is asked for", "no text was loaded", "there is no change to undo", "nothing is saved in this slot", "crossed", "group", "cyclic", "dihedral", "quaternion", "product", "module", "act", "arrow"].getD i ""
def lenJS : List Nat := [22, 7, 5, 6, 8, 10, 7, 6, 3, 5, 39, 18, 26, 29, 7, 5, 6, 8, 10, 7, 6, 3, 5]
def bytJS : List (List Int32) := [[116, 104, 101, 114, 101, 32, 105, 115, 32, 110, 111, 32, 115, 117, 99, 104, 32, 116, 104, 105, 110, 103], [99, 114, 111, 115, 115, 101, 100], [103, 114, 111, 117, 112], [99, 121, 99, 108, 105, 99], [100, 105, 104, 101, 100, 114, 97, 108], [113, 117, 97, 116, 101, 114, 110, 105, 111, 110], [112, 114, 111, 100, 117, 99, 116], [109, 111, 100, 117, 108, 101], [97, 99, 116], [97, 114, 114, 111, 119], [111, 117, 116, 32, 111, 102, 32, 114, 97, 110, 103, 101, 44, 32, 111, 114, 32, 110, 111, 116, 32, 97, 115, 32, 105, 116, 32, 105, 115, 32, 97, 115, 107, 101, 100, 32, 102, 111, 114], [110, 111, 32, 116, 101, 120, 116, 32, 119, 97, 115, 32, 108, 111, 97, 100, 101, 100], [116, 104, 101, 114, 101, 32, 105, 115, 32, 110, 111, 32, 99, 104, 97, 110, 103, 101, 32, 116, 111, 32, 117, 110, 100, 111], [110, 111, 116, 104, 105, 110, 103, 32, 105, 115, 32, 115, 97, 118, 101, 100, 32, 105, 110, 32, 116, 104, 105, 115, 32, 115, 108, 111, 116], [99, 114, 111, 115, 115, 101, 100], [103, 114, 111, 117, 112], [99, 121, 99, 108, 105, 99], [100, 105, 104, 101, 100, 114, 97, 108], [113, 117, 97, 116, 101, 114, 110, 105, 111, 110], [112, 114, 111, 100, 117, 99, 116], [109, 111, 100, 117, 108, 101], [97, 99, 116], [97, 114, 114, 111, 119]]
/-- a method: name, bytes, locals, what it returns, handlers, room in frames and words -/
abbrev XM : Type := MethodName × ByteArray × Nat × Option FieldType × List (Nat × Nat × Nat × Nat) × Nat × Nat
def mY (M : XM) : MethodName := M.1
def mC (M : XM) : ByteArray := M.2.1
def mL (M : XM) : Nat := M.2.2.1
def mR (M : XM) : Option FieldType := M.2.2.2.1
def mH (M : XM) : List (Nat × Nat × Nat × Nat) := M.2.2.2.2.1
def mF (M : XM) : Nat := M.2.2.2.2.2.1
def mW (M : XM) : Nat := M.2.2.2.2.2.2
/-- a word that the tables hold -/
def xIn (w : Cond) : Prop := w ∈ lw_tbl ∧ goodWord w = true

/-- the fields of the classes: 0 int, 1 long, 2 reference -/
def xft : Nat → List Nat := fun c => match c with
  | 0 => [2, 2, 2, 2]
  | 1 => [0, 2, 2, 2, 2, 2, 0, 0]
  | 2 => [0, 2, 2, 0]
  | 3 => [2, 2, 0]
  | 4 => [2, 2, 2, 2, 0]
  | 5 => [2, 2, 0, 0]
  | 6 => [2, 0, 0, 0, 0, 1, 0]
  | 7 => [2, 2, 2, 2, 2, 2, 2]
  | 8 => [2, 0, 0, 0, 0, 2, 2, 2, 0, 0, 2, 0, 2, 0]
  | 9 => [0, 0, 2, 2]
  | 20 => [2, 0]
  | 21 => [0, 0, 2, 2, 2, 2]
  | 22 => [2, 2, 2, 2, 2, 0, 0, 0]
  | 23 => [2, 0, 0, 0]
  | 24 => [2, 0, 0, 0]
  | _ => [2, 2, 2, 2]
def xNest : List (String × Nat × MethodName × String) := [(RX0, 25, yX8_at, "CrossedModules"), (RX0, 94, yX8_isIn, "CrossedModules"), (RX1, 20, yX4_init, "CrossedModules"), (RX1, 45, yX8_at, "CrossedModules"), (RX1, 52, yX8_put, "CrossedModules"), (RX1, 92, yX8_isIn, "CrossedModules"), (RX2, 25, yX8_at, "CrossedModules"), (RX2, 52, yX8_put, "CrossedModules"), (RX2, 59, yX8_isIn, "CrossedModules"), (RX3, 23, yX8_at, "CrossedModules"), (RX3, 37, yX8_put, "CrossedModules"), (RX4, 28, yX8_at, "CrossedModules"), (RX4, 60, yX8_put, "CrossedModules"), (RX5, 174, yX8_isIn, "CrossedModules"), (RX5, 223, yX8_put, "CrossedModules"), (RX5, 227, yX8_isBetween, "CrossedModules"), (RX6, 36, yX8_isBetween, "CrossedModules"), (RX7, 75, yX8_at, "CrossedModules"), (RX7, 79, yX8_put, "CrossedModules"), (RX7, 110, yX8_isIn, "CrossedModules"), (RX11, 31, yL_inverse, "CrossedModulesLaw"), (RX11, 54, yL_order, "CrossedModulesLaw"), (RX12, 73, yL_dihedral, "CrossedModulesLaw"), (RX12, 81, yL_product, "CrossedModulesLaw"), (RX12, 87, yL_quaternion, "CrossedModulesLaw"), (RX12, 96, yL_cyclic, "CrossedModulesLaw"), (RX12, 119, yL_isAbelian, "CrossedModulesLaw")]
/-- fields of nest mates, by their constants -/
def xNeF : List (String × Nat × String × String × String × String) := [(RL, 156, RX12, "many", "I", "CrossedModulesLaw"), (RL, 162, RX12, "wide", "I", "CrossedModulesLaw"), (RL, 165, RX12, "far", "I", "CrossedModulesLaw"), (RL, 172, RX12, "modules", "[LCrossedModulesLaw$Module;", "CrossedModulesLaw"), (RL, 176, RX11, "boundary", "[I", "CrossedModulesLaw"), (RL, 180, RX11, "on", "[[I", "CrossedModulesLaw"), (RL, 183, RX12, "arrows", "[LCrossedModulesLaw$Arrow;", "CrossedModulesLaw"), (RL, 187, RX9, "top", "[I", "CrossedModulesLaw"), (RL, 191, RX9, "bottom", "[I", "CrossedModulesLaw"), (RL, 193, RX12, "accounts", "[I", "CrossedModulesLaw"), (RL, 209, RX11, "high", "I", "CrossedModulesLaw"), (RL, 212, RX11, "low", "I", "CrossedModulesLaw"), (RL, 223, RX9, "to", "I", "CrossedModulesLaw"), (RL, 230, RX12, "groups", "[[[I", "CrossedModulesLaw"), (RL, 321, RX11, "down", "[[I", "CrossedModulesLaw"), (RL, 337, RX12, "text", "Ljava/lang/StringBuilder;", "CrossedModulesLaw"), (RX12, 109, RX11, "boundary", "[I", "CrossedModulesLaw"), (RX12, 116, RX11, "on", "[[I", "CrossedModulesLaw"), (RX12, 138, RX9, "top", "[I", "CrossedModulesLaw"), (RX12, 141, RX9, "bottom", "[I", "CrossedModulesLaw")]
/-- private methods of AbstractStringBuilder -/
def xPrv : List MethodName := [yJ5_ensureCapacityInternal_d00df, yJ5_newCapacity_0f7a4, yJ5_putStringAt_47b60, yJ5_inflateIfNeededFor_a7421]
def nJS : Nat := 26
def ownJS (i : Nat) : String := [RX8, RX5, RX5, RX5, RX5, RX5, RX5, RX5, RX5, RX5, RX8, RX8, RX8, RX8, RX12, RX12, RX12, RX12, RX12, RX12, RX12, RX12, RX12, RX12, RX12, RL].getD i ""
def idxJS (i : Nat) : Nat := [369, 34, 51, 90, 96, 101, 106, 56, 61, 66, 374, 365, 339, 363, 9, 58, 71, 79, 85, 91, 102, 107, 123, 131, 136, 266].getD i 0
def texJS (i : Nat) : String := ["there is no such thing", "crossed", "group", "cyclic", "dihedral", "quaternion", "product", "module", "act", "arrow", "out of range, or not as it is asked for", "no text was loaded", "there is no change to undo", "nothing is saved in this slot", "crossed", ";group g", " dihedral 3", " product ga ga", " quaternion", " cyclic ", ";module m", " g", ";act m", ";arrow a", " m", "m"].getD i ""
def lenJS : List Nat := [22, 7, 5, 6, 8, 10, 7, 6, 3, 5, 39, 18, 26, 29, 7, 8, 11, 14, 11, 8, 9, 2, 6, 8, 2, 1]
def bytJS : List (List Int32) := [[116, 104, 101, 114, 101, 32, 105, 115, 32, 110, 111, 32, 115, 117, 99, 104, 32, 116, 104, 105, 110, 103], [99, 114, 111, 115, 115, 101, 100], [103, 114, 111, 117, 112], [99, 121, 99, 108, 105, 99], [100, 105, 104, 101, 100, 114, 97, 108], [113, 117, 97, 116, 101, 114, 110, 105, 111, 110], [112, 114, 111, 100, 117, 99, 116], [109, 111, 100, 117, 108, 101], [97, 99, 116], [97, 114, 114, 111, 119], [111, 117, 116, 32, 111, 102, 32, 114, 97, 110, 103, 101, 44, 32, 111, 114, 32, 110, 111, 116, 32, 97, 115, 32, 105, 116, 32, 105, 115, 32, 97, 115, 107, 101, 100, 32, 102, 111, 114], [110, 111, 32, 116, 101, 120, 116, 32, 119, 97, 115, 32, 108, 111, 97, 100, 101, 100], [116, 104, 101, 114, 101, 32, 105, 115, 32, 110, 111, 32, 99, 104, 97, 110, 103, 101, 32, 116, 111, 32, 117, 110, 100, 111], [110, 111, 116, 104, 105, 110, 103, 32, 105, 115, 32, 115, 97, 118, 101, 100, 32, 105, 110, 32, 116, 104, 105, 115, 32, 115, 108, 111, 116], [99, 114, 111, 115, 115, 101, 100], [59, 103, 114, 111, 117, 112, 32, 103], [32, 100, 105, 104, 101, 100, 114, 97, 108, 32, 51], [32, 112, 114, 111, 100, 117, 99, 116, 32, 103, 97, 32, 103, 97], [32, 113, 117, 97, 116, 101, 114, 110, 105, 111, 110], [32, 99, 121, 99, 108, 105, 99, 32], [59, 109, 111, 100, 117, 108, 101, 32, 109], [32, 103], [59, 97, 99, 116, 32, 109], [59, 97, 114, 114, 111, 119, 32, 97], [32, 109], [109]]
/-- a method: name, bytes, locals, what it returns, handlers, room in frames and words -/
abbrev XM : Type := MethodName × ByteArray × Nat × Option FieldType × List (Nat × Nat × Nat × Nat) × Nat × Nat
def mY (M : XM) : MethodName := M.1
def mC (M : XM) : ByteArray := M.2.1
def mL (M : XM) : Nat := M.2.2.1
def mR (M : XM) : Option FieldType := M.2.2.2.1
def mH (M : XM) : List (Nat × Nat × Nat × Nat) := M.2.2.2.2.1
def mF (M : XM) : Nat := M.2.2.2.2.2.1
def mW (M : XM) : Nat := M.2.2.2.2.2.2
/-- a word that the tables hold -/
def xIn (w : Cond) : Prop := w ∈ lw_tbl ∧ goodWord w = true

/-! ===== the classes, as the claim's names print them ===== -/
def RX0 : String := "ColdStores$Chamber"
def TX0 : u_T := fun k => match k with
  | 0 => ("ColdStores$Chamber", "name", "I", false)
  | 1 => ("ColdStores$Chamber", "rows", "I", false)
  | 2 => ("ColdStores$Chamber", "columns", "I", false)
  | 3 => ("ColdStores$Chamber", "setpoint", "I", false)
  | 4 => ("ColdStores$Chamber", "doors", "I", false)
  | 5 => ("ColdStores$Chamber", "all", "I", false)
  | _ => ("ColdStores$Chamber", "firstColumn", "I", false)
def tyX0 : Nat → FieldType := fun k => match k with
  | 0 => .int
  | 1 => .int
  | 2 => .int
  | 3 => .int
  | 4 => .int
  | 5 => .int
  | _ => .int
abbrev wsX00 : List Cond := u_ws RX0 TX0 7
theorem nmX0 : ∀ a, a < 7 → ∀ b, b < 7 → a ≠ b → (TX0 a).2.1 ≠ (TX0 b).2.1 := by decide +kernel
theorem tyX0_ok : ∀ k, k < 7 → parseFieldDescriptor (TX0 k).2.2.1 = some (tyX0 k) := by decide +kernel
def RX1 : String := "ColdStores$Goods"
def TX1 : u_T := fun k => match k with
  | 0 => ("ColdStores$Goods", "number", "I", true)
  | 1 => ("ColdStores$Goods", "name", "I", false)
  | 2 => ("ColdStores$Goods", "lowest", "I", false)
  | 3 => ("ColdStores$Goods", "highest", "I", false)
  | 4 => ("ColdStores$Goods", "life", "I", false)
  | 5 => ("ColdStores$Goods", "smell", "I", false)
  | _ => ("ColdStores$Goods", "sensitivity", "I", false)
def tyX1 : Nat → FieldType := fun k => match k with
  | 0 => .int
  | 1 => .int
  | 2 => .int
  | 3 => .int
  | 4 => .int
  | 5 => .int
  | _ => .int
abbrev wsX10 : List Cond := u_ws RX1 TX1 7
theorem nmX1 : ∀ a, a < 7 → ∀ b, b < 7 → a ≠ b → (TX1 a).2.1 ≠ (TX1 b).2.1 := by decide +kernel
theorem tyX1_ok : ∀ k, k < 7 → parseFieldDescriptor (TX1 k).2.2.1 = some (tyX1 k) := by decide +kernel
def RX2 : String := "ColdStores$History"
def TX2 : u_T := fun k => match k with
  | 0 => ("ColdStores$History", "kept", "[LColdStores$Stock;", true)
  | 1 => ("ColdStores$History", "first", "I", false)
  | _ => ("ColdStores$History", "count", "I", false)
def tyX2 : Nat → FieldType := fun k => match k with
  | 0 => .array (.object "ColdStores$Stock")
  | 1 => .int
  | _ => .int
abbrev wsX20 : List Cond := u_ws RX2 TX2 3
theorem nmX2 : ∀ a, a < 3 → ∀ b, b < 3 → a ≠ b → (TX2 a).2.1 ≠ (TX2 b).2.1 := by decide +kernel
theorem tyX2_ok : ∀ k, k < 3 → parseFieldDescriptor (TX2 k).2.2.1 = some (tyX2 k) := by decide +kernel
def RX3 : String := "ColdStores$PairCounter"
def TX3 : u_T := fun k => match k with
  | 0 => ("ColdStores$PairCounter", "most", "LColdStores$Row;", true)
  | _ => ("ColdStores$PairCounter", "before", "LColdStores$Row;", true)
def tyX3 : Nat → FieldType := fun k => match k with
  | 0 => .object "ColdStores$Row"
  | _ => .object "ColdStores$Row"
abbrev wsX30 : List Cond := u_ws RX3 TX3 2
theorem nmX3 : ∀ a, a < 2 → ∀ b, b < 2 → a ≠ b → (TX3 a).2.1 ≠ (TX3 b).2.1 := by decide +kernel
theorem tyX3_ok : ∀ k, k < 2 → parseFieldDescriptor (TX3 k).2.2.1 = some (tyX3 k) := by decide +kernel
def RX4 : String := "ColdStores$Parser"
def TX4 : u_T := fun k => match k with
  | 0 => ("ColdStores$Parser", "text", "LColdStores$Row;", true)
  | 1 => ("ColdStores$Parser", "length", "I", false)
  | 2 => ("ColdStores$Parser", "kind", "I", false)
  | 3 => ("ColdStores$Parser", "start", "I", false)
  | 4 => ("ColdStores$Parser", "end", "I", false)
  | _ => ("ColdStores$Parser", "value", "I", false)
def tyX4 : Nat → FieldType := fun k => match k with
  | 0 => .object "ColdStores$Row"
  | 1 => .int
  | 2 => .int
  | 3 => .int
  | 4 => .int
  | _ => .int
abbrev wsX40 : List Cond := u_ws RX4 TX4 6
theorem nmX4 : ∀ a, a < 6 → ∀ b, b < 6 → a ≠ b → (TX4 a).2.1 ≠ (TX4 b).2.1 := by decide +kernel
theorem tyX4_ok : ∀ k, k < 6 → parseFieldDescriptor (TX4 k).2.2.1 = some (tyX4 k) := by decide +kernel
def RX5 : String := "ColdStores$Row"
def TX5 : u_T := fun k => match k with
  | _ => ("ColdStores$Row", "values", "[I", true)
def tyX5 : Nat → FieldType := fun k => match k with
  | _ => .array .int
abbrev wsX50 : List Cond := u_ws RX5 TX5 1
theorem nmX5 : ∀ a, a < 1 → ∀ b, b < 1 → a ≠ b → (TX5 a).2.1 ≠ (TX5 b).2.1 := by decide +kernel
theorem tyX5_ok : ∀ k, k < 1 → parseFieldDescriptor (TX5 k).2.2.1 = some (tyX5 k) := by decide +kernel
def RX6 : String := "ColdStores$Setup"
def TX6 : u_T := fun k => match k with
  | 0 => ("ColdStores$Setup", "goodsCount", "I", false)
  | 1 => ("ColdStores$Setup", "goods", "[LColdStores$Goods;", true)
  | 2 => ("ColdStores$Setup", "noGoods", "LColdStores$Goods;", true)
  | 3 => ("ColdStores$Setup", "chamberCount", "I", false)
  | 4 => ("ColdStores$Setup", "chambers", "[LColdStores$Chamber;", true)
  | 5 => ("ColdStores$Setup", "noChamber", "LColdStores$Chamber;", true)
  | 6 => ("ColdStores$Setup", "orderCount", "I", false)
  | 7 => ("ColdStores$Setup", "orderGoods", "LColdStores$Row;", true)
  | 8 => ("ColdStores$Setup", "orderPallets", "LColdStores$Row;", true)
  | 9 => ("ColdStores$Setup", "orderDays", "LColdStores$Row;", true)
  | 10 => ("ColdStores$Setup", "palletCount", "I", false)
  | 11 => ("ColdStores$Setup", "pallets", "LColdStores$Row;", true)
  | 12 => ("ColdStores$Setup", "heatLimit", "I", false)
  | 13 => ("ColdStores$Setup", "taintLimit", "I", false)
  | 14 => ("ColdStores$Setup", "quay", "I", false)
  | 15 => ("ColdStores$Setup", "hasLimits", "Z", false)
  | _ => ("ColdStores$Setup", "hasQuay", "Z", false)
def tyX6 : Nat → FieldType := fun k => match k with
  | 0 => .int
  | 1 => .array (.object "ColdStores$Goods")
  | 2 => .object "ColdStores$Goods"
  | 3 => .int
  | 4 => .array (.object "ColdStores$Chamber")
  | 5 => .object "ColdStores$Chamber"
  | 6 => .int
  | 7 => .object "ColdStores$Row"
  | 8 => .object "ColdStores$Row"
  | 9 => .object "ColdStores$Row"
  | 10 => .int
  | 11 => .object "ColdStores$Row"
  | 12 => .int
  | 13 => .int
  | 14 => .int
  | 15 => .boolean
  | _ => .boolean
abbrev wsX60 : List Cond := u_ws RX6 TX6 17
theorem nmX6 : ∀ a, a < 17 → ∀ b, b < 17 → a ≠ b → (TX6 a).2.1 ≠ (TX6 b).2.1 := by decide +kernel
theorem tyX6_ok : ∀ k, k < 17 → parseFieldDescriptor (TX6 k).2.2.1 = some (tyX6 k) := by decide +kernel
def RX7 : String := "ColdStores$Stock"
def TX7 : u_T := fun k => match k with
  | 0 => ("ColdStores$Stock", "setup", "LColdStores$Setup;", true)
  | 1 => ("ColdStores$Stock", "day", "I", false)
  | 2 => ("ColdStores$Stock", "palletCount", "I", false)
  | 3 => ("ColdStores$Stock", "goods", "LColdStores$Row;", true)
  | 4 => ("ColdStores$Stock", "states", "LColdStores$Row;", true)
  | 5 => ("ColdStores$Stock", "chambers", "LColdStores$Row;", true)
  | 6 => ("ColdStores$Stock", "cells", "LColdStores$Row;", true)
  | 7 => ("ColdStores$Stock", "arrivals", "LColdStores$Row;", true)
  | 8 => ("ColdStores$Stock", "ends", "LColdStores$Row;", true)
  | 9 => ("ColdStores$Stock", "heats", "LColdStores$Row;", true)
  | 10 => ("ColdStores$Stock", "taintings", "LColdStores$Row;", true)
  | 11 => ("ColdStores$Stock", "waitingCount", "I", false)
  | 12 => ("ColdStores$Stock", "waiting", "LColdStores$Row;", true)
  | 13 => ("ColdStores$Stock", "setpoints", "LColdStores$Row;", true)
  | 14 => ("ColdStores$Stock", "warmings", "LColdStores$Row;", true)
  | 15 => ("ColdStores$Stock", "openings", "LColdStores$Row;", true)
  | _ => ("ColdStores$Stock", "served", "LColdStores$Row;", true)
def tyX7 : Nat → FieldType := fun k => match k with
  | 0 => .object "ColdStores$Setup"
  | 1 => .int
  | 2 => .int
  | 3 => .object "ColdStores$Row"
  | 4 => .object "ColdStores$Row"
  | 5 => .object "ColdStores$Row"
  | 6 => .object "ColdStores$Row"
  | 7 => .object "ColdStores$Row"
  | 8 => .object "ColdStores$Row"
  | 9 => .object "ColdStores$Row"
  | 10 => .object "ColdStores$Row"
  | 11 => .int
  | 12 => .object "ColdStores$Row"
  | 13 => .object "ColdStores$Row"
  | 14 => .object "ColdStores$Row"
  | 15 => .object "ColdStores$Row"
  | _ => .object "ColdStores$Row"
abbrev wsX70 : List Cond := u_ws RX7 TX7 17
theorem nmX7 : ∀ a, a < 17 → ∀ b, b < 17 → a ≠ b → (TX7 a).2.1 ≠ (TX7 b).2.1 := by decide +kernel
theorem tyX7_ok : ∀ k, k < 17 → parseFieldDescriptor (TX7 k).2.2.1 = some (tyX7 k) := by decide +kernel
def RX8 : String := "ColdStores$TextWriter"
def TX8 : u_T := fun k => match k with
  | 0 => ("ColdStores$TextWriter", "length", "I", false)
  | 1 => ("ColdStores$TextWriter", "wanted", "I", false)
  | _ => ("ColdStores$TextWriter", "found", "I", false)
def tyX8 : Nat → FieldType := fun k => match k with
  | 0 => .int
  | 1 => .int
  | _ => .int
abbrev wsX80 : List Cond := u_ws RX8 TX8 3
theorem nmX8 : ∀ a, a < 3 → ∀ b, b < 3 → a ≠ b → (TX8 a).2.1 ≠ (TX8 b).2.1 := by decide +kernel
theorem tyX8_ok : ∀ k, k < 3 → parseFieldDescriptor (TX8 k).2.2.1 = some (tyX8 k) := by decide +kernel
def RX9 : String := "ColdStores"
def TX9 : u_T := fun k => match k with
  | 0 => ("ColdStores", "buffer", "LColdStores$Row;", true)
  | 1 => ("ColdStores", "length", "I", false)
  | 2 => ("ColdStores", "parser", "LColdStores$Parser;", true)
  | 3 => ("ColdStores", "writer", "LColdStores$TextWriter;", true)
  | 4 => ("ColdStores", "setup", "LColdStores$Setup;", true)
  | 5 => ("ColdStores", "draft", "LColdStores$Setup;", true)
  | 6 => ("ColdStores", "stock", "LColdStores$Stock;", true)
  | 7 => ("ColdStores", "trial", "LColdStores$Stock;", true)
  | 8 => ("ColdStores", "saved", "LColdStores$Stock;", true)
  | 9 => ("ColdStores", "hasSaved", "Z", false)
  | 10 => ("ColdStores", "history", "LColdStores$History;", true)
  | _ => ("ColdStores", "pairs", "LColdStores$PairCounter;", true)
def tyX9 : Nat → FieldType := fun k => match k with
  | 0 => .object "ColdStores$Row"
  | 1 => .int
  | 2 => .object "ColdStores$Parser"
  | 3 => .object "ColdStores$TextWriter"
  | 4 => .object "ColdStores$Setup"
  | 5 => .object "ColdStores$Setup"
  | 6 => .object "ColdStores$Stock"
  | 7 => .object "ColdStores$Stock"
  | 8 => .object "ColdStores$Stock"
  | 9 => .boolean
  | 10 => .object "ColdStores$History"
  | _ => .object "ColdStores$PairCounter"
abbrev wsX90 : List Cond := u_ws RX9 TX9 12
theorem nmX9 : ∀ a, a < 12 → ∀ b, b < 12 → a ≠ b → (TX9 a).2.1 ≠ (TX9 b).2.1 := by decide +kernel
theorem tyX9_ok : ∀ k, k < 12 → parseFieldDescriptor (TX9 k).2.2.1 = some (tyX9 k) := by decide +kernel
def RX10 : String := "ColdStoresModel"
def TX10 : u_T := fun k => match k with
  | 0 => ("ColdStoresModel", "thrown", "I", false)
  | 1 => ("ColdStoresModel", "buffer", "[I", true)
  | 2 => ("ColdStoresModel", "length", "I", false)
  | 3 => ("ColdStoresModel", "at", "I", false)
  | 4 => ("ColdStoresModel", "from", "I", false)
  | 5 => ("ColdStoresModel", "kind", "I", false)
  | 6 => ("ColdStoresModel", "number", "I", false)
  | 7 => ("ColdStoresModel", "wrong", "I", false)
  | 8 => ("ColdStoresModel", "now", "[I", true)
  | 9 => ("ColdStoresModel", "read", "[I", true)
  | 10 => ("ColdStoresModel", "aside", "[I", true)
  | 11 => ("ColdStoresModel", "hasLimits", "Z", false)
  | 12 => ("ColdStoresModel", "hasQuay", "Z", false)
  | 13 => ("ColdStoresModel", "cost", "[I", true)
  | 14 => ("ColdStoresModel", "history", "[I", true)
  | 15 => ("ColdStoresModel", "entries", "I", false)
  | 16 => ("ColdStoresModel", "saved", "[I", true)
  | 17 => ("ColdStoresModel", "isSaved", "Z", false)
  | 18 => ("ColdStoresModel", "fromStores", "I", false)
  | 19 => ("ColdStoresModel", "most", "[I", true)
  | 20 => ("ColdStoresModel", "mostNext", "[I", true)
  | 21 => ("ColdStoresModel", "written", "I", false)
  | 22 => ("ColdStoresModel", "wanted", "I", false)
  | _ => ("ColdStoresModel", "wantedByte", "I", false)
def tyX10 : Nat → FieldType := fun k => match k with
  | 0 => .int
  | 1 => .array .int
  | 2 => .int
  | 3 => .int
  | 4 => .int
  | 5 => .int
  | 6 => .int
  | 7 => .int
  | 8 => .array .int
  | 9 => .array .int
  | 10 => .array .int
  | 11 => .boolean
  | 12 => .boolean
  | 13 => .array .int
  | 14 => .array .int
  | 15 => .int
  | 16 => .array .int
  | 17 => .boolean
  | 18 => .int
  | 19 => .array .int
  | 20 => .array .int
  | 21 => .int
  | 22 => .int
  | _ => .int
abbrev wsX100 : List Cond := u_ws RX10 TX10 24
theorem nmX10 : ∀ a, a < 24 → ∀ b, b < 24 → a ≠ b → (TX10 a).2.1 ≠ (TX10 b).2.1 := by decide +kernel
theorem tyX10_ok : ∀ k, k < 24 → parseFieldDescriptor (TX10 k).2.2.1 = some (tyX10 k) := by decide +kernel
abbrev vwCl : List vw_C := [(RX0, TX0, 7), (RX1, TX1, 7), (RX2, TX2, 3), (RX3, TX3, 2), (RX4, TX4, 6), (RX5, TX5, 1), (RX6, TX6, 17), (RX7, TX7, 17), (RX8, TX8, 3), (RX9, TX9, 12), (RX10, TX10, 24)]
/-! ===== AN ABSTRACT MACHINE: the bytecode over a memory of cells that are numbered in the order in which they are made =====
A shape cell: (kind, length, codes). Kinds: 0 int[], 1 long[], 10 + c an array of references to class c, 100 + c an object of class c.
Codes (of an object's fields, of a reference array's elements): 0 a number (it stands in the contents), 1 null, n + 2 the cell n.
References: the cell's number; 1000000 the script; 2000000 + i the i-th String constant; 3000000 + i its bytes. '.float 0' nothing known, '.float 1' some object, '.float 2' some object or null. -/
abbrev zSh : Type := List (Nat × Nat × List Nat)
abbrev zI : Type := Nat → Nat → Int32
abbrev zM : Type := zSh × zI × (Nat → Nat → Int64) × Nat × (Nat → Int32)
/-- instruction, its length, three numbers, the place of its word -/
abbrev zOp : Type := Instr × Nat × Nat × Nat × Nat × Nat
abbrev zO : Type := Option Value ⊕ Nat
/-- name, code, locals, return type, handlers as the class file has them, handlers by the exception's number, class, kind (0 instance, 1 static, 2 constructor), places of its words (code, kind, selects, initialized) -/
abbrev zRec : Type := MethodName × ByteArray × Nat × Option FieldType × List (Nat × Nat × Nat × Nat) × List (Nat × Nat × Nat × Nat) × Nat × Nat × Nat × Nat × Nat × Nat
abbrev zRn (r : zRec) : MethodName := r.1
abbrev zRb (r : zRec) : ByteArray := r.2.1
abbrev zRl (r : zRec) : Nat := r.2.2.1
abbrev zRr (r : zRec) : Option FieldType := r.2.2.2.1
abbrev zRh (r : zRec) : List (Nat × Nat × Nat × Nat) := r.2.2.2.2.1
abbrev zRe (r : zRec) : List (Nat × Nat × Nat × Nat) := r.2.2.2.2.2.1
abbrev zRc (r : zRec) : Nat := r.2.2.2.2.2.2.1
abbrev zRk (r : zRec) : Nat := r.2.2.2.2.2.2.2.1
abbrev zRw0 (r : zRec) : Nat := r.2.2.2.2.2.2.2.2.1
abbrev zRw1 (r : zRec) : Nat := r.2.2.2.2.2.2.2.2.2.1
abbrev zRw2 (r : zRec) : Nat := r.2.2.2.2.2.2.2.2.2.2.1
abbrev zRw3 (r : zRec) : Nat := r.2.2.2.2.2.2.2.2.2.2.2
def zset {α : Type} (I : Nat → Nat → α) (k j : Nat) (x : α) : Nat → Nat → α := fun a b => if a = k then (if b = j then x else I a b) else I a b
def zclr {α : Type} (I : Nat → Nat → α) (k : Nat) (x : α) : Nat → Nat → α := fun a b => if a = k then x else I a b
def zcpy (I : Nat → Nat → Int32) (k0 k1 sp dp n : Nat) : Nat → Nat → Int32 := fun a b => if a = k1 then (if dp ≤ b ∧ b < dp + n then I k0 (sp + (b - dp)) else I k1 b) else I a b
def zval : Nat → Int32 → Value
  | 0, x => .int x
  | 1, _ => .null
  | n + 2, _ => .ref n
def zvin (i : Int32) (n : Nat) : Bool := !(decide (i < 0) || decide (n ≤ i.toNatClampNeg))
/-- the String constants: length and bytes -/
def zStrB : List (List Int32) := [[99, 104, 97, 109, 98, 101, 114], [100, 111, 111, 114], [103, 111, 111, 100, 115], [112, 97, 108, 108, 101, 116], [111, 114, 100, 101, 114], [108, 105, 109, 105, 116, 115], [113, 117, 97, 121]]
def zStrN : Nat := 7
def zifc {α : Type} (c : ClassFile.Cond) (x y : Int32) (t f : α) : α := match c with
  | .eq => if x = y then t else f
  | .ne => if x = y then f else t
  | .lt => if x < y then t else f
  | .ge => if y ≤ x then t else f
  | .gt => if y < x then t else f
  | .le => if x ≤ y then t else f
abbrev zCf : Type := Nat × List Value × List Value × zM
def zald (L : List Value) (i : Nat) : Option Value := match L[i]? with
  | some (.ref a) => some (.ref a)
  | some .null => some .null
  | _ => none
def zild (L : List Value) (i : Nat) : Option Value := match L[i]? with
  | some (.int x) => some (.int x)
  | _ => none
def zist (L : List Value) (i : Nat) (v : Value) : Option (List Value) := match v with
  | .int x => if i < L.length then some (L.set i (.int x)) else none
  | _ => none
def zast (L : List Value) (i : Nat) (v : Value) : Option (List Value) := match v with
  | .ref x => if i < L.length then some (L.set i (.ref x)) else none
  | .null => if i < L.length then some (L.set i .null) else none
  | .float b => if b = 1 then (if i < L.length then some (L.set i (.float 1)) else none) else none
  | _ => none
def zget (M : zM) (ci k r : Nat) : Option Value :=
  if ci < 50 then match M.1[r]? with
    | some t => if t.1 = 100 + ci then match t.2.2[k]? with
      | some c => some (zval c (M.2.1 r k))
      | none => none
      else none
    | none => none
  else if 2000000 ≤ r ∧ r < 2000000 + zStrN then (if ci = 50 then some (.ref (r + 1000000)) else some (.int 0))
  else none
def zput (M : zM) (ci k fl r : Nat) (v : Value) : Option zM := match M.1[r]? with
  | some t => if t.1 = 100 + ci then match t.2.2[k]? with
    | some c => match v with
      | .int x => if c = 0 ∧ (fl % 10 = 0 ∨ (fl % 10 = 2 ∧ (x = 0 ∨ x = 1))) then some (M.1, zset M.2.1 r k x, M.2.2) else none
      | .ref a => if c ≠ 0 ∧ a < M.1.length ∧ fl % 10 = 3 then some (M.1.set r (t.1, t.2.1, t.2.2.set k (a + 2)), M.2) else none
      | _ => none
    | none => none
    else none
  | none => none
def ziald (M : zM) (r : Nat) (i : Int32) : Option Value :=
  if r = 1000000 then (if zvin i M.2.2.2.1 then some (.int (M.2.2.2.2 i.toNatClampNeg)) else none)
  else match M.1[r]? with
    | some t => if t.1 = 0 then (if zvin i t.2.1 then some (.int (M.2.1 r i.toNatClampNeg)) else none) else none
    | none => none
def ziast (M : zM) (r : Nat) (i x : Int32) : Option zM := match M.1[r]? with
  | some t => if t.1 = 0 then (if zvin i t.2.1 then some (M.1, zset M.2.1 r i.toNatClampNeg x, M.2.2) else none) else none
  | none => none
def zlald (M : zM) (r : Nat) (i : Int32) : Option Value := match M.1[r]? with
  | some t => if t.1 = 1 then (if zvin i t.2.1 then some (.long (M.2.2.1 r i.toNatClampNeg)) else none) else none
  | none => none
def zlast (M : zM) (r : Nat) (i : Int32) (x : Int64) : Option zM := match M.1[r]? with
  | some t => if t.1 = 1 then (if zvin i t.2.1 then some (M.1, M.2.1, zset M.2.2.1 r i.toNatClampNeg x, M.2.2.2) else none) else none
  | none => none
def zbald (r : Nat) (i : Int32) : Option Value :=
  if 3000000 ≤ r ∧ r < 3000000 + zStrN then (if zvin i (zStrB.getD (r - 3000000) []).length then some (.int ((zStrB.getD (r - 3000000) []).getD i.toNatClampNeg 0)) else none) else none
def zaald (M : zM) (r : Nat) (i : Int32) : Option Value := match M.1[r]? with
  | some t => if 10 ≤ t.1 ∧ t.1 < 100 then (if zvin i t.2.1 then match t.2.2[i.toNatClampNeg]? with
    | some (n + 1) => some (zval (n + 1) 0)
    | _ => none
    else none) else none
  | none => none
def zaast (M : zM) (r : Nat) (i : Int32) (v : Nat) : Option zM := match M.1[r]? with
  | some t => if 10 ≤ t.1 ∧ t.1 < 100 then (if zvin i t.2.1 then match M.1[v]? with
    | some u => if u.1 = t.1 + 90 ∧ i.toNatClampNeg < t.2.2.length then some (M.1.set r (t.1, t.2.1, t.2.2.set i.toNatClampNeg (v + 2)), M.2) else none
    | none => none
    else none) else none
  | none => none
def zalen (M : zM) (r : Nat) : Option Value :=
  if r = 1000000 then some (.int (Int32.ofNat M.2.2.2.1))
  else if 3000000 ≤ r ∧ r < 3000000 + zStrN then some (.int (Int32.ofNat (zStrB.getD (r - 3000000) []).length))
  else match M.1[r]? with
    | some t => if t.1 < 2 ∨ (10 ≤ t.1 ∧ t.1 < 100) then some (.int (Int32.ofNat t.2.1)) else none
    | none => none
def zcopy (M : zM) (r0 : Nat) (sp : Int32) (r1 : Nat) (dp n : Int32) : Option zM := match M.1[r0]?, M.1[r1]? with
  | some t, some u => if t.1 = 0 ∧ u.1 = 0 ∧ ¬ sp < 0 ∧ ¬ dp < 0 ∧ ¬ n < 0 ∧ sp.toNatClampNeg + n.toNatClampNeg ≤ t.2.1 ∧ dp.toNatClampNeg + n.toNatClampNeg ≤ u.2.1 then some (M.1, zcpy M.2.1 r0 r1 sp.toNatClampNeg dp.toNatClampNeg n.toNatClampNeg, M.2.2) else none
  | _, _ => none
/-- Math.max, min, abs -/
def jmax (x y : Int32) : Int32 := if x < y then y else x
def jmin (x y : Int32) : Int32 := if y < x then y else x
def jabs (x : Int32) : Int32 := if 0 ≤ x then x else 0 - x
def zmth (a : Nat) (S : List Value) : Option (List Value) :=
  if a = 9990 then (match S with | .int y :: .int x :: S => if (S.map fun v => v.category).sum ≤ 8 then some (.int (jmax x y) :: S) else none | _ => none)
  else if a = 9991 then (match S with | .int y :: .int x :: S => if (S.map fun v => v.category).sum ≤ 8 then some (.int (jmin x y) :: S) else none | _ => none)
  else if a = 9992 then (match S with | .int x :: S => if (S.map fun v => v.category).sum ≤ 8 then some (.int (jabs x) :: S) else none | _ => none)
  else none
/-- an instruction that calls nothing and makes nothing -/
def zstep (op : zOp) (pc : Nat) (L S : List Value) (M : zM) : Option zCf := match op.1 with
  | .iconst v => some (pc + 1, L, .int (Int32.ofInt v) :: S, M)
  | .bipush v => some (pc + 2, L, .int (Int32.ofInt v) :: S, M)
  | .sipush v => some (pc + 3, L, .int (Int32.ofInt v) :: S, M)
  | .lconst n => some (pc + 1, L, .long (Int64.ofNat n) :: S, M)
  | .aconst_null => some (pc + 1, L, .null :: S, M)
  | .ldc _ => if op.2.2.1 = 0 then some (pc + 2, L, .int (Int32.ofNat op.2.2.2.1) :: S, M) else if op.2.2.2.1 < zStrN then some (pc + 2, L, .ref (2000000 + op.2.2.2.1) :: S, M) else none
  | .ldc_w _ => if op.2.2.1 = 0 then some (pc + 3, L, .int (Int32.ofNat op.2.2.2.1) :: S, M) else none
  | .iload i => match zild L i with | some v => some (pc + 2, L, v :: S, M) | none => none
  | .iload_n i => match zild L i with | some v => some (pc + 1, L, v :: S, M) | none => none
  | .aload i => match zald L i with | some v => some (pc + 2, L, v :: S, M) | none => none
  | .aload_n i => match zald L i with | some v => some (pc + 1, L, v :: S, M) | none => none
  | .istore i => match S with | v :: S => (match zist L i v with | some L => some (pc + 2, L, S, M) | none => none) | _ => none
  | .istore_n i => match S with | v :: S => (match zist L i v with | some L => some (pc + 1, L, S, M) | none => none) | _ => none
  | .astore i => match S with | v :: S => (match zast L i v with | some L => some (pc + 2, L, S, M) | none => none) | _ => none
  | .astore_n i => match S with | v :: S => (match zast L i v with | some L => some (pc + 1, L, S, M) | none => none) | _ => none
  | .iinc i k => match L[i]? with | some (.int x) => some (pc + 3, L.set i (.int (x + Int32.ofInt k)), S, M) | _ => none
  | .iadd => match S with | .int y :: .int x :: S => some (pc + 1, L, .int (x + y) :: S, M) | _ => none
  | .isub => match S with | .int y :: .int x :: S => some (pc + 1, L, .int (x - y) :: S, M) | _ => none
  | .imul => match S with | .int y :: .int x :: S => some (pc + 1, L, .int (x * y) :: S, M) | _ => none
  | .iand => match S with | .int y :: .int x :: S => some (pc + 1, L, .int (x &&& y) :: S, M) | _ => none
  | .ior => match S with | .int y :: .int x :: S => some (pc + 1, L, .int (x ||| y) :: S, M) | _ => none
  | .ixor => match S with | .int y :: .int x :: S => some (pc + 1, L, .int (x ^^^ y) :: S, M) | _ => none
  | .ishl => match S with | .int y :: .int x :: S => some (pc + 1, L, .int (x <<< (y &&& 31)) :: S, M) | _ => none
  | .ishr => match S with | .int y :: .int x :: S => some (pc + 1, L, .int (x >>> (y &&& 31)) :: S, M) | _ => none
  | .iushr => match S with | .int y :: .int x :: S => some (pc + 1, L, .int (x.toUInt32 >>> (y.toUInt32 &&& Int32.toUInt32 31)).toInt32 :: S, M) | _ => none
  | .ineg => match S with | .int x :: S => some (pc + 1, L, .int (-x) :: S, M) | _ => none
  | .idiv => match S with | .int y :: .int x :: S => if y = 0 then none else some (pc + 1, L, .int (x / y) :: S, M) | _ => none
  | .irem => match S with | .int y :: .int x :: S => if y = 0 then none else some (pc + 1, L, .int (x - x / y * y) :: S, M) | _ => none
  | .i2l => match S with | .int x :: S => some (pc + 1, L, .long x.toInt64 :: S, M) | _ => none
  | .i2c => match S with | .int x :: S => some (pc + 1, L, .int (x.toUInt32 % 65536).toInt32 :: S, M) | _ => none
  | .lcmp => match S with | .long y :: .long x :: S => some (pc + 1, L, .int (lg_cmp x y) :: S, M) | _ => none
  | .dup => match S with | v :: S => if v.category = 1 then some (pc + 1, L, v :: v :: S, M) else none | _ => none
  | .dup2 => match S with | v :: w :: S => if v.category = 1 ∧ w.category = 1 then some (pc + 1, L, v :: w :: v :: w :: S, M) else none | _ => none
  | .pop => match S with | v :: S => if v.category = 1 then some (pc + 1, L, S, M) else none | _ => none
  | .goto _ => some (op.2.2.1, L, S, M)
  | .ifCond c _ => match S with | .int x :: S => some (zifc c x 0 (op.2.2.1, L, S, M) (pc + 3, L, S, M)) | _ => none
  | .if_icmp c _ => match S with | .int y :: .int x :: S => some (zifc c x y (op.2.2.1, L, S, M) (pc + 3, L, S, M)) | _ => none
  | .ifnull _ => match S with | .null :: S => some (op.2.2.1, L, S, M) | .ref _ :: S => some (pc + 3, L, S, M) | _ => none
  | .ifnonnull _ => match S with | .null :: S => some (pc + 3, L, S, M) | .ref _ :: S => some (op.2.2.1, L, S, M) | _ => none
  | .tableswitch dflt lo hi offs => match S with
    | .int x :: S => if x.toInt < lo ∨ hi < x.toInt then (if 0 ≤ (pc : Int) + dflt then some (((pc : Int) + dflt).toNat, L, S, M) else none)
      else match offs[(x.toInt - lo).toNat]? with
        | some off => if 0 ≤ (pc : Int) + off then some (((pc : Int) + off).toNat, L, S, M) else none
        | none => none
    | _ => none
  | .getfield _ => match S with | .ref r :: S => (match zget M op.2.2.1 op.2.2.2.1 r with | some v => some (pc + 3, L, v :: S, M) | none => none) | _ => none
  | .putfield _ => match S with | v :: .ref r :: S => (match zput M op.2.2.1 op.2.2.2.1 op.2.2.2.2.1 r v with | some M => some (pc + 3, L, S, M) | none => none) | _ => none
  | .getstatic _ => if op.2.2.1 = 0 then some (pc + 3, L, .int 1 :: S, M) else some (pc + 3, L, .float 2 :: S, M)
  | .iaload => match S with | .int i :: .ref r :: S => (match ziald M r i with | some v => some (pc + 1, L, v :: S, M) | none => none) | _ => none
  | .laload => match S with | .int i :: .ref r :: S => (match zlald M r i with | some v => some (pc + 1, L, v :: S, M) | none => none) | _ => none
  | .baload => match S with | .int i :: .ref r :: S => (match zbald r i with | some v => some (pc + 1, L, v :: S, M) | none => none) | _ => none
  | .aaload => match S with | .int i :: .ref r :: S => (match zaald M r i with | some v => some (pc + 1, L, v :: S, M) | none => none) | _ => none
  | .iastore => match S with | .int x :: .int i :: .ref r :: S => (match ziast M r i x with | some M => some (pc + 1, L, S, M) | none => none) | _ => none
  | .lastore => match S with | .long x :: .int i :: .ref r :: S => (match zlast M r i x with | some M => some (pc + 1, L, S, M) | none => none) | _ => none
  | .aastore => match S with | .ref v :: .int i :: .ref r :: S => (match zaast M r i v with | some M => some (pc + 1, L, S, M) | none => none) | _ => none
  | .arraylength => match S with | .ref r :: S => (match zalen M r with | some v => some (pc + 1, L, v :: S, M) | none => none) | _ => none
  | .invokespecial _ => if op.2.2.1 = 9998 then (match S with | .ref _ :: S => if (S.map fun v => v.category).sum ≤ 8 then some (pc + 3, L, S, M) else none | _ => none) else none
  | .invokestatic _ => if op.2.2.1 = 9999 then (match S with | .int n :: .int dp :: .ref r1 :: .int sp :: .ref r0 :: S => if (S.map fun v => v.category).sum ≤ 8 then (match zcopy M r0 sp r1 dp n with | some M => some (pc + 3, L, S, M) | none => none) else none | _ => none) else (match zmth op.2.2.1 S with | some S => some (pc + 3, L, S, M) | none => none)
  | _ => none
def zfet (t : List (List (Option zOp))) (pc : Nat) : Option zOp := match t[pc / 32]? with
  | some c => (match c[pc % 32]? with | some (some op) => some op | _ => none)
  | none => none
/-- the fields of a fresh object: 0 a number, 1 null -/
def zfs : Nat → List Nat 
  | 0 => [0, 0, 0, 0, 0, 0, 0]
  | 1 => [0, 0, 0, 0, 0, 0, 0]
  | 2 => [1, 0, 0]
  | 3 => [1, 1]
  | 4 => [1, 0, 0, 0, 0, 0]
  | 5 => [1]
  | 6 => [0, 1, 1, 0, 1, 1, 0, 1, 1, 1, 0, 1, 0, 0, 0, 0, 0]
  | 7 => [1, 0, 0, 1, 1, 1, 1, 1, 1, 1, 1, 0, 1, 1, 1, 1, 1]
  | 8 => [0, 0, 0]
  | 9 => [1, 0, 1, 1, 1, 1, 1, 1, 1, 0, 1, 1]
  | 10 => [0, 1, 0, 0, 0, 0, 0, 0, 1, 1, 1, 0, 0, 1, 1, 0, 1, 0, 0, 1, 1, 0, 0, 0]
  | _ => []
def zhnd (hs : List (Nat × Nat × Nat × Nat)) (pc E : Nat) : Option Nat := match hs with
  | [] => none
  | h :: hs => if h.1 ≤ pc ∧ pc < h.2.1 ∧ h.2.2.2 = E then some h.2.2.1 else zhnd hs pc E
def zrok (r : Option FieldType) (x : Int32) : Bool := match r with
  | some .int => true
  | some .boolean => decide (x = 0 ∨ x = 1)
  | some .byte => decide (x.toInt8.toInt32 = x)
  | some .char => decide (x.toUInt32.toUInt16.toUInt32.toInt32 = x)
  | _ => false
def zrokA (r : Option FieldType) : Bool := match r with
  | some (.object _) => true
  | _ => false
def zrecv (M : zM) (c r : Nat) : Bool := if c < 50 then (match M.1[r]? with | some t => decide (t.1 = 100 + c) | none => false) else decide (2000000 ≤ r ∧ r < 2000000 + zStrN)
/-- what a call's operands are: the arguments (the receiver first), and the rest of the stack -/
def zarg (M : zM) (r : zRec) (n : Nat) (S : List Value) : Option (List Value × List Value) :=
  let as := (S.take n).reverse
  if S.length < n ∨ ¬ (as.all fun v => v.category == 1) = true then none
  else if zRk r = 1 then (if ((S.drop n).map fun v => v.category).sum ≤ 8 ∧ n ≤ zRl r then some (as, S.drop n) else none)
  else match S.drop n with
    | .ref b :: S => if (S.map fun v => v.category).sum ≤ 8 ∧ n + 1 ≤ zRl r ∧ zrecv M (zRc r) b = true then some (.ref b :: as, S) else none
    | _ => none
def znewI (M : zM) (a : Nat) : zM := (M.1 ++ [(100 + a, (zfs a).length, zfs a)], zclr M.2.1 M.1.length 0, M.2.2)
def znewA (M : zM) (n : Nat) : zM := (M.1 ++ [(0, n, [])], zclr M.2.1 M.1.length 0, M.2.2)
def znewL (M : zM) (n : Nat) : zM := (M.1 ++ [(1, n, [])], M.2.1, zclr M.2.2.1 M.1.length 0, M.2.2.2)
def znewQ (M : zM) (c n : Nat) : zM := (M.1 ++ [(10 + c, n, List.replicate n 1)], M.2)
def zcost (u : Nat) (r : Option (zO × zM × Nat)) : Option (zO × zM × Nat) := match r with
  | some (o, M, k) => some (o, M, u + k)
  | none => none
/-- a call: X is the machine with less fuel -/
def zinv (R : Nat → zRec) (X : Nat → Nat → Nat → List Value → List Value → zM → Option (zO × zM × Nat)) (d y pc : Nat) (L S : List Value) (M : zM) (a b : Nat) : Option (zO × zM × Nat) :=
  match (if a < 9000 then zarg M (R a) b S else none) with
  | none => none
  | some (as, S') => match d with
    | 0 => none
    | d + 1 => match X d a 0 (as ++ List.replicate (zRl (R a) - as.length) (.float 0)) [] M with
      | none => none
      | some (.inl v, M1, u) => zcost u (X (d + 1) y (pc + 3) L (v.toList ++ S') M1)
      | some (.inr E, M1, u) => match zhnd (zRe (R y)) pc E with
        | some h => zcost u (X (d + 1) y h L [.float 1] M1)
        | none => some (.inr E, M1, u)
/-- what is no plain step: returns, what makes cells, throws, calls -/
def zfin (R : Nat → zRec) (X : Nat → Nat → Nat → List Value → List Value → zM → Option (zO × zM × Nat)) (d y pc : Nat) (L S : List Value) (M : zM) (op : zOp) : Option (zO × zM × Nat) := match op.1 with
  | .return_ => match S with
    | [] => if zRr (R y) = none then some (.inl none, M, 0) else none
    | _ => none
  | .ireturn => match S with
    | [.int x] => if zrok (zRr (R y)) x = true then some (.inl (some (.int x)), M, 0) else none
    | _ => none
  | .areturn => match S with
    | [.ref a] => if zrokA (zRr (R y)) = true then some (.inl (some (.ref a)), M, 0) else none
    | [.null] => if zrokA (zRr (R y)) = true then some (.inl (some .null), M, 0) else none
    | _ => none
  | .new _ => if op.2.2.1 < 50 then (if M.1.length < 1000000 then zcost ((zfs op.2.2.1).length + 1) (X d y (pc + 3) L (.ref M.1.length :: S) (znewI M op.2.2.1)) else none)
    else if (S.map fun v => v.category).sum ≤ 8 then some (.inr (op.2.2.1 - 50), M, 6) else none
  | .newarray _ => match S with
    | .int k :: S => if k < 0 ∨ 1000000 ≤ k.toNatClampNeg ∨ 1000000 ≤ M.1.length then none
      else if op.2.2.1 = 0 then zcost (k.toNatClampNeg + 1) (X d y (pc + 2) L (.ref M.1.length :: S) (znewA M k.toNatClampNeg))
      else zcost (k.toNatClampNeg + 1) (X d y (pc + 2) L (.ref M.1.length :: S) (znewL M k.toNatClampNeg))
    | _ => none
  | .anewarray _ => match S with
    | .int k :: S => if k < 0 ∨ 1000000 ≤ k.toNatClampNeg ∨ 1000000 ≤ M.1.length then none
      else zcost (k.toNatClampNeg + 1) (X d y (pc + 3) L (.ref M.1.length :: S) (znewQ M op.2.2.1 k.toNatClampNeg))
    | _ => none
  | .invokevirtual _ => zinv R X d y pc L S M op.2.2.1 op.2.2.2.1
  | .invokespecial _ => zinv R X d y pc L S M op.2.2.1 op.2.2.2.1
  | .invokestatic _ => zinv R X d y pc L S M op.2.2.1 op.2.2.2.1
  | _ => none
/-- THE MACHINE: n steps' fuel, d calls deep, method y at pc -/
def zx (R : Nat → zRec) (T : Nat → List (List (Option zOp))) : Nat → Nat → Nat → Nat → List Value → List Value → zM → Option (zO × zM × Nat)
  | 0, _, _, _, _, _, _ => none
  | n + 1, d, y, pc, L, S, M => match zfet (T y) pc with
    | none => none
    | some op => match zstep op pc L S M with
      | some c => zx R T n d y c.1 c.2.1 c.2.2.1 c.2.2.2
      | none => zfin R (zx R T n) d y pc L S M op

/-! The small machine: its types. -/
abbrev xE : Type := Nat × List Bool × Instr × Nat × Nat × Value
abbrev xL : Type := List (Option Value)
abbrev xM : Type := Nat → Nat → Int32
abbrev xH : Type := List (Nat × Nat) × (Nat → Nat → Option Nat) × xM
def xnth {α : Type} (d : α) : List α → Nat → α
  | [], _ => d
  | a :: _, 0 => a
  | _ :: l, n + 1 => xnth d l n
def xisI (ci j : Nat) : Bool := match vwCl[ci]? with
  | some (_, T, _) => (T j).2.2.1 == "I" || (T j).2.2.1 == "Z"
  | none => false

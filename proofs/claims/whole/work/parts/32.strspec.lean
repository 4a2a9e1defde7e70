theorem lenS_le : ∀ i, lenS.getD i 0 ≤ 8
  | 0 => by decide
  | 1 => by decide
  | 2 => by decide
  | 3 => by decide
  | i + 4 => by simp [lenS]
def nmbL (c : List Nat) (i : Nat) : Nat → Nat → Bool
  | 0, _ => true
  | r + 1, t => if c.getD t 0 = chS i t then nmbL c i r (t + 1) else false
def nmB (c : List Nat) (i : Nat) : Bool := if ceN c = lenS.getD i 0 then nmbL c i (lenS.getD i 0) 0 else false
def kdL (c : List Nat) : Nat → Nat → Int32
  | 0, _ => (-6)
  | r + 1, i => if nmB c i then nI i else kdL c r (i + 1)
def kdI (c : List Nat) : Int32 := kdL c 4 0

/-! words of the state -/
def md_ic (s : Int32) : Int32 := if s = 99 then 1 else if s = 104 then 1 else 0
def md_hl (s : Int32) : Int32 := if s = 102 then 1 else if s = 120 then 1 else if s = 111 then 1 else 0
def md_hc (s : Int32) : Int32 := if s = 104 then 1 else if s = 115 then 1 else if s = 120 then 1 else 0
def okAb (kd ab : Int32) : Prop := (kd = 116 → ∃ k : Nat, k < 3 ∧ ab = nI k) ∧ (kd = 115 → ∃ k : Nat, k < 3 ∧ ab = nI k) ∧ (¬ kd = 98 → ¬ kd = 108 → ¬ kd = 115 → ¬ kd = 116 → ¬ kd = 119 → ∃ k : Nat, k < 6 ∧ ab = nI k)

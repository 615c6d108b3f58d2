/-- what the static tables hold -/
def q_tab (j i : Nat) : Int32 := (match j with
  | 0 => ([0, 2, 4, 6, -4, -4, -4, 0, 2, 1, 3, -4, -4, -4, -4] : List Int32)
  | 1 => ([1, 3, 5, 7, -4, -4, -4, 4, 6, 5, 7, -4, -4, -4, -4] : List Int32)
  | 2 => ([-4, -4, -4, -4, 0, 2, 4, -4, -4, -4, -4, 7, 9, 11, 6] : List Int32)
  | 3 => ([-4, -4, -4, -4, 1, 3, 5, -4, -4, -4, -4, 8, 10, 12, 13] : List Int32)
  | _ => ([4, 4, 5, 5, 6, 6, 14, 11, 11, 12, 12, 13, 13, 14, -4] : List Int32)).getD i 0
/-- the state at the law's entry: the tables, the script -/
def q_s0 (xs : Nat → Int32) : Sg := fun o i => if o = 105 then xs i else if 100 ≤ o ∧ o < 105 then q_tab (o - 100) i else 0
theorem q_main (xs : Nat → Int32) {L : Nat} (hL : L ≤ 2048) : ∃ σ', f_L_law L (q_s0 xs) = some (σ', 1) := sorry

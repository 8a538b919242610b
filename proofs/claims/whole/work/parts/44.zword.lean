/-- a text's number, 32 a letter -/
def sxW (i : Nat) : Int64 := (sxB.getD i []).foldl (fun v b => 32 * v + (b - 97 + 1).toInt64) 0
def mX16_wordOf (h : MHp) (i : Nat) : Option Int64 := if i < 9 then some (sxW i) else none
theorem c_X16_wordOf (l : Launch) (G : Env0) (h : MHp) (i : Nat) (res : Int64) (hh : mX16_wordOf h i = some res) : MG l yX16_wordOf cX16_wordOf 4 (some .long) 5 106 0 0 G h [.ref (G.2.2.2.2.1 i)] (some (.long res)) h := sorry

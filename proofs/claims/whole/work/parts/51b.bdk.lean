/-! THE PURE PART: small steps -/
theorem bdk {α β : Type} {o : Option α} {x : α} {f : α → Option β} {r : Option β} (e : o = some x) (k : f x = r) : o.bind f = r := by rw [e]; exact k
theorem mw_n {i : Nat} (h : i < 2000000) : mw ((i : Int) + 1) = ((i + 1 : Nat) : Int) := by rw [mw_of (by omega) (by omega)]; omega

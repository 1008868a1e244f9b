set_option maxRecDepth 100000 in
theorem pop_fin : ∀ n : Fin 1024, popC (nI n.1) = btN (nI n.1) 10 := by decide +kernel
/-- the bits of a set of words -/
theorem pop_bt {x : Int32} {n : Nat} (h : n < 1024) (hx : x = nI n) : popC x = btN x 10 := by
  subst hx
  exact pop_fin ⟨n, h⟩

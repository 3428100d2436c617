theorem zpure (xs : List Int32) (h : xs.length ≤ 2561) : ∃ (f : Nat) (h' : Zh) (cl : Bool), zrun f 144 0 [.val (.ref 0), .unset, .unset, .unset, .unset, .unset, .unset] [] [(100, xs.map Value.int)] true = some (.inl (some (.int 1)), h', cl) := by
  sorry

theorem law_ok (xs : Nat → Int32) (L : Nat) (hL : L ≤ 3584) : fL_law [] (fun _ _ => 0, fun _ _ => 0, fun _ _ => 0) xs L = some () := sorry

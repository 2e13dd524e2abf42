/-! THE LAW'S RUN on the abstract machine. -/
def gz_ (Ln : Nat) : KG := (0, fun a => if a = -4 then 20 else -1, fun a => if a = -4 then (Ln : Int) else 0, 0, 0)
def hz_ (xs : Nat → Int32) : KH := fun a j => if a = -4 then (xs j.toNat).toInt else 0
theorem law_am {xs : Nat → Int32} {Ln : Nat} (hL : Ln ≤ 3072) : Rn 2000 266 0 (mkl [xR (-4)] (mloc 266)) [] (gz_ Ln) (hz_ xs) (fun r g h => r = some (xI 1) ∧ gC g ≤ 600000 ∧ gS g ≤ 7302250) := by
  sorry

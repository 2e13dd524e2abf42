/-! THE LAW'S RUN on the abstract machine. -/
def gz_ (Ln : Nat) : KG := (0, fun a => if a = -4 then 20 else -1, fun a => if a = -4 then (Ln : Int) else 0, 0, 0)
def hz_ (xs : Nat → Int32) : KH := fun a j => if a = -4 then (xs j.toNat).toInt else 0
theorem law_am {xs : Nat → Int32} {Ln : Nat} (hL : Ln ≤ 3072) : Rn 2000 266 0 (mkl [xR (-4)] (mloc 266)) [] (gz_ Ln) (hz_ xs) (fun r g h => r = some (xI 1) ∧ gC g ≤ 600000 ∧ gS g ≤ 7302250) := by
  have em : mkl [xR (-4)] (mloc 266) = [xR (-4), xU, xU, xU] := by rfl
  have e0 : gN (gz_ Ln) = 0 := rfl
  rw [em, B266_0, e0, ga (by rw [gnK, e0, if_pos rfl])]
  refine S89 (d := 1996) (by rw [gnN, e0]; decide) (by rw [gnK, e0, if_pos rfl]) (by funext j; rw [hnv, if_pos rfl]) (fun g2 h2 n2 k2 l2 f2 c2 s2 ext => ?_)
  rw [o0, List.nil_append, B266_7, ga (by decide), n2, ga (by rw [gnK, n2, if_pos rfl])]
  refine S155 (d := 1998) (by rw [gnN, n2]; decide) (by rw [gnK, n2, if_pos rfl]) (by funext j; rw [hnv, if_pos rfl]) (fun g3 h3 k3 l3 f3 c3 s3 m3 => ?_)
  rw [o0, List.nil_append, B266_15, ga (by decide)]
  have q4 : h3 (-4) = hz_ xs (-4) := by
    rw [f3 (-4) (by decide)]
    funext j
    rw [hnv, if_neg (by decide), f2 (-4) (by decide), hnv, if_neg (by decide)]
  have I : LwI g3 h3 W00 (Ln : Int) := by
    refine ⟨ext g3 h3 ⟨fun b x y => ?_, fun b x y => ?_, fun b x y => ?_⟩, m3, ?_, ?_, by omega, fun j => ?_, ?_, ?_⟩
    · rw [k3 b (by omega), gnK, if_neg (by omega)]
    · rw [l3 b (by omega), gnL, if_neg (by omega)]
    · rw [f3 b (by omega)]
      funext j
      rw [hnv, if_neg (by omega)]
    · rw [k3 (-4) (by decide), gnK, if_neg (by omega), k2 (-4) (by decide), gnK, if_neg (by omega)]
      rfl
    · rw [l3 (-4) (by decide), gnL, if_neg (by omega), l2 (-4) (by decide), gnL, if_neg (by omega)]
      rfl
    · rw [q4]
      show -2147483648 ≤ (xs j.toNat).toInt ∧ (xs j.toNat).toInt ≤ 2147483647
      have a := Int32.le_toInt (xs j.toNat)
      have b := Int32.toInt_lt (xs j.toNat)
      omega
    · rw [c3, gnC, c2, gnC]
      show 0 + 1 + _ + 1 + _ ≤ _
      decide
    · rw [s3, gnS, s2, gnS]
      show 0 + 19 + _ + 41 + _ ≤ _
      decide
  exact law_loop (d := 1960) (fun h4 a b => ⟨rfl, a, b⟩) (Ln + 1) 0 h3 W00 I (by decide) (by omega)

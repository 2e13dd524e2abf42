/-! a part that is read: what it leaves is well made -/
theorem nmv_r {t : Int → Int} {n p : Nat} (h : kd t n p = 2) : 0 ≤ nmv t n p ∧ nmv t n p ≤ 9999 := by
  unfold nmv
  rw [if_pos h]
  unfold kd at h
  split at h
  · omega
  · rename_i h1
    split at h
    · omega
    · split at h
      · split at h
        · omega
        · rename_i h3 h4
          have r := rnt_r dgt t (n := n) (n - p) p (by omega)
          have b := dgv_r t p (rnt dgt t n p - p) (fun i hi => by
            have := r.2.2.1 (p + i) (by omega) (by omega)
            rw [dgt_i] at this
            exact this)
          have b2 := p10 (rnt dgt t n p - p) (by omega)
          omega
      · split at h <;> omega
theorem sEnd_i {t : Int → Int} {n p p2 : Nat} {L L2 : PL} (h : sEnd t n L p = .inl (L2, p2)) (hp : p ≤ n) : L2 = L ∧ p < p2 ∧ p2 ≤ n := by
  unfold sEnd at h
  split at h
  · rename_i y
    have e := Sum.inl.inj h
    have e1 := congrArg Prod.fst e
    have e2 := congrArg Prod.snd e
    have r := nxt_r t hp
    have k := r.2.2 (by have := y.1; omega)
    simp only at e1 e2
    exact ⟨e1.symm, by omega, by omega⟩
  · cases h
theorem sNum_i {t : Int → Int} {n p : Nat} {lo hi : Int} {K : Int → Nat → LRz} {z : PL × Nat} (h : sNum t n p lo hi K = .inl z) (hp : p ≤ n) : ∃ v p2, lo ≤ v ∧ v ≤ hi ∧ p < p2 ∧ p2 ≤ n ∧ K v p2 = .inl z := by
  unfold sNum at h
  split at h
  · cases h
  · rename_i y
    split at h
    · cases h
    · rename_i y2
      have r := nxt_r t hp
      have k := r.2.2 (by omega)
      exact ⟨_, _, by omega, by omega, k, r.2.1, h⟩
def rgd (c : Int) (w : Int → Int → Int) (r : Int) : Prop := (∀ a, 0 ≤ a → a < c → 0 ≤ w r a ∧ w r a ≤ 16) ∧ w r 0 + w r 1 + (if 2 < c then w r 2 else 0) + (if 3 < c then w r 3 else 0) = 16
theorem sWs_i {t : Int → Int} {n : Nat} {c R : Int} {K : (Int → Int → Int) → Nat → LRz} {z : PL × Nat} (hc : 2 ≤ c ∧ c ≤ 4) : ∀ (k : Nat) (w : Int → Int → Int) (r a s : Int) (p : Nat), 0 ≤ r → 0 ≤ a → a < c → r * c + a + k = R * c → p ≤ n → (∀ i, 0 ≤ i → i < r → rgd c w i) → (∀ i, 0 ≤ i → i < a → 0 ≤ w r i ∧ w r i ≤ 16) → s = (if 0 < a then w r 0 else 0) + (if 1 < a then w r 1 else 0) + (if 2 < a then w r 2 else 0) → sWs t n c K k w r a s p = .inl z → ∃ w2 p2, p ≤ p2 ∧ p2 ≤ n ∧ K w2 p2 = .inl z ∧ ∀ i, 0 ≤ i → i < R → rgd c w2 i := by
  have h3 : c = 2 ∨ c = 3 ∨ c = 4 := by omega
  intro k
  induction k with
  | zero =>
    intro w r a s p r0 a0 ac hk hp g1 g2 g3 h
    unfold sWs at h
    split at h
    · split at h <;> cases h
    · refine ⟨w, p, Nat.le_refl _, hp, h, fun i i0 i1 => g1 i i0 ?_⟩
      rcases h3 with rfl | rfl | rfl <;> omega
  | succ k ih =>
    intro w r a s p r0 a0 ac hk hp g1 g2 g3 h
    unfold sWs at h
    split at h
    · split at h <;> cases h
    · rename_i y
      split at h
      · cases h
      · rename_i y2
        have q := nxt_r t hp
        have up : ∀ i j, ¬ (i = r ∧ j = a) → (fun r2 a2 => if r2 = r ∧ a2 = a then nmv t n p else w r2 a2) i j = w i j := fun i j e => if_neg e
        have uo : (fun r2 a2 => if r2 = r ∧ a2 = a then nmv t n p else w r2 a2) r a = nmv t n p := if_pos ⟨rfl, rfl⟩
        generalize (fun r2 a2 => if r2 = r ∧ a2 = a then nmv t n p else w r2 a2) = w' at *
        have g1' : ∀ i, 0 ≤ i → i < r → rgd c w' i := by
          intro i i0 i1
          have := g1 i i0 i1
          have e : w' i = w i := by funext j; exact up i j (fun e => by omega)
          unfold rgd at this ⊢
          rw [e]
          exact this
        have g2' : ∀ i, 0 ≤ i → i < a + 1 → 0 ≤ w' r i ∧ w' r i ≤ 16 := by
          intro i i0 i1
          by_cases e : i = a
          · rw [e, uo]; omega
          · rw [up r i (fun z => e z.2)]; exact g2 i i0 (by omega)
        have su : ∀ i, 0 ≤ i → i < a → w' r i = w r i := fun i i0 i1 => up r i (fun z => by omega)
        split at h
        · rename_i ea
          split at h
          · cases h
          · rename_i es
            have es : s + nmv t n p = 16 := by omega
            obtain ⟨w2, p2, b1, b2, b3, b4⟩ := ih w' (r + 1) 0 0 (nxt t n p) (by omega) (by omega) (by omega) (by rw [Int.add_mul]; omega) q.2.1 (fun i i0 i1 => by
              by_cases e : i = r
              · rw [e]
                refine ⟨fun j j0 j1 => g2' j j0 (by omega), ?_⟩
                rcases h3 with rfl | rfl | rfl
                · rw [if_neg (by decide), if_neg (by decide)]
                  obtain rfl : a = 1 := by omega
                  rw [if_pos (by decide), if_neg (by decide), if_neg (by decide)] at g3
                  rw [su 0 (by decide) (by decide), uo]; omega
                · rw [if_pos (by decide), if_neg (by decide)]
                  obtain rfl : a = 2 := by omega
                  rw [if_pos (by decide), if_pos (by decide), if_neg (by decide)] at g3
                  rw [su 0 (by decide) (by decide), su 1 (by decide) (by decide), uo]; omega
                · rw [if_pos (by decide), if_pos (by decide)]
                  obtain rfl : a = 3 := by omega
                  rw [if_pos (by decide), if_pos (by decide), if_pos (by decide)] at g3
                  rw [su 0 (by decide) (by decide), su 1 (by decide) (by decide), su 2 (by decide) (by decide), uo]; omega
              · exact g1' i i0 (by omega)) (fun i i0 i1 => by omega) (by rfl) h
            exact ⟨w2, p2, by omega, b2, b3, b4⟩
        · rename_i ea
          obtain ⟨w2, p2, b1, b2, b3, b4⟩ := ih w' r (a + 1) (s + nmv t n p) (nxt t n p) (by omega) (by omega) (by omega) (by omega) q.2.1 g1' g2' (by
            have a3 : a = 0 ∨ a = 1 ∨ a = 2 := by omega
            rcases a3 with rfl | rfl | rfl
            · simp only [if_pos (show (0 : Int) < 0 + 1 by decide), if_neg (show ¬ (1 : Int) < 0 + 1 by decide), if_neg (show ¬ (2 : Int) < 0 + 1 by decide), uo]
              simp only [if_neg (show ¬ (0 : Int) < 0 by decide), if_neg (show ¬ (1 : Int) < 0 by decide), if_neg (show ¬ (2 : Int) < 0 by decide)] at g3
              omega
            · simp only [if_pos (show (0 : Int) < 1 + 1 by decide), if_pos (show (1 : Int) < 1 + 1 by decide), if_neg (show ¬ (2 : Int) < 1 + 1 by decide), uo, su 0 (by decide) (by decide)]
              simp only [if_pos (show (0 : Int) < 1 by decide), if_neg (show ¬ (1 : Int) < 1 by decide), if_neg (show ¬ (2 : Int) < 1 by decide)] at g3
              omega
            · simp only [if_pos (show (0 : Int) < 2 + 1 by decide), if_pos (show (1 : Int) < 2 + 1 by decide), if_pos (show (2 : Int) < 2 + 1 by decide), uo, su 0 (by decide) (by decide), su 1 (by decide) (by decide)]
              simp only [if_pos (show (0 : Int) < 2 by decide), if_pos (show (1 : Int) < 2 by decide), if_neg (show ¬ (2 : Int) < 2 by decide)] at g3
              omega) h
          exact ⟨w2, p2, by omega, b2, b3, b4⟩
theorem sPart_i {t : Int → Int} {n p p2 : Nat} {L L2 : PL} (P : L.Ok) (hp : p ≤ n) (hk : kd t n p ≠ 0) (h : sPart t n L p = .inl (L2, p2)) : L2.Ok ∧ p < p2 ∧ p2 ≤ n := by
  have O := P.O
  have h6 := O.nq
  have n1 := nxt_r t hp
  have n1' := n1.2.2 hk
  have n2 := nxt_r t n1.2.1
  have n3 := nxt_r t n2.2.1
  have n4 := nxt_r t n3.2.1
  have tab : ∀ m, bit1 m → sTab t n m L p = .inl (L2, p2) → L2.Ok ∧ p < p2 ∧ p2 ≤ n := by
    intro m hm h
    unfold sTab at h
    split at h
    · cases h
    · split at h
      · cases h
      · rename_i y2
        split at h
        · cases h
        · rename_i y3
          have fr := fnd_r L.na (wdv t n (nxt t n p)) L.A.nq.toNat 0
          generalize fnd L.na (wdv t n (nxt t n p)) L.A.nq.toNat 0 = q at *
          have hq : inq L.A q := ⟨by omega, by omega⟩
          have hc := O.ch q hq
          split at h
          · split at h
            · cases h
            · split at h
              · cases h
              · rename_i y5
                have fb := fnd_r L.na (wdv t n (nxt t n (nxt t n (nxt t n p)))) q.toNat 0
                generalize fnd L.na (wdv t n (nxt t n (nxt t n (nxt t n p)))) q.toNat 0 = b at *
                have hb : inq L.A b := ⟨by omega, by have := hq.2; omega⟩
                have hcb := O.ch b hb
                have e0 : ((L.A.ch b * L.A.ch q).toNat : Int) = L.A.ch b * L.A.ch q := Int.toNat_of_nonneg (Int.mul_nonneg (by omega) (by omega))
                obtain ⟨w2, p3, b1, b2, b3, b4⟩ := sWs_i hc _ _ 0 0 0 _ (by decide) (by decide) (by omega) (R := L.A.ch b) (by rw [e0]; omega) n4.2.1 (fun i i0 i1 => by omega) (fun i i0 i1 => by omega) (by rfl) h
                obtain ⟨c1, c2, c3⟩ := sEnd_i b3 b2
                rw [c1]
                exact ⟨P.tab hm hq (Or.inr (by omega)) (fun r r0 r1 => b4 r r0 (by rw [if_neg (by omega)] at r1; exact r1)), by omega, c3⟩
          · have e0 : ((1 * L.A.ch q).toNat : Int) = 1 * L.A.ch q := Int.toNat_of_nonneg (by omega)
            obtain ⟨w2, p3, b1, b2, b3, b4⟩ := sWs_i hc _ _ 0 0 0 _ (by decide) (by decide) (by omega) (R := 1) (by rw [e0]; omega) n2.2.1 (fun i i0 i1 => by omega) (fun i i0 i1 => by omega) (by rfl) h
            obtain ⟨c1, c2, c3⟩ := sEnd_i b3 b2
            rw [c1]
            exact ⟨P.tab hm hq (Or.inl rfl) (fun r r0 r1 => b4 r r0 (by rw [if_pos rfl] at r1; exact r1)), by omega, c3⟩
  unfold sPart at h
  split at h
  · unfold sAsk at h
    split at h
    · cases h
    · split at h
      · cases h
      · split at h
        · cases h
        · obtain ⟨v, p3, v1, v2, v3, v4, v5⟩ := sNum_i h n2.2.1
          obtain ⟨c1, c2, c3⟩ := sEnd_i v5 v4
          rw [c1]
          exact ⟨P.addq (by omega) ⟨v1, v2⟩, by omega, c3⟩
  · split at h
    · exact tab 0 (Or.inl rfl) h
    · split at h
      · exact tab 1 (Or.inr rfl) h
      · split at h
        · unfold sDoor at h
          split at h
          · cases h
          · obtain ⟨v, p3, v1, v2, v3, v4, v5⟩ := sNum_i h n1.2.1
            obtain ⟨u, p4, u1, u2, u3, u4, u5⟩ := sNum_i v5 v4
            obtain ⟨c1, c2, c3⟩ := sEnd_i u5 u4
            rw [c1]
            exact ⟨P.addd (by omega) ⟨v1, v2⟩ ⟨u1, u2⟩, by omega, c3⟩
        · split at h
          · unfold sWalk at h
            split at h
            · cases h
            · obtain ⟨v, p3, v1, v2, v3, v4, v5⟩ := sNum_i h n1.2.1
              obtain ⟨c1, c2, c3⟩ := sEnd_i v5 v4
              rw [c1]
              exact ⟨P.walk ⟨v1, v2⟩, by omega, c3⟩
          · split at h
            · unfold sCards at h
              split at h
              · cases h
              · obtain ⟨v, p3, v1, v2, v3, v4, v5⟩ := sNum_i h n1.2.1
                obtain ⟨u, p4, u1, u2, u3, u4, u5⟩ := sNum_i v5 v4
                obtain ⟨c1, c2, c3⟩ := sEnd_i u5 u4
                rw [c1]
                exact ⟨P.cards ⟨v1, v2⟩ ⟨u1, u2⟩, by omega, c3⟩
            · cases h
theorem sLand_i {t : Int → Int} {n : Nat} : ∀ (k : Nat) (L : PL) (p : Nat), L.Ok → p ≤ n → ∀ L2, sLand t n k L p = .inl L2 → L2.Ok := by
  intro k
  induction k with
  | zero =>
    intro L p P hp L2 h
    unfold sLand at h
    rw [← Sum.inl.inj h]
    exact P
  | succ k ih =>
    intro L p P hp L2 h
    unfold sLand at h
    split at h
    · rw [← Sum.inl.inj h]
      exact P
    · rename_i hk
      split at h
      · cases h
      · rename_i L3 p3 e
        have i := sPart_i P hp hk e
        exact ih L3 p3 i.1 i.2.2 L2 h

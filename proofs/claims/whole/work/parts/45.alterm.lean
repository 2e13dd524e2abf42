/-! alter on the model's side -/
theorem C211 {W : Wd} {s q a : Int} : Mw 211 [xR 138, xI s, xI q, xI a] 3 W (W.alter s q a) := by
  intro g h C O d Q hQ
  have K := C.1
  have M := C.2.2.cur
  have hn := O.nq
  have hn2 := O.ns
  rw [E211, ga K.k0, S200 K M]
  have no : ¬ ((0 ≤ s ∧ s < W.cur.ns) ∧ (0 ≤ q ∧ q < W.cur.nq) ∧ 0 ≤ a ∧ a < W.cur.ch q) → Rn (d + 2) 211 29 [xR 138, xI s, xI q, xI a] [] g h Q := by
    intro z
    unfold Wd.alter at hQ
    rw [if_neg z] at hQ
    simp only [E211, B211_5, B211_13, B211_26, B211_29, B211_34, B211_70, B211_75, o1, o0, List.cons_append, List.nil_append, ite_not, bzF, bzT, if_true, if_false, ↓reduceIte, Int.reduceEq, Int.reduceLE, Int.reduceLT, Int.reduceNeg, ne_eq, not_true_eq_false, not_false_eq_true, and_self, and_true, true_and, and_false, false_and, eq_self, K.k0, S160 (k := K.k0), S161 (k := K.k0), S162 (k := K.k0), g01]
    exact mst C hQ
  by_cases hs : 0 ≤ s ∧ s < W.cur.ns
  · rw [bzt hs]
    simp only [B211_5, o1, o0, List.cons_append, List.nil_append, ite_not, bzF, bzT, if_true, if_false, ↓reduceIte, Int.reduceEq, Int.reduceLE, Int.reduceLT, Int.reduceNeg, ne_eq, not_true_eq_false, not_false_eq_true, and_self, and_true, true_and, and_false, false_and, eq_self, K.k0, S199 K M]
    by_cases hq : 0 ≤ q ∧ q < W.cur.nq
    · rw [bzt hq]
      simp only [B211_13, o1, o0, List.cons_append, List.nil_append, ite_not, bzF, bzT, if_true, if_false, ↓reduceIte, Int.reduceEq, Int.reduceLE, Int.reduceLT, Int.reduceNeg, ne_eq, not_true_eq_false, not_false_eq_true, and_self, and_true, true_and, and_false, false_and, eq_self, K.k0, S204 K M O hq]
      by_cases h0 : a < 0
      · rw [if_pos h0]; exact no (fun z => by omega)
      · rw [if_neg h0, B211_26]
        by_cases h1 : a < W.cur.ch q
        · rw [if_pos h1]
          have hch := O.ch q hq
          have hp := O.pa s hs
          unfold Wd.alter at hQ
          rw [if_pos ⟨hs, hq, by omega, h1⟩] at hQ
          have z0 : ∀ x, (hset h 139 x a) 138 = h 138 := fun x => hset_a _ _ _ (by decide)
          simp (disch := omega) only [B211_70, B211_75, o1, o0, List.cons_append, List.nil_append, ite_not, bzF, bzT, if_true, if_false, ↓reduceIte, Int.reduceEq, Int.reduceLE, Int.reduceLT, Int.reduceNeg, ne_eq, not_true_eq_false, not_false_eq_true, and_self, and_true, true_and, and_false, false_and, eq_self, K.k0, K.pat, K.kat, K.lat, z0, S160 (k := K.k0), S161 (k := K.k0), S162 (k := K.k0), w32_id, g11, ga]
          have U := C.sheet (h2 := hset (hset (hset h 139 (250 + 13 * s + 7 + q) a) 139 (250 + 13 * s + 5) 0) 138 1 0) O (ns := W.cur.ns) (ask := W.cur.ask) (dr := W.cur.dr) (fr := W.cur.fr) (tt := W.cur.tt) (pa := kset W.cur.pa s (wa (W.cur.pa s) q a)) (cd := W.cur.cd) (tr := kset W.cur.tr s 0) (hf := W.cur.hf) hn2.2 (fun x _ _ _ => by rw [hset_a _ _ _ (by omega), hset_a _ _ _ (by omega), hset_a _ _ _ (by omega)]) (fun j hj => by rw [hset_i _ _ hj.1, hset_a _ _ _ (by decide), hset_a _ _ _ (by decide)]) (fun j hj => by rw [hset_a _ _ _ (by decide), hset_i _ _ (by omega), hset_i _ _ (by omega)]) (by rw [hset_a _ _ _ (by decide), hset_i _ _ (by omega), hset_i _ _ (by omega)]; exact M.ns)
            (fun i i0 i1 => by rw [hset_a _ _ _ (by decide), hset_i _ _ (by omega), hset_i _ _ (by omega)]; exact M.ask i ⟨i0, i1⟩) (fun i i0 i1 => by rw [hset_a _ _ _ (by decide), hset_i _ _ (by omega), hset_i _ _ (by omega)]; exact M.dr i ⟨i0, i1⟩) (fun i i0 i1 => by rw [hset_a _ _ _ (by decide), hset_i _ _ (by omega), hset_i _ _ (by omega)]; exact M.fr i ⟨i0, i1⟩) (fun i i0 i1 => by rw [hset_a _ _ _ (by decide), hset_i _ _ (by omega), hset_i _ _ (by omega)]; exact M.tt i ⟨i0, i1⟩)
            (fun i i0 i1 => by rw [hset_a _ _ _ (by decide), hset_i _ _ (by omega), hset_i _ _ (by omega)]; exact M.cd i ⟨i0, i1⟩)
            (fun i i0 i1 => by
              rw [hset_a _ _ _ (by decide)]
              unfold kset
              by_cases hi : i = s
              · rw [if_pos hi, hi, hset_e]
              · rw [if_neg hi, hset_i _ _ (by omega), hset_i _ _ (by omega)]; exact M.tr i ⟨i0, i1⟩)
            (fun i i0 i1 h3 => by
              unfold kset at h3
              by_cases hi : i = s
              · rw [if_pos hi] at h3; exact absurd h3 (by decide)
              · rw [if_neg hi] at h3
                rw [hset_a _ _ _ (by decide), hset_i _ _ (by omega), hset_i _ _ (by omega)]; exact M.hf i ⟨i0, i1⟩ h3)
            (fun i k i0 i1 k0 k1 => by
              rw [hset_a _ _ _ (by decide), hset_i _ _ (by omega)]
              unfold kset
              by_cases hi : i = s
              · rw [if_pos hi]
                subst hi
                by_cases hk : k = q
                · subst hk
                  rw [hset_e, wa_e hp.1 hp.2.1 k0 (by omega) (by omega) (by omega)]
                · rw [hset_i _ _ (by omega), wa_n hp.1 hp.2.1 hq.1 (by omega) (by omega) (by omega) k0 (by omega) hk]
                  exact M.pa i k hs ⟨k0, k1⟩
              · rw [if_neg hi, hset_i _ _ (by omega)]; exact M.pa i k ⟨i0, i1⟩ ⟨k0, k1⟩)
          rw [hset_e] at U
          exact hQ _ U (fun x hx => by rw [hset_a _ _ _ (by omega), hset_a _ _ _ (by omega), hset_a _ _ _ (by omega)])
        · rw [if_neg h1]; exact no (fun z => by omega)
    · rw [bzf hq]
      simp only [B211_13, o1, o0, List.cons_append, List.nil_append, ite_not, bzF, bzT, if_true, if_false, ↓reduceIte, Int.reduceEq, Int.reduceLE, Int.reduceLT, Int.reduceNeg, ne_eq, not_true_eq_false, not_false_eq_true, and_self, and_true, true_and, and_false, false_and, eq_self]
      exact no (fun z => hq z.2.1)
  · rw [bzf hs]
    simp only [B211_5, o1, o0, List.cons_append, List.nil_append, ite_not, bzF, bzT, if_true, if_false, ↓reduceIte, Int.reduceEq, Int.reduceLE, Int.reduceLT, Int.reduceNeg, ne_eq, not_true_eq_false, not_false_eq_true, and_self, and_true, true_and, and_false, false_and, eq_self]
    exact no (fun z => hs z.1)

/-! hides, the model's loop -/
def hHM (h : KH) (W : Wd) : Option Nat → Prop
  | none => h 138 35 = W.hm ∧ ∀ q, 0 ≤ q → q < W.hm → h 152 q = W.hd q
  | some j => h 138 35 = W.cur.nq ∧ ∀ q, 0 ≤ q → q < W.cur.nq → h 152 q = dg (W.cur.rk j) q
def St.rb (A : St) (s : Int) : Option Nat → Int
  | none => -1
  | some j => A.rd s j
theorem MR.hmk {g : KG} {h h2 : KH} {W : Wd} {p : Int} (C : MR g h W) (e : ∀ a, 139 ≤ a → a < 147 → h2 a = h a) (e0 : ∀ j, (j ≠ 1 ∧ j ≠ 26 ∧ j ≠ 27 ∧ j ≠ 30 ∧ j ≠ 35) → h2 138 j = h 138 j) (s0 : h2 138 1 = 0) (s1 : h2 138 35 = W.cur.nq) (s2 : ∀ q, 0 ≤ q → q < W.cur.nq → h2 152 q = dg p q) : MR g h2 (W.hmk p) := by
  obtain ⟨K, X, D⟩ := C
  exact ⟨K.keep (fun j hj => e0 j (by omega)), ⟨s0, by rw [e0 2 (by decide)]; exact X.top, by rw [e0 3 (by decide)]; exact X.bot, by rw [e0 9 (by decide)]; exact X.fed, by rw [e0 15 (by decide)]; exact X.fk, by rw [e0 16 (by decide)]; exact X.fp, s1, by rw [e0 38 (by decide)]; exact X.fs, by rw [e0 40 (by decide)]; exact X.nmk⟩, ⟨by rw [e 141 (by decide) (by decide)]; exact D.tm, by rw [e 140 (by decide) (by decide)]; exact D.ts, by rw [e 142 (by decide) (by decide)]; exact D.tv, by rw [e 143 (by decide) (by decide)]; exact D.tp, s2, by rw [e 139 (by decide) (by decide)]; exact D.cur, by rw [e 139 (by decide) (by decide)]; exact D.mk⟩⟩
theorem C251 {W : Wd} (hW : W.hm = -1 ∨ (0 ≤ W.hm ∧ W.hm ≤ 6)) {u s : Int} : Mw 251 [xR 138, xI u, xI s] 9 W (W.hides u s) := by
  intro g h C O d Q hQ
  have K := C.1
  have M := C.2.2.cur
  unfold Wd.hides at hQ
  have h6 := O.nq
  have h16 := O.ns
  have g0 : gK g 139 = 20 ∧ 0 ≤ (0 : Int) ∧ (0 : Int) < gL g 139 := ⟨K.kat, by decide, by rw [K.lat]; decide⟩
  have no : ¬ ((0 ≤ u ∧ u < W.cur.nr) ∧ 0 ≤ s ∧ s < W.cur.ns) → Rn (d + 8) 251 16 [xR 138, xI u, xI s, xU, xU, xU, xU, xU, xU, xU] [] g h Q := by
    intro z
    rw [if_neg z] at hQ
    rw [B251_16, ga K.k0]
    simp only [S160 (k := K.k0), S161 (k := K.k0), S162 (k := K.k0), o1, o0, List.cons_append, List.nil_append, B251_21]
    exact mst C hQ
  rw [E251, ga K.k0, S248 K M]
  by_cases hu : 0 ≤ u ∧ u < W.cur.nr
  · rw [bzt hu, o1, List.cons_append, List.nil_append, B251_5, if_neg (by decide), ga K.k0, S200 K M]
    by_cases hs : 0 ≤ s ∧ s < W.cur.ns
    · rw [if_pos ⟨hu, hs⟩] at hQ
      have hb := nrw_r O W.cur.nq.toNat 0 (by omega)
      have h46 := p46 (n := W.cur.nq.toNat) (by omega)
      have hsi : ins W.cur s := hs
      have gw : ∀ j, 0 ≤ j → j < 6 → gK g 151 = 20 ∧ 0 ≤ j ∧ j < gL g 151 := fun j j0 j1 => ⟨K.k151, j0, by rw [K.l151]; exact j1⟩
      have gr : ∀ j, 0 ≤ j → j < 6 → gK g 149 = 20 ∧ 0 ≤ j ∧ j < gL g 149 := fun j j0 j1 => ⟨K.k149, j0, by rw [K.l149]; exact j1⟩
      have gt : ∀ j, 0 ≤ j → j < 4500 → gK g 139 = 20 ∧ 0 ≤ j ∧ j < gL g 139 := fun j j0 j1 => ⟨K.kat, j0, by rw [K.lat]; exact j1⟩
      rw [bzt hs, o1, List.cons_append, List.nil_append, B251_13, if_pos (by decide), ga K.k0, K.pat, ga g0, M.nq, E215, w32_id (x := 13 * s) (by omega) (by omega), w32_id (x := 250 + 13 * s) (by omega) (by omega), w32_id (by omega) (by omega), o1, List.cons_append, List.nil_append, B251_33, show 250 + 13 * s + 7 = 257 + 13 * s by omega]
      -- the loop over rows
      have loop : ∀ n k : Nat, k + n = W.cur.nrw W.cur.nq.toNat 0 → ∀ kb : Option Nat, W.cur.hI s u k kb → ∀ (h1 : KH) (x y z : KV), (∀ c, (c < 138 ∨ (138 < c ∧ c < 147)) → h1 c = h c) → (∀ j, j ≠ 26 → j ≠ 27 → j ≠ 30 → j ≠ 35 → h1 138 j = h 138 j) → (∀ q, 0 ≤ q → q < W.cur.nq → h1 151 q = dg (W.cur.pa s) q) → hHM h1 W kb → Rn (d + 8) 251 73 [xR 138, xI u, xI s, xI W.cur.nq, xI (257 + 13 * s), xI (W.cur.rb s kb), xI (k : Int), x, y, z] [] g h1 Q := by
        intro n
        induction n with
        | zero =>
          intro k hk kb hi h1 x y z f1 t1 wv hm
          have hk : k = W.cur.nrw W.cur.nq.toNat 0 := by omega
          have K1 : MK g h1 := K.keep (fun j hj => t1 j (by omega) (by omega) (by omega) (by omega))
          have M1 : MS (h1 139) W.cur := by rw [f1 139 (Or.inr ⟨by decide, by decide⟩)]; exact M
          rw [hk] at hi
          rw [hid_of O hsi hi] at hQ
          rw [B251_73, ga K.k0]
          refine S231 K1 M1 O ?_
          rw [o1, List.cons_append, List.nil_append, B251_79, if_pos (by omega)]
          cases kb with
          | none =>
            show (if (-1 : Int) ≠ -1 then _ else _)
            rw [if_neg (fun z => z rfl), ga K.k0]
            simp only [S160 (k := K.k0), S161 (k := K.k0), S162 (k := K.k0), o1, o0, List.cons_append, List.nil_append, B251_285, B251_294]
            obtain ⟨m1, m2⟩ := hm
            have C1 : MR g h1 W := by
              obtain ⟨_, X, D⟩ := C
              exact ⟨K1, ⟨by rw [t1 1 (by decide) (by decide) (by decide) (by decide)]; exact X.stt, by rw [t1 2 (by decide) (by decide) (by decide) (by decide)]; exact X.top, by rw [t1 3 (by decide) (by decide) (by decide) (by decide)]; exact X.bot, by rw [t1 9 (by decide) (by decide) (by decide) (by decide)]; exact X.fed, by rw [t1 15 (by decide) (by decide) (by decide) (by decide)]; exact X.fk, by rw [t1 16 (by decide) (by decide) (by decide) (by decide)]; exact X.fp, m1, by rw [t1 38 (by decide) (by decide) (by decide) (by decide)]; exact X.fs, by rw [t1 40 (by decide) (by decide) (by decide) (by decide)]; exact X.nmk⟩, ⟨by rw [f1 141 (by decide)]; exact D.tm, by rw [f1 140 (by decide)]; exact D.ts, by rw [f1 142 (by decide)]; exact D.tv, by rw [f1 143 (by decide)]; exact D.tp, m2, M1, by rw [f1 139 (by decide)]; exact D.mk⟩⟩
            exact mst C1 (fun h3 a b => hQ h3 a (fun c hc => by rw [b c hc, f1 c (by omega)]))
          | some j =>
            obtain ⟨m1, m2⟩ := hm
            have rj := rd_r W.cur s j
            have hQ : ∀ h2 : KH, MR g h2 (W.hmk (W.cur.rk j)) → (∀ a, a < 138 → h2 a = h a) → Q (some (xI (W.cur.rd s j))) g h2 := hQ
            show (if W.cur.rd s j ≠ -1 then _ else _)
            rw [if_pos (by omega), ga K.k0]
            simp only [S160 (k := K.k0), S161 (k := K.k0), S162 (k := K.k0), o1, o0, List.cons_append, List.nil_append, B251_294]
            refine hQ _ (C.hmk (fun a a0 a1 => by rw [hset_a _ _ _ (by omega), f1 a (by omega)]) (fun i hi => by rw [hset_i _ _ (by omega), t1 i (by omega) (by omega) (by omega) (by omega)]) (hset_e _ _ _ _) (by rw [hset_i _ _ (by decide)]; exact m1) (by rw [hset_a _ _ _ (by decide)]; exact m2)) (fun a ha => by rw [hset_a _ _ _ (by omega), f1 a (by omega)])
        | succ n ih =>
          intro k hk kb hi h1 x y z f1 t1 wv hm
          have K1 : MK g h1 := K.keep (fun j hj => t1 j (by omega) (by omega) (by omega) (by omega))
          have M1 : MS (h1 139) W.cur := by rw [f1 139 (Or.inr ⟨by decide, by decide⟩)]; exact M
          have e1 : ((k : Int) + 1) = ((k + 1 : Nat) : Int) := by omega
          have hrow := pk_row O W.cur.nq.toNat 0 k 0 (by omega) (row_0 O) (by omega)
          have hrow : W.cur.row (W.cur.rk k) := hrow
          rw [B251_73, ga K.k0]
          refine S231 K1 M1 O ?_
          rw [o1, List.cons_append, List.nil_append, B251_79, if_neg (by omega), ga K.k0]
          refine S232 K1 M1 O (by omega) (fun h2 R2 f2 => ?_)
          obtain ⟨_, _, _, _, R5⟩ := R2
          have R5 : ∀ q, 0 ≤ q → q < W.cur.nq → h2 149 q = dg (W.cur.rk k) q := fun q q0 q1 => by have := R5 q ⟨q0, q1⟩; rw [Int.zero_add] at this; exact this
          have y138 : h2 138 = h1 138 := f2 138 (by decide)
          have K2 : MK g h2 := K1.keep (fun j _ => by rw [y138])
          have f2' : ∀ c, (c < 138 ∨ (138 < c ∧ c < 147)) → h2 c = h c := fun c hc => by rw [f2 c (by omega), f1 c hc]
          have t2' : ∀ j, j ≠ 26 → j ≠ 27 → j ≠ 30 → j ≠ 35 → h2 138 j = h 138 j := fun j j1 j2 j3 j4 => by rw [y138, t1 j j1 j2 j3 j4]
          have wv2 : ∀ q, 0 ≤ q → q < W.cur.nq → h2 151 q = dg (W.cur.pa s) q := fun q q0 q1 => by rw [f2 151 (by decide)]; exact wv q q0 q1
          have hm2 : hHM h2 W kb := by
            cases kb with
            | none => exact ⟨by rw [y138]; exact hm.1, by rw [f2 152 (by decide)]; exact hm.2⟩
            | some j => exact ⟨by rw [y138]; exact hm.1, by rw [f2 152 (by decide)]; exact hm.2⟩
          -- going on with a skipped row
          have skip : ∀ (h3 : KH) (m y z : KV), W.cur.hI s u (k + 1) kb → (∀ c, (c < 138 ∨ (138 < c ∧ c < 147)) → h3 c = h c) → (∀ j, j ≠ 26 → j ≠ 27 → j ≠ 30 → j ≠ 35 → h3 138 j = h 138 j) → (∀ q, 0 ≤ q → q < W.cur.nq → h3 151 q = dg (W.cur.pa s) q) → hHM h3 W kb → ∀ a b : Int, Rn (d + 8) 251 267 [xR 138, xI u, xI s, xI W.cur.nq, xI (257 + 13 * s), xI (W.cur.rb s kb), xI (k : Int), xI a, xI b, z] [] g h3 Q := by
            intro h3 m y z hi3 f3 t3 wv3 hm3 a b
            rw [B251_267, w32_id (by omega) (by omega), e1]
            exact ih (k + 1) (by omega) kb hi3 h3 _ _ _ f3 t3 wv3 hm3
          rw [o0, List.nil_append, B251_88]
          -- counting
          have dr : dif (W.cur.rk k) (W.cur.pa s) W.cur.nq.toNat = W.cur.rd s k := dif_c _ _ _
          have rdk := rd_r W.cur s k
          -- the last copying: a new best
          have cp4 : ∀ n q : Nat, q + n = W.cur.nq.toNat → W.cur.hI s u (k + 1) (some k) → ∀ h3 : KH, (∀ c, (c < 138 ∨ (138 < c ∧ c < 147)) → h3 c = h c) → (∀ j, j ≠ 26 → j ≠ 27 → j ≠ 30 → j ≠ 35 → h3 138 j = h 138 j) → (∀ q, 0 ≤ q → q < W.cur.nq → h3 151 q = dg (W.cur.pa s) q) → (∀ q, 0 ≤ q → q < W.cur.nq → h3 149 q = dg (W.cur.rk k) q) → h3 138 35 = W.cur.nq → (∀ j, 0 ≤ j → j < (q : Int) → h3 152 j = dg (W.cur.rk k) j) → Rn (d + 8) 251 241 [xR 138, xI u, xI s, xI W.cur.nq, xI (257 + 13 * s), xI (W.cur.rd s k), xI (k : Int), xI (W.cur.rd s k), xI 0, xI (q : Int)] [] g h3 Q := by
            intro n
            induction n with
            | zero =>
              intro q hq hi3 h3 f3 t3 wv3 rv3 m3 v3
              rw [B251_241, if_pos (by omega), B251_267, w32_id (by omega) (by omega), e1]
              exact ih (k + 1) (by omega) (some k) hi3 h3 _ _ _ f3 t3 wv3 ⟨m3, fun q q0 q1 => v3 q q0 (by omega)⟩
            | succ n ic =>
              intro q hq hi3 h3 f3 t3 wv3 rv3 m3 v3
              have e2 : ((q : Int) + 1) = ((q + 1 : Nat) : Int) := by omega
              have K3 : MK g h3 := K.keep (fun j hj => t3 j (by omega) (by omega) (by omega) (by omega))
              rw [B251_241, if_neg (by omega), ga K.k0, ga K.k0, K3.p31, K3.p34, ga (gr _ (by omega) (by omega)), ga ⟨K.k152, by decide, by omega, by rw [K.l152]; omega⟩, rv3 _ (by omega) (by omega), w32_id (by omega) (by omega), e2]
              refine ic (q + 1) (by omega) hi3 _ (fun c hc => by rw [hset_a _ _ _ (by omega), f3 c hc]) (fun j j1 j2 j3 j4 => by rw [hset_a _ _ _ (by decide), t3 j j1 j2 j3 j4]) (fun q q0 q1 => by rw [hset_a _ _ _ (by decide)]; exact wv3 q q0 q1) (fun q q0 q1 => by rw [hset_a _ _ _ (by decide)]; exact rv3 q q0 q1) (by rw [hset_a _ _ _ (by decide)]; exact m3) (fun j j0 j1 => ?_)
              by_cases hj : j = q
              · rw [hj, hset_e]
              · rw [hset_i _ _ hj]; exact v3 j j0 (by omega)
          -- putting the own answers back
          have cp3 : ∀ n q : Nat, q + n = W.cur.nq.toNat → (∀ j, kb = some j → W.cur.rd s k < W.cur.rd s j) → ∀ h3 : KH, (∀ c, (c < 138 ∨ (138 < c ∧ c < 147)) → c ≠ 139 → h3 c = h c) → (∀ j, (¬ (257 + 13 * s ≤ j ∧ j < 257 + 13 * s + W.cur.nq) ∨ (257 + 13 * s ≤ j ∧ j < 257 + 13 * s + q)) → h3 139 j = h 139 j) → (∀ j, j ≠ 26 → j ≠ 27 → j ≠ 30 → j ≠ 35 → h3 138 j = h 138 j) → (∀ q, 0 ≤ q → q < W.cur.nq → h3 151 q = dg (W.cur.pa s) q) → (∀ q, 0 ≤ q → q < W.cur.nq → h3 149 q = dg (W.cur.rk k) q) → hHM h3 W kb → Rn (d + 8) 251 192 [xR 138, xI u, xI s, xI W.cur.nq, xI (257 + 13 * s), xI (W.cur.rb s kb), xI (k : Int), xI (W.cur.rd s k), xI (bz (W.cur.flg s (W.cur.rk k) u = true)), xI (q : Int)] [] g h3 Q := by
            intro n
            induction n with
            | zero =>
              intro q hq hlt h3 f3 a3 t3 wv3 rv3 hm3
              have f3' : ∀ c, (c < 138 ∨ (138 < c ∧ c < 147)) → h3 c = h c := fun c hc => by
                by_cases e : c = 139
                · rw [e]; funext j; exact a3 j (by omega)
                · exact f3 c hc e
              rw [B251_192, if_pos (by omega)]
              by_cases hf : W.cur.flg s (W.cur.rk k) u = true
              · rw [bzt hf, if_neg (by decide)]
                exact skip h3 xU xU _ (hI_seen hi hf) f3' t3 wv3 hm3 _ _
              · have hf2 : W.cur.flg s (W.cur.rk k) u = false := by cases hx : W.cur.flg s (W.cur.rk k) u; rfl; exact absurd hx hf
                rw [bzf hf, if_pos rfl, ga K.k0]
                exact cp4 W.cur.nq.toNat 0 (by omega) (hI_new hi hf2 hlt) _ (fun c hc => by rw [hset_a _ _ _ (by omega), f3' c hc]) (fun j j1 j2 j3 j4 => by rw [hset_i _ _ j4, t3 j j1 j2 j3 j4]) (fun q q0 q1 => by rw [hset_a _ _ _ (by decide)]; exact wv3 q q0 q1) (fun q q0 q1 => by rw [hset_a _ _ _ (by decide)]; exact rv3 q q0 q1) (hset_e _ _ _ _) (fun j j0 j1 => by omega)
            | succ n ic =>
              intro q hq hlt h3 f3 a3 t3 wv3 rv3 hm3
              have e2 : ((q : Int) + 1) = ((q + 1 : Nat) : Int) := by omega
              have K3 : MK g h3 := K.keep (fun j hj => t3 j (by omega) (by omega) (by omega) (by omega))
              have own : h 139 (257 + 13 * s + q) = dg (W.cur.pa s) q := by
                have := M.pa s q hsi ⟨by omega, by omega⟩
                rw [show 250 + 13 * s + 7 + (q : Int) = 257 + 13 * s + q by omega] at this
                exact this
              rw [B251_192, if_neg (by omega), ga K.k0, ga K.k0, K3.p33, K3.pat, ga (gw _ (by omega) (by omega)), w32_id (by omega) (by omega), w32_id (by omega) (by omega), ga ⟨K.kat, by decide, by omega, by rw [K.lat]; omega⟩, wv3 _ (by omega) (by omega), e2]
              refine ic (q + 1) (by omega) hlt _ (fun c hc hc2 => by rw [hset_a _ _ _ hc2, f3 c hc hc2]) (fun j hj => ?_) (fun j j1 j2 j3 j4 => by rw [hset_a _ _ _ (by decide), t3 j j1 j2 j3 j4]) (fun q q0 q1 => by rw [hset_a _ _ _ (by decide)]; exact wv3 q q0 q1) (fun q q0 q1 => by rw [hset_a _ _ _ (by decide)]; exact rv3 q q0 q1) ?_
              · by_cases e : j = 257 + 13 * s + q
                · rw [e, hset_e, own]
                · rw [hset_i _ _ e]; exact a3 j (by omega)
              · cases kb with
                | none => exact ⟨by rw [hset_a _ _ _ (by decide)]; exact hm3.1, by rw [hset_a _ _ _ (by decide)]; exact hm3.2⟩
                | some j => exact ⟨by rw [hset_a _ _ _ (by decide)]; exact hm3.1, by rw [hset_a _ _ _ (by decide)]; exact hm3.2⟩
          -- laying the row's answers in
          have cp2 : ∀ n q : Nat, q + n = W.cur.nq.toNat → (∀ j, kb = some j → W.cur.rd s k < W.cur.rd s j) → ∀ h3 : KH, ∀ z : KV, (∀ c, (c < 138 ∨ (138 < c ∧ c < 147)) → c ≠ 139 → h3 c = h c) → (∀ j, ¬ (257 + 13 * s ≤ j ∧ j < 257 + 13 * s + W.cur.nq) → h3 139 j = h 139 j) → (∀ j, 0 ≤ j → j < (q : Int) → h3 139 (257 + 13 * s + j) = dg (W.cur.rk k) j) → (∀ j, j ≠ 26 → j ≠ 27 → j ≠ 30 → j ≠ 35 → h3 138 j = h 138 j) → (∀ q, 0 ≤ q → q < W.cur.nq → h3 151 q = dg (W.cur.pa s) q) → (∀ q, 0 ≤ q → q < W.cur.nq → h3 149 q = dg (W.cur.rk k) q) → hHM h3 W kb → Rn (d + 8) 251 152 [xR 138, xI u, xI s, xI W.cur.nq, xI (257 + 13 * s), xI (W.cur.rb s kb), xI (k : Int), xI (W.cur.rd s k), xI (q : Int), z] [] g h3 Q := by
            intro n
            induction n with
            | zero =>
              intro q hq hlt h3 z f3 a3 b3 t3 wv3 rv3 hm3
              have K3 : MK g h3 := K.keep (fun j hj => t3 j (by omega) (by omega) (by omega) (by omega))
              have OA : (W.cur.setp s (W.cur.rk k)).Ok := O.setp hrow
              have MA : MS (h3 139) (W.cur.setp s (W.cur.rk k)) := M.setp O hsi a3 (fun q q0 q1 => b3 q q0 (by omega))
              have sA : ins (W.cur.setp s (W.cur.rk k)) s := hs
              rw [B251_152, if_pos (by omega), ga K.k0]
              refine S247 K3 MA OA sA hu (fun h4 f4 t4 => ?_)
              have ep : (W.cur.setp s (W.cur.rk k)).pa s = W.cur.rk k := by show kset W.cur.pa s (W.cur.rk k) s = _; exact if_pos rfl
              rw [ep, flg_setp, o1, List.cons_append, List.nil_append, B251_187]
              refine cp3 W.cur.nq.toNat 0 (by omega) hlt h4 (fun c hc hc2 => by rw [f4 c (by omega) (by omega) (by omega), f3 c hc hc2]) (fun j hj => by rw [f4 139 (by decide) (by decide) (by decide)]; exact a3 j (by omega)) (fun j j1 j2 j3 j4 => by rw [t4 j j1 j2 j3, t3 j j1 j2 j3 j4]) (fun q q0 q1 => by rw [f4 151 (by decide) (by decide) (by decide)]; exact wv3 q q0 q1) (fun q q0 q1 => by rw [f4 149 (by decide) (by decide) (by decide)]; exact rv3 q q0 q1) ?_
              cases kb with
              | none => exact ⟨by rw [t4 35 (by decide) (by decide) (by decide)]; exact hm3.1, by rw [f4 152 (by decide) (by decide) (by decide)]; exact hm3.2⟩
              | some j => exact ⟨by rw [t4 35 (by decide) (by decide) (by decide)]; exact hm3.1, by rw [f4 152 (by decide) (by decide) (by decide)]; exact hm3.2⟩
            | succ n ic =>
              intro q hq hlt h3 z f3 a3 b3 t3 wv3 rv3 hm3
              have e2 : ((q : Int) + 1) = ((q + 1 : Nat) : Int) := by omega
              have K3 : MK g h3 := K.keep (fun j hj => t3 j (by omega) (by omega) (by omega) (by omega))
              rw [B251_152, if_neg (by omega), ga K.k0, ga K.k0, K3.p31, K3.pat, ga (gr _ (by omega) (by omega)), w32_id (by omega) (by omega), w32_id (by omega) (by omega), ga ⟨K.kat, by decide, by omega, by rw [K.lat]; omega⟩, rv3 _ (by omega) (by omega), e2]
              refine ic (q + 1) (by omega) hlt _ z (fun c hc hc2 => by rw [hset_a _ _ _ hc2, f3 c hc hc2]) (fun j hj => by rw [hset_i _ _ (by omega)]; exact a3 j hj) (fun j j0 j1 => ?_) (fun j j1 j2 j3 j4 => by rw [hset_a _ _ _ (by decide), t3 j j1 j2 j3 j4]) (fun q q0 q1 => by rw [hset_a _ _ _ (by decide)]; exact wv3 q q0 q1) (fun q q0 q1 => by rw [hset_a _ _ _ (by decide)]; exact rv3 q q0 q1) ?_
              · by_cases e : j = q
                · rw [e, hset_e]
                · rw [hset_i _ _ (by omega)]; exact b3 j j0 (by omega)
              · cases kb with
                | none => exact ⟨by rw [hset_a _ _ _ (by decide)]; exact hm3.1, by rw [hset_a _ _ _ (by decide)]; exact hm3.2⟩
                | some j => exact ⟨by rw [hset_a _ _ _ (by decide)]; exact hm3.1, by rw [hset_a _ _ _ (by decide)]; exact hm3.2⟩
          have cnt : ∀ n q : Nat, q + n = W.cur.nq.toNat → ∀ z : KV, Rn (d + 8) 251 94 [xR 138, xI u, xI s, xI W.cur.nq, xI (257 + 13 * s), xI (W.cur.rb s kb), xI (k : Int), xI (dif (W.cur.rk k) (W.cur.pa s) q), xI (q : Int), z] [] g h2 Q := by
            intro n
            induction n with
            | zero =>
              intro q hq z
              have hq : q = W.cur.nq.toNat := by omega
              rw [B251_94, if_pos (by omega), hq, dr]
              have st : (∀ j, kb = some j → W.cur.rd s k < W.cur.rd s j) → Rn (d + 8) 251 149 [xR 138, xI u, xI s, xI W.cur.nq, xI (257 + 13 * s), xI (W.cur.rb s kb), xI (k : Int), xI (W.cur.rd s k), xI ((W.cur.nq.toNat : Nat) : Int), z] [] g h2 Q := by
                intro hlt
                rw [B251_149]
                exact cp2 W.cur.nq.toNat 0 (by omega) hlt h2 _ (fun c hc _ => f2' c hc) (fun j _ => by rw [f2' 139 (by decide)]) (fun j j0 j1 => by omega) t2' wv2 R5 hm2
              cases kb with
              | none =>
                show (if (-1 : Int) = -1 then _ else _)
                rw [if_pos rfl]
                exact st (fun j hj => by cases hj)
              | some j =>
                have rj := rd_r W.cur s j
                show (if W.cur.rd s j = -1 then _ else if W.cur.rd s k < W.cur.rd s j then _ else _)
                rw [if_neg (by omega)]
                by_cases hlt : W.cur.rd s k < W.cur.rd s j
                · rw [if_pos hlt]
                  exact st (fun i hi => by rw [← Option.some.inj hi]; exact hlt)
                · rw [if_neg hlt]
                  exact skip h2 xU xU _ (hI_skip hi (by omega)) f2' t2' wv2 hm2 _ _
            | succ n ic =>
              intro q hq z
              have e2 : ((q : Int) + 1) = ((q + 1 : Nat) : Int) := by omega
              have b := dif_r (W.cur.rk k) (W.cur.pa s) q
              have nx := ic (q + 1) (by omega)
              rw [dif] at nx
              rw [B251_94, if_neg (by omega), ga K.k0, K2.p31, ga (gr _ (by omega) (by omega)), ga K.k0, K2.p33, ga (gw _ (by omega) (by omega)), R5 _ (by omega) (by omega), wv2 _ (by omega) (by omega)]
              by_cases he : dg (W.cur.rk k) q = dg (W.cur.pa s) q
              · rw [if_pos he] at nx
                rw [if_pos he, B251_124, w32_id (by omega) (by omega), w32_id (by omega) (by omega), e2]
                exact nx z
              · rw [if_neg he] at nx
                rw [if_neg he, B251_124, w32_id (by omega) (by omega), w32_id (by omega) (by omega), e2]
                exact nx z
          exact cnt W.cur.nq.toNat 0 (by omega) z
      -- the own answers
      have cp1 : ∀ n q : Nat, q + n = W.cur.nq.toNat → ∀ h1 : KH, (∀ c, c ≠ 151 → h1 c = h c) → (∀ j, 0 ≤ j → j < (q : Int) → h1 151 j = dg (W.cur.pa s) j) → Rn (d + 8) 251 38 [xR 138, xI u, xI s, xI W.cur.nq, xI (257 + 13 * s), xI (q : Int), xU, xU, xU, xU] [] g h1 Q := by
        intro n
        induction n with
        | zero =>
          intro q hq h1 f1 v1
          rw [B251_38, if_pos (by omega)]
          exact loop (W.cur.nrw W.cur.nq.toNat 0) 0 (by omega) none (fun k hk => by omega) h1 _ _ _ (fun c hc => f1 c (by omega)) (fun j _ _ _ _ => by rw [f1 138 (by decide)]) (fun q q0 q1 => v1 q q0 (by omega)) ⟨by rw [f1 138 (by decide)]; exact C.2.1.hm, by rw [f1 152 (by decide)]; exact C.2.2.hd⟩
        | succ n ih =>
          intro q hq h1 f1 v1
          have e2 : ((q : Int) + 1) = ((q + 1 : Nat) : Int) := by omega
          have own : h1 139 (257 + 13 * s + q) = dg (W.cur.pa s) q := by
            have := M.pa s q hsi ⟨by omega, by omega⟩
            rw [show 250 + 13 * s + 7 + (q : Int) = 257 + 13 * s + q by omega] at this
            rw [f1 139 (by decide)]; exact this
          rw [B251_38, if_neg (by omega), ga K.k0, ga K.k0, f1 138 (by decide), K.pat, K.p33, w32_id (by omega) (by omega), w32_id (by omega) (by omega), ga (gt _ (by omega) (by omega)), ga ⟨K.k151, by decide, by omega, by rw [K.l151]; omega⟩, own, e2]
          refine ih (q + 1) (by omega) _ (fun c hc => by rw [hset_a _ _ _ hc, f1 c hc]) (fun j j0 j1 => ?_)
          by_cases hj : j = q
          · rw [hj, hset_e]
          · rw [hset_i _ _ hj]; exact v1 j j0 (by omega)
      exact cp1 W.cur.nq.toNat 0 (by omega) h (fun _ _ => rfl) (fun j j0 j1 => by omega)
    · rw [bzf hs, o1, List.cons_append, List.nil_append, B251_13, if_neg (fun z => z rfl)]
      exact no (fun z => hs z.2)
  · rw [bzf hu, o1, List.cons_append, List.nil_append, B251_5, if_pos rfl]
    exact no (fun z => hu z.1)

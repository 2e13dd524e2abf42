/-! worlds, on the model's side -/
/-- the land's weights in the model's memory -/
def ML (f : Int → Int) (A : St) : Prop := (f 0 = A.nq) ∧ (∀ m q, bit1 m → inq A q → f (8 + 3 * q + 1 + m) = A.gb m q) ∧ (∀ m q r a, bit1 m → inq A q → 0 ≤ r → r < A.rows m q → 0 ≤ a → a < A.ch q → f (0 + 26 + 32 * q + 16 * m + 4 * r + a) = A.wt m q r a)
theorem ML.nq {f : Int → Int} {A : St} (z_ : ML f A) : f 0 = A.nq := z_.1
theorem ML.gb {f : Int → Int} {A : St} (z_ : ML f A) : ∀ m q, bit1 m → inq A q → f (8 + 3 * q + 1 + m) = A.gb m q := z_.2.1
theorem ML.wt {f : Int → Int} {A : St} (z_ : ML f A) : ∀ m q r a, bit1 m → inq A q → 0 ≤ r → r < A.rows m q → 0 ≤ a → a < A.ch q → f (0 + 26 + 32 * q + 16 * m + 4 * r + a) = A.wt m q r a := z_.2.2
theorem MS.ml {f f2 : Int → Int} {A : St} (M : MS f A) (O : A.Ok) (e : ∀ j, 0 ≤ j → j < 250 → f2 j = f j) : ML f2 A := by
  have h6 := O.nq
  refine ⟨by rw [e 0 (by decide) (by decide)]; exact M.nq, fun m q hm hq => ?_, fun m q r a hm hq r0 r1 a0 a1 => ?_⟩
  · have h1 := hq.1
    have h2 := hq.2
    have := bit1_le hm
    rw [e _ (by omega) (by omega)]; exact M.gb m q hm hq
  · have h1 := hq.1
    have h2 := hq.2
    have := bit1_le hm
    have := (O.rows hm hq).2
    have := O.ch q hq
    rw [e _ (by omega) (by omega)]; exact M.wt m q r a hm hq r0 r1 a0 a1
theorem S213b {g : KG} {h : KH} {A : St} (K : MK g h) (M : ML (h 139) A) (O : A.Ok) {m p q a o : Int} (hm : bit1 m) (hq : inq A q) (hp : A.row p) (hr : RowAt g h A a o p) {d : Nat} {Q : Option KV → KG → KH → Prop} (hQ : Q (some (xI (A.wof m p q))) g h) : Cl (d + 2) 213 [xR 138, xI q, xI m, xR a, xI o] g h Q := by
  obtain ⟨r1, r2, r3, r4, r5⟩ := hr
  have hm1 := bit1_le hm
  have hn := O.nq
  have q0 := hq.1
  have q1 := hq.2
  have hch := O.ch q hq
  have hd := hp.2.2.1 q hq
  have hd0 := (dg_r p q).1
  have hgb := O.gb m q hm hq
  have e := M.gb m q hm hq
  have eq := r5 q hq
  unfold St.wof at hQ
  simp (disch := omega) only [E213, B213_41, B213_44, E187, w32_id, K.k0, K.pat, K.kat, K.lat, e, true_and, ga, o1, List.cons_append, List.nil_append, r1, eq]
  rcases hgb with hb | ⟨hb0, hb1⟩
  · rw [if_pos hb] at hQ
    rw [if_neg (by simp [hb])]
    have w := M.wt m q 0 (dg p q) hm hq (Int.le_refl _) (by unfold St.rows; rw [if_pos hb]; decide) hd0 hd
    simp (disch := omega) only [w32_id, ga, w, K.kat, K.lat, true_and]
    exact hQ
  · have hne : ¬ A.gb m q = -1 := by omega
    rw [if_neg hne] at hQ
    rw [if_pos hne]
    have hib : inq A (A.gb m q) := ⟨hb0, by omega⟩
    have hb := hp.2.2.1 (A.gb m q) hib
    have hb2 := (dg_r p (A.gb m q))
    have eb := r5 _ hib
    have w := M.wt m q (dg p (A.gb m q)) (dg p q) hm hq hb2.1 (by unfold St.rows; rw [if_neg hne]; exact hb) hd0 hd
    simp (disch := omega) only [w32_id, ga, eb, w, K.kat, K.lat, true_and]
    exact hQ
theorem S259 {g : KG} {h : KH} {s n : Int} (k : gK g 138 = 12) (e : h 138 39 = s) (hs : 0 ≤ s ∧ s < 65536) (hn : 0 < n) {d : Nat} {Q : Option KV → KG → KH → Prop} (hQ : Q (some (xI (nxd s / 8 % n))) g (hset h 138 39 (nxd s))) : Cl (d + 1) 259 [xR 138, xI n] g h Q := by
  obtain ⟨d1, d2⟩ := drw hs hn
  rw [E259, ga k, ga (by decide), ga k, ga k, ga (by decide), ga (by omega), e, d1, hset_e, d2]
  exact hQ
/-- the row that stands in the memory while it is drawn -/
def St.mxr (A : St) (mf s0 old : Int) : Nat → Int
  | 0 => old
  | q + 1 => wa (A.mxr mf s0 old q) q (dg (A.dro mf s0 (q + 1)).1 q)
theorem dro_d {A : St} (O : A.Ok) {mf s0 : Int} (hs : 0 ≤ s0 ∧ s0 < 65536) {q : Nat} (hq : q < A.nq.toNat) : dg (A.dro mf s0 (q + 1)).1 q = (A.dan (if (q : Int) < mf then 0 else 1) q (A.rdx (if (q : Int) < mf then 0 else 1) (A.dro mf s0 q).1 q) (nxd (A.dro mf s0 q).2 / 8 % 16) : Nat) ∧ ∀ j : Nat, j < q → dg (A.dro mf s0 (q + 1)).1 j = dg (A.dro mf s0 q).1 j := by
  have h6 := O.nq
  have i := dro_r O (mf := mf) hs q (by omega)
  have hi : inq A q := ⟨by omega, by omega⟩
  have c := O.ch q hi
  have rr := rdx_r O (m := if (q : Int) < mf then 0 else 1) mfb hi i.1
  have dl := dan_lt O (m := if (q : Int) < mf then 0 else 1) (x := nxd (A.dro mf s0 q).2 / 8 % 16) mfb hi rr.1 rr.2.1 (by omega)
  rw [St.dro]
  exact ⟨wa_e i.1.1 i.1.2.1 (by omega) (by omega) (Int.natCast_nonneg _) (by omega), fun j hj => wa_n i.1.1 i.1.2.1 (by omega) (by omega) (Int.natCast_nonneg _) (by omega) (by omega) (by omega) (by omega)⟩
theorem mxr_r {A : St} (O : A.Ok) {mf s0 old : Int} (hs : 0 ≤ s0 ∧ s0 < 65536) (ho : A.row old) : ∀ q : Nat, q ≤ A.nq.toNat → A.row (A.mxr mf s0 old q) ∧ (∀ j : Nat, j < q → dg (A.mxr mf s0 old q) j = dg (A.dro mf s0 q).1 j) ∧ (∀ j : Nat, q ≤ j → j < 6 → dg (A.mxr mf s0 old q) j = dg old j) := by
  have h6 := O.nq
  intro q
  induction q with
  | zero => intro _; exact ⟨ho, fun j hj => by omega, fun j _ _ => rfl⟩
  | succ q ih =>
    intro hq
    obtain ⟨i1, i2, i3⟩ := ih (by omega)
    have hi : inq A q := ⟨by omega, by omega⟩
    have c := O.ch q hi
    have dr := dro_r O (mf := mf) hs (q + 1) (by omega)
    have dd := dro_d O (mf := mf) hs (q := q) (by omega)
    have dq := dr.1.2.2.1 q hi
    have dq0 := dg_r (A.dro mf s0 (q + 1)).1 q
    rw [St.mxr]
    refine ⟨row_wa O i1 hi ⟨dq0.1, dq⟩, fun j hj => ?_, fun j j0 j1 => ?_⟩
    · by_cases e : j = q
      · rw [e, wa_e i1.1 i1.2.1 (by omega) (by omega) dq0.1 (by omega)]
      · rw [wa_n i1.1 i1.2.1 (by omega) (by omega) dq0.1 (by omega) (by omega) (by omega) (by omega), i2 j (by omega), dd.2 j (by omega)]
    · rw [wa_n i1.1 i1.2.1 (by omega) (by omega) dq0.1 (by omega) (by omega) (by omega) (by omega)]
      exact i3 j (by omega) j1
theorem dro_6 {A : St} (O : A.Ok) (s0 : Int) : ∀ q : Nat, q ≤ A.nq.toNat → A.dro 6 s0 q = A.dro A.nq s0 q := by
  have h6 := O.nq
  intro q
  induction q with
  | zero => intro _; rfl
  | succ q ih => intro hq; rw [St.dro, St.dro, ih (by omega), if_pos (show (q : Int) < 6 by omega), if_pos (show (q : Int) < A.nq by omega)]
theorem wof_wa {A : St} (O : A.Ok) {m q a p r : Int} (hm : bit1 m) (hq : inq A q) (hp : A.row p) (ha : 0 ≤ a ∧ a < A.ch q) (H : ∀ j : Nat, (j : Int) < q → dg p j = dg r j) : A.wof m (wa p q a) q = A.wt m q (A.rdx m r q) a := by
  have h6 := O.nq
  have q0 := hq.1
  have q1 := hq.2
  have c := O.ch q hq
  have gb := O.gb m q hm hq
  unfold St.wof St.rdx
  rw [wa_e hp.1 hp.2.1 q0 (by omega) ha.1 (by omega)]
  rcases gb with g | ⟨g1, g2⟩
  · rw [if_pos g, if_pos g]
  · rw [if_neg (by omega), if_neg (by omega), wa_n hp.1 hp.2.1 q0 (by omega) ha.1 (by omega) g1 (by omega) (by omega)]
    have := H (A.gb m q).toNat (by omega)
    rw [show (((A.gb m q).toNat : Nat) : Int) = A.gb m q by omega] at this
    rw [this]
theorem C260 {W : Wd} {sd sh ha : Int} (ha2 : ha ≤ 2147483647) (hsh2 : sh ≤ 2147483647) : Mw 260 [xR 138, xI sd, xI sh, xI ha] 5 W (W.world sd sh ha) := by
  intro g h C O d Q hQ
  have K := C.1
  have M := C.2.2.cur
  unfold Wd.world at hQ
  have h6 := O.nq
  have h16 := O.ns
  have g0 : gK g 139 = 20 ∧ 0 ≤ (0 : Int) ∧ (0 : Int) < gL g 139 := ⟨K.kat, by decide, by rw [K.lat]; decide⟩
  have g2 : gK g 139 = 20 ∧ 0 ≤ (2 : Int) ∧ (2 : Int) < gL g 139 := ⟨K.kat, by decide, by rw [K.lat]; decide⟩
  have gp : ∀ j, 0 ≤ j → j < 4500 → gK g 139 = 20 ∧ 0 ≤ (139 : Int) ∧ 0 ≤ j ∧ j < gL g 139 := fun j j0 j1 => ⟨K.kat, by decide, j0, by rw [K.lat]; exact j1⟩
  have no : ¬ ((0 ≤ sd ∧ sd ≤ 9999) ∧ (0 ≤ sh ∧ sh ≤ 16) ∧ 0 ≤ ha ∧ ha ≤ 16 - sh) → Rn (d + 4) 260 34 [xR 138, xI sd, xI sh, xI ha, xU, xU, xU, xU, xU, xU, xU, xU, xU, xU] [] g h Q := by
    intro z
    rw [if_neg z] at hQ
    rw [B260_34, ga K.k0]
    simp only [S160 (k := K.k0), S161 (k := K.k0), S162 (k := K.k0), o1, o0, List.cons_append, List.nil_append, B260_39]
    exact mst C hQ
  rw [E260, S203]
  by_cases h1 : 0 ≤ sd ∧ sd ≤ 9999
  · rw [bzt h1, o1, List.cons_append, List.nil_append, B260_9, if_neg (by decide), S219]
    by_cases h2 : 0 ≤ sh ∧ sh ≤ 16
    · rw [bzt h2, o1, List.cons_append, List.nil_append, B260_16, if_neg (by decide), S219]
      by_cases h3 : 0 ≤ ha ∧ ha ≤ 16
      · rw [bzt h3, o1, List.cons_append, List.nil_append, B260_23, if_neg (by decide), w32_id (by omega) (by omega)]
        by_cases h4 : sh + ha ≤ 16
        · rw [if_pos ⟨h1, h2, h3.1, by omega⟩] at hQ
          have zz : (hset h 138 39 sd) 138 0 = 139 := by rw [hset_i _ _ (by decide)]; exact K.pat
          rw [if_pos h4, ga K.k0, ga K.k0, zz, ga g0, hset_a _ _ _ (by decide), M.nq]
          have okN := wss_ok O (sd := sd) (sh := sh) (ha := ha) (by omega) W.cur.ns.toNat
          have lp : ∀ n i : Nat, i + n = W.cur.ns.toNat → ∀ (h1 : KH) (x7 x8 x9 x10 x11 x12 x13 : KV), (∀ c, c ≠ 138 → c ≠ 139 → h1 c = h c) → (∀ j, j ≠ 39 → h1 138 j = h 138 j) → h1 138 39 = (W.cur.wss sd sh ha i).1 → (∀ j, (j < 250 ∨ 458 ≤ j) → h1 139 j = h 139 j) → (∀ s k, 0 ≤ s → s < 16 → 0 ≤ k → k < 5 → h1 139 (250 + 13 * s + k) = h 139 (250 + 13 * s + k)) → (∀ s, ins W.cur s → h1 139 (250 + 13 * s + 5) = (W.cur.wss sd sh ha i).2.2.1 s ∧ ((W.cur.wss sd sh ha i).2.2.1 s = 3 → h1 139 (250 + 13 * s + 6) = (W.cur.wss sd sh ha i).2.2.2.1 s) ∧ ∀ q, 0 ≤ q → q < W.cur.nq → h1 139 (257 + 13 * s + q) = dg ((W.cur.wss sd sh ha i).2.2.2.2 s) q) → Rn (d + 4) 260 59 [xR 138, xI sd, xI sh, xI ha, xI W.cur.nq, xI (W.cur.wss sd sh ha i).2.1, xI (i : Int), x7, x8, x9, x10, x11, x12, x13] [] g h1 Q := by
            intro n
            induction n with
            | zero =>
              intro i hi h1 x7 x8 x9 x10 x11 x12 x13 f1 t1 s1 a1 b1 v1
              have hi : i = W.cur.ns.toNat := by omega
              have K1 : MK g h1 := K.keep (fun j hj => t1 j (by omega))
              rw [B260_59, ga K.k0, K1.pat, ga g2, a1 2 (by decide), M.ns, if_pos (by omega), ga K.k0]
              simp only [S160 (k := K.k0), S161 (k := K.k0), S162 (k := K.k0), o1, o0, List.cons_append, List.nil_append, B260_339]
              rw [hi] at v1 ⊢
              generalize W.cur.wss sd sh ha W.cur.ns.toNat = s at *
              have z : (hset h1 138 1 0) 139 = h1 139 := hset_a _ _ _ (by decide)
              have U := C.sheet (h2 := hset h1 138 1 0) O (ns := W.cur.ns) (ask := W.cur.ask) (dr := W.cur.dr) (fr := W.cur.fr) (tt := W.cur.tt) (pa := s.2.2.2.2) (cd := W.cur.cd) (tr := s.2.2.1) (hf := s.2.2.2.1) h16.2 (fun a a0 a1 _ => by rw [hset_a _ _ _ (by omega), f1 a (by omega) (by omega)]) (fun j hj => by rw [hset_i _ _ hj.1, t1 j hj.2.2.2.2]) (fun j hj => by rw [z, a1 j (by omega)]) (by rw [z, a1 2 (by decide)]; exact M.ns)
                (fun i i0 i1 => by rw [z, b1 i 0 i0 (by omega) (by decide) (by decide)]; exact M.ask i ⟨i0, i1⟩) (fun i i0 i1 => by rw [z, b1 i 1 i0 (by omega) (by decide) (by decide)]; exact M.dr i ⟨i0, i1⟩) (fun i i0 i1 => by rw [z, b1 i 2 i0 (by omega) (by decide) (by decide)]; exact M.fr i ⟨i0, i1⟩) (fun i i0 i1 => by rw [z, b1 i 3 i0 (by omega) (by decide) (by decide)]; exact M.tt i ⟨i0, i1⟩) (fun i i0 i1 => by rw [z, b1 i 4 i0 (by omega) (by decide) (by decide)]; exact M.cd i ⟨i0, i1⟩) (fun i i0 i1 => by rw [z]; exact (v1 i ⟨i0, i1⟩).1) (fun i i0 i1 h3 => by rw [z]; exact (v1 i ⟨i0, i1⟩).2.1 h3) (fun i q i0 i1 q0 q1 => by rw [z, show 250 + 13 * i + 7 + q = 257 + 13 * i + q by omega]; exact (v1 i ⟨i0, i1⟩).2.2 q q0 q1)
              rw [hset_e] at U
              exact hQ _ U (fun a ha => by rw [hset_a _ _ _ (by omega), f1 a (by omega) (by omega)])
            | succ n ih =>
              intro i hi h1 x7 x8 x9 x10 x11 x12 x13 f1 t1 s1 a1 b1 v1
              have hii : ins W.cur i := ⟨by omega, by omega⟩
              have e1 : ((i : Int) + 1) = ((i + 1 : Nat) : Int) := by omega
              have ok := wss_ok O (sd := sd) (sh := sh) (ha := ha) (by omega) i
              have nx := ih (i + 1) (by omega)
              rw [St.wss] at nx
              generalize W.cur.wss sd sh ha i = s at *
              have sr := ok.sd
              have sa := ok.ak
              have r1 := nxd_r s.1
              have K1 : MK g h1 := K.keep (fun j hj => t1 j (by omega))
              have old := ok.pa i hii
              -- one sheet, once its truth is known
              have fin : ∀ (h2 : KH) (k t mf mi s2 : Int) (y9 y10 y11 y12 y13 : KV), (∀ c, c ≠ 138 → h2 c = h1 c) → (∀ j, j ≠ 39 → h2 138 j = h 138 j) → h2 138 39 = s2 → (0 ≤ s2 ∧ s2 < 65536) → (1 ≤ t ∧ t ≤ 3) → (t = 3 → mi = mf) → (W.cur.dro mi s2 W.cur.nq.toNat = W.cur.dro mf s2 W.cur.nq.toNat) → W.cur.wsp sh ha i s = W.cur.wfn i s t mf s2 → Rn (d + 4) 260 139 [xR 138, xI sd, xI sh, xI ha, xI W.cur.nq, xI s.2.1, xI (i : Int), xI k, xI t, y9, y10, y11, y12, y13] [xI mi] g h2 Q := by
                intro h2 k t mf mi s2 y9 y10 y11 y12 y13 f2 t2 e2 b2 ht him hdr hw
                rw [hw] at nx
                have dfin := dro_r O (mf := mf) b2 W.cur.nq.toNat (Nat.le_refl _)
                -- the answers
                have qs : ∀ n q : Nat, q + n = W.cur.nq.toNat → ∀ (h3 : KH) (z12 z13 : KV), (∀ c, c ≠ 138 → c ≠ 139 → h3 c = h c) → (∀ j, j ≠ 39 → h3 138 j = h 138 j) → h3 138 39 = (W.cur.dro mi s2 q).2 → (∀ j : Int, (j < 250 + 13 * i ∨ 250 + 13 * i + 13 ≤ j) → h3 139 j = h1 139 j) → (∀ k : Int, 0 ≤ k → k < 5 → h3 139 (250 + 13 * i + k) = h1 139 (250 + 13 * i + k)) → h3 139 (250 + 13 * i + 5) = t → (t = 3 → h3 139 (250 + 13 * i + 6) = mi) → (∀ j : Int, 0 ≤ j → j < W.cur.nq → h3 139 (257 + 13 * i + j) = dg (W.cur.mxr mi s2 (s.2.2.2.2 i) q) j) → Rn (d + 4) 260 204 [xR 138, xI sd, xI sh, xI ha, xI W.cur.nq, xI (s.2.1 + (if t = 1 then 1 else 0)), xI (i : Int), xI k, xI t, xI mi, xI (250 + 13 * (i : Int)), xI (q : Int), z12, z13] [] g h3 Q := by
                  intro n
                  induction n with
                  | zero =>
                    intro q hq h3 z12 z13 f3 t3 s3 a3 b3 c5 c6 m3
                    have hq : q = W.cur.nq.toNat := by omega
                    rw [hq] at m3 s3
                    have mx := mxr_r O (mf := mi) b2 old W.cur.nq.toNat (Nat.le_refl _)
                    rw [B260_204, if_pos (by omega), w32_id (by omega) (by omega), e1]
                    refine nx h3 _ _ _ _ _ _ _ f3 t3 (by rw [s3, hdr]; rfl) (fun j hj => by rw [a3 j (by omega), a1 j hj]) (fun s' k' s0 s1' k0 k1 => ?_) (fun s' hs' => ⟨?_, fun h3' => ?_, fun q' q0 q1 => ?_⟩)
                    · by_cases e : s' = i
                      · rw [e, b3 k' k0 k1, b1 i k' (by omega) (by omega) k0 k1]
                      · rw [a3 _ (by omega), b1 s' k' s0 s1' k0 k1]
                    · have z0 := hs'.1
                      show _ = kset s.2.2.1 i t s'
                      unfold kset
                      by_cases e : s' = i
                      · rw [if_pos e, e]; exact c5
                      · rw [if_neg e, a3 _ (by omega)]; exact (v1 s' hs').1
                    · have z0 := hs'.1
                      have h3' : kset s.2.2.1 i t s' = 3 := h3'
                      show _ = kset s.2.2.2.1 i mf s'
                      unfold kset at h3' ⊢
                      by_cases e : s' = i
                      · rw [if_pos e] at h3' ⊢
                        rw [e, c6 h3', him h3']
                      · rw [if_neg e] at h3' ⊢
                        rw [a3 _ (by omega)]; exact (v1 s' hs').2.1 h3'
                    · have z0 := hs'.1
                      show _ = dg (kset s.2.2.2.2 i (W.cur.dro mf s2 W.cur.nq.toNat).1 s') q'
                      unfold kset
                      by_cases e : s' = i
                      · rw [if_pos e, e, m3 q' q0 q1, ← hdr]
                        have := mx.2.1 q'.toNat (by omega)
                        rw [show ((q'.toNat : Nat) : Int) = q' by omega] at this
                        exact this
                      · rw [if_neg e, a3 _ (by omega)]; exact (v1 s' hs').2.2 q' q0 q1
                  | succ n iq =>
                    intro q hq h3 z12 z13 f3 t3 s3 a3 b3 c5 c6 m3
                    have hqi : inq W.cur q := ⟨by omega, by omega⟩
                    have e2' : ((q : Int) + 1) = ((q + 1 : Nat) : Int) := by omega
                    have c := O.ch q hqi
                    have mx := mxr_r O (mf := mi) b2 old q (by omega)
                    have dr := dro_r O (mf := mi) b2 q (by omega)
                    have dd := dro_d O (mf := mi) b2 (q := q) (by omega)
                    have K3 : MK g h3 := K.keep (fun j hj => t3 j (by omega))
                    have hm : bit1 (if (q : Int) < mi then 0 else 1) := mfb
                    have rr := rdx_r O (p := (W.cur.dro mi s2 q).1) hm hqi dr.1
                    have s16 := cum_ch O hm hqi rr.1 rr.2.1
                    have xr : 0 ≤ nxd (W.cur.dro mi s2 q).2 / 8 % 16 ∧ nxd (W.cur.dro mi s2 q).2 / 8 % 16 < 16 := by omega
                    have nq' := iq (q + 1) (by omega)
                    rw [St.mxr, dd.1, show (W.cur.dro mi s2 (q + 1)).2 = nxd (W.cur.dro mi s2 q).2 from rfl] at nq'
                    have nxr := nxd_r (W.cur.dro mi s2 q).2
                    rw [B260_204, if_neg (by omega), ga K.k0]
                    refine S259 K.k0 s3 dr.2 (by decide) ?_
                    generalize eA : hset h3 138 39 (nxd (W.cur.dro mi s2 q).2) = hA
                    have kA : ∀ c, c ≠ 138 → hA c = h3 c := fun c hc => by rw [← eA, hset_a _ _ _ hc]
                    have tA : ∀ j, j ≠ 39 → hA 138 j = h 138 j := fun j hj => by rw [← eA, hset_i _ _ hj, t3 j hj]
                    have sA : hA 138 39 = nxd (W.cur.dro mi s2 q).2 := by rw [← eA, hset_e]
                    generalize nxd (W.cur.dro mi s2 q).2 / 8 % 16 = x at *
                    generalize nxd (W.cur.dro mi s2 q).2 = sd2 at *
                    rw [o1, List.cons_append, List.nil_append, B260_217, ga K.k0, tA 0 (by decide), K.pat, w32_id (x := 250 + 13 * (i : Int) + 7) (by omega) (by omega), w32_id (by omega) (by omega), ga (gp _ (by omega) (by omega)), show 250 + 13 * (i : Int) + 7 + q = 257 + 13 * i + q by omega]
                    have al : ∀ n a : Nat, a + n = (W.cur.ch q).toNat → (∀ j, j < a → W.cur.cum (if (q : Int) < mi then 0 else 1) q (W.cur.rdx (if (q : Int) < mi then 0 else 1) (W.cur.dro mi s2 q).1 q) (j + 1) ≤ x) → ∀ h4 : KH, (∀ c, c ≠ 139 → h4 c = hA c) → (∀ j : Int, j ≠ 257 + 13 * i + q → h4 139 j = h3 139 j) → h4 139 (257 + 13 * i + q) = a → Rn (d + 4) 260 236 [xR 138, xI sd, xI sh, xI ha, xI W.cur.nq, xI (s.2.1 + (if t = 1 then 1 else 0)), xI (i : Int), xI k, xI t, xI mi, xI (250 + 13 * (i : Int)), xI (q : Int), xI (x - W.cur.cum (if (q : Int) < mi then 0 else 1) q (W.cur.rdx (if (q : Int) < mi then 0 else 1) (W.cur.dro mi s2 q).1 q) a), xI (a : Int)] [] g h4 Q := by
                      intro n
                      induction n with
                      | zero =>
                        intro a han H h4 k4 m4 c4
                        have := H (a - 1) (by omega)
                        rw [show a - 1 + 1 = (W.cur.ch q).toNat by omega, s16] at this
                        omega
                      | succ n ia =>
                        intro a han H h4 k4 m4 c4
                        have e3 : ((a : Int) + 1) = ((a + 1 : Nat) : Int) := by omega
                        have ha2 : 0 ≤ (a : Int) ∧ (a : Int) < W.cur.ch q := by omega
                        have y138 : h4 138 = hA 138 := k4 138 (by decide)
                        have K4 : MK g h4 := K.keep (fun j hj => by rw [y138, tA j (by omega)])
                        have ML4 : ML (h4 139) W.cur := M.ml O (fun j j0 j1 => by rw [m4 j (by omega), a3 j (by omega), a1 j (by omega)])
                        have rw4 := row_wa O mx.1 hqi ha2
                        have RA : RowAt g h4 W.cur 139 (257 + 13 * (i : Int)) (wa (W.cur.mxr mi s2 (s.2.2.2.2 i) q) q a) := by
                          refine ⟨K.kat, by omega, by omega, by rw [K.lat]; omega, fun q' hq' => ?_⟩
                          have z0 := hq'.1
                          have z1 := hq'.2
                          by_cases e : q' = q
                          · rw [e, c4, wa_e mx.1.1 mx.1.2.1 (by omega) (by omega) ha2.1 (by omega)]
                          · rw [m4 _ (by omega), m3 q' z0 z1, wa_n mx.1.1 mx.1.2.1 (by omega) (by omega) ha2.1 (by omega) z0 (by omega) e]
                        have wv := wof_wa O (m := if (q : Int) < mi then 0 else 1) hm hqi mx.1 ha2 (r := (W.cur.dro mi s2 q).1) (fun j hj => mx.2.1 j (by omega))
                        have wr := O.wt (if (q : Int) < mi then 0 else 1) q (W.cur.rdx (if (q : Int) < mi then 0 else 1) (W.cur.dro mi s2 q).1 q) a hm hqi rr.1 rr.2.1 ha2.1 ha2.2
                        have cs : W.cur.cum (if (q : Int) < mi then 0 else 1) q (W.cur.rdx (if (q : Int) < mi then 0 else 1) (W.cur.dro mi s2 q).1 q) (a + 1) = W.cur.cum (if (q : Int) < mi then 0 else 1) q (W.cur.rdx (if (q : Int) < mi then 0 else 1) (W.cur.dro mi s2 q).1 q) a + W.cur.wt (if (q : Int) < mi then 0 else 1) q (W.cur.rdx (if (q : Int) < mi then 0 else 1) (W.cur.dro mi s2 q).1 q) a := rfl
                        have cr : 0 ≤ W.cur.cum (if (q : Int) < mi then 0 else 1) q (W.cur.rdx (if (q : Int) < mi then 0 else 1) (W.cur.dro mi s2 q).1 q) a ∧ W.cur.cum (if (q : Int) < mi then 0 else 1) q (W.cur.rdx (if (q : Int) < mi then 0 else 1) (W.cur.dro mi s2 q).1 q) a ≤ 64 := by
                          have z := sumN_r (g := fun b => W.cur.wt (if (q : Int) < mi then 0 else 1) q (W.cur.rdx (if (q : Int) < mi then 0 else 1) (W.cur.dro mi s2 q).1 q) b) (b := 16) a (fun b hb => O.wt _ q _ b hm hqi rr.1 rr.2.1 (by omega) (by omega))
                          unfold St.cum
                          omega
                        have ia' := ia (a + 1) (by omega)
                        rw [cs] at ia'
                        have dn := dan_is (A := W.cur) (m := if (q : Int) < mi then 0 else 1) (q := q) (r := W.cur.rdx (if (q : Int) < mi then 0 else 1) (W.cur.dro mi s2 q).1 q) (x := x) (a := a) (by omega)
                        rw [cs] at dn
                        generalize W.cur.cum (if (q : Int) < mi then 0 else 1) q (W.cur.rdx (if (q : Int) < mi then 0 else 1) (W.cur.dro mi s2 q).1 q) a = cm at *
                        have again : ¬ x - cm < W.cur.wt (if (q : Int) < mi then 0 else 1) q (W.cur.rdx (if (q : Int) < mi then 0 else 1) (W.cur.dro mi s2 q).1 q) a → ∀ m' : Int, m' = (if (q : Int) < mi then 0 else 1) → Rn (d + 4) 260 285 [xR 138, xI sd, xI sh, xI ha, xI W.cur.nq, xI (s.2.1 + (if t = 1 then 1 else 0)), xI (i : Int), xI k, xI t, xI mi, xI (250 + 13 * (i : Int)), xI (q : Int), xI (x - cm), xI (a : Int)] [xI m', xI (q : Int), xR 138, xI (x - cm)] g h4 Q := by
                          intro hn m' hm'
                          rw [B260_285, ga K.k0, ga K.k0, K4.pat, w32_id (x := 250 + 13 * (i : Int) + 7) (by omega) (by omega), show 250 + 13 * (i : Int) + 7 = 257 + 13 * i by omega, hm']
                          refine S213b K4 ML4 O hm hqi rw4 RA ?_
                          rw [wv, o1, List.cons_append, List.nil_append, B260_297, ga K.k0, K4.pat, w32_id (x := 250 + 13 * (i : Int) + 7) (by omega) (by omega), w32_id (x := 250 + 13 * (i : Int) + 7 + q) (by omega) (by omega), ga (gp _ (by omega) (by omega)), show 250 + 13 * (i : Int) + 7 + q = 257 + 13 * i + q by omega]
                          generalize W.cur.wt (if (q : Int) < mi then 0 else 1) q (W.cur.rdx (if (q : Int) < mi then 0 else 1) (W.cur.dro mi s2 q).1 q) a = w at *
                          rw [w32_id (x := x - cm - w) (by omega) (by omega), w32_id (x := (a : Int) + 1) (by omega) (by omega), e3]
                          rw [show x - cm - w = x - (cm + w) by omega]
                          refine ia' (fun j hj => ?_) (hset h4 139 (257 + 13 * i + q) ((a + 1 : Nat) : Int)) (fun c hc => by rw [hset_a _ _ _ hc, k4 c hc]) (fun j hj => by rw [hset_i _ _ hj, m4 j hj]) (hset_e _ _ _ _)
                          by_cases e : j = a
                          · rw [e, cs]; omega
                          · exact H j (by omega)
                        have first : ∀ m' : Int, m' = (if (q : Int) < mi then 0 else 1) → Rn (d + 4) 260 253 [xR 138, xI sd, xI sh, xI ha, xI W.cur.nq, xI (s.2.1 + (if t = 1 then 1 else 0)), xI (i : Int), xI k, xI t, xI mi, xI (250 + 13 * (i : Int)), xI (q : Int), xI (x - cm), xI (a : Int)] [xI m', xI (q : Int), xR 138, xI (x - cm)] g h4 Q := by
                          intro m' hm'
                          rw [B260_253, ga K.k0, ga K.k0, K4.pat, w32_id (x := 250 + 13 * (i : Int) + 7) (by omega) (by omega), show 250 + 13 * (i : Int) + 7 = 257 + 13 * i by omega, hm']
                          refine S213b K4 ML4 O hm hqi rw4 RA ?_
                          rw [wv, o1, List.cons_append, List.nil_append, B260_265]
                          by_cases hc : x - cm < W.cur.wt (if (q : Int) < mi then 0 else 1) q (W.cur.rdx (if (q : Int) < mi then 0 else 1) (W.cur.dro mi s2 q).1 q) a
                          · rw [if_pos hc, w32_id (by omega) (by omega), e2']
                            rw [dn (by omega) H] at nq'
                            refine nq' h4 _ _ (fun c c1 c2 => by rw [k4 c c2, kA c c1, f3 c c1 c2]) (fun j hj => by rw [y138, tA j hj]) (by rw [y138]; exact sA) (fun j hj => by rw [m4 j (by omega), a3 j hj]) (fun k' k0 k1 => by rw [m4 _ (by omega), b3 k' k0 k1]) (by rw [m4 _ (by omega)]; exact c5) (fun e => by rw [m4 _ (by omega)]; exact c6 e) (fun q' q0 q1 => ?_)
                            exact RA.2.2.2.2 q' ⟨q0, q1⟩
                          · rw [if_neg hc]
                            by_cases hmi : mi ≤ (q : Int)
                            · rw [if_pos hmi]
                              exact again hc 1 (by rw [if_neg (by omega)])
                            · rw [if_neg hmi]
                              exact again hc 0 (by rw [if_pos (by omega)])
                        rw [B260_236]
                        by_cases hmi : mi ≤ (q : Int)
                        · rw [if_pos hmi]
                          exact first 1 (by rw [if_neg (by omega)])
                        · rw [if_neg hmi]
                          exact first 0 (by rw [if_pos (by omega)])
                    have st := al (W.cur.ch q).toNat 0 (by omega) (fun j hj => by omega) (hset hA 139 (257 + 13 * i + q) 0) (fun c hc => hset_a _ _ _ hc) (fun j hj => by rw [hset_i _ _ hj, kA 139 (by decide)]) (hset_e _ _ _ _)
                    rw [show x - W.cur.cum (if (q : Int) < mi then 0 else 1) q (W.cur.rdx (if (q : Int) < mi then 0 else 1) (W.cur.dro mi s2 q).1 q) 0 = x by show x - 0 = x; omega] at st
                    exact st
                have K2 : MK g h2 := K.keep (fun j hj => t2 j (by omega))
                -- truth and half laid in
                have lay : ∀ v : Int, (t = 3 → v = mi) → Rn (d + 4) 260 200 [xR 138, xI sd, xI sh, xI ha, xI W.cur.nq, xI (s.2.1 + (if t = 1 then 1 else 0)), xI (i : Int), xI k, xI t, xI mi, xI (250 + 13 * (i : Int)), y11, y12, y13] [xI v, xI (250 + 13 * (i : Int) + 6), xR 139] g (hset h2 139 (250 + 13 * i + 5) t) Q := by
                  intro v hv
                  rw [B260_200, ga (gp _ (by omega) (by omega))]
                  refine qs W.cur.nq.toNat 0 (by omega) _ _ _ (fun c c1 c2 => by rw [hset_a _ _ _ c2, hset_a _ _ _ c2, f2 c c1, f1 c c1 c2]) (fun j hj => by rw [hset_a _ _ _ (by decide), hset_a _ _ _ (by decide), t2 j hj]) (by rw [hset_a _ _ _ (by decide), hset_a _ _ _ (by decide)]; exact e2) (fun j hj => by rw [hset_i _ _ (by omega), hset_i _ _ (by omega), f2 139 (by decide)]) (fun k' k0 k1 => by rw [hset_i _ _ (by omega), hset_i _ _ (by omega), f2 139 (by decide)]) (by rw [hset_i _ _ (by omega), hset_e]) (fun e => by rw [hset_e]; exact hv e) (fun j j0 j1 => ?_)
                  rw [hset_i _ _ (by omega), hset_i _ _ (by omega), f2 139 (by decide)]
                  exact (v1 i hii).2.2 j j0 j1
                have as : ∀ b : Int, b = (if t = 1 then 1 else 0) → Rn (d + 4) 260 154 [xR 138, xI sd, xI sh, xI ha, xI W.cur.nq, xI s.2.1, xI (i : Int), xI k, xI t, xI mi, y10, y11, y12, y13] [xI b, xI s.2.1] g h2 Q := by
                  intro b hb
                  have bb : 0 ≤ b ∧ b ≤ 1 := by rw [hb]; split <;> decide
                  have z9 : ∀ v, (hset h2 139 (250 + 13 * (i : Int) + 5) v) 138 = h2 138 := fun v => hset_a _ _ _ (by decide)
                  rw [B260_154, ga K.k0, K2.pat, w32_id (x := 13 * (i : Int)) (by omega) (by omega), w32_id (x := 250 + 13 * (i : Int)) (by omega) (by omega), w32_id (x := 250 + 13 * (i : Int) + 5) (by omega) (by omega), w32_id (x := 250 + 13 * (i : Int) + 6) (by omega) (by omega), ga (gp _ (by omega) (by omega)), ga K.k0, w32_id (x := s.2.1 + b) (by omega) (by omega), z9, K2.pat, hb]
                  by_cases h3' : t = 3
                  · rw [if_neg (fun z => z h3')]; exact lay mi (fun _ => rfl)
                  · rw [if_pos h3']; exact lay 0 (fun e => absurd e h3')
                rw [B260_139]
                by_cases ht1 : t = 1
                · rw [if_neg (fun z => z ht1)]; exact as 1 (by rw [if_pos ht1])
                · rw [if_pos ht1]; exact as 0 (by rw [if_neg ht1])
              rw [B260_59, ga K.k0, K1.pat, ga g2, a1 2 (by decide), M.ns, if_neg (by omega), ga K.k0]
              refine S259 K.k0 s1 sr (by decide) ?_
              rw [o1, List.cons_append, List.nil_append, B260_76]
              have FF : ∀ c, c ≠ 138 → (hset h1 138 39 (nxd s.1)) c = h1 c := fun c hc => hset_a _ _ _ hc
              have TT : ∀ j, j ≠ 39 → (hset h1 138 39 (nxd s.1)) 138 j = h 138 j := fun j hj => by rw [hset_i _ _ hj, t1 j hj]
              by_cases c1 : nxd s.1 / 8 % 16 < sh
              · have hw : W.cur.wsp sh ha i s = W.cur.wfn i s 2 0 (nxd s.1) := by unfold St.wsp; rw [if_pos c1]
                rw [if_neg (by omega), B260_101, if_neg (by decide)]
                exact fin _ _ 2 0 0 (nxd s.1) _ _ _ _ _ FF TT (hset_e _ _ _ _) r1 (by decide) (fun e => by omega) rfl hw
              · rw [if_pos (by omega), w32_id (by omega) (by omega)]
                by_cases c2 : nxd s.1 / 8 % 16 < sh + ha
                · rw [if_neg (by omega), B260_101, if_pos (by decide), if_neg (by decide)]
                  by_cases c3 : W.cur.nq = 0
                  · have hw : W.cur.wsp sh ha i s = W.cur.wfn i s 3 0 (nxd s.1) := by unfold St.wsp; rw [if_neg c1, if_pos c2, if_pos c3]
                    rw [if_neg (fun z => z c3)]
                    exact fin _ _ 3 0 0 (nxd s.1) _ _ _ _ _ FF TT (hset_e _ _ _ _) r1 (by decide) (fun _ => rfl) rfl hw
                  · have hw : W.cur.wsp sh ha i s = W.cur.wfn i s 3 (nxd (nxd s.1) / 8 % W.cur.nq) (nxd (nxd s.1)) := by unfold St.wsp; rw [if_neg c1, if_pos c2, if_neg c3]
                    rw [if_pos c3, ga K.k0]
                    refine S259 K.k0 (hset_e _ _ _ _) r1 (by omega) ?_
                    rw [o1, List.cons_append, List.nil_append, B260_134]
                    exact fin _ _ 3 _ _ (nxd (nxd s.1)) _ _ _ _ _ (fun c hc => by rw [hset_a _ _ _ hc, FF c hc]) (fun j hj => by rw [hset_i _ _ hj, TT j hj]) (hset_e _ _ _ _) (nxd_r _) (by decide) (fun _ => rfl) rfl hw
                · have hw : W.cur.wsp sh ha i s = W.cur.wfn i s 1 6 (nxd s.1) := by unfold St.wsp; rw [if_neg c1, if_neg c2]
                  rw [if_pos (by omega), B260_101, if_pos (by decide), if_pos (by decide)]
                  exact fin _ _ 1 6 W.cur.nq (nxd s.1) _ _ _ _ _ FF TT (hset_e _ _ _ _) r1 (by decide) (fun e => by omega) (dro_6 O _ _ (Nat.le_refl _)).symm hw
          exact lp W.cur.ns.toNat 0 (by omega) _ _ _ _ _ _ _ _ (fun c c1 _ => hset_a _ _ _ c1) (fun j hj => hset_i _ _ hj) (hset_e _ _ _ _) (fun j _ => by rw [hset_a _ _ _ (by decide)]) (fun s k _ _ _ _ => by rw [hset_a _ _ _ (by decide)]) (fun s hs => ⟨by rw [hset_a _ _ _ (by decide)]; exact M.tr s hs, fun h3 => by rw [hset_a _ _ _ (by decide)]; exact M.hf s hs h3, fun q q0 q1 => by rw [hset_a _ _ _ (by decide), show 257 + 13 * s + q = 250 + 13 * s + 7 + q by omega]; exact M.pa s q hs ⟨q0, q1⟩⟩)
        · rw [if_neg h4]
          exact no (fun z => by omega)
      · rw [bzf h3, o1, List.cons_append, List.nil_append, B260_23, if_pos rfl]
        exact no (fun z => h3 ⟨z.2.2.1, by have := z.2.2.2; omega⟩)
    · rw [bzf h2, o1, List.cons_append, List.nil_append, B260_16, if_pos rfl]
      exact no (fun z => h2 z.2.1)
  · rw [bzf h1, o1, List.cons_append, List.nil_append, B260_9, if_pos rfl]
    exact no (fun z => h1 z.1)

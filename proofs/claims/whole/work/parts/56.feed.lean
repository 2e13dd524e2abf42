/-! feed -/
theorem w8_r (x : Int) : -128 ≤ w8 x ∧ w8 x ≤ 127 := by unfold w8; omega
def fd4 (tp : Int → Int) (n v : Int) : Int → Int := kset (kset (kset (kset tp n (w8 (shr32 v 24))) (n + 1) (w8 (shr32 v 16))) (n + 2) (w8 (shr32 v 8))) (n + 3) (w8 (shr32 v 0))
theorem fd4_r {tp : Int → Int} {n v : Int} (H : ∀ k, 0 ≤ k → k < n → -128 ≤ tp k ∧ tp k ≤ 127) : ∀ k, 0 ≤ k → k < n + 4 → -128 ≤ fd4 tp n v k ∧ fd4 tp n v k ≤ 127 := by
  intro k k0 k1
  unfold fd4 kset
  split
  · exact w8_r _
  · split
    · exact w8_r _
    · split
      · exact w8_r _
      · split
        · exact w8_r _
        · exact H k k0 (by omega)
def Wd.fd (W : Wd) (tp : Int → Int) (n : Int) : Wd := Wd.mk_ W.cur W.mks W.nmk W.ts W.tm W.tv tp n W.stt W.top W.bot W.fk W.fp W.hm W.hd W.fs
/-- a tape: at o its place c counts, the bytes at b -/
def TP (h : KH) (o c b : Int) (tp : Int → Int) (n : Int) : Prop := h o c = n ∧ ∀ k, 0 ≤ k → k < n → h b k = tp k
theorem TP.step {h : KH} {o c b n x : Int} {tp : Int → Int} (T : TP h o c b tp n) (ne : b ≠ o) : TP (hset (hset h b n x) o c (n + 1)) o c b (kset tp n x) (n + 1) := by
  refine ⟨hset_e _ _ _ _, fun k k0 k1 => ?_⟩
  rw [hset_a _ _ _ ne]
  unfold kset
  by_cases hk : k = n
  · rw [if_pos hk, hk, hset_e]
  · rw [if_neg hk, hset_i _ _ hk]; exact T.2 k k0 (by omega)
theorem T72 {g : KG} {h : KH} {tp : Int → Int} {n v s : Int} (T : TP h 2 1 3 tp n) (C1 : CK g h) (hn : 0 ≤ n ∧ n < 700) (hs : 0 ≤ s ∧ s < 32) {d : Nat} {Q : Option KV → KG → KH → Prop} (hQ : ∀ h2 : KH, TP h2 2 1 3 (kset tp n (w8 (shr32 v s))) (n + 1) → CK g h2 → (∀ c, c ≠ 2 → c ≠ 3 → h2 c = h c) → (∀ j, j ≠ 1 → h2 2 j = h 2 j) → Rn d 72 3 [xR 2, xI v, xI (s - 8)] [] g h2 Q) : Rn d 72 3 [xR 2, xI v, xI s] [] g h Q := by
  have b := w8_r (shr32 v s)
  rw [B72_3, if_neg (by omega), ga C1.k2, T.1, if_neg (by omega), ga C1.k2, ga C1.k2, ga hs, C1.p2, ga ⟨Or.inl ⟨C1.k3, b⟩, hn.1, by rw [C1.l3]; exact hn.2⟩, ga C1.k2, ga C1.k2, hset_a _ _ _ (by decide), T.1, w32_id (by omega) (by omega), w32_id (by omega) (by omega)]
  have z : ∀ c, c ≠ 2 → c ≠ 3 → hset (hset h 3 n (w8 (shr32 v s))) 2 1 (n + 1) c = h c := fun c c2 c3 => by rw [hset_a _ _ _ c2, hset_a _ _ _ c3]
  have y : ∀ j, j ≠ 1 → hset (hset h 3 n (w8 (shr32 v s))) 2 1 (n + 1) 2 j = h 2 j := fun j hj => by rw [hset_i _ _ hj, hset_a _ _ _ (by decide)]
  refine hQ _ (T.step (by decide)) (C1.keepg (z 1 (by decide) (by decide)) (y 0 (by decide)) (by rw [z 4 (by decide) (by decide)]) (by rw [z 5 (by decide) (by decide)]) (z 31 (by decide) (by decide)) (z 32 (by decide) (by decide)) (z 36 (by decide) (by decide)) (fun t t0 t1 => by rw [z _ (by omega) (by omega)])) z y
theorem S72 {g : KG} {h : KH} {tp : Int → Int} {n v : Int} (T : TP h 2 1 3 tp n) (C1 : CK g h) (hn : 0 ≤ n ∧ n + 4 ≤ 700) {d : Nat} {Q : Option KV → KG → KH → Prop} (hQ : ∀ h2 : KH, TP h2 2 1 3 (fd4 tp n v) (n + 4) → CK g h2 → (∀ c, c ≠ 2 → c ≠ 3 → h2 c = h c) → (∀ j, j ≠ 1 → h2 2 j = h 2 j) → Q none g h2) : Cl (d + 1) 72 [xR 2, xI v] g h Q := by
  rw [E72]
  refine T72 T C1 (by omega) (by decide) (fun h1 T1 K1 a1 b1 => ?_)
  refine T72 T1 K1 (by omega) (by decide) (fun h2 T2 K2 a2 b2 => ?_)
  refine T72 T2 K2 (by omega) (by decide) (fun h3 T3 K3 a3 b3 => ?_)
  refine T72 T3 K3 (by omega) (by decide) (fun h4 T4 K4 a4 b4 => ?_)
  rw [B72_3, if_pos (by decide), B72_46]
  have e1 : n + 1 + 1 = n + 2 := by omega
  have e2 : n + 2 + 1 = n + 3 := by omega
  have e3 : n + 3 + 1 = n + 4 := by omega
  rw [e1, e2, e3] at T4
  exact hQ h4 T4 K4 (fun c c2 c3 => by rw [a4 c c2 c3, a3 c c2 c3, a2 c c2 c3, a1 c c2 c3]) (fun j hj => by rw [b4 j hj, b3 j hj, b2 j hj, b1 j hj])
theorem T172 {g : KG} {h : KH} {tp : Int → Int} {n v s : Int} (T : TP h 138 9 143 tp n) (K : MK g h) (hn : 0 ≤ n ∧ n < 700) (hs : 0 ≤ s ∧ s < 32) {d : Nat} {Q : Option KV → KG → KH → Prop} (hQ : ∀ h2 : KH, TP h2 138 9 143 (kset tp n (w8 (shr32 v s))) (n + 1) → MK g h2 → (∀ c, c ≠ 138 → c ≠ 143 → h2 c = h c) → (∀ j, j ≠ 9 → h2 138 j = h 138 j) → Rn d 172 3 [xR 138, xI v, xI (s - 8)] [] g h2 Q) : Rn d 172 3 [xR 138, xI v, xI s] [] g h Q := by
  have b := w8_r (shr32 v s)
  have z1 : (hset h 143 n (w8 (shr32 v s))) 138 = h 138 := hset_a _ _ _ (by decide)
  rw [B172_3, if_neg (by omega), ga K.k0, T.1, ga K.k0, ga hs, K.p7, ga ⟨Or.inl ⟨K.k143, b⟩, hn.1, by rw [K.l143]; exact hn.2⟩, ga K.k0, ga K.k0, z1, T.1, w32_id (by omega) (by omega), w32_id (by omega) (by omega)]
  have z : ∀ c, c ≠ 138 → c ≠ 143 → hset (hset h 143 n (w8 (shr32 v s))) 138 9 (n + 1) c = h c := fun c c2 c3 => by rw [hset_a _ _ _ c2, hset_a _ _ _ c3]
  have y : ∀ j, j ≠ 9 → hset (hset h 143 n (w8 (shr32 v s))) 138 9 (n + 1) 138 j = h 138 j := fun j hj => by rw [hset_i _ _ hj, z1]
  exact hQ _ (T.step (by decide)) (K.keep (fun j hj => y j (by omega))) z y
theorem S172 {g : KG} {h : KH} {tp : Int → Int} {n v : Int} (T : TP h 138 9 143 tp n) (K : MK g h) (hn : 0 ≤ n ∧ n + 4 ≤ 700) {d : Nat} {Q : Option KV → KG → KH → Prop} (hQ : ∀ h2 : KH, TP h2 138 9 143 (fd4 tp n v) (n + 4) → MK g h2 → (∀ c, c ≠ 138 → c ≠ 143 → h2 c = h c) → (∀ j, j ≠ 9 → h2 138 j = h 138 j) → Q none g h2) : Cl (d + 1) 172 [xR 138, xI v] g h Q := by
  rw [E172]
  refine T172 T K (by omega) (by decide) (fun h1 T1 K1 a1 b1 => ?_)
  refine T172 T1 K1 (by omega) (by decide) (fun h2 T2 K2 a2 b2 => ?_)
  refine T172 T2 K2 (by omega) (by decide) (fun h3 T3 K3 a3 b3 => ?_)
  refine T172 T3 K3 (by omega) (by decide) (fun h4 T4 K4 a4 b4 => ?_)
  rw [B172_3, if_pos (by decide)]
  have e1 : n + 1 + 1 = n + 2 := by omega
  have e2 : n + 2 + 1 = n + 3 := by omega
  have e3 : n + 3 + 1 = n + 4 := by omega
  rw [e1, e2, e3] at T4
  exact hQ h4 T4 K4 (fun c c2 c3 => by rw [a4 c c2 c3, a3 c c2 c3, a2 c c2 c3, a1 c c2 c3]) (fun j hj => by rw [b4 j hj, b3 j hj, b2 j hj, b1 j hj])
def fd20 (tp : Int → Int) (n a b c d e : Int) : Int → Int := fd4 (fd4 (fd4 (fd4 (fd4 tp n a) (n + 4) b) (n + 8) c) (n + 12) d) (n + 16) e
def Wd.feed (W : Wd) (a b c d e : Int) : Wd × Int := if W.fed ≤ 680 then (W.fd (fd20 W.tp W.fed a b c d e) (W.fed + 20), W.fed + 20) else (W, -1)
theorem C97 {W : Wd} {a b c e f : Int} : Cw 97 [xR 0, xI a, xI b, xI c, xI e, xI f] 2 W (W.feed a b c e f) := by
  intro g h C d Q hQ
  have C0 := C
  obtain ⟨l, r, l2, r2, C1, C2, C3, C4, C5, C6, C7⟩ := C
  unfold Wd.feed at hQ
  rw [E97, ga C3.k0, C3.p1, ga C1.k2, C5.fed]
  by_cases hf : W.fed ≤ 680
  · have f7 := C5.f7
    rw [if_pos hf] at hQ
    rw [if_pos hf, ga C3.k0, ga C1.k2]
    refine S72 ⟨C5.fed, C5.tp⟩ C1 (by omega) (fun h1 T1 K1 a1 b1 => ?_)
    have y1 : h1 0 = h 0 := a1 0 (by decide) (by decide)
    rw [o0, List.nil_append, B97_23, y1, C3.p1, ga C3.k0, ga C1.k2]
    refine S72 T1 K1 (by omega) (fun h2 T2 K2 a2 b2 => ?_)
    have y2 : h2 0 = h 0 := by rw [a2 0 (by decide) (by decide), y1]
    rw [o0, List.nil_append, B97_31, y2, C3.p1, ga C3.k0, ga C1.k2]
    refine S72 T2 K2 (by omega) (fun h3 T3 K3 a3 b3 => ?_)
    have y3 : h3 0 = h 0 := by rw [a3 0 (by decide) (by decide), y2]
    rw [o0, List.nil_append, B97_39, y3, C3.p1, ga C3.k0, ga C1.k2]
    refine S72 T3 K3 (by omega) (fun h4 T4 K4 a4 b4 => ?_)
    have y4 : h4 0 = h 0 := by rw [a4 0 (by decide) (by decide), y3]
    rw [o0, List.nil_append, B97_48, y4, C3.p1, ga C3.k0, ga C1.k2]
    refine S72 T4 K4 (by omega) (fun h5 T5 K5 a5 b5 => ?_)
    have y5 : h5 0 = h 0 := by rw [a5 0 (by decide) (by decide), y4]
    rw [o0, List.nil_append, B97_57, y5, C3.p1, ga C3.k0, ga C1.k2, T5.1]
    have z : ∀ x, x ≠ 2 → x ≠ 3 → h5 x = h x := fun x x2 x3 => by rw [a5 x x2 x3, a4 x x2 x3, a3 x x2 x3, a2 x x2 x3, a1 x x2 x3]
    have y : ∀ j, j ≠ 1 → h5 2 j = h 2 j := fun j hj => by rw [b5 j hj, b4 j hj, b3 j hj, b2 j hj, b1 j hj]
    have e1 : W.fed + 4 + 4 = W.fed + 8 := by omega
    have e2 : W.fed + 8 + 4 = W.fed + 12 := by omega
    have e3 : W.fed + 12 + 4 = W.fed + 16 := by omega
    have e4 : W.fed + 16 + 4 = W.fed + 20 := by omega
    rw [e1, e2, e3, e4] at T5
    have hr := fd4_r (v := f) (fd4_r (v := e) (fd4_r (v := c) (fd4_r (v := b) (fd4_r (v := a) C5.tb))))
    rw [e1, e2, e3, e4] at hr
    rw [e1, e2, e3, e4]
    have X := C3.keepg (h2 := h5) (fun j _ => by rw [y5])
    rw [y5, C3.stt] at X
    have U : CR g h5 (W.fd (fd20 W.tp W.fed a b c e f) (W.fed + 20)) := ⟨l, r, l2, r2, K5, ⟨C2.k35, by rw [z 35 (by decide) (by decide)]; exact C2.p35⟩, X, C4.keep (fun x _ _ => z x (by omega) (by omega)), ⟨T5.1, ⟨by show 0 ≤ W.fed + 20; omega, by show W.fed + 20 ≤ 700; omega⟩, T5.2, by rw [y5, y 2 (by decide), y 3 (by decide)]; exact C5.fa, hr⟩, C6.keep (fun x _ _ => z x (by omega) (by omega)), C7.keep (fun x _ _ _ => z x (by omega) (by omega))⟩
    exact hQ h5 U (fun x hx => z x (by omega) (by omega))
  · rw [if_neg hf] at hQ
    rw [if_neg hf]
    exact hQ h C0 (fun _ _ => rfl)
theorem C171 {W : Wd} (G : W.Rg) {a b c e f : Int} : Mw 171 [xR 138, xI a, xI b, xI c, xI e, xI f] 2 W (W.feed a b c e f) := by
  intro g h C O d Q hQ
  have K := C.1
  have M := C.2.2.cur
  unfold Wd.feed at hQ
  have f7 := G.2.1
  rw [E171, ga K.k0, C.2.1.fed, w32_id (by omega) (by omega)]
  by_cases hf : W.fed ≤ 680
  · rw [if_pos hf] at hQ
    rw [if_pos (by omega), ga K.k0]
    refine S172 ⟨C.2.1.fed, C.2.2.tp⟩ K (by omega) (fun h1 T1 K1 a1 b1 => ?_)
    rw [o0, List.nil_append, B171_20, ga K.k0]
    refine S172 T1 K1 (by omega) (fun h2 T2 K2 a2 b2 => ?_)
    rw [o0, List.nil_append, B171_25, ga K.k0]
    refine S172 T2 K2 (by omega) (fun h3 T3 K3 a3 b3 => ?_)
    rw [o0, List.nil_append, B171_30, ga K.k0]
    refine S172 T3 K3 (by omega) (fun h4 T4 K4 a4 b4 => ?_)
    rw [o0, List.nil_append, B171_36, ga K.k0]
    refine S172 T4 K4 (by omega) (fun h5 T5 K5 a5 b5 => ?_)
    rw [o0, List.nil_append, B171_42, ga K.k0, T5.1]
    have z : ∀ x, x ≠ 138 → x ≠ 143 → h5 x = h x := fun x x2 x3 => by rw [a5 x x2 x3, a4 x x2 x3, a3 x x2 x3, a2 x x2 x3, a1 x x2 x3]
    have y : ∀ j, j ≠ 9 → h5 138 j = h 138 j := fun j hj => by rw [b5 j hj, b4 j hj, b3 j hj, b2 j hj, b1 j hj]
    have e1 : W.fed + 4 + 4 = W.fed + 8 := by omega
    have e2 : W.fed + 8 + 4 = W.fed + 12 := by omega
    have e3 : W.fed + 12 + 4 = W.fed + 16 := by omega
    have e4 : W.fed + 16 + 4 = W.fed + 20 := by omega
    rw [e1, e2, e3, e4] at T5
    rw [e1, e2, e3, e4]
    have X := C.2.1
    have D := C.2.2
    have U : MR g h5 (W.fd (fd20 W.tp W.fed a b c e f) (W.fed + 20)) := ⟨K5, ⟨by rw [y 1 (by decide)]; exact X.stt, by rw [y 2 (by decide)]; exact X.top, by rw [y 3 (by decide)]; exact X.bot, T5.1, by rw [y 15 (by decide)]; exact X.fk, by rw [y 16 (by decide)]; exact X.fp, by rw [y 35 (by decide)]; exact X.hm, by rw [y 38 (by decide)]; exact X.fs, by rw [y 40 (by decide)]; exact X.nmk⟩, ⟨by rw [z 141 (by decide) (by decide)]; exact D.tm, by rw [z 140 (by decide) (by decide)]; exact D.ts, by rw [z 142 (by decide) (by decide)]; exact D.tv, T5.2, by rw [z 152 (by decide) (by decide)]; exact D.hd, by rw [z 139 (by decide) (by decide)]; exact D.cur, by rw [z 139 (by decide) (by decide)]; exact D.mk⟩⟩
    exact hQ h5 U (fun x hx => z x (by omega) (by omega))
  · rw [if_neg hf] at hQ
    rw [if_neg (by omega)]
    exact hQ h C (fun _ _ => rfl)

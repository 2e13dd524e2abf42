/-! THE MODEL's side: its objects, its memory. -/
def MK (g : KG) (h : KH) : Prop := (gK g 138 = 12) ∧ (gK g 139 = 20) ∧ (gL g 139 = 4500) ∧ (gK g 140 = 20) ∧ (gL g 140 = 4) ∧ (gK g 141 = 20) ∧ (gL g 141 = 4) ∧ (gK g 142 = 21) ∧ (gL g 142 = 240) ∧ (gK g 143 = 22) ∧ (gL g 143 = 700) ∧ (gK g 144 = 22) ∧ (gL g 144 = 700) ∧ (gK g 145 = 21) ∧ (gL g 145 = 6) ∧ (gK g 146 = 20) ∧ (gL g 146 = 64) ∧ (gK g 147 = 20) ∧ (gL g 147 = 16) ∧ (gK g 148 = 20) ∧ (gL g 148 = 16) ∧ (gK g 149 = 20) ∧ (gL g 149 = 6) ∧ (gK g 150 = 23) ∧ (gL g 150 = 64) ∧ (gK g 151 = 20) ∧ (gL g 151 = 6) ∧ (gK g 152 = 20) ∧ (gL g 152 = 6) ∧ (gK g 153 = 20) ∧ (gL g 153 = 16) ∧ (gK g 154 = 20) ∧ (gL g 154 = 16) ∧ (h 138 0 = 139) ∧ (h 138 4 = 140) ∧ (h 138 5 = 141) ∧ (h 138 6 = 142) ∧ (h 138 7 = 143) ∧ (h 138 8 = 144) ∧ (h 138 19 = 145) ∧ (h 138 20 = 146) ∧ (h 138 28 = 147) ∧ (h 138 29 = 148) ∧ (h 138 31 = 149) ∧ (h 138 32 = 150) ∧ (h 138 33 = 151) ∧ (h 138 34 = 152) ∧ (h 138 36 = 153) ∧ (h 138 37 = 154)
theorem MK.k0 {g : KG} {h : KH} (z_ : MK g h) : gK g 138 = 12 := z_.1
theorem MK.kat {g : KG} {h : KH} (z_ : MK g h) : gK g 139 = 20 := z_.2.1
theorem MK.lat {g : KG} {h : KH} (z_ : MK g h) : gL g 139 = 4500 := z_.2.2.1
theorem MK.k140 {g : KG} {h : KH} (z_ : MK g h) : gK g 140 = 20 := z_.2.2.2.1
theorem MK.l140 {g : KG} {h : KH} (z_ : MK g h) : gL g 140 = 4 := z_.2.2.2.2.1
theorem MK.k141 {g : KG} {h : KH} (z_ : MK g h) : gK g 141 = 20 := z_.2.2.2.2.2.1
theorem MK.l141 {g : KG} {h : KH} (z_ : MK g h) : gL g 141 = 4 := z_.2.2.2.2.2.2.1
theorem MK.k142 {g : KG} {h : KH} (z_ : MK g h) : gK g 142 = 21 := z_.2.2.2.2.2.2.2.1
theorem MK.l142 {g : KG} {h : KH} (z_ : MK g h) : gL g 142 = 240 := z_.2.2.2.2.2.2.2.2.1
theorem MK.k143 {g : KG} {h : KH} (z_ : MK g h) : gK g 143 = 22 := z_.2.2.2.2.2.2.2.2.2.1
theorem MK.l143 {g : KG} {h : KH} (z_ : MK g h) : gL g 143 = 700 := z_.2.2.2.2.2.2.2.2.2.2.1
theorem MK.k144 {g : KG} {h : KH} (z_ : MK g h) : gK g 144 = 22 := z_.2.2.2.2.2.2.2.2.2.2.2.1
theorem MK.l144 {g : KG} {h : KH} (z_ : MK g h) : gL g 144 = 700 := z_.2.2.2.2.2.2.2.2.2.2.2.2.1
theorem MK.k145 {g : KG} {h : KH} (z_ : MK g h) : gK g 145 = 21 := z_.2.2.2.2.2.2.2.2.2.2.2.2.2.1
theorem MK.l145 {g : KG} {h : KH} (z_ : MK g h) : gL g 145 = 6 := z_.2.2.2.2.2.2.2.2.2.2.2.2.2.2.1
theorem MK.k146 {g : KG} {h : KH} (z_ : MK g h) : gK g 146 = 20 := z_.2.2.2.2.2.2.2.2.2.2.2.2.2.2.2.1
theorem MK.l146 {g : KG} {h : KH} (z_ : MK g h) : gL g 146 = 64 := z_.2.2.2.2.2.2.2.2.2.2.2.2.2.2.2.2.1
theorem MK.k147 {g : KG} {h : KH} (z_ : MK g h) : gK g 147 = 20 := z_.2.2.2.2.2.2.2.2.2.2.2.2.2.2.2.2.2.1
theorem MK.l147 {g : KG} {h : KH} (z_ : MK g h) : gL g 147 = 16 := z_.2.2.2.2.2.2.2.2.2.2.2.2.2.2.2.2.2.2.1
theorem MK.k148 {g : KG} {h : KH} (z_ : MK g h) : gK g 148 = 20 := z_.2.2.2.2.2.2.2.2.2.2.2.2.2.2.2.2.2.2.2.1
theorem MK.l148 {g : KG} {h : KH} (z_ : MK g h) : gL g 148 = 16 := z_.2.2.2.2.2.2.2.2.2.2.2.2.2.2.2.2.2.2.2.2.1
theorem MK.k149 {g : KG} {h : KH} (z_ : MK g h) : gK g 149 = 20 := z_.2.2.2.2.2.2.2.2.2.2.2.2.2.2.2.2.2.2.2.2.2.1
theorem MK.l149 {g : KG} {h : KH} (z_ : MK g h) : gL g 149 = 6 := z_.2.2.2.2.2.2.2.2.2.2.2.2.2.2.2.2.2.2.2.2.2.2.1
theorem MK.k150 {g : KG} {h : KH} (z_ : MK g h) : gK g 150 = 23 := z_.2.2.2.2.2.2.2.2.2.2.2.2.2.2.2.2.2.2.2.2.2.2.2.1
theorem MK.l150 {g : KG} {h : KH} (z_ : MK g h) : gL g 150 = 64 := z_.2.2.2.2.2.2.2.2.2.2.2.2.2.2.2.2.2.2.2.2.2.2.2.2.1
theorem MK.k151 {g : KG} {h : KH} (z_ : MK g h) : gK g 151 = 20 := z_.2.2.2.2.2.2.2.2.2.2.2.2.2.2.2.2.2.2.2.2.2.2.2.2.2.1
theorem MK.l151 {g : KG} {h : KH} (z_ : MK g h) : gL g 151 = 6 := z_.2.2.2.2.2.2.2.2.2.2.2.2.2.2.2.2.2.2.2.2.2.2.2.2.2.2.1
theorem MK.k152 {g : KG} {h : KH} (z_ : MK g h) : gK g 152 = 20 := z_.2.2.2.2.2.2.2.2.2.2.2.2.2.2.2.2.2.2.2.2.2.2.2.2.2.2.2.1
theorem MK.l152 {g : KG} {h : KH} (z_ : MK g h) : gL g 152 = 6 := z_.2.2.2.2.2.2.2.2.2.2.2.2.2.2.2.2.2.2.2.2.2.2.2.2.2.2.2.2.1
theorem MK.k153 {g : KG} {h : KH} (z_ : MK g h) : gK g 153 = 20 := z_.2.2.2.2.2.2.2.2.2.2.2.2.2.2.2.2.2.2.2.2.2.2.2.2.2.2.2.2.2.1
theorem MK.l153 {g : KG} {h : KH} (z_ : MK g h) : gL g 153 = 16 := z_.2.2.2.2.2.2.2.2.2.2.2.2.2.2.2.2.2.2.2.2.2.2.2.2.2.2.2.2.2.2.1
theorem MK.k154 {g : KG} {h : KH} (z_ : MK g h) : gK g 154 = 20 := z_.2.2.2.2.2.2.2.2.2.2.2.2.2.2.2.2.2.2.2.2.2.2.2.2.2.2.2.2.2.2.2.1
theorem MK.l154 {g : KG} {h : KH} (z_ : MK g h) : gL g 154 = 16 := z_.2.2.2.2.2.2.2.2.2.2.2.2.2.2.2.2.2.2.2.2.2.2.2.2.2.2.2.2.2.2.2.2.1
theorem MK.pat {g : KG} {h : KH} (z_ : MK g h) : h 138 0 = 139 := z_.2.2.2.2.2.2.2.2.2.2.2.2.2.2.2.2.2.2.2.2.2.2.2.2.2.2.2.2.2.2.2.2.2.1
theorem MK.p4 {g : KG} {h : KH} (z_ : MK g h) : h 138 4 = 140 := z_.2.2.2.2.2.2.2.2.2.2.2.2.2.2.2.2.2.2.2.2.2.2.2.2.2.2.2.2.2.2.2.2.2.2.1
theorem MK.p5 {g : KG} {h : KH} (z_ : MK g h) : h 138 5 = 141 := z_.2.2.2.2.2.2.2.2.2.2.2.2.2.2.2.2.2.2.2.2.2.2.2.2.2.2.2.2.2.2.2.2.2.2.2.1
theorem MK.p6 {g : KG} {h : KH} (z_ : MK g h) : h 138 6 = 142 := z_.2.2.2.2.2.2.2.2.2.2.2.2.2.2.2.2.2.2.2.2.2.2.2.2.2.2.2.2.2.2.2.2.2.2.2.2.1
theorem MK.p7 {g : KG} {h : KH} (z_ : MK g h) : h 138 7 = 143 := z_.2.2.2.2.2.2.2.2.2.2.2.2.2.2.2.2.2.2.2.2.2.2.2.2.2.2.2.2.2.2.2.2.2.2.2.2.2.1
theorem MK.p8 {g : KG} {h : KH} (z_ : MK g h) : h 138 8 = 144 := z_.2.2.2.2.2.2.2.2.2.2.2.2.2.2.2.2.2.2.2.2.2.2.2.2.2.2.2.2.2.2.2.2.2.2.2.2.2.2.1
theorem MK.p19 {g : KG} {h : KH} (z_ : MK g h) : h 138 19 = 145 := z_.2.2.2.2.2.2.2.2.2.2.2.2.2.2.2.2.2.2.2.2.2.2.2.2.2.2.2.2.2.2.2.2.2.2.2.2.2.2.2.1
theorem MK.p20 {g : KG} {h : KH} (z_ : MK g h) : h 138 20 = 146 := z_.2.2.2.2.2.2.2.2.2.2.2.2.2.2.2.2.2.2.2.2.2.2.2.2.2.2.2.2.2.2.2.2.2.2.2.2.2.2.2.2.1
theorem MK.p28 {g : KG} {h : KH} (z_ : MK g h) : h 138 28 = 147 := z_.2.2.2.2.2.2.2.2.2.2.2.2.2.2.2.2.2.2.2.2.2.2.2.2.2.2.2.2.2.2.2.2.2.2.2.2.2.2.2.2.2.1
theorem MK.p29 {g : KG} {h : KH} (z_ : MK g h) : h 138 29 = 148 := z_.2.2.2.2.2.2.2.2.2.2.2.2.2.2.2.2.2.2.2.2.2.2.2.2.2.2.2.2.2.2.2.2.2.2.2.2.2.2.2.2.2.2.1
theorem MK.p31 {g : KG} {h : KH} (z_ : MK g h) : h 138 31 = 149 := z_.2.2.2.2.2.2.2.2.2.2.2.2.2.2.2.2.2.2.2.2.2.2.2.2.2.2.2.2.2.2.2.2.2.2.2.2.2.2.2.2.2.2.2.1
theorem MK.p32 {g : KG} {h : KH} (z_ : MK g h) : h 138 32 = 150 := z_.2.2.2.2.2.2.2.2.2.2.2.2.2.2.2.2.2.2.2.2.2.2.2.2.2.2.2.2.2.2.2.2.2.2.2.2.2.2.2.2.2.2.2.2.1
theorem MK.p33 {g : KG} {h : KH} (z_ : MK g h) : h 138 33 = 151 := z_.2.2.2.2.2.2.2.2.2.2.2.2.2.2.2.2.2.2.2.2.2.2.2.2.2.2.2.2.2.2.2.2.2.2.2.2.2.2.2.2.2.2.2.2.2.1
theorem MK.p34 {g : KG} {h : KH} (z_ : MK g h) : h 138 34 = 152 := z_.2.2.2.2.2.2.2.2.2.2.2.2.2.2.2.2.2.2.2.2.2.2.2.2.2.2.2.2.2.2.2.2.2.2.2.2.2.2.2.2.2.2.2.2.2.2.1
theorem MK.p36 {g : KG} {h : KH} (z_ : MK g h) : h 138 36 = 153 := z_.2.2.2.2.2.2.2.2.2.2.2.2.2.2.2.2.2.2.2.2.2.2.2.2.2.2.2.2.2.2.2.2.2.2.2.2.2.2.2.2.2.2.2.2.2.2.2.1
theorem MK.p37 {g : KG} {h : KH} (z_ : MK g h) : h 138 37 = 154 := z_.2.2.2.2.2.2.2.2.2.2.2.2.2.2.2.2.2.2.2.2.2.2.2.2.2.2.2.2.2.2.2.2.2.2.2.2.2.2.2.2.2.2.2.2.2.2.2.2
/-- a slot of the model's memory stands for what A says -/
def MS (f : Int → Int) (A : St) : Prop := (f 0 = A.nq) ∧ (f 1 = A.nd) ∧ (f 2 = A.ns) ∧ (f 3 = A.nr) ∧ (f 4 = A.wk) ∧ (f 5 = A.ca) ∧ (f 6 = A.cm) ∧ (∀ q, inq A q → f (8 + 3 * q) = A.ch q) ∧ (∀ m q, bit1 m → inq A q → f (8 + 3 * q + 1 + m) = A.gb m q) ∧ (∀ m q r a, bit1 m → inq A q → 0 ≤ r → r < A.rows m q → 0 ≤ a → a < A.ch q → f (0 + 26 + 32 * q + 16 * m + 4 * r + a) = A.wt m q r a) ∧ (∀ i, 0 ≤ i → i < A.nd → f (218 + 2 * i) = A.dx i) ∧ (∀ i, 0 ≤ i → i < A.nd → f (218 + 2 * i + 1) = A.dy i) ∧ (∀ s, ins A s → f (250 + 13 * s + 0) = A.ask s) ∧ (∀ s, ins A s → f (250 + 13 * s + 1) = A.dr s) ∧ (∀ s, ins A s → f (250 + 13 * s + 2) = A.fr s) ∧ (∀ s, ins A s → f (250 + 13 * s + 3) = A.tt s) ∧ (∀ s, ins A s → f (250 + 13 * s + 4) = A.cd s) ∧ (∀ s, ins A s → f (250 + 13 * s + 5) = A.tr s) ∧ (∀ s, ins A s → A.tr s = 3 → f (250 + 13 * s + 6) = A.hf s) ∧ (∀ s q, ins A s → inq A q → f (250 + 13 * s + 7 + q) = dg (A.pa s) q) ∧ (∀ r, 0 ≤ r → r ≤ A.nr → f (458 + r) = A.rs r) ∧ (∀ k, 0 ≤ k → k < A.rs A.nr → f (464 + 2 * k) = A.op k) ∧ (∀ k, 0 ≤ k → k < A.rs A.nr → f (464 + 2 * k + 1) = A.nm k)
theorem MS.nq {f : Int → Int} {A : St} (z_ : MS f A) : f 0 = A.nq := z_.1
theorem MS.nd {f : Int → Int} {A : St} (z_ : MS f A) : f 1 = A.nd := z_.2.1
theorem MS.ns {f : Int → Int} {A : St} (z_ : MS f A) : f 2 = A.ns := z_.2.2.1
theorem MS.nr {f : Int → Int} {A : St} (z_ : MS f A) : f 3 = A.nr := z_.2.2.2.1
theorem MS.wk {f : Int → Int} {A : St} (z_ : MS f A) : f 4 = A.wk := z_.2.2.2.2.1
theorem MS.ca {f : Int → Int} {A : St} (z_ : MS f A) : f 5 = A.ca := z_.2.2.2.2.2.1
theorem MS.cm {f : Int → Int} {A : St} (z_ : MS f A) : f 6 = A.cm := z_.2.2.2.2.2.2.1
theorem MS.ch {f : Int → Int} {A : St} (z_ : MS f A) : ∀ q, inq A q → f (8 + 3 * q) = A.ch q := z_.2.2.2.2.2.2.2.1
theorem MS.gb {f : Int → Int} {A : St} (z_ : MS f A) : ∀ m q, bit1 m → inq A q → f (8 + 3 * q + 1 + m) = A.gb m q := z_.2.2.2.2.2.2.2.2.1
theorem MS.wt {f : Int → Int} {A : St} (z_ : MS f A) : ∀ m q r a, bit1 m → inq A q → 0 ≤ r → r < A.rows m q → 0 ≤ a → a < A.ch q → f (0 + 26 + 32 * q + 16 * m + 4 * r + a) = A.wt m q r a := z_.2.2.2.2.2.2.2.2.2.1
theorem MS.dx {f : Int → Int} {A : St} (z_ : MS f A) : ∀ i, 0 ≤ i → i < A.nd → f (218 + 2 * i) = A.dx i := z_.2.2.2.2.2.2.2.2.2.2.1
theorem MS.dy {f : Int → Int} {A : St} (z_ : MS f A) : ∀ i, 0 ≤ i → i < A.nd → f (218 + 2 * i + 1) = A.dy i := z_.2.2.2.2.2.2.2.2.2.2.2.1
theorem MS.ask {f : Int → Int} {A : St} (z_ : MS f A) : ∀ s, ins A s → f (250 + 13 * s + 0) = A.ask s := z_.2.2.2.2.2.2.2.2.2.2.2.2.1
theorem MS.dr {f : Int → Int} {A : St} (z_ : MS f A) : ∀ s, ins A s → f (250 + 13 * s + 1) = A.dr s := z_.2.2.2.2.2.2.2.2.2.2.2.2.2.1
theorem MS.fr {f : Int → Int} {A : St} (z_ : MS f A) : ∀ s, ins A s → f (250 + 13 * s + 2) = A.fr s := z_.2.2.2.2.2.2.2.2.2.2.2.2.2.2.1
theorem MS.tt {f : Int → Int} {A : St} (z_ : MS f A) : ∀ s, ins A s → f (250 + 13 * s + 3) = A.tt s := z_.2.2.2.2.2.2.2.2.2.2.2.2.2.2.2.1
theorem MS.cd {f : Int → Int} {A : St} (z_ : MS f A) : ∀ s, ins A s → f (250 + 13 * s + 4) = A.cd s := z_.2.2.2.2.2.2.2.2.2.2.2.2.2.2.2.2.1
theorem MS.tr {f : Int → Int} {A : St} (z_ : MS f A) : ∀ s, ins A s → f (250 + 13 * s + 5) = A.tr s := z_.2.2.2.2.2.2.2.2.2.2.2.2.2.2.2.2.2.1
theorem MS.hf {f : Int → Int} {A : St} (z_ : MS f A) : ∀ s, ins A s → A.tr s = 3 → f (250 + 13 * s + 6) = A.hf s := z_.2.2.2.2.2.2.2.2.2.2.2.2.2.2.2.2.2.2.1
theorem MS.pa {f : Int → Int} {A : St} (z_ : MS f A) : ∀ s q, ins A s → inq A q → f (250 + 13 * s + 7 + q) = dg (A.pa s) q := z_.2.2.2.2.2.2.2.2.2.2.2.2.2.2.2.2.2.2.2.1
theorem MS.rs {f : Int → Int} {A : St} (z_ : MS f A) : ∀ r, 0 ≤ r → r ≤ A.nr → f (458 + r) = A.rs r := z_.2.2.2.2.2.2.2.2.2.2.2.2.2.2.2.2.2.2.2.2.1
theorem MS.op {f : Int → Int} {A : St} (z_ : MS f A) : ∀ k, 0 ≤ k → k < A.rs A.nr → f (464 + 2 * k) = A.op k := z_.2.2.2.2.2.2.2.2.2.2.2.2.2.2.2.2.2.2.2.2.2.1
theorem MS.nm {f : Int → Int} {A : St} (z_ : MS f A) : ∀ k, 0 ≤ k → k < A.rs A.nr → f (464 + 2 * k + 1) = A.nm k := z_.2.2.2.2.2.2.2.2.2.2.2.2.2.2.2.2.2.2.2.2.2.2
/-- a row of answers in an array, from a place on -/
def RowAt (g : KG) (h : KH) (A : St) (a o p : Int) : Prop := gK g a = 20 ∧ 0 ≤ o ∧ o ≤ 4000 ∧ o + A.nq ≤ gL g a ∧ ∀ q, inq A q → h a (o + q) = dg p q
theorem bit1_le {m : Int} (h : bit1 m) : 0 ≤ m ∧ m ≤ 1 := by rcases h with rfl | rfl <;> decide
theorem S213 {g : KG} {h : KH} {A : St} (K : MK g h) (M : MS (h 139) A) (O : A.Ok) {m p q a o : Int} (hm : bit1 m) (hq : inq A q) (hp : A.row p) (hr : RowAt g h A a o p) {d : Nat} {Q : Option KV → KG → KH → Prop} (hQ : Q (some (xI (A.wof m p q))) g h) : Cl (d + 2) 213 [xR 138, xI q, xI m, xR a, xI o] g h Q := by
  obtain ⟨r1, r2, r3, r4, r5⟩ := hr
  have hm1 := bit1_le hm
  have hn := O.nq
  have q0 := hq.1
  have q1 := hq.2
  have hch := O.ch q hq
  have hd := hp.2.2.1 q hq
  have hd0 := (dg_r p q).1
  have hgb := O.gb m q hm hq
  have e := M.gb m q hm hq
  have eq := r5 q hq
  unfold St.wof at hQ
  simp (disch := omega) only [E213, B213_41, B213_44, E187, w32_id, K.k0, K.pat, K.kat, K.lat, e, true_and, ga, o1, List.cons_append, List.nil_append, r1, eq]
  rcases hgb with hb | ⟨hb0, hb1⟩
  · rw [if_pos hb] at hQ
    rw [if_neg (by simp [hb])]
    have w := M.wt m q 0 (dg p q) hm hq (Int.le_refl _) (by unfold St.rows; rw [if_pos hb]; decide) hd0 hd
    simp (disch := omega) only [w32_id, ga, w, K.kat, K.lat, true_and]
    exact hQ
  · have hne : ¬ A.gb m q = -1 := by omega
    rw [if_neg hne] at hQ
    rw [if_pos hne]
    have hib : inq A (A.gb m q) := ⟨hb0, by omega⟩
    have hb := hp.2.2.1 (A.gb m q) hib
    have hb2 := (dg_r p (A.gb m q))
    have eb := r5 _ hib
    have w := M.wt m q (dg p (A.gb m q)) (dg p q) hm hq hb2.1 (by unfold St.rows; rw [if_neg hne]; exact hb) hd0 hd
    simp (disch := omega) only [w32_id, ga, eb, w, K.kat, K.lat, true_and]
    exact hQ
theorem L214 {g : KG} {h : KH} {A : St} (K : MK g h) (M : MS (h 139) A) (O : A.Ok) {mf p a o : Int} (hp : A.row p) (hr : RowAt g h A a o p) {d : Nat} {Q : Option KV → KG → KH → Prop} (hQ : Q (some (xL (A.prod mf p))) g h) : ∀ n k : Nat, k + n = A.nq.toNat → Rn (d + 2) 214 6 [xR 138, xR a, xI o, xI mf, xL (A.prd mf p k), xU, xI (k : Int)] [] g h Q := by
  intro n
  have h6 := O.nq
  induction n with
  | zero =>
    intro k hk
    have hk : k = A.nq.toNat := by omega
    simp (disch := omega) only [B214_6, K.k0, K.pat, K.kat, K.lat, true_and, ga, M.nq, if_pos, hk]
    exact hQ
  | succ n ih =>
    intro k hk
    have hq : inq A k := ⟨by omega, by omega⟩
    have b1 := O.prd2 hp mf k (by omega)
    have b2 := O.prd2 hp mf (k + 1) (by omega)
    have fin : ∀ w, w = A.wof (if (k : Int) < mf then 0 else 1) p k → Rn (d + 2) 214 38 [xR 138, xR a, xI o, xI mf, xL (A.prd mf p k), xU, xI (k : Int)] [xI w, xL (A.prd mf p k)] g h Q := by
      intro w hw
      have e : A.prd mf p k * w = A.prd mf p (k + 1) := by rw [hw]; rfl
      rw [B214_38, e, w64_id (by omega) (by omega), w32_id (by omega) (by omega)]
      exact ih (k + 1) (by omega)
    rw [B214_6, ga K.k0, K.pat, ga ⟨K.kat, by decide, by rw [K.lat]; decide⟩, M.nq, if_neg (by omega)]
    by_cases hm : mf ≤ (k : Int)
    · rw [if_pos hm, B214_33, ga K.k0]
      refine S213 K M O (Or.inr rfl) hq hp hr ?_
      exact fin _ (by rw [if_neg (by omega)])
    · rw [if_neg hm, B214_33, ga K.k0]
      refine S213 K M O (Or.inl rfl) hq hp hr ?_
      exact fin _ (by rw [if_pos (by omega)])
theorem S214 {g : KG} {h : KH} {A : St} (K : MK g h) (M : MS (h 139) A) (O : A.Ok) {mf p a o : Int} (hp : A.row p) (hr : RowAt g h A a o p) {d : Nat} {Q : Option KV → KG → KH → Prop} (hQ : Q (some (xL (A.prod mf p))) g h) : Cl (d + 3) 214 [xR 138, xR a, xI o, xI mf] g h Q := by
  rw [E214]
  exact L214 K M O hp hr hQ A.nq.toNat 0 (by omega)
theorem row_of {g : KG} {h : KH} {A : St} (K : MK g h) (M : MS (h 139) A) (O : A.Ok) {s : Int} (hs : ins A s) : RowAt g h A 139 (250 + 13 * s + 7) (A.pa s) := by
  have h1 := O.nq
  have h2 := O.ns
  have h3 := hs.1
  have h4 := hs.2
  exact ⟨K.kat, by omega, by omega, by rw [K.lat]; omega, fun q hq => M.pa s q hs hq⟩
/-- mind: true takes the mind's weights alone, false the law's -/
theorem S216 {g : KG} {h : KH} {A : St} (K : MK g h) (M : MS (h 139) A) (O : A.Ok) {s m : Int} (hs : ins A s) {d : Nat} {Q : Option KV → KG → KH → Prop} (hQ : Q (some (xL (A.prod (if m = 0 then A.nq else 0) (A.pa s)))) g h) : Cl (d + 4) 216 [xR 138, xI s, xI m] g h Q := by
  have h1 := O.nq
  have h2 := O.ns
  have h3 := hs.1
  have h4 := hs.2
  have hr := row_of K M O hs
  simp (disch := omega) only [E216, B216_9, B216_23, B216_26, E215, w32_id, K.k0, K.pat, true_and, o1, List.cons_append, List.nil_append]
  by_cases hm : m = 0
  · rw [if_pos hm] at hQ
    rw [if_pos hm, ga ⟨K.kat, by decide, by rw [K.lat]; decide⟩, M.nq]
    refine S214 K M O (O.pa s hs) hr ?_
    simp only [E216, B216_9, B216_23, B216_26, o1, List.cons_append, List.nil_append]
    exact hQ
  · rw [if_neg hm] at hQ
    rw [if_neg hm]
    refine S214 K M O (O.pa s hs) hr ?_
    simp only [E216, B216_9, B216_23, B216_26, o1, List.cons_append, List.nil_append]
    exact hQ

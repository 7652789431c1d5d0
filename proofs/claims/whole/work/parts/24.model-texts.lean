
section TAB
variable {p : Program} {l : Launch} {e : Env} {R : Room} {s : State} {m : MethodId} {args : Array Value} {below : List Frame} {meth : Method} {c : Code} {H : Heap} {locs : List Loc} {cells slots : Nat} {Q : State → Prop}
variable {cc : ByteArray} {pc : Nat} {ls : Array Slot} {rest : List Value}
theorem n_tabOut (hx : p.tables.exec = Jvm.exec) (hb : c.code = cc) {dflt lo hi : Int} {offs : Array Int} {len : Nat} {a : Nat} {tgt : Nat} (hdg : decode cc pc = .ok (.tableswitch dflt lo hi offs, len)) (ha : a < 2147483648) (h : (a : Int) < lo ∨ hi < (a : Int)) (ht : (pc : Int) + dflt = (tgt : Int))
    (k : W p l e R s m args below meth c H locs cells slots Q (F0 m tgt ls rest)) : W p l e R s m args below meth c H locs cells slots Q (F0 m pc ls (.int (nI a) :: rest)) := lv_tableOut hx hb hdg (by rw [nI_toInt (by omega)]; exact h) ht k
theorem n_tabIn (hx : p.tables.exec = Jvm.exec) (hb : c.code = cc) {dflt lo hi : Int} {offs : Array Int} {len : Nat} {a v : Nat} {off : Int} {tgt : Nat} (hdg : decode cc pc = .ok (.tableswitch dflt lo hi offs, len)) (hv : a = v) (h1 : ¬ (nI v).toInt < lo) (h2 : ¬ hi < (nI v).toInt) (ho : offs[((nI v).toInt - lo).toNat]? = some off) (ht : (pc : Int) + off = (tgt : Int))
    (k : W p l e R s m args below meth c H locs cells slots Q (F0 m tgt ls rest)) : W p l e R s m args below meth c H locs cells slots Q (F0 m pc ls (.int (nI a) :: rest)) := by
  subst hv
  exact lv_tableIn hx hb hdg h1 h2 ho ht k
end TAB
theorem inLe {t a b : Nat} (ht : t < 2147483648) (ha : a < 2147483648) (hb : b < 2147483648) : decide (lN a ≤ lN t ∧ lN t ≤ lN b) = decide (a ≤ t ∧ t ≤ b) := by
  apply decide_eq_decide.mpr
  rw [lN_le (by omega) (by omega), lN_le (by omega) (by omega)]
theorem in26_0 {n : Nat} (hn : n < 2147483648) (h : decide (lN 2 ≤ lN n ∧ lN n ≤ lN 6) = false) : ¬ (2 ≤ n ∧ n ≤ 6) := by
  rw [inLe hn (by omega) (by omega), decide_eq_false_iff_not] at h
  exact h
theorem in26_1 {n : Nat} (hn : n < 2147483648) (h : decide (lN 2 ≤ lN n ∧ lN n ≤ lN 6) = true) : 2 ≤ n ∧ n ≤ 6 := by
  rw [inLe hn (by omega) (by omega), decide_eq_true_eq] at h
  exact h
theorem in12_0 {n : Nat} (hn : n < 2147483648) (h : decide (lN 1 ≤ lN n ∧ lN n ≤ lN 2) = false) : n = 0 ∨ 3 ≤ n := by
  rw [inLe hn (by omega) (by omega), decide_eq_false_iff_not] at h
  omega
theorem in12_1 {n : Nat} (hn : n < 2147483648) (h : decide (lN 1 ≤ lN n ∧ lN n ≤ lN 2) = true) : 1 ≤ n ∧ n ≤ 2 := by
  rw [inLe hn (by omega) (by omega), decide_eq_true_eq] at h
  exact h
/-! a text: is there a figure, is there a sign; a number and how wide it is; numbers parted -/
def dgB (tx : Nat → Nat) (z p : Nat) : Bool := decide (p < z ∧ 48 ≤ tx p ∧ tx p ≤ 57)
def ctB (tx : Nat → Nat) (z p c : Nat) : Bool := decide (p < z ∧ tx p = c)
def rnW (tx : Nat → Nat) (z p : Nat) : Nat := if dgB tx z (p + 1) = true then 2 else 1
def rnB (tx : Nat → Nat) (z p c : Nat) : Bool := dgB tx z p && ctB tx z (p + rnW tx z p) c
def rnV (tx : Nat → Nat) (z p : Nat) : Nat := if dgB tx z (p + 1) = true then 10 * (tx p - 48) + (tx (p + 1) - 48) else tx p - 48
def npN (tx : Nat → Nat) (z p : Nat) : Nat → Nat
  | 0 => p
  | k + 1 => npN tx z p k + rnW tx z (npN tx z p k) + 1
def spN (m k : Nat) : Nat := if k + 1 < m then 44 else 59
def nbB (tx : Nat → Nat) (z p m : Nat) : Nat → Bool
  | 0 => true
  | k + 1 => nbB tx z p m k && rnB tx z (npN tx z p k) (spN m k)
def vlN (tx : Nat → Nat) (p : Nat) : Nat → Nat
  | 0 => 0
  | 1 => tx p - 48
  | _ + 2 => 10 * (tx p - 48) + (tx (p + 1) - 48)
section TXR
variable {tx : Nat → Nat} {z p c n k v m a : Nat}
theorem dg_0 (h : z ≤ p) : dgB tx z p = false := by simp only [dgB, decide_eq_false_iff_not]; omega
theorem dg_1 (ht : tx p < 2147483648) (h : decide (lN 48 ≤ lN (tx p) ∧ lN (tx p) ≤ lN 57) = false) : dgB tx z p = false := by
  rw [inLe ht (by omega) (by omega), decide_eq_false_iff_not] at h
  simp only [dgB, decide_eq_false_iff_not]; omega
theorem dg_2 (ht : tx p < 2147483648) (hp : p < z) (h : decide (lN 48 ≤ lN (tx p) ∧ lN (tx p) ≤ lN 57) = true) : dgB tx z p = true := by
  rw [inLe ht (by omega) (by omega), decide_eq_true_eq] at h
  simp only [dgB, decide_eq_true_eq]; omega
theorem dg_48 (h : dgB tx z p = true) : p < z ∧ 48 ≤ tx p ∧ tx p ≤ 57 := by simpa [dgB] using h
theorem cx_0 (h : z ≤ p) : ctB tx z p c = false := by simp only [ctB, decide_eq_false_iff_not]; omega
theorem cx_1 (h : tx p ≠ c) : ctB tx z p c = false := by simp only [ctB, decide_eq_false_iff_not]; omega
theorem cx_2 (h : p < z) (h2 : tx p = c) : ctB tx z p c = true := by simp only [ctB, decide_eq_true_eq]; omega
theorem cx_lt (h : ctB tx z p c = true) : p < z := by
  simp only [ctB, decide_eq_true_eq] at h; exact h.1
theorem vl_le (htx : ∀ j, tx j < 128) (a : Nat) : ∀ m, vlN tx a m ≤ 1000
  | 0 => by simp [vlN]
  | 1 => by have := htx a; simp only [vlN]; omega
  | _ + 2 => by have h1 := htx a; have h2 := htx (a + 1); simp only [vlN]; omega
theorem vl_s2 {b : Nat} (hv : v = vlN tx a m) (hm : m < 2) (hb : b = a + m) (h : b < z ∧ 48 ≤ tx b ∧ tx b ≤ 57) : 10 * v + tx b - 48 = vlN tx a (m + 1) := by
  rcases (show m = 0 ∨ m = 1 by omega) with rfl | rfl
  · subst hb; simp [hv, vlN]
  · subst hb; simp only [hv, vlN]; omega
theorem vl_s3 (hv : v = vlN tx a m) (hm : 2 ≤ m) : v = vlN tx a (m + 1) := by
  obtain ⟨j, rfl⟩ : ∃ j, m = j + 2 := ⟨m - 2, by omega⟩
  exact hv
theorem dg_s (h : ∀ j, j < m → dgB tx z (a + j) = true) (h2 : dgB tx z (a + m) = true) : ∀ j, j < m + 1 → dgB tx z (a + j) = true := by
  intro j hj
  by_cases he : j = m
  · subst he; exact h2
  · exact h j (by omega)
theorem sp_or (n k : Nat) : spN n k = 44 ∨ spN n k = 59 := by simp only [spN]; split <;> omega
theorem rn_f1 (h : ∀ j, j < m → dgB tx z (a + j) = true) (h2 : dgB tx z (a + m) = false) (h3 : m = 0 ∨ 3 ≤ m) : rnB tx z a (spN n k) = false := by
  rcases h3 with rfl | h3
  · simp only [rnB]; rw [show dgB tx z a = false from h2]; rfl
  · have h4 := h 1 (by omega)
    have h5 := dg_48 (h 2 (by omega))
    have h6 : ctB tx z (a + 2) (spN n k) = false := cx_1 (by have := sp_or n k; omega)
    simp only [rnB, rnW]; rw [if_pos h4, h6, Bool.and_false]
theorem rn_w (h : ∀ j, j < m → dgB tx z (a + j) = true) (h2 : dgB tx z (a + m) = false) (h3 : 1 ≤ m) (h4 : m ≤ 2) : dgB tx z a = true ∧ rnW tx z a = m ∧ rnV tx z a = vlN tx a m := by
  refine ⟨h 0 (by omega), ?_⟩
  rcases (show m = 1 ∨ m = 2 by omega) with rfl | rfl
  · simp only [rnW, rnV, h2]; exact ⟨rfl, rfl⟩
  · have h5 := h 1 (by omega)
    simp only [rnW, rnV, h5]; exact ⟨rfl, rfl⟩
theorem rn_f2 (h : ∀ j, j < m → dgB tx z (a + j) = true) (h2 : dgB tx z (a + m) = false) (h3 : 1 ≤ m) (h4 : m ≤ 2) (h5 : ctB tx z (a + m) c = false) : rnB tx z a c = false := by
  have hw := rn_w h h2 h3 h4
  simp only [rnB]; rw [hw.2.1, h5, Bool.and_false]
theorem rn_t (h : ∀ j, j < m → dgB tx z (a + j) = true) (h2 : dgB tx z (a + m) = false) (h3 : 1 ≤ m) (h4 : m ≤ 2) (h5 : ctB tx z (a + m) c = true) : rnB tx z a c = true ∧ a + rnW tx z a + 1 = a + m + 1 ∧ rnV tx z a = vlN tx a m := by
  have hw := rn_w h h2 h3 h4
  refine ⟨?_, by rw [hw.2.1], hw.2.2⟩
  simp only [rnB]; rw [hw.2.1, h5, hw.1]; rfl
theorem nb_s (h : nbB tx z p n k = true) (h2 : rnB tx z (npN tx z p k) (spN n k) = true) : nbB tx z p n (k + 1) = true := by simp only [nbB, h, h2]; rfl
theorem nb_m : ∀ n2 k2, k2 ≤ n2 → nbB tx z p n k2 = false → nbB tx z p n n2 = false
  | 0, k2, h, hf => by rw [show k2 = 0 by omega] at hf; exact hf
  | n2 + 1, k2, h, hf => by
    by_cases hk : k2 = n2 + 1
    · rw [← hk]; exact hf
    · simp only [nbB, nb_m n2 k2 (by omega) hf, Bool.false_and]
theorem nb_f (hk : k < n) (h : rnB tx z (npN tx z p k) (spN n k) = false) : nbB tx z p n n = false := nb_m n (k + 1) hk (by simp only [nbB, h, Bool.and_false])
theorem nb_g {g : Nat → Nat} (h : ∀ j, j < k → g j = rnV tx z (npN tx z p j)) (h2 : rnV tx z (npN tx z p k) = v) : ∀ j, j < k + 1 → up1 g k v j = rnV tx z (npN tx z p j) := by
  intro j hj
  by_cases he : j = k
  · subst he; rw [up1_s, h2]
  · rw [up1_n he]; exact h j (by omega)
theorem nb_t (h : nbB tx z p n m = true) : ∀ j, j < m → rnB tx z (npN tx z p j) (spN n j) = true := by
  intro j hj
  cases hb : rnB tx z (npN tx z p j) (spN n j) with
  | true => rfl
  | false =>
    have h1 := nb_m m (j + 1) hj (show nbB tx z p n (j + 1) = false by simp only [nbB, hb, Bool.and_false])
    rw [h] at h1; exact absurd h1 (by decide)
theorem nb_v (h : nbB tx z p n m = true) (j : Nat) (hj : j < m) : rnV tx z (npN tx z p j) ≤ 99 := by
  have h1 := nb_t h j hj
  simp only [rnB, Bool.and_eq_true] at h1
  have h2 := dg_48 h1.1
  simp only [rnV]
  split
  · rename_i h3
    have h4 := dg_48 h3
    omega
  · omega
theorem nb_le (h : nbB tx z p n m = true) (hm : 1 ≤ m) : npN tx z p m ≤ z := by
  obtain ⟨j, rfl⟩ : ∃ j, m = j + 1 := ⟨m - 1, by omega⟩
  have h1 := nb_t h j (by omega)
  simp only [rnB, Bool.and_eq_true] at h1
  have h2 := cx_lt h1.2
  simp only [npN]; omega
theorem np_ge (tx : Nat → Nat) (z p : Nat) : ∀ m, p ≤ npN tx z p m
  | 0 => Nat.le_refl _
  | m + 1 => by have := np_ge tx z p m; simp only [npN]; omega
end TXR
/-! what the items make of the row -/
def clN : Nat → Nat := fun j => if j = 3 then 1 else if j = 4 then 60 else 0
def wrdN (rd : Nat → Nat) (x y w : Nat) : Nat → Nat := up1 (up1 (up1 (up1 rd (5 + rd 0) x) (9 + rd 0) y) (13 + rd 0) w) 0 (rd 0 + 1)
def prdN (rd : Nat → Nat) (x y w v : Nat) : Nat → Nat := up1 (up1 (up1 (up1 (up1 rd (22 + rd 2) x) (30 + rd 2) y) (38 + rd 2) w) (46 + rd 2) v) 2 (rd 2 + 1)
def srdN (rd : Nat → Nat) (x : Nat) : Nat → Nat := up1 (up1 rd (17 + rd 1) x) 1 (rd 1 + 1)
theorem cl_s {g : Nat → Nat} {k : Nat} (h : ∀ j, j < k → g j = 0) : ∀ j, j < k + 1 → up1 g k 0 j = 0 := by
  intro j hj
  by_cases he : j = k
  · subst he; rw [up1_s]
  · rw [up1_n he]; exact h j (by omega)
theorem cy_s {g f : Nat → Nat} {k : Nat} (h : ∀ j, j < k → g j = f j) : ∀ j, j < k + 1 → up1 g k (f k) j = f j := by
  intro j hj
  by_cases he : j = k
  · subst he; rw [up1_s]
  · rw [up1_n he]; exact h j (by omega)
theorem cl_e {g : Nat → Nat} {k : Nat} (hk : k = 54) (h : ∀ j, j < k → g j = 0) : ∀ j, j < 54 → up1 (up1 g 3 1) 4 60 j = clN j := by
  intro j hj
  simp only [clN]
  by_cases h4 : j = 4
  · subst h4; rw [up1_s]; rfl
  · rw [up1_n h4]
    by_cases h3 : j = 3
    · subst h3; rw [up1_s]; rfl
    · rw [up1_n h3, if_neg h3, if_neg h4]; exact h j (by omega)
theorem wrd_e {rd : Nat → Nat} {x y w : Nat} (h : rd 0 < 4) : up1 (up1 (up1 (up1 rd (5 + rd 0) x) (9 + rd 0) y) (13 + rd 0) w) 0 ((up1 (up1 (up1 rd (5 + rd 0) x) (9 + rd 0) y) (13 + rd 0) w) 0 + 1) = wrdN rd x y w := by
  rw [up1_n (by omega), up1_n (by omega), up1_n (by omega)]; rfl
theorem prd_e {rd : Nat → Nat} {x y w v : Nat} : up1 (up1 (up1 (up1 (up1 rd (22 + rd 2) x) (30 + rd 2) y) (38 + rd 2) w) (46 + rd 2) v) 2 ((up1 (up1 (up1 (up1 rd (22 + rd 2) x) (30 + rd 2) y) (38 + rd 2) w) (46 + rd 2) v) 2 + 1) = prdN rd x y w v := by
  rw [up1_n (by omega), up1_n (by omega), up1_n (by omega), up1_n (by omega)]; rfl
theorem srd_e {rd : Nat → Nat} {x : Nat} : up1 (up1 rd (17 + rd 1) x) 1 ((up1 rd (17 + rd 1) x) 1 + 1) = srdN rd x := by
  rw [up1_n (by omega)]; rfl
/-- a row is told rightly so far -/
def BxW (bx : Nat → Nat) : Prop := bx 0 ≤ 4 ∧ (bx 1 ≤ 5 ∧ bx 2 ≤ 8 ∧ bx 3 ≤ 9 ∧ bx 4 ≤ 99) ∧ (∀ i, i < bx 0 → 2 ≤ bx (5 + i) ∧ bx (5 + i) ≤ 6 ∧ bx (9 + i) < bx (5 + i) ∧ bx (13 + i) < bx (5 + i)) ∧ (∀ p, p < bx 1 → bx (17 + p) < 32) ∧
  (∀ k, k < bx 2 → bx (22 + k) < bx 0 ∧ bx (30 + k) < bx (5 + bx (22 + k)) ∧ bx (38 + k) < bx 0 ∧ bx (46 + k) < bx (5 + bx (38 + k)) ∧ bx (22 + k) ≠ bx (38 + k)) ∧ ∀ j, bx j < 1000
theorem BxW.w {bx : Nat → Nat} (h : BxW bx) : bx 0 ≤ 4 := h.1
theorem BxW.n {bx : Nat → Nat} (h : BxW bx) : bx 1 ≤ 5 ∧ bx 2 ≤ 8 ∧ bx 3 ≤ 9 ∧ bx 4 ≤ 99 := h.2.1
theorem BxW.bd {bx : Nat → Nat} (h : BxW bx) (j : Nat) : bx j < 1000 := h.2.2.2.2.2 j
theorem BxW.ok {bx : Nat → Nat} (h : BxW bx) (h1 : 1 ≤ bx 0) : BxOk bx := ⟨⟨h1, h.1⟩, h.2⟩
theorem cl_w : BxW clN := by
  refine ⟨by decide, by decide, ?_, ?_, ?_, ?_⟩
  · intro i hi; exact absurd hi (Nat.not_lt_zero i)
  · intro i hi; exact absurd hi (Nat.not_lt_zero i)
  · intro i hi; exact absurd hi (Nat.not_lt_zero i)
  · intro j
    simp only [clN]
    split
    · omega
    · split <;> omega
def tltB (rd : Nat → Nat) (i t : Nat) : Bool := decide (i < rd 0 ∧ t < rd (5 + i))
theorem tlt_1 {rd : Nat → Nat} {i t : Nat} (h : i < rd 0) (h2 : t < rd (5 + i)) : tltB rd i t = true := by simp [tltB, h, h2]
theorem tlt_0 {rd : Nat → Nat} {i t : Nat} (h : rd 0 ≤ i) : tltB rd i t = false := by simp only [tltB, decide_eq_false_iff_not]; omega
theorem tlt_2 {rd : Nat → Nat} {i t : Nat} (h : rd (5 + i) ≤ t) : tltB rd i t = false := by simp only [tltB, decide_eq_false_iff_not]; omega
def wokB (rd : Nat → Nat) (a b c : Nat) : Bool := decide (2 ≤ a ∧ a ≤ 6 ∧ b < a ∧ c < a ∧ rd 0 ≠ 4)
def pokB (rd : Nat → Nat) (a b c d : Nat) : Bool := tltB rd a b && tltB rd c d && !decide (a = c) && !decide (rd 2 = 8)
def sokB (rd : Nat → Nat) (a : Nat) : Bool := decide (a ≤ 31 ∧ rd 1 ≠ 5)
def ookB (a : Nat) : Bool := decide (a ≤ 9)
/-- an item of a kind, with its numbers: is it so, what the row is then, how many numbers -/
def tkB (rd : Nat → Nat) (k : Nat) (v : Nat → Nat) : Bool := if k = 119 then wokB rd (v 0) (v 1) (v 2) else if k = 120 then pokB rd (v 0) (v 1) (v 2) (v 3) else if k = 112 then sokB rd (v 0) else if k = 111 then ookB (v 0) else false
def tkR (rd : Nat → Nat) (k : Nat) (v : Nat → Nat) : Nat → Nat := if k = 119 then wrdN rd (v 0) (v 1) (v 2) else if k = 120 then prdN rd (v 0) (v 1) (v 2) (v 3) else if k = 112 then srdN rd (v 0) else if k = 111 then up1 (up1 rd 3 (v 0)) 4 (v 1) else rd
def nmO (k : Nat) : Nat := if k = 119 then 3 else if k = 120 then 4 else if k = 112 then 1 else if k = 111 then 2 else 0
def itB (tx : Nat → Nat) (z p : Nat) (rd : Nat → Nat) : Bool := nbB tx z (p + 1) (nmO (tx p)) (nmO (tx p)) && tkB rd (tx p) (fun j_ => rnV tx z (npN tx z (p + 1) j_))
def itR (tx : Nat → Nat) (z p : Nat) (rd : Nat → Nat) : Nat → Nat := tkR rd (tx p) (fun j_ => rnV tx z (npN tx z (p + 1) j_))
def itP (tx : Nat → Nat) (z p : Nat) : Nat := npN tx z (p + 1) (nmO (tx p))
/-- the fault of a text from p on, and the row behind what is taken -/
def fxN (tx : Nat → Nat) (z : Nat) : Nat → Nat → (Nat → Nat) → Int32 × (Nat → Nat)
  | 0, _, rd => (-4, rd)
  | n + 1, p, rd => if p < z then (if itB tx z p rd = true then fxN tx z n (itP tx z p) (itR tx z p rd) else (nI p, rd)) else (-4, rd)
section ITR
variable {tx rd : Nat → Nat} {z p n k : Nat}
theorem it_o (h : tx p < 111 ∨ 120 < tx p ∨ (112 < tx p ∧ tx p < 119)) : itB tx z p rd = false := by
  simp only [itB, tkB]
  rw [if_neg (by omega), if_neg (by omega), if_neg (by omega), if_neg (by omega), Bool.and_false]
theorem it_k (h : tx p = k) : itB tx z p rd = (nbB tx z (p + 1) (nmO k) (nmO k) && tkB rd k (fun j_ => rnV tx z (npN tx z (p + 1) j_))) ∧ itP tx z p = npN tx z (p + 1) (nmO k) ∧ itR tx z p rd = tkR rd k (fun j_ => rnV tx z (npN tx z (p + 1) j_)) := by
  subst h; exact ⟨rfl, rfl, rfl⟩
theorem nmO_le (k : Nat) : nmO k ≤ 4 := by
  simp only [nmO]; split
  · omega
  · split
    · omega
    · split
      · omega
      · split <;> omega
theorem tk_nm {v : Nat → Nat} (h : tkB rd k v = true) : 1 ≤ nmO k := by
  simp only [tkB] at h
  simp only [nmO]
  split
  · omega
  · split
    · omega
    · split
      · omega
      · split
        · omega
        · simp_all
theorem it_le (h : itB tx z p rd = true) : itP tx z p ≤ z := by
  simp only [itB, Bool.and_eq_true] at h
  exact nb_le h.1 (tk_nm h.2)
theorem it_gt (tx : Nat → Nat) (z p : Nat) : p + 1 ≤ itP tx z p := np_ge tx z (p + 1) _
theorem up_w {x j : Nat} (hx : x < 1000) (i : Nat) (h : rd j < 1000) : up1 rd i x j < 1000 := by
  simp only [up1]; split <;> omega
theorem wrd_w {x y w : Nat} (hW : BxW rd) (h : wokB rd x y w = true) : BxW (wrdN rd x y w) := by
  simp only [wokB, decide_eq_true_eq] at h
  have hw := hW.w
  have hn := hW.n
  have e : ∀ j, j ≠ 0 → j ≠ 5 + rd 0 → j ≠ 9 + rd 0 → j ≠ 13 + rd 0 → wrdN rd x y w j = rd j := by
    intro j h1 h2 h3 h4
    simp only [wrdN]; rw [up1_n h1, up1_n h4, up1_n h3, up1_n h2]
  have e0 : wrdN rd x y w 0 = rd 0 + 1 := by simp only [wrdN]; rw [up1_s]
  have e1 : wrdN rd x y w (5 + rd 0) = x := by simp only [wrdN]; rw [up1_n (by omega), up1_n (by omega), up1_n (by omega), up1_s]
  have e2 : wrdN rd x y w (9 + rd 0) = y := by simp only [wrdN]; rw [up1_n (by omega), up1_n (by omega), up1_s]
  have e3 : wrdN rd x y w (13 + rd 0) = w := by simp only [wrdN]; rw [up1_n (by omega), up1_s]
  refine ⟨by rw [e0]; omega, ?_, ?_, ?_, ?_, ?_⟩
  · rw [e 1 (by omega) (by omega) (by omega) (by omega), e 2 (by omega) (by omega) (by omega) (by omega), e 3 (by omega) (by omega) (by omega) (by omega), e 4 (by omega) (by omega) (by omega) (by omega)]; exact hn
  · intro i hi
    rw [e0] at hi
    by_cases he : i = rd 0
    · subst he; rw [e1, e2, e3]; omega
    · rw [e _ (by omega) (by omega) (by omega) (by omega), e _ (by omega) (by omega) (by omega) (by omega), e _ (by omega) (by omega) (by omega) (by omega)]
      exact hW.2.2.1 i (by omega)
  · intro i hi
    rw [e 1 (by omega) (by omega) (by omega) (by omega)] at hi
    rw [e _ (by omega) (by omega) (by omega) (by omega)]
    exact hW.2.2.2.1 i hi
  · intro i hi
    rw [e 2 (by omega) (by omega) (by omega) (by omega)] at hi
    have hp := hW.2.2.2.2.1 i hi
    rw [e0, e (22 + i) (by omega) (by omega) (by omega) (by omega), e (30 + i) (by omega) (by omega) (by omega) (by omega), e (38 + i) (by omega) (by omega) (by omega) (by omega), e (46 + i) (by omega) (by omega) (by omega) (by omega), e (5 + rd (22 + i)) (by omega) (by omega) (by omega) (by omega), e (5 + rd (38 + i)) (by omega) (by omega) (by omega) (by omega)]
    omega
  · intro j
    simp only [wrdN]
    exact up_w (by omega) _ (up_w (by omega) _ (up_w (by omega) _ (up_w (by omega) _ (hW.bd j))))
theorem prd_w {x y w v : Nat} (hW : BxW rd) (h : pokB rd x y w v = true) : BxW (prdN rd x y w v) := by
  simp only [pokB, tltB, Bool.and_eq_true, decide_eq_true_eq, Bool.not_eq_true', decide_eq_false_iff_not] at h
  have hw := hW.w
  have hn := hW.n
  have hb1 := hW.bd (5 + x)
  have hb2 := hW.bd (5 + w)
  have e : ∀ j, j ≠ 2 → j ≠ 22 + rd 2 → j ≠ 30 + rd 2 → j ≠ 38 + rd 2 → j ≠ 46 + rd 2 → prdN rd x y w v j = rd j := by
    intro j h1 h2 h3 h4 h5
    simp only [prdN]; rw [up1_n h1, up1_n h5, up1_n h4, up1_n h3, up1_n h2]
  have e0 : prdN rd x y w v 2 = rd 2 + 1 := by simp only [prdN]; rw [up1_s]
  have e1 : prdN rd x y w v (22 + rd 2) = x := by simp only [prdN]; rw [up1_n (by omega), up1_n (by omega), up1_n (by omega), up1_n (by omega), up1_s]
  have e2 : prdN rd x y w v (30 + rd 2) = y := by simp only [prdN]; rw [up1_n (by omega), up1_n (by omega), up1_n (by omega), up1_s]
  have e3 : prdN rd x y w v (38 + rd 2) = w := by simp only [prdN]; rw [up1_n (by omega), up1_n (by omega), up1_s]
  have e4 : prdN rd x y w v (46 + rd 2) = v := by simp only [prdN]; rw [up1_n (by omega), up1_s]
  have e5 : ∀ j, j < 22 → j ≠ 2 → prdN rd x y w v j = rd j := fun j h1 h2 => e j h2 (by omega) (by omega) (by omega) (by omega)
  refine ⟨by rw [e5 0 (by omega) (by omega)]; exact hw, ?_, ?_, ?_, ?_, ?_⟩
  · rw [e5 1 (by omega) (by omega), e0, e5 3 (by omega) (by omega), e5 4 (by omega) (by omega)]; omega
  · intro i hi
    rw [e5 0 (by omega) (by omega)] at hi
    rw [e5 _ (by omega) (by omega), e5 _ (by omega) (by omega), e5 _ (by omega) (by omega)]
    exact hW.2.2.1 i hi
  · intro i hi
    rw [e5 1 (by omega) (by omega)] at hi
    rw [e5 _ (by omega) (by omega)]
    exact hW.2.2.2.1 i hi
  · intro i hi
    rw [e0] at hi
    rw [e5 0 (by omega) (by omega)]
    by_cases he : i = rd 2
    · subst he; rw [e1, e2, e3, e4, e5 (5 + x) (by omega) (by omega), e5 (5 + w) (by omega) (by omega)]
      exact ⟨h.1.1.1.1, h.1.1.1.2, h.1.1.2.1, h.1.1.2.2, h.1.2⟩
    · have hp := hW.2.2.2.2.1 i (by omega)
      rw [e (22 + i) (by omega) (by omega) (by omega) (by omega) (by omega), e (30 + i) (by omega) (by omega) (by omega) (by omega) (by omega), e (38 + i) (by omega) (by omega) (by omega) (by omega) (by omega), e (46 + i) (by omega) (by omega) (by omega) (by omega) (by omega), e5 (5 + rd (22 + i)) (by omega) (by omega), e5 (5 + rd (38 + i)) (by omega) (by omega)]
      exact hp
  · intro j
    simp only [prdN]
    exact up_w (by omega) _ (up_w (by omega) _ (up_w (by omega) _ (up_w (by omega) _ (up_w (by omega) _ (hW.bd j)))))
theorem srd_w {x : Nat} (hW : BxW rd) (h : sokB rd x = true) : BxW (srdN rd x) := by
  simp only [sokB, decide_eq_true_eq] at h
  have hw := hW.w
  have hn := hW.n
  have e : ∀ j, j ≠ 1 → j ≠ 17 + rd 1 → srdN rd x j = rd j := by
    intro j h1 h2
    simp only [srdN]; rw [up1_n h1, up1_n h2]
  have e0 : srdN rd x 1 = rd 1 + 1 := by simp only [srdN]; rw [up1_s]
  have e1 : srdN rd x (17 + rd 1) = x := by simp only [srdN]; rw [up1_n (by omega), up1_s]
  refine ⟨by rw [e 0 (by omega) (by omega)]; exact hw, ?_, ?_, ?_, ?_, ?_⟩
  · rw [e0, e 2 (by omega) (by omega), e 3 (by omega) (by omega), e 4 (by omega) (by omega)]; omega
  · intro i hi
    rw [e 0 (by omega) (by omega)] at hi
    rw [e _ (by omega) (by omega), e _ (by omega) (by omega), e _ (by omega) (by omega)]
    exact hW.2.2.1 i hi
  · intro i hi
    rw [e0] at hi
    by_cases he : i = rd 1
    · subst he; rw [e1]; omega
    · rw [e _ (by omega) (by omega)]
      exact hW.2.2.2.1 i (by omega)
  · intro i hi
    rw [e 2 (by omega) (by omega)] at hi
    have hp := hW.2.2.2.2.1 i hi
    rw [e 0 (by omega) (by omega), e (22 + i) (by omega) (by omega), e (30 + i) (by omega) (by omega), e (38 + i) (by omega) (by omega), e (46 + i) (by omega) (by omega), e (5 + rd (22 + i)) (by omega) (by omega), e (5 + rd (38 + i)) (by omega) (by omega)]
    exact hp
  · intro j
    simp only [srdN]
    exact up_w (by omega) _ (up_w (by omega) _ (hW.bd j))
theorem ord_w {x y : Nat} (hW : BxW rd) (h : ookB x = true) (hy : y ≤ 99) : BxW (up1 (up1 rd 3 x) 4 y) := by
  simp only [ookB, decide_eq_true_eq] at h
  have hw := hW.w
  have hn := hW.n
  have e : ∀ j, j ≠ 3 → j ≠ 4 → up1 (up1 rd 3 x) 4 y j = rd j := by
    intro j h1 h2
    rw [up1_n h2, up1_n h1]
  have e3 : up1 (up1 rd 3 x) 4 y 3 = x := by rw [up1_n (by omega), up1_s]
  have e4 : up1 (up1 rd 3 x) 4 y 4 = y := up1_s _ _ _
  refine ⟨by rw [e 0 (by omega) (by omega)]; exact hw, ?_, ?_, ?_, ?_, ?_⟩
  · rw [e3, e4, e 1 (by omega) (by omega), e 2 (by omega) (by omega)]; omega
  · intro i hi
    rw [e 0 (by omega) (by omega)] at hi
    rw [e _ (by omega) (by omega), e _ (by omega) (by omega), e _ (by omega) (by omega)]
    exact hW.2.2.1 i hi
  · intro i hi
    rw [e 1 (by omega) (by omega)] at hi
    rw [e _ (by omega) (by omega)]
    exact hW.2.2.2.1 i hi
  · intro i hi
    rw [e 2 (by omega) (by omega)] at hi
    have hp := hW.2.2.2.2.1 i hi
    rw [e 0 (by omega) (by omega), e (22 + i) (by omega) (by omega), e (30 + i) (by omega) (by omega), e (38 + i) (by omega) (by omega), e (46 + i) (by omega) (by omega), e (5 + rd (22 + i)) (by omega) (by omega), e (5 + rd (38 + i)) (by omega) (by omega)]
    exact hp
  · intro j
    exact up_w (by omega) _ (up_w (by omega) _ (hW.bd j))
theorem tk_w {v : Nat → Nat} (hW : BxW rd) (h : tkB rd k v = true) (hv : ∀ j, j < nmO k → v j ≤ 99) : BxW (tkR rd k v) := by
  simp only [tkB] at h
  simp only [tkR]
  simp only [nmO] at hv
  by_cases h1 : k = 119
  · rw [if_pos h1] at h ⊢; exact wrd_w hW h
  · rw [if_neg h1] at h hv ⊢
    by_cases h2 : k = 120
    · rw [if_pos h2] at h ⊢; exact prd_w hW h
    · rw [if_neg h2] at h hv ⊢
      by_cases h3 : k = 112
      · rw [if_pos h3] at h ⊢; exact srd_w hW h
      · rw [if_neg h3] at h hv ⊢
        by_cases h4 : k = 111
        · rw [if_pos h4] at h hv ⊢; exact ord_w hW h (hv 1 (by omega))
        · rw [if_neg h4] at h; exact absurd h (by decide)
theorem it_w (hW : BxW rd) (_ : ∀ j, tx j < 128) (h : itB tx z p rd = true) : BxW (itR tx z p rd) := by
  simp only [itB, Bool.and_eq_true] at h
  exact tk_w hW h.2 (fun j hj => nb_v h.1 j hj)
theorem fx_w (htx : ∀ j, tx j < 128) (z : Nat) : ∀ n p (rd : Nat → Nat), BxW rd → BxW (fxN tx z n p rd).2
  | 0, _, rd, h => h
  | n + 1, p, rd, h => by
    simp only [fxN]
    split
    · split
      · rename_i h2
        exact fx_w htx z n _ _ (it_w h htx h2)
      · exact h
    · exact h
theorem fx_s (hn : 0 < n) (hp : p < z) (h : itB tx z p rd = true) : fxN tx z (n - 1) (itP tx z p) (itR tx z p rd) = fxN tx z n p rd := by
  obtain ⟨m, rfl⟩ : ∃ m, n = m + 1 := ⟨n - 1, by omega⟩
  simp only [fxN]; rw [if_pos hp, if_pos h]; rfl
theorem fx_e (hn : 0 < n) (hp : z ≤ p) : (-4 : Int32) = (fxN tx z n p rd).1 := by
  obtain ⟨m, rfl⟩ : ∃ m, n = m + 1 := ⟨n - 1, by omega⟩
  simp only [fxN]; rw [if_neg (by omega)]
theorem fx_r (hn : 0 < n) (hp : z ≤ p) : rd = (fxN tx z n p rd).2 := by
  obtain ⟨m, rfl⟩ : ∃ m, n = m + 1 := ⟨n - 1, by omega⟩
  simp only [fxN]; rw [if_neg (by omega)]
theorem fx_f (hn : 0 < n) (hp : p < z) (h : itB tx z p rd = false) : nI p = (fxN tx z n p rd).1 := by
  obtain ⟨m, rfl⟩ : ∃ m, n = m + 1 := ⟨n - 1, by omega⟩
  simp only [fxN]; rw [if_pos hp, if_neg (by rw [h]; decide)]
theorem fx_q (hn : 0 < n) (hp : p < z) (h : itB tx z p rd = false) : rd = (fxN tx z n p rd).2 := by
  obtain ⟨m, rfl⟩ : ∃ m, n = m + 1 := ⟨n - 1, by omega⟩
  simp only [fxN]; rw [if_pos hp, if_neg (by rw [h]; decide)]
end ITR
/-- how a box stands that begins -/
def stN (bx : Nat → Nat) : Nat → Nat := fun j => if 4 ≤ j ∧ j < 12 then bx (j + 5) else 0
def sbN (rd : Nat → Nat) (k : Nat) : Nat → Nat := fun j => if 4 ≤ j ∧ j < 4 + k ∨ 8 ≤ j ∧ j < 8 + k then rd (j + 5) else 0
theorem sb_0 {g rd : Nat → Nat} {k : Nat} (hk : k = 76) (h : ∀ j, j < k → g j = 0) : ∀ j, j < 76 → g j = sbN rd 0 j := by
  intro j hj
  simp only [sbN]; rw [if_neg (by omega)]; exact h j (by omega)
theorem sb_s {g rd : Nat → Nat} {k : Nat} (hk : k < 4) (h : ∀ j, j < 76 → g j = sbN rd k j) : ∀ j, j < 76 → up1 (up1 g (4 + k) (rd (9 + k))) (8 + k) (rd (13 + k)) j = sbN rd (k + 1) j := by
  intro j hj
  simp only [sbN]
  by_cases h8 : j = 8 + k
  · subst h8; rw [up1_s, if_pos (by omega)]; congr 1; omega
  · rw [up1_n h8]
    by_cases h4 : j = 4 + k
    · subst h4; rw [up1_s, if_pos (by omega)]; congr 1; omega
    · rw [up1_n h4, h j hj]
      simp only [sbN]
      by_cases hc : 4 ≤ j ∧ j < 4 + k ∨ 8 ≤ j ∧ j < 8 + k
      · rw [if_pos hc, if_pos (by omega)]
      · rw [if_neg hc, if_neg (by omega)]
theorem sb_4 (rd : Nat → Nat) (j : Nat) : sbN rd 4 j = stN rd j := by
  simp only [sbN, stN]
  by_cases hc : 4 ≤ j ∧ j < 12
  · rw [if_pos hc, if_pos (by omega)]
  · rw [if_neg hc, if_neg (by omega)]
def lyB (r : Int32 × (Nat → Nat)) : Bool := decide (r.1 = -4) && !decide (r.2 0 = 0)

set_option maxHeartbeats 4000000 in
set_option maxRecDepth 100000 in
theorem k_X7_clean {l : Launch} {D : va_G} {cI cC cB : ClassId} {h : Nat} {q : Nat → Nat} {zmu zmk zmz zms zma zmc : Nat} {rd : Nat → Nat} : MV l yX7_clean cX7_clean 2 none 0 D (Ty3 cI cC cB) [.ref h] [mO h q zmu zmk zmz zms zma zmc, (q 1, .inl (cI, 54, .inl (fun z_ => nI (rd z_))))] (fun (u : va_W) => (u = [mO h q zmu zmk zmz zms zma zmc, (q 1, .inl (cI, 54, .inl (fun z_ => nI (clN z_))))])) := by
  intro sz
  refine MV.walk (by decide +kernel) (Nat.le_of_ble_eq_true rfl) ?_
  intro p e s m args below meth c A Qf hx hb hml hts hown hret hK hP hD hS hA ls hl
  have hown : s.vm.findClass RX7 = some m.cls := hown
  have hl : lv_has ls 2 [(0, .ref h)] := hl
  have hP : va_P D vwCl [mO h q zmu zmk zmz zms zma zmc, (q 1, .inl (cI, 54, .inl (fun z_ => nI (rd z_))))] s.heap := hP
  have hD : va_D A [mO h q zmu zmk zmz zms zma zmc, (q 1, .inl (cI, 54, .inl (fun z_ => nI (rd z_))))] := hD
  refine lv_iconst (v := nI 0) hx hb dX7_clean_0 (by decide) ?_
  refine lv_istore_n (lv' := [(1, .int (nI (0))), (0, .ref h)]) hx hb dX7_clean_1 rfl hl (by decide) rfl (fun ls hl => ?_)
  have loop_2 : ∀ (N : Nat) (k : Nat) (g : Nat → Nat), (k ≤ 54) → (∀ j, j < k → g j = 0) → (54 - k) < N → ∀ (H : Heap) (locs : List Loc), va_P D vwCl [mO h q zmu zmk zmz zms zma zmc, (q 1, .inl (cI, 54, .inl (fun z_ => nI (g z_))))] H → va_D A [mO h q zmu zmk zmz zms zma zmc, (q 1, .inl (cI, 54, .inl (fun z_ => nI (g z_))))] → va_S A s.heap H locs → ∀ ls : Array Slot, lv_has ls 2 [(1, .int (nI (k))), (0, .ref h)] → W p l e (rmL 0) s m args below meth c H locs 0 0 Qf (F0 m 2 ls []) := by
    intro N; induction N with
    | zero => intro k g _ _ hm; omega
    | succ N ih_2 =>
      intro k g hk hg hm H locs hP hD hS ls hl
      refine lv_iload_n hx hb dX7_clean_2 rfl (lv_at hl 0 rfl) ?_
      refine lv_bipush (v := nI 54) hx hb dX7_clean_3 (by decide) ?_
      refine n_icmp_ge (tgt := 21) hx hb dX7_clean_5 (by decide) (by omega) (by decide) (fun c_1 => ?_) (fun c_1 => ?_)
      · -- 5 to 21
        refine lv_aload_n hx hb dX7_clean_21 rfl (lv_at hl 1 rfl) ?_
        refine gf_7_13 hx hb hts hown hK hP 0 rfl rfl dX7_clean_22 ?_
        refine lv_iconst (v := nI 3) hx hb dX7_clean_25 (by decide) ?_
        refine lv_iconst (v := nI 1) hx hb dX7_clean_26 (by decide) ?_
        refine n_iast hx hb hK hP hD hS 1 0 rfl rfl dX7_clean_27 (by decide) (by omega) (fun H locs hP hD hS => ?_)
        have hP : va_P D vwCl [mO h q zmu zmk zmz zms zma zmc, (q 1, .inl (cI, 54, .inl (fun z_ => nI ((up1 g 3 1) z_))))] _ := hP
        have hD : va_D A [mO h q zmu zmk zmz zms zma zmc, (q 1, .inl (cI, 54, .inl (fun z_ => nI ((up1 g 3 1) z_))))] := hD
        refine lv_aload_n hx hb dX7_clean_28 rfl (lv_at hl 1 rfl) ?_
        refine gf_7_13 hx hb hts hown hK hP 0 rfl rfl dX7_clean_29 ?_
        refine lv_iconst (v := nI 4) hx hb dX7_clean_32 (by decide) ?_
        refine lv_bipush (v := nI 60) hx hb dX7_clean_33 (by decide) ?_
        refine n_iast hx hb hK hP hD hS 1 0 rfl rfl dX7_clean_35 (by decide) (by omega) (fun H locs hP hD hS => ?_)
        have hP : va_P D vwCl [mO h q zmu zmk zmz zms zma zmc, (q 1, .inl (cI, 54, .inl (fun z_ => nI ((up1 (up1 g 3 1) 4 60) z_))))] _ := hP
        have hD : va_D A [mO h q zmu zmk zmz zms zma zmc, (q 1, .inl (cI, 54, .inl (fun z_ => nI ((up1 (up1 g 3 1) 4 60) z_))))] := hD
        have hP := arr_eq (g := clN) hP 1 rfl (fun j hj => cl_e (show k = 54 by omega) hg j hj)
        have hD := arr_eqD (g := clN) hD 1 rfl
        have hP : va_P D vwCl [mO h q zmu zmk zmz zms zma zmc, (q 1, .inl (cI, 54, .inl (fun z_ => nI (clN z_))))] _ := hP
        have hD : va_D A [mO h q zmu zmk zmz zms zma zmc, (q 1, .inl (cI, 54, .inl (fun z_ => nI (clN z_))))] := hD
        refine hret hP hD hS dX7_clean_36 rfl ?_
        rfl
      · -- 5 to 8
        refine lv_aload_n hx hb dX7_clean_8 rfl (lv_at hl 1 rfl) ?_
        refine gf_7_13 hx hb hts hown hK hP 0 rfl rfl dX7_clean_9 ?_
        refine lv_iload_n hx hb dX7_clean_12 rfl (lv_at hl 0 rfl) ?_
        refine lv_iconst (v := nI 0) hx hb dX7_clean_13 (by decide) ?_
        refine n_iast hx hb hK hP hD hS 1 0 rfl rfl dX7_clean_14 (by decide) (by omega) (fun H locs hP hD hS => ?_)
        have hP : va_P D vwCl [mO h q zmu zmk zmz zms zma zmc, (q 1, .inl (cI, 54, .inl (fun z_ => nI ((up1 g k 0) z_))))] _ := hP
        have hD : va_D A [mO h q zmu zmk zmz zms zma zmc, (q 1, .inl (cI, 54, .inl (fun z_ => nI ((up1 g k 0) z_))))] := hD
        refine lv_iinc (v := nI (k + 1)) (lv' := [(1, .int (nI (k + 1))), (0, .ref h)]) hx hb dX7_clean_15 hl (k := 0) rfl (n_inc _ 1) (by decide) rfl (fun ls hl => ?_)
        refine lv_goto (tgt := 2) hx hb dX7_clean_18 (by decide) ?_
        exact ih_2 (k + 1) (up1 g k 0) (by omega) (cl_s hg) (by omega) _ _ hP hD hS _ (lv_sub hl [0, 1] rfl)
  exact loop_2 _ 0 rd (by omega) (fun j hj => absurd hj (Nat.not_lt_zero j)) (Nat.lt_succ_self _) _ _ hP hD hS _ (lv_sub hl [0, 1] rfl)
set_option maxHeartbeats 4000000 in
set_option maxRecDepth 100000 in
theorem k_X7_comes {l : Launch} {D : va_G} {cI cC cB : ClassId} {h : Nat} {q : Nat → Nat} {zmu zmk zmz zms zma zmc : Nat} {rd : Nat → Nat} {x y w : Nat} (h4 : rd 0 < 4) : MV l yX7_comes cX7_comes 5 none 0 D (Ty3 cI cC cB) [.ref h, .int (nI (x)), .int (nI (y)), .int (nI (w))] [mO h q zmu zmk zmz zms zma zmc, (q 1, .inl (cI, 54, .inl (fun z_ => nI (rd z_))))] (fun (u : va_W) => (u = [mO h q zmu zmk zmz zms zma zmc, (q 1, .inl (cI, 54, .inl (fun z_ => nI ((wrdN rd x y w) z_))))])) := by
  intro sz
  refine MV.walk (by decide +kernel) (Nat.le_of_ble_eq_true rfl) ?_
  intro p e s m args below meth c A Qf hx hb hml hts hown hret hK hP hD hS hA ls hl
  have hown : s.vm.findClass RX7 = some m.cls := hown
  have hl : lv_has ls 5 [(0, .ref h), (1, .int (nI (x))), (2, .int (nI (y))), (3, .int (nI (w)))] := hl
  have hP : va_P D vwCl [mO h q zmu zmk zmz zms zma zmc, (q 1, .inl (cI, 54, .inl (fun z_ => nI (rd z_))))] s.heap := hP
  have hD : va_D A [mO h q zmu zmk zmz zms zma zmc, (q 1, .inl (cI, 54, .inl (fun z_ => nI (rd z_))))] := hD
  refine lv_aload_n hx hb dX7_comes_0 rfl (lv_at hl 0 rfl) ?_
  refine gf_7_13 hx hb hts hown hK hP 0 rfl rfl dX7_comes_1 ?_
  refine lv_iconst (v := nI 0) hx hb dX7_comes_4 (by decide) ?_
  refine n_iald hx hb hK hP 1 0 rfl rfl dX7_comes_5 (by decide) (by omega) ?_
  refine lv_istore (lv' := [(4, .int (nI (rd 0))), (0, .ref h), (1, .int (nI (x))), (2, .int (nI (y))), (3, .int (nI (w)))]) hx hb dX7_comes_6 hl (by decide) rfl (fun ls hl => ?_)
  refine lv_aload_n hx hb dX7_comes_8 rfl (lv_at hl 1 rfl) ?_
  refine gf_7_13 hx hb hts hown hK hP 0 rfl rfl dX7_comes_9 ?_
  refine lv_iconst (v := nI 5) hx hb dX7_comes_12 (by decide) ?_
  refine lv_iload hx hb dX7_comes_13 (lv_at hl 0 rfl) ?_
  refine n_iadd hx hb dX7_comes_15  ?_
  refine lv_iload_n hx hb dX7_comes_16 rfl (lv_at hl 2 rfl) ?_
  refine n_iast hx hb hK hP hD hS 1 0 rfl rfl dX7_comes_17 (by decide) (by omega) (fun H locs hP hD hS => ?_)
  have hP : va_P D vwCl [mO h q zmu zmk zmz zms zma zmc, (q 1, .inl (cI, 54, .inl (fun z_ => nI ((up1 rd (5 + (rd 0)) x) z_))))] _ := hP
  have hD : va_D A [mO h q zmu zmk zmz zms zma zmc, (q 1, .inl (cI, 54, .inl (fun z_ => nI ((up1 rd (5 + (rd 0)) x) z_))))] := hD
  refine lv_aload_n hx hb dX7_comes_18 rfl (lv_at hl 1 rfl) ?_
  refine gf_7_13 hx hb hts hown hK hP 0 rfl rfl dX7_comes_19 ?_
  refine lv_bipush (v := nI 9) hx hb dX7_comes_22 (by decide) ?_
  refine lv_iload hx hb dX7_comes_24 (lv_at hl 0 rfl) ?_
  refine n_iadd hx hb dX7_comes_26  ?_
  refine lv_iload_n hx hb dX7_comes_27 rfl (lv_at hl 3 rfl) ?_
  refine n_iast hx hb hK hP hD hS 1 0 rfl rfl dX7_comes_28 (by decide) (by omega) (fun H locs hP hD hS => ?_)
  have hP : va_P D vwCl [mO h q zmu zmk zmz zms zma zmc, (q 1, .inl (cI, 54, .inl (fun z_ => nI ((up1 (up1 rd (5 + (rd 0)) x) (9 + (rd 0)) y) z_))))] _ := hP
  have hD : va_D A [mO h q zmu zmk zmz zms zma zmc, (q 1, .inl (cI, 54, .inl (fun z_ => nI ((up1 (up1 rd (5 + (rd 0)) x) (9 + (rd 0)) y) z_))))] := hD
  refine lv_aload_n hx hb dX7_comes_29 rfl (lv_at hl 1 rfl) ?_
  refine gf_7_13 hx hb hts hown hK hP 0 rfl rfl dX7_comes_30 ?_
  refine lv_bipush (v := nI 13) hx hb dX7_comes_33 (by decide) ?_
  refine lv_iload hx hb dX7_comes_35 (lv_at hl 0 rfl) ?_
  refine n_iadd hx hb dX7_comes_37  ?_
  refine lv_iload_n hx hb dX7_comes_38 rfl (lv_at hl 4 rfl) ?_
  refine n_iast hx hb hK hP hD hS 1 0 rfl rfl dX7_comes_39 (by decide) (by omega) (fun H locs hP hD hS => ?_)
  have hP : va_P D vwCl [mO h q zmu zmk zmz zms zma zmc, (q 1, .inl (cI, 54, .inl (fun z_ => nI ((up1 (up1 (up1 rd (5 + (rd 0)) x) (9 + (rd 0)) y) (13 + (rd 0)) w) z_))))] _ := hP
  have hD : va_D A [mO h q zmu zmk zmz zms zma zmc, (q 1, .inl (cI, 54, .inl (fun z_ => nI ((up1 (up1 (up1 rd (5 + (rd 0)) x) (9 + (rd 0)) y) (13 + (rd 0)) w) z_))))] := hD
  refine lv_aload_n hx hb dX7_comes_40 rfl (lv_at hl 1 rfl) ?_
  refine gf_7_13 hx hb hts hown hK hP 0 rfl rfl dX7_comes_41 ?_
  refine lv_iconst (v := nI 0) hx hb dX7_comes_44 (by decide) ?_
  refine lv_dup2_11 hx hb dX7_comes_45 rfl rfl ?_
  refine n_iald hx hb hK hP 1 0 rfl rfl dX7_comes_46 (by decide) (by omega) ?_
  refine lv_iconst (v := nI 1) hx hb dX7_comes_47 (by decide) ?_
  refine n_iadd hx hb dX7_comes_48  ?_
  refine n_iast hx hb hK hP hD hS 1 0 rfl rfl dX7_comes_49 (by decide) (by omega) (fun H locs hP hD hS => ?_)
  have hP : va_P D vwCl [mO h q zmu zmk zmz zms zma zmc, (q 1, .inl (cI, 54, .inl (fun z_ => nI ((up1 (up1 (up1 (up1 rd (5 + (rd 0)) x) (9 + (rd 0)) y) (13 + (rd 0)) w) 0 (((up1 (up1 (up1 rd (5 + (rd 0)) x) (9 + (rd 0)) y) (13 + (rd 0)) w) 0) + 1)) z_))))] _ := hP
  have hD : va_D A [mO h q zmu zmk zmz zms zma zmc, (q 1, .inl (cI, 54, .inl (fun z_ => nI ((up1 (up1 (up1 (up1 rd (5 + (rd 0)) x) (9 + (rd 0)) y) (13 + (rd 0)) w) 0 (((up1 (up1 (up1 rd (5 + (rd 0)) x) (9 + (rd 0)) y) (13 + (rd 0)) w) 0) + 1)) z_))))] := hD
  refine hret hP hD hS dX7_comes_50 rfl ?_
  have e_q : up1 (up1 (up1 (up1 rd (5 + (rd 0)) x) (9 + (rd 0)) y) (13 + (rd 0)) w) 0 (((up1 (up1 (up1 rd (5 + (rd 0)) x) (9 + (rd 0)) y) (13 + (rd 0)) w) 0) + 1) = wrdN rd x y w := wrd_e (by omega)
  rw [e_q]
set_option maxHeartbeats 4000000 in
set_option maxRecDepth 100000 in
theorem k_X7_pair {l : Launch} {D : va_G} {cI cC cB : ClassId} {h : Nat} {q : Nat → Nat} {zmu zmk zmz zms zma zmc : Nat} {rd : Nat → Nat} {x y w v : Nat} (h4 : rd 2 < 8) : MV l yX7_pair cX7_pair 6 none 0 D (Ty3 cI cC cB) [.ref h, .int (nI (x)), .int (nI (y)), .int (nI (w)), .int (nI (v))] [mO h q zmu zmk zmz zms zma zmc, (q 1, .inl (cI, 54, .inl (fun z_ => nI (rd z_))))] (fun (u : va_W) => (u = [mO h q zmu zmk zmz zms zma zmc, (q 1, .inl (cI, 54, .inl (fun z_ => nI ((prdN rd x y w v) z_))))])) := by
  intro sz
  refine MV.walk (by decide +kernel) (Nat.le_of_ble_eq_true rfl) ?_
  intro p e s m args below meth c A Qf hx hb hml hts hown hret hK hP hD hS hA ls hl
  have hown : s.vm.findClass RX7 = some m.cls := hown
  have hl : lv_has ls 6 [(0, .ref h), (1, .int (nI (x))), (2, .int (nI (y))), (3, .int (nI (w))), (4, .int (nI (v)))] := hl
  have hP : va_P D vwCl [mO h q zmu zmk zmz zms zma zmc, (q 1, .inl (cI, 54, .inl (fun z_ => nI (rd z_))))] s.heap := hP
  have hD : va_D A [mO h q zmu zmk zmz zms zma zmc, (q 1, .inl (cI, 54, .inl (fun z_ => nI (rd z_))))] := hD
  refine lv_aload_n hx hb dX7_pair_0 rfl (lv_at hl 0 rfl) ?_
  refine gf_7_13 hx hb hts hown hK hP 0 rfl rfl dX7_pair_1 ?_
  refine lv_iconst (v := nI 2) hx hb dX7_pair_4 (by decide) ?_
  refine n_iald hx hb hK hP 1 0 rfl rfl dX7_pair_5 (by decide) (by omega) ?_
  refine lv_istore (lv' := [(5, .int (nI (rd 2))), (0, .ref h), (1, .int (nI (x))), (2, .int (nI (y))), (3, .int (nI (w))), (4, .int (nI (v)))]) hx hb dX7_pair_6 hl (by decide) rfl (fun ls hl => ?_)
  refine lv_aload_n hx hb dX7_pair_8 rfl (lv_at hl 1 rfl) ?_
  refine gf_7_13 hx hb hts hown hK hP 0 rfl rfl dX7_pair_9 ?_
  refine lv_bipush (v := nI 22) hx hb dX7_pair_12 (by decide) ?_
  refine lv_iload hx hb dX7_pair_14 (lv_at hl 0 rfl) ?_
  refine n_iadd hx hb dX7_pair_16  ?_
  refine lv_iload_n hx hb dX7_pair_17 rfl (lv_at hl 2 rfl) ?_
  refine n_iast hx hb hK hP hD hS 1 0 rfl rfl dX7_pair_18 (by decide) (by omega) (fun H locs hP hD hS => ?_)
  have hP : va_P D vwCl [mO h q zmu zmk zmz zms zma zmc, (q 1, .inl (cI, 54, .inl (fun z_ => nI ((up1 rd (22 + (rd 2)) x) z_))))] _ := hP
  have hD : va_D A [mO h q zmu zmk zmz zms zma zmc, (q 1, .inl (cI, 54, .inl (fun z_ => nI ((up1 rd (22 + (rd 2)) x) z_))))] := hD
  refine lv_aload_n hx hb dX7_pair_19 rfl (lv_at hl 1 rfl) ?_
  refine gf_7_13 hx hb hts hown hK hP 0 rfl rfl dX7_pair_20 ?_
  refine lv_bipush (v := nI 30) hx hb dX7_pair_23 (by decide) ?_
  refine lv_iload hx hb dX7_pair_25 (lv_at hl 0 rfl) ?_
  refine n_iadd hx hb dX7_pair_27  ?_
  refine lv_iload_n hx hb dX7_pair_28 rfl (lv_at hl 3 rfl) ?_
  refine n_iast hx hb hK hP hD hS 1 0 rfl rfl dX7_pair_29 (by decide) (by omega) (fun H locs hP hD hS => ?_)
  have hP : va_P D vwCl [mO h q zmu zmk zmz zms zma zmc, (q 1, .inl (cI, 54, .inl (fun z_ => nI ((up1 (up1 rd (22 + (rd 2)) x) (30 + (rd 2)) y) z_))))] _ := hP
  have hD : va_D A [mO h q zmu zmk zmz zms zma zmc, (q 1, .inl (cI, 54, .inl (fun z_ => nI ((up1 (up1 rd (22 + (rd 2)) x) (30 + (rd 2)) y) z_))))] := hD
  refine lv_aload_n hx hb dX7_pair_30 rfl (lv_at hl 1 rfl) ?_
  refine gf_7_13 hx hb hts hown hK hP 0 rfl rfl dX7_pair_31 ?_
  refine lv_bipush (v := nI 38) hx hb dX7_pair_34 (by decide) ?_
  refine lv_iload hx hb dX7_pair_36 (lv_at hl 0 rfl) ?_
  refine n_iadd hx hb dX7_pair_38  ?_
  refine lv_iload_n hx hb dX7_pair_39 rfl (lv_at hl 4 rfl) ?_
  refine n_iast hx hb hK hP hD hS 1 0 rfl rfl dX7_pair_40 (by decide) (by omega) (fun H locs hP hD hS => ?_)
  have hP : va_P D vwCl [mO h q zmu zmk zmz zms zma zmc, (q 1, .inl (cI, 54, .inl (fun z_ => nI ((up1 (up1 (up1 rd (22 + (rd 2)) x) (30 + (rd 2)) y) (38 + (rd 2)) w) z_))))] _ := hP
  have hD : va_D A [mO h q zmu zmk zmz zms zma zmc, (q 1, .inl (cI, 54, .inl (fun z_ => nI ((up1 (up1 (up1 rd (22 + (rd 2)) x) (30 + (rd 2)) y) (38 + (rd 2)) w) z_))))] := hD
  refine lv_aload_n hx hb dX7_pair_41 rfl (lv_at hl 1 rfl) ?_
  refine gf_7_13 hx hb hts hown hK hP 0 rfl rfl dX7_pair_42 ?_
  refine lv_bipush (v := nI 46) hx hb dX7_pair_45 (by decide) ?_
  refine lv_iload hx hb dX7_pair_47 (lv_at hl 0 rfl) ?_
  refine n_iadd hx hb dX7_pair_49  ?_
  refine lv_iload hx hb dX7_pair_50 (lv_at hl 5 rfl) ?_
  refine n_iast hx hb hK hP hD hS 1 0 rfl rfl dX7_pair_52 (by decide) (by omega) (fun H locs hP hD hS => ?_)
  have hP : va_P D vwCl [mO h q zmu zmk zmz zms zma zmc, (q 1, .inl (cI, 54, .inl (fun z_ => nI ((up1 (up1 (up1 (up1 rd (22 + (rd 2)) x) (30 + (rd 2)) y) (38 + (rd 2)) w) (46 + (rd 2)) v) z_))))] _ := hP
  have hD : va_D A [mO h q zmu zmk zmz zms zma zmc, (q 1, .inl (cI, 54, .inl (fun z_ => nI ((up1 (up1 (up1 (up1 rd (22 + (rd 2)) x) (30 + (rd 2)) y) (38 + (rd 2)) w) (46 + (rd 2)) v) z_))))] := hD
  refine lv_aload_n hx hb dX7_pair_53 rfl (lv_at hl 1 rfl) ?_
  refine gf_7_13 hx hb hts hown hK hP 0 rfl rfl dX7_pair_54 ?_
  refine lv_iconst (v := nI 2) hx hb dX7_pair_57 (by decide) ?_
  refine lv_dup2_11 hx hb dX7_pair_58 rfl rfl ?_
  refine n_iald hx hb hK hP 1 0 rfl rfl dX7_pair_59 (by decide) (by omega) ?_
  refine lv_iconst (v := nI 1) hx hb dX7_pair_60 (by decide) ?_
  refine n_iadd hx hb dX7_pair_61  ?_
  refine n_iast hx hb hK hP hD hS 1 0 rfl rfl dX7_pair_62 (by decide) (by omega) (fun H locs hP hD hS => ?_)
  have hP : va_P D vwCl [mO h q zmu zmk zmz zms zma zmc, (q 1, .inl (cI, 54, .inl (fun z_ => nI ((up1 (up1 (up1 (up1 (up1 rd (22 + (rd 2)) x) (30 + (rd 2)) y) (38 + (rd 2)) w) (46 + (rd 2)) v) 2 (((up1 (up1 (up1 (up1 rd (22 + (rd 2)) x) (30 + (rd 2)) y) (38 + (rd 2)) w) (46 + (rd 2)) v) 2) + 1)) z_))))] _ := hP
  have hD : va_D A [mO h q zmu zmk zmz zms zma zmc, (q 1, .inl (cI, 54, .inl (fun z_ => nI ((up1 (up1 (up1 (up1 (up1 rd (22 + (rd 2)) x) (30 + (rd 2)) y) (38 + (rd 2)) w) (46 + (rd 2)) v) 2 (((up1 (up1 (up1 (up1 rd (22 + (rd 2)) x) (30 + (rd 2)) y) (38 + (rd 2)) w) (46 + (rd 2)) v) 2) + 1)) z_))))] := hD
  refine hret hP hD hS dX7_pair_63 rfl ?_
  have e_q : up1 (up1 (up1 (up1 (up1 rd (22 + (rd 2)) x) (30 + (rd 2)) y) (38 + (rd 2)) w) (46 + (rd 2)) v) 2 (((up1 (up1 (up1 (up1 rd (22 + (rd 2)) x) (30 + (rd 2)) y) (38 + (rd 2)) w) (46 + (rd 2)) v) 2) + 1) = prdN rd x y w v := prd_e
  rw [e_q]
set_option maxHeartbeats 4000000 in
set_option maxRecDepth 100000 in
theorem k_X7_person {l : Launch} {D : va_G} {cI cC cB : ClassId} {h : Nat} {q : Nat → Nat} {zmu zmk zmz zms zma zmc : Nat} {rd : Nat → Nat} {x : Nat} (h4 : rd 1 < 5) : MV l yX7_person cX7_person 2 none 0 D (Ty3 cI cC cB) [.ref h, .int (nI (x))] [mO h q zmu zmk zmz zms zma zmc, (q 1, .inl (cI, 54, .inl (fun z_ => nI (rd z_))))] (fun (u : va_W) => (u = [mO h q zmu zmk zmz zms zma zmc, (q 1, .inl (cI, 54, .inl (fun z_ => nI ((srdN rd x) z_))))])) := by
  intro sz
  refine MV.walk (by decide +kernel) (Nat.le_of_ble_eq_true rfl) ?_
  intro p e s m args below meth c A Qf hx hb hml hts hown hret hK hP hD hS hA ls hl
  have hown : s.vm.findClass RX7 = some m.cls := hown
  have hl : lv_has ls 2 [(0, .ref h), (1, .int (nI (x)))] := hl
  have hP : va_P D vwCl [mO h q zmu zmk zmz zms zma zmc, (q 1, .inl (cI, 54, .inl (fun z_ => nI (rd z_))))] s.heap := hP
  have hD : va_D A [mO h q zmu zmk zmz zms zma zmc, (q 1, .inl (cI, 54, .inl (fun z_ => nI (rd z_))))] := hD
  refine lv_aload_n hx hb dX7_person_0 rfl (lv_at hl 0 rfl) ?_
  refine gf_7_13 hx hb hts hown hK hP 0 rfl rfl dX7_person_1 ?_
  refine lv_bipush (v := nI 17) hx hb dX7_person_4 (by decide) ?_
  refine lv_aload_n hx hb dX7_person_6 rfl (lv_at hl 0 rfl) ?_
  refine gf_7_13 hx hb hts hown hK hP 0 rfl rfl dX7_person_7 ?_
  refine lv_iconst (v := nI 1) hx hb dX7_person_10 (by decide) ?_
  refine n_iald hx hb hK hP 1 0 rfl rfl dX7_person_11 (by decide) (by omega) ?_
  refine n_iadd hx hb dX7_person_12  ?_
  refine lv_iload_n hx hb dX7_person_13 rfl (lv_at hl 1 rfl) ?_
  refine n_iast hx hb hK hP hD hS 1 0 rfl rfl dX7_person_14 (by decide) (by omega) (fun H locs hP hD hS => ?_)
  have hP : va_P D vwCl [mO h q zmu zmk zmz zms zma zmc, (q 1, .inl (cI, 54, .inl (fun z_ => nI ((up1 rd (17 + (rd 1)) x) z_))))] _ := hP
  have hD : va_D A [mO h q zmu zmk zmz zms zma zmc, (q 1, .inl (cI, 54, .inl (fun z_ => nI ((up1 rd (17 + (rd 1)) x) z_))))] := hD
  refine lv_aload_n hx hb dX7_person_15 rfl (lv_at hl 0 rfl) ?_
  refine gf_7_13 hx hb hts hown hK hP 0 rfl rfl dX7_person_16 ?_
  refine lv_iconst (v := nI 1) hx hb dX7_person_19 (by decide) ?_
  refine lv_dup2_11 hx hb dX7_person_20 rfl rfl ?_
  refine n_iald hx hb hK hP 1 0 rfl rfl dX7_person_21 (by decide) (by omega) ?_
  refine lv_iconst (v := nI 1) hx hb dX7_person_22 (by decide) ?_
  refine n_iadd hx hb dX7_person_23  ?_
  refine n_iast hx hb hK hP hD hS 1 0 rfl rfl dX7_person_24 (by decide) (by omega) (fun H locs hP hD hS => ?_)
  have hP : va_P D vwCl [mO h q zmu zmk zmz zms zma zmc, (q 1, .inl (cI, 54, .inl (fun z_ => nI ((up1 (up1 rd (17 + (rd 1)) x) 1 (((up1 rd (17 + (rd 1)) x) 1) + 1)) z_))))] _ := hP
  have hD : va_D A [mO h q zmu zmk zmz zms zma zmc, (q 1, .inl (cI, 54, .inl (fun z_ => nI ((up1 (up1 rd (17 + (rd 1)) x) 1 (((up1 rd (17 + (rd 1)) x) 1) + 1)) z_))))] := hD
  refine hret hP hD hS dX7_person_25 rfl ?_
  have e_q : up1 (up1 rd (17 + (rd 1)) x) 1 (((up1 rd (17 + (rd 1)) x) 1) + 1) = srdN rd x := srd_e
  rw [e_q]
set_option maxHeartbeats 4000000 in
set_option maxRecDepth 100000 in
theorem k_X7_takes {l : Launch} {D : va_G} {cI cC cB : ClassId} {h : Nat} {q : Nat → Nat} {zmu zmk zmz zms zma zmc : Nat} {tx g : Nat → Nat} {n : Nat} (hn1 : 1 ≤ n) (hn4 : n ≤ 4) (ha : zma ≤ 201) (hz : zmz ≤ 200) (htx : ∀ j, tx j < 128) : MI l yX7_takes cX7_takes 6 (some .boolean) 1 D (Ty3 cI cC cB) [.ref h, .int (nI (n))] [mO h q zmu zmk zmz zms zma zmc, (q 5, .inl (cI, 200, .inl (fun z_ => nI (tx z_)))), (q 7, .inl (cI, 4, .inl (fun z_ => nI (g z_))))] (fun r u => (∃ a2 : Nat, ∃ g2 : Nat → Nat, (nbB tx zmz zma n n = false) ∧ r = nI (0) ∧ u = [mO h q zmu zmk zmz zms a2 zmc, (q 5, .inl (cI, 200, .inl (fun z_ => nI (tx z_)))), (q 7, .inl (cI, 4, .inl (fun z_ => nI (g2 z_))))]) ∨ (∃ g2 : Nat → Nat, (nbB tx zmz zma n n = true) ∧ (∀ j, j < n → g2 j = rnV tx zmz (npN tx zmz zma j)) ∧ r = nI (1) ∧ u = [mO h q zmu zmk zmz zms (npN tx zmz zma n) zmc, (q 5, .inl (cI, 200, .inl (fun z_ => nI (tx z_)))), (q 7, .inl (cI, 4, .inl (fun z_ => nI (g2 z_))))])) := by
  intro sz
  refine MI.walk (by decide +kernel) (Nat.le_of_ble_eq_true rfl) ?_
  intro p e s m args below meth c A Qf hx hb hml hts hown hret hK hP hD hS hA ls hl
  have hown : s.vm.findClass RX7 = some m.cls := hown
  have hl : lv_has ls 6 [(0, .ref h), (1, .int (nI (n)))] := hl
  have hP : va_P D vwCl [mO h q zmu zmk zmz zms zma zmc, (q 5, .inl (cI, 200, .inl (fun z_ => nI (tx z_)))), (q 7, .inl (cI, 4, .inl (fun z_ => nI (g z_))))] s.heap := hP
  have hD : va_D A [mO h q zmu zmk zmz zms zma zmc, (q 5, .inl (cI, 200, .inl (fun z_ => nI (tx z_)))), (q 7, .inl (cI, 4, .inl (fun z_ => nI (g z_))))] := hD
  refine lv_iconst (v := nI 0) hx hb dX7_takes_0 (by decide) ?_
  refine lv_istore_n (lv' := [(2, .int (nI (0))), (0, .ref h), (1, .int (nI (n)))]) hx hb dX7_takes_1 rfl hl (by decide) rfl (fun ls hl => ?_)
  have loop_2 : ∀ (N : Nat) (k : Nat) (a1 : Nat) (g1 : Nat → Nat), (k ≤ n) → (nbB tx zmz zma n k = true) → (a1 = npN tx zmz zma k) → (a1 ≤ 201) → (∀ j, j < k → g1 j = rnV tx zmz (npN tx zmz zma j)) → (n - k) < N → ∀ (H : Heap) (locs : List Loc), va_P D vwCl [mO h q zmu zmk zmz zms a1 zmc, (q 5, .inl (cI, 200, .inl (fun z_ => nI (tx z_)))), (q 7, .inl (cI, 4, .inl (fun z_ => nI (g1 z_))))] H → va_D A [mO h q zmu zmk zmz zms a1 zmc, (q 5, .inl (cI, 200, .inl (fun z_ => nI (tx z_)))), (q 7, .inl (cI, 4, .inl (fun z_ => nI (g1 z_))))] → va_S A s.heap H locs → ∀ ls : Array Slot, lv_has ls 6 [(2, .int (nI (k))), (0, .ref h), (1, .int (nI (n)))] → W p l e (rmL 1) s m args below meth c H locs 0 0 Qf (F0 m 2 ls []) := by
    intro N; induction N with
    | zero => intro k a1 g1 _ _ _ _ _ hm; omega
    | succ N ih_2 =>
      intro k a1 g1 hk hok ha1 hle hg hm H locs hP hD hS ls hl
      refine lv_iload_n hx hb dX7_takes_2 rfl (lv_at hl 0 rfl) ?_
      refine lv_iload_n hx hb dX7_takes_3 rfl (lv_at hl 2 rfl) ?_
      refine n_icmp_ge (tgt := 176) hx hb dX7_takes_4 (by decide) (by omega) (by omega) (fun c_1 => ?_) (fun c_1 => ?_)
      · -- 4 to 176
        refine lv_iconst (v := nI 1) hx hb dX7_takes_176 (by decide) ?_
        refine hret hP hD hS dX7_takes_177 (by decide) rfl ?_
        have hkn_q : k = n := by omega
        subst hkn_q
        subst ha1
        exact Or.inr ⟨_, hok, hg, rfl, rfl⟩
      · -- 4 to 7
        refine lv_iconst (v := nI 0) hx hb dX7_takes_7 (by decide) ?_
        refine lv_istore_n (lv' := [(3, .int (nI (0))), (2, .int (nI (k))), (0, .ref h), (1, .int (nI (n)))]) hx hb dX7_takes_8 rfl hl (by decide) rfl (fun ls hl => ?_)
        refine lv_iconst (v := nI 0) hx hb dX7_takes_9 (by decide) ?_
        refine lv_istore (lv' := [(4, .int (nI (0))), (3, .int (nI (0))), (2, .int (nI (k))), (0, .ref h), (1, .int (nI (n)))]) hx hb dX7_takes_10 hl (by decide) rfl (fun ls hl => ?_)
        have loop_12 : ∀ (N : Nat) (v : Nat) (m1 : Nat) (a2 : Nat), (a2 = a1 + m1) → (∀ j, j < m1 → dgB tx zmz (a1 + j) = true) → (v = vlN tx a1 m1) → (a2 ≤ 201) → (zmz - a2) < N → ∀ (H : Heap) (locs : List Loc), va_P D vwCl [mO h q zmu zmk zmz zms a2 zmc, (q 5, .inl (cI, 200, .inl (fun z_ => nI (tx z_)))), (q 7, .inl (cI, 4, .inl (fun z_ => nI (g1 z_))))] H → va_D A [mO h q zmu zmk zmz zms a2 zmc, (q 5, .inl (cI, 200, .inl (fun z_ => nI (tx z_)))), (q 7, .inl (cI, 4, .inl (fun z_ => nI (g1 z_))))] → va_S A s.heap H locs → ∀ ls : Array Slot, lv_has ls 6 [(4, .int (nI (m1))), (3, .int (nI (v))), (2, .int (nI (k))), (0, .ref h), (1, .int (nI (n)))] → W p l e (rmL 1) s m args below meth c H locs 0 0 Qf (F0 m 12 ls []) := by
          intro N; induction N with
          | zero => intro v m1 a2 _ _ _ _ hm; omega
          | succ N ih_12 =>
            intro v m1 a2 ha2 hdg hv hm2 hm H locs hP hD hS ls hl
            have hvl_q := vl_le htx a1 m1
            refine lv_aload_n hx hb dX7_takes_12 rfl (lv_at hl 3 rfl) ?_
            refine gf_7_79 hx hb hts hown hK hP 0 rfl rfl dX7_takes_13 ?_
            refine lv_aload_n hx hb dX7_takes_16 rfl (lv_at hl 3 rfl) ?_
            refine gf_7_75 hx hb hts hown hK hP 0 rfl rfl dX7_takes_17 ?_
            refine n_icmp_ge (tgt := 89) hx hb dX7_takes_20 (by decide) (by omega) (by omega) (fun c_2 => ?_) (fun c_2 => ?_)
            · -- 20 to 89
              have hnd_q : dgB tx zmz (a1 + m1) = false := by rw [← ha2]; exact dg_0 c_2
              refine lv_aload_n hx hb dX7_takes_89 rfl (lv_at hl 3 rfl) ?_
              refine gf_7_79 hx hb hts hown hK hP 0 rfl rfl dX7_takes_90 ?_
              refine lv_aload_n hx hb dX7_takes_93 rfl (lv_at hl 3 rfl) ?_
              refine gf_7_75 hx hb hts hown hK hP 0 rfl rfl dX7_takes_94 ?_
              refine n_icmp_ge (tgt := 130) hx hb dX7_takes_97 (by decide) (by omega) (by omega) (fun c_3 => ?_) (fun c_3 => ?_)
              · -- 97 to 130
                have hct_q : ctB tx zmz (a1 + m1) (spN n k) = false := by rw [← ha2]; exact cx_0 c_3
                refine lv_iconst (v := nI 0) hx hb dX7_takes_130 (by decide) ?_
                refine lv_istore (lv' := [(5, .int (nI (0))), (4, .int (nI (m1))), (3, .int (nI (v))), (2, .int (nI (k))), (0, .ref h), (1, .int (nI (n)))]) hx hb dX7_takes_131 hl (by decide) rfl (fun ls hl => ?_)
                refine lv_iload hx hb dX7_takes_133 (lv_at hl 1 rfl) ?_
                refine lv_i2l (v := lN (m1)) hx hb dX7_takes_135 (nI_l (by omega)) ?_
                refine lv_lconst (v := lN 1) hx hb dX7_takes_136 (by decide) ?_
                refine lv_ldc2 (v := lN 2) hx hb hown (hts _ tw_832) dX7_takes_137 ?_
                refine cl_7_67 (As := [.long (lN (m1)), .long (lN (1)), .long (lN (2))]) (rest := []) hx hb hml hts hown (k_X7_in ) (by decide) ⟨Nat.zero_le _, Nat.zero_le _⟩ hK hP hD hS hA [] rfl (by decide) rfl hl.1 rfl (Nat.le_of_ble_eq_true rfl) dX7_takes_140 (fun r_4 u H locs hp_5 hP hD hS => ?_)
                obtain ⟨rfl, rfl⟩ := hp_5
                have hP : va_P D vwCl [mO h q zmu zmk zmz zms a2 zmc, (q 5, .inl (cI, 200, .inl (fun z_ => nI (tx z_)))), (q 7, .inl (cI, 4, .inl (fun z_ => nI (g1 z_))))] _ := hP
                have hD : va_D A [mO h q zmu zmk zmz zms a2 zmc, (q 5, .inl (cI, 200, .inl (fun z_ => nI (tx z_)))), (q 7, .inl (cI, 4, .inl (fun z_ => nI (g1 z_))))] := hD
                refine n_ifb_eq (tgt := 151) hx hb dX7_takes_143 (by decide) (fun c_6 => ?_) (fun c_6 => ?_)
                · -- 143 to 151
                  have hrf_q : rnB tx zmz a1 (spN n k) = false := rn_f1 hdg hnd_q (in12_0 (by omega) c_6)
                  refine lv_iconst (v := nI 0) hx hb dX7_takes_151 (by decide) ?_
                  refine hret hP hD hS dX7_takes_152 (by decide) rfl ?_
                  exact Or.inl ⟨_, _, nb_f (show k < n by omega) (by rw [← ha1]; exact hrf_q), rfl, rfl⟩
                · -- 143 to 146
                  have h12_q := in12_1 (show m1 < 2147483648 by omega) c_6
                  refine lv_iload hx hb dX7_takes_146 (lv_at hl 0 rfl) ?_
                  refine n_if_ne (tgt := 153) hx hb dX7_takes_148 (by decide) (by decide) (fun c_7 => ?_) (fun c_7 => ?_)
                  · omega
                  · -- 148 to 151
                    have hrf_q : rnB tx zmz a1 (spN n k) = false := rn_f2 hdg hnd_q h12_q.1 h12_q.2 hct_q
                    refine lv_iconst (v := nI 0) hx hb dX7_takes_151 (by decide) ?_
                    refine hret hP hD hS dX7_takes_152 (by decide) rfl ?_
                    exact Or.inl ⟨_, _, nb_f (show k < n by omega) (by rw [← ha1]; exact hrf_q), rfl, rfl⟩
              · omega
            · -- 20 to 23
              refine lv_aload_n hx hb dX7_takes_23 rfl (lv_at hl 3 rfl) ?_
              refine gf_7_25 hx hb hts hown hK hP 0 rfl rfl dX7_takes_24 ?_
              refine lv_aload_n hx hb dX7_takes_27 rfl (lv_at hl 3 rfl) ?_
              refine gf_7_79 hx hb hts hown hK hP 0 rfl rfl dX7_takes_28 ?_
              refine n_iald hx hb hK hP 1 0 rfl rfl dX7_takes_31 (by decide) (by omega) ?_
              have hb_8 := htx a2
              refine lv_i2l (v := lN (tx a2)) hx hb dX7_takes_32 (nI_l (by omega)) ?_
              refine lv_ldc2 (v := lN 48) hx hb hown (hts _ tw_830) dX7_takes_33 ?_
              refine lv_ldc2 (v := lN 57) hx hb hown (hts _ tw_831) dX7_takes_36 ?_
              refine cl_7_67 (As := [.long (lN (tx a2)), .long (lN (48)), .long (lN (57))]) (rest := []) hx hb hml hts hown (k_X7_in ) (by decide) ⟨Nat.zero_le _, Nat.zero_le _⟩ hK hP hD hS hA [] rfl (by decide) rfl hl.1 rfl (Nat.le_of_ble_eq_true rfl) dX7_takes_39 (fun r_9 u H locs hp_10 hP hD hS => ?_)
              obtain ⟨rfl, rfl⟩ := hp_10
              have hP : va_P D vwCl [mO h q zmu zmk zmz zms a2 zmc, (q 5, .inl (cI, 200, .inl (fun z_ => nI (tx z_)))), (q 7, .inl (cI, 4, .inl (fun z_ => nI (g1 z_))))] _ := hP
              have hD : va_D A [mO h q zmu zmk zmz zms a2 zmc, (q 5, .inl (cI, 200, .inl (fun z_ => nI (tx z_)))), (q 7, .inl (cI, 4, .inl (fun z_ => nI (g1 z_))))] := hD
              refine n_ifb_eq (tgt := 89) hx hb dX7_takes_42 (by decide) (fun c_11 => ?_) (fun c_11 => ?_)
              · -- 42 to 89
                have hnd_q : dgB tx zmz (a1 + m1) = false := by rw [← ha2]; exact dg_1 (by omega) c_11
                refine lv_aload_n hx hb dX7_takes_89 rfl (lv_at hl 3 rfl) ?_
                refine gf_7_79 hx hb hts hown hK hP 0 rfl rfl dX7_takes_90 ?_
                refine lv_aload_n hx hb dX7_takes_93 rfl (lv_at hl 3 rfl) ?_
                refine gf_7_75 hx hb hts hown hK hP 0 rfl rfl dX7_takes_94 ?_
                refine n_icmp_ge (tgt := 130) hx hb dX7_takes_97 (by decide) (by omega) (by omega) (fun c_12 => ?_) (fun c_12 => ?_)
                · omega
                · -- 97 to 100
                  refine lv_aload_n hx hb dX7_takes_100 rfl (lv_at hl 3 rfl) ?_
                  refine gf_7_25 hx hb hts hown hK hP 0 rfl rfl dX7_takes_101 ?_
                  refine lv_aload_n hx hb dX7_takes_104 rfl (lv_at hl 3 rfl) ?_
                  refine gf_7_79 hx hb hts hown hK hP 0 rfl rfl dX7_takes_105 ?_
                  refine n_iald hx hb hK hP 1 0 rfl rfl dX7_takes_108 (by decide) (by omega) ?_
                  have hb_13 := htx a2
                  refine lv_iload_n hx hb dX7_takes_109 rfl (lv_at hl 2 rfl) ?_
                  refine lv_iload_n hx hb dX7_takes_110 rfl (lv_at hl 4 rfl) ?_
                  refine lv_iconst (v := nI 1) hx hb dX7_takes_111 (by decide) ?_
                  refine n_isub hx hb dX7_takes_112 (by omega) ?_
                  refine n_icmp_ge (tgt := 121) hx hb dX7_takes_113 (by decide) (by omega) (by omega) (fun c_14 => ?_) (fun c_14 => ?_)
                  · -- 113 to 121
                    have hsp_q : spN n k = 59 := if_neg (by omega)
                    refine lv_bipush (v := nI 59) hx hb dX7_takes_121 (by decide) ?_
                    refine n_icmp_ne (tgt := 130) hx hb dX7_takes_123 (by decide) (by omega) (by decide) (fun c_15 => ?_) (fun c_15 => ?_)
                    · -- 123 to 130
                      have hct_q : ctB tx zmz (a1 + m1) (spN n k) = false := by rw [← ha2, hsp_q]; exact cx_1 c_15
                      refine lv_iconst (v := nI 0) hx hb dX7_takes_130 (by decide) ?_
                      refine lv_istore (lv' := [(5, .int (nI (0))), (4, .int (nI (m1))), (3, .int (nI (v))), (2, .int (nI (k))), (0, .ref h), (1, .int (nI (n)))]) hx hb dX7_takes_131 hl (by decide) rfl (fun ls hl => ?_)
                      refine lv_iload hx hb dX7_takes_133 (lv_at hl 1 rfl) ?_
                      refine lv_i2l (v := lN (m1)) hx hb dX7_takes_135 (nI_l (by omega)) ?_
                      refine lv_lconst (v := lN 1) hx hb dX7_takes_136 (by decide) ?_
                      refine lv_ldc2 (v := lN 2) hx hb hown (hts _ tw_832) dX7_takes_137 ?_
                      refine cl_7_67 (As := [.long (lN (m1)), .long (lN (1)), .long (lN (2))]) (rest := []) hx hb hml hts hown (k_X7_in ) (by decide) ⟨Nat.zero_le _, Nat.zero_le _⟩ hK hP hD hS hA [] rfl (by decide) rfl hl.1 rfl (Nat.le_of_ble_eq_true rfl) dX7_takes_140 (fun r_16 u H locs hp_17 hP hD hS => ?_)
                      obtain ⟨rfl, rfl⟩ := hp_17
                      have hP : va_P D vwCl [mO h q zmu zmk zmz zms a2 zmc, (q 5, .inl (cI, 200, .inl (fun z_ => nI (tx z_)))), (q 7, .inl (cI, 4, .inl (fun z_ => nI (g1 z_))))] _ := hP
                      have hD : va_D A [mO h q zmu zmk zmz zms a2 zmc, (q 5, .inl (cI, 200, .inl (fun z_ => nI (tx z_)))), (q 7, .inl (cI, 4, .inl (fun z_ => nI (g1 z_))))] := hD
                      refine n_ifb_eq (tgt := 151) hx hb dX7_takes_143 (by decide) (fun c_18 => ?_) (fun c_18 => ?_)
                      · -- 143 to 151
                        have hrf_q : rnB tx zmz a1 (spN n k) = false := rn_f1 hdg hnd_q (in12_0 (by omega) c_18)
                        refine lv_iconst (v := nI 0) hx hb dX7_takes_151 (by decide) ?_
                        refine hret hP hD hS dX7_takes_152 (by decide) rfl ?_
                        exact Or.inl ⟨_, _, nb_f (show k < n by omega) (by rw [← ha1]; exact hrf_q), rfl, rfl⟩
                      · -- 143 to 146
                        have h12_q := in12_1 (show m1 < 2147483648 by omega) c_18
                        refine lv_iload hx hb dX7_takes_146 (lv_at hl 0 rfl) ?_
                        refine n_if_ne (tgt := 153) hx hb dX7_takes_148 (by decide) (by decide) (fun c_19 => ?_) (fun c_19 => ?_)
                        · omega
                        · -- 148 to 151
                          have hrf_q : rnB tx zmz a1 (spN n k) = false := rn_f2 hdg hnd_q h12_q.1 h12_q.2 hct_q
                          refine lv_iconst (v := nI 0) hx hb dX7_takes_151 (by decide) ?_
                          refine hret hP hD hS dX7_takes_152 (by decide) rfl ?_
                          exact Or.inl ⟨_, _, nb_f (show k < n by omega) (by rw [← ha1]; exact hrf_q), rfl, rfl⟩
                    · -- 123 to 126
                      have hct_q : ctB tx zmz (a1 + m1) (spN n k) = true := by rw [← ha2, hsp_q]; exact cx_2 (by omega) c_15
                      refine lv_iconst (v := nI 1) hx hb dX7_takes_126 (by decide) ?_
                      refine lv_goto (tgt := 131) hx hb dX7_takes_127 (by decide) ?_
                      refine lv_istore (lv' := [(5, .int (nI (1))), (4, .int (nI (m1))), (3, .int (nI (v))), (2, .int (nI (k))), (0, .ref h), (1, .int (nI (n)))]) hx hb dX7_takes_131 hl (by decide) rfl (fun ls hl => ?_)
                      refine lv_iload hx hb dX7_takes_133 (lv_at hl 1 rfl) ?_
                      refine lv_i2l (v := lN (m1)) hx hb dX7_takes_135 (nI_l (by omega)) ?_
                      refine lv_lconst (v := lN 1) hx hb dX7_takes_136 (by decide) ?_
                      refine lv_ldc2 (v := lN 2) hx hb hown (hts _ tw_832) dX7_takes_137 ?_
                      refine cl_7_67 (As := [.long (lN (m1)), .long (lN (1)), .long (lN (2))]) (rest := []) hx hb hml hts hown (k_X7_in ) (by decide) ⟨Nat.zero_le _, Nat.zero_le _⟩ hK hP hD hS hA [] rfl (by decide) rfl hl.1 rfl (Nat.le_of_ble_eq_true rfl) dX7_takes_140 (fun r_20 u H locs hp_21 hP hD hS => ?_)
                      obtain ⟨rfl, rfl⟩ := hp_21
                      have hP : va_P D vwCl [mO h q zmu zmk zmz zms a2 zmc, (q 5, .inl (cI, 200, .inl (fun z_ => nI (tx z_)))), (q 7, .inl (cI, 4, .inl (fun z_ => nI (g1 z_))))] _ := hP
                      have hD : va_D A [mO h q zmu zmk zmz zms a2 zmc, (q 5, .inl (cI, 200, .inl (fun z_ => nI (tx z_)))), (q 7, .inl (cI, 4, .inl (fun z_ => nI (g1 z_))))] := hD
                      refine n_ifb_eq (tgt := 151) hx hb dX7_takes_143 (by decide) (fun c_22 => ?_) (fun c_22 => ?_)
                      · -- 143 to 151
                        have hrf_q : rnB tx zmz a1 (spN n k) = false := rn_f1 hdg hnd_q (in12_0 (by omega) c_22)
                        refine lv_iconst (v := nI 0) hx hb dX7_takes_151 (by decide) ?_
                        refine hret hP hD hS dX7_takes_152 (by decide) rfl ?_
                        exact Or.inl ⟨_, _, nb_f (show k < n by omega) (by rw [← ha1]; exact hrf_q), rfl, rfl⟩
                      · -- 143 to 146
                        have h12_q := in12_1 (show m1 < 2147483648 by omega) c_22
                        refine lv_iload hx hb dX7_takes_146 (lv_at hl 0 rfl) ?_
                        refine n_if_ne (tgt := 153) hx hb dX7_takes_148 (by decide) (by decide) (fun c_23 => ?_) (fun c_23 => ?_)
                        · -- 148 to 153
                          have hrn_q := rn_t hdg hnd_q h12_q.1 h12_q.2 hct_q
                          refine lv_aload_n hx hb dX7_takes_153 rfl (lv_at hl 4 rfl) ?_
                          refine gf_7_31 hx hb hts hown hK hP 0 rfl rfl dX7_takes_154 ?_
                          refine lv_iload_n hx hb dX7_takes_157 rfl (lv_at hl 3 rfl) ?_
                          refine lv_iload_n hx hb dX7_takes_158 rfl (lv_at hl 2 rfl) ?_
                          refine n_iast hx hb hK hP hD hS 2 0 rfl rfl dX7_takes_159 (by decide) (by omega) (fun H locs hP hD hS => ?_)
                          have hP : va_P D vwCl [mO h q zmu zmk zmz zms a2 zmc, (q 5, .inl (cI, 200, .inl (fun z_ => nI (tx z_)))), (q 7, .inl (cI, 4, .inl (fun z_ => nI ((up1 g1 k v) z_))))] _ := hP
                          have hD : va_D A [mO h q zmu zmk zmz zms a2 zmc, (q 5, .inl (cI, 200, .inl (fun z_ => nI (tx z_)))), (q 7, .inl (cI, 4, .inl (fun z_ => nI ((up1 g1 k v) z_))))] := hD
                          refine lv_aload_n hx hb dX7_takes_160 rfl (lv_at hl 4 rfl) ?_
                          refine lv_dup hx hb dX7_takes_161 rfl ?_
                          refine gf_7_79 hx hb hts hown hK hP 0 rfl rfl dX7_takes_162 ?_
                          refine lv_iconst (v := nI 1) hx hb dX7_takes_165 (by decide) ?_
                          refine n_iadd hx hb dX7_takes_166  ?_
                          refine pf_7_79 hx hb hts hown hK hP hD hS 0 rfl (Nat.le_of_ble_eq_true rfl) dX7_takes_167 (fun H locs hP hD hS => ?_)
                          have hP : va_P D vwCl [mO h q zmu zmk zmz zms (a2 + 1) zmc, (q 5, .inl (cI, 200, .inl (fun z_ => nI (tx z_)))), (q 7, .inl (cI, 4, .inl (fun z_ => nI ((up1 g1 k v) z_))))] _ := hP
                          have hD : va_D A [mO h q zmu zmk zmz zms (a2 + 1) zmc, (q 5, .inl (cI, 200, .inl (fun z_ => nI (tx z_)))), (q 7, .inl (cI, 4, .inl (fun z_ => nI ((up1 g1 k v) z_))))] := hD
                          refine lv_iinc (v := nI (k + 1)) (lv' := [(2, .int (nI (k + 1))), (5, .int (nI (1))), (4, .int (nI (m1))), (3, .int (nI (v))), (0, .ref h), (1, .int (nI (n)))]) hx hb dX7_takes_170 hl (k := 3) rfl (n_inc _ 1) (by decide) rfl (fun ls hl => ?_)
                          refine lv_goto (tgt := 2) hx hb dX7_takes_173 (by decide) ?_
                          exact ih_2 (k + 1) (a2 + 1) (up1 g1 k v) (by omega) (nb_s hok (by rw [← ha1]; exact hrn_q.1)) (by rw [npN, ← ha1, hrn_q.2.1, ha2]) (by have := cx_lt hct_q; omega) (nb_g hg (by rw [← ha1, hrn_q.2.2]; exact hv.symm)) (by omega) _ _ hP hD hS _ (lv_sub hl [0, 4, 5] rfl)
                        · omega
                  · -- 113 to 116
                    have hsp_q : spN n k = 44 := if_pos (by omega)
                    refine lv_bipush (v := nI 44) hx hb dX7_takes_116 (by decide) ?_
                    refine lv_goto (tgt := 123) hx hb dX7_takes_118 (by decide) ?_
                    refine n_icmp_ne (tgt := 130) hx hb dX7_takes_123 (by decide) (by omega) (by decide) (fun c_24 => ?_) (fun c_24 => ?_)
                    · -- 123 to 130
                      have hct_q : ctB tx zmz (a1 + m1) (spN n k) = false := by rw [← ha2, hsp_q]; exact cx_1 c_24
                      refine lv_iconst (v := nI 0) hx hb dX7_takes_130 (by decide) ?_
                      refine lv_istore (lv' := [(5, .int (nI (0))), (4, .int (nI (m1))), (3, .int (nI (v))), (2, .int (nI (k))), (0, .ref h), (1, .int (nI (n)))]) hx hb dX7_takes_131 hl (by decide) rfl (fun ls hl => ?_)
                      refine lv_iload hx hb dX7_takes_133 (lv_at hl 1 rfl) ?_
                      refine lv_i2l (v := lN (m1)) hx hb dX7_takes_135 (nI_l (by omega)) ?_
                      refine lv_lconst (v := lN 1) hx hb dX7_takes_136 (by decide) ?_
                      refine lv_ldc2 (v := lN 2) hx hb hown (hts _ tw_832) dX7_takes_137 ?_
                      refine cl_7_67 (As := [.long (lN (m1)), .long (lN (1)), .long (lN (2))]) (rest := []) hx hb hml hts hown (k_X7_in ) (by decide) ⟨Nat.zero_le _, Nat.zero_le _⟩ hK hP hD hS hA [] rfl (by decide) rfl hl.1 rfl (Nat.le_of_ble_eq_true rfl) dX7_takes_140 (fun r_25 u H locs hp_26 hP hD hS => ?_)
                      obtain ⟨rfl, rfl⟩ := hp_26
                      have hP : va_P D vwCl [mO h q zmu zmk zmz zms a2 zmc, (q 5, .inl (cI, 200, .inl (fun z_ => nI (tx z_)))), (q 7, .inl (cI, 4, .inl (fun z_ => nI (g1 z_))))] _ := hP
                      have hD : va_D A [mO h q zmu zmk zmz zms a2 zmc, (q 5, .inl (cI, 200, .inl (fun z_ => nI (tx z_)))), (q 7, .inl (cI, 4, .inl (fun z_ => nI (g1 z_))))] := hD
                      refine n_ifb_eq (tgt := 151) hx hb dX7_takes_143 (by decide) (fun c_27 => ?_) (fun c_27 => ?_)
                      · -- 143 to 151
                        have hrf_q : rnB tx zmz a1 (spN n k) = false := rn_f1 hdg hnd_q (in12_0 (by omega) c_27)
                        refine lv_iconst (v := nI 0) hx hb dX7_takes_151 (by decide) ?_
                        refine hret hP hD hS dX7_takes_152 (by decide) rfl ?_
                        exact Or.inl ⟨_, _, nb_f (show k < n by omega) (by rw [← ha1]; exact hrf_q), rfl, rfl⟩
                      · -- 143 to 146
                        have h12_q := in12_1 (show m1 < 2147483648 by omega) c_27
                        refine lv_iload hx hb dX7_takes_146 (lv_at hl 0 rfl) ?_
                        refine n_if_ne (tgt := 153) hx hb dX7_takes_148 (by decide) (by decide) (fun c_28 => ?_) (fun c_28 => ?_)
                        · omega
                        · -- 148 to 151
                          have hrf_q : rnB tx zmz a1 (spN n k) = false := rn_f2 hdg hnd_q h12_q.1 h12_q.2 hct_q
                          refine lv_iconst (v := nI 0) hx hb dX7_takes_151 (by decide) ?_
                          refine hret hP hD hS dX7_takes_152 (by decide) rfl ?_
                          exact Or.inl ⟨_, _, nb_f (show k < n by omega) (by rw [← ha1]; exact hrf_q), rfl, rfl⟩
                    · -- 123 to 126
                      have hct_q : ctB tx zmz (a1 + m1) (spN n k) = true := by rw [← ha2, hsp_q]; exact cx_2 (by omega) c_24
                      refine lv_iconst (v := nI 1) hx hb dX7_takes_126 (by decide) ?_
                      refine lv_goto (tgt := 131) hx hb dX7_takes_127 (by decide) ?_
                      refine lv_istore (lv' := [(5, .int (nI (1))), (4, .int (nI (m1))), (3, .int (nI (v))), (2, .int (nI (k))), (0, .ref h), (1, .int (nI (n)))]) hx hb dX7_takes_131 hl (by decide) rfl (fun ls hl => ?_)
                      refine lv_iload hx hb dX7_takes_133 (lv_at hl 1 rfl) ?_
                      refine lv_i2l (v := lN (m1)) hx hb dX7_takes_135 (nI_l (by omega)) ?_
                      refine lv_lconst (v := lN 1) hx hb dX7_takes_136 (by decide) ?_
                      refine lv_ldc2 (v := lN 2) hx hb hown (hts _ tw_832) dX7_takes_137 ?_
                      refine cl_7_67 (As := [.long (lN (m1)), .long (lN (1)), .long (lN (2))]) (rest := []) hx hb hml hts hown (k_X7_in ) (by decide) ⟨Nat.zero_le _, Nat.zero_le _⟩ hK hP hD hS hA [] rfl (by decide) rfl hl.1 rfl (Nat.le_of_ble_eq_true rfl) dX7_takes_140 (fun r_29 u H locs hp_30 hP hD hS => ?_)
                      obtain ⟨rfl, rfl⟩ := hp_30
                      have hP : va_P D vwCl [mO h q zmu zmk zmz zms a2 zmc, (q 5, .inl (cI, 200, .inl (fun z_ => nI (tx z_)))), (q 7, .inl (cI, 4, .inl (fun z_ => nI (g1 z_))))] _ := hP
                      have hD : va_D A [mO h q zmu zmk zmz zms a2 zmc, (q 5, .inl (cI, 200, .inl (fun z_ => nI (tx z_)))), (q 7, .inl (cI, 4, .inl (fun z_ => nI (g1 z_))))] := hD
                      refine n_ifb_eq (tgt := 151) hx hb dX7_takes_143 (by decide) (fun c_31 => ?_) (fun c_31 => ?_)
                      · -- 143 to 151
                        have hrf_q : rnB tx zmz a1 (spN n k) = false := rn_f1 hdg hnd_q (in12_0 (by omega) c_31)
                        refine lv_iconst (v := nI 0) hx hb dX7_takes_151 (by decide) ?_
                        refine hret hP hD hS dX7_takes_152 (by decide) rfl ?_
                        exact Or.inl ⟨_, _, nb_f (show k < n by omega) (by rw [← ha1]; exact hrf_q), rfl, rfl⟩
                      · -- 143 to 146
                        have h12_q := in12_1 (show m1 < 2147483648 by omega) c_31
                        refine lv_iload hx hb dX7_takes_146 (lv_at hl 0 rfl) ?_
                        refine n_if_ne (tgt := 153) hx hb dX7_takes_148 (by decide) (by decide) (fun c_32 => ?_) (fun c_32 => ?_)
                        · -- 148 to 153
                          have hrn_q := rn_t hdg hnd_q h12_q.1 h12_q.2 hct_q
                          refine lv_aload_n hx hb dX7_takes_153 rfl (lv_at hl 4 rfl) ?_
                          refine gf_7_31 hx hb hts hown hK hP 0 rfl rfl dX7_takes_154 ?_
                          refine lv_iload_n hx hb dX7_takes_157 rfl (lv_at hl 3 rfl) ?_
                          refine lv_iload_n hx hb dX7_takes_158 rfl (lv_at hl 2 rfl) ?_
                          refine n_iast hx hb hK hP hD hS 2 0 rfl rfl dX7_takes_159 (by decide) (by omega) (fun H locs hP hD hS => ?_)
                          have hP : va_P D vwCl [mO h q zmu zmk zmz zms a2 zmc, (q 5, .inl (cI, 200, .inl (fun z_ => nI (tx z_)))), (q 7, .inl (cI, 4, .inl (fun z_ => nI ((up1 g1 k v) z_))))] _ := hP
                          have hD : va_D A [mO h q zmu zmk zmz zms a2 zmc, (q 5, .inl (cI, 200, .inl (fun z_ => nI (tx z_)))), (q 7, .inl (cI, 4, .inl (fun z_ => nI ((up1 g1 k v) z_))))] := hD
                          refine lv_aload_n hx hb dX7_takes_160 rfl (lv_at hl 4 rfl) ?_
                          refine lv_dup hx hb dX7_takes_161 rfl ?_
                          refine gf_7_79 hx hb hts hown hK hP 0 rfl rfl dX7_takes_162 ?_
                          refine lv_iconst (v := nI 1) hx hb dX7_takes_165 (by decide) ?_
                          refine n_iadd hx hb dX7_takes_166  ?_
                          refine pf_7_79 hx hb hts hown hK hP hD hS 0 rfl (Nat.le_of_ble_eq_true rfl) dX7_takes_167 (fun H locs hP hD hS => ?_)
                          have hP : va_P D vwCl [mO h q zmu zmk zmz zms (a2 + 1) zmc, (q 5, .inl (cI, 200, .inl (fun z_ => nI (tx z_)))), (q 7, .inl (cI, 4, .inl (fun z_ => nI ((up1 g1 k v) z_))))] _ := hP
                          have hD : va_D A [mO h q zmu zmk zmz zms (a2 + 1) zmc, (q 5, .inl (cI, 200, .inl (fun z_ => nI (tx z_)))), (q 7, .inl (cI, 4, .inl (fun z_ => nI ((up1 g1 k v) z_))))] := hD
                          refine lv_iinc (v := nI (k + 1)) (lv' := [(2, .int (nI (k + 1))), (5, .int (nI (1))), (4, .int (nI (m1))), (3, .int (nI (v))), (0, .ref h), (1, .int (nI (n)))]) hx hb dX7_takes_170 hl (k := 3) rfl (n_inc _ 1) (by decide) rfl (fun ls hl => ?_)
                          refine lv_goto (tgt := 2) hx hb dX7_takes_173 (by decide) ?_
                          exact ih_2 (k + 1) (a2 + 1) (up1 g1 k v) (by omega) (nb_s hok (by rw [← ha1]; exact hrn_q.1)) (by rw [npN, ← ha1, hrn_q.2.1, ha2]) (by have := cx_lt hct_q; omega) (nb_g hg (by rw [← ha1, hrn_q.2.2]; exact hv.symm)) (by omega) _ _ hP hD hS _ (lv_sub hl [0, 4, 5] rfl)
                        · omega
              · -- 42 to 45
                have hd_q : dgB tx zmz a2 = true := dg_2 (by omega) (by omega) c_11
                have h48_q := dg_48 hd_q
                refine lv_iload hx hb dX7_takes_45 (lv_at hl 0 rfl) ?_
                refine lv_iconst (v := nI 2) hx hb dX7_takes_47 (by decide) ?_
                refine n_icmp_ge (tgt := 71) hx hb dX7_takes_48 (by decide) (by omega) (by decide) (fun c_33 => ?_) (fun c_33 => ?_)
                · -- 48 to 71
                  refine lv_iload_n hx hb dX7_takes_71 rfl (lv_at hl 1 rfl) ?_
                  refine lv_istore_n (lv' := [(3, .int (nI (v))), (4, .int (nI (m1))), (2, .int (nI (k))), (0, .ref h), (1, .int (nI (n)))]) hx hb dX7_takes_72 rfl hl (by decide) rfl (fun ls hl => ?_)
                  refine lv_iinc (v := nI (m1 + 1)) (lv' := [(4, .int (nI (m1 + 1))), (3, .int (nI (v))), (2, .int (nI (k))), (0, .ref h), (1, .int (nI (n)))]) hx hb dX7_takes_73 hl (k := 1) rfl (n_inc _ 1) (by decide) rfl (fun ls hl => ?_)
                  refine lv_aload_n hx hb dX7_takes_76 rfl (lv_at hl 3 rfl) ?_
                  refine lv_dup hx hb dX7_takes_77 rfl ?_
                  refine gf_7_79 hx hb hts hown hK hP 0 rfl rfl dX7_takes_78 ?_
                  refine lv_iconst (v := nI 1) hx hb dX7_takes_81 (by decide) ?_
                  refine n_iadd hx hb dX7_takes_82  ?_
                  refine pf_7_79 hx hb hts hown hK hP hD hS 0 rfl (Nat.le_of_ble_eq_true rfl) dX7_takes_83 (fun H locs hP hD hS => ?_)
                  have hP : va_P D vwCl [mO h q zmu zmk zmz zms (a2 + 1) zmc, (q 5, .inl (cI, 200, .inl (fun z_ => nI (tx z_)))), (q 7, .inl (cI, 4, .inl (fun z_ => nI (g1 z_))))] _ := hP
                  have hD : va_D A [mO h q zmu zmk zmz zms (a2 + 1) zmc, (q 5, .inl (cI, 200, .inl (fun z_ => nI (tx z_)))), (q 7, .inl (cI, 4, .inl (fun z_ => nI (g1 z_))))] := hD
                  refine lv_goto (tgt := 12) hx hb dX7_takes_86 (by decide) ?_
                  exact ih_12 v (m1 + 1) (a2 + 1) (by omega) (dg_s hdg (by rw [← ha2]; exact hd_q)) (by first | exact vl_s2 hv (by omega) (by rw [← ha2]) (dg_48 hd_q) | exact vl_s3 hv (by omega)) (by omega) (by omega) _ _ hP hD hS _ (lv_sub hl [0, 1, 2, 3, 4] rfl)
                · -- 48 to 51
                  refine lv_bipush (v := nI 10) hx hb dX7_takes_51 (by decide) ?_
                  refine lv_iload_n hx hb dX7_takes_53 rfl (lv_at hl 1 rfl) ?_
                  refine n_imul hx hb dX7_takes_54  ?_
                  refine lv_aload_n hx hb dX7_takes_55 rfl (lv_at hl 3 rfl) ?_
                  refine gf_7_25 hx hb hts hown hK hP 0 rfl rfl dX7_takes_56 ?_
                  refine lv_aload_n hx hb dX7_takes_59 rfl (lv_at hl 3 rfl) ?_
                  refine gf_7_79 hx hb hts hown hK hP 0 rfl rfl dX7_takes_60 ?_
                  refine n_iald hx hb hK hP 1 0 rfl rfl dX7_takes_63 (by decide) (by omega) ?_
                  have hb_34 := htx a2
                  refine n_iadd hx hb dX7_takes_64  ?_
                  refine lv_bipush (v := nI 48) hx hb dX7_takes_65 (by decide) ?_
                  refine n_isub hx hb dX7_takes_67 (by omega) ?_
                  refine lv_goto (tgt := 72) hx hb dX7_takes_68 (by decide) ?_
                  refine lv_istore_n (lv' := [(3, .int (nI (((10 * v) + (tx a2)) - 48))), (4, .int (nI (m1))), (2, .int (nI (k))), (0, .ref h), (1, .int (nI (n)))]) hx hb dX7_takes_72 rfl hl (by decide) rfl (fun ls hl => ?_)
                  refine lv_iinc (v := nI (m1 + 1)) (lv' := [(4, .int (nI (m1 + 1))), (3, .int (nI (((10 * v) + (tx a2)) - 48))), (2, .int (nI (k))), (0, .ref h), (1, .int (nI (n)))]) hx hb dX7_takes_73 hl (k := 1) rfl (n_inc _ 1) (by decide) rfl (fun ls hl => ?_)
                  refine lv_aload_n hx hb dX7_takes_76 rfl (lv_at hl 3 rfl) ?_
                  refine lv_dup hx hb dX7_takes_77 rfl ?_
                  refine gf_7_79 hx hb hts hown hK hP 0 rfl rfl dX7_takes_78 ?_
                  refine lv_iconst (v := nI 1) hx hb dX7_takes_81 (by decide) ?_
                  refine n_iadd hx hb dX7_takes_82  ?_
                  refine pf_7_79 hx hb hts hown hK hP hD hS 0 rfl (Nat.le_of_ble_eq_true rfl) dX7_takes_83 (fun H locs hP hD hS => ?_)
                  have hP : va_P D vwCl [mO h q zmu zmk zmz zms (a2 + 1) zmc, (q 5, .inl (cI, 200, .inl (fun z_ => nI (tx z_)))), (q 7, .inl (cI, 4, .inl (fun z_ => nI (g1 z_))))] _ := hP
                  have hD : va_D A [mO h q zmu zmk zmz zms (a2 + 1) zmc, (q 5, .inl (cI, 200, .inl (fun z_ => nI (tx z_)))), (q 7, .inl (cI, 4, .inl (fun z_ => nI (g1 z_))))] := hD
                  refine lv_goto (tgt := 12) hx hb dX7_takes_86 (by decide) ?_
                  exact ih_12 (((10 * v) + (tx a2)) - 48) (m1 + 1) (a2 + 1) (by omega) (dg_s hdg (by rw [← ha2]; exact hd_q)) (by first | exact vl_s2 hv (by omega) (by rw [← ha2]) (dg_48 hd_q) | exact vl_s3 hv (by omega)) (by omega) (by omega) _ _ hP hD hS _ (lv_sub hl [0, 1, 2, 3, 4] rfl)
        exact loop_12 _ 0 0 a1 rfl (fun j hj => absurd hj (Nat.not_lt_zero j)) rfl (by omega) (Nat.lt_succ_self _) _ _ hP hD hS _ (lv_sub hl [0, 1, 2, 3, 4] rfl)
  exact loop_2 _ 0 zma g (by omega) rfl rfl (by omega) (fun j hj => absurd hj (Nat.not_lt_zero j)) (Nat.lt_succ_self _) _ _ hP hD hS _ (lv_sub hl [0, 1, 2] rfl)
set_option maxHeartbeats 4000000 in
set_option maxRecDepth 100000 in
theorem k_X7_isToldTooth {l : Launch} {D : va_G} {cI cC cB : ClassId} {h : Nat} {q : Nat → Nat} {zmu zmk zmz zms zma zmc : Nat} {rd : Nat → Nat} {x y : Nat} (hW : BxW rd) (hx1 : x < 1000) (hy1 : y < 1000) : MI l yX7_isToldTooth cX7_isToldTooth 3 (some .boolean) 0 D (Ty3 cI cC cB) [.ref h, .int (nI (x)), .int (nI (y))] [mO h q zmu zmk zmz zms zma zmc, (q 1, .inl (cI, 54, .inl (fun z_ => nI (rd z_))))] (fun r u => (r = nI (b2n (tltB rd x y)) ∧ u = [mO h q zmu zmk zmz zms zma zmc, (q 1, .inl (cI, 54, .inl (fun z_ => nI (rd z_))))])) := by
  intro sz
  refine MI.walk (by decide +kernel) (Nat.le_of_ble_eq_true rfl) ?_
  intro p e s m args below meth c A Qf hx hb hml hts hown hret hK hP hD hS hA ls hl
  have hown : s.vm.findClass RX7 = some m.cls := hown
  have hl : lv_has ls 3 [(0, .ref h), (1, .int (nI (x))), (2, .int (nI (y)))] := hl
  have hP : va_P D vwCl [mO h q zmu zmk zmz zms zma zmc, (q 1, .inl (cI, 54, .inl (fun z_ => nI (rd z_))))] s.heap := hP
  have hD : va_D A [mO h q zmu zmk zmz zms zma zmc, (q 1, .inl (cI, 54, .inl (fun z_ => nI (rd z_))))] := hD
  have hw_q := hW.w
  refine lv_iload_n hx hb dX7_isToldTooth_0 rfl (lv_at hl 1 rfl) ?_
  refine lv_aload_n hx hb dX7_isToldTooth_1 rfl (lv_at hl 0 rfl) ?_
  refine gf_7_13 hx hb hts hown hK hP 0 rfl rfl dX7_isToldTooth_2 ?_
  refine lv_iconst (v := nI 0) hx hb dX7_isToldTooth_5 (by decide) ?_
  refine n_iald hx hb hK hP 1 0 rfl rfl dX7_isToldTooth_6 (by decide) (by omega) ?_
  have hb_1 := hW.bd 0
  refine n_icmp_ge (tgt := 26) hx hb dX7_isToldTooth_7 (by decide) (by omega) (by omega) (fun c_2 => ?_) (fun c_2 => ?_)
  · -- 7 to 26
    refine lv_iconst (v := nI 0) hx hb dX7_isToldTooth_26 (by decide) ?_
    refine hret hP hD hS dX7_isToldTooth_27 (by decide) rfl ?_
    exact ⟨congrArg nI (by first | exact b2n_e1 (tlt_1 (by assumption) (by assumption)) | exact b2n_e0 (tlt_0 (by assumption)) | exact b2n_e0 (tlt_2 (by assumption))), rfl⟩
  · -- 7 to 10
    refine lv_iload_n hx hb dX7_isToldTooth_10 rfl (lv_at hl 2 rfl) ?_
    refine lv_aload_n hx hb dX7_isToldTooth_11 rfl (lv_at hl 0 rfl) ?_
    refine gf_7_13 hx hb hts hown hK hP 0 rfl rfl dX7_isToldTooth_12 ?_
    refine lv_iconst (v := nI 5) hx hb dX7_isToldTooth_15 (by decide) ?_
    refine lv_iload_n hx hb dX7_isToldTooth_16 rfl (lv_at hl 1 rfl) ?_
    refine n_iadd hx hb dX7_isToldTooth_17  ?_
    refine n_iald hx hb hK hP 1 0 rfl rfl dX7_isToldTooth_18 (by decide) (by omega) ?_
    have hb_3 := hW.bd (5 + x)
    refine n_icmp_ge (tgt := 26) hx hb dX7_isToldTooth_19 (by decide) (by omega) (by omega) (fun c_4 => ?_) (fun c_4 => ?_)
    · -- 19 to 26
      refine lv_iconst (v := nI 0) hx hb dX7_isToldTooth_26 (by decide) ?_
      refine hret hP hD hS dX7_isToldTooth_27 (by decide) rfl ?_
      exact ⟨congrArg nI (by first | exact b2n_e1 (tlt_1 (by assumption) (by assumption)) | exact b2n_e0 (tlt_0 (by assumption)) | exact b2n_e0 (tlt_2 (by assumption))), rfl⟩
    · -- 19 to 22
      refine lv_iconst (v := nI 1) hx hb dX7_isToldTooth_22 (by decide) ?_
      refine lv_goto (tgt := 27) hx hb dX7_isToldTooth_23 (by decide) ?_
      refine hret hP hD hS dX7_isToldTooth_27 (by decide) rfl ?_
      exact ⟨congrArg nI (by first | exact b2n_e1 (tlt_1 (by assumption) (by assumption)) | exact b2n_e0 (tlt_0 (by assumption)) | exact b2n_e0 (tlt_2 (by assumption))), rfl⟩
set_option maxHeartbeats 4000000 in
set_option maxRecDepth 100000 in
theorem k_X7_takesWheel {l : Launch} {D : va_G} {cI cC cB : ClassId} {h : Nat} {q : Nat → Nat} {zmu zmk zmz zms zma zmc : Nat} {tx g rd : Nat → Nat} (hW : BxW rd) (ha : zma ≤ 201) (hz : zmz ≤ 200) (htx : ∀ j, tx j < 128) : MI l yX7_takesWheel cX7_takesWheel 1 (some .boolean) 2 D (Ty3 cI cC cB) [.ref h] [mO h q zmu zmk zmz zms zma zmc, (q 1, .inl (cI, 54, .inl (fun z_ => nI (rd z_)))), (q 5, .inl (cI, 200, .inl (fun z_ => nI (tx z_)))), (q 7, .inl (cI, 4, .inl (fun z_ => nI (g z_))))] (fun r u => (∃ a2 : Nat, ∃ g2 : Nat → Nat, ((nbB tx zmz zma 3 3 && tkB rd 119 (fun j_ => rnV tx zmz (npN tx zmz zma j_))) = false) ∧ r = nI (0) ∧ u = [mO h q zmu zmk zmz zms a2 zmc, (q 1, .inl (cI, 54, .inl (fun z_ => nI (rd z_)))), (q 5, .inl (cI, 200, .inl (fun z_ => nI (tx z_)))), (q 7, .inl (cI, 4, .inl (fun z_ => nI (g2 z_))))]) ∨ (∃ g2 : Nat → Nat, ((nbB tx zmz zma 3 3 && tkB rd 119 (fun j_ => rnV tx zmz (npN tx zmz zma j_))) = true) ∧ r = nI (1) ∧ u = [mO h q zmu zmk zmz zms (npN tx zmz zma 3) zmc, (q 1, .inl (cI, 54, .inl (fun z_ => nI ((tkR rd 119 (fun j_ => rnV tx zmz (npN tx zmz zma j_))) z_)))), (q 5, .inl (cI, 200, .inl (fun z_ => nI (tx z_)))), (q 7, .inl (cI, 4, .inl (fun z_ => nI (g2 z_))))])) := by
  intro sz
  refine MI.walk (by decide +kernel) (Nat.le_of_ble_eq_true rfl) ?_
  intro p e s m args below meth c A Qf hx hb hml hts hown hret hK hP hD hS hA ls hl
  have hown : s.vm.findClass RX7 = some m.cls := hown
  have hl : lv_has ls 1 [(0, .ref h)] := hl
  have hP : va_P D vwCl [mO h q zmu zmk zmz zms zma zmc, (q 1, .inl (cI, 54, .inl (fun z_ => nI (rd z_)))), (q 5, .inl (cI, 200, .inl (fun z_ => nI (tx z_)))), (q 7, .inl (cI, 4, .inl (fun z_ => nI (g z_))))] s.heap := hP
  have hD : va_D A [mO h q zmu zmk zmz zms zma zmc, (q 1, .inl (cI, 54, .inl (fun z_ => nI (rd z_)))), (q 5, .inl (cI, 200, .inl (fun z_ => nI (tx z_)))), (q 7, .inl (cI, 4, .inl (fun z_ => nI (g z_))))] := hD
  refine lv_aload_n hx hb dX7_takesWheel_0 rfl (lv_at hl 0 rfl) ?_
  refine lv_iconst (v := nI 3) hx hb dX7_takesWheel_1 (by decide) ?_
  refine cl_7_88 (As := [.int (nI (3))]) (rest := []) hx hb hml hts hown (k_X7_takes (by first | assumption | omega) (by first | assumption | omega) (by first | assumption | omega) (by first | assumption | omega) (by first | assumption | omega)) (by decide) ⟨Nat.zero_le _, Nat.zero_le _⟩ hK hP hD hS hA 0 rfl [0, 2, 3] rfl (by decide) rfl hl.1 rfl (Nat.le_of_ble_eq_true rfl) dX7_takesWheel_2 (fun r_1 u H locs hp_2 hP hD hS => ?_)
  rcases hp_2 with ⟨z_3, z_4, hq_5, rfl, rfl⟩ | ⟨z_6, hq_7, hq_8, rfl, rfl⟩
  · -- case 0 of k_X7_takes
    have hP : va_P D vwCl [mO h q zmu zmk zmz zms z_3 zmc, (q 1, .inl (cI, 54, .inl (fun z_ => nI (rd z_)))), (q 5, .inl (cI, 200, .inl (fun z_ => nI (tx z_)))), (q 7, .inl (cI, 4, .inl (fun z_ => nI (z_4 z_))))] _ := hP
    have hD : va_D A [mO h q zmu zmk zmz zms z_3 zmc, (q 1, .inl (cI, 54, .inl (fun z_ => nI (rd z_)))), (q 5, .inl (cI, 200, .inl (fun z_ => nI (tx z_)))), (q 7, .inl (cI, 4, .inl (fun z_ => nI (z_4 z_))))] := hD
    have hnb_q := hq_5
    refine n_if_eq (tgt := 67) hx hb dX7_takesWheel_5 (by decide) (by decide) (fun c_9 => ?_) (fun c_9 => ?_)
    · -- 5 to 67
      refine lv_iconst (v := nI 0) hx hb dX7_takesWheel_67 (by decide) ?_
      refine hret hP hD hS dX7_takesWheel_68 (by decide) rfl ?_
      exact Or.inl ⟨_, _, by first | (simp [hnb_q]; done) | (simp only [tkB, hnb_q, ← n0_q, ← n1_q, ← n2_q]; simp [wokB, hq_5, c_9, hnb_q]; done) | (simp only [tkB, hnb_q, ← n0_q, ← n1_q, ← n2_q]; simp [wokB, hq_5, c_9, hnb_q]; omega), rfl, rfl⟩
    · omega
  · -- case 1 of k_X7_takes
    have hP : va_P D vwCl [mO h q zmu zmk zmz zms (npN tx zmz zma 3) zmc, (q 1, .inl (cI, 54, .inl (fun z_ => nI (rd z_)))), (q 5, .inl (cI, 200, .inl (fun z_ => nI (tx z_)))), (q 7, .inl (cI, 4, .inl (fun z_ => nI (z_6 z_))))] _ := hP
    have hD : va_D A [mO h q zmu zmk zmz zms (npN tx zmz zma 3) zmc, (q 1, .inl (cI, 54, .inl (fun z_ => nI (rd z_)))), (q 5, .inl (cI, 200, .inl (fun z_ => nI (tx z_)))), (q 7, .inl (cI, 4, .inl (fun z_ => nI (z_6 z_))))] := hD
    have hnb_q := hq_7
    have n0_q := hq_8 0 (by omega)
    have v0_q := nb_v hnb_q 0 (by omega)
    have n1_q := hq_8 1 (by omega)
    have v1_q := nb_v hnb_q 1 (by omega)
    have n2_q := hq_8 2 (by omega)
    have v2_q := nb_v hnb_q 2 (by omega)
    refine n_if_eq (tgt := 67) hx hb dX7_takesWheel_5 (by decide) (by decide) (fun c_10 => ?_) (fun c_10 => ?_)
    · omega
    · -- 5 to 8
      refine lv_aload_n hx hb dX7_takesWheel_8 rfl (lv_at hl 0 rfl) ?_
      refine gf_7_31 hx hb hts hown hK hP 0 rfl rfl dX7_takesWheel_9 ?_
      refine lv_iconst (v := nI 0) hx hb dX7_takesWheel_12 (by decide) ?_
      refine n_iald hx hb hK hP 3 0 rfl rfl dX7_takesWheel_13 (by decide) (by omega) ?_
      refine lv_i2l (v := lN (z_6 0)) hx hb dX7_takesWheel_14 (nI_l (by omega)) ?_
      refine lv_ldc2 (v := lN 2) hx hb hown (hts _ tw_832) dX7_takesWheel_15 ?_
      refine lv_ldc2 (v := lN 6) hx hb hown (hts _ tw_833) dX7_takesWheel_18 ?_
      refine cl_7_67 (As := [.long (lN (z_6 0)), .long (lN (2)), .long (lN (6))]) (rest := []) hx hb hml hts hown (k_X7_in ) (by decide) ⟨Nat.zero_le _, Nat.zero_le _⟩ hK hP hD hS hA [] rfl (by decide) rfl hl.1 rfl (Nat.le_of_ble_eq_true rfl) dX7_takesWheel_21 (fun r_11 u H locs hp_12 hP hD hS => ?_)
      obtain ⟨rfl, rfl⟩ := hp_12
      have hP : va_P D vwCl [mO h q zmu zmk zmz zms (npN tx zmz zma 3) zmc, (q 1, .inl (cI, 54, .inl (fun z_ => nI (rd z_)))), (q 5, .inl (cI, 200, .inl (fun z_ => nI (tx z_)))), (q 7, .inl (cI, 4, .inl (fun z_ => nI (z_6 z_))))] _ := hP
      have hD : va_D A [mO h q zmu zmk zmz zms (npN tx zmz zma 3) zmc, (q 1, .inl (cI, 54, .inl (fun z_ => nI (rd z_)))), (q 5, .inl (cI, 200, .inl (fun z_ => nI (tx z_)))), (q 7, .inl (cI, 4, .inl (fun z_ => nI (z_6 z_))))] := hD
      refine n_ifb_eq (tgt := 67) hx hb dX7_takesWheel_24 (by decide) (fun c_13 => ?_) (fun c_13 => ?_)
      · -- 24 to 67
        have hr_q := in26_0 (by omega) c_13
        refine lv_iconst (v := nI 0) hx hb dX7_takesWheel_67 (by decide) ?_
        refine hret hP hD hS dX7_takesWheel_68 (by decide) rfl ?_
        exact Or.inl ⟨_, _, by first | (simp [hnb_q]; done) | (simp only [tkB, hnb_q, ← n0_q, ← n1_q, ← n2_q]; simp [wokB, hq_7, c_10, c_13, hr_q]; done) | (simp only [tkB, hnb_q, ← n0_q, ← n1_q, ← n2_q]; simp [wokB, hq_7, c_10, c_13, hr_q]; omega), rfl, rfl⟩
      · -- 24 to 27
        have hr_q := in26_1 (by omega) c_13
        refine lv_aload_n hx hb dX7_takesWheel_27 rfl (lv_at hl 0 rfl) ?_
        refine gf_7_31 hx hb hts hown hK hP 0 rfl rfl dX7_takesWheel_28 ?_
        refine lv_iconst (v := nI 1) hx hb dX7_takesWheel_31 (by decide) ?_
        refine n_iald hx hb hK hP 3 0 rfl rfl dX7_takesWheel_32 (by decide) (by omega) ?_
        refine lv_aload_n hx hb dX7_takesWheel_33 rfl (lv_at hl 0 rfl) ?_
        refine gf_7_31 hx hb hts hown hK hP 0 rfl rfl dX7_takesWheel_34 ?_
        refine lv_iconst (v := nI 0) hx hb dX7_takesWheel_37 (by decide) ?_
        refine n_iald hx hb hK hP 3 0 rfl rfl dX7_takesWheel_38 (by decide) (by omega) ?_
        refine n_icmp_ge (tgt := 67) hx hb dX7_takesWheel_39 (by decide) (by omega) (by omega) (fun c_14 => ?_) (fun c_14 => ?_)
        · -- 39 to 67
          refine lv_iconst (v := nI 0) hx hb dX7_takesWheel_67 (by decide) ?_
          refine hret hP hD hS dX7_takesWheel_68 (by decide) rfl ?_
          exact Or.inl ⟨_, _, by first | (simp [hnb_q]; done) | (simp only [tkB, hnb_q, ← n0_q, ← n1_q, ← n2_q]; simp [wokB, hq_7, c_10, c_13, c_14, hr_q]; done) | (simp only [tkB, hnb_q, ← n0_q, ← n1_q, ← n2_q]; simp [wokB, hq_7, c_10, c_13, c_14, hr_q]; omega), rfl, rfl⟩
        · -- 39 to 42
          refine lv_aload_n hx hb dX7_takesWheel_42 rfl (lv_at hl 0 rfl) ?_
          refine gf_7_31 hx hb hts hown hK hP 0 rfl rfl dX7_takesWheel_43 ?_
          refine lv_iconst (v := nI 2) hx hb dX7_takesWheel_46 (by decide) ?_
          refine n_iald hx hb hK hP 3 0 rfl rfl dX7_takesWheel_47 (by decide) (by omega) ?_
          refine lv_aload_n hx hb dX7_takesWheel_48 rfl (lv_at hl 0 rfl) ?_
          refine gf_7_31 hx hb hts hown hK hP 0 rfl rfl dX7_takesWheel_49 ?_
          refine lv_iconst (v := nI 0) hx hb dX7_takesWheel_52 (by decide) ?_
          refine n_iald hx hb hK hP 3 0 rfl rfl dX7_takesWheel_53 (by decide) (by omega) ?_
          refine n_icmp_ge (tgt := 67) hx hb dX7_takesWheel_54 (by decide) (by omega) (by omega) (fun c_15 => ?_) (fun c_15 => ?_)
          · -- 54 to 67
            refine lv_iconst (v := nI 0) hx hb dX7_takesWheel_67 (by decide) ?_
            refine hret hP hD hS dX7_takesWheel_68 (by decide) rfl ?_
            exact Or.inl ⟨_, _, by first | (simp [hnb_q]; done) | (simp only [tkB, hnb_q, ← n0_q, ← n1_q, ← n2_q]; simp [wokB, hq_7, c_10, c_13, c_14, c_15, hr_q]; done) | (simp only [tkB, hnb_q, ← n0_q, ← n1_q, ← n2_q]; simp [wokB, hq_7, c_10, c_13, c_14, c_15, hr_q]; omega), rfl, rfl⟩
          · -- 54 to 57
            have hw_q := hW.w
            refine lv_aload_n hx hb dX7_takesWheel_57 rfl (lv_at hl 0 rfl) ?_
            refine gf_7_13 hx hb hts hown hK hP 0 rfl rfl dX7_takesWheel_58 ?_
            refine lv_iconst (v := nI 0) hx hb dX7_takesWheel_61 (by decide) ?_
            refine n_iald hx hb hK hP 1 0 rfl rfl dX7_takesWheel_62 (by decide) (by omega) ?_
            have hb_16 := hW.bd 0
            refine lv_iconst (v := nI 4) hx hb dX7_takesWheel_63 (by decide) ?_
            refine n_icmp_ne (tgt := 69) hx hb dX7_takesWheel_64 (by decide) (by omega) (by decide) (fun c_17 => ?_) (fun c_17 => ?_)
            · -- 64 to 69
              refine lv_aload_n hx hb dX7_takesWheel_69 rfl (lv_at hl 0 rfl) ?_
              refine lv_aload_n hx hb dX7_takesWheel_70 rfl (lv_at hl 0 rfl) ?_
              refine gf_7_31 hx hb hts hown hK hP 0 rfl rfl dX7_takesWheel_71 ?_
              refine lv_iconst (v := nI 0) hx hb dX7_takesWheel_74 (by decide) ?_
              refine n_iald hx hb hK hP 3 0 rfl rfl dX7_takesWheel_75 (by decide) (by omega) ?_
              refine lv_aload_n hx hb dX7_takesWheel_76 rfl (lv_at hl 0 rfl) ?_
              refine gf_7_31 hx hb hts hown hK hP 0 rfl rfl dX7_takesWheel_77 ?_
              refine lv_iconst (v := nI 1) hx hb dX7_takesWheel_80 (by decide) ?_
              refine n_iald hx hb hK hP 3 0 rfl rfl dX7_takesWheel_81 (by decide) (by omega) ?_
              refine lv_aload_n hx hb dX7_takesWheel_82 rfl (lv_at hl 0 rfl) ?_
              refine gf_7_31 hx hb hts hown hK hP 0 rfl rfl dX7_takesWheel_83 ?_
              refine lv_iconst (v := nI 2) hx hb dX7_takesWheel_86 (by decide) ?_
              refine n_iald hx hb hK hP 3 0 rfl rfl dX7_takesWheel_87 (by decide) (by omega) ?_
              refine cl_7_52 (As := [.int (nI (z_6 0)), .int (nI (z_6 1)), .int (nI (z_6 2))]) (rest := []) hx hb hml hts hown (k_X7_comes (by first | assumption | omega)) (by decide) ⟨Nat.zero_le _, Nat.zero_le _⟩ hK hP hD hS hA 0 rfl [0, 1] rfl (by decide) rfl hl.1 rfl (Nat.le_of_ble_eq_true rfl) dX7_takesWheel_88 (fun  u H locs hp_18 hP hD hS => ?_)
              subst hp_18
              have hP : va_P D vwCl [mO h q zmu zmk zmz zms ((npN tx zmz zma 3)) zmc, (q 1, .inl (cI, 54, .inl (fun z_ => nI ((wrdN rd (z_6 0) (z_6 1) (z_6 2)) z_)))), (q 5, .inl (cI, 200, .inl (fun z_ => nI (tx z_)))), (q 7, .inl (cI, 4, .inl (fun z_ => nI (z_6 z_))))] _ := hP
              have hD : va_D A [mO h q zmu zmk zmz zms ((npN tx zmz zma 3)) zmc, (q 1, .inl (cI, 54, .inl (fun z_ => nI ((wrdN rd (z_6 0) (z_6 1) (z_6 2)) z_)))), (q 5, .inl (cI, 200, .inl (fun z_ => nI (tx z_)))), (q 7, .inl (cI, 4, .inl (fun z_ => nI (z_6 z_))))] := hD
              refine lv_iconst (v := nI 1) hx hb dX7_takesWheel_91 (by decide) ?_
              refine hret hP hD hS dX7_takesWheel_92 (by decide) rfl ?_
              exact Or.inr ⟨_, by first | (simp only [tkB, hnb_q, ← n0_q, ← n1_q, ← n2_q]; simp [wokB, hq_7, c_10, c_13, c_14, c_15, c_17, hr_q]; done) | (simp only [tkB, hnb_q, ← n0_q, ← n1_q, ← n2_q]; simp [wokB, hq_7, c_10, c_13, c_14, c_15, c_17, hr_q]; omega), rfl, by rw [n0_q, n1_q, n2_q]; rfl⟩
            · -- 64 to 67
              refine lv_iconst (v := nI 0) hx hb dX7_takesWheel_67 (by decide) ?_
              refine hret hP hD hS dX7_takesWheel_68 (by decide) rfl ?_
              exact Or.inl ⟨_, _, by first | (simp [hnb_q]; done) | (simp only [tkB, hnb_q, ← n0_q, ← n1_q, ← n2_q]; simp [wokB, hq_7, c_10, c_13, c_14, c_15, c_17, hr_q]; done) | (simp only [tkB, hnb_q, ← n0_q, ← n1_q, ← n2_q]; simp [wokB, hq_7, c_10, c_13, c_14, c_15, c_17, hr_q]; omega), rfl, rfl⟩
set_option maxHeartbeats 4000000 in
set_option maxRecDepth 100000 in
theorem k_X7_takesPair {l : Launch} {D : va_G} {cI cC cB : ClassId} {h : Nat} {q : Nat → Nat} {zmu zmk zmz zms zma zmc : Nat} {tx g rd : Nat → Nat} (hW : BxW rd) (ha : zma ≤ 201) (hz : zmz ≤ 200) (htx : ∀ j, tx j < 128) : MI l yX7_takesPair cX7_takesPair 1 (some .boolean) 2 D (Ty3 cI cC cB) [.ref h] [mO h q zmu zmk zmz zms zma zmc, (q 1, .inl (cI, 54, .inl (fun z_ => nI (rd z_)))), (q 5, .inl (cI, 200, .inl (fun z_ => nI (tx z_)))), (q 7, .inl (cI, 4, .inl (fun z_ => nI (g z_))))] (fun r u => (∃ a2 : Nat, ∃ g2 : Nat → Nat, ((nbB tx zmz zma 4 4 && tkB rd 120 (fun j_ => rnV tx zmz (npN tx zmz zma j_))) = false) ∧ r = nI (0) ∧ u = [mO h q zmu zmk zmz zms a2 zmc, (q 1, .inl (cI, 54, .inl (fun z_ => nI (rd z_)))), (q 5, .inl (cI, 200, .inl (fun z_ => nI (tx z_)))), (q 7, .inl (cI, 4, .inl (fun z_ => nI (g2 z_))))]) ∨ (∃ g2 : Nat → Nat, ((nbB tx zmz zma 4 4 && tkB rd 120 (fun j_ => rnV tx zmz (npN tx zmz zma j_))) = true) ∧ r = nI (1) ∧ u = [mO h q zmu zmk zmz zms (npN tx zmz zma 4) zmc, (q 1, .inl (cI, 54, .inl (fun z_ => nI ((tkR rd 120 (fun j_ => rnV tx zmz (npN tx zmz zma j_))) z_)))), (q 5, .inl (cI, 200, .inl (fun z_ => nI (tx z_)))), (q 7, .inl (cI, 4, .inl (fun z_ => nI (g2 z_))))])) := by
  intro sz
  refine MI.walk (by decide +kernel) (Nat.le_of_ble_eq_true rfl) ?_
  intro p e s m args below meth c A Qf hx hb hml hts hown hret hK hP hD hS hA ls hl
  have hown : s.vm.findClass RX7 = some m.cls := hown
  have hl : lv_has ls 1 [(0, .ref h)] := hl
  have hP : va_P D vwCl [mO h q zmu zmk zmz zms zma zmc, (q 1, .inl (cI, 54, .inl (fun z_ => nI (rd z_)))), (q 5, .inl (cI, 200, .inl (fun z_ => nI (tx z_)))), (q 7, .inl (cI, 4, .inl (fun z_ => nI (g z_))))] s.heap := hP
  have hD : va_D A [mO h q zmu zmk zmz zms zma zmc, (q 1, .inl (cI, 54, .inl (fun z_ => nI (rd z_)))), (q 5, .inl (cI, 200, .inl (fun z_ => nI (tx z_)))), (q 7, .inl (cI, 4, .inl (fun z_ => nI (g z_))))] := hD
  refine lv_aload_n hx hb dX7_takesPair_0 rfl (lv_at hl 0 rfl) ?_
  refine lv_iconst (v := nI 4) hx hb dX7_takesPair_1 (by decide) ?_
  refine cl_7_88 (As := [.int (nI (4))]) (rest := []) hx hb hml hts hown (k_X7_takes (by first | assumption | omega) (by first | assumption | omega) (by first | assumption | omega) (by first | assumption | omega) (by first | assumption | omega)) (by decide) ⟨Nat.zero_le _, Nat.zero_le _⟩ hK hP hD hS hA 0 rfl [0, 2, 3] rfl (by decide) rfl hl.1 rfl (Nat.le_of_ble_eq_true rfl) dX7_takesPair_2 (fun r_1 u H locs hp_2 hP hD hS => ?_)
  rcases hp_2 with ⟨z_3, z_4, hq_5, rfl, rfl⟩ | ⟨z_6, hq_7, hq_8, rfl, rfl⟩
  · -- case 0 of k_X7_takes
    have hP : va_P D vwCl [mO h q zmu zmk zmz zms z_3 zmc, (q 1, .inl (cI, 54, .inl (fun z_ => nI (rd z_)))), (q 5, .inl (cI, 200, .inl (fun z_ => nI (tx z_)))), (q 7, .inl (cI, 4, .inl (fun z_ => nI (z_4 z_))))] _ := hP
    have hD : va_D A [mO h q zmu zmk zmz zms z_3 zmc, (q 1, .inl (cI, 54, .inl (fun z_ => nI (rd z_)))), (q 5, .inl (cI, 200, .inl (fun z_ => nI (tx z_)))), (q 7, .inl (cI, 4, .inl (fun z_ => nI (z_4 z_))))] := hD
    have hnb_q := hq_5
    refine n_if_eq (tgt := 72) hx hb dX7_takesPair_5 (by decide) (by decide) (fun c_9 => ?_) (fun c_9 => ?_)
    · -- 5 to 72
      refine lv_iconst (v := nI 0) hx hb dX7_takesPair_72 (by decide) ?_
      refine hret hP hD hS dX7_takesPair_73 (by decide) rfl ?_
      exact Or.inl ⟨_, _, by first | (simp [hnb_q]; done) | (simp only [tkB, hnb_q, ← n0_q, ← n1_q, ← n2_q, ← n3_q]; simp [pokB, hq_5, c_9, hnb_q]; done) | (simp only [tkB, hnb_q, ← n0_q, ← n1_q, ← n2_q, ← n3_q]; simp [pokB, hq_5, c_9, hnb_q]; omega), rfl, rfl⟩
    · omega
  · -- case 1 of k_X7_takes
    have hP : va_P D vwCl [mO h q zmu zmk zmz zms (npN tx zmz zma 4) zmc, (q 1, .inl (cI, 54, .inl (fun z_ => nI (rd z_)))), (q 5, .inl (cI, 200, .inl (fun z_ => nI (tx z_)))), (q 7, .inl (cI, 4, .inl (fun z_ => nI (z_6 z_))))] _ := hP
    have hD : va_D A [mO h q zmu zmk zmz zms (npN tx zmz zma 4) zmc, (q 1, .inl (cI, 54, .inl (fun z_ => nI (rd z_)))), (q 5, .inl (cI, 200, .inl (fun z_ => nI (tx z_)))), (q 7, .inl (cI, 4, .inl (fun z_ => nI (z_6 z_))))] := hD
    have hnb_q := hq_7
    have n0_q := hq_8 0 (by omega)
    have v0_q := nb_v hnb_q 0 (by omega)
    have n1_q := hq_8 1 (by omega)
    have v1_q := nb_v hnb_q 1 (by omega)
    have n2_q := hq_8 2 (by omega)
    have v2_q := nb_v hnb_q 2 (by omega)
    have n3_q := hq_8 3 (by omega)
    have v3_q := nb_v hnb_q 3 (by omega)
    refine n_if_eq (tgt := 72) hx hb dX7_takesPair_5 (by decide) (by decide) (fun c_10 => ?_) (fun c_10 => ?_)
    · omega
    · -- 5 to 8
      refine lv_aload_n hx hb dX7_takesPair_8 rfl (lv_at hl 0 rfl) ?_
      refine lv_aload_n hx hb dX7_takesPair_9 rfl (lv_at hl 0 rfl) ?_
      refine gf_7_31 hx hb hts hown hK hP 0 rfl rfl dX7_takesPair_10 ?_
      refine lv_iconst (v := nI 0) hx hb dX7_takesPair_13 (by decide) ?_
      refine n_iald hx hb hK hP 3 0 rfl rfl dX7_takesPair_14 (by decide) (by omega) ?_
      refine lv_aload_n hx hb dX7_takesPair_15 rfl (lv_at hl 0 rfl) ?_
      refine gf_7_31 hx hb hts hown hK hP 0 rfl rfl dX7_takesPair_16 ?_
      refine lv_iconst (v := nI 1) hx hb dX7_takesPair_19 (by decide) ?_
      refine n_iald hx hb hK hP 3 0 rfl rfl dX7_takesPair_20 (by decide) (by omega) ?_
      refine cl_7_94 (As := [.int (nI (z_6 0)), .int (nI (z_6 1))]) (rest := []) hx hb hml hts hown (k_X7_isToldTooth hW (by omega) (by omega)) (by decide) ⟨Nat.zero_le _, Nat.zero_le _⟩ hK hP hD hS hA 0 rfl [0, 1] rfl (by decide) rfl hl.1 rfl (Nat.le_of_ble_eq_true rfl) dX7_takesPair_21 (fun r_11 u H locs hp_12 hP hD hS => ?_)
      obtain ⟨rfl, rfl⟩ := hp_12
      have hP : va_P D vwCl [mO h q zmu zmk zmz zms ((npN tx zmz zma 4)) zmc, (q 1, .inl (cI, 54, .inl (fun z_ => nI (rd z_)))), (q 5, .inl (cI, 200, .inl (fun z_ => nI (tx z_)))), (q 7, .inl (cI, 4, .inl (fun z_ => nI (z_6 z_))))] _ := hP
      have hD : va_D A [mO h q zmu zmk zmz zms ((npN tx zmz zma 4)) zmc, (q 1, .inl (cI, 54, .inl (fun z_ => nI (rd z_)))), (q 5, .inl (cI, 200, .inl (fun z_ => nI (tx z_)))), (q 7, .inl (cI, 4, .inl (fun z_ => nI (z_6 z_))))] := hD
      refine n_ifb_eq (tgt := 72) hx hb dX7_takesPair_24 (by decide) (fun c_13 => ?_) (fun c_13 => ?_)
      · -- 24 to 72
        have ht1_q := c_13
        refine lv_iconst (v := nI 0) hx hb dX7_takesPair_72 (by decide) ?_
        refine hret hP hD hS dX7_takesPair_73 (by decide) rfl ?_
        exact Or.inl ⟨_, _, by first | (simp [hnb_q]; done) | (simp only [tkB, hnb_q, ← n0_q, ← n1_q, ← n2_q, ← n3_q]; simp [pokB, hq_7, c_10, c_13, ht1_q]; done) | (simp only [tkB, hnb_q, ← n0_q, ← n1_q, ← n2_q, ← n3_q]; simp [pokB, hq_7, c_10, c_13, ht1_q]; omega), rfl, rfl⟩
      · -- 24 to 27
        have ht1_q := c_13
        refine lv_aload_n hx hb dX7_takesPair_27 rfl (lv_at hl 0 rfl) ?_
        refine lv_aload_n hx hb dX7_takesPair_28 rfl (lv_at hl 0 rfl) ?_
        refine gf_7_31 hx hb hts hown hK hP 0 rfl rfl dX7_takesPair_29 ?_
        refine lv_iconst (v := nI 2) hx hb dX7_takesPair_32 (by decide) ?_
        refine n_iald hx hb hK hP 3 0 rfl rfl dX7_takesPair_33 (by decide) (by omega) ?_
        refine lv_aload_n hx hb dX7_takesPair_34 rfl (lv_at hl 0 rfl) ?_
        refine gf_7_31 hx hb hts hown hK hP 0 rfl rfl dX7_takesPair_35 ?_
        refine lv_iconst (v := nI 3) hx hb dX7_takesPair_38 (by decide) ?_
        refine n_iald hx hb hK hP 3 0 rfl rfl dX7_takesPair_39 (by decide) (by omega) ?_
        refine cl_7_94 (As := [.int (nI (z_6 2)), .int (nI (z_6 3))]) (rest := []) hx hb hml hts hown (k_X7_isToldTooth hW (by omega) (by omega)) (by decide) ⟨Nat.zero_le _, Nat.zero_le _⟩ hK hP hD hS hA 0 rfl [0, 1] rfl (by decide) rfl hl.1 rfl (Nat.le_of_ble_eq_true rfl) dX7_takesPair_40 (fun r_14 u H locs hp_15 hP hD hS => ?_)
        obtain ⟨rfl, rfl⟩ := hp_15
        have hP : va_P D vwCl [mO h q zmu zmk zmz zms (((npN tx zmz zma 4))) zmc, (q 1, .inl (cI, 54, .inl (fun z_ => nI (rd z_)))), (q 5, .inl (cI, 200, .inl (fun z_ => nI (tx z_)))), (q 7, .inl (cI, 4, .inl (fun z_ => nI (z_6 z_))))] _ := hP
        have hD : va_D A [mO h q zmu zmk zmz zms (((npN tx zmz zma 4))) zmc, (q 1, .inl (cI, 54, .inl (fun z_ => nI (rd z_)))), (q 5, .inl (cI, 200, .inl (fun z_ => nI (tx z_)))), (q 7, .inl (cI, 4, .inl (fun z_ => nI (z_6 z_))))] := hD
        refine n_ifb_eq (tgt := 72) hx hb dX7_takesPair_43 (by decide) (fun c_16 => ?_) (fun c_16 => ?_)
        · -- 43 to 72
          have ht2_q := c_16
          refine lv_iconst (v := nI 0) hx hb dX7_takesPair_72 (by decide) ?_
          refine hret hP hD hS dX7_takesPair_73 (by decide) rfl ?_
          exact Or.inl ⟨_, _, by first | (simp [hnb_q]; done) | (simp only [tkB, hnb_q, ← n0_q, ← n1_q, ← n2_q, ← n3_q]; simp [pokB, hq_7, c_10, c_13, c_16, ht1_q, ht2_q]; done) | (simp only [tkB, hnb_q, ← n0_q, ← n1_q, ← n2_q, ← n3_q]; simp [pokB, hq_7, c_10, c_13, c_16, ht1_q, ht2_q]; omega), rfl, rfl⟩
        · -- 43 to 46
          have ht2_q := c_16
          refine lv_aload_n hx hb dX7_takesPair_46 rfl (lv_at hl 0 rfl) ?_
          refine gf_7_31 hx hb hts hown hK hP 0 rfl rfl dX7_takesPair_47 ?_
          refine lv_iconst (v := nI 0) hx hb dX7_takesPair_50 (by decide) ?_
          refine n_iald hx hb hK hP 3 0 rfl rfl dX7_takesPair_51 (by decide) (by omega) ?_
          refine lv_aload_n hx hb dX7_takesPair_52 rfl (lv_at hl 0 rfl) ?_
          refine gf_7_31 hx hb hts hown hK hP 0 rfl rfl dX7_takesPair_53 ?_
          refine lv_iconst (v := nI 2) hx hb dX7_takesPair_56 (by decide) ?_
          refine n_iald hx hb hK hP 3 0 rfl rfl dX7_takesPair_57 (by decide) (by omega) ?_
          refine n_icmp_eq (tgt := 72) hx hb dX7_takesPair_58 (by decide) (by omega) (by omega) (fun c_17 => ?_) (fun c_17 => ?_)
          · -- 58 to 72
            refine lv_iconst (v := nI 0) hx hb dX7_takesPair_72 (by decide) ?_
            refine hret hP hD hS dX7_takesPair_73 (by decide) rfl ?_
            exact Or.inl ⟨_, _, by first | (simp [hnb_q]; done) | (simp only [tkB, hnb_q, ← n0_q, ← n1_q, ← n2_q, ← n3_q]; simp [pokB, hq_7, c_10, c_13, c_16, c_17, ht1_q, ht2_q]; done) | (simp only [tkB, hnb_q, ← n0_q, ← n1_q, ← n2_q, ← n3_q]; simp [pokB, hq_7, c_10, c_13, c_16, c_17, ht1_q, ht2_q]; omega), rfl, rfl⟩
          · -- 58 to 61
            have hw_q := hW.n
            refine lv_aload_n hx hb dX7_takesPair_61 rfl (lv_at hl 0 rfl) ?_
            refine gf_7_13 hx hb hts hown hK hP 0 rfl rfl dX7_takesPair_62 ?_
            refine lv_iconst (v := nI 2) hx hb dX7_takesPair_65 (by decide) ?_
            refine n_iald hx hb hK hP 1 0 rfl rfl dX7_takesPair_66 (by decide) (by omega) ?_
            have hb_18 := hW.bd 2
            refine lv_bipush (v := nI 8) hx hb dX7_takesPair_67 (by decide) ?_
            refine n_icmp_ne (tgt := 74) hx hb dX7_takesPair_69 (by decide) (by omega) (by decide) (fun c_19 => ?_) (fun c_19 => ?_)
            · -- 69 to 74
              refine lv_aload_n hx hb dX7_takesPair_74 rfl (lv_at hl 0 rfl) ?_
              refine lv_aload_n hx hb dX7_takesPair_75 rfl (lv_at hl 0 rfl) ?_
              refine gf_7_31 hx hb hts hown hK hP 0 rfl rfl dX7_takesPair_76 ?_
              refine lv_iconst (v := nI 0) hx hb dX7_takesPair_79 (by decide) ?_
              refine n_iald hx hb hK hP 3 0 rfl rfl dX7_takesPair_80 (by decide) (by omega) ?_
              refine lv_aload_n hx hb dX7_takesPair_81 rfl (lv_at hl 0 rfl) ?_
              refine gf_7_31 hx hb hts hown hK hP 0 rfl rfl dX7_takesPair_82 ?_
              refine lv_iconst (v := nI 1) hx hb dX7_takesPair_85 (by decide) ?_
              refine n_iald hx hb hK hP 3 0 rfl rfl dX7_takesPair_86 (by decide) (by omega) ?_
              refine lv_aload_n hx hb dX7_takesPair_87 rfl (lv_at hl 0 rfl) ?_
              refine gf_7_31 hx hb hts hown hK hP 0 rfl rfl dX7_takesPair_88 ?_
              refine lv_iconst (v := nI 2) hx hb dX7_takesPair_91 (by decide) ?_
              refine n_iald hx hb hK hP 3 0 rfl rfl dX7_takesPair_92 (by decide) (by omega) ?_
              refine lv_aload_n hx hb dX7_takesPair_93 rfl (lv_at hl 0 rfl) ?_
              refine gf_7_31 hx hb hts hown hK hP 0 rfl rfl dX7_takesPair_94 ?_
              refine lv_iconst (v := nI 3) hx hb dX7_takesPair_97 (by decide) ?_
              refine n_iald hx hb hK hP 3 0 rfl rfl dX7_takesPair_98 (by decide) (by omega) ?_
              refine cl_7_56 (As := [.int (nI (z_6 0)), .int (nI (z_6 1)), .int (nI (z_6 2)), .int (nI (z_6 3))]) (rest := []) hx hb hml hts hown (k_X7_pair (by first | assumption | omega)) (by decide) ⟨Nat.zero_le _, Nat.zero_le _⟩ hK hP hD hS hA 0 rfl [0, 1] rfl (by decide) rfl hl.1 rfl (Nat.le_of_ble_eq_true rfl) dX7_takesPair_99 (fun  u H locs hp_20 hP hD hS => ?_)
              subst hp_20
              have hP : va_P D vwCl [mO h q zmu zmk zmz zms ((((npN tx zmz zma 4)))) zmc, (q 1, .inl (cI, 54, .inl (fun z_ => nI ((prdN rd (z_6 0) (z_6 1) (z_6 2) (z_6 3)) z_)))), (q 5, .inl (cI, 200, .inl (fun z_ => nI (tx z_)))), (q 7, .inl (cI, 4, .inl (fun z_ => nI (z_6 z_))))] _ := hP
              have hD : va_D A [mO h q zmu zmk zmz zms ((((npN tx zmz zma 4)))) zmc, (q 1, .inl (cI, 54, .inl (fun z_ => nI ((prdN rd (z_6 0) (z_6 1) (z_6 2) (z_6 3)) z_)))), (q 5, .inl (cI, 200, .inl (fun z_ => nI (tx z_)))), (q 7, .inl (cI, 4, .inl (fun z_ => nI (z_6 z_))))] := hD
              refine lv_iconst (v := nI 1) hx hb dX7_takesPair_102 (by decide) ?_
              refine hret hP hD hS dX7_takesPair_103 (by decide) rfl ?_
              exact Or.inr ⟨_, by first | (simp only [tkB, hnb_q, ← n0_q, ← n1_q, ← n2_q, ← n3_q]; simp [pokB, hq_7, c_10, c_13, c_16, c_17, c_19, ht1_q, ht2_q]; done) | (simp only [tkB, hnb_q, ← n0_q, ← n1_q, ← n2_q, ← n3_q]; simp [pokB, hq_7, c_10, c_13, c_16, c_17, c_19, ht1_q, ht2_q]; omega), rfl, by rw [n0_q, n1_q, n2_q, n3_q]; rfl⟩
            · -- 69 to 72
              refine lv_iconst (v := nI 0) hx hb dX7_takesPair_72 (by decide) ?_
              refine hret hP hD hS dX7_takesPair_73 (by decide) rfl ?_
              exact Or.inl ⟨_, _, by first | (simp [hnb_q]; done) | (simp only [tkB, hnb_q, ← n0_q, ← n1_q, ← n2_q, ← n3_q]; simp [pokB, hq_7, c_10, c_13, c_16, c_17, c_19, ht1_q, ht2_q]; done) | (simp only [tkB, hnb_q, ← n0_q, ← n1_q, ← n2_q, ← n3_q]; simp [pokB, hq_7, c_10, c_13, c_16, c_17, c_19, ht1_q, ht2_q]; omega), rfl, rfl⟩
set_option maxHeartbeats 4000000 in
set_option maxRecDepth 100000 in
theorem k_X7_takesPerson {l : Launch} {D : va_G} {cI cC cB : ClassId} {h : Nat} {q : Nat → Nat} {zmu zmk zmz zms zma zmc : Nat} {tx g rd : Nat → Nat} (hW : BxW rd) (ha : zma ≤ 201) (hz : zmz ≤ 200) (htx : ∀ j, tx j < 128) : MI l yX7_takesPerson cX7_takesPerson 1 (some .boolean) 2 D (Ty3 cI cC cB) [.ref h] [mO h q zmu zmk zmz zms zma zmc, (q 1, .inl (cI, 54, .inl (fun z_ => nI (rd z_)))), (q 5, .inl (cI, 200, .inl (fun z_ => nI (tx z_)))), (q 7, .inl (cI, 4, .inl (fun z_ => nI (g z_))))] (fun r u => (∃ a2 : Nat, ∃ g2 : Nat → Nat, ((nbB tx zmz zma 1 1 && tkB rd 112 (fun j_ => rnV tx zmz (npN tx zmz zma j_))) = false) ∧ r = nI (0) ∧ u = [mO h q zmu zmk zmz zms a2 zmc, (q 1, .inl (cI, 54, .inl (fun z_ => nI (rd z_)))), (q 5, .inl (cI, 200, .inl (fun z_ => nI (tx z_)))), (q 7, .inl (cI, 4, .inl (fun z_ => nI (g2 z_))))]) ∨ (∃ g2 : Nat → Nat, ((nbB tx zmz zma 1 1 && tkB rd 112 (fun j_ => rnV tx zmz (npN tx zmz zma j_))) = true) ∧ r = nI (1) ∧ u = [mO h q zmu zmk zmz zms (npN tx zmz zma 1) zmc, (q 1, .inl (cI, 54, .inl (fun z_ => nI ((tkR rd 112 (fun j_ => rnV tx zmz (npN tx zmz zma j_))) z_)))), (q 5, .inl (cI, 200, .inl (fun z_ => nI (tx z_)))), (q 7, .inl (cI, 4, .inl (fun z_ => nI (g2 z_))))])) := by
  intro sz
  refine MI.walk (by decide +kernel) (Nat.le_of_ble_eq_true rfl) ?_
  intro p e s m args below meth c A Qf hx hb hml hts hown hret hK hP hD hS hA ls hl
  have hown : s.vm.findClass RX7 = some m.cls := hown
  have hl : lv_has ls 1 [(0, .ref h)] := hl
  have hP : va_P D vwCl [mO h q zmu zmk zmz zms zma zmc, (q 1, .inl (cI, 54, .inl (fun z_ => nI (rd z_)))), (q 5, .inl (cI, 200, .inl (fun z_ => nI (tx z_)))), (q 7, .inl (cI, 4, .inl (fun z_ => nI (g z_))))] s.heap := hP
  have hD : va_D A [mO h q zmu zmk zmz zms zma zmc, (q 1, .inl (cI, 54, .inl (fun z_ => nI (rd z_)))), (q 5, .inl (cI, 200, .inl (fun z_ => nI (tx z_)))), (q 7, .inl (cI, 4, .inl (fun z_ => nI (g z_))))] := hD
  refine lv_aload_n hx hb dX7_takesPerson_0 rfl (lv_at hl 0 rfl) ?_
  refine lv_iconst (v := nI 1) hx hb dX7_takesPerson_1 (by decide) ?_
  refine cl_7_88 (As := [.int (nI (1))]) (rest := []) hx hb hml hts hown (k_X7_takes (by first | assumption | omega) (by first | assumption | omega) (by first | assumption | omega) (by first | assumption | omega) (by first | assumption | omega)) (by decide) ⟨Nat.zero_le _, Nat.zero_le _⟩ hK hP hD hS hA 0 rfl [0, 2, 3] rfl (by decide) rfl hl.1 rfl (Nat.le_of_ble_eq_true rfl) dX7_takesPerson_2 (fun r_1 u H locs hp_2 hP hD hS => ?_)
  rcases hp_2 with ⟨z_3, z_4, hq_5, rfl, rfl⟩ | ⟨z_6, hq_7, hq_8, rfl, rfl⟩
  · -- case 0 of k_X7_takes
    have hP : va_P D vwCl [mO h q zmu zmk zmz zms z_3 zmc, (q 1, .inl (cI, 54, .inl (fun z_ => nI (rd z_)))), (q 5, .inl (cI, 200, .inl (fun z_ => nI (tx z_)))), (q 7, .inl (cI, 4, .inl (fun z_ => nI (z_4 z_))))] _ := hP
    have hD : va_D A [mO h q zmu zmk zmz zms z_3 zmc, (q 1, .inl (cI, 54, .inl (fun z_ => nI (rd z_)))), (q 5, .inl (cI, 200, .inl (fun z_ => nI (tx z_)))), (q 7, .inl (cI, 4, .inl (fun z_ => nI (z_4 z_))))] := hD
    have hnb_q := hq_5
    refine n_if_eq (tgt := 29) hx hb dX7_takesPerson_5 (by decide) (by decide) (fun c_9 => ?_) (fun c_9 => ?_)
    · -- 5 to 29
      refine lv_iconst (v := nI 0) hx hb dX7_takesPerson_29 (by decide) ?_
      refine hret hP hD hS dX7_takesPerson_30 (by decide) rfl ?_
      exact Or.inl ⟨_, _, by first | (simp [hnb_q]; done) | (simp only [tkB, hnb_q, ← n0_q]; simp [sokB, hq_5, c_9, hnb_q]; done) | (simp only [tkB, hnb_q, ← n0_q]; simp [sokB, hq_5, c_9, hnb_q]; omega), rfl, rfl⟩
    · omega
  · -- case 1 of k_X7_takes
    have hP : va_P D vwCl [mO h q zmu zmk zmz zms (npN tx zmz zma 1) zmc, (q 1, .inl (cI, 54, .inl (fun z_ => nI (rd z_)))), (q 5, .inl (cI, 200, .inl (fun z_ => nI (tx z_)))), (q 7, .inl (cI, 4, .inl (fun z_ => nI (z_6 z_))))] _ := hP
    have hD : va_D A [mO h q zmu zmk zmz zms (npN tx zmz zma 1) zmc, (q 1, .inl (cI, 54, .inl (fun z_ => nI (rd z_)))), (q 5, .inl (cI, 200, .inl (fun z_ => nI (tx z_)))), (q 7, .inl (cI, 4, .inl (fun z_ => nI (z_6 z_))))] := hD
    have hnb_q := hq_7
    have n0_q := hq_8 0 (by omega)
    have v0_q := nb_v hnb_q 0 (by omega)
    refine n_if_eq (tgt := 29) hx hb dX7_takesPerson_5 (by decide) (by decide) (fun c_10 => ?_) (fun c_10 => ?_)
    · omega
    · -- 5 to 8
      refine lv_aload_n hx hb dX7_takesPerson_8 rfl (lv_at hl 0 rfl) ?_
      refine gf_7_31 hx hb hts hown hK hP 0 rfl rfl dX7_takesPerson_9 ?_
      refine lv_iconst (v := nI 0) hx hb dX7_takesPerson_12 (by decide) ?_
      refine n_iald hx hb hK hP 3 0 rfl rfl dX7_takesPerson_13 (by decide) (by omega) ?_
      refine lv_bipush (v := nI 31) hx hb dX7_takesPerson_14 (by decide) ?_
      refine n_icmp_gt (tgt := 29) hx hb dX7_takesPerson_16 (by decide) (by omega) (by decide) (fun c_11 => ?_) (fun c_11 => ?_)
      · -- 16 to 29
        refine lv_iconst (v := nI 0) hx hb dX7_takesPerson_29 (by decide) ?_
        refine hret hP hD hS dX7_takesPerson_30 (by decide) rfl ?_
        exact Or.inl ⟨_, _, by first | (simp [hnb_q]; done) | (simp only [tkB, hnb_q, ← n0_q]; simp [sokB, hq_7, c_10, c_11]; done) | (simp only [tkB, hnb_q, ← n0_q]; simp [sokB, hq_7, c_10, c_11]; omega), rfl, rfl⟩
      · -- 16 to 19
        have hw_q := hW.n
        refine lv_aload_n hx hb dX7_takesPerson_19 rfl (lv_at hl 0 rfl) ?_
        refine gf_7_13 hx hb hts hown hK hP 0 rfl rfl dX7_takesPerson_20 ?_
        refine lv_iconst (v := nI 1) hx hb dX7_takesPerson_23 (by decide) ?_
        refine n_iald hx hb hK hP 1 0 rfl rfl dX7_takesPerson_24 (by decide) (by omega) ?_
        have hb_12 := hW.bd 1
        refine lv_iconst (v := nI 5) hx hb dX7_takesPerson_25 (by decide) ?_
        refine n_icmp_ne (tgt := 31) hx hb dX7_takesPerson_26 (by decide) (by omega) (by decide) (fun c_13 => ?_) (fun c_13 => ?_)
        · -- 26 to 31
          refine lv_aload_n hx hb dX7_takesPerson_31 rfl (lv_at hl 0 rfl) ?_
          refine lv_aload_n hx hb dX7_takesPerson_32 rfl (lv_at hl 0 rfl) ?_
          refine gf_7_31 hx hb hts hown hK hP 0 rfl rfl dX7_takesPerson_33 ?_
          refine lv_iconst (v := nI 0) hx hb dX7_takesPerson_36 (by decide) ?_
          refine n_iald hx hb hK hP 3 0 rfl rfl dX7_takesPerson_37 (by decide) (by omega) ?_
          refine cl_7_60 (As := [.int (nI (z_6 0))]) (rest := []) hx hb hml hts hown (k_X7_person (by first | assumption | omega)) (by decide) ⟨Nat.zero_le _, Nat.zero_le _⟩ hK hP hD hS hA 0 rfl [0, 1] rfl (by decide) rfl hl.1 rfl (Nat.le_of_ble_eq_true rfl) dX7_takesPerson_38 (fun  u H locs hp_14 hP hD hS => ?_)
          subst hp_14
          have hP : va_P D vwCl [mO h q zmu zmk zmz zms ((npN tx zmz zma 1)) zmc, (q 1, .inl (cI, 54, .inl (fun z_ => nI ((srdN rd (z_6 0)) z_)))), (q 5, .inl (cI, 200, .inl (fun z_ => nI (tx z_)))), (q 7, .inl (cI, 4, .inl (fun z_ => nI (z_6 z_))))] _ := hP
          have hD : va_D A [mO h q zmu zmk zmz zms ((npN tx zmz zma 1)) zmc, (q 1, .inl (cI, 54, .inl (fun z_ => nI ((srdN rd (z_6 0)) z_)))), (q 5, .inl (cI, 200, .inl (fun z_ => nI (tx z_)))), (q 7, .inl (cI, 4, .inl (fun z_ => nI (z_6 z_))))] := hD
          refine lv_iconst (v := nI 1) hx hb dX7_takesPerson_41 (by decide) ?_
          refine hret hP hD hS dX7_takesPerson_42 (by decide) rfl ?_
          exact Or.inr ⟨_, by first | (simp only [tkB, hnb_q, ← n0_q]; simp [sokB, hq_7, c_10, c_11, c_13]; done) | (simp only [tkB, hnb_q, ← n0_q]; simp [sokB, hq_7, c_10, c_11, c_13]; omega), rfl, by rw [n0_q]; rfl⟩
        · -- 26 to 29
          refine lv_iconst (v := nI 0) hx hb dX7_takesPerson_29 (by decide) ?_
          refine hret hP hD hS dX7_takesPerson_30 (by decide) rfl ?_
          exact Or.inl ⟨_, _, by first | (simp [hnb_q]; done) | (simp only [tkB, hnb_q, ← n0_q]; simp [sokB, hq_7, c_10, c_11, c_13]; done) | (simp only [tkB, hnb_q, ← n0_q]; simp [sokB, hq_7, c_10, c_11, c_13]; omega), rfl, rfl⟩
set_option maxHeartbeats 4000000 in
set_option maxRecDepth 100000 in
theorem k_X7_takesWear {l : Launch} {D : va_G} {cI cC cB : ClassId} {h : Nat} {q : Nat → Nat} {zmu zmk zmz zms zma zmc : Nat} {tx g rd : Nat → Nat} (hW : BxW rd) (ha : zma ≤ 201) (hz : zmz ≤ 200) (htx : ∀ j, tx j < 128) : MI l yX7_takesWear cX7_takesWear 1 (some .boolean) 2 D (Ty3 cI cC cB) [.ref h] [mO h q zmu zmk zmz zms zma zmc, (q 1, .inl (cI, 54, .inl (fun z_ => nI (rd z_)))), (q 5, .inl (cI, 200, .inl (fun z_ => nI (tx z_)))), (q 7, .inl (cI, 4, .inl (fun z_ => nI (g z_))))] (fun r u => (∃ a2 : Nat, ∃ g2 : Nat → Nat, ((nbB tx zmz zma 2 2 && tkB rd 111 (fun j_ => rnV tx zmz (npN tx zmz zma j_))) = false) ∧ r = nI (0) ∧ u = [mO h q zmu zmk zmz zms a2 zmc, (q 1, .inl (cI, 54, .inl (fun z_ => nI (rd z_)))), (q 5, .inl (cI, 200, .inl (fun z_ => nI (tx z_)))), (q 7, .inl (cI, 4, .inl (fun z_ => nI (g2 z_))))]) ∨ (∃ g2 : Nat → Nat, ((nbB tx zmz zma 2 2 && tkB rd 111 (fun j_ => rnV tx zmz (npN tx zmz zma j_))) = true) ∧ r = nI (1) ∧ u = [mO h q zmu zmk zmz zms (npN tx zmz zma 2) zmc, (q 1, .inl (cI, 54, .inl (fun z_ => nI ((tkR rd 111 (fun j_ => rnV tx zmz (npN tx zmz zma j_))) z_)))), (q 5, .inl (cI, 200, .inl (fun z_ => nI (tx z_)))), (q 7, .inl (cI, 4, .inl (fun z_ => nI (g2 z_))))])) := by
  intro sz
  refine MI.walk (by decide +kernel) (Nat.le_of_ble_eq_true rfl) ?_
  intro p e s m args below meth c A Qf hx hb hml hts hown hret hK hP hD hS hA ls hl
  have hown : s.vm.findClass RX7 = some m.cls := hown
  have hl : lv_has ls 1 [(0, .ref h)] := hl
  have hP : va_P D vwCl [mO h q zmu zmk zmz zms zma zmc, (q 1, .inl (cI, 54, .inl (fun z_ => nI (rd z_)))), (q 5, .inl (cI, 200, .inl (fun z_ => nI (tx z_)))), (q 7, .inl (cI, 4, .inl (fun z_ => nI (g z_))))] s.heap := hP
  have hD : va_D A [mO h q zmu zmk zmz zms zma zmc, (q 1, .inl (cI, 54, .inl (fun z_ => nI (rd z_)))), (q 5, .inl (cI, 200, .inl (fun z_ => nI (tx z_)))), (q 7, .inl (cI, 4, .inl (fun z_ => nI (g z_))))] := hD
  refine lv_aload_n hx hb dX7_takesWear_0 rfl (lv_at hl 0 rfl) ?_
  refine lv_iconst (v := nI 2) hx hb dX7_takesWear_1 (by decide) ?_
  refine cl_7_88 (As := [.int (nI (2))]) (rest := []) hx hb hml hts hown (k_X7_takes (by first | assumption | omega) (by first | assumption | omega) (by first | assumption | omega) (by first | assumption | omega) (by first | assumption | omega)) (by decide) ⟨Nat.zero_le _, Nat.zero_le _⟩ hK hP hD hS hA 0 rfl [0, 2, 3] rfl (by decide) rfl hl.1 rfl (Nat.le_of_ble_eq_true rfl) dX7_takesWear_2 (fun r_1 u H locs hp_2 hP hD hS => ?_)
  rcases hp_2 with ⟨z_3, z_4, hq_5, rfl, rfl⟩ | ⟨z_6, hq_7, hq_8, rfl, rfl⟩
  · -- case 0 of k_X7_takes
    have hP : va_P D vwCl [mO h q zmu zmk zmz zms z_3 zmc, (q 1, .inl (cI, 54, .inl (fun z_ => nI (rd z_)))), (q 5, .inl (cI, 200, .inl (fun z_ => nI (tx z_)))), (q 7, .inl (cI, 4, .inl (fun z_ => nI (z_4 z_))))] _ := hP
    have hD : va_D A [mO h q zmu zmk zmz zms z_3 zmc, (q 1, .inl (cI, 54, .inl (fun z_ => nI (rd z_)))), (q 5, .inl (cI, 200, .inl (fun z_ => nI (tx z_)))), (q 7, .inl (cI, 4, .inl (fun z_ => nI (z_4 z_))))] := hD
    have hnb_q := hq_5
    refine n_if_eq (tgt := 19) hx hb dX7_takesWear_5 (by decide) (by decide) (fun c_9 => ?_) (fun c_9 => ?_)
    · -- 5 to 19
      refine lv_iconst (v := nI 0) hx hb dX7_takesWear_19 (by decide) ?_
      refine hret hP hD hS dX7_takesWear_20 (by decide) rfl ?_
      exact Or.inl ⟨_, _, by first | (simp [hnb_q]; done) | (simp only [tkB, hnb_q, ← n0_q, ← n1_q]; simp [ookB, hq_5, c_9, hnb_q]; done) | (simp only [tkB, hnb_q, ← n0_q, ← n1_q]; simp [ookB, hq_5, c_9, hnb_q]; omega), rfl, rfl⟩
    · omega
  · -- case 1 of k_X7_takes
    have hP : va_P D vwCl [mO h q zmu zmk zmz zms (npN tx zmz zma 2) zmc, (q 1, .inl (cI, 54, .inl (fun z_ => nI (rd z_)))), (q 5, .inl (cI, 200, .inl (fun z_ => nI (tx z_)))), (q 7, .inl (cI, 4, .inl (fun z_ => nI (z_6 z_))))] _ := hP
    have hD : va_D A [mO h q zmu zmk zmz zms (npN tx zmz zma 2) zmc, (q 1, .inl (cI, 54, .inl (fun z_ => nI (rd z_)))), (q 5, .inl (cI, 200, .inl (fun z_ => nI (tx z_)))), (q 7, .inl (cI, 4, .inl (fun z_ => nI (z_6 z_))))] := hD
    have hnb_q := hq_7
    have n0_q := hq_8 0 (by omega)
    have v0_q := nb_v hnb_q 0 (by omega)
    have n1_q := hq_8 1 (by omega)
    have v1_q := nb_v hnb_q 1 (by omega)
    refine n_if_eq (tgt := 19) hx hb dX7_takesWear_5 (by decide) (by decide) (fun c_10 => ?_) (fun c_10 => ?_)
    · omega
    · -- 5 to 8
      refine lv_aload_n hx hb dX7_takesWear_8 rfl (lv_at hl 0 rfl) ?_
      refine gf_7_31 hx hb hts hown hK hP 0 rfl rfl dX7_takesWear_9 ?_
      refine lv_iconst (v := nI 0) hx hb dX7_takesWear_12 (by decide) ?_
      refine n_iald hx hb hK hP 3 0 rfl rfl dX7_takesWear_13 (by decide) (by omega) ?_
      refine lv_bipush (v := nI 9) hx hb dX7_takesWear_14 (by decide) ?_
      refine n_icmp_le (tgt := 21) hx hb dX7_takesWear_16 (by decide) (by omega) (by decide) (fun c_11 => ?_) (fun c_11 => ?_)
      · -- 16 to 21
        refine lv_aload_n hx hb dX7_takesWear_21 rfl (lv_at hl 0 rfl) ?_
        refine gf_7_13 hx hb hts hown hK hP 0 rfl rfl dX7_takesWear_22 ?_
        refine lv_iconst (v := nI 3) hx hb dX7_takesWear_25 (by decide) ?_
        refine lv_aload_n hx hb dX7_takesWear_26 rfl (lv_at hl 0 rfl) ?_
        refine gf_7_31 hx hb hts hown hK hP 0 rfl rfl dX7_takesWear_27 ?_
        refine lv_iconst (v := nI 0) hx hb dX7_takesWear_30 (by decide) ?_
        refine n_iald hx hb hK hP 3 0 rfl rfl dX7_takesWear_31 (by decide) (by omega) ?_
        refine n_iast hx hb hK hP hD hS 1 0 rfl rfl dX7_takesWear_32 (by decide) (by omega) (fun H locs hP hD hS => ?_)
        have hP : va_P D vwCl [mO h q zmu zmk zmz zms (npN tx zmz zma 2) zmc, (q 1, .inl (cI, 54, .inl (fun z_ => nI ((up1 rd 3 (z_6 0)) z_)))), (q 5, .inl (cI, 200, .inl (fun z_ => nI (tx z_)))), (q 7, .inl (cI, 4, .inl (fun z_ => nI (z_6 z_))))] _ := hP
        have hD : va_D A [mO h q zmu zmk zmz zms (npN tx zmz zma 2) zmc, (q 1, .inl (cI, 54, .inl (fun z_ => nI ((up1 rd 3 (z_6 0)) z_)))), (q 5, .inl (cI, 200, .inl (fun z_ => nI (tx z_)))), (q 7, .inl (cI, 4, .inl (fun z_ => nI (z_6 z_))))] := hD
        refine lv_aload_n hx hb dX7_takesWear_33 rfl (lv_at hl 0 rfl) ?_
        refine gf_7_13 hx hb hts hown hK hP 0 rfl rfl dX7_takesWear_34 ?_
        refine lv_iconst (v := nI 4) hx hb dX7_takesWear_37 (by decide) ?_
        refine lv_aload_n hx hb dX7_takesWear_38 rfl (lv_at hl 0 rfl) ?_
        refine gf_7_31 hx hb hts hown hK hP 0 rfl rfl dX7_takesWear_39 ?_
        refine lv_iconst (v := nI 1) hx hb dX7_takesWear_42 (by decide) ?_
        refine n_iald hx hb hK hP 3 0 rfl rfl dX7_takesWear_43 (by decide) (by omega) ?_
        refine n_iast hx hb hK hP hD hS 1 0 rfl rfl dX7_takesWear_44 (by decide) (by omega) (fun H locs hP hD hS => ?_)
        have hP : va_P D vwCl [mO h q zmu zmk zmz zms (npN tx zmz zma 2) zmc, (q 1, .inl (cI, 54, .inl (fun z_ => nI ((up1 (up1 rd 3 (z_6 0)) 4 (z_6 1)) z_)))), (q 5, .inl (cI, 200, .inl (fun z_ => nI (tx z_)))), (q 7, .inl (cI, 4, .inl (fun z_ => nI (z_6 z_))))] _ := hP
        have hD : va_D A [mO h q zmu zmk zmz zms (npN tx zmz zma 2) zmc, (q 1, .inl (cI, 54, .inl (fun z_ => nI ((up1 (up1 rd 3 (z_6 0)) 4 (z_6 1)) z_)))), (q 5, .inl (cI, 200, .inl (fun z_ => nI (tx z_)))), (q 7, .inl (cI, 4, .inl (fun z_ => nI (z_6 z_))))] := hD
        refine lv_iconst (v := nI 1) hx hb dX7_takesWear_45 (by decide) ?_
        refine hret hP hD hS dX7_takesWear_46 (by decide) rfl ?_
        exact Or.inr ⟨_, by first | (simp only [tkB, hnb_q, ← n0_q, ← n1_q]; simp [ookB, hq_7, c_10, c_11]; done) | (simp only [tkB, hnb_q, ← n0_q, ← n1_q]; simp [ookB, hq_7, c_10, c_11]; omega), rfl, by rw [n0_q, n1_q]; rfl⟩
      · -- 16 to 19
        refine lv_iconst (v := nI 0) hx hb dX7_takesWear_19 (by decide) ?_
        refine hret hP hD hS dX7_takesWear_20 (by decide) rfl ?_
        exact Or.inl ⟨_, _, by first | (simp [hnb_q]; done) | (simp only [tkB, hnb_q, ← n0_q, ← n1_q]; simp [ookB, hq_7, c_10, c_11]; done) | (simp only [tkB, hnb_q, ← n0_q, ← n1_q]; simp [ookB, hq_7, c_10, c_11]; omega), rfl, rfl⟩
set_option maxHeartbeats 4000000 in
set_option maxRecDepth 100000 in
theorem k_X7_takesItem {l : Launch} {D : va_G} {cI cC cB : ClassId} {h : Nat} {q : Nat → Nat} {zmu zmk zmz zms zma zmc : Nat} {tx g rd : Nat → Nat} (hW : BxW rd) (ha : zma < zmz) (hz : zmz ≤ 200) (htx : ∀ j, tx j < 128) : MI l yX7_takesItem cX7_takesItem 2 (some .boolean) 3 D (Ty3 cI cC cB) [.ref h] [mO h q zmu zmk zmz zms zma zmc, (q 1, .inl (cI, 54, .inl (fun z_ => nI (rd z_)))), (q 5, .inl (cI, 200, .inl (fun z_ => nI (tx z_)))), (q 7, .inl (cI, 4, .inl (fun z_ => nI (g z_))))] (fun r u => (∃ a2 : Nat, ∃ g2 : Nat → Nat, (itB tx zmz zma rd = false) ∧ r = nI (0) ∧ u = [mO h q zmu zmk zmz zms a2 zmc, (q 1, .inl (cI, 54, .inl (fun z_ => nI (rd z_)))), (q 5, .inl (cI, 200, .inl (fun z_ => nI (tx z_)))), (q 7, .inl (cI, 4, .inl (fun z_ => nI (g2 z_))))]) ∨ (∃ g2 : Nat → Nat, (itB tx zmz zma rd = true) ∧ r = nI (1) ∧ u = [mO h q zmu zmk zmz zms (itP tx zmz zma) zmc, (q 1, .inl (cI, 54, .inl (fun z_ => nI ((itR tx zmz zma rd) z_)))), (q 5, .inl (cI, 200, .inl (fun z_ => nI (tx z_)))), (q 7, .inl (cI, 4, .inl (fun z_ => nI (g2 z_))))])) := by
  intro sz
  refine MI.walk (by decide +kernel) (Nat.le_of_ble_eq_true rfl) ?_
  intro p e s m args below meth c A Qf hx hb hml hts hown hret hK hP hD hS hA ls hl
  have hown : s.vm.findClass RX7 = some m.cls := hown
  have hl : lv_has ls 2 [(0, .ref h)] := hl
  have hP : va_P D vwCl [mO h q zmu zmk zmz zms zma zmc, (q 1, .inl (cI, 54, .inl (fun z_ => nI (rd z_)))), (q 5, .inl (cI, 200, .inl (fun z_ => nI (tx z_)))), (q 7, .inl (cI, 4, .inl (fun z_ => nI (g z_))))] s.heap := hP
  have hD : va_D A [mO h q zmu zmk zmz zms zma zmc, (q 1, .inl (cI, 54, .inl (fun z_ => nI (rd z_)))), (q 5, .inl (cI, 200, .inl (fun z_ => nI (tx z_)))), (q 7, .inl (cI, 4, .inl (fun z_ => nI (g z_))))] := hD
  refine lv_aload_n hx hb dX7_takesItem_0 rfl (lv_at hl 0 rfl) ?_
  refine gf_7_25 hx hb hts hown hK hP 0 rfl rfl dX7_takesItem_1 ?_
  refine lv_aload_n hx hb dX7_takesItem_4 rfl (lv_at hl 0 rfl) ?_
  refine gf_7_79 hx hb hts hown hK hP 0 rfl rfl dX7_takesItem_5 ?_
  refine n_iald hx hb hK hP 2 0 rfl rfl dX7_takesItem_8 (by decide) (by omega) ?_
  have hb_1 := htx zma
  refine lv_istore_n (lv' := [(1, .int (nI (tx zma))), (0, .ref h)]) hx hb dX7_takesItem_9 rfl hl (by decide) rfl (fun ls hl => ?_)
  refine lv_aload_n hx hb dX7_takesItem_10 rfl (lv_at hl 1 rfl) ?_
  refine lv_dup hx hb dX7_takesItem_11 rfl ?_
  refine gf_7_79 hx hb hts hown hK hP 0 rfl rfl dX7_takesItem_12 ?_
  refine lv_iconst (v := nI 1) hx hb dX7_takesItem_15 (by decide) ?_
  refine n_iadd hx hb dX7_takesItem_16  ?_
  refine pf_7_79 hx hb hts hown hK hP hD hS 0 rfl (Nat.le_of_ble_eq_true rfl) dX7_takesItem_17 (fun H locs hP hD hS => ?_)
  have hP : va_P D vwCl [mO h q zmu zmk zmz zms (zma + 1) zmc, (q 1, .inl (cI, 54, .inl (fun z_ => nI (rd z_)))), (q 5, .inl (cI, 200, .inl (fun z_ => nI (tx z_)))), (q 7, .inl (cI, 4, .inl (fun z_ => nI (g z_))))] _ := hP
  have hD : va_D A [mO h q zmu zmk zmz zms (zma + 1) zmc, (q 1, .inl (cI, 54, .inl (fun z_ => nI (rd z_)))), (q 5, .inl (cI, 200, .inl (fun z_ => nI (tx z_)))), (q 7, .inl (cI, 4, .inl (fun z_ => nI (g z_))))] := hD
  refine lv_iload_n hx hb dX7_takesItem_20 rfl (lv_at hl 0 rfl) ?_
  rcases (show (tx zma) < 111 ∨ 120 < (tx zma) ∨ (tx zma) = 111 ∨ (tx zma) = 112 ∨ (tx zma) = 113 ∨ (tx zma) = 114 ∨ (tx zma) = 115 ∨ (tx zma) = 116 ∨ (tx zma) = 117 ∨ (tx zma) = 118 ∨ (tx zma) = 119 ∨ (tx zma) = 120 by omega) with c_2 | c_2 | c_2 | c_2 | c_2 | c_2 | c_2 | c_2 | c_2 | c_2 | c_2 | c_2
  · refine n_tabOut (tgt := 96) hx hb dX7_takesItem_21 (by omega) (Or.inl (by omega)) (by decide) ?_
    have hit_q : itB tx zmz zma rd = false := it_o (by omega)
    refine lv_iconst (v := nI 0) hx hb dX7_takesItem_96 (by decide) ?_
    refine hret hP hD hS dX7_takesItem_97 (by decide) rfl ?_
    exact Or.inl ⟨_, _, hit_q, rfl, rfl⟩
  · refine n_tabOut (tgt := 96) hx hb dX7_takesItem_21 (by omega) (Or.inr (by omega)) (by decide) ?_
    have hit_q : itB tx zmz zma rd = false := it_o (by omega)
    refine lv_iconst (v := nI 0) hx hb dX7_takesItem_96 (by decide) ?_
    refine hret hP hD hS dX7_takesItem_97 (by decide) rfl ?_
    exact Or.inl ⟨_, _, hit_q, rfl, rfl⟩
  · refine n_tabIn (tgt := 91) (v := 111) hx hb dX7_takesItem_21 c_2 (by decide) (by decide) (off := 70) (by decide) (by decide) ?_
    have hk_q : tx zma = 111 := c_2
    have hit_q := it_k (z := zmz) (rd := rd) hk_q
    refine lv_aload_n hx hb dX7_takesItem_91 rfl (lv_at hl 1 rfl) ?_
    refine cl_7_108 (As := []) (rest := []) hx hb hml hts hown (k_X7_takesWear (by first | assumption | omega) (by first | assumption | omega) (by first | assumption | omega) (by first | assumption | omega)) (by decide) ⟨Nat.zero_le _, Nat.zero_le _⟩ hK hP hD hS hA 0 rfl [0, 1, 2, 3] rfl (by decide) rfl hl.1 rfl (Nat.le_of_ble_eq_true rfl) dX7_takesItem_92 (fun r_3 u H locs hp_4 hP hD hS => ?_)
    rcases hp_4 with ⟨z_5, z_6, hq_7, rfl, rfl⟩ | ⟨z_8, hq_9, rfl, rfl⟩
    · -- case 0 of k_X7_takesWear
      have hP : va_P D vwCl [mO h q zmu zmk zmz zms z_5 zmc, (q 1, .inl (cI, 54, .inl (fun z_ => nI (rd z_)))), (q 5, .inl (cI, 200, .inl (fun z_ => nI (tx z_)))), (q 7, .inl (cI, 4, .inl (fun z_ => nI (z_6 z_))))] _ := hP
      have hD : va_D A [mO h q zmu zmk zmz zms z_5 zmc, (q 1, .inl (cI, 54, .inl (fun z_ => nI (rd z_)))), (q 5, .inl (cI, 200, .inl (fun z_ => nI (tx z_)))), (q 7, .inl (cI, 4, .inl (fun z_ => nI (z_6 z_))))] := hD
      have hb0_q := hq_7
      refine hret hP hD hS dX7_takesItem_95 (by decide) rfl ?_
      exact Or.inl ⟨_, _, by rw [hit_q.1]; exact hb0_q, rfl, rfl⟩
    · -- case 1 of k_X7_takesWear
      have hP : va_P D vwCl [mO h q zmu zmk zmz zms (npN tx zmz (zma + 1) 2) zmc, (q 1, .inl (cI, 54, .inl (fun z_ => nI ((tkR rd 111 (fun j_ => rnV tx zmz (npN tx zmz (zma + 1) j_))) z_)))), (q 5, .inl (cI, 200, .inl (fun z_ => nI (tx z_)))), (q 7, .inl (cI, 4, .inl (fun z_ => nI (z_8 z_))))] _ := hP
      have hD : va_D A [mO h q zmu zmk zmz zms (npN tx zmz (zma + 1) 2) zmc, (q 1, .inl (cI, 54, .inl (fun z_ => nI ((tkR rd 111 (fun j_ => rnV tx zmz (npN tx zmz (zma + 1) j_))) z_)))), (q 5, .inl (cI, 200, .inl (fun z_ => nI (tx z_)))), (q 7, .inl (cI, 4, .inl (fun z_ => nI (z_8 z_))))] := hD
      have hb1_q := hq_9
      refine hret hP hD hS dX7_takesItem_95 (by decide) rfl ?_
      exact Or.inr ⟨_, by rw [hit_q.1]; exact hb1_q, rfl, by rw [hit_q.2.1, hit_q.2.2]; rfl⟩
  · refine n_tabIn (tgt := 86) (v := 112) hx hb dX7_takesItem_21 c_2 (by decide) (by decide) (off := 65) (by decide) (by decide) ?_
    have hk_q : tx zma = 112 := c_2
    have hit_q := it_k (z := zmz) (rd := rd) hk_q
    refine lv_aload_n hx hb dX7_takesItem_86 rfl (lv_at hl 1 rfl) ?_
    refine cl_7_105 (As := []) (rest := []) hx hb hml hts hown (k_X7_takesPerson (by first | assumption | omega) (by first | assumption | omega) (by first | assumption | omega) (by first | assumption | omega)) (by decide) ⟨Nat.zero_le _, Nat.zero_le _⟩ hK hP hD hS hA 0 rfl [0, 1, 2, 3] rfl (by decide) rfl hl.1 rfl (Nat.le_of_ble_eq_true rfl) dX7_takesItem_87 (fun r_10 u H locs hp_11 hP hD hS => ?_)
    rcases hp_11 with ⟨z_12, z_13, hq_14, rfl, rfl⟩ | ⟨z_15, hq_16, rfl, rfl⟩
    · -- case 0 of k_X7_takesPerson
      have hP : va_P D vwCl [mO h q zmu zmk zmz zms z_12 zmc, (q 1, .inl (cI, 54, .inl (fun z_ => nI (rd z_)))), (q 5, .inl (cI, 200, .inl (fun z_ => nI (tx z_)))), (q 7, .inl (cI, 4, .inl (fun z_ => nI (z_13 z_))))] _ := hP
      have hD : va_D A [mO h q zmu zmk zmz zms z_12 zmc, (q 1, .inl (cI, 54, .inl (fun z_ => nI (rd z_)))), (q 5, .inl (cI, 200, .inl (fun z_ => nI (tx z_)))), (q 7, .inl (cI, 4, .inl (fun z_ => nI (z_13 z_))))] := hD
      have hb0_q := hq_14
      refine hret hP hD hS dX7_takesItem_90 (by decide) rfl ?_
      exact Or.inl ⟨_, _, by rw [hit_q.1]; exact hb0_q, rfl, rfl⟩
    · -- case 1 of k_X7_takesPerson
      have hP : va_P D vwCl [mO h q zmu zmk zmz zms (npN tx zmz (zma + 1) 1) zmc, (q 1, .inl (cI, 54, .inl (fun z_ => nI ((tkR rd 112 (fun j_ => rnV tx zmz (npN tx zmz (zma + 1) j_))) z_)))), (q 5, .inl (cI, 200, .inl (fun z_ => nI (tx z_)))), (q 7, .inl (cI, 4, .inl (fun z_ => nI (z_15 z_))))] _ := hP
      have hD : va_D A [mO h q zmu zmk zmz zms (npN tx zmz (zma + 1) 1) zmc, (q 1, .inl (cI, 54, .inl (fun z_ => nI ((tkR rd 112 (fun j_ => rnV tx zmz (npN tx zmz (zma + 1) j_))) z_)))), (q 5, .inl (cI, 200, .inl (fun z_ => nI (tx z_)))), (q 7, .inl (cI, 4, .inl (fun z_ => nI (z_15 z_))))] := hD
      have hb1_q := hq_16
      refine hret hP hD hS dX7_takesItem_90 (by decide) rfl ?_
      exact Or.inr ⟨_, by rw [hit_q.1]; exact hb1_q, rfl, by rw [hit_q.2.1, hit_q.2.2]; rfl⟩
  · refine n_tabIn (tgt := 96) (v := 113) hx hb dX7_takesItem_21 c_2 (by decide) (by decide) (off := 75) (by decide) (by decide) ?_
    have hit_q : itB tx zmz zma rd = false := it_o (by omega)
    refine lv_iconst (v := nI 0) hx hb dX7_takesItem_96 (by decide) ?_
    refine hret hP hD hS dX7_takesItem_97 (by decide) rfl ?_
    exact Or.inl ⟨_, _, hit_q, rfl, rfl⟩
  · refine n_tabIn (tgt := 96) (v := 114) hx hb dX7_takesItem_21 c_2 (by decide) (by decide) (off := 75) (by decide) (by decide) ?_
    have hit_q : itB tx zmz zma rd = false := it_o (by omega)
    refine lv_iconst (v := nI 0) hx hb dX7_takesItem_96 (by decide) ?_
    refine hret hP hD hS dX7_takesItem_97 (by decide) rfl ?_
    exact Or.inl ⟨_, _, hit_q, rfl, rfl⟩
  · refine n_tabIn (tgt := 96) (v := 115) hx hb dX7_takesItem_21 c_2 (by decide) (by decide) (off := 75) (by decide) (by decide) ?_
    have hit_q : itB tx zmz zma rd = false := it_o (by omega)
    refine lv_iconst (v := nI 0) hx hb dX7_takesItem_96 (by decide) ?_
    refine hret hP hD hS dX7_takesItem_97 (by decide) rfl ?_
    exact Or.inl ⟨_, _, hit_q, rfl, rfl⟩
  · refine n_tabIn (tgt := 96) (v := 116) hx hb dX7_takesItem_21 c_2 (by decide) (by decide) (off := 75) (by decide) (by decide) ?_
    have hit_q : itB tx zmz zma rd = false := it_o (by omega)
    refine lv_iconst (v := nI 0) hx hb dX7_takesItem_96 (by decide) ?_
    refine hret hP hD hS dX7_takesItem_97 (by decide) rfl ?_
    exact Or.inl ⟨_, _, hit_q, rfl, rfl⟩
  · refine n_tabIn (tgt := 96) (v := 117) hx hb dX7_takesItem_21 c_2 (by decide) (by decide) (off := 75) (by decide) (by decide) ?_
    have hit_q : itB tx zmz zma rd = false := it_o (by omega)
    refine lv_iconst (v := nI 0) hx hb dX7_takesItem_96 (by decide) ?_
    refine hret hP hD hS dX7_takesItem_97 (by decide) rfl ?_
    exact Or.inl ⟨_, _, hit_q, rfl, rfl⟩
  · refine n_tabIn (tgt := 96) (v := 118) hx hb dX7_takesItem_21 c_2 (by decide) (by decide) (off := 75) (by decide) (by decide) ?_
    have hit_q : itB tx zmz zma rd = false := it_o (by omega)
    refine lv_iconst (v := nI 0) hx hb dX7_takesItem_96 (by decide) ?_
    refine hret hP hD hS dX7_takesItem_97 (by decide) rfl ?_
    exact Or.inl ⟨_, _, hit_q, rfl, rfl⟩
  · refine n_tabIn (tgt := 76) (v := 119) hx hb dX7_takesItem_21 c_2 (by decide) (by decide) (off := 55) (by decide) (by decide) ?_
    have hk_q : tx zma = 119 := c_2
    have hit_q := it_k (z := zmz) (rd := rd) hk_q
    refine lv_aload_n hx hb dX7_takesItem_76 rfl (lv_at hl 1 rfl) ?_
    refine cl_7_98 (As := []) (rest := []) hx hb hml hts hown (k_X7_takesWheel (by first | assumption | omega) (by first | assumption | omega) (by first | assumption | omega) (by first | assumption | omega)) (by decide) ⟨Nat.zero_le _, Nat.zero_le _⟩ hK hP hD hS hA 0 rfl [0, 1, 2, 3] rfl (by decide) rfl hl.1 rfl (Nat.le_of_ble_eq_true rfl) dX7_takesItem_77 (fun r_17 u H locs hp_18 hP hD hS => ?_)
    rcases hp_18 with ⟨z_19, z_20, hq_21, rfl, rfl⟩ | ⟨z_22, hq_23, rfl, rfl⟩
    · -- case 0 of k_X7_takesWheel
      have hP : va_P D vwCl [mO h q zmu zmk zmz zms z_19 zmc, (q 1, .inl (cI, 54, .inl (fun z_ => nI (rd z_)))), (q 5, .inl (cI, 200, .inl (fun z_ => nI (tx z_)))), (q 7, .inl (cI, 4, .inl (fun z_ => nI (z_20 z_))))] _ := hP
      have hD : va_D A [mO h q zmu zmk zmz zms z_19 zmc, (q 1, .inl (cI, 54, .inl (fun z_ => nI (rd z_)))), (q 5, .inl (cI, 200, .inl (fun z_ => nI (tx z_)))), (q 7, .inl (cI, 4, .inl (fun z_ => nI (z_20 z_))))] := hD
      have hb0_q := hq_21
      refine hret hP hD hS dX7_takesItem_80 (by decide) rfl ?_
      exact Or.inl ⟨_, _, by rw [hit_q.1]; exact hb0_q, rfl, rfl⟩
    · -- case 1 of k_X7_takesWheel
      have hP : va_P D vwCl [mO h q zmu zmk zmz zms (npN tx zmz (zma + 1) 3) zmc, (q 1, .inl (cI, 54, .inl (fun z_ => nI ((tkR rd 119 (fun j_ => rnV tx zmz (npN tx zmz (zma + 1) j_))) z_)))), (q 5, .inl (cI, 200, .inl (fun z_ => nI (tx z_)))), (q 7, .inl (cI, 4, .inl (fun z_ => nI (z_22 z_))))] _ := hP
      have hD : va_D A [mO h q zmu zmk zmz zms (npN tx zmz (zma + 1) 3) zmc, (q 1, .inl (cI, 54, .inl (fun z_ => nI ((tkR rd 119 (fun j_ => rnV tx zmz (npN tx zmz (zma + 1) j_))) z_)))), (q 5, .inl (cI, 200, .inl (fun z_ => nI (tx z_)))), (q 7, .inl (cI, 4, .inl (fun z_ => nI (z_22 z_))))] := hD
      have hb1_q := hq_23
      refine hret hP hD hS dX7_takesItem_80 (by decide) rfl ?_
      exact Or.inr ⟨_, by rw [hit_q.1]; exact hb1_q, rfl, by rw [hit_q.2.1, hit_q.2.2]; rfl⟩
  · refine n_tabIn (tgt := 81) (v := 120) hx hb dX7_takesItem_21 c_2 (by decide) (by decide) (off := 60) (by decide) (by decide) ?_
    have hk_q : tx zma = 120 := c_2
    have hit_q := it_k (z := zmz) (rd := rd) hk_q
    refine lv_aload_n hx hb dX7_takesItem_81 rfl (lv_at hl 1 rfl) ?_
    refine cl_7_102 (As := []) (rest := []) hx hb hml hts hown (k_X7_takesPair (by first | assumption | omega) (by first | assumption | omega) (by first | assumption | omega) (by first | assumption | omega)) (by decide) ⟨Nat.zero_le _, Nat.zero_le _⟩ hK hP hD hS hA 0 rfl [0, 1, 2, 3] rfl (by decide) rfl hl.1 rfl (Nat.le_of_ble_eq_true rfl) dX7_takesItem_82 (fun r_24 u H locs hp_25 hP hD hS => ?_)
    rcases hp_25 with ⟨z_26, z_27, hq_28, rfl, rfl⟩ | ⟨z_29, hq_30, rfl, rfl⟩
    · -- case 0 of k_X7_takesPair
      have hP : va_P D vwCl [mO h q zmu zmk zmz zms z_26 zmc, (q 1, .inl (cI, 54, .inl (fun z_ => nI (rd z_)))), (q 5, .inl (cI, 200, .inl (fun z_ => nI (tx z_)))), (q 7, .inl (cI, 4, .inl (fun z_ => nI (z_27 z_))))] _ := hP
      have hD : va_D A [mO h q zmu zmk zmz zms z_26 zmc, (q 1, .inl (cI, 54, .inl (fun z_ => nI (rd z_)))), (q 5, .inl (cI, 200, .inl (fun z_ => nI (tx z_)))), (q 7, .inl (cI, 4, .inl (fun z_ => nI (z_27 z_))))] := hD
      have hb0_q := hq_28
      refine hret hP hD hS dX7_takesItem_85 (by decide) rfl ?_
      exact Or.inl ⟨_, _, by rw [hit_q.1]; exact hb0_q, rfl, rfl⟩
    · -- case 1 of k_X7_takesPair
      have hP : va_P D vwCl [mO h q zmu zmk zmz zms (npN tx zmz (zma + 1) 4) zmc, (q 1, .inl (cI, 54, .inl (fun z_ => nI ((tkR rd 120 (fun j_ => rnV tx zmz (npN tx zmz (zma + 1) j_))) z_)))), (q 5, .inl (cI, 200, .inl (fun z_ => nI (tx z_)))), (q 7, .inl (cI, 4, .inl (fun z_ => nI (z_29 z_))))] _ := hP
      have hD : va_D A [mO h q zmu zmk zmz zms (npN tx zmz (zma + 1) 4) zmc, (q 1, .inl (cI, 54, .inl (fun z_ => nI ((tkR rd 120 (fun j_ => rnV tx zmz (npN tx zmz (zma + 1) j_))) z_)))), (q 5, .inl (cI, 200, .inl (fun z_ => nI (tx z_)))), (q 7, .inl (cI, 4, .inl (fun z_ => nI (z_29 z_))))] := hD
      have hb1_q := hq_30
      refine hret hP hD hS dX7_takesItem_85 (by decide) rfl ?_
      exact Or.inr ⟨_, by rw [hit_q.1]; exact hb1_q, rfl, by rw [hit_q.2.1, hit_q.2.2]; rfl⟩
set_option maxHeartbeats 4000000 in
set_option maxRecDepth 100000 in
theorem k_X7_fault {l : Launch} {D : va_G} {cI cC cB : ClassId} {h : Nat} {q : Nat → Nat} {zmu zmk zmz zms zma zmc : Nat} {tx g rd : Nat → Nat} (hz : zmz ≤ 200) (htx : ∀ j, tx j < 128) : MI l yX7_fault cX7_fault 2 (some .int) 4 D (Ty3 cI cC cB) [.ref h] [mO h q zmu zmk zmz zms zma zmc, (q 1, .inl (cI, 54, .inl (fun z_ => nI (rd z_)))), (q 5, .inl (cI, 200, .inl (fun z_ => nI (tx z_)))), (q 7, .inl (cI, 4, .inl (fun z_ => nI (g z_))))] (fun r u => (∃ a2 : Nat, ∃ g2 : Nat → Nat, r = (fxN tx zmz 201 0 clN).1 ∧ u = [mO h q zmu zmk zmz zms a2 zmc, (q 1, .inl (cI, 54, .inl (fun z_ => nI (((fxN tx zmz 201 0 clN).2) z_)))), (q 5, .inl (cI, 200, .inl (fun z_ => nI (tx z_)))), (q 7, .inl (cI, 4, .inl (fun z_ => nI (g2 z_))))])) := by
  intro sz
  refine MI.walk (by decide +kernel) (Nat.le_of_ble_eq_true rfl) ?_
  intro p e s m args below meth c A Qf hx hb hml hts hown hret hK hP hD hS hA ls hl
  have hown : s.vm.findClass RX7 = some m.cls := hown
  have hl : lv_has ls 2 [(0, .ref h)] := hl
  have hP : va_P D vwCl [mO h q zmu zmk zmz zms zma zmc, (q 1, .inl (cI, 54, .inl (fun z_ => nI (rd z_)))), (q 5, .inl (cI, 200, .inl (fun z_ => nI (tx z_)))), (q 7, .inl (cI, 4, .inl (fun z_ => nI (g z_))))] s.heap := hP
  have hD : va_D A [mO h q zmu zmk zmz zms zma zmc, (q 1, .inl (cI, 54, .inl (fun z_ => nI (rd z_)))), (q 5, .inl (cI, 200, .inl (fun z_ => nI (tx z_)))), (q 7, .inl (cI, 4, .inl (fun z_ => nI (g z_))))] := hD
  refine lv_aload_n hx hb dX7_fault_0 rfl (lv_at hl 0 rfl) ?_
  refine cl_7_49 (As := []) (rest := []) hx hb hml hts hown (k_X7_clean ) (by decide) ⟨Nat.zero_le _, Nat.zero_le _⟩ hK hP hD hS hA 0 rfl [0, 1] rfl (by decide) rfl hl.1 rfl (Nat.le_of_ble_eq_true rfl) dX7_fault_1 (fun  u H locs hp_1 hP hD hS => ?_)
  subst hp_1
  have hP : va_P D vwCl [mO h q zmu zmk zmz zms zma zmc, (q 1, .inl (cI, 54, .inl (fun z_ => nI (clN z_)))), (q 5, .inl (cI, 200, .inl (fun z_ => nI (tx z_)))), (q 7, .inl (cI, 4, .inl (fun z_ => nI (g z_))))] _ := hP
  have hD : va_D A [mO h q zmu zmk zmz zms zma zmc, (q 1, .inl (cI, 54, .inl (fun z_ => nI (clN z_)))), (q 5, .inl (cI, 200, .inl (fun z_ => nI (tx z_)))), (q 7, .inl (cI, 4, .inl (fun z_ => nI (g z_))))] := hD
  refine lv_aload_n hx hb dX7_fault_4 rfl (lv_at hl 0 rfl) ?_
  refine lv_iconst (v := nI 0) hx hb dX7_fault_5 (by decide) ?_
  refine pf_7_79 hx hb hts hown hK hP hD hS 0 rfl (Nat.le_of_ble_eq_true rfl) dX7_fault_6 (fun H locs hP hD hS => ?_)
  have hP : va_P D vwCl [mO h q zmu zmk zmz zms 0 zmc, (q 1, .inl (cI, 54, .inl (fun z_ => nI (clN z_)))), (q 5, .inl (cI, 200, .inl (fun z_ => nI (tx z_)))), (q 7, .inl (cI, 4, .inl (fun z_ => nI (g z_))))] _ := hP
  have hD : va_D A [mO h q zmu zmk zmz zms 0 zmc, (q 1, .inl (cI, 54, .inl (fun z_ => nI (clN z_)))), (q 5, .inl (cI, 200, .inl (fun z_ => nI (tx z_)))), (q 7, .inl (cI, 4, .inl (fun z_ => nI (g z_))))] := hD
  have loop_9 : ∀ (N : Nat) (a1 : Nat) (r1 : Nat → Nat) (g1 : Nat → Nat) (n : Nat), (a1 ≤ zmz) → (zmz < a1 + n) → (fxN tx zmz n a1 r1 = fxN tx zmz 201 0 clN) → (BxW r1) → n < N → ∀ (H : Heap) (locs : List Loc), va_P D vwCl [mO h q zmu zmk zmz zms a1 zmc, (q 1, .inl (cI, 54, .inl (fun z_ => nI (r1 z_)))), (q 5, .inl (cI, 200, .inl (fun z_ => nI (tx z_)))), (q 7, .inl (cI, 4, .inl (fun z_ => nI (g1 z_))))] H → va_D A [mO h q zmu zmk zmz zms a1 zmc, (q 1, .inl (cI, 54, .inl (fun z_ => nI (r1 z_)))), (q 5, .inl (cI, 200, .inl (fun z_ => nI (tx z_)))), (q 7, .inl (cI, 4, .inl (fun z_ => nI (g1 z_))))] → va_S A s.heap H locs → ∀ ls : Array Slot, lv_has ls 2 [(0, .ref h)] → W p l e (rmL 4) s m args below meth c H locs 0 0 Qf (F0 m 9 ls []) := by
    intro N; induction N with
    | zero => intro a1 r1 g1 n _ _ _ _ hm; omega
    | succ N ih_9 =>
      intro a1 r1 g1 n ha1 hfu hfx hW hm H locs hP hD hS ls hl
      refine lv_aload_n hx hb dX7_fault_9 rfl (lv_at hl 0 rfl) ?_
      refine gf_7_79 hx hb hts hown hK hP 0 rfl rfl dX7_fault_10 ?_
      refine lv_aload_n hx hb dX7_fault_13 rfl (lv_at hl 0 rfl) ?_
      refine gf_7_75 hx hb hts hown hK hP 0 rfl rfl dX7_fault_14 ?_
      refine n_icmp_ge (tgt := 37) hx hb dX7_fault_17 (by decide) (by omega) (by omega) (fun c_2 => ?_) (fun c_2 => ?_)
      · -- 17 to 37
        have hge_q := c_2
        refine lv_bipush (v := (-4)) hx hb dX7_fault_37 (by decide) ?_
        refine hret hP hD hS dX7_fault_39 rfl rfl ?_
        exact ⟨_, _, by rw [← hfx]; exact fx_e (by omega) hge_q, by rw [← hfx, ← fx_r (by omega) hge_q]⟩
      · -- 17 to 20
        have hlt_q := c_2
        refine lv_aload_n hx hb dX7_fault_20 rfl (lv_at hl 0 rfl) ?_
        refine gf_7_79 hx hb hts hown hK hP 0 rfl rfl dX7_fault_21 ?_
        refine lv_istore_n (lv' := [(1, .int (nI (a1))), (0, .ref h)]) hx hb dX7_fault_24 rfl hl (by decide) rfl (fun ls hl => ?_)
        refine lv_aload_n hx hb dX7_fault_25 rfl (lv_at hl 1 rfl) ?_
        refine cl_7_111 (As := []) (rest := []) hx hb hml hts hown (k_X7_takesItem hW hlt_q hz htx) (by decide) ⟨Nat.zero_le _, Nat.zero_le _⟩ hK hP hD hS hA 0 rfl [0, 1, 2, 3] rfl (by decide) rfl hl.1 rfl (Nat.le_of_ble_eq_true rfl) dX7_fault_26 (fun r_3 u H locs hp_4 hP hD hS => ?_)
        rcases hp_4 with ⟨z_5, z_6, hq_7, rfl, rfl⟩ | ⟨z_8, hq_9, rfl, rfl⟩
        · -- case 0 of k_X7_takesItem
          have hP : va_P D vwCl [mO h q zmu zmk zmz zms z_5 zmc, (q 1, .inl (cI, 54, .inl (fun z_ => nI (r1 z_)))), (q 5, .inl (cI, 200, .inl (fun z_ => nI (tx z_)))), (q 7, .inl (cI, 4, .inl (fun z_ => nI (z_6 z_))))] _ := hP
          have hD : va_D A [mO h q zmu zmk zmz zms z_5 zmc, (q 1, .inl (cI, 54, .inl (fun z_ => nI (r1 z_)))), (q 5, .inl (cI, 200, .inl (fun z_ => nI (tx z_)))), (q 7, .inl (cI, 4, .inl (fun z_ => nI (z_6 z_))))] := hD
          have hit_q := hq_7
          refine n_if_ne (tgt := 34) hx hb dX7_fault_29 (by decide) (by decide) (fun c_10 => ?_) (fun c_10 => ?_)
          · omega
          · -- 29 to 32
            refine lv_iload_n hx hb dX7_fault_32 rfl (lv_at hl 0 rfl) ?_
            refine hret hP hD hS dX7_fault_33 rfl rfl ?_
            exact ⟨_, _, by rw [← hfx]; exact fx_f (by omega) hlt_q hit_q, by rw [← hfx, ← fx_q (by omega) hlt_q hit_q]⟩
        · -- case 1 of k_X7_takesItem
          have hP : va_P D vwCl [mO h q zmu zmk zmz zms (itP tx zmz a1) zmc, (q 1, .inl (cI, 54, .inl (fun z_ => nI ((itR tx zmz a1 r1) z_)))), (q 5, .inl (cI, 200, .inl (fun z_ => nI (tx z_)))), (q 7, .inl (cI, 4, .inl (fun z_ => nI (z_8 z_))))] _ := hP
          have hD : va_D A [mO h q zmu zmk zmz zms (itP tx zmz a1) zmc, (q 1, .inl (cI, 54, .inl (fun z_ => nI ((itR tx zmz a1 r1) z_)))), (q 5, .inl (cI, 200, .inl (fun z_ => nI (tx z_)))), (q 7, .inl (cI, 4, .inl (fun z_ => nI (z_8 z_))))] := hD
          have hit_q := hq_9
          refine n_if_ne (tgt := 34) hx hb dX7_fault_29 (by decide) (by decide) (fun c_11 => ?_) (fun c_11 => ?_)
          · -- 29 to 34
            refine lv_goto (tgt := 9) hx hb dX7_fault_34 (by decide) ?_
            exact ih_9 (itP tx zmz a1) (itR tx zmz a1 r1) z_8 (n - 1) (it_le hit_q) (by have := it_gt tx zmz a1; omega) (by rw [← hfx]; exact fx_s (by omega) (by assumption) hit_q) (it_w hW htx hit_q) (by omega) _ _ hP hD hS _ (lv_sub hl [1] rfl)
          · omega
  exact loop_9 _ 0 clN g 201 (by omega) (by omega) rfl cl_w (Nat.lt_succ_self _) _ _ hP hD hS _ (lv_sub hl [0] rfl)
set_option maxHeartbeats 4000000 in
set_option maxRecDepth 100000 in
theorem k_X7_begins {l : Launch} {D : va_G} {cI cC cB : ClassId} {h : Nat} {q : Nat → Nat} {zmu zmk zmz zms zma zmc : Nat} {bx rd nw : Nat → Nat} : MV l yX7_begins cX7_begins 2 none 0 D (Ty3 cI cC cB) [.ref h] [mO h q zmu zmk zmz zms zma zmc, (q 0, .inl (cI, 54, .inl (fun z_ => nI (bx z_)))), (q 1, .inl (cI, 54, .inl (fun z_ => nI (rd z_)))), (q 2, .inl (cI, 76, .inl (fun z_ => nI (nw z_))))] (fun (u : va_W) => (u = [mO h q 0 0 zmz 0 zma zmc, (q 0, .inl (cI, 54, .inl (fun z_ => nI (rd z_)))), (q 1, .inl (cI, 54, .inl (fun z_ => nI (rd z_)))), (q 2, .inl (cI, 76, .inl (fun z_ => nI ((stN rd) z_))))])) := by
  intro sz
  refine MV.walk (by decide +kernel) (Nat.le_of_ble_eq_true rfl) ?_
  intro p e s m args below meth c A Qf hx hb hml hts hown hret hK hP hD hS hA ls hl
  have hown : s.vm.findClass RX7 = some m.cls := hown
  have hl : lv_has ls 2 [(0, .ref h)] := hl
  have hP : va_P D vwCl [mO h q zmu zmk zmz zms zma zmc, (q 0, .inl (cI, 54, .inl (fun z_ => nI (bx z_)))), (q 1, .inl (cI, 54, .inl (fun z_ => nI (rd z_)))), (q 2, .inl (cI, 76, .inl (fun z_ => nI (nw z_))))] s.heap := hP
  have hD : va_D A [mO h q zmu zmk zmz zms zma zmc, (q 0, .inl (cI, 54, .inl (fun z_ => nI (bx z_)))), (q 1, .inl (cI, 54, .inl (fun z_ => nI (rd z_)))), (q 2, .inl (cI, 76, .inl (fun z_ => nI (nw z_))))] := hD
  refine lv_iconst (v := nI 0) hx hb dX7_begins_0 (by decide) ?_
  refine lv_istore_n (lv' := [(1, .int (nI (0))), (0, .ref h)]) hx hb dX7_begins_1 rfl hl (by decide) rfl (fun ls hl => ?_)
  have loop_2 : ∀ (N : Nat) (k : Nat) (g : Nat → Nat), (k ≤ 54) → (∀ j, j < k → g j = rd j) → (54 - k) < N → ∀ (H : Heap) (locs : List Loc), va_P D vwCl [mO h q zmu zmk zmz zms zma zmc, (q 0, .inl (cI, 54, .inl (fun z_ => nI (g z_)))), (q 1, .inl (cI, 54, .inl (fun z_ => nI (rd z_)))), (q 2, .inl (cI, 76, .inl (fun z_ => nI (nw z_))))] H → va_D A [mO h q zmu zmk zmz zms zma zmc, (q 0, .inl (cI, 54, .inl (fun z_ => nI (g z_)))), (q 1, .inl (cI, 54, .inl (fun z_ => nI (rd z_)))), (q 2, .inl (cI, 76, .inl (fun z_ => nI (nw z_))))] → va_S A s.heap H locs → ∀ ls : Array Slot, lv_has ls 2 [(1, .int (nI (k))), (0, .ref h)] → W p l e (rmL 0) s m args below meth c H locs 0 0 Qf (F0 m 2 ls []) := by
    intro N; induction N with
    | zero => intro k g _ _ hm; omega
    | succ N ih_2 =>
      intro k g hk hg hm H locs hP hD hS ls hl
      refine lv_iload_n hx hb dX7_begins_2 rfl (lv_at hl 0 rfl) ?_
      refine lv_bipush (v := nI 54) hx hb dX7_begins_3 (by decide) ?_
      refine n_icmp_ge (tgt := 26) hx hb dX7_begins_5 (by decide) (by omega) (by decide) (fun c_1 => ?_) (fun c_1 => ?_)
      · -- 5 to 26
        have hP := arr_eq (g := rd) hP 1 rfl (fun j hj => hg j (by omega))
        have hD := arr_eqD (g := rd) hD 1 rfl
        have hP : va_P D vwCl [mO h q zmu zmk zmz zms zma zmc, (q 0, .inl (cI, 54, .inl (fun z_ => nI (rd z_)))), (q 1, .inl (cI, 54, .inl (fun z_ => nI (rd z_)))), (q 2, .inl (cI, 76, .inl (fun z_ => nI (nw z_))))] _ := hP
        have hD : va_D A [mO h q zmu zmk zmz zms zma zmc, (q 0, .inl (cI, 54, .inl (fun z_ => nI (rd z_)))), (q 1, .inl (cI, 54, .inl (fun z_ => nI (rd z_)))), (q 2, .inl (cI, 76, .inl (fun z_ => nI (nw z_))))] := hD
        refine lv_iconst (v := nI 0) hx hb dX7_begins_26 (by decide) ?_
        refine lv_istore_n (lv' := [(1, .int (nI (0))), (0, .ref h)]) hx hb dX7_begins_27 rfl hl (by decide) rfl (fun ls hl => ?_)
        have loop_28 : ∀ (N : Nat) (k1 : Nat) (g2 : Nat → Nat), (k1 ≤ 76) → (∀ j, j < k1 → g2 j = 0) → (76 - k1) < N → ∀ (H : Heap) (locs : List Loc), va_P D vwCl [mO h q zmu zmk zmz zms zma zmc, (q 0, .inl (cI, 54, .inl (fun z_ => nI (rd z_)))), (q 1, .inl (cI, 54, .inl (fun z_ => nI (rd z_)))), (q 2, .inl (cI, 76, .inl (fun z_ => nI (g2 z_))))] H → va_D A [mO h q zmu zmk zmz zms zma zmc, (q 0, .inl (cI, 54, .inl (fun z_ => nI (rd z_)))), (q 1, .inl (cI, 54, .inl (fun z_ => nI (rd z_)))), (q 2, .inl (cI, 76, .inl (fun z_ => nI (g2 z_))))] → va_S A s.heap H locs → ∀ ls : Array Slot, lv_has ls 2 [(1, .int (nI (k1))), (0, .ref h)] → W p l e (rmL 0) s m args below meth c H locs 0 0 Qf (F0 m 28 ls []) := by
          intro N; induction N with
          | zero => intro k1 g2 _ _ hm; omega
          | succ N ih_28 =>
            intro k1 g2 hk1 hg2 hm H locs hP hD hS ls hl
            refine lv_iload_n hx hb dX7_begins_28 rfl (lv_at hl 0 rfl) ?_
            refine lv_bipush (v := nI 76) hx hb dX7_begins_29 (by decide) ?_
            refine n_icmp_ge (tgt := 47) hx hb dX7_begins_31 (by decide) (by omega) (by decide) (fun c_2 => ?_) (fun c_2 => ?_)
            · -- 31 to 47
              refine lv_iconst (v := nI 0) hx hb dX7_begins_47 (by decide) ?_
              refine lv_istore_n (lv' := [(1, .int (nI (0))), (0, .ref h)]) hx hb dX7_begins_48 rfl hl (by decide) rfl (fun ls hl => ?_)
              have loop_49 : ∀ (N : Nat) (k2 : Nat) (g3 : Nat → Nat), (k2 ≤ 4) → (∀ j, j < 76 → g3 j = sbN rd k2 j) → (4 - k2) < N → ∀ (H : Heap) (locs : List Loc), va_P D vwCl [mO h q zmu zmk zmz zms zma zmc, (q 0, .inl (cI, 54, .inl (fun z_ => nI (rd z_)))), (q 1, .inl (cI, 54, .inl (fun z_ => nI (rd z_)))), (q 2, .inl (cI, 76, .inl (fun z_ => nI (g3 z_))))] H → va_D A [mO h q zmu zmk zmz zms zma zmc, (q 0, .inl (cI, 54, .inl (fun z_ => nI (rd z_)))), (q 1, .inl (cI, 54, .inl (fun z_ => nI (rd z_)))), (q 2, .inl (cI, 76, .inl (fun z_ => nI (g3 z_))))] → va_S A s.heap H locs → ∀ ls : Array Slot, lv_has ls 2 [(1, .int (nI (k2))), (0, .ref h)] → W p l e (rmL 0) s m args below meth c H locs 0 0 Qf (F0 m 49 ls []) := by
                intro N; induction N with
                | zero => intro k2 g3 _ _ hm; omega
                | succ N ih_49 =>
                  intro k2 g3 hk2 hg3 hm H locs hP hD hS ls hl
                  refine lv_iload_n hx hb dX7_begins_49 rfl (lv_at hl 0 rfl) ?_
                  refine lv_iconst (v := nI 4) hx hb dX7_begins_50 (by decide) ?_
                  refine n_icmp_ge (tgt := 95) hx hb dX7_begins_51 (by decide) (by omega) (by decide) (fun c_3 => ?_) (fun c_3 => ?_)
                  · -- 51 to 95
                    have hP := arr_eq (g := (stN rd)) hP 3 rfl (fun j hj => by rw [hg3 j hj, show k2 = 4 by omega]; exact sb_4 rd j)
                    have hD := arr_eqD (g := (stN rd)) hD 3 rfl
                    have hP : va_P D vwCl [mO h q zmu zmk zmz zms zma zmc, (q 0, .inl (cI, 54, .inl (fun z_ => nI (rd z_)))), (q 1, .inl (cI, 54, .inl (fun z_ => nI (rd z_)))), (q 2, .inl (cI, 76, .inl (fun z_ => nI ((stN rd) z_))))] _ := hP
                    have hD : va_D A [mO h q zmu zmk zmz zms zma zmc, (q 0, .inl (cI, 54, .inl (fun z_ => nI (rd z_)))), (q 1, .inl (cI, 54, .inl (fun z_ => nI (rd z_)))), (q 2, .inl (cI, 76, .inl (fun z_ => nI ((stN rd) z_))))] := hD
                    refine lv_aload_n hx hb dX7_begins_95 rfl (lv_at hl 1 rfl) ?_
                    refine lv_iconst (v := nI 0) hx hb dX7_begins_96 (by decide) ?_
                    refine pf_7_114 hx hb hts hown hK hP hD hS 0 rfl (Nat.le_of_ble_eq_true rfl) dX7_begins_97 (fun H locs hP hD hS => ?_)
                    have hP : va_P D vwCl [mO h q zmu zmk zmz 0 zma zmc, (q 0, .inl (cI, 54, .inl (fun z_ => nI (rd z_)))), (q 1, .inl (cI, 54, .inl (fun z_ => nI (rd z_)))), (q 2, .inl (cI, 76, .inl (fun z_ => nI ((stN rd) z_))))] _ := hP
                    have hD : va_D A [mO h q zmu zmk zmz 0 zma zmc, (q 0, .inl (cI, 54, .inl (fun z_ => nI (rd z_)))), (q 1, .inl (cI, 54, .inl (fun z_ => nI (rd z_)))), (q 2, .inl (cI, 76, .inl (fun z_ => nI ((stN rd) z_))))] := hD
                    refine lv_aload_n hx hb dX7_begins_100 rfl (lv_at hl 1 rfl) ?_
                    refine lv_iconst (v := nI 0) hx hb dX7_begins_101 (by decide) ?_
                    refine pf_7_117 hx hb hts hown hK hP hD hS 0 rfl (Nat.le_of_ble_eq_true rfl) dX7_begins_102 (fun H locs hP hD hS => ?_)
                    have hP : va_P D vwCl [mO h q 0 zmk zmz 0 zma zmc, (q 0, .inl (cI, 54, .inl (fun z_ => nI (rd z_)))), (q 1, .inl (cI, 54, .inl (fun z_ => nI (rd z_)))), (q 2, .inl (cI, 76, .inl (fun z_ => nI ((stN rd) z_))))] _ := hP
                    have hD : va_D A [mO h q 0 zmk zmz 0 zma zmc, (q 0, .inl (cI, 54, .inl (fun z_ => nI (rd z_)))), (q 1, .inl (cI, 54, .inl (fun z_ => nI (rd z_)))), (q 2, .inl (cI, 76, .inl (fun z_ => nI ((stN rd) z_))))] := hD
                    refine lv_aload_n hx hb dX7_begins_105 rfl (lv_at hl 1 rfl) ?_
                    refine lv_iconst (v := nI 0) hx hb dX7_begins_106 (by decide) ?_
                    refine pf_7_120 hx hb hts hown hK hP hD hS 0 rfl (Nat.le_of_ble_eq_true rfl) dX7_begins_107 (fun H locs hP hD hS => ?_)
                    have hP : va_P D vwCl [mO h q 0 0 zmz 0 zma zmc, (q 0, .inl (cI, 54, .inl (fun z_ => nI (rd z_)))), (q 1, .inl (cI, 54, .inl (fun z_ => nI (rd z_)))), (q 2, .inl (cI, 76, .inl (fun z_ => nI ((stN rd) z_))))] _ := hP
                    have hD : va_D A [mO h q 0 0 zmz 0 zma zmc, (q 0, .inl (cI, 54, .inl (fun z_ => nI (rd z_)))), (q 1, .inl (cI, 54, .inl (fun z_ => nI (rd z_)))), (q 2, .inl (cI, 76, .inl (fun z_ => nI ((stN rd) z_))))] := hD
                    refine hret hP hD hS dX7_begins_110 rfl ?_
                    rfl
                  · -- 51 to 54
                    refine lv_aload_n hx hb dX7_begins_54 rfl (lv_at hl 1 rfl) ?_
                    refine gf_7_16 hx hb hts hown hK hP 0 rfl rfl dX7_begins_55 ?_
                    refine lv_iconst (v := nI 4) hx hb dX7_begins_58 (by decide) ?_
                    refine lv_iload_n hx hb dX7_begins_59 rfl (lv_at hl 0 rfl) ?_
                    refine n_iadd hx hb dX7_begins_60  ?_
                    refine lv_aload_n hx hb dX7_begins_61 rfl (lv_at hl 1 rfl) ?_
                    refine gf_7_7 hx hb hts hown hK hP 0 rfl rfl dX7_begins_62 ?_
                    refine lv_bipush (v := nI 9) hx hb dX7_begins_65 (by decide) ?_
                    refine lv_iload_n hx hb dX7_begins_67 rfl (lv_at hl 0 rfl) ?_
                    refine n_iadd hx hb dX7_begins_68  ?_
                    refine n_iald hx hb hK hP 1 0 rfl rfl dX7_begins_69 (by decide) (by omega) ?_
                    refine n_iast hx hb hK hP hD hS 3 0 rfl rfl dX7_begins_70 (by decide) (by omega) (fun H locs hP hD hS => ?_)
                    have hP : va_P D vwCl [mO h q zmu zmk zmz zms zma zmc, (q 0, .inl (cI, 54, .inl (fun z_ => nI (rd z_)))), (q 1, .inl (cI, 54, .inl (fun z_ => nI (rd z_)))), (q 2, .inl (cI, 76, .inl (fun z_ => nI ((up1 g3 (4 + k2) (rd (9 + k2))) z_))))] _ := hP
                    have hD : va_D A [mO h q zmu zmk zmz zms zma zmc, (q 0, .inl (cI, 54, .inl (fun z_ => nI (rd z_)))), (q 1, .inl (cI, 54, .inl (fun z_ => nI (rd z_)))), (q 2, .inl (cI, 76, .inl (fun z_ => nI ((up1 g3 (4 + k2) (rd (9 + k2))) z_))))] := hD
                    refine lv_aload_n hx hb dX7_begins_71 rfl (lv_at hl 1 rfl) ?_
                    refine gf_7_16 hx hb hts hown hK hP 0 rfl rfl dX7_begins_72 ?_
                    refine lv_bipush (v := nI 8) hx hb dX7_begins_75 (by decide) ?_
                    refine lv_iload_n hx hb dX7_begins_77 rfl (lv_at hl 0 rfl) ?_
                    refine n_iadd hx hb dX7_begins_78  ?_
                    refine lv_aload_n hx hb dX7_begins_79 rfl (lv_at hl 1 rfl) ?_
                    refine gf_7_7 hx hb hts hown hK hP 0 rfl rfl dX7_begins_80 ?_
                    refine lv_bipush (v := nI 13) hx hb dX7_begins_83 (by decide) ?_
                    refine lv_iload_n hx hb dX7_begins_85 rfl (lv_at hl 0 rfl) ?_
                    refine n_iadd hx hb dX7_begins_86  ?_
                    refine n_iald hx hb hK hP 1 0 rfl rfl dX7_begins_87 (by decide) (by omega) ?_
                    refine n_iast hx hb hK hP hD hS 3 0 rfl rfl dX7_begins_88 (by decide) (by omega) (fun H locs hP hD hS => ?_)
                    have hP : va_P D vwCl [mO h q zmu zmk zmz zms zma zmc, (q 0, .inl (cI, 54, .inl (fun z_ => nI (rd z_)))), (q 1, .inl (cI, 54, .inl (fun z_ => nI (rd z_)))), (q 2, .inl (cI, 76, .inl (fun z_ => nI ((up1 (up1 g3 (4 + k2) (rd (9 + k2))) (8 + k2) (rd (13 + k2))) z_))))] _ := hP
                    have hD : va_D A [mO h q zmu zmk zmz zms zma zmc, (q 0, .inl (cI, 54, .inl (fun z_ => nI (rd z_)))), (q 1, .inl (cI, 54, .inl (fun z_ => nI (rd z_)))), (q 2, .inl (cI, 76, .inl (fun z_ => nI ((up1 (up1 g3 (4 + k2) (rd (9 + k2))) (8 + k2) (rd (13 + k2))) z_))))] := hD
                    refine lv_iinc (v := nI (k2 + 1)) (lv' := [(1, .int (nI (k2 + 1))), (0, .ref h)]) hx hb dX7_begins_89 hl (k := 0) rfl (n_inc _ 1) (by decide) rfl (fun ls hl => ?_)
                    refine lv_goto (tgt := 49) hx hb dX7_begins_92 (by decide) ?_
                    exact ih_49 (k2 + 1) (up1 (up1 g3 (4 + k2) (rd (9 + k2))) (8 + k2) (rd (13 + k2))) (by omega) (sb_s (by omega) hg3) (by omega) _ _ hP hD hS _ (lv_sub hl [0, 1] rfl)
              exact loop_49 _ 0 g2 (by omega) (sb_0 (show k1 = 76 by omega) hg2) (Nat.lt_succ_self _) _ _ hP hD hS _ (lv_sub hl [0, 1] rfl)
            · -- 31 to 34
              refine lv_aload_n hx hb dX7_begins_34 rfl (lv_at hl 1 rfl) ?_
              refine gf_7_16 hx hb hts hown hK hP 0 rfl rfl dX7_begins_35 ?_
              refine lv_iload_n hx hb dX7_begins_38 rfl (lv_at hl 0 rfl) ?_
              refine lv_iconst (v := nI 0) hx hb dX7_begins_39 (by decide) ?_
              refine n_iast hx hb hK hP hD hS 3 0 rfl rfl dX7_begins_40 (by decide) (by omega) (fun H locs hP hD hS => ?_)
              have hP : va_P D vwCl [mO h q zmu zmk zmz zms zma zmc, (q 0, .inl (cI, 54, .inl (fun z_ => nI (rd z_)))), (q 1, .inl (cI, 54, .inl (fun z_ => nI (rd z_)))), (q 2, .inl (cI, 76, .inl (fun z_ => nI ((up1 g2 k1 0) z_))))] _ := hP
              have hD : va_D A [mO h q zmu zmk zmz zms zma zmc, (q 0, .inl (cI, 54, .inl (fun z_ => nI (rd z_)))), (q 1, .inl (cI, 54, .inl (fun z_ => nI (rd z_)))), (q 2, .inl (cI, 76, .inl (fun z_ => nI ((up1 g2 k1 0) z_))))] := hD
              refine lv_iinc (v := nI (k1 + 1)) (lv' := [(1, .int (nI (k1 + 1))), (0, .ref h)]) hx hb dX7_begins_41 hl (k := 0) rfl (n_inc _ 1) (by decide) rfl (fun ls hl => ?_)
              refine lv_goto (tgt := 28) hx hb dX7_begins_44 (by decide) ?_
              exact ih_28 (k1 + 1) (up1 g2 k1 0) (by omega) (cl_s hg2) (by omega) _ _ hP hD hS _ (lv_sub hl [0, 1] rfl)
        exact loop_28 _ 0 nw (by omega) (fun j hj => absurd hj (Nat.not_lt_zero j)) (Nat.lt_succ_self _) _ _ hP hD hS _ (lv_sub hl [0, 1] rfl)
      · -- 5 to 8
        refine lv_aload_n hx hb dX7_begins_8 rfl (lv_at hl 1 rfl) ?_
        refine gf_7_7 hx hb hts hown hK hP 0 rfl rfl dX7_begins_9 ?_
        refine lv_iload_n hx hb dX7_begins_12 rfl (lv_at hl 0 rfl) ?_
        refine lv_aload_n hx hb dX7_begins_13 rfl (lv_at hl 1 rfl) ?_
        refine gf_7_13 hx hb hts hown hK hP 0 rfl rfl dX7_begins_14 ?_
        refine lv_iload_n hx hb dX7_begins_17 rfl (lv_at hl 0 rfl) ?_
        refine n_iald hx hb hK hP 2 0 rfl rfl dX7_begins_18 (by decide) (by omega) ?_
        refine n_iast hx hb hK hP hD hS 1 0 rfl rfl dX7_begins_19 (by decide) (by omega) (fun H locs hP hD hS => ?_)
        have hP : va_P D vwCl [mO h q zmu zmk zmz zms zma zmc, (q 0, .inl (cI, 54, .inl (fun z_ => nI ((up1 g k (rd k)) z_)))), (q 1, .inl (cI, 54, .inl (fun z_ => nI (rd z_)))), (q 2, .inl (cI, 76, .inl (fun z_ => nI (nw z_))))] _ := hP
        have hD : va_D A [mO h q zmu zmk zmz zms zma zmc, (q 0, .inl (cI, 54, .inl (fun z_ => nI ((up1 g k (rd k)) z_)))), (q 1, .inl (cI, 54, .inl (fun z_ => nI (rd z_)))), (q 2, .inl (cI, 76, .inl (fun z_ => nI (nw z_))))] := hD
        refine lv_iinc (v := nI (k + 1)) (lv' := [(1, .int (nI (k + 1))), (0, .ref h)]) hx hb dX7_begins_20 hl (k := 0) rfl (n_inc _ 1) (by decide) rfl (fun ls hl => ?_)
        refine lv_goto (tgt := 2) hx hb dX7_begins_23 (by decide) ?_
        exact ih_2 (k + 1) (up1 g k (rd k)) (by omega) (cy_s hg) (by omega) _ _ hP hD hS _ (lv_sub hl [0, 1] rfl)
  exact loop_2 _ 0 bx (by omega) (fun j hj => absurd hj (Nat.not_lt_zero j)) (Nat.lt_succ_self _) _ _ hP hD hS _ (lv_sub hl [0, 1] rfl)
set_option maxHeartbeats 4000000 in
set_option maxRecDepth 100000 in
theorem k_X7_lay {l : Launch} {D : va_G} {cI cC cB : ClassId} {h : Nat} {q : Nat → Nat} {zmu zmk zmz zms zma zmc : Nat} {tx g rd bx nw : Nat → Nat} (hz : zmz ≤ 200) (htx : ∀ j, tx j < 128) : MI l yX7_lay cX7_lay 1 (some .int) 5 D (Ty3 cI cC cB) [.ref h] [mO h q zmu zmk zmz zms zma zmc, (q 0, .inl (cI, 54, .inl (fun z_ => nI (bx z_)))), (q 1, .inl (cI, 54, .inl (fun z_ => nI (rd z_)))), (q 2, .inl (cI, 76, .inl (fun z_ => nI (nw z_)))), (q 5, .inl (cI, 200, .inl (fun z_ => nI (tx z_)))), (q 7, .inl (cI, 4, .inl (fun z_ => nI (g z_))))] (fun r u => (∃ a2 : Nat, ∃ g2 : Nat → Nat, ∃ r2 : Nat → Nat, (lyB (fxN tx zmz 201 0 clN) = false) ∧ r = (-2 : Int32) ∧ u = [mO h q zmu zmk zmz zms a2 zmc, (q 0, .inl (cI, 54, .inl (fun z_ => nI (bx z_)))), (q 1, .inl (cI, 54, .inl (fun z_ => nI (r2 z_)))), (q 2, .inl (cI, 76, .inl (fun z_ => nI (nw z_)))), (q 5, .inl (cI, 200, .inl (fun z_ => nI (tx z_)))), (q 7, .inl (cI, 4, .inl (fun z_ => nI (g2 z_))))]) ∨ (∃ a2 : Nat, ∃ g2 : Nat → Nat, (lyB (fxN tx zmz 201 0 clN) = true) ∧ r = nI ((fxN tx zmz 201 0 clN).2 0) ∧ u = [mO h q 0 0 zmz 0 a2 zmc, (q 0, .inl (cI, 54, .inl (fun z_ => nI (((fxN tx zmz 201 0 clN).2) z_)))), (q 1, .inl (cI, 54, .inl (fun z_ => nI (((fxN tx zmz 201 0 clN).2) z_)))), (q 2, .inl (cI, 76, .inl (fun z_ => nI ((stN (fxN tx zmz 201 0 clN).2) z_)))), (q 5, .inl (cI, 200, .inl (fun z_ => nI (tx z_)))), (q 7, .inl (cI, 4, .inl (fun z_ => nI (g2 z_))))])) := by
  intro sz
  refine MI.walk (by decide +kernel) (Nat.le_of_ble_eq_true rfl) ?_
  intro p e s m args below meth c A Qf hx hb hml hts hown hret hK hP hD hS hA ls hl
  have hown : s.vm.findClass RX7 = some m.cls := hown
  have hl : lv_has ls 1 [(0, .ref h)] := hl
  have hP : va_P D vwCl [mO h q zmu zmk zmz zms zma zmc, (q 0, .inl (cI, 54, .inl (fun z_ => nI (bx z_)))), (q 1, .inl (cI, 54, .inl (fun z_ => nI (rd z_)))), (q 2, .inl (cI, 76, .inl (fun z_ => nI (nw z_)))), (q 5, .inl (cI, 200, .inl (fun z_ => nI (tx z_)))), (q 7, .inl (cI, 4, .inl (fun z_ => nI (g z_))))] s.heap := hP
  have hD : va_D A [mO h q zmu zmk zmz zms zma zmc, (q 0, .inl (cI, 54, .inl (fun z_ => nI (bx z_)))), (q 1, .inl (cI, 54, .inl (fun z_ => nI (rd z_)))), (q 2, .inl (cI, 76, .inl (fun z_ => nI (nw z_)))), (q 5, .inl (cI, 200, .inl (fun z_ => nI (tx z_)))), (q 7, .inl (cI, 4, .inl (fun z_ => nI (g z_))))] := hD
  refine lv_aload_n hx hb dX7_lay_0 rfl (lv_at hl 0 rfl) ?_
  refine cl_7_123 (As := []) (rest := []) hx hb hml hts hown (k_X7_fault (by first | assumption | omega) (by first | assumption | omega)) (by decide) ⟨Nat.zero_le _, Nat.zero_le _⟩ hK hP hD hS hA 0 rfl [0, 2, 4, 5] rfl (by decide) rfl hl.1 rfl (Nat.le_of_ble_eq_true rfl) dX7_lay_1 (fun r_1 u H locs hp_2 hP hD hS => ?_)
  obtain ⟨z_3, z_4, rfl, rfl⟩ := hp_2
  have hP : va_P D vwCl [mO h q zmu zmk zmz zms z_3 zmc, (q 0, .inl (cI, 54, .inl (fun z_ => nI (bx z_)))), (q 1, .inl (cI, 54, .inl (fun z_ => nI (((fxN tx zmz 201 0 clN).2) z_)))), (q 2, .inl (cI, 76, .inl (fun z_ => nI (nw z_)))), (q 5, .inl (cI, 200, .inl (fun z_ => nI (tx z_)))), (q 7, .inl (cI, 4, .inl (fun z_ => nI (z_4 z_))))] _ := hP
  have hD : va_D A [mO h q zmu zmk zmz zms z_3 zmc, (q 0, .inl (cI, 54, .inl (fun z_ => nI (bx z_)))), (q 1, .inl (cI, 54, .inl (fun z_ => nI (((fxN tx zmz 201 0 clN).2) z_)))), (q 2, .inl (cI, 76, .inl (fun z_ => nI (nw z_)))), (q 5, .inl (cI, 200, .inl (fun z_ => nI (tx z_)))), (q 7, .inl (cI, 4, .inl (fun z_ => nI (z_4 z_))))] := hD
  have hfw_q := fx_w htx zmz 201 0 clN cl_w
  have hfb_q := hfw_q.bd 0
  refine lv_bipush (v := (-4)) hx hb dX7_lay_4 (by decide) ?_
  refine lv_icmp_ne (tgt := 18) hx hb dX7_lay_6 (by decide) (fun c_5 => ?_) (fun c_5 => ?_)
  · -- 6 to 18
    refine lv_bipush (v := (-2)) hx hb dX7_lay_18 (by decide) ?_
    refine hret hP hD hS dX7_lay_20 rfl rfl ?_
    exact Or.inl ⟨_, _, _, by simp [lyB, c_5], rfl, rfl⟩
  · -- 6 to 9
    refine lv_aload_n hx hb dX7_lay_9 rfl (lv_at hl 0 rfl) ?_
    refine gf_7_13 hx hb hts hown hK hP 0 rfl rfl dX7_lay_10 ?_
    refine lv_iconst (v := nI 0) hx hb dX7_lay_13 (by decide) ?_
    refine n_iald hx hb hK hP 2 0 rfl rfl dX7_lay_14 (by decide) (by omega) ?_
    refine n_if_ne (tgt := 21) hx hb dX7_lay_15 (by decide) (by omega) (fun c_6 => ?_) (fun c_6 => ?_)
    · -- 15 to 21
      refine lv_aload_n hx hb dX7_lay_21 rfl (lv_at hl 0 rfl) ?_
      refine cl_7_64 (As := []) (rest := []) hx hb hml hts hown (k_X7_begins ) (by decide) ⟨Nat.zero_le _, Nat.zero_le _⟩ hK hP hD hS hA 0 rfl [0, 1, 2, 3] rfl (by decide) rfl hl.1 rfl (Nat.le_of_ble_eq_true rfl) dX7_lay_22 (fun  u H locs hp_7 hP hD hS => ?_)
      subst hp_7
      have hP : va_P D vwCl [mO h q 0 0 zmz 0 z_3 zmc, (q 0, .inl (cI, 54, .inl (fun z_ => nI (((fxN tx zmz 201 0 clN).2) z_)))), (q 1, .inl (cI, 54, .inl (fun z_ => nI (((fxN tx zmz 201 0 clN).2) z_)))), (q 2, .inl (cI, 76, .inl (fun z_ => nI ((stN ((fxN tx zmz 201 0 clN).2)) z_)))), (q 5, .inl (cI, 200, .inl (fun z_ => nI (tx z_)))), (q 7, .inl (cI, 4, .inl (fun z_ => nI (z_4 z_))))] _ := hP
      have hD : va_D A [mO h q 0 0 zmz 0 z_3 zmc, (q 0, .inl (cI, 54, .inl (fun z_ => nI (((fxN tx zmz 201 0 clN).2) z_)))), (q 1, .inl (cI, 54, .inl (fun z_ => nI (((fxN tx zmz 201 0 clN).2) z_)))), (q 2, .inl (cI, 76, .inl (fun z_ => nI ((stN ((fxN tx zmz 201 0 clN).2)) z_)))), (q 5, .inl (cI, 200, .inl (fun z_ => nI (tx z_)))), (q 7, .inl (cI, 4, .inl (fun z_ => nI (z_4 z_))))] := hD
      refine lv_aload_n hx hb dX7_lay_25 rfl (lv_at hl 0 rfl) ?_
      refine gf_7_7 hx hb hts hown hK hP 0 rfl rfl dX7_lay_26 ?_
      refine lv_iconst (v := nI 0) hx hb dX7_lay_29 (by decide) ?_
      refine n_iald hx hb hK hP 1 0 rfl rfl dX7_lay_30 (by decide) (by omega) ?_
      refine hret hP hD hS dX7_lay_31 rfl rfl ?_
      exact Or.inr ⟨_, _, by simp [lyB, c_5, c_6], rfl, rfl⟩
    · -- 15 to 18
      refine lv_bipush (v := (-2)) hx hb dX7_lay_18 (by decide) ?_
      refine hret hP hD hS dX7_lay_20 rfl rfl ?_
      exact Or.inl ⟨_, _, _, by simp [lyB, c_5, c_6], rfl, rfl⟩

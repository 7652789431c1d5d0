abbrev mO (a : Nat) (q : Nat → Nat) (s0 s1 s2 s3 s4 s5 : Nat) : Nat × va_E := (a, .inr (7, [.ref (q 0), .ref (q 1), .ref (q 2), .ref (q 3), .int (nI s0), .ref (q 4), .int (nI s1), .ref (q 5), .int (nI s2), .ref (q 6), .int (nI s3), .int (nI s4), .ref (q 7), .ref (q 8), .ref (q 9), .ref (q 10), .ref (q 11), .int (nI s5), .ref (q 12)]))
abbrev bO (a : Nat) (q : Nat → Nat) (s0 s1 s2 s3 : Nat) : Nat × va_E := (a, .inr (0, [.ref (q 0), .ref (q 1), .ref (q 2), .ref (q 3), .ref (q 4), .ref (q 5), .ref (q 6), .int (nI s0), .int (nI s1), .int (nI s2), .int (nI s3)]))
abbrev eO (a : Nat) (q : Nat → Nat) (s0 : Nat) : Nat × va_E := (a, .inr (1, [.ref (q 0), .ref (q 1), .ref (q 2), .int (nI s0)]))
abbrev pO (a : Nat) (q : Nat → Nat) (s0 s1 s2 s3 s4 s5 : Nat) : Nat × va_E := (a, .inr (2, [.ref (q 0), .ref (q 1), .ref (q 2), .ref (q 3), .ref (q 4), .ref (q 5), .int (nI s0), .int (nI s1), .int (nI s2), .int (nI s3), .int (nI s4), .int (nI s5)]))
abbrev sO (a : Nat) (q : Nat → Nat) (s0 s1 : Nat) : Nat × va_E := (a, .inr (3, [.ref (q 0), .int (nI s0), .int (nI s1)]))
abbrev gO (a : Nat) (q : Nat → Nat) (s0 : Nat) : Nat × va_E := (a, .inr (4, [.ref (q 0), .ref (q 1), .ref (q 2), .int (nI s0)]))
abbrev tO (a : Nat) (q : Nat → Nat) (s0 s1 : Nat) : Nat × va_E := (a, .inr (5, [.ref (q 0), .ref (q 1), .int (nI s0), .int (nI s1)]))
/-! what the box, as told, is: wheels, persons, pairs, wears, worth, teeth, gears, firsts, talks, pairs' teeth; how it stands: day, turns, heard, seen, gears, up, filed, heard ones -/
def szN (bx : Nat → Nat) : Nat → Nat
  | 0 => 1
  | i + 1 => szN bx i * bx (5 + i)
def tooN (bx : Nat → Nat) (x i : Nat) : Nat := x / szN bx i % bx (5 + i)
def exN (bx : Nat → Nat) (f : Nat → Nat) : Nat → Nat
  | 0 => 0
  | i + 1 => exN bx f i + szN bx i * f i
/-- a box is told rightly -/
def BxOk (bx : Nat → Nat) : Prop := (1 ≤ bx 0 ∧ bx 0 ≤ 4) ∧ (bx 1 ≤ 5 ∧ bx 2 ≤ 8 ∧ bx 3 ≤ 9 ∧ bx 4 ≤ 99) ∧ (∀ i, i < bx 0 → 2 ≤ bx (5 + i) ∧ bx (5 + i) ≤ 6 ∧ bx (9 + i) < bx (5 + i) ∧ bx (13 + i) < bx (5 + i)) ∧ (∀ p, p < bx 1 → bx (17 + p) < 32) ∧
  (∀ k, k < bx 2 → bx (22 + k) < bx 0 ∧ bx (30 + k) < bx (5 + bx (22 + k)) ∧ bx (38 + k) < bx 0 ∧ bx (46 + k) < bx (5 + bx (38 + k)) ∧ bx (22 + k) ≠ bx (38 + k)) ∧ ∀ j, bx j < 1000
theorem BxOk.w {bx : Nat → Nat} (h : BxOk bx) : 1 ≤ bx 0 ∧ bx 0 ≤ 4 := h.1
theorem BxOk.t {bx : Nat → Nat} (h : BxOk bx) (i : Nat) (hi : i < bx 0) : 2 ≤ bx (5 + i) ∧ bx (5 + i) ≤ 6 ∧ bx (9 + i) < bx (5 + i) ∧ bx (13 + i) < bx (5 + i) := h.2.2.1 i hi
theorem BxOk.bd {bx : Nat → Nat} (h : BxOk bx) (j : Nat) : bx j < 1000 := h.2.2.2.2.2 j
theorem BxOk.n {bx : Nat → Nat} (h : BxOk bx) : bx 1 ≤ 5 ∧ bx 2 ≤ 8 ∧ bx 3 ≤ 9 ∧ bx 4 ≤ 99 := h.2.1
theorem BxOk.ta {bx : Nat → Nat} (h : BxOk bx) (y : Nat) (hy : y < bx 1) : bx (17 + y) < 32 := h.2.2.2.1 y hy
theorem BxOk.pr {bx : Nat → Nat} (h : BxOk bx) (k : Nat) (hk : k < bx 2) : bx (22 + k) < bx 0 ∧ bx (30 + k) < bx (5 + bx (22 + k)) ∧ bx (38 + k) < bx 0 ∧ bx (46 + k) < bx (5 + bx (38 + k)) ∧ bx (22 + k) ≠ bx (38 + k) := h.2.2.2.2.1 k hk
theorem BxOk.too {bx : Nat → Nat} (h : BxOk bx) (x i : Nat) (hi : i < bx 0) : tooN bx x i < 6 := by
  have ht := h.t i hi
  have : tooN bx x i < bx (5 + i) := Nat.mod_lt _ (by omega)
  omega
theorem b2n_le (b : Bool) : b2n b ≤ 1 := by cases b <;> decide
theorem z_a0 {z : Nat} {b q : Bool} (hz : z = b2n b) (h : z = 0) : 0 = b2n (b && q) := by subst hz; cases b <;> simp_all [b2n]
theorem z_a1 {b q : Bool} (h : q = false) : 0 = b2n (b && q) := by subst h; simp [b2n]
theorem z_a2 {z : Nat} {b q : Bool} (hz : z = b2n b) (h : z ≠ 0) (hq : q = true) : 1 = b2n (b && q) := by subst hz; subst hq; cases b <;> simp_all [b2n]
theorem z_o1 {z : Nat} {b q : Bool} (hz : z = b2n b) (h : z ≠ 0) : 1 = b2n (b || q) := by subst hz; cases b <;> simp_all [b2n]
theorem z_o2 {b q : Bool} (h : q = true) : 1 = b2n (b || q) := by subst h; simp [b2n]
theorem z_o0 {z : Nat} {b q : Bool} (hz : z = b2n b) (h : z = 0) (hq : q = false) : 0 = b2n (b || q) := by subst hz; subst hq; cases b <;> simp_all [b2n]
theorem q_n1 {t : Bool} (h : t = true) : (!t) = false := by simp [h]
theorem q_n0 {t : Bool} (h : t = false) : (!t) = true := by simp [h]
theorem q_n2 {a b x y : Nat} (h1 : a = b) (h2 : x = y) : (!(decide (a = b) && decide (x = y))) = false := by simp [h1, h2]
theorem q_n3 {a b : Nat} {q : Bool} (h : a ≠ b) : (!(decide (a = b) && q)) = true := by simp [h]
theorem q_n4 {a b : Nat} {q : Bool} (h : a ≠ b) : (!(q && decide (a = b))) = true := by simp [h]
theorem q_t {a b : Nat} {t : Bool} (h1 : a = b) (h2 : t = true) : (decide (a = b) && t) = true := by simp [h1, h2]
theorem q_f1 {a b : Nat} {t : Bool} (h : a ≠ b) : (decide (a = b) && t) = false := by simp [h]
theorem q_f2 {t q : Bool} (h : t = false) : (q && t) = false := by simp [h]
theorem q_t3 {a b x y w v i j : Nat} (h1 : a = b) (h2 : x = y) (h3 : w ≠ v) (h4 : i = j) : ((decide (a = b) && decide (x = y) && !decide (w = v)) && decide (i = j)) = true := by simp [h1, h2, h3, h4]
theorem q_g1 {a b : Nat} {q r t : Bool} (h : a ≠ b) : ((decide (a = b) && q && r) && t) = false := by simp [h]
theorem q_g2 {a b : Nat} {q r t : Bool} (h : a ≠ b) : ((q && decide (a = b) && r) && t) = false := by simp [h]
theorem q_g3 {a b : Nat} {q t : Bool} (h : a = b) : ((q && !decide (a = b)) && t) = false := by simp [h]
theorem q_g4 {a b : Nat} {q : Bool} (h : a ≠ b) : (q && decide (a = b)) = false := by simp [h]
/-- a turn: the first i wheels went on -/
def tuP (bx nw : Nat → Nat) (i : Nat) : Nat → Nat := fun j => if 8 ≤ j ∧ j < 8 + i then (nw j + nw (j - 4)) % bx (j - 3) else nw j
def tuN (bx nw : Nat → Nat) : Nat → Nat := fun j => if j = 1 then nw 1 + 1 else tuP bx nw (bx 0) j
theorem tuP_0 (bx nw : Nat → Nat) : tuP bx nw 0 = nw := by
  funext j; simp only [tuP]; rw [if_neg (by omega)]
theorem tuP_8 (bx nw : Nat → Nat) (i : Nat) : tuP bx nw i (8 + i) = nw (8 + i) := by simp only [tuP]; rw [if_neg (by omega)]
theorem tuP_4 (bx nw : Nat → Nat) (i : Nat) (h : i < 4) : tuP bx nw i (4 + i) = nw (4 + i) := by simp only [tuP]; rw [if_neg (by omega)]
theorem tuP_s (bx nw : Nat → Nat) (i : Nat) (h : i < 4) : up1 (tuP bx nw i) (8 + i) ((nw (8 + i) + nw (4 + i)) % bx (5 + i)) = tuP bx nw (i + 1) := by
  funext j
  by_cases hj : j = 8 + i
  · subst hj
    rw [up1_s]
    simp only [tuP]
    rw [if_pos (by omega), show 8 + i - 4 = 4 + i by omega, show 8 + i - 3 = 5 + i by omega]
  · rw [up1_n hj]
    simp only [tuP]
    by_cases h2 : 8 ≤ j ∧ j < 8 + i
    · rw [if_pos h2, if_pos (by omega)]
    · rw [if_neg h2, if_neg (by omega)]
theorem tuN_e (bx nw : Nat → Nat) : up1 (tuP bx nw (bx 0)) 1 (tuP bx nw (bx 0) 1 + 1) = tuN bx nw := by
  funext j
  by_cases hj : j = 1
  · subst hj
    rw [up1_s]
    simp [tuN, tuP]
  · rw [up1_n hj]
    simp only [tuN]
    rw [if_neg hj]
def snsF (bx nw : Nat → Nat) (x : Nat) : Nat → Bool
  | 0 => true
  | i + 1 => snsF bx nw x i && !Nat.testBit (nw (12 + i)) (tooN bx x i)
def snsP (bx : Nat → Nat) (x : Nat) : Nat → Bool
  | 0 => true
  | k + 1 => snsP bx x k && !(decide (tooN bx x (bx (22 + k)) = bx (30 + k)) && decide (tooN bx x (bx (38 + k)) = bx (46 + k)))
/-- an excuse has sense -/
def senN (bx nw : Nat → Nat) (x : Nat) : Bool := snsF bx nw x (bx 0) && snsP bx x (bx 2)
def tkN (bx : Nat → Nat) (y : Nat) : Nat → Nat
  | 0 => 0
  | k + 1 => tkN bx y k ||| (if k ≠ y ∧ (Nat.testBit (bx (17 + y)) k = true ∨ Nat.testBit (bx (17 + k)) y = true) then 1 * 2 ^ k else 0)
theorem tk_t1 {bx : Nat → Nat} {y k : Nat} (h1 : k ≠ y) (h2 : Nat.testBit (bx (17 + y)) k = true) : tkN bx y k ||| 1 * 2 ^ k = tkN bx y (k + 1) := by
  simp only [tkN]; rw [if_pos ⟨h1, Or.inl h2⟩]
theorem tk_t2 {bx : Nat → Nat} {y k : Nat} (h1 : k ≠ y) (h2 : Nat.testBit (bx (17 + k)) y = true) : tkN bx y k ||| 1 * 2 ^ k = tkN bx y (k + 1) := by
  simp only [tkN]; rw [if_pos ⟨h1, Or.inr h2⟩]
theorem tk_f1 {bx : Nat → Nat} {y k : Nat} (h1 : k = y) : tkN bx y k ||| 0 = tkN bx y (k + 1) := by
  simp only [tkN]; rw [if_neg (fun h => h.1 h1)]
theorem tk_f2 {bx : Nat → Nat} {y k : Nat} (h1 : Nat.testBit (bx (17 + y)) k = false) (h2 : Nat.testBit (bx (17 + k)) y = false) : tkN bx y k ||| 0 = tkN bx y (k + 1) := by
  simp only [tkN]; rw [if_neg (by rw [h1, h2]; simp)]
theorem tk_lt (bx : Nat → Nat) (y : Nat) : ∀ k, tkN bx y k < 2 ^ k
  | 0 => by simp [tkN]
  | k + 1 => by
    simp only [tkN]
    refine Nat.or_lt_two_pow (Nat.lt_trans (tk_lt bx y k) (Nat.pow_lt_pow_right (by omega) (by omega))) ?_
    split
    · rw [Nat.one_mul]; exact Nat.pow_lt_pow_right (by omega) (by omega)
    · exact Nat.two_pow_pos _
theorem th_lt {bx : Nat → Nat} {y : Nat} (hB : BxOk bx) (hy : y < bx 1) : tkN bx y (bx 1) ||| 1 * 2 ^ y < 32 := by
  have hn := hB.n
  refine Nat.or_lt_two_pow (n := 5) (Nat.lt_of_lt_of_le (tk_lt bx y (bx 1)) (Nat.pow_le_pow_right (by omega) hn.1)) ?_
  rw [Nat.one_mul]
  exact Nat.pow_lt_pow_right (by omega) (by omega)
/-- what is heard is of the box -/
def HdOk (bx nw : Nat → Nat) : Prop := nw 2 ≤ 12 ∧ (∀ k, k < nw 2 → nw (16 + k) < szN bx (bx 0) ∧ nw (28 + k) < bx 1 ∧ nw (40 + k) < bx 1 ∧ nw (64 + k) ≤ 1) ∧ ∀ j, nw j < 100000000
theorem HdOk.h {bx nw : Nat → Nat} (h : HdOk bx nw) : nw 2 ≤ 12 := h.1
theorem HdOk.k {bx nw : Nat → Nat} (h : HdOk bx nw) (k : Nat) (hk : k < nw 2) : nw (16 + k) < szN bx (bx 0) ∧ nw (28 + k) < bx 1 ∧ nw (40 + k) < bx 1 ∧ nw (64 + k) ≤ 1 := h.2.1 k hk
theorem HdOk.bd {bx nw : Nat → Nat} (h : HdOk bx nw) (j : Nat) : nw j < 100000000 := h.2.2 j
/-- an excuse is stale for y, by the first k heard -/
def staN (bx nw : Nat → Nat) (x y : Nat) : Nat → Bool
  | 0 => false
  | k + 1 => staN bx nw x y k || (decide (nw (16 + k) = x) && Nat.testBit (tkN bx y (bx 1) ||| 1 * 2 ^ y) (nw (40 + k)))
/-- x, told by y to w, is seen through, by the first k heard -/
def seeN (bx nw : Nat → Nat) (x y w : Nat) : Nat → Bool
  | 0 => false
  | k + 1 => seeN bx nw x y w k || ((decide (nw (40 + k) = w) && decide (nw (52 + k) = nw 0) && !decide (nw (28 + k) = y)) && decide (tooN bx (nw (16 + k)) 0 = tooN bx x 0))
/-- the oldest is lost: of the places moved, the first i of all five rows, and the i-th of the first v rows -/
def loI (nw : Nat → Nat) (i v : Nat) : Nat → Nat := fun j => if j = 3 then nw 3 - nw 64 else if 16 ≤ j ∧ j < 76 ∧ ((j - 16) % 12 < i ∨ (j - 16) % 12 = i ∧ (j - 16) / 12 < v) then nw (j + 1) else nw j
def losN (nw : Nat → Nat) : Nat → Nat := fun j => if j = 3 then nw 3 - nw 64 else if j = 2 then nw 2 - 1 else if 16 ≤ j ∧ j < 76 ∧ (j - 16) % 12 < 11 then nw (j + 1) else nw j
theorem loI_0 (nw : Nat → Nat) : loI nw 0 0 = up1 nw 3 (nw 3 - nw 64) := by
  funext j
  simp only [loI, up1]
  by_cases h : j = 3
  · rw [if_pos h, if_pos h]
  · rw [if_neg h, if_neg h, if_neg (by omega)]
theorem loI_2 (nw : Nat → Nat) (i : Nat) : loI nw i 0 2 = nw 2 := by simp only [loI]; rw [if_neg (by omega), if_neg (by omega)]
theorem loI_n (nw : Nat → Nat) (i : Nat) (h : i < 11) : loI nw i 5 = loI nw (i + 1) 0 := by
  funext j
  simp only [loI]
  by_cases h3 : j = 3
  · rw [if_pos h3, if_pos h3]
  · rw [if_neg h3, if_neg h3]
    by_cases hc : 16 ≤ j ∧ j < 76 ∧ ((j - 16) % 12 < i + 1 ∨ (j - 16) % 12 = i + 1 ∧ (j - 16) / 12 < 0)
    · rw [if_pos hc, if_pos (by omega)]
    · rw [if_neg hc, if_neg (by omega)]
theorem loI_s (nw : Nat → Nat) (i v : Nat) (h : i < 11) (hv : v < 5) : up1 (loI nw i v) (16 + 12 * v + i) (loI nw i v (16 + 12 * v + i + 1)) = loI nw i (v + 1) := by
  funext j
  by_cases hj : j = 16 + 12 * v + i
  · subst hj
    rw [up1_s]
    simp only [loI]
    rw [if_neg (by omega), if_neg (by omega), if_neg (by omega), if_pos (by omega)]
  · rw [up1_n hj]
    simp only [loI]
    by_cases h3 : j = 3
    · rw [if_pos h3, if_pos h3]
    · rw [if_neg h3, if_neg h3]
      by_cases hc : 16 ≤ j ∧ j < 76 ∧ ((j - 16) % 12 < i ∨ (j - 16) % 12 = i ∧ (j - 16) / 12 < v)
      · rw [if_pos hc, if_pos (by omega)]
      · rw [if_neg hc, if_neg (by omega)]
theorem losN_e (nw : Nat → Nat) : up1 (loI nw 11 0) 2 (loI nw 11 0 2 - 1) = losN nw := by
  funext j
  by_cases hj : j = 2
  · subst hj
    rw [up1_s, loI_2]
    simp [losN]
  · rw [up1_n hj]
    simp only [loI, losN]
    by_cases h3 : j = 3
    · rw [if_pos h3, if_pos h3]
    · rw [if_neg h3, if_neg h3, if_neg hj]
      by_cases hc : 16 ≤ j ∧ j < 76 ∧ (j - 16) % 12 < 11
      · rw [if_pos hc, if_pos (by omega)]
      · rw [if_neg hc, if_neg (by omega)]
theorem exN_st (bx f : Nat → Nat) (x j : Nat) : (x * bx (5 + j) + f j) * szN bx j + exN bx f j = x * szN bx (j + 1) + exN bx f (j + 1) := by
  simp only [szN, exN]
  rw [Nat.add_mul, Nat.mul_assoc, Nat.mul_comm (bx (5 + j)) (szN bx j), Nat.mul_comm (f j)]
  omega
theorem n_decI (j : Nat) : nI j + Int32.ofInt (-1) = nI j - 1 := by rw [Int32.sub_eq_add_neg]; rfl
theorem nk_0 {k : Nat} (hk : k < 2147483648) (h : nI k - 1 < 0) : k = 0 := by
  cases k with
  | zero => rfl
  | succ j => rw [nI_pred] at h; exact absurd h (nI_pos (by omega))
theorem nk_s {k : Nat} (hk : k < 2147483648) (h : ¬ nI k - 1 < 0) : ∃ j, k = j + 1 := by
  cases k with
  | zero => exact absurd (by decide) h
  | succ j => exact ⟨j, rfl⟩
theorem has_1 {a i : Nat} (h : a / 2 ^ i &&& 1 = 1) : 1 = b2n (Nat.testBit a i) := by
  rw [Nat.and_one_is_mod] at h
  simp [b2n, Nat.testBit, Nat.shiftRight_eq_div_pow, Nat.one_and_eq_mod_two, h]
theorem has_0 {a i : Nat} (h : a / 2 ^ i &&& 1 ≠ 1) : 0 = b2n (Nat.testBit a i) := by
  rw [Nat.and_one_is_mod] at h
  simp [b2n, Nat.testBit, Nat.shiftRight_eq_div_pow, Nat.one_and_eq_mod_two]
  omega

set_option maxHeartbeats 4000000 in
set_option maxRecDepth 100000 in
theorem k_X7_has {l : Launch} {D : va_G} {cI cC cB : ClassId} {a i : Nat} (ha : a < 2147483648) (hi : i < 32) : MI l yX7_has cX7_has 2 (some .boolean) 0 D (Ty3 cI cC cB) [.int (nI (a)), .int (nI (i))] [] (fun r u => (r = nI (b2n (Nat.testBit a i)) ∧ u = [])) := by
  intro sz
  refine MI.walk (by decide +kernel) (Nat.le_of_ble_eq_true rfl) ?_
  intro p e s m args below meth c A Qf hx hb hml hts hown hret hK hP hD hS hA ls hl
  have hown : s.vm.findClass RX7 = some m.cls := hown
  have hl : lv_has ls 2 [(0, .int (nI (a))), (1, .int (nI (i)))] := hl
  have hP : va_P D vwCl [] s.heap := hP
  have hD : va_D A [] := hD
  refine lv_iload_n hx hb dX7_has_0 rfl (lv_at hl 0 rfl) ?_
  refine lv_iload_n hx hb dX7_has_1 rfl (lv_at hl 1 rfl) ?_
  refine n_ishr hx hb dX7_has_2 (by omega) (by omega) ?_
  refine lv_iconst (v := nI 1) hx hb dX7_has_3 (by decide) ?_
  refine n_iand hx hb dX7_has_4  ?_
  refine lv_iconst (v := nI 1) hx hb dX7_has_5 (by decide) ?_
  refine n_icmp_ne (tgt := 13) hx hb dX7_has_6 (by decide) (by have := Nat.and_le_right (n := a / 2 ^ i) (m := 1); omega) (by decide) (fun c_1 => ?_) (fun c_1 => ?_)
  · -- 6 to 13
    refine lv_iconst (v := nI 0) hx hb dX7_has_13 (by decide) ?_
    refine hret hP hD hS dX7_has_14 (by decide) rfl ?_
    exact ⟨congrArg nI (by first | exact has_1 (by assumption) | exact has_0 (by assumption)), rfl⟩
  · -- 6 to 9
    refine lv_iconst (v := nI 1) hx hb dX7_has_9 (by decide) ?_
    refine lv_goto (tgt := 14) hx hb dX7_has_10 (by decide) ?_
    refine hret hP hD hS dX7_has_14 (by decide) rfl ?_
    exact ⟨congrArg nI (by first | exact has_1 (by assumption) | exact has_0 (by assumption)), rfl⟩
set_option maxHeartbeats 4000000 in
set_option maxRecDepth 100000 in
theorem k_X7_excuses {l : Launch} {D : va_G} {cI cC cB : ClassId} {h : Nat} {q : Nat → Nat} {zmu zmk zmz zms zma zmc : Nat} {bx : Nat → Nat} (hB : BxOk bx) : MI l yX7_excuses cX7_excuses 3 (some .int) 0 D (Ty3 cI cC cB) [.ref h] [mO h q zmu zmk zmz zms zma zmc, (q 0, .inl (cI, 54, .inl (fun z_ => nI (bx z_))))] (fun r u => (r = nI (szN bx (bx 0)) ∧ u = [mO h q zmu zmk zmz zms zma zmc, (q 0, .inl (cI, 54, .inl (fun z_ => nI (bx z_))))])) := by
  intro sz
  refine MI.walk (by decide +kernel) (Nat.le_of_ble_eq_true rfl) ?_
  intro p e s m args below meth c A Qf hx hb hml hts hown hret hK hP hD hS hA ls hl
  have hown : s.vm.findClass RX7 = some m.cls := hown
  have hl : lv_has ls 3 [(0, .ref h)] := hl
  have hP : va_P D vwCl [mO h q zmu zmk zmz zms zma zmc, (q 0, .inl (cI, 54, .inl (fun z_ => nI (bx z_))))] s.heap := hP
  have hD : va_D A [mO h q zmu zmk zmz zms zma zmc, (q 0, .inl (cI, 54, .inl (fun z_ => nI (bx z_))))] := hD
  refine lv_iconst (v := nI 1) hx hb dX7_excuses_0 (by decide) ?_
  refine lv_istore_n (lv' := [(1, .int (nI (1))), (0, .ref h)]) hx hb dX7_excuses_1 rfl hl (by decide) rfl (fun ls hl => ?_)
  refine lv_iconst (v := nI 0) hx hb dX7_excuses_2 (by decide) ?_
  refine lv_istore_n (lv' := [(2, .int (nI (0))), (1, .int (nI (1))), (0, .ref h)]) hx hb dX7_excuses_3 rfl hl (by decide) rfl (fun ls hl => ?_)
  have loop_4 : ∀ (N : Nat) (n : Nat) (i : Nat), (i ≤ bx 0) → (n = szN bx i) → (bx 0 - i) < N → ∀ (H : Heap) (locs : List Loc), va_P D vwCl [mO h q zmu zmk zmz zms zma zmc, (q 0, .inl (cI, 54, .inl (fun z_ => nI (bx z_))))] H → va_D A [mO h q zmu zmk zmz zms zma zmc, (q 0, .inl (cI, 54, .inl (fun z_ => nI (bx z_))))] → va_S A s.heap H locs → ∀ ls : Array Slot, lv_has ls 3 [(2, .int (nI (i))), (1, .int (nI (n))), (0, .ref h)] → W p l e (rmL 0) s m args below meth c H locs 0 0 Qf (F0 m 4 ls []) := by
    intro N; induction N with
    | zero => intro n i _ _ hm; omega
    | succ N ih_4 =>
      intro n i hi hn hm H locs hP hD hS ls hl
      have hw := hB.w
      refine lv_iload_n hx hb dX7_excuses_4 rfl (lv_at hl 0 rfl) ?_
      refine lv_aload_n hx hb dX7_excuses_5 rfl (lv_at hl 2 rfl) ?_
      refine gf_7_7 hx hb hts hown hK hP 0 rfl rfl dX7_excuses_6 ?_
      refine lv_iconst (v := nI 0) hx hb dX7_excuses_9 (by decide) ?_
      refine n_iald hx hb hK hP 1 0 rfl rfl dX7_excuses_10 (by decide) (by omega) ?_
      have hb_1 := hB.bd 0
      refine n_icmp_ge (tgt := 31) hx hb dX7_excuses_11 (by decide) (by omega) (by omega) (fun c_2 => ?_) (fun c_2 => ?_)
      · -- 11 to 31
        refine lv_iload_n hx hb dX7_excuses_31 rfl (lv_at hl 1 rfl) ?_
        refine hret hP hD hS dX7_excuses_32 rfl rfl ?_
        exact ⟨by rw [hn, show i = bx 0 by omega], rfl⟩
      · -- 11 to 14
        refine lv_iload_n hx hb dX7_excuses_14 rfl (lv_at hl 1 rfl) ?_
        refine lv_aload_n hx hb dX7_excuses_15 rfl (lv_at hl 2 rfl) ?_
        refine gf_7_7 hx hb hts hown hK hP 0 rfl rfl dX7_excuses_16 ?_
        refine lv_iconst (v := nI 5) hx hb dX7_excuses_19 (by decide) ?_
        refine lv_iload_n hx hb dX7_excuses_20 rfl (lv_at hl 0 rfl) ?_
        refine n_iadd hx hb dX7_excuses_21  ?_
        refine n_iald hx hb hK hP 1 0 rfl rfl dX7_excuses_22 (by decide) (by omega) ?_
        have hb_3 := hB.bd (5 + i)
        refine n_imul hx hb dX7_excuses_23  ?_
        refine lv_istore_n (lv' := [(1, .int (nI (n * (bx (5 + i))))), (2, .int (nI (i))), (0, .ref h)]) hx hb dX7_excuses_24 rfl hl (by decide) rfl (fun ls hl => ?_)
        refine lv_iinc (v := nI (i + 1)) (lv' := [(2, .int (nI (i + 1))), (1, .int (nI (n * (bx (5 + i))))), (0, .ref h)]) hx hb dX7_excuses_25 hl (k := 1) rfl (n_inc _ 1) (by decide) rfl (fun ls hl => ?_)
        refine lv_goto (tgt := 4) hx hb dX7_excuses_28 (by decide) ?_
        exact ih_4 (n * (bx (5 + i))) (i + 1) (by omega) (by rw [hn]; rfl) (by omega) _ _ hP hD hS _ (lv_sub hl [0, 1, 2] rfl)
  exact loop_4 _ 1 0 (Nat.zero_le _) rfl (Nat.lt_succ_self _) _ _ hP hD hS _ (lv_sub hl [0, 1, 2] rfl)
set_option maxHeartbeats 4000000 in
set_option maxRecDepth 100000 in
theorem k_X7_toothOf {l : Launch} {D : va_G} {cI cC cB : ClassId} {h : Nat} {q : Nat → Nat} {zmu zmk zmz zms zma zmc : Nat} {bx : Nat → Nat} {x i : Nat} (hB : BxOk bx) (hi : i < bx 0) (he : x < 2147483648) : MI l yX7_toothOf cX7_toothOf 5 (some .int) 0 D (Ty3 cI cC cB) [.ref h, .int (nI (x)), .int (nI (i))] [mO h q zmu zmk zmz zms zma zmc, (q 0, .inl (cI, 54, .inl (fun z_ => nI (bx z_))))] (fun r u => (r = nI (tooN bx x i) ∧ u = [mO h q zmu zmk zmz zms zma zmc, (q 0, .inl (cI, 54, .inl (fun z_ => nI (bx z_))))])) := by
  intro sz
  refine MI.walk (by decide +kernel) (Nat.le_of_ble_eq_true rfl) ?_
  intro p e s m args below meth c A Qf hx hb hml hts hown hret hK hP hD hS hA ls hl
  have hown : s.vm.findClass RX7 = some m.cls := hown
  have hl : lv_has ls 5 [(0, .ref h), (1, .int (nI (x))), (2, .int (nI (i)))] := hl
  have hP : va_P D vwCl [mO h q zmu zmk zmz zms zma zmc, (q 0, .inl (cI, 54, .inl (fun z_ => nI (bx z_))))] s.heap := hP
  have hD : va_D A [mO h q zmu zmk zmz zms zma zmc, (q 0, .inl (cI, 54, .inl (fun z_ => nI (bx z_))))] := hD
  refine lv_iload_n hx hb dX7_toothOf_0 rfl (lv_at hl 1 rfl) ?_
  refine lv_istore_n (lv' := [(3, .int (nI (x))), (0, .ref h), (1, .int (nI (x))), (2, .int (nI (i)))]) hx hb dX7_toothOf_1 rfl hl (by decide) rfl (fun ls hl => ?_)
  refine lv_iconst (v := nI 0) hx hb dX7_toothOf_2 (by decide) ?_
  refine lv_istore (lv' := [(4, .int (nI (0))), (3, .int (nI (x))), (0, .ref h), (1, .int (nI (x))), (2, .int (nI (i)))]) hx hb dX7_toothOf_3 hl (by decide) rfl (fun ls hl => ?_)
  have loop_5 : ∀ (N : Nat) (v : Nat) (k : Nat), (k ≤ i) → (v = x / szN bx k) → (i - k) < N → ∀ (H : Heap) (locs : List Loc), va_P D vwCl [mO h q zmu zmk zmz zms zma zmc, (q 0, .inl (cI, 54, .inl (fun z_ => nI (bx z_))))] H → va_D A [mO h q zmu zmk zmz zms zma zmc, (q 0, .inl (cI, 54, .inl (fun z_ => nI (bx z_))))] → va_S A s.heap H locs → ∀ ls : Array Slot, lv_has ls 5 [(4, .int (nI (k))), (3, .int (nI (v))), (0, .ref h), (1, .int (nI (x))), (2, .int (nI (i)))] → W p l e (rmL 0) s m args below meth c H locs 0 0 Qf (F0 m 5 ls []) := by
    intro N; induction N with
    | zero => intro v k _ _ hm; omega
    | succ N ih_5 =>
      intro v k hk hv hm H locs hP hD hS ls hl
      have hw := hB.w
      have hvx : v ≤ x := by rw [hv]; exact Nat.div_le_self _ _
      refine lv_iload hx hb dX7_toothOf_5 (lv_at hl 0 rfl) ?_
      refine lv_iload_n hx hb dX7_toothOf_7 rfl (lv_at hl 4 rfl) ?_
      refine n_icmp_ge (tgt := 29) hx hb dX7_toothOf_8 (by decide) (by omega) (by omega) (fun c_1 => ?_) (fun c_1 => ?_)
      · -- 8 to 29
        refine lv_iload_n hx hb dX7_toothOf_29 rfl (lv_at hl 1 rfl) ?_
        refine lv_aload_n hx hb dX7_toothOf_30 rfl (lv_at hl 2 rfl) ?_
        refine gf_7_7 hx hb hts hown hK hP 0 rfl rfl dX7_toothOf_31 ?_
        refine lv_iconst (v := nI 5) hx hb dX7_toothOf_34 (by decide) ?_
        refine lv_iload_n hx hb dX7_toothOf_35 rfl (lv_at hl 4 rfl) ?_
        refine n_iadd hx hb dX7_toothOf_36  ?_
        refine n_iald hx hb hK hP 1 0 rfl rfl dX7_toothOf_37 (by decide) (by omega) ?_
        have hb_2 := hB.bd (5 + i)
        have ht := hB.t i (by omega)
        refine n_irem hx hb dX7_toothOf_38 (by omega) (by omega) (by omega) ?_
        refine hret hP hD hS dX7_toothOf_39 rfl rfl ?_
        exact ⟨by rw [hv, show k = i by omega]; rfl, rfl⟩
      · -- 8 to 11
        refine lv_iload_n hx hb dX7_toothOf_11 rfl (lv_at hl 1 rfl) ?_
        refine lv_aload_n hx hb dX7_toothOf_12 rfl (lv_at hl 2 rfl) ?_
        refine gf_7_7 hx hb hts hown hK hP 0 rfl rfl dX7_toothOf_13 ?_
        refine lv_iconst (v := nI 5) hx hb dX7_toothOf_16 (by decide) ?_
        refine lv_iload hx hb dX7_toothOf_17 (lv_at hl 0 rfl) ?_
        refine n_iadd hx hb dX7_toothOf_19  ?_
        refine n_iald hx hb hK hP 1 0 rfl rfl dX7_toothOf_20 (by decide) (by omega) ?_
        have hb_3 := hB.bd (5 + k)
        have ht := hB.t k (by omega)
        refine n_idiv hx hb dX7_toothOf_21 (by omega) (by omega) (by omega) ?_
        refine lv_istore_n (lv' := [(3, .int (nI (v / (bx (5 + k))))), (4, .int (nI (k))), (0, .ref h), (1, .int (nI (x))), (2, .int (nI (i)))]) hx hb dX7_toothOf_22 rfl hl (by decide) rfl (fun ls hl => ?_)
        refine lv_iinc (v := nI (k + 1)) (lv' := [(4, .int (nI (k + 1))), (3, .int (nI (v / (bx (5 + k))))), (0, .ref h), (1, .int (nI (x))), (2, .int (nI (i)))]) hx hb dX7_toothOf_23 hl (k := 1) rfl (n_inc _ 1) (by decide) rfl (fun ls hl => ?_)
        refine lv_goto (tgt := 5) hx hb dX7_toothOf_26 (by decide) ?_
        exact ih_5 (v / (bx (5 + k))) (k + 1) (by omega) (by rw [hv, Nat.div_div_eq_div_mul]; rfl) (by omega) _ _ hP hD hS _ (lv_sub hl [0, 1, 2, 3, 4] rfl)
  exact loop_5 _ x 0 (Nat.zero_le _) (by simp [szN]) (Nat.lt_succ_self _) _ _ hP hD hS _ (lv_sub hl [0, 1, 2, 3, 4] rfl)
set_option maxHeartbeats 4000000 in
set_option maxRecDepth 100000 in
theorem k_X7_upOn {l : Launch} {D : va_G} {cI cC cB : ClassId} {h : Nat} {q : Nat → Nat} {zmu zmk zmz zms zma zmc : Nat} {bx nw : Nat → Nat} {t : Nat} (hB : BxOk bx) : MI l yX7_upOn cX7_upOn 4 (some .int) 0 D (Ty3 cI cC cB) [.ref h, .ref t] [mO h q zmu zmk zmz zms zma zmc, (q 0, .inl (cI, 54, .inl (fun z_ => nI (bx z_)))), (t, .inl (cI, 76, .inl (fun z_ => nI (nw z_))))] (fun r u => (r = nI (exN bx (fun i => nw (8 + i)) (bx 0)) ∧ u = [mO h q zmu zmk zmz zms zma zmc, (q 0, .inl (cI, 54, .inl (fun z_ => nI (bx z_)))), (t, .inl (cI, 76, .inl (fun z_ => nI (nw z_))))])) := by
  intro sz
  refine MI.walk (by decide +kernel) (Nat.le_of_ble_eq_true rfl) ?_
  intro p e s m args below meth c A Qf hx hb hml hts hown hret hK hP hD hS hA ls hl
  have hown : s.vm.findClass RX7 = some m.cls := hown
  have hl : lv_has ls 4 [(0, .ref h), (1, .ref t)] := hl
  have hP : va_P D vwCl [mO h q zmu zmk zmz zms zma zmc, (q 0, .inl (cI, 54, .inl (fun z_ => nI (bx z_)))), (t, .inl (cI, 76, .inl (fun z_ => nI (nw z_))))] s.heap := hP
  have hD : va_D A [mO h q zmu zmk zmz zms zma zmc, (q 0, .inl (cI, 54, .inl (fun z_ => nI (bx z_)))), (t, .inl (cI, 76, .inl (fun z_ => nI (nw z_))))] := hD
  refine lv_iconst (v := nI 0) hx hb dX7_upOn_0 (by decide) ?_
  refine lv_istore_n (lv' := [(2, .int (nI (0))), (0, .ref h), (1, .ref t)]) hx hb dX7_upOn_1 rfl hl (by decide) rfl (fun ls hl => ?_)
  refine lv_aload_n hx hb dX7_upOn_2 rfl (lv_at hl 1 rfl) ?_
  refine gf_7_7 hx hb hts hown hK hP 0 rfl rfl dX7_upOn_3 ?_
  refine lv_iconst (v := nI 0) hx hb dX7_upOn_6 (by decide) ?_
  refine n_iald hx hb hK hP 1 0 rfl rfl dX7_upOn_7 (by decide) (by omega) ?_
  have hb_1 := hB.bd 0
  have hw := hB.w
  refine lv_iconst (v := nI 1) hx hb dX7_upOn_8 (by decide) ?_
  refine n_isub hx hb dX7_upOn_9 (by omega) ?_
  refine lv_istore_n (lv' := [(3, .int (nI ((bx 0) - 1))), (2, .int (nI (0))), (0, .ref h), (1, .ref t)]) hx hb dX7_upOn_10 rfl hl (by decide) rfl (fun ls hl => ?_)
  have loop_11 : ∀ (N : Nat) (x : Nat) (k : Nat), (k ≤ bx 0) → (x * szN bx k + exN bx (fun i => nw (8 + i)) k = exN bx (fun i => nw (8 + i)) (bx 0)) → k < N → ∀ (H : Heap) (locs : List Loc), va_P D vwCl [mO h q zmu zmk zmz zms zma zmc, (q 0, .inl (cI, 54, .inl (fun z_ => nI (bx z_)))), (t, .inl (cI, 76, .inl (fun z_ => nI (nw z_))))] H → va_D A [mO h q zmu zmk zmz zms zma zmc, (q 0, .inl (cI, 54, .inl (fun z_ => nI (bx z_)))), (t, .inl (cI, 76, .inl (fun z_ => nI (nw z_))))] → va_S A s.heap H locs → ∀ ls : Array Slot, lv_has ls 4 [(3, .int (nI k - 1)), (2, .int (nI (x))), (0, .ref h), (1, .ref t)] → W p l e (rmL 0) s m args below meth c H locs 0 0 Qf (F0 m 11 ls []) := by
    intro N; induction N with
    | zero => intro x k _ _ hm; omega
    | succ N ih_11 =>
      intro x k hk hxx hm H locs hP hD hS ls hl
      refine lv_iload_n hx hb dX7_upOn_11 rfl (lv_at hl 0 rfl) ?_
      refine lv_if_lt (tgt := 39) hx hb dX7_upOn_12 (by decide) (fun c_2 => ?_) (fun c_2 => ?_)
      · -- 12 to 39
        have hk0 := nk_0 (by omega) c_2
        subst hk0
        refine lv_iload_n hx hb dX7_upOn_39 rfl (lv_at hl 1 rfl) ?_
        refine hret hP hD hS dX7_upOn_40 rfl rfl ?_
        exact ⟨by rw [← hxx]; simp [szN, exN], rfl⟩
      · -- 12 to 15
        obtain ⟨j, rfl⟩ := nk_s (by omega) c_2
        rw [nI_pred] at hl
        refine lv_iload_n hx hb dX7_upOn_15 rfl (lv_at hl 1 rfl) ?_
        refine lv_aload_n hx hb dX7_upOn_16 rfl (lv_at hl 2 rfl) ?_
        refine gf_7_7 hx hb hts hown hK hP 0 rfl rfl dX7_upOn_17 ?_
        refine lv_iconst (v := nI 5) hx hb dX7_upOn_20 (by decide) ?_
        refine lv_iload_n hx hb dX7_upOn_21 rfl (lv_at hl 0 rfl) ?_
        refine n_iadd hx hb dX7_upOn_22  ?_
        refine n_iald hx hb hK hP 1 0 rfl rfl dX7_upOn_23 (by decide) (by omega) ?_
        have hb_3 := hB.bd (5 + j)
        refine n_imul hx hb dX7_upOn_24  ?_
        refine lv_aload_n hx hb dX7_upOn_25 rfl (lv_at hl 3 rfl) ?_
        refine lv_bipush (v := nI 8) hx hb dX7_upOn_26 (by decide) ?_
        refine lv_iload_n hx hb dX7_upOn_28 rfl (lv_at hl 0 rfl) ?_
        refine n_iadd hx hb dX7_upOn_29  ?_
        refine n_iald hx hb hK hP 2 0 rfl rfl dX7_upOn_30 (by decide) (by omega) ?_
        refine n_iadd hx hb dX7_upOn_31  ?_
        refine lv_istore_n (lv' := [(2, .int (nI ((x * (bx (5 + j))) + (nw (8 + j))))), (3, .int (nI (j))), (0, .ref h), (1, .ref t)]) hx hb dX7_upOn_32 rfl hl (by decide) rfl (fun ls hl => ?_)
        refine lv_iinc (v := nI j - 1) (lv' := [(3, .int (nI j - 1)), (2, .int (nI ((x * (bx (5 + j))) + (nw (8 + j))))), (0, .ref h), (1, .ref t)]) hx hb dX7_upOn_33 hl (k := 1) rfl (n_decI _) (by decide) rfl (fun ls hl => ?_)
        refine lv_goto (tgt := 11) hx hb dX7_upOn_36 (by decide) ?_
        exact ih_11 ((x * (bx (5 + j))) + (nw (8 + j))) j (by omega) (by rw [← hxx]; exact exN_st bx (fun i => nw (8 + i)) x j) (by omega) _ _ hP hD hS _ (lv_sub hl [0, 1, 2, 3] rfl)
  rw [show nI (bx 0 - 1) = nI (bx 0) - 1 from (pk_sub hw.1).symm] at hl
  exact loop_11 _ 0 (bx 0) (Nat.le_refl _) (by simp) (Nat.lt_succ_self _) _ _ hP hD hS _ (lv_sub hl [0, 1, 2, 3] rfl)
set_option maxHeartbeats 4000000 in
set_option maxRecDepth 100000 in
theorem k_X7_turns {l : Launch} {D : va_G} {cI cC cB : ClassId} {h : Nat} {q : Nat → Nat} {zmu zmk zmz zms zma zmc : Nat} {bx nw : Nat → Nat} {t : Nat} (hB : BxOk bx) (hbd : ∀ j, nw j < 100000000) : MV l yX7_turns cX7_turns 3 none 0 D (Ty3 cI cC cB) [.ref h, .ref t] [mO h q zmu zmk zmz zms zma zmc, (q 0, .inl (cI, 54, .inl (fun z_ => nI (bx z_)))), (t, .inl (cI, 76, .inl (fun z_ => nI (nw z_))))] (fun (u : va_W) => (u = [mO h q zmu zmk zmz zms zma zmc, (q 0, .inl (cI, 54, .inl (fun z_ => nI (bx z_)))), (t, .inl (cI, 76, .inl (fun z_ => nI ((tuN bx nw) z_))))])) := by
  intro sz
  refine MV.walk (by decide +kernel) (Nat.le_of_ble_eq_true rfl) ?_
  intro p e s m args below meth c A Qf hx hb hml hts hown hret hK hP hD hS hA ls hl
  have hown : s.vm.findClass RX7 = some m.cls := hown
  have hl : lv_has ls 3 [(0, .ref h), (1, .ref t)] := hl
  have hP : va_P D vwCl [mO h q zmu zmk zmz zms zma zmc, (q 0, .inl (cI, 54, .inl (fun z_ => nI (bx z_)))), (t, .inl (cI, 76, .inl (fun z_ => nI (nw z_))))] s.heap := hP
  have hD : va_D A [mO h q zmu zmk zmz zms zma zmc, (q 0, .inl (cI, 54, .inl (fun z_ => nI (bx z_)))), (t, .inl (cI, 76, .inl (fun z_ => nI (nw z_))))] := hD
  refine lv_iconst (v := nI 0) hx hb dX7_turns_0 (by decide) ?_
  refine lv_istore_n (lv' := [(2, .int (nI (0))), (0, .ref h), (1, .ref t)]) hx hb dX7_turns_1 rfl hl (by decide) rfl (fun ls hl => ?_)
  have loop_2 : ∀ (N : Nat) (i : Nat) (f : Nat → Nat), (i ≤ bx 0) → (f = tuP bx nw i) → (bx 0 - i) < N → ∀ (H : Heap) (locs : List Loc), va_P D vwCl [mO h q zmu zmk zmz zms zma zmc, (q 0, .inl (cI, 54, .inl (fun z_ => nI (bx z_)))), (t, .inl (cI, 76, .inl (fun z_ => nI (f z_))))] H → va_D A [mO h q zmu zmk zmz zms zma zmc, (q 0, .inl (cI, 54, .inl (fun z_ => nI (bx z_)))), (t, .inl (cI, 76, .inl (fun z_ => nI (f z_))))] → va_S A s.heap H locs → ∀ ls : Array Slot, lv_has ls 3 [(2, .int (nI (i))), (0, .ref h), (1, .ref t)] → W p l e (rmL 0) s m args below meth c H locs 0 0 Qf (F0 m 2 ls []) := by
    intro N; induction N with
    | zero => intro i f _ _ hm; omega
    | succ N ih_2 =>
      intro i f hi hf hm H locs hP hD hS ls hl
      have hw := hB.w
      refine lv_iload_n hx hb dX7_turns_2 rfl (lv_at hl 0 rfl) ?_
      refine lv_aload_n hx hb dX7_turns_3 rfl (lv_at hl 1 rfl) ?_
      refine gf_7_7 hx hb hts hown hK hP 0 rfl rfl dX7_turns_4 ?_
      refine lv_iconst (v := nI 0) hx hb dX7_turns_7 (by decide) ?_
      refine n_iald hx hb hK hP 1 0 rfl rfl dX7_turns_8 (by decide) (by omega) ?_
      have hb_1 := hB.bd 0
      refine n_icmp_ge (tgt := 45) hx hb dX7_turns_9 (by decide) (by omega) (by omega) (fun c_2 => ?_) (fun c_2 => ?_)
      · -- 9 to 45
        refine lv_aload_n hx hb dX7_turns_45 rfl (lv_at hl 2 rfl) ?_
        refine lv_iconst (v := nI 1) hx hb dX7_turns_46 (by decide) ?_
        refine lv_dup2_11 hx hb dX7_turns_47 rfl rfl ?_
        refine n_iald hx hb hK hP 2 0 rfl rfl dX7_turns_48 (by decide) (by omega) ?_
        refine lv_iconst (v := nI 1) hx hb dX7_turns_49 (by decide) ?_
        refine n_iadd hx hb dX7_turns_50  ?_
        refine n_iast hx hb hK hP hD hS 2 0 rfl rfl dX7_turns_51 (by decide) (by omega) (fun H locs hP hD hS => ?_)
        have hP : va_P D vwCl [mO h q zmu zmk zmz zms zma zmc, (q 0, .inl (cI, 54, .inl (fun z_ => nI (bx z_)))), (t, .inl (cI, 76, .inl (fun z_ => nI ((up1 f 1 ((f 1) + 1)) z_))))] _ := hP
        have hD : va_D A [mO h q zmu zmk zmz zms zma zmc, (q 0, .inl (cI, 54, .inl (fun z_ => nI (bx z_)))), (t, .inl (cI, 76, .inl (fun z_ => nI ((up1 f 1 ((f 1) + 1)) z_))))] := hD
        refine hret hP hD hS dX7_turns_52 rfl ?_
        have hi9 : i = bx 0 := by omega
        have hu : up1 f 1 (f 1 + 1) = tuN bx nw := by rw [hf, hi9]; exact tuN_e bx nw
        rw [hu]
      · -- 9 to 12
        refine lv_aload_n hx hb dX7_turns_12 rfl (lv_at hl 2 rfl) ?_
        refine lv_bipush (v := nI 8) hx hb dX7_turns_13 (by decide) ?_
        refine lv_iload_n hx hb dX7_turns_15 rfl (lv_at hl 0 rfl) ?_
        refine n_iadd hx hb dX7_turns_16  ?_
        refine lv_aload_n hx hb dX7_turns_17 rfl (lv_at hl 2 rfl) ?_
        refine lv_bipush (v := nI 8) hx hb dX7_turns_18 (by decide) ?_
        refine lv_iload_n hx hb dX7_turns_20 rfl (lv_at hl 0 rfl) ?_
        refine n_iadd hx hb dX7_turns_21  ?_
        refine n_iald hx hb hK hP 2 0 rfl rfl dX7_turns_22 (by decide) (by omega) ?_
        refine lv_aload_n hx hb dX7_turns_23 rfl (lv_at hl 2 rfl) ?_
        refine lv_iconst (v := nI 4) hx hb dX7_turns_24 (by decide) ?_
        refine lv_iload_n hx hb dX7_turns_25 rfl (lv_at hl 0 rfl) ?_
        refine n_iadd hx hb dX7_turns_26  ?_
        refine n_iald hx hb hK hP 2 0 rfl rfl dX7_turns_27 (by decide) (by omega) ?_
        refine n_iadd hx hb dX7_turns_28  ?_
        refine lv_aload_n hx hb dX7_turns_29 rfl (lv_at hl 1 rfl) ?_
        refine gf_7_7 hx hb hts hown hK hP 0 rfl rfl dX7_turns_30 ?_
        refine lv_iconst (v := nI 5) hx hb dX7_turns_33 (by decide) ?_
        refine lv_iload_n hx hb dX7_turns_34 rfl (lv_at hl 0 rfl) ?_
        refine n_iadd hx hb dX7_turns_35  ?_
        refine n_iald hx hb hK hP 1 0 rfl rfl dX7_turns_36 (by decide) (by omega) ?_
        have hb_3 := hB.bd (5 + i)
        have g1 : f (8 + i) = nw (8 + i) := by rw [hf]; exact tuP_8 bx nw i
        have g2 : f (4 + i) = nw (4 + i) := by rw [hf]; exact tuP_4 bx nw i (by omega)
        have ht := hB.t i (by omega)
        have n1 := hbd (8 + i)
        have n2 := hbd (4 + i)
        refine n_irem hx hb dX7_turns_37 (by omega) (by omega) (by omega) ?_
        refine n_iast hx hb hK hP hD hS 2 0 rfl rfl dX7_turns_38 (by decide) (by omega) (fun H locs hP hD hS => ?_)
        have hP : va_P D vwCl [mO h q zmu zmk zmz zms zma zmc, (q 0, .inl (cI, 54, .inl (fun z_ => nI (bx z_)))), (t, .inl (cI, 76, .inl (fun z_ => nI ((up1 f (8 + i) (((f (8 + i)) + (f (4 + i))) % (bx (5 + i)))) z_))))] _ := hP
        have hD : va_D A [mO h q zmu zmk zmz zms zma zmc, (q 0, .inl (cI, 54, .inl (fun z_ => nI (bx z_)))), (t, .inl (cI, 76, .inl (fun z_ => nI ((up1 f (8 + i) (((f (8 + i)) + (f (4 + i))) % (bx (5 + i)))) z_))))] := hD
        refine lv_iinc (v := nI (i + 1)) (lv' := [(2, .int (nI (i + 1))), (0, .ref h), (1, .ref t)]) hx hb dX7_turns_39 hl (k := 0) rfl (n_inc _ 1) (by decide) rfl (fun ls hl => ?_)
        refine lv_goto (tgt := 2) hx hb dX7_turns_42 (by decide) ?_
        exact ih_2 (i + 1) (up1 f (8 + i) (((f (8 + i)) + (f (4 + i))) % (bx (5 + i)))) (by omega) (by rw [g1, g2, hf]; exact tuP_s bx nw i (by omega)) (by omega) _ _ hP hD hS _ (lv_sub hl [0, 1, 2] rfl)
  exact loop_2 _ 0 nw (Nat.zero_le _) (tuP_0 bx nw).symm (Nat.lt_succ_self _) _ _ hP hD hS _ (lv_sub hl [0, 1, 2] rfl)
set_option maxHeartbeats 4000000 in
set_option maxRecDepth 100000 in
theorem k_X7_hasSense {l : Launch} {D : va_G} {cI cC cB : ClassId} {h : Nat} {q : Nat → Nat} {zmu zmk zmz zms zma zmc : Nat} {bx nw : Nat → Nat} {t x : Nat} (hB : BxOk bx) (hbd : ∀ j, nw j < 100000000) (he : x < 2147483648) : MI l yX7_hasSense cX7_hasSense 6 (some .boolean) 1 D (Ty3 cI cC cB) [.ref h, .ref t, .int (nI (x))] [mO h q zmu zmk zmz zms zma zmc, (q 0, .inl (cI, 54, .inl (fun z_ => nI (bx z_)))), (t, .inl (cI, 76, .inl (fun z_ => nI (nw z_))))] (fun r u => (r = nI (b2n (senN bx nw x)) ∧ u = [mO h q zmu zmk zmz zms zma zmc, (q 0, .inl (cI, 54, .inl (fun z_ => nI (bx z_)))), (t, .inl (cI, 76, .inl (fun z_ => nI (nw z_))))])) := by
  intro sz
  refine MI.walk (by decide +kernel) (Nat.le_of_ble_eq_true rfl) ?_
  intro p e s m args below meth c A Qf hx hb hml hts hown hret hK hP hD hS hA ls hl
  have hown : s.vm.findClass RX7 = some m.cls := hown
  have hl : lv_has ls 6 [(0, .ref h), (1, .ref t), (2, .int (nI (x)))] := hl
  have hP : va_P D vwCl [mO h q zmu zmk zmz zms zma zmc, (q 0, .inl (cI, 54, .inl (fun z_ => nI (bx z_)))), (t, .inl (cI, 76, .inl (fun z_ => nI (nw z_))))] s.heap := hP
  have hD : va_D A [mO h q zmu zmk zmz zms zma zmc, (q 0, .inl (cI, 54, .inl (fun z_ => nI (bx z_)))), (t, .inl (cI, 76, .inl (fun z_ => nI (nw z_))))] := hD
  refine lv_iconst (v := nI 1) hx hb dX7_hasSense_0 (by decide) ?_
  refine lv_istore_n (lv' := [(3, .int (nI (1))), (0, .ref h), (1, .ref t), (2, .int (nI (x)))]) hx hb dX7_hasSense_1 rfl hl (by decide) rfl (fun ls hl => ?_)
  refine lv_iconst (v := nI 0) hx hb dX7_hasSense_2 (by decide) ?_
  refine lv_istore (lv' := [(4, .int (nI (0))), (3, .int (nI (1))), (0, .ref h), (1, .ref t), (2, .int (nI (x)))]) hx hb dX7_hasSense_3 hl (by decide) rfl (fun ls hl => ?_)
  have loop_5 : ∀ (N : Nat) (z : Nat) (i : Nat), (i ≤ bx 0) → (z = b2n (snsF bx nw x i)) → (bx 0 - i) < N → ∀ (H : Heap) (locs : List Loc), va_P D vwCl [mO h q zmu zmk zmz zms zma zmc, (q 0, .inl (cI, 54, .inl (fun z_ => nI (bx z_)))), (t, .inl (cI, 76, .inl (fun z_ => nI (nw z_))))] H → va_D A [mO h q zmu zmk zmz zms zma zmc, (q 0, .inl (cI, 54, .inl (fun z_ => nI (bx z_)))), (t, .inl (cI, 76, .inl (fun z_ => nI (nw z_))))] → va_S A s.heap H locs → ∀ ls : Array Slot, lv_has ls 6 [(4, .int (nI (i))), (3, .int (nI (z))), (0, .ref h), (1, .ref t), (2, .int (nI (x)))] → W p l e (rmL 1) s m args below meth c H locs 0 0 Qf (F0 m 5 ls []) := by
    intro N; induction N with
    | zero => intro z i _ _ hm; omega
    | succ N ih_5 =>
      intro z i hi hz hm H locs hP hD hS ls hl
      have hw := hB.w
      have hz1 : z ≤ 1 := by rw [hz]; exact b2n_le _
      refine lv_iload hx hb dX7_hasSense_5 (lv_at hl 0 rfl) ?_
      refine lv_aload_n hx hb dX7_hasSense_7 rfl (lv_at hl 2 rfl) ?_
      refine gf_7_7 hx hb hts hown hK hP 0 rfl rfl dX7_hasSense_8 ?_
      refine lv_iconst (v := nI 0) hx hb dX7_hasSense_11 (by decide) ?_
      refine n_iald hx hb hK hP 1 0 rfl rfl dX7_hasSense_12 (by decide) (by omega) ?_
      have hb_1 := hB.bd 0
      refine n_icmp_ge (tgt := 52) hx hb dX7_hasSense_13 (by decide) (by omega) (by omega) (fun c_2 => ?_) (fun c_2 => ?_)
      · -- 13 to 52
        refine lv_iconst (v := nI 0) hx hb dX7_hasSense_52 (by decide) ?_
        refine lv_istore (lv' := [(4, .int (nI (0))), (3, .int (nI (z))), (0, .ref h), (1, .ref t), (2, .int (nI (x)))]) hx hb dX7_hasSense_53 hl (by decide) rfl (fun ls hl => ?_)
        have loop_55 : ∀ (N : Nat) (z : Nat) (k : Nat), (k ≤ bx 2) → (z = b2n (snsF bx nw x (bx 0) && snsP bx x k)) → (bx 2 - k) < N → ∀ (H : Heap) (locs : List Loc), va_P D vwCl [mO h q zmu zmk zmz zms zma zmc, (q 0, .inl (cI, 54, .inl (fun z_ => nI (bx z_)))), (t, .inl (cI, 76, .inl (fun z_ => nI (nw z_))))] H → va_D A [mO h q zmu zmk zmz zms zma zmc, (q 0, .inl (cI, 54, .inl (fun z_ => nI (bx z_)))), (t, .inl (cI, 76, .inl (fun z_ => nI (nw z_))))] → va_S A s.heap H locs → ∀ ls : Array Slot, lv_has ls 6 [(4, .int (nI (k))), (3, .int (nI (z))), (0, .ref h), (1, .ref t), (2, .int (nI (x)))] → W p l e (rmL 1) s m args below meth c H locs 0 0 Qf (F0 m 55 ls []) := by
          intro N; induction N with
          | zero => intro z k _ _ hm; omega
          | succ N ih_55 =>
            intro z k hk hz hm H locs hP hD hS ls hl
            have hn := hB.n
            have hz1 : z ≤ 1 := by rw [hz]; exact b2n_le _
            refine lv_iload hx hb dX7_hasSense_55 (lv_at hl 0 rfl) ?_
            refine lv_aload_n hx hb dX7_hasSense_57 rfl (lv_at hl 2 rfl) ?_
            refine gf_7_7 hx hb hts hown hK hP 0 rfl rfl dX7_hasSense_58 ?_
            refine lv_iconst (v := nI 2) hx hb dX7_hasSense_61 (by decide) ?_
            refine n_iald hx hb hK hP 1 0 rfl rfl dX7_hasSense_62 (by decide) (by omega) ?_
            have hb_3 := hB.bd 2
            refine n_icmp_ge (tgt := 150) hx hb dX7_hasSense_63 (by decide) (by omega) (by omega) (fun c_4 => ?_) (fun c_4 => ?_)
            · -- 63 to 150
              refine lv_iload_n hx hb dX7_hasSense_150 rfl (lv_at hl 1 rfl) ?_
              refine hret hP hD hS dX7_hasSense_151 (by rw [hz]; exact b2n_nar _) rfl ?_
              exact ⟨by rw [hz, show k = bx 2 by omega]; rfl, rfl⟩
            · -- 63 to 66
              refine lv_aload_n hx hb dX7_hasSense_66 rfl (lv_at hl 2 rfl) ?_
              refine lv_iload_n hx hb dX7_hasSense_67 rfl (lv_at hl 4 rfl) ?_
              refine lv_aload_n hx hb dX7_hasSense_68 rfl (lv_at hl 2 rfl) ?_
              refine gf_7_7 hx hb hts hown hK hP 0 rfl rfl dX7_hasSense_69 ?_
              refine lv_bipush (v := nI 22) hx hb dX7_hasSense_72 (by decide) ?_
              refine lv_iload hx hb dX7_hasSense_74 (lv_at hl 0 rfl) ?_
              refine n_iadd hx hb dX7_hasSense_76  ?_
              refine n_iald hx hb hK hP 1 0 rfl rfl dX7_hasSense_77 (by decide) (by omega) ?_
              have hb_5 := hB.bd (22 + k)
              have hp := hB.pr k (by omega)
              refine cl_7_133 (As := [.int (nI (x)), .int (nI (bx (22 + k)))]) (rest := []) hx hb hml hts hown (k_X7_toothOf (by first | assumption | omega) (by first | assumption | omega) (by first | assumption | omega)) (by decide) ⟨Nat.zero_le _, Nat.zero_le _⟩ hK hP hD hS hA 0 rfl [0, 1] rfl (by decide) rfl hl.1 rfl (Nat.le_of_ble_eq_true rfl) dX7_hasSense_78 (fun r_6 u H locs hp_7 hP hD hS => ?_)
              obtain ⟨rfl, rfl⟩ := hp_7
              have hP : va_P D vwCl [mO h q zmu zmk zmz zms zma zmc, (q 0, .inl (cI, 54, .inl (fun z_ => nI (bx z_)))), (t, .inl (cI, 76, .inl (fun z_ => nI (nw z_))))] _ := hP
              have hD : va_D A [mO h q zmu zmk zmz zms zma zmc, (q 0, .inl (cI, 54, .inl (fun z_ => nI (bx z_)))), (t, .inl (cI, 76, .inl (fun z_ => nI (nw z_))))] := hD
              refine lv_aload_n hx hb dX7_hasSense_81 rfl (lv_at hl 2 rfl) ?_
              refine gf_7_7 hx hb hts hown hK hP 0 rfl rfl dX7_hasSense_82 ?_
              refine lv_bipush (v := nI 30) hx hb dX7_hasSense_85 (by decide) ?_
              refine lv_iload hx hb dX7_hasSense_87 (lv_at hl 0 rfl) ?_
              refine n_iadd hx hb dX7_hasSense_89  ?_
              refine n_iald hx hb hK hP 1 0 rfl rfl dX7_hasSense_90 (by decide) (by omega) ?_
              have hb_8 := hB.bd (30 + k)
              have hto := hB.too x (bx (22 + k)) hp.1
              refine n_icmp_ne (tgt := 98) hx hb dX7_hasSense_91 (by decide) (by omega) (by omega) (fun c_9 => ?_) (fun c_9 => ?_)
              · -- 91 to 98
                refine lv_iconst (v := nI 0) hx hb dX7_hasSense_98 (by decide) ?_
                refine lv_istore (lv' := [(5, .int (nI (0))), (4, .int (nI (k))), (3, .int (nI (z))), (0, .ref h), (1, .ref t), (2, .int (nI (x)))]) hx hb dX7_hasSense_99 hl (by decide) rfl (fun ls hl => ?_)
                refine lv_iload_n hx hb dX7_hasSense_101 rfl (lv_at hl 2 rfl) ?_
                refine n_if_eq (tgt := 142) hx hb dX7_hasSense_102 (by decide) (by omega) (fun c_10 => ?_) (fun c_10 => ?_)
                · -- 102 to 142
                  refine lv_iconst (v := nI 0) hx hb dX7_hasSense_142 (by decide) ?_
                  refine lv_istore_n (lv' := [(3, .int (nI (0))), (5, .int (nI (0))), (4, .int (nI (k))), (0, .ref h), (1, .ref t), (2, .int (nI (x)))]) hx hb dX7_hasSense_143 rfl hl (by decide) rfl (fun ls hl => ?_)
                  refine lv_iinc (v := nI (k + 1)) (lv' := [(4, .int (nI (k + 1))), (3, .int (nI (0))), (5, .int (nI (0))), (0, .ref h), (1, .ref t), (2, .int (nI (x)))]) hx hb dX7_hasSense_144 hl (k := 2) rfl (n_inc _ 1) (by decide) rfl (fun ls hl => ?_)
                  refine lv_goto (tgt := 55) hx hb dX7_hasSense_147 (by decide) ?_
                  exact ih_55 0 (k + 1) (by omega) (by show _ = b2n (snsF bx nw x (bx 0) && (snsP bx x k && !(decide (tooN bx x (bx (22 + k)) = bx (30 + k)) && decide (tooN bx x (bx (38 + k)) = bx (46 + k))))); rw [← Bool.and_assoc]; exact (by first | exact z_a0 hz (by assumption) | exact z_a1 (by first | exact q_n1 (by assumption) | exact q_n2 (by assumption) (by assumption)) | exact z_a2 hz (by assumption) (by first | exact q_n0 (by assumption) | exact q_n3 (by assumption) | exact q_n4 (by assumption)))) (by omega) _ _ hP hD hS _ (lv_sub hl [0, 1, 3, 4, 5] rfl)
                · -- 102 to 105
                  refine lv_iload hx hb dX7_hasSense_105 (lv_at hl 0 rfl) ?_
                  refine n_if_eq (tgt := 138) hx hb dX7_hasSense_107 (by decide) (by decide) (fun c_11 => ?_) (fun c_11 => ?_)
                  · -- 107 to 138
                    refine lv_iconst (v := nI 1) hx hb dX7_hasSense_138 (by decide) ?_
                    refine lv_goto (tgt := 143) hx hb dX7_hasSense_139 (by decide) ?_
                    refine lv_istore_n (lv' := [(3, .int (nI (1))), (5, .int (nI (0))), (4, .int (nI (k))), (0, .ref h), (1, .ref t), (2, .int (nI (x)))]) hx hb dX7_hasSense_143 rfl hl (by decide) rfl (fun ls hl => ?_)
                    refine lv_iinc (v := nI (k + 1)) (lv' := [(4, .int (nI (k + 1))), (3, .int (nI (1))), (5, .int (nI (0))), (0, .ref h), (1, .ref t), (2, .int (nI (x)))]) hx hb dX7_hasSense_144 hl (k := 2) rfl (n_inc _ 1) (by decide) rfl (fun ls hl => ?_)
                    refine lv_goto (tgt := 55) hx hb dX7_hasSense_147 (by decide) ?_
                    exact ih_55 1 (k + 1) (by omega) (by show _ = b2n (snsF bx nw x (bx 0) && (snsP bx x k && !(decide (tooN bx x (bx (22 + k)) = bx (30 + k)) && decide (tooN bx x (bx (38 + k)) = bx (46 + k))))); rw [← Bool.and_assoc]; exact (by first | exact z_a0 hz (by assumption) | exact z_a1 (by first | exact q_n1 (by assumption) | exact q_n2 (by assumption) (by assumption)) | exact z_a2 hz (by assumption) (by first | exact q_n0 (by assumption) | exact q_n3 (by assumption) | exact q_n4 (by assumption)))) (by omega) _ _ hP hD hS _ (lv_sub hl [0, 1, 3, 4, 5] rfl)
                  · omega
              · -- 91 to 94
                refine lv_iconst (v := nI 1) hx hb dX7_hasSense_94 (by decide) ?_
                refine lv_goto (tgt := 99) hx hb dX7_hasSense_95 (by decide) ?_
                refine lv_istore (lv' := [(5, .int (nI (1))), (4, .int (nI (k))), (3, .int (nI (z))), (0, .ref h), (1, .ref t), (2, .int (nI (x)))]) hx hb dX7_hasSense_99 hl (by decide) rfl (fun ls hl => ?_)
                refine lv_iload_n hx hb dX7_hasSense_101 rfl (lv_at hl 2 rfl) ?_
                refine n_if_eq (tgt := 142) hx hb dX7_hasSense_102 (by decide) (by omega) (fun c_12 => ?_) (fun c_12 => ?_)
                · -- 102 to 142
                  refine lv_iconst (v := nI 0) hx hb dX7_hasSense_142 (by decide) ?_
                  refine lv_istore_n (lv' := [(3, .int (nI (0))), (5, .int (nI (1))), (4, .int (nI (k))), (0, .ref h), (1, .ref t), (2, .int (nI (x)))]) hx hb dX7_hasSense_143 rfl hl (by decide) rfl (fun ls hl => ?_)
                  refine lv_iinc (v := nI (k + 1)) (lv' := [(4, .int (nI (k + 1))), (3, .int (nI (0))), (5, .int (nI (1))), (0, .ref h), (1, .ref t), (2, .int (nI (x)))]) hx hb dX7_hasSense_144 hl (k := 2) rfl (n_inc _ 1) (by decide) rfl (fun ls hl => ?_)
                  refine lv_goto (tgt := 55) hx hb dX7_hasSense_147 (by decide) ?_
                  exact ih_55 0 (k + 1) (by omega) (by show _ = b2n (snsF bx nw x (bx 0) && (snsP bx x k && !(decide (tooN bx x (bx (22 + k)) = bx (30 + k)) && decide (tooN bx x (bx (38 + k)) = bx (46 + k))))); rw [← Bool.and_assoc]; exact (by first | exact z_a0 hz (by assumption) | exact z_a1 (by first | exact q_n1 (by assumption) | exact q_n2 (by assumption) (by assumption)) | exact z_a2 hz (by assumption) (by first | exact q_n0 (by assumption) | exact q_n3 (by assumption) | exact q_n4 (by assumption)))) (by omega) _ _ hP hD hS _ (lv_sub hl [0, 1, 3, 4, 5] rfl)
                · -- 102 to 105
                  refine lv_iload hx hb dX7_hasSense_105 (lv_at hl 0 rfl) ?_
                  refine n_if_eq (tgt := 138) hx hb dX7_hasSense_107 (by decide) (by decide) (fun c_13 => ?_) (fun c_13 => ?_)
                  · omega
                  · -- 107 to 110
                    refine lv_aload_n hx hb dX7_hasSense_110 rfl (lv_at hl 3 rfl) ?_
                    refine lv_iload_n hx hb dX7_hasSense_111 rfl (lv_at hl 5 rfl) ?_
                    refine lv_aload_n hx hb dX7_hasSense_112 rfl (lv_at hl 3 rfl) ?_
                    refine gf_7_7 hx hb hts hown hK hP 0 rfl rfl dX7_hasSense_113 ?_
                    refine lv_bipush (v := nI 38) hx hb dX7_hasSense_116 (by decide) ?_
                    refine lv_iload hx hb dX7_hasSense_118 (lv_at hl 1 rfl) ?_
                    refine n_iadd hx hb dX7_hasSense_120  ?_
                    refine n_iald hx hb hK hP 1 0 rfl rfl dX7_hasSense_121 (by decide) (by omega) ?_
                    have hb_14 := hB.bd (38 + k)
                    have hp := hB.pr k (by omega)
                    refine cl_7_133 (As := [.int (nI (x)), .int (nI (bx (38 + k)))]) (rest := []) hx hb hml hts hown (k_X7_toothOf (by first | assumption | omega) (by first | assumption | omega) (by first | assumption | omega)) (by decide) ⟨Nat.zero_le _, Nat.zero_le _⟩ hK hP hD hS hA 0 rfl [0, 1] rfl (by decide) rfl hl.1 rfl (Nat.le_of_ble_eq_true rfl) dX7_hasSense_122 (fun r_15 u H locs hp_16 hP hD hS => ?_)
                    obtain ⟨rfl, rfl⟩ := hp_16
                    have hP : va_P D vwCl [mO h q zmu zmk zmz zms zma zmc, (q 0, .inl (cI, 54, .inl (fun z_ => nI (bx z_)))), (t, .inl (cI, 76, .inl (fun z_ => nI (nw z_))))] _ := hP
                    have hD : va_D A [mO h q zmu zmk zmz zms zma zmc, (q 0, .inl (cI, 54, .inl (fun z_ => nI (bx z_)))), (t, .inl (cI, 76, .inl (fun z_ => nI (nw z_))))] := hD
                    refine lv_aload_n hx hb dX7_hasSense_125 rfl (lv_at hl 3 rfl) ?_
                    refine gf_7_7 hx hb hts hown hK hP 0 rfl rfl dX7_hasSense_126 ?_
                    refine lv_bipush (v := nI 46) hx hb dX7_hasSense_129 (by decide) ?_
                    refine lv_iload hx hb dX7_hasSense_131 (lv_at hl 1 rfl) ?_
                    refine n_iadd hx hb dX7_hasSense_133  ?_
                    refine n_iald hx hb hK hP 1 0 rfl rfl dX7_hasSense_134 (by decide) (by omega) ?_
                    have hb_17 := hB.bd (46 + k)
                    have hto := hB.too x (bx (38 + k)) hp.2.2.1
                    refine n_icmp_eq (tgt := 142) hx hb dX7_hasSense_135 (by decide) (by omega) (by omega) (fun c_18 => ?_) (fun c_18 => ?_)
                    · -- 135 to 142
                      refine lv_iconst (v := nI 0) hx hb dX7_hasSense_142 (by decide) ?_
                      refine lv_istore_n (lv' := [(3, .int (nI (0))), (5, .int (nI (1))), (4, .int (nI (k))), (0, .ref h), (1, .ref t), (2, .int (nI (x)))]) hx hb dX7_hasSense_143 rfl hl (by decide) rfl (fun ls hl => ?_)
                      refine lv_iinc (v := nI (k + 1)) (lv' := [(4, .int (nI (k + 1))), (3, .int (nI (0))), (5, .int (nI (1))), (0, .ref h), (1, .ref t), (2, .int (nI (x)))]) hx hb dX7_hasSense_144 hl (k := 2) rfl (n_inc _ 1) (by decide) rfl (fun ls hl => ?_)
                      refine lv_goto (tgt := 55) hx hb dX7_hasSense_147 (by decide) ?_
                      exact ih_55 0 (k + 1) (by omega) (by show _ = b2n (snsF bx nw x (bx 0) && (snsP bx x k && !(decide (tooN bx x (bx (22 + k)) = bx (30 + k)) && decide (tooN bx x (bx (38 + k)) = bx (46 + k))))); rw [← Bool.and_assoc]; exact (by first | exact z_a0 hz (by assumption) | exact z_a1 (by first | exact q_n1 (by assumption) | exact q_n2 (by assumption) (by assumption)) | exact z_a2 hz (by assumption) (by first | exact q_n0 (by assumption) | exact q_n3 (by assumption) | exact q_n4 (by assumption)))) (by omega) _ _ hP hD hS _ (lv_sub hl [0, 1, 3, 4, 5] rfl)
                    · -- 135 to 138
                      refine lv_iconst (v := nI 1) hx hb dX7_hasSense_138 (by decide) ?_
                      refine lv_goto (tgt := 143) hx hb dX7_hasSense_139 (by decide) ?_
                      refine lv_istore_n (lv' := [(3, .int (nI (1))), (5, .int (nI (1))), (4, .int (nI (k))), (0, .ref h), (1, .ref t), (2, .int (nI (x)))]) hx hb dX7_hasSense_143 rfl hl (by decide) rfl (fun ls hl => ?_)
                      refine lv_iinc (v := nI (k + 1)) (lv' := [(4, .int (nI (k + 1))), (3, .int (nI (1))), (5, .int (nI (1))), (0, .ref h), (1, .ref t), (2, .int (nI (x)))]) hx hb dX7_hasSense_144 hl (k := 2) rfl (n_inc _ 1) (by decide) rfl (fun ls hl => ?_)
                      refine lv_goto (tgt := 55) hx hb dX7_hasSense_147 (by decide) ?_
                      exact ih_55 1 (k + 1) (by omega) (by show _ = b2n (snsF bx nw x (bx 0) && (snsP bx x k && !(decide (tooN bx x (bx (22 + k)) = bx (30 + k)) && decide (tooN bx x (bx (38 + k)) = bx (46 + k))))); rw [← Bool.and_assoc]; exact (by first | exact z_a0 hz (by assumption) | exact z_a1 (by first | exact q_n1 (by assumption) | exact q_n2 (by assumption) (by assumption)) | exact z_a2 hz (by assumption) (by first | exact q_n0 (by assumption) | exact q_n3 (by assumption) | exact q_n4 (by assumption)))) (by omega) _ _ hP hD hS _ (lv_sub hl [0, 1, 3, 4, 5] rfl)
        exact loop_55 _ z 0 (Nat.zero_le _) (by rw [hz, show i = bx 0 by omega]; simp [snsP]) (Nat.lt_succ_self _) _ _ hP hD hS _ (lv_sub hl [0, 1, 2, 3, 4] rfl)
      · -- 13 to 16
        refine lv_iload_n hx hb dX7_hasSense_16 rfl (lv_at hl 1 rfl) ?_
        refine n_if_eq (tgt := 44) hx hb dX7_hasSense_17 (by decide) (by omega) (fun c_19 => ?_) (fun c_19 => ?_)
        · -- 17 to 44
          refine lv_iconst (v := nI 0) hx hb dX7_hasSense_44 (by decide) ?_
          refine lv_istore_n (lv' := [(3, .int (nI (0))), (4, .int (nI (i))), (0, .ref h), (1, .ref t), (2, .int (nI (x)))]) hx hb dX7_hasSense_45 rfl hl (by decide) rfl (fun ls hl => ?_)
          refine lv_iinc (v := nI (i + 1)) (lv' := [(4, .int (nI (i + 1))), (3, .int (nI (0))), (0, .ref h), (1, .ref t), (2, .int (nI (x)))]) hx hb dX7_hasSense_46 hl (k := 1) rfl (n_inc _ 1) (by decide) rfl (fun ls hl => ?_)
          refine lv_goto (tgt := 5) hx hb dX7_hasSense_49 (by decide) ?_
          exact ih_5 0 (i + 1) (by omega) (by first | exact z_a0 hz (by assumption) | exact z_a1 (by first | exact q_n1 (by assumption) | exact q_n2 (by assumption) (by assumption)) | exact z_a2 hz (by assumption) (by first | exact q_n0 (by assumption) | exact q_n3 (by assumption) | exact q_n4 (by assumption))) (by omega) _ _ hP hD hS _ (lv_sub hl [0, 1, 2, 3, 4] rfl)
        · -- 17 to 20
          refine lv_aload_n hx hb dX7_hasSense_20 rfl (lv_at hl 3 rfl) ?_
          refine lv_bipush (v := nI 12) hx hb dX7_hasSense_21 (by decide) ?_
          refine lv_iload hx hb dX7_hasSense_23 (lv_at hl 0 rfl) ?_
          refine n_iadd hx hb dX7_hasSense_25  ?_
          refine n_iald hx hb hK hP 2 0 rfl rfl dX7_hasSense_26 (by decide) (by omega) ?_
          have hb_20 := hbd (12 + i)
          refine lv_aload_n hx hb dX7_hasSense_27 rfl (lv_at hl 2 rfl) ?_
          refine lv_iload_n hx hb dX7_hasSense_28 rfl (lv_at hl 4 rfl) ?_
          refine lv_iload hx hb dX7_hasSense_29 (lv_at hl 0 rfl) ?_
          have ht := hB.t i (by omega)
          refine cl_7_133 (As := [.int (nI (x)), .int (nI (i))]) (rest := [.int (nI (nw (12 + i)))]) hx hb hml hts hown (k_X7_toothOf (by first | assumption | omega) (by first | assumption | omega) (by first | assumption | omega)) (by decide) ⟨Nat.zero_le _, Nat.zero_le _⟩ hK hP hD hS hA 0 rfl [0, 1] rfl (by decide) rfl hl.1 rfl (Nat.le_of_ble_eq_true rfl) dX7_hasSense_31 (fun r_21 u H locs hp_22 hP hD hS => ?_)
          obtain ⟨rfl, rfl⟩ := hp_22
          have hP : va_P D vwCl [mO h q zmu zmk zmz zms zma zmc, (q 0, .inl (cI, 54, .inl (fun z_ => nI (bx z_)))), (t, .inl (cI, 76, .inl (fun z_ => nI (nw z_))))] _ := hP
          have hD : va_D A [mO h q zmu zmk zmz zms zma zmc, (q 0, .inl (cI, 54, .inl (fun z_ => nI (bx z_)))), (t, .inl (cI, 76, .inl (fun z_ => nI (nw z_))))] := hD
          have hto : tooN bx x i < bx (5 + i) := Nat.mod_lt _ (by omega)
          refine cl_7_137 (As := [.int (nI (nw (12 + i))), .int (nI (tooN bx x i))]) (rest := []) hx hb hml hts hown (k_X7_has (by first | assumption | omega) (by first | assumption | omega)) (by decide) ⟨Nat.zero_le _, Nat.zero_le _⟩ hK hP hD hS hA [] rfl (by decide) rfl hl.1 rfl (Nat.le_of_ble_eq_true rfl) dX7_hasSense_34 (fun r_23 u H locs hp_24 hP hD hS => ?_)
          obtain ⟨rfl, rfl⟩ := hp_24
          have hP : va_P D vwCl [mO h q zmu zmk zmz zms zma zmc, (q 0, .inl (cI, 54, .inl (fun z_ => nI (bx z_)))), (t, .inl (cI, 76, .inl (fun z_ => nI (nw z_))))] _ := hP
          have hD : va_D A [mO h q zmu zmk zmz zms zma zmc, (q 0, .inl (cI, 54, .inl (fun z_ => nI (bx z_)))), (t, .inl (cI, 76, .inl (fun z_ => nI (nw z_))))] := hD
          refine n_ifb_ne (tgt := 44) hx hb dX7_hasSense_37 (by decide) (fun c_25 => ?_) (fun c_25 => ?_)
          · -- 37 to 44
            refine lv_iconst (v := nI 0) hx hb dX7_hasSense_44 (by decide) ?_
            refine lv_istore_n (lv' := [(3, .int (nI (0))), (4, .int (nI (i))), (0, .ref h), (1, .ref t), (2, .int (nI (x)))]) hx hb dX7_hasSense_45 rfl hl (by decide) rfl (fun ls hl => ?_)
            refine lv_iinc (v := nI (i + 1)) (lv' := [(4, .int (nI (i + 1))), (3, .int (nI (0))), (0, .ref h), (1, .ref t), (2, .int (nI (x)))]) hx hb dX7_hasSense_46 hl (k := 1) rfl (n_inc _ 1) (by decide) rfl (fun ls hl => ?_)
            refine lv_goto (tgt := 5) hx hb dX7_hasSense_49 (by decide) ?_
            exact ih_5 0 (i + 1) (by omega) (by first | exact z_a0 hz (by assumption) | exact z_a1 (by first | exact q_n1 (by assumption) | exact q_n2 (by assumption) (by assumption)) | exact z_a2 hz (by assumption) (by first | exact q_n0 (by assumption) | exact q_n3 (by assumption) | exact q_n4 (by assumption))) (by omega) _ _ hP hD hS _ (lv_sub hl [0, 1, 2, 3, 4] rfl)
          · -- 37 to 40
            refine lv_iconst (v := nI 1) hx hb dX7_hasSense_40 (by decide) ?_
            refine lv_goto (tgt := 45) hx hb dX7_hasSense_41 (by decide) ?_
            refine lv_istore_n (lv' := [(3, .int (nI (1))), (4, .int (nI (i))), (0, .ref h), (1, .ref t), (2, .int (nI (x)))]) hx hb dX7_hasSense_45 rfl hl (by decide) rfl (fun ls hl => ?_)
            refine lv_iinc (v := nI (i + 1)) (lv' := [(4, .int (nI (i + 1))), (3, .int (nI (1))), (0, .ref h), (1, .ref t), (2, .int (nI (x)))]) hx hb dX7_hasSense_46 hl (k := 1) rfl (n_inc _ 1) (by decide) rfl (fun ls hl => ?_)
            refine lv_goto (tgt := 5) hx hb dX7_hasSense_49 (by decide) ?_
            exact ih_5 1 (i + 1) (by omega) (by first | exact z_a0 hz (by assumption) | exact z_a1 (by first | exact q_n1 (by assumption) | exact q_n2 (by assumption) (by assumption)) | exact z_a2 hz (by assumption) (by first | exact q_n0 (by assumption) | exact q_n3 (by assumption) | exact q_n4 (by assumption))) (by omega) _ _ hP hD hS _ (lv_sub hl [0, 1, 2, 3, 4] rfl)
  exact loop_5 _ 1 0 (Nat.zero_le _) rfl (Nat.lt_succ_self _) _ _ hP hD hS _ (lv_sub hl [0, 1, 2, 3, 4] rfl)
set_option maxHeartbeats 4000000 in
set_option maxRecDepth 100000 in
theorem k_X7_talksOf {l : Launch} {D : va_G} {cI cC cB : ClassId} {h : Nat} {q : Nat → Nat} {zmu zmk zmz zms zma zmc : Nat} {bx : Nat → Nat} {y : Nat} (hB : BxOk bx) (hy : y < bx 1) : MI l yX7_talksOf cX7_talksOf 4 (some .int) 1 D (Ty3 cI cC cB) [.ref h, .int (nI (y))] [mO h q zmu zmk zmz zms zma zmc, (q 0, .inl (cI, 54, .inl (fun z_ => nI (bx z_))))] (fun r u => (r = nI (tkN bx y (bx 1)) ∧ u = [mO h q zmu zmk zmz zms zma zmc, (q 0, .inl (cI, 54, .inl (fun z_ => nI (bx z_))))])) := by
  intro sz
  refine MI.walk (by decide +kernel) (Nat.le_of_ble_eq_true rfl) ?_
  intro p e s m args below meth c A Qf hx hb hml hts hown hret hK hP hD hS hA ls hl
  have hown : s.vm.findClass RX7 = some m.cls := hown
  have hl : lv_has ls 4 [(0, .ref h), (1, .int (nI (y)))] := hl
  have hP : va_P D vwCl [mO h q zmu zmk zmz zms zma zmc, (q 0, .inl (cI, 54, .inl (fun z_ => nI (bx z_))))] s.heap := hP
  have hD : va_D A [mO h q zmu zmk zmz zms zma zmc, (q 0, .inl (cI, 54, .inl (fun z_ => nI (bx z_))))] := hD
  refine lv_iconst (v := nI 0) hx hb dX7_talksOf_0 (by decide) ?_
  refine lv_istore_n (lv' := [(2, .int (nI (0))), (0, .ref h), (1, .int (nI (y)))]) hx hb dX7_talksOf_1 rfl hl (by decide) rfl (fun ls hl => ?_)
  refine lv_iconst (v := nI 0) hx hb dX7_talksOf_2 (by decide) ?_
  refine lv_istore_n (lv' := [(3, .int (nI (0))), (2, .int (nI (0))), (0, .ref h), (1, .int (nI (y)))]) hx hb dX7_talksOf_3 rfl hl (by decide) rfl (fun ls hl => ?_)
  have loop_4 : ∀ (N : Nat) (v : Nat) (k : Nat), (k ≤ bx 1) → (v = tkN bx y k) → (bx 1 - k) < N → ∀ (H : Heap) (locs : List Loc), va_P D vwCl [mO h q zmu zmk zmz zms zma zmc, (q 0, .inl (cI, 54, .inl (fun z_ => nI (bx z_))))] H → va_D A [mO h q zmu zmk zmz zms zma zmc, (q 0, .inl (cI, 54, .inl (fun z_ => nI (bx z_))))] → va_S A s.heap H locs → ∀ ls : Array Slot, lv_has ls 4 [(3, .int (nI (k))), (2, .int (nI (v))), (0, .ref h), (1, .int (nI (y)))] → W p l e (rmL 1) s m args below meth c H locs 0 0 Qf (F0 m 4 ls []) := by
    intro N; induction N with
    | zero => intro v k _ _ hm; omega
    | succ N ih_4 =>
      intro v k hk hv hm H locs hP hD hS ls hl
      have hn := hB.n
      refine lv_iload_n hx hb dX7_talksOf_4 rfl (lv_at hl 0 rfl) ?_
      refine lv_aload_n hx hb dX7_talksOf_5 rfl (lv_at hl 2 rfl) ?_
      refine gf_7_7 hx hb hts hown hK hP 0 rfl rfl dX7_talksOf_6 ?_
      refine lv_iconst (v := nI 1) hx hb dX7_talksOf_9 (by decide) ?_
      refine n_iald hx hb hK hP 1 0 rfl rfl dX7_talksOf_10 (by decide) (by omega) ?_
      have hb_1 := hB.bd 1
      refine n_icmp_ge (tgt := 67) hx hb dX7_talksOf_11 (by decide) (by omega) (by omega) (fun c_2 => ?_) (fun c_2 => ?_)
      · -- 11 to 67
        refine lv_iload_n hx hb dX7_talksOf_67 rfl (lv_at hl 1 rfl) ?_
        refine hret hP hD hS dX7_talksOf_68 rfl rfl ?_
        exact ⟨by rw [hv, show k = bx 1 by omega], rfl⟩
      · -- 11 to 14
        refine lv_iload_n hx hb dX7_talksOf_14 rfl (lv_at hl 1 rfl) ?_
        refine lv_iload_n hx hb dX7_talksOf_15 rfl (lv_at hl 0 rfl) ?_
        refine lv_iload_n hx hb dX7_talksOf_16 rfl (lv_at hl 3 rfl) ?_
        refine n_icmp_eq (tgt := 58) hx hb dX7_talksOf_17 (by decide) (by omega) (by omega) (fun c_3 => ?_) (fun c_3 => ?_)
        · -- 17 to 58
          refine lv_iconst (v := nI 0) hx hb dX7_talksOf_58 (by decide) ?_
          refine n_ior hx hb dX7_talksOf_59  ?_
          refine lv_istore_n (lv' := [(2, .int (nI (v ||| 0))), (3, .int (nI (k))), (0, .ref h), (1, .int (nI (y)))]) hx hb dX7_talksOf_60 rfl hl (by decide) rfl (fun ls hl => ?_)
          refine lv_iinc (v := nI (k + 1)) (lv' := [(3, .int (nI (k + 1))), (2, .int (nI (v ||| 0))), (0, .ref h), (1, .int (nI (y)))]) hx hb dX7_talksOf_61 hl (k := 1) rfl (n_inc _ 1) (by decide) rfl (fun ls hl => ?_)
          refine lv_goto (tgt := 4) hx hb dX7_talksOf_64 (by decide) ?_
          exact ih_4 (v ||| 0) (k + 1) (by omega) (by rw [hv]; first | exact tk_t1 (by assumption) (by assumption) | exact tk_t2 (by assumption) (by assumption) | exact tk_f1 (by omega) | exact tk_f2 (by assumption) (by assumption)) (by omega) _ _ hP hD hS _ (lv_sub hl [0, 1, 2, 3] rfl)
        · -- 17 to 20
          refine lv_aload_n hx hb dX7_talksOf_20 rfl (lv_at hl 2 rfl) ?_
          refine gf_7_7 hx hb hts hown hK hP 0 rfl rfl dX7_talksOf_21 ?_
          refine lv_bipush (v := nI 17) hx hb dX7_talksOf_24 (by decide) ?_
          refine lv_iload_n hx hb dX7_talksOf_26 rfl (lv_at hl 3 rfl) ?_
          refine n_iadd hx hb dX7_talksOf_27  ?_
          refine n_iald hx hb hK hP 1 0 rfl rfl dX7_talksOf_28 (by decide) (by omega) ?_
          have hb_4 := hB.bd (17 + y)
          refine lv_iload_n hx hb dX7_talksOf_29 rfl (lv_at hl 0 rfl) ?_
          refine cl_7_137 (As := [.int (nI (bx (17 + y))), .int (nI (k))]) (rest := [.int (nI (v))]) hx hb hml hts hown (k_X7_has (by first | assumption | omega) (by first | assumption | omega)) (by decide) ⟨Nat.zero_le _, Nat.zero_le _⟩ hK hP hD hS hA [] rfl (by decide) rfl hl.1 rfl (Nat.le_of_ble_eq_true rfl) dX7_talksOf_30 (fun r_5 u H locs hp_6 hP hD hS => ?_)
          obtain ⟨rfl, rfl⟩ := hp_6
          have hP : va_P D vwCl [mO h q zmu zmk zmz zms zma zmc, (q 0, .inl (cI, 54, .inl (fun z_ => nI (bx z_))))] _ := hP
          have hD : va_D A [mO h q zmu zmk zmz zms zma zmc, (q 0, .inl (cI, 54, .inl (fun z_ => nI (bx z_))))] := hD
          refine n_ifb_ne (tgt := 52) hx hb dX7_talksOf_33 (by decide) (fun c_7 => ?_) (fun c_7 => ?_)
          · -- 33 to 52
            refine lv_iconst (v := nI 1) hx hb dX7_talksOf_52 (by decide) ?_
            refine lv_iload_n hx hb dX7_talksOf_53 rfl (lv_at hl 0 rfl) ?_
            refine n_ishl hx hb dX7_talksOf_54 (by omega) ?_
            refine lv_goto (tgt := 59) hx hb dX7_talksOf_55 (by decide) ?_
            refine n_ior hx hb dX7_talksOf_59  ?_
            refine lv_istore_n (lv' := [(2, .int (nI (v ||| (1 * 2 ^ k)))), (3, .int (nI (k))), (0, .ref h), (1, .int (nI (y)))]) hx hb dX7_talksOf_60 rfl hl (by decide) rfl (fun ls hl => ?_)
            refine lv_iinc (v := nI (k + 1)) (lv' := [(3, .int (nI (k + 1))), (2, .int (nI (v ||| (1 * 2 ^ k)))), (0, .ref h), (1, .int (nI (y)))]) hx hb dX7_talksOf_61 hl (k := 1) rfl (n_inc _ 1) (by decide) rfl (fun ls hl => ?_)
            refine lv_goto (tgt := 4) hx hb dX7_talksOf_64 (by decide) ?_
            exact ih_4 (v ||| (1 * 2 ^ k)) (k + 1) (by omega) (by rw [hv]; first | exact tk_t1 (by assumption) (by assumption) | exact tk_t2 (by assumption) (by assumption) | exact tk_f1 (by omega) | exact tk_f2 (by assumption) (by assumption)) (by omega) _ _ hP hD hS _ (lv_sub hl [0, 1, 2, 3] rfl)
          · -- 33 to 36
            refine lv_aload_n hx hb dX7_talksOf_36 rfl (lv_at hl 2 rfl) ?_
            refine gf_7_7 hx hb hts hown hK hP 0 rfl rfl dX7_talksOf_37 ?_
            refine lv_bipush (v := nI 17) hx hb dX7_talksOf_40 (by decide) ?_
            refine lv_iload_n hx hb dX7_talksOf_42 rfl (lv_at hl 0 rfl) ?_
            refine n_iadd hx hb dX7_talksOf_43  ?_
            refine n_iald hx hb hK hP 1 0 rfl rfl dX7_talksOf_44 (by decide) (by omega) ?_
            have hb_8 := hB.bd (17 + k)
            refine lv_iload_n hx hb dX7_talksOf_45 rfl (lv_at hl 3 rfl) ?_
            refine cl_7_137 (As := [.int (nI (bx (17 + k))), .int (nI (y))]) (rest := [.int (nI (v))]) hx hb hml hts hown (k_X7_has (by first | assumption | omega) (by first | assumption | omega)) (by decide) ⟨Nat.zero_le _, Nat.zero_le _⟩ hK hP hD hS hA [] rfl (by decide) rfl hl.1 rfl (Nat.le_of_ble_eq_true rfl) dX7_talksOf_46 (fun r_9 u H locs hp_10 hP hD hS => ?_)
            obtain ⟨rfl, rfl⟩ := hp_10
            have hP : va_P D vwCl [mO h q zmu zmk zmz zms zma zmc, (q 0, .inl (cI, 54, .inl (fun z_ => nI (bx z_))))] _ := hP
            have hD : va_D A [mO h q zmu zmk zmz zms zma zmc, (q 0, .inl (cI, 54, .inl (fun z_ => nI (bx z_))))] := hD
            refine n_ifb_eq (tgt := 58) hx hb dX7_talksOf_49 (by decide) (fun c_11 => ?_) (fun c_11 => ?_)
            · -- 49 to 58
              refine lv_iconst (v := nI 0) hx hb dX7_talksOf_58 (by decide) ?_
              refine n_ior hx hb dX7_talksOf_59  ?_
              refine lv_istore_n (lv' := [(2, .int (nI (v ||| 0))), (3, .int (nI (k))), (0, .ref h), (1, .int (nI (y)))]) hx hb dX7_talksOf_60 rfl hl (by decide) rfl (fun ls hl => ?_)
              refine lv_iinc (v := nI (k + 1)) (lv' := [(3, .int (nI (k + 1))), (2, .int (nI (v ||| 0))), (0, .ref h), (1, .int (nI (y)))]) hx hb dX7_talksOf_61 hl (k := 1) rfl (n_inc _ 1) (by decide) rfl (fun ls hl => ?_)
              refine lv_goto (tgt := 4) hx hb dX7_talksOf_64 (by decide) ?_
              exact ih_4 (v ||| 0) (k + 1) (by omega) (by rw [hv]; first | exact tk_t1 (by assumption) (by assumption) | exact tk_t2 (by assumption) (by assumption) | exact tk_f1 (by omega) | exact tk_f2 (by assumption) (by assumption)) (by omega) _ _ hP hD hS _ (lv_sub hl [0, 1, 2, 3] rfl)
            · -- 49 to 52
              refine lv_iconst (v := nI 1) hx hb dX7_talksOf_52 (by decide) ?_
              refine lv_iload_n hx hb dX7_talksOf_53 rfl (lv_at hl 0 rfl) ?_
              refine n_ishl hx hb dX7_talksOf_54 (by omega) ?_
              refine lv_goto (tgt := 59) hx hb dX7_talksOf_55 (by decide) ?_
              refine n_ior hx hb dX7_talksOf_59  ?_
              refine lv_istore_n (lv' := [(2, .int (nI (v ||| (1 * 2 ^ k)))), (3, .int (nI (k))), (0, .ref h), (1, .int (nI (y)))]) hx hb dX7_talksOf_60 rfl hl (by decide) rfl (fun ls hl => ?_)
              refine lv_iinc (v := nI (k + 1)) (lv' := [(3, .int (nI (k + 1))), (2, .int (nI (v ||| (1 * 2 ^ k)))), (0, .ref h), (1, .int (nI (y)))]) hx hb dX7_talksOf_61 hl (k := 1) rfl (n_inc _ 1) (by decide) rfl (fun ls hl => ?_)
              refine lv_goto (tgt := 4) hx hb dX7_talksOf_64 (by decide) ?_
              exact ih_4 (v ||| (1 * 2 ^ k)) (k + 1) (by omega) (by rw [hv]; first | exact tk_t1 (by assumption) (by assumption) | exact tk_t2 (by assumption) (by assumption) | exact tk_f1 (by omega) | exact tk_f2 (by assumption) (by assumption)) (by omega) _ _ hP hD hS _ (lv_sub hl [0, 1, 2, 3] rfl)
  exact loop_4 _ 0 0 (Nat.zero_le _) rfl (Nat.lt_succ_self _) _ _ hP hD hS _ (lv_sub hl [0, 1, 2, 3] rfl)
set_option maxHeartbeats 4000000 in
set_option maxRecDepth 100000 in
theorem k_X7_isStale {l : Launch} {D : va_G} {cI cC cB : ClassId} {h : Nat} {q : Nat → Nat} {zmu zmk zmz zms zma zmc : Nat} {bx nw : Nat → Nat} {t x y : Nat} (hB : BxOk bx) (hN : HdOk bx nw) (hy : y < bx 1) (he : x < 2147483648) : MI l yX7_isStale cX7_isStale 7 (some .boolean) 2 D (Ty3 cI cC cB) [.ref h, .ref t, .int (nI (x)), .int (nI (y))] [mO h q zmu zmk zmz zms zma zmc, (q 0, .inl (cI, 54, .inl (fun z_ => nI (bx z_)))), (t, .inl (cI, 76, .inl (fun z_ => nI (nw z_))))] (fun r u => (r = nI (b2n (staN bx nw x y (nw 2))) ∧ u = [mO h q zmu zmk zmz zms zma zmc, (q 0, .inl (cI, 54, .inl (fun z_ => nI (bx z_)))), (t, .inl (cI, 76, .inl (fun z_ => nI (nw z_))))])) := by
  intro sz
  refine MI.walk (by decide +kernel) (Nat.le_of_ble_eq_true rfl) ?_
  intro p e s m args below meth c A Qf hx hb hml hts hown hret hK hP hD hS hA ls hl
  have hown : s.vm.findClass RX7 = some m.cls := hown
  have hl : lv_has ls 7 [(0, .ref h), (1, .ref t), (2, .int (nI (x))), (3, .int (nI (y)))] := hl
  have hP : va_P D vwCl [mO h q zmu zmk zmz zms zma zmc, (q 0, .inl (cI, 54, .inl (fun z_ => nI (bx z_)))), (t, .inl (cI, 76, .inl (fun z_ => nI (nw z_))))] s.heap := hP
  have hD : va_D A [mO h q zmu zmk zmz zms zma zmc, (q 0, .inl (cI, 54, .inl (fun z_ => nI (bx z_)))), (t, .inl (cI, 76, .inl (fun z_ => nI (nw z_))))] := hD
  have hn := hB.n
  have h12 := hN.h
  refine lv_aload_n hx hb dX7_isStale_0 rfl (lv_at hl 0 rfl) ?_
  refine lv_iload_n hx hb dX7_isStale_1 rfl (lv_at hl 3 rfl) ?_
  refine cl_7_140 (As := [.int (nI (y))]) (rest := []) hx hb hml hts hown (k_X7_talksOf (by first | assumption | omega) (by first | assumption | omega)) (by decide) ⟨Nat.zero_le _, Nat.zero_le _⟩ hK hP hD hS hA 0 rfl [0, 1] rfl (by decide) rfl hl.1 rfl (Nat.le_of_ble_eq_true rfl) dX7_isStale_2 (fun r_1 u H locs hp_2 hP hD hS => ?_)
  obtain ⟨rfl, rfl⟩ := hp_2
  have hP : va_P D vwCl [mO h q zmu zmk zmz zms zma zmc, (q 0, .inl (cI, 54, .inl (fun z_ => nI (bx z_)))), (t, .inl (cI, 76, .inl (fun z_ => nI (nw z_))))] _ := hP
  have hD : va_D A [mO h q zmu zmk zmz zms zma zmc, (q 0, .inl (cI, 54, .inl (fun z_ => nI (bx z_)))), (t, .inl (cI, 76, .inl (fun z_ => nI (nw z_))))] := hD
  have htk : tkN bx y (bx 1) ||| 1 * 2 ^ y < 32 := th_lt hB hy
  refine lv_iconst (v := nI 1) hx hb dX7_isStale_5 (by decide) ?_
  refine lv_iload_n hx hb dX7_isStale_6 rfl (lv_at hl 3 rfl) ?_
  refine n_ishl hx hb dX7_isStale_7 (by omega) ?_
  refine n_ior hx hb dX7_isStale_8  ?_
  refine lv_istore (lv' := [(4, .int (nI ((tkN bx y (bx 1)) ||| (1 * 2 ^ y)))), (0, .ref h), (1, .ref t), (2, .int (nI (x))), (3, .int (nI (y)))]) hx hb dX7_isStale_9 hl (by decide) rfl (fun ls hl => ?_)
  refine lv_iconst (v := nI 0) hx hb dX7_isStale_11 (by decide) ?_
  refine lv_istore (lv' := [(5, .int (nI (0))), (4, .int (nI ((tkN bx y (bx 1)) ||| (1 * 2 ^ y)))), (0, .ref h), (1, .ref t), (2, .int (nI (x))), (3, .int (nI (y)))]) hx hb dX7_isStale_12 hl (by decide) rfl (fun ls hl => ?_)
  refine lv_iconst (v := nI 0) hx hb dX7_isStale_14 (by decide) ?_
  refine lv_istore (lv' := [(6, .int (nI (0))), (5, .int (nI (0))), (4, .int (nI ((tkN bx y (bx 1)) ||| (1 * 2 ^ y)))), (0, .ref h), (1, .ref t), (2, .int (nI (x))), (3, .int (nI (y)))]) hx hb dX7_isStale_15 hl (by decide) rfl (fun ls hl => ?_)
  have loop_17 : ∀ (N : Nat) (z : Nat) (i : Nat), (i ≤ nw 2) → (z = b2n (staN bx nw x y i)) → (nw 2 - i) < N → ∀ (H : Heap) (locs : List Loc), va_P D vwCl [mO h q zmu zmk zmz zms zma zmc, (q 0, .inl (cI, 54, .inl (fun z_ => nI (bx z_)))), (t, .inl (cI, 76, .inl (fun z_ => nI (nw z_))))] H → va_D A [mO h q zmu zmk zmz zms zma zmc, (q 0, .inl (cI, 54, .inl (fun z_ => nI (bx z_)))), (t, .inl (cI, 76, .inl (fun z_ => nI (nw z_))))] → va_S A s.heap H locs → ∀ ls : Array Slot, lv_has ls 7 [(6, .int (nI (i))), (5, .int (nI (z))), (4, .int (nI ((tkN bx y (bx 1)) ||| (1 * 2 ^ y)))), (0, .ref h), (1, .ref t), (2, .int (nI (x))), (3, .int (nI (y)))] → W p l e (rmL 2) s m args below meth c H locs 0 0 Qf (F0 m 17 ls []) := by
    intro N; induction N with
    | zero => intro z i _ _ hm; omega
    | succ N ih_17 =>
      intro z i hi hz hm H locs hP hD hS ls hl
      have hz1 : z ≤ 1 := by rw [hz]; exact b2n_le _
      refine lv_iload hx hb dX7_isStale_17 (lv_at hl 0 rfl) ?_
      refine lv_aload_n hx hb dX7_isStale_19 rfl (lv_at hl 4 rfl) ?_
      refine lv_iconst (v := nI 2) hx hb dX7_isStale_20 (by decide) ?_
      refine n_iald hx hb hK hP 2 0 rfl rfl dX7_isStale_21 (by decide) (by omega) ?_
      have hb_3 := hN.bd 2
      refine n_icmp_ge (tgt := 69) hx hb dX7_isStale_22 (by decide) (by omega) (by omega) (fun c_4 => ?_) (fun c_4 => ?_)
      · -- 22 to 69
        refine lv_iload hx hb dX7_isStale_69 (lv_at hl 1 rfl) ?_
        refine hret hP hD hS dX7_isStale_71 (by rw [hz]; exact b2n_nar _) rfl ?_
        exact ⟨by rw [hz, show i = nw 2 by omega], rfl⟩
      · -- 22 to 25
        refine lv_iload hx hb dX7_isStale_25 (lv_at hl 1 rfl) ?_
        refine n_if_ne (tgt := 56) hx hb dX7_isStale_27 (by decide) (by omega) (fun c_5 => ?_) (fun c_5 => ?_)
        · -- 27 to 56
          refine lv_iconst (v := nI 1) hx hb dX7_isStale_56 (by decide) ?_
          refine lv_goto (tgt := 61) hx hb dX7_isStale_57 (by decide) ?_
          refine lv_istore (lv' := [(5, .int (nI (1))), (6, .int (nI (i))), (4, .int (nI ((tkN bx y (bx 1)) ||| (1 * 2 ^ y)))), (0, .ref h), (1, .ref t), (2, .int (nI (x))), (3, .int (nI (y)))]) hx hb dX7_isStale_61 hl (by decide) rfl (fun ls hl => ?_)
          refine lv_iinc (v := nI (i + 1)) (lv' := [(6, .int (nI (i + 1))), (5, .int (nI (1))), (4, .int (nI ((tkN bx y (bx 1)) ||| (1 * 2 ^ y)))), (0, .ref h), (1, .ref t), (2, .int (nI (x))), (3, .int (nI (y)))]) hx hb dX7_isStale_63 hl (k := 1) rfl (n_inc _ 1) (by decide) rfl (fun ls hl => ?_)
          refine lv_goto (tgt := 17) hx hb dX7_isStale_66 (by decide) ?_
          exact ih_17 1 (i + 1) (by omega) (by first | exact z_o1 hz (by assumption) | exact z_o2 (by first | exact q_t (by assumption) (by assumption) | exact q_t3 (by assumption) (by assumption) (by assumption) (by assumption)) | exact z_o0 hz (by assumption) (by first | exact q_f1 (by assumption) | exact q_f2 (by assumption) | exact q_g1 (by assumption) | exact q_g2 (by assumption) | exact q_g3 (by assumption) | exact q_g4 (by assumption))) (by omega) _ _ hP hD hS _ (lv_sub hl [0, 1, 2, 3, 4, 5, 6] rfl)
        · -- 27 to 30
          refine lv_aload_n hx hb dX7_isStale_30 rfl (lv_at hl 4 rfl) ?_
          refine lv_bipush (v := nI 16) hx hb dX7_isStale_31 (by decide) ?_
          refine lv_iload hx hb dX7_isStale_33 (lv_at hl 0 rfl) ?_
          refine n_iadd hx hb dX7_isStale_35  ?_
          refine n_iald hx hb hK hP 2 0 rfl rfl dX7_isStale_36 (by decide) (by omega) ?_
          have hb_6 := hN.bd (16 + i)
          refine lv_iload_n hx hb dX7_isStale_37 rfl (lv_at hl 5 rfl) ?_
          refine n_icmp_ne (tgt := 60) hx hb dX7_isStale_38 (by decide) (by omega) (by omega) (fun c_7 => ?_) (fun c_7 => ?_)
          · -- 38 to 60
            refine lv_iconst (v := nI 0) hx hb dX7_isStale_60 (by decide) ?_
            refine lv_istore (lv' := [(5, .int (nI (0))), (6, .int (nI (i))), (4, .int (nI ((tkN bx y (bx 1)) ||| (1 * 2 ^ y)))), (0, .ref h), (1, .ref t), (2, .int (nI (x))), (3, .int (nI (y)))]) hx hb dX7_isStale_61 hl (by decide) rfl (fun ls hl => ?_)
            refine lv_iinc (v := nI (i + 1)) (lv' := [(6, .int (nI (i + 1))), (5, .int (nI (0))), (4, .int (nI ((tkN bx y (bx 1)) ||| (1 * 2 ^ y)))), (0, .ref h), (1, .ref t), (2, .int (nI (x))), (3, .int (nI (y)))]) hx hb dX7_isStale_63 hl (k := 1) rfl (n_inc _ 1) (by decide) rfl (fun ls hl => ?_)
            refine lv_goto (tgt := 17) hx hb dX7_isStale_66 (by decide) ?_
            exact ih_17 0 (i + 1) (by omega) (by first | exact z_o1 hz (by assumption) | exact z_o2 (by first | exact q_t (by assumption) (by assumption) | exact q_t3 (by assumption) (by assumption) (by assumption) (by assumption)) | exact z_o0 hz (by assumption) (by first | exact q_f1 (by assumption) | exact q_f2 (by assumption) | exact q_g1 (by assumption) | exact q_g2 (by assumption) | exact q_g3 (by assumption) | exact q_g4 (by assumption))) (by omega) _ _ hP hD hS _ (lv_sub hl [0, 1, 2, 3, 4, 5, 6] rfl)
          · -- 38 to 41
            refine lv_iload hx hb dX7_isStale_41 (lv_at hl 2 rfl) ?_
            refine lv_aload_n hx hb dX7_isStale_43 rfl (lv_at hl 4 rfl) ?_
            refine lv_bipush (v := nI 40) hx hb dX7_isStale_44 (by decide) ?_
            refine lv_iload hx hb dX7_isStale_46 (lv_at hl 0 rfl) ?_
            refine n_iadd hx hb dX7_isStale_48  ?_
            refine n_iald hx hb hK hP 2 0 rfl rfl dX7_isStale_49 (by decide) (by omega) ?_
            have hb_8 := hN.bd (40 + i)
            have hto := (hN.k i (by omega)).2.2.1
            refine cl_7_137 (As := [.int (nI ((tkN bx y (bx 1)) ||| (1 * 2 ^ y))), .int (nI (nw (40 + i)))]) (rest := []) hx hb hml hts hown (k_X7_has (by first | assumption | omega) (by first | assumption | omega)) (by decide) ⟨Nat.zero_le _, Nat.zero_le _⟩ hK hP hD hS hA [] rfl (by decide) rfl hl.1 rfl (Nat.le_of_ble_eq_true rfl) dX7_isStale_50 (fun r_9 u H locs hp_10 hP hD hS => ?_)
            obtain ⟨rfl, rfl⟩ := hp_10
            have hP : va_P D vwCl [mO h q zmu zmk zmz zms zma zmc, (q 0, .inl (cI, 54, .inl (fun z_ => nI (bx z_)))), (t, .inl (cI, 76, .inl (fun z_ => nI (nw z_))))] _ := hP
            have hD : va_D A [mO h q zmu zmk zmz zms zma zmc, (q 0, .inl (cI, 54, .inl (fun z_ => nI (bx z_)))), (t, .inl (cI, 76, .inl (fun z_ => nI (nw z_))))] := hD
            refine n_ifb_eq (tgt := 60) hx hb dX7_isStale_53 (by decide) (fun c_11 => ?_) (fun c_11 => ?_)
            · -- 53 to 60
              refine lv_iconst (v := nI 0) hx hb dX7_isStale_60 (by decide) ?_
              refine lv_istore (lv' := [(5, .int (nI (0))), (6, .int (nI (i))), (4, .int (nI ((tkN bx y (bx 1)) ||| (1 * 2 ^ y)))), (0, .ref h), (1, .ref t), (2, .int (nI (x))), (3, .int (nI (y)))]) hx hb dX7_isStale_61 hl (by decide) rfl (fun ls hl => ?_)
              refine lv_iinc (v := nI (i + 1)) (lv' := [(6, .int (nI (i + 1))), (5, .int (nI (0))), (4, .int (nI ((tkN bx y (bx 1)) ||| (1 * 2 ^ y)))), (0, .ref h), (1, .ref t), (2, .int (nI (x))), (3, .int (nI (y)))]) hx hb dX7_isStale_63 hl (k := 1) rfl (n_inc _ 1) (by decide) rfl (fun ls hl => ?_)
              refine lv_goto (tgt := 17) hx hb dX7_isStale_66 (by decide) ?_
              exact ih_17 0 (i + 1) (by omega) (by first | exact z_o1 hz (by assumption) | exact z_o2 (by first | exact q_t (by assumption) (by assumption) | exact q_t3 (by assumption) (by assumption) (by assumption) (by assumption)) | exact z_o0 hz (by assumption) (by first | exact q_f1 (by assumption) | exact q_f2 (by assumption) | exact q_g1 (by assumption) | exact q_g2 (by assumption) | exact q_g3 (by assumption) | exact q_g4 (by assumption))) (by omega) _ _ hP hD hS _ (lv_sub hl [0, 1, 2, 3, 4, 5, 6] rfl)
            · -- 53 to 56
              refine lv_iconst (v := nI 1) hx hb dX7_isStale_56 (by decide) ?_
              refine lv_goto (tgt := 61) hx hb dX7_isStale_57 (by decide) ?_
              refine lv_istore (lv' := [(5, .int (nI (1))), (6, .int (nI (i))), (4, .int (nI ((tkN bx y (bx 1)) ||| (1 * 2 ^ y)))), (0, .ref h), (1, .ref t), (2, .int (nI (x))), (3, .int (nI (y)))]) hx hb dX7_isStale_61 hl (by decide) rfl (fun ls hl => ?_)
              refine lv_iinc (v := nI (i + 1)) (lv' := [(6, .int (nI (i + 1))), (5, .int (nI (1))), (4, .int (nI ((tkN bx y (bx 1)) ||| (1 * 2 ^ y)))), (0, .ref h), (1, .ref t), (2, .int (nI (x))), (3, .int (nI (y)))]) hx hb dX7_isStale_63 hl (k := 1) rfl (n_inc _ 1) (by decide) rfl (fun ls hl => ?_)
              refine lv_goto (tgt := 17) hx hb dX7_isStale_66 (by decide) ?_
              exact ih_17 1 (i + 1) (by omega) (by first | exact z_o1 hz (by assumption) | exact z_o2 (by first | exact q_t (by assumption) (by assumption) | exact q_t3 (by assumption) (by assumption) (by assumption) (by assumption)) | exact z_o0 hz (by assumption) (by first | exact q_f1 (by assumption) | exact q_f2 (by assumption) | exact q_g1 (by assumption) | exact q_g2 (by assumption) | exact q_g3 (by assumption) | exact q_g4 (by assumption))) (by omega) _ _ hP hD hS _ (lv_sub hl [0, 1, 2, 3, 4, 5, 6] rfl)
  exact loop_17 _ 0 0 (Nat.zero_le _) rfl (Nat.lt_succ_self _) _ _ hP hD hS _ (lv_sub hl [0, 1, 2, 3, 4, 5, 6] rfl)
set_option maxHeartbeats 4000000 in
set_option maxRecDepth 100000 in
theorem k_X7_isSeen {l : Launch} {D : va_G} {cI cC cB : ClassId} {h : Nat} {q : Nat → Nat} {zmu zmk zmz zms zma zmc : Nat} {bx nw : Nat → Nat} {t x y w : Nat} (hB : BxOk bx) (hN : HdOk bx nw) (hy : y < bx 1) (hw : w < bx 1) (he : x < 2147483648) : MI l yX7_isSeen cX7_isSeen 8 (some .boolean) 1 D (Ty3 cI cC cB) [.ref h, .ref t, .int (nI (x)), .int (nI (y)), .int (nI (w))] [mO h q zmu zmk zmz zms zma zmc, (q 0, .inl (cI, 54, .inl (fun z_ => nI (bx z_)))), (t, .inl (cI, 76, .inl (fun z_ => nI (nw z_))))] (fun r u => (r = nI (b2n (seeN bx nw x y w (nw 2))) ∧ u = [mO h q zmu zmk zmz zms zma zmc, (q 0, .inl (cI, 54, .inl (fun z_ => nI (bx z_)))), (t, .inl (cI, 76, .inl (fun z_ => nI (nw z_))))])) := by
  intro sz
  refine MI.walk (by decide +kernel) (Nat.le_of_ble_eq_true rfl) ?_
  intro p e s m args below meth c A Qf hx hb hml hts hown hret hK hP hD hS hA ls hl
  have hown : s.vm.findClass RX7 = some m.cls := hown
  have hl : lv_has ls 8 [(0, .ref h), (1, .ref t), (2, .int (nI (x))), (3, .int (nI (y))), (4, .int (nI (w)))] := hl
  have hP : va_P D vwCl [mO h q zmu zmk zmz zms zma zmc, (q 0, .inl (cI, 54, .inl (fun z_ => nI (bx z_)))), (t, .inl (cI, 76, .inl (fun z_ => nI (nw z_))))] s.heap := hP
  have hD : va_D A [mO h q zmu zmk zmz zms zma zmc, (q 0, .inl (cI, 54, .inl (fun z_ => nI (bx z_)))), (t, .inl (cI, 76, .inl (fun z_ => nI (nw z_))))] := hD
  have hn := hB.n
  have h12 := hN.h
  have hw0 := hB.w
  have hx0 := hB.too x 0 (by omega)
  refine lv_iconst (v := nI 0) hx hb dX7_isSeen_0 (by decide) ?_
  refine lv_istore (lv' := [(5, .int (nI (0))), (0, .ref h), (1, .ref t), (2, .int (nI (x))), (3, .int (nI (y))), (4, .int (nI (w)))]) hx hb dX7_isSeen_1 hl (by decide) rfl (fun ls hl => ?_)
  refine lv_iconst (v := nI 0) hx hb dX7_isSeen_3 (by decide) ?_
  refine lv_istore (lv' := [(6, .int (nI (0))), (5, .int (nI (0))), (0, .ref h), (1, .ref t), (2, .int (nI (x))), (3, .int (nI (y))), (4, .int (nI (w)))]) hx hb dX7_isSeen_4 hl (by decide) rfl (fun ls hl => ?_)
  have loop_6 : ∀ (N : Nat) (z : Nat) (i : Nat), (i ≤ nw 2) → (z = b2n (seeN bx nw x y w i)) → (nw 2 - i) < N → ∀ (H : Heap) (locs : List Loc), va_P D vwCl [mO h q zmu zmk zmz zms zma zmc, (q 0, .inl (cI, 54, .inl (fun z_ => nI (bx z_)))), (t, .inl (cI, 76, .inl (fun z_ => nI (nw z_))))] H → va_D A [mO h q zmu zmk zmz zms zma zmc, (q 0, .inl (cI, 54, .inl (fun z_ => nI (bx z_)))), (t, .inl (cI, 76, .inl (fun z_ => nI (nw z_))))] → va_S A s.heap H locs → ∀ ls : Array Slot, lv_has ls 8 [(6, .int (nI (i))), (5, .int (nI (z))), (0, .ref h), (1, .ref t), (2, .int (nI (x))), (3, .int (nI (y))), (4, .int (nI (w)))] → W p l e (rmL 1) s m args below meth c H locs 0 0 Qf (F0 m 6 ls []) := by
    intro N; induction N with
    | zero => intro z i _ _ hm; omega
    | succ N ih_6 =>
      intro z i hi hz hm H locs hP hD hS ls hl
      have hz1 : z ≤ 1 := by rw [hz]; exact b2n_le _
      refine lv_iload hx hb dX7_isSeen_6 (lv_at hl 0 rfl) ?_
      refine lv_aload_n hx hb dX7_isSeen_8 rfl (lv_at hl 3 rfl) ?_
      refine lv_iconst (v := nI 2) hx hb dX7_isSeen_9 (by decide) ?_
      refine n_iald hx hb hK hP 2 0 rfl rfl dX7_isSeen_10 (by decide) (by omega) ?_
      have hb_1 := hN.bd 2
      refine n_icmp_ge (tgt := 101) hx hb dX7_isSeen_11 (by decide) (by omega) (by omega) (fun c_2 => ?_) (fun c_2 => ?_)
      · -- 11 to 101
        refine lv_iload hx hb dX7_isSeen_101 (lv_at hl 1 rfl) ?_
        refine hret hP hD hS dX7_isSeen_103 (by rw [hz]; exact b2n_nar _) rfl ?_
        exact ⟨by rw [hz, show i = nw 2 by omega], rfl⟩
      · -- 11 to 14
        refine lv_aload_n hx hb dX7_isSeen_14 rfl (lv_at hl 3 rfl) ?_
        refine lv_bipush (v := nI 40) hx hb dX7_isSeen_15 (by decide) ?_
        refine lv_iload hx hb dX7_isSeen_17 (lv_at hl 0 rfl) ?_
        refine n_iadd hx hb dX7_isSeen_19  ?_
        refine n_iald hx hb hK hP 2 0 rfl rfl dX7_isSeen_20 (by decide) (by omega) ?_
        have hb_3 := hN.bd (40 + i)
        refine lv_iload hx hb dX7_isSeen_21 (lv_at hl 6 rfl) ?_
        refine n_icmp_ne (tgt := 54) hx hb dX7_isSeen_23 (by decide) (by omega) (by omega) (fun c_4 => ?_) (fun c_4 => ?_)
        · -- 23 to 54
          refine lv_iconst (v := nI 0) hx hb dX7_isSeen_54 (by decide) ?_
          refine lv_istore (lv' := [(7, .int (nI (0))), (6, .int (nI (i))), (5, .int (nI (z))), (0, .ref h), (1, .ref t), (2, .int (nI (x))), (3, .int (nI (y))), (4, .int (nI (w)))]) hx hb dX7_isSeen_55 hl (by decide) rfl (fun ls hl => ?_)
          refine lv_iload hx hb dX7_isSeen_57 (lv_at hl 2 rfl) ?_
          refine n_if_ne (tgt := 88) hx hb dX7_isSeen_59 (by decide) (by omega) (fun c_5 => ?_) (fun c_5 => ?_)
          · -- 59 to 88
            refine lv_iconst (v := nI 1) hx hb dX7_isSeen_88 (by decide) ?_
            refine lv_goto (tgt := 93) hx hb dX7_isSeen_89 (by decide) ?_
            refine lv_istore (lv' := [(5, .int (nI (1))), (7, .int (nI (0))), (6, .int (nI (i))), (0, .ref h), (1, .ref t), (2, .int (nI (x))), (3, .int (nI (y))), (4, .int (nI (w)))]) hx hb dX7_isSeen_93 hl (by decide) rfl (fun ls hl => ?_)
            refine lv_iinc (v := nI (i + 1)) (lv' := [(6, .int (nI (i + 1))), (5, .int (nI (1))), (7, .int (nI (0))), (0, .ref h), (1, .ref t), (2, .int (nI (x))), (3, .int (nI (y))), (4, .int (nI (w)))]) hx hb dX7_isSeen_95 hl (k := 2) rfl (n_inc _ 1) (by decide) rfl (fun ls hl => ?_)
            refine lv_goto (tgt := 6) hx hb dX7_isSeen_98 (by decide) ?_
            exact ih_6 1 (i + 1) (by omega) (by first | exact z_o1 hz (by assumption) | exact z_o2 (by first | exact q_t (by assumption) (by assumption) | exact q_t3 (by assumption) (by assumption) (by assumption) (by assumption)) | exact z_o0 hz (by assumption) (by first | exact q_f1 (by assumption) | exact q_f2 (by assumption) | exact q_g1 (by assumption) | exact q_g2 (by assumption) | exact q_g3 (by assumption) | exact q_g4 (by assumption))) (by omega) _ _ hP hD hS _ (lv_sub hl [0, 1, 3, 4, 5, 6, 7] rfl)
          · -- 59 to 62
            refine lv_iload hx hb dX7_isSeen_62 (lv_at hl 0 rfl) ?_
            refine n_if_eq (tgt := 92) hx hb dX7_isSeen_64 (by decide) (by decide) (fun c_6 => ?_) (fun c_6 => ?_)
            · -- 64 to 92
              refine lv_iconst (v := nI 0) hx hb dX7_isSeen_92 (by decide) ?_
              refine lv_istore (lv' := [(5, .int (nI (0))), (7, .int (nI (0))), (6, .int (nI (i))), (0, .ref h), (1, .ref t), (2, .int (nI (x))), (3, .int (nI (y))), (4, .int (nI (w)))]) hx hb dX7_isSeen_93 hl (by decide) rfl (fun ls hl => ?_)
              refine lv_iinc (v := nI (i + 1)) (lv' := [(6, .int (nI (i + 1))), (5, .int (nI (0))), (7, .int (nI (0))), (0, .ref h), (1, .ref t), (2, .int (nI (x))), (3, .int (nI (y))), (4, .int (nI (w)))]) hx hb dX7_isSeen_95 hl (k := 2) rfl (n_inc _ 1) (by decide) rfl (fun ls hl => ?_)
              refine lv_goto (tgt := 6) hx hb dX7_isSeen_98 (by decide) ?_
              exact ih_6 0 (i + 1) (by omega) (by first | exact z_o1 hz (by assumption) | exact z_o2 (by first | exact q_t (by assumption) (by assumption) | exact q_t3 (by assumption) (by assumption) (by assumption) (by assumption)) | exact z_o0 hz (by assumption) (by first | exact q_f1 (by assumption) | exact q_f2 (by assumption) | exact q_g1 (by assumption) | exact q_g2 (by assumption) | exact q_g3 (by assumption) | exact q_g4 (by assumption))) (by omega) _ _ hP hD hS _ (lv_sub hl [0, 1, 3, 4, 5, 6, 7] rfl)
            · omega
        · -- 23 to 26
          refine lv_aload_n hx hb dX7_isSeen_26 rfl (lv_at hl 3 rfl) ?_
          refine lv_bipush (v := nI 52) hx hb dX7_isSeen_27 (by decide) ?_
          refine lv_iload hx hb dX7_isSeen_29 (lv_at hl 0 rfl) ?_
          refine n_iadd hx hb dX7_isSeen_31  ?_
          refine n_iald hx hb hK hP 2 0 rfl rfl dX7_isSeen_32 (by decide) (by omega) ?_
          have hb_7 := hN.bd (52 + i)
          refine lv_aload_n hx hb dX7_isSeen_33 rfl (lv_at hl 3 rfl) ?_
          refine lv_iconst (v := nI 0) hx hb dX7_isSeen_34 (by decide) ?_
          refine n_iald hx hb hK hP 2 0 rfl rfl dX7_isSeen_35 (by decide) (by omega) ?_
          have hb_8 := hN.bd 0
          refine n_icmp_ne (tgt := 54) hx hb dX7_isSeen_36 (by decide) (by omega) (by omega) (fun c_9 => ?_) (fun c_9 => ?_)
          · -- 36 to 54
            refine lv_iconst (v := nI 0) hx hb dX7_isSeen_54 (by decide) ?_
            refine lv_istore (lv' := [(7, .int (nI (0))), (6, .int (nI (i))), (5, .int (nI (z))), (0, .ref h), (1, .ref t), (2, .int (nI (x))), (3, .int (nI (y))), (4, .int (nI (w)))]) hx hb dX7_isSeen_55 hl (by decide) rfl (fun ls hl => ?_)
            refine lv_iload hx hb dX7_isSeen_57 (lv_at hl 2 rfl) ?_
            refine n_if_ne (tgt := 88) hx hb dX7_isSeen_59 (by decide) (by omega) (fun c_10 => ?_) (fun c_10 => ?_)
            · -- 59 to 88
              refine lv_iconst (v := nI 1) hx hb dX7_isSeen_88 (by decide) ?_
              refine lv_goto (tgt := 93) hx hb dX7_isSeen_89 (by decide) ?_
              refine lv_istore (lv' := [(5, .int (nI (1))), (7, .int (nI (0))), (6, .int (nI (i))), (0, .ref h), (1, .ref t), (2, .int (nI (x))), (3, .int (nI (y))), (4, .int (nI (w)))]) hx hb dX7_isSeen_93 hl (by decide) rfl (fun ls hl => ?_)
              refine lv_iinc (v := nI (i + 1)) (lv' := [(6, .int (nI (i + 1))), (5, .int (nI (1))), (7, .int (nI (0))), (0, .ref h), (1, .ref t), (2, .int (nI (x))), (3, .int (nI (y))), (4, .int (nI (w)))]) hx hb dX7_isSeen_95 hl (k := 2) rfl (n_inc _ 1) (by decide) rfl (fun ls hl => ?_)
              refine lv_goto (tgt := 6) hx hb dX7_isSeen_98 (by decide) ?_
              exact ih_6 1 (i + 1) (by omega) (by first | exact z_o1 hz (by assumption) | exact z_o2 (by first | exact q_t (by assumption) (by assumption) | exact q_t3 (by assumption) (by assumption) (by assumption) (by assumption)) | exact z_o0 hz (by assumption) (by first | exact q_f1 (by assumption) | exact q_f2 (by assumption) | exact q_g1 (by assumption) | exact q_g2 (by assumption) | exact q_g3 (by assumption) | exact q_g4 (by assumption))) (by omega) _ _ hP hD hS _ (lv_sub hl [0, 1, 3, 4, 5, 6, 7] rfl)
            · -- 59 to 62
              refine lv_iload hx hb dX7_isSeen_62 (lv_at hl 0 rfl) ?_
              refine n_if_eq (tgt := 92) hx hb dX7_isSeen_64 (by decide) (by decide) (fun c_11 => ?_) (fun c_11 => ?_)
              · -- 64 to 92
                refine lv_iconst (v := nI 0) hx hb dX7_isSeen_92 (by decide) ?_
                refine lv_istore (lv' := [(5, .int (nI (0))), (7, .int (nI (0))), (6, .int (nI (i))), (0, .ref h), (1, .ref t), (2, .int (nI (x))), (3, .int (nI (y))), (4, .int (nI (w)))]) hx hb dX7_isSeen_93 hl (by decide) rfl (fun ls hl => ?_)
                refine lv_iinc (v := nI (i + 1)) (lv' := [(6, .int (nI (i + 1))), (5, .int (nI (0))), (7, .int (nI (0))), (0, .ref h), (1, .ref t), (2, .int (nI (x))), (3, .int (nI (y))), (4, .int (nI (w)))]) hx hb dX7_isSeen_95 hl (k := 2) rfl (n_inc _ 1) (by decide) rfl (fun ls hl => ?_)
                refine lv_goto (tgt := 6) hx hb dX7_isSeen_98 (by decide) ?_
                exact ih_6 0 (i + 1) (by omega) (by first | exact z_o1 hz (by assumption) | exact z_o2 (by first | exact q_t (by assumption) (by assumption) | exact q_t3 (by assumption) (by assumption) (by assumption) (by assumption)) | exact z_o0 hz (by assumption) (by first | exact q_f1 (by assumption) | exact q_f2 (by assumption) | exact q_g1 (by assumption) | exact q_g2 (by assumption) | exact q_g3 (by assumption) | exact q_g4 (by assumption))) (by omega) _ _ hP hD hS _ (lv_sub hl [0, 1, 3, 4, 5, 6, 7] rfl)
              · omega
          · -- 36 to 39
            refine lv_aload_n hx hb dX7_isSeen_39 rfl (lv_at hl 3 rfl) ?_
            refine lv_bipush (v := nI 28) hx hb dX7_isSeen_40 (by decide) ?_
            refine lv_iload hx hb dX7_isSeen_42 (lv_at hl 0 rfl) ?_
            refine n_iadd hx hb dX7_isSeen_44  ?_
            refine n_iald hx hb hK hP 2 0 rfl rfl dX7_isSeen_45 (by decide) (by omega) ?_
            have hb_12 := hN.bd (28 + i)
            refine lv_iload_n hx hb dX7_isSeen_46 rfl (lv_at hl 5 rfl) ?_
            refine n_icmp_eq (tgt := 54) hx hb dX7_isSeen_47 (by decide) (by omega) (by omega) (fun c_13 => ?_) (fun c_13 => ?_)
            · -- 47 to 54
              refine lv_iconst (v := nI 0) hx hb dX7_isSeen_54 (by decide) ?_
              refine lv_istore (lv' := [(7, .int (nI (0))), (6, .int (nI (i))), (5, .int (nI (z))), (0, .ref h), (1, .ref t), (2, .int (nI (x))), (3, .int (nI (y))), (4, .int (nI (w)))]) hx hb dX7_isSeen_55 hl (by decide) rfl (fun ls hl => ?_)
              refine lv_iload hx hb dX7_isSeen_57 (lv_at hl 2 rfl) ?_
              refine n_if_ne (tgt := 88) hx hb dX7_isSeen_59 (by decide) (by omega) (fun c_14 => ?_) (fun c_14 => ?_)
              · -- 59 to 88
                refine lv_iconst (v := nI 1) hx hb dX7_isSeen_88 (by decide) ?_
                refine lv_goto (tgt := 93) hx hb dX7_isSeen_89 (by decide) ?_
                refine lv_istore (lv' := [(5, .int (nI (1))), (7, .int (nI (0))), (6, .int (nI (i))), (0, .ref h), (1, .ref t), (2, .int (nI (x))), (3, .int (nI (y))), (4, .int (nI (w)))]) hx hb dX7_isSeen_93 hl (by decide) rfl (fun ls hl => ?_)
                refine lv_iinc (v := nI (i + 1)) (lv' := [(6, .int (nI (i + 1))), (5, .int (nI (1))), (7, .int (nI (0))), (0, .ref h), (1, .ref t), (2, .int (nI (x))), (3, .int (nI (y))), (4, .int (nI (w)))]) hx hb dX7_isSeen_95 hl (k := 2) rfl (n_inc _ 1) (by decide) rfl (fun ls hl => ?_)
                refine lv_goto (tgt := 6) hx hb dX7_isSeen_98 (by decide) ?_
                exact ih_6 1 (i + 1) (by omega) (by first | exact z_o1 hz (by assumption) | exact z_o2 (by first | exact q_t (by assumption) (by assumption) | exact q_t3 (by assumption) (by assumption) (by assumption) (by assumption)) | exact z_o0 hz (by assumption) (by first | exact q_f1 (by assumption) | exact q_f2 (by assumption) | exact q_g1 (by assumption) | exact q_g2 (by assumption) | exact q_g3 (by assumption) | exact q_g4 (by assumption))) (by omega) _ _ hP hD hS _ (lv_sub hl [0, 1, 3, 4, 5, 6, 7] rfl)
              · -- 59 to 62
                refine lv_iload hx hb dX7_isSeen_62 (lv_at hl 0 rfl) ?_
                refine n_if_eq (tgt := 92) hx hb dX7_isSeen_64 (by decide) (by decide) (fun c_15 => ?_) (fun c_15 => ?_)
                · -- 64 to 92
                  refine lv_iconst (v := nI 0) hx hb dX7_isSeen_92 (by decide) ?_
                  refine lv_istore (lv' := [(5, .int (nI (0))), (7, .int (nI (0))), (6, .int (nI (i))), (0, .ref h), (1, .ref t), (2, .int (nI (x))), (3, .int (nI (y))), (4, .int (nI (w)))]) hx hb dX7_isSeen_93 hl (by decide) rfl (fun ls hl => ?_)
                  refine lv_iinc (v := nI (i + 1)) (lv' := [(6, .int (nI (i + 1))), (5, .int (nI (0))), (7, .int (nI (0))), (0, .ref h), (1, .ref t), (2, .int (nI (x))), (3, .int (nI (y))), (4, .int (nI (w)))]) hx hb dX7_isSeen_95 hl (k := 2) rfl (n_inc _ 1) (by decide) rfl (fun ls hl => ?_)
                  refine lv_goto (tgt := 6) hx hb dX7_isSeen_98 (by decide) ?_
                  exact ih_6 0 (i + 1) (by omega) (by first | exact z_o1 hz (by assumption) | exact z_o2 (by first | exact q_t (by assumption) (by assumption) | exact q_t3 (by assumption) (by assumption) (by assumption) (by assumption)) | exact z_o0 hz (by assumption) (by first | exact q_f1 (by assumption) | exact q_f2 (by assumption) | exact q_g1 (by assumption) | exact q_g2 (by assumption) | exact q_g3 (by assumption) | exact q_g4 (by assumption))) (by omega) _ _ hP hD hS _ (lv_sub hl [0, 1, 3, 4, 5, 6, 7] rfl)
                · omega
            · -- 47 to 50
              refine lv_iconst (v := nI 1) hx hb dX7_isSeen_50 (by decide) ?_
              refine lv_goto (tgt := 55) hx hb dX7_isSeen_51 (by decide) ?_
              refine lv_istore (lv' := [(7, .int (nI (1))), (6, .int (nI (i))), (5, .int (nI (z))), (0, .ref h), (1, .ref t), (2, .int (nI (x))), (3, .int (nI (y))), (4, .int (nI (w)))]) hx hb dX7_isSeen_55 hl (by decide) rfl (fun ls hl => ?_)
              refine lv_iload hx hb dX7_isSeen_57 (lv_at hl 2 rfl) ?_
              refine n_if_ne (tgt := 88) hx hb dX7_isSeen_59 (by decide) (by omega) (fun c_16 => ?_) (fun c_16 => ?_)
              · -- 59 to 88
                refine lv_iconst (v := nI 1) hx hb dX7_isSeen_88 (by decide) ?_
                refine lv_goto (tgt := 93) hx hb dX7_isSeen_89 (by decide) ?_
                refine lv_istore (lv' := [(5, .int (nI (1))), (7, .int (nI (1))), (6, .int (nI (i))), (0, .ref h), (1, .ref t), (2, .int (nI (x))), (3, .int (nI (y))), (4, .int (nI (w)))]) hx hb dX7_isSeen_93 hl (by decide) rfl (fun ls hl => ?_)
                refine lv_iinc (v := nI (i + 1)) (lv' := [(6, .int (nI (i + 1))), (5, .int (nI (1))), (7, .int (nI (1))), (0, .ref h), (1, .ref t), (2, .int (nI (x))), (3, .int (nI (y))), (4, .int (nI (w)))]) hx hb dX7_isSeen_95 hl (k := 2) rfl (n_inc _ 1) (by decide) rfl (fun ls hl => ?_)
                refine lv_goto (tgt := 6) hx hb dX7_isSeen_98 (by decide) ?_
                exact ih_6 1 (i + 1) (by omega) (by first | exact z_o1 hz (by assumption) | exact z_o2 (by first | exact q_t (by assumption) (by assumption) | exact q_t3 (by assumption) (by assumption) (by assumption) (by assumption)) | exact z_o0 hz (by assumption) (by first | exact q_f1 (by assumption) | exact q_f2 (by assumption) | exact q_g1 (by assumption) | exact q_g2 (by assumption) | exact q_g3 (by assumption) | exact q_g4 (by assumption))) (by omega) _ _ hP hD hS _ (lv_sub hl [0, 1, 3, 4, 5, 6, 7] rfl)
              · -- 59 to 62
                refine lv_iload hx hb dX7_isSeen_62 (lv_at hl 0 rfl) ?_
                refine n_if_eq (tgt := 92) hx hb dX7_isSeen_64 (by decide) (by decide) (fun c_17 => ?_) (fun c_17 => ?_)
                · omega
                · -- 64 to 67
                  refine lv_aload_n hx hb dX7_isSeen_67 rfl (lv_at hl 3 rfl) ?_
                  refine lv_aload_n hx hb dX7_isSeen_68 rfl (lv_at hl 4 rfl) ?_
                  refine lv_bipush (v := nI 16) hx hb dX7_isSeen_69 (by decide) ?_
                  refine lv_iload hx hb dX7_isSeen_71 (lv_at hl 1 rfl) ?_
                  refine n_iadd hx hb dX7_isSeen_73  ?_
                  refine n_iald hx hb hK hP 2 0 rfl rfl dX7_isSeen_74 (by decide) (by omega) ?_
                  have hb_18 := hN.bd (16 + i)
                  refine lv_iconst (v := nI 0) hx hb dX7_isSeen_75 (by decide) ?_
                  have hx1 := hB.too (nw (16 + i)) 0 (by omega)
                  refine cl_7_133 (As := [.int (nI (nw (16 + i))), .int (nI (0))]) (rest := []) hx hb hml hts hown (k_X7_toothOf (by first | assumption | omega) (by first | assumption | omega) (by first | assumption | omega)) (by decide) ⟨Nat.zero_le _, Nat.zero_le _⟩ hK hP hD hS hA 0 rfl [0, 1] rfl (by decide) rfl hl.1 rfl (Nat.le_of_ble_eq_true rfl) dX7_isSeen_76 (fun r_19 u H locs hp_20 hP hD hS => ?_)
                  obtain ⟨rfl, rfl⟩ := hp_20
                  have hP : va_P D vwCl [mO h q zmu zmk zmz zms zma zmc, (q 0, .inl (cI, 54, .inl (fun z_ => nI (bx z_)))), (t, .inl (cI, 76, .inl (fun z_ => nI (nw z_))))] _ := hP
                  have hD : va_D A [mO h q zmu zmk zmz zms zma zmc, (q 0, .inl (cI, 54, .inl (fun z_ => nI (bx z_)))), (t, .inl (cI, 76, .inl (fun z_ => nI (nw z_))))] := hD
                  refine lv_aload_n hx hb dX7_isSeen_79 rfl (lv_at hl 3 rfl) ?_
                  refine lv_iload_n hx hb dX7_isSeen_80 rfl (lv_at hl 5 rfl) ?_
                  refine lv_iconst (v := nI 0) hx hb dX7_isSeen_81 (by decide) ?_
                  refine cl_7_133 (As := [.int (nI (x)), .int (nI (0))]) (rest := [.int (nI (tooN bx (nw (16 + i)) 0))]) hx hb hml hts hown (k_X7_toothOf (by first | assumption | omega) (by first | assumption | omega) (by first | assumption | omega)) (by decide) ⟨Nat.zero_le _, Nat.zero_le _⟩ hK hP hD hS hA 0 rfl [0, 1] rfl (by decide) rfl hl.1 rfl (Nat.le_of_ble_eq_true rfl) dX7_isSeen_82 (fun r_21 u H locs hp_22 hP hD hS => ?_)
                  obtain ⟨rfl, rfl⟩ := hp_22
                  have hP : va_P D vwCl [mO h q zmu zmk zmz zms zma zmc, (q 0, .inl (cI, 54, .inl (fun z_ => nI (bx z_)))), (t, .inl (cI, 76, .inl (fun z_ => nI (nw z_))))] _ := hP
                  have hD : va_D A [mO h q zmu zmk zmz zms zma zmc, (q 0, .inl (cI, 54, .inl (fun z_ => nI (bx z_)))), (t, .inl (cI, 76, .inl (fun z_ => nI (nw z_))))] := hD
                  refine n_icmp_ne (tgt := 92) hx hb dX7_isSeen_85 (by decide) (by omega) (by omega) (fun c_23 => ?_) (fun c_23 => ?_)
                  · -- 85 to 92
                    refine lv_iconst (v := nI 0) hx hb dX7_isSeen_92 (by decide) ?_
                    refine lv_istore (lv' := [(5, .int (nI (0))), (7, .int (nI (1))), (6, .int (nI (i))), (0, .ref h), (1, .ref t), (2, .int (nI (x))), (3, .int (nI (y))), (4, .int (nI (w)))]) hx hb dX7_isSeen_93 hl (by decide) rfl (fun ls hl => ?_)
                    refine lv_iinc (v := nI (i + 1)) (lv' := [(6, .int (nI (i + 1))), (5, .int (nI (0))), (7, .int (nI (1))), (0, .ref h), (1, .ref t), (2, .int (nI (x))), (3, .int (nI (y))), (4, .int (nI (w)))]) hx hb dX7_isSeen_95 hl (k := 2) rfl (n_inc _ 1) (by decide) rfl (fun ls hl => ?_)
                    refine lv_goto (tgt := 6) hx hb dX7_isSeen_98 (by decide) ?_
                    exact ih_6 0 (i + 1) (by omega) (by first | exact z_o1 hz (by assumption) | exact z_o2 (by first | exact q_t (by assumption) (by assumption) | exact q_t3 (by assumption) (by assumption) (by assumption) (by assumption)) | exact z_o0 hz (by assumption) (by first | exact q_f1 (by assumption) | exact q_f2 (by assumption) | exact q_g1 (by assumption) | exact q_g2 (by assumption) | exact q_g3 (by assumption) | exact q_g4 (by assumption))) (by omega) _ _ hP hD hS _ (lv_sub hl [0, 1, 3, 4, 5, 6, 7] rfl)
                  · -- 85 to 88
                    refine lv_iconst (v := nI 1) hx hb dX7_isSeen_88 (by decide) ?_
                    refine lv_goto (tgt := 93) hx hb dX7_isSeen_89 (by decide) ?_
                    refine lv_istore (lv' := [(5, .int (nI (1))), (7, .int (nI (1))), (6, .int (nI (i))), (0, .ref h), (1, .ref t), (2, .int (nI (x))), (3, .int (nI (y))), (4, .int (nI (w)))]) hx hb dX7_isSeen_93 hl (by decide) rfl (fun ls hl => ?_)
                    refine lv_iinc (v := nI (i + 1)) (lv' := [(6, .int (nI (i + 1))), (5, .int (nI (1))), (7, .int (nI (1))), (0, .ref h), (1, .ref t), (2, .int (nI (x))), (3, .int (nI (y))), (4, .int (nI (w)))]) hx hb dX7_isSeen_95 hl (k := 2) rfl (n_inc _ 1) (by decide) rfl (fun ls hl => ?_)
                    refine lv_goto (tgt := 6) hx hb dX7_isSeen_98 (by decide) ?_
                    exact ih_6 1 (i + 1) (by omega) (by first | exact z_o1 hz (by assumption) | exact z_o2 (by first | exact q_t (by assumption) (by assumption) | exact q_t3 (by assumption) (by assumption) (by assumption) (by assumption)) | exact z_o0 hz (by assumption) (by first | exact q_f1 (by assumption) | exact q_f2 (by assumption) | exact q_g1 (by assumption) | exact q_g2 (by assumption) | exact q_g3 (by assumption) | exact q_g4 (by assumption))) (by omega) _ _ hP hD hS _ (lv_sub hl [0, 1, 3, 4, 5, 6, 7] rfl)
  exact loop_6 _ 0 0 (Nat.zero_le _) rfl (Nat.lt_succ_self _) _ _ hP hD hS _ (lv_sub hl [0, 1, 2, 3, 4, 5, 6] rfl)
set_option maxHeartbeats 4000000 in
set_option maxRecDepth 100000 in
theorem k_X7_loses {l : Launch} {D : va_G} {cI cC cB : ClassId} {nw : Nat → Nat} {t : Nat} (hbd : ∀ j, nw j < 100000000) (h2 : 1 ≤ nw 2) (h3 : nw 64 ≤ nw 3) : MV l yX7_loses cX7_loses 3 none 0 D (Ty3 cI cC cB) [.ref t] [(t, .inl (cI, 76, .inl (fun z_ => nI (nw z_))))] (fun (u : va_W) => (u = [(t, .inl (cI, 76, .inl (fun z_ => nI ((losN nw) z_))))])) := by
  intro sz
  refine MV.walk (by decide +kernel) (Nat.le_of_ble_eq_true rfl) ?_
  intro p e s m args below meth c A Qf hx hb hml hts hown hret hK hP hD hS hA ls hl
  have hown : s.vm.findClass RX7 = some m.cls := hown
  have hl : lv_has ls 3 [(0, .ref t)] := hl
  have hP : va_P D vwCl [(t, .inl (cI, 76, .inl (fun z_ => nI (nw z_))))] s.heap := hP
  have hD : va_D A [(t, .inl (cI, 76, .inl (fun z_ => nI (nw z_))))] := hD
  refine lv_aload_n hx hb dX7_loses_0 rfl (lv_at hl 0 rfl) ?_
  refine lv_iconst (v := nI 3) hx hb dX7_loses_1 (by decide) ?_
  refine lv_dup2_11 hx hb dX7_loses_2 rfl rfl ?_
  refine n_iald hx hb hK hP 0 0 rfl rfl dX7_loses_3 (by decide) (by omega) ?_
  have hb_1 := hbd 3
  refine lv_aload_n hx hb dX7_loses_4 rfl (lv_at hl 0 rfl) ?_
  refine lv_bipush (v := nI 64) hx hb dX7_loses_5 (by decide) ?_
  refine n_iald hx hb hK hP 0 0 rfl rfl dX7_loses_7 (by decide) (by omega) ?_
  have hb_2 := hbd 64
  refine n_isub hx hb dX7_loses_8 (by omega) ?_
  refine n_iast hx hb hK hP hD hS 0 0 rfl rfl dX7_loses_9 (by decide) (by omega) (fun H locs hP hD hS => ?_)
  have hP : va_P D vwCl [(t, .inl (cI, 76, .inl (fun z_ => nI ((up1 nw 3 ((nw 3) - (nw 64))) z_))))] _ := hP
  have hD : va_D A [(t, .inl (cI, 76, .inl (fun z_ => nI ((up1 nw 3 ((nw 3) - (nw 64))) z_))))] := hD
  refine lv_iconst (v := nI 0) hx hb dX7_loses_10 (by decide) ?_
  refine lv_istore_n (lv' := [(1, .int (nI (0))), (0, .ref t)]) hx hb dX7_loses_11 rfl hl (by decide) rfl (fun ls hl => ?_)
  have loop_12 : ∀ (N : Nat) (i : Nat) (f : Nat → Nat), (i ≤ 11) → (f = loI nw i 0) → (11 - i) < N → ∀ (H : Heap) (locs : List Loc), va_P D vwCl [(t, .inl (cI, 76, .inl (fun z_ => nI (f z_))))] H → va_D A [(t, .inl (cI, 76, .inl (fun z_ => nI (f z_))))] → va_S A s.heap H locs → ∀ ls : Array Slot, lv_has ls 3 [(1, .int (nI (i))), (0, .ref t)] → W p l e (rmL 0) s m args below meth c H locs 0 0 Qf (F0 m 12 ls []) := by
    intro N; induction N with
    | zero => intro i f _ _ hm; omega
    | succ N ih_12 =>
      intro i f hi hf hm H locs hP hD hS ls hl
      refine lv_iload_n hx hb dX7_loses_12 rfl (lv_at hl 0 rfl) ?_
      refine lv_bipush (v := nI 11) hx hb dX7_loses_13 (by decide) ?_
      refine n_icmp_ge (tgt := 61) hx hb dX7_loses_15 (by decide) (by omega) (by decide) (fun c_3 => ?_) (fun c_3 => ?_)
      · -- 15 to 61
        refine lv_aload_n hx hb dX7_loses_61 rfl (lv_at hl 1 rfl) ?_
        refine lv_iconst (v := nI 2) hx hb dX7_loses_62 (by decide) ?_
        refine lv_dup2_11 hx hb dX7_loses_63 rfl rfl ?_
        refine n_iald hx hb hK hP 0 0 rfl rfl dX7_loses_64 (by decide) (by omega) ?_
        refine lv_iconst (v := nI 1) hx hb dX7_loses_65 (by decide) ?_
        have hi9 : i = 11 := by omega
        have g2 : f 2 = nw 2 := by rw [hf]; exact loI_2 nw i
        refine n_isub hx hb dX7_loses_66 (by omega) ?_
        refine n_iast hx hb hK hP hD hS 0 0 rfl rfl dX7_loses_67 (by decide) (by omega) (fun H locs hP hD hS => ?_)
        have hP : va_P D vwCl [(t, .inl (cI, 76, .inl (fun z_ => nI ((up1 f 2 ((f 2) - 1)) z_))))] _ := hP
        have hD : va_D A [(t, .inl (cI, 76, .inl (fun z_ => nI ((up1 f 2 ((f 2) - 1)) z_))))] := hD
        refine hret hP hD hS dX7_loses_68 rfl ?_
        have hu : up1 f 2 (f 2 - 1) = losN nw := by rw [hf, hi9]; exact losN_e nw
        rw [hu]
      · -- 15 to 18
        refine lv_iconst (v := nI 0) hx hb dX7_loses_18 (by decide) ?_
        refine lv_istore_n (lv' := [(2, .int (nI (0))), (1, .int (nI (i))), (0, .ref t)]) hx hb dX7_loses_19 rfl hl (by decide) rfl (fun ls hl => ?_)
        have loop_20 : ∀ (N : Nat) (v : Nat) (g : Nat → Nat), (v ≤ 5) → (g = loI nw i v) → (5 - v) < N → ∀ (H : Heap) (locs : List Loc), va_P D vwCl [(t, .inl (cI, 76, .inl (fun z_ => nI (g z_))))] H → va_D A [(t, .inl (cI, 76, .inl (fun z_ => nI (g z_))))] → va_S A s.heap H locs → ∀ ls : Array Slot, lv_has ls 3 [(2, .int (nI (v))), (1, .int (nI (i))), (0, .ref t)] → W p l e (rmL 0) s m args below meth c H locs 0 0 Qf (F0 m 20 ls []) := by
          intro N; induction N with
          | zero => intro v g _ _ hm; omega
          | succ N ih_20 =>
            intro v g hv hg hm H locs hP hD hS ls hl
            refine lv_iload_n hx hb dX7_loses_20 rfl (lv_at hl 0 rfl) ?_
            refine lv_iconst (v := nI 5) hx hb dX7_loses_21 (by decide) ?_
            refine n_icmp_ge (tgt := 55) hx hb dX7_loses_22 (by decide) (by omega) (by decide) (fun c_4 => ?_) (fun c_4 => ?_)
            · -- 22 to 55
              refine lv_iinc (v := nI (i + 1)) (lv' := [(1, .int (nI (i + 1))), (2, .int (nI (v))), (0, .ref t)]) hx hb dX7_loses_55 hl (k := 1) rfl (n_inc _ 1) (by decide) rfl (fun ls hl => ?_)
              refine lv_goto (tgt := 12) hx hb dX7_loses_58 (by decide) ?_
              exact ih_12 (i + 1) g (by omega) (by rw [hg, show v = 5 by omega]; exact loI_n nw i (by omega)) (by omega) _ _ hP hD hS _ (lv_sub hl [0, 2] rfl)
            · -- 22 to 25
              refine lv_aload_n hx hb dX7_loses_25 rfl (lv_at hl 2 rfl) ?_
              refine lv_bipush (v := nI 16) hx hb dX7_loses_26 (by decide) ?_
              refine lv_bipush (v := nI 12) hx hb dX7_loses_28 (by decide) ?_
              refine lv_iload_n hx hb dX7_loses_30 rfl (lv_at hl 0 rfl) ?_
              refine n_imul hx hb dX7_loses_31  ?_
              refine n_iadd hx hb dX7_loses_32  ?_
              refine lv_iload_n hx hb dX7_loses_33 rfl (lv_at hl 1 rfl) ?_
              refine n_iadd hx hb dX7_loses_34  ?_
              refine lv_aload_n hx hb dX7_loses_35 rfl (lv_at hl 2 rfl) ?_
              refine lv_bipush (v := nI 16) hx hb dX7_loses_36 (by decide) ?_
              refine lv_bipush (v := nI 12) hx hb dX7_loses_38 (by decide) ?_
              refine lv_iload_n hx hb dX7_loses_40 rfl (lv_at hl 0 rfl) ?_
              refine n_imul hx hb dX7_loses_41  ?_
              refine n_iadd hx hb dX7_loses_42  ?_
              refine lv_iload_n hx hb dX7_loses_43 rfl (lv_at hl 1 rfl) ?_
              refine n_iadd hx hb dX7_loses_44  ?_
              refine lv_iconst (v := nI 1) hx hb dX7_loses_45 (by decide) ?_
              refine n_iadd hx hb dX7_loses_46  ?_
              refine n_iald hx hb hK hP 0 0 rfl rfl dX7_loses_47 (by decide) (by omega) ?_
              refine n_iast hx hb hK hP hD hS 0 0 rfl rfl dX7_loses_48 (by decide) (by omega) (fun H locs hP hD hS => ?_)
              have hP : va_P D vwCl [(t, .inl (cI, 76, .inl (fun z_ => nI ((up1 g ((16 + (12 * v)) + i) (g (((16 + (12 * v)) + i) + 1))) z_))))] _ := hP
              have hD : va_D A [(t, .inl (cI, 76, .inl (fun z_ => nI ((up1 g ((16 + (12 * v)) + i) (g (((16 + (12 * v)) + i) + 1))) z_))))] := hD
              refine lv_iinc (v := nI (v + 1)) (lv' := [(2, .int (nI (v + 1))), (1, .int (nI (i))), (0, .ref t)]) hx hb dX7_loses_49 hl (k := 0) rfl (n_inc _ 1) (by decide) rfl (fun ls hl => ?_)
              refine lv_goto (tgt := 20) hx hb dX7_loses_52 (by decide) ?_
              exact ih_20 (v + 1) (up1 g ((16 + (12 * v)) + i) (g (((16 + (12 * v)) + i) + 1))) (by omega) (by rw [hg]; exact loI_s nw i v (by omega) (by omega)) (by omega) _ _ hP hD hS _ (lv_sub hl [0, 1, 2] rfl)
        exact loop_20 _ 0 f (by omega) hf (Nat.lt_succ_self _) _ _ hP hD hS _ (lv_sub hl [0, 1, 2] rfl)
  exact loop_12 _ 0 (up1 nw 3 ((nw 3) - (nw 64))) (by omega) (loI_0 nw).symm (Nat.lt_succ_self _) _ _ hP hD hS _ (lv_sub hl [0, 1] rfl)

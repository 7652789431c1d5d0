
def BoR (bx nw up st ex tl he dy se : Nat → Nat) (fi : Nat) : Prop := GoOk bx nw ∧ HdOk bx nw ∧ (∀ i, i < bx 0 → up i = nw (8 + i) ∧ st i = nw (4 + i)) ∧ (∀ k, k < nw 2 → ex k = nw (16 + k) ∧ tl k = nw (28 + k) ∧ he k = nw (40 + k) ∧ dy k = nw (52 + k) ∧ se k = nw (64 + k)) ∧ fi < 16777216 ∧ (∀ i, i < bx 0 → ∀ t, t < 6 → Nat.testBit fi (i * 6 + t) = Nat.testBit (nw (12 + i)) t)
def tbhN (bx nw : Nat → Nat) (i n : Nat) : Nat := (nw (8 + i) + nw (4 + i) * n) % bx (5 + i)
/-- the excuse behind n turns -/
def ebN (bx nw : Nat → Nat) (n : Nat) : Nat := exN bx (fun k => tbhN bx nw k n) (bx 0)
def upI (bx up st : Nat → Nat) (n i : Nat) : Nat → Nat := fun k => if k < i then (up k + st k * n) % bx (5 + k) else up k
theorem upI_0 (bx up st : Nat → Nat) (n : Nat) : upI bx up st n 0 = up := by funext k; simp [upI]
theorem upI_i (bx up st : Nat → Nat) (n i : Nat) : upI bx up st n i i = up i := by simp [upI]
theorem upI_s (bx up st : Nat → Nat) (n i : Nat) : up1 (upI bx up st n i) i ((up i + st i * n) % bx (5 + i)) = upI bx up st n (i + 1) := by
  funext k
  by_cases hk : k = i
  · subst hk; rw [up1_s]; simp [upI]
  · rw [up1_n hk]
    simp only [upI]
    by_cases h : k < i
    · rw [if_pos h, if_pos (by omega)]
    · rw [if_neg h, if_neg (by omega)]
theorem ex_lt {bx : Nat → Nat} (hB : BxOk bx) (f : Nat → Nat) (hf : ∀ i, i < bx 0 → f i < bx (5 + i)) : ∀ i, i ≤ bx 0 → exN bx f i < szN bx i
  | 0, _ => by simp [exN, szN]
  | i + 1, h => by
    have ih := ex_lt hB f hf i (by omega)
    have h1 := hf i (by omega)
    simp only [exN, szN]
    have h2 : szN bx i * (f i + 1) ≤ szN bx i * bx (5 + i) := Nat.mul_le_mul_left _ h1
    rw [Nat.mul_add, Nat.mul_one] at h2
    omega
theorem eb_lt {bx : Nat → Nat} (hB : BxOk bx) (nw : Nat → Nat) (n : Nat) : ebN bx nw n < 1296 := by
  have h := ex_lt hB (fun k => tbhN bx nw k n) (fun i hi => Nat.mod_lt _ (by have := hB.t i hi; omega)) (bx 0) (Nat.le_refl _)
  exact Nat.lt_of_lt_of_le h (sz_lt hB).1
def usN (nw : Nat → Nat) (x z : Nat) : Nat → Bool
  | 0 => false
  | k + 1 => usN nw x z k || (decide (nw (16 + k) = x) && Nat.testBit z (nw (40 + k)))
theorem sta_us (bx nw : Nat → Nat) (x y : Nat) : ∀ k, staN bx nw x y k = usN nw x (tkN bx y (bx 1) ||| 1 * 2 ^ y) k
  | 0 => rfl
  | k + 1 => by simp only [staN, usN, sta_us bx nw x y k]
theorem us_1 {nw : Nat → Nat} {x z k : Nat} (hv : usN nw x z k = false) (h : nw (16 + k) ≠ x) : usN nw x z (k + 1) = false := by simp [usN, hv, h]
theorem bit_0 {z w : Nat} (h : z / 2 ^ w &&& 1 = 0) : Nat.testBit z w = false := by
  rw [Nat.and_one_is_mod] at h
  simp [Nat.testBit, Nat.shiftRight_eq_div_pow, Nat.one_and_eq_mod_two, h]
theorem bit_1 {z w : Nat} (h : z / 2 ^ w &&& 1 ≠ 0) : Nat.testBit z w = true := by
  rw [Nat.and_one_is_mod] at h
  have : z / 2 ^ w % 2 = 1 := by omega
  simp [Nat.testBit, Nat.shiftRight_eq_div_pow, Nat.one_and_eq_mod_two, this]
theorem us_2 {nw : Nat → Nat} {x z k : Nat} (hv : usN nw x z k = false) (h : z / 2 ^ nw (40 + k) &&& 1 = 0) : usN nw x z (k + 1) = false := by simp [usN, hv, bit_0 h]
theorem us_m (nw : Nat → Nat) (x z : Nat) : ∀ n k, k ≤ n → usN nw x z k = true → usN nw x z n = true
  | 0, k, h, hf => by rw [show k = 0 by omega] at hf; exact hf
  | n + 1, k, h, hf => by
    by_cases hk : k = n + 1
    · rw [← hk]; exact hf
    · simp only [usN, us_m nw x z n k (by omega) hf, Bool.true_or]
theorem us_3 {nw : Nat → Nat} {x z k : Nat} (hk : k < nw 2) (h1 : nw (16 + k) = x) (h2 : z / 2 ^ nw (40 + k) &&& 1 ≠ 0) : usN nw x z (nw 2) = true := us_m nw x z (nw 2) (k + 1) hk (by simp [usN, h1, bit_1 h2])
theorem se_m (bx nw : Nat → Nat) (x y w : Nat) : ∀ n k, k ≤ n → seeN bx nw x y w k = true → seeN bx nw x y w n = true
  | 0, k, h, hf => by rw [show k = 0 by omega] at hf; exact hf
  | n + 1, k, h, hf => by
    by_cases hk : k = n + 1
    · rw [← hk]; exact hf
    · simp only [seeN, se_m bx nw x y w n k (by omega) hf, Bool.true_or]
theorem se_0 {bx nw : Nat → Nat} {x y w k : Nat} (hv : seeN bx nw x y w k = false) (h : nw (40 + k) ≠ w ∨ nw (52 + k) ≠ nw 0 ∨ nw (28 + k) = y ∨ tooN bx (nw (16 + k)) 0 ≠ tooN bx x 0) : seeN bx nw x y w (k + 1) = false := by
  rcases h with h | h | h | h <;> simp [seeN, hv, h]
theorem se_1 {bx nw : Nat → Nat} {x y w k : Nat} (hk : k < nw 2) (h1 : nw (40 + k) = w) (h2 : nw (52 + k) = nw 0) (h3 : nw (28 + k) ≠ y) (h4 : tooN bx (nw (16 + k)) 0 = tooN bx x 0) : seeN bx nw x y w (nw 2) = true := se_m bx nw x y w (nw 2) (k + 1) hk (by simp [seeN, h1, h2, h3, h4])
def smN (nw : Nat → Nat) : Nat → Nat
  | 0 => 0
  | k + 1 => smN nw k + nw (64 + k)
theorem and_n1 {u v : Bool} (h1 : u = true) (h2 : v = false) : (u && !v) = true := by simp [h1, h2]
theorem and_n2 {u v : Bool} (h1 : u = false) : (u && !v) = false := by simp [h1]
theorem and_n3 {u v : Bool} (h1 : v = true) : (u && !v) = false := by simp [h1]
/-- what comes behind n turns can be told to y -/
def frN (bx nw : Nat → Nat) (y n : Nat) : Bool := senN bx nw (ebN bx nw n) && !staN bx nw (ebN bx nw n) y (nw 2)
theorem frN_us (bx nw : Nat → Nat) (y n : Nat) : frN bx nw y n = (senN bx nw (ebN bx nw n) && !usN nw (ebN bx nw n) (tkN bx y (bx 1) ||| 1 * 2 ^ y) (nw 2)) := by simp only [frN, sta_us]
/-- the first of the turns 1 .. m behind which something can be told, or 0 -/
def ftN (bx nw : Nat → Nat) (y : Nat) : Nat → Nat
  | 0 => 0
  | n + 1 => if ftN bx nw y n ≠ 0 then ftN bx nw y n else if frN bx nw y (n + 1) = true then n + 1 else 0
theorem ft_0 {bx nw : Nat → Nat} {y n : Nat} (hv : ftN bx nw y n = 0) (h : frN bx nw y (n + 1) = false) : ftN bx nw y (n + 1) = 0 := by simp [ftN, hv, h]
theorem ft_m {bx nw : Nat → Nat} {y k : Nat} (hk : ftN bx nw y k ≠ 0) : ∀ n, k ≤ n → ftN bx nw y n = ftN bx nw y k
  | 0, h => by rw [show k = 0 by omega]
  | n + 1, h => by
    by_cases hq : k = n + 1
    · rw [hq]
    · have ih := ft_m hk n (by omega)
      simp only [ftN]
      rw [if_pos (by rw [ih]; exact hk), ih]
theorem ft_1 {bx nw : Nat → Nat} {y n m : Nat} (h1 : 1 ≤ n) (hm : n ≤ m) (hv : ftN bx nw y (n - 1) = 0) (h : frN bx nw y n = true) : n = ftN bx nw y m := by
  obtain ⟨k, rfl⟩ : ∃ k, n = k + 1 := ⟨n - 1, by omega⟩
  have e : ftN bx nw y (k + 1) = k + 1 := by
    rw [show k + 1 - 1 = k by omega] at hv
    simp [ftN, hv, h]
  rw [ft_m (by rw [e]; omega) m hm, e]
section BOR
variable {bx nw up st ex tl he dy se : Nat → Nat} {fi : Nat}
theorem BoR.d (h : BoR bx nw up st ex tl he dy se fi) : HdOk bx nw := h.2.1
theorem BoR.k (h : BoR bx nw up st ex tl he dy se fi) (k : Nat) (hk : k < nw 2) : ex k = nw (16 + k) ∧ tl k = nw (28 + k) ∧ he k = nw (40 + k) ∧ dy k = nw (52 + k) ∧ se k = nw (64 + k) := h.2.2.2.1 k hk
theorem BoR.u (h : BoR bx nw up st ex tl he dy se fi) (hB : BxOk bx) (i : Nat) (hi : i < bx 0) : up i = nw (8 + i) ∧ st i = nw (4 + i) ∧ up i < 6 ∧ st i < 6 := by
  have h1 := h.2.2.1 i hi
  have h2 := h.1 i hi
  have h3 := hB.t i hi
  exact ⟨h1.1, h1.2, by omega, by omega⟩
theorem BoR.f (h : BoR bx nw up st ex tl he dy se fi) (i : Nat) (hi : i < bx 0) (t : Nat) (ht : t < 6) : Nat.testBit fi (i * 6 + t) = Nat.testBit (nw (12 + i)) t := h.2.2.2.2.2 i hi t ht
/-- the teeth of an excuse and those filed off have none in common, if none of it is filed -/
theorem tb_fi (h : BoR bx nw up st ex tl he dy se fi) (hB : BxOk bx) (x : Nat) : ∀ n, n ≤ bx 0 → ((tbN bx x n &&& fi = 0) ↔ snsF bx nw x n = true)
  | 0, _ => by simp [tbN, snsF]
  | n + 1, hn => by
    have ih := tb_fi h hB x n (by omega)
    have ht := hB.too x n (by omega)
    have hf := h.f n (by omega) (tooN bx x n) ht
    simp only [tbN, snsF, Nat.one_mul]
    have e : (tbN bx x n ||| 2 ^ (n * 6 + tooN bx x n)) &&& fi = 0 ↔ tbN bx x n &&& fi = 0 ∧ Nat.testBit fi (n * 6 + tooN bx x n) = false := by
      constructor
      · intro h0
        refine ⟨?_, ?_⟩
        · apply Nat.eq_of_testBit_eq
          intro k
          have h1 := congrArg (fun w => Nat.testBit w k) h0
          simp only [Nat.testBit_and, Nat.testBit_or, Nat.zero_testBit] at h1 ⊢
          cases ha : Nat.testBit (tbN bx x n) k <;> simp_all
        · have h1 := congrArg (fun w => Nat.testBit w (n * 6 + tooN bx x n)) h0
          simp only [Nat.testBit_and, Nat.testBit_or, Nat.zero_testBit, Nat.testBit_two_pow] at h1
          simpa using h1
      · rintro ⟨h0, h1⟩
        apply Nat.eq_of_testBit_eq
        intro k
        have h2 := congrArg (fun w => Nat.testBit w k) h0
        simp only [Nat.testBit_and, Nat.testBit_or, Nat.zero_testBit, Nat.testBit_two_pow] at h2 ⊢
        by_cases hk : n * 6 + tooN bx x n = k
        · subst hk; simp [h1]
        · cases ha : Nat.testBit (tbN bx x n) k <;> simp_all
    rw [e, ih, hf]
    cases snsF bx nw x n <;> cases Nat.testBit (nw (12 + n)) (tooN bx x n) <;> simp
theorem ms_1 {te ps pu sd cj ta : Nat → Nat} (hR : PlR bx te ps pu sd cj ta) (h : BoR bx nw up st ex tl he dy se fi) {x : Nat} (h0 : tbN bx x (bx 0) &&& fi = 0) (h1 : snsP bx x (bx 2) = true) : 1 = b2n (senN bx nw x) := by
  rw [tb_fi h hR.b x (bx 0) (Nat.le_refl _)] at h0
  exact b2n_e1 (by simp [senN, h0, h1])
theorem ms_2 {x : Nat} (h1 : snsP bx x (bx 2) = false) : 0 = b2n (senN bx nw x) := b2n_e0 (by simp [senN, h1])
theorem ms_3 {te ps pu sd cj ta : Nat → Nat} (hR : PlR bx te ps pu sd cj ta) (h : BoR bx nw up st ex tl he dy se fi) {x : Nat} (h0 : tbN bx x (bx 0) &&& fi ≠ 0) : 0 = b2n (senN bx nw x) := by
  rw [Ne, tb_fi h hR.b x (bx 0) (Nat.le_refl _)] at h0
  exact b2n_e0 (by simp [senN, h0])
end BOR

set_option maxHeartbeats 4000000 in
set_option maxRecDepth 100000 in
theorem k_X0_toothBehind {l : Launch} {D : va_G} {cI cC cB : ClassId} {a : Nat} {pq : Nat → Nat} {bx te ps pu sd cj ta : Nat → Nat} {b : Nat} {bq : Nat → Nat} {nw up st ex tl he dy se : Nat → Nat} {fi : Nat} {i n : Nat} (hR : PlR bx te ps pu sd cj ta) (hi : i < bx 0) (hu : up i < 100) (hs1 : st i < 100) (hn : n ≤ 100000) : MI l yX0_toothBehind cX0_toothBehind 5 (some .int) 1 D (Ty3 cI cC cB) [.ref b, .ref a, .int (nI (i)), .int (nI (n))] [bO b bq fi (nw 2) (nw 0) (nw 1), (bq 0, .inl (cI, 4, .inl (fun z_ => nI (up z_)))), (bq 1, .inl (cI, 4, .inl (fun z_ => nI (st z_)))), (bq 2, .inl (cI, 12, .inl (fun z_ => nI (ex z_)))), (bq 3, .inl (cI, 12, .inl (fun z_ => nI (tl z_)))), (bq 4, .inl (cI, 12, .inl (fun z_ => nI (he z_)))), (bq 5, .inl (cI, 12, .inl (fun z_ => nI (dy z_)))), (bq 6, .inl (cI, 12, .inl (fun z_ => nI (se z_)))), pO a pq (bx 0) (bx 2) (bx 1) (szN bx (bx 0)) (bx 3) (bx 4), (pq 0, .inl (cI, 4, .inl (fun z_ => nI (te z_)))), (pq 1, .inl (cI, 4, .inl (fun z_ => nI (ps z_)))), (pq 2, .inl (cI, 4, .inl (fun z_ => nI (pu z_)))), (pq 3, .inl (cI, 4, .inl (fun z_ => nI (sd z_)))), (pq 4, .inl (cI, 8, .inl (fun z_ => nI (cj z_)))), (pq 5, .inl (cI, 5, .inl (fun z_ => nI (ta z_))))] (fun r u => (r = nI ((up i + st i * n) % bx (5 + i)) ∧ u = [bO b bq fi (nw 2) (nw 0) (nw 1), (bq 0, .inl (cI, 4, .inl (fun z_ => nI (up z_)))), (bq 1, .inl (cI, 4, .inl (fun z_ => nI (st z_)))), (bq 2, .inl (cI, 12, .inl (fun z_ => nI (ex z_)))), (bq 3, .inl (cI, 12, .inl (fun z_ => nI (tl z_)))), (bq 4, .inl (cI, 12, .inl (fun z_ => nI (he z_)))), (bq 5, .inl (cI, 12, .inl (fun z_ => nI (dy z_)))), (bq 6, .inl (cI, 12, .inl (fun z_ => nI (se z_)))), pO a pq (bx 0) (bx 2) (bx 1) (szN bx (bx 0)) (bx 3) (bx 4), (pq 0, .inl (cI, 4, .inl (fun z_ => nI (te z_)))), (pq 1, .inl (cI, 4, .inl (fun z_ => nI (ps z_)))), (pq 2, .inl (cI, 4, .inl (fun z_ => nI (pu z_)))), (pq 3, .inl (cI, 4, .inl (fun z_ => nI (sd z_)))), (pq 4, .inl (cI, 8, .inl (fun z_ => nI (cj z_)))), (pq 5, .inl (cI, 5, .inl (fun z_ => nI (ta z_))))])) := by
  intro sz
  refine MI.walk (by decide +kernel) (Nat.le_of_ble_eq_true rfl) ?_
  intro p e s m args below meth c A Qf hx hb hml hts hown hret hK hP hD hS hA ls hl
  have hown : s.vm.findClass RX0 = some m.cls := hown
  have hl : lv_has ls 5 [(0, .ref b), (1, .ref a), (2, .int (nI (i))), (3, .int (nI (n)))] := hl
  have hP : va_P D vwCl [bO b bq fi (nw 2) (nw 0) (nw 1), (bq 0, .inl (cI, 4, .inl (fun z_ => nI (up z_)))), (bq 1, .inl (cI, 4, .inl (fun z_ => nI (st z_)))), (bq 2, .inl (cI, 12, .inl (fun z_ => nI (ex z_)))), (bq 3, .inl (cI, 12, .inl (fun z_ => nI (tl z_)))), (bq 4, .inl (cI, 12, .inl (fun z_ => nI (he z_)))), (bq 5, .inl (cI, 12, .inl (fun z_ => nI (dy z_)))), (bq 6, .inl (cI, 12, .inl (fun z_ => nI (se z_)))), pO a pq (bx 0) (bx 2) (bx 1) (szN bx (bx 0)) (bx 3) (bx 4), (pq 0, .inl (cI, 4, .inl (fun z_ => nI (te z_)))), (pq 1, .inl (cI, 4, .inl (fun z_ => nI (ps z_)))), (pq 2, .inl (cI, 4, .inl (fun z_ => nI (pu z_)))), (pq 3, .inl (cI, 4, .inl (fun z_ => nI (sd z_)))), (pq 4, .inl (cI, 8, .inl (fun z_ => nI (cj z_)))), (pq 5, .inl (cI, 5, .inl (fun z_ => nI (ta z_))))] s.heap := hP
  have hD : va_D A [bO b bq fi (nw 2) (nw 0) (nw 1), (bq 0, .inl (cI, 4, .inl (fun z_ => nI (up z_)))), (bq 1, .inl (cI, 4, .inl (fun z_ => nI (st z_)))), (bq 2, .inl (cI, 12, .inl (fun z_ => nI (ex z_)))), (bq 3, .inl (cI, 12, .inl (fun z_ => nI (tl z_)))), (bq 4, .inl (cI, 12, .inl (fun z_ => nI (he z_)))), (bq 5, .inl (cI, 12, .inl (fun z_ => nI (dy z_)))), (bq 6, .inl (cI, 12, .inl (fun z_ => nI (se z_)))), pO a pq (bx 0) (bx 2) (bx 1) (szN bx (bx 0)) (bx 3) (bx 4), (pq 0, .inl (cI, 4, .inl (fun z_ => nI (te z_)))), (pq 1, .inl (cI, 4, .inl (fun z_ => nI (ps z_)))), (pq 2, .inl (cI, 4, .inl (fun z_ => nI (pu z_)))), (pq 3, .inl (cI, 4, .inl (fun z_ => nI (sd z_)))), (pq 4, .inl (cI, 8, .inl (fun z_ => nI (cj z_)))), (pq 5, .inl (cI, 5, .inl (fun z_ => nI (ta z_))))] := hD
  have hw := hR.b.w
  have ht := hR.b.t i hi
  have hrow := hR.r i hi
  have hmul : st i * n ≤ 100 * 100000 := Nat.mul_le_mul (by omega) hn
  refine lv_aload_n hx hb dX0_toothBehind_0 rfl (lv_at hl 1 rfl) ?_
  refine gf_0_54 hx hb hts hown hK hP 8 rfl rfl dX0_toothBehind_1 ?_
  refine lv_iload_n hx hb dX0_toothBehind_4 rfl (lv_at hl 2 rfl) ?_
  refine cl_0_57 (As := [.ref (pq 0), .int (nI (i))]) (rest := []) hx hb hml hts hown (k_X6_at (by first | assumption | omega) (by first | assumption | omega)) (by decide) ⟨Nat.zero_le _, Nat.zero_le _⟩ hK hP hD hS hA [9] rfl (by decide) rfl hl.1 rfl (Nat.le_of_ble_eq_true rfl) dX0_toothBehind_5 (fun r_1 u H locs hp_2 hP hD hS => ?_)
  obtain ⟨rfl, rfl⟩ := hp_2
  have hP : va_P D vwCl [bO b bq fi (nw 2) (nw 0) (nw 1), (bq 0, .inl (cI, 4, .inl (fun z_ => nI (up z_)))), (bq 1, .inl (cI, 4, .inl (fun z_ => nI (st z_)))), (bq 2, .inl (cI, 12, .inl (fun z_ => nI (ex z_)))), (bq 3, .inl (cI, 12, .inl (fun z_ => nI (tl z_)))), (bq 4, .inl (cI, 12, .inl (fun z_ => nI (he z_)))), (bq 5, .inl (cI, 12, .inl (fun z_ => nI (dy z_)))), (bq 6, .inl (cI, 12, .inl (fun z_ => nI (se z_)))), pO a pq (bx 0) (bx 2) (bx 1) (szN bx (bx 0)) (bx 3) (bx 4), (pq 0, .inl (cI, 4, .inl (fun z_ => nI (te z_)))), (pq 1, .inl (cI, 4, .inl (fun z_ => nI (ps z_)))), (pq 2, .inl (cI, 4, .inl (fun z_ => nI (pu z_)))), (pq 3, .inl (cI, 4, .inl (fun z_ => nI (sd z_)))), (pq 4, .inl (cI, 8, .inl (fun z_ => nI (cj z_)))), (pq 5, .inl (cI, 5, .inl (fun z_ => nI (ta z_))))] _ := hP
  have hD : va_D A [bO b bq fi (nw 2) (nw 0) (nw 1), (bq 0, .inl (cI, 4, .inl (fun z_ => nI (up z_)))), (bq 1, .inl (cI, 4, .inl (fun z_ => nI (st z_)))), (bq 2, .inl (cI, 12, .inl (fun z_ => nI (ex z_)))), (bq 3, .inl (cI, 12, .inl (fun z_ => nI (tl z_)))), (bq 4, .inl (cI, 12, .inl (fun z_ => nI (he z_)))), (bq 5, .inl (cI, 12, .inl (fun z_ => nI (dy z_)))), (bq 6, .inl (cI, 12, .inl (fun z_ => nI (se z_)))), pO a pq (bx 0) (bx 2) (bx 1) (szN bx (bx 0)) (bx 3) (bx 4), (pq 0, .inl (cI, 4, .inl (fun z_ => nI (te z_)))), (pq 1, .inl (cI, 4, .inl (fun z_ => nI (ps z_)))), (pq 2, .inl (cI, 4, .inl (fun z_ => nI (pu z_)))), (pq 3, .inl (cI, 4, .inl (fun z_ => nI (sd z_)))), (pq 4, .inl (cI, 8, .inl (fun z_ => nI (cj z_)))), (pq 5, .inl (cI, 5, .inl (fun z_ => nI (ta z_))))] := hD
  refine lv_istore (lv' := [(4, .int (nI (te i))), (0, .ref b), (1, .ref a), (2, .int (nI (i))), (3, .int (nI (n)))]) hx hb dX0_toothBehind_8 hl (by decide) rfl (fun ls hl => ?_)
  refine lv_iload hx hb dX0_toothBehind_10 (lv_at hl 0 rfl) ?_
  refine n_if_le (tgt := 40) hx hb dX0_toothBehind_12 (by decide) (by omega) (fun c_3 => ?_) (fun c_3 => ?_)
  · omega
  · -- 12 to 15
    refine lv_aload_n hx hb dX0_toothBehind_15 rfl (lv_at hl 1 rfl) ?_
    refine gf_0_9 hx hb hts hown hK hP 0 rfl rfl dX0_toothBehind_16 ?_
    refine lv_iload_n hx hb dX0_toothBehind_19 rfl (lv_at hl 3 rfl) ?_
    refine cl_0_57 (As := [.ref (bq 0), .int (nI (i))]) (rest := []) hx hb hml hts hown (k_X6_at (by first | assumption | omega) (by first | assumption | omega)) (by decide) ⟨Nat.zero_le _, Nat.zero_le _⟩ hK hP hD hS hA [1] rfl (by decide) rfl hl.1 rfl (Nat.le_of_ble_eq_true rfl) dX0_toothBehind_20 (fun r_4 u H locs hp_5 hP hD hS => ?_)
    obtain ⟨rfl, rfl⟩ := hp_5
    have hP : va_P D vwCl [bO b bq fi (nw 2) (nw 0) (nw 1), (bq 0, .inl (cI, 4, .inl (fun z_ => nI (up z_)))), (bq 1, .inl (cI, 4, .inl (fun z_ => nI (st z_)))), (bq 2, .inl (cI, 12, .inl (fun z_ => nI (ex z_)))), (bq 3, .inl (cI, 12, .inl (fun z_ => nI (tl z_)))), (bq 4, .inl (cI, 12, .inl (fun z_ => nI (he z_)))), (bq 5, .inl (cI, 12, .inl (fun z_ => nI (dy z_)))), (bq 6, .inl (cI, 12, .inl (fun z_ => nI (se z_)))), pO a pq (bx 0) (bx 2) (bx 1) (szN bx (bx 0)) (bx 3) (bx 4), (pq 0, .inl (cI, 4, .inl (fun z_ => nI (te z_)))), (pq 1, .inl (cI, 4, .inl (fun z_ => nI (ps z_)))), (pq 2, .inl (cI, 4, .inl (fun z_ => nI (pu z_)))), (pq 3, .inl (cI, 4, .inl (fun z_ => nI (sd z_)))), (pq 4, .inl (cI, 8, .inl (fun z_ => nI (cj z_)))), (pq 5, .inl (cI, 5, .inl (fun z_ => nI (ta z_))))] _ := hP
    have hD : va_D A [bO b bq fi (nw 2) (nw 0) (nw 1), (bq 0, .inl (cI, 4, .inl (fun z_ => nI (up z_)))), (bq 1, .inl (cI, 4, .inl (fun z_ => nI (st z_)))), (bq 2, .inl (cI, 12, .inl (fun z_ => nI (ex z_)))), (bq 3, .inl (cI, 12, .inl (fun z_ => nI (tl z_)))), (bq 4, .inl (cI, 12, .inl (fun z_ => nI (he z_)))), (bq 5, .inl (cI, 12, .inl (fun z_ => nI (dy z_)))), (bq 6, .inl (cI, 12, .inl (fun z_ => nI (se z_)))), pO a pq (bx 0) (bx 2) (bx 1) (szN bx (bx 0)) (bx 3) (bx 4), (pq 0, .inl (cI, 4, .inl (fun z_ => nI (te z_)))), (pq 1, .inl (cI, 4, .inl (fun z_ => nI (ps z_)))), (pq 2, .inl (cI, 4, .inl (fun z_ => nI (pu z_)))), (pq 3, .inl (cI, 4, .inl (fun z_ => nI (sd z_)))), (pq 4, .inl (cI, 8, .inl (fun z_ => nI (cj z_)))), (pq 5, .inl (cI, 5, .inl (fun z_ => nI (ta z_))))] := hD
    refine lv_aload_n hx hb dX0_toothBehind_23 rfl (lv_at hl 1 rfl) ?_
    refine gf_0_15 hx hb hts hown hK hP 0 rfl rfl dX0_toothBehind_24 ?_
    refine lv_iload_n hx hb dX0_toothBehind_27 rfl (lv_at hl 3 rfl) ?_
    refine cl_0_57 (As := [.ref (bq 1), .int (nI (i))]) (rest := [.int (nI (up i))]) hx hb hml hts hown (k_X6_at (by first | assumption | omega) (by first | assumption | omega)) (by decide) ⟨Nat.zero_le _, Nat.zero_le _⟩ hK hP hD hS hA [2] rfl (by decide) rfl hl.1 rfl (Nat.le_of_ble_eq_true rfl) dX0_toothBehind_28 (fun r_6 u H locs hp_7 hP hD hS => ?_)
    obtain ⟨rfl, rfl⟩ := hp_7
    have hP : va_P D vwCl [bO b bq fi (nw 2) (nw 0) (nw 1), (bq 0, .inl (cI, 4, .inl (fun z_ => nI (up z_)))), (bq 1, .inl (cI, 4, .inl (fun z_ => nI (st z_)))), (bq 2, .inl (cI, 12, .inl (fun z_ => nI (ex z_)))), (bq 3, .inl (cI, 12, .inl (fun z_ => nI (tl z_)))), (bq 4, .inl (cI, 12, .inl (fun z_ => nI (he z_)))), (bq 5, .inl (cI, 12, .inl (fun z_ => nI (dy z_)))), (bq 6, .inl (cI, 12, .inl (fun z_ => nI (se z_)))), pO a pq (bx 0) (bx 2) (bx 1) (szN bx (bx 0)) (bx 3) (bx 4), (pq 0, .inl (cI, 4, .inl (fun z_ => nI (te z_)))), (pq 1, .inl (cI, 4, .inl (fun z_ => nI (ps z_)))), (pq 2, .inl (cI, 4, .inl (fun z_ => nI (pu z_)))), (pq 3, .inl (cI, 4, .inl (fun z_ => nI (sd z_)))), (pq 4, .inl (cI, 8, .inl (fun z_ => nI (cj z_)))), (pq 5, .inl (cI, 5, .inl (fun z_ => nI (ta z_))))] _ := hP
    have hD : va_D A [bO b bq fi (nw 2) (nw 0) (nw 1), (bq 0, .inl (cI, 4, .inl (fun z_ => nI (up z_)))), (bq 1, .inl (cI, 4, .inl (fun z_ => nI (st z_)))), (bq 2, .inl (cI, 12, .inl (fun z_ => nI (ex z_)))), (bq 3, .inl (cI, 12, .inl (fun z_ => nI (tl z_)))), (bq 4, .inl (cI, 12, .inl (fun z_ => nI (he z_)))), (bq 5, .inl (cI, 12, .inl (fun z_ => nI (dy z_)))), (bq 6, .inl (cI, 12, .inl (fun z_ => nI (se z_)))), pO a pq (bx 0) (bx 2) (bx 1) (szN bx (bx 0)) (bx 3) (bx 4), (pq 0, .inl (cI, 4, .inl (fun z_ => nI (te z_)))), (pq 1, .inl (cI, 4, .inl (fun z_ => nI (ps z_)))), (pq 2, .inl (cI, 4, .inl (fun z_ => nI (pu z_)))), (pq 3, .inl (cI, 4, .inl (fun z_ => nI (sd z_)))), (pq 4, .inl (cI, 8, .inl (fun z_ => nI (cj z_)))), (pq 5, .inl (cI, 5, .inl (fun z_ => nI (ta z_))))] := hD
    refine lv_iload_n hx hb dX0_toothBehind_31 rfl (lv_at hl 4 rfl) ?_
    refine n_imul hx hb dX0_toothBehind_32  ?_
    refine n_iadd hx hb dX0_toothBehind_33  ?_
    refine lv_iload hx hb dX0_toothBehind_34 (lv_at hl 0 rfl) ?_
    refine n_irem hx hb dX0_toothBehind_36 (by omega) (by omega) (by omega) ?_
    refine lv_goto (tgt := 41) hx hb dX0_toothBehind_37 (by decide) ?_
    refine hret hP hD hS dX0_toothBehind_41 rfl rfl ?_
    exact ⟨by rw [hrow.1], rfl⟩
set_option maxHeartbeats 4000000 in
set_option maxRecDepth 100000 in
theorem k_X0_excuseBehind {l : Launch} {D : va_G} {cI cC cB : ClassId} {a : Nat} {pq : Nat → Nat} {bx te ps pu sd cj ta : Nat → Nat} {b : Nat} {bq : Nat → Nat} {nw up st ex tl he dy se : Nat → Nat} {fi : Nat} {n : Nat} (hR : PlR bx te ps pu sd cj ta) (hX : BoR bx nw up st ex tl he dy se fi) (hn : n ≤ 100000) : MI l yX0_excuseBehind cX0_excuseBehind 5 (some .int) 2 D (Ty3 cI cC cB) [.ref b, .ref a, .int (nI (n))] [bO b bq fi (nw 2) (nw 0) (nw 1), (bq 0, .inl (cI, 4, .inl (fun z_ => nI (up z_)))), (bq 1, .inl (cI, 4, .inl (fun z_ => nI (st z_)))), (bq 2, .inl (cI, 12, .inl (fun z_ => nI (ex z_)))), (bq 3, .inl (cI, 12, .inl (fun z_ => nI (tl z_)))), (bq 4, .inl (cI, 12, .inl (fun z_ => nI (he z_)))), (bq 5, .inl (cI, 12, .inl (fun z_ => nI (dy z_)))), (bq 6, .inl (cI, 12, .inl (fun z_ => nI (se z_)))), pO a pq (bx 0) (bx 2) (bx 1) (szN bx (bx 0)) (bx 3) (bx 4), (pq 0, .inl (cI, 4, .inl (fun z_ => nI (te z_)))), (pq 1, .inl (cI, 4, .inl (fun z_ => nI (ps z_)))), (pq 2, .inl (cI, 4, .inl (fun z_ => nI (pu z_)))), (pq 3, .inl (cI, 4, .inl (fun z_ => nI (sd z_)))), (pq 4, .inl (cI, 8, .inl (fun z_ => nI (cj z_)))), (pq 5, .inl (cI, 5, .inl (fun z_ => nI (ta z_))))] (fun r u => (r = nI (ebN bx nw n) ∧ u = [bO b bq fi (nw 2) (nw 0) (nw 1), (bq 0, .inl (cI, 4, .inl (fun z_ => nI (up z_)))), (bq 1, .inl (cI, 4, .inl (fun z_ => nI (st z_)))), (bq 2, .inl (cI, 12, .inl (fun z_ => nI (ex z_)))), (bq 3, .inl (cI, 12, .inl (fun z_ => nI (tl z_)))), (bq 4, .inl (cI, 12, .inl (fun z_ => nI (he z_)))), (bq 5, .inl (cI, 12, .inl (fun z_ => nI (dy z_)))), (bq 6, .inl (cI, 12, .inl (fun z_ => nI (se z_)))), pO a pq (bx 0) (bx 2) (bx 1) (szN bx (bx 0)) (bx 3) (bx 4), (pq 0, .inl (cI, 4, .inl (fun z_ => nI (te z_)))), (pq 1, .inl (cI, 4, .inl (fun z_ => nI (ps z_)))), (pq 2, .inl (cI, 4, .inl (fun z_ => nI (pu z_)))), (pq 3, .inl (cI, 4, .inl (fun z_ => nI (sd z_)))), (pq 4, .inl (cI, 8, .inl (fun z_ => nI (cj z_)))), (pq 5, .inl (cI, 5, .inl (fun z_ => nI (ta z_))))])) := by
  intro sz
  refine MI.walk (by decide +kernel) (Nat.le_of_ble_eq_true rfl) ?_
  intro p e s m args below meth c A Qf hx hb hml hts hown hret hK hP hD hS hA ls hl
  have hown : s.vm.findClass RX0 = some m.cls := hown
  have hl : lv_has ls 5 [(0, .ref b), (1, .ref a), (2, .int (nI (n)))] := hl
  have hP : va_P D vwCl [bO b bq fi (nw 2) (nw 0) (nw 1), (bq 0, .inl (cI, 4, .inl (fun z_ => nI (up z_)))), (bq 1, .inl (cI, 4, .inl (fun z_ => nI (st z_)))), (bq 2, .inl (cI, 12, .inl (fun z_ => nI (ex z_)))), (bq 3, .inl (cI, 12, .inl (fun z_ => nI (tl z_)))), (bq 4, .inl (cI, 12, .inl (fun z_ => nI (he z_)))), (bq 5, .inl (cI, 12, .inl (fun z_ => nI (dy z_)))), (bq 6, .inl (cI, 12, .inl (fun z_ => nI (se z_)))), pO a pq (bx 0) (bx 2) (bx 1) (szN bx (bx 0)) (bx 3) (bx 4), (pq 0, .inl (cI, 4, .inl (fun z_ => nI (te z_)))), (pq 1, .inl (cI, 4, .inl (fun z_ => nI (ps z_)))), (pq 2, .inl (cI, 4, .inl (fun z_ => nI (pu z_)))), (pq 3, .inl (cI, 4, .inl (fun z_ => nI (sd z_)))), (pq 4, .inl (cI, 8, .inl (fun z_ => nI (cj z_)))), (pq 5, .inl (cI, 5, .inl (fun z_ => nI (ta z_))))] s.heap := hP
  have hD : va_D A [bO b bq fi (nw 2) (nw 0) (nw 1), (bq 0, .inl (cI, 4, .inl (fun z_ => nI (up z_)))), (bq 1, .inl (cI, 4, .inl (fun z_ => nI (st z_)))), (bq 2, .inl (cI, 12, .inl (fun z_ => nI (ex z_)))), (bq 3, .inl (cI, 12, .inl (fun z_ => nI (tl z_)))), (bq 4, .inl (cI, 12, .inl (fun z_ => nI (he z_)))), (bq 5, .inl (cI, 12, .inl (fun z_ => nI (dy z_)))), (bq 6, .inl (cI, 12, .inl (fun z_ => nI (se z_)))), pO a pq (bx 0) (bx 2) (bx 1) (szN bx (bx 0)) (bx 3) (bx 4), (pq 0, .inl (cI, 4, .inl (fun z_ => nI (te z_)))), (pq 1, .inl (cI, 4, .inl (fun z_ => nI (ps z_)))), (pq 2, .inl (cI, 4, .inl (fun z_ => nI (pu z_)))), (pq 3, .inl (cI, 4, .inl (fun z_ => nI (sd z_)))), (pq 4, .inl (cI, 8, .inl (fun z_ => nI (cj z_)))), (pq 5, .inl (cI, 5, .inl (fun z_ => nI (ta z_))))] := hD
  have hw := hR.b.w
  refine lv_iconst (v := nI 0) hx hb dX0_excuseBehind_0 (by decide) ?_
  refine lv_istore_n (lv' := [(3, .int (nI (0))), (0, .ref b), (1, .ref a), (2, .int (nI (n)))]) hx hb dX0_excuseBehind_1 rfl hl (by decide) rfl (fun ls hl => ?_)
  refine lv_iconst (v := nI 0) hx hb dX0_excuseBehind_2 (by decide) ?_
  refine lv_istore (lv' := [(4, .int (nI (0))), (3, .int (nI (0))), (0, .ref b), (1, .ref a), (2, .int (nI (n)))]) hx hb dX0_excuseBehind_3 hl (by decide) rfl (fun ls hl => ?_)
  have loop_5 : ∀ (N : Nat) (v : Nat) (i : Nat), (i ≤ bx 0) → (v = exN bx (fun k => tbhN bx nw k n) i) → (bx 0 - i) < N → ∀ (H : Heap) (locs : List Loc), va_P D vwCl [bO b bq fi (nw 2) (nw 0) (nw 1), (bq 0, .inl (cI, 4, .inl (fun z_ => nI (up z_)))), (bq 1, .inl (cI, 4, .inl (fun z_ => nI (st z_)))), (bq 2, .inl (cI, 12, .inl (fun z_ => nI (ex z_)))), (bq 3, .inl (cI, 12, .inl (fun z_ => nI (tl z_)))), (bq 4, .inl (cI, 12, .inl (fun z_ => nI (he z_)))), (bq 5, .inl (cI, 12, .inl (fun z_ => nI (dy z_)))), (bq 6, .inl (cI, 12, .inl (fun z_ => nI (se z_)))), pO a pq (bx 0) (bx 2) (bx 1) (szN bx (bx 0)) (bx 3) (bx 4), (pq 0, .inl (cI, 4, .inl (fun z_ => nI (te z_)))), (pq 1, .inl (cI, 4, .inl (fun z_ => nI (ps z_)))), (pq 2, .inl (cI, 4, .inl (fun z_ => nI (pu z_)))), (pq 3, .inl (cI, 4, .inl (fun z_ => nI (sd z_)))), (pq 4, .inl (cI, 8, .inl (fun z_ => nI (cj z_)))), (pq 5, .inl (cI, 5, .inl (fun z_ => nI (ta z_))))] H → va_D A [bO b bq fi (nw 2) (nw 0) (nw 1), (bq 0, .inl (cI, 4, .inl (fun z_ => nI (up z_)))), (bq 1, .inl (cI, 4, .inl (fun z_ => nI (st z_)))), (bq 2, .inl (cI, 12, .inl (fun z_ => nI (ex z_)))), (bq 3, .inl (cI, 12, .inl (fun z_ => nI (tl z_)))), (bq 4, .inl (cI, 12, .inl (fun z_ => nI (he z_)))), (bq 5, .inl (cI, 12, .inl (fun z_ => nI (dy z_)))), (bq 6, .inl (cI, 12, .inl (fun z_ => nI (se z_)))), pO a pq (bx 0) (bx 2) (bx 1) (szN bx (bx 0)) (bx 3) (bx 4), (pq 0, .inl (cI, 4, .inl (fun z_ => nI (te z_)))), (pq 1, .inl (cI, 4, .inl (fun z_ => nI (ps z_)))), (pq 2, .inl (cI, 4, .inl (fun z_ => nI (pu z_)))), (pq 3, .inl (cI, 4, .inl (fun z_ => nI (sd z_)))), (pq 4, .inl (cI, 8, .inl (fun z_ => nI (cj z_)))), (pq 5, .inl (cI, 5, .inl (fun z_ => nI (ta z_))))] → va_S A s.heap H locs → ∀ ls : Array Slot, lv_has ls 5 [(4, .int (nI (i))), (3, .int (nI (v))), (0, .ref b), (1, .ref a), (2, .int (nI (n)))] → W p l e (rmL 2) s m args below meth c H locs 0 0 Qf (F0 m 5 ls []) := by
    intro N; induction N with
    | zero => intro v i _ _ hm; omega
    | succ N ih_5 =>
      intro v i hi hv hm H locs hP hD hS ls hl
      refine lv_iload hx hb dX0_excuseBehind_5 (lv_at hl 0 rfl) ?_
      refine lv_aload_n hx hb dX0_excuseBehind_7 rfl (lv_at hl 3 rfl) ?_
      refine gf_0_61 hx hb hts hown hK hP 8 rfl rfl dX0_excuseBehind_8 ?_
      refine n_icmp_ge (tgt := 41) hx hb dX0_excuseBehind_11 (by decide) (by omega) (by omega) (fun c_1 => ?_) (fun c_1 => ?_)
      · -- 11 to 41
        refine lv_iload_n hx hb dX0_excuseBehind_41 rfl (lv_at hl 1 rfl) ?_
        refine hret hP hD hS dX0_excuseBehind_42 rfl rfl ?_
        exact ⟨by rw [hv, show i = bx 0 by omega]; rfl, rfl⟩
      · -- 11 to 14
        refine lv_iload_n hx hb dX0_excuseBehind_14 rfl (lv_at hl 1 rfl) ?_
        refine lv_aload_n hx hb dX0_excuseBehind_15 rfl (lv_at hl 3 rfl) ?_
        refine gf_0_64 hx hb hts hown hK hP 8 rfl rfl dX0_excuseBehind_16 ?_
        refine lv_iload hx hb dX0_excuseBehind_19 (lv_at hl 0 rfl) ?_
        have hrow := hR.r i (by omega)
        have hrx := hX.u hR.b i (by omega)
        refine cl_0_57 (As := [.ref (pq 3), .int (nI (i))]) (rest := [.int (nI (v))]) hx hb hml hts hown (k_X6_at (by first | assumption | omega) (by first | assumption | omega)) (by decide) ⟨Nat.zero_le _, Nat.zero_le _⟩ hK hP hD hS hA [12] rfl (by decide) rfl hl.1 rfl (Nat.le_of_ble_eq_true rfl) dX0_excuseBehind_21 (fun r_2 u H locs hp_3 hP hD hS => ?_)
        obtain ⟨rfl, rfl⟩ := hp_3
        have hP : va_P D vwCl [bO b bq fi (nw 2) (nw 0) (nw 1), (bq 0, .inl (cI, 4, .inl (fun z_ => nI (up z_)))), (bq 1, .inl (cI, 4, .inl (fun z_ => nI (st z_)))), (bq 2, .inl (cI, 12, .inl (fun z_ => nI (ex z_)))), (bq 3, .inl (cI, 12, .inl (fun z_ => nI (tl z_)))), (bq 4, .inl (cI, 12, .inl (fun z_ => nI (he z_)))), (bq 5, .inl (cI, 12, .inl (fun z_ => nI (dy z_)))), (bq 6, .inl (cI, 12, .inl (fun z_ => nI (se z_)))), pO a pq (bx 0) (bx 2) (bx 1) (szN bx (bx 0)) (bx 3) (bx 4), (pq 0, .inl (cI, 4, .inl (fun z_ => nI (te z_)))), (pq 1, .inl (cI, 4, .inl (fun z_ => nI (ps z_)))), (pq 2, .inl (cI, 4, .inl (fun z_ => nI (pu z_)))), (pq 3, .inl (cI, 4, .inl (fun z_ => nI (sd z_)))), (pq 4, .inl (cI, 8, .inl (fun z_ => nI (cj z_)))), (pq 5, .inl (cI, 5, .inl (fun z_ => nI (ta z_))))] _ := hP
        have hD : va_D A [bO b bq fi (nw 2) (nw 0) (nw 1), (bq 0, .inl (cI, 4, .inl (fun z_ => nI (up z_)))), (bq 1, .inl (cI, 4, .inl (fun z_ => nI (st z_)))), (bq 2, .inl (cI, 12, .inl (fun z_ => nI (ex z_)))), (bq 3, .inl (cI, 12, .inl (fun z_ => nI (tl z_)))), (bq 4, .inl (cI, 12, .inl (fun z_ => nI (he z_)))), (bq 5, .inl (cI, 12, .inl (fun z_ => nI (dy z_)))), (bq 6, .inl (cI, 12, .inl (fun z_ => nI (se z_)))), pO a pq (bx 0) (bx 2) (bx 1) (szN bx (bx 0)) (bx 3) (bx 4), (pq 0, .inl (cI, 4, .inl (fun z_ => nI (te z_)))), (pq 1, .inl (cI, 4, .inl (fun z_ => nI (ps z_)))), (pq 2, .inl (cI, 4, .inl (fun z_ => nI (pu z_)))), (pq 3, .inl (cI, 4, .inl (fun z_ => nI (sd z_)))), (pq 4, .inl (cI, 8, .inl (fun z_ => nI (cj z_)))), (pq 5, .inl (cI, 5, .inl (fun z_ => nI (ta z_))))] := hD
        refine lv_aload_n hx hb dX0_excuseBehind_24 rfl (lv_at hl 2 rfl) ?_
        refine lv_aload_n hx hb dX0_excuseBehind_25 rfl (lv_at hl 3 rfl) ?_
        refine lv_iload hx hb dX0_excuseBehind_26 (lv_at hl 0 rfl) ?_
        refine lv_iload_n hx hb dX0_excuseBehind_28 rfl (lv_at hl 4 rfl) ?_
        refine cl_0_67 (As := [.ref a, .int (nI (i)), .int (nI (n))]) (rest := [.int (nI (sd i)), .int (nI (v))]) hx hb hml hts hown (k_X0_toothBehind (by first | assumption | omega) (by first | assumption | omega) (by first | assumption | omega) (by first | assumption | omega) (by first | assumption | omega)) (by decide) ⟨Nat.zero_le _, Nat.zero_le _⟩ hK hP hD hS hA 0 rfl [0, 1, 2, 3, 4, 5, 6, 7, 8, 9, 10, 11, 12, 13, 14] rfl (by decide) rfl hl.1 rfl (Nat.le_of_ble_eq_true rfl) dX0_excuseBehind_29 (fun r_4 u H locs hp_5 hP hD hS => ?_)
        obtain ⟨rfl, rfl⟩ := hp_5
        have hP : va_P D vwCl [bO b bq fi (nw 2) (nw 0) (nw 1), (bq 0, .inl (cI, 4, .inl (fun z_ => nI (up z_)))), (bq 1, .inl (cI, 4, .inl (fun z_ => nI (st z_)))), (bq 2, .inl (cI, 12, .inl (fun z_ => nI (ex z_)))), (bq 3, .inl (cI, 12, .inl (fun z_ => nI (tl z_)))), (bq 4, .inl (cI, 12, .inl (fun z_ => nI (he z_)))), (bq 5, .inl (cI, 12, .inl (fun z_ => nI (dy z_)))), (bq 6, .inl (cI, 12, .inl (fun z_ => nI (se z_)))), pO a pq (bx 0) (bx 2) (bx 1) (szN bx (bx 0)) (bx 3) (bx 4), (pq 0, .inl (cI, 4, .inl (fun z_ => nI (te z_)))), (pq 1, .inl (cI, 4, .inl (fun z_ => nI (ps z_)))), (pq 2, .inl (cI, 4, .inl (fun z_ => nI (pu z_)))), (pq 3, .inl (cI, 4, .inl (fun z_ => nI (sd z_)))), (pq 4, .inl (cI, 8, .inl (fun z_ => nI (cj z_)))), (pq 5, .inl (cI, 5, .inl (fun z_ => nI (ta z_))))] _ := hP
        have hD : va_D A [bO b bq fi (nw 2) (nw 0) (nw 1), (bq 0, .inl (cI, 4, .inl (fun z_ => nI (up z_)))), (bq 1, .inl (cI, 4, .inl (fun z_ => nI (st z_)))), (bq 2, .inl (cI, 12, .inl (fun z_ => nI (ex z_)))), (bq 3, .inl (cI, 12, .inl (fun z_ => nI (tl z_)))), (bq 4, .inl (cI, 12, .inl (fun z_ => nI (he z_)))), (bq 5, .inl (cI, 12, .inl (fun z_ => nI (dy z_)))), (bq 6, .inl (cI, 12, .inl (fun z_ => nI (se z_)))), pO a pq (bx 0) (bx 2) (bx 1) (szN bx (bx 0)) (bx 3) (bx 4), (pq 0, .inl (cI, 4, .inl (fun z_ => nI (te z_)))), (pq 1, .inl (cI, 4, .inl (fun z_ => nI (ps z_)))), (pq 2, .inl (cI, 4, .inl (fun z_ => nI (pu z_)))), (pq 3, .inl (cI, 4, .inl (fun z_ => nI (sd z_)))), (pq 4, .inl (cI, 8, .inl (fun z_ => nI (cj z_)))), (pq 5, .inl (cI, 5, .inl (fun z_ => nI (ta z_))))] := hD
        refine n_imul hx hb dX0_excuseBehind_32  ?_
        refine n_iadd hx hb dX0_excuseBehind_33  ?_
        refine lv_istore_n (lv' := [(3, .int (nI (v + ((sd i) * ((up i + st i * n) % bx (5 + i)))))), (4, .int (nI (i))), (0, .ref b), (1, .ref a), (2, .int (nI (n)))]) hx hb dX0_excuseBehind_34 rfl hl (by decide) rfl (fun ls hl => ?_)
        refine lv_iinc (v := nI (i + 1)) (lv' := [(4, .int (nI (i + 1))), (3, .int (nI (v + ((sd i) * ((up i + st i * n) % bx (5 + i)))))), (0, .ref b), (1, .ref a), (2, .int (nI (n)))]) hx hb dX0_excuseBehind_35 hl (k := 1) rfl (n_inc _ 1) (by decide) rfl (fun ls hl => ?_)
        refine lv_goto (tgt := 5) hx hb dX0_excuseBehind_38 (by decide) ?_
        exact ih_5 (v + ((sd i) * ((up i + st i * n) % bx (5 + i)))) (i + 1) (by omega) (by rw [hv, hrow.2.2.2, hrx.1, hrx.2.1]; rfl) (by omega) _ _ hP hD hS _ (lv_sub hl [0, 1, 2, 3, 4] rfl)
  exact loop_5 _ 0 0 (by omega) rfl (Nat.lt_succ_self _) _ _ hP hD hS _ (lv_sub hl [0, 1, 2, 3, 4] rfl)
set_option maxHeartbeats 4000000 in
set_option maxRecDepth 100000 in
theorem k_X0_turnBy {l : Launch} {D : va_G} {cI cC cB : ClassId} {a : Nat} {pq : Nat → Nat} {bx te ps pu sd cj ta : Nat → Nat} {b : Nat} {bq : Nat → Nat} {nw up st ex tl he dy se : Nat → Nat} {fi : Nat} {n : Nat} (hR : PlR bx te ps pu sd cj ta) (hX : BoR bx nw up st ex tl he dy se fi) (hn : n ≤ 100000) : MV l yX0_turnBy cX0_turnBy 4 none 2 D (Ty3 cI cC cB) [.ref b, .ref a, .int (nI (n))] [bO b bq fi (nw 2) (nw 0) (nw 1), (bq 0, .inl (cI, 4, .inl (fun z_ => nI (up z_)))), (bq 1, .inl (cI, 4, .inl (fun z_ => nI (st z_)))), (bq 2, .inl (cI, 12, .inl (fun z_ => nI (ex z_)))), (bq 3, .inl (cI, 12, .inl (fun z_ => nI (tl z_)))), (bq 4, .inl (cI, 12, .inl (fun z_ => nI (he z_)))), (bq 5, .inl (cI, 12, .inl (fun z_ => nI (dy z_)))), (bq 6, .inl (cI, 12, .inl (fun z_ => nI (se z_)))), pO a pq (bx 0) (bx 2) (bx 1) (szN bx (bx 0)) (bx 3) (bx 4), (pq 0, .inl (cI, 4, .inl (fun z_ => nI (te z_)))), (pq 1, .inl (cI, 4, .inl (fun z_ => nI (ps z_)))), (pq 2, .inl (cI, 4, .inl (fun z_ => nI (pu z_)))), (pq 3, .inl (cI, 4, .inl (fun z_ => nI (sd z_)))), (pq 4, .inl (cI, 8, .inl (fun z_ => nI (cj z_)))), (pq 5, .inl (cI, 5, .inl (fun z_ => nI (ta z_))))] (fun (u : va_W) => (u = [bO b bq fi (nw 2) (nw 0) (nw 1 + n), (bq 0, .inl (cI, 4, .inl (fun z_ => nI ((upI bx up st n (bx 0)) z_)))), (bq 1, .inl (cI, 4, .inl (fun z_ => nI (st z_)))), (bq 2, .inl (cI, 12, .inl (fun z_ => nI (ex z_)))), (bq 3, .inl (cI, 12, .inl (fun z_ => nI (tl z_)))), (bq 4, .inl (cI, 12, .inl (fun z_ => nI (he z_)))), (bq 5, .inl (cI, 12, .inl (fun z_ => nI (dy z_)))), (bq 6, .inl (cI, 12, .inl (fun z_ => nI (se z_)))), pO a pq (bx 0) (bx 2) (bx 1) (szN bx (bx 0)) (bx 3) (bx 4), (pq 0, .inl (cI, 4, .inl (fun z_ => nI (te z_)))), (pq 1, .inl (cI, 4, .inl (fun z_ => nI (ps z_)))), (pq 2, .inl (cI, 4, .inl (fun z_ => nI (pu z_)))), (pq 3, .inl (cI, 4, .inl (fun z_ => nI (sd z_)))), (pq 4, .inl (cI, 8, .inl (fun z_ => nI (cj z_)))), (pq 5, .inl (cI, 5, .inl (fun z_ => nI (ta z_))))])) := by
  intro sz
  refine MV.walk (by decide +kernel) (Nat.le_of_ble_eq_true rfl) ?_
  intro p e s m args below meth c A Qf hx hb hml hts hown hret hK hP hD hS hA ls hl
  have hown : s.vm.findClass RX0 = some m.cls := hown
  have hl : lv_has ls 4 [(0, .ref b), (1, .ref a), (2, .int (nI (n)))] := hl
  have hP : va_P D vwCl [bO b bq fi (nw 2) (nw 0) (nw 1), (bq 0, .inl (cI, 4, .inl (fun z_ => nI (up z_)))), (bq 1, .inl (cI, 4, .inl (fun z_ => nI (st z_)))), (bq 2, .inl (cI, 12, .inl (fun z_ => nI (ex z_)))), (bq 3, .inl (cI, 12, .inl (fun z_ => nI (tl z_)))), (bq 4, .inl (cI, 12, .inl (fun z_ => nI (he z_)))), (bq 5, .inl (cI, 12, .inl (fun z_ => nI (dy z_)))), (bq 6, .inl (cI, 12, .inl (fun z_ => nI (se z_)))), pO a pq (bx 0) (bx 2) (bx 1) (szN bx (bx 0)) (bx 3) (bx 4), (pq 0, .inl (cI, 4, .inl (fun z_ => nI (te z_)))), (pq 1, .inl (cI, 4, .inl (fun z_ => nI (ps z_)))), (pq 2, .inl (cI, 4, .inl (fun z_ => nI (pu z_)))), (pq 3, .inl (cI, 4, .inl (fun z_ => nI (sd z_)))), (pq 4, .inl (cI, 8, .inl (fun z_ => nI (cj z_)))), (pq 5, .inl (cI, 5, .inl (fun z_ => nI (ta z_))))] s.heap := hP
  have hD : va_D A [bO b bq fi (nw 2) (nw 0) (nw 1), (bq 0, .inl (cI, 4, .inl (fun z_ => nI (up z_)))), (bq 1, .inl (cI, 4, .inl (fun z_ => nI (st z_)))), (bq 2, .inl (cI, 12, .inl (fun z_ => nI (ex z_)))), (bq 3, .inl (cI, 12, .inl (fun z_ => nI (tl z_)))), (bq 4, .inl (cI, 12, .inl (fun z_ => nI (he z_)))), (bq 5, .inl (cI, 12, .inl (fun z_ => nI (dy z_)))), (bq 6, .inl (cI, 12, .inl (fun z_ => nI (se z_)))), pO a pq (bx 0) (bx 2) (bx 1) (szN bx (bx 0)) (bx 3) (bx 4), (pq 0, .inl (cI, 4, .inl (fun z_ => nI (te z_)))), (pq 1, .inl (cI, 4, .inl (fun z_ => nI (ps z_)))), (pq 2, .inl (cI, 4, .inl (fun z_ => nI (pu z_)))), (pq 3, .inl (cI, 4, .inl (fun z_ => nI (sd z_)))), (pq 4, .inl (cI, 8, .inl (fun z_ => nI (cj z_)))), (pq 5, .inl (cI, 5, .inl (fun z_ => nI (ta z_))))] := hD
  have hw := hR.b.w
  refine lv_iconst (v := nI 0) hx hb dX0_turnBy_0 (by decide) ?_
  refine lv_istore_n (lv' := [(3, .int (nI (0))), (0, .ref b), (1, .ref a), (2, .int (nI (n)))]) hx hb dX0_turnBy_1 rfl hl (by decide) rfl (fun ls hl => ?_)
  have loop_2 : ∀ (N : Nat) (i : Nat) (g : Nat → Nat), (i ≤ bx 0) → (g = upI bx up st n i) → (bx 0 - i) < N → ∀ (H : Heap) (locs : List Loc), va_P D vwCl [bO b bq fi (nw 2) (nw 0) (nw 1), (bq 0, .inl (cI, 4, .inl (fun z_ => nI (g z_)))), (bq 1, .inl (cI, 4, .inl (fun z_ => nI (st z_)))), (bq 2, .inl (cI, 12, .inl (fun z_ => nI (ex z_)))), (bq 3, .inl (cI, 12, .inl (fun z_ => nI (tl z_)))), (bq 4, .inl (cI, 12, .inl (fun z_ => nI (he z_)))), (bq 5, .inl (cI, 12, .inl (fun z_ => nI (dy z_)))), (bq 6, .inl (cI, 12, .inl (fun z_ => nI (se z_)))), pO a pq (bx 0) (bx 2) (bx 1) (szN bx (bx 0)) (bx 3) (bx 4), (pq 0, .inl (cI, 4, .inl (fun z_ => nI (te z_)))), (pq 1, .inl (cI, 4, .inl (fun z_ => nI (ps z_)))), (pq 2, .inl (cI, 4, .inl (fun z_ => nI (pu z_)))), (pq 3, .inl (cI, 4, .inl (fun z_ => nI (sd z_)))), (pq 4, .inl (cI, 8, .inl (fun z_ => nI (cj z_)))), (pq 5, .inl (cI, 5, .inl (fun z_ => nI (ta z_))))] H → va_D A [bO b bq fi (nw 2) (nw 0) (nw 1), (bq 0, .inl (cI, 4, .inl (fun z_ => nI (g z_)))), (bq 1, .inl (cI, 4, .inl (fun z_ => nI (st z_)))), (bq 2, .inl (cI, 12, .inl (fun z_ => nI (ex z_)))), (bq 3, .inl (cI, 12, .inl (fun z_ => nI (tl z_)))), (bq 4, .inl (cI, 12, .inl (fun z_ => nI (he z_)))), (bq 5, .inl (cI, 12, .inl (fun z_ => nI (dy z_)))), (bq 6, .inl (cI, 12, .inl (fun z_ => nI (se z_)))), pO a pq (bx 0) (bx 2) (bx 1) (szN bx (bx 0)) (bx 3) (bx 4), (pq 0, .inl (cI, 4, .inl (fun z_ => nI (te z_)))), (pq 1, .inl (cI, 4, .inl (fun z_ => nI (ps z_)))), (pq 2, .inl (cI, 4, .inl (fun z_ => nI (pu z_)))), (pq 3, .inl (cI, 4, .inl (fun z_ => nI (sd z_)))), (pq 4, .inl (cI, 8, .inl (fun z_ => nI (cj z_)))), (pq 5, .inl (cI, 5, .inl (fun z_ => nI (ta z_))))] → va_S A s.heap H locs → ∀ ls : Array Slot, lv_has ls 4 [(3, .int (nI (i))), (0, .ref b), (1, .ref a), (2, .int (nI (n)))] → W p l e (rmL 2) s m args below meth c H locs 0 0 Qf (F0 m 2 ls []) := by
    intro N; induction N with
    | zero => intro i g _ _ hm; omega
    | succ N ih_2 =>
      intro i g hi hg hm H locs hP hD hS ls hl
      refine lv_iload_n hx hb dX0_turnBy_2 rfl (lv_at hl 0 rfl) ?_
      refine lv_aload_n hx hb dX0_turnBy_3 rfl (lv_at hl 2 rfl) ?_
      refine gf_0_61 hx hb hts hown hK hP 8 rfl rfl dX0_turnBy_4 ?_
      refine n_icmp_ge (tgt := 31) hx hb dX0_turnBy_7 (by decide) (by omega) (by omega) (fun c_1 => ?_) (fun c_1 => ?_)
      · -- 7 to 31
        refine lv_aload_n hx hb dX0_turnBy_31 rfl (lv_at hl 1 rfl) ?_
        refine lv_dup hx hb dX0_turnBy_32 rfl ?_
        refine gf_0_51 hx hb hts hown hK hP 0 rfl rfl dX0_turnBy_33 ?_
        refine lv_iload_n hx hb dX0_turnBy_36 rfl (lv_at hl 3 rfl) ?_
        refine n_iadd hx hb dX0_turnBy_37  ?_
        refine pf_0_51 hx hb hts hown hK hP hD hS 0 rfl (Nat.le_of_ble_eq_true rfl) dX0_turnBy_38 (fun H locs hP hD hS => ?_)
        have hP : va_P D vwCl [bO b bq fi (nw 2) (nw 0) ((nw 1) + n), (bq 0, .inl (cI, 4, .inl (fun z_ => nI (g z_)))), (bq 1, .inl (cI, 4, .inl (fun z_ => nI (st z_)))), (bq 2, .inl (cI, 12, .inl (fun z_ => nI (ex z_)))), (bq 3, .inl (cI, 12, .inl (fun z_ => nI (tl z_)))), (bq 4, .inl (cI, 12, .inl (fun z_ => nI (he z_)))), (bq 5, .inl (cI, 12, .inl (fun z_ => nI (dy z_)))), (bq 6, .inl (cI, 12, .inl (fun z_ => nI (se z_)))), pO a pq (bx 0) (bx 2) (bx 1) (szN bx (bx 0)) (bx 3) (bx 4), (pq 0, .inl (cI, 4, .inl (fun z_ => nI (te z_)))), (pq 1, .inl (cI, 4, .inl (fun z_ => nI (ps z_)))), (pq 2, .inl (cI, 4, .inl (fun z_ => nI (pu z_)))), (pq 3, .inl (cI, 4, .inl (fun z_ => nI (sd z_)))), (pq 4, .inl (cI, 8, .inl (fun z_ => nI (cj z_)))), (pq 5, .inl (cI, 5, .inl (fun z_ => nI (ta z_))))] _ := hP
        have hD : va_D A [bO b bq fi (nw 2) (nw 0) ((nw 1) + n), (bq 0, .inl (cI, 4, .inl (fun z_ => nI (g z_)))), (bq 1, .inl (cI, 4, .inl (fun z_ => nI (st z_)))), (bq 2, .inl (cI, 12, .inl (fun z_ => nI (ex z_)))), (bq 3, .inl (cI, 12, .inl (fun z_ => nI (tl z_)))), (bq 4, .inl (cI, 12, .inl (fun z_ => nI (he z_)))), (bq 5, .inl (cI, 12, .inl (fun z_ => nI (dy z_)))), (bq 6, .inl (cI, 12, .inl (fun z_ => nI (se z_)))), pO a pq (bx 0) (bx 2) (bx 1) (szN bx (bx 0)) (bx 3) (bx 4), (pq 0, .inl (cI, 4, .inl (fun z_ => nI (te z_)))), (pq 1, .inl (cI, 4, .inl (fun z_ => nI (ps z_)))), (pq 2, .inl (cI, 4, .inl (fun z_ => nI (pu z_)))), (pq 3, .inl (cI, 4, .inl (fun z_ => nI (sd z_)))), (pq 4, .inl (cI, 8, .inl (fun z_ => nI (cj z_)))), (pq 5, .inl (cI, 5, .inl (fun z_ => nI (ta z_))))] := hD
        refine hret hP hD hS dX0_turnBy_41 rfl ?_
        have hi9 : i = bx 0 := by omega
        rw [hg, hi9]
      · -- 7 to 10
        refine lv_aload_n hx hb dX0_turnBy_10 rfl (lv_at hl 1 rfl) ?_
        refine gf_0_9 hx hb hts hown hK hP 0 rfl rfl dX0_turnBy_11 ?_
        refine lv_iload_n hx hb dX0_turnBy_14 rfl (lv_at hl 0 rfl) ?_
        refine lv_aload_n hx hb dX0_turnBy_15 rfl (lv_at hl 1 rfl) ?_
        refine lv_aload_n hx hb dX0_turnBy_16 rfl (lv_at hl 2 rfl) ?_
        refine lv_iload_n hx hb dX0_turnBy_17 rfl (lv_at hl 0 rfl) ?_
        refine lv_iload_n hx hb dX0_turnBy_18 rfl (lv_at hl 3 rfl) ?_
        have hrx := hX.u hR.b i (by omega)
        have hgi : g i = up i := by rw [hg]; exact upI_i bx up st n i
        refine cl_0_67 (As := [.ref a, .int (nI (i)), .int (nI (n))]) (rest := [.int (nI (i)), .ref (bq 0)]) hx hb hml hts hown (k_X0_toothBehind hR (by omega) (by rw [hgi]; omega) (by omega) hn) (by decide) ⟨Nat.zero_le _, Nat.zero_le _⟩ hK hP hD hS hA 0 rfl [0, 1, 2, 3, 4, 5, 6, 7, 8, 9, 10, 11, 12, 13, 14] rfl (by decide) rfl hl.1 rfl (Nat.le_of_ble_eq_true rfl) dX0_turnBy_19 (fun r_2 u H locs hp_3 hP hD hS => ?_)
        obtain ⟨rfl, rfl⟩ := hp_3
        have hP : va_P D vwCl [bO b bq fi (nw 2) (nw 0) (nw 1), (bq 0, .inl (cI, 4, .inl (fun z_ => nI (g z_)))), (bq 1, .inl (cI, 4, .inl (fun z_ => nI (st z_)))), (bq 2, .inl (cI, 12, .inl (fun z_ => nI (ex z_)))), (bq 3, .inl (cI, 12, .inl (fun z_ => nI (tl z_)))), (bq 4, .inl (cI, 12, .inl (fun z_ => nI (he z_)))), (bq 5, .inl (cI, 12, .inl (fun z_ => nI (dy z_)))), (bq 6, .inl (cI, 12, .inl (fun z_ => nI (se z_)))), pO a pq (bx 0) (bx 2) (bx 1) (szN bx (bx 0)) (bx 3) (bx 4), (pq 0, .inl (cI, 4, .inl (fun z_ => nI (te z_)))), (pq 1, .inl (cI, 4, .inl (fun z_ => nI (ps z_)))), (pq 2, .inl (cI, 4, .inl (fun z_ => nI (pu z_)))), (pq 3, .inl (cI, 4, .inl (fun z_ => nI (sd z_)))), (pq 4, .inl (cI, 8, .inl (fun z_ => nI (cj z_)))), (pq 5, .inl (cI, 5, .inl (fun z_ => nI (ta z_))))] _ := hP
        have hD : va_D A [bO b bq fi (nw 2) (nw 0) (nw 1), (bq 0, .inl (cI, 4, .inl (fun z_ => nI (g z_)))), (bq 1, .inl (cI, 4, .inl (fun z_ => nI (st z_)))), (bq 2, .inl (cI, 12, .inl (fun z_ => nI (ex z_)))), (bq 3, .inl (cI, 12, .inl (fun z_ => nI (tl z_)))), (bq 4, .inl (cI, 12, .inl (fun z_ => nI (he z_)))), (bq 5, .inl (cI, 12, .inl (fun z_ => nI (dy z_)))), (bq 6, .inl (cI, 12, .inl (fun z_ => nI (se z_)))), pO a pq (bx 0) (bx 2) (bx 1) (szN bx (bx 0)) (bx 3) (bx 4), (pq 0, .inl (cI, 4, .inl (fun z_ => nI (te z_)))), (pq 1, .inl (cI, 4, .inl (fun z_ => nI (ps z_)))), (pq 2, .inl (cI, 4, .inl (fun z_ => nI (pu z_)))), (pq 3, .inl (cI, 4, .inl (fun z_ => nI (sd z_)))), (pq 4, .inl (cI, 8, .inl (fun z_ => nI (cj z_)))), (pq 5, .inl (cI, 5, .inl (fun z_ => nI (ta z_))))] := hD
        refine cl_0_71 (As := [.ref (bq 0), .int (nI (i)), .int (nI ((g i + st i * n) % bx (5 + i)))]) (rest := []) hx hb hml hts hown (k_X6_put (by first | assumption | omega) (by first | assumption | omega)) (by decide) ⟨Nat.zero_le _, Nat.zero_le _⟩ hK hP hD hS hA [1] rfl (by decide) rfl hl.1 rfl (Nat.le_of_ble_eq_true rfl) dX0_turnBy_22 (fun  u H locs hp_4 hP hD hS => ?_)
        subst hp_4
        have hP : va_P D vwCl [bO b bq fi (nw 2) (nw 0) (nw 1), (bq 0, .inl (cI, 4, .inl (fun z_ => nI ((up1 g i ((g i + st i * n) % bx (5 + i))) z_)))), (bq 1, .inl (cI, 4, .inl (fun z_ => nI (st z_)))), (bq 2, .inl (cI, 12, .inl (fun z_ => nI (ex z_)))), (bq 3, .inl (cI, 12, .inl (fun z_ => nI (tl z_)))), (bq 4, .inl (cI, 12, .inl (fun z_ => nI (he z_)))), (bq 5, .inl (cI, 12, .inl (fun z_ => nI (dy z_)))), (bq 6, .inl (cI, 12, .inl (fun z_ => nI (se z_)))), pO a pq (bx 0) (bx 2) (bx 1) (szN bx (bx 0)) (bx 3) (bx 4), (pq 0, .inl (cI, 4, .inl (fun z_ => nI (te z_)))), (pq 1, .inl (cI, 4, .inl (fun z_ => nI (ps z_)))), (pq 2, .inl (cI, 4, .inl (fun z_ => nI (pu z_)))), (pq 3, .inl (cI, 4, .inl (fun z_ => nI (sd z_)))), (pq 4, .inl (cI, 8, .inl (fun z_ => nI (cj z_)))), (pq 5, .inl (cI, 5, .inl (fun z_ => nI (ta z_))))] _ := hP
        have hD : va_D A [bO b bq fi (nw 2) (nw 0) (nw 1), (bq 0, .inl (cI, 4, .inl (fun z_ => nI ((up1 g i ((g i + st i * n) % bx (5 + i))) z_)))), (bq 1, .inl (cI, 4, .inl (fun z_ => nI (st z_)))), (bq 2, .inl (cI, 12, .inl (fun z_ => nI (ex z_)))), (bq 3, .inl (cI, 12, .inl (fun z_ => nI (tl z_)))), (bq 4, .inl (cI, 12, .inl (fun z_ => nI (he z_)))), (bq 5, .inl (cI, 12, .inl (fun z_ => nI (dy z_)))), (bq 6, .inl (cI, 12, .inl (fun z_ => nI (se z_)))), pO a pq (bx 0) (bx 2) (bx 1) (szN bx (bx 0)) (bx 3) (bx 4), (pq 0, .inl (cI, 4, .inl (fun z_ => nI (te z_)))), (pq 1, .inl (cI, 4, .inl (fun z_ => nI (ps z_)))), (pq 2, .inl (cI, 4, .inl (fun z_ => nI (pu z_)))), (pq 3, .inl (cI, 4, .inl (fun z_ => nI (sd z_)))), (pq 4, .inl (cI, 8, .inl (fun z_ => nI (cj z_)))), (pq 5, .inl (cI, 5, .inl (fun z_ => nI (ta z_))))] := hD
        refine lv_iinc (v := nI (i + 1)) (lv' := [(3, .int (nI (i + 1))), (0, .ref b), (1, .ref a), (2, .int (nI (n)))]) hx hb dX0_turnBy_25 hl (k := 0) rfl (n_inc _ 1) (by decide) rfl (fun ls hl => ?_)
        refine lv_goto (tgt := 2) hx hb dX0_turnBy_28 (by decide) ?_
        exact ih_2 (i + 1) (up1 g i ((g i + st i * n) % bx (5 + i))) (by omega) (by rw [hgi, hg]; exact upI_s bx up st n i) (by omega) _ _ hP hD hS _ (lv_sub hl [0, 1, 2, 3] rfl)
  exact loop_2 _ 0 up (by omega) (upI_0 bx up st n).symm (Nat.lt_succ_self _) _ _ hP hD hS _ (lv_sub hl [0, 1, 2, 3] rfl)
set_option maxHeartbeats 4000000 in
set_option maxRecDepth 100000 in
theorem k_X0_turnsInRound {l : Launch} {D : va_G} {cI cC cB : ClassId} {a : Nat} {pq : Nat → Nat} {bx te ps pu sd cj ta : Nat → Nat} {b : Nat} {bq : Nat → Nat} {nw up st ex tl he dy se : Nat → Nat} {fi : Nat}  (hR : PlR bx te ps pu sd cj ta) (hX : BoR bx nw up st ex tl he dy se fi) : MI l yX0_turnsInRound cX0_turnsInRound 8 (some .int) 1 D (Ty3 cI cC cB) [.ref b, .ref a] [bO b bq fi (nw 2) (nw 0) (nw 1), (bq 0, .inl (cI, 4, .inl (fun z_ => nI (up z_)))), (bq 1, .inl (cI, 4, .inl (fun z_ => nI (st z_)))), (bq 2, .inl (cI, 12, .inl (fun z_ => nI (ex z_)))), (bq 3, .inl (cI, 12, .inl (fun z_ => nI (tl z_)))), (bq 4, .inl (cI, 12, .inl (fun z_ => nI (he z_)))), (bq 5, .inl (cI, 12, .inl (fun z_ => nI (dy z_)))), (bq 6, .inl (cI, 12, .inl (fun z_ => nI (se z_)))), pO a pq (bx 0) (bx 2) (bx 1) (szN bx (bx 0)) (bx 3) (bx 4), (pq 0, .inl (cI, 4, .inl (fun z_ => nI (te z_)))), (pq 1, .inl (cI, 4, .inl (fun z_ => nI (ps z_)))), (pq 2, .inl (cI, 4, .inl (fun z_ => nI (pu z_)))), (pq 3, .inl (cI, 4, .inl (fun z_ => nI (sd z_)))), (pq 4, .inl (cI, 8, .inl (fun z_ => nI (cj z_)))), (pq 5, .inl (cI, 5, .inl (fun z_ => nI (ta z_))))] (fun r u => (r = nI (rdN bx nw (bx 0)) ∧ u = [bO b bq fi (nw 2) (nw 0) (nw 1), (bq 0, .inl (cI, 4, .inl (fun z_ => nI (up z_)))), (bq 1, .inl (cI, 4, .inl (fun z_ => nI (st z_)))), (bq 2, .inl (cI, 12, .inl (fun z_ => nI (ex z_)))), (bq 3, .inl (cI, 12, .inl (fun z_ => nI (tl z_)))), (bq 4, .inl (cI, 12, .inl (fun z_ => nI (he z_)))), (bq 5, .inl (cI, 12, .inl (fun z_ => nI (dy z_)))), (bq 6, .inl (cI, 12, .inl (fun z_ => nI (se z_)))), pO a pq (bx 0) (bx 2) (bx 1) (szN bx (bx 0)) (bx 3) (bx 4), (pq 0, .inl (cI, 4, .inl (fun z_ => nI (te z_)))), (pq 1, .inl (cI, 4, .inl (fun z_ => nI (ps z_)))), (pq 2, .inl (cI, 4, .inl (fun z_ => nI (pu z_)))), (pq 3, .inl (cI, 4, .inl (fun z_ => nI (sd z_)))), (pq 4, .inl (cI, 8, .inl (fun z_ => nI (cj z_)))), (pq 5, .inl (cI, 5, .inl (fun z_ => nI (ta z_))))])) := by
  intro sz
  refine MI.walk (by decide +kernel) (Nat.le_of_ble_eq_true rfl) ?_
  intro p e s m args below meth c A Qf hx hb hml hts hown hret hK hP hD hS hA ls hl
  have hown : s.vm.findClass RX0 = some m.cls := hown
  have hl : lv_has ls 8 [(0, .ref b), (1, .ref a)] := hl
  have hP : va_P D vwCl [bO b bq fi (nw 2) (nw 0) (nw 1), (bq 0, .inl (cI, 4, .inl (fun z_ => nI (up z_)))), (bq 1, .inl (cI, 4, .inl (fun z_ => nI (st z_)))), (bq 2, .inl (cI, 12, .inl (fun z_ => nI (ex z_)))), (bq 3, .inl (cI, 12, .inl (fun z_ => nI (tl z_)))), (bq 4, .inl (cI, 12, .inl (fun z_ => nI (he z_)))), (bq 5, .inl (cI, 12, .inl (fun z_ => nI (dy z_)))), (bq 6, .inl (cI, 12, .inl (fun z_ => nI (se z_)))), pO a pq (bx 0) (bx 2) (bx 1) (szN bx (bx 0)) (bx 3) (bx 4), (pq 0, .inl (cI, 4, .inl (fun z_ => nI (te z_)))), (pq 1, .inl (cI, 4, .inl (fun z_ => nI (ps z_)))), (pq 2, .inl (cI, 4, .inl (fun z_ => nI (pu z_)))), (pq 3, .inl (cI, 4, .inl (fun z_ => nI (sd z_)))), (pq 4, .inl (cI, 8, .inl (fun z_ => nI (cj z_)))), (pq 5, .inl (cI, 5, .inl (fun z_ => nI (ta z_))))] s.heap := hP
  have hD : va_D A [bO b bq fi (nw 2) (nw 0) (nw 1), (bq 0, .inl (cI, 4, .inl (fun z_ => nI (up z_)))), (bq 1, .inl (cI, 4, .inl (fun z_ => nI (st z_)))), (bq 2, .inl (cI, 12, .inl (fun z_ => nI (ex z_)))), (bq 3, .inl (cI, 12, .inl (fun z_ => nI (tl z_)))), (bq 4, .inl (cI, 12, .inl (fun z_ => nI (he z_)))), (bq 5, .inl (cI, 12, .inl (fun z_ => nI (dy z_)))), (bq 6, .inl (cI, 12, .inl (fun z_ => nI (se z_)))), pO a pq (bx 0) (bx 2) (bx 1) (szN bx (bx 0)) (bx 3) (bx 4), (pq 0, .inl (cI, 4, .inl (fun z_ => nI (te z_)))), (pq 1, .inl (cI, 4, .inl (fun z_ => nI (ps z_)))), (pq 2, .inl (cI, 4, .inl (fun z_ => nI (pu z_)))), (pq 3, .inl (cI, 4, .inl (fun z_ => nI (sd z_)))), (pq 4, .inl (cI, 8, .inl (fun z_ => nI (cj z_)))), (pq 5, .inl (cI, 5, .inl (fun z_ => nI (ta z_))))] := hD
  have hw := hR.b.w
  refine lv_iconst (v := nI 1) hx hb dX0_turnsInRound_0 (by decide) ?_
  refine lv_istore_n (lv' := [(2, .int (nI (1))), (0, .ref b), (1, .ref a)]) hx hb dX0_turnsInRound_1 rfl hl (by decide) rfl (fun ls hl => ?_)
  refine lv_iconst (v := nI 0) hx hb dX0_turnsInRound_2 (by decide) ?_
  refine lv_istore_n (lv' := [(3, .int (nI (0))), (2, .int (nI (1))), (0, .ref b), (1, .ref a)]) hx hb dX0_turnsInRound_3 rfl hl (by decide) rfl (fun ls hl => ?_)
  have loop_4 : ∀ (N : Nat) (r : Nat) (i : Nat), (i ≤ bx 0) → (r = rdN bx nw i) → (bx 0 - i) < N → ∀ (H : Heap) (locs : List Loc), va_P D vwCl [bO b bq fi (nw 2) (nw 0) (nw 1), (bq 0, .inl (cI, 4, .inl (fun z_ => nI (up z_)))), (bq 1, .inl (cI, 4, .inl (fun z_ => nI (st z_)))), (bq 2, .inl (cI, 12, .inl (fun z_ => nI (ex z_)))), (bq 3, .inl (cI, 12, .inl (fun z_ => nI (tl z_)))), (bq 4, .inl (cI, 12, .inl (fun z_ => nI (he z_)))), (bq 5, .inl (cI, 12, .inl (fun z_ => nI (dy z_)))), (bq 6, .inl (cI, 12, .inl (fun z_ => nI (se z_)))), pO a pq (bx 0) (bx 2) (bx 1) (szN bx (bx 0)) (bx 3) (bx 4), (pq 0, .inl (cI, 4, .inl (fun z_ => nI (te z_)))), (pq 1, .inl (cI, 4, .inl (fun z_ => nI (ps z_)))), (pq 2, .inl (cI, 4, .inl (fun z_ => nI (pu z_)))), (pq 3, .inl (cI, 4, .inl (fun z_ => nI (sd z_)))), (pq 4, .inl (cI, 8, .inl (fun z_ => nI (cj z_)))), (pq 5, .inl (cI, 5, .inl (fun z_ => nI (ta z_))))] H → va_D A [bO b bq fi (nw 2) (nw 0) (nw 1), (bq 0, .inl (cI, 4, .inl (fun z_ => nI (up z_)))), (bq 1, .inl (cI, 4, .inl (fun z_ => nI (st z_)))), (bq 2, .inl (cI, 12, .inl (fun z_ => nI (ex z_)))), (bq 3, .inl (cI, 12, .inl (fun z_ => nI (tl z_)))), (bq 4, .inl (cI, 12, .inl (fun z_ => nI (he z_)))), (bq 5, .inl (cI, 12, .inl (fun z_ => nI (dy z_)))), (bq 6, .inl (cI, 12, .inl (fun z_ => nI (se z_)))), pO a pq (bx 0) (bx 2) (bx 1) (szN bx (bx 0)) (bx 3) (bx 4), (pq 0, .inl (cI, 4, .inl (fun z_ => nI (te z_)))), (pq 1, .inl (cI, 4, .inl (fun z_ => nI (ps z_)))), (pq 2, .inl (cI, 4, .inl (fun z_ => nI (pu z_)))), (pq 3, .inl (cI, 4, .inl (fun z_ => nI (sd z_)))), (pq 4, .inl (cI, 8, .inl (fun z_ => nI (cj z_)))), (pq 5, .inl (cI, 5, .inl (fun z_ => nI (ta z_))))] → va_S A s.heap H locs → ∀ ls : Array Slot, lv_has ls 8 [(3, .int (nI (i))), (2, .int (nI (r))), (0, .ref b), (1, .ref a)] → W p l e (rmL 1) s m args below meth c H locs 0 0 Qf (F0 m 4 ls []) := by
    intro N; induction N with
    | zero => intro r i _ _ hm; omega
    | succ N ih_4 =>
      intro r i hi hr1 hm H locs hP hD hS ls hl
      refine lv_iload_n hx hb dX0_turnsInRound_4 rfl (lv_at hl 0 rfl) ?_
      refine lv_aload_n hx hb dX0_turnsInRound_5 rfl (lv_at hl 3 rfl) ?_
      refine gf_0_61 hx hb hts hown hK hP 8 rfl rfl dX0_turnsInRound_6 ?_
      refine n_icmp_ge (tgt := 84) hx hb dX0_turnsInRound_9 (by decide) (by omega) (by omega) (fun c_1 => ?_) (fun c_1 => ?_)
      · -- 9 to 84
        refine lv_iload_n hx hb dX0_turnsInRound_84 rfl (lv_at hl 1 rfl) ?_
        refine hret hP hD hS dX0_turnsInRound_85 rfl rfl ?_
        exact ⟨by rw [hr1, show i = bx 0 by omega], rfl⟩
      · -- 9 to 12
        have hrow := hR.r i (by omega)
        have hrx := hX.u hR.b i (by omega)
        have ht := hR.b.t i (by omega)
        refine lv_aload_n hx hb dX0_turnsInRound_12 rfl (lv_at hl 3 rfl) ?_
        refine gf_0_54 hx hb hts hown hK hP 8 rfl rfl dX0_turnsInRound_13 ?_
        refine lv_iload_n hx hb dX0_turnsInRound_16 rfl (lv_at hl 0 rfl) ?_
        refine cl_0_57 (As := [.ref (pq 0), .int (nI (i))]) (rest := []) hx hb hml hts hown (k_X6_at (by first | assumption | omega) (by first | assumption | omega)) (by decide) ⟨Nat.zero_le _, Nat.zero_le _⟩ hK hP hD hS hA [9] rfl (by decide) rfl hl.1 rfl (Nat.le_of_ble_eq_true rfl) dX0_turnsInRound_17 (fun r_2 u H locs hp_3 hP hD hS => ?_)
        obtain ⟨rfl, rfl⟩ := hp_3
        have hP : va_P D vwCl [bO b bq fi (nw 2) (nw 0) (nw 1), (bq 0, .inl (cI, 4, .inl (fun z_ => nI (up z_)))), (bq 1, .inl (cI, 4, .inl (fun z_ => nI (st z_)))), (bq 2, .inl (cI, 12, .inl (fun z_ => nI (ex z_)))), (bq 3, .inl (cI, 12, .inl (fun z_ => nI (tl z_)))), (bq 4, .inl (cI, 12, .inl (fun z_ => nI (he z_)))), (bq 5, .inl (cI, 12, .inl (fun z_ => nI (dy z_)))), (bq 6, .inl (cI, 12, .inl (fun z_ => nI (se z_)))), pO a pq (bx 0) (bx 2) (bx 1) (szN bx (bx 0)) (bx 3) (bx 4), (pq 0, .inl (cI, 4, .inl (fun z_ => nI (te z_)))), (pq 1, .inl (cI, 4, .inl (fun z_ => nI (ps z_)))), (pq 2, .inl (cI, 4, .inl (fun z_ => nI (pu z_)))), (pq 3, .inl (cI, 4, .inl (fun z_ => nI (sd z_)))), (pq 4, .inl (cI, 8, .inl (fun z_ => nI (cj z_)))), (pq 5, .inl (cI, 5, .inl (fun z_ => nI (ta z_))))] _ := hP
        have hD : va_D A [bO b bq fi (nw 2) (nw 0) (nw 1), (bq 0, .inl (cI, 4, .inl (fun z_ => nI (up z_)))), (bq 1, .inl (cI, 4, .inl (fun z_ => nI (st z_)))), (bq 2, .inl (cI, 12, .inl (fun z_ => nI (ex z_)))), (bq 3, .inl (cI, 12, .inl (fun z_ => nI (tl z_)))), (bq 4, .inl (cI, 12, .inl (fun z_ => nI (he z_)))), (bq 5, .inl (cI, 12, .inl (fun z_ => nI (dy z_)))), (bq 6, .inl (cI, 12, .inl (fun z_ => nI (se z_)))), pO a pq (bx 0) (bx 2) (bx 1) (szN bx (bx 0)) (bx 3) (bx 4), (pq 0, .inl (cI, 4, .inl (fun z_ => nI (te z_)))), (pq 1, .inl (cI, 4, .inl (fun z_ => nI (ps z_)))), (pq 2, .inl (cI, 4, .inl (fun z_ => nI (pu z_)))), (pq 3, .inl (cI, 4, .inl (fun z_ => nI (sd z_)))), (pq 4, .inl (cI, 8, .inl (fun z_ => nI (cj z_)))), (pq 5, .inl (cI, 5, .inl (fun z_ => nI (ta z_))))] := hD
        refine lv_istore (lv' := [(4, .int (nI (te i))), (3, .int (nI (i))), (2, .int (nI (r))), (0, .ref b), (1, .ref a)]) hx hb dX0_turnsInRound_20 hl (by decide) rfl (fun ls hl => ?_)
        refine lv_iload hx hb dX0_turnsInRound_22 (lv_at hl 0 rfl) ?_
        refine lv_aload_n hx hb dX0_turnsInRound_24 rfl (lv_at hl 3 rfl) ?_
        refine gf_0_15 hx hb hts hown hK hP 0 rfl rfl dX0_turnsInRound_25 ?_
        refine lv_iload_n hx hb dX0_turnsInRound_28 rfl (lv_at hl 1 rfl) ?_
        refine cl_0_57 (As := [.ref (bq 1), .int (nI (i))]) (rest := [.int (nI (te i))]) hx hb hml hts hown (k_X6_at (by first | assumption | omega) (by first | assumption | omega)) (by decide) ⟨Nat.zero_le _, Nat.zero_le _⟩ hK hP hD hS hA [2] rfl (by decide) rfl hl.1 rfl (Nat.le_of_ble_eq_true rfl) dX0_turnsInRound_29 (fun r_4 u H locs hp_5 hP hD hS => ?_)
        obtain ⟨rfl, rfl⟩ := hp_5
        have hP : va_P D vwCl [bO b bq fi (nw 2) (nw 0) (nw 1), (bq 0, .inl (cI, 4, .inl (fun z_ => nI (up z_)))), (bq 1, .inl (cI, 4, .inl (fun z_ => nI (st z_)))), (bq 2, .inl (cI, 12, .inl (fun z_ => nI (ex z_)))), (bq 3, .inl (cI, 12, .inl (fun z_ => nI (tl z_)))), (bq 4, .inl (cI, 12, .inl (fun z_ => nI (he z_)))), (bq 5, .inl (cI, 12, .inl (fun z_ => nI (dy z_)))), (bq 6, .inl (cI, 12, .inl (fun z_ => nI (se z_)))), pO a pq (bx 0) (bx 2) (bx 1) (szN bx (bx 0)) (bx 3) (bx 4), (pq 0, .inl (cI, 4, .inl (fun z_ => nI (te z_)))), (pq 1, .inl (cI, 4, .inl (fun z_ => nI (ps z_)))), (pq 2, .inl (cI, 4, .inl (fun z_ => nI (pu z_)))), (pq 3, .inl (cI, 4, .inl (fun z_ => nI (sd z_)))), (pq 4, .inl (cI, 8, .inl (fun z_ => nI (cj z_)))), (pq 5, .inl (cI, 5, .inl (fun z_ => nI (ta z_))))] _ := hP
        have hD : va_D A [bO b bq fi (nw 2) (nw 0) (nw 1), (bq 0, .inl (cI, 4, .inl (fun z_ => nI (up z_)))), (bq 1, .inl (cI, 4, .inl (fun z_ => nI (st z_)))), (bq 2, .inl (cI, 12, .inl (fun z_ => nI (ex z_)))), (bq 3, .inl (cI, 12, .inl (fun z_ => nI (tl z_)))), (bq 4, .inl (cI, 12, .inl (fun z_ => nI (he z_)))), (bq 5, .inl (cI, 12, .inl (fun z_ => nI (dy z_)))), (bq 6, .inl (cI, 12, .inl (fun z_ => nI (se z_)))), pO a pq (bx 0) (bx 2) (bx 1) (szN bx (bx 0)) (bx 3) (bx 4), (pq 0, .inl (cI, 4, .inl (fun z_ => nI (te z_)))), (pq 1, .inl (cI, 4, .inl (fun z_ => nI (ps z_)))), (pq 2, .inl (cI, 4, .inl (fun z_ => nI (pu z_)))), (pq 3, .inl (cI, 4, .inl (fun z_ => nI (sd z_)))), (pq 4, .inl (cI, 8, .inl (fun z_ => nI (cj z_)))), (pq 5, .inl (cI, 5, .inl (fun z_ => nI (ta z_))))] := hD
        refine cl_0_75 (As := [.int (nI (te i)), .int (nI (st i))]) (rest := []) hx hb hml hts hown (k_X6_commonDivisor (by first | assumption | omega) (by first | assumption | omega)) (by decide) ⟨Nat.zero_le _, Nat.zero_le _⟩ hK hP hD hS hA [] rfl (by decide) rfl hl.1 rfl (Nat.le_of_ble_eq_true rfl) dX0_turnsInRound_32 (fun r_6 u H locs hp_7 hP hD hS => ?_)
        obtain ⟨rfl, rfl⟩ := hp_7
        have hP : va_P D vwCl [bO b bq fi (nw 2) (nw 0) (nw 1), (bq 0, .inl (cI, 4, .inl (fun z_ => nI (up z_)))), (bq 1, .inl (cI, 4, .inl (fun z_ => nI (st z_)))), (bq 2, .inl (cI, 12, .inl (fun z_ => nI (ex z_)))), (bq 3, .inl (cI, 12, .inl (fun z_ => nI (tl z_)))), (bq 4, .inl (cI, 12, .inl (fun z_ => nI (he z_)))), (bq 5, .inl (cI, 12, .inl (fun z_ => nI (dy z_)))), (bq 6, .inl (cI, 12, .inl (fun z_ => nI (se z_)))), pO a pq (bx 0) (bx 2) (bx 1) (szN bx (bx 0)) (bx 3) (bx 4), (pq 0, .inl (cI, 4, .inl (fun z_ => nI (te z_)))), (pq 1, .inl (cI, 4, .inl (fun z_ => nI (ps z_)))), (pq 2, .inl (cI, 4, .inl (fun z_ => nI (pu z_)))), (pq 3, .inl (cI, 4, .inl (fun z_ => nI (sd z_)))), (pq 4, .inl (cI, 8, .inl (fun z_ => nI (cj z_)))), (pq 5, .inl (cI, 5, .inl (fun z_ => nI (ta z_))))] _ := hP
        have hD : va_D A [bO b bq fi (nw 2) (nw 0) (nw 1), (bq 0, .inl (cI, 4, .inl (fun z_ => nI (up z_)))), (bq 1, .inl (cI, 4, .inl (fun z_ => nI (st z_)))), (bq 2, .inl (cI, 12, .inl (fun z_ => nI (ex z_)))), (bq 3, .inl (cI, 12, .inl (fun z_ => nI (tl z_)))), (bq 4, .inl (cI, 12, .inl (fun z_ => nI (he z_)))), (bq 5, .inl (cI, 12, .inl (fun z_ => nI (dy z_)))), (bq 6, .inl (cI, 12, .inl (fun z_ => nI (se z_)))), pO a pq (bx 0) (bx 2) (bx 1) (szN bx (bx 0)) (bx 3) (bx 4), (pq 0, .inl (cI, 4, .inl (fun z_ => nI (te z_)))), (pq 1, .inl (cI, 4, .inl (fun z_ => nI (ps z_)))), (pq 2, .inl (cI, 4, .inl (fun z_ => nI (pu z_)))), (pq 3, .inl (cI, 4, .inl (fun z_ => nI (sd z_)))), (pq 4, .inl (cI, 8, .inl (fun z_ => nI (cj z_)))), (pq 5, .inl (cI, 5, .inl (fun z_ => nI (ta z_))))] := hD
        have hg1 := gcd_le (te i) (st i) (by rw [hrow.1]; omega)
        refine lv_istore (lv' := [(5, .int (nI (Nat.gcd (te i) (st i)))), (4, .int (nI (te i))), (3, .int (nI (i))), (2, .int (nI (r))), (0, .ref b), (1, .ref a)]) hx hb dX0_turnsInRound_35 hl (by decide) rfl (fun ls hl => ?_)
        refine lv_iload hx hb dX0_turnsInRound_37 (lv_at hl 0 rfl) ?_
        refine n_if_le (tgt := 50) hx hb dX0_turnsInRound_39 (by decide) (by omega) (fun c_8 => ?_) (fun c_8 => ?_)
        · omega
        · -- 39 to 42
          refine lv_iload hx hb dX0_turnsInRound_42 (lv_at hl 1 rfl) ?_
          refine lv_iload hx hb dX0_turnsInRound_44 (lv_at hl 0 rfl) ?_
          refine n_idiv hx hb dX0_turnsInRound_46 (by omega) (by omega) (by omega) ?_
          refine lv_goto (tgt := 51) hx hb dX0_turnsInRound_47 (by decide) ?_
          refine lv_istore (lv' := [(6, .int (nI ((te i) / (Nat.gcd (te i) (st i))))), (5, .int (nI (Nat.gcd (te i) (st i)))), (4, .int (nI (te i))), (3, .int (nI (i))), (2, .int (nI (r))), (0, .ref b), (1, .ref a)]) hx hb dX0_turnsInRound_51 hl (by decide) rfl (fun ls hl => ?_)
          refine lv_iload_n hx hb dX0_turnsInRound_53 rfl (lv_at hl 4 rfl) ?_
          have ho : 0 < te i / Nat.gcd (te i) (st i) ∧ te i / Nat.gcd (te i) (st i) ≤ bx (5 + i) := by rw [hrow.1, hrx.2.1]; exact own_le bx nw i (by omega)
          have hr2 : 0 < r ∧ r ≤ 1296 := by rw [hr1]; exact rd_le2 hR.b (by omega)
          refine lv_iload hx hb dX0_turnsInRound_54 (lv_at hl 0 rfl) ?_
          refine cl_0_75 (As := [.int (nI (r)), .int (nI ((te i) / (Nat.gcd (te i) (st i))))]) (rest := []) hx hb hml hts hown (k_X6_commonDivisor (by first | assumption | omega) (by first | assumption | omega)) (by decide) ⟨Nat.zero_le _, Nat.zero_le _⟩ hK hP hD hS hA [] rfl (by decide) rfl hl.1 rfl (Nat.le_of_ble_eq_true rfl) dX0_turnsInRound_56 (fun r_9 u H locs hp_10 hP hD hS => ?_)
          obtain ⟨rfl, rfl⟩ := hp_10
          have hP : va_P D vwCl [bO b bq fi (nw 2) (nw 0) (nw 1), (bq 0, .inl (cI, 4, .inl (fun z_ => nI (up z_)))), (bq 1, .inl (cI, 4, .inl (fun z_ => nI (st z_)))), (bq 2, .inl (cI, 12, .inl (fun z_ => nI (ex z_)))), (bq 3, .inl (cI, 12, .inl (fun z_ => nI (tl z_)))), (bq 4, .inl (cI, 12, .inl (fun z_ => nI (he z_)))), (bq 5, .inl (cI, 12, .inl (fun z_ => nI (dy z_)))), (bq 6, .inl (cI, 12, .inl (fun z_ => nI (se z_)))), pO a pq (bx 0) (bx 2) (bx 1) (szN bx (bx 0)) (bx 3) (bx 4), (pq 0, .inl (cI, 4, .inl (fun z_ => nI (te z_)))), (pq 1, .inl (cI, 4, .inl (fun z_ => nI (ps z_)))), (pq 2, .inl (cI, 4, .inl (fun z_ => nI (pu z_)))), (pq 3, .inl (cI, 4, .inl (fun z_ => nI (sd z_)))), (pq 4, .inl (cI, 8, .inl (fun z_ => nI (cj z_)))), (pq 5, .inl (cI, 5, .inl (fun z_ => nI (ta z_))))] _ := hP
          have hD : va_D A [bO b bq fi (nw 2) (nw 0) (nw 1), (bq 0, .inl (cI, 4, .inl (fun z_ => nI (up z_)))), (bq 1, .inl (cI, 4, .inl (fun z_ => nI (st z_)))), (bq 2, .inl (cI, 12, .inl (fun z_ => nI (ex z_)))), (bq 3, .inl (cI, 12, .inl (fun z_ => nI (tl z_)))), (bq 4, .inl (cI, 12, .inl (fun z_ => nI (he z_)))), (bq 5, .inl (cI, 12, .inl (fun z_ => nI (dy z_)))), (bq 6, .inl (cI, 12, .inl (fun z_ => nI (se z_)))), pO a pq (bx 0) (bx 2) (bx 1) (szN bx (bx 0)) (bx 3) (bx 4), (pq 0, .inl (cI, 4, .inl (fun z_ => nI (te z_)))), (pq 1, .inl (cI, 4, .inl (fun z_ => nI (ps z_)))), (pq 2, .inl (cI, 4, .inl (fun z_ => nI (pu z_)))), (pq 3, .inl (cI, 4, .inl (fun z_ => nI (sd z_)))), (pq 4, .inl (cI, 8, .inl (fun z_ => nI (cj z_)))), (pq 5, .inl (cI, 5, .inl (fun z_ => nI (ta z_))))] := hD
          have hg2 := gcd_le2 r (te i / Nat.gcd (te i) (st i)) ho.1
          refine lv_istore (lv' := [(7, .int (nI (Nat.gcd r ((te i) / (Nat.gcd (te i) (st i)))))), (6, .int (nI ((te i) / (Nat.gcd (te i) (st i))))), (5, .int (nI (Nat.gcd (te i) (st i)))), (4, .int (nI (te i))), (3, .int (nI (i))), (2, .int (nI (r))), (0, .ref b), (1, .ref a)]) hx hb dX0_turnsInRound_59 hl (by decide) rfl (fun ls hl => ?_)
          refine lv_iload hx hb dX0_turnsInRound_61 (lv_at hl 0 rfl) ?_
          refine n_if_le (tgt := 76) hx hb dX0_turnsInRound_63 (by decide) (by omega) (fun c_11 => ?_) (fun c_11 => ?_)
          · omega
          · -- 63 to 66
            refine lv_iload_n hx hb dX0_turnsInRound_66 rfl (lv_at hl 5 rfl) ?_
            refine lv_iload hx hb dX0_turnsInRound_67 (lv_at hl 0 rfl) ?_
            refine n_idiv hx hb dX0_turnsInRound_69 (by omega) (by omega) (by omega) ?_
            refine lv_iload hx hb dX0_turnsInRound_70 (lv_at hl 1 rfl) ?_
            refine n_imul hx hb dX0_turnsInRound_72  ?_
            refine lv_goto (tgt := 77) hx hb dX0_turnsInRound_73 (by decide) ?_
            refine lv_istore_n (lv' := [(2, .int (nI ((r / (Nat.gcd r ((te i) / (Nat.gcd (te i) (st i))))) * ((te i) / (Nat.gcd (te i) (st i)))))), (7, .int (nI (Nat.gcd r ((te i) / (Nat.gcd (te i) (st i)))))), (6, .int (nI ((te i) / (Nat.gcd (te i) (st i))))), (5, .int (nI (Nat.gcd (te i) (st i)))), (4, .int (nI (te i))), (3, .int (nI (i))), (0, .ref b), (1, .ref a)]) hx hb dX0_turnsInRound_77 rfl hl (by decide) rfl (fun ls hl => ?_)
            refine lv_iinc (v := nI (i + 1)) (lv' := [(3, .int (nI (i + 1))), (2, .int (nI ((r / (Nat.gcd r ((te i) / (Nat.gcd (te i) (st i))))) * ((te i) / (Nat.gcd (te i) (st i)))))), (7, .int (nI (Nat.gcd r ((te i) / (Nat.gcd (te i) (st i)))))), (6, .int (nI ((te i) / (Nat.gcd (te i) (st i))))), (5, .int (nI (Nat.gcd (te i) (st i)))), (4, .int (nI (te i))), (0, .ref b), (1, .ref a)]) hx hb dX0_turnsInRound_78 hl (k := 5) rfl (n_inc _ 1) (by decide) rfl (fun ls hl => ?_)
            refine lv_goto (tgt := 4) hx hb dX0_turnsInRound_81 (by decide) ?_
            exact ih_4 ((r / (Nat.gcd r ((te i) / (Nat.gcd (te i) (st i))))) * ((te i) / (Nat.gcd (te i) (st i)))) (i + 1) (by omega) (by rw [hr1, hrow.1, hrx.2.1]; rfl) (by omega) _ _ hP hD hS _ (lv_sub hl [0, 1, 6, 7] rfl)
  exact loop_4 _ 1 0 (by omega) rfl (Nat.lt_succ_self _) _ _ hP hD hS _ (lv_sub hl [0, 1, 2, 3] rfl)
set_option maxHeartbeats 4000000 in
set_option maxRecDepth 100000 in
theorem k_X0_makesSense {l : Launch} {D : va_G} {cI cC cB : ClassId} {a : Nat} {pq : Nat → Nat} {bx te ps pu sd cj ta : Nat → Nat} {b : Nat} {bq : Nat → Nat} {nw up st ex tl he dy se : Nat → Nat} {fi : Nat} {x : Nat} (hR : PlR bx te ps pu sd cj ta) (hX : BoR bx nw up st ex tl he dy se fi) (hx1 : x < 2147483648) : MI l yX0_makesSense cX0_makesSense 4 (some .boolean) 3 D (Ty3 cI cC cB) [.ref b, .ref a, .int (nI (x))] [bO b bq fi (nw 2) (nw 0) (nw 1), (bq 0, .inl (cI, 4, .inl (fun z_ => nI (up z_)))), (bq 1, .inl (cI, 4, .inl (fun z_ => nI (st z_)))), (bq 2, .inl (cI, 12, .inl (fun z_ => nI (ex z_)))), (bq 3, .inl (cI, 12, .inl (fun z_ => nI (tl z_)))), (bq 4, .inl (cI, 12, .inl (fun z_ => nI (he z_)))), (bq 5, .inl (cI, 12, .inl (fun z_ => nI (dy z_)))), (bq 6, .inl (cI, 12, .inl (fun z_ => nI (se z_)))), pO a pq (bx 0) (bx 2) (bx 1) (szN bx (bx 0)) (bx 3) (bx 4), (pq 0, .inl (cI, 4, .inl (fun z_ => nI (te z_)))), (pq 1, .inl (cI, 4, .inl (fun z_ => nI (ps z_)))), (pq 2, .inl (cI, 4, .inl (fun z_ => nI (pu z_)))), (pq 3, .inl (cI, 4, .inl (fun z_ => nI (sd z_)))), (pq 4, .inl (cI, 8, .inl (fun z_ => nI (cj z_)))), (pq 5, .inl (cI, 5, .inl (fun z_ => nI (ta z_))))] (fun r u => (r = nI (b2n (senN bx nw x)) ∧ u = [bO b bq fi (nw 2) (nw 0) (nw 1), (bq 0, .inl (cI, 4, .inl (fun z_ => nI (up z_)))), (bq 1, .inl (cI, 4, .inl (fun z_ => nI (st z_)))), (bq 2, .inl (cI, 12, .inl (fun z_ => nI (ex z_)))), (bq 3, .inl (cI, 12, .inl (fun z_ => nI (tl z_)))), (bq 4, .inl (cI, 12, .inl (fun z_ => nI (he z_)))), (bq 5, .inl (cI, 12, .inl (fun z_ => nI (dy z_)))), (bq 6, .inl (cI, 12, .inl (fun z_ => nI (se z_)))), pO a pq (bx 0) (bx 2) (bx 1) (szN bx (bx 0)) (bx 3) (bx 4), (pq 0, .inl (cI, 4, .inl (fun z_ => nI (te z_)))), (pq 1, .inl (cI, 4, .inl (fun z_ => nI (ps z_)))), (pq 2, .inl (cI, 4, .inl (fun z_ => nI (pu z_)))), (pq 3, .inl (cI, 4, .inl (fun z_ => nI (sd z_)))), (pq 4, .inl (cI, 8, .inl (fun z_ => nI (cj z_)))), (pq 5, .inl (cI, 5, .inl (fun z_ => nI (ta z_))))])) := by
  intro sz
  refine MI.walk (by decide +kernel) (Nat.le_of_ble_eq_true rfl) ?_
  intro p e s m args below meth c A Qf hx hb hml hts hown hret hK hP hD hS hA ls hl
  have hown : s.vm.findClass RX0 = some m.cls := hown
  have hl : lv_has ls 4 [(0, .ref b), (1, .ref a), (2, .int (nI (x)))] := hl
  have hP : va_P D vwCl [bO b bq fi (nw 2) (nw 0) (nw 1), (bq 0, .inl (cI, 4, .inl (fun z_ => nI (up z_)))), (bq 1, .inl (cI, 4, .inl (fun z_ => nI (st z_)))), (bq 2, .inl (cI, 12, .inl (fun z_ => nI (ex z_)))), (bq 3, .inl (cI, 12, .inl (fun z_ => nI (tl z_)))), (bq 4, .inl (cI, 12, .inl (fun z_ => nI (he z_)))), (bq 5, .inl (cI, 12, .inl (fun z_ => nI (dy z_)))), (bq 6, .inl (cI, 12, .inl (fun z_ => nI (se z_)))), pO a pq (bx 0) (bx 2) (bx 1) (szN bx (bx 0)) (bx 3) (bx 4), (pq 0, .inl (cI, 4, .inl (fun z_ => nI (te z_)))), (pq 1, .inl (cI, 4, .inl (fun z_ => nI (ps z_)))), (pq 2, .inl (cI, 4, .inl (fun z_ => nI (pu z_)))), (pq 3, .inl (cI, 4, .inl (fun z_ => nI (sd z_)))), (pq 4, .inl (cI, 8, .inl (fun z_ => nI (cj z_)))), (pq 5, .inl (cI, 5, .inl (fun z_ => nI (ta z_))))] s.heap := hP
  have hD : va_D A [bO b bq fi (nw 2) (nw 0) (nw 1), (bq 0, .inl (cI, 4, .inl (fun z_ => nI (up z_)))), (bq 1, .inl (cI, 4, .inl (fun z_ => nI (st z_)))), (bq 2, .inl (cI, 12, .inl (fun z_ => nI (ex z_)))), (bq 3, .inl (cI, 12, .inl (fun z_ => nI (tl z_)))), (bq 4, .inl (cI, 12, .inl (fun z_ => nI (he z_)))), (bq 5, .inl (cI, 12, .inl (fun z_ => nI (dy z_)))), (bq 6, .inl (cI, 12, .inl (fun z_ => nI (se z_)))), pO a pq (bx 0) (bx 2) (bx 1) (szN bx (bx 0)) (bx 3) (bx 4), (pq 0, .inl (cI, 4, .inl (fun z_ => nI (te z_)))), (pq 1, .inl (cI, 4, .inl (fun z_ => nI (ps z_)))), (pq 2, .inl (cI, 4, .inl (fun z_ => nI (pu z_)))), (pq 3, .inl (cI, 4, .inl (fun z_ => nI (sd z_)))), (pq 4, .inl (cI, 8, .inl (fun z_ => nI (cj z_)))), (pq 5, .inl (cI, 5, .inl (fun z_ => nI (ta z_))))] := hD
  refine lv_aload_n hx hb dX0_makesSense_0 rfl (lv_at hl 1 rfl) ?_
  refine lv_iload_n hx hb dX0_makesSense_1 rfl (lv_at hl 2 rfl) ?_
  refine cl_0_79 (As := [.int (nI (x))]) (rest := []) hx hb hml hts hown (k_X2_teethOf (by first | assumption | omega) (by first | assumption | omega)) (by decide) ⟨Nat.zero_le _, Nat.zero_le _⟩ hK hP hD hS hA 8 rfl [8, 9, 10, 11, 12, 13, 14] rfl (by decide) rfl hl.1 rfl (Nat.le_of_ble_eq_true rfl) dX0_makesSense_2 (fun r_1 u H locs hp_2 hP hD hS => ?_)
  obtain ⟨rfl, rfl⟩ := hp_2
  have hP : va_P D vwCl [bO b bq fi (nw 2) (nw 0) (nw 1), (bq 0, .inl (cI, 4, .inl (fun z_ => nI (up z_)))), (bq 1, .inl (cI, 4, .inl (fun z_ => nI (st z_)))), (bq 2, .inl (cI, 12, .inl (fun z_ => nI (ex z_)))), (bq 3, .inl (cI, 12, .inl (fun z_ => nI (tl z_)))), (bq 4, .inl (cI, 12, .inl (fun z_ => nI (he z_)))), (bq 5, .inl (cI, 12, .inl (fun z_ => nI (dy z_)))), (bq 6, .inl (cI, 12, .inl (fun z_ => nI (se z_)))), pO a pq (bx 0) (bx 2) (bx 1) (szN bx (bx 0)) (bx 3) (bx 4), (pq 0, .inl (cI, 4, .inl (fun z_ => nI (te z_)))), (pq 1, .inl (cI, 4, .inl (fun z_ => nI (ps z_)))), (pq 2, .inl (cI, 4, .inl (fun z_ => nI (pu z_)))), (pq 3, .inl (cI, 4, .inl (fun z_ => nI (sd z_)))), (pq 4, .inl (cI, 8, .inl (fun z_ => nI (cj z_)))), (pq 5, .inl (cI, 5, .inl (fun z_ => nI (ta z_))))] _ := hP
  have hD : va_D A [bO b bq fi (nw 2) (nw 0) (nw 1), (bq 0, .inl (cI, 4, .inl (fun z_ => nI (up z_)))), (bq 1, .inl (cI, 4, .inl (fun z_ => nI (st z_)))), (bq 2, .inl (cI, 12, .inl (fun z_ => nI (ex z_)))), (bq 3, .inl (cI, 12, .inl (fun z_ => nI (tl z_)))), (bq 4, .inl (cI, 12, .inl (fun z_ => nI (he z_)))), (bq 5, .inl (cI, 12, .inl (fun z_ => nI (dy z_)))), (bq 6, .inl (cI, 12, .inl (fun z_ => nI (se z_)))), pO a pq (bx 0) (bx 2) (bx 1) (szN bx (bx 0)) (bx 3) (bx 4), (pq 0, .inl (cI, 4, .inl (fun z_ => nI (te z_)))), (pq 1, .inl (cI, 4, .inl (fun z_ => nI (ps z_)))), (pq 2, .inl (cI, 4, .inl (fun z_ => nI (pu z_)))), (pq 3, .inl (cI, 4, .inl (fun z_ => nI (sd z_)))), (pq 4, .inl (cI, 8, .inl (fun z_ => nI (cj z_)))), (pq 5, .inl (cI, 5, .inl (fun z_ => nI (ta z_))))] := hD
  refine lv_istore_n (lv' := [(3, .int (nI (tbN bx x (bx 0)))), (0, .ref b), (1, .ref a), (2, .int (nI (x)))]) hx hb dX0_makesSense_5 rfl hl (by decide) rfl (fun ls hl => ?_)
  refine lv_iload_n hx hb dX0_makesSense_6 rfl (lv_at hl 0 rfl) ?_
  refine lv_aload_n hx hb dX0_makesSense_7 rfl (lv_at hl 1 rfl) ?_
  refine gf_0_41 hx hb hts hown hK hP 0 rfl rfl dX0_makesSense_8 ?_
  refine n_iand hx hb dX0_makesSense_11  ?_
  refine n_if_ne (tgt := 27) hx hb dX0_makesSense_12 (by decide) (by have := Nat.and_le_left (n := tbN bx x (bx 0)) (m := fi); have := tb_lt hR.b x; omega) (fun c_3 => ?_) (fun c_3 => ?_)
  · -- 12 to 27
    refine lv_iconst (v := nI 0) hx hb dX0_makesSense_27 (by decide) ?_
    refine hret hP hD hS dX0_makesSense_28 (by decide) rfl ?_
    exact ⟨congrArg nI (by first | exact ms_1 hR hX (by assumption) (by assumption) | exact ms_2 (by assumption) | exact ms_3 hR hX (by assumption)), rfl⟩
  · -- 12 to 15
    refine lv_aload_n hx hb dX0_makesSense_15 rfl (lv_at hl 2 rfl) ?_
    refine lv_iload_n hx hb dX0_makesSense_16 rfl (lv_at hl 0 rfl) ?_
    refine cl_0_83 (As := [.int (nI (tbN bx x (bx 0)))]) (rest := []) hx hb hml hts hown (k_X2_goTogether (by first | assumption | omega)) (by decide) ⟨Nat.zero_le _, Nat.zero_le _⟩ hK hP hD hS hA 8 rfl [8, 9, 10, 11, 12, 13, 14] rfl (by decide) rfl hl.1 rfl (Nat.le_of_ble_eq_true rfl) dX0_makesSense_17 (fun r_4 u H locs hp_5 hP hD hS => ?_)
    obtain ⟨rfl, rfl⟩ := hp_5
    have hP : va_P D vwCl [bO b bq fi (nw 2) (nw 0) (nw 1), (bq 0, .inl (cI, 4, .inl (fun z_ => nI (up z_)))), (bq 1, .inl (cI, 4, .inl (fun z_ => nI (st z_)))), (bq 2, .inl (cI, 12, .inl (fun z_ => nI (ex z_)))), (bq 3, .inl (cI, 12, .inl (fun z_ => nI (tl z_)))), (bq 4, .inl (cI, 12, .inl (fun z_ => nI (he z_)))), (bq 5, .inl (cI, 12, .inl (fun z_ => nI (dy z_)))), (bq 6, .inl (cI, 12, .inl (fun z_ => nI (se z_)))), pO a pq (bx 0) (bx 2) (bx 1) (szN bx (bx 0)) (bx 3) (bx 4), (pq 0, .inl (cI, 4, .inl (fun z_ => nI (te z_)))), (pq 1, .inl (cI, 4, .inl (fun z_ => nI (ps z_)))), (pq 2, .inl (cI, 4, .inl (fun z_ => nI (pu z_)))), (pq 3, .inl (cI, 4, .inl (fun z_ => nI (sd z_)))), (pq 4, .inl (cI, 8, .inl (fun z_ => nI (cj z_)))), (pq 5, .inl (cI, 5, .inl (fun z_ => nI (ta z_))))] _ := hP
    have hD : va_D A [bO b bq fi (nw 2) (nw 0) (nw 1), (bq 0, .inl (cI, 4, .inl (fun z_ => nI (up z_)))), (bq 1, .inl (cI, 4, .inl (fun z_ => nI (st z_)))), (bq 2, .inl (cI, 12, .inl (fun z_ => nI (ex z_)))), (bq 3, .inl (cI, 12, .inl (fun z_ => nI (tl z_)))), (bq 4, .inl (cI, 12, .inl (fun z_ => nI (he z_)))), (bq 5, .inl (cI, 12, .inl (fun z_ => nI (dy z_)))), (bq 6, .inl (cI, 12, .inl (fun z_ => nI (se z_)))), pO a pq (bx 0) (bx 2) (bx 1) (szN bx (bx 0)) (bx 3) (bx 4), (pq 0, .inl (cI, 4, .inl (fun z_ => nI (te z_)))), (pq 1, .inl (cI, 4, .inl (fun z_ => nI (ps z_)))), (pq 2, .inl (cI, 4, .inl (fun z_ => nI (pu z_)))), (pq 3, .inl (cI, 4, .inl (fun z_ => nI (sd z_)))), (pq 4, .inl (cI, 8, .inl (fun z_ => nI (cj z_)))), (pq 5, .inl (cI, 5, .inl (fun z_ => nI (ta z_))))] := hD
    refine n_ifb_eq (tgt := 27) hx hb dX0_makesSense_20 (by decide) (fun c_6 => ?_) (fun c_6 => ?_)
    · -- 20 to 27
      refine lv_iconst (v := nI 0) hx hb dX0_makesSense_27 (by decide) ?_
      refine hret hP hD hS dX0_makesSense_28 (by decide) rfl ?_
      exact ⟨congrArg nI (by first | exact ms_1 hR hX (by assumption) (by assumption) | exact ms_2 (by assumption) | exact ms_3 hR hX (by assumption)), rfl⟩
    · -- 20 to 23
      refine lv_iconst (v := nI 1) hx hb dX0_makesSense_23 (by decide) ?_
      refine lv_goto (tgt := 28) hx hb dX0_makesSense_24 (by decide) ?_
      refine hret hP hD hS dX0_makesSense_28 (by decide) rfl ?_
      exact ⟨congrArg nI (by first | exact ms_1 hR hX (by assumption) (by assumption) | exact ms_2 (by assumption) | exact ms_3 hR hX (by assumption)), rfl⟩
set_option maxHeartbeats 4000000 in
set_option maxRecDepth 100000 in
theorem k_X0_isUsed {l : Launch} {D : va_G} {cI cC cB : ClassId} {b : Nat} {bq : Nat → Nat} {bx nw up st ex tl he dy se : Nat → Nat} {fi : Nat} {x z : Nat} (hX : BoR bx nw up st ex tl he dy se fi) (hB : BxOk bx) (hx1 : x < 2147483648) (hz : z < 2147483648) : MI l yX0_isUsed cX0_isUsed 4 (some .boolean) 1 D (Ty3 cI cC cB) [.ref b, .int (nI (x)), .int (nI (z))] [bO b bq fi (nw 2) (nw 0) (nw 1), (bq 0, .inl (cI, 4, .inl (fun z_ => nI (up z_)))), (bq 1, .inl (cI, 4, .inl (fun z_ => nI (st z_)))), (bq 2, .inl (cI, 12, .inl (fun z_ => nI (ex z_)))), (bq 3, .inl (cI, 12, .inl (fun z_ => nI (tl z_)))), (bq 4, .inl (cI, 12, .inl (fun z_ => nI (he z_)))), (bq 5, .inl (cI, 12, .inl (fun z_ => nI (dy z_)))), (bq 6, .inl (cI, 12, .inl (fun z_ => nI (se z_))))] (fun r u => (r = nI (b2n (usN nw x z (nw 2))) ∧ u = [bO b bq fi (nw 2) (nw 0) (nw 1), (bq 0, .inl (cI, 4, .inl (fun z_ => nI (up z_)))), (bq 1, .inl (cI, 4, .inl (fun z_ => nI (st z_)))), (bq 2, .inl (cI, 12, .inl (fun z_ => nI (ex z_)))), (bq 3, .inl (cI, 12, .inl (fun z_ => nI (tl z_)))), (bq 4, .inl (cI, 12, .inl (fun z_ => nI (he z_)))), (bq 5, .inl (cI, 12, .inl (fun z_ => nI (dy z_)))), (bq 6, .inl (cI, 12, .inl (fun z_ => nI (se z_))))])) := by
  intro sz
  refine MI.walk (by decide +kernel) (Nat.le_of_ble_eq_true rfl) ?_
  intro p e s m args below meth c A Qf hx hb hml hts hown hret hK hP hD hS hA ls hl
  have hown : s.vm.findClass RX0 = some m.cls := hown
  have hl : lv_has ls 4 [(0, .ref b), (1, .int (nI (x))), (2, .int (nI (z)))] := hl
  have hP : va_P D vwCl [bO b bq fi (nw 2) (nw 0) (nw 1), (bq 0, .inl (cI, 4, .inl (fun z_ => nI (up z_)))), (bq 1, .inl (cI, 4, .inl (fun z_ => nI (st z_)))), (bq 2, .inl (cI, 12, .inl (fun z_ => nI (ex z_)))), (bq 3, .inl (cI, 12, .inl (fun z_ => nI (tl z_)))), (bq 4, .inl (cI, 12, .inl (fun z_ => nI (he z_)))), (bq 5, .inl (cI, 12, .inl (fun z_ => nI (dy z_)))), (bq 6, .inl (cI, 12, .inl (fun z_ => nI (se z_))))] s.heap := hP
  have hD : va_D A [bO b bq fi (nw 2) (nw 0) (nw 1), (bq 0, .inl (cI, 4, .inl (fun z_ => nI (up z_)))), (bq 1, .inl (cI, 4, .inl (fun z_ => nI (st z_)))), (bq 2, .inl (cI, 12, .inl (fun z_ => nI (ex z_)))), (bq 3, .inl (cI, 12, .inl (fun z_ => nI (tl z_)))), (bq 4, .inl (cI, 12, .inl (fun z_ => nI (he z_)))), (bq 5, .inl (cI, 12, .inl (fun z_ => nI (dy z_)))), (bq 6, .inl (cI, 12, .inl (fun z_ => nI (se z_))))] := hD
  have h12 := hX.d.h
  have hpn := hB.n
  refine lv_iconst (v := nI 0) hx hb dX0_isUsed_0 (by decide) ?_
  refine lv_istore_n (lv' := [(3, .int (nI (0))), (0, .ref b), (1, .int (nI (x))), (2, .int (nI (z)))]) hx hb dX0_isUsed_1 rfl hl (by decide) rfl (fun ls hl => ?_)
  have loop_2 : ∀ (N : Nat) (k : Nat), (k ≤ nw 2) → (usN nw x z k = false) → (nw 2 - k) < N → ∀ (H : Heap) (locs : List Loc), va_P D vwCl [bO b bq fi (nw 2) (nw 0) (nw 1), (bq 0, .inl (cI, 4, .inl (fun z_ => nI (up z_)))), (bq 1, .inl (cI, 4, .inl (fun z_ => nI (st z_)))), (bq 2, .inl (cI, 12, .inl (fun z_ => nI (ex z_)))), (bq 3, .inl (cI, 12, .inl (fun z_ => nI (tl z_)))), (bq 4, .inl (cI, 12, .inl (fun z_ => nI (he z_)))), (bq 5, .inl (cI, 12, .inl (fun z_ => nI (dy z_)))), (bq 6, .inl (cI, 12, .inl (fun z_ => nI (se z_))))] H → va_D A [bO b bq fi (nw 2) (nw 0) (nw 1), (bq 0, .inl (cI, 4, .inl (fun z_ => nI (up z_)))), (bq 1, .inl (cI, 4, .inl (fun z_ => nI (st z_)))), (bq 2, .inl (cI, 12, .inl (fun z_ => nI (ex z_)))), (bq 3, .inl (cI, 12, .inl (fun z_ => nI (tl z_)))), (bq 4, .inl (cI, 12, .inl (fun z_ => nI (he z_)))), (bq 5, .inl (cI, 12, .inl (fun z_ => nI (dy z_)))), (bq 6, .inl (cI, 12, .inl (fun z_ => nI (se z_))))] → va_S A s.heap H locs → ∀ ls : Array Slot, lv_has ls 4 [(3, .int (nI (k))), (0, .ref b), (1, .int (nI (x))), (2, .int (nI (z)))] → W p l e (rmL 1) s m args below meth c H locs 0 0 Qf (F0 m 2 ls []) := by
    intro N; induction N with
    | zero => intro k _ _ hm; omega
    | succ N ih_2 =>
      intro k hk hv hm H locs hP hD hS ls hl
      refine lv_iload_n hx hb dX0_isUsed_2 rfl (lv_at hl 0 rfl) ?_
      refine lv_aload_n hx hb dX0_isUsed_3 rfl (lv_at hl 1 rfl) ?_
      refine gf_0_45 hx hb hts hown hK hP 0 rfl rfl dX0_isUsed_4 ?_
      refine n_icmp_ge (tgt := 45) hx hb dX0_isUsed_7 (by decide) (by omega) (by omega) (fun c_1 => ?_) (fun c_1 => ?_)
      · -- 7 to 45
        refine lv_iconst (v := nI 0) hx hb dX0_isUsed_45 (by decide) ?_
        refine hret hP hD hS dX0_isUsed_46 (by decide) rfl ?_
        exact ⟨congrArg nI (b2n_e0 (by rw [← show k = nw 2 by omega]; exact hv)), rfl⟩
      · -- 7 to 10
        have hrk := hX.k k (by omega)
        have hdk := hX.d.k k (by omega)
        have hbk := hX.d.bd (16 + k)
        refine lv_aload_n hx hb dX0_isUsed_10 rfl (lv_at hl 1 rfl) ?_
        refine gf_0_18 hx hb hts hown hK hP 0 rfl rfl dX0_isUsed_11 ?_
        refine lv_iload_n hx hb dX0_isUsed_14 rfl (lv_at hl 0 rfl) ?_
        refine cl_0_57 (As := [.ref (bq 2), .int (nI (k))]) (rest := []) hx hb hml hts hown (k_X6_at (by first | assumption | omega) (by first | assumption | omega)) (by decide) ⟨Nat.zero_le _, Nat.zero_le _⟩ hK hP hD hS hA [3] rfl (by decide) rfl hl.1 rfl (Nat.le_of_ble_eq_true rfl) dX0_isUsed_15 (fun r_2 u H locs hp_3 hP hD hS => ?_)
        obtain ⟨rfl, rfl⟩ := hp_3
        have hP : va_P D vwCl [bO b bq fi (nw 2) (nw 0) (nw 1), (bq 0, .inl (cI, 4, .inl (fun z_ => nI (up z_)))), (bq 1, .inl (cI, 4, .inl (fun z_ => nI (st z_)))), (bq 2, .inl (cI, 12, .inl (fun z_ => nI (ex z_)))), (bq 3, .inl (cI, 12, .inl (fun z_ => nI (tl z_)))), (bq 4, .inl (cI, 12, .inl (fun z_ => nI (he z_)))), (bq 5, .inl (cI, 12, .inl (fun z_ => nI (dy z_)))), (bq 6, .inl (cI, 12, .inl (fun z_ => nI (se z_))))] _ := hP
        have hD : va_D A [bO b bq fi (nw 2) (nw 0) (nw 1), (bq 0, .inl (cI, 4, .inl (fun z_ => nI (up z_)))), (bq 1, .inl (cI, 4, .inl (fun z_ => nI (st z_)))), (bq 2, .inl (cI, 12, .inl (fun z_ => nI (ex z_)))), (bq 3, .inl (cI, 12, .inl (fun z_ => nI (tl z_)))), (bq 4, .inl (cI, 12, .inl (fun z_ => nI (he z_)))), (bq 5, .inl (cI, 12, .inl (fun z_ => nI (dy z_)))), (bq 6, .inl (cI, 12, .inl (fun z_ => nI (se z_))))] := hD
        refine lv_iload_n hx hb dX0_isUsed_18 rfl (lv_at hl 2 rfl) ?_
        refine n_icmp_ne (tgt := 39) hx hb dX0_isUsed_19 (by decide) (by omega) (by omega) (fun c_4 => ?_) (fun c_4 => ?_)
        · -- 19 to 39
          refine lv_iinc (v := nI (k + 1)) (lv' := [(3, .int (nI (k + 1))), (0, .ref b), (1, .int (nI (x))), (2, .int (nI (z)))]) hx hb dX0_isUsed_39 hl (k := 0) rfl (n_inc _ 1) (by decide) rfl (fun ls hl => ?_)
          refine lv_goto (tgt := 2) hx hb dX0_isUsed_42 (by decide) ?_
          exact ih_2 (k + 1) (by omega) (by first | exact us_1 hv (by rw [← hrk.1]; assumption) | exact us_2 hv (by rw [← hrk.2.2.1]; assumption)) (by omega) _ _ hP hD hS _ (lv_sub hl [0, 1, 2, 3] rfl)
        · -- 19 to 22
          refine lv_iload_n hx hb dX0_isUsed_22 rfl (lv_at hl 3 rfl) ?_
          refine lv_aload_n hx hb dX0_isUsed_23 rfl (lv_at hl 1 rfl) ?_
          refine gf_0_24 hx hb hts hown hK hP 0 rfl rfl dX0_isUsed_24 ?_
          refine lv_iload_n hx hb dX0_isUsed_27 rfl (lv_at hl 0 rfl) ?_
          refine cl_0_57 (As := [.ref (bq 4), .int (nI (k))]) (rest := [.int (nI (z))]) hx hb hml hts hown (k_X6_at (by first | assumption | omega) (by first | assumption | omega)) (by decide) ⟨Nat.zero_le _, Nat.zero_le _⟩ hK hP hD hS hA [5] rfl (by decide) rfl hl.1 rfl (Nat.le_of_ble_eq_true rfl) dX0_isUsed_28 (fun r_5 u H locs hp_6 hP hD hS => ?_)
          obtain ⟨rfl, rfl⟩ := hp_6
          have hP : va_P D vwCl [bO b bq fi (nw 2) (nw 0) (nw 1), (bq 0, .inl (cI, 4, .inl (fun z_ => nI (up z_)))), (bq 1, .inl (cI, 4, .inl (fun z_ => nI (st z_)))), (bq 2, .inl (cI, 12, .inl (fun z_ => nI (ex z_)))), (bq 3, .inl (cI, 12, .inl (fun z_ => nI (tl z_)))), (bq 4, .inl (cI, 12, .inl (fun z_ => nI (he z_)))), (bq 5, .inl (cI, 12, .inl (fun z_ => nI (dy z_)))), (bq 6, .inl (cI, 12, .inl (fun z_ => nI (se z_))))] _ := hP
          have hD : va_D A [bO b bq fi (nw 2) (nw 0) (nw 1), (bq 0, .inl (cI, 4, .inl (fun z_ => nI (up z_)))), (bq 1, .inl (cI, 4, .inl (fun z_ => nI (st z_)))), (bq 2, .inl (cI, 12, .inl (fun z_ => nI (ex z_)))), (bq 3, .inl (cI, 12, .inl (fun z_ => nI (tl z_)))), (bq 4, .inl (cI, 12, .inl (fun z_ => nI (he z_)))), (bq 5, .inl (cI, 12, .inl (fun z_ => nI (dy z_)))), (bq 6, .inl (cI, 12, .inl (fun z_ => nI (se z_))))] := hD
          refine n_ishr hx hb dX0_isUsed_31 (by omega) (by omega) ?_
          refine lv_iconst (v := nI 1) hx hb dX0_isUsed_32 (by decide) ?_
          refine n_iand hx hb dX0_isUsed_33  ?_
          refine n_if_eq (tgt := 39) hx hb dX0_isUsed_34 (by decide) (by have := Nat.and_le_right (n := z / 2 ^ he k) (m := 1); omega) (fun c_7 => ?_) (fun c_7 => ?_)
          · -- 34 to 39
            refine lv_iinc (v := nI (k + 1)) (lv' := [(3, .int (nI (k + 1))), (0, .ref b), (1, .int (nI (x))), (2, .int (nI (z)))]) hx hb dX0_isUsed_39 hl (k := 0) rfl (n_inc _ 1) (by decide) rfl (fun ls hl => ?_)
            refine lv_goto (tgt := 2) hx hb dX0_isUsed_42 (by decide) ?_
            exact ih_2 (k + 1) (by omega) (by first | exact us_1 hv (by rw [← hrk.1]; assumption) | exact us_2 hv (by rw [← hrk.2.2.1]; assumption)) (by omega) _ _ hP hD hS _ (lv_sub hl [0, 1, 2, 3] rfl)
          · -- 34 to 37
            refine lv_iconst (v := nI 1) hx hb dX0_isUsed_37 (by decide) ?_
            refine hret hP hD hS dX0_isUsed_38 (by decide) rfl ?_
            exact ⟨congrArg nI (b2n_e1 (us_3 (show k < nw 2 by omega) (by rw [← hrk.1]; assumption) (by rw [← hrk.2.2.1]; assumption))), rfl⟩
  exact loop_2 _ 0 (by omega) rfl (Nat.lt_succ_self _) _ _ hP hD hS _ (lv_sub hl [0, 1, 2, 3] rfl)
set_option maxHeartbeats 4000000 in
set_option maxRecDepth 100000 in
theorem k_X0_isFresh {l : Launch} {D : va_G} {cI cC cB : ClassId} {a : Nat} {pq : Nat → Nat} {bx te ps pu sd cj ta : Nat → Nat} {b : Nat} {bq : Nat → Nat} {nw up st ex tl he dy se : Nat → Nat} {fi : Nat} {x z : Nat} (hR : PlR bx te ps pu sd cj ta) (hX : BoR bx nw up st ex tl he dy se fi) (hx1 : x < 2147483648) (hz : z < 2147483648) : MI l yX0_isFresh cX0_isFresh 4 (some .boolean) 4 D (Ty3 cI cC cB) [.ref b, .ref a, .int (nI (x)), .int (nI (z))] [bO b bq fi (nw 2) (nw 0) (nw 1), (bq 0, .inl (cI, 4, .inl (fun z_ => nI (up z_)))), (bq 1, .inl (cI, 4, .inl (fun z_ => nI (st z_)))), (bq 2, .inl (cI, 12, .inl (fun z_ => nI (ex z_)))), (bq 3, .inl (cI, 12, .inl (fun z_ => nI (tl z_)))), (bq 4, .inl (cI, 12, .inl (fun z_ => nI (he z_)))), (bq 5, .inl (cI, 12, .inl (fun z_ => nI (dy z_)))), (bq 6, .inl (cI, 12, .inl (fun z_ => nI (se z_)))), pO a pq (bx 0) (bx 2) (bx 1) (szN bx (bx 0)) (bx 3) (bx 4), (pq 0, .inl (cI, 4, .inl (fun z_ => nI (te z_)))), (pq 1, .inl (cI, 4, .inl (fun z_ => nI (ps z_)))), (pq 2, .inl (cI, 4, .inl (fun z_ => nI (pu z_)))), (pq 3, .inl (cI, 4, .inl (fun z_ => nI (sd z_)))), (pq 4, .inl (cI, 8, .inl (fun z_ => nI (cj z_)))), (pq 5, .inl (cI, 5, .inl (fun z_ => nI (ta z_))))] (fun r u => (r = nI (b2n (senN bx nw x && !usN nw x z (nw 2))) ∧ u = [bO b bq fi (nw 2) (nw 0) (nw 1), (bq 0, .inl (cI, 4, .inl (fun z_ => nI (up z_)))), (bq 1, .inl (cI, 4, .inl (fun z_ => nI (st z_)))), (bq 2, .inl (cI, 12, .inl (fun z_ => nI (ex z_)))), (bq 3, .inl (cI, 12, .inl (fun z_ => nI (tl z_)))), (bq 4, .inl (cI, 12, .inl (fun z_ => nI (he z_)))), (bq 5, .inl (cI, 12, .inl (fun z_ => nI (dy z_)))), (bq 6, .inl (cI, 12, .inl (fun z_ => nI (se z_)))), pO a pq (bx 0) (bx 2) (bx 1) (szN bx (bx 0)) (bx 3) (bx 4), (pq 0, .inl (cI, 4, .inl (fun z_ => nI (te z_)))), (pq 1, .inl (cI, 4, .inl (fun z_ => nI (ps z_)))), (pq 2, .inl (cI, 4, .inl (fun z_ => nI (pu z_)))), (pq 3, .inl (cI, 4, .inl (fun z_ => nI (sd z_)))), (pq 4, .inl (cI, 8, .inl (fun z_ => nI (cj z_)))), (pq 5, .inl (cI, 5, .inl (fun z_ => nI (ta z_))))])) := by
  intro sz
  refine MI.walk (by decide +kernel) (Nat.le_of_ble_eq_true rfl) ?_
  intro p e s m args below meth c A Qf hx hb hml hts hown hret hK hP hD hS hA ls hl
  have hown : s.vm.findClass RX0 = some m.cls := hown
  have hl : lv_has ls 4 [(0, .ref b), (1, .ref a), (2, .int (nI (x))), (3, .int (nI (z)))] := hl
  have hP : va_P D vwCl [bO b bq fi (nw 2) (nw 0) (nw 1), (bq 0, .inl (cI, 4, .inl (fun z_ => nI (up z_)))), (bq 1, .inl (cI, 4, .inl (fun z_ => nI (st z_)))), (bq 2, .inl (cI, 12, .inl (fun z_ => nI (ex z_)))), (bq 3, .inl (cI, 12, .inl (fun z_ => nI (tl z_)))), (bq 4, .inl (cI, 12, .inl (fun z_ => nI (he z_)))), (bq 5, .inl (cI, 12, .inl (fun z_ => nI (dy z_)))), (bq 6, .inl (cI, 12, .inl (fun z_ => nI (se z_)))), pO a pq (bx 0) (bx 2) (bx 1) (szN bx (bx 0)) (bx 3) (bx 4), (pq 0, .inl (cI, 4, .inl (fun z_ => nI (te z_)))), (pq 1, .inl (cI, 4, .inl (fun z_ => nI (ps z_)))), (pq 2, .inl (cI, 4, .inl (fun z_ => nI (pu z_)))), (pq 3, .inl (cI, 4, .inl (fun z_ => nI (sd z_)))), (pq 4, .inl (cI, 8, .inl (fun z_ => nI (cj z_)))), (pq 5, .inl (cI, 5, .inl (fun z_ => nI (ta z_))))] s.heap := hP
  have hD : va_D A [bO b bq fi (nw 2) (nw 0) (nw 1), (bq 0, .inl (cI, 4, .inl (fun z_ => nI (up z_)))), (bq 1, .inl (cI, 4, .inl (fun z_ => nI (st z_)))), (bq 2, .inl (cI, 12, .inl (fun z_ => nI (ex z_)))), (bq 3, .inl (cI, 12, .inl (fun z_ => nI (tl z_)))), (bq 4, .inl (cI, 12, .inl (fun z_ => nI (he z_)))), (bq 5, .inl (cI, 12, .inl (fun z_ => nI (dy z_)))), (bq 6, .inl (cI, 12, .inl (fun z_ => nI (se z_)))), pO a pq (bx 0) (bx 2) (bx 1) (szN bx (bx 0)) (bx 3) (bx 4), (pq 0, .inl (cI, 4, .inl (fun z_ => nI (te z_)))), (pq 1, .inl (cI, 4, .inl (fun z_ => nI (ps z_)))), (pq 2, .inl (cI, 4, .inl (fun z_ => nI (pu z_)))), (pq 3, .inl (cI, 4, .inl (fun z_ => nI (sd z_)))), (pq 4, .inl (cI, 8, .inl (fun z_ => nI (cj z_)))), (pq 5, .inl (cI, 5, .inl (fun z_ => nI (ta z_))))] := hD
  refine lv_aload_n hx hb dX0_isFresh_0 rfl (lv_at hl 0 rfl) ?_
  refine lv_aload_n hx hb dX0_isFresh_1 rfl (lv_at hl 1 rfl) ?_
  refine lv_iload_n hx hb dX0_isFresh_2 rfl (lv_at hl 2 rfl) ?_
  refine cl_0_87 (As := [.ref a, .int (nI (x))]) (rest := []) hx hb hml hts hown (k_X0_makesSense (by first | assumption | omega) (by first | assumption | omega) (by first | assumption | omega)) (by decide) ⟨Nat.zero_le _, Nat.zero_le _⟩ hK hP hD hS hA 0 rfl [0, 1, 2, 3, 4, 5, 6, 7, 8, 9, 10, 11, 12, 13, 14] rfl (by decide) rfl hl.1 rfl (Nat.le_of_ble_eq_true rfl) dX0_isFresh_3 (fun r_1 u H locs hp_2 hP hD hS => ?_)
  obtain ⟨rfl, rfl⟩ := hp_2
  have hP : va_P D vwCl [bO b bq fi (nw 2) (nw 0) (nw 1), (bq 0, .inl (cI, 4, .inl (fun z_ => nI (up z_)))), (bq 1, .inl (cI, 4, .inl (fun z_ => nI (st z_)))), (bq 2, .inl (cI, 12, .inl (fun z_ => nI (ex z_)))), (bq 3, .inl (cI, 12, .inl (fun z_ => nI (tl z_)))), (bq 4, .inl (cI, 12, .inl (fun z_ => nI (he z_)))), (bq 5, .inl (cI, 12, .inl (fun z_ => nI (dy z_)))), (bq 6, .inl (cI, 12, .inl (fun z_ => nI (se z_)))), pO a pq (bx 0) (bx 2) (bx 1) (szN bx (bx 0)) (bx 3) (bx 4), (pq 0, .inl (cI, 4, .inl (fun z_ => nI (te z_)))), (pq 1, .inl (cI, 4, .inl (fun z_ => nI (ps z_)))), (pq 2, .inl (cI, 4, .inl (fun z_ => nI (pu z_)))), (pq 3, .inl (cI, 4, .inl (fun z_ => nI (sd z_)))), (pq 4, .inl (cI, 8, .inl (fun z_ => nI (cj z_)))), (pq 5, .inl (cI, 5, .inl (fun z_ => nI (ta z_))))] _ := hP
  have hD : va_D A [bO b bq fi (nw 2) (nw 0) (nw 1), (bq 0, .inl (cI, 4, .inl (fun z_ => nI (up z_)))), (bq 1, .inl (cI, 4, .inl (fun z_ => nI (st z_)))), (bq 2, .inl (cI, 12, .inl (fun z_ => nI (ex z_)))), (bq 3, .inl (cI, 12, .inl (fun z_ => nI (tl z_)))), (bq 4, .inl (cI, 12, .inl (fun z_ => nI (he z_)))), (bq 5, .inl (cI, 12, .inl (fun z_ => nI (dy z_)))), (bq 6, .inl (cI, 12, .inl (fun z_ => nI (se z_)))), pO a pq (bx 0) (bx 2) (bx 1) (szN bx (bx 0)) (bx 3) (bx 4), (pq 0, .inl (cI, 4, .inl (fun z_ => nI (te z_)))), (pq 1, .inl (cI, 4, .inl (fun z_ => nI (ps z_)))), (pq 2, .inl (cI, 4, .inl (fun z_ => nI (pu z_)))), (pq 3, .inl (cI, 4, .inl (fun z_ => nI (sd z_)))), (pq 4, .inl (cI, 8, .inl (fun z_ => nI (cj z_)))), (pq 5, .inl (cI, 5, .inl (fun z_ => nI (ta z_))))] := hD
  refine n_ifb_eq (tgt := 22) hx hb dX0_isFresh_6 (by decide) (fun c_3 => ?_) (fun c_3 => ?_)
  · -- 6 to 22
    refine lv_iconst (v := nI 0) hx hb dX0_isFresh_22 (by decide) ?_
    refine hret hP hD hS dX0_isFresh_23 (by decide) rfl ?_
    exact ⟨congrArg nI (by first | exact b2n_e1 (and_n1 (by assumption) (by assumption)) | exact b2n_e0 (and_n2 (by assumption)) | exact b2n_e0 (and_n3 (by assumption))), rfl⟩
  · -- 6 to 9
    refine lv_aload_n hx hb dX0_isFresh_9 rfl (lv_at hl 0 rfl) ?_
    refine lv_iload_n hx hb dX0_isFresh_10 rfl (lv_at hl 2 rfl) ?_
    refine lv_iload_n hx hb dX0_isFresh_11 rfl (lv_at hl 3 rfl) ?_
    refine cl_0_91 (As := [.int (nI (x)), .int (nI (z))]) (rest := []) hx hb hml hts hown (k_X0_isUsed hX hR.b hx1 hz) (by decide) ⟨Nat.zero_le _, Nat.zero_le _⟩ hK hP hD hS hA 0 rfl [0, 1, 2, 3, 4, 5, 6, 7] rfl (by decide) rfl hl.1 rfl (Nat.le_of_ble_eq_true rfl) dX0_isFresh_12 (fun r_4 u H locs hp_5 hP hD hS => ?_)
    obtain ⟨rfl, rfl⟩ := hp_5
    have hP : va_P D vwCl [bO b bq fi (nw 2) (nw 0) (nw 1), (bq 0, .inl (cI, 4, .inl (fun z_ => nI (up z_)))), (bq 1, .inl (cI, 4, .inl (fun z_ => nI (st z_)))), (bq 2, .inl (cI, 12, .inl (fun z_ => nI (ex z_)))), (bq 3, .inl (cI, 12, .inl (fun z_ => nI (tl z_)))), (bq 4, .inl (cI, 12, .inl (fun z_ => nI (he z_)))), (bq 5, .inl (cI, 12, .inl (fun z_ => nI (dy z_)))), (bq 6, .inl (cI, 12, .inl (fun z_ => nI (se z_)))), pO a pq (bx 0) (bx 2) (bx 1) (szN bx (bx 0)) (bx 3) (bx 4), (pq 0, .inl (cI, 4, .inl (fun z_ => nI (te z_)))), (pq 1, .inl (cI, 4, .inl (fun z_ => nI (ps z_)))), (pq 2, .inl (cI, 4, .inl (fun z_ => nI (pu z_)))), (pq 3, .inl (cI, 4, .inl (fun z_ => nI (sd z_)))), (pq 4, .inl (cI, 8, .inl (fun z_ => nI (cj z_)))), (pq 5, .inl (cI, 5, .inl (fun z_ => nI (ta z_))))] _ := hP
    have hD : va_D A [bO b bq fi (nw 2) (nw 0) (nw 1), (bq 0, .inl (cI, 4, .inl (fun z_ => nI (up z_)))), (bq 1, .inl (cI, 4, .inl (fun z_ => nI (st z_)))), (bq 2, .inl (cI, 12, .inl (fun z_ => nI (ex z_)))), (bq 3, .inl (cI, 12, .inl (fun z_ => nI (tl z_)))), (bq 4, .inl (cI, 12, .inl (fun z_ => nI (he z_)))), (bq 5, .inl (cI, 12, .inl (fun z_ => nI (dy z_)))), (bq 6, .inl (cI, 12, .inl (fun z_ => nI (se z_)))), pO a pq (bx 0) (bx 2) (bx 1) (szN bx (bx 0)) (bx 3) (bx 4), (pq 0, .inl (cI, 4, .inl (fun z_ => nI (te z_)))), (pq 1, .inl (cI, 4, .inl (fun z_ => nI (ps z_)))), (pq 2, .inl (cI, 4, .inl (fun z_ => nI (pu z_)))), (pq 3, .inl (cI, 4, .inl (fun z_ => nI (sd z_)))), (pq 4, .inl (cI, 8, .inl (fun z_ => nI (cj z_)))), (pq 5, .inl (cI, 5, .inl (fun z_ => nI (ta z_))))] := hD
    refine n_ifb_ne (tgt := 22) hx hb dX0_isFresh_15 (by decide) (fun c_6 => ?_) (fun c_6 => ?_)
    · -- 15 to 22
      refine lv_iconst (v := nI 0) hx hb dX0_isFresh_22 (by decide) ?_
      refine hret hP hD hS dX0_isFresh_23 (by decide) rfl ?_
      exact ⟨congrArg nI (by first | exact b2n_e1 (and_n1 (by assumption) (by assumption)) | exact b2n_e0 (and_n2 (by assumption)) | exact b2n_e0 (and_n3 (by assumption))), rfl⟩
    · -- 15 to 18
      refine lv_iconst (v := nI 1) hx hb dX0_isFresh_18 (by decide) ?_
      refine lv_goto (tgt := 23) hx hb dX0_isFresh_19 (by decide) ?_
      refine hret hP hD hS dX0_isFresh_23 (by decide) rfl ?_
      exact ⟨congrArg nI (by first | exact b2n_e1 (and_n1 (by assumption) (by assumption)) | exact b2n_e0 (and_n2 (by assumption)) | exact b2n_e0 (and_n3 (by assumption))), rfl⟩
set_option maxHeartbeats 4000000 in
set_option maxRecDepth 100000 in
theorem k_X0_turnsTillFresh {l : Launch} {D : va_G} {cI cC cB : ClassId} {a : Nat} {pq : Nat → Nat} {bx te ps pu sd cj ta : Nat → Nat} {b : Nat} {bq : Nat → Nat} {nw up st ex tl he dy se : Nat → Nat} {fi : Nat} {y : Nat} (hR : PlR bx te ps pu sd cj ta) (hX : BoR bx nw up st ex tl he dy se fi) (hy : y < bx 1) : MI l yX0_turnsTillFresh cX0_turnsTillFresh 6 (some .int) 5 D (Ty3 cI cC cB) [.ref b, .ref a, .int (nI (y))] [bO b bq fi (nw 2) (nw 0) (nw 1), (bq 0, .inl (cI, 4, .inl (fun z_ => nI (up z_)))), (bq 1, .inl (cI, 4, .inl (fun z_ => nI (st z_)))), (bq 2, .inl (cI, 12, .inl (fun z_ => nI (ex z_)))), (bq 3, .inl (cI, 12, .inl (fun z_ => nI (tl z_)))), (bq 4, .inl (cI, 12, .inl (fun z_ => nI (he z_)))), (bq 5, .inl (cI, 12, .inl (fun z_ => nI (dy z_)))), (bq 6, .inl (cI, 12, .inl (fun z_ => nI (se z_)))), pO a pq (bx 0) (bx 2) (bx 1) (szN bx (bx 0)) (bx 3) (bx 4), (pq 0, .inl (cI, 4, .inl (fun z_ => nI (te z_)))), (pq 1, .inl (cI, 4, .inl (fun z_ => nI (ps z_)))), (pq 2, .inl (cI, 4, .inl (fun z_ => nI (pu z_)))), (pq 3, .inl (cI, 4, .inl (fun z_ => nI (sd z_)))), (pq 4, .inl (cI, 8, .inl (fun z_ => nI (cj z_)))), (pq 5, .inl (cI, 5, .inl (fun z_ => nI (ta z_))))] (fun r u => (r = nI (ftN bx nw y (rdN bx nw (bx 0))) ∧ u = [bO b bq fi (nw 2) (nw 0) (nw 1), (bq 0, .inl (cI, 4, .inl (fun z_ => nI (up z_)))), (bq 1, .inl (cI, 4, .inl (fun z_ => nI (st z_)))), (bq 2, .inl (cI, 12, .inl (fun z_ => nI (ex z_)))), (bq 3, .inl (cI, 12, .inl (fun z_ => nI (tl z_)))), (bq 4, .inl (cI, 12, .inl (fun z_ => nI (he z_)))), (bq 5, .inl (cI, 12, .inl (fun z_ => nI (dy z_)))), (bq 6, .inl (cI, 12, .inl (fun z_ => nI (se z_)))), pO a pq (bx 0) (bx 2) (bx 1) (szN bx (bx 0)) (bx 3) (bx 4), (pq 0, .inl (cI, 4, .inl (fun z_ => nI (te z_)))), (pq 1, .inl (cI, 4, .inl (fun z_ => nI (ps z_)))), (pq 2, .inl (cI, 4, .inl (fun z_ => nI (pu z_)))), (pq 3, .inl (cI, 4, .inl (fun z_ => nI (sd z_)))), (pq 4, .inl (cI, 8, .inl (fun z_ => nI (cj z_)))), (pq 5, .inl (cI, 5, .inl (fun z_ => nI (ta z_))))])) := by
  intro sz
  refine MI.walk (by decide +kernel) (Nat.le_of_ble_eq_true rfl) ?_
  intro p e s m args below meth c A Qf hx hb hml hts hown hret hK hP hD hS hA ls hl
  have hown : s.vm.findClass RX0 = some m.cls := hown
  have hl : lv_has ls 6 [(0, .ref b), (1, .ref a), (2, .int (nI (y)))] := hl
  have hP : va_P D vwCl [bO b bq fi (nw 2) (nw 0) (nw 1), (bq 0, .inl (cI, 4, .inl (fun z_ => nI (up z_)))), (bq 1, .inl (cI, 4, .inl (fun z_ => nI (st z_)))), (bq 2, .inl (cI, 12, .inl (fun z_ => nI (ex z_)))), (bq 3, .inl (cI, 12, .inl (fun z_ => nI (tl z_)))), (bq 4, .inl (cI, 12, .inl (fun z_ => nI (he z_)))), (bq 5, .inl (cI, 12, .inl (fun z_ => nI (dy z_)))), (bq 6, .inl (cI, 12, .inl (fun z_ => nI (se z_)))), pO a pq (bx 0) (bx 2) (bx 1) (szN bx (bx 0)) (bx 3) (bx 4), (pq 0, .inl (cI, 4, .inl (fun z_ => nI (te z_)))), (pq 1, .inl (cI, 4, .inl (fun z_ => nI (ps z_)))), (pq 2, .inl (cI, 4, .inl (fun z_ => nI (pu z_)))), (pq 3, .inl (cI, 4, .inl (fun z_ => nI (sd z_)))), (pq 4, .inl (cI, 8, .inl (fun z_ => nI (cj z_)))), (pq 5, .inl (cI, 5, .inl (fun z_ => nI (ta z_))))] s.heap := hP
  have hD : va_D A [bO b bq fi (nw 2) (nw 0) (nw 1), (bq 0, .inl (cI, 4, .inl (fun z_ => nI (up z_)))), (bq 1, .inl (cI, 4, .inl (fun z_ => nI (st z_)))), (bq 2, .inl (cI, 12, .inl (fun z_ => nI (ex z_)))), (bq 3, .inl (cI, 12, .inl (fun z_ => nI (tl z_)))), (bq 4, .inl (cI, 12, .inl (fun z_ => nI (he z_)))), (bq 5, .inl (cI, 12, .inl (fun z_ => nI (dy z_)))), (bq 6, .inl (cI, 12, .inl (fun z_ => nI (se z_)))), pO a pq (bx 0) (bx 2) (bx 1) (szN bx (bx 0)) (bx 3) (bx 4), (pq 0, .inl (cI, 4, .inl (fun z_ => nI (te z_)))), (pq 1, .inl (cI, 4, .inl (fun z_ => nI (ps z_)))), (pq 2, .inl (cI, 4, .inl (fun z_ => nI (pu z_)))), (pq 3, .inl (cI, 4, .inl (fun z_ => nI (sd z_)))), (pq 4, .inl (cI, 8, .inl (fun z_ => nI (cj z_)))), (pq 5, .inl (cI, 5, .inl (fun z_ => nI (ta z_))))] := hD
  have hpn := hR.b.n
  have hrd := rd_le2 (nw := nw) hR.b (Nat.le_refl _)
  have hth := th_lt hR.b hy
  refine lv_aload_n hx hb dX0_turnsTillFresh_0 rfl (lv_at hl 1 rfl) ?_
  refine lv_iload_n hx hb dX0_turnsTillFresh_1 rfl (lv_at hl 2 rfl) ?_
  refine cl_0_95 (As := [.int (nI (y))]) (rest := []) hx hb hml hts hown (k_X2_circleOf (by first | assumption | omega) (by first | assumption | omega)) (by decide) ⟨Nat.zero_le _, Nat.zero_le _⟩ hK hP hD hS hA 8 rfl [8, 9, 10, 11, 12, 13, 14] rfl (by decide) rfl hl.1 rfl (Nat.le_of_ble_eq_true rfl) dX0_turnsTillFresh_2 (fun r_1 u H locs hp_2 hP hD hS => ?_)
  obtain ⟨rfl, rfl⟩ := hp_2
  have hP : va_P D vwCl [bO b bq fi (nw 2) (nw 0) (nw 1), (bq 0, .inl (cI, 4, .inl (fun z_ => nI (up z_)))), (bq 1, .inl (cI, 4, .inl (fun z_ => nI (st z_)))), (bq 2, .inl (cI, 12, .inl (fun z_ => nI (ex z_)))), (bq 3, .inl (cI, 12, .inl (fun z_ => nI (tl z_)))), (bq 4, .inl (cI, 12, .inl (fun z_ => nI (he z_)))), (bq 5, .inl (cI, 12, .inl (fun z_ => nI (dy z_)))), (bq 6, .inl (cI, 12, .inl (fun z_ => nI (se z_)))), pO a pq (bx 0) (bx 2) (bx 1) (szN bx (bx 0)) (bx 3) (bx 4), (pq 0, .inl (cI, 4, .inl (fun z_ => nI (te z_)))), (pq 1, .inl (cI, 4, .inl (fun z_ => nI (ps z_)))), (pq 2, .inl (cI, 4, .inl (fun z_ => nI (pu z_)))), (pq 3, .inl (cI, 4, .inl (fun z_ => nI (sd z_)))), (pq 4, .inl (cI, 8, .inl (fun z_ => nI (cj z_)))), (pq 5, .inl (cI, 5, .inl (fun z_ => nI (ta z_))))] _ := hP
  have hD : va_D A [bO b bq fi (nw 2) (nw 0) (nw 1), (bq 0, .inl (cI, 4, .inl (fun z_ => nI (up z_)))), (bq 1, .inl (cI, 4, .inl (fun z_ => nI (st z_)))), (bq 2, .inl (cI, 12, .inl (fun z_ => nI (ex z_)))), (bq 3, .inl (cI, 12, .inl (fun z_ => nI (tl z_)))), (bq 4, .inl (cI, 12, .inl (fun z_ => nI (he z_)))), (bq 5, .inl (cI, 12, .inl (fun z_ => nI (dy z_)))), (bq 6, .inl (cI, 12, .inl (fun z_ => nI (se z_)))), pO a pq (bx 0) (bx 2) (bx 1) (szN bx (bx 0)) (bx 3) (bx 4), (pq 0, .inl (cI, 4, .inl (fun z_ => nI (te z_)))), (pq 1, .inl (cI, 4, .inl (fun z_ => nI (ps z_)))), (pq 2, .inl (cI, 4, .inl (fun z_ => nI (pu z_)))), (pq 3, .inl (cI, 4, .inl (fun z_ => nI (sd z_)))), (pq 4, .inl (cI, 8, .inl (fun z_ => nI (cj z_)))), (pq 5, .inl (cI, 5, .inl (fun z_ => nI (ta z_))))] := hD
  refine lv_istore_n (lv' := [(3, .int (nI (tkN bx y (bx 1) ||| 1 * 2 ^ y))), (0, .ref b), (1, .ref a), (2, .int (nI (y)))]) hx hb dX0_turnsTillFresh_5 rfl hl (by decide) rfl (fun ls hl => ?_)
  refine lv_aload_n hx hb dX0_turnsTillFresh_6 rfl (lv_at hl 1 rfl) ?_
  refine lv_aload_n hx hb dX0_turnsTillFresh_7 rfl (lv_at hl 2 rfl) ?_
  refine cl_0_98 (As := [.ref a]) (rest := []) hx hb hml hts hown (k_X0_turnsInRound (by first | assumption | omega) (by first | assumption | omega)) (by decide) ⟨Nat.zero_le _, Nat.zero_le _⟩ hK hP hD hS hA 0 rfl [0, 1, 2, 3, 4, 5, 6, 7, 8, 9, 10, 11, 12, 13, 14] rfl (by decide) rfl hl.1 rfl (Nat.le_of_ble_eq_true rfl) dX0_turnsTillFresh_8 (fun r_3 u H locs hp_4 hP hD hS => ?_)
  obtain ⟨rfl, rfl⟩ := hp_4
  have hP : va_P D vwCl [bO b bq fi (nw 2) (nw 0) (nw 1), (bq 0, .inl (cI, 4, .inl (fun z_ => nI (up z_)))), (bq 1, .inl (cI, 4, .inl (fun z_ => nI (st z_)))), (bq 2, .inl (cI, 12, .inl (fun z_ => nI (ex z_)))), (bq 3, .inl (cI, 12, .inl (fun z_ => nI (tl z_)))), (bq 4, .inl (cI, 12, .inl (fun z_ => nI (he z_)))), (bq 5, .inl (cI, 12, .inl (fun z_ => nI (dy z_)))), (bq 6, .inl (cI, 12, .inl (fun z_ => nI (se z_)))), pO a pq (bx 0) (bx 2) (bx 1) (szN bx (bx 0)) (bx 3) (bx 4), (pq 0, .inl (cI, 4, .inl (fun z_ => nI (te z_)))), (pq 1, .inl (cI, 4, .inl (fun z_ => nI (ps z_)))), (pq 2, .inl (cI, 4, .inl (fun z_ => nI (pu z_)))), (pq 3, .inl (cI, 4, .inl (fun z_ => nI (sd z_)))), (pq 4, .inl (cI, 8, .inl (fun z_ => nI (cj z_)))), (pq 5, .inl (cI, 5, .inl (fun z_ => nI (ta z_))))] _ := hP
  have hD : va_D A [bO b bq fi (nw 2) (nw 0) (nw 1), (bq 0, .inl (cI, 4, .inl (fun z_ => nI (up z_)))), (bq 1, .inl (cI, 4, .inl (fun z_ => nI (st z_)))), (bq 2, .inl (cI, 12, .inl (fun z_ => nI (ex z_)))), (bq 3, .inl (cI, 12, .inl (fun z_ => nI (tl z_)))), (bq 4, .inl (cI, 12, .inl (fun z_ => nI (he z_)))), (bq 5, .inl (cI, 12, .inl (fun z_ => nI (dy z_)))), (bq 6, .inl (cI, 12, .inl (fun z_ => nI (se z_)))), pO a pq (bx 0) (bx 2) (bx 1) (szN bx (bx 0)) (bx 3) (bx 4), (pq 0, .inl (cI, 4, .inl (fun z_ => nI (te z_)))), (pq 1, .inl (cI, 4, .inl (fun z_ => nI (ps z_)))), (pq 2, .inl (cI, 4, .inl (fun z_ => nI (pu z_)))), (pq 3, .inl (cI, 4, .inl (fun z_ => nI (sd z_)))), (pq 4, .inl (cI, 8, .inl (fun z_ => nI (cj z_)))), (pq 5, .inl (cI, 5, .inl (fun z_ => nI (ta z_))))] := hD
  refine lv_istore (lv' := [(4, .int (nI (rdN bx nw (bx 0)))), (3, .int (nI (tkN bx y (bx 1) ||| 1 * 2 ^ y))), (0, .ref b), (1, .ref a), (2, .int (nI (y)))]) hx hb dX0_turnsTillFresh_11 hl (by decide) rfl (fun ls hl => ?_)
  refine lv_iconst (v := nI 1) hx hb dX0_turnsTillFresh_13 (by decide) ?_
  refine lv_istore (lv' := [(5, .int (nI (1))), (4, .int (nI (rdN bx nw (bx 0)))), (3, .int (nI (tkN bx y (bx 1) ||| 1 * 2 ^ y))), (0, .ref b), (1, .ref a), (2, .int (nI (y)))]) hx hb dX0_turnsTillFresh_14 hl (by decide) rfl (fun ls hl => ?_)
  have loop_16 : ∀ (N : Nat) (n : Nat), (1 ≤ n) → (n ≤ rdN bx nw (bx 0) + 1) → (ftN bx nw y (n - 1) = 0) → (rdN bx nw (bx 0) + 1 - n) < N → ∀ (H : Heap) (locs : List Loc), va_P D vwCl [bO b bq fi (nw 2) (nw 0) (nw 1), (bq 0, .inl (cI, 4, .inl (fun z_ => nI (up z_)))), (bq 1, .inl (cI, 4, .inl (fun z_ => nI (st z_)))), (bq 2, .inl (cI, 12, .inl (fun z_ => nI (ex z_)))), (bq 3, .inl (cI, 12, .inl (fun z_ => nI (tl z_)))), (bq 4, .inl (cI, 12, .inl (fun z_ => nI (he z_)))), (bq 5, .inl (cI, 12, .inl (fun z_ => nI (dy z_)))), (bq 6, .inl (cI, 12, .inl (fun z_ => nI (se z_)))), pO a pq (bx 0) (bx 2) (bx 1) (szN bx (bx 0)) (bx 3) (bx 4), (pq 0, .inl (cI, 4, .inl (fun z_ => nI (te z_)))), (pq 1, .inl (cI, 4, .inl (fun z_ => nI (ps z_)))), (pq 2, .inl (cI, 4, .inl (fun z_ => nI (pu z_)))), (pq 3, .inl (cI, 4, .inl (fun z_ => nI (sd z_)))), (pq 4, .inl (cI, 8, .inl (fun z_ => nI (cj z_)))), (pq 5, .inl (cI, 5, .inl (fun z_ => nI (ta z_))))] H → va_D A [bO b bq fi (nw 2) (nw 0) (nw 1), (bq 0, .inl (cI, 4, .inl (fun z_ => nI (up z_)))), (bq 1, .inl (cI, 4, .inl (fun z_ => nI (st z_)))), (bq 2, .inl (cI, 12, .inl (fun z_ => nI (ex z_)))), (bq 3, .inl (cI, 12, .inl (fun z_ => nI (tl z_)))), (bq 4, .inl (cI, 12, .inl (fun z_ => nI (he z_)))), (bq 5, .inl (cI, 12, .inl (fun z_ => nI (dy z_)))), (bq 6, .inl (cI, 12, .inl (fun z_ => nI (se z_)))), pO a pq (bx 0) (bx 2) (bx 1) (szN bx (bx 0)) (bx 3) (bx 4), (pq 0, .inl (cI, 4, .inl (fun z_ => nI (te z_)))), (pq 1, .inl (cI, 4, .inl (fun z_ => nI (ps z_)))), (pq 2, .inl (cI, 4, .inl (fun z_ => nI (pu z_)))), (pq 3, .inl (cI, 4, .inl (fun z_ => nI (sd z_)))), (pq 4, .inl (cI, 8, .inl (fun z_ => nI (cj z_)))), (pq 5, .inl (cI, 5, .inl (fun z_ => nI (ta z_))))] → va_S A s.heap H locs → ∀ ls : Array Slot, lv_has ls 6 [(5, .int (nI (n))), (4, .int (nI (rdN bx nw (bx 0)))), (3, .int (nI (tkN bx y (bx 1) ||| 1 * 2 ^ y))), (0, .ref b), (1, .ref a), (2, .int (nI (y)))] → W p l e (rmL 5) s m args below meth c H locs 0 0 Qf (F0 m 16 ls []) := by
    intro N; induction N with
    | zero => intro n _ _ _ hm; omega
    | succ N ih_16 =>
      intro n hn1 hn hv hm H locs hP hD hS ls hl
      refine lv_iload hx hb dX0_turnsTillFresh_16 (lv_at hl 0 rfl) ?_
      refine lv_iload hx hb dX0_turnsTillFresh_18 (lv_at hl 1 rfl) ?_
      refine n_icmp_gt (tgt := 48) hx hb dX0_turnsTillFresh_20 (by decide) (by omega) (by omega) (fun c_5 => ?_) (fun c_5 => ?_)
      · -- 20 to 48
        refine lv_iconst (v := nI 0) hx hb dX0_turnsTillFresh_48 (by decide) ?_
        refine hret hP hD hS dX0_turnsTillFresh_49 rfl rfl ?_
        exact ⟨congrArg nI (by rw [← show n - 1 = rdN bx nw (bx 0) by omega]; exact hv.symm), rfl⟩
      · -- 20 to 23
        refine lv_aload_n hx hb dX0_turnsTillFresh_23 rfl (lv_at hl 3 rfl) ?_
        refine lv_aload_n hx hb dX0_turnsTillFresh_24 rfl (lv_at hl 4 rfl) ?_
        refine lv_aload_n hx hb dX0_turnsTillFresh_25 rfl (lv_at hl 3 rfl) ?_
        refine lv_aload_n hx hb dX0_turnsTillFresh_26 rfl (lv_at hl 4 rfl) ?_
        refine lv_iload hx hb dX0_turnsTillFresh_27 (lv_at hl 0 rfl) ?_
        refine cl_0_102 (As := [.ref a, .int (nI (n))]) (rest := [.ref a, .ref b]) hx hb hml hts hown (k_X0_excuseBehind (by first | assumption | omega) (by first | assumption | omega) (by first | assumption | omega)) (by decide) ⟨Nat.zero_le _, Nat.zero_le _⟩ hK hP hD hS hA 0 rfl [0, 1, 2, 3, 4, 5, 6, 7, 8, 9, 10, 11, 12, 13, 14] rfl (by decide) rfl hl.1 rfl (Nat.le_of_ble_eq_true rfl) dX0_turnsTillFresh_29 (fun r_6 u H locs hp_7 hP hD hS => ?_)
        obtain ⟨rfl, rfl⟩ := hp_7
        have hP : va_P D vwCl [bO b bq fi (nw 2) (nw 0) (nw 1), (bq 0, .inl (cI, 4, .inl (fun z_ => nI (up z_)))), (bq 1, .inl (cI, 4, .inl (fun z_ => nI (st z_)))), (bq 2, .inl (cI, 12, .inl (fun z_ => nI (ex z_)))), (bq 3, .inl (cI, 12, .inl (fun z_ => nI (tl z_)))), (bq 4, .inl (cI, 12, .inl (fun z_ => nI (he z_)))), (bq 5, .inl (cI, 12, .inl (fun z_ => nI (dy z_)))), (bq 6, .inl (cI, 12, .inl (fun z_ => nI (se z_)))), pO a pq (bx 0) (bx 2) (bx 1) (szN bx (bx 0)) (bx 3) (bx 4), (pq 0, .inl (cI, 4, .inl (fun z_ => nI (te z_)))), (pq 1, .inl (cI, 4, .inl (fun z_ => nI (ps z_)))), (pq 2, .inl (cI, 4, .inl (fun z_ => nI (pu z_)))), (pq 3, .inl (cI, 4, .inl (fun z_ => nI (sd z_)))), (pq 4, .inl (cI, 8, .inl (fun z_ => nI (cj z_)))), (pq 5, .inl (cI, 5, .inl (fun z_ => nI (ta z_))))] _ := hP
        have hD : va_D A [bO b bq fi (nw 2) (nw 0) (nw 1), (bq 0, .inl (cI, 4, .inl (fun z_ => nI (up z_)))), (bq 1, .inl (cI, 4, .inl (fun z_ => nI (st z_)))), (bq 2, .inl (cI, 12, .inl (fun z_ => nI (ex z_)))), (bq 3, .inl (cI, 12, .inl (fun z_ => nI (tl z_)))), (bq 4, .inl (cI, 12, .inl (fun z_ => nI (he z_)))), (bq 5, .inl (cI, 12, .inl (fun z_ => nI (dy z_)))), (bq 6, .inl (cI, 12, .inl (fun z_ => nI (se z_)))), pO a pq (bx 0) (bx 2) (bx 1) (szN bx (bx 0)) (bx 3) (bx 4), (pq 0, .inl (cI, 4, .inl (fun z_ => nI (te z_)))), (pq 1, .inl (cI, 4, .inl (fun z_ => nI (ps z_)))), (pq 2, .inl (cI, 4, .inl (fun z_ => nI (pu z_)))), (pq 3, .inl (cI, 4, .inl (fun z_ => nI (sd z_)))), (pq 4, .inl (cI, 8, .inl (fun z_ => nI (cj z_)))), (pq 5, .inl (cI, 5, .inl (fun z_ => nI (ta z_))))] := hD
        refine lv_iload_n hx hb dX0_turnsTillFresh_32 rfl (lv_at hl 2 rfl) ?_
        refine cl_0_106 (As := [.ref a, .int (nI (ebN bx nw n)), .int (nI (tkN bx y (bx 1) ||| 1 * 2 ^ y))]) (rest := []) hx hb hml hts hown (k_X0_isFresh hR hX (by have := eb_lt hR.b nw n; omega) (by omega)) (by decide) ⟨Nat.zero_le _, Nat.zero_le _⟩ hK hP hD hS hA 0 rfl [0, 1, 2, 3, 4, 5, 6, 7, 8, 9, 10, 11, 12, 13, 14] rfl (by decide) rfl hl.1 rfl (Nat.le_of_ble_eq_true rfl) dX0_turnsTillFresh_33 (fun r_8 u H locs hp_9 hP hD hS => ?_)
        obtain ⟨rfl, rfl⟩ := hp_9
        have hP : va_P D vwCl [bO b bq fi (nw 2) (nw 0) (nw 1), (bq 0, .inl (cI, 4, .inl (fun z_ => nI (up z_)))), (bq 1, .inl (cI, 4, .inl (fun z_ => nI (st z_)))), (bq 2, .inl (cI, 12, .inl (fun z_ => nI (ex z_)))), (bq 3, .inl (cI, 12, .inl (fun z_ => nI (tl z_)))), (bq 4, .inl (cI, 12, .inl (fun z_ => nI (he z_)))), (bq 5, .inl (cI, 12, .inl (fun z_ => nI (dy z_)))), (bq 6, .inl (cI, 12, .inl (fun z_ => nI (se z_)))), pO a pq (bx 0) (bx 2) (bx 1) (szN bx (bx 0)) (bx 3) (bx 4), (pq 0, .inl (cI, 4, .inl (fun z_ => nI (te z_)))), (pq 1, .inl (cI, 4, .inl (fun z_ => nI (ps z_)))), (pq 2, .inl (cI, 4, .inl (fun z_ => nI (pu z_)))), (pq 3, .inl (cI, 4, .inl (fun z_ => nI (sd z_)))), (pq 4, .inl (cI, 8, .inl (fun z_ => nI (cj z_)))), (pq 5, .inl (cI, 5, .inl (fun z_ => nI (ta z_))))] _ := hP
        have hD : va_D A [bO b bq fi (nw 2) (nw 0) (nw 1), (bq 0, .inl (cI, 4, .inl (fun z_ => nI (up z_)))), (bq 1, .inl (cI, 4, .inl (fun z_ => nI (st z_)))), (bq 2, .inl (cI, 12, .inl (fun z_ => nI (ex z_)))), (bq 3, .inl (cI, 12, .inl (fun z_ => nI (tl z_)))), (bq 4, .inl (cI, 12, .inl (fun z_ => nI (he z_)))), (bq 5, .inl (cI, 12, .inl (fun z_ => nI (dy z_)))), (bq 6, .inl (cI, 12, .inl (fun z_ => nI (se z_)))), pO a pq (bx 0) (bx 2) (bx 1) (szN bx (bx 0)) (bx 3) (bx 4), (pq 0, .inl (cI, 4, .inl (fun z_ => nI (te z_)))), (pq 1, .inl (cI, 4, .inl (fun z_ => nI (ps z_)))), (pq 2, .inl (cI, 4, .inl (fun z_ => nI (pu z_)))), (pq 3, .inl (cI, 4, .inl (fun z_ => nI (sd z_)))), (pq 4, .inl (cI, 8, .inl (fun z_ => nI (cj z_)))), (pq 5, .inl (cI, 5, .inl (fun z_ => nI (ta z_))))] := hD
        refine n_ifb_eq (tgt := 42) hx hb dX0_turnsTillFresh_36 (by decide) (fun c_10 => ?_) (fun c_10 => ?_)
        · -- 36 to 42
          refine lv_iinc (v := nI (n + 1)) (lv' := [(5, .int (nI (n + 1))), (4, .int (nI (rdN bx nw (bx 0)))), (3, .int (nI (tkN bx y (bx 1) ||| 1 * 2 ^ y))), (0, .ref b), (1, .ref a), (2, .int (nI (y)))]) hx hb dX0_turnsTillFresh_42 hl (k := 0) rfl (n_inc _ 1) (by decide) rfl (fun ls hl => ?_)
          refine lv_goto (tgt := 16) hx hb dX0_turnsTillFresh_45 (by decide) ?_
          exact ih_16 (n + 1) (by omega) (by omega) (by rw [show n + 1 - 1 = n - 1 + 1 by omega]; exact ft_0 hv (by rw [show n - 1 + 1 = n by omega, frN_us]; assumption)) (by omega) _ _ hP hD hS _ (lv_sub hl [0, 1, 2, 3, 4, 5] rfl)
        · -- 36 to 39
          refine lv_iload hx hb dX0_turnsTillFresh_39 (lv_at hl 0 rfl) ?_
          refine hret hP hD hS dX0_turnsTillFresh_41 rfl rfl ?_
          exact ⟨congrArg nI (ft_1 hn1 (by omega) hv (by rw [frN_us]; assumption)), rfl⟩
  exact loop_16 _ 1 (by omega) (by omega) rfl (Nat.lt_succ_self _) _ _ hP hD hS _ (lv_sub hl [0, 1, 2, 3, 4, 5] rfl)
set_option maxHeartbeats 4000000 in
set_option maxRecDepth 100000 in
theorem k_X0_isSeenThrough {l : Launch} {D : va_G} {cI cC cB : ClassId} {a : Nat} {pq : Nat → Nat} {bx te ps pu sd cj ta : Nat → Nat} {b : Nat} {bq : Nat → Nat} {nw up st ex tl he dy se : Nat → Nat} {fi : Nat} {x y w : Nat} (hR : PlR bx te ps pu sd cj ta) (hX : BoR bx nw up st ex tl he dy se fi) (hx1 : x < 2147483648) (hy : y < bx 1) (hw1 : w < bx 1) : MI l yX0_isSeenThrough cX0_isSeenThrough 7 (some .boolean) 2 D (Ty3 cI cC cB) [.ref b, .ref a, .int (nI (x)), .int (nI (y)), .int (nI (w))] [bO b bq fi (nw 2) (nw 0) (nw 1), (bq 0, .inl (cI, 4, .inl (fun z_ => nI (up z_)))), (bq 1, .inl (cI, 4, .inl (fun z_ => nI (st z_)))), (bq 2, .inl (cI, 12, .inl (fun z_ => nI (ex z_)))), (bq 3, .inl (cI, 12, .inl (fun z_ => nI (tl z_)))), (bq 4, .inl (cI, 12, .inl (fun z_ => nI (he z_)))), (bq 5, .inl (cI, 12, .inl (fun z_ => nI (dy z_)))), (bq 6, .inl (cI, 12, .inl (fun z_ => nI (se z_)))), pO a pq (bx 0) (bx 2) (bx 1) (szN bx (bx 0)) (bx 3) (bx 4), (pq 0, .inl (cI, 4, .inl (fun z_ => nI (te z_)))), (pq 1, .inl (cI, 4, .inl (fun z_ => nI (ps z_)))), (pq 2, .inl (cI, 4, .inl (fun z_ => nI (pu z_)))), (pq 3, .inl (cI, 4, .inl (fun z_ => nI (sd z_)))), (pq 4, .inl (cI, 8, .inl (fun z_ => nI (cj z_)))), (pq 5, .inl (cI, 5, .inl (fun z_ => nI (ta z_))))] (fun r u => (r = nI (b2n (seeN bx nw x y w (nw 2))) ∧ u = [bO b bq fi (nw 2) (nw 0) (nw 1), (bq 0, .inl (cI, 4, .inl (fun z_ => nI (up z_)))), (bq 1, .inl (cI, 4, .inl (fun z_ => nI (st z_)))), (bq 2, .inl (cI, 12, .inl (fun z_ => nI (ex z_)))), (bq 3, .inl (cI, 12, .inl (fun z_ => nI (tl z_)))), (bq 4, .inl (cI, 12, .inl (fun z_ => nI (he z_)))), (bq 5, .inl (cI, 12, .inl (fun z_ => nI (dy z_)))), (bq 6, .inl (cI, 12, .inl (fun z_ => nI (se z_)))), pO a pq (bx 0) (bx 2) (bx 1) (szN bx (bx 0)) (bx 3) (bx 4), (pq 0, .inl (cI, 4, .inl (fun z_ => nI (te z_)))), (pq 1, .inl (cI, 4, .inl (fun z_ => nI (ps z_)))), (pq 2, .inl (cI, 4, .inl (fun z_ => nI (pu z_)))), (pq 3, .inl (cI, 4, .inl (fun z_ => nI (sd z_)))), (pq 4, .inl (cI, 8, .inl (fun z_ => nI (cj z_)))), (pq 5, .inl (cI, 5, .inl (fun z_ => nI (ta z_))))])) := by
  intro sz
  refine MI.walk (by decide +kernel) (Nat.le_of_ble_eq_true rfl) ?_
  intro p e s m args below meth c A Qf hx hb hml hts hown hret hK hP hD hS hA ls hl
  have hown : s.vm.findClass RX0 = some m.cls := hown
  have hl : lv_has ls 7 [(0, .ref b), (1, .ref a), (2, .int (nI (x))), (3, .int (nI (y))), (4, .int (nI (w)))] := hl
  have hP : va_P D vwCl [bO b bq fi (nw 2) (nw 0) (nw 1), (bq 0, .inl (cI, 4, .inl (fun z_ => nI (up z_)))), (bq 1, .inl (cI, 4, .inl (fun z_ => nI (st z_)))), (bq 2, .inl (cI, 12, .inl (fun z_ => nI (ex z_)))), (bq 3, .inl (cI, 12, .inl (fun z_ => nI (tl z_)))), (bq 4, .inl (cI, 12, .inl (fun z_ => nI (he z_)))), (bq 5, .inl (cI, 12, .inl (fun z_ => nI (dy z_)))), (bq 6, .inl (cI, 12, .inl (fun z_ => nI (se z_)))), pO a pq (bx 0) (bx 2) (bx 1) (szN bx (bx 0)) (bx 3) (bx 4), (pq 0, .inl (cI, 4, .inl (fun z_ => nI (te z_)))), (pq 1, .inl (cI, 4, .inl (fun z_ => nI (ps z_)))), (pq 2, .inl (cI, 4, .inl (fun z_ => nI (pu z_)))), (pq 3, .inl (cI, 4, .inl (fun z_ => nI (sd z_)))), (pq 4, .inl (cI, 8, .inl (fun z_ => nI (cj z_)))), (pq 5, .inl (cI, 5, .inl (fun z_ => nI (ta z_))))] s.heap := hP
  have hD : va_D A [bO b bq fi (nw 2) (nw 0) (nw 1), (bq 0, .inl (cI, 4, .inl (fun z_ => nI (up z_)))), (bq 1, .inl (cI, 4, .inl (fun z_ => nI (st z_)))), (bq 2, .inl (cI, 12, .inl (fun z_ => nI (ex z_)))), (bq 3, .inl (cI, 12, .inl (fun z_ => nI (tl z_)))), (bq 4, .inl (cI, 12, .inl (fun z_ => nI (he z_)))), (bq 5, .inl (cI, 12, .inl (fun z_ => nI (dy z_)))), (bq 6, .inl (cI, 12, .inl (fun z_ => nI (se z_)))), pO a pq (bx 0) (bx 2) (bx 1) (szN bx (bx 0)) (bx 3) (bx 4), (pq 0, .inl (cI, 4, .inl (fun z_ => nI (te z_)))), (pq 1, .inl (cI, 4, .inl (fun z_ => nI (ps z_)))), (pq 2, .inl (cI, 4, .inl (fun z_ => nI (pu z_)))), (pq 3, .inl (cI, 4, .inl (fun z_ => nI (sd z_)))), (pq 4, .inl (cI, 8, .inl (fun z_ => nI (cj z_)))), (pq 5, .inl (cI, 5, .inl (fun z_ => nI (ta z_))))] := hD
  have h12 := hX.d.h
  have hpn := hR.b.n
  have hw := hR.b.w
  have hx0 := hR.b.too x 0 (by omega)
  have hb0 := hX.d.bd 0
  refine lv_aload_n hx hb dX0_isSeenThrough_0 rfl (lv_at hl 1 rfl) ?_
  refine lv_iload_n hx hb dX0_isSeenThrough_1 rfl (lv_at hl 2 rfl) ?_
  refine lv_iconst (v := nI 0) hx hb dX0_isSeenThrough_2 (by decide) ?_
  refine cl_0_117 (As := [.int (nI (x)), .int (nI (0))]) (rest := []) hx hb hml hts hown (k_X2_toothOf (by first | assumption | omega) (by first | assumption | omega) (by first | assumption | omega)) (by decide) ⟨Nat.zero_le _, Nat.zero_le _⟩ hK hP hD hS hA 8 rfl [8, 9, 10, 11, 12, 13, 14] rfl (by decide) rfl hl.1 rfl (Nat.le_of_ble_eq_true rfl) dX0_isSeenThrough_3 (fun r_1 u H locs hp_2 hP hD hS => ?_)
  obtain ⟨rfl, rfl⟩ := hp_2
  have hP : va_P D vwCl [bO b bq fi (nw 2) (nw 0) (nw 1), (bq 0, .inl (cI, 4, .inl (fun z_ => nI (up z_)))), (bq 1, .inl (cI, 4, .inl (fun z_ => nI (st z_)))), (bq 2, .inl (cI, 12, .inl (fun z_ => nI (ex z_)))), (bq 3, .inl (cI, 12, .inl (fun z_ => nI (tl z_)))), (bq 4, .inl (cI, 12, .inl (fun z_ => nI (he z_)))), (bq 5, .inl (cI, 12, .inl (fun z_ => nI (dy z_)))), (bq 6, .inl (cI, 12, .inl (fun z_ => nI (se z_)))), pO a pq (bx 0) (bx 2) (bx 1) (szN bx (bx 0)) (bx 3) (bx 4), (pq 0, .inl (cI, 4, .inl (fun z_ => nI (te z_)))), (pq 1, .inl (cI, 4, .inl (fun z_ => nI (ps z_)))), (pq 2, .inl (cI, 4, .inl (fun z_ => nI (pu z_)))), (pq 3, .inl (cI, 4, .inl (fun z_ => nI (sd z_)))), (pq 4, .inl (cI, 8, .inl (fun z_ => nI (cj z_)))), (pq 5, .inl (cI, 5, .inl (fun z_ => nI (ta z_))))] _ := hP
  have hD : va_D A [bO b bq fi (nw 2) (nw 0) (nw 1), (bq 0, .inl (cI, 4, .inl (fun z_ => nI (up z_)))), (bq 1, .inl (cI, 4, .inl (fun z_ => nI (st z_)))), (bq 2, .inl (cI, 12, .inl (fun z_ => nI (ex z_)))), (bq 3, .inl (cI, 12, .inl (fun z_ => nI (tl z_)))), (bq 4, .inl (cI, 12, .inl (fun z_ => nI (he z_)))), (bq 5, .inl (cI, 12, .inl (fun z_ => nI (dy z_)))), (bq 6, .inl (cI, 12, .inl (fun z_ => nI (se z_)))), pO a pq (bx 0) (bx 2) (bx 1) (szN bx (bx 0)) (bx 3) (bx 4), (pq 0, .inl (cI, 4, .inl (fun z_ => nI (te z_)))), (pq 1, .inl (cI, 4, .inl (fun z_ => nI (ps z_)))), (pq 2, .inl (cI, 4, .inl (fun z_ => nI (pu z_)))), (pq 3, .inl (cI, 4, .inl (fun z_ => nI (sd z_)))), (pq 4, .inl (cI, 8, .inl (fun z_ => nI (cj z_)))), (pq 5, .inl (cI, 5, .inl (fun z_ => nI (ta z_))))] := hD
  refine lv_istore (lv' := [(5, .int (nI (tooN bx x 0))), (0, .ref b), (1, .ref a), (2, .int (nI (x))), (3, .int (nI (y))), (4, .int (nI (w)))]) hx hb dX0_isSeenThrough_6 hl (by decide) rfl (fun ls hl => ?_)
  refine lv_iconst (v := nI 0) hx hb dX0_isSeenThrough_8 (by decide) ?_
  refine lv_istore (lv' := [(6, .int (nI (0))), (5, .int (nI (tooN bx x 0))), (0, .ref b), (1, .ref a), (2, .int (nI (x))), (3, .int (nI (y))), (4, .int (nI (w)))]) hx hb dX0_isSeenThrough_9 hl (by decide) rfl (fun ls hl => ?_)
  have loop_11 : ∀ (N : Nat) (k : Nat), (k ≤ nw 2) → (seeN bx nw x y w k = false) → (nw 2 - k) < N → ∀ (H : Heap) (locs : List Loc), va_P D vwCl [bO b bq fi (nw 2) (nw 0) (nw 1), (bq 0, .inl (cI, 4, .inl (fun z_ => nI (up z_)))), (bq 1, .inl (cI, 4, .inl (fun z_ => nI (st z_)))), (bq 2, .inl (cI, 12, .inl (fun z_ => nI (ex z_)))), (bq 3, .inl (cI, 12, .inl (fun z_ => nI (tl z_)))), (bq 4, .inl (cI, 12, .inl (fun z_ => nI (he z_)))), (bq 5, .inl (cI, 12, .inl (fun z_ => nI (dy z_)))), (bq 6, .inl (cI, 12, .inl (fun z_ => nI (se z_)))), pO a pq (bx 0) (bx 2) (bx 1) (szN bx (bx 0)) (bx 3) (bx 4), (pq 0, .inl (cI, 4, .inl (fun z_ => nI (te z_)))), (pq 1, .inl (cI, 4, .inl (fun z_ => nI (ps z_)))), (pq 2, .inl (cI, 4, .inl (fun z_ => nI (pu z_)))), (pq 3, .inl (cI, 4, .inl (fun z_ => nI (sd z_)))), (pq 4, .inl (cI, 8, .inl (fun z_ => nI (cj z_)))), (pq 5, .inl (cI, 5, .inl (fun z_ => nI (ta z_))))] H → va_D A [bO b bq fi (nw 2) (nw 0) (nw 1), (bq 0, .inl (cI, 4, .inl (fun z_ => nI (up z_)))), (bq 1, .inl (cI, 4, .inl (fun z_ => nI (st z_)))), (bq 2, .inl (cI, 12, .inl (fun z_ => nI (ex z_)))), (bq 3, .inl (cI, 12, .inl (fun z_ => nI (tl z_)))), (bq 4, .inl (cI, 12, .inl (fun z_ => nI (he z_)))), (bq 5, .inl (cI, 12, .inl (fun z_ => nI (dy z_)))), (bq 6, .inl (cI, 12, .inl (fun z_ => nI (se z_)))), pO a pq (bx 0) (bx 2) (bx 1) (szN bx (bx 0)) (bx 3) (bx 4), (pq 0, .inl (cI, 4, .inl (fun z_ => nI (te z_)))), (pq 1, .inl (cI, 4, .inl (fun z_ => nI (ps z_)))), (pq 2, .inl (cI, 4, .inl (fun z_ => nI (pu z_)))), (pq 3, .inl (cI, 4, .inl (fun z_ => nI (sd z_)))), (pq 4, .inl (cI, 8, .inl (fun z_ => nI (cj z_)))), (pq 5, .inl (cI, 5, .inl (fun z_ => nI (ta z_))))] → va_S A s.heap H locs → ∀ ls : Array Slot, lv_has ls 7 [(6, .int (nI (k))), (5, .int (nI (tooN bx x 0))), (0, .ref b), (1, .ref a), (2, .int (nI (x))), (3, .int (nI (y))), (4, .int (nI (w)))] → W p l e (rmL 2) s m args below meth c H locs 0 0 Qf (F0 m 11 ls []) := by
    intro N; induction N with
    | zero => intro k _ _ hm; omega
    | succ N ih_11 =>
      intro k hk hv hm H locs hP hD hS ls hl
      refine lv_iload hx hb dX0_isSeenThrough_11 (lv_at hl 0 rfl) ?_
      refine lv_aload_n hx hb dX0_isSeenThrough_13 rfl (lv_at hl 2 rfl) ?_
      refine gf_0_45 hx hb hts hown hK hP 0 rfl rfl dX0_isSeenThrough_14 ?_
      refine n_icmp_ge (tgt := 90) hx hb dX0_isSeenThrough_17 (by decide) (by omega) (by omega) (fun c_3 => ?_) (fun c_3 => ?_)
      · -- 17 to 90
        refine lv_iconst (v := nI 0) hx hb dX0_isSeenThrough_90 (by decide) ?_
        refine hret hP hD hS dX0_isSeenThrough_91 (by decide) rfl ?_
        exact ⟨congrArg nI (b2n_e0 (by rw [← show k = nw 2 by omega]; exact hv)), rfl⟩
      · -- 17 to 20
        have hrk := hX.k k (by omega)
        have hdk := hX.d.k k (by omega)
        have hbk := hX.d.bd (16 + k)
        have hbd2 := hX.d.bd (52 + k)
        refine lv_aload_n hx hb dX0_isSeenThrough_20 rfl (lv_at hl 2 rfl) ?_
        refine gf_0_24 hx hb hts hown hK hP 0 rfl rfl dX0_isSeenThrough_21 ?_
        refine lv_iload hx hb dX0_isSeenThrough_24 (lv_at hl 0 rfl) ?_
        refine cl_0_57 (As := [.ref (bq 4), .int (nI (k))]) (rest := []) hx hb hml hts hown (k_X6_at (by first | assumption | omega) (by first | assumption | omega)) (by decide) ⟨Nat.zero_le _, Nat.zero_le _⟩ hK hP hD hS hA [5] rfl (by decide) rfl hl.1 rfl (Nat.le_of_ble_eq_true rfl) dX0_isSeenThrough_26 (fun r_4 u H locs hp_5 hP hD hS => ?_)
        obtain ⟨rfl, rfl⟩ := hp_5
        have hP : va_P D vwCl [bO b bq fi (nw 2) (nw 0) (nw 1), (bq 0, .inl (cI, 4, .inl (fun z_ => nI (up z_)))), (bq 1, .inl (cI, 4, .inl (fun z_ => nI (st z_)))), (bq 2, .inl (cI, 12, .inl (fun z_ => nI (ex z_)))), (bq 3, .inl (cI, 12, .inl (fun z_ => nI (tl z_)))), (bq 4, .inl (cI, 12, .inl (fun z_ => nI (he z_)))), (bq 5, .inl (cI, 12, .inl (fun z_ => nI (dy z_)))), (bq 6, .inl (cI, 12, .inl (fun z_ => nI (se z_)))), pO a pq (bx 0) (bx 2) (bx 1) (szN bx (bx 0)) (bx 3) (bx 4), (pq 0, .inl (cI, 4, .inl (fun z_ => nI (te z_)))), (pq 1, .inl (cI, 4, .inl (fun z_ => nI (ps z_)))), (pq 2, .inl (cI, 4, .inl (fun z_ => nI (pu z_)))), (pq 3, .inl (cI, 4, .inl (fun z_ => nI (sd z_)))), (pq 4, .inl (cI, 8, .inl (fun z_ => nI (cj z_)))), (pq 5, .inl (cI, 5, .inl (fun z_ => nI (ta z_))))] _ := hP
        have hD : va_D A [bO b bq fi (nw 2) (nw 0) (nw 1), (bq 0, .inl (cI, 4, .inl (fun z_ => nI (up z_)))), (bq 1, .inl (cI, 4, .inl (fun z_ => nI (st z_)))), (bq 2, .inl (cI, 12, .inl (fun z_ => nI (ex z_)))), (bq 3, .inl (cI, 12, .inl (fun z_ => nI (tl z_)))), (bq 4, .inl (cI, 12, .inl (fun z_ => nI (he z_)))), (bq 5, .inl (cI, 12, .inl (fun z_ => nI (dy z_)))), (bq 6, .inl (cI, 12, .inl (fun z_ => nI (se z_)))), pO a pq (bx 0) (bx 2) (bx 1) (szN bx (bx 0)) (bx 3) (bx 4), (pq 0, .inl (cI, 4, .inl (fun z_ => nI (te z_)))), (pq 1, .inl (cI, 4, .inl (fun z_ => nI (ps z_)))), (pq 2, .inl (cI, 4, .inl (fun z_ => nI (pu z_)))), (pq 3, .inl (cI, 4, .inl (fun z_ => nI (sd z_)))), (pq 4, .inl (cI, 8, .inl (fun z_ => nI (cj z_)))), (pq 5, .inl (cI, 5, .inl (fun z_ => nI (ta z_))))] := hD
        refine lv_iload hx hb dX0_isSeenThrough_29 (lv_at hl 6 rfl) ?_
        refine n_icmp_ne (tgt := 84) hx hb dX0_isSeenThrough_31 (by decide) (by omega) (by omega) (fun c_6 => ?_) (fun c_6 => ?_)
        · -- 31 to 84
          refine lv_iinc (v := nI (k + 1)) (lv' := [(6, .int (nI (k + 1))), (5, .int (nI (tooN bx x 0))), (0, .ref b), (1, .ref a), (2, .int (nI (x))), (3, .int (nI (y))), (4, .int (nI (w)))]) hx hb dX0_isSeenThrough_84 hl (k := 0) rfl (n_inc _ 1) (by decide) rfl (fun ls hl => ?_)
          refine lv_goto (tgt := 11) hx hb dX0_isSeenThrough_87 (by decide) ?_
          exact ih_11 (k + 1) (by omega) (se_0 hv (by rw [← hrk.1, ← hrk.2.1, ← hrk.2.2.1, ← hrk.2.2.2.1]; first | exact Or.inl (by assumption) | exact Or.inr (Or.inl (by assumption)) | exact Or.inr (Or.inr (Or.inl (by assumption))) | exact Or.inr (Or.inr (Or.inr (by assumption))))) (by omega) _ _ hP hD hS _ (lv_sub hl [0, 1, 2, 3, 4, 5, 6] rfl)
        · -- 31 to 34
          refine lv_aload_n hx hb dX0_isSeenThrough_34 rfl (lv_at hl 2 rfl) ?_
          refine gf_0_27 hx hb hts hown hK hP 0 rfl rfl dX0_isSeenThrough_35 ?_
          refine lv_iload hx hb dX0_isSeenThrough_38 (lv_at hl 0 rfl) ?_
          refine cl_0_57 (As := [.ref (bq 5), .int (nI (k))]) (rest := []) hx hb hml hts hown (k_X6_at (by first | assumption | omega) (by first | assumption | omega)) (by decide) ⟨Nat.zero_le _, Nat.zero_le _⟩ hK hP hD hS hA [6] rfl (by decide) rfl hl.1 rfl (Nat.le_of_ble_eq_true rfl) dX0_isSeenThrough_40 (fun r_7 u H locs hp_8 hP hD hS => ?_)
          obtain ⟨rfl, rfl⟩ := hp_8
          have hP : va_P D vwCl [bO b bq fi (nw 2) (nw 0) (nw 1), (bq 0, .inl (cI, 4, .inl (fun z_ => nI (up z_)))), (bq 1, .inl (cI, 4, .inl (fun z_ => nI (st z_)))), (bq 2, .inl (cI, 12, .inl (fun z_ => nI (ex z_)))), (bq 3, .inl (cI, 12, .inl (fun z_ => nI (tl z_)))), (bq 4, .inl (cI, 12, .inl (fun z_ => nI (he z_)))), (bq 5, .inl (cI, 12, .inl (fun z_ => nI (dy z_)))), (bq 6, .inl (cI, 12, .inl (fun z_ => nI (se z_)))), pO a pq (bx 0) (bx 2) (bx 1) (szN bx (bx 0)) (bx 3) (bx 4), (pq 0, .inl (cI, 4, .inl (fun z_ => nI (te z_)))), (pq 1, .inl (cI, 4, .inl (fun z_ => nI (ps z_)))), (pq 2, .inl (cI, 4, .inl (fun z_ => nI (pu z_)))), (pq 3, .inl (cI, 4, .inl (fun z_ => nI (sd z_)))), (pq 4, .inl (cI, 8, .inl (fun z_ => nI (cj z_)))), (pq 5, .inl (cI, 5, .inl (fun z_ => nI (ta z_))))] _ := hP
          have hD : va_D A [bO b bq fi (nw 2) (nw 0) (nw 1), (bq 0, .inl (cI, 4, .inl (fun z_ => nI (up z_)))), (bq 1, .inl (cI, 4, .inl (fun z_ => nI (st z_)))), (bq 2, .inl (cI, 12, .inl (fun z_ => nI (ex z_)))), (bq 3, .inl (cI, 12, .inl (fun z_ => nI (tl z_)))), (bq 4, .inl (cI, 12, .inl (fun z_ => nI (he z_)))), (bq 5, .inl (cI, 12, .inl (fun z_ => nI (dy z_)))), (bq 6, .inl (cI, 12, .inl (fun z_ => nI (se z_)))), pO a pq (bx 0) (bx 2) (bx 1) (szN bx (bx 0)) (bx 3) (bx 4), (pq 0, .inl (cI, 4, .inl (fun z_ => nI (te z_)))), (pq 1, .inl (cI, 4, .inl (fun z_ => nI (ps z_)))), (pq 2, .inl (cI, 4, .inl (fun z_ => nI (pu z_)))), (pq 3, .inl (cI, 4, .inl (fun z_ => nI (sd z_)))), (pq 4, .inl (cI, 8, .inl (fun z_ => nI (cj z_)))), (pq 5, .inl (cI, 5, .inl (fun z_ => nI (ta z_))))] := hD
          refine lv_aload_n hx hb dX0_isSeenThrough_43 rfl (lv_at hl 2 rfl) ?_
          refine gf_0_48 hx hb hts hown hK hP 0 rfl rfl dX0_isSeenThrough_44 ?_
          refine n_icmp_ne (tgt := 84) hx hb dX0_isSeenThrough_47 (by decide) (by omega) (by omega) (fun c_9 => ?_) (fun c_9 => ?_)
          · -- 47 to 84
            refine lv_iinc (v := nI (k + 1)) (lv' := [(6, .int (nI (k + 1))), (5, .int (nI (tooN bx x 0))), (0, .ref b), (1, .ref a), (2, .int (nI (x))), (3, .int (nI (y))), (4, .int (nI (w)))]) hx hb dX0_isSeenThrough_84 hl (k := 0) rfl (n_inc _ 1) (by decide) rfl (fun ls hl => ?_)
            refine lv_goto (tgt := 11) hx hb dX0_isSeenThrough_87 (by decide) ?_
            exact ih_11 (k + 1) (by omega) (se_0 hv (by rw [← hrk.1, ← hrk.2.1, ← hrk.2.2.1, ← hrk.2.2.2.1]; first | exact Or.inl (by assumption) | exact Or.inr (Or.inl (by assumption)) | exact Or.inr (Or.inr (Or.inl (by assumption))) | exact Or.inr (Or.inr (Or.inr (by assumption))))) (by omega) _ _ hP hD hS _ (lv_sub hl [0, 1, 2, 3, 4, 5, 6] rfl)
          · -- 47 to 50
            refine lv_aload_n hx hb dX0_isSeenThrough_50 rfl (lv_at hl 2 rfl) ?_
            refine gf_0_21 hx hb hts hown hK hP 0 rfl rfl dX0_isSeenThrough_51 ?_
            refine lv_iload hx hb dX0_isSeenThrough_54 (lv_at hl 0 rfl) ?_
            refine cl_0_57 (As := [.ref (bq 3), .int (nI (k))]) (rest := []) hx hb hml hts hown (k_X6_at (by first | assumption | omega) (by first | assumption | omega)) (by decide) ⟨Nat.zero_le _, Nat.zero_le _⟩ hK hP hD hS hA [4] rfl (by decide) rfl hl.1 rfl (Nat.le_of_ble_eq_true rfl) dX0_isSeenThrough_56 (fun r_10 u H locs hp_11 hP hD hS => ?_)
            obtain ⟨rfl, rfl⟩ := hp_11
            have hP : va_P D vwCl [bO b bq fi (nw 2) (nw 0) (nw 1), (bq 0, .inl (cI, 4, .inl (fun z_ => nI (up z_)))), (bq 1, .inl (cI, 4, .inl (fun z_ => nI (st z_)))), (bq 2, .inl (cI, 12, .inl (fun z_ => nI (ex z_)))), (bq 3, .inl (cI, 12, .inl (fun z_ => nI (tl z_)))), (bq 4, .inl (cI, 12, .inl (fun z_ => nI (he z_)))), (bq 5, .inl (cI, 12, .inl (fun z_ => nI (dy z_)))), (bq 6, .inl (cI, 12, .inl (fun z_ => nI (se z_)))), pO a pq (bx 0) (bx 2) (bx 1) (szN bx (bx 0)) (bx 3) (bx 4), (pq 0, .inl (cI, 4, .inl (fun z_ => nI (te z_)))), (pq 1, .inl (cI, 4, .inl (fun z_ => nI (ps z_)))), (pq 2, .inl (cI, 4, .inl (fun z_ => nI (pu z_)))), (pq 3, .inl (cI, 4, .inl (fun z_ => nI (sd z_)))), (pq 4, .inl (cI, 8, .inl (fun z_ => nI (cj z_)))), (pq 5, .inl (cI, 5, .inl (fun z_ => nI (ta z_))))] _ := hP
            have hD : va_D A [bO b bq fi (nw 2) (nw 0) (nw 1), (bq 0, .inl (cI, 4, .inl (fun z_ => nI (up z_)))), (bq 1, .inl (cI, 4, .inl (fun z_ => nI (st z_)))), (bq 2, .inl (cI, 12, .inl (fun z_ => nI (ex z_)))), (bq 3, .inl (cI, 12, .inl (fun z_ => nI (tl z_)))), (bq 4, .inl (cI, 12, .inl (fun z_ => nI (he z_)))), (bq 5, .inl (cI, 12, .inl (fun z_ => nI (dy z_)))), (bq 6, .inl (cI, 12, .inl (fun z_ => nI (se z_)))), pO a pq (bx 0) (bx 2) (bx 1) (szN bx (bx 0)) (bx 3) (bx 4), (pq 0, .inl (cI, 4, .inl (fun z_ => nI (te z_)))), (pq 1, .inl (cI, 4, .inl (fun z_ => nI (ps z_)))), (pq 2, .inl (cI, 4, .inl (fun z_ => nI (pu z_)))), (pq 3, .inl (cI, 4, .inl (fun z_ => nI (sd z_)))), (pq 4, .inl (cI, 8, .inl (fun z_ => nI (cj z_)))), (pq 5, .inl (cI, 5, .inl (fun z_ => nI (ta z_))))] := hD
            refine lv_iload_n hx hb dX0_isSeenThrough_59 rfl (lv_at hl 5 rfl) ?_
            refine n_icmp_eq (tgt := 84) hx hb dX0_isSeenThrough_60 (by decide) (by omega) (by omega) (fun c_12 => ?_) (fun c_12 => ?_)
            · -- 60 to 84
              refine lv_iinc (v := nI (k + 1)) (lv' := [(6, .int (nI (k + 1))), (5, .int (nI (tooN bx x 0))), (0, .ref b), (1, .ref a), (2, .int (nI (x))), (3, .int (nI (y))), (4, .int (nI (w)))]) hx hb dX0_isSeenThrough_84 hl (k := 0) rfl (n_inc _ 1) (by decide) rfl (fun ls hl => ?_)
              refine lv_goto (tgt := 11) hx hb dX0_isSeenThrough_87 (by decide) ?_
              exact ih_11 (k + 1) (by omega) (se_0 hv (by rw [← hrk.1, ← hrk.2.1, ← hrk.2.2.1, ← hrk.2.2.2.1]; first | exact Or.inl (by assumption) | exact Or.inr (Or.inl (by assumption)) | exact Or.inr (Or.inr (Or.inl (by assumption))) | exact Or.inr (Or.inr (Or.inr (by assumption))))) (by omega) _ _ hP hD hS _ (lv_sub hl [0, 1, 2, 3, 4, 5, 6] rfl)
            · -- 60 to 63
              refine lv_aload_n hx hb dX0_isSeenThrough_63 rfl (lv_at hl 3 rfl) ?_
              refine lv_aload_n hx hb dX0_isSeenThrough_64 rfl (lv_at hl 2 rfl) ?_
              refine gf_0_18 hx hb hts hown hK hP 0 rfl rfl dX0_isSeenThrough_65 ?_
              refine lv_iload hx hb dX0_isSeenThrough_68 (lv_at hl 0 rfl) ?_
              refine cl_0_57 (As := [.ref (bq 2), .int (nI (k))]) (rest := [.ref a]) hx hb hml hts hown (k_X6_at (by first | assumption | omega) (by first | assumption | omega)) (by decide) ⟨Nat.zero_le _, Nat.zero_le _⟩ hK hP hD hS hA [3] rfl (by decide) rfl hl.1 rfl (Nat.le_of_ble_eq_true rfl) dX0_isSeenThrough_70 (fun r_13 u H locs hp_14 hP hD hS => ?_)
              obtain ⟨rfl, rfl⟩ := hp_14
              have hP : va_P D vwCl [bO b bq fi (nw 2) (nw 0) (nw 1), (bq 0, .inl (cI, 4, .inl (fun z_ => nI (up z_)))), (bq 1, .inl (cI, 4, .inl (fun z_ => nI (st z_)))), (bq 2, .inl (cI, 12, .inl (fun z_ => nI (ex z_)))), (bq 3, .inl (cI, 12, .inl (fun z_ => nI (tl z_)))), (bq 4, .inl (cI, 12, .inl (fun z_ => nI (he z_)))), (bq 5, .inl (cI, 12, .inl (fun z_ => nI (dy z_)))), (bq 6, .inl (cI, 12, .inl (fun z_ => nI (se z_)))), pO a pq (bx 0) (bx 2) (bx 1) (szN bx (bx 0)) (bx 3) (bx 4), (pq 0, .inl (cI, 4, .inl (fun z_ => nI (te z_)))), (pq 1, .inl (cI, 4, .inl (fun z_ => nI (ps z_)))), (pq 2, .inl (cI, 4, .inl (fun z_ => nI (pu z_)))), (pq 3, .inl (cI, 4, .inl (fun z_ => nI (sd z_)))), (pq 4, .inl (cI, 8, .inl (fun z_ => nI (cj z_)))), (pq 5, .inl (cI, 5, .inl (fun z_ => nI (ta z_))))] _ := hP
              have hD : va_D A [bO b bq fi (nw 2) (nw 0) (nw 1), (bq 0, .inl (cI, 4, .inl (fun z_ => nI (up z_)))), (bq 1, .inl (cI, 4, .inl (fun z_ => nI (st z_)))), (bq 2, .inl (cI, 12, .inl (fun z_ => nI (ex z_)))), (bq 3, .inl (cI, 12, .inl (fun z_ => nI (tl z_)))), (bq 4, .inl (cI, 12, .inl (fun z_ => nI (he z_)))), (bq 5, .inl (cI, 12, .inl (fun z_ => nI (dy z_)))), (bq 6, .inl (cI, 12, .inl (fun z_ => nI (se z_)))), pO a pq (bx 0) (bx 2) (bx 1) (szN bx (bx 0)) (bx 3) (bx 4), (pq 0, .inl (cI, 4, .inl (fun z_ => nI (te z_)))), (pq 1, .inl (cI, 4, .inl (fun z_ => nI (ps z_)))), (pq 2, .inl (cI, 4, .inl (fun z_ => nI (pu z_)))), (pq 3, .inl (cI, 4, .inl (fun z_ => nI (sd z_)))), (pq 4, .inl (cI, 8, .inl (fun z_ => nI (cj z_)))), (pq 5, .inl (cI, 5, .inl (fun z_ => nI (ta z_))))] := hD
              refine lv_iconst (v := nI 0) hx hb dX0_isSeenThrough_73 (by decide) ?_
              have hx2 := hR.b.too (ex k) 0 (by omega)
              refine cl_0_117 (As := [.int (nI (ex k)), .int (nI (0))]) (rest := []) hx hb hml hts hown (k_X2_toothOf (by first | assumption | omega) (by first | assumption | omega) (by first | assumption | omega)) (by decide) ⟨Nat.zero_le _, Nat.zero_le _⟩ hK hP hD hS hA 8 rfl [8, 9, 10, 11, 12, 13, 14] rfl (by decide) rfl hl.1 rfl (Nat.le_of_ble_eq_true rfl) dX0_isSeenThrough_74 (fun r_15 u H locs hp_16 hP hD hS => ?_)
              obtain ⟨rfl, rfl⟩ := hp_16
              have hP : va_P D vwCl [bO b bq fi (nw 2) (nw 0) (nw 1), (bq 0, .inl (cI, 4, .inl (fun z_ => nI (up z_)))), (bq 1, .inl (cI, 4, .inl (fun z_ => nI (st z_)))), (bq 2, .inl (cI, 12, .inl (fun z_ => nI (ex z_)))), (bq 3, .inl (cI, 12, .inl (fun z_ => nI (tl z_)))), (bq 4, .inl (cI, 12, .inl (fun z_ => nI (he z_)))), (bq 5, .inl (cI, 12, .inl (fun z_ => nI (dy z_)))), (bq 6, .inl (cI, 12, .inl (fun z_ => nI (se z_)))), pO a pq (bx 0) (bx 2) (bx 1) (szN bx (bx 0)) (bx 3) (bx 4), (pq 0, .inl (cI, 4, .inl (fun z_ => nI (te z_)))), (pq 1, .inl (cI, 4, .inl (fun z_ => nI (ps z_)))), (pq 2, .inl (cI, 4, .inl (fun z_ => nI (pu z_)))), (pq 3, .inl (cI, 4, .inl (fun z_ => nI (sd z_)))), (pq 4, .inl (cI, 8, .inl (fun z_ => nI (cj z_)))), (pq 5, .inl (cI, 5, .inl (fun z_ => nI (ta z_))))] _ := hP
              have hD : va_D A [bO b bq fi (nw 2) (nw 0) (nw 1), (bq 0, .inl (cI, 4, .inl (fun z_ => nI (up z_)))), (bq 1, .inl (cI, 4, .inl (fun z_ => nI (st z_)))), (bq 2, .inl (cI, 12, .inl (fun z_ => nI (ex z_)))), (bq 3, .inl (cI, 12, .inl (fun z_ => nI (tl z_)))), (bq 4, .inl (cI, 12, .inl (fun z_ => nI (he z_)))), (bq 5, .inl (cI, 12, .inl (fun z_ => nI (dy z_)))), (bq 6, .inl (cI, 12, .inl (fun z_ => nI (se z_)))), pO a pq (bx 0) (bx 2) (bx 1) (szN bx (bx 0)) (bx 3) (bx 4), (pq 0, .inl (cI, 4, .inl (fun z_ => nI (te z_)))), (pq 1, .inl (cI, 4, .inl (fun z_ => nI (ps z_)))), (pq 2, .inl (cI, 4, .inl (fun z_ => nI (pu z_)))), (pq 3, .inl (cI, 4, .inl (fun z_ => nI (sd z_)))), (pq 4, .inl (cI, 8, .inl (fun z_ => nI (cj z_)))), (pq 5, .inl (cI, 5, .inl (fun z_ => nI (ta z_))))] := hD
              refine lv_iload hx hb dX0_isSeenThrough_77 (lv_at hl 1 rfl) ?_
              refine n_icmp_ne (tgt := 84) hx hb dX0_isSeenThrough_79 (by decide) (by omega) (by omega) (fun c_17 => ?_) (fun c_17 => ?_)
              · -- 79 to 84
                refine lv_iinc (v := nI (k + 1)) (lv' := [(6, .int (nI (k + 1))), (5, .int (nI (tooN bx x 0))), (0, .ref b), (1, .ref a), (2, .int (nI (x))), (3, .int (nI (y))), (4, .int (nI (w)))]) hx hb dX0_isSeenThrough_84 hl (k := 0) rfl (n_inc _ 1) (by decide) rfl (fun ls hl => ?_)
                refine lv_goto (tgt := 11) hx hb dX0_isSeenThrough_87 (by decide) ?_
                exact ih_11 (k + 1) (by omega) (se_0 hv (by rw [← hrk.1, ← hrk.2.1, ← hrk.2.2.1, ← hrk.2.2.2.1]; first | exact Or.inl (by assumption) | exact Or.inr (Or.inl (by assumption)) | exact Or.inr (Or.inr (Or.inl (by assumption))) | exact Or.inr (Or.inr (Or.inr (by assumption))))) (by omega) _ _ hP hD hS _ (lv_sub hl [0, 1, 2, 3, 4, 5, 6] rfl)
              · -- 79 to 82
                refine lv_iconst (v := nI 1) hx hb dX0_isSeenThrough_82 (by decide) ?_
                refine hret hP hD hS dX0_isSeenThrough_83 (by decide) rfl ?_
                exact ⟨congrArg nI (b2n_e1 (se_1 (show k < nw 2 by omega) (by rw [← hrk.2.2.1]; assumption) (by rw [← hrk.2.2.2.1]; assumption) (by rw [← hrk.2.1]; assumption) (by rw [← hrk.1]; assumption))), rfl⟩
  exact loop_11 _ 0 (by omega) rfl (Nat.lt_succ_self _) _ _ hP hD hS _ (lv_sub hl [0, 1, 2, 3, 4, 5, 6] rfl)
set_option maxHeartbeats 4000000 in
set_option maxRecDepth 100000 in
theorem k_X0_seenThrough {l : Launch} {D : va_G} {cI cC cB : ClassId} {b : Nat} {bq : Nat → Nat} {bx nw up st ex tl he dy se : Nat → Nat} {fi : Nat} (hX : BoR bx nw up st ex tl he dy se fi) : MI l yX0_seenThrough cX0_seenThrough 3 (some .int) 1 D (Ty3 cI cC cB) [.ref b] [bO b bq fi (nw 2) (nw 0) (nw 1), (bq 0, .inl (cI, 4, .inl (fun z_ => nI (up z_)))), (bq 1, .inl (cI, 4, .inl (fun z_ => nI (st z_)))), (bq 2, .inl (cI, 12, .inl (fun z_ => nI (ex z_)))), (bq 3, .inl (cI, 12, .inl (fun z_ => nI (tl z_)))), (bq 4, .inl (cI, 12, .inl (fun z_ => nI (he z_)))), (bq 5, .inl (cI, 12, .inl (fun z_ => nI (dy z_)))), (bq 6, .inl (cI, 12, .inl (fun z_ => nI (se z_))))] (fun r u => (r = nI (smN nw (nw 2)) ∧ u = [bO b bq fi (nw 2) (nw 0) (nw 1), (bq 0, .inl (cI, 4, .inl (fun z_ => nI (up z_)))), (bq 1, .inl (cI, 4, .inl (fun z_ => nI (st z_)))), (bq 2, .inl (cI, 12, .inl (fun z_ => nI (ex z_)))), (bq 3, .inl (cI, 12, .inl (fun z_ => nI (tl z_)))), (bq 4, .inl (cI, 12, .inl (fun z_ => nI (he z_)))), (bq 5, .inl (cI, 12, .inl (fun z_ => nI (dy z_)))), (bq 6, .inl (cI, 12, .inl (fun z_ => nI (se z_))))])) := by
  intro sz
  refine MI.walk (by decide +kernel) (Nat.le_of_ble_eq_true rfl) ?_
  intro p e s m args below meth c A Qf hx hb hml hts hown hret hK hP hD hS hA ls hl
  have hown : s.vm.findClass RX0 = some m.cls := hown
  have hl : lv_has ls 3 [(0, .ref b)] := hl
  have hP : va_P D vwCl [bO b bq fi (nw 2) (nw 0) (nw 1), (bq 0, .inl (cI, 4, .inl (fun z_ => nI (up z_)))), (bq 1, .inl (cI, 4, .inl (fun z_ => nI (st z_)))), (bq 2, .inl (cI, 12, .inl (fun z_ => nI (ex z_)))), (bq 3, .inl (cI, 12, .inl (fun z_ => nI (tl z_)))), (bq 4, .inl (cI, 12, .inl (fun z_ => nI (he z_)))), (bq 5, .inl (cI, 12, .inl (fun z_ => nI (dy z_)))), (bq 6, .inl (cI, 12, .inl (fun z_ => nI (se z_))))] s.heap := hP
  have hD : va_D A [bO b bq fi (nw 2) (nw 0) (nw 1), (bq 0, .inl (cI, 4, .inl (fun z_ => nI (up z_)))), (bq 1, .inl (cI, 4, .inl (fun z_ => nI (st z_)))), (bq 2, .inl (cI, 12, .inl (fun z_ => nI (ex z_)))), (bq 3, .inl (cI, 12, .inl (fun z_ => nI (tl z_)))), (bq 4, .inl (cI, 12, .inl (fun z_ => nI (he z_)))), (bq 5, .inl (cI, 12, .inl (fun z_ => nI (dy z_)))), (bq 6, .inl (cI, 12, .inl (fun z_ => nI (se z_))))] := hD
  have h12 := hX.d.h
  refine lv_iconst (v := nI 0) hx hb dX0_seenThrough_0 (by decide) ?_
  refine lv_istore_n (lv' := [(1, .int (nI (0))), (0, .ref b)]) hx hb dX0_seenThrough_1 rfl hl (by decide) rfl (fun ls hl => ?_)
  refine lv_iconst (v := nI 0) hx hb dX0_seenThrough_2 (by decide) ?_
  refine lv_istore_n (lv' := [(2, .int (nI (0))), (1, .int (nI (0))), (0, .ref b)]) hx hb dX0_seenThrough_3 rfl hl (by decide) rfl (fun ls hl => ?_)
  have loop_4 : ∀ (N : Nat) (v : Nat) (k : Nat), (k ≤ nw 2) → (v = smN nw k) → (nw 2 - k) < N → ∀ (H : Heap) (locs : List Loc), va_P D vwCl [bO b bq fi (nw 2) (nw 0) (nw 1), (bq 0, .inl (cI, 4, .inl (fun z_ => nI (up z_)))), (bq 1, .inl (cI, 4, .inl (fun z_ => nI (st z_)))), (bq 2, .inl (cI, 12, .inl (fun z_ => nI (ex z_)))), (bq 3, .inl (cI, 12, .inl (fun z_ => nI (tl z_)))), (bq 4, .inl (cI, 12, .inl (fun z_ => nI (he z_)))), (bq 5, .inl (cI, 12, .inl (fun z_ => nI (dy z_)))), (bq 6, .inl (cI, 12, .inl (fun z_ => nI (se z_))))] H → va_D A [bO b bq fi (nw 2) (nw 0) (nw 1), (bq 0, .inl (cI, 4, .inl (fun z_ => nI (up z_)))), (bq 1, .inl (cI, 4, .inl (fun z_ => nI (st z_)))), (bq 2, .inl (cI, 12, .inl (fun z_ => nI (ex z_)))), (bq 3, .inl (cI, 12, .inl (fun z_ => nI (tl z_)))), (bq 4, .inl (cI, 12, .inl (fun z_ => nI (he z_)))), (bq 5, .inl (cI, 12, .inl (fun z_ => nI (dy z_)))), (bq 6, .inl (cI, 12, .inl (fun z_ => nI (se z_))))] → va_S A s.heap H locs → ∀ ls : Array Slot, lv_has ls 3 [(2, .int (nI (k))), (1, .int (nI (v))), (0, .ref b)] → W p l e (rmL 1) s m args below meth c H locs 0 0 Qf (F0 m 4 ls []) := by
    intro N; induction N with
    | zero => intro v k _ _ hm; omega
    | succ N ih_4 =>
      intro v k hk hv hm H locs hP hD hS ls hl
      refine lv_iload_n hx hb dX0_seenThrough_4 rfl (lv_at hl 0 rfl) ?_
      refine lv_aload_n hx hb dX0_seenThrough_5 rfl (lv_at hl 2 rfl) ?_
      refine gf_0_45 hx hb hts hown hK hP 0 rfl rfl dX0_seenThrough_6 ?_
      refine n_icmp_ge (tgt := 29) hx hb dX0_seenThrough_9 (by decide) (by omega) (by omega) (fun c_1 => ?_) (fun c_1 => ?_)
      · -- 9 to 29
        refine lv_iload_n hx hb dX0_seenThrough_29 rfl (lv_at hl 1 rfl) ?_
        refine hret hP hD hS dX0_seenThrough_30 rfl rfl ?_
        exact ⟨by rw [hv, show k = nw 2 by omega], rfl⟩
      · -- 9 to 12
        have hrk := hX.k k (by omega)
        refine lv_iload_n hx hb dX0_seenThrough_12 rfl (lv_at hl 1 rfl) ?_
        refine lv_aload_n hx hb dX0_seenThrough_13 rfl (lv_at hl 2 rfl) ?_
        refine gf_0_30 hx hb hts hown hK hP 0 rfl rfl dX0_seenThrough_14 ?_
        refine lv_iload_n hx hb dX0_seenThrough_17 rfl (lv_at hl 0 rfl) ?_
        refine cl_0_57 (As := [.ref (bq 6), .int (nI (k))]) (rest := [.int (nI (v))]) hx hb hml hts hown (k_X6_at (by first | assumption | omega) (by first | assumption | omega)) (by decide) ⟨Nat.zero_le _, Nat.zero_le _⟩ hK hP hD hS hA [7] rfl (by decide) rfl hl.1 rfl (Nat.le_of_ble_eq_true rfl) dX0_seenThrough_18 (fun r_2 u H locs hp_3 hP hD hS => ?_)
        obtain ⟨rfl, rfl⟩ := hp_3
        have hP : va_P D vwCl [bO b bq fi (nw 2) (nw 0) (nw 1), (bq 0, .inl (cI, 4, .inl (fun z_ => nI (up z_)))), (bq 1, .inl (cI, 4, .inl (fun z_ => nI (st z_)))), (bq 2, .inl (cI, 12, .inl (fun z_ => nI (ex z_)))), (bq 3, .inl (cI, 12, .inl (fun z_ => nI (tl z_)))), (bq 4, .inl (cI, 12, .inl (fun z_ => nI (he z_)))), (bq 5, .inl (cI, 12, .inl (fun z_ => nI (dy z_)))), (bq 6, .inl (cI, 12, .inl (fun z_ => nI (se z_))))] _ := hP
        have hD : va_D A [bO b bq fi (nw 2) (nw 0) (nw 1), (bq 0, .inl (cI, 4, .inl (fun z_ => nI (up z_)))), (bq 1, .inl (cI, 4, .inl (fun z_ => nI (st z_)))), (bq 2, .inl (cI, 12, .inl (fun z_ => nI (ex z_)))), (bq 3, .inl (cI, 12, .inl (fun z_ => nI (tl z_)))), (bq 4, .inl (cI, 12, .inl (fun z_ => nI (he z_)))), (bq 5, .inl (cI, 12, .inl (fun z_ => nI (dy z_)))), (bq 6, .inl (cI, 12, .inl (fun z_ => nI (se z_))))] := hD
        refine n_iadd hx hb dX0_seenThrough_21  ?_
        refine lv_istore_n (lv' := [(1, .int (nI (v + (se k)))), (2, .int (nI (k))), (0, .ref b)]) hx hb dX0_seenThrough_22 rfl hl (by decide) rfl (fun ls hl => ?_)
        refine lv_iinc (v := nI (k + 1)) (lv' := [(2, .int (nI (k + 1))), (1, .int (nI (v + (se k)))), (0, .ref b)]) hx hb dX0_seenThrough_23 hl (k := 1) rfl (n_inc _ 1) (by decide) rfl (fun ls hl => ?_)
        refine lv_goto (tgt := 4) hx hb dX0_seenThrough_26 (by decide) ?_
        exact ih_4 (v + (se k)) (k + 1) (by omega) (by rw [hv, hrk.2.2.2.2]; rfl) (by omega) _ _ hP hD hS _ (lv_sub hl [0, 1, 2] rfl)
  exact loop_4 _ 0 0 (by omega) rfl (Nat.lt_succ_self _) _ _ hP hD hS _ (lv_sub hl [0, 1, 2] rfl)


def PlR (bx te ps pu sd cj ta : Nat → Nat) : Prop := BxOk bx ∧ (∀ i, i < bx 0 → te i = bx (5 + i) ∧ ps i = bx (9 + i) ∧ pu i = bx (13 + i) ∧ sd i = szN bx i) ∧ (∀ k, k < bx 2 → cj k = 2 ^ (bx (22 + k) * 6 + bx (30 + k)) ||| 2 ^ (bx (38 + k) * 6 + bx (46 + k))) ∧ (∀ y, y < bx 1 → ta y = bx (17 + y))
section PLR
variable {bx te ps pu sd cj ta : Nat → Nat}
theorem PlR.b (h : PlR bx te ps pu sd cj ta) : BxOk bx := h.1
theorem PlR.r (h : PlR bx te ps pu sd cj ta) (i : Nat) (hi : i < bx 0) : te i = bx (5 + i) ∧ ps i = bx (9 + i) ∧ pu i = bx (13 + i) ∧ sd i = szN bx i := h.2.1 i hi
theorem PlR.c (h : PlR bx te ps pu sd cj ta) (k : Nat) (hk : k < bx 2) : cj k = 2 ^ (bx (22 + k) * 6 + bx (30 + k)) ||| 2 ^ (bx (38 + k) * 6 + bx (46 + k)) := h.2.2.1 k hk
theorem PlR.a (h : PlR bx te ps pu sd cj ta) (y : Nat) (hy : y < bx 1) : ta y = bx (17 + y) := h.2.2.2 y hy
theorem PlR.cl (h : PlR bx te ps pu sd cj ta) (k : Nat) (hk : k < bx 2) : cj k < 16777216 := by
  rw [h.c k hk]
  have hp := h.b.pr k hk
  have hw := h.b.w
  have h1 := (h.b.t _ hp.1).2.1
  have h2 := (h.b.t _ hp.2.2.1).2.1
  refine Nat.or_lt_two_pow (n := 24) ?_ ?_ <;> exact Nat.pow_lt_pow_right (by omega) (by omega)
/-- the teeth of an excuse, as bits -/
def tbN (bx : Nat → Nat) (x : Nat) : Nat → Nat
  | 0 => 0
  | i + 1 => tbN bx x i ||| 1 * 2 ^ (i * 6 + tooN bx x i)
theorem tb_lt' (hB : BxOk bx) (x : Nat) : ∀ i, i ≤ bx 0 → tbN bx x i < 2 ^ (6 * i)
  | 0, _ => by simp [tbN]
  | i + 1, h => by
    have ih := tb_lt' hB x i (by omega)
    have ht := hB.too x i (by omega)
    simp only [tbN]
    refine Nat.or_lt_two_pow (Nat.lt_trans ih (Nat.pow_lt_pow_right (by omega) (by omega))) ?_
    rw [Nat.one_mul]
    exact Nat.pow_lt_pow_right (by omega) (by omega)
theorem tb_lt (hB : BxOk bx) (x : Nat) : tbN bx x (bx 0) < 16777216 := by
  have h := tb_lt' hB x (bx 0) (Nat.le_refl _)
  exact Nat.lt_of_lt_of_le h (Nat.le_trans (Nat.pow_le_pow_right (by omega) (show 6 * bx 0 ≤ 24 by have := hB.w; omega)) (by decide))
theorem tb_bit (hB : BxOk bx) (x : Nat) : ∀ n, n ≤ bx 0 → ∀ i t, i < n → t < 6 → (Nat.testBit (tbN bx x n) (i * 6 + t) = true ↔ tooN bx x i = t)
  | 0, _, i, t, hi, _ => by omega
  | n + 1, h, i, t, hi, ht => by
    have hn := hB.too x n (by omega)
    simp only [tbN, Nat.testBit_or, Nat.one_mul, Nat.testBit_two_pow]
    by_cases hin : i = n
    · subst hin
      have h0 : Nat.testBit (tbN bx x i) (i * 6 + t) = false := Nat.testBit_lt_two_pow (Nat.lt_of_lt_of_le (tb_lt' hB x i (by omega)) (Nat.pow_le_pow_right (by omega) (by omega)))
      rw [h0]
      simp
    · have h1 : decide (n * 6 + tooN bx x n = i * 6 + t) = false := by
        have : ¬ (n * 6 + tooN bx x n = i * 6 + t) := by omega
        simp [this]
      rw [h1, Bool.or_false]
      exact tb_bit hB x n (by omega) i t (by omega) ht
theorem and_two {z u v : Nat} : z &&& (2 ^ u ||| 2 ^ v) = 2 ^ u ||| 2 ^ v ↔ Nat.testBit z u = true ∧ Nat.testBit z v = true := by
  constructor
  · intro h
    refine ⟨?_, ?_⟩
    · have h1 := congrArg (fun w => Nat.testBit w u) h
      simp only [Nat.testBit_and, Nat.testBit_or, Nat.testBit_two_pow] at h1
      simpa using h1
    · have h1 := congrArg (fun w => Nat.testBit w v) h
      simp only [Nat.testBit_and, Nat.testBit_or, Nat.testBit_two_pow] at h1
      simpa using h1
  · intro h
    apply Nat.eq_of_testBit_eq
    intro k
    simp only [Nat.testBit_and, Nat.testBit_or, Nat.testBit_two_pow]
    by_cases h1 : u = k
    · subst h1; simp [h.1]
    · by_cases h2 : v = k
      · subst h2; simp [h.2]
      · simp [h1, h2]
theorem sp_iff (h : PlR bx te ps pu sd cj ta) {x k : Nat} (hk : k < bx 2) : tbN bx x (bx 0) &&& cj k = cj k ↔ tooN bx x (bx (22 + k)) = bx (30 + k) ∧ tooN bx x (bx (38 + k)) = bx (46 + k) := by
  have hp := h.b.pr k hk
  have h1 := (h.b.t _ hp.1).2.1
  have h2 := (h.b.t _ hp.2.2.1).2.1
  rw [h.c k hk, and_two, tb_bit h.b x (bx 0) (Nat.le_refl _) _ _ hp.1 (by omega), tb_bit h.b x (bx 0) (Nat.le_refl _) _ _ hp.2.2.1 (by omega)]
theorem sp_1 (h : PlR bx te ps pu sd cj ta) {x k : Nat} (hv : snsP bx x k = true) (hk : k < bx 2) (hne : tbN bx x (bx 0) &&& cj k ≠ cj k) : snsP bx x (k + 1) = true := by
  simp only [snsP, hv, Bool.true_and]
  rw [Ne, sp_iff h hk] at hne
  by_cases h1 : tooN bx x (bx (22 + k)) = bx (30 + k) <;> by_cases h2 : tooN bx x (bx (38 + k)) = bx (46 + k) <;> simp_all
theorem sp_mono (bx : Nat → Nat) (x : Nat) : ∀ n k, k ≤ n → snsP bx x k = false → snsP bx x n = false
  | 0, k, h, hf => by rw [show k = 0 by omega] at hf; exact hf
  | n + 1, k, h, hf => by
    by_cases hk : k = n + 1
    · rw [← hk]; exact hf
    · simp only [snsP, sp_mono bx x n k (by omega) hf, Bool.false_and]
theorem sp_0 (h : PlR bx te ps pu sd cj ta) {x k : Nat} (hk : k < bx 2) (he : tbN bx x (bx 0) &&& cj k = cj k) : snsP bx x (bx 2) = false := by
  have h1 := (sp_iff h hk).mp he
  refine sp_mono bx x (bx 2) (k + 1) (by omega) ?_
  simp [snsP, h1]
theorem tkc_b (h : PlR bx te ps pu sd cj ta) {y k : Nat} (hy : y < bx 1) (hk : k < bx 1) : ((ta y / 2 ^ k ||| ta k / 2 ^ y) &&& 1 = 0) ↔ ¬ (Nat.testBit (bx (17 + y)) k = true ∨ Nat.testBit (bx (17 + k)) y = true) := by
  rw [h.a y hy, h.a k hk]
  have e : ∀ z w : Nat, Nat.testBit z w = decide (z / 2 ^ w % 2 = 1) := fun z w => by simp [Nat.testBit, Nat.shiftRight_eq_div_pow, Nat.one_and_eq_mod_two]; rfl
  rw [Nat.and_one_is_mod, e, e]
  have e2 : ∀ u v : Nat, (u ||| v) % 2 = 0 ↔ u % 2 = 0 ∧ v % 2 = 0 := fun u v => by
    have h1 := Nat.testBit_or u v 0
    simp only [Nat.testBit_zero] at h1
    have a1 := Nat.mod_two_eq_zero_or_one u
    have a2 := Nat.mod_two_eq_zero_or_one v
    have a3 := Nat.mod_two_eq_zero_or_one (u ||| v)
    rcases a1 with a1 | a1 <;> rcases a2 with a2 | a2 <;> rcases a3 with a3 | a3 <;> simp_all
  rw [e2]
  simp only [decide_eq_true_eq]
  omega
theorem tkc_1 (h : PlR bx te ps pu sd cj ta) {y k : Nat} (hy : y < bx 1) (hk : k < bx 1) (hne : k ≠ y) (h1 : (ta y / 2 ^ k ||| ta k / 2 ^ y) &&& 1 ≠ 0) : tkN bx y k ||| 1 * 2 ^ k = tkN bx y (k + 1) := by
  rw [Ne, tkc_b h hy hk, Classical.not_not] at h1
  simp only [tkN]; rw [if_pos ⟨hne, h1⟩]
theorem tkc_0 {y k : Nat} (h : k = y) : tkN bx y k = tkN bx y (k + 1) := by
  simp only [tkN]; rw [if_neg (fun q => q.1 h), Nat.or_zero]
theorem tkc_2 (h : PlR bx te ps pu sd cj ta) {y k : Nat} (hy : y < bx 1) (hk : k < bx 1) (h1 : (ta y / 2 ^ k ||| ta k / 2 ^ y) &&& 1 = 0) : tkN bx y k = tkN bx y (k + 1) := by
  rw [tkc_b h hy hk] at h1
  simp only [tkN]; rw [if_neg (fun q => h1 q.2), Nat.or_zero]
end PLR

set_option maxHeartbeats 4000000 in
set_option maxRecDepth 100000 in
theorem k_X6_at {l : Launch} {D : va_G} {cI cC cB : ClassId} {t n i : Nat} {f : Nat → Nat} (hi : i < n) (hn : n < 100000) : MI l yX6_at cX6_at 2 (some .int) 0 D (Ty3 cI cC cB) [.ref t, .int (nI (i))] [(t, .inl (cI, n, .inl (fun z_ => nI (f z_))))] (fun r u => (r = nI (f i) ∧ u = [(t, .inl (cI, n, .inl (fun z_ => nI (f z_))))])) := by
  intro sz
  refine MI.walk (by decide +kernel) (Nat.le_of_ble_eq_true rfl) ?_
  intro p e s m args below meth c A Qf hx hb hml hts hown hret hK hP hD hS hA ls hl
  have hown : s.vm.findClass RX6 = some m.cls := hown
  have hl : lv_has ls 2 [(0, .ref t), (1, .int (nI (i)))] := hl
  have hP : va_P D vwCl [(t, .inl (cI, n, .inl (fun z_ => nI (f z_))))] s.heap := hP
  have hD : va_D A [(t, .inl (cI, n, .inl (fun z_ => nI (f z_))))] := hD
  refine lv_aload_n hx hb dX6_at_0 rfl (lv_at hl 0 rfl) ?_
  refine lv_ifnull hx hb dX6_at_1 ?_
  refine lv_iload_n hx hb dX6_at_4 rfl (lv_at hl 1 rfl) ?_
  refine n_if_lt (tgt := 20) hx hb dX6_at_5 (by decide) (by omega) ?_
  refine lv_iload_n hx hb dX6_at_8 rfl (lv_at hl 1 rfl) ?_
  refine lv_aload_n hx hb dX6_at_9 rfl (lv_at hl 0 rfl) ?_
  refine n_alen hx hb hK hP 0 0 rfl rfl dX6_at_10 ?_
  refine n_icmp_ge (tgt := 20) hx hb dX6_at_11 (by decide) (by omega) (by omega) (fun c_2 => ?_) (fun c_2 => ?_)
  · omega
  · -- 11 to 14
    refine lv_aload_n hx hb dX6_at_14 rfl (lv_at hl 0 rfl) ?_
    refine lv_iload_n hx hb dX6_at_15 rfl (lv_at hl 1 rfl) ?_
    refine n_iald hx hb hK hP 0 0 rfl rfl dX6_at_16 (by omega) (by omega) ?_
    refine lv_goto (tgt := 21) hx hb dX6_at_17 (by decide) ?_
    refine hret hP hD hS dX6_at_21 rfl rfl ?_
    exact ⟨rfl, rfl⟩
set_option maxHeartbeats 4000000 in
set_option maxRecDepth 100000 in
theorem k_X6_put {l : Launch} {D : va_G} {cI cC cB : ClassId} {t n i v : Nat} {f : Nat → Nat} (hi : i < n) (hn : n < 100000) : MV l yX6_put cX6_put 3 none 0 D (Ty3 cI cC cB) [.ref t, .int (nI (i)), .int (nI (v))] [(t, .inl (cI, n, .inl (fun z_ => nI (f z_))))] (fun (u : va_W) => (u = [(t, .inl (cI, n, .inl (fun z_ => nI ((up1 f i v) z_))))])) := by
  intro sz
  refine MV.walk (by decide +kernel) (Nat.le_of_ble_eq_true rfl) ?_
  intro p e s m args below meth c A Qf hx hb hml hts hown hret hK hP hD hS hA ls hl
  have hown : s.vm.findClass RX6 = some m.cls := hown
  have hl : lv_has ls 3 [(0, .ref t), (1, .int (nI (i))), (2, .int (nI (v)))] := hl
  have hP : va_P D vwCl [(t, .inl (cI, n, .inl (fun z_ => nI (f z_))))] s.heap := hP
  have hD : va_D A [(t, .inl (cI, n, .inl (fun z_ => nI (f z_))))] := hD
  refine lv_aload_n hx hb dX6_put_0 rfl (lv_at hl 0 rfl) ?_
  refine lv_ifnull hx hb dX6_put_1 ?_
  refine lv_iload_n hx hb dX6_put_4 rfl (lv_at hl 1 rfl) ?_
  refine n_if_lt (tgt := 18) hx hb dX6_put_5 (by decide) (by omega) ?_
  refine lv_iload_n hx hb dX6_put_8 rfl (lv_at hl 1 rfl) ?_
  refine lv_aload_n hx hb dX6_put_9 rfl (lv_at hl 0 rfl) ?_
  refine n_alen hx hb hK hP 0 0 rfl rfl dX6_put_10 ?_
  refine n_icmp_ge (tgt := 18) hx hb dX6_put_11 (by decide) (by omega) (by omega) (fun c_2 => ?_) (fun c_2 => ?_)
  · omega
  · -- 11 to 14
    refine lv_aload_n hx hb dX6_put_14 rfl (lv_at hl 0 rfl) ?_
    refine lv_iload_n hx hb dX6_put_15 rfl (lv_at hl 1 rfl) ?_
    refine lv_iload_n hx hb dX6_put_16 rfl (lv_at hl 2 rfl) ?_
    refine n_iast hx hb hK hP hD hS 0 0 rfl rfl dX6_put_17 (by omega) (by omega) (fun H locs hP hD hS => ?_)
    have hP : va_P D vwCl [(t, .inl (cI, n, .inl (fun z_ => nI ((up1 f i v) z_))))] _ := hP
    have hD : va_D A [(t, .inl (cI, n, .inl (fun z_ => nI ((up1 f i v) z_))))] := hD
    refine hret hP hD hS dX6_put_18 rfl ?_
    rfl
set_option maxHeartbeats 4000000 in
set_option maxRecDepth 100000 in
theorem k_X6_slotOf {l : Launch} {D : va_G} {cI cC cB : ClassId} {i j : Nat} : MI l yX6_slotOf cX6_slotOf 2 (some .int) 0 D (Ty3 cI cC cB) [.int (nI (i)), .int (nI (j))] [] (fun r u => (r = nI (i * 6 + j) ∧ u = [])) := by
  intro sz
  refine MI.walk (by decide +kernel) (Nat.le_of_ble_eq_true rfl) ?_
  intro p e s m args below meth c A Qf hx hb hml hts hown hret hK hP hD hS hA ls hl
  have hown : s.vm.findClass RX6 = some m.cls := hown
  have hl : lv_has ls 2 [(0, .int (nI (i))), (1, .int (nI (j)))] := hl
  have hP : va_P D vwCl [] s.heap := hP
  have hD : va_D A [] := hD
  refine lv_iload_n hx hb dX6_slotOf_0 rfl (lv_at hl 0 rfl) ?_
  refine lv_bipush (v := nI 6) hx hb dX6_slotOf_1 (by decide) ?_
  refine n_imul hx hb dX6_slotOf_3  ?_
  refine lv_iload_n hx hb dX6_slotOf_4 rfl (lv_at hl 1 rfl) ?_
  refine n_iadd hx hb dX6_slotOf_5  ?_
  refine hret hP hD hS dX6_slotOf_6 rfl rfl ?_
  exact ⟨rfl, rfl⟩
set_option maxHeartbeats 4000000 in
set_option maxRecDepth 100000 in
theorem k_X6_commonDivisor {l : Launch} {D : va_G} {cI cC cB : ClassId} {a b : Nat} (ha : a < 2147483648) (hb2 : b ≤ 60) : MI l yX6_commonDivisor cX6_commonDivisor 4 (some .int) 0 D (Ty3 cI cC cB) [.int (nI (a)), .int (nI (b))] [] (fun r u => (r = nI (Nat.gcd a b) ∧ u = [])) := by
  intro sz
  refine MI.walk (by decide +kernel) (Nat.le_of_ble_eq_true rfl) ?_
  intro p e s m args below meth c A Qf hx hb hml hts hown hret hK hP hD hS hA ls hl
  have hown : s.vm.findClass RX6 = some m.cls := hown
  have hl : lv_has ls 4 [(0, .int (nI (a))), (1, .int (nI (b)))] := hl
  have hP : va_P D vwCl [] s.heap := hP
  have hD : va_D A [] := hD
  refine lv_iconst (v := nI 0) hx hb dX6_commonDivisor_0 (by decide) ?_
  refine lv_istore_n (lv' := [(2, .int (nI (0))), (0, .int (nI (a))), (1, .int (nI (b)))]) hx hb dX6_commonDivisor_1 rfl hl (by decide) rfl (fun ls hl => ?_)
  have loop_2 : ∀ (N : Nat) (x : Nat) (y : Nat) (k : Nat), (x < 2147483648) → (y + k ≤ 60) → (Nat.gcd x y = Nat.gcd a b) → y < N → ∀ (H : Heap) (locs : List Loc), va_P D vwCl [] H → va_D A [] → va_S A s.heap H locs → ∀ ls : Array Slot, lv_has ls 4 [(2, .int (nI (k))), (0, .int (nI (x))), (1, .int (nI (y)))] → W p l e (rmL 0) s m args below meth c H locs 0 0 Qf (F0 m 2 ls []) := by
    intro N; induction N with
    | zero => intro x y k _ _ _ hm; omega
    | succ N ih_2 =>
      intro x y k hx1 hy1 hg hm H locs hP hD hS ls hl
      refine lv_iload_n hx hb dX6_commonDivisor_2 rfl (lv_at hl 0 rfl) ?_
      refine lv_bipush (v := nI 64) hx hb dX6_commonDivisor_3 (by decide) ?_
      refine n_icmp_ge (tgt := 26) hx hb dX6_commonDivisor_5 (by decide) (by omega) (by decide) (fun c_1 => ?_) (fun c_1 => ?_)
      · omega
      · -- 5 to 8
        refine lv_iload_n hx hb dX6_commonDivisor_8 rfl (lv_at hl 2 rfl) ?_
        refine n_if_eq (tgt := 26) hx hb dX6_commonDivisor_9 (by decide) (by omega) (fun c_2 => ?_) (fun c_2 => ?_)
        · -- 9 to 26
          refine lv_iload_n hx hb dX6_commonDivisor_26 rfl (lv_at hl 1 rfl) ?_
          refine hret hP hD hS dX6_commonDivisor_27 rfl rfl ?_
          exact ⟨by rw [← hg, show y = 0 by omega, Nat.gcd_zero_right], rfl⟩
        · -- 9 to 12
          refine lv_iload_n hx hb dX6_commonDivisor_12 rfl (lv_at hl 1 rfl) ?_
          refine lv_iload_n hx hb dX6_commonDivisor_13 rfl (lv_at hl 2 rfl) ?_
          refine n_irem hx hb dX6_commonDivisor_14 (by omega) (by omega) (by omega) ?_
          refine lv_istore_n (lv' := [(3, .int (nI (x % y))), (2, .int (nI (k))), (0, .int (nI (x))), (1, .int (nI (y)))]) hx hb dX6_commonDivisor_15 rfl hl (by decide) rfl (fun ls hl => ?_)
          refine lv_iload_n hx hb dX6_commonDivisor_16 rfl (lv_at hl 3 rfl) ?_
          refine lv_istore_n (lv' := [(0, .int (nI (y))), (3, .int (nI (x % y))), (2, .int (nI (k))), (1, .int (nI (y)))]) hx hb dX6_commonDivisor_17 rfl hl (by decide) rfl (fun ls hl => ?_)
          refine lv_iload_n hx hb dX6_commonDivisor_18 rfl (lv_at hl 1 rfl) ?_
          refine lv_istore_n (lv' := [(1, .int (nI (x % y))), (0, .int (nI (y))), (3, .int (nI (x % y))), (2, .int (nI (k)))]) hx hb dX6_commonDivisor_19 rfl hl (by decide) rfl (fun ls hl => ?_)
          refine lv_iinc (v := nI (k + 1)) (lv' := [(2, .int (nI (k + 1))), (1, .int (nI (x % y))), (0, .int (nI (y))), (3, .int (nI (x % y)))]) hx hb dX6_commonDivisor_20 hl (k := 3) rfl (n_inc _ 1) (by decide) rfl (fun ls hl => ?_)
          refine lv_goto (tgt := 2) hx hb dX6_commonDivisor_23 (by decide) ?_
          exact ih_2 y (x % y) (k + 1) (by omega) (by have := Nat.mod_lt x (show 0 < y by omega); omega) (by rw [← hg]; exact gcd_st x y) (by have := Nat.mod_lt x (show 0 < y by omega); omega) _ _ hP hD hS _ (lv_sub hl [0, 2, 1] rfl)
  exact loop_2 _ a b 0 ha (by omega) rfl (Nat.lt_succ_self _) _ _ hP hD hS _ (lv_sub hl [0, 1, 2] rfl)
set_option maxHeartbeats 4000000 in
set_option maxRecDepth 100000 in
theorem k_X2_toothOf {l : Launch} {D : va_G} {cI cC cB : ClassId} {a : Nat} {pq : Nat → Nat} {bx te ps pu sd cj ta : Nat → Nat} {x i : Nat} (hR : PlR bx te ps pu sd cj ta) (hi : i < bx 0) (hx1 : x < 2147483648) : MI l yX2_toothOf cX2_toothOf 5 (some .int) 1 D (Ty3 cI cC cB) [.ref a, .int (nI (x)), .int (nI (i))] [pO a pq (bx 0) (bx 2) (bx 1) (szN bx (bx 0)) (bx 3) (bx 4), (pq 0, .inl (cI, 4, .inl (fun z_ => nI (te z_)))), (pq 1, .inl (cI, 4, .inl (fun z_ => nI (ps z_)))), (pq 2, .inl (cI, 4, .inl (fun z_ => nI (pu z_)))), (pq 3, .inl (cI, 4, .inl (fun z_ => nI (sd z_)))), (pq 4, .inl (cI, 8, .inl (fun z_ => nI (cj z_)))), (pq 5, .inl (cI, 5, .inl (fun z_ => nI (ta z_))))] (fun r u => (r = nI (tooN bx x i) ∧ u = [pO a pq (bx 0) (bx 2) (bx 1) (szN bx (bx 0)) (bx 3) (bx 4), (pq 0, .inl (cI, 4, .inl (fun z_ => nI (te z_)))), (pq 1, .inl (cI, 4, .inl (fun z_ => nI (ps z_)))), (pq 2, .inl (cI, 4, .inl (fun z_ => nI (pu z_)))), (pq 3, .inl (cI, 4, .inl (fun z_ => nI (sd z_)))), (pq 4, .inl (cI, 8, .inl (fun z_ => nI (cj z_)))), (pq 5, .inl (cI, 5, .inl (fun z_ => nI (ta z_))))])) := by
  intro sz
  refine MI.walk (by decide +kernel) (Nat.le_of_ble_eq_true rfl) ?_
  intro p e s m args below meth c A Qf hx hb hml hts hown hret hK hP hD hS hA ls hl
  have hown : s.vm.findClass RX2 = some m.cls := hown
  have hl : lv_has ls 5 [(0, .ref a), (1, .int (nI (x))), (2, .int (nI (i)))] := hl
  have hP : va_P D vwCl [pO a pq (bx 0) (bx 2) (bx 1) (szN bx (bx 0)) (bx 3) (bx 4), (pq 0, .inl (cI, 4, .inl (fun z_ => nI (te z_)))), (pq 1, .inl (cI, 4, .inl (fun z_ => nI (ps z_)))), (pq 2, .inl (cI, 4, .inl (fun z_ => nI (pu z_)))), (pq 3, .inl (cI, 4, .inl (fun z_ => nI (sd z_)))), (pq 4, .inl (cI, 8, .inl (fun z_ => nI (cj z_)))), (pq 5, .inl (cI, 5, .inl (fun z_ => nI (ta z_))))] s.heap := hP
  have hD : va_D A [pO a pq (bx 0) (bx 2) (bx 1) (szN bx (bx 0)) (bx 3) (bx 4), (pq 0, .inl (cI, 4, .inl (fun z_ => nI (te z_)))), (pq 1, .inl (cI, 4, .inl (fun z_ => nI (ps z_)))), (pq 2, .inl (cI, 4, .inl (fun z_ => nI (pu z_)))), (pq 3, .inl (cI, 4, .inl (fun z_ => nI (sd z_)))), (pq 4, .inl (cI, 8, .inl (fun z_ => nI (cj z_)))), (pq 5, .inl (cI, 5, .inl (fun z_ => nI (ta z_))))] := hD
  have hw := hR.b.w
  have ht := hR.b.t i hi
  have hrow := hR.r i hi
  have hsz := sz_le hR.b i (by omega)
  have hs6 : szN bx i ≤ 1296 := Nat.le_trans hsz.1 (Nat.le_trans (Nat.pow_le_pow_right (by omega) (show i ≤ 4 by omega)) (by decide))
  refine lv_aload_n hx hb dX2_toothOf_0 rfl (lv_at hl 0 rfl) ?_
  refine gf_2_21 hx hb hts hown hK hP 0 rfl rfl dX2_toothOf_1 ?_
  refine lv_iload_n hx hb dX2_toothOf_4 rfl (lv_at hl 2 rfl) ?_
  refine cl_2_49 (As := [.ref (pq 3), .int (nI (i))]) (rest := []) hx hb hml hts hown (k_X6_at (by first | assumption | omega) (by first | assumption | omega)) (by decide) ⟨Nat.zero_le _, Nat.zero_le _⟩ hK hP hD hS hA [4] rfl (by decide) rfl hl.1 rfl (Nat.le_of_ble_eq_true rfl) dX2_toothOf_5 (fun r_1 u H locs hp_2 hP hD hS => ?_)
  obtain ⟨rfl, rfl⟩ := hp_2
  have hP : va_P D vwCl [pO a pq (bx 0) (bx 2) (bx 1) (szN bx (bx 0)) (bx 3) (bx 4), (pq 0, .inl (cI, 4, .inl (fun z_ => nI (te z_)))), (pq 1, .inl (cI, 4, .inl (fun z_ => nI (ps z_)))), (pq 2, .inl (cI, 4, .inl (fun z_ => nI (pu z_)))), (pq 3, .inl (cI, 4, .inl (fun z_ => nI (sd z_)))), (pq 4, .inl (cI, 8, .inl (fun z_ => nI (cj z_)))), (pq 5, .inl (cI, 5, .inl (fun z_ => nI (ta z_))))] _ := hP
  have hD : va_D A [pO a pq (bx 0) (bx 2) (bx 1) (szN bx (bx 0)) (bx 3) (bx 4), (pq 0, .inl (cI, 4, .inl (fun z_ => nI (te z_)))), (pq 1, .inl (cI, 4, .inl (fun z_ => nI (ps z_)))), (pq 2, .inl (cI, 4, .inl (fun z_ => nI (pu z_)))), (pq 3, .inl (cI, 4, .inl (fun z_ => nI (sd z_)))), (pq 4, .inl (cI, 8, .inl (fun z_ => nI (cj z_)))), (pq 5, .inl (cI, 5, .inl (fun z_ => nI (ta z_))))] := hD
  refine lv_istore_n (lv' := [(3, .int (nI (sd i))), (0, .ref a), (1, .int (nI (x))), (2, .int (nI (i)))]) hx hb dX2_toothOf_8 rfl hl (by decide) rfl (fun ls hl => ?_)
  refine lv_aload_n hx hb dX2_toothOf_9 rfl (lv_at hl 1 rfl) ?_
  refine gf_2_9 hx hb hts hown hK hP 0 rfl rfl dX2_toothOf_10 ?_
  refine lv_iload_n hx hb dX2_toothOf_13 rfl (lv_at hl 3 rfl) ?_
  refine cl_2_49 (As := [.ref (pq 0), .int (nI (i))]) (rest := []) hx hb hml hts hown (k_X6_at (by first | assumption | omega) (by first | assumption | omega)) (by decide) ⟨Nat.zero_le _, Nat.zero_le _⟩ hK hP hD hS hA [1] rfl (by decide) rfl hl.1 rfl (Nat.le_of_ble_eq_true rfl) dX2_toothOf_14 (fun r_3 u H locs hp_4 hP hD hS => ?_)
  obtain ⟨rfl, rfl⟩ := hp_4
  have hP : va_P D vwCl [pO a pq (bx 0) (bx 2) (bx 1) (szN bx (bx 0)) (bx 3) (bx 4), (pq 0, .inl (cI, 4, .inl (fun z_ => nI (te z_)))), (pq 1, .inl (cI, 4, .inl (fun z_ => nI (ps z_)))), (pq 2, .inl (cI, 4, .inl (fun z_ => nI (pu z_)))), (pq 3, .inl (cI, 4, .inl (fun z_ => nI (sd z_)))), (pq 4, .inl (cI, 8, .inl (fun z_ => nI (cj z_)))), (pq 5, .inl (cI, 5, .inl (fun z_ => nI (ta z_))))] _ := hP
  have hD : va_D A [pO a pq (bx 0) (bx 2) (bx 1) (szN bx (bx 0)) (bx 3) (bx 4), (pq 0, .inl (cI, 4, .inl (fun z_ => nI (te z_)))), (pq 1, .inl (cI, 4, .inl (fun z_ => nI (ps z_)))), (pq 2, .inl (cI, 4, .inl (fun z_ => nI (pu z_)))), (pq 3, .inl (cI, 4, .inl (fun z_ => nI (sd z_)))), (pq 4, .inl (cI, 8, .inl (fun z_ => nI (cj z_)))), (pq 5, .inl (cI, 5, .inl (fun z_ => nI (ta z_))))] := hD
  refine lv_istore (lv' := [(4, .int (nI (te i))), (3, .int (nI (sd i))), (0, .ref a), (1, .int (nI (x))), (2, .int (nI (i)))]) hx hb dX2_toothOf_17 hl (by decide) rfl (fun ls hl => ?_)
  refine lv_iload_n hx hb dX2_toothOf_19 rfl (lv_at hl 1 rfl) ?_
  refine n_if_le (tgt := 37) hx hb dX2_toothOf_20 (by decide) (by omega) (fun c_5 => ?_) (fun c_5 => ?_)
  · omega
  · -- 20 to 23
    refine lv_iload hx hb dX2_toothOf_23 (lv_at hl 0 rfl) ?_
    refine n_if_le (tgt := 37) hx hb dX2_toothOf_25 (by decide) (by omega) (fun c_6 => ?_) (fun c_6 => ?_)
    · omega
    · -- 25 to 28
      refine lv_iload_n hx hb dX2_toothOf_28 rfl (lv_at hl 3 rfl) ?_
      refine lv_iload_n hx hb dX2_toothOf_29 rfl (lv_at hl 1 rfl) ?_
      refine n_idiv hx hb dX2_toothOf_30 hx1 (by rw [hrow.2.2.2]; omega) (by rw [hrow.2.2.2]; omega) ?_
      refine lv_iload hx hb dX2_toothOf_31 (lv_at hl 0 rfl) ?_
      refine n_irem hx hb dX2_toothOf_33 (Nat.lt_of_le_of_lt (Nat.div_le_self _ _) hx1) (by omega) (by omega) ?_
      refine lv_goto (tgt := 38) hx hb dX2_toothOf_34 (by decide) ?_
      refine hret hP hD hS dX2_toothOf_38 rfl rfl ?_
      exact ⟨by rw [hrow.2.2.2, hrow.1]; rfl, rfl⟩
set_option maxHeartbeats 4000000 in
set_option maxRecDepth 100000 in
theorem k_X2_teethOf {l : Launch} {D : va_G} {cI cC cB : ClassId} {a : Nat} {pq : Nat → Nat} {bx te ps pu sd cj ta : Nat → Nat} {x : Nat} (hR : PlR bx te ps pu sd cj ta) (hx1 : x < 2147483648) : MI l yX2_teethOf cX2_teethOf 4 (some .int) 2 D (Ty3 cI cC cB) [.ref a, .int (nI (x))] [pO a pq (bx 0) (bx 2) (bx 1) (szN bx (bx 0)) (bx 3) (bx 4), (pq 0, .inl (cI, 4, .inl (fun z_ => nI (te z_)))), (pq 1, .inl (cI, 4, .inl (fun z_ => nI (ps z_)))), (pq 2, .inl (cI, 4, .inl (fun z_ => nI (pu z_)))), (pq 3, .inl (cI, 4, .inl (fun z_ => nI (sd z_)))), (pq 4, .inl (cI, 8, .inl (fun z_ => nI (cj z_)))), (pq 5, .inl (cI, 5, .inl (fun z_ => nI (ta z_))))] (fun r u => (r = nI (tbN bx x (bx 0)) ∧ u = [pO a pq (bx 0) (bx 2) (bx 1) (szN bx (bx 0)) (bx 3) (bx 4), (pq 0, .inl (cI, 4, .inl (fun z_ => nI (te z_)))), (pq 1, .inl (cI, 4, .inl (fun z_ => nI (ps z_)))), (pq 2, .inl (cI, 4, .inl (fun z_ => nI (pu z_)))), (pq 3, .inl (cI, 4, .inl (fun z_ => nI (sd z_)))), (pq 4, .inl (cI, 8, .inl (fun z_ => nI (cj z_)))), (pq 5, .inl (cI, 5, .inl (fun z_ => nI (ta z_))))])) := by
  intro sz
  refine MI.walk (by decide +kernel) (Nat.le_of_ble_eq_true rfl) ?_
  intro p e s m args below meth c A Qf hx hb hml hts hown hret hK hP hD hS hA ls hl
  have hown : s.vm.findClass RX2 = some m.cls := hown
  have hl : lv_has ls 4 [(0, .ref a), (1, .int (nI (x)))] := hl
  have hP : va_P D vwCl [pO a pq (bx 0) (bx 2) (bx 1) (szN bx (bx 0)) (bx 3) (bx 4), (pq 0, .inl (cI, 4, .inl (fun z_ => nI (te z_)))), (pq 1, .inl (cI, 4, .inl (fun z_ => nI (ps z_)))), (pq 2, .inl (cI, 4, .inl (fun z_ => nI (pu z_)))), (pq 3, .inl (cI, 4, .inl (fun z_ => nI (sd z_)))), (pq 4, .inl (cI, 8, .inl (fun z_ => nI (cj z_)))), (pq 5, .inl (cI, 5, .inl (fun z_ => nI (ta z_))))] s.heap := hP
  have hD : va_D A [pO a pq (bx 0) (bx 2) (bx 1) (szN bx (bx 0)) (bx 3) (bx 4), (pq 0, .inl (cI, 4, .inl (fun z_ => nI (te z_)))), (pq 1, .inl (cI, 4, .inl (fun z_ => nI (ps z_)))), (pq 2, .inl (cI, 4, .inl (fun z_ => nI (pu z_)))), (pq 3, .inl (cI, 4, .inl (fun z_ => nI (sd z_)))), (pq 4, .inl (cI, 8, .inl (fun z_ => nI (cj z_)))), (pq 5, .inl (cI, 5, .inl (fun z_ => nI (ta z_))))] := hD
  have hw := hR.b.w
  refine lv_iconst (v := nI 0) hx hb dX2_teethOf_0 (by decide) ?_
  refine lv_istore_n (lv' := [(2, .int (nI (0))), (0, .ref a), (1, .int (nI (x)))]) hx hb dX2_teethOf_1 rfl hl (by decide) rfl (fun ls hl => ?_)
  refine lv_iconst (v := nI 0) hx hb dX2_teethOf_2 (by decide) ?_
  refine lv_istore_n (lv' := [(3, .int (nI (0))), (2, .int (nI (0))), (0, .ref a), (1, .int (nI (x)))]) hx hb dX2_teethOf_3 rfl hl (by decide) rfl (fun ls hl => ?_)
  have loop_4 : ∀ (N : Nat) (v : Nat) (i : Nat), (i ≤ bx 0) → (v = tbN bx x i) → (bx 0 - i) < N → ∀ (H : Heap) (locs : List Loc), va_P D vwCl [pO a pq (bx 0) (bx 2) (bx 1) (szN bx (bx 0)) (bx 3) (bx 4), (pq 0, .inl (cI, 4, .inl (fun z_ => nI (te z_)))), (pq 1, .inl (cI, 4, .inl (fun z_ => nI (ps z_)))), (pq 2, .inl (cI, 4, .inl (fun z_ => nI (pu z_)))), (pq 3, .inl (cI, 4, .inl (fun z_ => nI (sd z_)))), (pq 4, .inl (cI, 8, .inl (fun z_ => nI (cj z_)))), (pq 5, .inl (cI, 5, .inl (fun z_ => nI (ta z_))))] H → va_D A [pO a pq (bx 0) (bx 2) (bx 1) (szN bx (bx 0)) (bx 3) (bx 4), (pq 0, .inl (cI, 4, .inl (fun z_ => nI (te z_)))), (pq 1, .inl (cI, 4, .inl (fun z_ => nI (ps z_)))), (pq 2, .inl (cI, 4, .inl (fun z_ => nI (pu z_)))), (pq 3, .inl (cI, 4, .inl (fun z_ => nI (sd z_)))), (pq 4, .inl (cI, 8, .inl (fun z_ => nI (cj z_)))), (pq 5, .inl (cI, 5, .inl (fun z_ => nI (ta z_))))] → va_S A s.heap H locs → ∀ ls : Array Slot, lv_has ls 4 [(3, .int (nI (i))), (2, .int (nI (v))), (0, .ref a), (1, .int (nI (x)))] → W p l e (rmL 2) s m args below meth c H locs 0 0 Qf (F0 m 4 ls []) := by
    intro N; induction N with
    | zero => intro v i _ _ hm; omega
    | succ N ih_4 =>
      intro v i hi hv hm H locs hP hD hS ls hl
      refine lv_iload_n hx hb dX2_teethOf_4 rfl (lv_at hl 0 rfl) ?_
      refine lv_aload_n hx hb dX2_teethOf_5 rfl (lv_at hl 2 rfl) ?_
      refine gf_2_30 hx hb hts hown hK hP 0 rfl rfl dX2_teethOf_6 ?_
      refine n_icmp_ge (tgt := 33) hx hb dX2_teethOf_9 (by decide) (by omega) (by omega) (fun c_1 => ?_) (fun c_1 => ?_)
      · -- 9 to 33
        refine lv_iload_n hx hb dX2_teethOf_33 rfl (lv_at hl 1 rfl) ?_
        refine hret hP hD hS dX2_teethOf_34 rfl rfl ?_
        exact ⟨by rw [hv, show i = bx 0 by omega], rfl⟩
      · -- 9 to 12
        refine lv_iload_n hx hb dX2_teethOf_12 rfl (lv_at hl 1 rfl) ?_
        refine lv_iconst (v := nI 1) hx hb dX2_teethOf_13 (by decide) ?_
        refine lv_iload_n hx hb dX2_teethOf_14 rfl (lv_at hl 0 rfl) ?_
        refine lv_aload_n hx hb dX2_teethOf_15 rfl (lv_at hl 2 rfl) ?_
        refine lv_iload_n hx hb dX2_teethOf_16 rfl (lv_at hl 3 rfl) ?_
        refine lv_iload_n hx hb dX2_teethOf_17 rfl (lv_at hl 0 rfl) ?_
        refine cl_2_80 (As := [.int (nI (x)), .int (nI (i))]) (rest := [.int (nI (i)), .int (nI (1)), .int (nI (v))]) hx hb hml hts hown (k_X2_toothOf (by first | assumption | omega) (by first | assumption | omega) (by first | assumption | omega)) (by decide) ⟨Nat.zero_le _, Nat.zero_le _⟩ hK hP hD hS hA 0 rfl [0, 1, 2, 3, 4, 5, 6] rfl (by decide) rfl hl.1 rfl (Nat.le_of_ble_eq_true rfl) dX2_teethOf_18 (fun r_2 u H locs hp_3 hP hD hS => ?_)
        obtain ⟨rfl, rfl⟩ := hp_3
        have hP : va_P D vwCl [pO a pq (bx 0) (bx 2) (bx 1) (szN bx (bx 0)) (bx 3) (bx 4), (pq 0, .inl (cI, 4, .inl (fun z_ => nI (te z_)))), (pq 1, .inl (cI, 4, .inl (fun z_ => nI (ps z_)))), (pq 2, .inl (cI, 4, .inl (fun z_ => nI (pu z_)))), (pq 3, .inl (cI, 4, .inl (fun z_ => nI (sd z_)))), (pq 4, .inl (cI, 8, .inl (fun z_ => nI (cj z_)))), (pq 5, .inl (cI, 5, .inl (fun z_ => nI (ta z_))))] _ := hP
        have hD : va_D A [pO a pq (bx 0) (bx 2) (bx 1) (szN bx (bx 0)) (bx 3) (bx 4), (pq 0, .inl (cI, 4, .inl (fun z_ => nI (te z_)))), (pq 1, .inl (cI, 4, .inl (fun z_ => nI (ps z_)))), (pq 2, .inl (cI, 4, .inl (fun z_ => nI (pu z_)))), (pq 3, .inl (cI, 4, .inl (fun z_ => nI (sd z_)))), (pq 4, .inl (cI, 8, .inl (fun z_ => nI (cj z_)))), (pq 5, .inl (cI, 5, .inl (fun z_ => nI (ta z_))))] := hD
        refine cl_2_76 (As := [.int (nI (i)), .int (nI (tooN bx x i))]) (rest := [.int (nI (1)), .int (nI (v))]) hx hb hml hts hown (k_X6_slotOf ) (by decide) ⟨Nat.zero_le _, Nat.zero_le _⟩ hK hP hD hS hA [] rfl (by decide) rfl hl.1 rfl (Nat.le_of_ble_eq_true rfl) dX2_teethOf_21 (fun r_4 u H locs hp_5 hP hD hS => ?_)
        obtain ⟨rfl, rfl⟩ := hp_5
        have hP : va_P D vwCl [pO a pq (bx 0) (bx 2) (bx 1) (szN bx (bx 0)) (bx 3) (bx 4), (pq 0, .inl (cI, 4, .inl (fun z_ => nI (te z_)))), (pq 1, .inl (cI, 4, .inl (fun z_ => nI (ps z_)))), (pq 2, .inl (cI, 4, .inl (fun z_ => nI (pu z_)))), (pq 3, .inl (cI, 4, .inl (fun z_ => nI (sd z_)))), (pq 4, .inl (cI, 8, .inl (fun z_ => nI (cj z_)))), (pq 5, .inl (cI, 5, .inl (fun z_ => nI (ta z_))))] _ := hP
        have hD : va_D A [pO a pq (bx 0) (bx 2) (bx 1) (szN bx (bx 0)) (bx 3) (bx 4), (pq 0, .inl (cI, 4, .inl (fun z_ => nI (te z_)))), (pq 1, .inl (cI, 4, .inl (fun z_ => nI (ps z_)))), (pq 2, .inl (cI, 4, .inl (fun z_ => nI (pu z_)))), (pq 3, .inl (cI, 4, .inl (fun z_ => nI (sd z_)))), (pq 4, .inl (cI, 8, .inl (fun z_ => nI (cj z_)))), (pq 5, .inl (cI, 5, .inl (fun z_ => nI (ta z_))))] := hD
        have hto := hR.b.too x i (by omega)
        refine n_ishl hx hb dX2_teethOf_24 (by omega) ?_
        refine n_ior hx hb dX2_teethOf_25  ?_
        refine lv_istore_n (lv' := [(2, .int (nI (v ||| (1 * 2 ^ (i * 6 + (tooN bx x i)))))), (3, .int (nI (i))), (0, .ref a), (1, .int (nI (x)))]) hx hb dX2_teethOf_26 rfl hl (by decide) rfl (fun ls hl => ?_)
        refine lv_iinc (v := nI (i + 1)) (lv' := [(3, .int (nI (i + 1))), (2, .int (nI (v ||| (1 * 2 ^ (i * 6 + (tooN bx x i)))))), (0, .ref a), (1, .int (nI (x)))]) hx hb dX2_teethOf_27 hl (k := 1) rfl (n_inc _ 1) (by decide) rfl (fun ls hl => ?_)
        refine lv_goto (tgt := 4) hx hb dX2_teethOf_30 (by decide) ?_
        exact ih_4 (v ||| (1 * 2 ^ (i * 6 + (tooN bx x i)))) (i + 1) (by omega) (by rw [hv]; rfl) (by omega) _ _ hP hD hS _ (lv_sub hl [0, 1, 2, 3] rfl)
  exact loop_4 _ 0 0 (by omega) rfl (Nat.lt_succ_self _) _ _ hP hD hS _ (lv_sub hl [0, 1, 2, 3] rfl)
set_option maxHeartbeats 4000000 in
set_option maxRecDepth 100000 in
theorem k_X2_goTogether {l : Launch} {D : va_G} {cI cC cB : ClassId} {a : Nat} {pq : Nat → Nat} {bx te ps pu sd cj ta : Nat → Nat} {x : Nat} (hR : PlR bx te ps pu sd cj ta) : MI l yX2_goTogether cX2_goTogether 4 (some .boolean) 1 D (Ty3 cI cC cB) [.ref a, .int (nI (tbN bx x (bx 0)))] [pO a pq (bx 0) (bx 2) (bx 1) (szN bx (bx 0)) (bx 3) (bx 4), (pq 0, .inl (cI, 4, .inl (fun z_ => nI (te z_)))), (pq 1, .inl (cI, 4, .inl (fun z_ => nI (ps z_)))), (pq 2, .inl (cI, 4, .inl (fun z_ => nI (pu z_)))), (pq 3, .inl (cI, 4, .inl (fun z_ => nI (sd z_)))), (pq 4, .inl (cI, 8, .inl (fun z_ => nI (cj z_)))), (pq 5, .inl (cI, 5, .inl (fun z_ => nI (ta z_))))] (fun r u => (r = nI (b2n (snsP bx x (bx 2))) ∧ u = [pO a pq (bx 0) (bx 2) (bx 1) (szN bx (bx 0)) (bx 3) (bx 4), (pq 0, .inl (cI, 4, .inl (fun z_ => nI (te z_)))), (pq 1, .inl (cI, 4, .inl (fun z_ => nI (ps z_)))), (pq 2, .inl (cI, 4, .inl (fun z_ => nI (pu z_)))), (pq 3, .inl (cI, 4, .inl (fun z_ => nI (sd z_)))), (pq 4, .inl (cI, 8, .inl (fun z_ => nI (cj z_)))), (pq 5, .inl (cI, 5, .inl (fun z_ => nI (ta z_))))])) := by
  intro sz
  refine MI.walk (by decide +kernel) (Nat.le_of_ble_eq_true rfl) ?_
  intro p e s m args below meth c A Qf hx hb hml hts hown hret hK hP hD hS hA ls hl
  have hown : s.vm.findClass RX2 = some m.cls := hown
  have hl : lv_has ls 4 [(0, .ref a), (1, .int (nI (tbN bx x (bx 0))))] := hl
  have hP : va_P D vwCl [pO a pq (bx 0) (bx 2) (bx 1) (szN bx (bx 0)) (bx 3) (bx 4), (pq 0, .inl (cI, 4, .inl (fun z_ => nI (te z_)))), (pq 1, .inl (cI, 4, .inl (fun z_ => nI (ps z_)))), (pq 2, .inl (cI, 4, .inl (fun z_ => nI (pu z_)))), (pq 3, .inl (cI, 4, .inl (fun z_ => nI (sd z_)))), (pq 4, .inl (cI, 8, .inl (fun z_ => nI (cj z_)))), (pq 5, .inl (cI, 5, .inl (fun z_ => nI (ta z_))))] s.heap := hP
  have hD : va_D A [pO a pq (bx 0) (bx 2) (bx 1) (szN bx (bx 0)) (bx 3) (bx 4), (pq 0, .inl (cI, 4, .inl (fun z_ => nI (te z_)))), (pq 1, .inl (cI, 4, .inl (fun z_ => nI (ps z_)))), (pq 2, .inl (cI, 4, .inl (fun z_ => nI (pu z_)))), (pq 3, .inl (cI, 4, .inl (fun z_ => nI (sd z_)))), (pq 4, .inl (cI, 8, .inl (fun z_ => nI (cj z_)))), (pq 5, .inl (cI, 5, .inl (fun z_ => nI (ta z_))))] := hD
  have hn := hR.b.n
  refine lv_iconst (v := nI 0) hx hb dX2_goTogether_0 (by decide) ?_
  refine lv_istore_n (lv' := [(2, .int (nI (0))), (0, .ref a), (1, .int (nI (tbN bx x (bx 0))))]) hx hb dX2_goTogether_1 rfl hl (by decide) rfl (fun ls hl => ?_)
  have loop_2 : ∀ (N : Nat) (i : Nat), (i ≤ bx 2) → (snsP bx x i = true) → (bx 2 - i) < N → ∀ (H : Heap) (locs : List Loc), va_P D vwCl [pO a pq (bx 0) (bx 2) (bx 1) (szN bx (bx 0)) (bx 3) (bx 4), (pq 0, .inl (cI, 4, .inl (fun z_ => nI (te z_)))), (pq 1, .inl (cI, 4, .inl (fun z_ => nI (ps z_)))), (pq 2, .inl (cI, 4, .inl (fun z_ => nI (pu z_)))), (pq 3, .inl (cI, 4, .inl (fun z_ => nI (sd z_)))), (pq 4, .inl (cI, 8, .inl (fun z_ => nI (cj z_)))), (pq 5, .inl (cI, 5, .inl (fun z_ => nI (ta z_))))] H → va_D A [pO a pq (bx 0) (bx 2) (bx 1) (szN bx (bx 0)) (bx 3) (bx 4), (pq 0, .inl (cI, 4, .inl (fun z_ => nI (te z_)))), (pq 1, .inl (cI, 4, .inl (fun z_ => nI (ps z_)))), (pq 2, .inl (cI, 4, .inl (fun z_ => nI (pu z_)))), (pq 3, .inl (cI, 4, .inl (fun z_ => nI (sd z_)))), (pq 4, .inl (cI, 8, .inl (fun z_ => nI (cj z_)))), (pq 5, .inl (cI, 5, .inl (fun z_ => nI (ta z_))))] → va_S A s.heap H locs → ∀ ls : Array Slot, lv_has ls 4 [(2, .int (nI (i))), (0, .ref a), (1, .int (nI (tbN bx x (bx 0))))] → W p l e (rmL 1) s m args below meth c H locs 0 0 Qf (F0 m 2 ls []) := by
    intro N; induction N with
    | zero => intro i _ _ hm; omega
    | succ N ih_2 =>
      intro i hi hv hm H locs hP hD hS ls hl
      refine lv_iload_n hx hb dX2_goTogether_2 rfl (lv_at hl 0 rfl) ?_
      refine lv_aload_n hx hb dX2_goTogether_3 rfl (lv_at hl 1 rfl) ?_
      refine gf_2_34 hx hb hts hown hK hP 0 rfl rfl dX2_goTogether_4 ?_
      refine n_icmp_ge (tgt := 34) hx hb dX2_goTogether_7 (by decide) (by omega) (by omega) (fun c_1 => ?_) (fun c_1 => ?_)
      · -- 7 to 34
        refine lv_iconst (v := nI 1) hx hb dX2_goTogether_34 (by decide) ?_
        refine hret hP hD hS dX2_goTogether_35 (by decide) rfl ?_
        exact ⟨congrArg nI (b2n_e1 (by rw [← show i = bx 2 by omega]; exact hv)), rfl⟩
      · -- 7 to 10
        refine lv_aload_n hx hb dX2_goTogether_10 rfl (lv_at hl 1 rfl) ?_
        refine gf_2_24 hx hb hts hown hK hP 0 rfl rfl dX2_goTogether_11 ?_
        refine lv_iload_n hx hb dX2_goTogether_14 rfl (lv_at hl 0 rfl) ?_
        refine cl_2_49 (As := [.ref (pq 4), .int (nI (i))]) (rest := []) hx hb hml hts hown (k_X6_at (by first | assumption | omega) (by first | assumption | omega)) (by decide) ⟨Nat.zero_le _, Nat.zero_le _⟩ hK hP hD hS hA [5] rfl (by decide) rfl hl.1 rfl (Nat.le_of_ble_eq_true rfl) dX2_goTogether_15 (fun r_2 u H locs hp_3 hP hD hS => ?_)
        obtain ⟨rfl, rfl⟩ := hp_3
        have hP : va_P D vwCl [pO a pq (bx 0) (bx 2) (bx 1) (szN bx (bx 0)) (bx 3) (bx 4), (pq 0, .inl (cI, 4, .inl (fun z_ => nI (te z_)))), (pq 1, .inl (cI, 4, .inl (fun z_ => nI (ps z_)))), (pq 2, .inl (cI, 4, .inl (fun z_ => nI (pu z_)))), (pq 3, .inl (cI, 4, .inl (fun z_ => nI (sd z_)))), (pq 4, .inl (cI, 8, .inl (fun z_ => nI (cj z_)))), (pq 5, .inl (cI, 5, .inl (fun z_ => nI (ta z_))))] _ := hP
        have hD : va_D A [pO a pq (bx 0) (bx 2) (bx 1) (szN bx (bx 0)) (bx 3) (bx 4), (pq 0, .inl (cI, 4, .inl (fun z_ => nI (te z_)))), (pq 1, .inl (cI, 4, .inl (fun z_ => nI (ps z_)))), (pq 2, .inl (cI, 4, .inl (fun z_ => nI (pu z_)))), (pq 3, .inl (cI, 4, .inl (fun z_ => nI (sd z_)))), (pq 4, .inl (cI, 8, .inl (fun z_ => nI (cj z_)))), (pq 5, .inl (cI, 5, .inl (fun z_ => nI (ta z_))))] := hD
        refine lv_istore_n (lv' := [(3, .int (nI (cj i))), (2, .int (nI (i))), (0, .ref a), (1, .int (nI (tbN bx x (bx 0))))]) hx hb dX2_goTogether_18 rfl hl (by decide) rfl (fun ls hl => ?_)
        have hcj := hR.c i (by omega)
        have hcl := hR.cl i (by omega)
        have htl := tb_lt hR.b x
        refine lv_iload_n hx hb dX2_goTogether_19 rfl (lv_at hl 3 rfl) ?_
        refine lv_iload_n hx hb dX2_goTogether_20 rfl (lv_at hl 0 rfl) ?_
        refine n_iand hx hb dX2_goTogether_21  ?_
        refine lv_iload_n hx hb dX2_goTogether_22 rfl (lv_at hl 0 rfl) ?_
        refine n_icmp_ne (tgt := 28) hx hb dX2_goTogether_23 (by decide) (by have := Nat.and_le_left (n := tbN bx x (bx 0)) (m := cj i); omega) (by have := Nat.and_le_left (n := tbN bx x (bx 0)) (m := cj i); omega) (fun c_4 => ?_) (fun c_4 => ?_)
        · -- 23 to 28
          refine lv_iinc (v := nI (i + 1)) (lv' := [(2, .int (nI (i + 1))), (3, .int (nI (cj i))), (0, .ref a), (1, .int (nI (tbN bx x (bx 0))))]) hx hb dX2_goTogether_28 hl (k := 1) rfl (n_inc _ 1) (by decide) rfl (fun ls hl => ?_)
          refine lv_goto (tgt := 2) hx hb dX2_goTogether_31 (by decide) ?_
          exact ih_2 (i + 1) (by omega) (sp_1 hR hv (by omega) (by assumption)) (by omega) _ _ hP hD hS _ (lv_sub hl [0, 2, 3] rfl)
        · -- 23 to 26
          refine lv_iconst (v := nI 0) hx hb dX2_goTogether_26 (by decide) ?_
          refine hret hP hD hS dX2_goTogether_27 (by decide) rfl ?_
          exact ⟨congrArg nI (b2n_e0 (sp_0 hR (show i < bx 2 by omega) (by assumption))), rfl⟩
  exact loop_2 _ 0 (by omega) rfl (Nat.lt_succ_self _) _ _ hP hD hS _ (lv_sub hl [0, 1, 2] rfl)
set_option maxHeartbeats 4000000 in
set_option maxRecDepth 100000 in
theorem k_X2_friendsOf {l : Launch} {D : va_G} {cI cC cB : ClassId} {a : Nat} {pq : Nat → Nat} {bx te ps pu sd cj ta : Nat → Nat} {y : Nat} (hR : PlR bx te ps pu sd cj ta) (hy : y < bx 1) : MI l yX2_friendsOf cX2_friendsOf 4 (some .int) 1 D (Ty3 cI cC cB) [.ref a, .int (nI (y))] [pO a pq (bx 0) (bx 2) (bx 1) (szN bx (bx 0)) (bx 3) (bx 4), (pq 0, .inl (cI, 4, .inl (fun z_ => nI (te z_)))), (pq 1, .inl (cI, 4, .inl (fun z_ => nI (ps z_)))), (pq 2, .inl (cI, 4, .inl (fun z_ => nI (pu z_)))), (pq 3, .inl (cI, 4, .inl (fun z_ => nI (sd z_)))), (pq 4, .inl (cI, 8, .inl (fun z_ => nI (cj z_)))), (pq 5, .inl (cI, 5, .inl (fun z_ => nI (ta z_))))] (fun r u => (r = nI (tkN bx y (bx 1)) ∧ u = [pO a pq (bx 0) (bx 2) (bx 1) (szN bx (bx 0)) (bx 3) (bx 4), (pq 0, .inl (cI, 4, .inl (fun z_ => nI (te z_)))), (pq 1, .inl (cI, 4, .inl (fun z_ => nI (ps z_)))), (pq 2, .inl (cI, 4, .inl (fun z_ => nI (pu z_)))), (pq 3, .inl (cI, 4, .inl (fun z_ => nI (sd z_)))), (pq 4, .inl (cI, 8, .inl (fun z_ => nI (cj z_)))), (pq 5, .inl (cI, 5, .inl (fun z_ => nI (ta z_))))])) := by
  intro sz
  refine MI.walk (by decide +kernel) (Nat.le_of_ble_eq_true rfl) ?_
  intro p e s m args below meth c A Qf hx hb hml hts hown hret hK hP hD hS hA ls hl
  have hown : s.vm.findClass RX2 = some m.cls := hown
  have hl : lv_has ls 4 [(0, .ref a), (1, .int (nI (y)))] := hl
  have hP : va_P D vwCl [pO a pq (bx 0) (bx 2) (bx 1) (szN bx (bx 0)) (bx 3) (bx 4), (pq 0, .inl (cI, 4, .inl (fun z_ => nI (te z_)))), (pq 1, .inl (cI, 4, .inl (fun z_ => nI (ps z_)))), (pq 2, .inl (cI, 4, .inl (fun z_ => nI (pu z_)))), (pq 3, .inl (cI, 4, .inl (fun z_ => nI (sd z_)))), (pq 4, .inl (cI, 8, .inl (fun z_ => nI (cj z_)))), (pq 5, .inl (cI, 5, .inl (fun z_ => nI (ta z_))))] s.heap := hP
  have hD : va_D A [pO a pq (bx 0) (bx 2) (bx 1) (szN bx (bx 0)) (bx 3) (bx 4), (pq 0, .inl (cI, 4, .inl (fun z_ => nI (te z_)))), (pq 1, .inl (cI, 4, .inl (fun z_ => nI (ps z_)))), (pq 2, .inl (cI, 4, .inl (fun z_ => nI (pu z_)))), (pq 3, .inl (cI, 4, .inl (fun z_ => nI (sd z_)))), (pq 4, .inl (cI, 8, .inl (fun z_ => nI (cj z_)))), (pq 5, .inl (cI, 5, .inl (fun z_ => nI (ta z_))))] := hD
  have hn := hR.b.n
  have ha1 := hR.a y hy
  have ha2 := hR.b.ta y hy
  refine lv_iconst (v := nI 0) hx hb dX2_friendsOf_0 (by decide) ?_
  refine lv_istore_n (lv' := [(2, .int (nI (0))), (0, .ref a), (1, .int (nI (y)))]) hx hb dX2_friendsOf_1 rfl hl (by decide) rfl (fun ls hl => ?_)
  refine lv_iconst (v := nI 0) hx hb dX2_friendsOf_2 (by decide) ?_
  refine lv_istore_n (lv' := [(3, .int (nI (0))), (2, .int (nI (0))), (0, .ref a), (1, .int (nI (y)))]) hx hb dX2_friendsOf_3 rfl hl (by decide) rfl (fun ls hl => ?_)
  have loop_4 : ∀ (N : Nat) (v : Nat) (k : Nat), (k ≤ bx 1) → (v = tkN bx y k) → (bx 1 - k) < N → ∀ (H : Heap) (locs : List Loc), va_P D vwCl [pO a pq (bx 0) (bx 2) (bx 1) (szN bx (bx 0)) (bx 3) (bx 4), (pq 0, .inl (cI, 4, .inl (fun z_ => nI (te z_)))), (pq 1, .inl (cI, 4, .inl (fun z_ => nI (ps z_)))), (pq 2, .inl (cI, 4, .inl (fun z_ => nI (pu z_)))), (pq 3, .inl (cI, 4, .inl (fun z_ => nI (sd z_)))), (pq 4, .inl (cI, 8, .inl (fun z_ => nI (cj z_)))), (pq 5, .inl (cI, 5, .inl (fun z_ => nI (ta z_))))] H → va_D A [pO a pq (bx 0) (bx 2) (bx 1) (szN bx (bx 0)) (bx 3) (bx 4), (pq 0, .inl (cI, 4, .inl (fun z_ => nI (te z_)))), (pq 1, .inl (cI, 4, .inl (fun z_ => nI (ps z_)))), (pq 2, .inl (cI, 4, .inl (fun z_ => nI (pu z_)))), (pq 3, .inl (cI, 4, .inl (fun z_ => nI (sd z_)))), (pq 4, .inl (cI, 8, .inl (fun z_ => nI (cj z_)))), (pq 5, .inl (cI, 5, .inl (fun z_ => nI (ta z_))))] → va_S A s.heap H locs → ∀ ls : Array Slot, lv_has ls 4 [(3, .int (nI (k))), (2, .int (nI (v))), (0, .ref a), (1, .int (nI (y)))] → W p l e (rmL 1) s m args below meth c H locs 0 0 Qf (F0 m 4 ls []) := by
    intro N; induction N with
    | zero => intro v k _ _ hm; omega
    | succ N ih_4 =>
      intro v k hk hv hm H locs hP hD hS ls hl
      refine lv_iload_n hx hb dX2_friendsOf_4 rfl (lv_at hl 0 rfl) ?_
      refine lv_aload_n hx hb dX2_friendsOf_5 rfl (lv_at hl 2 rfl) ?_
      refine gf_2_37 hx hb hts hown hK hP 0 rfl rfl dX2_friendsOf_6 ?_
      refine n_icmp_ge (tgt := 55) hx hb dX2_friendsOf_9 (by decide) (by omega) (by omega) (fun c_1 => ?_) (fun c_1 => ?_)
      · -- 9 to 55
        refine lv_iload_n hx hb dX2_friendsOf_55 rfl (lv_at hl 1 rfl) ?_
        refine hret hP hD hS dX2_friendsOf_56 rfl rfl ?_
        exact ⟨by rw [hv, show k = bx 1 by omega], rfl⟩
      · -- 9 to 12
        refine lv_iload_n hx hb dX2_friendsOf_12 rfl (lv_at hl 0 rfl) ?_
        refine lv_iload_n hx hb dX2_friendsOf_13 rfl (lv_at hl 3 rfl) ?_
        refine n_icmp_eq (tgt := 49) hx hb dX2_friendsOf_14 (by decide) (by omega) (by omega) (fun c_2 => ?_) (fun c_2 => ?_)
        · -- 14 to 49
          refine lv_iinc (v := nI (k + 1)) (lv' := [(3, .int (nI (k + 1))), (2, .int (nI (v))), (0, .ref a), (1, .int (nI (y)))]) hx hb dX2_friendsOf_49 hl (k := 0) rfl (n_inc _ 1) (by decide) rfl (fun ls hl => ?_)
          refine lv_goto (tgt := 4) hx hb dX2_friendsOf_52 (by decide) ?_
          exact ih_4 v (k + 1) (by omega) (by rw [hv]; first | exact tkc_1 hR hy (by omega) (by assumption) (by assumption) | exact tkc_0 (by omega) | exact tkc_2 hR hy (by omega) (by assumption)) (by omega) _ _ hP hD hS _ (lv_sub hl [0, 1, 2, 3] rfl)
        · -- 14 to 17
          refine lv_aload_n hx hb dX2_friendsOf_17 rfl (lv_at hl 2 rfl) ?_
          refine gf_2_27 hx hb hts hown hK hP 0 rfl rfl dX2_friendsOf_18 ?_
          refine lv_iload_n hx hb dX2_friendsOf_21 rfl (lv_at hl 3 rfl) ?_
          refine cl_2_49 (As := [.ref (pq 5), .int (nI (y))]) (rest := []) hx hb hml hts hown (k_X6_at (by first | assumption | omega) (by first | assumption | omega)) (by decide) ⟨Nat.zero_le _, Nat.zero_le _⟩ hK hP hD hS hA [6] rfl (by decide) rfl hl.1 rfl (Nat.le_of_ble_eq_true rfl) dX2_friendsOf_22 (fun r_3 u H locs hp_4 hP hD hS => ?_)
          obtain ⟨rfl, rfl⟩ := hp_4
          have hP : va_P D vwCl [pO a pq (bx 0) (bx 2) (bx 1) (szN bx (bx 0)) (bx 3) (bx 4), (pq 0, .inl (cI, 4, .inl (fun z_ => nI (te z_)))), (pq 1, .inl (cI, 4, .inl (fun z_ => nI (ps z_)))), (pq 2, .inl (cI, 4, .inl (fun z_ => nI (pu z_)))), (pq 3, .inl (cI, 4, .inl (fun z_ => nI (sd z_)))), (pq 4, .inl (cI, 8, .inl (fun z_ => nI (cj z_)))), (pq 5, .inl (cI, 5, .inl (fun z_ => nI (ta z_))))] _ := hP
          have hD : va_D A [pO a pq (bx 0) (bx 2) (bx 1) (szN bx (bx 0)) (bx 3) (bx 4), (pq 0, .inl (cI, 4, .inl (fun z_ => nI (te z_)))), (pq 1, .inl (cI, 4, .inl (fun z_ => nI (ps z_)))), (pq 2, .inl (cI, 4, .inl (fun z_ => nI (pu z_)))), (pq 3, .inl (cI, 4, .inl (fun z_ => nI (sd z_)))), (pq 4, .inl (cI, 8, .inl (fun z_ => nI (cj z_)))), (pq 5, .inl (cI, 5, .inl (fun z_ => nI (ta z_))))] := hD
          refine lv_iload_n hx hb dX2_friendsOf_25 rfl (lv_at hl 0 rfl) ?_
          refine n_ishr hx hb dX2_friendsOf_26 (by omega) (by omega) ?_
          refine lv_aload_n hx hb dX2_friendsOf_27 rfl (lv_at hl 2 rfl) ?_
          refine gf_2_27 hx hb hts hown hK hP 0 rfl rfl dX2_friendsOf_28 ?_
          have ha3 := hR.a k (by omega)
          have ha4 := hR.b.ta k (by omega)
          refine lv_iload_n hx hb dX2_friendsOf_31 rfl (lv_at hl 0 rfl) ?_
          refine cl_2_49 (As := [.ref (pq 5), .int (nI (k))]) (rest := [.int (nI ((ta y) / 2 ^ k))]) hx hb hml hts hown (k_X6_at (by first | assumption | omega) (by first | assumption | omega)) (by decide) ⟨Nat.zero_le _, Nat.zero_le _⟩ hK hP hD hS hA [6] rfl (by decide) rfl hl.1 rfl (Nat.le_of_ble_eq_true rfl) dX2_friendsOf_32 (fun r_5 u H locs hp_6 hP hD hS => ?_)
          obtain ⟨rfl, rfl⟩ := hp_6
          have hP : va_P D vwCl [pO a pq (bx 0) (bx 2) (bx 1) (szN bx (bx 0)) (bx 3) (bx 4), (pq 0, .inl (cI, 4, .inl (fun z_ => nI (te z_)))), (pq 1, .inl (cI, 4, .inl (fun z_ => nI (ps z_)))), (pq 2, .inl (cI, 4, .inl (fun z_ => nI (pu z_)))), (pq 3, .inl (cI, 4, .inl (fun z_ => nI (sd z_)))), (pq 4, .inl (cI, 8, .inl (fun z_ => nI (cj z_)))), (pq 5, .inl (cI, 5, .inl (fun z_ => nI (ta z_))))] _ := hP
          have hD : va_D A [pO a pq (bx 0) (bx 2) (bx 1) (szN bx (bx 0)) (bx 3) (bx 4), (pq 0, .inl (cI, 4, .inl (fun z_ => nI (te z_)))), (pq 1, .inl (cI, 4, .inl (fun z_ => nI (ps z_)))), (pq 2, .inl (cI, 4, .inl (fun z_ => nI (pu z_)))), (pq 3, .inl (cI, 4, .inl (fun z_ => nI (sd z_)))), (pq 4, .inl (cI, 8, .inl (fun z_ => nI (cj z_)))), (pq 5, .inl (cI, 5, .inl (fun z_ => nI (ta z_))))] := hD
          refine lv_iload_n hx hb dX2_friendsOf_35 rfl (lv_at hl 3 rfl) ?_
          refine n_ishr hx hb dX2_friendsOf_36 (by omega) (by omega) ?_
          refine n_ior hx hb dX2_friendsOf_37  ?_
          refine lv_iconst (v := nI 1) hx hb dX2_friendsOf_38 (by decide) ?_
          refine n_iand hx hb dX2_friendsOf_39  ?_
          refine n_if_eq (tgt := 49) hx hb dX2_friendsOf_40 (by decide) (by have := Nat.and_le_right (n := ta y / 2 ^ k ||| ta k / 2 ^ y) (m := 1); omega) (fun c_7 => ?_) (fun c_7 => ?_)
          · -- 40 to 49
            refine lv_iinc (v := nI (k + 1)) (lv' := [(3, .int (nI (k + 1))), (2, .int (nI (v))), (0, .ref a), (1, .int (nI (y)))]) hx hb dX2_friendsOf_49 hl (k := 0) rfl (n_inc _ 1) (by decide) rfl (fun ls hl => ?_)
            refine lv_goto (tgt := 4) hx hb dX2_friendsOf_52 (by decide) ?_
            exact ih_4 v (k + 1) (by omega) (by rw [hv]; first | exact tkc_1 hR hy (by omega) (by assumption) (by assumption) | exact tkc_0 (by omega) | exact tkc_2 hR hy (by omega) (by assumption)) (by omega) _ _ hP hD hS _ (lv_sub hl [0, 1, 2, 3] rfl)
          · -- 40 to 43
            refine lv_iload_n hx hb dX2_friendsOf_43 rfl (lv_at hl 1 rfl) ?_
            refine lv_iconst (v := nI 1) hx hb dX2_friendsOf_44 (by decide) ?_
            refine lv_iload_n hx hb dX2_friendsOf_45 rfl (lv_at hl 0 rfl) ?_
            refine n_ishl hx hb dX2_friendsOf_46 (by omega) ?_
            refine n_ior hx hb dX2_friendsOf_47  ?_
            refine lv_istore_n (lv' := [(2, .int (nI (v ||| (1 * 2 ^ k)))), (3, .int (nI (k))), (0, .ref a), (1, .int (nI (y)))]) hx hb dX2_friendsOf_48 rfl hl (by decide) rfl (fun ls hl => ?_)
            refine lv_iinc (v := nI (k + 1)) (lv' := [(3, .int (nI (k + 1))), (2, .int (nI (v ||| (1 * 2 ^ k)))), (0, .ref a), (1, .int (nI (y)))]) hx hb dX2_friendsOf_49 hl (k := 1) rfl (n_inc _ 1) (by decide) rfl (fun ls hl => ?_)
            refine lv_goto (tgt := 4) hx hb dX2_friendsOf_52 (by decide) ?_
            exact ih_4 (v ||| (1 * 2 ^ k)) (k + 1) (by omega) (by rw [hv]; first | exact tkc_1 hR hy (by omega) (by assumption) (by assumption) | exact tkc_0 (by omega) | exact tkc_2 hR hy (by omega) (by assumption)) (by omega) _ _ hP hD hS _ (lv_sub hl [0, 1, 2, 3] rfl)
  exact loop_4 _ 0 0 (by omega) rfl (Nat.lt_succ_self _) _ _ hP hD hS _ (lv_sub hl [0, 1, 2, 3] rfl)
set_option maxHeartbeats 4000000 in
set_option maxRecDepth 100000 in
theorem k_X2_circleOf {l : Launch} {D : va_G} {cI cC cB : ClassId} {a : Nat} {pq : Nat → Nat} {bx te ps pu sd cj ta : Nat → Nat} {y : Nat} (hR : PlR bx te ps pu sd cj ta) (hy : y < bx 1) : MI l yX2_circleOf cX2_circleOf 2 (some .int) 2 D (Ty3 cI cC cB) [.ref a, .int (nI (y))] [pO a pq (bx 0) (bx 2) (bx 1) (szN bx (bx 0)) (bx 3) (bx 4), (pq 0, .inl (cI, 4, .inl (fun z_ => nI (te z_)))), (pq 1, .inl (cI, 4, .inl (fun z_ => nI (ps z_)))), (pq 2, .inl (cI, 4, .inl (fun z_ => nI (pu z_)))), (pq 3, .inl (cI, 4, .inl (fun z_ => nI (sd z_)))), (pq 4, .inl (cI, 8, .inl (fun z_ => nI (cj z_)))), (pq 5, .inl (cI, 5, .inl (fun z_ => nI (ta z_))))] (fun r u => (r = nI (tkN bx y (bx 1) ||| 1 * 2 ^ y) ∧ u = [pO a pq (bx 0) (bx 2) (bx 1) (szN bx (bx 0)) (bx 3) (bx 4), (pq 0, .inl (cI, 4, .inl (fun z_ => nI (te z_)))), (pq 1, .inl (cI, 4, .inl (fun z_ => nI (ps z_)))), (pq 2, .inl (cI, 4, .inl (fun z_ => nI (pu z_)))), (pq 3, .inl (cI, 4, .inl (fun z_ => nI (sd z_)))), (pq 4, .inl (cI, 8, .inl (fun z_ => nI (cj z_)))), (pq 5, .inl (cI, 5, .inl (fun z_ => nI (ta z_))))])) := by
  intro sz
  refine MI.walk (by decide +kernel) (Nat.le_of_ble_eq_true rfl) ?_
  intro p e s m args below meth c A Qf hx hb hml hts hown hret hK hP hD hS hA ls hl
  have hown : s.vm.findClass RX2 = some m.cls := hown
  have hl : lv_has ls 2 [(0, .ref a), (1, .int (nI (y)))] := hl
  have hP : va_P D vwCl [pO a pq (bx 0) (bx 2) (bx 1) (szN bx (bx 0)) (bx 3) (bx 4), (pq 0, .inl (cI, 4, .inl (fun z_ => nI (te z_)))), (pq 1, .inl (cI, 4, .inl (fun z_ => nI (ps z_)))), (pq 2, .inl (cI, 4, .inl (fun z_ => nI (pu z_)))), (pq 3, .inl (cI, 4, .inl (fun z_ => nI (sd z_)))), (pq 4, .inl (cI, 8, .inl (fun z_ => nI (cj z_)))), (pq 5, .inl (cI, 5, .inl (fun z_ => nI (ta z_))))] s.heap := hP
  have hD : va_D A [pO a pq (bx 0) (bx 2) (bx 1) (szN bx (bx 0)) (bx 3) (bx 4), (pq 0, .inl (cI, 4, .inl (fun z_ => nI (te z_)))), (pq 1, .inl (cI, 4, .inl (fun z_ => nI (ps z_)))), (pq 2, .inl (cI, 4, .inl (fun z_ => nI (pu z_)))), (pq 3, .inl (cI, 4, .inl (fun z_ => nI (sd z_)))), (pq 4, .inl (cI, 8, .inl (fun z_ => nI (cj z_)))), (pq 5, .inl (cI, 5, .inl (fun z_ => nI (ta z_))))] := hD
  have hn := hR.b.n
  refine lv_aload_n hx hb dX2_circleOf_0 rfl (lv_at hl 0 rfl) ?_
  refine lv_iload_n hx hb dX2_circleOf_1 rfl (lv_at hl 1 rfl) ?_
  refine cl_2_83 (As := [.int (nI (y))]) (rest := []) hx hb hml hts hown (k_X2_friendsOf (by first | assumption | omega) (by first | assumption | omega)) (by decide) ⟨Nat.zero_le _, Nat.zero_le _⟩ hK hP hD hS hA 0 rfl [0, 1, 2, 3, 4, 5, 6] rfl (by decide) rfl hl.1 rfl (Nat.le_of_ble_eq_true rfl) dX2_circleOf_2 (fun r_1 u H locs hp_2 hP hD hS => ?_)
  obtain ⟨rfl, rfl⟩ := hp_2
  have hP : va_P D vwCl [pO a pq (bx 0) (bx 2) (bx 1) (szN bx (bx 0)) (bx 3) (bx 4), (pq 0, .inl (cI, 4, .inl (fun z_ => nI (te z_)))), (pq 1, .inl (cI, 4, .inl (fun z_ => nI (ps z_)))), (pq 2, .inl (cI, 4, .inl (fun z_ => nI (pu z_)))), (pq 3, .inl (cI, 4, .inl (fun z_ => nI (sd z_)))), (pq 4, .inl (cI, 8, .inl (fun z_ => nI (cj z_)))), (pq 5, .inl (cI, 5, .inl (fun z_ => nI (ta z_))))] _ := hP
  have hD : va_D A [pO a pq (bx 0) (bx 2) (bx 1) (szN bx (bx 0)) (bx 3) (bx 4), (pq 0, .inl (cI, 4, .inl (fun z_ => nI (te z_)))), (pq 1, .inl (cI, 4, .inl (fun z_ => nI (ps z_)))), (pq 2, .inl (cI, 4, .inl (fun z_ => nI (pu z_)))), (pq 3, .inl (cI, 4, .inl (fun z_ => nI (sd z_)))), (pq 4, .inl (cI, 8, .inl (fun z_ => nI (cj z_)))), (pq 5, .inl (cI, 5, .inl (fun z_ => nI (ta z_))))] := hD
  refine lv_iconst (v := nI 1) hx hb dX2_circleOf_5 (by decide) ?_
  refine lv_iload_n hx hb dX2_circleOf_6 rfl (lv_at hl 1 rfl) ?_
  refine n_ishl hx hb dX2_circleOf_7 (by omega) ?_
  refine n_ior hx hb dX2_circleOf_8  ?_
  refine hret hP hD hS dX2_circleOf_9 rfl rfl ?_
  exact ⟨rfl, rfl⟩

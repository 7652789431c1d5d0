
/-- the gears are of the wheels -/
def GoOk (bx nw : Nat → Nat) : Prop := ∀ i, i < bx 0 → nw (4 + i) < bx (5 + i) ∧ nw (8 + i) < bx (5 + i)
theorem gcd_st (x y : Nat) : Nat.gcd y (x % y) = Nat.gcd x y := by
  rw [Nat.gcd_comm x y, Nat.gcd_comm y (x % y)]; exact (Nat.gcd_rec y x).symm
theorem gcd_le (a b : Nat) (h : 0 < a) : 0 < Nat.gcd a b ∧ Nat.gcd a b ≤ a := ⟨Nat.gcd_pos_of_pos_left b h, Nat.gcd_le_left b h⟩
theorem gcd_le2 (a b : Nat) (h : 0 < b) : 0 < Nat.gcd a b ∧ Nat.gcd a b ≤ b := ⟨Nat.gcd_pos_of_pos_right a h, Nat.gcd_le_right a h⟩
/-- the round of one wheel -/
def ownN (bx nw : Nat → Nat) (i : Nat) : Nat := bx (5 + i) / Nat.gcd (bx (5 + i)) (nw (4 + i))
def rdN (bx nw : Nat → Nat) : Nat → Nat
  | 0 => 1
  | i + 1 => rdN bx nw i / Nat.gcd (rdN bx nw i) (ownN bx nw i) * ownN bx nw i
theorem own_le (bx nw : Nat → Nat) (i : Nat) (h : 0 < bx (5 + i)) : 0 < ownN bx nw i ∧ ownN bx nw i ≤ bx (5 + i) := by
  have hg := gcd_le (bx (5 + i)) (nw (4 + i)) h
  exact ⟨Nat.div_pos hg.2 hg.1, Nat.div_le_self _ _⟩
theorem rd_le {bx nw : Nat → Nat} (hB : BxOk bx) : ∀ i, i ≤ bx 0 → 0 < rdN bx nw i ∧ rdN bx nw i ≤ szN bx i
  | 0, _ => by simp [rdN, szN]
  | i + 1, h => by
    have ih := rd_le (nw := nw) hB i (by omega)
    have ht := hB.t i (by omega)
    have ho := own_le bx nw i (by omega)
    have hg := gcd_le (rdN bx nw i) (ownN bx nw i) ih.1
    simp only [rdN, szN]
    refine ⟨Nat.mul_pos (Nat.div_pos hg.2 hg.1) ho.1, Nat.mul_le_mul (Nat.le_trans (Nat.div_le_self _ _) ih.2) ho.2⟩
theorem rd_le2 {bx nw : Nat → Nat} (hB : BxOk bx) {i : Nat} (h : i ≤ bx 0) : 0 < rdN bx nw i ∧ rdN bx nw i ≤ 1296 := by
  have h1 := rd_le (nw := nw) hB i h
  have h2 := (sz_le hB i h).1
  exact ⟨h1.1, Nat.le_trans h1.2 (Nat.le_trans h2 (Nat.le_trans (Nat.pow_le_pow_right (by omega) (show i ≤ 4 by have := hB.w; omega)) (by decide)))⟩
def ix (x : Int32) : Nat := x.toNatClampNeg
theorem ix_n {j : Nat} (h : j < 2147483648) : ix (nI j) = j := nI_clamp (by omega)
def wrOk (x : Int32) (z : Nat) : Bool := inR x 32 126 && !decide (z = 200)
def wrA (x : Int32) (z : Nat) : Int32 := if inR x 32 126 = true then (if wrOk x z = true then nI (z + 1) else -3) else -1
def wrZ (x : Int32) (z : Nat) : Nat := if wrOk x z = true then z + 1 else z
def wrT (x : Int32) (tx : Nat → Nat) (z : Nat) : Nat → Nat := if wrOk x z = true then up1 tx z (ix x) else tx
theorem wr_1 {x : Int32} {z : Nat} (h : inR x 32 126 = true) (h2 : z ≠ 200) : wrOk x z = true := by simp [wrOk, h, h2]
theorem wr_2 {x : Int32} {z : Nat} (h2 : z = 200) : wrOk x z = false := by simp [wrOk, h2]
theorem wr_3 {x : Int32} {z : Nat} (h : inR x 32 126 = false) : wrOk x z = false := by simp [wrOk, h]
theorem wrA_e {x : Int32} {z : Nat} (h : inR x 32 126 = false) : (-1 : Int32) = wrA x z := by simp [wrA, h]
theorem wrA_f {x : Int32} {z : Nat} (h : inR x 32 126 = true) (h1 : wrOk x z = false) : (-3 : Int32) = wrA x z := by simp [wrA, h, h1]
theorem wrA_t {x : Int32} {z : Nat} (h : inR x 32 126 = true) (h1 : wrOk x z = true) : nI (z + 1) = wrA x z := by simp [wrA, h, h1]
theorem wrZ_0 {x : Int32} {z : Nat} (h : wrOk x z = false) : wrZ x z = z := by simp [wrZ, h]
theorem wrZ_1 {x : Int32} {z : Nat} (h : wrOk x z = true) : wrZ x z = z + 1 := by simp [wrZ, h]
theorem wrT_0 {x : Int32} {z : Nat} {tx : Nat → Nat} (h : wrOk x z = false) : wrT x tx z = tx := by simp [wrT, h]
theorem wrT_1 {j z : Nat} {tx : Nat → Nat} (hj : j < 2147483648) (h : wrOk (nI j) z = true) : wrT (nI j) tx z = up1 tx z j := by simp [wrT, h, ix_n hj]
def behN (bx : Nat → Nat) (i a n : Nat) : Nat := (bx (13 + i) + a * n) % bx (5 + i)
theorem beh_lt (bx : Nat → Nat) (i a n : Nat) (h : 0 < bx (5 + i)) : behN bx i a n < bx (5 + i) := Nat.mod_lt _ h
/-- the first k that were shown are so, by gear a of wheel i -/
def fiN (bx sh : Nat → Nat) (i a : Nat) : Nat → Bool
  | 0 => true
  | k + 1 => fiN bx sh i a k && (!decide (sh (3 * k) = i) || decide (behN bx i a (sh (3 * k + 1)) = sh (3 * k + 2)))
theorem fi_1 {a b : Nat} {q : Bool} (h : a ≠ b) : (!decide (a = b) || q) = true := by simp [h]
theorem fi_2 {a b : Nat} {q : Bool} (h : a = b) : (q || decide (a = b)) = true := by simp [h]
theorem fi_3 {a b x y : Nat} (h : a = b) (h2 : x ≠ y) : (!decide (a = b) || decide (x = y)) = false := by simp [h, h2]
def geN (bx sh : Nat → Nat) (i s : Nat) : Nat → Nat
  | 0 => 0
  | a + 1 => geN bx sh i s a ||| (if fiN bx sh i a s = true then 1 * 2 ^ a else 0)
theorem ge_1 {bx sh : Nat → Nat} {i s a z k : Nat} (hz : z = b2n (fiN bx sh i a k)) (hk : k = s) (h : z ≠ 0) : geN bx sh i s a ||| 1 * 2 ^ a = geN bx sh i s (a + 1) := by
  subst hk; subst hz
  have h1 : fiN bx sh i a k = true := by cases hf : fiN bx sh i a k <;> simp_all [b2n]
  simp only [geN]; rw [if_pos h1]
theorem ge_0 {bx sh : Nat → Nat} {i s a z k : Nat} (hz : z = b2n (fiN bx sh i a k)) (hk : k = s) (h : z = 0) : geN bx sh i s a ||| 0 = geN bx sh i s (a + 1) := by
  subst hk; subst hz
  have h1 : ¬ fiN bx sh i a k = true := by cases hf : fiN bx sh i a k <;> simp_all [b2n]
  simp only [geN]; rw [if_neg h1]
def gesA (bx sh : Nat → Nat) (s : Nat) (x : Int32) : Int32 := if inN x (bx 0) = true then nI (geN bx sh (ix x) s (bx (5 + ix x))) else -1
theorem ges_t {bx sh : Nat → Nat} {s j : Nat} (hj : j < 2147483648) (h : inN (nI j) (bx 0) = true) : nI (geN bx sh j s (bx (5 + j))) = gesA bx sh s (nI j) := by simp only [gesA]; rw [if_pos h, ix_n hj]
theorem ges_f {bx sh : Nat → Nat} {s : Nat} {x : Int32} (h : inN x (bx 0) = false) : (-1 : Int32) = gesA bx sh s x := by simp [gesA, h]
/-- of the first y gears of g, how many show tooth o behind n turns -/
def wcN (bx : Nat → Nat) (i g n o : Nat) : Nat → Nat
  | 0 => 0
  | y + 1 => wcN bx i g n o y + (if Nat.testBit g y = true ∧ behN bx i y n = o then 1 else 0)
theorem wc_1 {bx : Nat → Nat} {i g n o y : Nat} (h1 : Nat.testBit g y = true) (h2 : behN bx i y n = o) : wcN bx i g n o y + 1 = wcN bx i g n o (y + 1) := by simp only [wcN]; rw [if_pos ⟨h1, h2⟩]
theorem wc_2 {bx : Nat → Nat} {i g n o y : Nat} (h1 : Nat.testBit g y = false) : wcN bx i g n o y + 0 = wcN bx i g n o (y + 1) := by simp only [wcN]; rw [if_neg (by simp [h1])]
theorem wc_3 {bx : Nat → Nat} {i g n o y : Nat} (h1 : behN bx i y n ≠ o) : wcN bx i g n o y + 0 = wcN bx i g n o (y + 1) := by simp only [wcN]; rw [if_neg (by simp [h1])]
def woN (bx : Nat → Nat) (i g n : Nat) : Nat → Nat
  | 0 => 0
  | o + 1 => if woN bx i g n o < wcN bx i g n o (bx (5 + i)) then wcN bx i g n o (bx (5 + i)) else woN bx i g n o
theorem wo_1 {bx : Nat → Nat} {i g n o m1 c1 y : Nat} (hm : m1 = woN bx i g n o) (hc : c1 = wcN bx i g n o y) (hy : y = bx (5 + i)) (h : m1 < c1) : c1 = woN bx i g n (o + 1) := by subst hy; subst hm; subst hc; simp only [woN]; rw [if_pos h]
theorem wo_2 {bx : Nat → Nat} {i g n o m1 c1 y : Nat} (hm : m1 = woN bx i g n o) (hc : c1 = wcN bx i g n o y) (hy : y = bx (5 + i)) (h : c1 ≤ m1) : m1 = woN bx i g n (o + 1) := by subst hy; subst hm; subst hc; simp only [woN]; rw [if_neg (by omega)]
def hbN (nw : Nat → Nat) (y : Nat) : Nat → Nat
  | 0 => 0
  | k + 1 => hbN nw y k ||| (if nw (40 + k) = y then 1 * 2 ^ k else 0)
theorem hby_1 {nw : Nat → Nat} {y k : Nat} (h : nw (40 + k) = y) : hbN nw y k ||| 1 * 2 ^ k = hbN nw y (k + 1) := by simp only [hbN]; rw [if_pos h]
theorem hby_0 {nw : Nat → Nat} {y k : Nat} (h : nw (40 + k) ≠ y) : hbN nw y k ||| 0 = hbN nw y (k + 1) := by simp only [hbN]; rw [if_neg h]
def taA (bx : Nat → Nat) (x : Int32) : Int32 := if inN x (bx 1) = true then nI (tkN bx (ix x) (bx 1)) else -1
theorem ta_t {bx : Nat → Nat} {j : Nat} (hj : j < 2147483648) (h : inN (nI j) (bx 1) = true) : nI (tkN bx j (bx 1)) = taA bx (nI j) := by simp only [taA]; rw [if_pos h, ix_n hj]
theorem ta_f {bx : Nat → Nat} {x : Int32} (h : inN x (bx 1) = false) : (-1 : Int32) = taA bx x := by simp [taA, h]

set_option maxHeartbeats 4000000 in
set_option maxRecDepth 100000 in
theorem k_X7_common {l : Launch} {D : va_G} {cI cC cB : ClassId} {a b : Nat} (ha : a < 2147483648) (hb2 : b < 2147483648) : MI l yX7_common cX7_common 5 (some .int) 0 D (Ty3 cI cC cB) [.int (nI (a)), .int (nI (b))] [] (fun r u => (r = nI (Nat.gcd a b) ∧ u = [])) := by
  intro sz
  refine MI.walk (by decide +kernel) (Nat.le_of_ble_eq_true rfl) ?_
  intro p e s m args below meth c A Qf hx hb hml hts hown hret hK hP hD hS hA ls hl
  have hown : s.vm.findClass RX7 = some m.cls := hown
  have hl : lv_has ls 5 [(0, .int (nI (a))), (1, .int (nI (b)))] := hl
  have hP : va_P D vwCl [] s.heap := hP
  have hD : va_D A [] := hD
  refine lv_iload_n hx hb dX7_common_0 rfl (lv_at hl 0 rfl) ?_
  refine lv_istore_n (lv' := [(2, .int (nI (a))), (0, .int (nI (a))), (1, .int (nI (b)))]) hx hb dX7_common_1 rfl hl (by decide) rfl (fun ls hl => ?_)
  refine lv_iload_n hx hb dX7_common_2 rfl (lv_at hl 2 rfl) ?_
  refine lv_istore_n (lv' := [(3, .int (nI (b))), (2, .int (nI (a))), (0, .int (nI (a))), (1, .int (nI (b)))]) hx hb dX7_common_3 rfl hl (by decide) rfl (fun ls hl => ?_)
  have loop_4 : ∀ (N : Nat) (x : Nat) (y : Nat), (x < 2147483648) → (y < 2147483648) → (Nat.gcd x y = Nat.gcd a b) → y < N → ∀ (H : Heap) (locs : List Loc), va_P D vwCl [] H → va_D A [] → va_S A s.heap H locs → ∀ ls : Array Slot, lv_has ls 5 [(3, .int (nI (y))), (2, .int (nI (x))), (0, .int (nI (a))), (1, .int (nI (b)))] → W p l e (rmL 0) s m args below meth c H locs 0 0 Qf (F0 m 4 ls []) := by
    intro N; induction N with
    | zero => intro x y _ _ _ hm; omega
    | succ N ih_4 =>
      intro x y hx1 hy1 hg hm H locs hP hD hS ls hl
      refine lv_iload_n hx hb dX7_common_4 rfl (lv_at hl 0 rfl) ?_
      refine n_if_eq (tgt := 21) hx hb dX7_common_5 (by decide) (by omega) (fun c_1 => ?_) (fun c_1 => ?_)
      · -- 5 to 21
        refine lv_iload_n hx hb dX7_common_21 rfl (lv_at hl 1 rfl) ?_
        refine hret hP hD hS dX7_common_22 rfl rfl ?_
        exact ⟨by rw [← hg, show y = 0 by omega, Nat.gcd_zero_right], rfl⟩
      · -- 5 to 8
        refine lv_iload_n hx hb dX7_common_8 rfl (lv_at hl 1 rfl) ?_
        refine lv_iload_n hx hb dX7_common_9 rfl (lv_at hl 0 rfl) ?_
        refine n_irem hx hb dX7_common_10 (by omega) (by omega) (by omega) ?_
        refine lv_istore (lv' := [(4, .int (nI (x % y))), (3, .int (nI (y))), (2, .int (nI (x))), (0, .int (nI (a))), (1, .int (nI (b)))]) hx hb dX7_common_11 hl (by decide) rfl (fun ls hl => ?_)
        refine lv_iload_n hx hb dX7_common_13 rfl (lv_at hl 1 rfl) ?_
        refine lv_istore_n (lv' := [(2, .int (nI (y))), (4, .int (nI (x % y))), (3, .int (nI (y))), (0, .int (nI (a))), (1, .int (nI (b)))]) hx hb dX7_common_14 rfl hl (by decide) rfl (fun ls hl => ?_)
        refine lv_iload hx hb dX7_common_15 (lv_at hl 1 rfl) ?_
        refine lv_istore_n (lv' := [(3, .int (nI (x % y))), (2, .int (nI (y))), (4, .int (nI (x % y))), (0, .int (nI (a))), (1, .int (nI (b)))]) hx hb dX7_common_17 rfl hl (by decide) rfl (fun ls hl => ?_)
        refine lv_goto (tgt := 4) hx hb dX7_common_18 (by decide) ?_
        exact ih_4 y (x % y) (by omega) (by have := Nat.mod_lt x (show 0 < y by omega); omega) (by rw [← hg]; exact gcd_st x y) (by have := Nat.mod_lt x (show 0 < y by omega); omega) _ _ hP hD hS _ (lv_sub hl [0, 1, 3, 4] rfl)
  exact loop_4 _ a b ha hb2 rfl (Nat.lt_succ_self _) _ _ hP hD hS _ (lv_sub hl [0, 1, 2, 3] rfl)
set_option maxHeartbeats 4000000 in
set_option maxRecDepth 100000 in
theorem k_X7_round {l : Launch} {D : va_G} {cI cC cB : ClassId} {h : Nat} {q : Nat → Nat} {zmu zmk zmz zms zma zmc : Nat} {bx nw : Nat → Nat} (hB : BxOk bx) (hG : GoOk bx nw) (hbd : ∀ j, nw j < 100000000) : MI l yX7_round cX7_round 4 (some .int) 1 D (Ty3 cI cC cB) [.ref h] [mO h q zmu zmk zmz zms zma zmc, (q 0, .inl (cI, 54, .inl (fun z_ => nI (bx z_)))), (q 2, .inl (cI, 76, .inl (fun z_ => nI (nw z_))))] (fun r u => (r = nI (rdN bx nw (bx 0)) ∧ u = [mO h q zmu zmk zmz zms zma zmc, (q 0, .inl (cI, 54, .inl (fun z_ => nI (bx z_)))), (q 2, .inl (cI, 76, .inl (fun z_ => nI (nw z_))))])) := by
  intro sz
  refine MI.walk (by decide +kernel) (Nat.le_of_ble_eq_true rfl) ?_
  intro p e s m args below meth c A Qf hx hb hml hts hown hret hK hP hD hS hA ls hl
  have hown : s.vm.findClass RX7 = some m.cls := hown
  have hl : lv_has ls 4 [(0, .ref h)] := hl
  have hP : va_P D vwCl [mO h q zmu zmk zmz zms zma zmc, (q 0, .inl (cI, 54, .inl (fun z_ => nI (bx z_)))), (q 2, .inl (cI, 76, .inl (fun z_ => nI (nw z_))))] s.heap := hP
  have hD : va_D A [mO h q zmu zmk zmz zms zma zmc, (q 0, .inl (cI, 54, .inl (fun z_ => nI (bx z_)))), (q 2, .inl (cI, 76, .inl (fun z_ => nI (nw z_))))] := hD
  refine lv_iconst (v := nI 1) hx hb dX7_round_0 (by decide) ?_
  refine lv_istore_n (lv' := [(1, .int (nI (1))), (0, .ref h)]) hx hb dX7_round_1 rfl hl (by decide) rfl (fun ls hl => ?_)
  refine lv_iconst (v := nI 0) hx hb dX7_round_2 (by decide) ?_
  refine lv_istore_n (lv' := [(2, .int (nI (0))), (1, .int (nI (1))), (0, .ref h)]) hx hb dX7_round_3 rfl hl (by decide) rfl (fun ls hl => ?_)
  have loop_4 : ∀ (N : Nat) (r : Nat) (i : Nat), (i ≤ bx 0) → (r = rdN bx nw i) → (bx 0 - i) < N → ∀ (H : Heap) (locs : List Loc), va_P D vwCl [mO h q zmu zmk zmz zms zma zmc, (q 0, .inl (cI, 54, .inl (fun z_ => nI (bx z_)))), (q 2, .inl (cI, 76, .inl (fun z_ => nI (nw z_))))] H → va_D A [mO h q zmu zmk zmz zms zma zmc, (q 0, .inl (cI, 54, .inl (fun z_ => nI (bx z_)))), (q 2, .inl (cI, 76, .inl (fun z_ => nI (nw z_))))] → va_S A s.heap H locs → ∀ ls : Array Slot, lv_has ls 4 [(2, .int (nI (i))), (1, .int (nI (r))), (0, .ref h)] → W p l e (rmL 1) s m args below meth c H locs 0 0 Qf (F0 m 4 ls []) := by
    intro N; induction N with
    | zero => intro r i _ _ hm; omega
    | succ N ih_4 =>
      intro r i hi hr1 hm H locs hP hD hS ls hl
      have hw := hB.w
      refine lv_iload_n hx hb dX7_round_4 rfl (lv_at hl 0 rfl) ?_
      refine lv_aload_n hx hb dX7_round_5 rfl (lv_at hl 2 rfl) ?_
      refine gf_7_7 hx hb hts hown hK hP 0 rfl rfl dX7_round_6 ?_
      refine lv_iconst (v := nI 0) hx hb dX7_round_9 (by decide) ?_
      refine n_iald hx hb hK hP 1 0 rfl rfl dX7_round_10 (by decide) (by omega) ?_
      have hb_1 := hB.bd 0
      refine n_icmp_ge (tgt := 59) hx hb dX7_round_11 (by decide) (by omega) (by omega) (fun c_2 => ?_) (fun c_2 => ?_)
      · -- 11 to 59
        refine lv_iload_n hx hb dX7_round_59 rfl (lv_at hl 1 rfl) ?_
        refine hret hP hD hS dX7_round_60 rfl rfl ?_
        exact ⟨by rw [hr1, show i = bx 0 by omega], rfl⟩
      · -- 11 to 14
        refine lv_aload_n hx hb dX7_round_14 rfl (lv_at hl 2 rfl) ?_
        refine gf_7_7 hx hb hts hown hK hP 0 rfl rfl dX7_round_15 ?_
        refine lv_iconst (v := nI 5) hx hb dX7_round_18 (by decide) ?_
        refine lv_iload_n hx hb dX7_round_19 rfl (lv_at hl 0 rfl) ?_
        refine n_iadd hx hb dX7_round_20  ?_
        refine n_iald hx hb hK hP 1 0 rfl rfl dX7_round_21 (by decide) (by omega) ?_
        have hb_3 := hB.bd (5 + i)
        refine lv_aload_n hx hb dX7_round_22 rfl (lv_at hl 2 rfl) ?_
        refine gf_7_7 hx hb hts hown hK hP 0 rfl rfl dX7_round_23 ?_
        refine lv_iconst (v := nI 5) hx hb dX7_round_26 (by decide) ?_
        refine lv_iload_n hx hb dX7_round_27 rfl (lv_at hl 0 rfl) ?_
        refine n_iadd hx hb dX7_round_28  ?_
        refine n_iald hx hb hK hP 1 0 rfl rfl dX7_round_29 (by decide) (by omega) ?_
        have hb_4 := hB.bd (5 + i)
        refine lv_aload_n hx hb dX7_round_30 rfl (lv_at hl 2 rfl) ?_
        refine gf_7_16 hx hb hts hown hK hP 0 rfl rfl dX7_round_31 ?_
        refine lv_iconst (v := nI 4) hx hb dX7_round_34 (by decide) ?_
        refine lv_iload_n hx hb dX7_round_35 rfl (lv_at hl 0 rfl) ?_
        refine n_iadd hx hb dX7_round_36  ?_
        refine n_iald hx hb hK hP 2 0 rfl rfl dX7_round_37 (by decide) (by omega) ?_
        have hb_5 := hbd (4 + i)
        have ht := hB.t i (by omega)
        refine cl_7_204 (As := [.int (nI (bx (5 + i))), .int (nI (nw (4 + i)))]) (rest := [.int (nI (bx (5 + i)))]) hx hb hml hts hown (k_X7_common (by first | assumption | omega) (by first | assumption | omega)) (by decide) ⟨Nat.zero_le _, Nat.zero_le _⟩ hK hP hD hS hA [] rfl (by decide) rfl hl.1 rfl (Nat.le_of_ble_eq_true rfl) dX7_round_38 (fun r_6 u H locs hp_7 hP hD hS => ?_)
        obtain ⟨rfl, rfl⟩ := hp_7
        have hP : va_P D vwCl [mO h q zmu zmk zmz zms zma zmc, (q 0, .inl (cI, 54, .inl (fun z_ => nI (bx z_)))), (q 2, .inl (cI, 76, .inl (fun z_ => nI (nw z_))))] _ := hP
        have hD : va_D A [mO h q zmu zmk zmz zms zma zmc, (q 0, .inl (cI, 54, .inl (fun z_ => nI (bx z_)))), (q 2, .inl (cI, 76, .inl (fun z_ => nI (nw z_))))] := hD
        have hg1 := gcd_le (bx (5 + i)) (nw (4 + i)) (by omega)
        refine n_idiv hx hb dX7_round_41 (by omega) (by omega) (by omega) ?_
        refine lv_istore_n (lv' := [(3, .int (nI ((bx (5 + i)) / (Nat.gcd (bx (5 + i)) (nw (4 + i)))))), (2, .int (nI (i))), (1, .int (nI (r))), (0, .ref h)]) hx hb dX7_round_42 rfl hl (by decide) rfl (fun ls hl => ?_)
        refine lv_iload_n hx hb dX7_round_43 rfl (lv_at hl 2 rfl) ?_
        refine lv_iload_n hx hb dX7_round_44 rfl (lv_at hl 2 rfl) ?_
        refine lv_iload_n hx hb dX7_round_45 rfl (lv_at hl 0 rfl) ?_
        have ho : 0 < bx (5 + i) / Nat.gcd (bx (5 + i)) (nw (4 + i)) ∧ bx (5 + i) / Nat.gcd (bx (5 + i)) (nw (4 + i)) ≤ bx (5 + i) := own_le bx nw i (by omega)
        have hr2 : 0 < r ∧ r ≤ 1296 := by rw [hr1]; exact rd_le2 hB (by omega)
        refine cl_7_204 (As := [.int (nI (r)), .int (nI ((bx (5 + i)) / (Nat.gcd (bx (5 + i)) (nw (4 + i)))))]) (rest := [.int (nI (r))]) hx hb hml hts hown (k_X7_common (by first | assumption | omega) (by first | assumption | omega)) (by decide) ⟨Nat.zero_le _, Nat.zero_le _⟩ hK hP hD hS hA [] rfl (by decide) rfl hl.1 rfl (Nat.le_of_ble_eq_true rfl) dX7_round_46 (fun r_8 u H locs hp_9 hP hD hS => ?_)
        obtain ⟨rfl, rfl⟩ := hp_9
        have hP : va_P D vwCl [mO h q zmu zmk zmz zms zma zmc, (q 0, .inl (cI, 54, .inl (fun z_ => nI (bx z_)))), (q 2, .inl (cI, 76, .inl (fun z_ => nI (nw z_))))] _ := hP
        have hD : va_D A [mO h q zmu zmk zmz zms zma zmc, (q 0, .inl (cI, 54, .inl (fun z_ => nI (bx z_)))), (q 2, .inl (cI, 76, .inl (fun z_ => nI (nw z_))))] := hD
        have hg2 := gcd_le2 r (bx (5 + i) / Nat.gcd (bx (5 + i)) (nw (4 + i))) ho.1
        refine n_idiv hx hb dX7_round_49 (by omega) (by omega) (by omega) ?_
        refine lv_iload_n hx hb dX7_round_50 rfl (lv_at hl 0 rfl) ?_
        refine n_imul hx hb dX7_round_51  ?_
        refine lv_istore_n (lv' := [(1, .int (nI ((r / (Nat.gcd r ((bx (5 + i)) / (Nat.gcd (bx (5 + i)) (nw (4 + i)))))) * ((bx (5 + i)) / (Nat.gcd (bx (5 + i)) (nw (4 + i))))))), (3, .int (nI ((bx (5 + i)) / (Nat.gcd (bx (5 + i)) (nw (4 + i)))))), (2, .int (nI (i))), (0, .ref h)]) hx hb dX7_round_52 rfl hl (by decide) rfl (fun ls hl => ?_)
        refine lv_iinc (v := nI (i + 1)) (lv' := [(2, .int (nI (i + 1))), (1, .int (nI ((r / (Nat.gcd r ((bx (5 + i)) / (Nat.gcd (bx (5 + i)) (nw (4 + i)))))) * ((bx (5 + i)) / (Nat.gcd (bx (5 + i)) (nw (4 + i))))))), (3, .int (nI ((bx (5 + i)) / (Nat.gcd (bx (5 + i)) (nw (4 + i)))))), (0, .ref h)]) hx hb dX7_round_53 hl (k := 2) rfl (n_inc _ 1) (by decide) rfl (fun ls hl => ?_)
        refine lv_goto (tgt := 4) hx hb dX7_round_56 (by decide) ?_
        exact ih_4 ((r / (Nat.gcd r ((bx (5 + i)) / (Nat.gcd (bx (5 + i)) (nw (4 + i)))))) * ((bx (5 + i)) / (Nat.gcd (bx (5 + i)) (nw (4 + i))))) (i + 1) (by omega) (by rw [hr1]; rfl) (by omega) _ _ hP hD hS _ (lv_sub hl [0, 1, 3] rfl)
  exact loop_4 _ 1 0 (by omega) rfl (Nat.lt_succ_self _) _ _ hP hD hS _ (lv_sub hl [0, 1, 2] rfl)
set_option maxHeartbeats 4000000 in
set_option maxRecDepth 100000 in
theorem k_X7_wipe {l : Launch} {D : va_G} {cI cC cB : ClassId} {h : Nat} {q : Nat → Nat} {zmu zmk zmz zms zma zmc : Nat}  : MI l yX7_wipe cX7_wipe 2 (some .int) 1 D (Ty3 cI cC cB) [.ref h] [mO h q zmu zmk zmz zms zma zmc] (fun r u => (r = nI (zmz) ∧ u = [mO h q zmu zmk 0 zms zma zmc])) := by
  intro sz
  refine MI.walk (by decide +kernel) (Nat.le_of_ble_eq_true rfl) ?_
  intro p e s m args below meth c A Qf hx hb hml hts hown hret hK hP hD hS hA ls hl
  have hown : s.vm.findClass RX7 = some m.cls := hown
  have hl : lv_has ls 2 [(0, .ref h)] := hl
  have hP : va_P D vwCl [mO h q zmu zmk zmz zms zma zmc] s.heap := hP
  have hD : va_D A [mO h q zmu zmk zmz zms zma zmc] := hD
  refine lv_aload_n hx hb dX7_wipe_0 rfl (lv_at hl 0 rfl) ?_
  refine gf_7_75 hx hb hts hown hK hP 0 rfl rfl dX7_wipe_1 ?_
  refine lv_istore_n (lv' := [(1, .int (nI (zmz))), (0, .ref h)]) hx hb dX7_wipe_4 rfl hl (by decide) rfl (fun ls hl => ?_)
  refine lv_aload_n hx hb dX7_wipe_5 rfl (lv_at hl 1 rfl) ?_
  refine lv_iconst (v := nI 0) hx hb dX7_wipe_6 (by decide) ?_
  refine pf_7_75 hx hb hts hown hK hP hD hS 0 rfl (Nat.le_of_ble_eq_true rfl) dX7_wipe_7 (fun H locs hP hD hS => ?_)
  have hP : va_P D vwCl [mO h q zmu zmk 0 zms zma zmc] _ := hP
  have hD : va_D A [mO h q zmu zmk 0 zms zma zmc] := hD
  refine lv_iload_n hx hb dX7_wipe_10 rfl (lv_at hl 0 rfl) ?_
  refine hret hP hD hS dX7_wipe_11 rfl rfl ?_
  exact ⟨rfl, rfl⟩
set_option maxHeartbeats 4000000 in
set_option maxRecDepth 100000 in
theorem k_X7_forget {l : Launch} {D : va_G} {cI cC cB : ClassId} {h : Nat} {q : Nat → Nat} {zmu zmk zmz zms zma zmc : Nat}  : MI l yX7_forget cX7_forget 2 (some .int) 1 D (Ty3 cI cC cB) [.ref h] [mO h q zmu zmk zmz zms zma zmc] (fun r u => (r = nI (zms) ∧ u = [mO h q zmu zmk zmz 0 zma zmc])) := by
  intro sz
  refine MI.walk (by decide +kernel) (Nat.le_of_ble_eq_true rfl) ?_
  intro p e s m args below meth c A Qf hx hb hml hts hown hret hK hP hD hS hA ls hl
  have hown : s.vm.findClass RX7 = some m.cls := hown
  have hl : lv_has ls 2 [(0, .ref h)] := hl
  have hP : va_P D vwCl [mO h q zmu zmk zmz zms zma zmc] s.heap := hP
  have hD : va_D A [mO h q zmu zmk zmz zms zma zmc] := hD
  refine lv_aload_n hx hb dX7_forget_0 rfl (lv_at hl 0 rfl) ?_
  refine gf_7_114 hx hb hts hown hK hP 0 rfl rfl dX7_forget_1 ?_
  refine lv_istore_n (lv' := [(1, .int (nI (zms))), (0, .ref h)]) hx hb dX7_forget_4 rfl hl (by decide) rfl (fun ls hl => ?_)
  refine lv_aload_n hx hb dX7_forget_5 rfl (lv_at hl 1 rfl) ?_
  refine lv_iconst (v := nI 0) hx hb dX7_forget_6 (by decide) ?_
  refine pf_7_114 hx hb hts hown hK hP hD hS 0 rfl (Nat.le_of_ble_eq_true rfl) dX7_forget_7 (fun H locs hP hD hS => ?_)
  have hP : va_P D vwCl [mO h q zmu zmk zmz 0 zma zmc] _ := hP
  have hD : va_D A [mO h q zmu zmk zmz 0 zma zmc] := hD
  refine lv_iload_n hx hb dX7_forget_10 rfl (lv_at hl 0 rfl) ?_
  refine hret hP hD hS dX7_forget_11 rfl rfl ?_
  exact ⟨rfl, rfl⟩
set_option maxHeartbeats 4000000 in
set_option maxRecDepth 100000 in
theorem k_X7_write {l : Launch} {D : va_G} {cI cC cB : ClassId} {h : Nat} {q : Nat → Nat} {zmu zmk zmz zms zma zmc : Nat} {tx : Nat → Nat} {x : Int32} (hz : zmz ≤ 200) : MI l yX7_write cX7_write 2 (some .int) 1 D (Ty3 cI cC cB) [.ref h, .int (x)] [mO h q zmu zmk zmz zms zma zmc, (q 5, .inl (cI, 200, .inl (fun z_ => nI (tx z_))))] (fun r u => (r = wrA x zmz ∧ u = [mO h q zmu zmk (wrZ x zmz) zms zma zmc, (q 5, .inl (cI, 200, .inl (fun z_ => nI ((wrT x tx zmz) z_))))])) := by
  intro sz
  refine MI.walk (by decide +kernel) (Nat.le_of_ble_eq_true rfl) ?_
  intro p e s m args below meth c A Qf hx hb hml hts hown hret hK hP hD hS hA ls hl
  have hown : s.vm.findClass RX7 = some m.cls := hown
  have hl : lv_has ls 2 [(0, .ref h), (1, .int (x))] := hl
  have hP : va_P D vwCl [mO h q zmu zmk zmz zms zma zmc, (q 5, .inl (cI, 200, .inl (fun z_ => nI (tx z_))))] s.heap := hP
  have hD : va_D A [mO h q zmu zmk zmz zms zma zmc, (q 5, .inl (cI, 200, .inl (fun z_ => nI (tx z_))))] := hD
  refine lv_iload_n hx hb dX7_write_0 rfl (lv_at hl 1 rfl) ?_
  refine lv_i2l (v := (x).toInt64) hx hb dX7_write_1 rfl ?_
  refine lv_ldc2 (v := lN 32) hx hb hown (hts _ tw_805) dX7_write_2 ?_
  refine lv_ldc2 (v := lN 126) hx hb hown (hts _ tw_806) dX7_write_5 ?_
  refine cl_7_67 (As := [.long ((x).toInt64), .long (lN (32)), .long (lN (126))]) (rest := []) hx hb hml hts hown (k_X7_in ) (by decide) ⟨Nat.zero_le _, Nat.zero_le _⟩ hK hP hD hS hA [] rfl (by decide) rfl hl.1 rfl (Nat.le_of_ble_eq_true rfl) dX7_write_8 (fun r_1 u H locs hp_2 hP hD hS => ?_)
  obtain ⟨rfl, rfl⟩ := hp_2
  have hP : va_P D vwCl [mO h q zmu zmk zmz zms zma zmc, (q 5, .inl (cI, 200, .inl (fun z_ => nI (tx z_))))] _ := hP
  have hD : va_D A [mO h q zmu zmk zmz zms zma zmc, (q 5, .inl (cI, 200, .inl (fun z_ => nI (tx z_))))] := hD
  refine n_ifb_ne (tgt := 16) hx hb dX7_write_11 (by decide) (fun c_3 => ?_) (fun c_3 => ?_)
  · -- 11 to 16
    have hv_q := (inR_l x 32 126 (by omega) (by omega)).trans c_3
    obtain ⟨j, hj1, hj2, rfl⟩ := inR_e (by omega) hv_q
    refine lv_aload_n hx hb dX7_write_16 rfl (lv_at hl 0 rfl) ?_
    refine gf_7_75 hx hb hts hown hK hP 0 rfl rfl dX7_write_17 ?_
    refine lv_sipush (v := nI 200) hx hb dX7_write_20 (by decide) ?_
    refine n_icmp_ne (tgt := 29) hx hb dX7_write_23 (by decide) (by omega) (by decide) (fun c_4 => ?_) (fun c_4 => ?_)
    · -- 23 to 29
      have ho_q : wrOk (nI j) zmz = true := wr_1 hv_q c_4
      refine lv_aload_n hx hb dX7_write_29 rfl (lv_at hl 0 rfl) ?_
      refine gf_7_25 hx hb hts hown hK hP 0 rfl rfl dX7_write_30 ?_
      refine lv_aload_n hx hb dX7_write_33 rfl (lv_at hl 0 rfl) ?_
      refine gf_7_75 hx hb hts hown hK hP 0 rfl rfl dX7_write_34 ?_
      refine lv_iload_n hx hb dX7_write_37 rfl (lv_at hl 1 rfl) ?_
      refine n_iast hx hb hK hP hD hS 1 0 rfl rfl dX7_write_38 (by decide) (by omega) (fun H locs hP hD hS => ?_)
      have hP : va_P D vwCl [mO h q zmu zmk zmz zms zma zmc, (q 5, .inl (cI, 200, .inl (fun z_ => nI ((up1 tx zmz j) z_))))] _ := hP
      have hD : va_D A [mO h q zmu zmk zmz zms zma zmc, (q 5, .inl (cI, 200, .inl (fun z_ => nI ((up1 tx zmz j) z_))))] := hD
      refine lv_aload_n hx hb dX7_write_39 rfl (lv_at hl 0 rfl) ?_
      refine lv_dup hx hb dX7_write_40 rfl ?_
      refine gf_7_75 hx hb hts hown hK hP 0 rfl rfl dX7_write_41 ?_
      refine lv_iconst (v := nI 1) hx hb dX7_write_44 (by decide) ?_
      refine n_iadd hx hb dX7_write_45  ?_
      refine pf_7_75 hx hb hts hown hK hP hD hS 0 rfl (Nat.le_of_ble_eq_true rfl) dX7_write_46 (fun H locs hP hD hS => ?_)
      have hP : va_P D vwCl [mO h q zmu zmk (zmz + 1) zms zma zmc, (q 5, .inl (cI, 200, .inl (fun z_ => nI ((up1 tx zmz j) z_))))] _ := hP
      have hD : va_D A [mO h q zmu zmk (zmz + 1) zms zma zmc, (q 5, .inl (cI, 200, .inl (fun z_ => nI ((up1 tx zmz j) z_))))] := hD
      refine lv_aload_n hx hb dX7_write_49 rfl (lv_at hl 0 rfl) ?_
      refine gf_7_75 hx hb hts hown hK hP 0 rfl rfl dX7_write_50 ?_
      refine hret hP hD hS dX7_write_53 rfl rfl ?_
      refine ⟨wrA_t hv_q ho_q, ?_⟩
      rw [wrZ_1 ho_q, wrT_1 (by omega) ho_q]
    · -- 23 to 26
      have ho_q : wrOk (nI j) zmz = false := wr_2 c_4
      refine lv_bipush (v := (-3)) hx hb dX7_write_26 (by decide) ?_
      refine hret hP hD hS dX7_write_28 rfl rfl ?_
      refine ⟨wrA_f hv_q ho_q, ?_⟩
      rw [wrZ_0 ho_q, wrT_0 ho_q]
  · -- 11 to 14
    have hv_q := (inR_l x 32 126 (by omega) (by omega)).trans c_3
    refine lv_iconst (v := (-1)) hx hb dX7_write_14 (by decide) ?_
    refine hret hP hD hS dX7_write_15 rfl rfl ?_
    refine ⟨wrA_e hv_q, ?_⟩
    rw [wrZ_0 (wr_3 hv_q), wrT_0 (wr_3 hv_q)]
set_option maxHeartbeats 4000000 in
set_option maxRecDepth 100000 in
theorem k_X7_behind {l : Launch} {D : va_G} {cI cC cB : ClassId} {h : Nat} {q : Nat → Nat} {zmu zmk zmz zms zma zmc : Nat} {bx : Nat → Nat} {i a n : Nat} (hB : BxOk bx) (hi : i < bx 0) (ha : a ≤ 6) (hn : n ≤ 10000) : MI l yX7_behind cX7_behind 4 (some .int) 0 D (Ty3 cI cC cB) [.ref h, .int (nI (i)), .int (nI (a)), .int (nI (n))] [mO h q zmu zmk zmz zms zma zmc, (q 0, .inl (cI, 54, .inl (fun z_ => nI (bx z_))))] (fun r u => (r = nI (behN bx i a n) ∧ u = [mO h q zmu zmk zmz zms zma zmc, (q 0, .inl (cI, 54, .inl (fun z_ => nI (bx z_))))])) := by
  intro sz
  refine MI.walk (by decide +kernel) (Nat.le_of_ble_eq_true rfl) ?_
  intro p e s m args below meth c A Qf hx hb hml hts hown hret hK hP hD hS hA ls hl
  have hown : s.vm.findClass RX7 = some m.cls := hown
  have hl : lv_has ls 4 [(0, .ref h), (1, .int (nI (i))), (2, .int (nI (a))), (3, .int (nI (n)))] := hl
  have hP : va_P D vwCl [mO h q zmu zmk zmz zms zma zmc, (q 0, .inl (cI, 54, .inl (fun z_ => nI (bx z_))))] s.heap := hP
  have hD : va_D A [mO h q zmu zmk zmz zms zma zmc, (q 0, .inl (cI, 54, .inl (fun z_ => nI (bx z_))))] := hD
  have hw := hB.w
  have ht := hB.t i hi
  refine lv_aload_n hx hb dX7_behind_0 rfl (lv_at hl 0 rfl) ?_
  refine gf_7_7 hx hb hts hown hK hP 0 rfl rfl dX7_behind_1 ?_
  refine lv_bipush (v := nI 13) hx hb dX7_behind_4 (by decide) ?_
  refine lv_iload_n hx hb dX7_behind_6 rfl (lv_at hl 1 rfl) ?_
  refine n_iadd hx hb dX7_behind_7  ?_
  refine n_iald hx hb hK hP 1 0 rfl rfl dX7_behind_8 (by decide) (by omega) ?_
  have hb_1 := hB.bd (13 + i)
  refine lv_iload_n hx hb dX7_behind_9 rfl (lv_at hl 2 rfl) ?_
  refine lv_iload_n hx hb dX7_behind_10 rfl (lv_at hl 3 rfl) ?_
  refine n_imul hx hb dX7_behind_11  ?_
  refine n_iadd hx hb dX7_behind_12  ?_
  refine lv_aload_n hx hb dX7_behind_13 rfl (lv_at hl 0 rfl) ?_
  refine gf_7_7 hx hb hts hown hK hP 0 rfl rfl dX7_behind_14 ?_
  refine lv_iconst (v := nI 5) hx hb dX7_behind_17 (by decide) ?_
  refine lv_iload_n hx hb dX7_behind_18 rfl (lv_at hl 1 rfl) ?_
  refine n_iadd hx hb dX7_behind_19  ?_
  refine n_iald hx hb hK hP 1 0 rfl rfl dX7_behind_20 (by decide) (by omega) ?_
  have hb_2 := hB.bd (5 + i)
  have hm := Nat.mul_le_mul ha hn
  refine n_irem hx hb dX7_behind_21 (by omega) (by omega) (by omega) ?_
  refine hret hP hD hS dX7_behind_22 rfl rfl ?_
  exact ⟨rfl, rfl⟩
set_option maxHeartbeats 4000000 in
set_option maxRecDepth 100000 in
theorem k_X7_gearsOf {l : Launch} {D : va_G} {cI cC cB : ClassId} {h : Nat} {q : Nat → Nat} {zmu zmk zmz zms zma zmc : Nat} {bx sh : Nat → Nat} {i : Nat} (hB : BxOk bx) (hi : i < bx 0) (hsh : ∀ j, sh j < 100) (hs8 : zms ≤ 8) : MI l yX7_gearsOf cX7_gearsOf 6 (some .int) 1 D (Ty3 cI cC cB) [.ref h, .int (nI (i))] [mO h q zmu zmk zmz zms zma zmc, (q 0, .inl (cI, 54, .inl (fun z_ => nI (bx z_)))), (q 6, .inl (cI, 24, .inl (fun z_ => nI (sh z_))))] (fun r u => (r = nI (geN bx sh i zms (bx (5 + i))) ∧ u = [mO h q zmu zmk zmz zms zma zmc, (q 0, .inl (cI, 54, .inl (fun z_ => nI (bx z_)))), (q 6, .inl (cI, 24, .inl (fun z_ => nI (sh z_))))])) := by
  intro sz
  refine MI.walk (by decide +kernel) (Nat.le_of_ble_eq_true rfl) ?_
  intro p e s m args below meth c A Qf hx hb hml hts hown hret hK hP hD hS hA ls hl
  have hown : s.vm.findClass RX7 = some m.cls := hown
  have hl : lv_has ls 6 [(0, .ref h), (1, .int (nI (i)))] := hl
  have hP : va_P D vwCl [mO h q zmu zmk zmz zms zma zmc, (q 0, .inl (cI, 54, .inl (fun z_ => nI (bx z_)))), (q 6, .inl (cI, 24, .inl (fun z_ => nI (sh z_))))] s.heap := hP
  have hD : va_D A [mO h q zmu zmk zmz zms zma zmc, (q 0, .inl (cI, 54, .inl (fun z_ => nI (bx z_)))), (q 6, .inl (cI, 24, .inl (fun z_ => nI (sh z_))))] := hD
  have hw := hB.w
  have ht := hB.t i hi
  refine lv_iconst (v := nI 0) hx hb dX7_gearsOf_0 (by decide) ?_
  refine lv_istore_n (lv' := [(2, .int (nI (0))), (0, .ref h), (1, .int (nI (i)))]) hx hb dX7_gearsOf_1 rfl hl (by decide) rfl (fun ls hl => ?_)
  refine lv_iconst (v := nI 0) hx hb dX7_gearsOf_2 (by decide) ?_
  refine lv_istore_n (lv' := [(3, .int (nI (0))), (2, .int (nI (0))), (0, .ref h), (1, .int (nI (i)))]) hx hb dX7_gearsOf_3 rfl hl (by decide) rfl (fun ls hl => ?_)
  have loop_4 : ∀ (N : Nat) (v : Nat) (a : Nat), (a ≤ bx (5 + i)) → (v = geN bx sh i zms a) → (bx (5 + i) - a) < N → ∀ (H : Heap) (locs : List Loc), va_P D vwCl [mO h q zmu zmk zmz zms zma zmc, (q 0, .inl (cI, 54, .inl (fun z_ => nI (bx z_)))), (q 6, .inl (cI, 24, .inl (fun z_ => nI (sh z_))))] H → va_D A [mO h q zmu zmk zmz zms zma zmc, (q 0, .inl (cI, 54, .inl (fun z_ => nI (bx z_)))), (q 6, .inl (cI, 24, .inl (fun z_ => nI (sh z_))))] → va_S A s.heap H locs → ∀ ls : Array Slot, lv_has ls 6 [(3, .int (nI (a))), (2, .int (nI (v))), (0, .ref h), (1, .int (nI (i)))] → W p l e (rmL 1) s m args below meth c H locs 0 0 Qf (F0 m 4 ls []) := by
    intro N; induction N with
    | zero => intro v a _ _ hm; omega
    | succ N ih_4 =>
      intro v a ha hv hm H locs hP hD hS ls hl
      refine lv_iload_n hx hb dX7_gearsOf_4 rfl (lv_at hl 0 rfl) ?_
      refine lv_aload_n hx hb dX7_gearsOf_5 rfl (lv_at hl 2 rfl) ?_
      refine gf_7_7 hx hb hts hown hK hP 0 rfl rfl dX7_gearsOf_6 ?_
      refine lv_iconst (v := nI 5) hx hb dX7_gearsOf_9 (by decide) ?_
      refine lv_iload_n hx hb dX7_gearsOf_10 rfl (lv_at hl 3 rfl) ?_
      refine n_iadd hx hb dX7_gearsOf_11  ?_
      refine n_iald hx hb hK hP 1 0 rfl rfl dX7_gearsOf_12 (by decide) (by omega) ?_
      have hb_1 := hB.bd (5 + i)
      refine n_icmp_ge (tgt := 114) hx hb dX7_gearsOf_13 (by decide) (by omega) (by omega) (fun c_2 => ?_) (fun c_2 => ?_)
      · -- 13 to 114
        refine lv_iload_n hx hb dX7_gearsOf_114 rfl (lv_at hl 1 rfl) ?_
        refine hret hP hD hS dX7_gearsOf_115 rfl rfl ?_
        exact ⟨by rw [hv, show a = bx (5 + i) by omega], rfl⟩
      · -- 13 to 16
        refine lv_iconst (v := nI 1) hx hb dX7_gearsOf_16 (by decide) ?_
        refine lv_istore (lv' := [(4, .int (nI (1))), (3, .int (nI (a))), (2, .int (nI (v))), (0, .ref h), (1, .int (nI (i)))]) hx hb dX7_gearsOf_17 hl (by decide) rfl (fun ls hl => ?_)
        refine lv_iconst (v := nI 0) hx hb dX7_gearsOf_19 (by decide) ?_
        refine lv_istore (lv' := [(5, .int (nI (0))), (4, .int (nI (1))), (3, .int (nI (a))), (2, .int (nI (v))), (0, .ref h), (1, .int (nI (i)))]) hx hb dX7_gearsOf_20 hl (by decide) rfl (fun ls hl => ?_)
        have loop_22 : ∀ (N : Nat) (z : Nat) (k : Nat), (k ≤ zms) → (z = b2n (fiN bx sh i a k)) → (zms - k) < N → ∀ (H : Heap) (locs : List Loc), va_P D vwCl [mO h q zmu zmk zmz zms zma zmc, (q 0, .inl (cI, 54, .inl (fun z_ => nI (bx z_)))), (q 6, .inl (cI, 24, .inl (fun z_ => nI (sh z_))))] H → va_D A [mO h q zmu zmk zmz zms zma zmc, (q 0, .inl (cI, 54, .inl (fun z_ => nI (bx z_)))), (q 6, .inl (cI, 24, .inl (fun z_ => nI (sh z_))))] → va_S A s.heap H locs → ∀ ls : Array Slot, lv_has ls 6 [(5, .int (nI (k))), (4, .int (nI (z))), (3, .int (nI (a))), (2, .int (nI (v))), (0, .ref h), (1, .int (nI (i)))] → W p l e (rmL 1) s m args below meth c H locs 0 0 Qf (F0 m 22 ls []) := by
          intro N; induction N with
          | zero => intro z k _ _ hm; omega
          | succ N ih_22 =>
            intro z k hk hz hm H locs hP hD hS ls hl
            have hz1 : z ≤ 1 := by rw [hz]; exact b2n_le _
            refine lv_iload hx hb dX7_gearsOf_22 (lv_at hl 0 rfl) ?_
            refine lv_aload_n hx hb dX7_gearsOf_24 rfl (lv_at hl 4 rfl) ?_
            refine gf_7_114 hx hb hts hown hK hP 0 rfl rfl dX7_gearsOf_25 ?_
            refine n_icmp_ge (tgt := 93) hx hb dX7_gearsOf_28 (by decide) (by omega) (by omega) (fun c_3 => ?_) (fun c_3 => ?_)
            · -- 28 to 93
              refine lv_iload_n hx hb dX7_gearsOf_93 rfl (lv_at hl 3 rfl) ?_
              refine lv_iload hx hb dX7_gearsOf_94 (lv_at hl 1 rfl) ?_
              refine n_if_eq (tgt := 105) hx hb dX7_gearsOf_96 (by decide) (by omega) (fun c_4 => ?_) (fun c_4 => ?_)
              · -- 96 to 105
                refine lv_iconst (v := nI 0) hx hb dX7_gearsOf_105 (by decide) ?_
                refine n_ior hx hb dX7_gearsOf_106  ?_
                refine lv_istore_n (lv' := [(2, .int (nI (v ||| 0))), (5, .int (nI (k))), (4, .int (nI (z))), (3, .int (nI (a))), (0, .ref h), (1, .int (nI (i)))]) hx hb dX7_gearsOf_107 rfl hl (by decide) rfl (fun ls hl => ?_)
                refine lv_iinc (v := nI (a + 1)) (lv' := [(3, .int (nI (a + 1))), (2, .int (nI (v ||| 0))), (5, .int (nI (k))), (4, .int (nI (z))), (0, .ref h), (1, .int (nI (i)))]) hx hb dX7_gearsOf_108 hl (k := 3) rfl (n_inc _ 1) (by decide) rfl (fun ls hl => ?_)
                refine lv_goto (tgt := 4) hx hb dX7_gearsOf_111 (by decide) ?_
                exact ih_4 (v ||| 0) (a + 1) (by omega) (by rw [hv]; first | exact ge_1 hz (by omega) (by assumption) | exact ge_0 hz (by omega) (by assumption)) (by omega) _ _ hP hD hS _ (lv_sub hl [0, 1, 4, 5] rfl)
              · -- 96 to 99
                refine lv_iconst (v := nI 1) hx hb dX7_gearsOf_99 (by decide) ?_
                refine lv_iload_n hx hb dX7_gearsOf_100 rfl (lv_at hl 2 rfl) ?_
                refine n_ishl hx hb dX7_gearsOf_101 (by omega) ?_
                refine lv_goto (tgt := 106) hx hb dX7_gearsOf_102 (by decide) ?_
                refine n_ior hx hb dX7_gearsOf_106  ?_
                refine lv_istore_n (lv' := [(2, .int (nI (v ||| (1 * 2 ^ a)))), (5, .int (nI (k))), (4, .int (nI (z))), (3, .int (nI (a))), (0, .ref h), (1, .int (nI (i)))]) hx hb dX7_gearsOf_107 rfl hl (by decide) rfl (fun ls hl => ?_)
                refine lv_iinc (v := nI (a + 1)) (lv' := [(3, .int (nI (a + 1))), (2, .int (nI (v ||| (1 * 2 ^ a)))), (5, .int (nI (k))), (4, .int (nI (z))), (0, .ref h), (1, .int (nI (i)))]) hx hb dX7_gearsOf_108 hl (k := 3) rfl (n_inc _ 1) (by decide) rfl (fun ls hl => ?_)
                refine lv_goto (tgt := 4) hx hb dX7_gearsOf_111 (by decide) ?_
                exact ih_4 (v ||| (1 * 2 ^ a)) (a + 1) (by omega) (by rw [hv]; first | exact ge_1 hz (by omega) (by assumption) | exact ge_0 hz (by omega) (by assumption)) (by omega) _ _ hP hD hS _ (lv_sub hl [0, 1, 4, 5] rfl)
            · -- 28 to 31
              refine lv_iload hx hb dX7_gearsOf_31 (lv_at hl 1 rfl) ?_
              refine n_if_eq (tgt := 84) hx hb dX7_gearsOf_33 (by decide) (by omega) (fun c_5 => ?_) (fun c_5 => ?_)
              · -- 33 to 84
                refine lv_iconst (v := nI 0) hx hb dX7_gearsOf_84 (by decide) ?_
                refine lv_istore (lv' := [(4, .int (nI (0))), (5, .int (nI (k))), (3, .int (nI (a))), (2, .int (nI (v))), (0, .ref h), (1, .int (nI (i)))]) hx hb dX7_gearsOf_85 hl (by decide) rfl (fun ls hl => ?_)
                refine lv_iinc (v := nI (k + 1)) (lv' := [(5, .int (nI (k + 1))), (4, .int (nI (0))), (3, .int (nI (a))), (2, .int (nI (v))), (0, .ref h), (1, .int (nI (i)))]) hx hb dX7_gearsOf_87 hl (k := 1) rfl (n_inc _ 1) (by decide) rfl (fun ls hl => ?_)
                refine lv_goto (tgt := 22) hx hb dX7_gearsOf_90 (by decide) ?_
                exact ih_22 0 (k + 1) (by omega) (by first | exact z_a0 hz (by assumption) | exact z_a2 hz (by assumption) (by first | exact fi_1 (by assumption) | exact fi_2 (by assumption)) | exact z_a1 (fi_3 (by assumption) (by assumption))) (by omega) _ _ hP hD hS _ (lv_sub hl [0, 1, 2, 3, 4, 5] rfl)
              · -- 33 to 36
                refine lv_aload_n hx hb dX7_gearsOf_36 rfl (lv_at hl 4 rfl) ?_
                refine gf_7_28 hx hb hts hown hK hP 0 rfl rfl dX7_gearsOf_37 ?_
                refine lv_iconst (v := nI 3) hx hb dX7_gearsOf_40 (by decide) ?_
                refine lv_iload hx hb dX7_gearsOf_41 (lv_at hl 0 rfl) ?_
                refine n_imul hx hb dX7_gearsOf_43  ?_
                refine n_iald hx hb hK hP 2 0 rfl rfl dX7_gearsOf_44 (by decide) (by omega) ?_
                have hb_6 := hsh (3 * k)
                refine lv_iload_n hx hb dX7_gearsOf_45 rfl (lv_at hl 5 rfl) ?_
                refine n_icmp_ne (tgt := 80) hx hb dX7_gearsOf_46 (by decide) (by omega) (by omega) (fun c_7 => ?_) (fun c_7 => ?_)
                · -- 46 to 80
                  refine lv_iconst (v := nI 1) hx hb dX7_gearsOf_80 (by decide) ?_
                  refine lv_goto (tgt := 85) hx hb dX7_gearsOf_81 (by decide) ?_
                  refine lv_istore (lv' := [(4, .int (nI (1))), (5, .int (nI (k))), (3, .int (nI (a))), (2, .int (nI (v))), (0, .ref h), (1, .int (nI (i)))]) hx hb dX7_gearsOf_85 hl (by decide) rfl (fun ls hl => ?_)
                  refine lv_iinc (v := nI (k + 1)) (lv' := [(5, .int (nI (k + 1))), (4, .int (nI (1))), (3, .int (nI (a))), (2, .int (nI (v))), (0, .ref h), (1, .int (nI (i)))]) hx hb dX7_gearsOf_87 hl (k := 1) rfl (n_inc _ 1) (by decide) rfl (fun ls hl => ?_)
                  refine lv_goto (tgt := 22) hx hb dX7_gearsOf_90 (by decide) ?_
                  exact ih_22 1 (k + 1) (by omega) (by first | exact z_a0 hz (by assumption) | exact z_a2 hz (by assumption) (by first | exact fi_1 (by assumption) | exact fi_2 (by assumption)) | exact z_a1 (fi_3 (by assumption) (by assumption))) (by omega) _ _ hP hD hS _ (lv_sub hl [0, 1, 2, 3, 4, 5] rfl)
                · -- 46 to 49
                  refine lv_aload_n hx hb dX7_gearsOf_49 rfl (lv_at hl 4 rfl) ?_
                  refine lv_iload_n hx hb dX7_gearsOf_50 rfl (lv_at hl 5 rfl) ?_
                  refine lv_iload_n hx hb dX7_gearsOf_51 rfl (lv_at hl 2 rfl) ?_
                  refine lv_aload_n hx hb dX7_gearsOf_52 rfl (lv_at hl 4 rfl) ?_
                  refine gf_7_28 hx hb hts hown hK hP 0 rfl rfl dX7_gearsOf_53 ?_
                  refine lv_iconst (v := nI 3) hx hb dX7_gearsOf_56 (by decide) ?_
                  refine lv_iload hx hb dX7_gearsOf_57 (lv_at hl 0 rfl) ?_
                  refine n_imul hx hb dX7_gearsOf_59  ?_
                  refine lv_iconst (v := nI 1) hx hb dX7_gearsOf_60 (by decide) ?_
                  refine n_iadd hx hb dX7_gearsOf_61  ?_
                  refine n_iald hx hb hK hP 2 0 rfl rfl dX7_gearsOf_62 (by decide) (by omega) ?_
                  have hb_8 := hsh ((3 * k) + 1)
                  refine cl_7_236 (As := [.int (nI (i)), .int (nI (a)), .int (nI (sh ((3 * k) + 1)))]) (rest := []) hx hb hml hts hown (k_X7_behind (by first | assumption | omega) (by first | assumption | omega) (by first | assumption | omega) (by first | assumption | omega)) (by decide) ⟨Nat.zero_le _, Nat.zero_le _⟩ hK hP hD hS hA 0 rfl [0, 1] rfl (by decide) rfl hl.1 rfl (Nat.le_of_ble_eq_true rfl) dX7_gearsOf_63 (fun r_9 u H locs hp_10 hP hD hS => ?_)
                  obtain ⟨rfl, rfl⟩ := hp_10
                  have hP : va_P D vwCl [mO h q zmu zmk zmz zms zma zmc, (q 0, .inl (cI, 54, .inl (fun z_ => nI (bx z_)))), (q 6, .inl (cI, 24, .inl (fun z_ => nI (sh z_))))] _ := hP
                  have hD : va_D A [mO h q zmu zmk zmz zms zma zmc, (q 0, .inl (cI, 54, .inl (fun z_ => nI (bx z_)))), (q 6, .inl (cI, 24, .inl (fun z_ => nI (sh z_))))] := hD
                  refine lv_aload_n hx hb dX7_gearsOf_66 rfl (lv_at hl 4 rfl) ?_
                  refine gf_7_28 hx hb hts hown hK hP 0 rfl rfl dX7_gearsOf_67 ?_
                  refine lv_iconst (v := nI 3) hx hb dX7_gearsOf_70 (by decide) ?_
                  refine lv_iload hx hb dX7_gearsOf_71 (lv_at hl 0 rfl) ?_
                  refine n_imul hx hb dX7_gearsOf_73  ?_
                  refine lv_iconst (v := nI 2) hx hb dX7_gearsOf_74 (by decide) ?_
                  refine n_iadd hx hb dX7_gearsOf_75  ?_
                  have hbe := beh_lt bx i a (sh (3 * k + 1)) (show 0 < bx (5 + i) by omega)
                  refine n_iald hx hb hK hP 2 0 rfl rfl dX7_gearsOf_76 (by decide) (by omega) ?_
                  have hb_11 := hsh ((3 * k) + 2)
                  refine n_icmp_ne (tgt := 84) hx hb dX7_gearsOf_77 (by decide) (by omega) (by omega) (fun c_12 => ?_) (fun c_12 => ?_)
                  · -- 77 to 84
                    refine lv_iconst (v := nI 0) hx hb dX7_gearsOf_84 (by decide) ?_
                    refine lv_istore (lv' := [(4, .int (nI (0))), (5, .int (nI (k))), (3, .int (nI (a))), (2, .int (nI (v))), (0, .ref h), (1, .int (nI (i)))]) hx hb dX7_gearsOf_85 hl (by decide) rfl (fun ls hl => ?_)
                    refine lv_iinc (v := nI (k + 1)) (lv' := [(5, .int (nI (k + 1))), (4, .int (nI (0))), (3, .int (nI (a))), (2, .int (nI (v))), (0, .ref h), (1, .int (nI (i)))]) hx hb dX7_gearsOf_87 hl (k := 1) rfl (n_inc _ 1) (by decide) rfl (fun ls hl => ?_)
                    refine lv_goto (tgt := 22) hx hb dX7_gearsOf_90 (by decide) ?_
                    exact ih_22 0 (k + 1) (by omega) (by first | exact z_a0 hz (by assumption) | exact z_a2 hz (by assumption) (by first | exact fi_1 (by assumption) | exact fi_2 (by assumption)) | exact z_a1 (fi_3 (by assumption) (by assumption))) (by omega) _ _ hP hD hS _ (lv_sub hl [0, 1, 2, 3, 4, 5] rfl)
                  · -- 77 to 80
                    refine lv_iconst (v := nI 1) hx hb dX7_gearsOf_80 (by decide) ?_
                    refine lv_goto (tgt := 85) hx hb dX7_gearsOf_81 (by decide) ?_
                    refine lv_istore (lv' := [(4, .int (nI (1))), (5, .int (nI (k))), (3, .int (nI (a))), (2, .int (nI (v))), (0, .ref h), (1, .int (nI (i)))]) hx hb dX7_gearsOf_85 hl (by decide) rfl (fun ls hl => ?_)
                    refine lv_iinc (v := nI (k + 1)) (lv' := [(5, .int (nI (k + 1))), (4, .int (nI (1))), (3, .int (nI (a))), (2, .int (nI (v))), (0, .ref h), (1, .int (nI (i)))]) hx hb dX7_gearsOf_87 hl (k := 1) rfl (n_inc _ 1) (by decide) rfl (fun ls hl => ?_)
                    refine lv_goto (tgt := 22) hx hb dX7_gearsOf_90 (by decide) ?_
                    exact ih_22 1 (k + 1) (by omega) (by first | exact z_a0 hz (by assumption) | exact z_a2 hz (by assumption) (by first | exact fi_1 (by assumption) | exact fi_2 (by assumption)) | exact z_a1 (fi_3 (by assumption) (by assumption))) (by omega) _ _ hP hD hS _ (lv_sub hl [0, 1, 2, 3, 4, 5] rfl)
        exact loop_22 _ 1 0 (by omega) rfl (Nat.lt_succ_self _) _ _ hP hD hS _ (lv_sub hl [0, 1, 2, 3, 4, 5] rfl)
  exact loop_4 _ 0 0 (by omega) rfl (Nat.lt_succ_self _) _ _ hP hD hS _ (lv_sub hl [0, 1, 2, 3] rfl)
set_option maxHeartbeats 4000000 in
set_option maxRecDepth 100000 in
theorem k_X7_gears {l : Launch} {D : va_G} {cI cC cB : ClassId} {h : Nat} {q : Nat → Nat} {zmu zmk zmz zms zma zmc : Nat} {bx sh : Nat → Nat} {x : Int32} (hB : BxOk bx) (hsh : ∀ j, sh j < 100) (hs8 : zms ≤ 8) : MI l yX7_gears cX7_gears 2 (some .int) 2 D (Ty3 cI cC cB) [.ref h, .int (x)] [mO h q zmu zmk zmz zms zma zmc, (q 0, .inl (cI, 54, .inl (fun z_ => nI (bx z_)))), (q 6, .inl (cI, 24, .inl (fun z_ => nI (sh z_))))] (fun r u => (r = gesA bx sh zms x ∧ u = [mO h q zmu zmk zmz zms zma zmc, (q 0, .inl (cI, 54, .inl (fun z_ => nI (bx z_)))), (q 6, .inl (cI, 24, .inl (fun z_ => nI (sh z_))))])) := by
  intro sz
  refine MI.walk (by decide +kernel) (Nat.le_of_ble_eq_true rfl) ?_
  intro p e s m args below meth c A Qf hx hb hml hts hown hret hK hP hD hS hA ls hl
  have hown : s.vm.findClass RX7 = some m.cls := hown
  have hl : lv_has ls 2 [(0, .ref h), (1, .int (x))] := hl
  have hP : va_P D vwCl [mO h q zmu zmk zmz zms zma zmc, (q 0, .inl (cI, 54, .inl (fun z_ => nI (bx z_)))), (q 6, .inl (cI, 24, .inl (fun z_ => nI (sh z_))))] s.heap := hP
  have hD : va_D A [mO h q zmu zmk zmz zms zma zmc, (q 0, .inl (cI, 54, .inl (fun z_ => nI (bx z_)))), (q 6, .inl (cI, 24, .inl (fun z_ => nI (sh z_))))] := hD
  refine lv_aload_n hx hb dX7_gears_0 rfl (lv_at hl 0 rfl) ?_
  refine lv_iload_n hx hb dX7_gears_1 rfl (lv_at hl 1 rfl) ?_
  refine cl_7_127 (As := [.int (x)]) (rest := []) hx hb hml hts hown (k_X7_isWheel (by first | assumption | omega)) (by decide) ⟨Nat.zero_le _, Nat.zero_le _⟩ hK hP hD hS hA 0 rfl [0, 1] rfl (by decide) rfl hl.1 rfl (Nat.le_of_ble_eq_true rfl) dX7_gears_2 (fun r_1 u H locs hp_2 hP hD hS => ?_)
  obtain ⟨rfl, rfl⟩ := hp_2
  have hP : va_P D vwCl [mO h q zmu zmk zmz zms zma zmc, (q 0, .inl (cI, 54, .inl (fun z_ => nI (bx z_)))), (q 6, .inl (cI, 24, .inl (fun z_ => nI (sh z_))))] _ := hP
  have hD : va_D A [mO h q zmu zmk zmz zms zma zmc, (q 0, .inl (cI, 54, .inl (fun z_ => nI (bx z_)))), (q 6, .inl (cI, 24, .inl (fun z_ => nI (sh z_))))] := hD
  refine n_ifb_eq (tgt := 16) hx hb dX7_gears_5 (by decide) (fun c_3 => ?_) (fun c_3 => ?_)
  · -- 5 to 16
    refine lv_iconst (v := (-1)) hx hb dX7_gears_16 (by decide) ?_
    refine hret hP hD hS dX7_gears_17 rfl rfl ?_
    exact ⟨by first | exact ges_t (by have := hB.w; omega) (by assumption) | exact ges_f (by assumption), rfl⟩
  · -- 5 to 8
    obtain ⟨j, hj, rfl⟩ := inN_e (by have := hB.bd 0; omega) c_3
    refine lv_aload_n hx hb dX7_gears_8 rfl (lv_at hl 0 rfl) ?_
    refine lv_iload_n hx hb dX7_gears_9 rfl (lv_at hl 1 rfl) ?_
    refine cl_7_240 (As := [.int (nI (j))]) (rest := []) hx hb hml hts hown (k_X7_gearsOf (by first | assumption | omega) (by first | assumption | omega) (by first | assumption | omega) (by first | assumption | omega)) (by decide) ⟨Nat.zero_le _, Nat.zero_le _⟩ hK hP hD hS hA 0 rfl [0, 1, 2] rfl (by decide) rfl hl.1 rfl (Nat.le_of_ble_eq_true rfl) dX7_gears_10 (fun r_4 u H locs hp_5 hP hD hS => ?_)
    obtain ⟨rfl, rfl⟩ := hp_5
    have hP : va_P D vwCl [mO h q zmu zmk zmz zms zma zmc, (q 0, .inl (cI, 54, .inl (fun z_ => nI (bx z_)))), (q 6, .inl (cI, 24, .inl (fun z_ => nI (sh z_))))] _ := hP
    have hD : va_D A [mO h q zmu zmk zmz zms zma zmc, (q 0, .inl (cI, 54, .inl (fun z_ => nI (bx z_)))), (q 6, .inl (cI, 24, .inl (fun z_ => nI (sh z_))))] := hD
    refine lv_goto (tgt := 17) hx hb dX7_gears_13 (by decide) ?_
    refine hret hP hD hS dX7_gears_17 rfl rfl ?_
    exact ⟨by first | exact ges_t (by have := hB.w; omega) (by assumption) | exact ges_f (by assumption), rfl⟩
set_option maxHeartbeats 4000000 in
set_option maxRecDepth 100000 in
theorem k_X7_worst {l : Launch} {D : va_G} {cI cC cB : ClassId} {h : Nat} {q : Nat → Nat} {zmu zmk zmz zms zma zmc : Nat} {bx : Nat → Nat} {i g n : Nat} (hB : BxOk bx) (hi : i < bx 0) (hg : g < 64) (hn : n ≤ 100) : MI l yX7_worst cX7_worst 8 (some .int) 1 D (Ty3 cI cC cB) [.ref h, .int (nI (i)), .int (nI (g)), .int (nI (n))] [mO h q zmu zmk zmz zms zma zmc, (q 0, .inl (cI, 54, .inl (fun z_ => nI (bx z_))))] (fun r u => (r = nI (woN bx i g n (bx (5 + i))) ∧ u = [mO h q zmu zmk zmz zms zma zmc, (q 0, .inl (cI, 54, .inl (fun z_ => nI (bx z_))))])) := by
  intro sz
  refine MI.walk (by decide +kernel) (Nat.le_of_ble_eq_true rfl) ?_
  intro p e s m args below meth c A Qf hx hb hml hts hown hret hK hP hD hS hA ls hl
  have hown : s.vm.findClass RX7 = some m.cls := hown
  have hl : lv_has ls 8 [(0, .ref h), (1, .int (nI (i))), (2, .int (nI (g))), (3, .int (nI (n)))] := hl
  have hP : va_P D vwCl [mO h q zmu zmk zmz zms zma zmc, (q 0, .inl (cI, 54, .inl (fun z_ => nI (bx z_))))] s.heap := hP
  have hD : va_D A [mO h q zmu zmk zmz zms zma zmc, (q 0, .inl (cI, 54, .inl (fun z_ => nI (bx z_))))] := hD
  have hw := hB.w
  have ht := hB.t i hi
  refine lv_iconst (v := nI 0) hx hb dX7_worst_0 (by decide) ?_
  refine lv_istore (lv' := [(4, .int (nI (0))), (0, .ref h), (1, .int (nI (i))), (2, .int (nI (g))), (3, .int (nI (n)))]) hx hb dX7_worst_1 hl (by decide) rfl (fun ls hl => ?_)
  refine lv_iconst (v := nI 0) hx hb dX7_worst_3 (by decide) ?_
  refine lv_istore (lv' := [(5, .int (nI (0))), (4, .int (nI (0))), (0, .ref h), (1, .int (nI (i))), (2, .int (nI (g))), (3, .int (nI (n)))]) hx hb dX7_worst_4 hl (by decide) rfl (fun ls hl => ?_)
  have loop_6 : ∀ (N : Nat) (m1 : Nat) (o : Nat), (o ≤ bx (5 + i)) → (m1 ≤ 6) → (m1 = woN bx i g n o) → (bx (5 + i) - o) < N → ∀ (H : Heap) (locs : List Loc), va_P D vwCl [mO h q zmu zmk zmz zms zma zmc, (q 0, .inl (cI, 54, .inl (fun z_ => nI (bx z_))))] H → va_D A [mO h q zmu zmk zmz zms zma zmc, (q 0, .inl (cI, 54, .inl (fun z_ => nI (bx z_))))] → va_S A s.heap H locs → ∀ ls : Array Slot, lv_has ls 8 [(5, .int (nI (o))), (4, .int (nI (m1))), (0, .ref h), (1, .int (nI (i))), (2, .int (nI (g))), (3, .int (nI (n)))] → W p l e (rmL 1) s m args below meth c H locs 0 0 Qf (F0 m 6 ls []) := by
    intro N; induction N with
    | zero => intro m1 o _ _ _ hm; omega
    | succ N ih_6 =>
      intro m1 o ho hm1 hm2 hm H locs hP hD hS ls hl
      refine lv_iload hx hb dX7_worst_6 (lv_at hl 0 rfl) ?_
      refine lv_aload_n hx hb dX7_worst_8 rfl (lv_at hl 2 rfl) ?_
      refine gf_7_7 hx hb hts hown hK hP 0 rfl rfl dX7_worst_9 ?_
      refine lv_iconst (v := nI 5) hx hb dX7_worst_12 (by decide) ?_
      refine lv_iload_n hx hb dX7_worst_13 rfl (lv_at hl 3 rfl) ?_
      refine n_iadd hx hb dX7_worst_14  ?_
      refine n_iald hx hb hK hP 1 0 rfl rfl dX7_worst_15 (by decide) (by omega) ?_
      have hb_1 := hB.bd (5 + i)
      refine n_icmp_ge (tgt := 98) hx hb dX7_worst_16 (by decide) (by omega) (by omega) (fun c_2 => ?_) (fun c_2 => ?_)
      · -- 16 to 98
        refine lv_iload hx hb dX7_worst_98 (lv_at hl 1 rfl) ?_
        refine hret hP hD hS dX7_worst_100 rfl rfl ?_
        exact ⟨by rw [hm2, show o = bx (5 + i) by omega], rfl⟩
      · -- 16 to 19
        refine lv_iconst (v := nI 0) hx hb dX7_worst_19 (by decide) ?_
        refine lv_istore (lv' := [(6, .int (nI (0))), (5, .int (nI (o))), (4, .int (nI (m1))), (0, .ref h), (1, .int (nI (i))), (2, .int (nI (g))), (3, .int (nI (n)))]) hx hb dX7_worst_20 hl (by decide) rfl (fun ls hl => ?_)
        refine lv_iconst (v := nI 0) hx hb dX7_worst_22 (by decide) ?_
        refine lv_istore (lv' := [(7, .int (nI (0))), (6, .int (nI (0))), (5, .int (nI (o))), (4, .int (nI (m1))), (0, .ref h), (1, .int (nI (i))), (2, .int (nI (g))), (3, .int (nI (n)))]) hx hb dX7_worst_23 hl (by decide) rfl (fun ls hl => ?_)
        have loop_25 : ∀ (N : Nat) (c1 : Nat) (y : Nat), (y ≤ bx (5 + i)) → (c1 ≤ y) → (c1 = wcN bx i g n o y) → (bx (5 + i) - y) < N → ∀ (H : Heap) (locs : List Loc), va_P D vwCl [mO h q zmu zmk zmz zms zma zmc, (q 0, .inl (cI, 54, .inl (fun z_ => nI (bx z_))))] H → va_D A [mO h q zmu zmk zmz zms zma zmc, (q 0, .inl (cI, 54, .inl (fun z_ => nI (bx z_))))] → va_S A s.heap H locs → ∀ ls : Array Slot, lv_has ls 8 [(7, .int (nI (y))), (6, .int (nI (c1))), (5, .int (nI (o))), (4, .int (nI (m1))), (0, .ref h), (1, .int (nI (i))), (2, .int (nI (g))), (3, .int (nI (n)))] → W p l e (rmL 1) s m args below meth c H locs 0 0 Qf (F0 m 25 ls []) := by
          intro N; induction N with
          | zero => intro c1 y _ _ _ hm; omega
          | succ N ih_25 =>
            intro c1 y hy hc1 hc2 hm H locs hP hD hS ls hl
            refine lv_iload hx hb dX7_worst_25 (lv_at hl 0 rfl) ?_
            refine lv_aload_n hx hb dX7_worst_27 rfl (lv_at hl 4 rfl) ?_
            refine gf_7_7 hx hb hts hown hK hP 0 rfl rfl dX7_worst_28 ?_
            refine lv_iconst (v := nI 5) hx hb dX7_worst_31 (by decide) ?_
            refine lv_iload_n hx hb dX7_worst_32 rfl (lv_at hl 5 rfl) ?_
            refine n_iadd hx hb dX7_worst_33  ?_
            refine n_iald hx hb hK hP 1 0 rfl rfl dX7_worst_34 (by decide) (by omega) ?_
            have hb_3 := hB.bd (5 + i)
            refine n_icmp_ge (tgt := 76) hx hb dX7_worst_35 (by decide) (by omega) (by omega) (fun c_4 => ?_) (fun c_4 => ?_)
            · -- 35 to 76
              refine lv_iload hx hb dX7_worst_76 (lv_at hl 1 rfl) ?_
              refine lv_iload hx hb dX7_worst_78 (lv_at hl 3 rfl) ?_
              refine n_icmp_le (tgt := 88) hx hb dX7_worst_80 (by decide) (by omega) (by omega) (fun c_5 => ?_) (fun c_5 => ?_)
              · -- 80 to 88
                refine lv_iload hx hb dX7_worst_88 (lv_at hl 3 rfl) ?_
                refine lv_istore (lv' := [(4, .int (nI (m1))), (7, .int (nI (y))), (6, .int (nI (c1))), (5, .int (nI (o))), (0, .ref h), (1, .int (nI (i))), (2, .int (nI (g))), (3, .int (nI (n)))]) hx hb dX7_worst_90 hl (by decide) rfl (fun ls hl => ?_)
                refine lv_iinc (v := nI (o + 1)) (lv' := [(5, .int (nI (o + 1))), (4, .int (nI (m1))), (7, .int (nI (y))), (6, .int (nI (c1))), (0, .ref h), (1, .int (nI (i))), (2, .int (nI (g))), (3, .int (nI (n)))]) hx hb dX7_worst_92 hl (k := 3) rfl (n_inc _ 1) (by decide) rfl (fun ls hl => ?_)
                refine lv_goto (tgt := 6) hx hb dX7_worst_95 (by decide) ?_
                exact ih_6 m1 (o + 1) (by omega) (by omega) (by first | exact wo_1 hm2 hc2 (by omega) (by omega) | exact wo_2 hm2 hc2 (by omega) (by omega)) (by omega) _ _ hP hD hS _ (lv_sub hl [0, 1, 4, 5, 6, 7] rfl)
              · -- 80 to 83
                refine lv_iload hx hb dX7_worst_83 (lv_at hl 1 rfl) ?_
                refine lv_goto (tgt := 90) hx hb dX7_worst_85 (by decide) ?_
                refine lv_istore (lv' := [(4, .int (nI (c1))), (7, .int (nI (y))), (6, .int (nI (c1))), (5, .int (nI (o))), (0, .ref h), (1, .int (nI (i))), (2, .int (nI (g))), (3, .int (nI (n)))]) hx hb dX7_worst_90 hl (by decide) rfl (fun ls hl => ?_)
                refine lv_iinc (v := nI (o + 1)) (lv' := [(5, .int (nI (o + 1))), (4, .int (nI (c1))), (7, .int (nI (y))), (6, .int (nI (c1))), (0, .ref h), (1, .int (nI (i))), (2, .int (nI (g))), (3, .int (nI (n)))]) hx hb dX7_worst_92 hl (k := 3) rfl (n_inc _ 1) (by decide) rfl (fun ls hl => ?_)
                refine lv_goto (tgt := 6) hx hb dX7_worst_95 (by decide) ?_
                exact ih_6 c1 (o + 1) (by omega) (by omega) (by first | exact wo_1 hm2 hc2 (by omega) (by omega) | exact wo_2 hm2 hc2 (by omega) (by omega)) (by omega) _ _ hP hD hS _ (lv_sub hl [0, 1, 4, 5, 6, 7] rfl)
            · -- 35 to 38
              refine lv_iload hx hb dX7_worst_38 (lv_at hl 1 rfl) ?_
              refine lv_iload_n hx hb dX7_worst_40 rfl (lv_at hl 6 rfl) ?_
              refine lv_iload hx hb dX7_worst_41 (lv_at hl 0 rfl) ?_
              refine cl_7_137 (As := [.int (nI (g)), .int (nI (y))]) (rest := [.int (nI (c1))]) hx hb hml hts hown (k_X7_has (by first | assumption | omega) (by first | assumption | omega)) (by decide) ⟨Nat.zero_le _, Nat.zero_le _⟩ hK hP hD hS hA [] rfl (by decide) rfl hl.1 rfl (Nat.le_of_ble_eq_true rfl) dX7_worst_43 (fun r_6 u H locs hp_7 hP hD hS => ?_)
              obtain ⟨rfl, rfl⟩ := hp_7
              have hP : va_P D vwCl [mO h q zmu zmk zmz zms zma zmc, (q 0, .inl (cI, 54, .inl (fun z_ => nI (bx z_))))] _ := hP
              have hD : va_D A [mO h q zmu zmk zmz zms zma zmc, (q 0, .inl (cI, 54, .inl (fun z_ => nI (bx z_))))] := hD
              refine n_ifb_eq (tgt := 66) hx hb dX7_worst_46 (by decide) (fun c_8 => ?_) (fun c_8 => ?_)
              · -- 46 to 66
                refine lv_iconst (v := nI 0) hx hb dX7_worst_66 (by decide) ?_
                refine n_iadd hx hb dX7_worst_67  ?_
                refine lv_istore (lv' := [(6, .int (nI (c1 + 0))), (7, .int (nI (y))), (5, .int (nI (o))), (4, .int (nI (m1))), (0, .ref h), (1, .int (nI (i))), (2, .int (nI (g))), (3, .int (nI (n)))]) hx hb dX7_worst_68 hl (by decide) rfl (fun ls hl => ?_)
                refine lv_iinc (v := nI (y + 1)) (lv' := [(7, .int (nI (y + 1))), (6, .int (nI (c1 + 0))), (5, .int (nI (o))), (4, .int (nI (m1))), (0, .ref h), (1, .int (nI (i))), (2, .int (nI (g))), (3, .int (nI (n)))]) hx hb dX7_worst_70 hl (k := 1) rfl (n_inc _ 1) (by decide) rfl (fun ls hl => ?_)
                refine lv_goto (tgt := 25) hx hb dX7_worst_73 (by decide) ?_
                exact ih_25 (c1 + 0) (y + 1) (by omega) (by omega) (by rw [hc2]; first | exact wc_1 (by assumption) (by assumption) | exact wc_2 (by assumption) | exact wc_3 (by assumption)) (by omega) _ _ hP hD hS _ (lv_sub hl [0, 1, 2, 3, 4, 5, 6, 7] rfl)
              · -- 46 to 49
                refine lv_aload_n hx hb dX7_worst_49 rfl (lv_at hl 4 rfl) ?_
                refine lv_iload_n hx hb dX7_worst_50 rfl (lv_at hl 5 rfl) ?_
                refine lv_iload hx hb dX7_worst_51 (lv_at hl 0 rfl) ?_
                refine lv_iload_n hx hb dX7_worst_53 rfl (lv_at hl 7 rfl) ?_
                refine cl_7_236 (As := [.int (nI (i)), .int (nI (y)), .int (nI (n))]) (rest := [.int (nI (c1))]) hx hb hml hts hown (k_X7_behind (by first | assumption | omega) (by first | assumption | omega) (by first | assumption | omega) (by first | assumption | omega)) (by decide) ⟨Nat.zero_le _, Nat.zero_le _⟩ hK hP hD hS hA 0 rfl [0, 1] rfl (by decide) rfl hl.1 rfl (Nat.le_of_ble_eq_true rfl) dX7_worst_54 (fun r_9 u H locs hp_10 hP hD hS => ?_)
                obtain ⟨rfl, rfl⟩ := hp_10
                have hP : va_P D vwCl [mO h q zmu zmk zmz zms zma zmc, (q 0, .inl (cI, 54, .inl (fun z_ => nI (bx z_))))] _ := hP
                have hD : va_D A [mO h q zmu zmk zmz zms zma zmc, (q 0, .inl (cI, 54, .inl (fun z_ => nI (bx z_))))] := hD
                have hbe := beh_lt bx i y n (show 0 < bx (5 + i) by omega)
                refine lv_iload hx hb dX7_worst_57 (lv_at hl 2 rfl) ?_
                refine n_icmp_ne (tgt := 66) hx hb dX7_worst_59 (by decide) (by omega) (by omega) (fun c_11 => ?_) (fun c_11 => ?_)
                · -- 59 to 66
                  refine lv_iconst (v := nI 0) hx hb dX7_worst_66 (by decide) ?_
                  refine n_iadd hx hb dX7_worst_67  ?_
                  refine lv_istore (lv' := [(6, .int (nI (c1 + 0))), (7, .int (nI (y))), (5, .int (nI (o))), (4, .int (nI (m1))), (0, .ref h), (1, .int (nI (i))), (2, .int (nI (g))), (3, .int (nI (n)))]) hx hb dX7_worst_68 hl (by decide) rfl (fun ls hl => ?_)
                  refine lv_iinc (v := nI (y + 1)) (lv' := [(7, .int (nI (y + 1))), (6, .int (nI (c1 + 0))), (5, .int (nI (o))), (4, .int (nI (m1))), (0, .ref h), (1, .int (nI (i))), (2, .int (nI (g))), (3, .int (nI (n)))]) hx hb dX7_worst_70 hl (k := 1) rfl (n_inc _ 1) (by decide) rfl (fun ls hl => ?_)
                  refine lv_goto (tgt := 25) hx hb dX7_worst_73 (by decide) ?_
                  exact ih_25 (c1 + 0) (y + 1) (by omega) (by omega) (by rw [hc2]; first | exact wc_1 (by assumption) (by assumption) | exact wc_2 (by assumption) | exact wc_3 (by assumption)) (by omega) _ _ hP hD hS _ (lv_sub hl [0, 1, 2, 3, 4, 5, 6, 7] rfl)
                · -- 59 to 62
                  refine lv_iconst (v := nI 1) hx hb dX7_worst_62 (by decide) ?_
                  refine lv_goto (tgt := 67) hx hb dX7_worst_63 (by decide) ?_
                  refine n_iadd hx hb dX7_worst_67  ?_
                  refine lv_istore (lv' := [(6, .int (nI (c1 + 1))), (7, .int (nI (y))), (5, .int (nI (o))), (4, .int (nI (m1))), (0, .ref h), (1, .int (nI (i))), (2, .int (nI (g))), (3, .int (nI (n)))]) hx hb dX7_worst_68 hl (by decide) rfl (fun ls hl => ?_)
                  refine lv_iinc (v := nI (y + 1)) (lv' := [(7, .int (nI (y + 1))), (6, .int (nI (c1 + 1))), (5, .int (nI (o))), (4, .int (nI (m1))), (0, .ref h), (1, .int (nI (i))), (2, .int (nI (g))), (3, .int (nI (n)))]) hx hb dX7_worst_70 hl (k := 1) rfl (n_inc _ 1) (by decide) rfl (fun ls hl => ?_)
                  refine lv_goto (tgt := 25) hx hb dX7_worst_73 (by decide) ?_
                  exact ih_25 (c1 + 1) (y + 1) (by omega) (by omega) (by rw [hc2]; first | exact wc_1 (by assumption) (by assumption) | exact wc_2 (by assumption) | exact wc_3 (by assumption)) (by omega) _ _ hP hD hS _ (lv_sub hl [0, 1, 2, 3, 4, 5, 6, 7] rfl)
        exact loop_25 _ 0 0 (by omega) (by omega) rfl (Nat.lt_succ_self _) _ _ hP hD hS _ (lv_sub hl [0, 1, 2, 3, 4, 5, 6, 7] rfl)
  exact loop_6 _ 0 0 (by omega) (by omega) rfl (Nat.lt_succ_self _) _ _ hP hD hS _ (lv_sub hl [0, 1, 2, 3, 4, 5] rfl)
set_option maxHeartbeats 4000000 in
set_option maxRecDepth 100000 in
theorem k_X7_heardBy {l : Launch} {D : va_G} {cI cC cB : ClassId} {h : Nat} {q : Nat → Nat} {zmu zmk zmz zms zma zmc : Nat} {nw : Nat → Nat} {y : Nat} (hbd : ∀ j, nw j < 100000000) (h12 : nw 2 ≤ 12) (hy : y < 100) : MI l yX7_heardBy cX7_heardBy 4 (some .int) 0 D (Ty3 cI cC cB) [.ref h, .int (nI (y))] [mO h q zmu zmk zmz zms zma zmc, (q 2, .inl (cI, 76, .inl (fun z_ => nI (nw z_))))] (fun r u => (r = nI (hbN nw y (nw 2)) ∧ u = [mO h q zmu zmk zmz zms zma zmc, (q 2, .inl (cI, 76, .inl (fun z_ => nI (nw z_))))])) := by
  intro sz
  refine MI.walk (by decide +kernel) (Nat.le_of_ble_eq_true rfl) ?_
  intro p e s m args below meth c A Qf hx hb hml hts hown hret hK hP hD hS hA ls hl
  have hown : s.vm.findClass RX7 = some m.cls := hown
  have hl : lv_has ls 4 [(0, .ref h), (1, .int (nI (y)))] := hl
  have hP : va_P D vwCl [mO h q zmu zmk zmz zms zma zmc, (q 2, .inl (cI, 76, .inl (fun z_ => nI (nw z_))))] s.heap := hP
  have hD : va_D A [mO h q zmu zmk zmz zms zma zmc, (q 2, .inl (cI, 76, .inl (fun z_ => nI (nw z_))))] := hD
  refine lv_iconst (v := nI 0) hx hb dX7_heardBy_0 (by decide) ?_
  refine lv_istore_n (lv' := [(2, .int (nI (0))), (0, .ref h), (1, .int (nI (y)))]) hx hb dX7_heardBy_1 rfl hl (by decide) rfl (fun ls hl => ?_)
  refine lv_iconst (v := nI 0) hx hb dX7_heardBy_2 (by decide) ?_
  refine lv_istore_n (lv' := [(3, .int (nI (0))), (2, .int (nI (0))), (0, .ref h), (1, .int (nI (y)))]) hx hb dX7_heardBy_3 rfl hl (by decide) rfl (fun ls hl => ?_)
  have loop_4 : ∀ (N : Nat) (v : Nat) (k : Nat), (k ≤ nw 2) → (v = hbN nw y k) → (nw 2 - k) < N → ∀ (H : Heap) (locs : List Loc), va_P D vwCl [mO h q zmu zmk zmz zms zma zmc, (q 2, .inl (cI, 76, .inl (fun z_ => nI (nw z_))))] H → va_D A [mO h q zmu zmk zmz zms zma zmc, (q 2, .inl (cI, 76, .inl (fun z_ => nI (nw z_))))] → va_S A s.heap H locs → ∀ ls : Array Slot, lv_has ls 4 [(3, .int (nI (k))), (2, .int (nI (v))), (0, .ref h), (1, .int (nI (y)))] → W p l e (rmL 0) s m args below meth c H locs 0 0 Qf (F0 m 4 ls []) := by
    intro N; induction N with
    | zero => intro v k _ _ hm; omega
    | succ N ih_4 =>
      intro v k hk hv hm H locs hP hD hS ls hl
      refine lv_iload_n hx hb dX7_heardBy_4 rfl (lv_at hl 0 rfl) ?_
      refine lv_aload_n hx hb dX7_heardBy_5 rfl (lv_at hl 2 rfl) ?_
      refine gf_7_16 hx hb hts hown hK hP 0 rfl rfl dX7_heardBy_6 ?_
      refine lv_iconst (v := nI 2) hx hb dX7_heardBy_9 (by decide) ?_
      refine n_iald hx hb hK hP 1 0 rfl rfl dX7_heardBy_10 (by decide) (by omega) ?_
      have hb_1 := hbd 2
      refine n_icmp_ge (tgt := 43) hx hb dX7_heardBy_11 (by decide) (by omega) (by omega) (fun c_2 => ?_) (fun c_2 => ?_)
      · -- 11 to 43
        refine lv_iload_n hx hb dX7_heardBy_43 rfl (lv_at hl 1 rfl) ?_
        refine hret hP hD hS dX7_heardBy_44 rfl rfl ?_
        exact ⟨by rw [hv, show k = nw 2 by omega], rfl⟩
      · -- 11 to 14
        refine lv_iload_n hx hb dX7_heardBy_14 rfl (lv_at hl 1 rfl) ?_
        refine lv_aload_n hx hb dX7_heardBy_15 rfl (lv_at hl 2 rfl) ?_
        refine gf_7_16 hx hb hts hown hK hP 0 rfl rfl dX7_heardBy_16 ?_
        refine lv_bipush (v := nI 40) hx hb dX7_heardBy_19 (by decide) ?_
        refine lv_iload_n hx hb dX7_heardBy_21 rfl (lv_at hl 0 rfl) ?_
        refine n_iadd hx hb dX7_heardBy_22  ?_
        refine n_iald hx hb hK hP 1 0 rfl rfl dX7_heardBy_23 (by decide) (by omega) ?_
        have hb_3 := hbd (40 + k)
        refine lv_iload_n hx hb dX7_heardBy_24 rfl (lv_at hl 3 rfl) ?_
        refine n_icmp_ne (tgt := 34) hx hb dX7_heardBy_25 (by decide) (by omega) (by omega) (fun c_4 => ?_) (fun c_4 => ?_)
        · -- 25 to 34
          refine lv_iconst (v := nI 0) hx hb dX7_heardBy_34 (by decide) ?_
          refine n_ior hx hb dX7_heardBy_35  ?_
          refine lv_istore_n (lv' := [(2, .int (nI (v ||| 0))), (3, .int (nI (k))), (0, .ref h), (1, .int (nI (y)))]) hx hb dX7_heardBy_36 rfl hl (by decide) rfl (fun ls hl => ?_)
          refine lv_iinc (v := nI (k + 1)) (lv' := [(3, .int (nI (k + 1))), (2, .int (nI (v ||| 0))), (0, .ref h), (1, .int (nI (y)))]) hx hb dX7_heardBy_37 hl (k := 1) rfl (n_inc _ 1) (by decide) rfl (fun ls hl => ?_)
          refine lv_goto (tgt := 4) hx hb dX7_heardBy_40 (by decide) ?_
          exact ih_4 (v ||| 0) (k + 1) (by omega) (by rw [hv]; first | exact hby_1 (nw := nw) (y := y) (k := k) (by assumption) | exact hby_0 (nw := nw) (y := y) (k := k) (by assumption)) (by omega) _ _ hP hD hS _ (lv_sub hl [0, 1, 2, 3] rfl)
        · -- 25 to 28
          refine lv_iconst (v := nI 1) hx hb dX7_heardBy_28 (by decide) ?_
          refine lv_iload_n hx hb dX7_heardBy_29 rfl (lv_at hl 0 rfl) ?_
          refine n_ishl hx hb dX7_heardBy_30 (by omega) ?_
          refine lv_goto (tgt := 35) hx hb dX7_heardBy_31 (by decide) ?_
          refine n_ior hx hb dX7_heardBy_35  ?_
          refine lv_istore_n (lv' := [(2, .int (nI (v ||| (1 * 2 ^ k)))), (3, .int (nI (k))), (0, .ref h), (1, .int (nI (y)))]) hx hb dX7_heardBy_36 rfl hl (by decide) rfl (fun ls hl => ?_)
          refine lv_iinc (v := nI (k + 1)) (lv' := [(3, .int (nI (k + 1))), (2, .int (nI (v ||| (1 * 2 ^ k)))), (0, .ref h), (1, .int (nI (y)))]) hx hb dX7_heardBy_37 hl (k := 1) rfl (n_inc _ 1) (by decide) rfl (fun ls hl => ?_)
          refine lv_goto (tgt := 4) hx hb dX7_heardBy_40 (by decide) ?_
          exact ih_4 (v ||| (1 * 2 ^ k)) (k + 1) (by omega) (by rw [hv]; first | exact hby_1 (nw := nw) (y := y) (k := k) (by assumption) | exact hby_0 (nw := nw) (y := y) (k := k) (by assumption)) (by omega) _ _ hP hD hS _ (lv_sub hl [0, 1, 2, 3] rfl)
  exact loop_4 _ 0 0 (by omega) rfl (Nat.lt_succ_self _) _ _ hP hD hS _ (lv_sub hl [0, 1, 2, 3] rfl)
set_option maxHeartbeats 4000000 in
set_option maxRecDepth 100000 in
theorem k_X7_talks {l : Launch} {D : va_G} {cI cC cB : ClassId} {h : Nat} {q : Nat → Nat} {zmu zmk zmz zms zma zmc : Nat} {bx : Nat → Nat} {x : Int32} (hB : BxOk bx) : MI l yX7_talks cX7_talks 2 (some .int) 2 D (Ty3 cI cC cB) [.ref h, .int (x)] [mO h q zmu zmk zmz zms zma zmc, (q 0, .inl (cI, 54, .inl (fun z_ => nI (bx z_))))] (fun r u => (r = taA bx x ∧ u = [mO h q zmu zmk zmz zms zma zmc, (q 0, .inl (cI, 54, .inl (fun z_ => nI (bx z_))))])) := by
  intro sz
  refine MI.walk (by decide +kernel) (Nat.le_of_ble_eq_true rfl) ?_
  intro p e s m args below meth c A Qf hx hb hml hts hown hret hK hP hD hS hA ls hl
  have hown : s.vm.findClass RX7 = some m.cls := hown
  have hl : lv_has ls 2 [(0, .ref h), (1, .int (x))] := hl
  have hP : va_P D vwCl [mO h q zmu zmk zmz zms zma zmc, (q 0, .inl (cI, 54, .inl (fun z_ => nI (bx z_))))] s.heap := hP
  have hD : va_D A [mO h q zmu zmk zmz zms zma zmc, (q 0, .inl (cI, 54, .inl (fun z_ => nI (bx z_))))] := hD
  refine lv_aload_n hx hb dX7_talks_0 rfl (lv_at hl 0 rfl) ?_
  refine lv_iload_n hx hb dX7_talks_1 rfl (lv_at hl 1 rfl) ?_
  refine cl_7_169 (As := [.int (x)]) (rest := []) hx hb hml hts hown (k_X7_isPerson (by first | assumption | omega)) (by decide) ⟨Nat.zero_le _, Nat.zero_le _⟩ hK hP hD hS hA 0 rfl [0, 1] rfl (by decide) rfl hl.1 rfl (Nat.le_of_ble_eq_true rfl) dX7_talks_2 (fun r_1 u H locs hp_2 hP hD hS => ?_)
  obtain ⟨rfl, rfl⟩ := hp_2
  have hP : va_P D vwCl [mO h q zmu zmk zmz zms zma zmc, (q 0, .inl (cI, 54, .inl (fun z_ => nI (bx z_))))] _ := hP
  have hD : va_D A [mO h q zmu zmk zmz zms zma zmc, (q 0, .inl (cI, 54, .inl (fun z_ => nI (bx z_))))] := hD
  refine n_ifb_eq (tgt := 16) hx hb dX7_talks_5 (by decide) (fun c_3 => ?_) (fun c_3 => ?_)
  · -- 5 to 16
    refine lv_iconst (v := (-1)) hx hb dX7_talks_16 (by decide) ?_
    refine hret hP hD hS dX7_talks_17 rfl rfl ?_
    exact ⟨by first | exact ta_t (by have := hB.n; omega) (by assumption) | exact ta_f (by assumption), rfl⟩
  · -- 5 to 8
    obtain ⟨j, hj, rfl⟩ := inN_e (by have := hB.bd 1; omega) c_3
    refine lv_aload_n hx hb dX7_talks_8 rfl (lv_at hl 0 rfl) ?_
    refine lv_iload_n hx hb dX7_talks_9 rfl (lv_at hl 1 rfl) ?_
    refine cl_7_140 (As := [.int (nI (j))]) (rest := []) hx hb hml hts hown (k_X7_talksOf (by first | assumption | omega) (by first | assumption | omega)) (by decide) ⟨Nat.zero_le _, Nat.zero_le _⟩ hK hP hD hS hA 0 rfl [0, 1] rfl (by decide) rfl hl.1 rfl (Nat.le_of_ble_eq_true rfl) dX7_talks_10 (fun r_4 u H locs hp_5 hP hD hS => ?_)
    obtain ⟨rfl, rfl⟩ := hp_5
    have hP : va_P D vwCl [mO h q zmu zmk zmz zms zma zmc, (q 0, .inl (cI, 54, .inl (fun z_ => nI (bx z_))))] _ := hP
    have hD : va_D A [mO h q zmu zmk zmz zms zma zmc, (q 0, .inl (cI, 54, .inl (fun z_ => nI (bx z_))))] := hD
    refine lv_goto (tgt := 17) hx hb dX7_talks_13 (by decide) ?_
    refine hret hP hD hS dX7_talks_17 rfl rfl ?_
    exact ⟨by first | exact ta_t (by have := hB.n; omega) (by assumption) | exact ta_f (by assumption), rfl⟩

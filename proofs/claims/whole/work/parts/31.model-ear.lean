
theorem hb_12 {nw : Nat → Nat} {y : Nat} (h : nw 2 ≤ 12) : hbN nw y (nw 2) < 4096 := by
  refine Nat.lt_of_lt_of_le (Nat.lt_pow_two_of_testBit (n := 12) _ (fun i hi => ?_)) (by decide)
  rw [hb_tb]
  have : ¬ i < nw 2 := by omega
  simp [this]
theorem pc_le (s : Nat) : pcN s ≤ 12 := pc_12 s
theorem wv_l (w : Int32) : wvB w = decide ((-1 : Int64) ≤ w.toInt64 ∧ w.toInt64 ≤ lN 7) := by
  have h1 : (-1 : Int64).toInt = -1 := by decide
  have h2 : (lN 7).toInt = 7 := by decide
  simp only [wvB]
  refine decide_eq_decide.mpr ?_
  rw [fa_le64, fa_le64, h1, h2, Int32.toInt_toInt64]
theorem tw_f {w : Int32} (h : wvB w = true) (h2 : ¬ (0 : Int32) ≤ w) : w = -1 := by
  simp only [wvB, decide_eq_true_eq] at h
  rw [fa_le] at h2
  have h0 : (0 : Int32).toInt = 0 := by decide
  exact Int32.toInt_inj.mp ((show w.toInt = -1 by omega).trans m1_ti.symm)
theorem tw_g {w : Int32} (h : wvB w = true) (h2 : (0 : Int32) ≤ w) : ∃ k, k ≤ 7 ∧ w = nI k := by
  refine tw_e h (fun q => ?_)
  subst q
  exact absurd h2 (by decide)
section TEN
variable {bx tu : Nat → Nat} {F : Nat} {x w : Int32}
theorem te_n1 (h : inN x (bx 1) = false) : (-1 : Int32) = teA bx F tu x w := by
  simp only [teA]; rw [if_neg (by rw [h]; decide)]
theorem te_n2 (h : wvB w = false) : (-1 : Int32) = teA bx F tu x w := by
  simp only [teA]; rw [if_neg (show ¬ wvB w = true by rw [h]; decide)]; split <;> rfl
end TEN
section CLQ
variable {bx : Nat → Nat} {x y i : Nat}
theorem cl_e1 : clI bx x y 1 = decide (1 < bx 0 ∧ tooN bx x 0 = tooN bx y 0) := by simp [clI]
theorem cl_0a (h : bx 0 ≤ 1) : 0 = b2n (clI bx x y 1) := by rw [cl_e1, decide_eq_false (by omega)]; rfl
theorem cl_0b (h : tooN bx x 0 ≠ tooN bx y 0) : 0 = b2n (clI bx x y 1) := by rw [cl_e1, decide_eq_false (fun q => h q.2)]; rfl
theorem cl_1 (h : 1 < bx 0) (h2 : tooN bx x 0 = tooN bx y 0) : 1 = b2n (clI bx x y 1) := by rw [cl_e1, decide_eq_true ⟨h, h2⟩]; rfl
theorem cl_qf (h : 1 ≤ i) (h2 : tooN bx x i = tooN bx y i) : (decide (i = 0) || decide (tooN bx x i ≠ tooN bx y i)) = false := by
  rw [decide_eq_false (show ¬ i = 0 by omega), decide_eq_false (fun q => q h2)]; rfl
theorem cl_qt (h : tooN bx x i ≠ tooN bx y i) : (decide (i = 0) || decide (tooN bx x i ≠ tooN bx y i)) = true := by
  rw [decide_eq_true h, Bool.or_true]
end CLQ
section SQL
variable {G : Nat → Nat → Bool} {s a b N all z mm : Nat} {B : Bool}
theorem sq_1 (h : Nat.testBit s a = false) : (!(decide (a < b) && (Nat.testBit s a && (Nat.testBit s b && G a b)))) = true := by rw [h]; simp
theorem sq_2 (h : Nat.testBit s b = false) : (!(decide (a < b) && (Nat.testBit s a && (Nat.testBit s b && G a b)))) = true := by rw [h]; simp
theorem sq_3 (h : G a b = false) : (!(decide (a < b) && (Nat.testBit s a && (Nat.testBit s b && G a b)))) = true := by rw [h]; simp
theorem sq_4 (h0 : a < b) (h1 : Nat.testBit s a = true) (h2 : Nat.testBit s b = true) (h : G a b = true) : (!(decide (a < b) && (Nat.testBit s a && (Nat.testBit s b && G a b)))) = false := by rw [h, h1, h2, decide_eq_true h0]; rfl
theorem bf_s0 (hm : mm = bfN G N all s) (hz : z = b2n (decide (anN s all = 0 ∧ bfN G N all s < pcN s) && soB G s N a)) (ha : a ≤ N) (h : z = 0) : mm = bfN G N all (s + 1) := by
  have h1 : (decide (anN s all = 0 ∧ bfN G N all s < pcN s) && soB G s N N) = false := by
    cases h2 : decide (anN s all = 0 ∧ bfN G N all s < pcN s) with
    | false => rfl
    | true =>
      rw [h2, Bool.true_and] at hz
      cases h3 : soB G s N a with
      | true => rw [h3, h] at hz; exact absurd hz (by decide)
      | false => rw [so_F ha h3]; rfl
  rw [hm]
  exact (if_neg (by rw [h1]; decide)).symm
theorem bf_s1 (hz : z = b2n (decide (anN s all = 0 ∧ bfN G N all s < pcN s) && soB G s N a)) (ha : a = N) (h : z ≠ 0) : pcN s = bfN G N all (s + 1) := by
  subst ha
  have h1 : (decide (anN s all = 0 ∧ bfN G a all s < pcN s) && soB G s a a) = true := by
    cases h2 : (decide (anN s all = 0 ∧ bfN G a all s < pcN s) && soB G s a a) with
    | true => rfl
    | false => rw [h2] at hz; exact absurd hz h
  exact (if_pos h1).symm
end SQL
section LQL
variable {bx nw : Nat → Nat} {j y k e z b s : Nat}
theorem lq_1 (h : e = k) : (decide (e ≠ k ∧ nw (40 + e) = y ∧ nw (40 + k) = y) && decide (tooN bx (nw (16 + e)) 0 = tooN bx (nw (16 + k)) 0)) = false := by
  rw [decide_eq_false (fun q => q.1 h), Bool.false_and]
theorem lq_2 (h : nw (40 + e) ≠ y) : (decide (e ≠ k ∧ nw (40 + e) = y ∧ nw (40 + k) = y) && decide (tooN bx (nw (16 + e)) 0 = tooN bx (nw (16 + k)) 0)) = false := by
  rw [decide_eq_false (fun q => h q.2.1), Bool.false_and]
theorem lq_3 (h : nw (40 + k) ≠ y) : (decide (e ≠ k ∧ nw (40 + e) = y ∧ nw (40 + k) = y) && decide (tooN bx (nw (16 + e)) 0 = tooN bx (nw (16 + k)) 0)) = false := by
  rw [decide_eq_false (fun q => h q.2.2), Bool.false_and]
theorem lq_4 (h : tooN bx (nw (16 + e)) 0 ≠ tooN bx (nw (16 + k)) 0) : (decide (e ≠ k ∧ nw (40 + e) = j ∧ nw (40 + k) = j) && decide (tooN bx (nw (16 + e)) 0 = tooN bx (nw (16 + k)) 0)) = false := by
  rw [decide_eq_false h, Bool.and_false]
theorem lq_5 (h1 : e ≠ k) (h2 : nw (40 + e) = y) (h3 : nw (40 + k) = y) (h : tooN bx (nw (16 + e)) 0 = tooN bx (nw (16 + k)) 0) : (decide (e ≠ k ∧ nw (40 + e) = y ∧ nw (40 + k) = y) && decide (tooN bx (nw (16 + e)) 0 = tooN bx (nw (16 + k)) 0)) = true := by
  rw [decide_eq_true h, decide_eq_true ⟨h1, h2, h3⟩]; rfl
theorem lp_b (hz : z = b2n (liI bx nw j k e)) (he : e = nw 2) (h : z ≠ 0) : liB bx nw j k = true := by
  subst he
  show liI bx nw j k (nw 2) = true
  cases h2 : liI bx nw j k (nw 2) with
  | true => rfl
  | false => rw [h2] at hz; exact absurd hz h
theorem lp_c (hz : z = b2n (liI bx nw j k e)) (he : e = nw 2) (h : z = 0) : liB bx nw j k = false := by
  subst he
  show liI bx nw j k (nw 2) = false
  cases h2 : liI bx nw j k (nw 2) with
  | false => rfl
  | true => rw [h2, h] at hz; exact absurd hz (by decide)
theorem lp_0 (hz : z = b2n (liI bx nw j k e)) (he : e = nw 2) (h : z = 0) : b ^ cnP (liB bx nw j) k * 1 = b ^ cnP (liB bx nw j) (k + 1) := by
  rw [cp_f (lp_c hz he h), Nat.mul_one]
theorem lp_1 (hz : z = b2n (liI bx nw j k e)) (he : e = nw 2) (h : z ≠ 0) : b ^ cnP (liB bx nw j) k * b = b ^ cnP (liB bx nw j) (k + 1) := by
  rw [cp_t (lp_b hz he h), Nat.pow_succ]
end LQL
theorem p12_b {s : Nat} (h : s ≤ 12) : 10 ^ s ≤ 10 ^ 12 := Nat.pow_le_pow_right (by decide) h
theorem p12_a {n s : Nat} (h : s ≤ 12) : (10 - n) ^ s ≤ 10 ^ 12 := Nat.le_trans (Nat.pow_le_pow_left (by omega) s) (p12_b h)
theorem lz_0 {v : Nat} (hv : v < 9223372036854775808) (h : lg_cmp (lN v) (lN 0) = 0) : v = 0 := by
  rcases Nat.eq_zero_or_pos v with h1 | h1
  · exact h1
  · exact absurd ((lg_cmp_eq _ _).mp h) (lN_ne0 h1 hv)
theorem lz_1 {v : Nat} (h : lg_cmp (lN v) (lN 0) ≠ 0) : v ≠ 0 := by
  intro q; subst q
  exact h ((lg_cmp_eq _ _).mpr rfl)

set_option maxHeartbeats 4000000 in
set_option maxRecDepth 100000 in
theorem k_X7_layTeeth {l : Launch} {D : va_G} {cI cC cB : ClassId} {h : Nat} {q : Nat → Nat} {zmu zmk zmz zms zma zmc : Nat} {bx nw : Nat → Nat} {cd ln : Nat → Nat} (hB : BxOk bx) (hN : HdOk bx nw) : MV l yX7_layTeeth cX7_layTeeth 4 none 3 D (Ty3 cI cC cB) [.ref h] [mO h q zmu zmk zmz zms zma zmc, (q 0, .inl (cI, 54, .inl (fun z_ => nI (bx z_)))), (q 2, .inl (cI, 76, .inl (fun z_ => nI (nw z_)))), (q 10, .inl (cI, 24, .inl (fun z_ => nI (cd z_)))), (q 11, .inl (cI, 24, .inl (fun z_ => nI (ln z_))))] (fun (u : va_W) => (∃ cd2 : Nat → Nat, ∃ ln2 : Nat → Nat, (∀ j, j < mnN bx → cd2 j = cdN bx j ∧ ln2 j = bmN (fun k_ => hcN bx nw k_ j) (nw 2)) ∧ u = [mO h q zmu zmk zmz zms zma (mnN bx), (q 0, .inl (cI, 54, .inl (fun z_ => nI (bx z_)))), (q 2, .inl (cI, 76, .inl (fun z_ => nI (nw z_)))), (q 10, .inl (cI, 24, .inl (fun z_ => nI (cd2 z_)))), (q 11, .inl (cI, 24, .inl (fun z_ => nI (ln2 z_))))])) := by
  intro sz
  refine MV.walk (by decide +kernel) (Nat.le_of_ble_eq_true rfl) ?_
  intro p e s m args below meth c A Qf hx hb hml hts hown hret hK hP hD hS hA ls hl
  have hown : s.vm.findClass RX7 = some m.cls := hown
  have hl : lv_has ls 4 [(0, .ref h)] := hl
  have hP : va_P D vwCl [mO h q zmu zmk zmz zms zma zmc, (q 0, .inl (cI, 54, .inl (fun z_ => nI (bx z_)))), (q 2, .inl (cI, 76, .inl (fun z_ => nI (nw z_)))), (q 10, .inl (cI, 24, .inl (fun z_ => nI (cd z_)))), (q 11, .inl (cI, 24, .inl (fun z_ => nI (ln z_))))] s.heap := hP
  have hD : va_D A [mO h q zmu zmk zmz zms zma zmc, (q 0, .inl (cI, 54, .inl (fun z_ => nI (bx z_)))), (q 2, .inl (cI, 76, .inl (fun z_ => nI (nw z_)))), (q 10, .inl (cI, 24, .inl (fun z_ => nI (cd z_)))), (q 11, .inl (cI, 24, .inl (fun z_ => nI (ln z_))))] := hD
  have h12_q := hN.h
  have hw_q := hB.w
  refine lv_aload_n hx hb dX7_layTeeth_0 rfl (lv_at hl 0 rfl) ?_
  refine lv_iconst (v := nI 0) hx hb dX7_layTeeth_1 (by decide) ?_
  refine pf_7_213 hx hb hts hown hK hP hD hS 0 rfl (Nat.le_of_ble_eq_true rfl) dX7_layTeeth_2 (fun H locs hP hD hS => ?_)
  have hP : va_P D vwCl [mO h q zmu zmk zmz zms zma 0, (q 0, .inl (cI, 54, .inl (fun z_ => nI (bx z_)))), (q 2, .inl (cI, 76, .inl (fun z_ => nI (nw z_)))), (q 10, .inl (cI, 24, .inl (fun z_ => nI (cd z_)))), (q 11, .inl (cI, 24, .inl (fun z_ => nI (ln z_))))] _ := hP
  have hD : va_D A [mO h q zmu zmk zmz zms zma 0, (q 0, .inl (cI, 54, .inl (fun z_ => nI (bx z_)))), (q 2, .inl (cI, 76, .inl (fun z_ => nI (nw z_)))), (q 10, .inl (cI, 24, .inl (fun z_ => nI (cd z_)))), (q 11, .inl (cI, 24, .inl (fun z_ => nI (ln z_))))] := hD
  refine lv_iconst (v := nI 0) hx hb dX7_layTeeth_5 (by decide) ?_
  refine lv_istore_n (lv' := [(1, .int (nI (0))), (0, .ref h)]) hx hb dX7_layTeeth_6 rfl hl (by decide) rfl (fun ls hl => ?_)
  have loop_7 : ∀ (N : Nat) (cz : Nat) (z : Nat) (cd1 : Nat → Nat) (ln1 : Nat → Nat), (cz ≤ 40) → (z = cnP (kcB bx) cz) → (LyR bx nw cz cd1 ln1) → (40 - cz) < N → ∀ (H : Heap) (locs : List Loc), va_P D vwCl [mO h q zmu zmk zmz zms zma z, (q 0, .inl (cI, 54, .inl (fun z_ => nI (bx z_)))), (q 2, .inl (cI, 76, .inl (fun z_ => nI (nw z_)))), (q 10, .inl (cI, 24, .inl (fun z_ => nI (cd1 z_)))), (q 11, .inl (cI, 24, .inl (fun z_ => nI (ln1 z_))))] H → va_D A [mO h q zmu zmk zmz zms zma z, (q 0, .inl (cI, 54, .inl (fun z_ => nI (bx z_)))), (q 2, .inl (cI, 76, .inl (fun z_ => nI (nw z_)))), (q 10, .inl (cI, 24, .inl (fun z_ => nI (cd1 z_)))), (q 11, .inl (cI, 24, .inl (fun z_ => nI (ln1 z_))))] → va_S A s.heap H locs → ∀ ls : Array Slot, lv_has ls 4 [(1, .int (nI (cz))), (0, .ref h)] → W p l e (rmL 3) s m args below meth c H locs 0 0 Qf (F0 m 7 ls []) := by
    intro N; induction N with
    | zero => intro cz z cd1 ln1 _ _ _ hm; omega
    | succ N ih_7 =>
      intro cz z cd1 ln1 hc hz hly hm H locs hP hD hS ls hl
      refine lv_iload_n hx hb dX7_layTeeth_7 rfl (lv_at hl 0 rfl) ?_
      refine lv_bipush (v := nI 40) hx hb dX7_layTeeth_8 (by decide) ?_
      refine n_icmp_ge (tgt := 118) hx hb dX7_layTeeth_10 (by decide) (by omega) (by decide) (fun c_1 => ?_) (fun c_1 => ?_)
      · -- 10 to 118
        refine hret hP hD hS dX7_layTeeth_118 rfl ?_
        have hc40_q : cz = 40 := by omega
        subst hc40_q
        exact ⟨_, _, ly_e hB hly, by rw [hz, kc_m hB]⟩
      · -- 10 to 13
        refine lv_aload_n hx hb dX7_layTeeth_13 rfl (lv_at hl 1 rfl) ?_
        refine lv_iload_n hx hb dX7_layTeeth_14 rfl (lv_at hl 0 rfl) ?_
        refine lv_bipush (v := nI 10) hx hb dX7_layTeeth_15 (by decide) ?_
        refine n_idiv hx hb dX7_layTeeth_17 (by omega) (by omega) (by omega) ?_
        refine lv_iload_n hx hb dX7_layTeeth_18 rfl (lv_at hl 0 rfl) ?_
        refine lv_bipush (v := nI 10) hx hb dX7_layTeeth_19 (by decide) ?_
        refine n_irem hx hb dX7_layTeeth_21 (by omega) (by omega) (by omega) ?_
        refine cl_7_190 (As := [.int (nI (cz / 10)), .int (nI (cz % 10))]) (rest := []) hx hb hml hts hown (k_X7_isTooth (by first | assumption | omega)) (by decide) ⟨Nat.zero_le _, Nat.zero_le _⟩ hK hP hD hS hA 0 rfl [0, 1] rfl (by decide) rfl hl.1 rfl (Nat.le_of_ble_eq_true rfl) dX7_layTeeth_22 (fun r_2 u H locs hp_3 hP hD hS => ?_)
        obtain ⟨rfl, rfl⟩ := hp_3
        have hP : va_P D vwCl [mO h q zmu zmk zmz zms zma z, (q 0, .inl (cI, 54, .inl (fun z_ => nI (bx z_)))), (q 2, .inl (cI, 76, .inl (fun z_ => nI (nw z_)))), (q 10, .inl (cI, 24, .inl (fun z_ => nI (cd1 z_)))), (q 11, .inl (cI, 24, .inl (fun z_ => nI (ln1 z_))))] _ := hP
        have hD : va_D A [mO h q zmu zmk zmz zms zma z, (q 0, .inl (cI, 54, .inl (fun z_ => nI (bx z_)))), (q 2, .inl (cI, 76, .inl (fun z_ => nI (nw z_)))), (q 10, .inl (cI, 24, .inl (fun z_ => nI (cd1 z_)))), (q 11, .inl (cI, 24, .inl (fun z_ => nI (ln1 z_))))] := hD
        refine n_ifb_eq (tgt := 112) hx hb dX7_layTeeth_25 (by decide) (fun c_4 => ?_) (fun c_4 => ?_)
        · -- 25 to 112
          have hkc_q : kcB bx cz = false := (kc_in hB (by omega)).symm.trans c_4
          refine lv_iinc (v := nI (cz + 1)) (lv' := [(1, .int (nI (cz + 1))), (0, .ref h)]) hx hb dX7_layTeeth_112 hl (k := 0) rfl (n_inc _ 1) (by decide) rfl (fun ls hl => ?_)
          refine lv_goto (tgt := 7) hx hb dX7_layTeeth_115 (by decide) ?_
          exact ih_7 (cz + 1) z cd1 ln1 (by omega) (by first | rw [cp_t hkc_q, hz] | rw [cp_f hkc_q, hz]) (by first | exact ly_f hkc_q hly | (rw [hv9_q]; exact ly_t hkc_q hz hly)) (by omega) _ _ hP hD hS _ (lv_sub hl [0, 1] rfl)
        · -- 25 to 28
          have hkc_q : kcB bx cz = true := (kc_in hB (by omega)).symm.trans c_4
          have hc10_q : cz / 10 < bx 0 := (of_decide_eq_true hkc_q).1
          have hk24_q := (ep_k hkc_q 40 (by omega)).1
          rw [kc_m hB] at hk24_q
          have hmn_q := mn_le bx
          refine lv_iconst (v := nI 0) hx hb dX7_layTeeth_28 (by decide) ?_
          refine lv_istore_n (lv' := [(2, .int (nI (0))), (1, .int (nI (cz))), (0, .ref h)]) hx hb dX7_layTeeth_29 rfl hl (by decide) rfl (fun ls hl => ?_)
          refine lv_iconst (v := nI 0) hx hb dX7_layTeeth_30 (by decide) ?_
          refine lv_istore_n (lv' := [(3, .int (nI (0))), (2, .int (nI (0))), (1, .int (nI (cz))), (0, .ref h)]) hx hb dX7_layTeeth_31 rfl hl (by decide) rfl (fun ls hl => ?_)
          have loop_32 : ∀ (N : Nat) (v : Nat) (k : Nat), (k ≤ nw 2) → (v = bmN (tcB bx nw cz) k) → (nw 2 - k) < N → ∀ (H : Heap) (locs : List Loc), va_P D vwCl [mO h q zmu zmk zmz zms zma z, (q 0, .inl (cI, 54, .inl (fun z_ => nI (bx z_)))), (q 2, .inl (cI, 76, .inl (fun z_ => nI (nw z_)))), (q 10, .inl (cI, 24, .inl (fun z_ => nI (cd1 z_)))), (q 11, .inl (cI, 24, .inl (fun z_ => nI (ln1 z_))))] H → va_D A [mO h q zmu zmk zmz zms zma z, (q 0, .inl (cI, 54, .inl (fun z_ => nI (bx z_)))), (q 2, .inl (cI, 76, .inl (fun z_ => nI (nw z_)))), (q 10, .inl (cI, 24, .inl (fun z_ => nI (cd1 z_)))), (q 11, .inl (cI, 24, .inl (fun z_ => nI (ln1 z_))))] → va_S A s.heap H locs → ∀ ls : Array Slot, lv_has ls 4 [(3, .int (nI (k))), (2, .int (nI (v))), (1, .int (nI (cz))), (0, .ref h)] → W p l e (rmL 3) s m args below meth c H locs 0 0 Qf (F0 m 32 ls []) := by
            intro N; induction N with
            | zero => intro v k _ _ hm; omega
            | succ N ih_32 =>
              intro v k hk hv hm H locs hP hD hS ls hl
              refine lv_iload_n hx hb dX7_layTeeth_32 rfl (lv_at hl 0 rfl) ?_
              refine lv_aload_n hx hb dX7_layTeeth_33 rfl (lv_at hl 3 rfl) ?_
              refine gf_7_16 hx hb hts hown hK hP 0 rfl rfl dX7_layTeeth_34 ?_
              refine lv_iconst (v := nI 2) hx hb dX7_layTeeth_37 (by decide) ?_
              refine n_iald hx hb hK hP 2 0 rfl rfl dX7_layTeeth_38 (by decide) (by omega) ?_
              have hb_5 := hN.bd 2
              refine n_icmp_ge (tgt := 82) hx hb dX7_layTeeth_39 (by decide) (by omega) (by omega) (fun c_6 => ?_) (fun c_6 => ?_)
              · -- 39 to 82
                have hkn_q : k = nw 2 := by omega
                have hv9_q : v = bmN (tcB bx nw cz) (nw 2) := by rw [hv, hkn_q]
                refine lv_aload_n hx hb dX7_layTeeth_82 rfl (lv_at hl 3 rfl) ?_
                refine gf_7_40 hx hb hts hown hK hP 0 rfl rfl dX7_layTeeth_83 ?_
                refine lv_aload_n hx hb dX7_layTeeth_86 rfl (lv_at hl 3 rfl) ?_
                refine gf_7_213 hx hb hts hown hK hP 0 rfl rfl dX7_layTeeth_87 ?_
                refine lv_iload_n hx hb dX7_layTeeth_90 rfl (lv_at hl 2 rfl) ?_
                refine n_iast hx hb hK hP hD hS 3 0 rfl rfl dX7_layTeeth_91 (by decide) (by omega) (fun H locs hP hD hS => ?_)
                have hP : va_P D vwCl [mO h q zmu zmk zmz zms zma z, (q 0, .inl (cI, 54, .inl (fun z_ => nI (bx z_)))), (q 2, .inl (cI, 76, .inl (fun z_ => nI (nw z_)))), (q 10, .inl (cI, 24, .inl (fun z_ => nI ((up1 cd1 z cz) z_)))), (q 11, .inl (cI, 24, .inl (fun z_ => nI (ln1 z_))))] _ := hP
                have hD : va_D A [mO h q zmu zmk zmz zms zma z, (q 0, .inl (cI, 54, .inl (fun z_ => nI (bx z_)))), (q 2, .inl (cI, 76, .inl (fun z_ => nI (nw z_)))), (q 10, .inl (cI, 24, .inl (fun z_ => nI ((up1 cd1 z cz) z_)))), (q 11, .inl (cI, 24, .inl (fun z_ => nI (ln1 z_))))] := hD
                refine lv_aload_n hx hb dX7_layTeeth_92 rfl (lv_at hl 3 rfl) ?_
                refine gf_7_43 hx hb hts hown hK hP 0 rfl rfl dX7_layTeeth_93 ?_
                refine lv_aload_n hx hb dX7_layTeeth_96 rfl (lv_at hl 3 rfl) ?_
                refine gf_7_213 hx hb hts hown hK hP 0 rfl rfl dX7_layTeeth_97 ?_
                refine lv_iload_n hx hb dX7_layTeeth_100 rfl (lv_at hl 1 rfl) ?_
                refine n_iast hx hb hK hP hD hS 4 0 rfl rfl dX7_layTeeth_101 (by decide) (by omega) (fun H locs hP hD hS => ?_)
                have hP : va_P D vwCl [mO h q zmu zmk zmz zms zma z, (q 0, .inl (cI, 54, .inl (fun z_ => nI (bx z_)))), (q 2, .inl (cI, 76, .inl (fun z_ => nI (nw z_)))), (q 10, .inl (cI, 24, .inl (fun z_ => nI ((up1 cd1 z cz) z_)))), (q 11, .inl (cI, 24, .inl (fun z_ => nI ((up1 ln1 z v) z_))))] _ := hP
                have hD : va_D A [mO h q zmu zmk zmz zms zma z, (q 0, .inl (cI, 54, .inl (fun z_ => nI (bx z_)))), (q 2, .inl (cI, 76, .inl (fun z_ => nI (nw z_)))), (q 10, .inl (cI, 24, .inl (fun z_ => nI ((up1 cd1 z cz) z_)))), (q 11, .inl (cI, 24, .inl (fun z_ => nI ((up1 ln1 z v) z_))))] := hD
                refine lv_aload_n hx hb dX7_layTeeth_102 rfl (lv_at hl 3 rfl) ?_
                refine lv_dup hx hb dX7_layTeeth_103 rfl ?_
                refine gf_7_213 hx hb hts hown hK hP 0 rfl rfl dX7_layTeeth_104 ?_
                refine lv_iconst (v := nI 1) hx hb dX7_layTeeth_107 (by decide) ?_
                refine n_iadd hx hb dX7_layTeeth_108  ?_
                refine pf_7_213 hx hb hts hown hK hP hD hS 0 rfl (Nat.le_of_ble_eq_true rfl) dX7_layTeeth_109 (fun H locs hP hD hS => ?_)
                have hP : va_P D vwCl [mO h q zmu zmk zmz zms zma (z + 1), (q 0, .inl (cI, 54, .inl (fun z_ => nI (bx z_)))), (q 2, .inl (cI, 76, .inl (fun z_ => nI (nw z_)))), (q 10, .inl (cI, 24, .inl (fun z_ => nI ((up1 cd1 z cz) z_)))), (q 11, .inl (cI, 24, .inl (fun z_ => nI ((up1 ln1 z v) z_))))] _ := hP
                have hD : va_D A [mO h q zmu zmk zmz zms zma (z + 1), (q 0, .inl (cI, 54, .inl (fun z_ => nI (bx z_)))), (q 2, .inl (cI, 76, .inl (fun z_ => nI (nw z_)))), (q 10, .inl (cI, 24, .inl (fun z_ => nI ((up1 cd1 z cz) z_)))), (q 11, .inl (cI, 24, .inl (fun z_ => nI ((up1 ln1 z v) z_))))] := hD
                refine lv_iinc (v := nI (cz + 1)) (lv' := [(1, .int (nI (cz + 1))), (3, .int (nI (k))), (2, .int (nI (v))), (0, .ref h)]) hx hb dX7_layTeeth_112 hl (k := 2) rfl (n_inc _ 1) (by decide) rfl (fun ls hl => ?_)
                refine lv_goto (tgt := 7) hx hb dX7_layTeeth_115 (by decide) ?_
                exact ih_7 (cz + 1) (z + 1) (up1 cd1 z cz) (up1 ln1 z v) (by omega) (by first | rw [cp_t hkc_q, hz] | rw [cp_f hkc_q, hz]) (by first | exact ly_f hkc_q hly | (rw [hv9_q]; exact ly_t hkc_q hz hly)) (by omega) _ _ hP hD hS _ (lv_sub hl [0, 3] rfl)
              · -- 39 to 42
                refine lv_iload_n hx hb dX7_layTeeth_42 rfl (lv_at hl 1 rfl) ?_
                refine lv_aload_n hx hb dX7_layTeeth_43 rfl (lv_at hl 3 rfl) ?_
                refine lv_aload_n hx hb dX7_layTeeth_44 rfl (lv_at hl 3 rfl) ?_
                refine gf_7_16 hx hb hts hown hK hP 0 rfl rfl dX7_layTeeth_45 ?_
                refine lv_bipush (v := nI 16) hx hb dX7_layTeeth_48 (by decide) ?_
                refine lv_iload_n hx hb dX7_layTeeth_50 rfl (lv_at hl 0 rfl) ?_
                refine n_iadd hx hb dX7_layTeeth_51  ?_
                refine n_iald hx hb hK hP 2 0 rfl rfl dX7_layTeeth_52 (by decide) (by omega) ?_
                have hb_7 := hN.bd (16 + k)
                refine lv_iload_n hx hb dX7_layTeeth_53 rfl (lv_at hl 2 rfl) ?_
                refine lv_bipush (v := nI 10) hx hb dX7_layTeeth_54 (by decide) ?_
                refine n_idiv hx hb dX7_layTeeth_56 (by omega) (by omega) (by omega) ?_
                have hxk_q := (hN.k k (by omega)).1
                have hsz_q := sz_lt hB
                refine cl_7_133 (As := [.int (nI (nw (16 + k))), .int (nI (cz / 10))]) (rest := [.int (nI (v))]) hx hb hml hts hown (k_X7_toothOf hB hc10_q (by omega)) (by decide) ⟨Nat.zero_le _, Nat.zero_le _⟩ hK hP hD hS hA 0 rfl [0, 1] rfl (by decide) rfl hl.1 rfl (Nat.le_of_ble_eq_true rfl) dX7_layTeeth_57 (fun r_8 u H locs hp_9 hP hD hS => ?_)
                obtain ⟨rfl, rfl⟩ := hp_9
                have hP : va_P D vwCl [mO h q zmu zmk zmz zms zma z, (q 0, .inl (cI, 54, .inl (fun z_ => nI (bx z_)))), (q 2, .inl (cI, 76, .inl (fun z_ => nI (nw z_)))), (q 10, .inl (cI, 24, .inl (fun z_ => nI (cd1 z_)))), (q 11, .inl (cI, 24, .inl (fun z_ => nI (ln1 z_))))] _ := hP
                have hD : va_D A [mO h q zmu zmk zmz zms zma z, (q 0, .inl (cI, 54, .inl (fun z_ => nI (bx z_)))), (q 2, .inl (cI, 76, .inl (fun z_ => nI (nw z_)))), (q 10, .inl (cI, 24, .inl (fun z_ => nI (cd1 z_)))), (q 11, .inl (cI, 24, .inl (fun z_ => nI (ln1 z_))))] := hD
                refine lv_iload_n hx hb dX7_layTeeth_60 rfl (lv_at hl 2 rfl) ?_
                refine lv_bipush (v := nI 10) hx hb dX7_layTeeth_61 (by decide) ?_
                refine n_irem hx hb dX7_layTeeth_63 (by omega) (by omega) (by omega) ?_
                have hto_q := hB.too (nw (16 + k)) (cz / 10) hc10_q
                refine n_icmp_ne (tgt := 73) hx hb dX7_layTeeth_64 (by decide) (by omega) (by omega) (fun c_10 => ?_) (fun c_10 => ?_)
                · -- 64 to 73
                  have htc_q : tcB bx nw cz k = false := decide_eq_false c_10
                  refine lv_iconst (v := nI 0) hx hb dX7_layTeeth_73 (by decide) ?_
                  refine n_ior hx hb dX7_layTeeth_74  ?_
                  refine lv_istore_n (lv' := [(2, .int (nI (v ||| 0))), (3, .int (nI (k))), (1, .int (nI (cz))), (0, .ref h)]) hx hb dX7_layTeeth_75 rfl hl (by decide) rfl (fun ls hl => ?_)
                  refine lv_iinc (v := nI (k + 1)) (lv' := [(3, .int (nI (k + 1))), (2, .int (nI (v ||| 0))), (1, .int (nI (cz))), (0, .ref h)]) hx hb dX7_layTeeth_76 hl (k := 1) rfl (n_inc _ 1) (by decide) rfl (fun ls hl => ?_)
                  refine lv_goto (tgt := 32) hx hb dX7_layTeeth_79 (by decide) ?_
                  exact ih_32 (v ||| 0) (k + 1) (by omega) (by rw [hv]; first | exact bm_t htc_q | exact bm_f htc_q) (by omega) _ _ hP hD hS _ (lv_sub hl [0, 1, 2, 3] rfl)
                · -- 64 to 67
                  have htc_q : tcB bx nw cz k = true := decide_eq_true c_10
                  refine lv_iconst (v := nI 1) hx hb dX7_layTeeth_67 (by decide) ?_
                  refine lv_iload_n hx hb dX7_layTeeth_68 rfl (lv_at hl 0 rfl) ?_
                  refine n_ishl hx hb dX7_layTeeth_69 (by omega) ?_
                  refine lv_goto (tgt := 74) hx hb dX7_layTeeth_70 (by decide) ?_
                  refine n_ior hx hb dX7_layTeeth_74  ?_
                  refine lv_istore_n (lv' := [(2, .int (nI (v ||| (1 * 2 ^ k)))), (3, .int (nI (k))), (1, .int (nI (cz))), (0, .ref h)]) hx hb dX7_layTeeth_75 rfl hl (by decide) rfl (fun ls hl => ?_)
                  refine lv_iinc (v := nI (k + 1)) (lv' := [(3, .int (nI (k + 1))), (2, .int (nI (v ||| (1 * 2 ^ k)))), (1, .int (nI (cz))), (0, .ref h)]) hx hb dX7_layTeeth_76 hl (k := 1) rfl (n_inc _ 1) (by decide) rfl (fun ls hl => ?_)
                  refine lv_goto (tgt := 32) hx hb dX7_layTeeth_79 (by decide) ?_
                  exact ih_32 (v ||| (1 * 2 ^ k)) (k + 1) (by omega) (by rw [hv]; first | exact bm_t htc_q | exact bm_f htc_q) (by omega) _ _ hP hD hS _ (lv_sub hl [0, 1, 2, 3] rfl)
          exact loop_32 _ 0 0 (by omega) rfl (Nat.lt_succ_self _) _ _ hP hD hS _ (lv_sub hl [0, 1, 2, 3] rfl)
  exact loop_7 _ 0 0 cd ln (by omega) rfl ly_0 (Nat.lt_succ_self _) _ _ hP hD hS _ (lv_sub hl [0, 1] rfl)
set_option maxHeartbeats 4000000 in
set_option maxRecDepth 100000 in
theorem k_X7_leansOn {l : Launch} {D : va_G} {cI cC cB : ClassId} {h : Nat} {q : Nat → Nat} {zmu zmk zmz zms zma : Nat} {bx nw : Nat → Nat} {ln ch : Nat → Nat} {y F n : Nat} {tu : Nat → Nat} (hB : BxOk bx) (hN : HdOk bx nw) (hT : IsT bx nw y F tu) (hF : F ≤ 6) (hn : n ≤ F) (hln : ∀ j, j < mnN bx → ln j = bmN (fun k_ => hcN bx nw k_ j) (nw 2)) : MI l yX7_leansOn cX7_leansOn 6 (some .boolean) 0 D (Ty3 cI cC cB) [.ref h, .int (nI (hbN nw y (nw 2))), .int (nI (n))] [mO h q zmu zmk zmz zms zma (mnN bx), (q 11, .inl (cI, 24, .inl (fun z_ => nI (ln z_)))), (q 12, .inl (cI, 7, .inl (fun z_ => nI (ch z_))))] (fun r u => (∃ ch2 : Nat → Nat, (n = F → ∀ i, i < F → ch2 i = tu i) ∧ r = nI (b2n (decide (n = F))) ∧ u = [mO h q zmu zmk zmz zms zma (mnN bx), (q 11, .inl (cI, 24, .inl (fun z_ => nI (ln z_)))), (q 12, .inl (cI, 7, .inl (fun z_ => nI (ch2 z_))))])) := by
  intro sz
  refine MI.walk (by decide +kernel) (Nat.le_of_ble_eq_true rfl) ?_
  intro p e s m args below meth c A Qf hx hb hml hts hown hret hK hP hD hS hA ls hl
  have hown : s.vm.findClass RX7 = some m.cls := hown
  have hl : lv_has ls 6 [(0, .ref h), (1, .int (nI (hbN nw y (nw 2)))), (2, .int (nI (n)))] := hl
  have hP : va_P D vwCl [mO h q zmu zmk zmz zms zma (mnN bx), (q 11, .inl (cI, 24, .inl (fun z_ => nI (ln z_)))), (q 12, .inl (cI, 7, .inl (fun z_ => nI (ch z_))))] s.heap := hP
  have hD : va_D A [mO h q zmu zmk zmz zms zma (mnN bx), (q 11, .inl (cI, 24, .inl (fun z_ => nI (ln z_)))), (q 12, .inl (cI, 7, .inl (fun z_ => nI (ch z_))))] := hD
  have h12_q := hN.h
  have hmn_q := mn_le bx
  have hnm_q : n ≤ mnN bx := by rcases Nat.eq_zero_or_pos n with h9 | h9; omega; have := (in_le hT.1 (show 0 < F by omega)).1; omega
  have hhb_q : hbN nw y (nw 2) < 4096 := hb_12 h12_q
  refine lv_iconst (v := nI 0) hx hb dX7_leansOn_0 (by decide) ?_
  refine lv_istore_n (lv' := [(3, .int (nI (0))), (0, .ref h), (1, .int (nI (hbN nw y (nw 2)))), (2, .int (nI (n)))]) hx hb dX7_leansOn_1 rfl hl (by decide) rfl (fun ls hl => ?_)
  have loop_2 : ∀ (N : Nat) (k : Nat) (g : Nat → Nat), (k ≤ n) → (∀ i, i < k → g i = i) → (n - k) < N → ∀ (H : Heap) (locs : List Loc), va_P D vwCl [mO h q zmu zmk zmz zms zma (mnN bx), (q 11, .inl (cI, 24, .inl (fun z_ => nI (ln z_)))), (q 12, .inl (cI, 7, .inl (fun z_ => nI (g z_))))] H → va_D A [mO h q zmu zmk zmz zms zma (mnN bx), (q 11, .inl (cI, 24, .inl (fun z_ => nI (ln z_)))), (q 12, .inl (cI, 7, .inl (fun z_ => nI (g z_))))] → va_S A s.heap H locs → ∀ ls : Array Slot, lv_has ls 6 [(3, .int (nI (k))), (0, .ref h), (1, .int (nI (hbN nw y (nw 2)))), (2, .int (nI (n)))] → W p l e (rmL 0) s m args below meth c H locs 0 0 Qf (F0 m 2 ls []) := by
    intro N; induction N with
    | zero => intro k g _ _ hm; omega
    | succ N ih_2 =>
      intro k g hk hg hm H locs hP hD hS ls hl
      refine lv_iload_n hx hb dX7_leansOn_2 rfl (lv_at hl 0 rfl) ?_
      refine lv_iload_n hx hb dX7_leansOn_3 rfl (lv_at hl 3 rfl) ?_
      refine n_icmp_ge (tgt := 20) hx hb dX7_leansOn_4 (by decide) (by omega) (by omega) (fun c_1 => ?_) (fun c_1 => ?_)
      · -- 4 to 20
        have loop_20 : ∀ (N : Nat) (ch1 : Nat → Nat), (InC (mnN bx) n ch1) → (∀ u_, InC (mnN bx) n u_ → CvS (hcN bx nw) (nw 2) (fun k_ => decide (nw (40 + k_) = y)) n u_ → ¬ LxS u_ ch1 n) → (25 ^ n - nuN ch1 n) < N → ∀ (H : Heap) (locs : List Loc), va_P D vwCl [mO h q zmu zmk zmz zms zma (mnN bx), (q 11, .inl (cI, 24, .inl (fun z_ => nI (ln z_)))), (q 12, .inl (cI, 7, .inl (fun z_ => nI (ch1 z_))))] H → va_D A [mO h q zmu zmk zmz zms zma (mnN bx), (q 11, .inl (cI, 24, .inl (fun z_ => nI (ln z_)))), (q 12, .inl (cI, 7, .inl (fun z_ => nI (ch1 z_))))] → va_S A s.heap H locs → ∀ ls : Array Slot, lv_has ls 6 [(0, .ref h), (1, .int (nI (hbN nw y (nw 2)))), (2, .int (nI (n)))] → W p l e (rmL 0) s m args below meth c H locs 0 0 Qf (F0 m 20 ls []) := by
          intro N; induction N with
          | zero => intro ch1 _ _ hm; omega
          | succ N ih_20 =>
            intro ch1 hI hmin hm H locs hP hD hS ls hl
            refine lv_iconst (v := nI 0) hx hb dX7_leansOn_20 (by decide) ?_
            refine lv_istore_n (lv' := [(3, .int (nI (0))), (0, .ref h), (1, .int (nI (hbN nw y (nw 2)))), (2, .int (nI (n)))]) hx hb dX7_leansOn_21 rfl hl (by decide) rfl (fun ls hl => ?_)
            refine lv_iconst (v := nI 0) hx hb dX7_leansOn_22 (by decide) ?_
            refine lv_istore (lv' := [(4, .int (nI (0))), (3, .int (nI (0))), (0, .ref h), (1, .int (nI (hbN nw y (nw 2)))), (2, .int (nI (n)))]) hx hb dX7_leansOn_23 hl (by decide) rfl (fun ls hl => ?_)
            have loop_25 : ∀ (N : Nat) (v : Nat) (ez : Nat), (ez ≤ n) → (v = orN ln ch1 ez) → (n - ez) < N → ∀ (H : Heap) (locs : List Loc), va_P D vwCl [mO h q zmu zmk zmz zms zma (mnN bx), (q 11, .inl (cI, 24, .inl (fun z_ => nI (ln z_)))), (q 12, .inl (cI, 7, .inl (fun z_ => nI (ch1 z_))))] H → va_D A [mO h q zmu zmk zmz zms zma (mnN bx), (q 11, .inl (cI, 24, .inl (fun z_ => nI (ln z_)))), (q 12, .inl (cI, 7, .inl (fun z_ => nI (ch1 z_))))] → va_S A s.heap H locs → ∀ ls : Array Slot, lv_has ls 6 [(4, .int (nI (ez))), (3, .int (nI (v))), (0, .ref h), (1, .int (nI (hbN nw y (nw 2)))), (2, .int (nI (n)))] → W p l e (rmL 0) s m args below meth c H locs 0 0 Qf (F0 m 25 ls []) := by
              intro N; induction N with
              | zero => intro v ez _ _ hm; omega
              | succ N ih_25 =>
                intro v ez he hv hm H locs hP hD hS ls hl
                refine lv_iload hx hb dX7_leansOn_25 (lv_at hl 0 rfl) ?_
                refine lv_iload_n hx hb dX7_leansOn_27 rfl (lv_at hl 4 rfl) ?_
                refine n_icmp_ge (tgt := 52) hx hb dX7_leansOn_28 (by decide) (by omega) (by omega) (fun c_2 => ?_) (fun c_2 => ?_)
                · -- 28 to 52
                  refine lv_iload_n hx hb dX7_leansOn_52 rfl (lv_at hl 3 rfl) ?_
                  refine lv_iload_n hx hb dX7_leansOn_53 rfl (lv_at hl 1 rfl) ?_
                  refine lv_iconst (v := (-1)) hx hb dX7_leansOn_54 (by decide) ?_
                  refine lv_ixor hx hb dX7_leansOn_55 ?_
                  refine lv_iand hx hb dX7_leansOn_56 ?_
                  rw [andn_e]
                  have han_q : anN (hbN nw y (nw 2)) v < 4096 := an_lt (n := 12) _ hhb_q
                  have hen_q : ez = n := by omega
                  have hve_q : v = orN ln ch1 n := by rw [hv, hen_q]
                  refine n_if_ne (tgt := 62) hx hb dX7_leansOn_57 (by decide) (by omega) (fun c_3 => ?_) (fun c_3 => ?_)
                  · -- 57 to 62
                    have hnc_q : ¬ CvS (hcN bx nw) (nw 2) (fun k_ => decide (nw (40 + k_) = y)) n ch1 := fun h9 => c_3 (by rw [hve_q]; exact (le_cv hln hI).mpr h9)
                    refine lv_iload_n hx hb dX7_leansOn_62 rfl (lv_at hl 4 rfl) ?_
                    refine lv_iconst (v := nI 1) hx hb dX7_leansOn_63 (by decide) ?_
                    refine lv_isub hx hb dX7_leansOn_64 ?_
                    refine lv_istore (lv' := [(4, .int (nI (n) - nI (1))), (3, .int (nI (v))), (0, .ref h), (1, .int (nI (hbN nw y (nw 2)))), (2, .int (nI (n)))]) hx hb dX7_leansOn_65 hl (by decide) rfl (fun ls hl => ?_)
                    have loop_67 : ∀ (N : Nat) (k : Nat), (k ≤ n) → (∀ i, k ≤ i → i < n → ch1 i = mnN bx - n + i) → k < N → ∀ (H : Heap) (locs : List Loc), va_P D vwCl [mO h q zmu zmk zmz zms zma (mnN bx), (q 11, .inl (cI, 24, .inl (fun z_ => nI (ln z_)))), (q 12, .inl (cI, 7, .inl (fun z_ => nI (ch1 z_))))] H → va_D A [mO h q zmu zmk zmz zms zma (mnN bx), (q 11, .inl (cI, 24, .inl (fun z_ => nI (ln z_)))), (q 12, .inl (cI, 7, .inl (fun z_ => nI (ch1 z_))))] → va_S A s.heap H locs → ∀ ls : Array Slot, lv_has ls 6 [(4, .int (nI k - 1)), (3, .int (nI (v))), (0, .ref h), (1, .int (nI (hbN nw y (nw 2)))), (2, .int (nI (n)))] → W p l e (rmL 0) s m args below meth c H locs 0 0 Qf (F0 m 67 ls []) := by
                      intro N; induction N with
                      | zero => intro k _ _ hm; omega
                      | succ N ih_67 =>
                        intro k hk hfull hm H locs hP hD hS ls hl
                        refine lv_iload hx hb dX7_leansOn_67 (lv_at hl 0 rfl) ?_
                        refine lv_if_lt (tgt := 97) hx hb dX7_leansOn_69 (by decide) (fun c_4 => ?_) (fun c_4 => ?_)
                        · -- 69 to 97
                          have hk0 := nk_0 (by omega) c_4
                          subst hk0
                          rw [show (nI 0 - 1) = (-1 : Int32) by decide] at hl
                          refine lv_iload hx hb dX7_leansOn_97 (lv_at hl 0 rfl) ?_
                          refine lv_if_ge (tgt := 104) hx hb dX7_leansOn_99 (by decide) (fun c_5 => ?_) (fun c_5 => ?_)
                          · exact absurd c_5 (by decide)
                          · -- 99 to 102
                            refine lv_iconst (v := nI 0) hx hb dX7_leansOn_102 (by decide) ?_
                            refine hret hP hD hS dX7_leansOn_103 (by decide) rfl ?_
                            exact ⟨_, fun h9 => absurd h9 (lo_0 hT hmin hnc_q hfull), by rw [decide_eq_false (lo_0 hT hmin hnc_q hfull)]; rfl, rfl⟩
                        · -- 69 to 72
                          obtain ⟨j, rfl⟩ := nk_s (by omega) c_4
                          rw [nI_pred] at hl
                          refine lv_aload_n hx hb dX7_leansOn_72 rfl (lv_at hl 2 rfl) ?_
                          refine gf_7_46 hx hb hts hown hK hP 0 rfl rfl dX7_leansOn_73 ?_
                          refine lv_iload hx hb dX7_leansOn_76 (lv_at hl 0 rfl) ?_
                          have hcj_q := hI.2 j (by omega)
                          refine n_iald hx hb hK hP 2 0 rfl rfl dX7_leansOn_78 (by decide) (by omega) ?_
                          refine lv_aload_n hx hb dX7_leansOn_79 rfl (lv_at hl 2 rfl) ?_
                          refine gf_7_213 hx hb hts hown hK hP 0 rfl rfl dX7_leansOn_80 ?_
                          refine lv_iload_n hx hb dX7_leansOn_83 rfl (lv_at hl 4 rfl) ?_
                          refine n_isub hx hb dX7_leansOn_84 (by omega) ?_
                          refine lv_iload hx hb dX7_leansOn_85 (lv_at hl 0 rfl) ?_
                          refine n_iadd hx hb dX7_leansOn_87  ?_
                          refine n_icmp_ne (tgt := 97) hx hb dX7_leansOn_88 (by decide) (by omega) (by omega) (fun c_6 => ?_) (fun c_6 => ?_)
                          · -- 88 to 97
                            have hne_q := c_6
                            refine lv_iload hx hb dX7_leansOn_97 (lv_at hl 0 rfl) ?_
                            refine n_if_ge (tgt := 104) hx hb dX7_leansOn_99 (by decide) (by omega) ?_
                            refine lv_aload_n hx hb dX7_leansOn_104 rfl (lv_at hl 2 rfl) ?_
                            refine gf_7_46 hx hb hts hown hK hP 0 rfl rfl dX7_leansOn_105 ?_
                            refine lv_iload hx hb dX7_leansOn_108 (lv_at hl 0 rfl) ?_
                            refine lv_dup2_11 hx hb dX7_leansOn_110 rfl rfl ?_
                            refine n_iald hx hb hK hP 2 0 rfl rfl dX7_leansOn_111 (by decide) (by omega) ?_
                            refine lv_iconst (v := nI 1) hx hb dX7_leansOn_112 (by decide) ?_
                            refine n_iadd hx hb dX7_leansOn_113  ?_
                            refine n_iast hx hb hK hP hD hS 2 0 rfl rfl dX7_leansOn_114 (by decide) (by omega) (fun H locs hP hD hS => ?_)
                            have hP : va_P D vwCl [mO h q zmu zmk zmz zms zma (mnN bx), (q 11, .inl (cI, 24, .inl (fun z_ => nI (ln z_)))), (q 12, .inl (cI, 7, .inl (fun z_ => nI ((up1 ch1 j ((ch1 j) + 1)) z_))))] _ := hP
                            have hD : va_D A [mO h q zmu zmk zmz zms zma (mnN bx), (q 11, .inl (cI, 24, .inl (fun z_ => nI (ln z_)))), (q 12, .inl (cI, 7, .inl (fun z_ => nI ((up1 ch1 j ((ch1 j) + 1)) z_))))] := hD
                            refine lv_iload hx hb dX7_leansOn_115 (lv_at hl 0 rfl) ?_
                            refine lv_iconst (v := nI 1) hx hb dX7_leansOn_117 (by decide) ?_
                            refine n_iadd hx hb dX7_leansOn_118  ?_
                            refine lv_istore (lv' := [(5, .int (nI (j + 1))), (4, .int (nI (j))), (3, .int (nI (v))), (0, .ref h), (1, .int (nI (hbN nw y (nw 2)))), (2, .int (nI (n)))]) hx hb dX7_leansOn_119 hl (by decide) rfl (fun ls hl => ?_)
                            have loop_121 : ∀ (N : Nat) (e1 : Nat) (g1 : Nat → Nat), (j + 1 ≤ e1) → (e1 ≤ n) → (g1 = nxF ch1 j e1) → (n - e1) < N → ∀ (H : Heap) (locs : List Loc), va_P D vwCl [mO h q zmu zmk zmz zms zma (mnN bx), (q 11, .inl (cI, 24, .inl (fun z_ => nI (ln z_)))), (q 12, .inl (cI, 7, .inl (fun z_ => nI (g1 z_))))] H → va_D A [mO h q zmu zmk zmz zms zma (mnN bx), (q 11, .inl (cI, 24, .inl (fun z_ => nI (ln z_)))), (q 12, .inl (cI, 7, .inl (fun z_ => nI (g1 z_))))] → va_S A s.heap H locs → ∀ ls : Array Slot, lv_has ls 6 [(5, .int (nI (e1))), (4, .int (nI (j))), (0, .ref h), (1, .int (nI (hbN nw y (nw 2)))), (2, .int (nI (n)))] → W p l e (rmL 0) s m args below meth c H locs 0 0 Qf (F0 m 121 ls []) := by
                              intro N; induction N with
                              | zero => intro e1 g1 _ _ _ hm; omega
                              | succ N ih_121 =>
                                intro e1 g1 he1 he2 hg1 hm H locs hP hD hS ls hl
                                refine lv_iload hx hb dX7_leansOn_121 (lv_at hl 0 rfl) ?_
                                refine lv_iload_n hx hb dX7_leansOn_123 rfl (lv_at hl 4 rfl) ?_
                                refine n_icmp_ge (tgt := 151) hx hb dX7_leansOn_124 (by decide) (by omega) (by omega) (fun c_8 => ?_) (fun c_8 => ?_)
                                · -- 124 to 151
                                  refine lv_goto (tgt := 20) hx hb dX7_leansOn_151 (by decide) ?_
                                  exact ih_20 g1 (by rw [hg1, show e1 = n by omega]; exact ny_I hI (by omega) hne_q) (by rw [hg1, show e1 = n by omega]; exact ny_min hI (by omega) hfull hmin hnc_q) (by rw [hg1, show e1 = n by omega]; have := ny_nu hmn_q hI (show j < n by omega) hne_q; omega) _ _ hP hD hS _ (lv_sub hl [2, 3, 4] rfl)
                                · -- 124 to 127
                                  refine lv_aload_n hx hb dX7_leansOn_127 rfl (lv_at hl 2 rfl) ?_
                                  refine gf_7_46 hx hb hts hown hK hP 0 rfl rfl dX7_leansOn_128 ?_
                                  refine lv_iload hx hb dX7_leansOn_131 (lv_at hl 0 rfl) ?_
                                  refine lv_aload_n hx hb dX7_leansOn_133 rfl (lv_at hl 2 rfl) ?_
                                  refine gf_7_46 hx hb hts hown hK hP 0 rfl rfl dX7_leansOn_134 ?_
                                  refine lv_iload hx hb dX7_leansOn_137 (lv_at hl 0 rfl) ?_
                                  refine lv_iconst (v := nI 1) hx hb dX7_leansOn_139 (by decide) ?_
                                  refine n_isub hx hb dX7_leansOn_140 (by omega) ?_
                                  refine n_iald hx hb hK hP 2 0 rfl rfl dX7_leansOn_141 (by decide) (by omega) ?_
                                  refine lv_iconst (v := nI 1) hx hb dX7_leansOn_142 (by decide) ?_
                                  refine n_iadd hx hb dX7_leansOn_143  ?_
                                  refine n_iast hx hb hK hP hD hS 2 0 rfl rfl dX7_leansOn_144 (by decide) (by omega) (fun H locs hP hD hS => ?_)
                                  have hP : va_P D vwCl [mO h q zmu zmk zmz zms zma (mnN bx), (q 11, .inl (cI, 24, .inl (fun z_ => nI (ln z_)))), (q 12, .inl (cI, 7, .inl (fun z_ => nI ((up1 g1 e1 ((g1 (e1 - 1)) + 1)) z_))))] _ := hP
                                  have hD : va_D A [mO h q zmu zmk zmz zms zma (mnN bx), (q 11, .inl (cI, 24, .inl (fun z_ => nI (ln z_)))), (q 12, .inl (cI, 7, .inl (fun z_ => nI ((up1 g1 e1 ((g1 (e1 - 1)) + 1)) z_))))] := hD
                                  refine lv_iinc (v := nI (e1 + 1)) (lv' := [(5, .int (nI (e1 + 1))), (4, .int (nI (j))), (0, .ref h), (1, .int (nI (hbN nw y (nw 2)))), (2, .int (nI (n)))]) hx hb dX7_leansOn_145 hl (k := 0) rfl (n_inc _ 1) (by decide) rfl (fun ls hl => ?_)
                                  refine lv_goto (tgt := 121) hx hb dX7_leansOn_148 (by decide) ?_
                                  exact ih_121 (e1 + 1) (up1 g1 e1 ((g1 (e1 - 1)) + 1)) (by omega) (by omega) (by rw [hg1]; exact ny_s (by omega)) (by omega) _ _ hP hD hS _ (lv_sub hl [0, 1, 2, 3, 4] rfl)
                            exact loop_121 _ (j + 1) (up1 ch1 j ((ch1 j) + 1)) (by omega) (by omega) ny_0 (Nat.lt_succ_self _) _ _ hP hD hS _ (lv_sub hl [0, 1, 3, 4, 5] rfl)
                          · -- 88 to 91
                            have heq_q := c_6
                            refine lv_iinc (v := nI j - 1) (lv' := [(4, .int (nI j - 1)), (3, .int (nI (v))), (0, .ref h), (1, .int (nI (hbN nw y (nw 2)))), (2, .int (nI (n)))]) hx hb dX7_leansOn_91 hl (k := 0) rfl (n_decI _) (by decide) rfl (fun ls hl => ?_)
                            refine lv_goto (tgt := 67) hx hb dX7_leansOn_94 (by decide) ?_
                            exact ih_67 j (by omega) (fu_s hfull heq_q) (by omega) _ _ hP hD hS _ (lv_sub hl [0, 1, 2, 3, 4] rfl)
                    exact loop_67 _ n (by omega) (fun i h8 h9 => absurd h9 (by omega)) (Nat.lt_succ_self _) _ _ hP hD hS _ (lv_sub hl [0, 1, 2, 3, 4] rfl)
                  · -- 57 to 60
                    have hcv_q : CvS (hcN bx nw) (nw 2) (fun k_ => decide (nw (40 + k_) = y)) n ch1 := (le_cv hln hI).mp (by rw [← hve_q]; exact c_3)
                    have hlo_q := lo_1 hT hn hI hmin hcv_q
                    refine lv_iconst (v := nI 1) hx hb dX7_leansOn_60 (by decide) ?_
                    refine hret hP hD hS dX7_leansOn_61 (by decide) rfl ?_
                    exact ⟨_, fun _ => hlo_q.2, by rw [decide_eq_true hlo_q.1]; rfl, rfl⟩
                · -- 28 to 31
                  refine lv_iload_n hx hb dX7_leansOn_31 rfl (lv_at hl 1 rfl) ?_
                  refine lv_aload_n hx hb dX7_leansOn_32 rfl (lv_at hl 2 rfl) ?_
                  refine gf_7_43 hx hb hts hown hK hP 0 rfl rfl dX7_leansOn_33 ?_
                  refine lv_aload_n hx hb dX7_leansOn_36 rfl (lv_at hl 2 rfl) ?_
                  refine gf_7_46 hx hb hts hown hK hP 0 rfl rfl dX7_leansOn_37 ?_
                  have hce_q := hI.2 ez (by omega)
                  refine lv_iload hx hb dX7_leansOn_40 (lv_at hl 0 rfl) ?_
                  refine n_iald hx hb hK hP 2 0 rfl rfl dX7_leansOn_42 (by decide) (by omega) ?_
                  refine n_iald hx hb hK hP 1 0 rfl rfl dX7_leansOn_43 (by decide) (by omega) ?_
                  refine n_ior hx hb dX7_leansOn_44  ?_
                  refine lv_istore_n (lv' := [(3, .int (nI (v ||| (ln (ch1 ez))))), (4, .int (nI (ez))), (0, .ref h), (1, .int (nI (hbN nw y (nw 2)))), (2, .int (nI (n)))]) hx hb dX7_leansOn_45 rfl hl (by decide) rfl (fun ls hl => ?_)
                  refine lv_iinc (v := nI (ez + 1)) (lv' := [(4, .int (nI (ez + 1))), (3, .int (nI (v ||| (ln (ch1 ez))))), (0, .ref h), (1, .int (nI (hbN nw y (nw 2)))), (2, .int (nI (n)))]) hx hb dX7_leansOn_46 hl (k := 1) rfl (n_inc _ 1) (by decide) rfl (fun ls hl => ?_)
                  refine lv_goto (tgt := 25) hx hb dX7_leansOn_49 (by decide) ?_
                  exact ih_25 (v ||| (ln (ch1 ez))) (ez + 1) (by omega) (by rw [hv]; rfl) (by omega) _ _ hP hD hS _ (lv_sub hl [0, 1, 2, 3, 4] rfl)
            exact loop_25 _ 0 0 (by omega) rfl (Nat.lt_succ_self _) _ _ hP hD hS _ (lv_sub hl [0, 1, 2, 3, 4] rfl)
        have hkn_q : k = n := by omega
        rw [hkn_q] at hg
        exact loop_20 _ g (id_I hg hnm_q) (id_min hg) (Nat.lt_succ_self _) _ _ hP hD hS _ (lv_sub hl [1, 2, 3] rfl)
      · -- 4 to 7
        refine lv_aload_n hx hb dX7_leansOn_7 rfl (lv_at hl 1 rfl) ?_
        refine gf_7_46 hx hb hts hown hK hP 0 rfl rfl dX7_leansOn_8 ?_
        refine lv_iload_n hx hb dX7_leansOn_11 rfl (lv_at hl 0 rfl) ?_
        refine lv_iload_n hx hb dX7_leansOn_12 rfl (lv_at hl 0 rfl) ?_
        refine n_iast hx hb hK hP hD hS 2 0 rfl rfl dX7_leansOn_13 (by decide) (by omega) (fun H locs hP hD hS => ?_)
        have hP : va_P D vwCl [mO h q zmu zmk zmz zms zma (mnN bx), (q 11, .inl (cI, 24, .inl (fun z_ => nI (ln z_)))), (q 12, .inl (cI, 7, .inl (fun z_ => nI ((up1 g k k) z_))))] _ := hP
        have hD : va_D A [mO h q zmu zmk zmz zms zma (mnN bx), (q 11, .inl (cI, 24, .inl (fun z_ => nI (ln z_)))), (q 12, .inl (cI, 7, .inl (fun z_ => nI ((up1 g k k) z_))))] := hD
        refine lv_iinc (v := nI (k + 1)) (lv' := [(3, .int (nI (k + 1))), (0, .ref h), (1, .int (nI (hbN nw y (nw 2)))), (2, .int (nI (n)))]) hx hb dX7_leansOn_14 hl (k := 0) rfl (n_inc _ 1) (by decide) rfl (fun ls hl => ?_)
        refine lv_goto (tgt := 2) hx hb dX7_leansOn_17 (by decide) ?_
        exact ih_2 (k + 1) (up1 g k k) (by omega) (id_s hg) (by omega) _ _ hP hD hS _ (lv_sub hl [0, 1, 2, 3] rfl)
  exact loop_2 _ 0 ch (by omega) (fun i hi => absurd hi (Nat.not_lt_zero i)) (Nat.lt_succ_self _) _ _ hP hD hS _ (lv_sub hl [0, 1, 2, 3] rfl)
set_option maxHeartbeats 4000000 in
set_option maxRecDepth 100000 in
theorem k_X7_teeth {l : Launch} {D : va_G} {cI cC cB : ClassId} {h : Nat} {q : Nat → Nat} {zmu zmk zmz zms zma zmc : Nat} {bx nw : Nat → Nat} {cd ln ch tu : Nat → Nat} {F : Nat} {x w : Int32} (hB : BxOk bx) (hN : HdOk bx nw) (hT : inN x (bx 1) = true → IsT bx nw (ix x) F tu) (hF : F ≤ 6) : MI l yX7_teeth cX7_teeth 5 (some .int) 4 D (Ty3 cI cC cB) [.ref h, .int (x), .int (w)] [mO h q zmu zmk zmz zms zma zmc, (q 0, .inl (cI, 54, .inl (fun z_ => nI (bx z_)))), (q 2, .inl (cI, 76, .inl (fun z_ => nI (nw z_)))), (q 10, .inl (cI, 24, .inl (fun z_ => nI (cd z_)))), (q 11, .inl (cI, 24, .inl (fun z_ => nI (ln z_)))), (q 12, .inl (cI, 7, .inl (fun z_ => nI (ch z_))))] (fun r u => (∃ zc2 : Nat, ∃ cd2 : Nat → Nat, ∃ ln2 : Nat → Nat, ∃ ch2 : Nat → Nat, r = teA bx F tu x w ∧ u = [mO h q zmu zmk zmz zms zma zc2, (q 0, .inl (cI, 54, .inl (fun z_ => nI (bx z_)))), (q 2, .inl (cI, 76, .inl (fun z_ => nI (nw z_)))), (q 10, .inl (cI, 24, .inl (fun z_ => nI (cd2 z_)))), (q 11, .inl (cI, 24, .inl (fun z_ => nI (ln2 z_)))), (q 12, .inl (cI, 7, .inl (fun z_ => nI (ch2 z_))))])) := by
  intro sz
  refine MI.walk (by decide +kernel) (Nat.le_of_ble_eq_true rfl) ?_
  intro p e s m args below meth c A Qf hx hb hml hts hown hret hK hP hD hS hA ls hl
  have hown : s.vm.findClass RX7 = some m.cls := hown
  have hl : lv_has ls 5 [(0, .ref h), (1, .int (x)), (2, .int (w))] := hl
  have hP : va_P D vwCl [mO h q zmu zmk zmz zms zma zmc, (q 0, .inl (cI, 54, .inl (fun z_ => nI (bx z_)))), (q 2, .inl (cI, 76, .inl (fun z_ => nI (nw z_)))), (q 10, .inl (cI, 24, .inl (fun z_ => nI (cd z_)))), (q 11, .inl (cI, 24, .inl (fun z_ => nI (ln z_)))), (q 12, .inl (cI, 7, .inl (fun z_ => nI (ch z_))))] s.heap := hP
  have hD : va_D A [mO h q zmu zmk zmz zms zma zmc, (q 0, .inl (cI, 54, .inl (fun z_ => nI (bx z_)))), (q 2, .inl (cI, 76, .inl (fun z_ => nI (nw z_)))), (q 10, .inl (cI, 24, .inl (fun z_ => nI (cd z_)))), (q 11, .inl (cI, 24, .inl (fun z_ => nI (ln z_)))), (q 12, .inl (cI, 7, .inl (fun z_ => nI (ch z_))))] := hD
  have h12_q := hN.h
  have hpn_q := hB.n
  refine lv_aload_n hx hb dX7_teeth_0 rfl (lv_at hl 0 rfl) ?_
  refine lv_iload_n hx hb dX7_teeth_1 rfl (lv_at hl 1 rfl) ?_
  refine cl_7_169 (As := [.int (x)]) (rest := []) hx hb hml hts hown (k_X7_isPerson (by first | assumption | omega)) (by decide) ⟨Nat.zero_le _, Nat.zero_le _⟩ hK hP hD hS hA 0 rfl [0, 1] rfl (by decide) rfl hl.1 rfl (Nat.le_of_ble_eq_true rfl) dX7_teeth_2 (fun r_1 u H locs hp_2 hP hD hS => ?_)
  obtain ⟨rfl, rfl⟩ := hp_2
  have hP : va_P D vwCl [mO h q zmu zmk zmz zms zma zmc, (q 0, .inl (cI, 54, .inl (fun z_ => nI (bx z_)))), (q 2, .inl (cI, 76, .inl (fun z_ => nI (nw z_)))), (q 10, .inl (cI, 24, .inl (fun z_ => nI (cd z_)))), (q 11, .inl (cI, 24, .inl (fun z_ => nI (ln z_)))), (q 12, .inl (cI, 7, .inl (fun z_ => nI (ch z_))))] _ := hP
  have hD : va_D A [mO h q zmu zmk zmz zms zma zmc, (q 0, .inl (cI, 54, .inl (fun z_ => nI (bx z_)))), (q 2, .inl (cI, 76, .inl (fun z_ => nI (nw z_)))), (q 10, .inl (cI, 24, .inl (fun z_ => nI (cd z_)))), (q 11, .inl (cI, 24, .inl (fun z_ => nI (ln z_)))), (q 12, .inl (cI, 7, .inl (fun z_ => nI (ch z_))))] := hD
  refine n_ifb_eq (tgt := 22) hx hb dX7_teeth_5 (by decide) (fun c_3 => ?_) (fun c_3 => ?_)
  · -- 5 to 22
    refine lv_iconst (v := (-1)) hx hb dX7_teeth_22 (by decide) ?_
    refine hret hP hD hS dX7_teeth_23 rfl rfl ?_
    exact ⟨_, _, _, _, by first | exact te_n1 (by assumption) | exact te_n2 hwv_q, rfl⟩
  · -- 5 to 8
    obtain ⟨j, hj, rfl⟩ := inN_e (by have := hB.bd 1; omega) c_3
    have hij_q : ix (nI j) = j := ix_n (by have := hB.bd 1; omega)
    have hT_q := hT (by assumption)
    rw [hij_q] at hT_q
    refine lv_iload_n hx hb dX7_teeth_8 rfl (lv_at hl 2 rfl) ?_
    refine lv_i2l (v := (w).toInt64) hx hb dX7_teeth_9 rfl ?_
    refine lv_ldc2 (v := (-1)) hx hb hown (hts _ tw_1009) dX7_teeth_10 ?_
    refine lv_ldc2 (v := lN 7) hx hb hown (hts _ tw_1010) dX7_teeth_13 ?_
    refine cl_7_67 (As := [.long ((w).toInt64), .long ((-1 : Int64)), .long (lN (7))]) (rest := []) hx hb hml hts hown (k_X7_in ) (by decide) ⟨Nat.zero_le _, Nat.zero_le _⟩ hK hP hD hS hA [] rfl (by decide) rfl hl.1 rfl (Nat.le_of_ble_eq_true rfl) dX7_teeth_16 (fun r_4 u H locs hp_5 hP hD hS => ?_)
    obtain ⟨rfl, rfl⟩ := hp_5
    have hP : va_P D vwCl [mO h q zmu zmk zmz zms zma zmc, (q 0, .inl (cI, 54, .inl (fun z_ => nI (bx z_)))), (q 2, .inl (cI, 76, .inl (fun z_ => nI (nw z_)))), (q 10, .inl (cI, 24, .inl (fun z_ => nI (cd z_)))), (q 11, .inl (cI, 24, .inl (fun z_ => nI (ln z_)))), (q 12, .inl (cI, 7, .inl (fun z_ => nI (ch z_))))] _ := hP
    have hD : va_D A [mO h q zmu zmk zmz zms zma zmc, (q 0, .inl (cI, 54, .inl (fun z_ => nI (bx z_)))), (q 2, .inl (cI, 76, .inl (fun z_ => nI (nw z_)))), (q 10, .inl (cI, 24, .inl (fun z_ => nI (cd z_)))), (q 11, .inl (cI, 24, .inl (fun z_ => nI (ln z_)))), (q 12, .inl (cI, 7, .inl (fun z_ => nI (ch z_))))] := hD
    refine n_ifb_ne (tgt := 24) hx hb dX7_teeth_19 (by decide) (fun c_6 => ?_) (fun c_6 => ?_)
    · -- 19 to 24
      have hwv_q := (wv_l w).trans c_6
      refine lv_aload_n hx hb dX7_teeth_24 rfl (lv_at hl 0 rfl) ?_
      refine lv_iload_n hx hb dX7_teeth_25 rfl (lv_at hl 1 rfl) ?_
      refine cl_7_220 (As := [.int (nI (j))]) (rest := []) hx hb hml hts hown (k_X7_heardBy hN.bd h12_q (by omega)) (by decide) ⟨Nat.zero_le _, Nat.zero_le _⟩ hK hP hD hS hA 0 rfl [0, 2] rfl (by decide) rfl hl.1 rfl (Nat.le_of_ble_eq_true rfl) dX7_teeth_26 (fun r_7 u H locs hp_8 hP hD hS => ?_)
      obtain ⟨rfl, rfl⟩ := hp_8
      have hP : va_P D vwCl [mO h q zmu zmk zmz zms zma zmc, (q 0, .inl (cI, 54, .inl (fun z_ => nI (bx z_)))), (q 2, .inl (cI, 76, .inl (fun z_ => nI (nw z_)))), (q 10, .inl (cI, 24, .inl (fun z_ => nI (cd z_)))), (q 11, .inl (cI, 24, .inl (fun z_ => nI (ln z_)))), (q 12, .inl (cI, 7, .inl (fun z_ => nI (ch z_))))] _ := hP
      have hD : va_D A [mO h q zmu zmk zmz zms zma zmc, (q 0, .inl (cI, 54, .inl (fun z_ => nI (bx z_)))), (q 2, .inl (cI, 76, .inl (fun z_ => nI (nw z_)))), (q 10, .inl (cI, 24, .inl (fun z_ => nI (cd z_)))), (q 11, .inl (cI, 24, .inl (fun z_ => nI (ln z_)))), (q 12, .inl (cI, 7, .inl (fun z_ => nI (ch z_))))] := hD
      refine lv_istore_n (lv' := [(3, .int (nI (hbN nw j (nw 2)))), (0, .ref h), (1, .int (nI (j))), (2, .int (w))]) hx hb dX7_teeth_29 rfl hl (by decide) rfl (fun ls hl => ?_)
      refine lv_aload_n hx hb dX7_teeth_30 rfl (lv_at hl 1 rfl) ?_
      refine cl_7_223 (As := []) (rest := []) hx hb hml hts hown (k_X7_layTeeth hB hN) (by decide) ⟨Nat.zero_le _, Nat.zero_le _⟩ hK hP hD hS hA 0 rfl [0, 1, 2, 3, 4] rfl (by decide) rfl hl.1 rfl (Nat.le_of_ble_eq_true rfl) dX7_teeth_31 (fun  u H locs hp_9 hP hD hS => ?_)
      obtain ⟨z_10, z_11, hq_12, rfl⟩ := hp_9
      have hP : va_P D vwCl [mO h q zmu zmk zmz zms zma (mnN bx), (q 0, .inl (cI, 54, .inl (fun z_ => nI (bx z_)))), (q 2, .inl (cI, 76, .inl (fun z_ => nI (nw z_)))), (q 10, .inl (cI, 24, .inl (fun z_ => nI (z_10 z_)))), (q 11, .inl (cI, 24, .inl (fun z_ => nI (z_11 z_)))), (q 12, .inl (cI, 7, .inl (fun z_ => nI (ch z_))))] _ := hP
      have hD : va_D A [mO h q zmu zmk zmz zms zma (mnN bx), (q 0, .inl (cI, 54, .inl (fun z_ => nI (bx z_)))), (q 2, .inl (cI, 76, .inl (fun z_ => nI (nw z_)))), (q 10, .inl (cI, 24, .inl (fun z_ => nI (z_10 z_)))), (q 11, .inl (cI, 24, .inl (fun z_ => nI (z_11 z_)))), (q 12, .inl (cI, 7, .inl (fun z_ => nI (ch z_))))] := hD
      have hly_q := hq_12
      refine lv_iconst (v := nI 0) hx hb dX7_teeth_34 (by decide) ?_
      refine lv_istore (lv' := [(4, .int (nI (0))), (3, .int (nI (hbN nw j (nw 2)))), (0, .ref h), (1, .int (nI (j))), (2, .int (w))]) hx hb dX7_teeth_35 hl (by decide) rfl (fun ls hl => ?_)
      have loop_37 : ∀ (N : Nat) (n : Nat) (ch1 : Nat → Nat), (n ≤ F) → (F - n) < N → ∀ (H : Heap) (locs : List Loc), va_P D vwCl [mO h q zmu zmk zmz zms zma (mnN bx), (q 0, .inl (cI, 54, .inl (fun z_ => nI (bx z_)))), (q 2, .inl (cI, 76, .inl (fun z_ => nI (nw z_)))), (q 10, .inl (cI, 24, .inl (fun z_ => nI (z_10 z_)))), (q 11, .inl (cI, 24, .inl (fun z_ => nI (z_11 z_)))), (q 12, .inl (cI, 7, .inl (fun z_ => nI (ch1 z_))))] H → va_D A [mO h q zmu zmk zmz zms zma (mnN bx), (q 0, .inl (cI, 54, .inl (fun z_ => nI (bx z_)))), (q 2, .inl (cI, 76, .inl (fun z_ => nI (nw z_)))), (q 10, .inl (cI, 24, .inl (fun z_ => nI (z_10 z_)))), (q 11, .inl (cI, 24, .inl (fun z_ => nI (z_11 z_)))), (q 12, .inl (cI, 7, .inl (fun z_ => nI (ch1 z_))))] → va_S A s.heap H locs → ∀ ls : Array Slot, lv_has ls 5 [(4, .int (nI (n))), (3, .int (nI (hbN nw j (nw 2)))), (0, .ref h), (1, .int (nI (j))), (2, .int (w))] → W p l e (rmL 4) s m args below meth c H locs 0 0 Qf (F0 m 37 ls []) := by
        intro N; induction N with
        | zero => intro n ch1 _ hm; omega
        | succ N ih_37 =>
          intro n ch1 hn hm H locs hP hD hS ls hl
          refine lv_aload_n hx hb dX7_teeth_37 rfl (lv_at hl 2 rfl) ?_
          refine lv_iload_n hx hb dX7_teeth_38 rfl (lv_at hl 1 rfl) ?_
          refine lv_iload hx hb dX7_teeth_39 (lv_at hl 0 rfl) ?_
          refine cl_7_226 (As := [.int (nI (hbN nw j (nw 2))), .int (nI (n))]) (rest := []) hx hb hml hts hown (k_X7_leansOn hB hN hT_q hF hn (fun j_ h9 => (hly_q j_ h9).2)) (by decide) ⟨Nat.zero_le _, Nat.zero_le _⟩ hK hP hD hS hA 0 rfl [0, 4, 5] rfl (by decide) rfl hl.1 rfl (Nat.le_of_ble_eq_true rfl) dX7_teeth_41 (fun r_13 u H locs hp_14 hP hD hS => ?_)
          obtain ⟨z_15, hq_16, rfl, rfl⟩ := hp_14
          have hP : va_P D vwCl [mO h q zmu zmk zmz zms zma (mnN bx), (q 0, .inl (cI, 54, .inl (fun z_ => nI (bx z_)))), (q 2, .inl (cI, 76, .inl (fun z_ => nI (nw z_)))), (q 10, .inl (cI, 24, .inl (fun z_ => nI (z_10 z_)))), (q 11, .inl (cI, 24, .inl (fun z_ => nI (z_11 z_)))), (q 12, .inl (cI, 7, .inl (fun z_ => nI (z_15 z_))))] _ := hP
          have hD : va_D A [mO h q zmu zmk zmz zms zma (mnN bx), (q 0, .inl (cI, 54, .inl (fun z_ => nI (bx z_)))), (q 2, .inl (cI, 76, .inl (fun z_ => nI (nw z_)))), (q 10, .inl (cI, 24, .inl (fun z_ => nI (z_10 z_)))), (q 11, .inl (cI, 24, .inl (fun z_ => nI (z_11 z_)))), (q 12, .inl (cI, 7, .inl (fun z_ => nI (z_15 z_))))] := hD
          have hch_q := hq_16
          refine n_ifb_ne (tgt := 53) hx hb dX7_teeth_44 (by decide) (fun c_17 => ?_) (fun c_17 => ?_)
          · -- 44 to 53
            have hnF_q : n = F := of_decide_eq_true c_17
            have hcf_q := hch_q hnF_q
            refine lv_iload_n hx hb dX7_teeth_53 rfl (lv_at hl 4 rfl) ?_
            refine lv_if_ge (tgt := 62) hx hb dX7_teeth_54 (by decide) (fun c_18 => ?_) (fun c_18 => ?_)
            · -- 54 to 62
              obtain ⟨k, hk7, rfl⟩ := tw_g hwv_q c_18
              have hik_q : ix (nI k) = k := ix_n (by omega)
              refine lv_iload_n hx hb dX7_teeth_62 rfl (lv_at hl 4 rfl) ?_
              refine lv_iload hx hb dX7_teeth_63 (lv_at hl 0 rfl) ?_
              refine n_icmp_ge (tgt := 82) hx hb dX7_teeth_65 (by decide) (by omega) (by omega) (fun c_19 => ?_) (fun c_19 => ?_)
              · -- 65 to 82
                refine lv_bipush (v := (-4)) hx hb dX7_teeth_82 (by decide) ?_
                refine hret hP hD hS dX7_teeth_84 rfl rfl ?_
                exact ⟨_, _, _, _, te_n (by assumption) hwv_q (kn_m1 (by omega)) hik_q (by omega), rfl⟩
              · -- 65 to 68
                refine lv_aload_n hx hb dX7_teeth_68 rfl (lv_at hl 2 rfl) ?_
                refine gf_7_40 hx hb hts hown hK hP 0 rfl rfl dX7_teeth_69 ?_
                refine lv_aload_n hx hb dX7_teeth_72 rfl (lv_at hl 2 rfl) ?_
                refine gf_7_46 hx hb hts hown hK hP 0 rfl rfl dX7_teeth_73 ?_
                refine lv_iload_n hx hb dX7_teeth_76 rfl (lv_at hl 4 rfl) ?_
                refine n_iald hx hb hK hP 5 0 rfl rfl dX7_teeth_77 (by decide) (by omega) ?_
                refine n_iald hx hb hK hP 3 0 rfl rfl dX7_teeth_78 (by decide) (by have := hT_q.1.2 k (by omega); have := mn_le bx; rw [hcf_q k (by omega)]; omega) ?_
                refine lv_goto (tgt := 84) hx hb dX7_teeth_79 (by decide) ?_
                refine hret hP hD hS dX7_teeth_84 rfl rfl ?_
                have htk_q := hT_q.1.2 k (by omega)
                exact ⟨_, _, _, _, by rw [hcf_q k (by omega), (hly_q _ htk_q).1, cdN]; exact te_v (by assumption) hwv_q (kn_m1 (by omega)) hik_q (by omega), rfl⟩
            · -- 54 to 57
              have hm1_q := tw_f hwv_q c_18
              refine lv_iload hx hb dX7_teeth_57 (lv_at hl 0 rfl) ?_
              refine lv_goto (tgt := 84) hx hb dX7_teeth_59 (by decide) ?_
              refine hret hP hD hS dX7_teeth_84 rfl rfl ?_
              exact ⟨_, _, _, _, by rw [hnF_q]; exact te_f (by assumption) hwv_q hm1_q, rfl⟩
          · -- 44 to 47
            have hnF_q : n ≠ F := of_decide_eq_false c_17
            refine lv_iinc (v := nI (n + 1)) (lv' := [(4, .int (nI (n + 1))), (3, .int (nI (hbN nw j (nw 2)))), (0, .ref h), (1, .int (nI (j))), (2, .int (w))]) hx hb dX7_teeth_47 hl (k := 0) rfl (n_inc _ 1) (by decide) rfl (fun ls hl => ?_)
            refine lv_goto (tgt := 37) hx hb dX7_teeth_50 (by decide) ?_
            exact ih_37 (n + 1) z_15 (by omega) (by omega) _ _ hP hD hS _ (lv_sub hl [0, 1, 2, 3, 4] rfl)
      exact loop_37 _ 0 ch (Nat.zero_le _) (Nat.lt_succ_self _) _ _ hP hD hS _ (lv_sub hl [0, 1, 2, 3, 4] rfl)
    · -- 19 to 22
      have hwv_q := (wv_l w).trans c_6
      refine lv_iconst (v := (-1)) hx hb dX7_teeth_22 (by decide) ?_
      refine hret hP hD hS dX7_teeth_23 rfl rfl ?_
      exact ⟨_, _, _, _, by first | exact te_n1 (by assumption) | exact te_n2 hwv_q, rfl⟩
set_option maxHeartbeats 4000000 in
set_option maxRecDepth 100000 in
theorem k_X7_clash {l : Launch} {D : va_G} {cI cC cB : ClassId} {h : Nat} {q : Nat → Nat} {zmu zmk zmz zms zma zmc : Nat} {bx : Nat → Nat} {x y : Nat} (hB : BxOk bx) (hx1 : x < 2147483648) (hy1 : y < 2147483648) : MI l yX7_clash cX7_clash 5 (some .boolean) 1 D (Ty3 cI cC cB) [.ref h, .int (nI (x)), .int (nI (y))] [mO h q zmu zmk zmz zms zma zmc, (q 0, .inl (cI, 54, .inl (fun z_ => nI (bx z_))))] (fun r u => (r = nI (b2n (clI bx x y (bx 0))) ∧ u = [mO h q zmu zmk zmz zms zma zmc, (q 0, .inl (cI, 54, .inl (fun z_ => nI (bx z_))))])) := by
  intro sz
  refine MI.walk (by decide +kernel) (Nat.le_of_ble_eq_true rfl) ?_
  intro p e s m args below meth c A Qf hx hb hml hts hown hret hK hP hD hS hA ls hl
  have hown : s.vm.findClass RX7 = some m.cls := hown
  have hl : lv_has ls 5 [(0, .ref h), (1, .int (nI (x))), (2, .int (nI (y)))] := hl
  have hP : va_P D vwCl [mO h q zmu zmk zmz zms zma zmc, (q 0, .inl (cI, 54, .inl (fun z_ => nI (bx z_))))] s.heap := hP
  have hD : va_D A [mO h q zmu zmk zmz zms zma zmc, (q 0, .inl (cI, 54, .inl (fun z_ => nI (bx z_))))] := hD
  have hw_q := hB.w
  refine lv_aload_n hx hb dX7_clash_0 rfl (lv_at hl 0 rfl) ?_
  refine gf_7_7 hx hb hts hown hK hP 0 rfl rfl dX7_clash_1 ?_
  refine lv_iconst (v := nI 0) hx hb dX7_clash_4 (by decide) ?_
  refine n_iald hx hb hK hP 1 0 rfl rfl dX7_clash_5 (by decide) (by omega) ?_
  have hb_1 := hB.bd 0
  refine lv_iconst (v := nI 1) hx hb dX7_clash_6 (by decide) ?_
  refine n_icmp_le (tgt := 29) hx hb dX7_clash_7 (by decide) (by omega) (by decide) (fun c_2 => ?_) (fun c_2 => ?_)
  · -- 7 to 29
    have hc1_q := c_2
    refine lv_iconst (v := nI 0) hx hb dX7_clash_29 (by decide) ?_
    refine lv_istore_n (lv' := [(3, .int (nI (0))), (0, .ref h), (1, .int (nI (x))), (2, .int (nI (y)))]) hx hb dX7_clash_30 rfl hl (by decide) rfl (fun ls hl => ?_)
    refine lv_iconst (v := nI 1) hx hb dX7_clash_31 (by decide) ?_
    refine lv_istore (lv' := [(4, .int (nI (1))), (3, .int (nI (0))), (0, .ref h), (1, .int (nI (x))), (2, .int (nI (y)))]) hx hb dX7_clash_32 hl (by decide) rfl (fun ls hl => ?_)
    have loop_34 : ∀ (N : Nat) (z : Nat) (i : Nat), (i ≤ bx 0) → (1 ≤ i) → (z = b2n (clI bx x y i)) → (bx 0 - i) < N → ∀ (H : Heap) (locs : List Loc), va_P D vwCl [mO h q zmu zmk zmz zms zma zmc, (q 0, .inl (cI, 54, .inl (fun z_ => nI (bx z_))))] H → va_D A [mO h q zmu zmk zmz zms zma zmc, (q 0, .inl (cI, 54, .inl (fun z_ => nI (bx z_))))] → va_S A s.heap H locs → ∀ ls : Array Slot, lv_has ls 5 [(4, .int (nI (i))), (3, .int (nI (z))), (0, .ref h), (1, .int (nI (x))), (2, .int (nI (y)))] → W p l e (rmL 1) s m args below meth c H locs 0 0 Qf (F0 m 34 ls []) := by
      intro N; induction N with
      | zero => intro z i _ _ _ hm; omega
      | succ N ih_34 =>
        intro z i hi hi1 hz hm H locs hP hD hS ls hl
        have hz1 : z ≤ 1 := by rw [hz]; exact b2n_le _
        refine lv_iload hx hb dX7_clash_34 (lv_at hl 0 rfl) ?_
        refine lv_aload_n hx hb dX7_clash_36 rfl (lv_at hl 2 rfl) ?_
        refine gf_7_7 hx hb hts hown hK hP 0 rfl rfl dX7_clash_37 ?_
        refine lv_iconst (v := nI 0) hx hb dX7_clash_40 (by decide) ?_
        refine n_iald hx hb hK hP 1 0 rfl rfl dX7_clash_41 (by decide) (by omega) ?_
        have hb_3 := hB.bd 0
        refine n_icmp_ge (tgt := 78) hx hb dX7_clash_42 (by decide) (by omega) (by omega) (fun c_4 => ?_) (fun c_4 => ?_)
        · -- 42 to 78
          refine lv_iload_n hx hb dX7_clash_78 rfl (lv_at hl 1 rfl) ?_
          refine hret hP hD hS dX7_clash_79 (by rw [hz]; exact b2n_nar _) rfl ?_
          exact ⟨by rw [hz, show i = bx 0 by omega], rfl⟩
        · -- 42 to 45
          refine lv_iload_n hx hb dX7_clash_45 rfl (lv_at hl 1 rfl) ?_
          refine n_if_eq (tgt := 70) hx hb dX7_clash_46 (by decide) (by omega) (fun c_5 => ?_) (fun c_5 => ?_)
          · -- 46 to 70
            refine lv_iconst (v := nI 0) hx hb dX7_clash_70 (by decide) ?_
            refine lv_istore_n (lv' := [(3, .int (nI (0))), (4, .int (nI (i))), (0, .ref h), (1, .int (nI (x))), (2, .int (nI (y)))]) hx hb dX7_clash_71 rfl hl (by decide) rfl (fun ls hl => ?_)
            refine lv_iinc (v := nI (i + 1)) (lv' := [(4, .int (nI (i + 1))), (3, .int (nI (0))), (0, .ref h), (1, .int (nI (x))), (2, .int (nI (y)))]) hx hb dX7_clash_72 hl (k := 1) rfl (n_inc _ 1) (by decide) rfl (fun ls hl => ?_)
            refine lv_goto (tgt := 34) hx hb dX7_clash_75 (by decide) ?_
            exact ih_34 0 (i + 1) (by omega) (by omega) (by first | exact z_a0 hz (by assumption) | exact z_a1 (cl_qf (by omega) (by assumption)) | exact z_a2 hz (by assumption) (cl_qt (by assumption))) (by omega) _ _ hP hD hS _ (lv_sub hl [0, 1, 2, 3, 4] rfl)
          · -- 46 to 49
            refine lv_aload_n hx hb dX7_clash_49 rfl (lv_at hl 2 rfl) ?_
            refine lv_iload_n hx hb dX7_clash_50 rfl (lv_at hl 3 rfl) ?_
            refine lv_iload hx hb dX7_clash_51 (lv_at hl 0 rfl) ?_
            refine cl_7_133 (As := [.int (nI (x)), .int (nI (i))]) (rest := []) hx hb hml hts hown (k_X7_toothOf (by first | assumption | omega) (by first | assumption | omega) (by first | assumption | omega)) (by decide) ⟨Nat.zero_le _, Nat.zero_le _⟩ hK hP hD hS hA 0 rfl [0, 1] rfl (by decide) rfl hl.1 rfl (Nat.le_of_ble_eq_true rfl) dX7_clash_53 (fun r_6 u H locs hp_7 hP hD hS => ?_)
            obtain ⟨rfl, rfl⟩ := hp_7
            have hP : va_P D vwCl [mO h q zmu zmk zmz zms zma zmc, (q 0, .inl (cI, 54, .inl (fun z_ => nI (bx z_))))] _ := hP
            have hD : va_D A [mO h q zmu zmk zmz zms zma zmc, (q 0, .inl (cI, 54, .inl (fun z_ => nI (bx z_))))] := hD
            refine lv_aload_n hx hb dX7_clash_56 rfl (lv_at hl 2 rfl) ?_
            refine lv_iload_n hx hb dX7_clash_57 rfl (lv_at hl 4 rfl) ?_
            refine lv_iload hx hb dX7_clash_58 (lv_at hl 0 rfl) ?_
            refine cl_7_133 (As := [.int (nI (y)), .int (nI (i))]) (rest := [.int (nI (tooN bx x i))]) hx hb hml hts hown (k_X7_toothOf (by first | assumption | omega) (by first | assumption | omega) (by first | assumption | omega)) (by decide) ⟨Nat.zero_le _, Nat.zero_le _⟩ hK hP hD hS hA 0 rfl [0, 1] rfl (by decide) rfl hl.1 rfl (Nat.le_of_ble_eq_true rfl) dX7_clash_60 (fun r_8 u H locs hp_9 hP hD hS => ?_)
            obtain ⟨rfl, rfl⟩ := hp_9
            have hP : va_P D vwCl [mO h q zmu zmk zmz zms zma zmc, (q 0, .inl (cI, 54, .inl (fun z_ => nI (bx z_))))] _ := hP
            have hD : va_D A [mO h q zmu zmk zmz zms zma zmc, (q 0, .inl (cI, 54, .inl (fun z_ => nI (bx z_))))] := hD
            have hto3_q := hB.too x i (by omega)
            have hto4_q := hB.too y i (by omega)
            refine n_icmp_eq (tgt := 70) hx hb dX7_clash_63 (by decide) (by omega) (by omega) (fun c_10 => ?_) (fun c_10 => ?_)
            · -- 63 to 70
              refine lv_iconst (v := nI 0) hx hb dX7_clash_70 (by decide) ?_
              refine lv_istore_n (lv' := [(3, .int (nI (0))), (4, .int (nI (i))), (0, .ref h), (1, .int (nI (x))), (2, .int (nI (y)))]) hx hb dX7_clash_71 rfl hl (by decide) rfl (fun ls hl => ?_)
              refine lv_iinc (v := nI (i + 1)) (lv' := [(4, .int (nI (i + 1))), (3, .int (nI (0))), (0, .ref h), (1, .int (nI (x))), (2, .int (nI (y)))]) hx hb dX7_clash_72 hl (k := 1) rfl (n_inc _ 1) (by decide) rfl (fun ls hl => ?_)
              refine lv_goto (tgt := 34) hx hb dX7_clash_75 (by decide) ?_
              exact ih_34 0 (i + 1) (by omega) (by omega) (by first | exact z_a0 hz (by assumption) | exact z_a1 (cl_qf (by omega) (by assumption)) | exact z_a2 hz (by assumption) (cl_qt (by assumption))) (by omega) _ _ hP hD hS _ (lv_sub hl [0, 1, 2, 3, 4] rfl)
            · -- 63 to 66
              refine lv_iconst (v := nI 1) hx hb dX7_clash_66 (by decide) ?_
              refine lv_goto (tgt := 71) hx hb dX7_clash_67 (by decide) ?_
              refine lv_istore_n (lv' := [(3, .int (nI (1))), (4, .int (nI (i))), (0, .ref h), (1, .int (nI (x))), (2, .int (nI (y)))]) hx hb dX7_clash_71 rfl hl (by decide) rfl (fun ls hl => ?_)
              refine lv_iinc (v := nI (i + 1)) (lv' := [(4, .int (nI (i + 1))), (3, .int (nI (1))), (0, .ref h), (1, .int (nI (x))), (2, .int (nI (y)))]) hx hb dX7_clash_72 hl (k := 1) rfl (n_inc _ 1) (by decide) rfl (fun ls hl => ?_)
              refine lv_goto (tgt := 34) hx hb dX7_clash_75 (by decide) ?_
              exact ih_34 1 (i + 1) (by omega) (by omega) (by first | exact z_a0 hz (by assumption) | exact z_a1 (cl_qf (by omega) (by assumption)) | exact z_a2 hz (by assumption) (cl_qt (by assumption))) (by omega) _ _ hP hD hS _ (lv_sub hl [0, 1, 2, 3, 4] rfl)
    exact loop_34 _ 0 1 (by omega) (by omega) (by first | exact cl_0a (by omega) | exact cl_0b hc2_q | exact cl_1 (by omega) hc2_q) (Nat.lt_succ_self _) _ _ hP hD hS _ (lv_sub hl [0, 1, 2, 3, 4] rfl)
  · -- 7 to 10
    have hc1_q := c_2
    refine lv_aload_n hx hb dX7_clash_10 rfl (lv_at hl 0 rfl) ?_
    refine lv_iload_n hx hb dX7_clash_11 rfl (lv_at hl 1 rfl) ?_
    refine lv_iconst (v := nI 0) hx hb dX7_clash_12 (by decide) ?_
    refine cl_7_133 (As := [.int (nI (x)), .int (nI (0))]) (rest := []) hx hb hml hts hown (k_X7_toothOf (by first | assumption | omega) (by first | assumption | omega) (by first | assumption | omega)) (by decide) ⟨Nat.zero_le _, Nat.zero_le _⟩ hK hP hD hS hA 0 rfl [0, 1] rfl (by decide) rfl hl.1 rfl (Nat.le_of_ble_eq_true rfl) dX7_clash_13 (fun r_11 u H locs hp_12 hP hD hS => ?_)
    obtain ⟨rfl, rfl⟩ := hp_12
    have hP : va_P D vwCl [mO h q zmu zmk zmz zms zma zmc, (q 0, .inl (cI, 54, .inl (fun z_ => nI (bx z_))))] _ := hP
    have hD : va_D A [mO h q zmu zmk zmz zms zma zmc, (q 0, .inl (cI, 54, .inl (fun z_ => nI (bx z_))))] := hD
    refine lv_aload_n hx hb dX7_clash_16 rfl (lv_at hl 0 rfl) ?_
    refine lv_iload_n hx hb dX7_clash_17 rfl (lv_at hl 2 rfl) ?_
    refine lv_iconst (v := nI 0) hx hb dX7_clash_18 (by decide) ?_
    refine cl_7_133 (As := [.int (nI (y)), .int (nI (0))]) (rest := [.int (nI (tooN bx x 0))]) hx hb hml hts hown (k_X7_toothOf (by first | assumption | omega) (by first | assumption | omega) (by first | assumption | omega)) (by decide) ⟨Nat.zero_le _, Nat.zero_le _⟩ hK hP hD hS hA 0 rfl [0, 1] rfl (by decide) rfl hl.1 rfl (Nat.le_of_ble_eq_true rfl) dX7_clash_19 (fun r_13 u H locs hp_14 hP hD hS => ?_)
    obtain ⟨rfl, rfl⟩ := hp_14
    have hP : va_P D vwCl [mO h q zmu zmk zmz zms zma zmc, (q 0, .inl (cI, 54, .inl (fun z_ => nI (bx z_))))] _ := hP
    have hD : va_D A [mO h q zmu zmk zmz zms zma zmc, (q 0, .inl (cI, 54, .inl (fun z_ => nI (bx z_))))] := hD
    have hto1_q := hB.too x 0 (by omega)
    have hto2_q := hB.too y 0 (by omega)
    refine n_icmp_ne (tgt := 29) hx hb dX7_clash_22 (by decide) (by omega) (by omega) (fun c_15 => ?_) (fun c_15 => ?_)
    · -- 22 to 29
      have hc2_q := c_15
      refine lv_iconst (v := nI 0) hx hb dX7_clash_29 (by decide) ?_
      refine lv_istore_n (lv' := [(3, .int (nI (0))), (0, .ref h), (1, .int (nI (x))), (2, .int (nI (y)))]) hx hb dX7_clash_30 rfl hl (by decide) rfl (fun ls hl => ?_)
      refine lv_iconst (v := nI 1) hx hb dX7_clash_31 (by decide) ?_
      refine lv_istore (lv' := [(4, .int (nI (1))), (3, .int (nI (0))), (0, .ref h), (1, .int (nI (x))), (2, .int (nI (y)))]) hx hb dX7_clash_32 hl (by decide) rfl (fun ls hl => ?_)
      have loop_34 : ∀ (N : Nat) (z : Nat) (i : Nat), (i ≤ bx 0) → (1 ≤ i) → (z = b2n (clI bx x y i)) → (bx 0 - i) < N → ∀ (H : Heap) (locs : List Loc), va_P D vwCl [mO h q zmu zmk zmz zms zma zmc, (q 0, .inl (cI, 54, .inl (fun z_ => nI (bx z_))))] H → va_D A [mO h q zmu zmk zmz zms zma zmc, (q 0, .inl (cI, 54, .inl (fun z_ => nI (bx z_))))] → va_S A s.heap H locs → ∀ ls : Array Slot, lv_has ls 5 [(4, .int (nI (i))), (3, .int (nI (z))), (0, .ref h), (1, .int (nI (x))), (2, .int (nI (y)))] → W p l e (rmL 1) s m args below meth c H locs 0 0 Qf (F0 m 34 ls []) := by
        intro N; induction N with
        | zero => intro z i _ _ _ hm; omega
        | succ N ih_34 =>
          intro z i hi hi1 hz hm H locs hP hD hS ls hl
          have hz1 : z ≤ 1 := by rw [hz]; exact b2n_le _
          refine lv_iload hx hb dX7_clash_34 (lv_at hl 0 rfl) ?_
          refine lv_aload_n hx hb dX7_clash_36 rfl (lv_at hl 2 rfl) ?_
          refine gf_7_7 hx hb hts hown hK hP 0 rfl rfl dX7_clash_37 ?_
          refine lv_iconst (v := nI 0) hx hb dX7_clash_40 (by decide) ?_
          refine n_iald hx hb hK hP 1 0 rfl rfl dX7_clash_41 (by decide) (by omega) ?_
          have hb_16 := hB.bd 0
          refine n_icmp_ge (tgt := 78) hx hb dX7_clash_42 (by decide) (by omega) (by omega) (fun c_17 => ?_) (fun c_17 => ?_)
          · -- 42 to 78
            refine lv_iload_n hx hb dX7_clash_78 rfl (lv_at hl 1 rfl) ?_
            refine hret hP hD hS dX7_clash_79 (by rw [hz]; exact b2n_nar _) rfl ?_
            exact ⟨by rw [hz, show i = bx 0 by omega], rfl⟩
          · -- 42 to 45
            refine lv_iload_n hx hb dX7_clash_45 rfl (lv_at hl 1 rfl) ?_
            refine n_if_eq (tgt := 70) hx hb dX7_clash_46 (by decide) (by omega) (fun c_18 => ?_) (fun c_18 => ?_)
            · -- 46 to 70
              refine lv_iconst (v := nI 0) hx hb dX7_clash_70 (by decide) ?_
              refine lv_istore_n (lv' := [(3, .int (nI (0))), (4, .int (nI (i))), (0, .ref h), (1, .int (nI (x))), (2, .int (nI (y)))]) hx hb dX7_clash_71 rfl hl (by decide) rfl (fun ls hl => ?_)
              refine lv_iinc (v := nI (i + 1)) (lv' := [(4, .int (nI (i + 1))), (3, .int (nI (0))), (0, .ref h), (1, .int (nI (x))), (2, .int (nI (y)))]) hx hb dX7_clash_72 hl (k := 1) rfl (n_inc _ 1) (by decide) rfl (fun ls hl => ?_)
              refine lv_goto (tgt := 34) hx hb dX7_clash_75 (by decide) ?_
              exact ih_34 0 (i + 1) (by omega) (by omega) (by first | exact z_a0 hz (by assumption) | exact z_a1 (cl_qf (by omega) (by assumption)) | exact z_a2 hz (by assumption) (cl_qt (by assumption))) (by omega) _ _ hP hD hS _ (lv_sub hl [0, 1, 2, 3, 4] rfl)
            · -- 46 to 49
              refine lv_aload_n hx hb dX7_clash_49 rfl (lv_at hl 2 rfl) ?_
              refine lv_iload_n hx hb dX7_clash_50 rfl (lv_at hl 3 rfl) ?_
              refine lv_iload hx hb dX7_clash_51 (lv_at hl 0 rfl) ?_
              refine cl_7_133 (As := [.int (nI (x)), .int (nI (i))]) (rest := []) hx hb hml hts hown (k_X7_toothOf (by first | assumption | omega) (by first | assumption | omega) (by first | assumption | omega)) (by decide) ⟨Nat.zero_le _, Nat.zero_le _⟩ hK hP hD hS hA 0 rfl [0, 1] rfl (by decide) rfl hl.1 rfl (Nat.le_of_ble_eq_true rfl) dX7_clash_53 (fun r_19 u H locs hp_20 hP hD hS => ?_)
              obtain ⟨rfl, rfl⟩ := hp_20
              have hP : va_P D vwCl [mO h q zmu zmk zmz zms zma zmc, (q 0, .inl (cI, 54, .inl (fun z_ => nI (bx z_))))] _ := hP
              have hD : va_D A [mO h q zmu zmk zmz zms zma zmc, (q 0, .inl (cI, 54, .inl (fun z_ => nI (bx z_))))] := hD
              refine lv_aload_n hx hb dX7_clash_56 rfl (lv_at hl 2 rfl) ?_
              refine lv_iload_n hx hb dX7_clash_57 rfl (lv_at hl 4 rfl) ?_
              refine lv_iload hx hb dX7_clash_58 (lv_at hl 0 rfl) ?_
              refine cl_7_133 (As := [.int (nI (y)), .int (nI (i))]) (rest := [.int (nI (tooN bx x i))]) hx hb hml hts hown (k_X7_toothOf (by first | assumption | omega) (by first | assumption | omega) (by first | assumption | omega)) (by decide) ⟨Nat.zero_le _, Nat.zero_le _⟩ hK hP hD hS hA 0 rfl [0, 1] rfl (by decide) rfl hl.1 rfl (Nat.le_of_ble_eq_true rfl) dX7_clash_60 (fun r_21 u H locs hp_22 hP hD hS => ?_)
              obtain ⟨rfl, rfl⟩ := hp_22
              have hP : va_P D vwCl [mO h q zmu zmk zmz zms zma zmc, (q 0, .inl (cI, 54, .inl (fun z_ => nI (bx z_))))] _ := hP
              have hD : va_D A [mO h q zmu zmk zmz zms zma zmc, (q 0, .inl (cI, 54, .inl (fun z_ => nI (bx z_))))] := hD
              have hto3_q := hB.too x i (by omega)
              have hto4_q := hB.too y i (by omega)
              refine n_icmp_eq (tgt := 70) hx hb dX7_clash_63 (by decide) (by omega) (by omega) (fun c_23 => ?_) (fun c_23 => ?_)
              · -- 63 to 70
                refine lv_iconst (v := nI 0) hx hb dX7_clash_70 (by decide) ?_
                refine lv_istore_n (lv' := [(3, .int (nI (0))), (4, .int (nI (i))), (0, .ref h), (1, .int (nI (x))), (2, .int (nI (y)))]) hx hb dX7_clash_71 rfl hl (by decide) rfl (fun ls hl => ?_)
                refine lv_iinc (v := nI (i + 1)) (lv' := [(4, .int (nI (i + 1))), (3, .int (nI (0))), (0, .ref h), (1, .int (nI (x))), (2, .int (nI (y)))]) hx hb dX7_clash_72 hl (k := 1) rfl (n_inc _ 1) (by decide) rfl (fun ls hl => ?_)
                refine lv_goto (tgt := 34) hx hb dX7_clash_75 (by decide) ?_
                exact ih_34 0 (i + 1) (by omega) (by omega) (by first | exact z_a0 hz (by assumption) | exact z_a1 (cl_qf (by omega) (by assumption)) | exact z_a2 hz (by assumption) (cl_qt (by assumption))) (by omega) _ _ hP hD hS _ (lv_sub hl [0, 1, 2, 3, 4] rfl)
              · -- 63 to 66
                refine lv_iconst (v := nI 1) hx hb dX7_clash_66 (by decide) ?_
                refine lv_goto (tgt := 71) hx hb dX7_clash_67 (by decide) ?_
                refine lv_istore_n (lv' := [(3, .int (nI (1))), (4, .int (nI (i))), (0, .ref h), (1, .int (nI (x))), (2, .int (nI (y)))]) hx hb dX7_clash_71 rfl hl (by decide) rfl (fun ls hl => ?_)
                refine lv_iinc (v := nI (i + 1)) (lv' := [(4, .int (nI (i + 1))), (3, .int (nI (1))), (0, .ref h), (1, .int (nI (x))), (2, .int (nI (y)))]) hx hb dX7_clash_72 hl (k := 1) rfl (n_inc _ 1) (by decide) rfl (fun ls hl => ?_)
                refine lv_goto (tgt := 34) hx hb dX7_clash_75 (by decide) ?_
                exact ih_34 1 (i + 1) (by omega) (by omega) (by first | exact z_a0 hz (by assumption) | exact z_a1 (cl_qf (by omega) (by assumption)) | exact z_a2 hz (by assumption) (cl_qt (by assumption))) (by omega) _ _ hP hD hS _ (lv_sub hl [0, 1, 2, 3, 4] rfl)
      exact loop_34 _ 0 1 (by omega) (by omega) (by first | exact cl_0a (by omega) | exact cl_0b hc2_q | exact cl_1 (by omega) hc2_q) (Nat.lt_succ_self _) _ _ hP hD hS _ (lv_sub hl [0, 1, 2, 3, 4] rfl)
    · -- 22 to 25
      have hc2_q := c_15
      refine lv_iconst (v := nI 1) hx hb dX7_clash_25 (by decide) ?_
      refine lv_goto (tgt := 30) hx hb dX7_clash_26 (by decide) ?_
      refine lv_istore_n (lv' := [(3, .int (nI (1))), (0, .ref h), (1, .int (nI (x))), (2, .int (nI (y)))]) hx hb dX7_clash_30 rfl hl (by decide) rfl (fun ls hl => ?_)
      refine lv_iconst (v := nI 1) hx hb dX7_clash_31 (by decide) ?_
      refine lv_istore (lv' := [(4, .int (nI (1))), (3, .int (nI (1))), (0, .ref h), (1, .int (nI (x))), (2, .int (nI (y)))]) hx hb dX7_clash_32 hl (by decide) rfl (fun ls hl => ?_)
      have loop_34 : ∀ (N : Nat) (z : Nat) (i : Nat), (i ≤ bx 0) → (1 ≤ i) → (z = b2n (clI bx x y i)) → (bx 0 - i) < N → ∀ (H : Heap) (locs : List Loc), va_P D vwCl [mO h q zmu zmk zmz zms zma zmc, (q 0, .inl (cI, 54, .inl (fun z_ => nI (bx z_))))] H → va_D A [mO h q zmu zmk zmz zms zma zmc, (q 0, .inl (cI, 54, .inl (fun z_ => nI (bx z_))))] → va_S A s.heap H locs → ∀ ls : Array Slot, lv_has ls 5 [(4, .int (nI (i))), (3, .int (nI (z))), (0, .ref h), (1, .int (nI (x))), (2, .int (nI (y)))] → W p l e (rmL 1) s m args below meth c H locs 0 0 Qf (F0 m 34 ls []) := by
        intro N; induction N with
        | zero => intro z i _ _ _ hm; omega
        | succ N ih_34 =>
          intro z i hi hi1 hz hm H locs hP hD hS ls hl
          have hz1 : z ≤ 1 := by rw [hz]; exact b2n_le _
          refine lv_iload hx hb dX7_clash_34 (lv_at hl 0 rfl) ?_
          refine lv_aload_n hx hb dX7_clash_36 rfl (lv_at hl 2 rfl) ?_
          refine gf_7_7 hx hb hts hown hK hP 0 rfl rfl dX7_clash_37 ?_
          refine lv_iconst (v := nI 0) hx hb dX7_clash_40 (by decide) ?_
          refine n_iald hx hb hK hP 1 0 rfl rfl dX7_clash_41 (by decide) (by omega) ?_
          have hb_24 := hB.bd 0
          refine n_icmp_ge (tgt := 78) hx hb dX7_clash_42 (by decide) (by omega) (by omega) (fun c_25 => ?_) (fun c_25 => ?_)
          · -- 42 to 78
            refine lv_iload_n hx hb dX7_clash_78 rfl (lv_at hl 1 rfl) ?_
            refine hret hP hD hS dX7_clash_79 (by rw [hz]; exact b2n_nar _) rfl ?_
            exact ⟨by rw [hz, show i = bx 0 by omega], rfl⟩
          · -- 42 to 45
            refine lv_iload_n hx hb dX7_clash_45 rfl (lv_at hl 1 rfl) ?_
            refine n_if_eq (tgt := 70) hx hb dX7_clash_46 (by decide) (by omega) (fun c_26 => ?_) (fun c_26 => ?_)
            · -- 46 to 70
              refine lv_iconst (v := nI 0) hx hb dX7_clash_70 (by decide) ?_
              refine lv_istore_n (lv' := [(3, .int (nI (0))), (4, .int (nI (i))), (0, .ref h), (1, .int (nI (x))), (2, .int (nI (y)))]) hx hb dX7_clash_71 rfl hl (by decide) rfl (fun ls hl => ?_)
              refine lv_iinc (v := nI (i + 1)) (lv' := [(4, .int (nI (i + 1))), (3, .int (nI (0))), (0, .ref h), (1, .int (nI (x))), (2, .int (nI (y)))]) hx hb dX7_clash_72 hl (k := 1) rfl (n_inc _ 1) (by decide) rfl (fun ls hl => ?_)
              refine lv_goto (tgt := 34) hx hb dX7_clash_75 (by decide) ?_
              exact ih_34 0 (i + 1) (by omega) (by omega) (by first | exact z_a0 hz (by assumption) | exact z_a1 (cl_qf (by omega) (by assumption)) | exact z_a2 hz (by assumption) (cl_qt (by assumption))) (by omega) _ _ hP hD hS _ (lv_sub hl [0, 1, 2, 3, 4] rfl)
            · -- 46 to 49
              refine lv_aload_n hx hb dX7_clash_49 rfl (lv_at hl 2 rfl) ?_
              refine lv_iload_n hx hb dX7_clash_50 rfl (lv_at hl 3 rfl) ?_
              refine lv_iload hx hb dX7_clash_51 (lv_at hl 0 rfl) ?_
              refine cl_7_133 (As := [.int (nI (x)), .int (nI (i))]) (rest := []) hx hb hml hts hown (k_X7_toothOf (by first | assumption | omega) (by first | assumption | omega) (by first | assumption | omega)) (by decide) ⟨Nat.zero_le _, Nat.zero_le _⟩ hK hP hD hS hA 0 rfl [0, 1] rfl (by decide) rfl hl.1 rfl (Nat.le_of_ble_eq_true rfl) dX7_clash_53 (fun r_27 u H locs hp_28 hP hD hS => ?_)
              obtain ⟨rfl, rfl⟩ := hp_28
              have hP : va_P D vwCl [mO h q zmu zmk zmz zms zma zmc, (q 0, .inl (cI, 54, .inl (fun z_ => nI (bx z_))))] _ := hP
              have hD : va_D A [mO h q zmu zmk zmz zms zma zmc, (q 0, .inl (cI, 54, .inl (fun z_ => nI (bx z_))))] := hD
              refine lv_aload_n hx hb dX7_clash_56 rfl (lv_at hl 2 rfl) ?_
              refine lv_iload_n hx hb dX7_clash_57 rfl (lv_at hl 4 rfl) ?_
              refine lv_iload hx hb dX7_clash_58 (lv_at hl 0 rfl) ?_
              refine cl_7_133 (As := [.int (nI (y)), .int (nI (i))]) (rest := [.int (nI (tooN bx x i))]) hx hb hml hts hown (k_X7_toothOf (by first | assumption | omega) (by first | assumption | omega) (by first | assumption | omega)) (by decide) ⟨Nat.zero_le _, Nat.zero_le _⟩ hK hP hD hS hA 0 rfl [0, 1] rfl (by decide) rfl hl.1 rfl (Nat.le_of_ble_eq_true rfl) dX7_clash_60 (fun r_29 u H locs hp_30 hP hD hS => ?_)
              obtain ⟨rfl, rfl⟩ := hp_30
              have hP : va_P D vwCl [mO h q zmu zmk zmz zms zma zmc, (q 0, .inl (cI, 54, .inl (fun z_ => nI (bx z_))))] _ := hP
              have hD : va_D A [mO h q zmu zmk zmz zms zma zmc, (q 0, .inl (cI, 54, .inl (fun z_ => nI (bx z_))))] := hD
              have hto3_q := hB.too x i (by omega)
              have hto4_q := hB.too y i (by omega)
              refine n_icmp_eq (tgt := 70) hx hb dX7_clash_63 (by decide) (by omega) (by omega) (fun c_31 => ?_) (fun c_31 => ?_)
              · -- 63 to 70
                refine lv_iconst (v := nI 0) hx hb dX7_clash_70 (by decide) ?_
                refine lv_istore_n (lv' := [(3, .int (nI (0))), (4, .int (nI (i))), (0, .ref h), (1, .int (nI (x))), (2, .int (nI (y)))]) hx hb dX7_clash_71 rfl hl (by decide) rfl (fun ls hl => ?_)
                refine lv_iinc (v := nI (i + 1)) (lv' := [(4, .int (nI (i + 1))), (3, .int (nI (0))), (0, .ref h), (1, .int (nI (x))), (2, .int (nI (y)))]) hx hb dX7_clash_72 hl (k := 1) rfl (n_inc _ 1) (by decide) rfl (fun ls hl => ?_)
                refine lv_goto (tgt := 34) hx hb dX7_clash_75 (by decide) ?_
                exact ih_34 0 (i + 1) (by omega) (by omega) (by first | exact z_a0 hz (by assumption) | exact z_a1 (cl_qf (by omega) (by assumption)) | exact z_a2 hz (by assumption) (cl_qt (by assumption))) (by omega) _ _ hP hD hS _ (lv_sub hl [0, 1, 2, 3, 4] rfl)
              · -- 63 to 66
                refine lv_iconst (v := nI 1) hx hb dX7_clash_66 (by decide) ?_
                refine lv_goto (tgt := 71) hx hb dX7_clash_67 (by decide) ?_
                refine lv_istore_n (lv' := [(3, .int (nI (1))), (4, .int (nI (i))), (0, .ref h), (1, .int (nI (x))), (2, .int (nI (y)))]) hx hb dX7_clash_71 rfl hl (by decide) rfl (fun ls hl => ?_)
                refine lv_iinc (v := nI (i + 1)) (lv' := [(4, .int (nI (i + 1))), (3, .int (nI (1))), (0, .ref h), (1, .int (nI (x))), (2, .int (nI (y)))]) hx hb dX7_clash_72 hl (k := 1) rfl (n_inc _ 1) (by decide) rfl (fun ls hl => ?_)
                refine lv_goto (tgt := 34) hx hb dX7_clash_75 (by decide) ?_
                exact ih_34 1 (i + 1) (by omega) (by omega) (by first | exact z_a0 hz (by assumption) | exact z_a1 (cl_qf (by omega) (by assumption)) | exact z_a2 hz (by assumption) (cl_qt (by assumption))) (by omega) _ _ hP hD hS _ (lv_sub hl [0, 1, 2, 3, 4] rfl)
      exact loop_34 _ 1 1 (by omega) (by omega) (by first | exact cl_0a (by omega) | exact cl_0b hc2_q | exact cl_1 (by omega) hc2_q) (Nat.lt_succ_self _) _ _ hP hD hS _ (lv_sub hl [0, 1, 2, 3, 4] rfl)
set_option maxHeartbeats 4000000 in
set_option maxRecDepth 100000 in
theorem k_X7_together {l : Launch} {D : va_G} {cI cC cB : ClassId} {h : Nat} {q : Nat → Nat} {zmu zmk zmz zms zma zmc : Nat} {bx nw : Nat → Nat} {x : Int32} (hB : BxOk bx) (hN : HdOk bx nw) : MI l yX7_together cX7_together 8 (some .int) 2 D (Ty3 cI cC cB) [.ref h, .int (x)] [mO h q zmu zmk zmz zms zma zmc, (q 0, .inl (cI, 54, .inl (fun z_ => nI (bx z_)))), (q 2, .inl (cI, 76, .inl (fun z_ => nI (nw z_))))] (fun r u => (r = tgA bx nw x ∧ u = [mO h q zmu zmk zmz zms zma zmc, (q 0, .inl (cI, 54, .inl (fun z_ => nI (bx z_)))), (q 2, .inl (cI, 76, .inl (fun z_ => nI (nw z_))))])) := by
  intro sz
  refine MI.walk (by decide +kernel) (Nat.le_of_ble_eq_true rfl) ?_
  intro p e s m args below meth c A Qf hx hb hml hts hown hret hK hP hD hS hA ls hl
  have hown : s.vm.findClass RX7 = some m.cls := hown
  have hl : lv_has ls 8 [(0, .ref h), (1, .int (x))] := hl
  have hP : va_P D vwCl [mO h q zmu zmk zmz zms zma zmc, (q 0, .inl (cI, 54, .inl (fun z_ => nI (bx z_)))), (q 2, .inl (cI, 76, .inl (fun z_ => nI (nw z_))))] s.heap := hP
  have hD : va_D A [mO h q zmu zmk zmz zms zma zmc, (q 0, .inl (cI, 54, .inl (fun z_ => nI (bx z_)))), (q 2, .inl (cI, 76, .inl (fun z_ => nI (nw z_))))] := hD
  have h12_q := hN.h
  have hpn_q := hB.n
  have hsz_q := sz_lt hB
  refine lv_aload_n hx hb dX7_together_0 rfl (lv_at hl 0 rfl) ?_
  refine lv_iload_n hx hb dX7_together_1 rfl (lv_at hl 1 rfl) ?_
  refine cl_7_169 (As := [.int (x)]) (rest := []) hx hb hml hts hown (k_X7_isPerson (by first | assumption | omega)) (by decide) ⟨Nat.zero_le _, Nat.zero_le _⟩ hK hP hD hS hA 0 rfl [0, 1] rfl (by decide) rfl hl.1 rfl (Nat.le_of_ble_eq_true rfl) dX7_together_2 (fun r_1 u H locs hp_2 hP hD hS => ?_)
  obtain ⟨rfl, rfl⟩ := hp_2
  have hP : va_P D vwCl [mO h q zmu zmk zmz zms zma zmc, (q 0, .inl (cI, 54, .inl (fun z_ => nI (bx z_)))), (q 2, .inl (cI, 76, .inl (fun z_ => nI (nw z_))))] _ := hP
  have hD : va_D A [mO h q zmu zmk zmz zms zma zmc, (q 0, .inl (cI, 54, .inl (fun z_ => nI (bx z_)))), (q 2, .inl (cI, 76, .inl (fun z_ => nI (nw z_))))] := hD
  refine n_ifb_ne (tgt := 10) hx hb dX7_together_5 (by decide) (fun c_3 => ?_) (fun c_3 => ?_)
  · -- 5 to 10
    obtain ⟨j, hj, rfl⟩ := inN_e (by have := hB.bd 1; omega) c_3
    have hij_q : ix (nI j) = j := ix_n (by have := hB.bd 1; omega)
    refine lv_aload_n hx hb dX7_together_10 rfl (lv_at hl 0 rfl) ?_
    refine lv_iload_n hx hb dX7_together_11 rfl (lv_at hl 1 rfl) ?_
    refine cl_7_220 (As := [.int (nI (j))]) (rest := []) hx hb hml hts hown (k_X7_heardBy hN.bd h12_q (by omega)) (by decide) ⟨Nat.zero_le _, Nat.zero_le _⟩ hK hP hD hS hA 0 rfl [0, 2] rfl (by decide) rfl hl.1 rfl (Nat.le_of_ble_eq_true rfl) dX7_together_12 (fun r_4 u H locs hp_5 hP hD hS => ?_)
    obtain ⟨rfl, rfl⟩ := hp_5
    have hP : va_P D vwCl [mO h q zmu zmk zmz zms zma zmc, (q 0, .inl (cI, 54, .inl (fun z_ => nI (bx z_)))), (q 2, .inl (cI, 76, .inl (fun z_ => nI (nw z_))))] _ := hP
    have hD : va_D A [mO h q zmu zmk zmz zms zma zmc, (q 0, .inl (cI, 54, .inl (fun z_ => nI (bx z_)))), (q 2, .inl (cI, 76, .inl (fun z_ => nI (nw z_))))] := hD
    refine lv_istore_n (lv' := [(2, .int (nI (hbN nw j (nw 2)))), (0, .ref h), (1, .int (nI (j)))]) hx hb dX7_together_15 rfl hl (by decide) rfl (fun ls hl => ?_)
    have hal_q : hbN nw j (nw 2) < 4096 := hb_12 h12_q
    refine lv_iconst (v := nI 0) hx hb dX7_together_16 (by decide) ?_
    refine lv_istore_n (lv' := [(3, .int (nI (0))), (2, .int (nI (hbN nw j (nw 2)))), (0, .ref h), (1, .int (nI (j)))]) hx hb dX7_together_17 rfl hl (by decide) rfl (fun ls hl => ?_)
    refine lv_iconst (v := nI 0) hx hb dX7_together_18 (by decide) ?_
    refine lv_istore (lv' := [(4, .int (nI (0))), (3, .int (nI (0))), (2, .int (nI (hbN nw j (nw 2)))), (0, .ref h), (1, .int (nI (j)))]) hx hb dX7_together_19 hl (by decide) rfl (fun ls hl => ?_)
    have loop_21 : ∀ (N : Nat) (mm : Nat) (ss : Nat), (ss ≤ (hbN nw j (nw 2)) + 1) → (mm = bfN (clB bx nw) (nw 2) (hbN nw j (nw 2)) ss) → ((hbN nw j (nw 2)) + 1 - ss) < N → ∀ (H : Heap) (locs : List Loc), va_P D vwCl [mO h q zmu zmk zmz zms zma zmc, (q 0, .inl (cI, 54, .inl (fun z_ => nI (bx z_)))), (q 2, .inl (cI, 76, .inl (fun z_ => nI (nw z_))))] H → va_D A [mO h q zmu zmk zmz zms zma zmc, (q 0, .inl (cI, 54, .inl (fun z_ => nI (bx z_)))), (q 2, .inl (cI, 76, .inl (fun z_ => nI (nw z_))))] → va_S A s.heap H locs → ∀ ls : Array Slot, lv_has ls 8 [(4, .int (nI (ss))), (3, .int (nI (mm))), (2, .int (nI (hbN nw j (nw 2)))), (0, .ref h), (1, .int (nI (j)))] → W p l e (rmL 2) s m args below meth c H locs 0 0 Qf (F0 m 21 ls []) := by
      intro N; induction N with
      | zero => intro mm ss _ _ hm; omega
      | succ N ih_21 =>
        intro mm ss hs hmm hm H locs hP hD hS ls hl
        have hbf_q := bf_le (G := clB bx nw) (N := nw 2) (all := (hbN nw j (nw 2))) ss
        refine lv_iload hx hb dX7_together_21 (lv_at hl 0 rfl) ?_
        refine lv_iload_n hx hb dX7_together_23 rfl (lv_at hl 2 rfl) ?_
        refine n_icmp_gt (tgt := 180) hx hb dX7_together_24 (by decide) (by omega) (by omega) (fun c_6 => ?_) (fun c_6 => ?_)
        · -- 24 to 180
          refine lv_iload_n hx hb dX7_together_180 rfl (lv_at hl 1 rfl) ?_
          refine hret hP hD hS dX7_together_181 rfl rfl ?_
          exact ⟨by rw [hmm, show ss = (hbN nw j (nw 2)) + 1 by omega]; simp only [tgA]; rw [if_pos (by assumption), hij_q]; rfl, rfl⟩
        · -- 24 to 27
          refine lv_iload hx hb dX7_together_27 (lv_at hl 0 rfl) ?_
          refine lv_iload_n hx hb dX7_together_29 rfl (lv_at hl 2 rfl) ?_
          refine lv_iconst (v := (-1)) hx hb dX7_together_30 (by decide) ?_
          refine lv_ixor hx hb dX7_together_31 ?_
          refine lv_iand hx hb dX7_together_32 ?_
          rw [andn_e]
          have han_q : anN ss (hbN nw j (nw 2)) < 4096 := an_lt (n := 12) _ (show ss < 4096 by omega)
          refine n_if_ne (tgt := 49) hx hb dX7_together_33 (by decide) (by omega) (fun c_7 => ?_) (fun c_7 => ?_)
          · -- 33 to 49
            have hb0_q : decide (anN ss (hbN nw j (nw 2)) = 0 ∧ bfN (clB bx nw) (nw 2) (hbN nw j (nw 2)) ss < pcN ss) = false := decide_eq_false (fun q => c_7 q.1)
            refine lv_iconst (v := nI 0) hx hb dX7_together_49 (by decide) ?_
            refine lv_istore (lv' := [(5, .int (nI (0))), (4, .int (nI (ss))), (3, .int (nI (mm))), (2, .int (nI (hbN nw j (nw 2)))), (0, .ref h), (1, .int (nI (j)))]) hx hb dX7_together_50 hl (by decide) rfl (fun ls hl => ?_)
            refine lv_iconst (v := nI 0) hx hb dX7_together_52 (by decide) ?_
            refine lv_istore (lv' := [(6, .int (nI (0))), (5, .int (nI (0))), (4, .int (nI (ss))), (3, .int (nI (mm))), (2, .int (nI (hbN nw j (nw 2)))), (0, .ref h), (1, .int (nI (j)))]) hx hb dX7_together_53 hl (by decide) rfl (fun ls hl => ?_)
            have loop_55 : ∀ (N : Nat) (z : Nat) (az : Nat), (az ≤ nw 2) → (z = b2n (decide (anN ss (hbN nw j (nw 2)) = 0 ∧ bfN (clB bx nw) (nw 2) (hbN nw j (nw 2)) ss < pcN ss) && soB (clB bx nw) ss (nw 2) az)) → (nw 2 - az) < N → ∀ (H : Heap) (locs : List Loc), va_P D vwCl [mO h q zmu zmk zmz zms zma zmc, (q 0, .inl (cI, 54, .inl (fun z_ => nI (bx z_)))), (q 2, .inl (cI, 76, .inl (fun z_ => nI (nw z_))))] H → va_D A [mO h q zmu zmk zmz zms zma zmc, (q 0, .inl (cI, 54, .inl (fun z_ => nI (bx z_)))), (q 2, .inl (cI, 76, .inl (fun z_ => nI (nw z_))))] → va_S A s.heap H locs → ∀ ls : Array Slot, lv_has ls 8 [(6, .int (nI (az))), (5, .int (nI (z))), (4, .int (nI (ss))), (3, .int (nI (mm))), (2, .int (nI (hbN nw j (nw 2)))), (0, .ref h), (1, .int (nI (j)))] → W p l e (rmL 2) s m args below meth c H locs 0 0 Qf (F0 m 55 ls []) := by
              intro N; induction N with
              | zero => intro z az _ _ hm; omega
              | succ N ih_55 =>
                intro z az ha hz hm H locs hP hD hS ls hl
                have hz1 : z ≤ 1 := by rw [hz]; exact b2n_le _
                refine lv_iload hx hb dX7_together_55 (lv_at hl 0 rfl) ?_
                refine lv_aload_n hx hb dX7_together_57 rfl (lv_at hl 5 rfl) ?_
                refine gf_7_16 hx hb hts hown hK hP 0 rfl rfl dX7_together_58 ?_
                refine lv_iconst (v := nI 2) hx hb dX7_together_61 (by decide) ?_
                refine n_iald hx hb hK hP 2 0 rfl rfl dX7_together_62 (by decide) (by omega) ?_
                have hb_8 := hN.bd 2
                refine n_icmp_ge (tgt := 159) hx hb dX7_together_63 (by decide) (by omega) (by omega) (fun c_9 => ?_) (fun c_9 => ?_)
                · -- 63 to 159
                  refine lv_iload hx hb dX7_together_159 (lv_at hl 1 rfl) ?_
                  refine n_if_eq (tgt := 172) hx hb dX7_together_161 (by decide) (by omega) (fun c_10 => ?_) (fun c_10 => ?_)
                  · -- 161 to 172
                    refine lv_iload_n hx hb dX7_together_172 rfl (lv_at hl 3 rfl) ?_
                    refine lv_istore_n (lv' := [(3, .int (nI (mm))), (6, .int (nI (az))), (5, .int (nI (z))), (4, .int (nI (ss))), (2, .int (nI (hbN nw j (nw 2)))), (0, .ref h), (1, .int (nI (j)))]) hx hb dX7_together_173 rfl hl (by decide) rfl (fun ls hl => ?_)
                    refine lv_iinc (v := nI (ss + 1)) (lv' := [(4, .int (nI (ss + 1))), (3, .int (nI (mm))), (6, .int (nI (az))), (5, .int (nI (z))), (2, .int (nI (hbN nw j (nw 2)))), (0, .ref h), (1, .int (nI (j)))]) hx hb dX7_together_174 hl (k := 3) rfl (n_inc _ 1) (by decide) rfl (fun ls hl => ?_)
                    refine lv_goto (tgt := 21) hx hb dX7_together_177 (by decide) ?_
                    exact ih_21 mm (ss + 1) (by omega) (by first | exact bf_s0 hmm hz (by omega) (by assumption) | exact bf_s1 hz (by omega) (by assumption)) (by omega) _ _ hP hD hS _ (lv_sub hl [0, 1, 4, 5, 6] rfl)
                  · -- 161 to 164
                    refine lv_iload hx hb dX7_together_164 (lv_at hl 2 rfl) ?_
                    refine cl_7_193 (As := [.int (nI (ss))]) (rest := []) hx hb hml hts hown (k_X7_bits (by omega)) (by decide) ⟨Nat.zero_le _, Nat.zero_le _⟩ hK hP hD hS hA [] rfl (by decide) rfl hl.1 rfl (Nat.le_of_ble_eq_true rfl) dX7_together_166 (fun r_11 u H locs hp_12 hP hD hS => ?_)
                    obtain ⟨rfl, rfl⟩ := hp_12
                    have hP : va_P D vwCl [mO h q zmu zmk zmz zms zma zmc, (q 0, .inl (cI, 54, .inl (fun z_ => nI (bx z_)))), (q 2, .inl (cI, 76, .inl (fun z_ => nI (nw z_))))] _ := hP
                    have hD : va_D A [mO h q zmu zmk zmz zms zma zmc, (q 0, .inl (cI, 54, .inl (fun z_ => nI (bx z_)))), (q 2, .inl (cI, 76, .inl (fun z_ => nI (nw z_))))] := hD
                    refine lv_goto (tgt := 173) hx hb dX7_together_169 (by decide) ?_
                    refine lv_istore_n (lv' := [(3, .int (nI (pcN ss))), (6, .int (nI (az))), (5, .int (nI (z))), (4, .int (nI (ss))), (2, .int (nI (hbN nw j (nw 2)))), (0, .ref h), (1, .int (nI (j)))]) hx hb dX7_together_173 rfl hl (by decide) rfl (fun ls hl => ?_)
                    refine lv_iinc (v := nI (ss + 1)) (lv' := [(4, .int (nI (ss + 1))), (3, .int (nI (pcN ss))), (6, .int (nI (az))), (5, .int (nI (z))), (2, .int (nI (hbN nw j (nw 2)))), (0, .ref h), (1, .int (nI (j)))]) hx hb dX7_together_174 hl (k := 3) rfl (n_inc _ 1) (by decide) rfl (fun ls hl => ?_)
                    refine lv_goto (tgt := 21) hx hb dX7_together_177 (by decide) ?_
                    exact ih_21 (pcN ss) (ss + 1) (by omega) (by first | exact bf_s0 hmm hz (by omega) (by assumption) | exact bf_s1 hz (by omega) (by assumption)) (by omega) _ _ hP hD hS _ (lv_sub hl [0, 1, 4, 5, 6] rfl)
                · -- 63 to 66
                  refine lv_iload hx hb dX7_together_66 (lv_at hl 1 rfl) ?_
                  refine n_if_eq (tgt := 159) hx hb dX7_together_68 (by decide) (by omega) (fun c_13 => ?_) (fun c_13 => ?_)
                  · -- 68 to 159
                    refine lv_iload hx hb dX7_together_159 (lv_at hl 1 rfl) ?_
                    refine n_if_eq (tgt := 172) hx hb dX7_together_161 (by decide) (by omega) (fun c_14 => ?_) (fun c_14 => ?_)
                    · -- 161 to 172
                      refine lv_iload_n hx hb dX7_together_172 rfl (lv_at hl 3 rfl) ?_
                      refine lv_istore_n (lv' := [(3, .int (nI (mm))), (6, .int (nI (az))), (5, .int (nI (z))), (4, .int (nI (ss))), (2, .int (nI (hbN nw j (nw 2)))), (0, .ref h), (1, .int (nI (j)))]) hx hb dX7_together_173 rfl hl (by decide) rfl (fun ls hl => ?_)
                      refine lv_iinc (v := nI (ss + 1)) (lv' := [(4, .int (nI (ss + 1))), (3, .int (nI (mm))), (6, .int (nI (az))), (5, .int (nI (z))), (2, .int (nI (hbN nw j (nw 2)))), (0, .ref h), (1, .int (nI (j)))]) hx hb dX7_together_174 hl (k := 3) rfl (n_inc _ 1) (by decide) rfl (fun ls hl => ?_)
                      refine lv_goto (tgt := 21) hx hb dX7_together_177 (by decide) ?_
                      exact ih_21 mm (ss + 1) (by omega) (by first | exact bf_s0 hmm hz (by omega) (by assumption) | exact bf_s1 hz (by omega) (by assumption)) (by omega) _ _ hP hD hS _ (lv_sub hl [0, 1, 4, 5, 6] rfl)
                    · omega
                  · -- 68 to 71
                    refine lv_iload hx hb dX7_together_71 (lv_at hl 0 rfl) ?_
                    refine lv_iconst (v := nI 1) hx hb dX7_together_73 (by decide) ?_
                    refine n_iadd hx hb dX7_together_74  ?_
                    refine lv_istore (lv' := [(7, .int (nI (az + 1))), (6, .int (nI (az))), (5, .int (nI (z))), (4, .int (nI (ss))), (3, .int (nI (mm))), (2, .int (nI (hbN nw j (nw 2)))), (0, .ref h), (1, .int (nI (j)))]) hx hb dX7_together_75 hl (by decide) rfl (fun ls hl => ?_)
                    have loop_77 : ∀ (N : Nat) (z2 : Nat) (bz : Nat), (az + 1 ≤ bz) → (bz ≤ nw 2) → (z2 = b2n ((decide (anN ss (hbN nw j (nw 2)) = 0 ∧ bfN (clB bx nw) (nw 2) (hbN nw j (nw 2)) ss < pcN ss) && soB (clB bx nw) ss (nw 2) az) && siB (clB bx nw) ss az bz)) → (nw 2 - bz) < N → ∀ (H : Heap) (locs : List Loc), va_P D vwCl [mO h q zmu zmk zmz zms zma zmc, (q 0, .inl (cI, 54, .inl (fun z_ => nI (bx z_)))), (q 2, .inl (cI, 76, .inl (fun z_ => nI (nw z_))))] H → va_D A [mO h q zmu zmk zmz zms zma zmc, (q 0, .inl (cI, 54, .inl (fun z_ => nI (bx z_)))), (q 2, .inl (cI, 76, .inl (fun z_ => nI (nw z_))))] → va_S A s.heap H locs → ∀ ls : Array Slot, lv_has ls 8 [(7, .int (nI (bz))), (6, .int (nI (az))), (5, .int (nI (z2))), (4, .int (nI (ss))), (3, .int (nI (mm))), (2, .int (nI (hbN nw j (nw 2)))), (0, .ref h), (1, .int (nI (j)))] → W p l e (rmL 2) s m args below meth c H locs 0 0 Qf (F0 m 77 ls []) := by
                      intro N; induction N with
                      | zero => intro z2 bz _ _ _ hm; omega
                      | succ N ih_77 =>
                        intro z2 bz hb1 hb2 hz2 hm H locs hP hD hS ls hl
                        have hz3 : z2 ≤ 1 := by rw [hz2]; exact b2n_le _
                        refine lv_iload hx hb dX7_together_77 (lv_at hl 0 rfl) ?_
                        refine lv_aload_n hx hb dX7_together_79 rfl (lv_at hl 6 rfl) ?_
                        refine gf_7_16 hx hb hts hown hK hP 0 rfl rfl dX7_together_80 ?_
                        refine lv_iconst (v := nI 2) hx hb dX7_together_83 (by decide) ?_
                        refine n_iald hx hb hK hP 2 0 rfl rfl dX7_together_84 (by decide) (by omega) ?_
                        have hb_15 := hN.bd 2
                        refine n_icmp_ge (tgt := 153) hx hb dX7_together_85 (by decide) (by omega) (by omega) (fun c_16 => ?_) (fun c_16 => ?_)
                        · -- 85 to 153
                          refine lv_iinc (v := nI (az + 1)) (lv' := [(6, .int (nI (az + 1))), (7, .int (nI (bz))), (5, .int (nI (z2))), (4, .int (nI (ss))), (3, .int (nI (mm))), (2, .int (nI (hbN nw j (nw 2)))), (0, .ref h), (1, .int (nI (j)))]) hx hb dX7_together_153 hl (k := 1) rfl (n_inc _ 1) (by decide) rfl (fun ls hl => ?_)
                          refine lv_goto (tgt := 55) hx hb dX7_together_156 (by decide) ?_
                          exact ih_55 z2 (az + 1) (by omega) (by rw [hz2, show bz = nw 2 by omega, Bool.and_assoc]; rfl) (by omega) _ _ hP hD hS _ (lv_sub hl [0, 2, 3, 4, 5, 6, 7] rfl)
                        · -- 85 to 88
                          refine lv_iload hx hb dX7_together_88 (lv_at hl 2 rfl) ?_
                          refine n_if_eq (tgt := 144) hx hb dX7_together_90 (by decide) (by omega) (fun c_17 => ?_) (fun c_17 => ?_)
                          · -- 90 to 144
                            refine lv_iconst (v := nI 0) hx hb dX7_together_144 (by decide) ?_
                            refine lv_istore (lv' := [(5, .int (nI (0))), (7, .int (nI (bz))), (6, .int (nI (az))), (4, .int (nI (ss))), (3, .int (nI (mm))), (2, .int (nI (hbN nw j (nw 2)))), (0, .ref h), (1, .int (nI (j)))]) hx hb dX7_together_145 hl (by decide) rfl (fun ls hl => ?_)
                            refine lv_iinc (v := nI (bz + 1)) (lv' := [(7, .int (nI (bz + 1))), (5, .int (nI (0))), (6, .int (nI (az))), (4, .int (nI (ss))), (3, .int (nI (mm))), (2, .int (nI (hbN nw j (nw 2)))), (0, .ref h), (1, .int (nI (j)))]) hx hb dX7_together_147 hl (k := 1) rfl (n_inc _ 1) (by decide) rfl (fun ls hl => ?_)
                            refine lv_goto (tgt := 77) hx hb dX7_together_150 (by decide) ?_
                            exact ih_77 0 (bz + 1) (by omega) (by omega) (by show _ = b2n (_ && (siB (clB bx nw) ss az bz && _)); rw [← Bool.and_assoc]; first | exact z_a0 hz2 (by assumption) | exact z_a2 hz2 (by assumption) hqq_q | exact z_a1 hqf_q) (by omega) _ _ hP hD hS _ (lv_sub hl [0, 2, 1, 3, 4, 5, 6, 7] rfl)
                          · -- 90 to 93
                            refine lv_iload hx hb dX7_together_93 (lv_at hl 3 rfl) ?_
                            refine lv_iload hx hb dX7_together_95 (lv_at hl 1 rfl) ?_
                            refine cl_7_137 (As := [.int (nI (ss)), .int (nI (az))]) (rest := []) hx hb hml hts hown (k_X7_has (by omega) (by omega)) (by decide) ⟨Nat.zero_le _, Nat.zero_le _⟩ hK hP hD hS hA [] rfl (by decide) rfl hl.1 rfl (Nat.le_of_ble_eq_true rfl) dX7_together_97 (fun r_18 u H locs hp_19 hP hD hS => ?_)
                            obtain ⟨rfl, rfl⟩ := hp_19
                            have hP : va_P D vwCl [mO h q zmu zmk zmz zms zma zmc, (q 0, .inl (cI, 54, .inl (fun z_ => nI (bx z_)))), (q 2, .inl (cI, 76, .inl (fun z_ => nI (nw z_))))] _ := hP
                            have hD : va_D A [mO h q zmu zmk zmz zms zma zmc, (q 0, .inl (cI, 54, .inl (fun z_ => nI (bx z_)))), (q 2, .inl (cI, 76, .inl (fun z_ => nI (nw z_))))] := hD
                            refine n_ifb_eq (tgt := 140) hx hb dX7_together_100 (by decide) (fun c_20 => ?_) (fun c_20 => ?_)
                            · -- 100 to 140
                              have hqq_q := sq_1 (G := clB bx nw) (b := bz) c_20
                              refine lv_iconst (v := nI 1) hx hb dX7_together_140 (by decide) ?_
                              refine lv_goto (tgt := 145) hx hb dX7_together_141 (by decide) ?_
                              refine lv_istore (lv' := [(5, .int (nI (1))), (7, .int (nI (bz))), (6, .int (nI (az))), (4, .int (nI (ss))), (3, .int (nI (mm))), (2, .int (nI (hbN nw j (nw 2)))), (0, .ref h), (1, .int (nI (j)))]) hx hb dX7_together_145 hl (by decide) rfl (fun ls hl => ?_)
                              refine lv_iinc (v := nI (bz + 1)) (lv' := [(7, .int (nI (bz + 1))), (5, .int (nI (1))), (6, .int (nI (az))), (4, .int (nI (ss))), (3, .int (nI (mm))), (2, .int (nI (hbN nw j (nw 2)))), (0, .ref h), (1, .int (nI (j)))]) hx hb dX7_together_147 hl (k := 1) rfl (n_inc _ 1) (by decide) rfl (fun ls hl => ?_)
                              refine lv_goto (tgt := 77) hx hb dX7_together_150 (by decide) ?_
                              exact ih_77 1 (bz + 1) (by omega) (by omega) (by show _ = b2n (_ && (siB (clB bx nw) ss az bz && _)); rw [← Bool.and_assoc]; first | exact z_a0 hz2 (by assumption) | exact z_a2 hz2 (by assumption) hqq_q | exact z_a1 hqf_q) (by omega) _ _ hP hD hS _ (lv_sub hl [0, 2, 1, 3, 4, 5, 6, 7] rfl)
                            · -- 100 to 103
                              have hsa_q := c_20
                              refine lv_iload hx hb dX7_together_103 (lv_at hl 3 rfl) ?_
                              refine lv_iload hx hb dX7_together_105 (lv_at hl 0 rfl) ?_
                              refine cl_7_137 (As := [.int (nI (ss)), .int (nI (bz))]) (rest := []) hx hb hml hts hown (k_X7_has (by omega) (by omega)) (by decide) ⟨Nat.zero_le _, Nat.zero_le _⟩ hK hP hD hS hA [] rfl (by decide) rfl hl.1 rfl (Nat.le_of_ble_eq_true rfl) dX7_together_107 (fun r_21 u H locs hp_22 hP hD hS => ?_)
                              obtain ⟨rfl, rfl⟩ := hp_22
                              have hP : va_P D vwCl [mO h q zmu zmk zmz zms zma zmc, (q 0, .inl (cI, 54, .inl (fun z_ => nI (bx z_)))), (q 2, .inl (cI, 76, .inl (fun z_ => nI (nw z_))))] _ := hP
                              have hD : va_D A [mO h q zmu zmk zmz zms zma zmc, (q 0, .inl (cI, 54, .inl (fun z_ => nI (bx z_)))), (q 2, .inl (cI, 76, .inl (fun z_ => nI (nw z_))))] := hD
                              refine n_ifb_eq (tgt := 140) hx hb dX7_together_110 (by decide) (fun c_23 => ?_) (fun c_23 => ?_)
                              · -- 110 to 140
                                have hqq_q := sq_2 (G := clB bx nw) (a := az) c_23
                                refine lv_iconst (v := nI 1) hx hb dX7_together_140 (by decide) ?_
                                refine lv_goto (tgt := 145) hx hb dX7_together_141 (by decide) ?_
                                refine lv_istore (lv' := [(5, .int (nI (1))), (7, .int (nI (bz))), (6, .int (nI (az))), (4, .int (nI (ss))), (3, .int (nI (mm))), (2, .int (nI (hbN nw j (nw 2)))), (0, .ref h), (1, .int (nI (j)))]) hx hb dX7_together_145 hl (by decide) rfl (fun ls hl => ?_)
                                refine lv_iinc (v := nI (bz + 1)) (lv' := [(7, .int (nI (bz + 1))), (5, .int (nI (1))), (6, .int (nI (az))), (4, .int (nI (ss))), (3, .int (nI (mm))), (2, .int (nI (hbN nw j (nw 2)))), (0, .ref h), (1, .int (nI (j)))]) hx hb dX7_together_147 hl (k := 1) rfl (n_inc _ 1) (by decide) rfl (fun ls hl => ?_)
                                refine lv_goto (tgt := 77) hx hb dX7_together_150 (by decide) ?_
                                exact ih_77 1 (bz + 1) (by omega) (by omega) (by show _ = b2n (_ && (siB (clB bx nw) ss az bz && _)); rw [← Bool.and_assoc]; first | exact z_a0 hz2 (by assumption) | exact z_a2 hz2 (by assumption) hqq_q | exact z_a1 hqf_q) (by omega) _ _ hP hD hS _ (lv_sub hl [0, 2, 1, 3, 4, 5, 6, 7] rfl)
                              · -- 110 to 113
                                have hsb_q := c_23
                                have hka_q := (hN.k az (by omega)).1
                                have hkb_q := (hN.k bz (by omega)).1
                                refine lv_aload_n hx hb dX7_together_113 rfl (lv_at hl 6 rfl) ?_
                                refine lv_aload_n hx hb dX7_together_114 rfl (lv_at hl 6 rfl) ?_
                                refine gf_7_16 hx hb hts hown hK hP 0 rfl rfl dX7_together_115 ?_
                                refine lv_bipush (v := nI 16) hx hb dX7_together_118 (by decide) ?_
                                refine lv_iload hx hb dX7_together_120 (lv_at hl 1 rfl) ?_
                                refine n_iadd hx hb dX7_together_122  ?_
                                refine n_iald hx hb hK hP 2 0 rfl rfl dX7_together_123 (by decide) (by omega) ?_
                                have hb_24 := hN.bd (16 + az)
                                refine lv_aload_n hx hb dX7_together_124 rfl (lv_at hl 6 rfl) ?_
                                refine gf_7_16 hx hb hts hown hK hP 0 rfl rfl dX7_together_125 ?_
                                refine lv_bipush (v := nI 16) hx hb dX7_together_128 (by decide) ?_
                                refine lv_iload hx hb dX7_together_130 (lv_at hl 0 rfl) ?_
                                refine n_iadd hx hb dX7_together_132  ?_
                                refine n_iald hx hb hK hP 2 0 rfl rfl dX7_together_133 (by decide) (by omega) ?_
                                have hb_25 := hN.bd (16 + bz)
                                refine cl_7_229 (As := [.int (nI (nw (16 + az))), .int (nI (nw (16 + bz)))]) (rest := []) hx hb hml hts hown (k_X7_clash hB (by omega) (by omega)) (by decide) ⟨Nat.zero_le _, Nat.zero_le _⟩ hK hP hD hS hA 0 rfl [0, 1] rfl (by decide) rfl hl.1 rfl (Nat.le_of_ble_eq_true rfl) dX7_together_134 (fun r_26 u H locs hp_27 hP hD hS => ?_)
                                obtain ⟨rfl, rfl⟩ := hp_27
                                have hP : va_P D vwCl [mO h q zmu zmk zmz zms zma zmc, (q 0, .inl (cI, 54, .inl (fun z_ => nI (bx z_)))), (q 2, .inl (cI, 76, .inl (fun z_ => nI (nw z_))))] _ := hP
                                have hD : va_D A [mO h q zmu zmk zmz zms zma zmc, (q 0, .inl (cI, 54, .inl (fun z_ => nI (bx z_)))), (q 2, .inl (cI, 76, .inl (fun z_ => nI (nw z_))))] := hD
                                refine n_ifb_ne (tgt := 144) hx hb dX7_together_137 (by decide) (fun c_28 => ?_) (fun c_28 => ?_)
                                · -- 137 to 144
                                  have hqf_q := sq_4 (G := clB bx nw) (show az < bz by omega) hsa_q hsb_q c_28
                                  refine lv_iconst (v := nI 0) hx hb dX7_together_144 (by decide) ?_
                                  refine lv_istore (lv' := [(5, .int (nI (0))), (7, .int (nI (bz))), (6, .int (nI (az))), (4, .int (nI (ss))), (3, .int (nI (mm))), (2, .int (nI (hbN nw j (nw 2)))), (0, .ref h), (1, .int (nI (j)))]) hx hb dX7_together_145 hl (by decide) rfl (fun ls hl => ?_)
                                  refine lv_iinc (v := nI (bz + 1)) (lv' := [(7, .int (nI (bz + 1))), (5, .int (nI (0))), (6, .int (nI (az))), (4, .int (nI (ss))), (3, .int (nI (mm))), (2, .int (nI (hbN nw j (nw 2)))), (0, .ref h), (1, .int (nI (j)))]) hx hb dX7_together_147 hl (k := 1) rfl (n_inc _ 1) (by decide) rfl (fun ls hl => ?_)
                                  refine lv_goto (tgt := 77) hx hb dX7_together_150 (by decide) ?_
                                  exact ih_77 0 (bz + 1) (by omega) (by omega) (by show _ = b2n (_ && (siB (clB bx nw) ss az bz && _)); rw [← Bool.and_assoc]; first | exact z_a0 hz2 (by assumption) | exact z_a2 hz2 (by assumption) hqq_q | exact z_a1 hqf_q) (by omega) _ _ hP hD hS _ (lv_sub hl [0, 2, 1, 3, 4, 5, 6, 7] rfl)
                                · -- 137 to 140
                                  have hqq_q := sq_3 (G := clB bx nw) (s := ss) (a := az) (b := bz) c_28
                                  refine lv_iconst (v := nI 1) hx hb dX7_together_140 (by decide) ?_
                                  refine lv_goto (tgt := 145) hx hb dX7_together_141 (by decide) ?_
                                  refine lv_istore (lv' := [(5, .int (nI (1))), (7, .int (nI (bz))), (6, .int (nI (az))), (4, .int (nI (ss))), (3, .int (nI (mm))), (2, .int (nI (hbN nw j (nw 2)))), (0, .ref h), (1, .int (nI (j)))]) hx hb dX7_together_145 hl (by decide) rfl (fun ls hl => ?_)
                                  refine lv_iinc (v := nI (bz + 1)) (lv' := [(7, .int (nI (bz + 1))), (5, .int (nI (1))), (6, .int (nI (az))), (4, .int (nI (ss))), (3, .int (nI (mm))), (2, .int (nI (hbN nw j (nw 2)))), (0, .ref h), (1, .int (nI (j)))]) hx hb dX7_together_147 hl (k := 1) rfl (n_inc _ 1) (by decide) rfl (fun ls hl => ?_)
                                  refine lv_goto (tgt := 77) hx hb dX7_together_150 (by decide) ?_
                                  exact ih_77 1 (bz + 1) (by omega) (by omega) (by show _ = b2n (_ && (siB (clB bx nw) ss az bz && _)); rw [← Bool.and_assoc]; first | exact z_a0 hz2 (by assumption) | exact z_a2 hz2 (by assumption) hqq_q | exact z_a1 hqf_q) (by omega) _ _ hP hD hS _ (lv_sub hl [0, 2, 1, 3, 4, 5, 6, 7] rfl)
                    exact loop_77 _ z (az + 1) (by omega) (by omega) (by rw [si_a, Bool.and_true]; exact hz) (Nat.lt_succ_self _) _ _ hP hD hS _ (lv_sub hl [0, 1, 2, 3, 4, 5, 6, 7] rfl)
            exact loop_55 _ 0 0 (by omega) (by rw [hb0_q]; rfl) (Nat.lt_succ_self _) _ _ hP hD hS _ (lv_sub hl [0, 1, 2, 3, 4, 5, 6] rfl)
          · -- 33 to 36
            have ha0_q := c_7
            refine lv_iload hx hb dX7_together_36 (lv_at hl 0 rfl) ?_
            refine cl_7_193 (As := [.int (nI (ss))]) (rest := []) hx hb hml hts hown (k_X7_bits (by omega)) (by decide) ⟨Nat.zero_le _, Nat.zero_le _⟩ hK hP hD hS hA [] rfl (by decide) rfl hl.1 rfl (Nat.le_of_ble_eq_true rfl) dX7_together_38 (fun r_29 u H locs hp_30 hP hD hS => ?_)
            obtain ⟨rfl, rfl⟩ := hp_30
            have hP : va_P D vwCl [mO h q zmu zmk zmz zms zma zmc, (q 0, .inl (cI, 54, .inl (fun z_ => nI (bx z_)))), (q 2, .inl (cI, 76, .inl (fun z_ => nI (nw z_))))] _ := hP
            have hD : va_D A [mO h q zmu zmk zmz zms zma zmc, (q 0, .inl (cI, 54, .inl (fun z_ => nI (bx z_)))), (q 2, .inl (cI, 76, .inl (fun z_ => nI (nw z_))))] := hD
            refine lv_iload_n hx hb dX7_together_41 rfl (lv_at hl 1 rfl) ?_
            have hpb_q := pc_le ss
            refine n_icmp_le (tgt := 49) hx hb dX7_together_42 (by decide) (by omega) (by omega) (fun c_31 => ?_) (fun c_31 => ?_)
            · -- 42 to 49
              have hb0_q : decide (anN ss (hbN nw j (nw 2)) = 0 ∧ bfN (clB bx nw) (nw 2) (hbN nw j (nw 2)) ss < pcN ss) = false := decide_eq_false (fun q => absurd q.2 (by rw [← hmm]; omega))
              refine lv_iconst (v := nI 0) hx hb dX7_together_49 (by decide) ?_
              refine lv_istore (lv' := [(5, .int (nI (0))), (4, .int (nI (ss))), (3, .int (nI (mm))), (2, .int (nI (hbN nw j (nw 2)))), (0, .ref h), (1, .int (nI (j)))]) hx hb dX7_together_50 hl (by decide) rfl (fun ls hl => ?_)
              refine lv_iconst (v := nI 0) hx hb dX7_together_52 (by decide) ?_
              refine lv_istore (lv' := [(6, .int (nI (0))), (5, .int (nI (0))), (4, .int (nI (ss))), (3, .int (nI (mm))), (2, .int (nI (hbN nw j (nw 2)))), (0, .ref h), (1, .int (nI (j)))]) hx hb dX7_together_53 hl (by decide) rfl (fun ls hl => ?_)
              have loop_55 : ∀ (N : Nat) (z : Nat) (az : Nat), (az ≤ nw 2) → (z = b2n (decide (anN ss (hbN nw j (nw 2)) = 0 ∧ bfN (clB bx nw) (nw 2) (hbN nw j (nw 2)) ss < pcN ss) && soB (clB bx nw) ss (nw 2) az)) → (nw 2 - az) < N → ∀ (H : Heap) (locs : List Loc), va_P D vwCl [mO h q zmu zmk zmz zms zma zmc, (q 0, .inl (cI, 54, .inl (fun z_ => nI (bx z_)))), (q 2, .inl (cI, 76, .inl (fun z_ => nI (nw z_))))] H → va_D A [mO h q zmu zmk zmz zms zma zmc, (q 0, .inl (cI, 54, .inl (fun z_ => nI (bx z_)))), (q 2, .inl (cI, 76, .inl (fun z_ => nI (nw z_))))] → va_S A s.heap H locs → ∀ ls : Array Slot, lv_has ls 8 [(6, .int (nI (az))), (5, .int (nI (z))), (4, .int (nI (ss))), (3, .int (nI (mm))), (2, .int (nI (hbN nw j (nw 2)))), (0, .ref h), (1, .int (nI (j)))] → W p l e (rmL 2) s m args below meth c H locs 0 0 Qf (F0 m 55 ls []) := by
                intro N; induction N with
                | zero => intro z az _ _ hm; omega
                | succ N ih_55 =>
                  intro z az ha hz hm H locs hP hD hS ls hl
                  have hz1 : z ≤ 1 := by rw [hz]; exact b2n_le _
                  refine lv_iload hx hb dX7_together_55 (lv_at hl 0 rfl) ?_
                  refine lv_aload_n hx hb dX7_together_57 rfl (lv_at hl 5 rfl) ?_
                  refine gf_7_16 hx hb hts hown hK hP 0 rfl rfl dX7_together_58 ?_
                  refine lv_iconst (v := nI 2) hx hb dX7_together_61 (by decide) ?_
                  refine n_iald hx hb hK hP 2 0 rfl rfl dX7_together_62 (by decide) (by omega) ?_
                  have hb_32 := hN.bd 2
                  refine n_icmp_ge (tgt := 159) hx hb dX7_together_63 (by decide) (by omega) (by omega) (fun c_33 => ?_) (fun c_33 => ?_)
                  · -- 63 to 159
                    refine lv_iload hx hb dX7_together_159 (lv_at hl 1 rfl) ?_
                    refine n_if_eq (tgt := 172) hx hb dX7_together_161 (by decide) (by omega) (fun c_34 => ?_) (fun c_34 => ?_)
                    · -- 161 to 172
                      refine lv_iload_n hx hb dX7_together_172 rfl (lv_at hl 3 rfl) ?_
                      refine lv_istore_n (lv' := [(3, .int (nI (mm))), (6, .int (nI (az))), (5, .int (nI (z))), (4, .int (nI (ss))), (2, .int (nI (hbN nw j (nw 2)))), (0, .ref h), (1, .int (nI (j)))]) hx hb dX7_together_173 rfl hl (by decide) rfl (fun ls hl => ?_)
                      refine lv_iinc (v := nI (ss + 1)) (lv' := [(4, .int (nI (ss + 1))), (3, .int (nI (mm))), (6, .int (nI (az))), (5, .int (nI (z))), (2, .int (nI (hbN nw j (nw 2)))), (0, .ref h), (1, .int (nI (j)))]) hx hb dX7_together_174 hl (k := 3) rfl (n_inc _ 1) (by decide) rfl (fun ls hl => ?_)
                      refine lv_goto (tgt := 21) hx hb dX7_together_177 (by decide) ?_
                      exact ih_21 mm (ss + 1) (by omega) (by first | exact bf_s0 hmm hz (by omega) (by assumption) | exact bf_s1 hz (by omega) (by assumption)) (by omega) _ _ hP hD hS _ (lv_sub hl [0, 1, 4, 5, 6] rfl)
                    · -- 161 to 164
                      refine lv_iload hx hb dX7_together_164 (lv_at hl 2 rfl) ?_
                      refine cl_7_193 (As := [.int (nI (ss))]) (rest := []) hx hb hml hts hown (k_X7_bits (by omega)) (by decide) ⟨Nat.zero_le _, Nat.zero_le _⟩ hK hP hD hS hA [] rfl (by decide) rfl hl.1 rfl (Nat.le_of_ble_eq_true rfl) dX7_together_166 (fun r_35 u H locs hp_36 hP hD hS => ?_)
                      obtain ⟨rfl, rfl⟩ := hp_36
                      have hP : va_P D vwCl [mO h q zmu zmk zmz zms zma zmc, (q 0, .inl (cI, 54, .inl (fun z_ => nI (bx z_)))), (q 2, .inl (cI, 76, .inl (fun z_ => nI (nw z_))))] _ := hP
                      have hD : va_D A [mO h q zmu zmk zmz zms zma zmc, (q 0, .inl (cI, 54, .inl (fun z_ => nI (bx z_)))), (q 2, .inl (cI, 76, .inl (fun z_ => nI (nw z_))))] := hD
                      refine lv_goto (tgt := 173) hx hb dX7_together_169 (by decide) ?_
                      refine lv_istore_n (lv' := [(3, .int (nI (pcN ss))), (6, .int (nI (az))), (5, .int (nI (z))), (4, .int (nI (ss))), (2, .int (nI (hbN nw j (nw 2)))), (0, .ref h), (1, .int (nI (j)))]) hx hb dX7_together_173 rfl hl (by decide) rfl (fun ls hl => ?_)
                      refine lv_iinc (v := nI (ss + 1)) (lv' := [(4, .int (nI (ss + 1))), (3, .int (nI (pcN ss))), (6, .int (nI (az))), (5, .int (nI (z))), (2, .int (nI (hbN nw j (nw 2)))), (0, .ref h), (1, .int (nI (j)))]) hx hb dX7_together_174 hl (k := 3) rfl (n_inc _ 1) (by decide) rfl (fun ls hl => ?_)
                      refine lv_goto (tgt := 21) hx hb dX7_together_177 (by decide) ?_
                      exact ih_21 (pcN ss) (ss + 1) (by omega) (by first | exact bf_s0 hmm hz (by omega) (by assumption) | exact bf_s1 hz (by omega) (by assumption)) (by omega) _ _ hP hD hS _ (lv_sub hl [0, 1, 4, 5, 6] rfl)
                  · -- 63 to 66
                    refine lv_iload hx hb dX7_together_66 (lv_at hl 1 rfl) ?_
                    refine n_if_eq (tgt := 159) hx hb dX7_together_68 (by decide) (by omega) (fun c_37 => ?_) (fun c_37 => ?_)
                    · -- 68 to 159
                      refine lv_iload hx hb dX7_together_159 (lv_at hl 1 rfl) ?_
                      refine n_if_eq (tgt := 172) hx hb dX7_together_161 (by decide) (by omega) (fun c_38 => ?_) (fun c_38 => ?_)
                      · -- 161 to 172
                        refine lv_iload_n hx hb dX7_together_172 rfl (lv_at hl 3 rfl) ?_
                        refine lv_istore_n (lv' := [(3, .int (nI (mm))), (6, .int (nI (az))), (5, .int (nI (z))), (4, .int (nI (ss))), (2, .int (nI (hbN nw j (nw 2)))), (0, .ref h), (1, .int (nI (j)))]) hx hb dX7_together_173 rfl hl (by decide) rfl (fun ls hl => ?_)
                        refine lv_iinc (v := nI (ss + 1)) (lv' := [(4, .int (nI (ss + 1))), (3, .int (nI (mm))), (6, .int (nI (az))), (5, .int (nI (z))), (2, .int (nI (hbN nw j (nw 2)))), (0, .ref h), (1, .int (nI (j)))]) hx hb dX7_together_174 hl (k := 3) rfl (n_inc _ 1) (by decide) rfl (fun ls hl => ?_)
                        refine lv_goto (tgt := 21) hx hb dX7_together_177 (by decide) ?_
                        exact ih_21 mm (ss + 1) (by omega) (by first | exact bf_s0 hmm hz (by omega) (by assumption) | exact bf_s1 hz (by omega) (by assumption)) (by omega) _ _ hP hD hS _ (lv_sub hl [0, 1, 4, 5, 6] rfl)
                      · omega
                    · -- 68 to 71
                      refine lv_iload hx hb dX7_together_71 (lv_at hl 0 rfl) ?_
                      refine lv_iconst (v := nI 1) hx hb dX7_together_73 (by decide) ?_
                      refine n_iadd hx hb dX7_together_74  ?_
                      refine lv_istore (lv' := [(7, .int (nI (az + 1))), (6, .int (nI (az))), (5, .int (nI (z))), (4, .int (nI (ss))), (3, .int (nI (mm))), (2, .int (nI (hbN nw j (nw 2)))), (0, .ref h), (1, .int (nI (j)))]) hx hb dX7_together_75 hl (by decide) rfl (fun ls hl => ?_)
                      have loop_77 : ∀ (N : Nat) (z2 : Nat) (bz : Nat), (az + 1 ≤ bz) → (bz ≤ nw 2) → (z2 = b2n ((decide (anN ss (hbN nw j (nw 2)) = 0 ∧ bfN (clB bx nw) (nw 2) (hbN nw j (nw 2)) ss < pcN ss) && soB (clB bx nw) ss (nw 2) az) && siB (clB bx nw) ss az bz)) → (nw 2 - bz) < N → ∀ (H : Heap) (locs : List Loc), va_P D vwCl [mO h q zmu zmk zmz zms zma zmc, (q 0, .inl (cI, 54, .inl (fun z_ => nI (bx z_)))), (q 2, .inl (cI, 76, .inl (fun z_ => nI (nw z_))))] H → va_D A [mO h q zmu zmk zmz zms zma zmc, (q 0, .inl (cI, 54, .inl (fun z_ => nI (bx z_)))), (q 2, .inl (cI, 76, .inl (fun z_ => nI (nw z_))))] → va_S A s.heap H locs → ∀ ls : Array Slot, lv_has ls 8 [(7, .int (nI (bz))), (6, .int (nI (az))), (5, .int (nI (z2))), (4, .int (nI (ss))), (3, .int (nI (mm))), (2, .int (nI (hbN nw j (nw 2)))), (0, .ref h), (1, .int (nI (j)))] → W p l e (rmL 2) s m args below meth c H locs 0 0 Qf (F0 m 77 ls []) := by
                        intro N; induction N with
                        | zero => intro z2 bz _ _ _ hm; omega
                        | succ N ih_77 =>
                          intro z2 bz hb1 hb2 hz2 hm H locs hP hD hS ls hl
                          have hz3 : z2 ≤ 1 := by rw [hz2]; exact b2n_le _
                          refine lv_iload hx hb dX7_together_77 (lv_at hl 0 rfl) ?_
                          refine lv_aload_n hx hb dX7_together_79 rfl (lv_at hl 6 rfl) ?_
                          refine gf_7_16 hx hb hts hown hK hP 0 rfl rfl dX7_together_80 ?_
                          refine lv_iconst (v := nI 2) hx hb dX7_together_83 (by decide) ?_
                          refine n_iald hx hb hK hP 2 0 rfl rfl dX7_together_84 (by decide) (by omega) ?_
                          have hb_39 := hN.bd 2
                          refine n_icmp_ge (tgt := 153) hx hb dX7_together_85 (by decide) (by omega) (by omega) (fun c_40 => ?_) (fun c_40 => ?_)
                          · -- 85 to 153
                            refine lv_iinc (v := nI (az + 1)) (lv' := [(6, .int (nI (az + 1))), (7, .int (nI (bz))), (5, .int (nI (z2))), (4, .int (nI (ss))), (3, .int (nI (mm))), (2, .int (nI (hbN nw j (nw 2)))), (0, .ref h), (1, .int (nI (j)))]) hx hb dX7_together_153 hl (k := 1) rfl (n_inc _ 1) (by decide) rfl (fun ls hl => ?_)
                            refine lv_goto (tgt := 55) hx hb dX7_together_156 (by decide) ?_
                            exact ih_55 z2 (az + 1) (by omega) (by rw [hz2, show bz = nw 2 by omega, Bool.and_assoc]; rfl) (by omega) _ _ hP hD hS _ (lv_sub hl [0, 2, 3, 4, 5, 6, 7] rfl)
                          · -- 85 to 88
                            refine lv_iload hx hb dX7_together_88 (lv_at hl 2 rfl) ?_
                            refine n_if_eq (tgt := 144) hx hb dX7_together_90 (by decide) (by omega) (fun c_41 => ?_) (fun c_41 => ?_)
                            · -- 90 to 144
                              refine lv_iconst (v := nI 0) hx hb dX7_together_144 (by decide) ?_
                              refine lv_istore (lv' := [(5, .int (nI (0))), (7, .int (nI (bz))), (6, .int (nI (az))), (4, .int (nI (ss))), (3, .int (nI (mm))), (2, .int (nI (hbN nw j (nw 2)))), (0, .ref h), (1, .int (nI (j)))]) hx hb dX7_together_145 hl (by decide) rfl (fun ls hl => ?_)
                              refine lv_iinc (v := nI (bz + 1)) (lv' := [(7, .int (nI (bz + 1))), (5, .int (nI (0))), (6, .int (nI (az))), (4, .int (nI (ss))), (3, .int (nI (mm))), (2, .int (nI (hbN nw j (nw 2)))), (0, .ref h), (1, .int (nI (j)))]) hx hb dX7_together_147 hl (k := 1) rfl (n_inc _ 1) (by decide) rfl (fun ls hl => ?_)
                              refine lv_goto (tgt := 77) hx hb dX7_together_150 (by decide) ?_
                              exact ih_77 0 (bz + 1) (by omega) (by omega) (by show _ = b2n (_ && (siB (clB bx nw) ss az bz && _)); rw [← Bool.and_assoc]; first | exact z_a0 hz2 (by assumption) | exact z_a2 hz2 (by assumption) hqq_q | exact z_a1 hqf_q) (by omega) _ _ hP hD hS _ (lv_sub hl [0, 2, 1, 3, 4, 5, 6, 7] rfl)
                            · -- 90 to 93
                              refine lv_iload hx hb dX7_together_93 (lv_at hl 3 rfl) ?_
                              refine lv_iload hx hb dX7_together_95 (lv_at hl 1 rfl) ?_
                              refine cl_7_137 (As := [.int (nI (ss)), .int (nI (az))]) (rest := []) hx hb hml hts hown (k_X7_has (by omega) (by omega)) (by decide) ⟨Nat.zero_le _, Nat.zero_le _⟩ hK hP hD hS hA [] rfl (by decide) rfl hl.1 rfl (Nat.le_of_ble_eq_true rfl) dX7_together_97 (fun r_42 u H locs hp_43 hP hD hS => ?_)
                              obtain ⟨rfl, rfl⟩ := hp_43
                              have hP : va_P D vwCl [mO h q zmu zmk zmz zms zma zmc, (q 0, .inl (cI, 54, .inl (fun z_ => nI (bx z_)))), (q 2, .inl (cI, 76, .inl (fun z_ => nI (nw z_))))] _ := hP
                              have hD : va_D A [mO h q zmu zmk zmz zms zma zmc, (q 0, .inl (cI, 54, .inl (fun z_ => nI (bx z_)))), (q 2, .inl (cI, 76, .inl (fun z_ => nI (nw z_))))] := hD
                              refine n_ifb_eq (tgt := 140) hx hb dX7_together_100 (by decide) (fun c_44 => ?_) (fun c_44 => ?_)
                              · -- 100 to 140
                                have hqq_q := sq_1 (G := clB bx nw) (b := bz) c_44
                                refine lv_iconst (v := nI 1) hx hb dX7_together_140 (by decide) ?_
                                refine lv_goto (tgt := 145) hx hb dX7_together_141 (by decide) ?_
                                refine lv_istore (lv' := [(5, .int (nI (1))), (7, .int (nI (bz))), (6, .int (nI (az))), (4, .int (nI (ss))), (3, .int (nI (mm))), (2, .int (nI (hbN nw j (nw 2)))), (0, .ref h), (1, .int (nI (j)))]) hx hb dX7_together_145 hl (by decide) rfl (fun ls hl => ?_)
                                refine lv_iinc (v := nI (bz + 1)) (lv' := [(7, .int (nI (bz + 1))), (5, .int (nI (1))), (6, .int (nI (az))), (4, .int (nI (ss))), (3, .int (nI (mm))), (2, .int (nI (hbN nw j (nw 2)))), (0, .ref h), (1, .int (nI (j)))]) hx hb dX7_together_147 hl (k := 1) rfl (n_inc _ 1) (by decide) rfl (fun ls hl => ?_)
                                refine lv_goto (tgt := 77) hx hb dX7_together_150 (by decide) ?_
                                exact ih_77 1 (bz + 1) (by omega) (by omega) (by show _ = b2n (_ && (siB (clB bx nw) ss az bz && _)); rw [← Bool.and_assoc]; first | exact z_a0 hz2 (by assumption) | exact z_a2 hz2 (by assumption) hqq_q | exact z_a1 hqf_q) (by omega) _ _ hP hD hS _ (lv_sub hl [0, 2, 1, 3, 4, 5, 6, 7] rfl)
                              · -- 100 to 103
                                have hsa_q := c_44
                                refine lv_iload hx hb dX7_together_103 (lv_at hl 3 rfl) ?_
                                refine lv_iload hx hb dX7_together_105 (lv_at hl 0 rfl) ?_
                                refine cl_7_137 (As := [.int (nI (ss)), .int (nI (bz))]) (rest := []) hx hb hml hts hown (k_X7_has (by omega) (by omega)) (by decide) ⟨Nat.zero_le _, Nat.zero_le _⟩ hK hP hD hS hA [] rfl (by decide) rfl hl.1 rfl (Nat.le_of_ble_eq_true rfl) dX7_together_107 (fun r_45 u H locs hp_46 hP hD hS => ?_)
                                obtain ⟨rfl, rfl⟩ := hp_46
                                have hP : va_P D vwCl [mO h q zmu zmk zmz zms zma zmc, (q 0, .inl (cI, 54, .inl (fun z_ => nI (bx z_)))), (q 2, .inl (cI, 76, .inl (fun z_ => nI (nw z_))))] _ := hP
                                have hD : va_D A [mO h q zmu zmk zmz zms zma zmc, (q 0, .inl (cI, 54, .inl (fun z_ => nI (bx z_)))), (q 2, .inl (cI, 76, .inl (fun z_ => nI (nw z_))))] := hD
                                refine n_ifb_eq (tgt := 140) hx hb dX7_together_110 (by decide) (fun c_47 => ?_) (fun c_47 => ?_)
                                · -- 110 to 140
                                  have hqq_q := sq_2 (G := clB bx nw) (a := az) c_47
                                  refine lv_iconst (v := nI 1) hx hb dX7_together_140 (by decide) ?_
                                  refine lv_goto (tgt := 145) hx hb dX7_together_141 (by decide) ?_
                                  refine lv_istore (lv' := [(5, .int (nI (1))), (7, .int (nI (bz))), (6, .int (nI (az))), (4, .int (nI (ss))), (3, .int (nI (mm))), (2, .int (nI (hbN nw j (nw 2)))), (0, .ref h), (1, .int (nI (j)))]) hx hb dX7_together_145 hl (by decide) rfl (fun ls hl => ?_)
                                  refine lv_iinc (v := nI (bz + 1)) (lv' := [(7, .int (nI (bz + 1))), (5, .int (nI (1))), (6, .int (nI (az))), (4, .int (nI (ss))), (3, .int (nI (mm))), (2, .int (nI (hbN nw j (nw 2)))), (0, .ref h), (1, .int (nI (j)))]) hx hb dX7_together_147 hl (k := 1) rfl (n_inc _ 1) (by decide) rfl (fun ls hl => ?_)
                                  refine lv_goto (tgt := 77) hx hb dX7_together_150 (by decide) ?_
                                  exact ih_77 1 (bz + 1) (by omega) (by omega) (by show _ = b2n (_ && (siB (clB bx nw) ss az bz && _)); rw [← Bool.and_assoc]; first | exact z_a0 hz2 (by assumption) | exact z_a2 hz2 (by assumption) hqq_q | exact z_a1 hqf_q) (by omega) _ _ hP hD hS _ (lv_sub hl [0, 2, 1, 3, 4, 5, 6, 7] rfl)
                                · -- 110 to 113
                                  have hsb_q := c_47
                                  have hka_q := (hN.k az (by omega)).1
                                  have hkb_q := (hN.k bz (by omega)).1
                                  refine lv_aload_n hx hb dX7_together_113 rfl (lv_at hl 6 rfl) ?_
                                  refine lv_aload_n hx hb dX7_together_114 rfl (lv_at hl 6 rfl) ?_
                                  refine gf_7_16 hx hb hts hown hK hP 0 rfl rfl dX7_together_115 ?_
                                  refine lv_bipush (v := nI 16) hx hb dX7_together_118 (by decide) ?_
                                  refine lv_iload hx hb dX7_together_120 (lv_at hl 1 rfl) ?_
                                  refine n_iadd hx hb dX7_together_122  ?_
                                  refine n_iald hx hb hK hP 2 0 rfl rfl dX7_together_123 (by decide) (by omega) ?_
                                  have hb_48 := hN.bd (16 + az)
                                  refine lv_aload_n hx hb dX7_together_124 rfl (lv_at hl 6 rfl) ?_
                                  refine gf_7_16 hx hb hts hown hK hP 0 rfl rfl dX7_together_125 ?_
                                  refine lv_bipush (v := nI 16) hx hb dX7_together_128 (by decide) ?_
                                  refine lv_iload hx hb dX7_together_130 (lv_at hl 0 rfl) ?_
                                  refine n_iadd hx hb dX7_together_132  ?_
                                  refine n_iald hx hb hK hP 2 0 rfl rfl dX7_together_133 (by decide) (by omega) ?_
                                  have hb_49 := hN.bd (16 + bz)
                                  refine cl_7_229 (As := [.int (nI (nw (16 + az))), .int (nI (nw (16 + bz)))]) (rest := []) hx hb hml hts hown (k_X7_clash hB (by omega) (by omega)) (by decide) ⟨Nat.zero_le _, Nat.zero_le _⟩ hK hP hD hS hA 0 rfl [0, 1] rfl (by decide) rfl hl.1 rfl (Nat.le_of_ble_eq_true rfl) dX7_together_134 (fun r_50 u H locs hp_51 hP hD hS => ?_)
                                  obtain ⟨rfl, rfl⟩ := hp_51
                                  have hP : va_P D vwCl [mO h q zmu zmk zmz zms zma zmc, (q 0, .inl (cI, 54, .inl (fun z_ => nI (bx z_)))), (q 2, .inl (cI, 76, .inl (fun z_ => nI (nw z_))))] _ := hP
                                  have hD : va_D A [mO h q zmu zmk zmz zms zma zmc, (q 0, .inl (cI, 54, .inl (fun z_ => nI (bx z_)))), (q 2, .inl (cI, 76, .inl (fun z_ => nI (nw z_))))] := hD
                                  refine n_ifb_ne (tgt := 144) hx hb dX7_together_137 (by decide) (fun c_52 => ?_) (fun c_52 => ?_)
                                  · -- 137 to 144
                                    have hqf_q := sq_4 (G := clB bx nw) (show az < bz by omega) hsa_q hsb_q c_52
                                    refine lv_iconst (v := nI 0) hx hb dX7_together_144 (by decide) ?_
                                    refine lv_istore (lv' := [(5, .int (nI (0))), (7, .int (nI (bz))), (6, .int (nI (az))), (4, .int (nI (ss))), (3, .int (nI (mm))), (2, .int (nI (hbN nw j (nw 2)))), (0, .ref h), (1, .int (nI (j)))]) hx hb dX7_together_145 hl (by decide) rfl (fun ls hl => ?_)
                                    refine lv_iinc (v := nI (bz + 1)) (lv' := [(7, .int (nI (bz + 1))), (5, .int (nI (0))), (6, .int (nI (az))), (4, .int (nI (ss))), (3, .int (nI (mm))), (2, .int (nI (hbN nw j (nw 2)))), (0, .ref h), (1, .int (nI (j)))]) hx hb dX7_together_147 hl (k := 1) rfl (n_inc _ 1) (by decide) rfl (fun ls hl => ?_)
                                    refine lv_goto (tgt := 77) hx hb dX7_together_150 (by decide) ?_
                                    exact ih_77 0 (bz + 1) (by omega) (by omega) (by show _ = b2n (_ && (siB (clB bx nw) ss az bz && _)); rw [← Bool.and_assoc]; first | exact z_a0 hz2 (by assumption) | exact z_a2 hz2 (by assumption) hqq_q | exact z_a1 hqf_q) (by omega) _ _ hP hD hS _ (lv_sub hl [0, 2, 1, 3, 4, 5, 6, 7] rfl)
                                  · -- 137 to 140
                                    have hqq_q := sq_3 (G := clB bx nw) (s := ss) (a := az) (b := bz) c_52
                                    refine lv_iconst (v := nI 1) hx hb dX7_together_140 (by decide) ?_
                                    refine lv_goto (tgt := 145) hx hb dX7_together_141 (by decide) ?_
                                    refine lv_istore (lv' := [(5, .int (nI (1))), (7, .int (nI (bz))), (6, .int (nI (az))), (4, .int (nI (ss))), (3, .int (nI (mm))), (2, .int (nI (hbN nw j (nw 2)))), (0, .ref h), (1, .int (nI (j)))]) hx hb dX7_together_145 hl (by decide) rfl (fun ls hl => ?_)
                                    refine lv_iinc (v := nI (bz + 1)) (lv' := [(7, .int (nI (bz + 1))), (5, .int (nI (1))), (6, .int (nI (az))), (4, .int (nI (ss))), (3, .int (nI (mm))), (2, .int (nI (hbN nw j (nw 2)))), (0, .ref h), (1, .int (nI (j)))]) hx hb dX7_together_147 hl (k := 1) rfl (n_inc _ 1) (by decide) rfl (fun ls hl => ?_)
                                    refine lv_goto (tgt := 77) hx hb dX7_together_150 (by decide) ?_
                                    exact ih_77 1 (bz + 1) (by omega) (by omega) (by show _ = b2n (_ && (siB (clB bx nw) ss az bz && _)); rw [← Bool.and_assoc]; first | exact z_a0 hz2 (by assumption) | exact z_a2 hz2 (by assumption) hqq_q | exact z_a1 hqf_q) (by omega) _ _ hP hD hS _ (lv_sub hl [0, 2, 1, 3, 4, 5, 6, 7] rfl)
                      exact loop_77 _ z (az + 1) (by omega) (by omega) (by rw [si_a, Bool.and_true]; exact hz) (Nat.lt_succ_self _) _ _ hP hD hS _ (lv_sub hl [0, 1, 2, 3, 4, 5, 6, 7] rfl)
              exact loop_55 _ 0 0 (by omega) (by rw [hb0_q]; rfl) (Nat.lt_succ_self _) _ _ hP hD hS _ (lv_sub hl [0, 1, 2, 3, 4, 5, 6] rfl)
            · -- 42 to 45
              have hb0_q : decide (anN ss (hbN nw j (nw 2)) = 0 ∧ bfN (clB bx nw) (nw 2) (hbN nw j (nw 2)) ss < pcN ss) = true := decide_eq_true ⟨ha0_q, by rw [← hmm]; omega⟩
              refine lv_iconst (v := nI 1) hx hb dX7_together_45 (by decide) ?_
              refine lv_goto (tgt := 50) hx hb dX7_together_46 (by decide) ?_
              refine lv_istore (lv' := [(5, .int (nI (1))), (4, .int (nI (ss))), (3, .int (nI (mm))), (2, .int (nI (hbN nw j (nw 2)))), (0, .ref h), (1, .int (nI (j)))]) hx hb dX7_together_50 hl (by decide) rfl (fun ls hl => ?_)
              refine lv_iconst (v := nI 0) hx hb dX7_together_52 (by decide) ?_
              refine lv_istore (lv' := [(6, .int (nI (0))), (5, .int (nI (1))), (4, .int (nI (ss))), (3, .int (nI (mm))), (2, .int (nI (hbN nw j (nw 2)))), (0, .ref h), (1, .int (nI (j)))]) hx hb dX7_together_53 hl (by decide) rfl (fun ls hl => ?_)
              have loop_55 : ∀ (N : Nat) (z : Nat) (az : Nat), (az ≤ nw 2) → (z = b2n (decide (anN ss (hbN nw j (nw 2)) = 0 ∧ bfN (clB bx nw) (nw 2) (hbN nw j (nw 2)) ss < pcN ss) && soB (clB bx nw) ss (nw 2) az)) → (nw 2 - az) < N → ∀ (H : Heap) (locs : List Loc), va_P D vwCl [mO h q zmu zmk zmz zms zma zmc, (q 0, .inl (cI, 54, .inl (fun z_ => nI (bx z_)))), (q 2, .inl (cI, 76, .inl (fun z_ => nI (nw z_))))] H → va_D A [mO h q zmu zmk zmz zms zma zmc, (q 0, .inl (cI, 54, .inl (fun z_ => nI (bx z_)))), (q 2, .inl (cI, 76, .inl (fun z_ => nI (nw z_))))] → va_S A s.heap H locs → ∀ ls : Array Slot, lv_has ls 8 [(6, .int (nI (az))), (5, .int (nI (z))), (4, .int (nI (ss))), (3, .int (nI (mm))), (2, .int (nI (hbN nw j (nw 2)))), (0, .ref h), (1, .int (nI (j)))] → W p l e (rmL 2) s m args below meth c H locs 0 0 Qf (F0 m 55 ls []) := by
                intro N; induction N with
                | zero => intro z az _ _ hm; omega
                | succ N ih_55 =>
                  intro z az ha hz hm H locs hP hD hS ls hl
                  have hz1 : z ≤ 1 := by rw [hz]; exact b2n_le _
                  refine lv_iload hx hb dX7_together_55 (lv_at hl 0 rfl) ?_
                  refine lv_aload_n hx hb dX7_together_57 rfl (lv_at hl 5 rfl) ?_
                  refine gf_7_16 hx hb hts hown hK hP 0 rfl rfl dX7_together_58 ?_
                  refine lv_iconst (v := nI 2) hx hb dX7_together_61 (by decide) ?_
                  refine n_iald hx hb hK hP 2 0 rfl rfl dX7_together_62 (by decide) (by omega) ?_
                  have hb_53 := hN.bd 2
                  refine n_icmp_ge (tgt := 159) hx hb dX7_together_63 (by decide) (by omega) (by omega) (fun c_54 => ?_) (fun c_54 => ?_)
                  · -- 63 to 159
                    refine lv_iload hx hb dX7_together_159 (lv_at hl 1 rfl) ?_
                    refine n_if_eq (tgt := 172) hx hb dX7_together_161 (by decide) (by omega) (fun c_55 => ?_) (fun c_55 => ?_)
                    · -- 161 to 172
                      refine lv_iload_n hx hb dX7_together_172 rfl (lv_at hl 3 rfl) ?_
                      refine lv_istore_n (lv' := [(3, .int (nI (mm))), (6, .int (nI (az))), (5, .int (nI (z))), (4, .int (nI (ss))), (2, .int (nI (hbN nw j (nw 2)))), (0, .ref h), (1, .int (nI (j)))]) hx hb dX7_together_173 rfl hl (by decide) rfl (fun ls hl => ?_)
                      refine lv_iinc (v := nI (ss + 1)) (lv' := [(4, .int (nI (ss + 1))), (3, .int (nI (mm))), (6, .int (nI (az))), (5, .int (nI (z))), (2, .int (nI (hbN nw j (nw 2)))), (0, .ref h), (1, .int (nI (j)))]) hx hb dX7_together_174 hl (k := 3) rfl (n_inc _ 1) (by decide) rfl (fun ls hl => ?_)
                      refine lv_goto (tgt := 21) hx hb dX7_together_177 (by decide) ?_
                      exact ih_21 mm (ss + 1) (by omega) (by first | exact bf_s0 hmm hz (by omega) (by assumption) | exact bf_s1 hz (by omega) (by assumption)) (by omega) _ _ hP hD hS _ (lv_sub hl [0, 1, 4, 5, 6] rfl)
                    · -- 161 to 164
                      refine lv_iload hx hb dX7_together_164 (lv_at hl 2 rfl) ?_
                      refine cl_7_193 (As := [.int (nI (ss))]) (rest := []) hx hb hml hts hown (k_X7_bits (by omega)) (by decide) ⟨Nat.zero_le _, Nat.zero_le _⟩ hK hP hD hS hA [] rfl (by decide) rfl hl.1 rfl (Nat.le_of_ble_eq_true rfl) dX7_together_166 (fun r_56 u H locs hp_57 hP hD hS => ?_)
                      obtain ⟨rfl, rfl⟩ := hp_57
                      have hP : va_P D vwCl [mO h q zmu zmk zmz zms zma zmc, (q 0, .inl (cI, 54, .inl (fun z_ => nI (bx z_)))), (q 2, .inl (cI, 76, .inl (fun z_ => nI (nw z_))))] _ := hP
                      have hD : va_D A [mO h q zmu zmk zmz zms zma zmc, (q 0, .inl (cI, 54, .inl (fun z_ => nI (bx z_)))), (q 2, .inl (cI, 76, .inl (fun z_ => nI (nw z_))))] := hD
                      refine lv_goto (tgt := 173) hx hb dX7_together_169 (by decide) ?_
                      refine lv_istore_n (lv' := [(3, .int (nI (pcN ss))), (6, .int (nI (az))), (5, .int (nI (z))), (4, .int (nI (ss))), (2, .int (nI (hbN nw j (nw 2)))), (0, .ref h), (1, .int (nI (j)))]) hx hb dX7_together_173 rfl hl (by decide) rfl (fun ls hl => ?_)
                      refine lv_iinc (v := nI (ss + 1)) (lv' := [(4, .int (nI (ss + 1))), (3, .int (nI (pcN ss))), (6, .int (nI (az))), (5, .int (nI (z))), (2, .int (nI (hbN nw j (nw 2)))), (0, .ref h), (1, .int (nI (j)))]) hx hb dX7_together_174 hl (k := 3) rfl (n_inc _ 1) (by decide) rfl (fun ls hl => ?_)
                      refine lv_goto (tgt := 21) hx hb dX7_together_177 (by decide) ?_
                      exact ih_21 (pcN ss) (ss + 1) (by omega) (by first | exact bf_s0 hmm hz (by omega) (by assumption) | exact bf_s1 hz (by omega) (by assumption)) (by omega) _ _ hP hD hS _ (lv_sub hl [0, 1, 4, 5, 6] rfl)
                  · -- 63 to 66
                    refine lv_iload hx hb dX7_together_66 (lv_at hl 1 rfl) ?_
                    refine n_if_eq (tgt := 159) hx hb dX7_together_68 (by decide) (by omega) (fun c_58 => ?_) (fun c_58 => ?_)
                    · -- 68 to 159
                      refine lv_iload hx hb dX7_together_159 (lv_at hl 1 rfl) ?_
                      refine n_if_eq (tgt := 172) hx hb dX7_together_161 (by decide) (by omega) (fun c_59 => ?_) (fun c_59 => ?_)
                      · -- 161 to 172
                        refine lv_iload_n hx hb dX7_together_172 rfl (lv_at hl 3 rfl) ?_
                        refine lv_istore_n (lv' := [(3, .int (nI (mm))), (6, .int (nI (az))), (5, .int (nI (z))), (4, .int (nI (ss))), (2, .int (nI (hbN nw j (nw 2)))), (0, .ref h), (1, .int (nI (j)))]) hx hb dX7_together_173 rfl hl (by decide) rfl (fun ls hl => ?_)
                        refine lv_iinc (v := nI (ss + 1)) (lv' := [(4, .int (nI (ss + 1))), (3, .int (nI (mm))), (6, .int (nI (az))), (5, .int (nI (z))), (2, .int (nI (hbN nw j (nw 2)))), (0, .ref h), (1, .int (nI (j)))]) hx hb dX7_together_174 hl (k := 3) rfl (n_inc _ 1) (by decide) rfl (fun ls hl => ?_)
                        refine lv_goto (tgt := 21) hx hb dX7_together_177 (by decide) ?_
                        exact ih_21 mm (ss + 1) (by omega) (by first | exact bf_s0 hmm hz (by omega) (by assumption) | exact bf_s1 hz (by omega) (by assumption)) (by omega) _ _ hP hD hS _ (lv_sub hl [0, 1, 4, 5, 6] rfl)
                      · omega
                    · -- 68 to 71
                      refine lv_iload hx hb dX7_together_71 (lv_at hl 0 rfl) ?_
                      refine lv_iconst (v := nI 1) hx hb dX7_together_73 (by decide) ?_
                      refine n_iadd hx hb dX7_together_74  ?_
                      refine lv_istore (lv' := [(7, .int (nI (az + 1))), (6, .int (nI (az))), (5, .int (nI (z))), (4, .int (nI (ss))), (3, .int (nI (mm))), (2, .int (nI (hbN nw j (nw 2)))), (0, .ref h), (1, .int (nI (j)))]) hx hb dX7_together_75 hl (by decide) rfl (fun ls hl => ?_)
                      have loop_77 : ∀ (N : Nat) (z2 : Nat) (bz : Nat), (az + 1 ≤ bz) → (bz ≤ nw 2) → (z2 = b2n ((decide (anN ss (hbN nw j (nw 2)) = 0 ∧ bfN (clB bx nw) (nw 2) (hbN nw j (nw 2)) ss < pcN ss) && soB (clB bx nw) ss (nw 2) az) && siB (clB bx nw) ss az bz)) → (nw 2 - bz) < N → ∀ (H : Heap) (locs : List Loc), va_P D vwCl [mO h q zmu zmk zmz zms zma zmc, (q 0, .inl (cI, 54, .inl (fun z_ => nI (bx z_)))), (q 2, .inl (cI, 76, .inl (fun z_ => nI (nw z_))))] H → va_D A [mO h q zmu zmk zmz zms zma zmc, (q 0, .inl (cI, 54, .inl (fun z_ => nI (bx z_)))), (q 2, .inl (cI, 76, .inl (fun z_ => nI (nw z_))))] → va_S A s.heap H locs → ∀ ls : Array Slot, lv_has ls 8 [(7, .int (nI (bz))), (6, .int (nI (az))), (5, .int (nI (z2))), (4, .int (nI (ss))), (3, .int (nI (mm))), (2, .int (nI (hbN nw j (nw 2)))), (0, .ref h), (1, .int (nI (j)))] → W p l e (rmL 2) s m args below meth c H locs 0 0 Qf (F0 m 77 ls []) := by
                        intro N; induction N with
                        | zero => intro z2 bz _ _ _ hm; omega
                        | succ N ih_77 =>
                          intro z2 bz hb1 hb2 hz2 hm H locs hP hD hS ls hl
                          have hz3 : z2 ≤ 1 := by rw [hz2]; exact b2n_le _
                          refine lv_iload hx hb dX7_together_77 (lv_at hl 0 rfl) ?_
                          refine lv_aload_n hx hb dX7_together_79 rfl (lv_at hl 6 rfl) ?_
                          refine gf_7_16 hx hb hts hown hK hP 0 rfl rfl dX7_together_80 ?_
                          refine lv_iconst (v := nI 2) hx hb dX7_together_83 (by decide) ?_
                          refine n_iald hx hb hK hP 2 0 rfl rfl dX7_together_84 (by decide) (by omega) ?_
                          have hb_60 := hN.bd 2
                          refine n_icmp_ge (tgt := 153) hx hb dX7_together_85 (by decide) (by omega) (by omega) (fun c_61 => ?_) (fun c_61 => ?_)
                          · -- 85 to 153
                            refine lv_iinc (v := nI (az + 1)) (lv' := [(6, .int (nI (az + 1))), (7, .int (nI (bz))), (5, .int (nI (z2))), (4, .int (nI (ss))), (3, .int (nI (mm))), (2, .int (nI (hbN nw j (nw 2)))), (0, .ref h), (1, .int (nI (j)))]) hx hb dX7_together_153 hl (k := 1) rfl (n_inc _ 1) (by decide) rfl (fun ls hl => ?_)
                            refine lv_goto (tgt := 55) hx hb dX7_together_156 (by decide) ?_
                            exact ih_55 z2 (az + 1) (by omega) (by rw [hz2, show bz = nw 2 by omega, Bool.and_assoc]; rfl) (by omega) _ _ hP hD hS _ (lv_sub hl [0, 2, 3, 4, 5, 6, 7] rfl)
                          · -- 85 to 88
                            refine lv_iload hx hb dX7_together_88 (lv_at hl 2 rfl) ?_
                            refine n_if_eq (tgt := 144) hx hb dX7_together_90 (by decide) (by omega) (fun c_62 => ?_) (fun c_62 => ?_)
                            · -- 90 to 144
                              refine lv_iconst (v := nI 0) hx hb dX7_together_144 (by decide) ?_
                              refine lv_istore (lv' := [(5, .int (nI (0))), (7, .int (nI (bz))), (6, .int (nI (az))), (4, .int (nI (ss))), (3, .int (nI (mm))), (2, .int (nI (hbN nw j (nw 2)))), (0, .ref h), (1, .int (nI (j)))]) hx hb dX7_together_145 hl (by decide) rfl (fun ls hl => ?_)
                              refine lv_iinc (v := nI (bz + 1)) (lv' := [(7, .int (nI (bz + 1))), (5, .int (nI (0))), (6, .int (nI (az))), (4, .int (nI (ss))), (3, .int (nI (mm))), (2, .int (nI (hbN nw j (nw 2)))), (0, .ref h), (1, .int (nI (j)))]) hx hb dX7_together_147 hl (k := 1) rfl (n_inc _ 1) (by decide) rfl (fun ls hl => ?_)
                              refine lv_goto (tgt := 77) hx hb dX7_together_150 (by decide) ?_
                              exact ih_77 0 (bz + 1) (by omega) (by omega) (by show _ = b2n (_ && (siB (clB bx nw) ss az bz && _)); rw [← Bool.and_assoc]; first | exact z_a0 hz2 (by assumption) | exact z_a2 hz2 (by assumption) hqq_q | exact z_a1 hqf_q) (by omega) _ _ hP hD hS _ (lv_sub hl [0, 2, 1, 3, 4, 5, 6, 7] rfl)
                            · -- 90 to 93
                              refine lv_iload hx hb dX7_together_93 (lv_at hl 3 rfl) ?_
                              refine lv_iload hx hb dX7_together_95 (lv_at hl 1 rfl) ?_
                              refine cl_7_137 (As := [.int (nI (ss)), .int (nI (az))]) (rest := []) hx hb hml hts hown (k_X7_has (by omega) (by omega)) (by decide) ⟨Nat.zero_le _, Nat.zero_le _⟩ hK hP hD hS hA [] rfl (by decide) rfl hl.1 rfl (Nat.le_of_ble_eq_true rfl) dX7_together_97 (fun r_63 u H locs hp_64 hP hD hS => ?_)
                              obtain ⟨rfl, rfl⟩ := hp_64
                              have hP : va_P D vwCl [mO h q zmu zmk zmz zms zma zmc, (q 0, .inl (cI, 54, .inl (fun z_ => nI (bx z_)))), (q 2, .inl (cI, 76, .inl (fun z_ => nI (nw z_))))] _ := hP
                              have hD : va_D A [mO h q zmu zmk zmz zms zma zmc, (q 0, .inl (cI, 54, .inl (fun z_ => nI (bx z_)))), (q 2, .inl (cI, 76, .inl (fun z_ => nI (nw z_))))] := hD
                              refine n_ifb_eq (tgt := 140) hx hb dX7_together_100 (by decide) (fun c_65 => ?_) (fun c_65 => ?_)
                              · -- 100 to 140
                                have hqq_q := sq_1 (G := clB bx nw) (b := bz) c_65
                                refine lv_iconst (v := nI 1) hx hb dX7_together_140 (by decide) ?_
                                refine lv_goto (tgt := 145) hx hb dX7_together_141 (by decide) ?_
                                refine lv_istore (lv' := [(5, .int (nI (1))), (7, .int (nI (bz))), (6, .int (nI (az))), (4, .int (nI (ss))), (3, .int (nI (mm))), (2, .int (nI (hbN nw j (nw 2)))), (0, .ref h), (1, .int (nI (j)))]) hx hb dX7_together_145 hl (by decide) rfl (fun ls hl => ?_)
                                refine lv_iinc (v := nI (bz + 1)) (lv' := [(7, .int (nI (bz + 1))), (5, .int (nI (1))), (6, .int (nI (az))), (4, .int (nI (ss))), (3, .int (nI (mm))), (2, .int (nI (hbN nw j (nw 2)))), (0, .ref h), (1, .int (nI (j)))]) hx hb dX7_together_147 hl (k := 1) rfl (n_inc _ 1) (by decide) rfl (fun ls hl => ?_)
                                refine lv_goto (tgt := 77) hx hb dX7_together_150 (by decide) ?_
                                exact ih_77 1 (bz + 1) (by omega) (by omega) (by show _ = b2n (_ && (siB (clB bx nw) ss az bz && _)); rw [← Bool.and_assoc]; first | exact z_a0 hz2 (by assumption) | exact z_a2 hz2 (by assumption) hqq_q | exact z_a1 hqf_q) (by omega) _ _ hP hD hS _ (lv_sub hl [0, 2, 1, 3, 4, 5, 6, 7] rfl)
                              · -- 100 to 103
                                have hsa_q := c_65
                                refine lv_iload hx hb dX7_together_103 (lv_at hl 3 rfl) ?_
                                refine lv_iload hx hb dX7_together_105 (lv_at hl 0 rfl) ?_
                                refine cl_7_137 (As := [.int (nI (ss)), .int (nI (bz))]) (rest := []) hx hb hml hts hown (k_X7_has (by omega) (by omega)) (by decide) ⟨Nat.zero_le _, Nat.zero_le _⟩ hK hP hD hS hA [] rfl (by decide) rfl hl.1 rfl (Nat.le_of_ble_eq_true rfl) dX7_together_107 (fun r_66 u H locs hp_67 hP hD hS => ?_)
                                obtain ⟨rfl, rfl⟩ := hp_67
                                have hP : va_P D vwCl [mO h q zmu zmk zmz zms zma zmc, (q 0, .inl (cI, 54, .inl (fun z_ => nI (bx z_)))), (q 2, .inl (cI, 76, .inl (fun z_ => nI (nw z_))))] _ := hP
                                have hD : va_D A [mO h q zmu zmk zmz zms zma zmc, (q 0, .inl (cI, 54, .inl (fun z_ => nI (bx z_)))), (q 2, .inl (cI, 76, .inl (fun z_ => nI (nw z_))))] := hD
                                refine n_ifb_eq (tgt := 140) hx hb dX7_together_110 (by decide) (fun c_68 => ?_) (fun c_68 => ?_)
                                · -- 110 to 140
                                  have hqq_q := sq_2 (G := clB bx nw) (a := az) c_68
                                  refine lv_iconst (v := nI 1) hx hb dX7_together_140 (by decide) ?_
                                  refine lv_goto (tgt := 145) hx hb dX7_together_141 (by decide) ?_
                                  refine lv_istore (lv' := [(5, .int (nI (1))), (7, .int (nI (bz))), (6, .int (nI (az))), (4, .int (nI (ss))), (3, .int (nI (mm))), (2, .int (nI (hbN nw j (nw 2)))), (0, .ref h), (1, .int (nI (j)))]) hx hb dX7_together_145 hl (by decide) rfl (fun ls hl => ?_)
                                  refine lv_iinc (v := nI (bz + 1)) (lv' := [(7, .int (nI (bz + 1))), (5, .int (nI (1))), (6, .int (nI (az))), (4, .int (nI (ss))), (3, .int (nI (mm))), (2, .int (nI (hbN nw j (nw 2)))), (0, .ref h), (1, .int (nI (j)))]) hx hb dX7_together_147 hl (k := 1) rfl (n_inc _ 1) (by decide) rfl (fun ls hl => ?_)
                                  refine lv_goto (tgt := 77) hx hb dX7_together_150 (by decide) ?_
                                  exact ih_77 1 (bz + 1) (by omega) (by omega) (by show _ = b2n (_ && (siB (clB bx nw) ss az bz && _)); rw [← Bool.and_assoc]; first | exact z_a0 hz2 (by assumption) | exact z_a2 hz2 (by assumption) hqq_q | exact z_a1 hqf_q) (by omega) _ _ hP hD hS _ (lv_sub hl [0, 2, 1, 3, 4, 5, 6, 7] rfl)
                                · -- 110 to 113
                                  have hsb_q := c_68
                                  have hka_q := (hN.k az (by omega)).1
                                  have hkb_q := (hN.k bz (by omega)).1
                                  refine lv_aload_n hx hb dX7_together_113 rfl (lv_at hl 6 rfl) ?_
                                  refine lv_aload_n hx hb dX7_together_114 rfl (lv_at hl 6 rfl) ?_
                                  refine gf_7_16 hx hb hts hown hK hP 0 rfl rfl dX7_together_115 ?_
                                  refine lv_bipush (v := nI 16) hx hb dX7_together_118 (by decide) ?_
                                  refine lv_iload hx hb dX7_together_120 (lv_at hl 1 rfl) ?_
                                  refine n_iadd hx hb dX7_together_122  ?_
                                  refine n_iald hx hb hK hP 2 0 rfl rfl dX7_together_123 (by decide) (by omega) ?_
                                  have hb_69 := hN.bd (16 + az)
                                  refine lv_aload_n hx hb dX7_together_124 rfl (lv_at hl 6 rfl) ?_
                                  refine gf_7_16 hx hb hts hown hK hP 0 rfl rfl dX7_together_125 ?_
                                  refine lv_bipush (v := nI 16) hx hb dX7_together_128 (by decide) ?_
                                  refine lv_iload hx hb dX7_together_130 (lv_at hl 0 rfl) ?_
                                  refine n_iadd hx hb dX7_together_132  ?_
                                  refine n_iald hx hb hK hP 2 0 rfl rfl dX7_together_133 (by decide) (by omega) ?_
                                  have hb_70 := hN.bd (16 + bz)
                                  refine cl_7_229 (As := [.int (nI (nw (16 + az))), .int (nI (nw (16 + bz)))]) (rest := []) hx hb hml hts hown (k_X7_clash hB (by omega) (by omega)) (by decide) ⟨Nat.zero_le _, Nat.zero_le _⟩ hK hP hD hS hA 0 rfl [0, 1] rfl (by decide) rfl hl.1 rfl (Nat.le_of_ble_eq_true rfl) dX7_together_134 (fun r_71 u H locs hp_72 hP hD hS => ?_)
                                  obtain ⟨rfl, rfl⟩ := hp_72
                                  have hP : va_P D vwCl [mO h q zmu zmk zmz zms zma zmc, (q 0, .inl (cI, 54, .inl (fun z_ => nI (bx z_)))), (q 2, .inl (cI, 76, .inl (fun z_ => nI (nw z_))))] _ := hP
                                  have hD : va_D A [mO h q zmu zmk zmz zms zma zmc, (q 0, .inl (cI, 54, .inl (fun z_ => nI (bx z_)))), (q 2, .inl (cI, 76, .inl (fun z_ => nI (nw z_))))] := hD
                                  refine n_ifb_ne (tgt := 144) hx hb dX7_together_137 (by decide) (fun c_73 => ?_) (fun c_73 => ?_)
                                  · -- 137 to 144
                                    have hqf_q := sq_4 (G := clB bx nw) (show az < bz by omega) hsa_q hsb_q c_73
                                    refine lv_iconst (v := nI 0) hx hb dX7_together_144 (by decide) ?_
                                    refine lv_istore (lv' := [(5, .int (nI (0))), (7, .int (nI (bz))), (6, .int (nI (az))), (4, .int (nI (ss))), (3, .int (nI (mm))), (2, .int (nI (hbN nw j (nw 2)))), (0, .ref h), (1, .int (nI (j)))]) hx hb dX7_together_145 hl (by decide) rfl (fun ls hl => ?_)
                                    refine lv_iinc (v := nI (bz + 1)) (lv' := [(7, .int (nI (bz + 1))), (5, .int (nI (0))), (6, .int (nI (az))), (4, .int (nI (ss))), (3, .int (nI (mm))), (2, .int (nI (hbN nw j (nw 2)))), (0, .ref h), (1, .int (nI (j)))]) hx hb dX7_together_147 hl (k := 1) rfl (n_inc _ 1) (by decide) rfl (fun ls hl => ?_)
                                    refine lv_goto (tgt := 77) hx hb dX7_together_150 (by decide) ?_
                                    exact ih_77 0 (bz + 1) (by omega) (by omega) (by show _ = b2n (_ && (siB (clB bx nw) ss az bz && _)); rw [← Bool.and_assoc]; first | exact z_a0 hz2 (by assumption) | exact z_a2 hz2 (by assumption) hqq_q | exact z_a1 hqf_q) (by omega) _ _ hP hD hS _ (lv_sub hl [0, 2, 1, 3, 4, 5, 6, 7] rfl)
                                  · -- 137 to 140
                                    have hqq_q := sq_3 (G := clB bx nw) (s := ss) (a := az) (b := bz) c_73
                                    refine lv_iconst (v := nI 1) hx hb dX7_together_140 (by decide) ?_
                                    refine lv_goto (tgt := 145) hx hb dX7_together_141 (by decide) ?_
                                    refine lv_istore (lv' := [(5, .int (nI (1))), (7, .int (nI (bz))), (6, .int (nI (az))), (4, .int (nI (ss))), (3, .int (nI (mm))), (2, .int (nI (hbN nw j (nw 2)))), (0, .ref h), (1, .int (nI (j)))]) hx hb dX7_together_145 hl (by decide) rfl (fun ls hl => ?_)
                                    refine lv_iinc (v := nI (bz + 1)) (lv' := [(7, .int (nI (bz + 1))), (5, .int (nI (1))), (6, .int (nI (az))), (4, .int (nI (ss))), (3, .int (nI (mm))), (2, .int (nI (hbN nw j (nw 2)))), (0, .ref h), (1, .int (nI (j)))]) hx hb dX7_together_147 hl (k := 1) rfl (n_inc _ 1) (by decide) rfl (fun ls hl => ?_)
                                    refine lv_goto (tgt := 77) hx hb dX7_together_150 (by decide) ?_
                                    exact ih_77 1 (bz + 1) (by omega) (by omega) (by show _ = b2n (_ && (siB (clB bx nw) ss az bz && _)); rw [← Bool.and_assoc]; first | exact z_a0 hz2 (by assumption) | exact z_a2 hz2 (by assumption) hqq_q | exact z_a1 hqf_q) (by omega) _ _ hP hD hS _ (lv_sub hl [0, 2, 1, 3, 4, 5, 6, 7] rfl)
                      exact loop_77 _ z (az + 1) (by omega) (by omega) (by rw [si_a, Bool.and_true]; exact hz) (Nat.lt_succ_self _) _ _ hP hD hS _ (lv_sub hl [0, 1, 2, 3, 4, 5, 6, 7] rfl)
              exact loop_55 _ 1 0 (by omega) (by rw [hb0_q]; rfl) (Nat.lt_succ_self _) _ _ hP hD hS _ (lv_sub hl [0, 1, 2, 3, 4, 5, 6] rfl)
    exact loop_21 _ 0 0 (by omega) rfl (Nat.lt_succ_self _) _ _ hP hD hS _ (lv_sub hl [0, 1, 2, 3, 4] rfl)
  · -- 5 to 8
    refine lv_iconst (v := (-1)) hx hb dX7_together_8 (by decide) ?_
    refine hret hP hD hS dX7_together_9 rfl rfl ?_
    exact ⟨by simp [tgA, (by assumption : inN x (bx 1) = false)], rfl⟩
set_option maxHeartbeats 4000000 in
set_option maxRecDepth 100000 in
theorem k_X7_caught {l : Launch} {D : va_G} {cI cC cB : ClassId} {h : Nat} {q : Nat → Nat} {zmu zmk zmz zms zma zmc : Nat} {bx nw : Nat → Nat} {x y v : Int32} (hB : BxOk bx) (hN : HdOk bx nw) : ML l yX7_caught cX7_caught 14 (some .long) 2 D (Ty3 cI cC cB) [.ref h, .int (x), .int (y), .int (v)] [mO h q zmu zmk zmz zms zma zmc, (q 0, .inl (cI, 54, .inl (fun z_ => nI (bx z_)))), (q 2, .inl (cI, 76, .inl (fun z_ => nI (nw z_))))] (fun r u => (r = cuA bx nw x y v ∧ u = [mO h q zmu zmk zmz zms zma zmc, (q 0, .inl (cI, 54, .inl (fun z_ => nI (bx z_)))), (q 2, .inl (cI, 76, .inl (fun z_ => nI (nw z_))))])) := by
  intro sz
  refine ML.walk (by decide +kernel) (Nat.le_of_ble_eq_true rfl) ?_
  intro p e s m args below meth c A Qf hx hb hml hts hown hret hK hP hD hS hA ls hl
  have hown : s.vm.findClass RX7 = some m.cls := hown
  have hl : lv_has ls 14 [(0, .ref h), (1, .int (x)), (2, .int (y)), (3, .int (v))] := hl
  have hP : va_P D vwCl [mO h q zmu zmk zmz zms zma zmc, (q 0, .inl (cI, 54, .inl (fun z_ => nI (bx z_)))), (q 2, .inl (cI, 76, .inl (fun z_ => nI (nw z_))))] s.heap := hP
  have hD : va_D A [mO h q zmu zmk zmz zms zma zmc, (q 0, .inl (cI, 54, .inl (fun z_ => nI (bx z_)))), (q 2, .inl (cI, 76, .inl (fun z_ => nI (nw z_))))] := hD
  have h12_q := hN.h
  have hpn_q := hB.n
  have hsz_q := sz_lt hB
  refine lv_aload_n hx hb dX7_caught_0 rfl (lv_at hl 0 rfl) ?_
  refine lv_iload_n hx hb dX7_caught_1 rfl (lv_at hl 1 rfl) ?_
  refine cl_7_169 (As := [.int (x)]) (rest := []) hx hb hml hts hown (k_X7_isPerson (by first | assumption | omega)) (by decide) ⟨Nat.zero_le _, Nat.zero_le _⟩ hK hP hD hS hA 0 rfl [0, 1] rfl (by decide) rfl hl.1 rfl (Nat.le_of_ble_eq_true rfl) dX7_caught_2 (fun r_1 u H locs hp_2 hP hD hS => ?_)
  obtain ⟨rfl, rfl⟩ := hp_2
  have hP : va_P D vwCl [mO h q zmu zmk zmz zms zma zmc, (q 0, .inl (cI, 54, .inl (fun z_ => nI (bx z_)))), (q 2, .inl (cI, 76, .inl (fun z_ => nI (nw z_))))] _ := hP
  have hD : va_D A [mO h q zmu zmk zmz zms zma zmc, (q 0, .inl (cI, 54, .inl (fun z_ => nI (bx z_)))), (q 2, .inl (cI, 76, .inl (fun z_ => nI (nw z_))))] := hD
  refine n_ifb_eq (tgt := 27) hx hb dX7_caught_5 (by decide) (fun c_3 => ?_) (fun c_3 => ?_)
  · -- 5 to 27
    refine lv_ldc2 (v := (-1)) hx hb hown (hts _ tw_1009) dX7_caught_27 ?_
    refine hret hP hD hS dX7_caught_30 rfl ?_
    exact ⟨by first | exact cu_n1 (by assumption) | exact cu_n2 hvn_q | exact cu_n3 hvk_q, rfl⟩
  · -- 5 to 8
    obtain ⟨j, hj, rfl⟩ := inN_e (by have := hB.bd 1; omega) c_3
    have hij_q : ix (nI j) = j := ix_n (by have := hB.bd 1; omega)
    refine lv_iload_n hx hb dX7_caught_8 rfl (lv_at hl 2 rfl) ?_
    refine lv_i2l (v := (y).toInt64) hx hb dX7_caught_9 rfl ?_
    refine lv_lconst (v := lN 0) hx hb dX7_caught_10 (by decide) ?_
    refine lv_ldc2 (v := lN 10) hx hb hown (hts _ tw_1039) dX7_caught_11 ?_
    refine cl_7_67 (As := [.long ((y).toInt64), .long (lN (0)), .long (lN (10))]) (rest := []) hx hb hml hts hown (k_X7_in ) (by decide) ⟨Nat.zero_le _, Nat.zero_le _⟩ hK hP hD hS hA [] rfl (by decide) rfl hl.1 rfl (Nat.le_of_ble_eq_true rfl) dX7_caught_14 (fun r_4 u H locs hp_5 hP hD hS => ?_)
    obtain ⟨rfl, rfl⟩ := hp_5
    have hP : va_P D vwCl [mO h q zmu zmk zmz zms zma zmc, (q 0, .inl (cI, 54, .inl (fun z_ => nI (bx z_)))), (q 2, .inl (cI, 76, .inl (fun z_ => nI (nw z_))))] _ := hP
    have hD : va_D A [mO h q zmu zmk zmz zms zma zmc, (q 0, .inl (cI, 54, .inl (fun z_ => nI (bx z_)))), (q 2, .inl (cI, 76, .inl (fun z_ => nI (nw z_))))] := hD
    refine n_ifb_eq (tgt := 27) hx hb dX7_caught_17 (by decide) (fun c_6 => ?_) (fun c_6 => ?_)
    · -- 17 to 27
      have hvn_q := (inR_l y 0 10 (by omega) (by omega)).trans c_6
      refine lv_ldc2 (v := (-1)) hx hb hown (hts _ tw_1009) dX7_caught_27 ?_
      refine hret hP hD hS dX7_caught_30 rfl ?_
      exact ⟨by first | exact cu_n1 (by assumption) | exact cu_n2 hvn_q | exact cu_n3 hvk_q, rfl⟩
    · -- 17 to 20
      have hvn_q := (inR_l y 0 10 (by omega) (by omega)).trans c_6
      obtain ⟨n, hln, hhn, rfl⟩ := inR_e (by omega) hvn_q
      have hin_q : ix (nI n) = n := ix_n (by omega)
      refine lv_iload_n hx hb dX7_caught_20 rfl (lv_at hl 3 rfl) ?_
      refine cl_7_198 (As := [.int (v)]) (rest := []) hx hb hml hts hown (k_X7_isTwo ) (by decide) ⟨Nat.zero_le _, Nat.zero_le _⟩ hK hP hD hS hA [] rfl (by decide) rfl hl.1 rfl (Nat.le_of_ble_eq_true rfl) dX7_caught_21 (fun r_7 u H locs hp_8 hP hD hS => ?_)
      obtain ⟨rfl, rfl⟩ := hp_8
      have hP : va_P D vwCl [mO h q zmu zmk zmz zms zma zmc, (q 0, .inl (cI, 54, .inl (fun z_ => nI (bx z_)))), (q 2, .inl (cI, 76, .inl (fun z_ => nI (nw z_))))] _ := hP
      have hD : va_D A [mO h q zmu zmk zmz zms zma zmc, (q 0, .inl (cI, 54, .inl (fun z_ => nI (bx z_)))), (q 2, .inl (cI, 76, .inl (fun z_ => nI (nw z_))))] := hD
      refine n_ifb_ne (tgt := 31) hx hb dX7_caught_24 (by decide) (fun c_9 => ?_) (fun c_9 => ?_)
      · -- 24 to 31
        have hvk_q := c_9
        obtain ⟨vz, hl2, hh2, rfl⟩ := inR_e (by omega) hvk_q
        have hiv_q : ix (nI vz) = vz := ix_n (by omega)
        refine lv_lconst (v := lN 1) hx hb dX7_caught_31 (by decide) ?_
        refine lv_lstore (lv' := [(4, .long (lN (1))), (0, .ref h), (1, .int (nI (j))), (2, .int (nI (n))), (3, .int (nI (vz)))]) hx hb dX7_caught_32 hl (by decide) rfl (fun ls hl => ?_)
        refine lv_lconst (v := lN 1) hx hb dX7_caught_34 (by decide) ?_
        refine lv_lstore (lv' := [(6, .long (lN (1))), (4, .long (lN (1))), (0, .ref h), (1, .int (nI (j))), (2, .int (nI (n))), (3, .int (nI (vz)))]) hx hb dX7_caught_35 hl (by decide) rfl (fun ls hl => ?_)
        refine lv_iconst (v := nI 0) hx hb dX7_caught_37 (by decide) ?_
        refine lv_istore (lv' := [(8, .int (nI (0))), (6, .long (lN (1))), (4, .long (lN (1))), (0, .ref h), (1, .int (nI (j))), (2, .int (nI (n))), (3, .int (nI (vz)))]) hx hb dX7_caught_38 hl (by decide) rfl (fun ls hl => ?_)
        have loop_40 : ∀ (N : Nat) (A9 : Nat) (B9 : Nat) (k : Nat), (k ≤ nw 2) → (A9 = (10 - n) ^ cnP (liB bx nw j) k) → (B9 = 10 ^ cnP (liB bx nw j) k) → (nw 2 - k) < N → ∀ (H : Heap) (locs : List Loc), va_P D vwCl [mO h q zmu zmk zmz zms zma zmc, (q 0, .inl (cI, 54, .inl (fun z_ => nI (bx z_)))), (q 2, .inl (cI, 76, .inl (fun z_ => nI (nw z_))))] H → va_D A [mO h q zmu zmk zmz zms zma zmc, (q 0, .inl (cI, 54, .inl (fun z_ => nI (bx z_)))), (q 2, .inl (cI, 76, .inl (fun z_ => nI (nw z_))))] → va_S A s.heap H locs → ∀ ls : Array Slot, lv_has ls 14 [(8, .int (nI (k))), (6, .long (lN (B9))), (4, .long (lN (A9))), (0, .ref h), (1, .int (nI (j))), (2, .int (nI (n))), (3, .int (nI (vz)))] → W p l e (rmL 2) s m args below meth c H locs 0 0 Qf (F0 m 40 ls []) := by
          intro N; induction N with
          | zero => intro A9 B9 k _ _ _ hm; omega
          | succ N ih_40 =>
            intro A9 B9 k hk hA9 hB9 hm H locs hP hD hS ls hl
            refine lv_iload hx hb dX7_caught_40 (lv_at hl 0 rfl) ?_
            refine lv_aload_n hx hb dX7_caught_42 rfl (lv_at hl 3 rfl) ?_
            refine gf_7_16 hx hb hts hown hK hP 0 rfl rfl dX7_caught_43 ?_
            refine lv_iconst (v := nI 2) hx hb dX7_caught_46 (by decide) ?_
            refine n_iald hx hb hK hP 2 0 rfl rfl dX7_caught_47 (by decide) (by omega) ?_
            have hb_10 := hN.bd 2
            refine n_icmp_ge (tgt := 208) hx hb dX7_caught_48 (by decide) (by omega) (by omega) (fun c_11 => ?_) (fun c_11 => ?_)
            · -- 48 to 208
              refine lv_lload hx hb dX7_caught_208 (lv_at hl 2 rfl) ?_
              refine lv_lstore (lv' := [(8, .long (lN (A9))), (6, .long (lN (B9))), (4, .long (lN (A9))), (0, .ref h), (1, .int (nI (j))), (2, .int (nI (n))), (3, .int (nI (vz)))]) hx hb dX7_caught_210 hl (by decide) rfl (fun ls hl => ?_)
              refine lv_lload hx hb dX7_caught_212 (lv_at hl 1 rfl) ?_
              refine lv_lstore (lv' := [(10, .long (lN (B9))), (8, .long (lN (A9))), (6, .long (lN (B9))), (4, .long (lN (A9))), (0, .ref h), (1, .int (nI (j))), (2, .int (nI (n))), (3, .int (nI (vz)))]) hx hb dX7_caught_214 hl (by decide) rfl (fun ls hl => ?_)
              have loop_216 : ∀ (N : Nat) (u9 : Nat) (v9 : Nat), (u9 < 9223372036854775808) → (v9 < 9223372036854775808) → (Nat.gcd u9 v9 = Nat.gcd A9 B9) → v9 < N → ∀ (H : Heap) (locs : List Loc), va_P D vwCl [mO h q zmu zmk zmz zms zma zmc, (q 0, .inl (cI, 54, .inl (fun z_ => nI (bx z_)))), (q 2, .inl (cI, 76, .inl (fun z_ => nI (nw z_))))] H → va_D A [mO h q zmu zmk zmz zms zma zmc, (q 0, .inl (cI, 54, .inl (fun z_ => nI (bx z_)))), (q 2, .inl (cI, 76, .inl (fun z_ => nI (nw z_))))] → va_S A s.heap H locs → ∀ ls : Array Slot, lv_has ls 14 [(10, .long (lN (v9))), (8, .long (lN (u9))), (6, .long (lN (B9))), (4, .long (lN (A9))), (0, .ref h), (1, .int (nI (j))), (2, .int (nI (n))), (3, .int (nI (vz)))] → W p l e (rmL 2) s m args below meth c H locs 0 0 Qf (F0 m 216 ls []) := by
                intro N; induction N with
                | zero => intro u9 v9 _ _ _ hm; omega
                | succ N ih_216 =>
                  intro u9 v9 hub hvb hgd hm H locs hP hD hS ls hl
                  have hkn_q : k = nw 2 := by omega
                  have hli12_q := li_12 (bx := bx) (nw := nw) (y := j) h12_q
                  have hA2_q : A9 = (10 - n) ^ liN bx nw j := by rw [hA9, hkn_q]; rfl
                  have hB2_q : B9 = 10 ^ liN bx nw j := by rw [hB9, hkn_q]; rfl
                  have hAb_q : A9 ≤ 10 ^ 12 := by rw [hA2_q]; exact p12_a hli12_q
                  have hBb_q : B9 ≤ 10 ^ 12 := by rw [hB2_q]; exact p12_b hli12_q
                  have hB0_q : 0 < B9 := by rw [hB2_q]; exact Nat.pow_pos (by decide)
                  refine lv_lload hx hb dX7_caught_216 (lv_at hl 0 rfl) ?_
                  refine lv_lconst (v := lN 0) hx hb dX7_caught_218 (by decide) ?_
                  refine W.lcmp hx hb dX7_caught_219 ?_
                  refine lv_if_eq (tgt := 241) hx hb dX7_caught_220 (by decide) (fun c_12 => ?_) (fun c_12 => ?_)
                  · -- 220 to 241
                    have hv0_q := lz_0 hvb c_12
                    have hug_q : u9 = Nat.gcd A9 B9 := by rw [← hgd, hv0_q, Nat.gcd_zero_right]
                    have hu0_q : 0 < u9 := by rw [hug_q]; exact Nat.gcd_pos_of_pos_right _ hB0_q
                    refine lv_iload_n hx hb dX7_caught_241 rfl (lv_at hl 7 rfl) ?_
                    refine n_if_ne (tgt := 253) hx hb dX7_caught_242 (by decide) (by omega) (fun c_13 => ?_) (fun c_13 => ?_)
                    · -- 242 to 253
                      have hvz_q := c_13
                      refine lv_lload hx hb dX7_caught_253 (lv_at hl 2 rfl) ?_
                      refine lv_lload hx hb dX7_caught_255 (lv_at hl 1 rfl) ?_
                      refine n_ldiv hx hb dX7_caught_257 (by omega) (by omega) (by omega) ?_
                      refine hret hP hD hS dX7_caught_258 rfl ?_
                      exact ⟨cu_t (by assumption) hvn_q hvk_q hij_q hin_q hiv_q (by rw [hug_q, hA2_q, hB2_q]; simp only [cuV]; first | rw [if_pos hvz_q] | rw [if_neg hvz_q]), rfl⟩
                    · -- 242 to 245
                      have hvz_q := c_13
                      refine lv_lload hx hb dX7_caught_245 (lv_at hl 3 rfl) ?_
                      refine lv_lload hx hb dX7_caught_247 (lv_at hl 1 rfl) ?_
                      refine n_ldiv hx hb dX7_caught_249 (by omega) (by omega) (by omega) ?_
                      refine lv_goto (tgt := 258) hx hb dX7_caught_250 (by decide) ?_
                      refine hret hP hD hS dX7_caught_258 rfl ?_
                      exact ⟨cu_t (by assumption) hvn_q hvk_q hij_q hin_q hiv_q (by rw [hug_q, hA2_q, hB2_q]; simp only [cuV]; first | rw [if_pos hvz_q] | rw [if_neg hvz_q]), rfl⟩
                  · -- 220 to 223
                    have hv0_q := lz_1 c_12
                    refine lv_lload hx hb dX7_caught_223 (lv_at hl 1 rfl) ?_
                    refine lv_lload hx hb dX7_caught_225 (lv_at hl 0 rfl) ?_
                    refine n_lrem hx hb dX7_caught_227 (by omega) (by omega) (by omega) ?_
                    refine lv_lstore (lv' := [(12, .long (lN (u9 % v9))), (10, .long (lN (v9))), (8, .long (lN (u9))), (6, .long (lN (B9))), (4, .long (lN (A9))), (0, .ref h), (1, .int (nI (j))), (2, .int (nI (n))), (3, .int (nI (vz)))]) hx hb dX7_caught_228 hl (by decide) rfl (fun ls hl => ?_)
                    refine lv_lload hx hb dX7_caught_230 (lv_at hl 1 rfl) ?_
                    refine lv_lstore (lv' := [(8, .long (lN (v9))), (12, .long (lN (u9 % v9))), (10, .long (lN (v9))), (6, .long (lN (B9))), (4, .long (lN (A9))), (0, .ref h), (1, .int (nI (j))), (2, .int (nI (n))), (3, .int (nI (vz)))]) hx hb dX7_caught_232 hl (by decide) rfl (fun ls hl => ?_)
                    refine lv_lload hx hb dX7_caught_234 (lv_at hl 1 rfl) ?_
                    refine lv_lstore (lv' := [(10, .long (lN (u9 % v9))), (8, .long (lN (v9))), (12, .long (lN (u9 % v9))), (6, .long (lN (B9))), (4, .long (lN (A9))), (0, .ref h), (1, .int (nI (j))), (2, .int (nI (n))), (3, .int (nI (vz)))]) hx hb dX7_caught_236 hl (by decide) rfl (fun ls hl => ?_)
                    refine lv_goto (tgt := 216) hx hb dX7_caught_238 (by decide) ?_
                    exact ih_216 v9 (u9 % v9) (by omega) (by have := Nat.mod_lt u9 (show 0 < v9 by omega); omega) (by rw [← hgd]; exact gcd_st u9 v9) (by have := Nat.mod_lt u9 (show 0 < v9 by omega); omega) _ _ hP hD hS _ (lv_sub hl [0, 1, 3, 4, 5, 6, 7, 8] rfl)
              have hkn_q : k = nw 2 := by omega
              have hli12_q := li_12 (bx := bx) (nw := nw) (y := j) h12_q
              have hA2_q : A9 = (10 - n) ^ liN bx nw j := by rw [hA9, hkn_q]; rfl
              have hB2_q : B9 = 10 ^ liN bx nw j := by rw [hB9, hkn_q]; rfl
              have hAb_q : A9 ≤ 10 ^ 12 := by rw [hA2_q]; exact p12_a hli12_q
              have hBb_q : B9 ≤ 10 ^ 12 := by rw [hB2_q]; exact p12_b hli12_q
              have hB0_q : 0 < B9 := by rw [hB2_q]; exact Nat.pow_pos (by decide)
              exact loop_216 _ A9 B9 (by omega) (by omega) rfl (Nat.lt_succ_self _) _ _ hP hD hS _ (lv_sub hl [0, 1, 2, 3, 4, 5, 6, 7] rfl)
            · -- 48 to 51
              refine lv_iconst (v := nI 0) hx hb dX7_caught_51 (by decide) ?_
              refine lv_istore (lv' := [(9, .int (nI (0))), (8, .int (nI (k))), (6, .long (lN (B9))), (4, .long (lN (A9))), (0, .ref h), (1, .int (nI (j))), (2, .int (nI (n))), (3, .int (nI (vz)))]) hx hb dX7_caught_52 hl (by decide) rfl (fun ls hl => ?_)
              refine lv_iconst (v := nI 0) hx hb dX7_caught_54 (by decide) ?_
              refine lv_istore (lv' := [(10, .int (nI (0))), (9, .int (nI (0))), (8, .int (nI (k))), (6, .long (lN (B9))), (4, .long (lN (A9))), (0, .ref h), (1, .int (nI (j))), (2, .int (nI (n))), (3, .int (nI (vz)))]) hx hb dX7_caught_55 hl (by decide) rfl (fun ls hl => ?_)
              have loop_57 : ∀ (N : Nat) (z : Nat) (ez : Nat), (ez ≤ nw 2) → (z = b2n (liI bx nw j k ez)) → (nw 2 - ez) < N → ∀ (H : Heap) (locs : List Loc), va_P D vwCl [mO h q zmu zmk zmz zms zma zmc, (q 0, .inl (cI, 54, .inl (fun z_ => nI (bx z_)))), (q 2, .inl (cI, 76, .inl (fun z_ => nI (nw z_))))] H → va_D A [mO h q zmu zmk zmz zms zma zmc, (q 0, .inl (cI, 54, .inl (fun z_ => nI (bx z_)))), (q 2, .inl (cI, 76, .inl (fun z_ => nI (nw z_))))] → va_S A s.heap H locs → ∀ ls : Array Slot, lv_has ls 14 [(10, .int (nI (ez))), (9, .int (nI (z))), (8, .int (nI (k))), (6, .long (lN (B9))), (4, .long (lN (A9))), (0, .ref h), (1, .int (nI (j))), (2, .int (nI (n))), (3, .int (nI (vz)))] → W p l e (rmL 2) s m args below meth c H locs 0 0 Qf (F0 m 57 ls []) := by
                intro N; induction N with
                | zero => intro z ez _ _ hm; omega
                | succ N ih_57 =>
                  intro z ez he hz hm H locs hP hD hS ls hl
                  have hz1 : z ≤ 1 := by rw [hz]; exact b2n_le _
                  refine lv_iload hx hb dX7_caught_57 (lv_at hl 0 rfl) ?_
                  refine lv_aload_n hx hb dX7_caught_59 rfl (lv_at hl 5 rfl) ?_
                  refine gf_7_16 hx hb hts hown hK hP 0 rfl rfl dX7_caught_60 ?_
                  refine lv_iconst (v := nI 2) hx hb dX7_caught_63 (by decide) ?_
                  refine n_iald hx hb hK hP 2 0 rfl rfl dX7_caught_64 (by decide) (by omega) ?_
                  have hb_14 := hN.bd 2
                  refine n_icmp_ge (tgt := 166) hx hb dX7_caught_65 (by decide) (by omega) (by omega) (fun c_15 => ?_) (fun c_15 => ?_)
                  · -- 65 to 166
                    refine lv_lload hx hb dX7_caught_166 (lv_at hl 4 rfl) ?_
                    refine lv_iload hx hb dX7_caught_168 (lv_at hl 1 rfl) ?_
                    refine n_if_eq (tgt := 181) hx hb dX7_caught_170 (by decide) (by omega) (fun c_16 => ?_) (fun c_16 => ?_)
                    · -- 170 to 181
                      have hli_q := c_16
                      refine lv_lconst (v := lN 1) hx hb dX7_caught_181 (by decide) ?_
                      refine n_lmul hx hb dX7_caught_182  ?_
                      refine lv_lstore (lv' := [(4, .long (lN (A9 * 1))), (10, .int (nI (ez))), (9, .int (nI (z))), (8, .int (nI (k))), (6, .long (lN (B9))), (0, .ref h), (1, .int (nI (j))), (2, .int (nI (n))), (3, .int (nI (vz)))]) hx hb dX7_caught_183 hl (by decide) rfl (fun ls hl => ?_)
                      refine lv_lload hx hb dX7_caught_185 (lv_at hl 4 rfl) ?_
                      refine lv_iload hx hb dX7_caught_187 (lv_at hl 2 rfl) ?_
                      refine n_if_eq (tgt := 198) hx hb dX7_caught_189 (by decide) (by omega) (fun c_17 => ?_) (fun c_17 => ?_)
                      · -- 189 to 198
                        have hlj_q := c_17
                        refine lv_lconst (v := lN 1) hx hb dX7_caught_198 (by decide) ?_
                        refine n_lmul hx hb dX7_caught_199  ?_
                        refine lv_lstore (lv' := [(6, .long (lN (B9 * 1))), (4, .long (lN (A9 * 1))), (10, .int (nI (ez))), (9, .int (nI (z))), (8, .int (nI (k))), (0, .ref h), (1, .int (nI (j))), (2, .int (nI (n))), (3, .int (nI (vz)))]) hx hb dX7_caught_200 hl (by decide) rfl (fun ls hl => ?_)
                        refine lv_iinc (v := nI (k + 1)) (lv' := [(8, .int (nI (k + 1))), (6, .long (lN (B9 * 1))), (4, .long (lN (A9 * 1))), (10, .int (nI (ez))), (9, .int (nI (z))), (0, .ref h), (1, .int (nI (j))), (2, .int (nI (n))), (3, .int (nI (vz)))]) hx hb dX7_caught_202 hl (k := 4) rfl (n_inc _ 1) (by decide) rfl (fun ls hl => ?_)
                        refine lv_goto (tgt := 40) hx hb dX7_caught_205 (by decide) ?_
                        exact ih_40 (A9 * 1) (B9 * 1) (k + 1) (by omega) (by rw [hA9]; first | exact lp_0 hz (by omega) hli_q | exact lp_1 hz (by omega) hli_q) (by rw [hB9]; first | exact lp_0 hz (by omega) hlj_q | exact lp_1 hz (by omega) hlj_q) (by omega) _ _ hP hD hS _ (lv_sub hl [0, 1, 2, 5, 6, 7, 8] rfl)
                      · omega
                    · -- 170 to 173
                      have hli_q := c_16
                      refine lv_bipush (v := nI 10) hx hb dX7_caught_173 (by decide) ?_
                      refine lv_iload_n hx hb dX7_caught_175 rfl (lv_at hl 7 rfl) ?_
                      refine n_isub hx hb dX7_caught_176 (by omega) ?_
                      refine lv_i2l (v := lN (10 - n)) hx hb dX7_caught_177 (nI_l (by omega)) ?_
                      refine lv_goto (tgt := 182) hx hb dX7_caught_178 (by decide) ?_
                      refine n_lmul hx hb dX7_caught_182  ?_
                      refine lv_lstore (lv' := [(4, .long (lN (A9 * (10 - n)))), (10, .int (nI (ez))), (9, .int (nI (z))), (8, .int (nI (k))), (6, .long (lN (B9))), (0, .ref h), (1, .int (nI (j))), (2, .int (nI (n))), (3, .int (nI (vz)))]) hx hb dX7_caught_183 hl (by decide) rfl (fun ls hl => ?_)
                      refine lv_lload hx hb dX7_caught_185 (lv_at hl 4 rfl) ?_
                      refine lv_iload hx hb dX7_caught_187 (lv_at hl 2 rfl) ?_
                      refine n_if_eq (tgt := 198) hx hb dX7_caught_189 (by decide) (by omega) (fun c_18 => ?_) (fun c_18 => ?_)
                      · omega
                      · -- 189 to 192
                        have hlj_q := c_18
                        refine lv_ldc2 (v := lN 10) hx hb hown (hts _ tw_1039) dX7_caught_192 ?_
                        refine lv_goto (tgt := 199) hx hb dX7_caught_195 (by decide) ?_
                        refine n_lmul hx hb dX7_caught_199  ?_
                        refine lv_lstore (lv' := [(6, .long (lN (B9 * 10))), (4, .long (lN (A9 * (10 - n)))), (10, .int (nI (ez))), (9, .int (nI (z))), (8, .int (nI (k))), (0, .ref h), (1, .int (nI (j))), (2, .int (nI (n))), (3, .int (nI (vz)))]) hx hb dX7_caught_200 hl (by decide) rfl (fun ls hl => ?_)
                        refine lv_iinc (v := nI (k + 1)) (lv' := [(8, .int (nI (k + 1))), (6, .long (lN (B9 * 10))), (4, .long (lN (A9 * (10 - n)))), (10, .int (nI (ez))), (9, .int (nI (z))), (0, .ref h), (1, .int (nI (j))), (2, .int (nI (n))), (3, .int (nI (vz)))]) hx hb dX7_caught_202 hl (k := 4) rfl (n_inc _ 1) (by decide) rfl (fun ls hl => ?_)
                        refine lv_goto (tgt := 40) hx hb dX7_caught_205 (by decide) ?_
                        exact ih_40 (A9 * (10 - n)) (B9 * 10) (k + 1) (by omega) (by rw [hA9]; first | exact lp_0 hz (by omega) hli_q | exact lp_1 hz (by omega) hli_q) (by rw [hB9]; first | exact lp_0 hz (by omega) hlj_q | exact lp_1 hz (by omega) hlj_q) (by omega) _ _ hP hD hS _ (lv_sub hl [0, 1, 2, 5, 6, 7, 8] rfl)
                  · -- 65 to 68
                    refine lv_iload hx hb dX7_caught_68 (lv_at hl 0 rfl) ?_
                    refine lv_iload hx hb dX7_caught_70 (lv_at hl 2 rfl) ?_
                    refine n_icmp_eq (tgt := 107) hx hb dX7_caught_72 (by decide) (by omega) (by omega) (fun c_19 => ?_) (fun c_19 => ?_)
                    · -- 72 to 107
                      have hqq_q := lq_1 (bx := bx) (nw := nw) (y := j) c_19
                      refine lv_iconst (v := nI 0) hx hb dX7_caught_107 (by decide) ?_
                      refine lv_istore (lv' := [(11, .int (nI (0))), (10, .int (nI (ez))), (9, .int (nI (z))), (8, .int (nI (k))), (6, .long (lN (B9))), (4, .long (lN (A9))), (0, .ref h), (1, .int (nI (j))), (2, .int (nI (n))), (3, .int (nI (vz)))]) hx hb dX7_caught_108 hl (by decide) rfl (fun ls hl => ?_)
                      refine lv_iload hx hb dX7_caught_110 (lv_at hl 2 rfl) ?_
                      refine n_if_ne (tgt := 153) hx hb dX7_caught_112 (by decide) (by omega) (fun c_20 => ?_) (fun c_20 => ?_)
                      · -- 112 to 153
                        refine lv_iconst (v := nI 1) hx hb dX7_caught_153 (by decide) ?_
                        refine lv_goto (tgt := 158) hx hb dX7_caught_154 (by decide) ?_
                        refine lv_istore (lv' := [(9, .int (nI (1))), (11, .int (nI (0))), (10, .int (nI (ez))), (8, .int (nI (k))), (6, .long (lN (B9))), (4, .long (lN (A9))), (0, .ref h), (1, .int (nI (j))), (2, .int (nI (n))), (3, .int (nI (vz)))]) hx hb dX7_caught_158 hl (by decide) rfl (fun ls hl => ?_)
                        refine lv_iinc (v := nI (ez + 1)) (lv' := [(10, .int (nI (ez + 1))), (9, .int (nI (1))), (11, .int (nI (0))), (8, .int (nI (k))), (6, .long (lN (B9))), (4, .long (lN (A9))), (0, .ref h), (1, .int (nI (j))), (2, .int (nI (n))), (3, .int (nI (vz)))]) hx hb dX7_caught_160 hl (k := 2) rfl (n_inc _ 1) (by decide) rfl (fun ls hl => ?_)
                        refine lv_goto (tgt := 57) hx hb dX7_caught_163 (by decide) ?_
                        exact ih_57 1 (ez + 1) (by omega) (by first | exact z_o1 hz (by assumption) | exact z_o0 hz (by assumption) hqq_q | exact z_o2 hqt_q) (by omega) _ _ hP hD hS _ (lv_sub hl [0, 1, 3, 4, 5, 6, 7, 8, 9] rfl)
                      · -- 112 to 115
                        refine lv_iload hx hb dX7_caught_115 (lv_at hl 0 rfl) ?_
                        refine n_if_eq (tgt := 157) hx hb dX7_caught_117 (by decide) (by decide) (fun c_21 => ?_) (fun c_21 => ?_)
                        · -- 117 to 157
                          refine lv_iconst (v := nI 0) hx hb dX7_caught_157 (by decide) ?_
                          refine lv_istore (lv' := [(9, .int (nI (0))), (11, .int (nI (0))), (10, .int (nI (ez))), (8, .int (nI (k))), (6, .long (lN (B9))), (4, .long (lN (A9))), (0, .ref h), (1, .int (nI (j))), (2, .int (nI (n))), (3, .int (nI (vz)))]) hx hb dX7_caught_158 hl (by decide) rfl (fun ls hl => ?_)
                          refine lv_iinc (v := nI (ez + 1)) (lv' := [(10, .int (nI (ez + 1))), (9, .int (nI (0))), (11, .int (nI (0))), (8, .int (nI (k))), (6, .long (lN (B9))), (4, .long (lN (A9))), (0, .ref h), (1, .int (nI (j))), (2, .int (nI (n))), (3, .int (nI (vz)))]) hx hb dX7_caught_160 hl (k := 2) rfl (n_inc _ 1) (by decide) rfl (fun ls hl => ?_)
                          refine lv_goto (tgt := 57) hx hb dX7_caught_163 (by decide) ?_
                          exact ih_57 0 (ez + 1) (by omega) (by first | exact z_o1 hz (by assumption) | exact z_o0 hz (by assumption) hqq_q | exact z_o2 hqt_q) (by omega) _ _ hP hD hS _ (lv_sub hl [0, 1, 3, 4, 5, 6, 7, 8, 9] rfl)
                        · omega
                    · -- 72 to 75
                      have he1_q := c_19
                      refine lv_aload_n hx hb dX7_caught_75 rfl (lv_at hl 5 rfl) ?_
                      refine gf_7_16 hx hb hts hown hK hP 0 rfl rfl dX7_caught_76 ?_
                      refine lv_bipush (v := nI 40) hx hb dX7_caught_79 (by decide) ?_
                      refine lv_iload hx hb dX7_caught_81 (lv_at hl 0 rfl) ?_
                      refine n_iadd hx hb dX7_caught_83  ?_
                      refine n_iald hx hb hK hP 2 0 rfl rfl dX7_caught_84 (by decide) (by omega) ?_
                      have hb_22 := hN.bd (40 + ez)
                      refine lv_iload_n hx hb dX7_caught_85 rfl (lv_at hl 6 rfl) ?_
                      refine n_icmp_ne (tgt := 107) hx hb dX7_caught_86 (by decide) (by omega) (by omega) (fun c_23 => ?_) (fun c_23 => ?_)
                      · -- 86 to 107
                        have hqq_q := lq_2 (bx := bx) (nw := nw) (y := j) (k := k) c_23
                        refine lv_iconst (v := nI 0) hx hb dX7_caught_107 (by decide) ?_
                        refine lv_istore (lv' := [(11, .int (nI (0))), (10, .int (nI (ez))), (9, .int (nI (z))), (8, .int (nI (k))), (6, .long (lN (B9))), (4, .long (lN (A9))), (0, .ref h), (1, .int (nI (j))), (2, .int (nI (n))), (3, .int (nI (vz)))]) hx hb dX7_caught_108 hl (by decide) rfl (fun ls hl => ?_)
                        refine lv_iload hx hb dX7_caught_110 (lv_at hl 2 rfl) ?_
                        refine n_if_ne (tgt := 153) hx hb dX7_caught_112 (by decide) (by omega) (fun c_24 => ?_) (fun c_24 => ?_)
                        · -- 112 to 153
                          refine lv_iconst (v := nI 1) hx hb dX7_caught_153 (by decide) ?_
                          refine lv_goto (tgt := 158) hx hb dX7_caught_154 (by decide) ?_
                          refine lv_istore (lv' := [(9, .int (nI (1))), (11, .int (nI (0))), (10, .int (nI (ez))), (8, .int (nI (k))), (6, .long (lN (B9))), (4, .long (lN (A9))), (0, .ref h), (1, .int (nI (j))), (2, .int (nI (n))), (3, .int (nI (vz)))]) hx hb dX7_caught_158 hl (by decide) rfl (fun ls hl => ?_)
                          refine lv_iinc (v := nI (ez + 1)) (lv' := [(10, .int (nI (ez + 1))), (9, .int (nI (1))), (11, .int (nI (0))), (8, .int (nI (k))), (6, .long (lN (B9))), (4, .long (lN (A9))), (0, .ref h), (1, .int (nI (j))), (2, .int (nI (n))), (3, .int (nI (vz)))]) hx hb dX7_caught_160 hl (k := 2) rfl (n_inc _ 1) (by decide) rfl (fun ls hl => ?_)
                          refine lv_goto (tgt := 57) hx hb dX7_caught_163 (by decide) ?_
                          exact ih_57 1 (ez + 1) (by omega) (by first | exact z_o1 hz (by assumption) | exact z_o0 hz (by assumption) hqq_q | exact z_o2 hqt_q) (by omega) _ _ hP hD hS _ (lv_sub hl [0, 1, 3, 4, 5, 6, 7, 8, 9] rfl)
                        · -- 112 to 115
                          refine lv_iload hx hb dX7_caught_115 (lv_at hl 0 rfl) ?_
                          refine n_if_eq (tgt := 157) hx hb dX7_caught_117 (by decide) (by decide) (fun c_25 => ?_) (fun c_25 => ?_)
                          · -- 117 to 157
                            refine lv_iconst (v := nI 0) hx hb dX7_caught_157 (by decide) ?_
                            refine lv_istore (lv' := [(9, .int (nI (0))), (11, .int (nI (0))), (10, .int (nI (ez))), (8, .int (nI (k))), (6, .long (lN (B9))), (4, .long (lN (A9))), (0, .ref h), (1, .int (nI (j))), (2, .int (nI (n))), (3, .int (nI (vz)))]) hx hb dX7_caught_158 hl (by decide) rfl (fun ls hl => ?_)
                            refine lv_iinc (v := nI (ez + 1)) (lv' := [(10, .int (nI (ez + 1))), (9, .int (nI (0))), (11, .int (nI (0))), (8, .int (nI (k))), (6, .long (lN (B9))), (4, .long (lN (A9))), (0, .ref h), (1, .int (nI (j))), (2, .int (nI (n))), (3, .int (nI (vz)))]) hx hb dX7_caught_160 hl (k := 2) rfl (n_inc _ 1) (by decide) rfl (fun ls hl => ?_)
                            refine lv_goto (tgt := 57) hx hb dX7_caught_163 (by decide) ?_
                            exact ih_57 0 (ez + 1) (by omega) (by first | exact z_o1 hz (by assumption) | exact z_o0 hz (by assumption) hqq_q | exact z_o2 hqt_q) (by omega) _ _ hP hD hS _ (lv_sub hl [0, 1, 3, 4, 5, 6, 7, 8, 9] rfl)
                          · omega
                      · -- 86 to 89
                        have he2_q := c_23
                        refine lv_aload_n hx hb dX7_caught_89 rfl (lv_at hl 5 rfl) ?_
                        refine gf_7_16 hx hb hts hown hK hP 0 rfl rfl dX7_caught_90 ?_
                        refine lv_bipush (v := nI 40) hx hb dX7_caught_93 (by decide) ?_
                        refine lv_iload hx hb dX7_caught_95 (lv_at hl 2 rfl) ?_
                        refine n_iadd hx hb dX7_caught_97  ?_
                        refine n_iald hx hb hK hP 2 0 rfl rfl dX7_caught_98 (by decide) (by omega) ?_
                        have hb_26 := hN.bd (40 + k)
                        refine lv_iload_n hx hb dX7_caught_99 rfl (lv_at hl 6 rfl) ?_
                        refine n_icmp_ne (tgt := 107) hx hb dX7_caught_100 (by decide) (by omega) (by omega) (fun c_27 => ?_) (fun c_27 => ?_)
                        · -- 100 to 107
                          have hqq_q := lq_3 (bx := bx) (nw := nw) (y := j) (e := ez) c_27
                          refine lv_iconst (v := nI 0) hx hb dX7_caught_107 (by decide) ?_
                          refine lv_istore (lv' := [(11, .int (nI (0))), (10, .int (nI (ez))), (9, .int (nI (z))), (8, .int (nI (k))), (6, .long (lN (B9))), (4, .long (lN (A9))), (0, .ref h), (1, .int (nI (j))), (2, .int (nI (n))), (3, .int (nI (vz)))]) hx hb dX7_caught_108 hl (by decide) rfl (fun ls hl => ?_)
                          refine lv_iload hx hb dX7_caught_110 (lv_at hl 2 rfl) ?_
                          refine n_if_ne (tgt := 153) hx hb dX7_caught_112 (by decide) (by omega) (fun c_28 => ?_) (fun c_28 => ?_)
                          · -- 112 to 153
                            refine lv_iconst (v := nI 1) hx hb dX7_caught_153 (by decide) ?_
                            refine lv_goto (tgt := 158) hx hb dX7_caught_154 (by decide) ?_
                            refine lv_istore (lv' := [(9, .int (nI (1))), (11, .int (nI (0))), (10, .int (nI (ez))), (8, .int (nI (k))), (6, .long (lN (B9))), (4, .long (lN (A9))), (0, .ref h), (1, .int (nI (j))), (2, .int (nI (n))), (3, .int (nI (vz)))]) hx hb dX7_caught_158 hl (by decide) rfl (fun ls hl => ?_)
                            refine lv_iinc (v := nI (ez + 1)) (lv' := [(10, .int (nI (ez + 1))), (9, .int (nI (1))), (11, .int (nI (0))), (8, .int (nI (k))), (6, .long (lN (B9))), (4, .long (lN (A9))), (0, .ref h), (1, .int (nI (j))), (2, .int (nI (n))), (3, .int (nI (vz)))]) hx hb dX7_caught_160 hl (k := 2) rfl (n_inc _ 1) (by decide) rfl (fun ls hl => ?_)
                            refine lv_goto (tgt := 57) hx hb dX7_caught_163 (by decide) ?_
                            exact ih_57 1 (ez + 1) (by omega) (by first | exact z_o1 hz (by assumption) | exact z_o0 hz (by assumption) hqq_q | exact z_o2 hqt_q) (by omega) _ _ hP hD hS _ (lv_sub hl [0, 1, 3, 4, 5, 6, 7, 8, 9] rfl)
                          · -- 112 to 115
                            refine lv_iload hx hb dX7_caught_115 (lv_at hl 0 rfl) ?_
                            refine n_if_eq (tgt := 157) hx hb dX7_caught_117 (by decide) (by decide) (fun c_29 => ?_) (fun c_29 => ?_)
                            · -- 117 to 157
                              refine lv_iconst (v := nI 0) hx hb dX7_caught_157 (by decide) ?_
                              refine lv_istore (lv' := [(9, .int (nI (0))), (11, .int (nI (0))), (10, .int (nI (ez))), (8, .int (nI (k))), (6, .long (lN (B9))), (4, .long (lN (A9))), (0, .ref h), (1, .int (nI (j))), (2, .int (nI (n))), (3, .int (nI (vz)))]) hx hb dX7_caught_158 hl (by decide) rfl (fun ls hl => ?_)
                              refine lv_iinc (v := nI (ez + 1)) (lv' := [(10, .int (nI (ez + 1))), (9, .int (nI (0))), (11, .int (nI (0))), (8, .int (nI (k))), (6, .long (lN (B9))), (4, .long (lN (A9))), (0, .ref h), (1, .int (nI (j))), (2, .int (nI (n))), (3, .int (nI (vz)))]) hx hb dX7_caught_160 hl (k := 2) rfl (n_inc _ 1) (by decide) rfl (fun ls hl => ?_)
                              refine lv_goto (tgt := 57) hx hb dX7_caught_163 (by decide) ?_
                              exact ih_57 0 (ez + 1) (by omega) (by first | exact z_o1 hz (by assumption) | exact z_o0 hz (by assumption) hqq_q | exact z_o2 hqt_q) (by omega) _ _ hP hD hS _ (lv_sub hl [0, 1, 3, 4, 5, 6, 7, 8, 9] rfl)
                            · omega
                        · -- 100 to 103
                          have he3_q := c_27
                          refine lv_iconst (v := nI 1) hx hb dX7_caught_103 (by decide) ?_
                          refine lv_goto (tgt := 108) hx hb dX7_caught_104 (by decide) ?_
                          refine lv_istore (lv' := [(11, .int (nI (1))), (10, .int (nI (ez))), (9, .int (nI (z))), (8, .int (nI (k))), (6, .long (lN (B9))), (4, .long (lN (A9))), (0, .ref h), (1, .int (nI (j))), (2, .int (nI (n))), (3, .int (nI (vz)))]) hx hb dX7_caught_108 hl (by decide) rfl (fun ls hl => ?_)
                          refine lv_iload hx hb dX7_caught_110 (lv_at hl 2 rfl) ?_
                          refine n_if_ne (tgt := 153) hx hb dX7_caught_112 (by decide) (by omega) (fun c_30 => ?_) (fun c_30 => ?_)
                          · -- 112 to 153
                            refine lv_iconst (v := nI 1) hx hb dX7_caught_153 (by decide) ?_
                            refine lv_goto (tgt := 158) hx hb dX7_caught_154 (by decide) ?_
                            refine lv_istore (lv' := [(9, .int (nI (1))), (11, .int (nI (1))), (10, .int (nI (ez))), (8, .int (nI (k))), (6, .long (lN (B9))), (4, .long (lN (A9))), (0, .ref h), (1, .int (nI (j))), (2, .int (nI (n))), (3, .int (nI (vz)))]) hx hb dX7_caught_158 hl (by decide) rfl (fun ls hl => ?_)
                            refine lv_iinc (v := nI (ez + 1)) (lv' := [(10, .int (nI (ez + 1))), (9, .int (nI (1))), (11, .int (nI (1))), (8, .int (nI (k))), (6, .long (lN (B9))), (4, .long (lN (A9))), (0, .ref h), (1, .int (nI (j))), (2, .int (nI (n))), (3, .int (nI (vz)))]) hx hb dX7_caught_160 hl (k := 2) rfl (n_inc _ 1) (by decide) rfl (fun ls hl => ?_)
                            refine lv_goto (tgt := 57) hx hb dX7_caught_163 (by decide) ?_
                            exact ih_57 1 (ez + 1) (by omega) (by first | exact z_o1 hz (by assumption) | exact z_o0 hz (by assumption) hqq_q | exact z_o2 hqt_q) (by omega) _ _ hP hD hS _ (lv_sub hl [0, 1, 3, 4, 5, 6, 7, 8, 9] rfl)
                          · -- 112 to 115
                            refine lv_iload hx hb dX7_caught_115 (lv_at hl 0 rfl) ?_
                            refine n_if_eq (tgt := 157) hx hb dX7_caught_117 (by decide) (by decide) (fun c_31 => ?_) (fun c_31 => ?_)
                            · omega
                            · -- 117 to 120
                              have hke_q := (hN.k ez (by omega)).1
                              have hkk_q := (hN.k k (by omega)).1
                              refine lv_aload_n hx hb dX7_caught_120 rfl (lv_at hl 6 rfl) ?_
                              refine lv_aload_n hx hb dX7_caught_121 rfl (lv_at hl 6 rfl) ?_
                              refine gf_7_16 hx hb hts hown hK hP 0 rfl rfl dX7_caught_122 ?_
                              refine lv_bipush (v := nI 16) hx hb dX7_caught_125 (by decide) ?_
                              refine lv_iload hx hb dX7_caught_127 (lv_at hl 1 rfl) ?_
                              refine n_iadd hx hb dX7_caught_129  ?_
                              refine n_iald hx hb hK hP 2 0 rfl rfl dX7_caught_130 (by decide) (by omega) ?_
                              have hb_32 := hN.bd (16 + ez)
                              refine lv_iconst (v := nI 0) hx hb dX7_caught_131 (by decide) ?_
                              refine cl_7_133 (As := [.int (nI (nw (16 + ez))), .int (nI (0))]) (rest := []) hx hb hml hts hown (k_X7_toothOf hB (by have := hB.w; omega) (by omega)) (by decide) ⟨Nat.zero_le _, Nat.zero_le _⟩ hK hP hD hS hA 0 rfl [0, 1] rfl (by decide) rfl hl.1 rfl (Nat.le_of_ble_eq_true rfl) dX7_caught_132 (fun r_33 u H locs hp_34 hP hD hS => ?_)
                              obtain ⟨rfl, rfl⟩ := hp_34
                              have hP : va_P D vwCl [mO h q zmu zmk zmz zms zma zmc, (q 0, .inl (cI, 54, .inl (fun z_ => nI (bx z_)))), (q 2, .inl (cI, 76, .inl (fun z_ => nI (nw z_))))] _ := hP
                              have hD : va_D A [mO h q zmu zmk zmz zms zma zmc, (q 0, .inl (cI, 54, .inl (fun z_ => nI (bx z_)))), (q 2, .inl (cI, 76, .inl (fun z_ => nI (nw z_))))] := hD
                              refine lv_aload_n hx hb dX7_caught_135 rfl (lv_at hl 6 rfl) ?_
                              refine lv_aload_n hx hb dX7_caught_136 rfl (lv_at hl 6 rfl) ?_
                              refine gf_7_16 hx hb hts hown hK hP 0 rfl rfl dX7_caught_137 ?_
                              refine lv_bipush (v := nI 16) hx hb dX7_caught_140 (by decide) ?_
                              refine lv_iload hx hb dX7_caught_142 (lv_at hl 3 rfl) ?_
                              refine n_iadd hx hb dX7_caught_144  ?_
                              refine n_iald hx hb hK hP 2 0 rfl rfl dX7_caught_145 (by decide) (by omega) ?_
                              have hb_35 := hN.bd (16 + k)
                              refine lv_iconst (v := nI 0) hx hb dX7_caught_146 (by decide) ?_
                              refine cl_7_133 (As := [.int (nI (nw (16 + k))), .int (nI (0))]) (rest := [.int (nI (tooN bx (nw (16 + ez)) 0))]) hx hb hml hts hown (k_X7_toothOf hB (by have := hB.w; omega) (by omega)) (by decide) ⟨Nat.zero_le _, Nat.zero_le _⟩ hK hP hD hS hA 0 rfl [0, 1] rfl (by decide) rfl hl.1 rfl (Nat.le_of_ble_eq_true rfl) dX7_caught_147 (fun r_36 u H locs hp_37 hP hD hS => ?_)
                              obtain ⟨rfl, rfl⟩ := hp_37
                              have hP : va_P D vwCl [mO h q zmu zmk zmz zms zma zmc, (q 0, .inl (cI, 54, .inl (fun z_ => nI (bx z_)))), (q 2, .inl (cI, 76, .inl (fun z_ => nI (nw z_))))] _ := hP
                              have hD : va_D A [mO h q zmu zmk zmz zms zma zmc, (q 0, .inl (cI, 54, .inl (fun z_ => nI (bx z_)))), (q 2, .inl (cI, 76, .inl (fun z_ => nI (nw z_))))] := hD
                              have hte_q := hB.too (nw (16 + ez)) 0 (by have := hB.w; omega)
                              have htk_q := hB.too (nw (16 + k)) 0 (by have := hB.w; omega)
                              refine n_icmp_ne (tgt := 157) hx hb dX7_caught_150 (by decide) (by omega) (by omega) (fun c_38 => ?_) (fun c_38 => ?_)
                              · -- 150 to 157
                                have hqq_q := lq_4 (j := j) c_38
                                refine lv_iconst (v := nI 0) hx hb dX7_caught_157 (by decide) ?_
                                refine lv_istore (lv' := [(9, .int (nI (0))), (11, .int (nI (1))), (10, .int (nI (ez))), (8, .int (nI (k))), (6, .long (lN (B9))), (4, .long (lN (A9))), (0, .ref h), (1, .int (nI (j))), (2, .int (nI (n))), (3, .int (nI (vz)))]) hx hb dX7_caught_158 hl (by decide) rfl (fun ls hl => ?_)
                                refine lv_iinc (v := nI (ez + 1)) (lv' := [(10, .int (nI (ez + 1))), (9, .int (nI (0))), (11, .int (nI (1))), (8, .int (nI (k))), (6, .long (lN (B9))), (4, .long (lN (A9))), (0, .ref h), (1, .int (nI (j))), (2, .int (nI (n))), (3, .int (nI (vz)))]) hx hb dX7_caught_160 hl (k := 2) rfl (n_inc _ 1) (by decide) rfl (fun ls hl => ?_)
                                refine lv_goto (tgt := 57) hx hb dX7_caught_163 (by decide) ?_
                                exact ih_57 0 (ez + 1) (by omega) (by first | exact z_o1 hz (by assumption) | exact z_o0 hz (by assumption) hqq_q | exact z_o2 hqt_q) (by omega) _ _ hP hD hS _ (lv_sub hl [0, 1, 3, 4, 5, 6, 7, 8, 9] rfl)
                              · -- 150 to 153
                                have hqt_q := lq_5 he1_q he2_q he3_q c_38
                                refine lv_iconst (v := nI 1) hx hb dX7_caught_153 (by decide) ?_
                                refine lv_goto (tgt := 158) hx hb dX7_caught_154 (by decide) ?_
                                refine lv_istore (lv' := [(9, .int (nI (1))), (11, .int (nI (1))), (10, .int (nI (ez))), (8, .int (nI (k))), (6, .long (lN (B9))), (4, .long (lN (A9))), (0, .ref h), (1, .int (nI (j))), (2, .int (nI (n))), (3, .int (nI (vz)))]) hx hb dX7_caught_158 hl (by decide) rfl (fun ls hl => ?_)
                                refine lv_iinc (v := nI (ez + 1)) (lv' := [(10, .int (nI (ez + 1))), (9, .int (nI (1))), (11, .int (nI (1))), (8, .int (nI (k))), (6, .long (lN (B9))), (4, .long (lN (A9))), (0, .ref h), (1, .int (nI (j))), (2, .int (nI (n))), (3, .int (nI (vz)))]) hx hb dX7_caught_160 hl (k := 2) rfl (n_inc _ 1) (by decide) rfl (fun ls hl => ?_)
                                refine lv_goto (tgt := 57) hx hb dX7_caught_163 (by decide) ?_
                                exact ih_57 1 (ez + 1) (by omega) (by first | exact z_o1 hz (by assumption) | exact z_o0 hz (by assumption) hqq_q | exact z_o2 hqt_q) (by omega) _ _ hP hD hS _ (lv_sub hl [0, 1, 3, 4, 5, 6, 7, 8, 9] rfl)
              exact loop_57 _ 0 0 (by omega) rfl (Nat.lt_succ_self _) _ _ hP hD hS _ (lv_sub hl [0, 1, 2, 3, 4, 5, 6, 7, 8] rfl)
        exact loop_40 _ 1 1 0 (by omega) rfl rfl (Nat.lt_succ_self _) _ _ hP hD hS _ (lv_sub hl [0, 1, 2, 3, 4, 5, 6] rfl)
      · -- 24 to 27
        have hvk_q := c_9
        refine lv_ldc2 (v := (-1)) hx hb hown (hts _ tw_1009) dX7_caught_27 ?_
        refine hret hP hD hS dX7_caught_30 rfl ?_
        exact ⟨by first | exact cu_n1 (by assumption) | exact cu_n2 hvn_q | exact cu_n3 hvk_q, rfl⟩

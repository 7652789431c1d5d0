
def snA (bx nw : Nat → Nat) (x : Int32) : Int32 := if inR x 0 1 = true then nI (if ix x = 1 then cnB (fun k_ => senN bx nw (ebN bx nw k_)) (rdN bx nw (bx 0)) else cnB (fun k_ => senN bx nw k_) (szN bx (bx 0))) else -1
theorem sn_n {bx nw : Nat → Nat} {x : Int32} (h : inR x 0 1 = false) : (-1 : Int32) = snA bx nw x := by simp [snA, h]
theorem sn_1 {bx nw : Nat → Nat} {x : Int32} (h : inR x 0 1 = true) (h1 : ix x = 1) : nI (cnB (fun k_ => senN bx nw (ebN bx nw k_)) (rdN bx nw (bx 0))) = snA bx nw x := by simp only [snA]; rw [if_pos h, if_pos h1]
theorem sn_0 {bx nw : Nat → Nat} {x : Int32} (h : inR x 0 1 = true) (h1 : ix x = 0) : nI (cnB (fun k_ => senN bx nw k_) (szN bx (bx 0))) = snA bx nw x := by simp only [snA]; rw [if_pos h, if_neg (by omega)]
def loA (bx nw : Nat → Nat) (x : Int32) : Int32 := if inN x (bx 1) = true then nI (cnB (fun k_ => frN bx nw (ix x) k_) (rdN bx nw (bx 0))) else -1
def uqI (bx nw : Nat → Nat) (n i : Nat) : Nat → Nat := fun j => if 8 ≤ j ∧ j < 8 + i then (nw j + n * nw (j - 4)) % bx (j - 3) else nw j
theorem uq_0 (bx nw : Nat → Nat) (n : Nat) : uqI bx nw n 0 = nw := by funext j; simp only [uqI]; rw [if_neg (by omega)]
theorem uq_s (bx nw : Nat → Nat) (n i : Nat) (h : i < 4) : up1 (uqI bx nw n i) (8 + i) ((nw (8 + i) + n * nw (4 + i)) % bx (5 + i)) = uqI bx nw n (i + 1) := by
  funext j
  by_cases hj : j = 8 + i
  · subst hj
    rw [up1_s]
    simp only [uqI]
    rw [if_pos (by omega), show 8 + i - 4 = 4 + i by omega, show 8 + i - 3 = 5 + i by omega]
  · rw [up1_n hj]
    simp only [uqI]
    by_cases h2 : 8 ≤ j ∧ j < 8 + i
    · rw [if_pos h2, if_pos (by omega)]
    · rw [if_neg h2, if_neg (by omega)]
theorem uq_e {bx : Nat → Nat} (hB : BxOk bx) (nw : Nat → Nat) (n : Nat) : exN bx (fun i => uqI bx nw n (bx 0) (8 + i)) (bx 0) = ebN bx nw n := by
  refine ex_congr bx _ _ (bx 0) (fun i hi => ?_)
  simp only [uqI, tbhN]
  rw [if_pos (by omega), show 8 + i - 4 = 4 + i by omega, show 8 + i - 3 = 5 + i by omega, Nat.mul_comm]
def upA (bx nw : Nat → Nat) (x y : Int32) : Int32 := if inR x 0 9999 = true then (if inR y 0 1 = true then (if ix y = 0 then nI (ebN bx nw (ix x)) else if senN bx nw (ebN bx nw (ix x)) = true then nI 1 else nI 0) else -1) else -1
theorem in01_0 : inR (nI 0) 0 1 = true := by decide
theorem in01_1 : inR (nI 1) 0 1 = true := by decide
theorem ix_1 : ix (nI 1) = 1 := by decide
theorem ge_lt (bx sh : Nat → Nat) (i z : Nat) : ∀ x, geN bx sh i z x < 2 ^ x
  | 0 => by simp [geN]
  | x + 1 => by
    simp only [geN]
    refine Nat.or_lt_two_pow (Nat.lt_trans (ge_lt bx sh i z x) (Nat.pow_lt_pow_right (by omega) (by omega))) ?_
    split
    · rw [Nat.one_mul]; exact Nat.pow_lt_pow_right (by omega) (by omega)
    · exact Nat.two_pow_pos _
theorem wc_le (bx : Nat → Nat) (i g n o : Nat) : ∀ y, wcN bx i g n o y ≤ y
  | 0 => by simp [wcN]
  | y + 1 => by
    have ih := wc_le bx i g n o y
    simp only [wcN]
    split <;> omega
theorem wo_le (bx : Nat → Nat) (i g n : Nat) : ∀ o, woN bx i g n o ≤ bx (5 + i)
  | 0 => by simp [woN]
  | o + 1 => by
    have ih := wo_le bx i g n o
    have h1 := wc_le bx i g n o (bx (5 + i))
    simp only [woN]
    split <;> omega
/-- of the first k numbers of turns the best, and how many it leaves -/
def askN (bx : Nat → Nat) (i g : Nat) : Nat → Nat × Nat
  | 0 => (0, 1000000)
  | k + 1 => if woN bx i g (k + 1) (bx (5 + i)) < (askN bx i g k).2 then (k + 1, woN bx i g (k + 1) (bx (5 + i))) else askN bx i g k
theorem ask_1 {bx : Nat → Nat} {i g n u v : Nat} (hn : 1 ≤ n) (h : (u, v) = askN bx i g (n - 1)) (hl : woN bx i g n (bx (5 + i)) < v) : (n, woN bx i g n (bx (5 + i))) = askN bx i g (n + 1 - 1) := by
  obtain ⟨k, rfl⟩ : ∃ k, n = k + 1 := ⟨n - 1, by omega⟩
  simp only [Nat.add_sub_cancel] at h ⊢
  simp only [askN]
  rw [← h, if_pos hl]
theorem ask_0 {bx : Nat → Nat} {i g n u v : Nat} (hn : 1 ≤ n) (h : (u, v) = askN bx i g (n - 1)) (hl : v ≤ woN bx i g n (bx (5 + i))) : (u, v) = askN bx i g (n + 1 - 1) := by
  obtain ⟨k, rfl⟩ : ∃ k, n = k + 1 := ⟨n - 1, by omega⟩
  simp only [Nat.add_sub_cancel] at h ⊢
  simp only [askN]
  rw [← h, if_neg (by simpa using hl)]
def asA (bx sh : Nat → Nat) (z : Nat) (x y : Int32) : Int32 := if inN x (bx 0) = true then (if inR y 0 1 = true then (if geN bx sh (ix x) z (bx (5 + ix x)) = 0 then -4 else nI (if ix y = 0 then (askN bx (ix x) (geN bx sh (ix x) z (bx (5 + ix x))) 9).1 else (askN bx (ix x) (geN bx sh (ix x) z (bx (5 + ix x))) 9).2)) else -1) else -1
theorem as_0 {bx sh : Nat → Nat} {z j k u v : Nat} {x y : Int32} (h1 : inN x (bx 0) = true) (h2 : inR y 0 1 = true) (hj : ix x = j) (hk : ix y = k) (h0 : k = 0) (hg : geN bx sh j z (bx (5 + j)) ≠ 0) (h : (u, v) = askN bx j (geN bx sh j z (bx (5 + j))) 9) : nI u = asA bx sh z x y := by
  simp only [asA, hj, hk]
  rw [if_pos h1, if_pos h2, if_neg hg, if_pos h0, ← h]
theorem as_1 {bx sh : Nat → Nat} {z j k u v : Nat} {x y : Int32} (h1 : inN x (bx 0) = true) (h2 : inR y 0 1 = true) (hj : ix x = j) (hk : ix y = k) (h0 : k ≠ 0) (hg : geN bx sh j z (bx (5 + j)) ≠ 0) (h : (u, v) = askN bx j (geN bx sh j z (bx (5 + j))) 9) : nI v = asA bx sh z x y := by
  simp only [asA, hj, hk]
  rw [if_pos h1, if_pos h2, if_neg hg, if_neg h0, ← h]

set_option maxHeartbeats 4000000 in
set_option maxRecDepth 100000 in
theorem k_X7_sensible {l : Launch} {D : va_G} {cI cC cB : ClassId} {h : Nat} {q : Nat → Nat} {zmu zmk zmz zms zma zmc : Nat} {bx nw f : Nat → Nat} {x : Int32} (hB : BxOk bx) (hG : GoOk bx nw) (hN : HdOk bx nw) (hbl : BdOk nw) : MI l yX7_sensible cX7_sensible 5 (some .int) 4 D (Ty3 cI cC cB) [.ref h, .int (x)] [mO h q zmu zmk zmz zms zma zmc, (q 0, .inl (cI, 54, .inl (fun z_ => nI (bx z_)))), (q 2, .inl (cI, 76, .inl (fun z_ => nI (nw z_)))), (q 9, .inl (cI, 76, .inl (fun z_ => nI (f z_))))] (fun r u => (∃ f2 : Nat → Nat, r = snA bx nw x ∧ u = [mO h q zmu zmk zmz zms zma zmc, (q 0, .inl (cI, 54, .inl (fun z_ => nI (bx z_)))), (q 2, .inl (cI, 76, .inl (fun z_ => nI (nw z_)))), (q 9, .inl (cI, 76, .inl (fun z_ => nI (f2 z_))))])) := by
  intro sz
  refine MI.walk (by decide +kernel) (Nat.le_of_ble_eq_true rfl) ?_
  intro p e s m args below meth c A Qf hx hb hml hts hown hret hK hP hD hS hA ls hl
  have hown : s.vm.findClass RX7 = some m.cls := hown
  have hl : lv_has ls 5 [(0, .ref h), (1, .int (x))] := hl
  have hP : va_P D vwCl [mO h q zmu zmk zmz zms zma zmc, (q 0, .inl (cI, 54, .inl (fun z_ => nI (bx z_)))), (q 2, .inl (cI, 76, .inl (fun z_ => nI (nw z_)))), (q 9, .inl (cI, 76, .inl (fun z_ => nI (f z_))))] s.heap := hP
  have hD : va_D A [mO h q zmu zmk zmz zms zma zmc, (q 0, .inl (cI, 54, .inl (fun z_ => nI (bx z_)))), (q 2, .inl (cI, 76, .inl (fun z_ => nI (nw z_)))), (q 9, .inl (cI, 76, .inl (fun z_ => nI (f z_))))] := hD
  refine lv_iload_n hx hb dX7_sensible_0 rfl (lv_at hl 1 rfl) ?_
  refine cl_7_198 (As := [.int (x)]) (rest := []) hx hb hml hts hown (k_X7_isTwo ) (by decide) ⟨Nat.zero_le _, Nat.zero_le _⟩ hK hP hD hS hA [] rfl (by decide) rfl hl.1 rfl (Nat.le_of_ble_eq_true rfl) dX7_sensible_1 (fun r_1 u H locs hp_2 hP hD hS => ?_)
  obtain ⟨rfl, rfl⟩ := hp_2
  have hP : va_P D vwCl [mO h q zmu zmk zmz zms zma zmc, (q 0, .inl (cI, 54, .inl (fun z_ => nI (bx z_)))), (q 2, .inl (cI, 76, .inl (fun z_ => nI (nw z_)))), (q 9, .inl (cI, 76, .inl (fun z_ => nI (f z_))))] _ := hP
  have hD : va_D A [mO h q zmu zmk zmz zms zma zmc, (q 0, .inl (cI, 54, .inl (fun z_ => nI (bx z_)))), (q 2, .inl (cI, 76, .inl (fun z_ => nI (nw z_)))), (q 9, .inl (cI, 76, .inl (fun z_ => nI (f z_))))] := hD
  refine n_ifb_ne (tgt := 9) hx hb dX7_sensible_4 (by decide) (fun c_3 => ?_) (fun c_3 => ?_)
  · -- 4 to 9
    have hvj_q := c_3
    obtain ⟨j, hl1, hh1, rfl⟩ := inR_e (by omega) hvj_q
    have hij_q : ix (nI j) = j := ix_n (by omega)
    refine lv_iload_n hx hb dX7_sensible_9 rfl (lv_at hl 1 rfl) ?_
    refine lv_iconst (v := nI 1) hx hb dX7_sensible_10 (by decide) ?_
    refine n_icmp_ne (tgt := 20) hx hb dX7_sensible_11 (by decide) (by omega) (by decide) (fun c_4 => ?_) (fun c_4 => ?_)
    · -- 11 to 20
      have hj0_q : j = 0 := by omega
      refine lv_iconst (v := nI 0) hx hb dX7_sensible_20 (by decide) ?_
      refine lv_istore_n (lv' := [(2, .int (nI (0))), (0, .ref h), (1, .int (nI (j)))]) hx hb dX7_sensible_21 rfl hl (by decide) rfl (fun ls hl => ?_)
      have hsz := sz_lt hB
      refine lv_aload_n hx hb dX7_sensible_22 rfl (lv_at hl 1 rfl) ?_
      refine cl_7_130 (As := []) (rest := []) hx hb hml hts hown (k_X7_excuses (by first | assumption | omega)) (by decide) ⟨Nat.zero_le _, Nat.zero_le _⟩ hK hP hD hS hA 0 rfl [0, 1] rfl (by decide) rfl hl.1 rfl (Nat.le_of_ble_eq_true rfl) dX7_sensible_23 (fun r_5 u H locs hp_6 hP hD hS => ?_)
      obtain ⟨rfl, rfl⟩ := hp_6
      have hP : va_P D vwCl [mO h q zmu zmk zmz zms zma zmc, (q 0, .inl (cI, 54, .inl (fun z_ => nI (bx z_)))), (q 2, .inl (cI, 76, .inl (fun z_ => nI (nw z_)))), (q 9, .inl (cI, 76, .inl (fun z_ => nI (f z_))))] _ := hP
      have hD : va_D A [mO h q zmu zmk zmz zms zma zmc, (q 0, .inl (cI, 54, .inl (fun z_ => nI (bx z_)))), (q 2, .inl (cI, 76, .inl (fun z_ => nI (nw z_)))), (q 9, .inl (cI, 76, .inl (fun z_ => nI (f z_))))] := hD
      refine lv_istore_n (lv' := [(3, .int (nI (szN bx (bx 0)))), (2, .int (nI (0))), (0, .ref h), (1, .int (nI (j)))]) hx hb dX7_sensible_26 rfl hl (by decide) rfl (fun ls hl => ?_)
      refine lv_iconst (v := nI 0) hx hb dX7_sensible_27 (by decide) ?_
      refine lv_istore (lv' := [(4, .int (nI (0))), (3, .int (nI (szN bx (bx 0)))), (2, .int (nI (0))), (0, .ref h), (1, .int (nI (j)))]) hx hb dX7_sensible_28 hl (by decide) rfl (fun ls hl => ?_)
      have loop_30 : ∀ (N : Nat) (n : Nat) (k : Nat), (k ≤ szN bx (bx 0)) → (n = cnB (fun k_ => senN bx nw k_) k) → (szN bx (bx 0) - k) < N → ∀ (H : Heap) (locs : List Loc), va_P D vwCl [mO h q zmu zmk zmz zms zma zmc, (q 0, .inl (cI, 54, .inl (fun z_ => nI (bx z_)))), (q 2, .inl (cI, 76, .inl (fun z_ => nI (nw z_)))), (q 9, .inl (cI, 76, .inl (fun z_ => nI (f z_))))] H → va_D A [mO h q zmu zmk zmz zms zma zmc, (q 0, .inl (cI, 54, .inl (fun z_ => nI (bx z_)))), (q 2, .inl (cI, 76, .inl (fun z_ => nI (nw z_)))), (q 9, .inl (cI, 76, .inl (fun z_ => nI (f z_))))] → va_S A s.heap H locs → ∀ ls : Array Slot, lv_has ls 5 [(4, .int (nI (k))), (3, .int (nI (szN bx (bx 0)))), (2, .int (nI (n))), (0, .ref h), (1, .int (nI (j)))] → W p l e (rmL 4) s m args below meth c H locs 0 0 Qf (F0 m 30 ls []) := by
        intro N; induction N with
        | zero => intro n k _ _ hm; omega
        | succ N ih_30 =>
          intro n k hk hn hm H locs hP hD hS ls hl
          refine lv_iload hx hb dX7_sensible_30 (lv_at hl 0 rfl) ?_
          refine lv_iload_n hx hb dX7_sensible_32 rfl (lv_at hl 1 rfl) ?_
          refine n_icmp_ge (tgt := 63) hx hb dX7_sensible_33 (by decide) (by omega) (by omega) (fun c_7 => ?_) (fun c_7 => ?_)
          · -- 33 to 63
            refine lv_iload_n hx hb dX7_sensible_63 rfl (lv_at hl 2 rfl) ?_
            refine hret hP hD hS dX7_sensible_64 rfl rfl ?_
            exact ⟨_, by rw [hn, show k = szN bx (bx 0) by omega]; exact sn_0 hvj_q (by rw [hij_q]; exact hj0_q), rfl⟩
          · -- 33 to 36
            refine lv_iload_n hx hb dX7_sensible_36 rfl (lv_at hl 2 rfl) ?_
            refine lv_aload_n hx hb dX7_sensible_37 rfl (lv_at hl 3 rfl) ?_
            refine lv_aload_n hx hb dX7_sensible_38 rfl (lv_at hl 3 rfl) ?_
            refine gf_7_16 hx hb hts hown hK hP 0 rfl rfl dX7_sensible_39 ?_
            refine lv_iload hx hb dX7_sensible_42 (lv_at hl 0 rfl) ?_
            refine cl_7_152 (As := [.ref (q 2), .int (nI (k))]) (rest := [.int (nI (n))]) hx hb hml hts hown (k_X7_hasSense hB hN.bd (by omega)) (by decide) ⟨Nat.zero_le _, Nat.zero_le _⟩ hK hP hD hS hA 0 rfl [0, 1, 2] rfl (by decide) rfl hl.1 rfl (Nat.le_of_ble_eq_true rfl) dX7_sensible_44 (fun r_8 u H locs hp_9 hP hD hS => ?_)
            obtain ⟨rfl, rfl⟩ := hp_9
            have hP : va_P D vwCl [mO h q zmu zmk zmz zms zma zmc, (q 0, .inl (cI, 54, .inl (fun z_ => nI (bx z_)))), (q 2, .inl (cI, 76, .inl (fun z_ => nI (nw z_)))), (q 9, .inl (cI, 76, .inl (fun z_ => nI (f z_))))] _ := hP
            have hD : va_D A [mO h q zmu zmk zmz zms zma zmc, (q 0, .inl (cI, 54, .inl (fun z_ => nI (bx z_)))), (q 2, .inl (cI, 76, .inl (fun z_ => nI (nw z_)))), (q 9, .inl (cI, 76, .inl (fun z_ => nI (f z_))))] := hD
            refine n_ifb_eq (tgt := 54) hx hb dX7_sensible_47 (by decide) (fun c_10 => ?_) (fun c_10 => ?_)
            · -- 47 to 54
              refine lv_iconst (v := nI 0) hx hb dX7_sensible_54 (by decide) ?_
              refine n_iadd hx hb dX7_sensible_55  ?_
              refine lv_istore_n (lv' := [(2, .int (nI (n + 0))), (4, .int (nI (k))), (3, .int (nI (szN bx (bx 0)))), (0, .ref h), (1, .int (nI (j)))]) hx hb dX7_sensible_56 rfl hl (by decide) rfl (fun ls hl => ?_)
              refine lv_iinc (v := nI (k + 1)) (lv' := [(4, .int (nI (k + 1))), (2, .int (nI (n + 0))), (3, .int (nI (szN bx (bx 0)))), (0, .ref h), (1, .int (nI (j)))]) hx hb dX7_sensible_57 hl (k := 1) rfl (n_inc _ 1) (by decide) rfl (fun ls hl => ?_)
              refine lv_goto (tgt := 30) hx hb dX7_sensible_60 (by decide) ?_
              exact ih_30 (n + 0) (k + 1) (by omega) (by rw [hn]; first | exact cn_1 (P := fun k_ => senN bx nw k_) (by assumption) | exact cn_0 (P := fun k_ => senN bx nw k_) (by assumption)) (by omega) _ _ hP hD hS _ (lv_sub hl [0, 2, 1, 3, 4] rfl)
            · -- 47 to 50
              refine lv_iconst (v := nI 1) hx hb dX7_sensible_50 (by decide) ?_
              refine lv_goto (tgt := 55) hx hb dX7_sensible_51 (by decide) ?_
              refine n_iadd hx hb dX7_sensible_55  ?_
              refine lv_istore_n (lv' := [(2, .int (nI (n + 1))), (4, .int (nI (k))), (3, .int (nI (szN bx (bx 0)))), (0, .ref h), (1, .int (nI (j)))]) hx hb dX7_sensible_56 rfl hl (by decide) rfl (fun ls hl => ?_)
              refine lv_iinc (v := nI (k + 1)) (lv' := [(4, .int (nI (k + 1))), (2, .int (nI (n + 1))), (3, .int (nI (szN bx (bx 0)))), (0, .ref h), (1, .int (nI (j)))]) hx hb dX7_sensible_57 hl (k := 1) rfl (n_inc _ 1) (by decide) rfl (fun ls hl => ?_)
              refine lv_goto (tgt := 30) hx hb dX7_sensible_60 (by decide) ?_
              exact ih_30 (n + 1) (k + 1) (by omega) (by rw [hn]; first | exact cn_1 (P := fun k_ => senN bx nw k_) (by assumption) | exact cn_0 (P := fun k_ => senN bx nw k_) (by assumption)) (by omega) _ _ hP hD hS _ (lv_sub hl [0, 2, 1, 3, 4] rfl)
      exact loop_30 _ 0 0 (Nat.zero_le _) rfl (Nat.lt_succ_self _) _ _ hP hD hS _ (lv_sub hl [0, 1, 2, 3, 4] rfl)
    · -- 11 to 14
      have hj1_q : j = 1 := by omega
      refine lv_aload_n hx hb dX7_sensible_14 rfl (lv_at hl 0 rfl) ?_
      refine lv_iconst (v := (-1)) hx hb dX7_sensible_15 (by decide) ?_
      refine cl_7_210 (As := [.int ((-1 : Int32))]) (rest := []) hx hb hml hts hown (k_X7_inRoundM hB hG hN hbl) (by decide) ⟨Nat.zero_le _, Nat.zero_le _⟩ hK hP hD hS hA 0 rfl [0, 1, 2, 3] rfl (by decide) rfl hl.1 rfl (Nat.le_of_ble_eq_true rfl) dX7_sensible_16 (fun r_11 u H locs hp_12 hP hD hS => ?_)
      obtain ⟨z_13, rfl, rfl⟩ := hp_12
      have hP : va_P D vwCl [mO h q zmu zmk zmz zms zma zmc, (q 0, .inl (cI, 54, .inl (fun z_ => nI (bx z_)))), (q 2, .inl (cI, 76, .inl (fun z_ => nI (nw z_)))), (q 9, .inl (cI, 76, .inl (fun z_ => nI (z_13 z_))))] _ := hP
      have hD : va_D A [mO h q zmu zmk zmz zms zma zmc, (q 0, .inl (cI, 54, .inl (fun z_ => nI (bx z_)))), (q 2, .inl (cI, 76, .inl (fun z_ => nI (nw z_)))), (q 9, .inl (cI, 76, .inl (fun z_ => nI (z_13 z_))))] := hD
      refine hret hP hD hS dX7_sensible_19 rfl rfl ?_
      exact ⟨_, sn_1 hvj_q (by rw [hij_q]; exact hj1_q), rfl⟩
  · -- 4 to 7
    have hvj_q := c_3
    refine lv_iconst (v := (-1)) hx hb dX7_sensible_7 (by decide) ?_
    refine hret hP hD hS dX7_sensible_8 rfl rfl ?_
    exact ⟨_, sn_n hvj_q, rfl⟩
set_option maxHeartbeats 4000000 in
set_option maxRecDepth 100000 in
theorem k_X7_longest {l : Launch} {D : va_G} {cI cC cB : ClassId} {h : Nat} {q : Nat → Nat} {zmu zmk zmz zms zma zmc : Nat} {bx nw f : Nat → Nat} {x : Int32} (hB : BxOk bx) (hG : GoOk bx nw) (hN : HdOk bx nw) (hbl : BdOk nw) : MI l yX7_longest cX7_longest 2 (some .int) 4 D (Ty3 cI cC cB) [.ref h, .int (x)] [mO h q zmu zmk zmz zms zma zmc, (q 0, .inl (cI, 54, .inl (fun z_ => nI (bx z_)))), (q 2, .inl (cI, 76, .inl (fun z_ => nI (nw z_)))), (q 9, .inl (cI, 76, .inl (fun z_ => nI (f z_))))] (fun r u => (∃ f2 : Nat → Nat, r = loA bx nw x ∧ u = [mO h q zmu zmk zmz zms zma zmc, (q 0, .inl (cI, 54, .inl (fun z_ => nI (bx z_)))), (q 2, .inl (cI, 76, .inl (fun z_ => nI (nw z_)))), (q 9, .inl (cI, 76, .inl (fun z_ => nI (f2 z_))))])) := by
  intro sz
  refine MI.walk (by decide +kernel) (Nat.le_of_ble_eq_true rfl) ?_
  intro p e s m args below meth c A Qf hx hb hml hts hown hret hK hP hD hS hA ls hl
  have hown : s.vm.findClass RX7 = some m.cls := hown
  have hl : lv_has ls 2 [(0, .ref h), (1, .int (x))] := hl
  have hP : va_P D vwCl [mO h q zmu zmk zmz zms zma zmc, (q 0, .inl (cI, 54, .inl (fun z_ => nI (bx z_)))), (q 2, .inl (cI, 76, .inl (fun z_ => nI (nw z_)))), (q 9, .inl (cI, 76, .inl (fun z_ => nI (f z_))))] s.heap := hP
  have hD : va_D A [mO h q zmu zmk zmz zms zma zmc, (q 0, .inl (cI, 54, .inl (fun z_ => nI (bx z_)))), (q 2, .inl (cI, 76, .inl (fun z_ => nI (nw z_)))), (q 9, .inl (cI, 76, .inl (fun z_ => nI (f z_))))] := hD
  refine lv_aload_n hx hb dX7_longest_0 rfl (lv_at hl 0 rfl) ?_
  refine lv_iload_n hx hb dX7_longest_1 rfl (lv_at hl 1 rfl) ?_
  refine cl_7_169 (As := [.int (x)]) (rest := []) hx hb hml hts hown (k_X7_isPerson (by first | assumption | omega)) (by decide) ⟨Nat.zero_le _, Nat.zero_le _⟩ hK hP hD hS hA 0 rfl [0, 1] rfl (by decide) rfl hl.1 rfl (Nat.le_of_ble_eq_true rfl) dX7_longest_2 (fun r_1 u H locs hp_2 hP hD hS => ?_)
  obtain ⟨rfl, rfl⟩ := hp_2
  have hP : va_P D vwCl [mO h q zmu zmk zmz zms zma zmc, (q 0, .inl (cI, 54, .inl (fun z_ => nI (bx z_)))), (q 2, .inl (cI, 76, .inl (fun z_ => nI (nw z_)))), (q 9, .inl (cI, 76, .inl (fun z_ => nI (f z_))))] _ := hP
  have hD : va_D A [mO h q zmu zmk zmz zms zma zmc, (q 0, .inl (cI, 54, .inl (fun z_ => nI (bx z_)))), (q 2, .inl (cI, 76, .inl (fun z_ => nI (nw z_)))), (q 9, .inl (cI, 76, .inl (fun z_ => nI (f z_))))] := hD
  refine n_ifb_eq (tgt := 16) hx hb dX7_longest_5 (by decide) (fun c_3 => ?_) (fun c_3 => ?_)
  · -- 5 to 16
    refine lv_iconst (v := (-1)) hx hb dX7_longest_16 (by decide) ?_
    refine hret hP hD hS dX7_longest_17 rfl rfl ?_
    exact ⟨_, by simp [loA, c_3], rfl⟩
  · -- 5 to 8
    obtain ⟨j, hj, rfl⟩ := inN_e (by have := hB.bd 1; omega) c_3
    have hij_q : ix (nI j) = j := ix_n (by have := hB.bd 1; omega)
    refine lv_aload_n hx hb dX7_longest_8 rfl (lv_at hl 0 rfl) ?_
    refine lv_iload_n hx hb dX7_longest_9 rfl (lv_at hl 1 rfl) ?_
    refine cl_7_210 (As := [.int (nI (j))]) (rest := []) hx hb hml hts hown (k_X7_inRoundP hB hG hN hbl hj) (by decide) ⟨Nat.zero_le _, Nat.zero_le _⟩ hK hP hD hS hA 0 rfl [0, 1, 2, 3] rfl (by decide) rfl hl.1 rfl (Nat.le_of_ble_eq_true rfl) dX7_longest_10 (fun r_4 u H locs hp_5 hP hD hS => ?_)
    obtain ⟨z_6, rfl, rfl⟩ := hp_5
    have hP : va_P D vwCl [mO h q zmu zmk zmz zms zma zmc, (q 0, .inl (cI, 54, .inl (fun z_ => nI (bx z_)))), (q 2, .inl (cI, 76, .inl (fun z_ => nI (nw z_)))), (q 9, .inl (cI, 76, .inl (fun z_ => nI (z_6 z_))))] _ := hP
    have hD : va_D A [mO h q zmu zmk zmz zms zma zmc, (q 0, .inl (cI, 54, .inl (fun z_ => nI (bx z_)))), (q 2, .inl (cI, 76, .inl (fun z_ => nI (nw z_)))), (q 9, .inl (cI, 76, .inl (fun z_ => nI (z_6 z_))))] := hD
    refine lv_goto (tgt := 17) hx hb dX7_longest_13 (by decide) ?_
    refine hret hP hD hS dX7_longest_17 rfl rfl ?_
    exact ⟨_, by simp [loA, c_3, hij_q], rfl⟩
set_option maxHeartbeats 4000000 in
set_option maxRecDepth 100000 in
theorem k_X7_up {l : Launch} {D : va_G} {cI cC cB : ClassId} {h : Nat} {q : Nat → Nat} {zmu zmk zmz zms zma zmc : Nat} {bx nw f : Nat → Nat} {x y : Int32} (hB : BxOk bx) (hG : GoOk bx nw) (hN : HdOk bx nw) (hbl : BdOk nw) : MI l yX7_up cX7_up 4 (some .int) 3 D (Ty3 cI cC cB) [.ref h, .int (x), .int (y)] [mO h q zmu zmk zmz zms zma zmc, (q 0, .inl (cI, 54, .inl (fun z_ => nI (bx z_)))), (q 2, .inl (cI, 76, .inl (fun z_ => nI (nw z_)))), (q 9, .inl (cI, 76, .inl (fun z_ => nI (f z_))))] (fun r u => (∃ f2 : Nat → Nat, r = upA bx nw x y ∧ u = [mO h q zmu zmk zmz zms zma zmc, (q 0, .inl (cI, 54, .inl (fun z_ => nI (bx z_)))), (q 2, .inl (cI, 76, .inl (fun z_ => nI (nw z_)))), (q 9, .inl (cI, 76, .inl (fun z_ => nI (f2 z_))))])) := by
  intro sz
  refine MI.walk (by decide +kernel) (Nat.le_of_ble_eq_true rfl) ?_
  intro p e s m args below meth c A Qf hx hb hml hts hown hret hK hP hD hS hA ls hl
  have hown : s.vm.findClass RX7 = some m.cls := hown
  have hl : lv_has ls 4 [(0, .ref h), (1, .int (x)), (2, .int (y))] := hl
  have hP : va_P D vwCl [mO h q zmu zmk zmz zms zma zmc, (q 0, .inl (cI, 54, .inl (fun z_ => nI (bx z_)))), (q 2, .inl (cI, 76, .inl (fun z_ => nI (nw z_)))), (q 9, .inl (cI, 76, .inl (fun z_ => nI (f z_))))] s.heap := hP
  have hD : va_D A [mO h q zmu zmk zmz zms zma zmc, (q 0, .inl (cI, 54, .inl (fun z_ => nI (bx z_)))), (q 2, .inl (cI, 76, .inl (fun z_ => nI (nw z_)))), (q 9, .inl (cI, 76, .inl (fun z_ => nI (f z_))))] := hD
  refine lv_iload_n hx hb dX7_up_0 rfl (lv_at hl 1 rfl) ?_
  refine lv_i2l (v := (x).toInt64) hx hb dX7_up_1 rfl ?_
  refine lv_lconst (v := lN 0) hx hb dX7_up_2 (by decide) ?_
  refine lv_ldc2 (v := lN 9999) hx hb hown (hts _ tw_977) dX7_up_3 ?_
  refine cl_7_67 (As := [.long ((x).toInt64), .long (lN (0)), .long (lN (9999))]) (rest := []) hx hb hml hts hown (k_X7_in ) (by decide) ⟨Nat.zero_le _, Nat.zero_le _⟩ hK hP hD hS hA [] rfl (by decide) rfl hl.1 rfl (Nat.le_of_ble_eq_true rfl) dX7_up_6 (fun r_1 u H locs hp_2 hP hD hS => ?_)
  obtain ⟨rfl, rfl⟩ := hp_2
  have hP : va_P D vwCl [mO h q zmu zmk zmz zms zma zmc, (q 0, .inl (cI, 54, .inl (fun z_ => nI (bx z_)))), (q 2, .inl (cI, 76, .inl (fun z_ => nI (nw z_)))), (q 9, .inl (cI, 76, .inl (fun z_ => nI (f z_))))] _ := hP
  have hD : va_D A [mO h q zmu zmk zmz zms zma zmc, (q 0, .inl (cI, 54, .inl (fun z_ => nI (bx z_)))), (q 2, .inl (cI, 76, .inl (fun z_ => nI (nw z_)))), (q 9, .inl (cI, 76, .inl (fun z_ => nI (f z_))))] := hD
  refine n_ifb_eq (tgt := 19) hx hb dX7_up_9 (by decide) (fun c_3 => ?_) (fun c_3 => ?_)
  · -- 9 to 19
    have hvj_q := (inR_l x 0 9999 (by omega) (by omega)).trans c_3
    refine lv_iconst (v := (-1)) hx hb dX7_up_19 (by decide) ?_
    refine hret hP hD hS dX7_up_20 rfl rfl ?_
    exact ⟨_, by simp [upA, c_3, hvj_q], rfl⟩
  · -- 9 to 12
    have hvj_q := (inR_l x 0 9999 (by omega) (by omega)).trans c_3
    obtain ⟨j, hlj, hhj, rfl⟩ := inR_e (by omega) hvj_q
    have hij_q : ix (nI j) = j := ix_n (by omega)
    refine lv_iload_n hx hb dX7_up_12 rfl (lv_at hl 2 rfl) ?_
    refine cl_7_198 (As := [.int (y)]) (rest := []) hx hb hml hts hown (k_X7_isTwo ) (by decide) ⟨Nat.zero_le _, Nat.zero_le _⟩ hK hP hD hS hA [] rfl (by decide) rfl hl.1 rfl (Nat.le_of_ble_eq_true rfl) dX7_up_13 (fun r_4 u H locs hp_5 hP hD hS => ?_)
    obtain ⟨rfl, rfl⟩ := hp_5
    have hP : va_P D vwCl [mO h q zmu zmk zmz zms zma zmc, (q 0, .inl (cI, 54, .inl (fun z_ => nI (bx z_)))), (q 2, .inl (cI, 76, .inl (fun z_ => nI (nw z_)))), (q 9, .inl (cI, 76, .inl (fun z_ => nI (f z_))))] _ := hP
    have hD : va_D A [mO h q zmu zmk zmz zms zma zmc, (q 0, .inl (cI, 54, .inl (fun z_ => nI (bx z_)))), (q 2, .inl (cI, 76, .inl (fun z_ => nI (nw z_)))), (q 9, .inl (cI, 76, .inl (fun z_ => nI (f z_))))] := hD
    refine n_ifb_ne (tgt := 21) hx hb dX7_up_16 (by decide) (fun c_6 => ?_) (fun c_6 => ?_)
    · -- 16 to 21
      have hvk_q := c_6
      obtain ⟨k, hl2, hh2, rfl⟩ := inR_e (by omega) hvk_q
      have hik_q : ix (nI k) = k := ix_n (by omega)
      have hw := hB.w
      refine lv_aload_n hx hb dX7_up_21 rfl (lv_at hl 0 rfl) ?_
      refine cl_7_201 (As := []) (rest := []) hx hb hml hts hown (k_X7_layAside ) (by decide) ⟨Nat.zero_le _, Nat.zero_le _⟩ hK hP hD hS hA 0 rfl [0, 2, 3] rfl (by decide) rfl hl.1 rfl (Nat.le_of_ble_eq_true rfl) dX7_up_22 (fun  u H locs hp_7 hP hD hS => ?_)
      subst hp_7
      have hP : va_P D vwCl [mO h q zmu zmk zmz zms zma zmc, (q 0, .inl (cI, 54, .inl (fun z_ => nI (bx z_)))), (q 2, .inl (cI, 76, .inl (fun z_ => nI (nw z_)))), (q 9, .inl (cI, 76, .inl (fun z_ => nI (nw z_))))] _ := hP
      have hD : va_D A [mO h q zmu zmk zmz zms zma zmc, (q 0, .inl (cI, 54, .inl (fun z_ => nI (bx z_)))), (q 2, .inl (cI, 76, .inl (fun z_ => nI (nw z_)))), (q 9, .inl (cI, 76, .inl (fun z_ => nI (nw z_))))] := hD
      refine lv_iconst (v := nI 0) hx hb dX7_up_25 (by decide) ?_
      refine lv_istore_n (lv' := [(3, .int (nI (0))), (0, .ref h), (1, .int (nI (j))), (2, .int (nI (k)))]) hx hb dX7_up_26 rfl hl (by decide) rfl (fun ls hl => ?_)
      have loop_27 : ∀ (N : Nat) (i : Nat) (g : Nat → Nat), (i ≤ bx 0) → (g = uqI bx nw j i) → (bx 0 - i) < N → ∀ (H : Heap) (locs : List Loc), va_P D vwCl [mO h q zmu zmk zmz zms zma zmc, (q 0, .inl (cI, 54, .inl (fun z_ => nI (bx z_)))), (q 2, .inl (cI, 76, .inl (fun z_ => nI (nw z_)))), (q 9, .inl (cI, 76, .inl (fun z_ => nI (g z_))))] H → va_D A [mO h q zmu zmk zmz zms zma zmc, (q 0, .inl (cI, 54, .inl (fun z_ => nI (bx z_)))), (q 2, .inl (cI, 76, .inl (fun z_ => nI (nw z_)))), (q 9, .inl (cI, 76, .inl (fun z_ => nI (g z_))))] → va_S A s.heap H locs → ∀ ls : Array Slot, lv_has ls 4 [(3, .int (nI (i))), (0, .ref h), (1, .int (nI (j))), (2, .int (nI (k)))] → W p l e (rmL 3) s m args below meth c H locs 0 0 Qf (F0 m 27 ls []) := by
        intro N; induction N with
        | zero => intro i g _ _ hm; omega
        | succ N ih_27 =>
          intro i g hi hg hm H locs hP hD hS ls hl
          refine lv_iload_n hx hb dX7_up_27 rfl (lv_at hl 0 rfl) ?_
          refine lv_aload_n hx hb dX7_up_28 rfl (lv_at hl 1 rfl) ?_
          refine gf_7_7 hx hb hts hown hK hP 0 rfl rfl dX7_up_29 ?_
          refine lv_iconst (v := nI 0) hx hb dX7_up_32 (by decide) ?_
          refine n_iald hx hb hK hP 1 0 rfl rfl dX7_up_33 (by decide) (by omega) ?_
          have hb_8 := hB.bd 0
          refine n_icmp_ge (tgt := 81) hx hb dX7_up_34 (by decide) (by omega) (by omega) (fun c_9 => ?_) (fun c_9 => ?_)
          · -- 34 to 81
            refine lv_aload_n hx hb dX7_up_81 rfl (lv_at hl 1 rfl) ?_
            refine lv_aload_n hx hb dX7_up_82 rfl (lv_at hl 1 rfl) ?_
            refine gf_7_37 hx hb hts hown hK hP 0 rfl rfl dX7_up_83 ?_
            refine cl_7_148 (As := [.ref (q 9)]) (rest := []) hx hb hml hts hown (k_X7_upOn (by first | assumption | omega)) (by decide) ⟨Nat.zero_le _, Nat.zero_le _⟩ hK hP hD hS hA 0 rfl [0, 1, 3] rfl (by decide) rfl hl.1 rfl (Nat.le_of_ble_eq_true rfl) dX7_up_86 (fun r_10 u H locs hp_11 hP hD hS => ?_)
            obtain ⟨rfl, rfl⟩ := hp_11
            have hP : va_P D vwCl [mO h q zmu zmk zmz zms zma zmc, (q 0, .inl (cI, 54, .inl (fun z_ => nI (bx z_)))), (q 2, .inl (cI, 76, .inl (fun z_ => nI (nw z_)))), (q 9, .inl (cI, 76, .inl (fun z_ => nI (g z_))))] _ := hP
            have hD : va_D A [mO h q zmu zmk zmz zms zma zmc, (q 0, .inl (cI, 54, .inl (fun z_ => nI (bx z_)))), (q 2, .inl (cI, 76, .inl (fun z_ => nI (nw z_)))), (q 9, .inl (cI, 76, .inl (fun z_ => nI (g z_))))] := hD
            have e9_q : exN bx (fun i => g (8 + i)) (bx 0) = ebN bx nw j := by rw [hg, show i = bx 0 by omega]; exact uq_e hB nw j
            have hel_q := eb_lt hB nw j
            refine lv_istore_n (lv' := [(3, .int (nI (exN bx (fun i => g (8 + i)) (bx 0)))), (0, .ref h), (1, .int (nI (j))), (2, .int (nI (k)))]) hx hb dX7_up_89 rfl hl (by decide) rfl (fun ls hl => ?_)
            refine lv_iload_n hx hb dX7_up_90 rfl (lv_at hl 3 rfl) ?_
            refine n_if_ne (tgt := 98) hx hb dX7_up_91 (by decide) (by omega) (fun c_12 => ?_) (fun c_12 => ?_)
            · -- 91 to 98
              refine lv_aload_n hx hb dX7_up_98 rfl (lv_at hl 1 rfl) ?_
              refine lv_aload_n hx hb dX7_up_99 rfl (lv_at hl 1 rfl) ?_
              refine gf_7_16 hx hb hts hown hK hP 0 rfl rfl dX7_up_100 ?_
              refine lv_iload_n hx hb dX7_up_103 rfl (lv_at hl 0 rfl) ?_
              refine cl_7_152 (As := [.ref (q 2), .int (nI (exN bx (fun i => g (8 + i)) (bx 0)))]) (rest := []) hx hb hml hts hown (k_X7_hasSense hB hN.bd (by omega)) (by decide) ⟨Nat.zero_le _, Nat.zero_le _⟩ hK hP hD hS hA 0 rfl [0, 1, 2] rfl (by decide) rfl hl.1 rfl (Nat.le_of_ble_eq_true rfl) dX7_up_104 (fun r_13 u H locs hp_14 hP hD hS => ?_)
              obtain ⟨rfl, rfl⟩ := hp_14
              have hP : va_P D vwCl [mO h q zmu zmk zmz zms zma zmc, (q 0, .inl (cI, 54, .inl (fun z_ => nI (bx z_)))), (q 2, .inl (cI, 76, .inl (fun z_ => nI (nw z_)))), (q 9, .inl (cI, 76, .inl (fun z_ => nI (g z_))))] _ := hP
              have hD : va_D A [mO h q zmu zmk zmz zms zma zmc, (q 0, .inl (cI, 54, .inl (fun z_ => nI (bx z_)))), (q 2, .inl (cI, 76, .inl (fun z_ => nI (nw z_)))), (q 9, .inl (cI, 76, .inl (fun z_ => nI (g z_))))] := hD
              refine n_ifb_eq (tgt := 114) hx hb dX7_up_107 (by decide) (fun c_15 => ?_) (fun c_15 => ?_)
              · -- 107 to 114
                have hs_q : senN bx nw (ebN bx nw j) = false := by rw [← e9_q]; exact c_15
                refine lv_iconst (v := nI 0) hx hb dX7_up_114 (by decide) ?_
                refine hret hP hD hS dX7_up_115 rfl rfl ?_
                exact ⟨_, by simp [upA, ix_0, in01_0, in01_1, ix_1, c_3, c_6, c_9, c_12, c_15, hvj_q, hij_q, hvk_q, hik_q, hs_q, e9_q], rfl⟩
              · -- 107 to 110
                have hs_q : senN bx nw (ebN bx nw j) = true := by rw [← e9_q]; exact c_15
                refine lv_iconst (v := nI 1) hx hb dX7_up_110 (by decide) ?_
                refine lv_goto (tgt := 115) hx hb dX7_up_111 (by decide) ?_
                refine hret hP hD hS dX7_up_115 rfl rfl ?_
                exact ⟨_, by simp [upA, ix_0, in01_0, in01_1, ix_1, c_3, c_6, c_9, c_12, c_15, hvj_q, hij_q, hvk_q, hik_q, hs_q, e9_q], rfl⟩
            · -- 91 to 94
              refine lv_iload_n hx hb dX7_up_94 rfl (lv_at hl 0 rfl) ?_
              refine lv_goto (tgt := 115) hx hb dX7_up_95 (by decide) ?_
              refine hret hP hD hS dX7_up_115 rfl rfl ?_
              exact ⟨_, by simp [upA, ix_0, in01_0, in01_1, ix_1, c_3, c_6, c_9, c_12, hvj_q, hij_q, hvk_q, hik_q, e9_q], rfl⟩
          · -- 34 to 37
            refine lv_aload_n hx hb dX7_up_37 rfl (lv_at hl 1 rfl) ?_
            refine gf_7_37 hx hb hts hown hK hP 0 rfl rfl dX7_up_38 ?_
            refine lv_bipush (v := nI 8) hx hb dX7_up_41 (by decide) ?_
            refine lv_iload_n hx hb dX7_up_43 rfl (lv_at hl 0 rfl) ?_
            refine n_iadd hx hb dX7_up_44  ?_
            refine lv_aload_n hx hb dX7_up_45 rfl (lv_at hl 1 rfl) ?_
            refine gf_7_16 hx hb hts hown hK hP 0 rfl rfl dX7_up_46 ?_
            refine lv_bipush (v := nI 8) hx hb dX7_up_49 (by decide) ?_
            refine lv_iload_n hx hb dX7_up_51 rfl (lv_at hl 0 rfl) ?_
            refine n_iadd hx hb dX7_up_52  ?_
            refine n_iald hx hb hK hP 2 0 rfl rfl dX7_up_53 (by decide) (by omega) ?_
            have hb_16 := hN.bd (8 + i)
            refine lv_iload_n hx hb dX7_up_54 rfl (lv_at hl 2 rfl) ?_
            refine lv_aload_n hx hb dX7_up_55 rfl (lv_at hl 1 rfl) ?_
            refine gf_7_16 hx hb hts hown hK hP 0 rfl rfl dX7_up_56 ?_
            refine lv_iconst (v := nI 4) hx hb dX7_up_59 (by decide) ?_
            refine lv_iload_n hx hb dX7_up_60 rfl (lv_at hl 0 rfl) ?_
            refine n_iadd hx hb dX7_up_61  ?_
            refine n_iald hx hb hK hP 2 0 rfl rfl dX7_up_62 (by decide) (by omega) ?_
            have hb_17 := hN.bd (4 + i)
            refine n_imul hx hb dX7_up_63  ?_
            refine n_iadd hx hb dX7_up_64  ?_
            refine lv_aload_n hx hb dX7_up_65 rfl (lv_at hl 1 rfl) ?_
            refine gf_7_7 hx hb hts hown hK hP 0 rfl rfl dX7_up_66 ?_
            refine lv_iconst (v := nI 5) hx hb dX7_up_69 (by decide) ?_
            refine lv_iload_n hx hb dX7_up_70 rfl (lv_at hl 0 rfl) ?_
            refine n_iadd hx hb dX7_up_71  ?_
            refine n_iald hx hb hK hP 1 0 rfl rfl dX7_up_72 (by decide) (by omega) ?_
            have hb_18 := hB.bd (5 + i)
            have ht := hB.t i (by omega)
            have hgi := hG i (by omega)
            have hmul : j * nw (4 + i) ≤ 9999 * 6 := Nat.mul_le_mul hhj (by omega)
            refine n_irem hx hb dX7_up_73 (by omega) (by omega) (by omega) ?_
            refine n_iast hx hb hK hP hD hS 3 0 rfl rfl dX7_up_74 (by decide) (by omega) (fun H locs hP hD hS => ?_)
            have hP : va_P D vwCl [mO h q zmu zmk zmz zms zma zmc, (q 0, .inl (cI, 54, .inl (fun z_ => nI (bx z_)))), (q 2, .inl (cI, 76, .inl (fun z_ => nI (nw z_)))), (q 9, .inl (cI, 76, .inl (fun z_ => nI ((up1 g (8 + i) (((nw (8 + i)) + (j * (nw (4 + i)))) % (bx (5 + i)))) z_))))] _ := hP
            have hD : va_D A [mO h q zmu zmk zmz zms zma zmc, (q 0, .inl (cI, 54, .inl (fun z_ => nI (bx z_)))), (q 2, .inl (cI, 76, .inl (fun z_ => nI (nw z_)))), (q 9, .inl (cI, 76, .inl (fun z_ => nI ((up1 g (8 + i) (((nw (8 + i)) + (j * (nw (4 + i)))) % (bx (5 + i)))) z_))))] := hD
            refine lv_iinc (v := nI (i + 1)) (lv' := [(3, .int (nI (i + 1))), (0, .ref h), (1, .int (nI (j))), (2, .int (nI (k)))]) hx hb dX7_up_75 hl (k := 0) rfl (n_inc _ 1) (by decide) rfl (fun ls hl => ?_)
            refine lv_goto (tgt := 27) hx hb dX7_up_78 (by decide) ?_
            exact ih_27 (i + 1) (up1 g (8 + i) (((nw (8 + i)) + (j * (nw (4 + i)))) % (bx (5 + i)))) (by omega) (by rw [hg]; exact uq_s bx nw j i (by omega)) (by omega) _ _ hP hD hS _ (lv_sub hl [0, 1, 2, 3] rfl)
      exact loop_27 _ 0 nw (Nat.zero_le _) (uq_0 bx nw j).symm (Nat.lt_succ_self _) _ _ hP hD hS _ (lv_sub hl [0, 1, 2, 3] rfl)
    · -- 16 to 19
      have hvk_q := c_6
      refine lv_iconst (v := (-1)) hx hb dX7_up_19 (by decide) ?_
      refine hret hP hD hS dX7_up_20 rfl rfl ?_
      exact ⟨_, by simp [upA, c_3, c_6, hvj_q, hij_q, hvk_q], rfl⟩
set_option maxHeartbeats 4000000 in
set_option maxRecDepth 100000 in
theorem k_X7_ask {l : Launch} {D : va_G} {cI cC cB : ClassId} {h : Nat} {q : Nat → Nat} {zmu zmk zmz zms zma zmc : Nat} {bx sh : Nat → Nat} {x y : Int32} (hB : BxOk bx) (hsh : ∀ j, sh j < 100) (hs8 : zms ≤ 8) : MI l yX7_ask cX7_ask 8 (some .int) 3 D (Ty3 cI cC cB) [.ref h, .int (x), .int (y)] [mO h q zmu zmk zmz zms zma zmc, (q 0, .inl (cI, 54, .inl (fun z_ => nI (bx z_)))), (q 6, .inl (cI, 24, .inl (fun z_ => nI (sh z_))))] (fun r u => (r = asA bx sh zms x y ∧ u = [mO h q zmu zmk zmz zms zma zmc, (q 0, .inl (cI, 54, .inl (fun z_ => nI (bx z_)))), (q 6, .inl (cI, 24, .inl (fun z_ => nI (sh z_))))])) := by
  intro sz
  refine MI.walk (by decide +kernel) (Nat.le_of_ble_eq_true rfl) ?_
  intro p e s m args below meth c A Qf hx hb hml hts hown hret hK hP hD hS hA ls hl
  have hown : s.vm.findClass RX7 = some m.cls := hown
  have hl : lv_has ls 8 [(0, .ref h), (1, .int (x)), (2, .int (y))] := hl
  have hP : va_P D vwCl [mO h q zmu zmk zmz zms zma zmc, (q 0, .inl (cI, 54, .inl (fun z_ => nI (bx z_)))), (q 6, .inl (cI, 24, .inl (fun z_ => nI (sh z_))))] s.heap := hP
  have hD : va_D A [mO h q zmu zmk zmz zms zma zmc, (q 0, .inl (cI, 54, .inl (fun z_ => nI (bx z_)))), (q 6, .inl (cI, 24, .inl (fun z_ => nI (sh z_))))] := hD
  refine lv_aload_n hx hb dX7_ask_0 rfl (lv_at hl 0 rfl) ?_
  refine lv_iload_n hx hb dX7_ask_1 rfl (lv_at hl 1 rfl) ?_
  refine cl_7_127 (As := [.int (x)]) (rest := []) hx hb hml hts hown (k_X7_isWheel (by first | assumption | omega)) (by decide) ⟨Nat.zero_le _, Nat.zero_le _⟩ hK hP hD hS hA 0 rfl [0, 1] rfl (by decide) rfl hl.1 rfl (Nat.le_of_ble_eq_true rfl) dX7_ask_2 (fun r_1 u H locs hp_2 hP hD hS => ?_)
  obtain ⟨rfl, rfl⟩ := hp_2
  have hP : va_P D vwCl [mO h q zmu zmk zmz zms zma zmc, (q 0, .inl (cI, 54, .inl (fun z_ => nI (bx z_)))), (q 6, .inl (cI, 24, .inl (fun z_ => nI (sh z_))))] _ := hP
  have hD : va_D A [mO h q zmu zmk zmz zms zma zmc, (q 0, .inl (cI, 54, .inl (fun z_ => nI (bx z_)))), (q 6, .inl (cI, 24, .inl (fun z_ => nI (sh z_))))] := hD
  refine n_ifb_eq (tgt := 15) hx hb dX7_ask_5 (by decide) (fun c_3 => ?_) (fun c_3 => ?_)
  · -- 5 to 15
    refine lv_iconst (v := (-1)) hx hb dX7_ask_15 (by decide) ?_
    refine hret hP hD hS dX7_ask_16 rfl rfl ?_
    exact ⟨by simp [asA, c_3], rfl⟩
  · -- 5 to 8
    obtain ⟨j, hj, rfl⟩ := inN_e (by have := hB.bd 0; omega) c_3
    have hij_q : ix (nI j) = j := ix_n (by have := hB.bd 0; omega)
    refine lv_iload_n hx hb dX7_ask_8 rfl (lv_at hl 2 rfl) ?_
    refine cl_7_198 (As := [.int (y)]) (rest := []) hx hb hml hts hown (k_X7_isTwo ) (by decide) ⟨Nat.zero_le _, Nat.zero_le _⟩ hK hP hD hS hA [] rfl (by decide) rfl hl.1 rfl (Nat.le_of_ble_eq_true rfl) dX7_ask_9 (fun r_4 u H locs hp_5 hP hD hS => ?_)
    obtain ⟨rfl, rfl⟩ := hp_5
    have hP : va_P D vwCl [mO h q zmu zmk zmz zms zma zmc, (q 0, .inl (cI, 54, .inl (fun z_ => nI (bx z_)))), (q 6, .inl (cI, 24, .inl (fun z_ => nI (sh z_))))] _ := hP
    have hD : va_D A [mO h q zmu zmk zmz zms zma zmc, (q 0, .inl (cI, 54, .inl (fun z_ => nI (bx z_)))), (q 6, .inl (cI, 24, .inl (fun z_ => nI (sh z_))))] := hD
    refine n_ifb_ne (tgt := 17) hx hb dX7_ask_12 (by decide) (fun c_6 => ?_) (fun c_6 => ?_)
    · -- 12 to 17
      have hvk_q := c_6
      obtain ⟨k, hl2, hh2, rfl⟩ := inR_e (by omega) hvk_q
      have hik_q : ix (nI k) = k := ix_n (by omega)
      refine lv_aload_n hx hb dX7_ask_17 rfl (lv_at hl 0 rfl) ?_
      refine lv_iload_n hx hb dX7_ask_18 rfl (lv_at hl 1 rfl) ?_
      refine cl_7_240 (As := [.int (nI (j))]) (rest := []) hx hb hml hts hown (k_X7_gearsOf (by first | assumption | omega) (by first | assumption | omega) (by first | assumption | omega) (by first | assumption | omega)) (by decide) ⟨Nat.zero_le _, Nat.zero_le _⟩ hK hP hD hS hA 0 rfl [0, 1, 2] rfl (by decide) rfl hl.1 rfl (Nat.le_of_ble_eq_true rfl) dX7_ask_19 (fun r_7 u H locs hp_8 hP hD hS => ?_)
      obtain ⟨rfl, rfl⟩ := hp_8
      have hP : va_P D vwCl [mO h q zmu zmk zmz zms zma zmc, (q 0, .inl (cI, 54, .inl (fun z_ => nI (bx z_)))), (q 6, .inl (cI, 24, .inl (fun z_ => nI (sh z_))))] _ := hP
      have hD : va_D A [mO h q zmu zmk zmz zms zma zmc, (q 0, .inl (cI, 54, .inl (fun z_ => nI (bx z_)))), (q 6, .inl (cI, 24, .inl (fun z_ => nI (sh z_))))] := hD
      have hge_q := ge_lt bx sh j zms (bx (5 + j))
      have hw0_q := hB.t j hj
      have hgl_q : geN bx sh j zms (bx (5 + j)) < 64 := Nat.lt_of_lt_of_le hge_q (Nat.le_trans (Nat.pow_le_pow_right (by omega) hw0_q.2.1) (by decide))
      refine lv_istore_n (lv' := [(3, .int (nI (geN bx sh j zms (bx (5 + j))))), (0, .ref h), (1, .int (nI (j))), (2, .int (nI (k)))]) hx hb dX7_ask_22 rfl hl (by decide) rfl (fun ls hl => ?_)
      refine lv_iload_n hx hb dX7_ask_23 rfl (lv_at hl 0 rfl) ?_
      refine n_if_ne (tgt := 30) hx hb dX7_ask_24 (by decide) (by omega) (fun c_9 => ?_) (fun c_9 => ?_)
      · -- 24 to 30
        have hg0_q := c_9
        refine lv_iconst (v := nI 0) hx hb dX7_ask_30 (by decide) ?_
        refine lv_istore (lv' := [(4, .int (nI (0))), (3, .int (nI (geN bx sh j zms (bx (5 + j))))), (0, .ref h), (1, .int (nI (j))), (2, .int (nI (k)))]) hx hb dX7_ask_31 hl (by decide) rfl (fun ls hl => ?_)
        refine lv_ldc (v := nI 1000000) hx hb hown (hts _ tw_1065) dX7_ask_33 ?_
        refine lv_istore (lv' := [(5, .int (nI (1000000))), (4, .int (nI (0))), (3, .int (nI (geN bx sh j zms (bx (5 + j))))), (0, .ref h), (1, .int (nI (j))), (2, .int (nI (k)))]) hx hb dX7_ask_35 hl (by decide) rfl (fun ls hl => ?_)
        refine lv_iconst (v := nI 1) hx hb dX7_ask_37 (by decide) ?_
        refine lv_istore (lv' := [(6, .int (nI (1))), (5, .int (nI (1000000))), (4, .int (nI (0))), (3, .int (nI (geN bx sh j zms (bx (5 + j))))), (0, .ref h), (1, .int (nI (j))), (2, .int (nI (k)))]) hx hb dX7_ask_38 hl (by decide) rfl (fun ls hl => ?_)
        have loop_40 : ∀ (N : Nat) (u1 : Nat) (v1 : Nat) (n : Nat), (1 ≤ n) → (n ≤ 10) → (u1 ≤ 10) → (v1 ≤ 1000000) → ((u1, v1) = askN bx j (geN bx sh j zms (bx (5 + j))) (n - 1)) → (10 - n) < N → ∀ (H : Heap) (locs : List Loc), va_P D vwCl [mO h q zmu zmk zmz zms zma zmc, (q 0, .inl (cI, 54, .inl (fun z_ => nI (bx z_)))), (q 6, .inl (cI, 24, .inl (fun z_ => nI (sh z_))))] H → va_D A [mO h q zmu zmk zmz zms zma zmc, (q 0, .inl (cI, 54, .inl (fun z_ => nI (bx z_)))), (q 6, .inl (cI, 24, .inl (fun z_ => nI (sh z_))))] → va_S A s.heap H locs → ∀ ls : Array Slot, lv_has ls 8 [(6, .int (nI (n))), (5, .int (nI (v1))), (4, .int (nI (u1))), (3, .int (nI (geN bx sh j zms (bx (5 + j))))), (0, .ref h), (1, .int (nI (j))), (2, .int (nI (k)))] → W p l e (rmL 3) s m args below meth c H locs 0 0 Qf (F0 m 40 ls []) := by
          intro N; induction N with
          | zero => intro u1 v1 n _ _ _ _ _ hm; omega
          | succ N ih_40 =>
            intro u1 v1 n hn1 hn hu1 hv1 huv hm H locs hP hD hS ls hl
            refine lv_iload hx hb dX7_ask_40 (lv_at hl 0 rfl) ?_
            refine lv_bipush (v := nI 10) hx hb dX7_ask_42 (by decide) ?_
            refine n_icmp_ge (tgt := 95) hx hb dX7_ask_44 (by decide) (by omega) (by decide) (fun c_10 => ?_) (fun c_10 => ?_)
            · -- 44 to 95
              refine lv_iload_n hx hb dX7_ask_95 rfl (lv_at hl 6 rfl) ?_
              refine n_if_ne (tgt := 104) hx hb dX7_ask_96 (by decide) (by omega) (fun c_11 => ?_) (fun c_11 => ?_)
              · -- 96 to 104
                refine lv_iload hx hb dX7_ask_104 (lv_at hl 1 rfl) ?_
                refine hret hP hD hS dX7_ask_106 rfl rfl ?_
                exact ⟨by first | exact as_0 (by assumption) hvk_q hij_q hik_q (by assumption) hg0_q (by rw [show 9 = n - 1 by omega]; exact huv) | exact as_1 (by assumption) hvk_q hij_q hik_q (by assumption) hg0_q (by rw [show 9 = n - 1 by omega]; exact huv), rfl⟩
              · -- 96 to 99
                refine lv_iload hx hb dX7_ask_99 (lv_at hl 2 rfl) ?_
                refine lv_goto (tgt := 106) hx hb dX7_ask_101 (by decide) ?_
                refine hret hP hD hS dX7_ask_106 rfl rfl ?_
                exact ⟨by first | exact as_0 (by assumption) hvk_q hij_q hik_q (by assumption) hg0_q (by rw [show 9 = n - 1 by omega]; exact huv) | exact as_1 (by assumption) hvk_q hij_q hik_q (by assumption) hg0_q (by rw [show 9 = n - 1 by omega]; exact huv), rfl⟩
            · -- 44 to 47
              refine lv_aload_n hx hb dX7_ask_47 rfl (lv_at hl 4 rfl) ?_
              refine lv_iload_n hx hb dX7_ask_48 rfl (lv_at hl 5 rfl) ?_
              refine lv_iload_n hx hb dX7_ask_49 rfl (lv_at hl 3 rfl) ?_
              refine lv_iload hx hb dX7_ask_50 (lv_at hl 0 rfl) ?_
              refine cl_7_244 (As := [.int (nI (j)), .int (nI (geN bx sh j zms (bx (5 + j)))), .int (nI (n))]) (rest := []) hx hb hml hts hown (k_X7_worst hB hj hgl_q (by omega)) (by decide) ⟨Nat.zero_le _, Nat.zero_le _⟩ hK hP hD hS hA 0 rfl [0, 1] rfl (by decide) rfl hl.1 rfl (Nat.le_of_ble_eq_true rfl) dX7_ask_52 (fun r_12 u H locs hp_13 hP hD hS => ?_)
              obtain ⟨rfl, rfl⟩ := hp_13
              have hP : va_P D vwCl [mO h q zmu zmk zmz zms zma zmc, (q 0, .inl (cI, 54, .inl (fun z_ => nI (bx z_)))), (q 6, .inl (cI, 24, .inl (fun z_ => nI (sh z_))))] _ := hP
              have hD : va_D A [mO h q zmu zmk zmz zms zma zmc, (q 0, .inl (cI, 54, .inl (fun z_ => nI (bx z_)))), (q 6, .inl (cI, 24, .inl (fun z_ => nI (sh z_))))] := hD
              refine lv_istore (lv' := [(7, .int (nI (woN bx j (geN bx sh j zms (bx (5 + j))) n (bx (5 + j))))), (6, .int (nI (n))), (5, .int (nI (v1))), (4, .int (nI (u1))), (3, .int (nI (geN bx sh j zms (bx (5 + j))))), (0, .ref h), (1, .int (nI (j))), (2, .int (nI (k)))]) hx hb dX7_ask_55 hl (by decide) rfl (fun ls hl => ?_)
              have hwl_q := wo_le bx j (geN bx sh j zms (bx (5 + j))) n (bx (5 + j))
              refine lv_iload hx hb dX7_ask_57 (lv_at hl 0 rfl) ?_
              refine lv_iload hx hb dX7_ask_59 (lv_at hl 2 rfl) ?_
              refine n_icmp_ge (tgt := 69) hx hb dX7_ask_61 (by decide) (by omega) (by omega) (fun c_14 => ?_) (fun c_14 => ?_)
              · -- 61 to 69
                refine lv_iload hx hb dX7_ask_69 (lv_at hl 3 rfl) ?_
                refine lv_istore (lv' := [(4, .int (nI (u1))), (7, .int (nI (woN bx j (geN bx sh j zms (bx (5 + j))) n (bx (5 + j))))), (6, .int (nI (n))), (5, .int (nI (v1))), (3, .int (nI (geN bx sh j zms (bx (5 + j))))), (0, .ref h), (1, .int (nI (j))), (2, .int (nI (k)))]) hx hb dX7_ask_71 hl (by decide) rfl (fun ls hl => ?_)
                refine lv_iload hx hb dX7_ask_73 (lv_at hl 1 rfl) ?_
                refine lv_iload hx hb dX7_ask_75 (lv_at hl 3 rfl) ?_
                refine n_icmp_ge (tgt := 85) hx hb dX7_ask_77 (by decide) (by omega) (by omega) (fun c_15 => ?_) (fun c_15 => ?_)
                · -- 77 to 85
                  refine lv_iload hx hb dX7_ask_85 (lv_at hl 3 rfl) ?_
                  refine lv_istore (lv' := [(5, .int (nI (v1))), (4, .int (nI (u1))), (7, .int (nI (woN bx j (geN bx sh j zms (bx (5 + j))) n (bx (5 + j))))), (6, .int (nI (n))), (3, .int (nI (geN bx sh j zms (bx (5 + j))))), (0, .ref h), (1, .int (nI (j))), (2, .int (nI (k)))]) hx hb dX7_ask_87 hl (by decide) rfl (fun ls hl => ?_)
                  refine lv_iinc (v := nI (n + 1)) (lv' := [(6, .int (nI (n + 1))), (5, .int (nI (v1))), (4, .int (nI (u1))), (7, .int (nI (woN bx j (geN bx sh j zms (bx (5 + j))) n (bx (5 + j))))), (3, .int (nI (geN bx sh j zms (bx (5 + j))))), (0, .ref h), (1, .int (nI (j))), (2, .int (nI (k)))]) hx hb dX7_ask_89 hl (k := 3) rfl (n_inc _ 1) (by decide) rfl (fun ls hl => ?_)
                  refine lv_goto (tgt := 40) hx hb dX7_ask_92 (by decide) ?_
                  exact ih_40 u1 v1 (n + 1) (by omega) (by omega) (by omega) (by omega) (by first | exact ask_1 hn1 huv (by assumption) | exact ask_0 hn1 huv (by assumption)) (by omega) _ _ hP hD hS _ (lv_sub hl [0, 1, 2, 4, 5, 6, 7] rfl)
                · omega
              · -- 61 to 64
                refine lv_iload hx hb dX7_ask_64 (lv_at hl 1 rfl) ?_
                refine lv_goto (tgt := 71) hx hb dX7_ask_66 (by decide) ?_
                refine lv_istore (lv' := [(4, .int (nI (n))), (7, .int (nI (woN bx j (geN bx sh j zms (bx (5 + j))) n (bx (5 + j))))), (6, .int (nI (n))), (5, .int (nI (v1))), (3, .int (nI (geN bx sh j zms (bx (5 + j))))), (0, .ref h), (1, .int (nI (j))), (2, .int (nI (k)))]) hx hb dX7_ask_71 hl (by decide) rfl (fun ls hl => ?_)
                refine lv_iload hx hb dX7_ask_73 (lv_at hl 1 rfl) ?_
                refine lv_iload hx hb dX7_ask_75 (lv_at hl 3 rfl) ?_
                refine n_icmp_ge (tgt := 85) hx hb dX7_ask_77 (by decide) (by omega) (by omega) (fun c_16 => ?_) (fun c_16 => ?_)
                · omega
                · -- 77 to 80
                  refine lv_iload hx hb dX7_ask_80 (lv_at hl 1 rfl) ?_
                  refine lv_goto (tgt := 87) hx hb dX7_ask_82 (by decide) ?_
                  refine lv_istore (lv' := [(5, .int (nI (woN bx j (geN bx sh j zms (bx (5 + j))) n (bx (5 + j))))), (4, .int (nI (n))), (7, .int (nI (woN bx j (geN bx sh j zms (bx (5 + j))) n (bx (5 + j))))), (6, .int (nI (n))), (3, .int (nI (geN bx sh j zms (bx (5 + j))))), (0, .ref h), (1, .int (nI (j))), (2, .int (nI (k)))]) hx hb dX7_ask_87 hl (by decide) rfl (fun ls hl => ?_)
                  refine lv_iinc (v := nI (n + 1)) (lv' := [(6, .int (nI (n + 1))), (5, .int (nI (woN bx j (geN bx sh j zms (bx (5 + j))) n (bx (5 + j))))), (4, .int (nI (n))), (7, .int (nI (woN bx j (geN bx sh j zms (bx (5 + j))) n (bx (5 + j))))), (3, .int (nI (geN bx sh j zms (bx (5 + j))))), (0, .ref h), (1, .int (nI (j))), (2, .int (nI (k)))]) hx hb dX7_ask_89 hl (k := 3) rfl (n_inc _ 1) (by decide) rfl (fun ls hl => ?_)
                  refine lv_goto (tgt := 40) hx hb dX7_ask_92 (by decide) ?_
                  exact ih_40 n (woN bx j (geN bx sh j zms (bx (5 + j))) n (bx (5 + j))) (n + 1) (by omega) (by omega) (by omega) (by omega) (by first | exact ask_1 hn1 huv (by assumption) | exact ask_0 hn1 huv (by assumption)) (by omega) _ _ hP hD hS _ (lv_sub hl [0, 1, 2, 4, 5, 6, 7] rfl)
        exact loop_40 _ 0 1000000 1 (by omega) (by omega) (by omega) (by omega) rfl (Nat.lt_succ_self _) _ _ hP hD hS _ (lv_sub hl [0, 1, 2, 3, 4, 5, 6] rfl)
      · -- 24 to 27
        have hg0_q := c_9
        refine lv_bipush (v := (-4)) hx hb dX7_ask_27 (by decide) ?_
        refine hret hP hD hS dX7_ask_29 rfl rfl ?_
        exact ⟨by simp [asA, c_3, c_6, c_9, hij_q, hvk_q, hik_q, hg0_q], rfl⟩
    · -- 12 to 15
      have hvk_q := c_6
      refine lv_iconst (v := (-1)) hx hb dX7_ask_15 (by decide) ?_
      refine hret hP hD hS dX7_ask_16 rfl rfl ?_
      exact ⟨by simp [asA, c_3, c_6, hij_q, hvk_q], rfl⟩

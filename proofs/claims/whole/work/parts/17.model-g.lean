
def rwN (pa : Nat → Nat) (k : Nat) : Nat → Nat := fun j => pa (76 * k + j)
def tthOk (bx : Nat → Nat) (x y : Int32) : Bool := inN x (bx 0) && inN y (bx (5 + x.toNatClampNeg))
theorem tooth_e {bx : Nat → Nat} (hB : BxOk bx) {x y : Int32} (h : (inN x (bx 0) && inN y (bx (5 + x.toNatClampNeg))) = true) : ∃ j k, j < bx 0 ∧ k < bx (5 + j) ∧ x = nI j ∧ y = nI k := by
  rw [Bool.and_eq_true] at h
  obtain ⟨j, hj, rfl⟩ := inN_e (by have := hB.bd 0; omega) h.1
  have hw := hB.w
  rw [nI_clamp (by omega)] at h
  obtain ⟨k, hk, rfl⟩ := inN_e (by have := hB.bd (5 + j); omega) h.2
  exact ⟨j, k, hj, hk, rfl, rfl⟩
def fiOk (bx nw : Nat → Nat) (x y : Int32) : Bool := (inN x (bx 0) && inN y (bx (5 + x.toNatClampNeg))) && !Nat.testBit (nw (12 + ix x)) (ix y)
def fiA (bx nw : Nat → Nat) (x y : Int32) : Int32 := if (inN x (bx 0) && inN y (bx (5 + x.toNatClampNeg))) = true then (if Nat.testBit (nw (12 + ix x)) (ix y) = true then -2 else nI (pcN (nw (12 + ix x) ||| 1 * 2 ^ ix y))) else -1
def gaA (bx nw : Nat → Nat) (x y : Int32) : Int32 := if (inN x (bx 0) && inN y (bx (5 + x.toNatClampNeg))) = true then nI (nw (4 + ix x)) else -1
def shOk (bx : Nat → Nat) (z : Nat) (x v y : Int32) : Bool := (inN x (bx 0) && inN y (bx (5 + x.toNatClampNeg))) && inR v 0 99 && !decide (z = 8)
def shA (bx : Nat → Nat) (z : Nat) (x v y : Int32) : Int32 := if (inN x (bx 0) && inN y (bx (5 + x.toNatClampNeg))) = true then (if inR v 0 99 = true then (if z = 8 then -3 else nI (z + 1)) else -1) else -1
def giOk (bx nw : Nat → Nat) (x y : Int32) : Bool := inN x (bx 1) && inN y (bx 1) && !decide (ix x = ix y) && !decide (nw 2 = 12) && !decide (ftN bx nw (ix y) (szN bx (bx 0)) = 0)
def giA (bx nw : Nat → Nat) (x y : Int32) : Int32 := if inN x (bx 1) = true then (if inN y (bx 1) = true then (if ix x = ix y then -1 else if nw 2 = 12 then -3 else if ftN bx nw (ix y) (szN bx (bx 0)) = 0 then -4 else nI (exN bx (fun i => gsN bx nw (ix x) (ix y) (ftN bx nw (ix y) (szN bx (bx 0))) (8 + i)) (bx 0))) else -1) else -1

set_option maxHeartbeats 4000000 in
set_option maxRecDepth 100000 in
theorem k_X7_crank {l : Launch} {D : va_G} {cI cC cB : ClassId} {h : Nat} {q : Nat → Nat} {zmu zmk zmz zms zma zmc : Nat} {bx nw pa : Nat → Nat} (hB : BxOk bx) (hbd : ∀ j, nw j < 100000000) (hu : zmu ≤ 8) : MI l yX7_crank cX7_crank 1 (some .int) 2 D (Ty3 cI cC cB) [.ref h] [mO h q zmu zmk zmz zms zma zmc, (q 0, .inl (cI, 54, .inl (fun z_ => nI (bx z_)))), (q 2, .inl (cI, 76, .inl (fun z_ => nI (nw z_)))), (q 3, .inl (cI, 608, .inl (fun z_ => nI (pa z_))))] (fun r u => (r = nI (exN bx (fun i => (tuN bx nw) (8 + i)) (bx 0)) ∧ u = [mO h q (rmU zmu) zmk zmz zms zma zmc, (q 0, .inl (cI, 54, .inl (fun z_ => nI (bx z_)))), (q 2, .inl (cI, 76, .inl (fun z_ => nI ((tuN bx nw) z_)))), (q 3, .inl (cI, 608, .inl (fun z_ => nI ((rmP nw pa zmu) z_))))])) := by
  intro sz
  refine MI.walk (by decide +kernel) (Nat.le_of_ble_eq_true rfl) ?_
  intro p e s m args below meth c A Qf hx hb hml hts hown hret hK hP hD hS hA ls hl
  have hown : s.vm.findClass RX7 = some m.cls := hown
  have hl : lv_has ls 1 [(0, .ref h)] := hl
  have hP : va_P D vwCl [mO h q zmu zmk zmz zms zma zmc, (q 0, .inl (cI, 54, .inl (fun z_ => nI (bx z_)))), (q 2, .inl (cI, 76, .inl (fun z_ => nI (nw z_)))), (q 3, .inl (cI, 608, .inl (fun z_ => nI (pa z_))))] s.heap := hP
  have hD : va_D A [mO h q zmu zmk zmz zms zma zmc, (q 0, .inl (cI, 54, .inl (fun z_ => nI (bx z_)))), (q 2, .inl (cI, 76, .inl (fun z_ => nI (nw z_)))), (q 3, .inl (cI, 608, .inl (fun z_ => nI (pa z_))))] := hD
  refine lv_aload_n hx hb dX7_crank_0 rfl (lv_at hl 0 rfl) ?_
  refine cl_7_184 (As := []) (rest := []) hx hb hml hts hown (k_X7_remember (by first | assumption | omega)) (by decide) ⟨Nat.zero_le _, Nat.zero_le _⟩ hK hP hD hS hA 0 rfl [0, 2, 3] rfl (by decide) rfl hl.1 rfl (Nat.le_of_ble_eq_true rfl) dX7_crank_1 (fun  u H locs hp_1 hP hD hS => ?_)
  subst hp_1
  have hP : va_P D vwCl [mO h q (rmU zmu) zmk zmz zms zma zmc, (q 0, .inl (cI, 54, .inl (fun z_ => nI (bx z_)))), (q 2, .inl (cI, 76, .inl (fun z_ => nI (nw z_)))), (q 3, .inl (cI, 608, .inl (fun z_ => nI ((rmP nw pa zmu) z_))))] _ := hP
  have hD : va_D A [mO h q (rmU zmu) zmk zmz zms zma zmc, (q 0, .inl (cI, 54, .inl (fun z_ => nI (bx z_)))), (q 2, .inl (cI, 76, .inl (fun z_ => nI (nw z_)))), (q 3, .inl (cI, 608, .inl (fun z_ => nI ((rmP nw pa zmu) z_))))] := hD
  refine lv_aload_n hx hb dX7_crank_4 rfl (lv_at hl 0 rfl) ?_
  refine lv_aload_n hx hb dX7_crank_5 rfl (lv_at hl 0 rfl) ?_
  refine gf_7_16 hx hb hts hown hK hP 0 rfl rfl dX7_crank_6 ?_
  refine cl_7_144 (As := [.ref (q 2)]) (rest := []) hx hb hml hts hown (k_X7_turns (by first | assumption | omega) (by first | assumption | omega)) (by decide) ⟨Nat.zero_le _, Nat.zero_le _⟩ hK hP hD hS hA 0 rfl [0, 1, 2] rfl (by decide) rfl hl.1 rfl (Nat.le_of_ble_eq_true rfl) dX7_crank_9 (fun  u H locs hp_2 hP hD hS => ?_)
  subst hp_2
  have hP : va_P D vwCl [mO h q ((rmU zmu)) zmk zmz zms zma zmc, (q 0, .inl (cI, 54, .inl (fun z_ => nI (bx z_)))), (q 2, .inl (cI, 76, .inl (fun z_ => nI ((tuN bx nw) z_)))), (q 3, .inl (cI, 608, .inl (fun z_ => nI ((rmP nw pa zmu) z_))))] _ := hP
  have hD : va_D A [mO h q ((rmU zmu)) zmk zmz zms zma zmc, (q 0, .inl (cI, 54, .inl (fun z_ => nI (bx z_)))), (q 2, .inl (cI, 76, .inl (fun z_ => nI ((tuN bx nw) z_)))), (q 3, .inl (cI, 608, .inl (fun z_ => nI ((rmP nw pa zmu) z_))))] := hD
  refine lv_aload_n hx hb dX7_crank_12 rfl (lv_at hl 0 rfl) ?_
  refine lv_aload_n hx hb dX7_crank_13 rfl (lv_at hl 0 rfl) ?_
  refine gf_7_16 hx hb hts hown hK hP 0 rfl rfl dX7_crank_14 ?_
  refine cl_7_148 (As := [.ref (q 2)]) (rest := []) hx hb hml hts hown (k_X7_upOn (by first | assumption | omega)) (by decide) ⟨Nat.zero_le _, Nat.zero_le _⟩ hK hP hD hS hA 0 rfl [0, 1, 2] rfl (by decide) rfl hl.1 rfl (Nat.le_of_ble_eq_true rfl) dX7_crank_17 (fun r_3 u H locs hp_4 hP hD hS => ?_)
  obtain ⟨rfl, rfl⟩ := hp_4
  have hP : va_P D vwCl [mO h q (((rmU zmu))) zmk zmz zms zma zmc, (q 0, .inl (cI, 54, .inl (fun z_ => nI (bx z_)))), (q 2, .inl (cI, 76, .inl (fun z_ => nI ((tuN bx nw) z_)))), (q 3, .inl (cI, 608, .inl (fun z_ => nI ((rmP nw pa zmu) z_))))] _ := hP
  have hD : va_D A [mO h q (((rmU zmu))) zmk zmz zms zma zmc, (q 0, .inl (cI, 54, .inl (fun z_ => nI (bx z_)))), (q 2, .inl (cI, 76, .inl (fun z_ => nI ((tuN bx nw) z_)))), (q 3, .inl (cI, 608, .inl (fun z_ => nI ((rmP nw pa zmu) z_))))] := hD
  refine hret hP hD hS dX7_crank_20 rfl rfl ?_
  exact ⟨rfl, rfl⟩
set_option maxHeartbeats 4000000 in
set_option maxRecDepth 100000 in
theorem k_X7_day {l : Launch} {D : va_G} {cI cC cB : ClassId} {h : Nat} {q : Nat → Nat} {zmu zmk zmz zms zma zmc : Nat} {nw pa : Nat → Nat} (hbd : ∀ j, nw j < 100000000) (hu : zmu ≤ 8) : MI l yX7_day cX7_day 1 (some .int) 2 D (Ty3 cI cC cB) [.ref h] [mO h q zmu zmk zmz zms zma zmc, (q 2, .inl (cI, 76, .inl (fun z_ => nI (nw z_)))), (q 3, .inl (cI, 608, .inl (fun z_ => nI (pa z_))))] (fun r u => (r = nI (nw 0 + 1) ∧ u = [mO h q (rmU zmu) zmk zmz zms zma zmc, (q 2, .inl (cI, 76, .inl (fun z_ => nI ((up1 nw 0 (nw 0 + 1)) z_)))), (q 3, .inl (cI, 608, .inl (fun z_ => nI ((rmP nw pa zmu) z_))))])) := by
  intro sz
  refine MI.walk (by decide +kernel) (Nat.le_of_ble_eq_true rfl) ?_
  intro p e s m args below meth c A Qf hx hb hml hts hown hret hK hP hD hS hA ls hl
  have hown : s.vm.findClass RX7 = some m.cls := hown
  have hl : lv_has ls 1 [(0, .ref h)] := hl
  have hP : va_P D vwCl [mO h q zmu zmk zmz zms zma zmc, (q 2, .inl (cI, 76, .inl (fun z_ => nI (nw z_)))), (q 3, .inl (cI, 608, .inl (fun z_ => nI (pa z_))))] s.heap := hP
  have hD : va_D A [mO h q zmu zmk zmz zms zma zmc, (q 2, .inl (cI, 76, .inl (fun z_ => nI (nw z_)))), (q 3, .inl (cI, 608, .inl (fun z_ => nI (pa z_))))] := hD
  refine lv_aload_n hx hb dX7_day_0 rfl (lv_at hl 0 rfl) ?_
  refine cl_7_184 (As := []) (rest := []) hx hb hml hts hown (k_X7_remember (by first | assumption | omega)) (by decide) ⟨Nat.zero_le _, Nat.zero_le _⟩ hK hP hD hS hA 0 rfl [0, 1, 2] rfl (by decide) rfl hl.1 rfl (Nat.le_of_ble_eq_true rfl) dX7_day_1 (fun  u H locs hp_1 hP hD hS => ?_)
  subst hp_1
  have hP : va_P D vwCl [mO h q (rmU zmu) zmk zmz zms zma zmc, (q 2, .inl (cI, 76, .inl (fun z_ => nI (nw z_)))), (q 3, .inl (cI, 608, .inl (fun z_ => nI ((rmP nw pa zmu) z_))))] _ := hP
  have hD : va_D A [mO h q (rmU zmu) zmk zmz zms zma zmc, (q 2, .inl (cI, 76, .inl (fun z_ => nI (nw z_)))), (q 3, .inl (cI, 608, .inl (fun z_ => nI ((rmP nw pa zmu) z_))))] := hD
  refine lv_aload_n hx hb dX7_day_4 rfl (lv_at hl 0 rfl) ?_
  refine gf_7_16 hx hb hts hown hK hP 0 rfl rfl dX7_day_5 ?_
  refine lv_iconst (v := nI 0) hx hb dX7_day_8 (by decide) ?_
  refine lv_dup2_11 hx hb dX7_day_9 rfl rfl ?_
  refine n_iald hx hb hK hP 1 0 rfl rfl dX7_day_10 (by decide) (by omega) ?_
  have hb_2 := hbd 0
  refine lv_iconst (v := nI 1) hx hb dX7_day_11 (by decide) ?_
  refine n_iadd hx hb dX7_day_12  ?_
  refine n_iast hx hb hK hP hD hS 1 0 rfl rfl dX7_day_13 (by decide) (by omega) (fun H locs hP hD hS => ?_)
  have hP : va_P D vwCl [mO h q (rmU zmu) zmk zmz zms zma zmc, (q 2, .inl (cI, 76, .inl (fun z_ => nI ((up1 nw 0 ((nw 0) + 1)) z_)))), (q 3, .inl (cI, 608, .inl (fun z_ => nI ((rmP nw pa zmu) z_))))] _ := hP
  have hD : va_D A [mO h q (rmU zmu) zmk zmz zms zma zmc, (q 2, .inl (cI, 76, .inl (fun z_ => nI ((up1 nw 0 ((nw 0) + 1)) z_)))), (q 3, .inl (cI, 608, .inl (fun z_ => nI ((rmP nw pa zmu) z_))))] := hD
  refine lv_aload_n hx hb dX7_day_14 rfl (lv_at hl 0 rfl) ?_
  refine gf_7_16 hx hb hts hown hK hP 0 rfl rfl dX7_day_15 ?_
  refine lv_iconst (v := nI 0) hx hb dX7_day_18 (by decide) ?_
  refine n_iald hx hb hK hP 1 0 rfl rfl dX7_day_19 (by decide) (by omega) ?_
  refine hret hP hD hS dX7_day_20 rfl rfl ?_
  exact ⟨by rw [up1_s], rfl⟩
set_option maxHeartbeats 4000000 in
set_option maxRecDepth 100000 in
theorem k_X7_file {l : Launch} {D : va_G} {cI cC cB : ClassId} {h : Nat} {q : Nat → Nat} {zmu zmk zmz zms zma zmc : Nat} {bx nw pa : Nat → Nat} {x y : Int32} (hB : BxOk bx) (hbd : ∀ j, nw j < 100000000) (hu : zmu ≤ 8) (hF : ∀ i, i < bx 0 → nw (12 + i) < 64) : MI l yX7_file cX7_file 3 (some .int) 3 D (Ty3 cI cC cB) [.ref h, .int (x), .int (y)] [mO h q zmu zmk zmz zms zma zmc, (q 0, .inl (cI, 54, .inl (fun z_ => nI (bx z_)))), (q 2, .inl (cI, 76, .inl (fun z_ => nI (nw z_)))), (q 3, .inl (cI, 608, .inl (fun z_ => nI (pa z_))))] (fun r u => ((fiOk bx nw x y = false) ∧ r = fiA bx nw x y ∧ u = [mO h q zmu zmk zmz zms zma zmc, (q 0, .inl (cI, 54, .inl (fun z_ => nI (bx z_)))), (q 2, .inl (cI, 76, .inl (fun z_ => nI (nw z_)))), (q 3, .inl (cI, 608, .inl (fun z_ => nI (pa z_))))]) ∨ ((fiOk bx nw x y = true) ∧ r = fiA bx nw x y ∧ u = [mO h q (rmU zmu) zmk zmz zms zma zmc, (q 0, .inl (cI, 54, .inl (fun z_ => nI (bx z_)))), (q 2, .inl (cI, 76, .inl (fun z_ => nI ((up1 nw (12 + ix x) (nw (12 + ix x) ||| 1 * 2 ^ ix y)) z_)))), (q 3, .inl (cI, 608, .inl (fun z_ => nI ((rmP nw pa zmu) z_))))])) := by
  intro sz
  refine MI.walk (by decide +kernel) (Nat.le_of_ble_eq_true rfl) ?_
  intro p e s m args below meth c A Qf hx hb hml hts hown hret hK hP hD hS hA ls hl
  have hown : s.vm.findClass RX7 = some m.cls := hown
  have hl : lv_has ls 3 [(0, .ref h), (1, .int (x)), (2, .int (y))] := hl
  have hP : va_P D vwCl [mO h q zmu zmk zmz zms zma zmc, (q 0, .inl (cI, 54, .inl (fun z_ => nI (bx z_)))), (q 2, .inl (cI, 76, .inl (fun z_ => nI (nw z_)))), (q 3, .inl (cI, 608, .inl (fun z_ => nI (pa z_))))] s.heap := hP
  have hD : va_D A [mO h q zmu zmk zmz zms zma zmc, (q 0, .inl (cI, 54, .inl (fun z_ => nI (bx z_)))), (q 2, .inl (cI, 76, .inl (fun z_ => nI (nw z_)))), (q 3, .inl (cI, 608, .inl (fun z_ => nI (pa z_))))] := hD
  refine lv_aload_n hx hb dX7_file_0 rfl (lv_at hl 0 rfl) ?_
  refine lv_iload_n hx hb dX7_file_1 rfl (lv_at hl 1 rfl) ?_
  refine lv_iload_n hx hb dX7_file_2 rfl (lv_at hl 2 rfl) ?_
  refine cl_7_190 (As := [.int (x), .int (y)]) (rest := []) hx hb hml hts hown (k_X7_isTooth (by first | assumption | omega)) (by decide) ⟨Nat.zero_le _, Nat.zero_le _⟩ hK hP hD hS hA 0 rfl [0, 1] rfl (by decide) rfl hl.1 rfl (Nat.le_of_ble_eq_true rfl) dX7_file_3 (fun r_1 u H locs hp_2 hP hD hS => ?_)
  obtain ⟨rfl, rfl⟩ := hp_2
  have hP : va_P D vwCl [mO h q zmu zmk zmz zms zma zmc, (q 0, .inl (cI, 54, .inl (fun z_ => nI (bx z_)))), (q 2, .inl (cI, 76, .inl (fun z_ => nI (nw z_)))), (q 3, .inl (cI, 608, .inl (fun z_ => nI (pa z_))))] _ := hP
  have hD : va_D A [mO h q zmu zmk zmz zms zma zmc, (q 0, .inl (cI, 54, .inl (fun z_ => nI (bx z_)))), (q 2, .inl (cI, 76, .inl (fun z_ => nI (nw z_)))), (q 3, .inl (cI, 608, .inl (fun z_ => nI (pa z_))))] := hD
  refine n_ifb_ne (tgt := 11) hx hb dX7_file_6 (by decide) (fun c_3 => ?_) (fun c_3 => ?_)
  · -- 6 to 11
    obtain ⟨j, k, hj, hk, rfl, rfl⟩ := tooth_e hB c_3
    have hw_q := hB.w
    have htt_q := hB.t j hj
    have hij_q : ix (nI j) = j := ix_n (by omega)
    have hik_q : ix (nI k) = k := ix_n (by omega)
    refine lv_aload_n hx hb dX7_file_11 rfl (lv_at hl 0 rfl) ?_
    refine gf_7_16 hx hb hts hown hK hP 0 rfl rfl dX7_file_12 ?_
    refine lv_bipush (v := nI 12) hx hb dX7_file_15 (by decide) ?_
    refine lv_iload_n hx hb dX7_file_17 rfl (lv_at hl 1 rfl) ?_
    refine n_iadd hx hb dX7_file_18  ?_
    refine n_iald hx hb hK hP 2 0 rfl rfl dX7_file_19 (by decide) (by omega) ?_
    have hb_4 := hbd (12 + j)
    refine lv_iload_n hx hb dX7_file_20 rfl (lv_at hl 2 rfl) ?_
    refine cl_7_137 (As := [.int (nI (nw (12 + j))), .int (nI (k))]) (rest := []) hx hb hml hts hown (k_X7_has (by first | assumption | omega) (by first | assumption | omega)) (by decide) ⟨Nat.zero_le _, Nat.zero_le _⟩ hK hP hD hS hA [] rfl (by decide) rfl hl.1 rfl (Nat.le_of_ble_eq_true rfl) dX7_file_21 (fun r_5 u H locs hp_6 hP hD hS => ?_)
    obtain ⟨rfl, rfl⟩ := hp_6
    have hP : va_P D vwCl [mO h q zmu zmk zmz zms zma zmc, (q 0, .inl (cI, 54, .inl (fun z_ => nI (bx z_)))), (q 2, .inl (cI, 76, .inl (fun z_ => nI (nw z_)))), (q 3, .inl (cI, 608, .inl (fun z_ => nI (pa z_))))] _ := hP
    have hD : va_D A [mO h q zmu zmk zmz zms zma zmc, (q 0, .inl (cI, 54, .inl (fun z_ => nI (bx z_)))), (q 2, .inl (cI, 76, .inl (fun z_ => nI (nw z_)))), (q 3, .inl (cI, 608, .inl (fun z_ => nI (pa z_))))] := hD
    refine n_ifb_eq (tgt := 30) hx hb dX7_file_24 (by decide) (fun c_7 => ?_) (fun c_7 => ?_)
    · -- 24 to 30
      refine lv_aload_n hx hb dX7_file_30 rfl (lv_at hl 0 rfl) ?_
      refine cl_7_184 (As := []) (rest := []) hx hb hml hts hown (k_X7_remember (by first | assumption | omega)) (by decide) ⟨Nat.zero_le _, Nat.zero_le _⟩ hK hP hD hS hA 0 rfl [0, 2, 3] rfl (by decide) rfl hl.1 rfl (Nat.le_of_ble_eq_true rfl) dX7_file_31 (fun  u H locs hp_8 hP hD hS => ?_)
      subst hp_8
      have hP : va_P D vwCl [mO h q (rmU zmu) zmk zmz zms zma zmc, (q 0, .inl (cI, 54, .inl (fun z_ => nI (bx z_)))), (q 2, .inl (cI, 76, .inl (fun z_ => nI (nw z_)))), (q 3, .inl (cI, 608, .inl (fun z_ => nI ((rmP nw pa zmu) z_))))] _ := hP
      have hD : va_D A [mO h q (rmU zmu) zmk zmz zms zma zmc, (q 0, .inl (cI, 54, .inl (fun z_ => nI (bx z_)))), (q 2, .inl (cI, 76, .inl (fun z_ => nI (nw z_)))), (q 3, .inl (cI, 608, .inl (fun z_ => nI ((rmP nw pa zmu) z_))))] := hD
      refine lv_aload_n hx hb dX7_file_34 rfl (lv_at hl 0 rfl) ?_
      refine gf_7_16 hx hb hts hown hK hP 0 rfl rfl dX7_file_35 ?_
      refine lv_bipush (v := nI 12) hx hb dX7_file_38 (by decide) ?_
      refine lv_iload_n hx hb dX7_file_40 rfl (lv_at hl 1 rfl) ?_
      refine n_iadd hx hb dX7_file_41  ?_
      refine lv_dup2_11 hx hb dX7_file_42 rfl rfl ?_
      refine n_iald hx hb hK hP 2 0 rfl rfl dX7_file_43 (by decide) (by omega) ?_
      have hb_9 := hbd (12 + j)
      refine lv_iconst (v := nI 1) hx hb dX7_file_44 (by decide) ?_
      refine lv_iload_n hx hb dX7_file_45 rfl (lv_at hl 2 rfl) ?_
      refine n_ishl hx hb dX7_file_46 (by omega) ?_
      refine n_ior hx hb dX7_file_47  ?_
      refine n_iast hx hb hK hP hD hS 2 0 rfl rfl dX7_file_48 (by decide) (by omega) (fun H locs hP hD hS => ?_)
      have hP : va_P D vwCl [mO h q (rmU zmu) zmk zmz zms zma zmc, (q 0, .inl (cI, 54, .inl (fun z_ => nI (bx z_)))), (q 2, .inl (cI, 76, .inl (fun z_ => nI ((up1 nw (12 + j) ((nw (12 + j)) ||| (1 * 2 ^ k))) z_)))), (q 3, .inl (cI, 608, .inl (fun z_ => nI ((rmP nw pa zmu) z_))))] _ := hP
      have hD : va_D A [mO h q (rmU zmu) zmk zmz zms zma zmc, (q 0, .inl (cI, 54, .inl (fun z_ => nI (bx z_)))), (q 2, .inl (cI, 76, .inl (fun z_ => nI ((up1 nw (12 + j) ((nw (12 + j)) ||| (1 * 2 ^ k))) z_)))), (q 3, .inl (cI, 608, .inl (fun z_ => nI ((rmP nw pa zmu) z_))))] := hD
      refine lv_aload_n hx hb dX7_file_49 rfl (lv_at hl 0 rfl) ?_
      refine gf_7_16 hx hb hts hown hK hP 0 rfl rfl dX7_file_50 ?_
      refine lv_bipush (v := nI 12) hx hb dX7_file_53 (by decide) ?_
      refine lv_iload_n hx hb dX7_file_55 rfl (lv_at hl 1 rfl) ?_
      refine n_iadd hx hb dX7_file_56  ?_
      refine n_iald hx hb hK hP 2 0 rfl rfl dX7_file_57 (by decide) (by omega) ?_
      have hf64_q : nw (12 + j) ||| 1 * 2 ^ k < 64 := Nat.or_lt_two_pow (n := 6) (hF j hj) (by rw [Nat.one_mul]; exact Nat.pow_lt_pow_right (by omega) (by omega))
      have hup_q : up1 nw (12 + j) (nw (12 + j) ||| 1 * 2 ^ k) (12 + j) = nw (12 + j) ||| 1 * 2 ^ k := up1_s _ _ _
      refine cl_7_193 (As := [.int (nI ((up1 nw (12 + j) ((nw (12 + j)) ||| (1 * 2 ^ k))) (12 + j)))]) (rest := []) hx hb hml hts hown (k_X7_bits (by rw [hup_q]; omega)) (by decide) ⟨Nat.zero_le _, Nat.zero_le _⟩ hK hP hD hS hA [] rfl (by decide) rfl hl.1 rfl (Nat.le_of_ble_eq_true rfl) dX7_file_58 (fun r_10 u H locs hp_11 hP hD hS => ?_)
      obtain ⟨rfl, rfl⟩ := hp_11
      have hP : va_P D vwCl [mO h q (rmU zmu) zmk zmz zms zma zmc, (q 0, .inl (cI, 54, .inl (fun z_ => nI (bx z_)))), (q 2, .inl (cI, 76, .inl (fun z_ => nI ((up1 nw (12 + j) ((nw (12 + j)) ||| (1 * 2 ^ k))) z_)))), (q 3, .inl (cI, 608, .inl (fun z_ => nI ((rmP nw pa zmu) z_))))] _ := hP
      have hD : va_D A [mO h q (rmU zmu) zmk zmz zms zma zmc, (q 0, .inl (cI, 54, .inl (fun z_ => nI (bx z_)))), (q 2, .inl (cI, 76, .inl (fun z_ => nI ((up1 nw (12 + j) ((nw (12 + j)) ||| (1 * 2 ^ k))) z_)))), (q 3, .inl (cI, 608, .inl (fun z_ => nI ((rmP nw pa zmu) z_))))] := hD
      refine hret hP hD hS dX7_file_61 rfl rfl ?_
      exact Or.inr ⟨by simp [fiOk, fiA, c_3, c_7, hw_q, htt_q, hij_q, hik_q], by rw [hup_q]; simp [fiOk, fiA, c_3, c_7, hw_q, htt_q, hij_q, hik_q], by rw [hij_q, hik_q]⟩
    · -- 24 to 27
      refine lv_bipush (v := (-2)) hx hb dX7_file_27 (by decide) ?_
      refine hret hP hD hS dX7_file_29 rfl rfl ?_
      exact Or.inl ⟨by simp [fiOk, fiA, c_3, c_7, hw_q, htt_q, hij_q, hik_q], by simp [fiOk, fiA, c_3, c_7, hw_q, htt_q, hij_q, hik_q], rfl⟩
  · -- 6 to 9
    refine lv_iconst (v := (-1)) hx hb dX7_file_9 (by decide) ?_
    refine hret hP hD hS dX7_file_10 rfl rfl ?_
    exact Or.inl ⟨by simp [fiOk, fiA, c_3], by simp [fiOk, fiA, c_3], rfl⟩
set_option maxHeartbeats 4000000 in
set_option maxRecDepth 100000 in
theorem k_X7_gear {l : Launch} {D : va_G} {cI cC cB : ClassId} {h : Nat} {q : Nat → Nat} {zmu zmk zmz zms zma zmc : Nat} {bx nw pa : Nat → Nat} {x y : Int32} (hB : BxOk bx) (hbd : ∀ j, nw j < 100000000) (hu : zmu ≤ 8) : MI l yX7_gear cX7_gear 4 (some .int) 3 D (Ty3 cI cC cB) [.ref h, .int (x), .int (y)] [mO h q zmu zmk zmz zms zma zmc, (q 0, .inl (cI, 54, .inl (fun z_ => nI (bx z_)))), (q 2, .inl (cI, 76, .inl (fun z_ => nI (nw z_)))), (q 3, .inl (cI, 608, .inl (fun z_ => nI (pa z_))))] (fun r u => ((tthOk bx x y = false) ∧ r = gaA bx nw x y ∧ u = [mO h q zmu zmk zmz zms zma zmc, (q 0, .inl (cI, 54, .inl (fun z_ => nI (bx z_)))), (q 2, .inl (cI, 76, .inl (fun z_ => nI (nw z_)))), (q 3, .inl (cI, 608, .inl (fun z_ => nI (pa z_))))]) ∨ ((tthOk bx x y = true) ∧ r = gaA bx nw x y ∧ u = [mO h q (rmU zmu) zmk zmz zms zma zmc, (q 0, .inl (cI, 54, .inl (fun z_ => nI (bx z_)))), (q 2, .inl (cI, 76, .inl (fun z_ => nI ((up1 nw (4 + ix x) (ix y)) z_)))), (q 3, .inl (cI, 608, .inl (fun z_ => nI ((rmP nw pa zmu) z_))))])) := by
  intro sz
  refine MI.walk (by decide +kernel) (Nat.le_of_ble_eq_true rfl) ?_
  intro p e s m args below meth c A Qf hx hb hml hts hown hret hK hP hD hS hA ls hl
  have hown : s.vm.findClass RX7 = some m.cls := hown
  have hl : lv_has ls 4 [(0, .ref h), (1, .int (x)), (2, .int (y))] := hl
  have hP : va_P D vwCl [mO h q zmu zmk zmz zms zma zmc, (q 0, .inl (cI, 54, .inl (fun z_ => nI (bx z_)))), (q 2, .inl (cI, 76, .inl (fun z_ => nI (nw z_)))), (q 3, .inl (cI, 608, .inl (fun z_ => nI (pa z_))))] s.heap := hP
  have hD : va_D A [mO h q zmu zmk zmz zms zma zmc, (q 0, .inl (cI, 54, .inl (fun z_ => nI (bx z_)))), (q 2, .inl (cI, 76, .inl (fun z_ => nI (nw z_)))), (q 3, .inl (cI, 608, .inl (fun z_ => nI (pa z_))))] := hD
  refine lv_aload_n hx hb dX7_gear_0 rfl (lv_at hl 0 rfl) ?_
  refine lv_iload_n hx hb dX7_gear_1 rfl (lv_at hl 1 rfl) ?_
  refine lv_iload_n hx hb dX7_gear_2 rfl (lv_at hl 2 rfl) ?_
  refine cl_7_190 (As := [.int (x), .int (y)]) (rest := []) hx hb hml hts hown (k_X7_isTooth (by first | assumption | omega)) (by decide) ⟨Nat.zero_le _, Nat.zero_le _⟩ hK hP hD hS hA 0 rfl [0, 1] rfl (by decide) rfl hl.1 rfl (Nat.le_of_ble_eq_true rfl) dX7_gear_3 (fun r_1 u H locs hp_2 hP hD hS => ?_)
  obtain ⟨rfl, rfl⟩ := hp_2
  have hP : va_P D vwCl [mO h q zmu zmk zmz zms zma zmc, (q 0, .inl (cI, 54, .inl (fun z_ => nI (bx z_)))), (q 2, .inl (cI, 76, .inl (fun z_ => nI (nw z_)))), (q 3, .inl (cI, 608, .inl (fun z_ => nI (pa z_))))] _ := hP
  have hD : va_D A [mO h q zmu zmk zmz zms zma zmc, (q 0, .inl (cI, 54, .inl (fun z_ => nI (bx z_)))), (q 2, .inl (cI, 76, .inl (fun z_ => nI (nw z_)))), (q 3, .inl (cI, 608, .inl (fun z_ => nI (pa z_))))] := hD
  refine n_ifb_ne (tgt := 11) hx hb dX7_gear_6 (by decide) (fun c_3 => ?_) (fun c_3 => ?_)
  · -- 6 to 11
    obtain ⟨j, k, hj, hk, rfl, rfl⟩ := tooth_e hB c_3
    have hw_q := hB.w
    have htt_q := hB.t j hj
    have hij_q : ix (nI j) = j := ix_n (by omega)
    have hik_q : ix (nI k) = k := ix_n (by omega)
    refine lv_aload_n hx hb dX7_gear_11 rfl (lv_at hl 0 rfl) ?_
    refine cl_7_184 (As := []) (rest := []) hx hb hml hts hown (k_X7_remember (by first | assumption | omega)) (by decide) ⟨Nat.zero_le _, Nat.zero_le _⟩ hK hP hD hS hA 0 rfl [0, 2, 3] rfl (by decide) rfl hl.1 rfl (Nat.le_of_ble_eq_true rfl) dX7_gear_12 (fun  u H locs hp_4 hP hD hS => ?_)
    subst hp_4
    have hP : va_P D vwCl [mO h q (rmU zmu) zmk zmz zms zma zmc, (q 0, .inl (cI, 54, .inl (fun z_ => nI (bx z_)))), (q 2, .inl (cI, 76, .inl (fun z_ => nI (nw z_)))), (q 3, .inl (cI, 608, .inl (fun z_ => nI ((rmP nw pa zmu) z_))))] _ := hP
    have hD : va_D A [mO h q (rmU zmu) zmk zmz zms zma zmc, (q 0, .inl (cI, 54, .inl (fun z_ => nI (bx z_)))), (q 2, .inl (cI, 76, .inl (fun z_ => nI (nw z_)))), (q 3, .inl (cI, 608, .inl (fun z_ => nI ((rmP nw pa zmu) z_))))] := hD
    refine lv_aload_n hx hb dX7_gear_15 rfl (lv_at hl 0 rfl) ?_
    refine gf_7_16 hx hb hts hown hK hP 0 rfl rfl dX7_gear_16 ?_
    refine lv_iconst (v := nI 4) hx hb dX7_gear_19 (by decide) ?_
    refine lv_iload_n hx hb dX7_gear_20 rfl (lv_at hl 1 rfl) ?_
    refine n_iadd hx hb dX7_gear_21  ?_
    refine n_iald hx hb hK hP 2 0 rfl rfl dX7_gear_22 (by decide) (by omega) ?_
    have hb_5 := hbd (4 + j)
    refine lv_istore_n (lv' := [(3, .int (nI (nw (4 + j)))), (0, .ref h), (1, .int (nI (j))), (2, .int (nI (k)))]) hx hb dX7_gear_23 rfl hl (by decide) rfl (fun ls hl => ?_)
    refine lv_aload_n hx hb dX7_gear_24 rfl (lv_at hl 1 rfl) ?_
    refine gf_7_16 hx hb hts hown hK hP 0 rfl rfl dX7_gear_25 ?_
    refine lv_iconst (v := nI 4) hx hb dX7_gear_28 (by decide) ?_
    refine lv_iload_n hx hb dX7_gear_29 rfl (lv_at hl 2 rfl) ?_
    refine n_iadd hx hb dX7_gear_30  ?_
    refine lv_iload_n hx hb dX7_gear_31 rfl (lv_at hl 3 rfl) ?_
    refine n_iast hx hb hK hP hD hS 2 0 rfl rfl dX7_gear_32 (by decide) (by omega) (fun H locs hP hD hS => ?_)
    have hP : va_P D vwCl [mO h q (rmU zmu) zmk zmz zms zma zmc, (q 0, .inl (cI, 54, .inl (fun z_ => nI (bx z_)))), (q 2, .inl (cI, 76, .inl (fun z_ => nI ((up1 nw (4 + j) k) z_)))), (q 3, .inl (cI, 608, .inl (fun z_ => nI ((rmP nw pa zmu) z_))))] _ := hP
    have hD : va_D A [mO h q (rmU zmu) zmk zmz zms zma zmc, (q 0, .inl (cI, 54, .inl (fun z_ => nI (bx z_)))), (q 2, .inl (cI, 76, .inl (fun z_ => nI ((up1 nw (4 + j) k) z_)))), (q 3, .inl (cI, 608, .inl (fun z_ => nI ((rmP nw pa zmu) z_))))] := hD
    refine lv_iload_n hx hb dX7_gear_33 rfl (lv_at hl 0 rfl) ?_
    refine hret hP hD hS dX7_gear_34 rfl rfl ?_
    exact Or.inr ⟨by simp [tthOk, gaA, c_3, hw_q, htt_q, hij_q, hik_q], by simp [tthOk, gaA, c_3, hw_q, htt_q, hij_q, hik_q], by rw [hij_q, hik_q]⟩
  · -- 6 to 9
    refine lv_iconst (v := (-1)) hx hb dX7_gear_9 (by decide) ?_
    refine hret hP hD hS dX7_gear_10 rfl rfl ?_
    exact Or.inl ⟨by simp [tthOk, gaA, c_3], by simp [tthOk, gaA, c_3], rfl⟩
set_option maxHeartbeats 4000000 in
set_option maxRecDepth 100000 in
theorem k_X7_undo {l : Launch} {D : va_G} {cI cC cB : ClassId} {h : Nat} {q : Nat → Nat} {zmu zmk zmz zms zma zmc : Nat} {nw pa : Nat → Nat} (hu : zmu ≤ 8) : MI l yX7_undo cX7_undo 1 (some .int) 1 D (Ty3 cI cC cB) [.ref h] [mO h q zmu zmk zmz zms zma zmc, (q 2, .inl (cI, 76, .inl (fun z_ => nI (nw z_)))), (q 3, .inl (cI, 608, .inl (fun z_ => nI (pa z_))))] (fun r u => ((zmu = 0) ∧ r = (-2 : Int32) ∧ u = [mO h q zmu zmk zmz zms zma zmc, (q 2, .inl (cI, 76, .inl (fun z_ => nI (nw z_)))), (q 3, .inl (cI, 608, .inl (fun z_ => nI (pa z_))))]) ∨ ((zmu ≠ 0) ∧ r = nI (zmu - 1) ∧ u = [mO h q (zmu - 1) zmk zmz zms zma zmc, (q 2, .inl (cI, 76, .inl (fun z_ => nI ((rwN pa (zmu - 1)) z_)))), (q 3, .inl (cI, 608, .inl (fun z_ => nI (pa z_))))])) := by
  intro sz
  refine MI.walk (by decide +kernel) (Nat.le_of_ble_eq_true rfl) ?_
  intro p e s m args below meth c A Qf hx hb hml hts hown hret hK hP hD hS hA ls hl
  have hown : s.vm.findClass RX7 = some m.cls := hown
  have hl : lv_has ls 1 [(0, .ref h)] := hl
  have hP : va_P D vwCl [mO h q zmu zmk zmz zms zma zmc, (q 2, .inl (cI, 76, .inl (fun z_ => nI (nw z_)))), (q 3, .inl (cI, 608, .inl (fun z_ => nI (pa z_))))] s.heap := hP
  have hD : va_D A [mO h q zmu zmk zmz zms zma zmc, (q 2, .inl (cI, 76, .inl (fun z_ => nI (nw z_)))), (q 3, .inl (cI, 608, .inl (fun z_ => nI (pa z_))))] := hD
  refine lv_aload_n hx hb dX7_undo_0 rfl (lv_at hl 0 rfl) ?_
  refine gf_7_117 hx hb hts hown hK hP 0 rfl rfl dX7_undo_1 ?_
  refine n_if_ne (tgt := 10) hx hb dX7_undo_4 (by decide) (by omega) (fun c_1 => ?_) (fun c_1 => ?_)
  · -- 4 to 10
    refine lv_aload_n hx hb dX7_undo_10 rfl (lv_at hl 0 rfl) ?_
    refine lv_dup hx hb dX7_undo_11 rfl ?_
    refine gf_7_117 hx hb hts hown hK hP 0 rfl rfl dX7_undo_12 ?_
    refine lv_iconst (v := nI 1) hx hb dX7_undo_15 (by decide) ?_
    refine n_isub hx hb dX7_undo_16 (by omega) ?_
    refine pf_7_117 hx hb hts hown hK hP hD hS 0 rfl (Nat.le_of_ble_eq_true rfl) dX7_undo_17 (fun H locs hP hD hS => ?_)
    have hP : va_P D vwCl [mO h q (zmu - 1) zmk zmz zms zma zmc, (q 2, .inl (cI, 76, .inl (fun z_ => nI (nw z_)))), (q 3, .inl (cI, 608, .inl (fun z_ => nI (pa z_))))] _ := hP
    have hD : va_D A [mO h q (zmu - 1) zmk zmz zms zma zmc, (q 2, .inl (cI, 76, .inl (fun z_ => nI (nw z_)))), (q 3, .inl (cI, 608, .inl (fun z_ => nI (pa z_))))] := hD
    refine lv_aload_n hx hb dX7_undo_20 rfl (lv_at hl 0 rfl) ?_
    refine gf_7_19 hx hb hts hown hK hP 0 rfl rfl dX7_undo_21 ?_
    refine lv_bipush (v := nI 76) hx hb dX7_undo_24 (by decide) ?_
    refine lv_aload_n hx hb dX7_undo_26 rfl (lv_at hl 0 rfl) ?_
    refine gf_7_117 hx hb hts hown hK hP 0 rfl rfl dX7_undo_27 ?_
    refine n_imul hx hb dX7_undo_30  ?_
    refine lv_aload_n hx hb dX7_undo_31 rfl (lv_at hl 0 rfl) ?_
    refine gf_7_16 hx hb hts hown hK hP 0 rfl rfl dX7_undo_32 ?_
    refine lv_iconst (v := nI 0) hx hb dX7_undo_35 (by decide) ?_
    refine cl_7_180 (As := [.ref (q 3), .int (nI (76 * (zmu - 1))), .ref (q 2), .int (nI (0))]) (rest := []) hx hb hml hts hown (k_X7_copies (by first | assumption | omega) (by first | assumption | omega) (by first | assumption | omega) (by first | assumption | omega)) (by decide) ⟨Nat.zero_le _, Nat.zero_le _⟩ hK hP hD hS hA [2, 1] rfl (by decide) rfl hl.1 rfl (Nat.le_of_ble_eq_true rfl) dX7_undo_36 (fun  u H locs hp_2 hP hD hS => ?_)
    subst hp_2
    have hP : va_P D vwCl [mO h q (zmu - 1) zmk zmz zms zma zmc, (q 2, .inl (cI, 76, .inl (fun z_ => nI ((cpN pa (76 * (zmu - 1)) nw 0 76) z_)))), (q 3, .inl (cI, 608, .inl (fun z_ => nI (pa z_))))] _ := hP
    have hD : va_D A [mO h q (zmu - 1) zmk zmz zms zma zmc, (q 2, .inl (cI, 76, .inl (fun z_ => nI ((cpN pa (76 * (zmu - 1)) nw 0 76) z_)))), (q 3, .inl (cI, 608, .inl (fun z_ => nI (pa z_))))] := hD
    have hP := arr_eq (g := (rwN pa (zmu - 1))) hP 1 rfl (fun j hj => cp_row _ _ _ j hj)
    have hD := arr_eqD (g := (rwN pa (zmu - 1))) hD 1 rfl
    have hP : va_P D vwCl [mO h q (zmu - 1) zmk zmz zms zma zmc, (q 2, .inl (cI, 76, .inl (fun z_ => nI ((rwN pa (zmu - 1)) z_)))), (q 3, .inl (cI, 608, .inl (fun z_ => nI (pa z_))))] _ := hP
    have hD : va_D A [mO h q (zmu - 1) zmk zmz zms zma zmc, (q 2, .inl (cI, 76, .inl (fun z_ => nI ((rwN pa (zmu - 1)) z_)))), (q 3, .inl (cI, 608, .inl (fun z_ => nI (pa z_))))] := hD
    refine lv_aload_n hx hb dX7_undo_39 rfl (lv_at hl 0 rfl) ?_
    refine gf_7_117 hx hb hts hown hK hP 0 rfl rfl dX7_undo_40 ?_
    refine hret hP hD hS dX7_undo_43 rfl rfl ?_
    exact Or.inr ⟨by assumption, rfl, rfl⟩
  · -- 4 to 7
    refine lv_bipush (v := (-2)) hx hb dX7_undo_7 (by decide) ?_
    refine hret hP hD hS dX7_undo_9 rfl rfl ?_
    exact Or.inl ⟨by assumption, rfl, rfl⟩
set_option maxHeartbeats 4000000 in
set_option maxRecDepth 100000 in
theorem k_X7_keep {l : Launch} {D : va_G} {cI cC cB : ClassId} {h : Nat} {q : Nat → Nat} {zmu zmk zmz zms zma zmc : Nat} {nw ke : Nat → Nat} (hu : zmk ≤ 2) : MI l yX7_keep cX7_keep 1 (some .int) 1 D (Ty3 cI cC cB) [.ref h] [mO h q zmu zmk zmz zms zma zmc, (q 2, .inl (cI, 76, .inl (fun z_ => nI (nw z_)))), (q 4, .inl (cI, 152, .inl (fun z_ => nI (ke z_))))] (fun r u => ((zmk = 2) ∧ r = (-3 : Int32) ∧ u = [mO h q zmu zmk zmz zms zma zmc, (q 2, .inl (cI, 76, .inl (fun z_ => nI (nw z_)))), (q 4, .inl (cI, 152, .inl (fun z_ => nI (ke z_))))]) ∨ ((zmk ≠ 2) ∧ r = nI (zmk + 1) ∧ u = [mO h q zmu (zmk + 1) zmz zms zma zmc, (q 2, .inl (cI, 76, .inl (fun z_ => nI (nw z_)))), (q 4, .inl (cI, 152, .inl (fun z_ => nI ((cpN nw 0 ke (76 * zmk) 76) z_))))])) := by
  intro sz
  refine MI.walk (by decide +kernel) (Nat.le_of_ble_eq_true rfl) ?_
  intro p e s m args below meth c A Qf hx hb hml hts hown hret hK hP hD hS hA ls hl
  have hown : s.vm.findClass RX7 = some m.cls := hown
  have hl : lv_has ls 1 [(0, .ref h)] := hl
  have hP : va_P D vwCl [mO h q zmu zmk zmz zms zma zmc, (q 2, .inl (cI, 76, .inl (fun z_ => nI (nw z_)))), (q 4, .inl (cI, 152, .inl (fun z_ => nI (ke z_))))] s.heap := hP
  have hD : va_D A [mO h q zmu zmk zmz zms zma zmc, (q 2, .inl (cI, 76, .inl (fun z_ => nI (nw z_)))), (q 4, .inl (cI, 152, .inl (fun z_ => nI (ke z_))))] := hD
  refine lv_aload_n hx hb dX7_keep_0 rfl (lv_at hl 0 rfl) ?_
  refine gf_7_120 hx hb hts hown hK hP 0 rfl rfl dX7_keep_1 ?_
  refine lv_iconst (v := nI 2) hx hb dX7_keep_4 (by decide) ?_
  refine n_icmp_ne (tgt := 11) hx hb dX7_keep_5 (by decide) (by omega) (by decide) (fun c_1 => ?_) (fun c_1 => ?_)
  · -- 5 to 11
    refine lv_aload_n hx hb dX7_keep_11 rfl (lv_at hl 0 rfl) ?_
    refine gf_7_16 hx hb hts hown hK hP 0 rfl rfl dX7_keep_12 ?_
    refine lv_iconst (v := nI 0) hx hb dX7_keep_15 (by decide) ?_
    refine lv_aload_n hx hb dX7_keep_16 rfl (lv_at hl 0 rfl) ?_
    refine gf_7_22 hx hb hts hown hK hP 0 rfl rfl dX7_keep_17 ?_
    refine lv_bipush (v := nI 76) hx hb dX7_keep_20 (by decide) ?_
    refine lv_aload_n hx hb dX7_keep_22 rfl (lv_at hl 0 rfl) ?_
    refine gf_7_120 hx hb hts hown hK hP 0 rfl rfl dX7_keep_23 ?_
    refine n_imul hx hb dX7_keep_26  ?_
    refine cl_7_180 (As := [.ref (q 2), .int (nI (0)), .ref (q 4), .int (nI (76 * zmk))]) (rest := []) hx hb hml hts hown (k_X7_copies (by first | assumption | omega) (by first | assumption | omega) (by first | assumption | omega) (by first | assumption | omega)) (by decide) ⟨Nat.zero_le _, Nat.zero_le _⟩ hK hP hD hS hA [1, 2] rfl (by decide) rfl hl.1 rfl (Nat.le_of_ble_eq_true rfl) dX7_keep_27 (fun  u H locs hp_2 hP hD hS => ?_)
    subst hp_2
    have hP : va_P D vwCl [mO h q zmu zmk zmz zms zma zmc, (q 2, .inl (cI, 76, .inl (fun z_ => nI (nw z_)))), (q 4, .inl (cI, 152, .inl (fun z_ => nI ((cpN nw 0 ke (76 * zmk) 76) z_))))] _ := hP
    have hD : va_D A [mO h q zmu zmk zmz zms zma zmc, (q 2, .inl (cI, 76, .inl (fun z_ => nI (nw z_)))), (q 4, .inl (cI, 152, .inl (fun z_ => nI ((cpN nw 0 ke (76 * zmk) 76) z_))))] := hD
    refine lv_aload_n hx hb dX7_keep_30 rfl (lv_at hl 0 rfl) ?_
    refine lv_dup hx hb dX7_keep_31 rfl ?_
    refine gf_7_120 hx hb hts hown hK hP 0 rfl rfl dX7_keep_32 ?_
    refine lv_iconst (v := nI 1) hx hb dX7_keep_35 (by decide) ?_
    refine n_iadd hx hb dX7_keep_36  ?_
    refine pf_7_120 hx hb hts hown hK hP hD hS 0 rfl (Nat.le_of_ble_eq_true rfl) dX7_keep_37 (fun H locs hP hD hS => ?_)
    have hP : va_P D vwCl [mO h q zmu (zmk + 1) zmz zms zma zmc, (q 2, .inl (cI, 76, .inl (fun z_ => nI (nw z_)))), (q 4, .inl (cI, 152, .inl (fun z_ => nI ((cpN nw 0 ke (76 * zmk) 76) z_))))] _ := hP
    have hD : va_D A [mO h q zmu (zmk + 1) zmz zms zma zmc, (q 2, .inl (cI, 76, .inl (fun z_ => nI (nw z_)))), (q 4, .inl (cI, 152, .inl (fun z_ => nI ((cpN nw 0 ke (76 * zmk) 76) z_))))] := hD
    refine lv_aload_n hx hb dX7_keep_40 rfl (lv_at hl 0 rfl) ?_
    refine gf_7_120 hx hb hts hown hK hP 0 rfl rfl dX7_keep_41 ?_
    refine hret hP hD hS dX7_keep_44 rfl rfl ?_
    exact Or.inr ⟨by assumption, rfl, rfl⟩
  · -- 5 to 8
    refine lv_bipush (v := (-3)) hx hb dX7_keep_8 (by decide) ?_
    refine hret hP hD hS dX7_keep_10 rfl rfl ?_
    exact Or.inl ⟨by assumption, rfl, rfl⟩
set_option maxHeartbeats 4000000 in
set_option maxRecDepth 100000 in
theorem k_X7_back {l : Launch} {D : va_G} {cI cC cB : ClassId} {h : Nat} {q : Nat → Nat} {zmu zmk zmz zms zma zmc : Nat} {nw ke : Nat → Nat} (hu : zmk ≤ 2) : MI l yX7_back cX7_back 1 (some .int) 1 D (Ty3 cI cC cB) [.ref h] [mO h q zmu zmk zmz zms zma zmc, (q 2, .inl (cI, 76, .inl (fun z_ => nI (nw z_)))), (q 4, .inl (cI, 152, .inl (fun z_ => nI (ke z_))))] (fun r u => ((zmk = 0) ∧ r = (-2 : Int32) ∧ u = [mO h q zmu zmk zmz zms zma zmc, (q 2, .inl (cI, 76, .inl (fun z_ => nI (nw z_)))), (q 4, .inl (cI, 152, .inl (fun z_ => nI (ke z_))))]) ∨ ((zmk ≠ 0) ∧ r = nI (zmk - 1) ∧ u = [mO h q 0 (zmk - 1) zmz zms zma zmc, (q 2, .inl (cI, 76, .inl (fun z_ => nI ((rwN ke (zmk - 1)) z_)))), (q 4, .inl (cI, 152, .inl (fun z_ => nI (ke z_))))])) := by
  intro sz
  refine MI.walk (by decide +kernel) (Nat.le_of_ble_eq_true rfl) ?_
  intro p e s m args below meth c A Qf hx hb hml hts hown hret hK hP hD hS hA ls hl
  have hown : s.vm.findClass RX7 = some m.cls := hown
  have hl : lv_has ls 1 [(0, .ref h)] := hl
  have hP : va_P D vwCl [mO h q zmu zmk zmz zms zma zmc, (q 2, .inl (cI, 76, .inl (fun z_ => nI (nw z_)))), (q 4, .inl (cI, 152, .inl (fun z_ => nI (ke z_))))] s.heap := hP
  have hD : va_D A [mO h q zmu zmk zmz zms zma zmc, (q 2, .inl (cI, 76, .inl (fun z_ => nI (nw z_)))), (q 4, .inl (cI, 152, .inl (fun z_ => nI (ke z_))))] := hD
  refine lv_aload_n hx hb dX7_back_0 rfl (lv_at hl 0 rfl) ?_
  refine gf_7_120 hx hb hts hown hK hP 0 rfl rfl dX7_back_1 ?_
  refine n_if_ne (tgt := 10) hx hb dX7_back_4 (by decide) (by omega) (fun c_1 => ?_) (fun c_1 => ?_)
  · -- 4 to 10
    refine lv_aload_n hx hb dX7_back_10 rfl (lv_at hl 0 rfl) ?_
    refine lv_dup hx hb dX7_back_11 rfl ?_
    refine gf_7_120 hx hb hts hown hK hP 0 rfl rfl dX7_back_12 ?_
    refine lv_iconst (v := nI 1) hx hb dX7_back_15 (by decide) ?_
    refine n_isub hx hb dX7_back_16 (by omega) ?_
    refine pf_7_120 hx hb hts hown hK hP hD hS 0 rfl (Nat.le_of_ble_eq_true rfl) dX7_back_17 (fun H locs hP hD hS => ?_)
    have hP : va_P D vwCl [mO h q zmu (zmk - 1) zmz zms zma zmc, (q 2, .inl (cI, 76, .inl (fun z_ => nI (nw z_)))), (q 4, .inl (cI, 152, .inl (fun z_ => nI (ke z_))))] _ := hP
    have hD : va_D A [mO h q zmu (zmk - 1) zmz zms zma zmc, (q 2, .inl (cI, 76, .inl (fun z_ => nI (nw z_)))), (q 4, .inl (cI, 152, .inl (fun z_ => nI (ke z_))))] := hD
    refine lv_aload_n hx hb dX7_back_20 rfl (lv_at hl 0 rfl) ?_
    refine gf_7_22 hx hb hts hown hK hP 0 rfl rfl dX7_back_21 ?_
    refine lv_bipush (v := nI 76) hx hb dX7_back_24 (by decide) ?_
    refine lv_aload_n hx hb dX7_back_26 rfl (lv_at hl 0 rfl) ?_
    refine gf_7_120 hx hb hts hown hK hP 0 rfl rfl dX7_back_27 ?_
    refine n_imul hx hb dX7_back_30  ?_
    refine lv_aload_n hx hb dX7_back_31 rfl (lv_at hl 0 rfl) ?_
    refine gf_7_16 hx hb hts hown hK hP 0 rfl rfl dX7_back_32 ?_
    refine lv_iconst (v := nI 0) hx hb dX7_back_35 (by decide) ?_
    refine cl_7_180 (As := [.ref (q 4), .int (nI (76 * (zmk - 1))), .ref (q 2), .int (nI (0))]) (rest := []) hx hb hml hts hown (k_X7_copies (by first | assumption | omega) (by first | assumption | omega) (by first | assumption | omega) (by first | assumption | omega)) (by decide) ⟨Nat.zero_le _, Nat.zero_le _⟩ hK hP hD hS hA [2, 1] rfl (by decide) rfl hl.1 rfl (Nat.le_of_ble_eq_true rfl) dX7_back_36 (fun  u H locs hp_2 hP hD hS => ?_)
    subst hp_2
    have hP : va_P D vwCl [mO h q zmu (zmk - 1) zmz zms zma zmc, (q 2, .inl (cI, 76, .inl (fun z_ => nI ((cpN ke (76 * (zmk - 1)) nw 0 76) z_)))), (q 4, .inl (cI, 152, .inl (fun z_ => nI (ke z_))))] _ := hP
    have hD : va_D A [mO h q zmu (zmk - 1) zmz zms zma zmc, (q 2, .inl (cI, 76, .inl (fun z_ => nI ((cpN ke (76 * (zmk - 1)) nw 0 76) z_)))), (q 4, .inl (cI, 152, .inl (fun z_ => nI (ke z_))))] := hD
    have hP := arr_eq (g := (rwN ke (zmk - 1))) hP 1 rfl (fun j hj => cp_row _ _ _ j hj)
    have hD := arr_eqD (g := (rwN ke (zmk - 1))) hD 1 rfl
    have hP : va_P D vwCl [mO h q zmu (zmk - 1) zmz zms zma zmc, (q 2, .inl (cI, 76, .inl (fun z_ => nI ((rwN ke (zmk - 1)) z_)))), (q 4, .inl (cI, 152, .inl (fun z_ => nI (ke z_))))] _ := hP
    have hD : va_D A [mO h q zmu (zmk - 1) zmz zms zma zmc, (q 2, .inl (cI, 76, .inl (fun z_ => nI ((rwN ke (zmk - 1)) z_)))), (q 4, .inl (cI, 152, .inl (fun z_ => nI (ke z_))))] := hD
    refine lv_aload_n hx hb dX7_back_39 rfl (lv_at hl 0 rfl) ?_
    refine lv_iconst (v := nI 0) hx hb dX7_back_40 (by decide) ?_
    refine pf_7_117 hx hb hts hown hK hP hD hS 0 rfl (Nat.le_of_ble_eq_true rfl) dX7_back_41 (fun H locs hP hD hS => ?_)
    have hP : va_P D vwCl [mO h q 0 (zmk - 1) zmz zms zma zmc, (q 2, .inl (cI, 76, .inl (fun z_ => nI ((rwN ke (zmk - 1)) z_)))), (q 4, .inl (cI, 152, .inl (fun z_ => nI (ke z_))))] _ := hP
    have hD : va_D A [mO h q 0 (zmk - 1) zmz zms zma zmc, (q 2, .inl (cI, 76, .inl (fun z_ => nI ((rwN ke (zmk - 1)) z_)))), (q 4, .inl (cI, 152, .inl (fun z_ => nI (ke z_))))] := hD
    refine lv_aload_n hx hb dX7_back_44 rfl (lv_at hl 0 rfl) ?_
    refine gf_7_120 hx hb hts hown hK hP 0 rfl rfl dX7_back_45 ?_
    refine hret hP hD hS dX7_back_48 rfl rfl ?_
    exact Or.inr ⟨by assumption, rfl, rfl⟩
  · -- 4 to 7
    refine lv_bipush (v := (-2)) hx hb dX7_back_7 (by decide) ?_
    refine hret hP hD hS dX7_back_9 rfl rfl ?_
    exact Or.inl ⟨by assumption, rfl, rfl⟩
set_option maxHeartbeats 4000000 in
set_option maxRecDepth 100000 in
theorem k_X7_shown {l : Launch} {D : va_G} {cI cC cB : ClassId} {h : Nat} {q : Nat → Nat} {zmu zmk zmz zms zma zmc : Nat} {bx sh : Nat → Nat} {x v y : Int32} (hB : BxOk bx) (hsh : ∀ j, sh j < 100) (hs8 : zms ≤ 8) : MI l yX7_shown cX7_shown 4 (some .int) 3 D (Ty3 cI cC cB) [.ref h, .int (x), .int (v), .int (y)] [mO h q zmu zmk zmz zms zma zmc, (q 0, .inl (cI, 54, .inl (fun z_ => nI (bx z_)))), (q 6, .inl (cI, 24, .inl (fun z_ => nI (sh z_))))] (fun r u => ((shOk bx zms x v y = false) ∧ r = shA bx zms x v y ∧ u = [mO h q zmu zmk zmz zms zma zmc, (q 0, .inl (cI, 54, .inl (fun z_ => nI (bx z_)))), (q 6, .inl (cI, 24, .inl (fun z_ => nI (sh z_))))]) ∨ ((shOk bx zms x v y = true) ∧ r = shA bx zms x v y ∧ u = [mO h q zmu zmk zmz (zms + 1) zma zmc, (q 0, .inl (cI, 54, .inl (fun z_ => nI (bx z_)))), (q 6, .inl (cI, 24, .inl (fun z_ => nI ((up1 (up1 (up1 sh (3 * zms) (ix x)) (3 * zms + 1) (ix v)) (3 * zms + 2) (ix y)) z_))))])) := by
  intro sz
  refine MI.walk (by decide +kernel) (Nat.le_of_ble_eq_true rfl) ?_
  intro p e s m args below meth c A Qf hx hb hml hts hown hret hK hP hD hS hA ls hl
  have hown : s.vm.findClass RX7 = some m.cls := hown
  have hl : lv_has ls 4 [(0, .ref h), (1, .int (x)), (2, .int (v)), (3, .int (y))] := hl
  have hP : va_P D vwCl [mO h q zmu zmk zmz zms zma zmc, (q 0, .inl (cI, 54, .inl (fun z_ => nI (bx z_)))), (q 6, .inl (cI, 24, .inl (fun z_ => nI (sh z_))))] s.heap := hP
  have hD : va_D A [mO h q zmu zmk zmz zms zma zmc, (q 0, .inl (cI, 54, .inl (fun z_ => nI (bx z_)))), (q 6, .inl (cI, 24, .inl (fun z_ => nI (sh z_))))] := hD
  refine lv_aload_n hx hb dX7_shown_0 rfl (lv_at hl 0 rfl) ?_
  refine lv_iload_n hx hb dX7_shown_1 rfl (lv_at hl 1 rfl) ?_
  refine lv_iload_n hx hb dX7_shown_2 rfl (lv_at hl 3 rfl) ?_
  refine cl_7_190 (As := [.int (x), .int (y)]) (rest := []) hx hb hml hts hown (k_X7_isTooth (by first | assumption | omega)) (by decide) ⟨Nat.zero_le _, Nat.zero_le _⟩ hK hP hD hS hA 0 rfl [0, 1] rfl (by decide) rfl hl.1 rfl (Nat.le_of_ble_eq_true rfl) dX7_shown_3 (fun r_1 u H locs hp_2 hP hD hS => ?_)
  obtain ⟨rfl, rfl⟩ := hp_2
  have hP : va_P D vwCl [mO h q zmu zmk zmz zms zma zmc, (q 0, .inl (cI, 54, .inl (fun z_ => nI (bx z_)))), (q 6, .inl (cI, 24, .inl (fun z_ => nI (sh z_))))] _ := hP
  have hD : va_D A [mO h q zmu zmk zmz zms zma zmc, (q 0, .inl (cI, 54, .inl (fun z_ => nI (bx z_)))), (q 6, .inl (cI, 24, .inl (fun z_ => nI (sh z_))))] := hD
  refine n_ifb_eq (tgt := 21) hx hb dX7_shown_6 (by decide) (fun c_3 => ?_) (fun c_3 => ?_)
  · -- 6 to 21
    refine lv_iconst (v := (-1)) hx hb dX7_shown_21 (by decide) ?_
    refine hret hP hD hS dX7_shown_22 rfl rfl ?_
    exact Or.inl ⟨by simp [shOk, shA, tthOk, c_3], by simp [shOk, shA, tthOk, c_3], rfl⟩
  · -- 6 to 9
    obtain ⟨j, k, hj, hk, rfl, rfl⟩ := tooth_e hB c_3
    have hw_q := hB.w
    have htt_q := hB.t j hj
    have hij_q : ix (nI j) = j := ix_n (by omega)
    have hik_q : ix (nI k) = k := ix_n (by omega)
    refine lv_iload_n hx hb dX7_shown_9 rfl (lv_at hl 2 rfl) ?_
    refine lv_i2l (v := (v).toInt64) hx hb dX7_shown_10 rfl ?_
    refine lv_lconst (v := lN 0) hx hb dX7_shown_11 (by decide) ?_
    refine lv_ldc2 (v := lN 99) hx hb hown (hts _ tw_1044) dX7_shown_12 ?_
    refine cl_7_67 (As := [.long ((v).toInt64), .long (lN (0)), .long (lN (99))]) (rest := []) hx hb hml hts hown (k_X7_in ) (by decide) ⟨Nat.zero_le _, Nat.zero_le _⟩ hK hP hD hS hA [] rfl (by decide) rfl hl.1 rfl (Nat.le_of_ble_eq_true rfl) dX7_shown_15 (fun r_4 u H locs hp_5 hP hD hS => ?_)
    obtain ⟨rfl, rfl⟩ := hp_5
    have hP : va_P D vwCl [mO h q zmu zmk zmz zms zma zmc, (q 0, .inl (cI, 54, .inl (fun z_ => nI (bx z_)))), (q 6, .inl (cI, 24, .inl (fun z_ => nI (sh z_))))] _ := hP
    have hD : va_D A [mO h q zmu zmk zmz zms zma zmc, (q 0, .inl (cI, 54, .inl (fun z_ => nI (bx z_)))), (q 6, .inl (cI, 24, .inl (fun z_ => nI (sh z_))))] := hD
    refine n_ifb_ne (tgt := 23) hx hb dX7_shown_18 (by decide) (fun c_6 => ?_) (fun c_6 => ?_)
    · -- 18 to 23
      have hvn_q := (inR_l v 0 99 (by omega) (by omega)).trans c_6
      obtain ⟨n, hln, hhn, rfl⟩ := inR_e (by omega) hvn_q
      have hin_q : ix (nI n) = n := ix_n (by omega)
      refine lv_aload_n hx hb dX7_shown_23 rfl (lv_at hl 0 rfl) ?_
      refine gf_7_114 hx hb hts hown hK hP 0 rfl rfl dX7_shown_24 ?_
      refine lv_bipush (v := nI 8) hx hb dX7_shown_27 (by decide) ?_
      refine n_icmp_ne (tgt := 35) hx hb dX7_shown_29 (by decide) (by omega) (by decide) (fun c_7 => ?_) (fun c_7 => ?_)
      · -- 29 to 35
        refine lv_aload_n hx hb dX7_shown_35 rfl (lv_at hl 0 rfl) ?_
        refine gf_7_28 hx hb hts hown hK hP 0 rfl rfl dX7_shown_36 ?_
        refine lv_iconst (v := nI 3) hx hb dX7_shown_39 (by decide) ?_
        refine lv_aload_n hx hb dX7_shown_40 rfl (lv_at hl 0 rfl) ?_
        refine gf_7_114 hx hb hts hown hK hP 0 rfl rfl dX7_shown_41 ?_
        refine n_imul hx hb dX7_shown_44  ?_
        refine lv_iload_n hx hb dX7_shown_45 rfl (lv_at hl 1 rfl) ?_
        refine n_iast hx hb hK hP hD hS 2 0 rfl rfl dX7_shown_46 (by decide) (by omega) (fun H locs hP hD hS => ?_)
        have hP : va_P D vwCl [mO h q zmu zmk zmz zms zma zmc, (q 0, .inl (cI, 54, .inl (fun z_ => nI (bx z_)))), (q 6, .inl (cI, 24, .inl (fun z_ => nI ((up1 sh (3 * zms) j) z_))))] _ := hP
        have hD : va_D A [mO h q zmu zmk zmz zms zma zmc, (q 0, .inl (cI, 54, .inl (fun z_ => nI (bx z_)))), (q 6, .inl (cI, 24, .inl (fun z_ => nI ((up1 sh (3 * zms) j) z_))))] := hD
        refine lv_aload_n hx hb dX7_shown_47 rfl (lv_at hl 0 rfl) ?_
        refine gf_7_28 hx hb hts hown hK hP 0 rfl rfl dX7_shown_48 ?_
        refine lv_iconst (v := nI 3) hx hb dX7_shown_51 (by decide) ?_
        refine lv_aload_n hx hb dX7_shown_52 rfl (lv_at hl 0 rfl) ?_
        refine gf_7_114 hx hb hts hown hK hP 0 rfl rfl dX7_shown_53 ?_
        refine n_imul hx hb dX7_shown_56  ?_
        refine lv_iconst (v := nI 1) hx hb dX7_shown_57 (by decide) ?_
        refine n_iadd hx hb dX7_shown_58  ?_
        refine lv_iload_n hx hb dX7_shown_59 rfl (lv_at hl 2 rfl) ?_
        refine n_iast hx hb hK hP hD hS 2 0 rfl rfl dX7_shown_60 (by decide) (by omega) (fun H locs hP hD hS => ?_)
        have hP : va_P D vwCl [mO h q zmu zmk zmz zms zma zmc, (q 0, .inl (cI, 54, .inl (fun z_ => nI (bx z_)))), (q 6, .inl (cI, 24, .inl (fun z_ => nI ((up1 (up1 sh (3 * zms) j) ((3 * zms) + 1) n) z_))))] _ := hP
        have hD : va_D A [mO h q zmu zmk zmz zms zma zmc, (q 0, .inl (cI, 54, .inl (fun z_ => nI (bx z_)))), (q 6, .inl (cI, 24, .inl (fun z_ => nI ((up1 (up1 sh (3 * zms) j) ((3 * zms) + 1) n) z_))))] := hD
        refine lv_aload_n hx hb dX7_shown_61 rfl (lv_at hl 0 rfl) ?_
        refine gf_7_28 hx hb hts hown hK hP 0 rfl rfl dX7_shown_62 ?_
        refine lv_iconst (v := nI 3) hx hb dX7_shown_65 (by decide) ?_
        refine lv_aload_n hx hb dX7_shown_66 rfl (lv_at hl 0 rfl) ?_
        refine gf_7_114 hx hb hts hown hK hP 0 rfl rfl dX7_shown_67 ?_
        refine n_imul hx hb dX7_shown_70  ?_
        refine lv_iconst (v := nI 2) hx hb dX7_shown_71 (by decide) ?_
        refine n_iadd hx hb dX7_shown_72  ?_
        refine lv_iload_n hx hb dX7_shown_73 rfl (lv_at hl 3 rfl) ?_
        refine n_iast hx hb hK hP hD hS 2 0 rfl rfl dX7_shown_74 (by decide) (by omega) (fun H locs hP hD hS => ?_)
        have hP : va_P D vwCl [mO h q zmu zmk zmz zms zma zmc, (q 0, .inl (cI, 54, .inl (fun z_ => nI (bx z_)))), (q 6, .inl (cI, 24, .inl (fun z_ => nI ((up1 (up1 (up1 sh (3 * zms) j) ((3 * zms) + 1) n) ((3 * zms) + 2) k) z_))))] _ := hP
        have hD : va_D A [mO h q zmu zmk zmz zms zma zmc, (q 0, .inl (cI, 54, .inl (fun z_ => nI (bx z_)))), (q 6, .inl (cI, 24, .inl (fun z_ => nI ((up1 (up1 (up1 sh (3 * zms) j) ((3 * zms) + 1) n) ((3 * zms) + 2) k) z_))))] := hD
        refine lv_aload_n hx hb dX7_shown_75 rfl (lv_at hl 0 rfl) ?_
        refine lv_dup hx hb dX7_shown_76 rfl ?_
        refine gf_7_114 hx hb hts hown hK hP 0 rfl rfl dX7_shown_77 ?_
        refine lv_iconst (v := nI 1) hx hb dX7_shown_80 (by decide) ?_
        refine n_iadd hx hb dX7_shown_81  ?_
        refine pf_7_114 hx hb hts hown hK hP hD hS 0 rfl (Nat.le_of_ble_eq_true rfl) dX7_shown_82 (fun H locs hP hD hS => ?_)
        have hP : va_P D vwCl [mO h q zmu zmk zmz (zms + 1) zma zmc, (q 0, .inl (cI, 54, .inl (fun z_ => nI (bx z_)))), (q 6, .inl (cI, 24, .inl (fun z_ => nI ((up1 (up1 (up1 sh (3 * zms) j) ((3 * zms) + 1) n) ((3 * zms) + 2) k) z_))))] _ := hP
        have hD : va_D A [mO h q zmu zmk zmz (zms + 1) zma zmc, (q 0, .inl (cI, 54, .inl (fun z_ => nI (bx z_)))), (q 6, .inl (cI, 24, .inl (fun z_ => nI ((up1 (up1 (up1 sh (3 * zms) j) ((3 * zms) + 1) n) ((3 * zms) + 2) k) z_))))] := hD
        refine lv_aload_n hx hb dX7_shown_85 rfl (lv_at hl 0 rfl) ?_
        refine gf_7_114 hx hb hts hown hK hP 0 rfl rfl dX7_shown_86 ?_
        refine hret hP hD hS dX7_shown_89 rfl rfl ?_
        exact Or.inr ⟨by simp [shOk, shA, tthOk, c_3, c_6, c_7, hw_q, htt_q, hij_q, hik_q, hvn_q, hin_q], by simp [shOk, shA, tthOk, c_3, c_6, c_7, hw_q, htt_q, hij_q, hik_q, hvn_q, hin_q], by rw [hij_q, hik_q, hin_q]⟩
      · -- 29 to 32
        refine lv_bipush (v := (-3)) hx hb dX7_shown_32 (by decide) ?_
        refine hret hP hD hS dX7_shown_34 rfl rfl ?_
        exact Or.inl ⟨by simp [shOk, shA, tthOk, c_3, c_6, c_7, hw_q, htt_q, hij_q, hik_q, hvn_q, hin_q], by simp [shOk, shA, tthOk, c_3, c_6, c_7, hw_q, htt_q, hij_q, hik_q, hvn_q, hin_q], rfl⟩
    · -- 18 to 21
      have hvn_q := (inR_l v 0 99 (by omega) (by omega)).trans c_6
      refine lv_iconst (v := (-1)) hx hb dX7_shown_21 (by decide) ?_
      refine hret hP hD hS dX7_shown_22 rfl rfl ?_
      exact Or.inl ⟨by simp [shOk, shA, tthOk, c_3, c_6, hw_q, htt_q, hij_q, hik_q, hvn_q], by simp [shOk, shA, tthOk, c_3, c_6, hw_q, htt_q, hij_q, hik_q, hvn_q], rfl⟩
set_option maxHeartbeats 4000000 in
set_option maxRecDepth 100000 in
theorem k_X7_give {l : Launch} {D : va_G} {cI cC cB : ClassId} {h : Nat} {q : Nat → Nat} {zmu zmk zmz zms zma zmc : Nat} {bx nw pa f : Nat → Nat} {x y : Int32} (hB : BxOk bx) (hG : GoOk bx nw) (hN : HdOk bx nw) (hbl : BdOk nw) (hu : zmu ≤ 8) (hs3 : nw 2 = 12 → nw 64 ≤ nw 3) : MI l yX7_give cX7_give 3 (some .int) 4 D (Ty3 cI cC cB) [.ref h, .int (x), .int (y)] [mO h q zmu zmk zmz zms zma zmc, (q 0, .inl (cI, 54, .inl (fun z_ => nI (bx z_)))), (q 2, .inl (cI, 76, .inl (fun z_ => nI (nw z_)))), (q 3, .inl (cI, 608, .inl (fun z_ => nI (pa z_)))), (q 8, .inl (cI, 76, .inl (fun z_ => nI (f z_))))] (fun r u => (∃ f2 : Nat → Nat, (giOk bx nw x y = false) ∧ r = giA bx nw x y ∧ u = [mO h q zmu zmk zmz zms zma zmc, (q 0, .inl (cI, 54, .inl (fun z_ => nI (bx z_)))), (q 2, .inl (cI, 76, .inl (fun z_ => nI (nw z_)))), (q 3, .inl (cI, 608, .inl (fun z_ => nI (pa z_)))), (q 8, .inl (cI, 76, .inl (fun z_ => nI (f2 z_))))]) ∨ ((giOk bx nw x y = true) ∧ r = giA bx nw x y ∧ u = [mO h q (rmU zmu) zmk zmz zms zma zmc, (q 0, .inl (cI, 54, .inl (fun z_ => nI (bx z_)))), (q 2, .inl (cI, 76, .inl (fun z_ => nI ((gsN bx nw (ix x) (ix y) (ftN bx nw (ix y) (szN bx (bx 0)))) z_)))), (q 3, .inl (cI, 608, .inl (fun z_ => nI ((rmP nw pa zmu) z_)))), (q 8, .inl (cI, 76, .inl (fun z_ => nI ((gsN bx nw (ix x) (ix y) (ftN bx nw (ix y) (szN bx (bx 0)))) z_))))])) := by
  intro sz
  refine MI.walk (by decide +kernel) (Nat.le_of_ble_eq_true rfl) ?_
  intro p e s m args below meth c A Qf hx hb hml hts hown hret hK hP hD hS hA ls hl
  have hown : s.vm.findClass RX7 = some m.cls := hown
  have hl : lv_has ls 3 [(0, .ref h), (1, .int (x)), (2, .int (y))] := hl
  have hP : va_P D vwCl [mO h q zmu zmk zmz zms zma zmc, (q 0, .inl (cI, 54, .inl (fun z_ => nI (bx z_)))), (q 2, .inl (cI, 76, .inl (fun z_ => nI (nw z_)))), (q 3, .inl (cI, 608, .inl (fun z_ => nI (pa z_)))), (q 8, .inl (cI, 76, .inl (fun z_ => nI (f z_))))] s.heap := hP
  have hD : va_D A [mO h q zmu zmk zmz zms zma zmc, (q 0, .inl (cI, 54, .inl (fun z_ => nI (bx z_)))), (q 2, .inl (cI, 76, .inl (fun z_ => nI (nw z_)))), (q 3, .inl (cI, 608, .inl (fun z_ => nI (pa z_)))), (q 8, .inl (cI, 76, .inl (fun z_ => nI (f z_))))] := hD
  refine lv_aload_n hx hb dX7_give_0 rfl (lv_at hl 0 rfl) ?_
  refine lv_iload_n hx hb dX7_give_1 rfl (lv_at hl 1 rfl) ?_
  refine cl_7_169 (As := [.int (x)]) (rest := []) hx hb hml hts hown (k_X7_isPerson (by first | assumption | omega)) (by decide) ⟨Nat.zero_le _, Nat.zero_le _⟩ hK hP hD hS hA 0 rfl [0, 1] rfl (by decide) rfl hl.1 rfl (Nat.le_of_ble_eq_true rfl) dX7_give_2 (fun r_1 u H locs hp_2 hP hD hS => ?_)
  obtain ⟨rfl, rfl⟩ := hp_2
  have hP : va_P D vwCl [mO h q zmu zmk zmz zms zma zmc, (q 0, .inl (cI, 54, .inl (fun z_ => nI (bx z_)))), (q 2, .inl (cI, 76, .inl (fun z_ => nI (nw z_)))), (q 3, .inl (cI, 608, .inl (fun z_ => nI (pa z_)))), (q 8, .inl (cI, 76, .inl (fun z_ => nI (f z_))))] _ := hP
  have hD : va_D A [mO h q zmu zmk zmz zms zma zmc, (q 0, .inl (cI, 54, .inl (fun z_ => nI (bx z_)))), (q 2, .inl (cI, 76, .inl (fun z_ => nI (nw z_)))), (q 3, .inl (cI, 608, .inl (fun z_ => nI (pa z_)))), (q 8, .inl (cI, 76, .inl (fun z_ => nI (f z_))))] := hD
  refine n_ifb_eq (tgt := 21) hx hb dX7_give_5 (by decide) (fun c_3 => ?_) (fun c_3 => ?_)
  · -- 5 to 21
    refine lv_iconst (v := (-1)) hx hb dX7_give_21 (by decide) ?_
    refine hret hP hD hS dX7_give_22 rfl rfl ?_
    exact Or.inl ⟨_, by simp [giOk, giA, c_3], by simp [giOk, giA, c_3], rfl⟩
  · -- 5 to 8
    obtain ⟨j, hj, rfl⟩ := inN_e (by have := hB.bd 1; omega) c_3
    have hij_q : ix (nI j) = j := ix_n (by have := hB.bd 1; omega)
    refine lv_aload_n hx hb dX7_give_8 rfl (lv_at hl 0 rfl) ?_
    refine lv_iload_n hx hb dX7_give_9 rfl (lv_at hl 2 rfl) ?_
    refine cl_7_169 (As := [.int (y)]) (rest := []) hx hb hml hts hown (k_X7_isPerson (by first | assumption | omega)) (by decide) ⟨Nat.zero_le _, Nat.zero_le _⟩ hK hP hD hS hA 0 rfl [0, 1] rfl (by decide) rfl hl.1 rfl (Nat.le_of_ble_eq_true rfl) dX7_give_10 (fun r_4 u H locs hp_5 hP hD hS => ?_)
    obtain ⟨rfl, rfl⟩ := hp_5
    have hP : va_P D vwCl [mO h q zmu zmk zmz zms zma zmc, (q 0, .inl (cI, 54, .inl (fun z_ => nI (bx z_)))), (q 2, .inl (cI, 76, .inl (fun z_ => nI (nw z_)))), (q 3, .inl (cI, 608, .inl (fun z_ => nI (pa z_)))), (q 8, .inl (cI, 76, .inl (fun z_ => nI (f z_))))] _ := hP
    have hD : va_D A [mO h q zmu zmk zmz zms zma zmc, (q 0, .inl (cI, 54, .inl (fun z_ => nI (bx z_)))), (q 2, .inl (cI, 76, .inl (fun z_ => nI (nw z_)))), (q 3, .inl (cI, 608, .inl (fun z_ => nI (pa z_)))), (q 8, .inl (cI, 76, .inl (fun z_ => nI (f z_))))] := hD
    refine n_ifb_eq (tgt := 21) hx hb dX7_give_13 (by decide) (fun c_6 => ?_) (fun c_6 => ?_)
    · -- 13 to 21
      refine lv_iconst (v := (-1)) hx hb dX7_give_21 (by decide) ?_
      refine hret hP hD hS dX7_give_22 rfl rfl ?_
      exact Or.inl ⟨_, by simp [giOk, giA, c_3, c_6, hij_q], by simp [giOk, giA, c_3, c_6, hij_q], rfl⟩
    · -- 13 to 16
      obtain ⟨k, hk, rfl⟩ := inN_e (by have := hB.bd 1; omega) c_6
      have hik_q : ix (nI k) = k := ix_n (by have := hB.bd 1; omega)
      refine lv_iload_n hx hb dX7_give_16 rfl (lv_at hl 1 rfl) ?_
      refine lv_iload_n hx hb dX7_give_17 rfl (lv_at hl 2 rfl) ?_
      have hpn := hB.n
      refine n_icmp_ne (tgt := 23) hx hb dX7_give_18 (by decide) (by omega) (by omega) (fun c_7 => ?_) (fun c_7 => ?_)
      · -- 18 to 23
        refine lv_aload_n hx hb dX7_give_23 rfl (lv_at hl 0 rfl) ?_
        refine gf_7_16 hx hb hts hown hK hP 0 rfl rfl dX7_give_24 ?_
        refine lv_iconst (v := nI 2) hx hb dX7_give_27 (by decide) ?_
        refine n_iald hx hb hK hP 2 0 rfl rfl dX7_give_28 (by decide) (by omega) ?_
        have hb_8 := hN.bd 2
        refine lv_bipush (v := nI 12) hx hb dX7_give_29 (by decide) ?_
        refine n_icmp_ne (tgt := 37) hx hb dX7_give_31 (by decide) (by omega) (by decide) (fun c_9 => ?_) (fun c_9 => ?_)
        · -- 31 to 37
          refine lv_aload_n hx hb dX7_give_37 rfl (lv_at hl 0 rfl) ?_
          refine lv_aload_n hx hb dX7_give_38 rfl (lv_at hl 0 rfl) ?_
          refine gf_7_16 hx hb hts hown hK hP 0 rfl rfl dX7_give_39 ?_
          refine lv_iload_n hx hb dX7_give_42 rfl (lv_at hl 1 rfl) ?_
          refine lv_iload_n hx hb dX7_give_43 rfl (lv_at hl 2 rfl) ?_
          refine cl_7_187 (As := [.ref (q 2), .int (nI (j)), .int (nI (k))]) (rest := []) hx hb hml hts hown (k_X7_gives hB hG hN hbl hj hk hs3) (by decide) ⟨Nat.zero_le _, Nat.zero_le _⟩ hK hP hD hS hA 0 rfl [0, 1, 2, 4] rfl (by decide) rfl hl.1 rfl (Nat.le_of_ble_eq_true rfl) dX7_give_44 (fun r_10 u H locs hp_11 hP hD hS => ?_)
          rcases hp_11 with ⟨z_12, hq_13, rfl, rfl⟩ | ⟨hq_14, rfl, rfl⟩
          · -- case 0 of k_X7_gives
            have hP : va_P D vwCl [mO h q zmu zmk zmz zms zma zmc, (q 0, .inl (cI, 54, .inl (fun z_ => nI (bx z_)))), (q 2, .inl (cI, 76, .inl (fun z_ => nI (nw z_)))), (q 3, .inl (cI, 608, .inl (fun z_ => nI (pa z_)))), (q 8, .inl (cI, 76, .inl (fun z_ => nI (z_12 z_))))] _ := hP
            have hD : va_D A [mO h q zmu zmk zmz zms zma zmc, (q 0, .inl (cI, 54, .inl (fun z_ => nI (bx z_)))), (q 2, .inl (cI, 76, .inl (fun z_ => nI (nw z_)))), (q 3, .inl (cI, 608, .inl (fun z_ => nI (pa z_)))), (q 8, .inl (cI, 76, .inl (fun z_ => nI (z_12 z_))))] := hD
            refine n_if_ne (tgt := 53) hx hb dX7_give_47 (by decide) (by decide) (fun c_15 => ?_) (fun c_15 => ?_)
            · omega
            · -- 47 to 50
              refine lv_bipush (v := (-4)) hx hb dX7_give_50 (by decide) ?_
              refine hret hP hD hS dX7_give_52 rfl rfl ?_
              exact Or.inl ⟨_, by simp [giOk, giA, c_3, c_6, c_7, c_9, hq_13, c_15, hij_q, hik_q], by simp [giOk, giA, c_3, c_6, c_7, c_9, hq_13, c_15, hij_q, hik_q], rfl⟩
          · -- case 1 of k_X7_gives
            have hP : va_P D vwCl [mO h q zmu zmk zmz zms zma zmc, (q 0, .inl (cI, 54, .inl (fun z_ => nI (bx z_)))), (q 2, .inl (cI, 76, .inl (fun z_ => nI (nw z_)))), (q 3, .inl (cI, 608, .inl (fun z_ => nI (pa z_)))), (q 8, .inl (cI, 76, .inl (fun z_ => nI ((gsN bx nw j k (ftN bx nw k (szN bx (bx 0)))) z_))))] _ := hP
            have hD : va_D A [mO h q zmu zmk zmz zms zma zmc, (q 0, .inl (cI, 54, .inl (fun z_ => nI (bx z_)))), (q 2, .inl (cI, 76, .inl (fun z_ => nI (nw z_)))), (q 3, .inl (cI, 608, .inl (fun z_ => nI (pa z_)))), (q 8, .inl (cI, 76, .inl (fun z_ => nI ((gsN bx nw j k (ftN bx nw k (szN bx (bx 0)))) z_))))] := hD
            refine n_if_ne (tgt := 53) hx hb dX7_give_47 (by decide) (by decide) (fun c_16 => ?_) (fun c_16 => ?_)
            · -- 47 to 53
              refine lv_aload_n hx hb dX7_give_53 rfl (lv_at hl 0 rfl) ?_
              refine cl_7_184 (As := []) (rest := []) hx hb hml hts hown (k_X7_remember (by first | assumption | omega)) (by decide) ⟨Nat.zero_le _, Nat.zero_le _⟩ hK hP hD hS hA 0 rfl [0, 2, 3] rfl (by decide) rfl hl.1 rfl (Nat.le_of_ble_eq_true rfl) dX7_give_54 (fun  u H locs hp_17 hP hD hS => ?_)
              subst hp_17
              have hP : va_P D vwCl [mO h q (rmU zmu) zmk zmz zms zma zmc, (q 0, .inl (cI, 54, .inl (fun z_ => nI (bx z_)))), (q 2, .inl (cI, 76, .inl (fun z_ => nI (nw z_)))), (q 3, .inl (cI, 608, .inl (fun z_ => nI ((rmP nw pa zmu) z_)))), (q 8, .inl (cI, 76, .inl (fun z_ => nI ((gsN bx nw j k (ftN bx nw k (szN bx (bx 0)))) z_))))] _ := hP
              have hD : va_D A [mO h q (rmU zmu) zmk zmz zms zma zmc, (q 0, .inl (cI, 54, .inl (fun z_ => nI (bx z_)))), (q 2, .inl (cI, 76, .inl (fun z_ => nI (nw z_)))), (q 3, .inl (cI, 608, .inl (fun z_ => nI ((rmP nw pa zmu) z_)))), (q 8, .inl (cI, 76, .inl (fun z_ => nI ((gsN bx nw j k (ftN bx nw k (szN bx (bx 0)))) z_))))] := hD
              refine lv_aload_n hx hb dX7_give_57 rfl (lv_at hl 0 rfl) ?_
              refine gf_7_34 hx hb hts hown hK hP 0 rfl rfl dX7_give_58 ?_
              refine lv_iconst (v := nI 0) hx hb dX7_give_61 (by decide) ?_
              refine lv_aload_n hx hb dX7_give_62 rfl (lv_at hl 0 rfl) ?_
              refine gf_7_16 hx hb hts hown hK hP 0 rfl rfl dX7_give_63 ?_
              refine lv_iconst (v := nI 0) hx hb dX7_give_66 (by decide) ?_
              refine cl_7_180 (As := [.ref (q 8), .int (nI (0)), .ref (q 2), .int (nI (0))]) (rest := []) hx hb hml hts hown (k_X7_copies (by first | assumption | omega) (by first | assumption | omega) (by first | assumption | omega) (by first | assumption | omega)) (by decide) ⟨Nat.zero_le _, Nat.zero_le _⟩ hK hP hD hS hA [4, 2] rfl (by decide) rfl hl.1 rfl (Nat.le_of_ble_eq_true rfl) dX7_give_67 (fun  u H locs hp_18 hP hD hS => ?_)
              subst hp_18
              have hP : va_P D vwCl [mO h q (rmU zmu) zmk zmz zms zma zmc, (q 0, .inl (cI, 54, .inl (fun z_ => nI (bx z_)))), (q 2, .inl (cI, 76, .inl (fun z_ => nI ((cpN (gsN bx nw j k (ftN bx nw k (szN bx (bx 0)))) 0 nw 0 76) z_)))), (q 3, .inl (cI, 608, .inl (fun z_ => nI ((rmP nw pa zmu) z_)))), (q 8, .inl (cI, 76, .inl (fun z_ => nI ((gsN bx nw j k (ftN bx nw k (szN bx (bx 0)))) z_))))] _ := hP
              have hD : va_D A [mO h q (rmU zmu) zmk zmz zms zma zmc, (q 0, .inl (cI, 54, .inl (fun z_ => nI (bx z_)))), (q 2, .inl (cI, 76, .inl (fun z_ => nI ((cpN (gsN bx nw j k (ftN bx nw k (szN bx (bx 0)))) 0 nw 0 76) z_)))), (q 3, .inl (cI, 608, .inl (fun z_ => nI ((rmP nw pa zmu) z_)))), (q 8, .inl (cI, 76, .inl (fun z_ => nI ((gsN bx nw j k (ftN bx nw k (szN bx (bx 0)))) z_))))] := hD
              have hP := arr_eq (g := (gsN bx nw j k (ftN bx nw k (szN bx (bx 0))))) hP 2 rfl (fun z9 hz9 => cp_all _ _ z9 hz9)
              have hD := arr_eqD (g := (gsN bx nw j k (ftN bx nw k (szN bx (bx 0))))) hD 2 rfl
              have hP : va_P D vwCl [mO h q (rmU zmu) zmk zmz zms zma zmc, (q 0, .inl (cI, 54, .inl (fun z_ => nI (bx z_)))), (q 2, .inl (cI, 76, .inl (fun z_ => nI ((gsN bx nw j k (ftN bx nw k (szN bx (bx 0)))) z_)))), (q 3, .inl (cI, 608, .inl (fun z_ => nI ((rmP nw pa zmu) z_)))), (q 8, .inl (cI, 76, .inl (fun z_ => nI ((gsN bx nw j k (ftN bx nw k (szN bx (bx 0)))) z_))))] _ := hP
              have hD : va_D A [mO h q (rmU zmu) zmk zmz zms zma zmc, (q 0, .inl (cI, 54, .inl (fun z_ => nI (bx z_)))), (q 2, .inl (cI, 76, .inl (fun z_ => nI ((gsN bx nw j k (ftN bx nw k (szN bx (bx 0)))) z_)))), (q 3, .inl (cI, 608, .inl (fun z_ => nI ((rmP nw pa zmu) z_)))), (q 8, .inl (cI, 76, .inl (fun z_ => nI ((gsN bx nw j k (ftN bx nw k (szN bx (bx 0)))) z_))))] := hD
              refine lv_aload_n hx hb dX7_give_70 rfl (lv_at hl 0 rfl) ?_
              refine lv_aload_n hx hb dX7_give_71 rfl (lv_at hl 0 rfl) ?_
              refine gf_7_16 hx hb hts hown hK hP 0 rfl rfl dX7_give_72 ?_
              refine cl_7_148 (As := [.ref (q 2)]) (rest := []) hx hb hml hts hown (k_X7_upOn hB) (by decide) ⟨Nat.zero_le _, Nat.zero_le _⟩ hK hP hD hS hA 0 rfl [0, 1, 2] rfl (by decide) rfl hl.1 rfl (Nat.le_of_ble_eq_true rfl) dX7_give_75 (fun r_19 u H locs hp_20 hP hD hS => ?_)
              obtain ⟨rfl, rfl⟩ := hp_20
              have hP : va_P D vwCl [mO h q ((rmU zmu)) zmk zmz zms zma zmc, (q 0, .inl (cI, 54, .inl (fun z_ => nI (bx z_)))), (q 2, .inl (cI, 76, .inl (fun z_ => nI ((gsN bx nw j k (ftN bx nw k (szN bx (bx 0)))) z_)))), (q 3, .inl (cI, 608, .inl (fun z_ => nI ((rmP nw pa zmu) z_)))), (q 8, .inl (cI, 76, .inl (fun z_ => nI ((gsN bx nw j k (ftN bx nw k (szN bx (bx 0)))) z_))))] _ := hP
              have hD : va_D A [mO h q ((rmU zmu)) zmk zmz zms zma zmc, (q 0, .inl (cI, 54, .inl (fun z_ => nI (bx z_)))), (q 2, .inl (cI, 76, .inl (fun z_ => nI ((gsN bx nw j k (ftN bx nw k (szN bx (bx 0)))) z_)))), (q 3, .inl (cI, 608, .inl (fun z_ => nI ((rmP nw pa zmu) z_)))), (q 8, .inl (cI, 76, .inl (fun z_ => nI ((gsN bx nw j k (ftN bx nw k (szN bx (bx 0)))) z_))))] := hD
              refine hret hP hD hS dX7_give_78 rfl rfl ?_
              exact Or.inr ⟨by simp [giOk, giA, c_3, c_6, c_7, c_9, hq_14, c_16, hij_q, hik_q], by simp [giOk, giA, c_3, c_6, c_7, c_9, hq_14, c_16, hij_q, hik_q], by rw [hij_q, hik_q]⟩
            · omega
        · -- 31 to 34
          refine lv_bipush (v := (-3)) hx hb dX7_give_34 (by decide) ?_
          refine hret hP hD hS dX7_give_36 rfl rfl ?_
          exact Or.inl ⟨_, by simp [giOk, giA, c_3, c_6, c_7, c_9, hij_q, hik_q], by simp [giOk, giA, c_3, c_6, c_7, c_9, hij_q, hik_q], rfl⟩
      · -- 18 to 21
        refine lv_iconst (v := (-1)) hx hb dX7_give_21 (by decide) ?_
        refine hret hP hD hS dX7_give_22 rfl rfl ?_
        exact Or.inl ⟨_, by simp [giOk, giA, c_3, c_6, c_7, hij_q, hik_q], by simp [giOk, giA, c_3, c_6, c_7, hij_q, hik_q], rfl⟩

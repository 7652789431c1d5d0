
def whA (bx nw : Nat → Nat) (x y : Int32) : Int32 := if inN x (bx 0) = true then (if inR y 0 3 = true then (if ix y = 0 then nI (bx (5 + ix x)) else nI (nw (4 + 4 * (ix y - 1) + ix x))) else -1) else -1
theorem inR_003 : inR (nI 0) 0 3 = true := by decide
theorem ix_0 : ix (nI 0) = 0 := by decide
def heA (nw : Nat → Nat) (x y : Int32) : Int32 := if inN x (nw 2) = true then (if inR y 0 4 = true then nI (nw (16 + 12 * ix y + ix x)) else -1) else -1
def seA (bx nw : Nat → Nat) (x : Int32) : Int32 := if inN x (szN bx (bx 0)) = true then (if senN bx nw (ix x) = true then nI 1 else nI 0) else -1
def stA (bx nw : Nat → Nat) (x y : Int32) : Int32 := if inN x (szN bx (bx 0)) = true then (if inN y (bx 1) = true then (if staN bx nw (ix x) (ix y) (nw 2) = true then nI 1 else nI 0) else -1) else -1
/-- the first that is heard like the j-th, from the k-th on -/
def fsI (nw : Nat → Nat) (j : Nat) : Nat → Nat
  | 0 => 0
  | k + 1 => if fsI nw j k = k ∧ nw (16 + k) ≠ nw (16 + j) then k + 1 else fsI nw j k
def fsN (nw : Nat → Nat) (j k : Nat) : Nat := fsI nw j k
theorem fs_b1 {nw : Nat → Nat} {j k : Nat} (hk : k ≤ j) (h : nw (16 + k) ≠ nw (16 + j)) : k + 1 ≤ j := by
  by_cases he : k = j
  · subst he; exact absurd rfl h
  · omega
theorem fs_b2 {nw : Nat → Nat} {j k : Nat} (hv : fsN nw j k = k) (h : nw (16 + k) ≠ nw (16 + j)) : fsN nw j (k + 1) = k + 1 := by
  simp only [fsN, fsI] at hv ⊢; rw [if_pos ⟨hv, h⟩]
theorem fs_m2 {nw : Nat → Nat} {j k : Nat} (hv : fsN nw j k = k) (h : nw (16 + k) = nw (16 + j)) : ∀ n, k ≤ n → fsN nw j n = k
  | 0, hn => by rw [show k = 0 by omega] at hv ⊢; exact hv
  | n + 1, hn => by
    by_cases hq : k = n + 1
    · rw [← hq]; exact hv
    · have ih := fs_m2 hv h n (by omega)
      simp only [fsN, fsI] at ih ⊢
      rw [if_neg (by rintro ⟨h1, h2⟩; rw [ih] at h1; subst h1; exact h2 h), ih]
theorem fs_e {nw : Nat → Nat} {j k : Nat} (hk : k ≤ j) (hv : fsN nw j k = k) (h : nw (16 + k) = nw (16 + j)) : fsN nw j j = k := fs_m2 hv h j hk
def owA (nw : Nat → Nat) (x : Int32) : Int32 := if inN x (nw 2) = true then nI (nw (28 + fsN nw (ix x) (ix x))) else -1
def coA (bx nw : Nat → Nat) (zms zmu zmk zmz : Nat) (x : Int32) : Int32 :=
  if inR x 0 10 = true then nI (match ix x with | 0 => bx 0 | 1 => bx 1 | 2 => szN bx (bx 0) | 3 => nw 0 | 4 => nw 1 | 5 => nw 2 | 6 => nw 3 | 7 => zms | 8 => zmu | 9 => zmk | _ => zmz) else -1
theorem co_out {bx nw : Nat → Nat} {zms zmu zmk zmz : Nat} {x : Int32} (h : x.toInt < 0 ∨ (11 : Int) ≤ x.toInt) : coA bx nw zms zmu zmk zmz x = -1 := by
  have h1 : inR x 0 10 = false := by
    simp only [inR, decide_eq_false_iff_not]
    omega
  simp [coA, h1]
def cnB (P : Nat → Bool) : Nat → Nat
  | 0 => 0
  | k + 1 => cnB P k + b2n (P k)
theorem cn_1 {P : Nat → Bool} {k : Nat} (h : P k = true) : cnB P k + 1 = cnB P (k + 1) := by simp only [cnB, h]; rfl
theorem cn_0 {P : Nat → Bool} {k : Nat} (h : P k = false) : cnB P k + 0 = cnB P (k + 1) := by simp only [cnB, h]; rfl
theorem fr_1 {bx nw : Nat → Nat} {y n : Nat} (h1 : senN bx nw (ebN bx nw n) = true) (h2 : staN bx nw (ebN bx nw n) y (nw 2) = false) : frN bx nw y n = true := by simp [frN, h1, h2]
theorem fr_01 {bx nw : Nat → Nat} {y n : Nat} (h1 : senN bx nw (ebN bx nw n) = false) : frN bx nw y n = false := by simp [frN, h1]
theorem fr_02 {bx nw : Nat → Nat} {y n : Nat} (h2 : staN bx nw (ebN bx nw n) y (nw 2) = true) : frN bx nw y n = false := by simp [frN, h2]

set_option maxHeartbeats 4000000 in
set_option maxRecDepth 100000 in
theorem k_X7_wheel {l : Launch} {D : va_G} {cI cC cB : ClassId} {h : Nat} {q : Nat → Nat} {zmu zmk zmz zms zma zmc : Nat} {bx nw : Nat → Nat} {x y : Int32} (hB : BxOk bx) (hbd : ∀ j, nw j < 100000000) : MI l yX7_wheel cX7_wheel 3 (some .int) 2 D (Ty3 cI cC cB) [.ref h, .int (x), .int (y)] [mO h q zmu zmk zmz zms zma zmc, (q 0, .inl (cI, 54, .inl (fun z_ => nI (bx z_)))), (q 2, .inl (cI, 76, .inl (fun z_ => nI (nw z_))))] (fun r u => (r = whA bx nw x y ∧ u = [mO h q zmu zmk zmz zms zma zmc, (q 0, .inl (cI, 54, .inl (fun z_ => nI (bx z_)))), (q 2, .inl (cI, 76, .inl (fun z_ => nI (nw z_))))])) := by
  intro sz
  refine MI.walk (by decide +kernel) (Nat.le_of_ble_eq_true rfl) ?_
  intro p e s m args below meth c A Qf hx hb hml hts hown hret hK hP hD hS hA ls hl
  have hown : s.vm.findClass RX7 = some m.cls := hown
  have hl : lv_has ls 3 [(0, .ref h), (1, .int (x)), (2, .int (y))] := hl
  have hP : va_P D vwCl [mO h q zmu zmk zmz zms zma zmc, (q 0, .inl (cI, 54, .inl (fun z_ => nI (bx z_)))), (q 2, .inl (cI, 76, .inl (fun z_ => nI (nw z_))))] s.heap := hP
  have hD : va_D A [mO h q zmu zmk zmz zms zma zmc, (q 0, .inl (cI, 54, .inl (fun z_ => nI (bx z_)))), (q 2, .inl (cI, 76, .inl (fun z_ => nI (nw z_))))] := hD
  refine lv_aload_n hx hb dX7_wheel_0 rfl (lv_at hl 0 rfl) ?_
  refine lv_iload_n hx hb dX7_wheel_1 rfl (lv_at hl 1 rfl) ?_
  refine cl_7_127 (As := [.int (x)]) (rest := []) hx hb hml hts hown (k_X7_isWheel (by first | assumption | omega)) (by decide) ⟨Nat.zero_le _, Nat.zero_le _⟩ hK hP hD hS hA 0 rfl [0, 1] rfl (by decide) rfl hl.1 rfl (Nat.le_of_ble_eq_true rfl) dX7_wheel_2 (fun r_1 u H locs hp_2 hP hD hS => ?_)
  obtain ⟨rfl, rfl⟩ := hp_2
  have hP : va_P D vwCl [mO h q zmu zmk zmz zms zma zmc, (q 0, .inl (cI, 54, .inl (fun z_ => nI (bx z_)))), (q 2, .inl (cI, 76, .inl (fun z_ => nI (nw z_))))] _ := hP
  have hD : va_D A [mO h q zmu zmk zmz zms zma zmc, (q 0, .inl (cI, 54, .inl (fun z_ => nI (bx z_)))), (q 2, .inl (cI, 76, .inl (fun z_ => nI (nw z_))))] := hD
  refine n_ifb_eq (tgt := 20) hx hb dX7_wheel_5 (by decide) (fun c_3 => ?_) (fun c_3 => ?_)
  · -- 5 to 20
    refine lv_iconst (v := (-1)) hx hb dX7_wheel_20 (by decide) ?_
    refine hret hP hD hS dX7_wheel_21 rfl rfl ?_
    exact ⟨by simp [whA, c_3, inR_003, ix_0], rfl⟩
  · -- 5 to 8
    obtain ⟨j, hj, rfl⟩ := inN_e (by have := hB.bd 0; omega) c_3
    have hij_q : ix (nI j) = j := ix_n (by have := hB.bd 0; omega)
    refine lv_iload_n hx hb dX7_wheel_8 rfl (lv_at hl 2 rfl) ?_
    refine lv_i2l (v := (y).toInt64) hx hb dX7_wheel_9 rfl ?_
    refine lv_lconst (v := lN 0) hx hb dX7_wheel_10 (by decide) ?_
    refine lv_ldc2 (v := lN 3) hx hb hown (hts _ tw_863) dX7_wheel_11 ?_
    refine cl_7_67 (As := [.long ((y).toInt64), .long (lN (0)), .long (lN (3))]) (rest := []) hx hb hml hts hown (k_X7_in ) (by decide) ⟨Nat.zero_le _, Nat.zero_le _⟩ hK hP hD hS hA [] rfl (by decide) rfl hl.1 rfl (Nat.le_of_ble_eq_true rfl) dX7_wheel_14 (fun r_4 u H locs hp_5 hP hD hS => ?_)
    obtain ⟨rfl, rfl⟩ := hp_5
    have hP : va_P D vwCl [mO h q zmu zmk zmz zms zma zmc, (q 0, .inl (cI, 54, .inl (fun z_ => nI (bx z_)))), (q 2, .inl (cI, 76, .inl (fun z_ => nI (nw z_))))] _ := hP
    have hD : va_D A [mO h q zmu zmk zmz zms zma zmc, (q 0, .inl (cI, 54, .inl (fun z_ => nI (bx z_)))), (q 2, .inl (cI, 76, .inl (fun z_ => nI (nw z_))))] := hD
    refine n_ifb_ne (tgt := 22) hx hb dX7_wheel_17 (by decide) (fun c_6 => ?_) (fun c_6 => ?_)
    · -- 17 to 22
      have hvk_q := (inR_l y 0 3 (by omega) (by omega)).trans c_6
      obtain ⟨k, hlk, hhk, rfl⟩ := inR_e (by omega) hvk_q
      have hik_q : ix (nI k) = k := ix_n (by omega)
      have hw := hB.w
      refine lv_iload_n hx hb dX7_wheel_22 rfl (lv_at hl 2 rfl) ?_
      refine n_if_ne (tgt := 37) hx hb dX7_wheel_23 (by decide) (by omega) (fun c_7 => ?_) (fun c_7 => ?_)
      · -- 23 to 37
        refine lv_aload_n hx hb dX7_wheel_37 rfl (lv_at hl 0 rfl) ?_
        refine gf_7_16 hx hb hts hown hK hP 0 rfl rfl dX7_wheel_38 ?_
        refine lv_iconst (v := nI 4) hx hb dX7_wheel_41 (by decide) ?_
        refine lv_iconst (v := nI 4) hx hb dX7_wheel_42 (by decide) ?_
        refine lv_iload_n hx hb dX7_wheel_43 rfl (lv_at hl 2 rfl) ?_
        refine lv_iconst (v := nI 1) hx hb dX7_wheel_44 (by decide) ?_
        refine n_isub hx hb dX7_wheel_45 (by omega) ?_
        refine n_imul hx hb dX7_wheel_46  ?_
        refine n_iadd hx hb dX7_wheel_47  ?_
        refine lv_iload_n hx hb dX7_wheel_48 rfl (lv_at hl 1 rfl) ?_
        refine n_iadd hx hb dX7_wheel_49  ?_
        refine n_iald hx hb hK hP 2 0 rfl rfl dX7_wheel_50 (by decide) (by omega) ?_
        have hb_8 := hbd ((4 + (4 * (k - 1))) + j)
        refine hret hP hD hS dX7_wheel_51 rfl rfl ?_
        exact ⟨by simp [whA, c_3, c_6, c_7, hij_q, hvk_q, hik_q, inR_003, ix_0], rfl⟩
      · -- 23 to 26
        refine lv_aload_n hx hb dX7_wheel_26 rfl (lv_at hl 0 rfl) ?_
        refine gf_7_7 hx hb hts hown hK hP 0 rfl rfl dX7_wheel_27 ?_
        refine lv_iconst (v := nI 5) hx hb dX7_wheel_30 (by decide) ?_
        refine lv_iload_n hx hb dX7_wheel_31 rfl (lv_at hl 1 rfl) ?_
        refine n_iadd hx hb dX7_wheel_32  ?_
        refine n_iald hx hb hK hP 1 0 rfl rfl dX7_wheel_33 (by decide) (by omega) ?_
        have hb_9 := hB.bd (5 + j)
        refine lv_goto (tgt := 51) hx hb dX7_wheel_34 (by decide) ?_
        refine hret hP hD hS dX7_wheel_51 rfl rfl ?_
        exact ⟨by simp [whA, c_3, c_6, c_7, hij_q, hvk_q, hik_q, inR_003, ix_0], rfl⟩
    · -- 17 to 20
      have hvk_q := (inR_l y 0 3 (by omega) (by omega)).trans c_6
      refine lv_iconst (v := (-1)) hx hb dX7_wheel_20 (by decide) ?_
      refine hret hP hD hS dX7_wheel_21 rfl rfl ?_
      exact ⟨by simp [whA, c_3, c_6, hij_q, hvk_q, inR_003, ix_0], rfl⟩
set_option maxHeartbeats 4000000 in
set_option maxRecDepth 100000 in
theorem k_X7_heard {l : Launch} {D : va_G} {cI cC cB : ClassId} {h : Nat} {q : Nat → Nat} {zmu zmk zmz zms zma zmc : Nat} {nw : Nat → Nat} {x y : Int32} (hbd : ∀ j, nw j < 100000000) (h12 : nw 2 ≤ 12) : MI l yX7_heard cX7_heard 3 (some .int) 2 D (Ty3 cI cC cB) [.ref h, .int (x), .int (y)] [mO h q zmu zmk zmz zms zma zmc, (q 2, .inl (cI, 76, .inl (fun z_ => nI (nw z_))))] (fun r u => (r = heA nw x y ∧ u = [mO h q zmu zmk zmz zms zma zmc, (q 2, .inl (cI, 76, .inl (fun z_ => nI (nw z_))))])) := by
  intro sz
  refine MI.walk (by decide +kernel) (Nat.le_of_ble_eq_true rfl) ?_
  intro p e s m args below meth c A Qf hx hb hml hts hown hret hK hP hD hS hA ls hl
  have hown : s.vm.findClass RX7 = some m.cls := hown
  have hl : lv_has ls 3 [(0, .ref h), (1, .int (x)), (2, .int (y))] := hl
  have hP : va_P D vwCl [mO h q zmu zmk zmz zms zma zmc, (q 2, .inl (cI, 76, .inl (fun z_ => nI (nw z_))))] s.heap := hP
  have hD : va_D A [mO h q zmu zmk zmz zms zma zmc, (q 2, .inl (cI, 76, .inl (fun z_ => nI (nw z_))))] := hD
  refine lv_aload_n hx hb dX7_heard_0 rfl (lv_at hl 0 rfl) ?_
  refine lv_iload_n hx hb dX7_heard_1 rfl (lv_at hl 1 rfl) ?_
  refine cl_7_172 (As := [.int (x)]) (rest := []) hx hb hml hts hown (k_X7_isHeard (by first | assumption | omega)) (by decide) ⟨Nat.zero_le _, Nat.zero_le _⟩ hK hP hD hS hA 0 rfl [0, 1] rfl (by decide) rfl hl.1 rfl (Nat.le_of_ble_eq_true rfl) dX7_heard_2 (fun r_1 u H locs hp_2 hP hD hS => ?_)
  obtain ⟨rfl, rfl⟩ := hp_2
  have hP : va_P D vwCl [mO h q zmu zmk zmz zms zma zmc, (q 2, .inl (cI, 76, .inl (fun z_ => nI (nw z_))))] _ := hP
  have hD : va_D A [mO h q zmu zmk zmz zms zma zmc, (q 2, .inl (cI, 76, .inl (fun z_ => nI (nw z_))))] := hD
  refine n_ifb_eq (tgt := 37) hx hb dX7_heard_5 (by decide) (fun c_3 => ?_) (fun c_3 => ?_)
  · -- 5 to 37
    refine lv_iconst (v := (-1)) hx hb dX7_heard_37 (by decide) ?_
    refine hret hP hD hS dX7_heard_38 rfl rfl ?_
    exact ⟨by simp [heA, c_3], rfl⟩
  · -- 5 to 8
    obtain ⟨j, hj, rfl⟩ := inN_e (by have := hbd 2; omega) c_3
    have hij_q : ix (nI j) = j := ix_n (by have := hbd 2; omega)
    refine lv_iload_n hx hb dX7_heard_8 rfl (lv_at hl 2 rfl) ?_
    refine lv_i2l (v := (y).toInt64) hx hb dX7_heard_9 rfl ?_
    refine lv_lconst (v := lN 0) hx hb dX7_heard_10 (by decide) ?_
    refine lv_ldc2 (v := lN 4) hx hb hown (hts _ tw_887) dX7_heard_11 ?_
    refine cl_7_67 (As := [.long ((y).toInt64), .long (lN (0)), .long (lN (4))]) (rest := []) hx hb hml hts hown (k_X7_in ) (by decide) ⟨Nat.zero_le _, Nat.zero_le _⟩ hK hP hD hS hA [] rfl (by decide) rfl hl.1 rfl (Nat.le_of_ble_eq_true rfl) dX7_heard_14 (fun r_4 u H locs hp_5 hP hD hS => ?_)
    obtain ⟨rfl, rfl⟩ := hp_5
    have hP : va_P D vwCl [mO h q zmu zmk zmz zms zma zmc, (q 2, .inl (cI, 76, .inl (fun z_ => nI (nw z_))))] _ := hP
    have hD : va_D A [mO h q zmu zmk zmz zms zma zmc, (q 2, .inl (cI, 76, .inl (fun z_ => nI (nw z_))))] := hD
    refine n_ifb_eq (tgt := 37) hx hb dX7_heard_17 (by decide) (fun c_6 => ?_) (fun c_6 => ?_)
    · -- 17 to 37
      have hvk_q := (inR_l y 0 4 (by omega) (by omega)).trans c_6
      refine lv_iconst (v := (-1)) hx hb dX7_heard_37 (by decide) ?_
      refine hret hP hD hS dX7_heard_38 rfl rfl ?_
      exact ⟨by simp [heA, c_3, c_6, hij_q, hvk_q], rfl⟩
    · -- 17 to 20
      have hvk_q := (inR_l y 0 4 (by omega) (by omega)).trans c_6
      obtain ⟨k, hlk, hhk, rfl⟩ := inR_e (by omega) hvk_q
      have hik_q : ix (nI k) = k := ix_n (by omega)
      refine lv_aload_n hx hb dX7_heard_20 rfl (lv_at hl 0 rfl) ?_
      refine gf_7_16 hx hb hts hown hK hP 0 rfl rfl dX7_heard_21 ?_
      refine lv_bipush (v := nI 16) hx hb dX7_heard_24 (by decide) ?_
      refine lv_bipush (v := nI 12) hx hb dX7_heard_26 (by decide) ?_
      refine lv_iload_n hx hb dX7_heard_28 rfl (lv_at hl 2 rfl) ?_
      refine n_imul hx hb dX7_heard_29  ?_
      refine n_iadd hx hb dX7_heard_30  ?_
      refine lv_iload_n hx hb dX7_heard_31 rfl (lv_at hl 1 rfl) ?_
      refine n_iadd hx hb dX7_heard_32  ?_
      refine n_iald hx hb hK hP 1 0 rfl rfl dX7_heard_33 (by decide) (by omega) ?_
      have hb_7 := hbd ((16 + (12 * k)) + j)
      refine lv_goto (tgt := 38) hx hb dX7_heard_34 (by decide) ?_
      refine hret hP hD hS dX7_heard_38 rfl rfl ?_
      exact ⟨by simp [heA, c_3, c_6, hij_q, hvk_q, hik_q], rfl⟩
set_option maxHeartbeats 4000000 in
set_option maxRecDepth 100000 in
theorem k_X7_sense {l : Launch} {D : va_G} {cI cC cB : ClassId} {h : Nat} {q : Nat → Nat} {zmu zmk zmz zms zma zmc : Nat} {bx nw : Nat → Nat} {x : Int32} (hB : BxOk bx) (hbd : ∀ j, nw j < 100000000) : MI l yX7_sense cX7_sense 2 (some .int) 2 D (Ty3 cI cC cB) [.ref h, .int (x)] [mO h q zmu zmk zmz zms zma zmc, (q 0, .inl (cI, 54, .inl (fun z_ => nI (bx z_)))), (q 2, .inl (cI, 76, .inl (fun z_ => nI (nw z_))))] (fun r u => (r = seA bx nw x ∧ u = [mO h q zmu zmk zmz zms zma zmc, (q 0, .inl (cI, 54, .inl (fun z_ => nI (bx z_)))), (q 2, .inl (cI, 76, .inl (fun z_ => nI (nw z_))))])) := by
  intro sz
  refine MI.walk (by decide +kernel) (Nat.le_of_ble_eq_true rfl) ?_
  intro p e s m args below meth c A Qf hx hb hml hts hown hret hK hP hD hS hA ls hl
  have hown : s.vm.findClass RX7 = some m.cls := hown
  have hl : lv_has ls 2 [(0, .ref h), (1, .int (x))] := hl
  have hP : va_P D vwCl [mO h q zmu zmk zmz zms zma zmc, (q 0, .inl (cI, 54, .inl (fun z_ => nI (bx z_)))), (q 2, .inl (cI, 76, .inl (fun z_ => nI (nw z_))))] s.heap := hP
  have hD : va_D A [mO h q zmu zmk zmz zms zma zmc, (q 0, .inl (cI, 54, .inl (fun z_ => nI (bx z_)))), (q 2, .inl (cI, 76, .inl (fun z_ => nI (nw z_))))] := hD
  refine lv_aload_n hx hb dX7_sense_0 rfl (lv_at hl 0 rfl) ?_
  refine lv_iload_n hx hb dX7_sense_1 rfl (lv_at hl 1 rfl) ?_
  refine cl_7_177 (As := [.int (x)]) (rest := []) hx hb hml hts hown (k_X7_isExcuse (by first | assumption | omega)) (by decide) ⟨Nat.zero_le _, Nat.zero_le _⟩ hK hP hD hS hA 0 rfl [0, 1] rfl (by decide) rfl hl.1 rfl (Nat.le_of_ble_eq_true rfl) dX7_sense_2 (fun r_1 u H locs hp_2 hP hD hS => ?_)
  obtain ⟨rfl, rfl⟩ := hp_2
  have hP : va_P D vwCl [mO h q zmu zmk zmz zms zma zmc, (q 0, .inl (cI, 54, .inl (fun z_ => nI (bx z_)))), (q 2, .inl (cI, 76, .inl (fun z_ => nI (nw z_))))] _ := hP
  have hD : va_D A [mO h q zmu zmk zmz zms zma zmc, (q 0, .inl (cI, 54, .inl (fun z_ => nI (bx z_)))), (q 2, .inl (cI, 76, .inl (fun z_ => nI (nw z_))))] := hD
  refine n_ifb_ne (tgt := 12) hx hb dX7_sense_5 (by decide) (fun c_3 => ?_) (fun c_3 => ?_)
  · -- 5 to 12
    obtain ⟨j, hj, rfl⟩ := inN_e (by have := sz_lt hB; omega) c_3
    have hij_q : ix (nI j) = j := ix_n (by have := sz_lt hB; omega)
    refine lv_aload_n hx hb dX7_sense_12 rfl (lv_at hl 0 rfl) ?_
    refine lv_aload_n hx hb dX7_sense_13 rfl (lv_at hl 0 rfl) ?_
    refine gf_7_16 hx hb hts hown hK hP 0 rfl rfl dX7_sense_14 ?_
    refine lv_iload_n hx hb dX7_sense_17 rfl (lv_at hl 1 rfl) ?_
    refine cl_7_152 (As := [.ref (q 2), .int (nI (j))]) (rest := []) hx hb hml hts hown (k_X7_hasSense hB hbd (by have := sz_lt hB; omega)) (by decide) ⟨Nat.zero_le _, Nat.zero_le _⟩ hK hP hD hS hA 0 rfl [0, 1, 2] rfl (by decide) rfl hl.1 rfl (Nat.le_of_ble_eq_true rfl) dX7_sense_18 (fun r_4 u H locs hp_5 hP hD hS => ?_)
    obtain ⟨rfl, rfl⟩ := hp_5
    have hP : va_P D vwCl [mO h q zmu zmk zmz zms zma zmc, (q 0, .inl (cI, 54, .inl (fun z_ => nI (bx z_)))), (q 2, .inl (cI, 76, .inl (fun z_ => nI (nw z_))))] _ := hP
    have hD : va_D A [mO h q zmu zmk zmz zms zma zmc, (q 0, .inl (cI, 54, .inl (fun z_ => nI (bx z_)))), (q 2, .inl (cI, 76, .inl (fun z_ => nI (nw z_))))] := hD
    refine n_ifb_eq (tgt := 28) hx hb dX7_sense_21 (by decide) (fun c_6 => ?_) (fun c_6 => ?_)
    · -- 21 to 28
      refine lv_iconst (v := nI 0) hx hb dX7_sense_28 (by decide) ?_
      refine hret hP hD hS dX7_sense_29 rfl rfl ?_
      exact ⟨by simp [seA, c_3, c_6, hij_q, nI_0], rfl⟩
    · -- 21 to 24
      refine lv_iconst (v := nI 1) hx hb dX7_sense_24 (by decide) ?_
      refine lv_goto (tgt := 29) hx hb dX7_sense_25 (by decide) ?_
      refine hret hP hD hS dX7_sense_29 rfl rfl ?_
      exact ⟨by simp [seA, c_3, c_6, hij_q, nI_0], rfl⟩
  · -- 5 to 8
    refine lv_iconst (v := (-1)) hx hb dX7_sense_8 (by decide) ?_
    refine lv_goto (tgt := 29) hx hb dX7_sense_9 (by decide) ?_
    refine hret hP hD hS dX7_sense_29 rfl rfl ?_
    exact ⟨by simp [seA, c_3, nI_0], rfl⟩
set_option maxHeartbeats 4000000 in
set_option maxRecDepth 100000 in
theorem k_X7_stale {l : Launch} {D : va_G} {cI cC cB : ClassId} {h : Nat} {q : Nat → Nat} {zmu zmk zmz zms zma zmc : Nat} {bx nw : Nat → Nat} {x y : Int32} (hB : BxOk bx) (hN : HdOk bx nw) : MI l yX7_stale cX7_stale 3 (some .int) 3 D (Ty3 cI cC cB) [.ref h, .int (x), .int (y)] [mO h q zmu zmk zmz zms zma zmc, (q 0, .inl (cI, 54, .inl (fun z_ => nI (bx z_)))), (q 2, .inl (cI, 76, .inl (fun z_ => nI (nw z_))))] (fun r u => (r = stA bx nw x y ∧ u = [mO h q zmu zmk zmz zms zma zmc, (q 0, .inl (cI, 54, .inl (fun z_ => nI (bx z_)))), (q 2, .inl (cI, 76, .inl (fun z_ => nI (nw z_))))])) := by
  intro sz
  refine MI.walk (by decide +kernel) (Nat.le_of_ble_eq_true rfl) ?_
  intro p e s m args below meth c A Qf hx hb hml hts hown hret hK hP hD hS hA ls hl
  have hown : s.vm.findClass RX7 = some m.cls := hown
  have hl : lv_has ls 3 [(0, .ref h), (1, .int (x)), (2, .int (y))] := hl
  have hP : va_P D vwCl [mO h q zmu zmk zmz zms zma zmc, (q 0, .inl (cI, 54, .inl (fun z_ => nI (bx z_)))), (q 2, .inl (cI, 76, .inl (fun z_ => nI (nw z_))))] s.heap := hP
  have hD : va_D A [mO h q zmu zmk zmz zms zma zmc, (q 0, .inl (cI, 54, .inl (fun z_ => nI (bx z_)))), (q 2, .inl (cI, 76, .inl (fun z_ => nI (nw z_))))] := hD
  refine lv_aload_n hx hb dX7_stale_0 rfl (lv_at hl 0 rfl) ?_
  refine lv_iload_n hx hb dX7_stale_1 rfl (lv_at hl 1 rfl) ?_
  refine cl_7_177 (As := [.int (x)]) (rest := []) hx hb hml hts hown (k_X7_isExcuse (by first | assumption | omega)) (by decide) ⟨Nat.zero_le _, Nat.zero_le _⟩ hK hP hD hS hA 0 rfl [0, 1] rfl (by decide) rfl hl.1 rfl (Nat.le_of_ble_eq_true rfl) dX7_stale_2 (fun r_1 u H locs hp_2 hP hD hS => ?_)
  obtain ⟨rfl, rfl⟩ := hp_2
  have hP : va_P D vwCl [mO h q zmu zmk zmz zms zma zmc, (q 0, .inl (cI, 54, .inl (fun z_ => nI (bx z_)))), (q 2, .inl (cI, 76, .inl (fun z_ => nI (nw z_))))] _ := hP
  have hD : va_D A [mO h q zmu zmk zmz zms zma zmc, (q 0, .inl (cI, 54, .inl (fun z_ => nI (bx z_)))), (q 2, .inl (cI, 76, .inl (fun z_ => nI (nw z_))))] := hD
  refine n_ifb_eq (tgt := 16) hx hb dX7_stale_5 (by decide) (fun c_3 => ?_) (fun c_3 => ?_)
  · -- 5 to 16
    refine lv_iconst (v := (-1)) hx hb dX7_stale_16 (by decide) ?_
    refine lv_goto (tgt := 38) hx hb dX7_stale_17 (by decide) ?_
    refine hret hP hD hS dX7_stale_38 rfl rfl ?_
    exact ⟨by simp [stA, c_3, nI_0], rfl⟩
  · -- 5 to 8
    obtain ⟨j, hj, rfl⟩ := inN_e (by have := sz_lt hB; omega) c_3
    have hij_q : ix (nI j) = j := ix_n (by have := sz_lt hB; omega)
    refine lv_aload_n hx hb dX7_stale_8 rfl (lv_at hl 0 rfl) ?_
    refine lv_iload_n hx hb dX7_stale_9 rfl (lv_at hl 2 rfl) ?_
    refine cl_7_169 (As := [.int (y)]) (rest := []) hx hb hml hts hown (k_X7_isPerson (by first | assumption | omega)) (by decide) ⟨Nat.zero_le _, Nat.zero_le _⟩ hK hP hD hS hA 0 rfl [0, 1] rfl (by decide) rfl hl.1 rfl (Nat.le_of_ble_eq_true rfl) dX7_stale_10 (fun r_4 u H locs hp_5 hP hD hS => ?_)
    obtain ⟨rfl, rfl⟩ := hp_5
    have hP : va_P D vwCl [mO h q zmu zmk zmz zms zma zmc, (q 0, .inl (cI, 54, .inl (fun z_ => nI (bx z_)))), (q 2, .inl (cI, 76, .inl (fun z_ => nI (nw z_))))] _ := hP
    have hD : va_D A [mO h q zmu zmk zmz zms zma zmc, (q 0, .inl (cI, 54, .inl (fun z_ => nI (bx z_)))), (q 2, .inl (cI, 76, .inl (fun z_ => nI (nw z_))))] := hD
    refine n_ifb_ne (tgt := 20) hx hb dX7_stale_13 (by decide) (fun c_6 => ?_) (fun c_6 => ?_)
    · -- 13 to 20
      obtain ⟨k, hk, rfl⟩ := inN_e (by have := hB.bd 1; omega) c_6
      have hik_q : ix (nI k) = k := ix_n (by have := hB.bd 1; omega)
      refine lv_aload_n hx hb dX7_stale_20 rfl (lv_at hl 0 rfl) ?_
      refine lv_aload_n hx hb dX7_stale_21 rfl (lv_at hl 0 rfl) ?_
      refine gf_7_16 hx hb hts hown hK hP 0 rfl rfl dX7_stale_22 ?_
      refine lv_iload_n hx hb dX7_stale_25 rfl (lv_at hl 1 rfl) ?_
      refine lv_iload_n hx hb dX7_stale_26 rfl (lv_at hl 2 rfl) ?_
      refine cl_7_156 (As := [.ref (q 2), .int (nI (j)), .int (nI (k))]) (rest := []) hx hb hml hts hown (k_X7_isStale hB hN hk (by have := sz_lt hB; omega)) (by decide) ⟨Nat.zero_le _, Nat.zero_le _⟩ hK hP hD hS hA 0 rfl [0, 1, 2] rfl (by decide) rfl hl.1 rfl (Nat.le_of_ble_eq_true rfl) dX7_stale_27 (fun r_7 u H locs hp_8 hP hD hS => ?_)
      obtain ⟨rfl, rfl⟩ := hp_8
      have hP : va_P D vwCl [mO h q zmu zmk zmz zms zma zmc, (q 0, .inl (cI, 54, .inl (fun z_ => nI (bx z_)))), (q 2, .inl (cI, 76, .inl (fun z_ => nI (nw z_))))] _ := hP
      have hD : va_D A [mO h q zmu zmk zmz zms zma zmc, (q 0, .inl (cI, 54, .inl (fun z_ => nI (bx z_)))), (q 2, .inl (cI, 76, .inl (fun z_ => nI (nw z_))))] := hD
      refine n_ifb_eq (tgt := 37) hx hb dX7_stale_30 (by decide) (fun c_9 => ?_) (fun c_9 => ?_)
      · -- 30 to 37
        refine lv_iconst (v := nI 0) hx hb dX7_stale_37 (by decide) ?_
        refine hret hP hD hS dX7_stale_38 rfl rfl ?_
        exact ⟨by simp [stA, c_3, c_6, c_9, hij_q, hik_q, nI_0], rfl⟩
      · -- 30 to 33
        refine lv_iconst (v := nI 1) hx hb dX7_stale_33 (by decide) ?_
        refine lv_goto (tgt := 38) hx hb dX7_stale_34 (by decide) ?_
        refine hret hP hD hS dX7_stale_38 rfl rfl ?_
        exact ⟨by simp [stA, c_3, c_6, c_9, hij_q, hik_q, nI_0], rfl⟩
    · -- 13 to 16
      refine lv_iconst (v := (-1)) hx hb dX7_stale_16 (by decide) ?_
      refine lv_goto (tgt := 38) hx hb dX7_stale_17 (by decide) ?_
      refine hret hP hD hS dX7_stale_38 rfl rfl ?_
      exact ⟨by simp [stA, c_3, c_6, hij_q, nI_0], rfl⟩
set_option maxHeartbeats 4000000 in
set_option maxRecDepth 100000 in
theorem k_X7_owner {l : Launch} {D : va_G} {cI cC cB : ClassId} {h : Nat} {q : Nat → Nat} {zmu zmk zmz zms zma zmc : Nat} {nw : Nat → Nat} {x : Int32} (hbd : ∀ j, nw j < 100000000) (h12 : nw 2 ≤ 12) : MI l yX7_owner cX7_owner 3 (some .int) 2 D (Ty3 cI cC cB) [.ref h, .int (x)] [mO h q zmu zmk zmz zms zma zmc, (q 2, .inl (cI, 76, .inl (fun z_ => nI (nw z_))))] (fun r u => (r = owA nw x ∧ u = [mO h q zmu zmk zmz zms zma zmc, (q 2, .inl (cI, 76, .inl (fun z_ => nI (nw z_))))])) := by
  intro sz
  refine MI.walk (by decide +kernel) (Nat.le_of_ble_eq_true rfl) ?_
  intro p e s m args below meth c A Qf hx hb hml hts hown hret hK hP hD hS hA ls hl
  have hown : s.vm.findClass RX7 = some m.cls := hown
  have hl : lv_has ls 3 [(0, .ref h), (1, .int (x))] := hl
  have hP : va_P D vwCl [mO h q zmu zmk zmz zms zma zmc, (q 2, .inl (cI, 76, .inl (fun z_ => nI (nw z_))))] s.heap := hP
  have hD : va_D A [mO h q zmu zmk zmz zms zma zmc, (q 2, .inl (cI, 76, .inl (fun z_ => nI (nw z_))))] := hD
  refine lv_aload_n hx hb dX7_owner_0 rfl (lv_at hl 0 rfl) ?_
  refine lv_iload_n hx hb dX7_owner_1 rfl (lv_at hl 1 rfl) ?_
  refine cl_7_172 (As := [.int (x)]) (rest := []) hx hb hml hts hown (k_X7_isHeard (by first | assumption | omega)) (by decide) ⟨Nat.zero_le _, Nat.zero_le _⟩ hK hP hD hS hA 0 rfl [0, 1] rfl (by decide) rfl hl.1 rfl (Nat.le_of_ble_eq_true rfl) dX7_owner_2 (fun r_1 u H locs hp_2 hP hD hS => ?_)
  obtain ⟨rfl, rfl⟩ := hp_2
  have hP : va_P D vwCl [mO h q zmu zmk zmz zms zma zmc, (q 2, .inl (cI, 76, .inl (fun z_ => nI (nw z_))))] _ := hP
  have hD : va_D A [mO h q zmu zmk zmz zms zma zmc, (q 2, .inl (cI, 76, .inl (fun z_ => nI (nw z_))))] := hD
  refine n_ifb_ne (tgt := 10) hx hb dX7_owner_5 (by decide) (fun c_3 => ?_) (fun c_3 => ?_)
  · -- 5 to 10
    obtain ⟨j, hj, rfl⟩ := inN_e (by have := hbd 2; omega) c_3
    have hij_q : ix (nI j) = j := ix_n (by have := hbd 2; omega)
    refine lv_iconst (v := nI 0) hx hb dX7_owner_10 (by decide) ?_
    refine lv_istore_n (lv' := [(2, .int (nI (0))), (0, .ref h), (1, .int (nI (j)))]) hx hb dX7_owner_11 rfl hl (by decide) rfl (fun ls hl => ?_)
    have loop_12 : ∀ (N : Nat) (k : Nat), (k ≤ j) → (fsN nw j k = k) → (j - k) < N → ∀ (H : Heap) (locs : List Loc), va_P D vwCl [mO h q zmu zmk zmz zms zma zmc, (q 2, .inl (cI, 76, .inl (fun z_ => nI (nw z_))))] H → va_D A [mO h q zmu zmk zmz zms zma zmc, (q 2, .inl (cI, 76, .inl (fun z_ => nI (nw z_))))] → va_S A s.heap H locs → ∀ ls : Array Slot, lv_has ls 3 [(2, .int (nI (k))), (0, .ref h), (1, .int (nI (j)))] → W p l e (rmL 2) s m args below meth c H locs 0 0 Qf (F0 m 12 ls []) := by
      intro N; induction N with
      | zero => intro k _ _ hm; omega
      | succ N ih_12 =>
        intro k hk hv hm H locs hP hD hS ls hl
        refine lv_aload_n hx hb dX7_owner_12 rfl (lv_at hl 1 rfl) ?_
        refine gf_7_16 hx hb hts hown hK hP 0 rfl rfl dX7_owner_13 ?_
        refine lv_bipush (v := nI 16) hx hb dX7_owner_16 (by decide) ?_
        refine lv_iload_n hx hb dX7_owner_18 rfl (lv_at hl 0 rfl) ?_
        refine n_iadd hx hb dX7_owner_19  ?_
        refine n_iald hx hb hK hP 1 0 rfl rfl dX7_owner_20 (by decide) (by omega) ?_
        have hb_4 := hbd (16 + k)
        refine lv_aload_n hx hb dX7_owner_21 rfl (lv_at hl 1 rfl) ?_
        refine gf_7_16 hx hb hts hown hK hP 0 rfl rfl dX7_owner_22 ?_
        refine lv_bipush (v := nI 16) hx hb dX7_owner_25 (by decide) ?_
        refine lv_iload_n hx hb dX7_owner_27 rfl (lv_at hl 2 rfl) ?_
        refine n_iadd hx hb dX7_owner_28  ?_
        refine n_iald hx hb hK hP 1 0 rfl rfl dX7_owner_29 (by decide) (by omega) ?_
        have hb_5 := hbd (16 + j)
        refine n_icmp_eq (tgt := 39) hx hb dX7_owner_30 (by decide) (by omega) (by omega) (fun c_6 => ?_) (fun c_6 => ?_)
        · -- 30 to 39
          refine lv_aload_n hx hb dX7_owner_39 rfl (lv_at hl 1 rfl) ?_
          refine gf_7_16 hx hb hts hown hK hP 0 rfl rfl dX7_owner_40 ?_
          refine lv_bipush (v := nI 28) hx hb dX7_owner_43 (by decide) ?_
          refine lv_iload_n hx hb dX7_owner_45 rfl (lv_at hl 0 rfl) ?_
          refine n_iadd hx hb dX7_owner_46  ?_
          refine n_iald hx hb hK hP 1 0 rfl rfl dX7_owner_47 (by decide) (by omega) ?_
          have hb_7 := hbd (28 + k)
          refine hret hP hD hS dX7_owner_48 rfl rfl ?_
          exact ⟨by rw [owA, if_pos (by assumption), hij_q, fs_e hk hv (by assumption)], rfl⟩
        · -- 30 to 33
          refine lv_iinc (v := nI (k + 1)) (lv' := [(2, .int (nI (k + 1))), (0, .ref h), (1, .int (nI (j)))]) hx hb dX7_owner_33 hl (k := 0) rfl (n_inc _ 1) (by decide) rfl (fun ls hl => ?_)
          refine lv_goto (tgt := 12) hx hb dX7_owner_36 (by decide) ?_
          exact ih_12 (k + 1) (fs_b1 hk (by assumption)) (fs_b2 hv (by assumption)) (by have h9 := fs_b1 hk (by assumption); omega) _ _ hP hD hS _ (lv_sub hl [0, 1, 2] rfl)
    exact loop_12 _ 0 (Nat.zero_le _) rfl (Nat.lt_succ_self _) _ _ hP hD hS _ (lv_sub hl [0, 1, 2] rfl)
  · -- 5 to 8
    refine lv_iconst (v := (-1)) hx hb dX7_owner_8 (by decide) ?_
    refine hret hP hD hS dX7_owner_9 rfl rfl ?_
    exact ⟨by simp [owA, c_3], rfl⟩
set_option maxHeartbeats 4000000 in
set_option maxRecDepth 100000 in
theorem k_X7_count {l : Launch} {D : va_G} {cI cC cB : ClassId} {h : Nat} {q : Nat → Nat} {zmu zmk zmz zms zma zmc : Nat} {bx nw : Nat → Nat} {x : Int32} (hB : BxOk bx) (hbd : ∀ j, nw j < 100000000) : MI l yX7_count cX7_count 2 (some .int) 1 D (Ty3 cI cC cB) [.ref h, .int (x)] [mO h q zmu zmk zmz zms zma zmc, (q 0, .inl (cI, 54, .inl (fun z_ => nI (bx z_)))), (q 2, .inl (cI, 76, .inl (fun z_ => nI (nw z_))))] (fun r u => (r = coA bx nw zms zmu zmk zmz x ∧ u = [mO h q zmu zmk zmz zms zma zmc, (q 0, .inl (cI, 54, .inl (fun z_ => nI (bx z_)))), (q 2, .inl (cI, 76, .inl (fun z_ => nI (nw z_))))])) := by
  intro sz
  refine MI.walk (by decide +kernel) (Nat.le_of_ble_eq_true rfl) ?_
  intro p e s m args below meth c A Qf hx hb hml hts hown hret hK hP hD hS hA ls hl
  have hown : s.vm.findClass RX7 = some m.cls := hown
  have hl : lv_has ls 2 [(0, .ref h), (1, .int (x))] := hl
  have hP : va_P D vwCl [mO h q zmu zmk zmz zms zma zmc, (q 0, .inl (cI, 54, .inl (fun z_ => nI (bx z_)))), (q 2, .inl (cI, 76, .inl (fun z_ => nI (nw z_))))] s.heap := hP
  have hD : va_D A [mO h q zmu zmk zmz zms zma zmc, (q 0, .inl (cI, 54, .inl (fun z_ => nI (bx z_)))), (q 2, .inl (cI, 76, .inl (fun z_ => nI (nw z_))))] := hD
  refine lv_iload_n hx hb dX7_count_0 rfl (lv_at hl 1 rfl) ?_
  rcases tsw (x) 11 with c_1 | c_1 | ⟨j_sw, hj_sw, e_sw⟩
  · refine lv_tableOut (tgt := 110) hx hb dX7_count_1 (Or.inl (by omega)) (by decide) ?_
    refine lv_iconst (v := (-1)) hx hb dX7_count_110 (by decide) ?_
    refine hret hP hD hS dX7_count_111 rfl rfl ?_
    exact ⟨by first | exact (co_out (by omega)).symm | rfl, rfl⟩
  · refine lv_tableOut (tgt := 110) hx hb dX7_count_1 (Or.inr (by omega)) (by decide) ?_
    refine lv_iconst (v := (-1)) hx hb dX7_count_110 (by decide) ?_
    refine hret hP hD hS dX7_count_111 rfl rfl ?_
    exact ⟨by first | exact (co_out (by omega)).symm | rfl, rfl⟩
  · rcases (show j_sw = 0 ∨ j_sw = 1 ∨ j_sw = 2 ∨ j_sw = 3 ∨ j_sw = 4 ∨ j_sw = 5 ∨ j_sw = 6 ∨ j_sw = 7 ∨ j_sw = 8 ∨ j_sw = 9 ∨ j_sw = 10 by omega) with rfl | rfl | rfl | rfl | rfl | rfl | rfl | rfl | rfl | rfl | rfl
    · subst e_sw
      refine lv_tableIn (tgt := 60) hx hb dX7_count_1 (by decide) (by decide) (off := 59) (by decide) (by decide) ?_
      refine lv_aload_n hx hb dX7_count_60 rfl (lv_at hl 0 rfl) ?_
      refine gf_7_7 hx hb hts hown hK hP 0 rfl rfl dX7_count_61 ?_
      refine lv_iconst (v := nI 0) hx hb dX7_count_64 (by decide) ?_
      refine n_iald hx hb hK hP 1 0 rfl rfl dX7_count_65 (by decide) (by omega) ?_
      have hb_2 := hB.bd 0
      refine hret hP hD hS dX7_count_66 rfl rfl ?_
      exact ⟨by first | exact (co_out (by omega)).symm | rfl, rfl⟩
    · subst e_sw
      refine lv_tableIn (tgt := 67) hx hb dX7_count_1 (by decide) (by decide) (off := 66) (by decide) (by decide) ?_
      refine lv_aload_n hx hb dX7_count_67 rfl (lv_at hl 0 rfl) ?_
      refine gf_7_7 hx hb hts hown hK hP 0 rfl rfl dX7_count_68 ?_
      refine lv_iconst (v := nI 1) hx hb dX7_count_71 (by decide) ?_
      refine n_iald hx hb hK hP 1 0 rfl rfl dX7_count_72 (by decide) (by omega) ?_
      have hb_3 := hB.bd 1
      refine hret hP hD hS dX7_count_73 rfl rfl ?_
      exact ⟨by first | exact (co_out (by omega)).symm | rfl, rfl⟩
    · subst e_sw
      refine lv_tableIn (tgt := 74) hx hb dX7_count_1 (by decide) (by decide) (off := 73) (by decide) (by decide) ?_
      refine lv_aload_n hx hb dX7_count_74 rfl (lv_at hl 0 rfl) ?_
      refine cl_7_130 (As := []) (rest := []) hx hb hml hts hown (k_X7_excuses (by first | assumption | omega)) (by decide) ⟨Nat.zero_le _, Nat.zero_le _⟩ hK hP hD hS hA 0 rfl [0, 1] rfl (by decide) rfl hl.1 rfl (Nat.le_of_ble_eq_true rfl) dX7_count_75 (fun r_4 u H locs hp_5 hP hD hS => ?_)
      obtain ⟨rfl, rfl⟩ := hp_5
      have hP : va_P D vwCl [mO h q zmu zmk zmz zms zma zmc, (q 0, .inl (cI, 54, .inl (fun z_ => nI (bx z_)))), (q 2, .inl (cI, 76, .inl (fun z_ => nI (nw z_))))] _ := hP
      have hD : va_D A [mO h q zmu zmk zmz zms zma zmc, (q 0, .inl (cI, 54, .inl (fun z_ => nI (bx z_)))), (q 2, .inl (cI, 76, .inl (fun z_ => nI (nw z_))))] := hD
      refine hret hP hD hS dX7_count_78 rfl rfl ?_
      exact ⟨by first | exact (co_out (by omega)).symm | rfl, rfl⟩
    · subst e_sw
      refine lv_tableIn (tgt := 79) hx hb dX7_count_1 (by decide) (by decide) (off := 78) (by decide) (by decide) ?_
      refine lv_aload_n hx hb dX7_count_79 rfl (lv_at hl 0 rfl) ?_
      refine gf_7_16 hx hb hts hown hK hP 0 rfl rfl dX7_count_80 ?_
      refine lv_iconst (v := nI 0) hx hb dX7_count_83 (by decide) ?_
      refine lv_iload_n hx hb dX7_count_84 rfl (lv_at hl 1 rfl) ?_
      refine n_iadd hx hb dX7_count_85  ?_
      refine lv_iconst (v := nI 3) hx hb dX7_count_86 (by decide) ?_
      refine n_isub hx hb dX7_count_87 (by decide) ?_
      refine n_iald hx hb hK hP 2 0 rfl rfl dX7_count_88 (by decide) (by omega) ?_
      have hb_6 := hbd ((0 + 3) - 3)
      refine hret hP hD hS dX7_count_89 rfl rfl ?_
      exact ⟨by first | exact (co_out (by omega)).symm | rfl, rfl⟩
    · subst e_sw
      refine lv_tableIn (tgt := 79) hx hb dX7_count_1 (by decide) (by decide) (off := 78) (by decide) (by decide) ?_
      refine lv_aload_n hx hb dX7_count_79 rfl (lv_at hl 0 rfl) ?_
      refine gf_7_16 hx hb hts hown hK hP 0 rfl rfl dX7_count_80 ?_
      refine lv_iconst (v := nI 0) hx hb dX7_count_83 (by decide) ?_
      refine lv_iload_n hx hb dX7_count_84 rfl (lv_at hl 1 rfl) ?_
      refine n_iadd hx hb dX7_count_85  ?_
      refine lv_iconst (v := nI 3) hx hb dX7_count_86 (by decide) ?_
      refine n_isub hx hb dX7_count_87 (by decide) ?_
      refine n_iald hx hb hK hP 2 0 rfl rfl dX7_count_88 (by decide) (by omega) ?_
      have hb_7 := hbd ((0 + 4) - 3)
      refine hret hP hD hS dX7_count_89 rfl rfl ?_
      exact ⟨by first | exact (co_out (by omega)).symm | rfl, rfl⟩
    · subst e_sw
      refine lv_tableIn (tgt := 79) hx hb dX7_count_1 (by decide) (by decide) (off := 78) (by decide) (by decide) ?_
      refine lv_aload_n hx hb dX7_count_79 rfl (lv_at hl 0 rfl) ?_
      refine gf_7_16 hx hb hts hown hK hP 0 rfl rfl dX7_count_80 ?_
      refine lv_iconst (v := nI 0) hx hb dX7_count_83 (by decide) ?_
      refine lv_iload_n hx hb dX7_count_84 rfl (lv_at hl 1 rfl) ?_
      refine n_iadd hx hb dX7_count_85  ?_
      refine lv_iconst (v := nI 3) hx hb dX7_count_86 (by decide) ?_
      refine n_isub hx hb dX7_count_87 (by decide) ?_
      refine n_iald hx hb hK hP 2 0 rfl rfl dX7_count_88 (by decide) (by omega) ?_
      have hb_8 := hbd ((0 + 5) - 3)
      refine hret hP hD hS dX7_count_89 rfl rfl ?_
      exact ⟨by first | exact (co_out (by omega)).symm | rfl, rfl⟩
    · subst e_sw
      refine lv_tableIn (tgt := 79) hx hb dX7_count_1 (by decide) (by decide) (off := 78) (by decide) (by decide) ?_
      refine lv_aload_n hx hb dX7_count_79 rfl (lv_at hl 0 rfl) ?_
      refine gf_7_16 hx hb hts hown hK hP 0 rfl rfl dX7_count_80 ?_
      refine lv_iconst (v := nI 0) hx hb dX7_count_83 (by decide) ?_
      refine lv_iload_n hx hb dX7_count_84 rfl (lv_at hl 1 rfl) ?_
      refine n_iadd hx hb dX7_count_85  ?_
      refine lv_iconst (v := nI 3) hx hb dX7_count_86 (by decide) ?_
      refine n_isub hx hb dX7_count_87 (by decide) ?_
      refine n_iald hx hb hK hP 2 0 rfl rfl dX7_count_88 (by decide) (by omega) ?_
      have hb_9 := hbd ((0 + 6) - 3)
      refine hret hP hD hS dX7_count_89 rfl rfl ?_
      exact ⟨by first | exact (co_out (by omega)).symm | rfl, rfl⟩
    · subst e_sw
      refine lv_tableIn (tgt := 90) hx hb dX7_count_1 (by decide) (by decide) (off := 89) (by decide) (by decide) ?_
      refine lv_aload_n hx hb dX7_count_90 rfl (lv_at hl 0 rfl) ?_
      refine gf_7_114 hx hb hts hown hK hP 0 rfl rfl dX7_count_91 ?_
      refine hret hP hD hS dX7_count_94 rfl rfl ?_
      exact ⟨by first | exact (co_out (by omega)).symm | rfl, rfl⟩
    · subst e_sw
      refine lv_tableIn (tgt := 95) hx hb dX7_count_1 (by decide) (by decide) (off := 94) (by decide) (by decide) ?_
      refine lv_aload_n hx hb dX7_count_95 rfl (lv_at hl 0 rfl) ?_
      refine gf_7_117 hx hb hts hown hK hP 0 rfl rfl dX7_count_96 ?_
      refine hret hP hD hS dX7_count_99 rfl rfl ?_
      exact ⟨by first | exact (co_out (by omega)).symm | rfl, rfl⟩
    · subst e_sw
      refine lv_tableIn (tgt := 100) hx hb dX7_count_1 (by decide) (by decide) (off := 99) (by decide) (by decide) ?_
      refine lv_aload_n hx hb dX7_count_100 rfl (lv_at hl 0 rfl) ?_
      refine gf_7_120 hx hb hts hown hK hP 0 rfl rfl dX7_count_101 ?_
      refine hret hP hD hS dX7_count_104 rfl rfl ?_
      exact ⟨by first | exact (co_out (by omega)).symm | rfl, rfl⟩
    · subst e_sw
      refine lv_tableIn (tgt := 105) hx hb dX7_count_1 (by decide) (by decide) (off := 104) (by decide) (by decide) ?_
      refine lv_aload_n hx hb dX7_count_105 rfl (lv_at hl 0 rfl) ?_
      refine gf_7_75 hx hb hts hown hK hP 0 rfl rfl dX7_count_106 ?_
      refine hret hP hD hS dX7_count_109 rfl rfl ?_
      exact ⟨by first | exact (co_out (by omega)).symm | rfl, rfl⟩
set_option maxHeartbeats 4000000 in
set_option maxRecDepth 100000 in
theorem k_X7_inRoundM {l : Launch} {D : va_G} {cI cC cB : ClassId} {h : Nat} {q : Nat → Nat} {zmu zmk zmz zms zma zmc : Nat} {bx nw f : Nat → Nat}  (hB : BxOk bx) (hG : GoOk bx nw) (hN : HdOk bx nw) (hbl : BdOk nw) : MI l yX7_inRound cX7_inRound 6 (some .int) 3 D (Ty3 cI cC cB) [.ref h, .int ((-1 : Int32))] [mO h q zmu zmk zmz zms zma zmc, (q 0, .inl (cI, 54, .inl (fun z_ => nI (bx z_)))), (q 2, .inl (cI, 76, .inl (fun z_ => nI (nw z_)))), (q 9, .inl (cI, 76, .inl (fun z_ => nI (f z_))))] (fun r u => (∃ f2 : Nat → Nat, r = nI (cnB (fun k_ => senN bx nw (ebN bx nw k_)) (rdN bx nw (bx 0))) ∧ u = [mO h q zmu zmk zmz zms zma zmc, (q 0, .inl (cI, 54, .inl (fun z_ => nI (bx z_)))), (q 2, .inl (cI, 76, .inl (fun z_ => nI (nw z_)))), (q 9, .inl (cI, 76, .inl (fun z_ => nI (f2 z_))))])) := by
  intro sz
  refine MI.walk (by decide +kernel) (Nat.le_of_ble_eq_true rfl) ?_
  intro p e s m args below meth c A Qf hx hb hml hts hown hret hK hP hD hS hA ls hl
  have hown : s.vm.findClass RX7 = some m.cls := hown
  have hl : lv_has ls 6 [(0, .ref h), (1, .int ((-1 : Int32)))] := hl
  have hP : va_P D vwCl [mO h q zmu zmk zmz zms zma zmc, (q 0, .inl (cI, 54, .inl (fun z_ => nI (bx z_)))), (q 2, .inl (cI, 76, .inl (fun z_ => nI (nw z_)))), (q 9, .inl (cI, 76, .inl (fun z_ => nI (f z_))))] s.heap := hP
  have hD : va_D A [mO h q zmu zmk zmz zms zma zmc, (q 0, .inl (cI, 54, .inl (fun z_ => nI (bx z_)))), (q 2, .inl (cI, 76, .inl (fun z_ => nI (nw z_)))), (q 9, .inl (cI, 76, .inl (fun z_ => nI (f z_))))] := hD
  have hpn := hB.n
  refine lv_aload_n hx hb dX7_inRound_0 rfl (lv_at hl 0 rfl) ?_
  refine cl_7_201 (As := []) (rest := []) hx hb hml hts hown (k_X7_layAside ) (by decide) ⟨Nat.zero_le _, Nat.zero_le _⟩ hK hP hD hS hA 0 rfl [0, 2, 3] rfl (by decide) rfl hl.1 rfl (Nat.le_of_ble_eq_true rfl) dX7_inRound_1 (fun  u H locs hp_1 hP hD hS => ?_)
  subst hp_1
  have hP : va_P D vwCl [mO h q zmu zmk zmz zms zma zmc, (q 0, .inl (cI, 54, .inl (fun z_ => nI (bx z_)))), (q 2, .inl (cI, 76, .inl (fun z_ => nI (nw z_)))), (q 9, .inl (cI, 76, .inl (fun z_ => nI (nw z_))))] _ := hP
  have hD : va_D A [mO h q zmu zmk zmz zms zma zmc, (q 0, .inl (cI, 54, .inl (fun z_ => nI (bx z_)))), (q 2, .inl (cI, 76, .inl (fun z_ => nI (nw z_)))), (q 9, .inl (cI, 76, .inl (fun z_ => nI (nw z_))))] := hD
  refine lv_iconst (v := nI 0) hx hb dX7_inRound_4 (by decide) ?_
  refine lv_istore_n (lv' := [(2, .int (nI (0))), (0, .ref h), (1, .int ((-1 : Int32)))]) hx hb dX7_inRound_5 rfl hl (by decide) rfl (fun ls hl => ?_)
  refine lv_aload_n hx hb dX7_inRound_6 rfl (lv_at hl 1 rfl) ?_
  refine cl_7_207 (As := []) (rest := []) hx hb hml hts hown (k_X7_round hB hG hN.bd) (by decide) ⟨Nat.zero_le _, Nat.zero_le _⟩ hK hP hD hS hA 0 rfl [0, 1, 2] rfl (by decide) rfl hl.1 rfl (Nat.le_of_ble_eq_true rfl) dX7_inRound_7 (fun r_2 u H locs hp_3 hP hD hS => ?_)
  obtain ⟨rfl, rfl⟩ := hp_3
  have hP : va_P D vwCl [mO h q zmu zmk zmz zms zma zmc, (q 0, .inl (cI, 54, .inl (fun z_ => nI (bx z_)))), (q 2, .inl (cI, 76, .inl (fun z_ => nI (nw z_)))), (q 9, .inl (cI, 76, .inl (fun z_ => nI (nw z_))))] _ := hP
  have hD : va_D A [mO h q zmu zmk zmz zms zma zmc, (q 0, .inl (cI, 54, .inl (fun z_ => nI (bx z_)))), (q 2, .inl (cI, 76, .inl (fun z_ => nI (nw z_)))), (q 9, .inl (cI, 76, .inl (fun z_ => nI (nw z_))))] := hD
  refine lv_istore_n (lv' := [(3, .int (nI (rdN bx nw (bx 0)))), (2, .int (nI (0))), (0, .ref h), (1, .int ((-1 : Int32)))]) hx hb dX7_inRound_10 rfl hl (by decide) rfl (fun ls hl => ?_)
  refine lv_iconst (v := nI 0) hx hb dX7_inRound_11 (by decide) ?_
  refine lv_istore (lv' := [(4, .int (nI (0))), (3, .int (nI (rdN bx nw (bx 0)))), (2, .int (nI (0))), (0, .ref h), (1, .int ((-1 : Int32)))]) hx hb dX7_inRound_12 hl (by decide) rfl (fun ls hl => ?_)
  have loop_14 : ∀ (N : Nat) (n : Nat) (k : Nat) (g : Nat → Nat), (k ≤ rdN bx nw (bx 0)) → (g = trN bx nw k) → (n = cnB (fun k_ => senN bx nw (ebN bx nw k_)) k) → (rdN bx nw (bx 0) - k) < N → ∀ (H : Heap) (locs : List Loc), va_P D vwCl [mO h q zmu zmk zmz zms zma zmc, (q 0, .inl (cI, 54, .inl (fun z_ => nI (bx z_)))), (q 2, .inl (cI, 76, .inl (fun z_ => nI (nw z_)))), (q 9, .inl (cI, 76, .inl (fun z_ => nI (g z_))))] H → va_D A [mO h q zmu zmk zmz zms zma zmc, (q 0, .inl (cI, 54, .inl (fun z_ => nI (bx z_)))), (q 2, .inl (cI, 76, .inl (fun z_ => nI (nw z_)))), (q 9, .inl (cI, 76, .inl (fun z_ => nI (g z_))))] → va_S A s.heap H locs → ∀ ls : Array Slot, lv_has ls 6 [(4, .int (nI (k))), (3, .int (nI (rdN bx nw (bx 0)))), (2, .int (nI (n))), (0, .ref h), (1, .int ((-1 : Int32)))] → W p l e (rmL 3) s m args below meth c H locs 0 0 Qf (F0 m 14 ls []) := by
    intro N; induction N with
    | zero => intro n k g _ _ _ hm; omega
    | succ N ih_14 =>
      intro n k g hk hg hn hm H locs hP hD hS ls hl
      have hrd := rd_le2 (nw := nw) hB (Nat.le_refl _)
      have hgb_q : ∀ j, g j < 100000000 := by rw [hg]; exact tr_bd hB hN hbl k (by omega)
      refine lv_iload hx hb dX7_inRound_14 (lv_at hl 0 rfl) ?_
      refine lv_iload_n hx hb dX7_inRound_16 rfl (lv_at hl 1 rfl) ?_
      refine n_icmp_ge (tgt := 83) hx hb dX7_inRound_17 (by decide) (by omega) (by omega) (fun c_4 => ?_) (fun c_4 => ?_)
      · -- 17 to 83
        refine lv_iload_n hx hb dX7_inRound_83 rfl (lv_at hl 2 rfl) ?_
        refine hret hP hD hS dX7_inRound_84 rfl rfl ?_
        exact ⟨g, by rw [hn, show k = rdN bx nw (bx 0) by omega], rfl⟩
      · -- 17 to 20
        refine lv_aload_n hx hb dX7_inRound_20 rfl (lv_at hl 3 rfl) ?_
        refine lv_aload_n hx hb dX7_inRound_21 rfl (lv_at hl 3 rfl) ?_
        refine gf_7_37 hx hb hts hown hK hP 0 rfl rfl dX7_inRound_22 ?_
        refine cl_7_148 (As := [.ref (q 9)]) (rest := []) hx hb hml hts hown (k_X7_upOn hB) (by decide) ⟨Nat.zero_le _, Nat.zero_le _⟩ hK hP hD hS hA 0 rfl [0, 1, 3] rfl (by decide) rfl hl.1 rfl (Nat.le_of_ble_eq_true rfl) dX7_inRound_25 (fun r_5 u H locs hp_6 hP hD hS => ?_)
        obtain ⟨rfl, rfl⟩ := hp_6
        have hP : va_P D vwCl [mO h q zmu zmk zmz zms zma zmc, (q 0, .inl (cI, 54, .inl (fun z_ => nI (bx z_)))), (q 2, .inl (cI, 76, .inl (fun z_ => nI (nw z_)))), (q 9, .inl (cI, 76, .inl (fun z_ => nI (g z_))))] _ := hP
        have hD : va_D A [mO h q zmu zmk zmz zms zma zmc, (q 0, .inl (cI, 54, .inl (fun z_ => nI (bx z_)))), (q 2, .inl (cI, 76, .inl (fun z_ => nI (nw z_)))), (q 9, .inl (cI, 76, .inl (fun z_ => nI (g z_))))] := hD
        have e9_q : exN bx (fun i => g (8 + i)) (bx 0) = ebN bx nw k := by rw [hg]; exact tr_eb hB nw k
        refine lv_istore (lv' := [(5, .int (nI (exN bx (fun i => g (8 + i)) (bx 0)))), (4, .int (nI (k))), (3, .int (nI (rdN bx nw (bx 0)))), (2, .int (nI (n))), (0, .ref h), (1, .int ((-1 : Int32)))]) hx hb dX7_inRound_28 hl (by decide) rfl (fun ls hl => ?_)
        refine lv_iload_n hx hb dX7_inRound_30 rfl (lv_at hl 3 rfl) ?_
        refine lv_aload_n hx hb dX7_inRound_31 rfl (lv_at hl 4 rfl) ?_
        refine lv_aload_n hx hb dX7_inRound_32 rfl (lv_at hl 4 rfl) ?_
        refine gf_7_16 hx hb hts hown hK hP 0 rfl rfl dX7_inRound_33 ?_
        refine lv_iload hx hb dX7_inRound_36 (lv_at hl 0 rfl) ?_
        refine cl_7_152 (As := [.ref (q 2), .int (nI (exN bx (fun i => g (8 + i)) (bx 0)))]) (rest := [.int (nI (n))]) hx hb hml hts hown (k_X7_hasSense hB hN.bd (by rw [e9_q]; have := eb_lt hB nw k; omega)) (by decide) ⟨Nat.zero_le _, Nat.zero_le _⟩ hK hP hD hS hA 0 rfl [0, 1, 2] rfl (by decide) rfl hl.1 rfl (Nat.le_of_ble_eq_true rfl) dX7_inRound_38 (fun r_7 u H locs hp_8 hP hD hS => ?_)
        obtain ⟨rfl, rfl⟩ := hp_8
        have hP : va_P D vwCl [mO h q zmu zmk zmz zms zma zmc, (q 0, .inl (cI, 54, .inl (fun z_ => nI (bx z_)))), (q 2, .inl (cI, 76, .inl (fun z_ => nI (nw z_)))), (q 9, .inl (cI, 76, .inl (fun z_ => nI (g z_))))] _ := hP
        have hD : va_D A [mO h q zmu zmk zmz zms zma zmc, (q 0, .inl (cI, 54, .inl (fun z_ => nI (bx z_)))), (q 2, .inl (cI, 76, .inl (fun z_ => nI (nw z_)))), (q 9, .inl (cI, 76, .inl (fun z_ => nI (g z_))))] := hD
        refine n_ifb_eq (tgt := 66) hx hb dX7_inRound_41 (by decide) (fun c_9 => ?_) (fun c_9 => ?_)
        · -- 41 to 66
          have hs1_q := c_9
          refine lv_iconst (v := nI 0) hx hb dX7_inRound_66 (by decide) ?_
          refine n_iadd hx hb dX7_inRound_67  ?_
          refine lv_istore_n (lv' := [(2, .int (nI (n + 0))), (5, .int (nI (exN bx (fun i => g (8 + i)) (bx 0)))), (4, .int (nI (k))), (3, .int (nI (rdN bx nw (bx 0)))), (0, .ref h), (1, .int ((-1 : Int32)))]) hx hb dX7_inRound_68 rfl hl (by decide) rfl (fun ls hl => ?_)
          refine lv_aload_n hx hb dX7_inRound_69 rfl (lv_at hl 4 rfl) ?_
          refine lv_aload_n hx hb dX7_inRound_70 rfl (lv_at hl 4 rfl) ?_
          refine gf_7_37 hx hb hts hown hK hP 0 rfl rfl dX7_inRound_71 ?_
          refine cl_7_144 (As := [.ref (q 9)]) (rest := []) hx hb hml hts hown (k_X7_turns hB hgb_q) (by decide) ⟨Nat.zero_le _, Nat.zero_le _⟩ hK hP hD hS hA 0 rfl [0, 1, 3] rfl (by decide) rfl hl.1 rfl (Nat.le_of_ble_eq_true rfl) dX7_inRound_74 (fun  u H locs hp_10 hP hD hS => ?_)
          subst hp_10
          have hP : va_P D vwCl [mO h q zmu zmk zmz zms zma zmc, (q 0, .inl (cI, 54, .inl (fun z_ => nI (bx z_)))), (q 2, .inl (cI, 76, .inl (fun z_ => nI (nw z_)))), (q 9, .inl (cI, 76, .inl (fun z_ => nI ((tuN bx g) z_))))] _ := hP
          have hD : va_D A [mO h q zmu zmk zmz zms zma zmc, (q 0, .inl (cI, 54, .inl (fun z_ => nI (bx z_)))), (q 2, .inl (cI, 76, .inl (fun z_ => nI (nw z_)))), (q 9, .inl (cI, 76, .inl (fun z_ => nI ((tuN bx g) z_))))] := hD
          refine lv_iinc (v := nI (k + 1)) (lv' := [(4, .int (nI (k + 1))), (2, .int (nI (n + 0))), (5, .int (nI (exN bx (fun i => g (8 + i)) (bx 0)))), (3, .int (nI (rdN bx nw (bx 0)))), (0, .ref h), (1, .int ((-1 : Int32)))]) hx hb dX7_inRound_77 hl (k := 2) rfl (n_inc _ 1) (by decide) rfl (fun ls hl => ?_)
          refine lv_goto (tgt := 14) hx hb dX7_inRound_80 (by decide) ?_
          exact ih_14 (n + 0) (k + 1) (tuN bx g) (by omega) (by rw [hg]; exact tr_s hB nw k) (by rw [hn]; first | exact cn_1 (by rw [← e9_q]; assumption) | exact cn_0 (by rw [← e9_q]; assumption)) (by omega) _ _ hP hD hS _ (lv_sub hl [0, 3, 1, 4, 5] rfl)
        · -- 41 to 44
          have hs1_q := c_9
          refine lv_iload_n hx hb dX7_inRound_44 rfl (lv_at hl 5 rfl) ?_
          refine lv_if_lt (tgt := 62) hx hb dX7_inRound_45 (by decide) (fun c_11 => ?_) (fun c_11 => ?_)
          · -- 45 to 62
            refine lv_iconst (v := nI 1) hx hb dX7_inRound_62 (by decide) ?_
            refine lv_goto (tgt := 67) hx hb dX7_inRound_63 (by decide) ?_
            refine n_iadd hx hb dX7_inRound_67  ?_
            refine lv_istore_n (lv' := [(2, .int (nI (n + 1))), (5, .int (nI (exN bx (fun i => g (8 + i)) (bx 0)))), (4, .int (nI (k))), (3, .int (nI (rdN bx nw (bx 0)))), (0, .ref h), (1, .int ((-1 : Int32)))]) hx hb dX7_inRound_68 rfl hl (by decide) rfl (fun ls hl => ?_)
            refine lv_aload_n hx hb dX7_inRound_69 rfl (lv_at hl 4 rfl) ?_
            refine lv_aload_n hx hb dX7_inRound_70 rfl (lv_at hl 4 rfl) ?_
            refine gf_7_37 hx hb hts hown hK hP 0 rfl rfl dX7_inRound_71 ?_
            refine cl_7_144 (As := [.ref (q 9)]) (rest := []) hx hb hml hts hown (k_X7_turns hB hgb_q) (by decide) ⟨Nat.zero_le _, Nat.zero_le _⟩ hK hP hD hS hA 0 rfl [0, 1, 3] rfl (by decide) rfl hl.1 rfl (Nat.le_of_ble_eq_true rfl) dX7_inRound_74 (fun  u H locs hp_12 hP hD hS => ?_)
            subst hp_12
            have hP : va_P D vwCl [mO h q zmu zmk zmz zms zma zmc, (q 0, .inl (cI, 54, .inl (fun z_ => nI (bx z_)))), (q 2, .inl (cI, 76, .inl (fun z_ => nI (nw z_)))), (q 9, .inl (cI, 76, .inl (fun z_ => nI ((tuN bx g) z_))))] _ := hP
            have hD : va_D A [mO h q zmu zmk zmz zms zma zmc, (q 0, .inl (cI, 54, .inl (fun z_ => nI (bx z_)))), (q 2, .inl (cI, 76, .inl (fun z_ => nI (nw z_)))), (q 9, .inl (cI, 76, .inl (fun z_ => nI ((tuN bx g) z_))))] := hD
            refine lv_iinc (v := nI (k + 1)) (lv' := [(4, .int (nI (k + 1))), (2, .int (nI (n + 1))), (5, .int (nI (exN bx (fun i => g (8 + i)) (bx 0)))), (3, .int (nI (rdN bx nw (bx 0)))), (0, .ref h), (1, .int ((-1 : Int32)))]) hx hb dX7_inRound_77 hl (k := 2) rfl (n_inc _ 1) (by decide) rfl (fun ls hl => ?_)
            refine lv_goto (tgt := 14) hx hb dX7_inRound_80 (by decide) ?_
            exact ih_14 (n + 1) (k + 1) (tuN bx g) (by omega) (by rw [hg]; exact tr_s hB nw k) (by rw [hn]; first | exact cn_1 (by rw [← e9_q]; assumption) | exact cn_0 (by rw [← e9_q]; assumption)) (by omega) _ _ hP hD hS _ (lv_sub hl [0, 3, 1, 4, 5] rfl)
          · exact absurd (by decide) c_11
  exact loop_14 _ 0 0 nw (Nat.zero_le _) (tr_0 hG).symm rfl (Nat.lt_succ_self _) _ _ hP hD hS _ (lv_sub hl [0, 1, 2, 3, 4] rfl)
set_option maxHeartbeats 4000000 in
set_option maxRecDepth 100000 in
theorem k_X7_inRoundP {l : Launch} {D : va_G} {cI cC cB : ClassId} {h : Nat} {q : Nat → Nat} {zmu zmk zmz zms zma zmc : Nat} {bx nw f : Nat → Nat} {y : Nat} (hB : BxOk bx) (hG : GoOk bx nw) (hN : HdOk bx nw) (hbl : BdOk nw) (hy : y < bx 1) : MI l yX7_inRound cX7_inRound 6 (some .int) 3 D (Ty3 cI cC cB) [.ref h, .int (nI (y))] [mO h q zmu zmk zmz zms zma zmc, (q 0, .inl (cI, 54, .inl (fun z_ => nI (bx z_)))), (q 2, .inl (cI, 76, .inl (fun z_ => nI (nw z_)))), (q 9, .inl (cI, 76, .inl (fun z_ => nI (f z_))))] (fun r u => (∃ f2 : Nat → Nat, r = nI (cnB (fun k_ => frN bx nw y k_) (rdN bx nw (bx 0))) ∧ u = [mO h q zmu zmk zmz zms zma zmc, (q 0, .inl (cI, 54, .inl (fun z_ => nI (bx z_)))), (q 2, .inl (cI, 76, .inl (fun z_ => nI (nw z_)))), (q 9, .inl (cI, 76, .inl (fun z_ => nI (f2 z_))))])) := by
  intro sz
  refine MI.walk (by decide +kernel) (Nat.le_of_ble_eq_true rfl) ?_
  intro p e s m args below meth c A Qf hx hb hml hts hown hret hK hP hD hS hA ls hl
  have hown : s.vm.findClass RX7 = some m.cls := hown
  have hl : lv_has ls 6 [(0, .ref h), (1, .int (nI (y)))] := hl
  have hP : va_P D vwCl [mO h q zmu zmk zmz zms zma zmc, (q 0, .inl (cI, 54, .inl (fun z_ => nI (bx z_)))), (q 2, .inl (cI, 76, .inl (fun z_ => nI (nw z_)))), (q 9, .inl (cI, 76, .inl (fun z_ => nI (f z_))))] s.heap := hP
  have hD : va_D A [mO h q zmu zmk zmz zms zma zmc, (q 0, .inl (cI, 54, .inl (fun z_ => nI (bx z_)))), (q 2, .inl (cI, 76, .inl (fun z_ => nI (nw z_)))), (q 9, .inl (cI, 76, .inl (fun z_ => nI (f z_))))] := hD
  have hpn := hB.n
  refine lv_aload_n hx hb dX7_inRound_0 rfl (lv_at hl 0 rfl) ?_
  refine cl_7_201 (As := []) (rest := []) hx hb hml hts hown (k_X7_layAside ) (by decide) ⟨Nat.zero_le _, Nat.zero_le _⟩ hK hP hD hS hA 0 rfl [0, 2, 3] rfl (by decide) rfl hl.1 rfl (Nat.le_of_ble_eq_true rfl) dX7_inRound_1 (fun  u H locs hp_1 hP hD hS => ?_)
  subst hp_1
  have hP : va_P D vwCl [mO h q zmu zmk zmz zms zma zmc, (q 0, .inl (cI, 54, .inl (fun z_ => nI (bx z_)))), (q 2, .inl (cI, 76, .inl (fun z_ => nI (nw z_)))), (q 9, .inl (cI, 76, .inl (fun z_ => nI (nw z_))))] _ := hP
  have hD : va_D A [mO h q zmu zmk zmz zms zma zmc, (q 0, .inl (cI, 54, .inl (fun z_ => nI (bx z_)))), (q 2, .inl (cI, 76, .inl (fun z_ => nI (nw z_)))), (q 9, .inl (cI, 76, .inl (fun z_ => nI (nw z_))))] := hD
  refine lv_iconst (v := nI 0) hx hb dX7_inRound_4 (by decide) ?_
  refine lv_istore_n (lv' := [(2, .int (nI (0))), (0, .ref h), (1, .int (nI (y)))]) hx hb dX7_inRound_5 rfl hl (by decide) rfl (fun ls hl => ?_)
  refine lv_aload_n hx hb dX7_inRound_6 rfl (lv_at hl 1 rfl) ?_
  refine cl_7_207 (As := []) (rest := []) hx hb hml hts hown (k_X7_round hB hG hN.bd) (by decide) ⟨Nat.zero_le _, Nat.zero_le _⟩ hK hP hD hS hA 0 rfl [0, 1, 2] rfl (by decide) rfl hl.1 rfl (Nat.le_of_ble_eq_true rfl) dX7_inRound_7 (fun r_2 u H locs hp_3 hP hD hS => ?_)
  obtain ⟨rfl, rfl⟩ := hp_3
  have hP : va_P D vwCl [mO h q zmu zmk zmz zms zma zmc, (q 0, .inl (cI, 54, .inl (fun z_ => nI (bx z_)))), (q 2, .inl (cI, 76, .inl (fun z_ => nI (nw z_)))), (q 9, .inl (cI, 76, .inl (fun z_ => nI (nw z_))))] _ := hP
  have hD : va_D A [mO h q zmu zmk zmz zms zma zmc, (q 0, .inl (cI, 54, .inl (fun z_ => nI (bx z_)))), (q 2, .inl (cI, 76, .inl (fun z_ => nI (nw z_)))), (q 9, .inl (cI, 76, .inl (fun z_ => nI (nw z_))))] := hD
  refine lv_istore_n (lv' := [(3, .int (nI (rdN bx nw (bx 0)))), (2, .int (nI (0))), (0, .ref h), (1, .int (nI (y)))]) hx hb dX7_inRound_10 rfl hl (by decide) rfl (fun ls hl => ?_)
  refine lv_iconst (v := nI 0) hx hb dX7_inRound_11 (by decide) ?_
  refine lv_istore (lv' := [(4, .int (nI (0))), (3, .int (nI (rdN bx nw (bx 0)))), (2, .int (nI (0))), (0, .ref h), (1, .int (nI (y)))]) hx hb dX7_inRound_12 hl (by decide) rfl (fun ls hl => ?_)
  have loop_14 : ∀ (N : Nat) (n : Nat) (k : Nat) (g : Nat → Nat), (k ≤ rdN bx nw (bx 0)) → (g = trN bx nw k) → (n = cnB (fun k_ => frN bx nw y k_) k) → (rdN bx nw (bx 0) - k) < N → ∀ (H : Heap) (locs : List Loc), va_P D vwCl [mO h q zmu zmk zmz zms zma zmc, (q 0, .inl (cI, 54, .inl (fun z_ => nI (bx z_)))), (q 2, .inl (cI, 76, .inl (fun z_ => nI (nw z_)))), (q 9, .inl (cI, 76, .inl (fun z_ => nI (g z_))))] H → va_D A [mO h q zmu zmk zmz zms zma zmc, (q 0, .inl (cI, 54, .inl (fun z_ => nI (bx z_)))), (q 2, .inl (cI, 76, .inl (fun z_ => nI (nw z_)))), (q 9, .inl (cI, 76, .inl (fun z_ => nI (g z_))))] → va_S A s.heap H locs → ∀ ls : Array Slot, lv_has ls 6 [(4, .int (nI (k))), (3, .int (nI (rdN bx nw (bx 0)))), (2, .int (nI (n))), (0, .ref h), (1, .int (nI (y)))] → W p l e (rmL 3) s m args below meth c H locs 0 0 Qf (F0 m 14 ls []) := by
    intro N; induction N with
    | zero => intro n k g _ _ _ hm; omega
    | succ N ih_14 =>
      intro n k g hk hg hn hm H locs hP hD hS ls hl
      have hrd := rd_le2 (nw := nw) hB (Nat.le_refl _)
      have hgb_q : ∀ j, g j < 100000000 := by rw [hg]; exact tr_bd hB hN hbl k (by omega)
      refine lv_iload hx hb dX7_inRound_14 (lv_at hl 0 rfl) ?_
      refine lv_iload_n hx hb dX7_inRound_16 rfl (lv_at hl 1 rfl) ?_
      refine n_icmp_ge (tgt := 83) hx hb dX7_inRound_17 (by decide) (by omega) (by omega) (fun c_4 => ?_) (fun c_4 => ?_)
      · -- 17 to 83
        refine lv_iload_n hx hb dX7_inRound_83 rfl (lv_at hl 2 rfl) ?_
        refine hret hP hD hS dX7_inRound_84 rfl rfl ?_
        exact ⟨g, by rw [hn, show k = rdN bx nw (bx 0) by omega], rfl⟩
      · -- 17 to 20
        refine lv_aload_n hx hb dX7_inRound_20 rfl (lv_at hl 3 rfl) ?_
        refine lv_aload_n hx hb dX7_inRound_21 rfl (lv_at hl 3 rfl) ?_
        refine gf_7_37 hx hb hts hown hK hP 0 rfl rfl dX7_inRound_22 ?_
        refine cl_7_148 (As := [.ref (q 9)]) (rest := []) hx hb hml hts hown (k_X7_upOn hB) (by decide) ⟨Nat.zero_le _, Nat.zero_le _⟩ hK hP hD hS hA 0 rfl [0, 1, 3] rfl (by decide) rfl hl.1 rfl (Nat.le_of_ble_eq_true rfl) dX7_inRound_25 (fun r_5 u H locs hp_6 hP hD hS => ?_)
        obtain ⟨rfl, rfl⟩ := hp_6
        have hP : va_P D vwCl [mO h q zmu zmk zmz zms zma zmc, (q 0, .inl (cI, 54, .inl (fun z_ => nI (bx z_)))), (q 2, .inl (cI, 76, .inl (fun z_ => nI (nw z_)))), (q 9, .inl (cI, 76, .inl (fun z_ => nI (g z_))))] _ := hP
        have hD : va_D A [mO h q zmu zmk zmz zms zma zmc, (q 0, .inl (cI, 54, .inl (fun z_ => nI (bx z_)))), (q 2, .inl (cI, 76, .inl (fun z_ => nI (nw z_)))), (q 9, .inl (cI, 76, .inl (fun z_ => nI (g z_))))] := hD
        have e9_q : exN bx (fun i => g (8 + i)) (bx 0) = ebN bx nw k := by rw [hg]; exact tr_eb hB nw k
        refine lv_istore (lv' := [(5, .int (nI (exN bx (fun i => g (8 + i)) (bx 0)))), (4, .int (nI (k))), (3, .int (nI (rdN bx nw (bx 0)))), (2, .int (nI (n))), (0, .ref h), (1, .int (nI (y)))]) hx hb dX7_inRound_28 hl (by decide) rfl (fun ls hl => ?_)
        refine lv_iload_n hx hb dX7_inRound_30 rfl (lv_at hl 3 rfl) ?_
        refine lv_aload_n hx hb dX7_inRound_31 rfl (lv_at hl 4 rfl) ?_
        refine lv_aload_n hx hb dX7_inRound_32 rfl (lv_at hl 4 rfl) ?_
        refine gf_7_16 hx hb hts hown hK hP 0 rfl rfl dX7_inRound_33 ?_
        refine lv_iload hx hb dX7_inRound_36 (lv_at hl 0 rfl) ?_
        refine cl_7_152 (As := [.ref (q 2), .int (nI (exN bx (fun i => g (8 + i)) (bx 0)))]) (rest := [.int (nI (n))]) hx hb hml hts hown (k_X7_hasSense hB hN.bd (by rw [e9_q]; have := eb_lt hB nw k; omega)) (by decide) ⟨Nat.zero_le _, Nat.zero_le _⟩ hK hP hD hS hA 0 rfl [0, 1, 2] rfl (by decide) rfl hl.1 rfl (Nat.le_of_ble_eq_true rfl) dX7_inRound_38 (fun r_7 u H locs hp_8 hP hD hS => ?_)
        obtain ⟨rfl, rfl⟩ := hp_8
        have hP : va_P D vwCl [mO h q zmu zmk zmz zms zma zmc, (q 0, .inl (cI, 54, .inl (fun z_ => nI (bx z_)))), (q 2, .inl (cI, 76, .inl (fun z_ => nI (nw z_)))), (q 9, .inl (cI, 76, .inl (fun z_ => nI (g z_))))] _ := hP
        have hD : va_D A [mO h q zmu zmk zmz zms zma zmc, (q 0, .inl (cI, 54, .inl (fun z_ => nI (bx z_)))), (q 2, .inl (cI, 76, .inl (fun z_ => nI (nw z_)))), (q 9, .inl (cI, 76, .inl (fun z_ => nI (g z_))))] := hD
        refine n_ifb_eq (tgt := 66) hx hb dX7_inRound_41 (by decide) (fun c_9 => ?_) (fun c_9 => ?_)
        · -- 41 to 66
          have hs1_q := c_9
          refine lv_iconst (v := nI 0) hx hb dX7_inRound_66 (by decide) ?_
          refine n_iadd hx hb dX7_inRound_67  ?_
          refine lv_istore_n (lv' := [(2, .int (nI (n + 0))), (5, .int (nI (exN bx (fun i => g (8 + i)) (bx 0)))), (4, .int (nI (k))), (3, .int (nI (rdN bx nw (bx 0)))), (0, .ref h), (1, .int (nI (y)))]) hx hb dX7_inRound_68 rfl hl (by decide) rfl (fun ls hl => ?_)
          refine lv_aload_n hx hb dX7_inRound_69 rfl (lv_at hl 4 rfl) ?_
          refine lv_aload_n hx hb dX7_inRound_70 rfl (lv_at hl 4 rfl) ?_
          refine gf_7_37 hx hb hts hown hK hP 0 rfl rfl dX7_inRound_71 ?_
          refine cl_7_144 (As := [.ref (q 9)]) (rest := []) hx hb hml hts hown (k_X7_turns hB hgb_q) (by decide) ⟨Nat.zero_le _, Nat.zero_le _⟩ hK hP hD hS hA 0 rfl [0, 1, 3] rfl (by decide) rfl hl.1 rfl (Nat.le_of_ble_eq_true rfl) dX7_inRound_74 (fun  u H locs hp_10 hP hD hS => ?_)
          subst hp_10
          have hP : va_P D vwCl [mO h q zmu zmk zmz zms zma zmc, (q 0, .inl (cI, 54, .inl (fun z_ => nI (bx z_)))), (q 2, .inl (cI, 76, .inl (fun z_ => nI (nw z_)))), (q 9, .inl (cI, 76, .inl (fun z_ => nI ((tuN bx g) z_))))] _ := hP
          have hD : va_D A [mO h q zmu zmk zmz zms zma zmc, (q 0, .inl (cI, 54, .inl (fun z_ => nI (bx z_)))), (q 2, .inl (cI, 76, .inl (fun z_ => nI (nw z_)))), (q 9, .inl (cI, 76, .inl (fun z_ => nI ((tuN bx g) z_))))] := hD
          refine lv_iinc (v := nI (k + 1)) (lv' := [(4, .int (nI (k + 1))), (2, .int (nI (n + 0))), (5, .int (nI (exN bx (fun i => g (8 + i)) (bx 0)))), (3, .int (nI (rdN bx nw (bx 0)))), (0, .ref h), (1, .int (nI (y)))]) hx hb dX7_inRound_77 hl (k := 2) rfl (n_inc _ 1) (by decide) rfl (fun ls hl => ?_)
          refine lv_goto (tgt := 14) hx hb dX7_inRound_80 (by decide) ?_
          exact ih_14 (n + 0) (k + 1) (tuN bx g) (by omega) (by rw [hg]; exact tr_s hB nw k) (by rw [hn]; first | exact cn_1 (fr_1 (by rw [← e9_q]; exact hs1_q) (by rw [← e9_q]; exact hs2_q)) | exact cn_0 (fr_01 (by rw [← e9_q]; exact hs1_q)) | exact cn_0 (fr_02 (by rw [← e9_q]; exact hs2_q))) (by omega) _ _ hP hD hS _ (lv_sub hl [0, 3, 1, 4, 5] rfl)
        · -- 41 to 44
          have hs1_q := c_9
          refine lv_iload_n hx hb dX7_inRound_44 rfl (lv_at hl 5 rfl) ?_
          refine n_if_lt (tgt := 62) hx hb dX7_inRound_45 (by decide) (by omega) ?_
          refine lv_aload_n hx hb dX7_inRound_48 rfl (lv_at hl 4 rfl) ?_
          refine lv_aload_n hx hb dX7_inRound_49 rfl (lv_at hl 4 rfl) ?_
          refine gf_7_16 hx hb hts hown hK hP 0 rfl rfl dX7_inRound_50 ?_
          refine lv_iload hx hb dX7_inRound_53 (lv_at hl 0 rfl) ?_
          refine lv_iload_n hx hb dX7_inRound_55 rfl (lv_at hl 5 rfl) ?_
          refine cl_7_156 (As := [.ref (q 2), .int (nI (exN bx (fun i => g (8 + i)) (bx 0))), .int (nI (y))]) (rest := [.int (nI (n))]) hx hb hml hts hown (k_X7_isStale hB hN hy (by rw [e9_q]; have := eb_lt hB nw k; omega)) (by decide) ⟨Nat.zero_le _, Nat.zero_le _⟩ hK hP hD hS hA 0 rfl [0, 1, 2] rfl (by decide) rfl hl.1 rfl (Nat.le_of_ble_eq_true rfl) dX7_inRound_56 (fun r_12 u H locs hp_13 hP hD hS => ?_)
          obtain ⟨rfl, rfl⟩ := hp_13
          have hP : va_P D vwCl [mO h q zmu zmk zmz zms zma zmc, (q 0, .inl (cI, 54, .inl (fun z_ => nI (bx z_)))), (q 2, .inl (cI, 76, .inl (fun z_ => nI (nw z_)))), (q 9, .inl (cI, 76, .inl (fun z_ => nI (g z_))))] _ := hP
          have hD : va_D A [mO h q zmu zmk zmz zms zma zmc, (q 0, .inl (cI, 54, .inl (fun z_ => nI (bx z_)))), (q 2, .inl (cI, 76, .inl (fun z_ => nI (nw z_)))), (q 9, .inl (cI, 76, .inl (fun z_ => nI (g z_))))] := hD
          refine n_ifb_ne (tgt := 66) hx hb dX7_inRound_59 (by decide) (fun c_14 => ?_) (fun c_14 => ?_)
          · -- 59 to 66
            have hs2_q := c_14
            refine lv_iconst (v := nI 0) hx hb dX7_inRound_66 (by decide) ?_
            refine n_iadd hx hb dX7_inRound_67  ?_
            refine lv_istore_n (lv' := [(2, .int (nI (n + 0))), (5, .int (nI (exN bx (fun i => g (8 + i)) (bx 0)))), (4, .int (nI (k))), (3, .int (nI (rdN bx nw (bx 0)))), (0, .ref h), (1, .int (nI (y)))]) hx hb dX7_inRound_68 rfl hl (by decide) rfl (fun ls hl => ?_)
            refine lv_aload_n hx hb dX7_inRound_69 rfl (lv_at hl 4 rfl) ?_
            refine lv_aload_n hx hb dX7_inRound_70 rfl (lv_at hl 4 rfl) ?_
            refine gf_7_37 hx hb hts hown hK hP 0 rfl rfl dX7_inRound_71 ?_
            refine cl_7_144 (As := [.ref (q 9)]) (rest := []) hx hb hml hts hown (k_X7_turns hB hgb_q) (by decide) ⟨Nat.zero_le _, Nat.zero_le _⟩ hK hP hD hS hA 0 rfl [0, 1, 3] rfl (by decide) rfl hl.1 rfl (Nat.le_of_ble_eq_true rfl) dX7_inRound_74 (fun  u H locs hp_15 hP hD hS => ?_)
            subst hp_15
            have hP : va_P D vwCl [mO h q zmu zmk zmz zms zma zmc, (q 0, .inl (cI, 54, .inl (fun z_ => nI (bx z_)))), (q 2, .inl (cI, 76, .inl (fun z_ => nI (nw z_)))), (q 9, .inl (cI, 76, .inl (fun z_ => nI ((tuN bx g) z_))))] _ := hP
            have hD : va_D A [mO h q zmu zmk zmz zms zma zmc, (q 0, .inl (cI, 54, .inl (fun z_ => nI (bx z_)))), (q 2, .inl (cI, 76, .inl (fun z_ => nI (nw z_)))), (q 9, .inl (cI, 76, .inl (fun z_ => nI ((tuN bx g) z_))))] := hD
            refine lv_iinc (v := nI (k + 1)) (lv' := [(4, .int (nI (k + 1))), (2, .int (nI (n + 0))), (5, .int (nI (exN bx (fun i => g (8 + i)) (bx 0)))), (3, .int (nI (rdN bx nw (bx 0)))), (0, .ref h), (1, .int (nI (y)))]) hx hb dX7_inRound_77 hl (k := 2) rfl (n_inc _ 1) (by decide) rfl (fun ls hl => ?_)
            refine lv_goto (tgt := 14) hx hb dX7_inRound_80 (by decide) ?_
            exact ih_14 (n + 0) (k + 1) (tuN bx g) (by omega) (by rw [hg]; exact tr_s hB nw k) (by rw [hn]; first | exact cn_1 (fr_1 (by rw [← e9_q]; exact hs1_q) (by rw [← e9_q]; exact hs2_q)) | exact cn_0 (fr_01 (by rw [← e9_q]; exact hs1_q)) | exact cn_0 (fr_02 (by rw [← e9_q]; exact hs2_q))) (by omega) _ _ hP hD hS _ (lv_sub hl [0, 3, 1, 4, 5] rfl)
          · -- 59 to 62
            have hs2_q := c_14
            refine lv_iconst (v := nI 1) hx hb dX7_inRound_62 (by decide) ?_
            refine lv_goto (tgt := 67) hx hb dX7_inRound_63 (by decide) ?_
            refine n_iadd hx hb dX7_inRound_67  ?_
            refine lv_istore_n (lv' := [(2, .int (nI (n + 1))), (5, .int (nI (exN bx (fun i => g (8 + i)) (bx 0)))), (4, .int (nI (k))), (3, .int (nI (rdN bx nw (bx 0)))), (0, .ref h), (1, .int (nI (y)))]) hx hb dX7_inRound_68 rfl hl (by decide) rfl (fun ls hl => ?_)
            refine lv_aload_n hx hb dX7_inRound_69 rfl (lv_at hl 4 rfl) ?_
            refine lv_aload_n hx hb dX7_inRound_70 rfl (lv_at hl 4 rfl) ?_
            refine gf_7_37 hx hb hts hown hK hP 0 rfl rfl dX7_inRound_71 ?_
            refine cl_7_144 (As := [.ref (q 9)]) (rest := []) hx hb hml hts hown (k_X7_turns hB hgb_q) (by decide) ⟨Nat.zero_le _, Nat.zero_le _⟩ hK hP hD hS hA 0 rfl [0, 1, 3] rfl (by decide) rfl hl.1 rfl (Nat.le_of_ble_eq_true rfl) dX7_inRound_74 (fun  u H locs hp_16 hP hD hS => ?_)
            subst hp_16
            have hP : va_P D vwCl [mO h q zmu zmk zmz zms zma zmc, (q 0, .inl (cI, 54, .inl (fun z_ => nI (bx z_)))), (q 2, .inl (cI, 76, .inl (fun z_ => nI (nw z_)))), (q 9, .inl (cI, 76, .inl (fun z_ => nI ((tuN bx g) z_))))] _ := hP
            have hD : va_D A [mO h q zmu zmk zmz zms zma zmc, (q 0, .inl (cI, 54, .inl (fun z_ => nI (bx z_)))), (q 2, .inl (cI, 76, .inl (fun z_ => nI (nw z_)))), (q 9, .inl (cI, 76, .inl (fun z_ => nI ((tuN bx g) z_))))] := hD
            refine lv_iinc (v := nI (k + 1)) (lv' := [(4, .int (nI (k + 1))), (2, .int (nI (n + 1))), (5, .int (nI (exN bx (fun i => g (8 + i)) (bx 0)))), (3, .int (nI (rdN bx nw (bx 0)))), (0, .ref h), (1, .int (nI (y)))]) hx hb dX7_inRound_77 hl (k := 2) rfl (n_inc _ 1) (by decide) rfl (fun ls hl => ?_)
            refine lv_goto (tgt := 14) hx hb dX7_inRound_80 (by decide) ?_
            exact ih_14 (n + 1) (k + 1) (tuN bx g) (by omega) (by rw [hg]; exact tr_s hB nw k) (by rw [hn]; first | exact cn_1 (fr_1 (by rw [← e9_q]; exact hs1_q) (by rw [← e9_q]; exact hs2_q)) | exact cn_0 (fr_01 (by rw [← e9_q]; exact hs1_q)) | exact cn_0 (fr_02 (by rw [← e9_q]; exact hs2_q))) (by omega) _ _ hP hD hS _ (lv_sub hl [0, 3, 1, 4, 5] rfl)
  exact loop_14 _ 0 0 nw (Nat.zero_le _) (tr_0 hG).symm rfl (Nat.lt_succ_self _) _ _ hP hD hS _ (lv_sub hl [0, 1, 2, 3, 4] rfl)


theorem iw_a {x : Int32} {n : Nat} (h : x < 0) : 0 = b2n (inN x n) := b2n_e0 (by
  simp only [inN, decide_eq_false_iff_not]
  rw [fa_lt] at h
  have : (0 : Int32).toInt = 0 := by decide
  omega)
theorem iw_b {x : Int32} {n : Nat} (hn : n < 2147483648) (h : nI n ≤ x) : 0 = b2n (inN x n) := b2n_e0 (by
  simp only [inN, decide_eq_false_iff_not]
  rw [fa_le, nI_toInt (by omega)] at h
  omega)
theorem iw_c {x : Int32} {n : Nat} (hn : n < 2147483648) (h : ¬ x < 0) (h2 : ¬ nI n ≤ x) : 1 = b2n (inN x n) := b2n_e1 (by
  simp only [inN, decide_eq_true_eq]
  rw [fa_lt] at h
  rw [fa_le, nI_toInt (by omega)] at h2
  have : (0 : Int32).toInt = 0 := by decide
  omega)
theorem ip_0 {x : Int32} (h : x = 0) : 1 = b2n (inR x 0 1) := by subst h; decide
theorem ip_1 {x : Int32} (h : ¬ x ≠ nI 1) : 1 = b2n (inR x 0 1) := by
  have h1 : x = nI 1 := Classical.not_not.mp h
  subst h1; decide
theorem ip_3 {x : Int32} (h : x = nI 1) : 1 = b2n (inR x 0 1) := by subst h; decide
theorem ip_2 {x : Int32} (h : ¬ x = 0) (h2 : x ≠ nI 1) : 0 = b2n (inR x 0 1) := b2n_e0 (by
  cases hr : inR x 0 1 with
  | false => rfl
  | true =>
    obtain ⟨j, h3, h4, rfl⟩ := inR_e (by omega) hr
    rcases (show j = 0 ∨ j = 1 by omega) with rfl | rfl
    · exact absurd nI_0 h
    · exact absurd rfl h2)
theorem inR_out {x : Int32} {a : Nat} (h : x.toInt < 0 ∨ ((a : Int) + 1) ≤ x.toInt) : inR x 0 a = false := by
  simp only [inR, decide_eq_false_iff_not]
  omega
theorem in03_0 : inR (nI 0) 0 3 = true := by decide
theorem in03_1 : inR (nI 1) 0 3 = true := by decide
theorem in03_2 : inR (nI 2) 0 3 = true := by decide
theorem in03_3 : inR (nI 3) 0 3 = true := by decide
theorem in04_0 : inR (nI 0) 0 4 = true := by decide
theorem in04_1 : inR (nI 1) 0 4 = true := by decide
theorem in04_2 : inR (nI 2) 0 4 = true := by decide
theorem in04_3 : inR (nI 3) 0 4 = true := by decide
theorem in04_4 : inR (nI 4) 0 4 = true := by decide
theorem in10_0 : inR (nI 0) 0 10 = true := by decide
theorem in10_1 : inR (nI 1) 0 10 = true := by decide
theorem in10_2 : inR (nI 2) 0 10 = true := by decide
theorem in10_3 : inR (nI 3) 0 10 = true := by decide
theorem in10_4 : inR (nI 4) 0 10 = true := by decide
theorem in10_5 : inR (nI 5) 0 10 = true := by decide
theorem in10_6 : inR (nI 6) 0 10 = true := by decide
theorem in10_7 : inR (nI 7) 0 10 = true := by decide
theorem in10_8 : inR (nI 8) 0 10 = true := by decide
theorem in10_9 : inR (nI 9) 0 10 = true := by decide
theorem in10_10 : inR (nI 10) 0 10 = true := by decide
theorem ixl_0 : ix (nI 0) = 0 := by decide
theorem ixl_1 : ix (nI 1) = 1 := by decide
theorem ixl_2 : ix (nI 2) = 2 := by decide
theorem ixl_3 : ix (nI 3) = 3 := by decide
theorem ixl_4 : ix (nI 4) = 4 := by decide
theorem ixl_5 : ix (nI 5) = 5 := by decide
theorem ixl_6 : ix (nI 6) = 6 := by decide
theorem ixl_7 : ix (nI 7) = 7 := by decide
theorem ixl_8 : ix (nI 8) = 8 := by decide
theorem ixl_9 : ix (nI 9) = 9 := by decide
theorem ixl_10 : ix (nI 10) = 10 := by decide
theorem fi_w {bx nw up st ex tl he dy se : Nat → Nat} {fi j : Nat} (hX : BoR bx nw up st ex tl he dy se fi) (hj : j < bx 0) (hf : nw (12 + j) < 64) : fi / 2 ^ (j * 6 + 0) &&& 63 = nw (12 + j) := by
  apply Nat.eq_of_testBit_eq
  intro t
  rw [Nat.testBit_and, Nat.testBit_div_two_pow, show (63 : Nat) = 2 ^ 6 - 1 from rfl, Nat.testBit_two_pow_sub_one]
  by_cases ht : t < 6
  · have h1 := hX.f j hj t ht
    rw [Nat.add_zero, Nat.add_comm t, h1]
    simp [ht]
  · have h2 : Nat.testBit (nw (12 + j)) t = false := Nat.testBit_lt_two_pow (Nat.lt_of_lt_of_le hf (Nat.pow_le_pow_right (n := 2) (i := 6) (by omega) (by omega)))
    simp [ht, h2]

set_option maxHeartbeats 4000000 in
set_option maxRecDepth 100000 in
theorem k_X6_isWheel {l : Launch} {D : va_G} {cI cC cB : ClassId} {o xt xg xu xk xd xe xf : Nat} {b : Nat} {a : Nat} {pq : Nat → Nat} {bx te ps pu sd cj ta : Nat → Nat} {x : Int32} (hR : PlR bx te ps pu sd cj ta) : MI l yX6_isWheel cX6_isWheel 2 (some .boolean) 0 D (Ty3 cI cC cB) [.ref o, .int (x)] [(o, .inr (6, [.ref xt, .ref xg, .ref xu, .ref xk, .ref b, .ref xd, .ref xe, .ref a, .ref xf])), pO a pq (bx 0) (bx 2) (bx 1) (szN bx (bx 0)) (bx 3) (bx 4), (pq 0, .inl (cI, 4, .inl (fun z_ => nI (te z_)))), (pq 1, .inl (cI, 4, .inl (fun z_ => nI (ps z_)))), (pq 2, .inl (cI, 4, .inl (fun z_ => nI (pu z_)))), (pq 3, .inl (cI, 4, .inl (fun z_ => nI (sd z_)))), (pq 4, .inl (cI, 8, .inl (fun z_ => nI (cj z_)))), (pq 5, .inl (cI, 5, .inl (fun z_ => nI (ta z_))))] (fun r u => (r = nI (b2n (inN x (bx 0))) ∧ u = [(o, .inr (6, [.ref xt, .ref xg, .ref xu, .ref xk, .ref b, .ref xd, .ref xe, .ref a, .ref xf])), pO a pq (bx 0) (bx 2) (bx 1) (szN bx (bx 0)) (bx 3) (bx 4), (pq 0, .inl (cI, 4, .inl (fun z_ => nI (te z_)))), (pq 1, .inl (cI, 4, .inl (fun z_ => nI (ps z_)))), (pq 2, .inl (cI, 4, .inl (fun z_ => nI (pu z_)))), (pq 3, .inl (cI, 4, .inl (fun z_ => nI (sd z_)))), (pq 4, .inl (cI, 8, .inl (fun z_ => nI (cj z_)))), (pq 5, .inl (cI, 5, .inl (fun z_ => nI (ta z_))))])) := by
  intro sz
  refine MI.walk (by decide +kernel) (Nat.le_of_ble_eq_true rfl) ?_
  intro p e s m args below meth c A Qf hx hb hml hts hown hret hK hP hD hS hA ls hl
  have hown : s.vm.findClass RX6 = some m.cls := hown
  have hl : lv_has ls 2 [(0, .ref o), (1, .int (x))] := hl
  have hP : va_P D vwCl [(o, .inr (6, [.ref xt, .ref xg, .ref xu, .ref xk, .ref b, .ref xd, .ref xe, .ref a, .ref xf])), pO a pq (bx 0) (bx 2) (bx 1) (szN bx (bx 0)) (bx 3) (bx 4), (pq 0, .inl (cI, 4, .inl (fun z_ => nI (te z_)))), (pq 1, .inl (cI, 4, .inl (fun z_ => nI (ps z_)))), (pq 2, .inl (cI, 4, .inl (fun z_ => nI (pu z_)))), (pq 3, .inl (cI, 4, .inl (fun z_ => nI (sd z_)))), (pq 4, .inl (cI, 8, .inl (fun z_ => nI (cj z_)))), (pq 5, .inl (cI, 5, .inl (fun z_ => nI (ta z_))))] s.heap := hP
  have hD : va_D A [(o, .inr (6, [.ref xt, .ref xg, .ref xu, .ref xk, .ref b, .ref xd, .ref xe, .ref a, .ref xf])), pO a pq (bx 0) (bx 2) (bx 1) (szN bx (bx 0)) (bx 3) (bx 4), (pq 0, .inl (cI, 4, .inl (fun z_ => nI (te z_)))), (pq 1, .inl (cI, 4, .inl (fun z_ => nI (ps z_)))), (pq 2, .inl (cI, 4, .inl (fun z_ => nI (pu z_)))), (pq 3, .inl (cI, 4, .inl (fun z_ => nI (sd z_)))), (pq 4, .inl (cI, 8, .inl (fun z_ => nI (cj z_)))), (pq 5, .inl (cI, 5, .inl (fun z_ => nI (ta z_))))] := hD
  have hb0_q := hR.b.bd 0
  refine lv_iload_n hx hb dX6_isWheel_0 rfl (lv_at hl 1 rfl) ?_
  refine lv_if_lt (tgt := 19) hx hb dX6_isWheel_1 (by decide) (fun c_1 => ?_) (fun c_1 => ?_)
  · -- 1 to 19
    refine lv_iconst (v := nI 0) hx hb dX6_isWheel_19 (by decide) ?_
    refine hret hP hD hS dX6_isWheel_20 (by decide) rfl ?_
    exact ⟨congrArg nI (by first | exact iw_a (by assumption) | exact iw_b (by omega) (by assumption) | exact iw_c (by omega) (by assumption) (by assumption)), rfl⟩
  · -- 1 to 4
    refine lv_iload_n hx hb dX6_isWheel_4 rfl (lv_at hl 1 rfl) ?_
    refine lv_aload_n hx hb dX6_isWheel_5 rfl (lv_at hl 0 rfl) ?_
    refine gf_6_55 hx hb hts hown hK hP 0 rfl rfl dX6_isWheel_6 ?_
    refine gf_6_92 hx hb hts hown hK hP 1 rfl rfl dX6_isWheel_9 ?_
    refine lv_icmp_ge (tgt := 19) hx hb dX6_isWheel_12 (by decide) (fun c_2 => ?_) (fun c_2 => ?_)
    · -- 12 to 19
      refine lv_iconst (v := nI 0) hx hb dX6_isWheel_19 (by decide) ?_
      refine hret hP hD hS dX6_isWheel_20 (by decide) rfl ?_
      exact ⟨congrArg nI (by first | exact iw_a (by assumption) | exact iw_b (by omega) (by assumption) | exact iw_c (by omega) (by assumption) (by assumption)), rfl⟩
    · -- 12 to 15
      refine lv_iconst (v := nI 1) hx hb dX6_isWheel_15 (by decide) ?_
      refine lv_goto (tgt := 20) hx hb dX6_isWheel_16 (by decide) ?_
      refine hret hP hD hS dX6_isWheel_20 (by decide) rfl ?_
      exact ⟨congrArg nI (by first | exact iw_a (by assumption) | exact iw_b (by omega) (by assumption) | exact iw_c (by omega) (by assumption) (by assumption)), rfl⟩
set_option maxHeartbeats 4000000 in
set_option maxRecDepth 100000 in
theorem k_X6_isPerson {l : Launch} {D : va_G} {cI cC cB : ClassId} {o xt xg xu xk xd xe xf : Nat} {b : Nat} {a : Nat} {pq : Nat → Nat} {bx te ps pu sd cj ta : Nat → Nat} {x : Int32} (hR : PlR bx te ps pu sd cj ta) : MI l yX6_isPerson cX6_isPerson 2 (some .boolean) 0 D (Ty3 cI cC cB) [.ref o, .int (x)] [(o, .inr (6, [.ref xt, .ref xg, .ref xu, .ref xk, .ref b, .ref xd, .ref xe, .ref a, .ref xf])), pO a pq (bx 0) (bx 2) (bx 1) (szN bx (bx 0)) (bx 3) (bx 4), (pq 0, .inl (cI, 4, .inl (fun z_ => nI (te z_)))), (pq 1, .inl (cI, 4, .inl (fun z_ => nI (ps z_)))), (pq 2, .inl (cI, 4, .inl (fun z_ => nI (pu z_)))), (pq 3, .inl (cI, 4, .inl (fun z_ => nI (sd z_)))), (pq 4, .inl (cI, 8, .inl (fun z_ => nI (cj z_)))), (pq 5, .inl (cI, 5, .inl (fun z_ => nI (ta z_))))] (fun r u => (r = nI (b2n (inN x (bx 1))) ∧ u = [(o, .inr (6, [.ref xt, .ref xg, .ref xu, .ref xk, .ref b, .ref xd, .ref xe, .ref a, .ref xf])), pO a pq (bx 0) (bx 2) (bx 1) (szN bx (bx 0)) (bx 3) (bx 4), (pq 0, .inl (cI, 4, .inl (fun z_ => nI (te z_)))), (pq 1, .inl (cI, 4, .inl (fun z_ => nI (ps z_)))), (pq 2, .inl (cI, 4, .inl (fun z_ => nI (pu z_)))), (pq 3, .inl (cI, 4, .inl (fun z_ => nI (sd z_)))), (pq 4, .inl (cI, 8, .inl (fun z_ => nI (cj z_)))), (pq 5, .inl (cI, 5, .inl (fun z_ => nI (ta z_))))])) := by
  intro sz
  refine MI.walk (by decide +kernel) (Nat.le_of_ble_eq_true rfl) ?_
  intro p e s m args below meth c A Qf hx hb hml hts hown hret hK hP hD hS hA ls hl
  have hown : s.vm.findClass RX6 = some m.cls := hown
  have hl : lv_has ls 2 [(0, .ref o), (1, .int (x))] := hl
  have hP : va_P D vwCl [(o, .inr (6, [.ref xt, .ref xg, .ref xu, .ref xk, .ref b, .ref xd, .ref xe, .ref a, .ref xf])), pO a pq (bx 0) (bx 2) (bx 1) (szN bx (bx 0)) (bx 3) (bx 4), (pq 0, .inl (cI, 4, .inl (fun z_ => nI (te z_)))), (pq 1, .inl (cI, 4, .inl (fun z_ => nI (ps z_)))), (pq 2, .inl (cI, 4, .inl (fun z_ => nI (pu z_)))), (pq 3, .inl (cI, 4, .inl (fun z_ => nI (sd z_)))), (pq 4, .inl (cI, 8, .inl (fun z_ => nI (cj z_)))), (pq 5, .inl (cI, 5, .inl (fun z_ => nI (ta z_))))] s.heap := hP
  have hD : va_D A [(o, .inr (6, [.ref xt, .ref xg, .ref xu, .ref xk, .ref b, .ref xd, .ref xe, .ref a, .ref xf])), pO a pq (bx 0) (bx 2) (bx 1) (szN bx (bx 0)) (bx 3) (bx 4), (pq 0, .inl (cI, 4, .inl (fun z_ => nI (te z_)))), (pq 1, .inl (cI, 4, .inl (fun z_ => nI (ps z_)))), (pq 2, .inl (cI, 4, .inl (fun z_ => nI (pu z_)))), (pq 3, .inl (cI, 4, .inl (fun z_ => nI (sd z_)))), (pq 4, .inl (cI, 8, .inl (fun z_ => nI (cj z_)))), (pq 5, .inl (cI, 5, .inl (fun z_ => nI (ta z_))))] := hD
  have hb0_q := hR.b.bd 1
  refine lv_iload_n hx hb dX6_isPerson_0 rfl (lv_at hl 1 rfl) ?_
  refine lv_if_lt (tgt := 19) hx hb dX6_isPerson_1 (by decide) (fun c_1 => ?_) (fun c_1 => ?_)
  · -- 1 to 19
    refine lv_iconst (v := nI 0) hx hb dX6_isPerson_19 (by decide) ?_
    refine hret hP hD hS dX6_isPerson_20 (by decide) rfl ?_
    exact ⟨congrArg nI (by first | exact iw_a (by assumption) | exact iw_b (by omega) (by assumption) | exact iw_c (by omega) (by assumption) (by assumption)), rfl⟩
  · -- 1 to 4
    refine lv_iload_n hx hb dX6_isPerson_4 rfl (lv_at hl 1 rfl) ?_
    refine lv_aload_n hx hb dX6_isPerson_5 rfl (lv_at hl 0 rfl) ?_
    refine gf_6_55 hx hb hts hown hK hP 0 rfl rfl dX6_isPerson_6 ?_
    refine gf_6_253 hx hb hts hown hK hP 1 rfl rfl dX6_isPerson_9 ?_
    refine lv_icmp_ge (tgt := 19) hx hb dX6_isPerson_12 (by decide) (fun c_2 => ?_) (fun c_2 => ?_)
    · -- 12 to 19
      refine lv_iconst (v := nI 0) hx hb dX6_isPerson_19 (by decide) ?_
      refine hret hP hD hS dX6_isPerson_20 (by decide) rfl ?_
      exact ⟨congrArg nI (by first | exact iw_a (by assumption) | exact iw_b (by omega) (by assumption) | exact iw_c (by omega) (by assumption) (by assumption)), rfl⟩
    · -- 12 to 15
      refine lv_iconst (v := nI 1) hx hb dX6_isPerson_15 (by decide) ?_
      refine lv_goto (tgt := 20) hx hb dX6_isPerson_16 (by decide) ?_
      refine hret hP hD hS dX6_isPerson_20 (by decide) rfl ?_
      exact ⟨congrArg nI (by first | exact iw_a (by assumption) | exact iw_b (by omega) (by assumption) | exact iw_c (by omega) (by assumption) (by assumption)), rfl⟩
set_option maxHeartbeats 4000000 in
set_option maxRecDepth 100000 in
theorem k_X6_isExcuse {l : Launch} {D : va_G} {cI cC cB : ClassId} {o xt xg xu xk xd xe xf : Nat} {b : Nat} {a : Nat} {pq : Nat → Nat} {bx te ps pu sd cj ta : Nat → Nat} {x : Int32} (hR : PlR bx te ps pu sd cj ta) : MI l yX6_isExcuse cX6_isExcuse 2 (some .boolean) 0 D (Ty3 cI cC cB) [.ref o, .int (x)] [(o, .inr (6, [.ref xt, .ref xg, .ref xu, .ref xk, .ref b, .ref xd, .ref xe, .ref a, .ref xf])), pO a pq (bx 0) (bx 2) (bx 1) (szN bx (bx 0)) (bx 3) (bx 4), (pq 0, .inl (cI, 4, .inl (fun z_ => nI (te z_)))), (pq 1, .inl (cI, 4, .inl (fun z_ => nI (ps z_)))), (pq 2, .inl (cI, 4, .inl (fun z_ => nI (pu z_)))), (pq 3, .inl (cI, 4, .inl (fun z_ => nI (sd z_)))), (pq 4, .inl (cI, 8, .inl (fun z_ => nI (cj z_)))), (pq 5, .inl (cI, 5, .inl (fun z_ => nI (ta z_))))] (fun r u => (r = nI (b2n (inN x (szN bx (bx 0)))) ∧ u = [(o, .inr (6, [.ref xt, .ref xg, .ref xu, .ref xk, .ref b, .ref xd, .ref xe, .ref a, .ref xf])), pO a pq (bx 0) (bx 2) (bx 1) (szN bx (bx 0)) (bx 3) (bx 4), (pq 0, .inl (cI, 4, .inl (fun z_ => nI (te z_)))), (pq 1, .inl (cI, 4, .inl (fun z_ => nI (ps z_)))), (pq 2, .inl (cI, 4, .inl (fun z_ => nI (pu z_)))), (pq 3, .inl (cI, 4, .inl (fun z_ => nI (sd z_)))), (pq 4, .inl (cI, 8, .inl (fun z_ => nI (cj z_)))), (pq 5, .inl (cI, 5, .inl (fun z_ => nI (ta z_))))])) := by
  intro sz
  refine MI.walk (by decide +kernel) (Nat.le_of_ble_eq_true rfl) ?_
  intro p e s m args below meth c A Qf hx hb hml hts hown hret hK hP hD hS hA ls hl
  have hown : s.vm.findClass RX6 = some m.cls := hown
  have hl : lv_has ls 2 [(0, .ref o), (1, .int (x))] := hl
  have hP : va_P D vwCl [(o, .inr (6, [.ref xt, .ref xg, .ref xu, .ref xk, .ref b, .ref xd, .ref xe, .ref a, .ref xf])), pO a pq (bx 0) (bx 2) (bx 1) (szN bx (bx 0)) (bx 3) (bx 4), (pq 0, .inl (cI, 4, .inl (fun z_ => nI (te z_)))), (pq 1, .inl (cI, 4, .inl (fun z_ => nI (ps z_)))), (pq 2, .inl (cI, 4, .inl (fun z_ => nI (pu z_)))), (pq 3, .inl (cI, 4, .inl (fun z_ => nI (sd z_)))), (pq 4, .inl (cI, 8, .inl (fun z_ => nI (cj z_)))), (pq 5, .inl (cI, 5, .inl (fun z_ => nI (ta z_))))] s.heap := hP
  have hD : va_D A [(o, .inr (6, [.ref xt, .ref xg, .ref xu, .ref xk, .ref b, .ref xd, .ref xe, .ref a, .ref xf])), pO a pq (bx 0) (bx 2) (bx 1) (szN bx (bx 0)) (bx 3) (bx 4), (pq 0, .inl (cI, 4, .inl (fun z_ => nI (te z_)))), (pq 1, .inl (cI, 4, .inl (fun z_ => nI (ps z_)))), (pq 2, .inl (cI, 4, .inl (fun z_ => nI (pu z_)))), (pq 3, .inl (cI, 4, .inl (fun z_ => nI (sd z_)))), (pq 4, .inl (cI, 8, .inl (fun z_ => nI (cj z_)))), (pq 5, .inl (cI, 5, .inl (fun z_ => nI (ta z_))))] := hD
  have hb0_q := sz_lt hR.b
  refine lv_iload_n hx hb dX6_isExcuse_0 rfl (lv_at hl 1 rfl) ?_
  refine lv_if_lt (tgt := 19) hx hb dX6_isExcuse_1 (by decide) (fun c_1 => ?_) (fun c_1 => ?_)
  · -- 1 to 19
    refine lv_iconst (v := nI 0) hx hb dX6_isExcuse_19 (by decide) ?_
    refine hret hP hD hS dX6_isExcuse_20 (by decide) rfl ?_
    exact ⟨congrArg nI (by first | exact iw_a (by assumption) | exact iw_b (by omega) (by assumption) | exact iw_c (by omega) (by assumption) (by assumption)), rfl⟩
  · -- 1 to 4
    refine lv_iload_n hx hb dX6_isExcuse_4 rfl (lv_at hl 1 rfl) ?_
    refine lv_aload_n hx hb dX6_isExcuse_5 rfl (lv_at hl 0 rfl) ?_
    refine gf_6_55 hx hb hts hown hK hP 0 rfl rfl dX6_isExcuse_6 ?_
    refine gf_6_212 hx hb hts hown hK hP 1 rfl rfl dX6_isExcuse_9 ?_
    refine lv_icmp_ge (tgt := 19) hx hb dX6_isExcuse_12 (by decide) (fun c_2 => ?_) (fun c_2 => ?_)
    · -- 12 to 19
      refine lv_iconst (v := nI 0) hx hb dX6_isExcuse_19 (by decide) ?_
      refine hret hP hD hS dX6_isExcuse_20 (by decide) rfl ?_
      exact ⟨congrArg nI (by first | exact iw_a (by assumption) | exact iw_b (by omega) (by assumption) | exact iw_c (by omega) (by assumption) (by assumption)), rfl⟩
    · -- 12 to 15
      refine lv_iconst (v := nI 1) hx hb dX6_isExcuse_15 (by decide) ?_
      refine lv_goto (tgt := 20) hx hb dX6_isExcuse_16 (by decide) ?_
      refine hret hP hD hS dX6_isExcuse_20 (by decide) rfl ?_
      exact ⟨congrArg nI (by first | exact iw_a (by assumption) | exact iw_b (by omega) (by assumption) | exact iw_c (by omega) (by assumption) (by assumption)), rfl⟩
set_option maxHeartbeats 4000000 in
set_option maxRecDepth 100000 in
theorem k_X6_isHeard {l : Launch} {D : va_G} {cI cC cB : ClassId} {o xt xg xu xk xd xe xf : Nat} {a : Nat} {bx : Nat → Nat} {b : Nat} {bq : Nat → Nat} {nw up st ex tl he dy se : Nat → Nat} {fi : Nat} {x : Int32} (hX : BoR bx nw up st ex tl he dy se fi) : MI l yX6_isHeard cX6_isHeard 2 (some .boolean) 0 D (Ty3 cI cC cB) [.ref o, .int (x)] [(o, .inr (6, [.ref xt, .ref xg, .ref xu, .ref xk, .ref b, .ref xd, .ref xe, .ref a, .ref xf])), bO b bq fi (nw 2) (nw 0) (nw 1), (bq 0, .inl (cI, 4, .inl (fun z_ => nI (up z_)))), (bq 1, .inl (cI, 4, .inl (fun z_ => nI (st z_)))), (bq 2, .inl (cI, 12, .inl (fun z_ => nI (ex z_)))), (bq 3, .inl (cI, 12, .inl (fun z_ => nI (tl z_)))), (bq 4, .inl (cI, 12, .inl (fun z_ => nI (he z_)))), (bq 5, .inl (cI, 12, .inl (fun z_ => nI (dy z_)))), (bq 6, .inl (cI, 12, .inl (fun z_ => nI (se z_))))] (fun r u => (r = nI (b2n (inN x (nw 2))) ∧ u = [(o, .inr (6, [.ref xt, .ref xg, .ref xu, .ref xk, .ref b, .ref xd, .ref xe, .ref a, .ref xf])), bO b bq fi (nw 2) (nw 0) (nw 1), (bq 0, .inl (cI, 4, .inl (fun z_ => nI (up z_)))), (bq 1, .inl (cI, 4, .inl (fun z_ => nI (st z_)))), (bq 2, .inl (cI, 12, .inl (fun z_ => nI (ex z_)))), (bq 3, .inl (cI, 12, .inl (fun z_ => nI (tl z_)))), (bq 4, .inl (cI, 12, .inl (fun z_ => nI (he z_)))), (bq 5, .inl (cI, 12, .inl (fun z_ => nI (dy z_)))), (bq 6, .inl (cI, 12, .inl (fun z_ => nI (se z_))))])) := by
  intro sz
  refine MI.walk (by decide +kernel) (Nat.le_of_ble_eq_true rfl) ?_
  intro p e s m args below meth c A Qf hx hb hml hts hown hret hK hP hD hS hA ls hl
  have hown : s.vm.findClass RX6 = some m.cls := hown
  have hl : lv_has ls 2 [(0, .ref o), (1, .int (x))] := hl
  have hP : va_P D vwCl [(o, .inr (6, [.ref xt, .ref xg, .ref xu, .ref xk, .ref b, .ref xd, .ref xe, .ref a, .ref xf])), bO b bq fi (nw 2) (nw 0) (nw 1), (bq 0, .inl (cI, 4, .inl (fun z_ => nI (up z_)))), (bq 1, .inl (cI, 4, .inl (fun z_ => nI (st z_)))), (bq 2, .inl (cI, 12, .inl (fun z_ => nI (ex z_)))), (bq 3, .inl (cI, 12, .inl (fun z_ => nI (tl z_)))), (bq 4, .inl (cI, 12, .inl (fun z_ => nI (he z_)))), (bq 5, .inl (cI, 12, .inl (fun z_ => nI (dy z_)))), (bq 6, .inl (cI, 12, .inl (fun z_ => nI (se z_))))] s.heap := hP
  have hD : va_D A [(o, .inr (6, [.ref xt, .ref xg, .ref xu, .ref xk, .ref b, .ref xd, .ref xe, .ref a, .ref xf])), bO b bq fi (nw 2) (nw 0) (nw 1), (bq 0, .inl (cI, 4, .inl (fun z_ => nI (up z_)))), (bq 1, .inl (cI, 4, .inl (fun z_ => nI (st z_)))), (bq 2, .inl (cI, 12, .inl (fun z_ => nI (ex z_)))), (bq 3, .inl (cI, 12, .inl (fun z_ => nI (tl z_)))), (bq 4, .inl (cI, 12, .inl (fun z_ => nI (he z_)))), (bq 5, .inl (cI, 12, .inl (fun z_ => nI (dy z_)))), (bq 6, .inl (cI, 12, .inl (fun z_ => nI (se z_))))] := hD
  have hb0_q := hX.d.h
  refine lv_iload_n hx hb dX6_isHeard_0 rfl (lv_at hl 1 rfl) ?_
  refine lv_if_lt (tgt := 19) hx hb dX6_isHeard_1 (by decide) (fun c_1 => ?_) (fun c_1 => ?_)
  · -- 1 to 19
    refine lv_iconst (v := nI 0) hx hb dX6_isHeard_19 (by decide) ?_
    refine hret hP hD hS dX6_isHeard_20 (by decide) rfl ?_
    exact ⟨congrArg nI (by first | exact iw_a (by assumption) | exact iw_b (by omega) (by assumption) | exact iw_c (by omega) (by assumption) (by assumption)), rfl⟩
  · -- 1 to 4
    refine lv_iload_n hx hb dX6_isHeard_4 rfl (lv_at hl 1 rfl) ?_
    refine lv_aload_n hx hb dX6_isHeard_5 rfl (lv_at hl 0 rfl) ?_
    refine gf_6_38 hx hb hts hown hK hP 0 rfl rfl dX6_isHeard_6 ?_
    refine gf_6_177 hx hb hts hown hK hP 1 rfl rfl dX6_isHeard_9 ?_
    refine lv_icmp_ge (tgt := 19) hx hb dX6_isHeard_12 (by decide) (fun c_2 => ?_) (fun c_2 => ?_)
    · -- 12 to 19
      refine lv_iconst (v := nI 0) hx hb dX6_isHeard_19 (by decide) ?_
      refine hret hP hD hS dX6_isHeard_20 (by decide) rfl ?_
      exact ⟨congrArg nI (by first | exact iw_a (by assumption) | exact iw_b (by omega) (by assumption) | exact iw_c (by omega) (by assumption) (by assumption)), rfl⟩
    · -- 12 to 15
      refine lv_iconst (v := nI 1) hx hb dX6_isHeard_15 (by decide) ?_
      refine lv_goto (tgt := 20) hx hb dX6_isHeard_16 (by decide) ?_
      refine hret hP hD hS dX6_isHeard_20 (by decide) rfl ?_
      exact ⟨congrArg nI (by first | exact iw_a (by assumption) | exact iw_b (by omega) (by assumption) | exact iw_c (by omega) (by assumption) (by assumption)), rfl⟩
set_option maxHeartbeats 4000000 in
set_option maxRecDepth 100000 in
theorem k_X6_isTooth {l : Launch} {D : va_G} {cI cC cB : ClassId} {o xt xg xu xk xd xe xf : Nat} {b : Nat} {a : Nat} {pq : Nat → Nat} {bx te ps pu sd cj ta : Nat → Nat} {i : Nat} {x : Int32} (hR : PlR bx te ps pu sd cj ta) (hi : i < bx 0) : MI l yX6_isTooth cX6_isTooth 3 (some .boolean) 1 D (Ty3 cI cC cB) [.ref o, .int (nI (i)), .int (x)] [(o, .inr (6, [.ref xt, .ref xg, .ref xu, .ref xk, .ref b, .ref xd, .ref xe, .ref a, .ref xf])), pO a pq (bx 0) (bx 2) (bx 1) (szN bx (bx 0)) (bx 3) (bx 4), (pq 0, .inl (cI, 4, .inl (fun z_ => nI (te z_)))), (pq 1, .inl (cI, 4, .inl (fun z_ => nI (ps z_)))), (pq 2, .inl (cI, 4, .inl (fun z_ => nI (pu z_)))), (pq 3, .inl (cI, 4, .inl (fun z_ => nI (sd z_)))), (pq 4, .inl (cI, 8, .inl (fun z_ => nI (cj z_)))), (pq 5, .inl (cI, 5, .inl (fun z_ => nI (ta z_))))] (fun r u => (r = nI (b2n (inN x (bx (5 + i)))) ∧ u = [(o, .inr (6, [.ref xt, .ref xg, .ref xu, .ref xk, .ref b, .ref xd, .ref xe, .ref a, .ref xf])), pO a pq (bx 0) (bx 2) (bx 1) (szN bx (bx 0)) (bx 3) (bx 4), (pq 0, .inl (cI, 4, .inl (fun z_ => nI (te z_)))), (pq 1, .inl (cI, 4, .inl (fun z_ => nI (ps z_)))), (pq 2, .inl (cI, 4, .inl (fun z_ => nI (pu z_)))), (pq 3, .inl (cI, 4, .inl (fun z_ => nI (sd z_)))), (pq 4, .inl (cI, 8, .inl (fun z_ => nI (cj z_)))), (pq 5, .inl (cI, 5, .inl (fun z_ => nI (ta z_))))])) := by
  intro sz
  refine MI.walk (by decide +kernel) (Nat.le_of_ble_eq_true rfl) ?_
  intro p e s m args below meth c A Qf hx hb hml hts hown hret hK hP hD hS hA ls hl
  have hown : s.vm.findClass RX6 = some m.cls := hown
  have hl : lv_has ls 3 [(0, .ref o), (1, .int (nI (i))), (2, .int (x))] := hl
  have hP : va_P D vwCl [(o, .inr (6, [.ref xt, .ref xg, .ref xu, .ref xk, .ref b, .ref xd, .ref xe, .ref a, .ref xf])), pO a pq (bx 0) (bx 2) (bx 1) (szN bx (bx 0)) (bx 3) (bx 4), (pq 0, .inl (cI, 4, .inl (fun z_ => nI (te z_)))), (pq 1, .inl (cI, 4, .inl (fun z_ => nI (ps z_)))), (pq 2, .inl (cI, 4, .inl (fun z_ => nI (pu z_)))), (pq 3, .inl (cI, 4, .inl (fun z_ => nI (sd z_)))), (pq 4, .inl (cI, 8, .inl (fun z_ => nI (cj z_)))), (pq 5, .inl (cI, 5, .inl (fun z_ => nI (ta z_))))] s.heap := hP
  have hD : va_D A [(o, .inr (6, [.ref xt, .ref xg, .ref xu, .ref xk, .ref b, .ref xd, .ref xe, .ref a, .ref xf])), pO a pq (bx 0) (bx 2) (bx 1) (szN bx (bx 0)) (bx 3) (bx 4), (pq 0, .inl (cI, 4, .inl (fun z_ => nI (te z_)))), (pq 1, .inl (cI, 4, .inl (fun z_ => nI (ps z_)))), (pq 2, .inl (cI, 4, .inl (fun z_ => nI (pu z_)))), (pq 3, .inl (cI, 4, .inl (fun z_ => nI (sd z_)))), (pq 4, .inl (cI, 8, .inl (fun z_ => nI (cj z_)))), (pq 5, .inl (cI, 5, .inl (fun z_ => nI (ta z_))))] := hD
  have hb0_q := hR.b.bd (5 + i)
  have hw := hR.b.w
  have hrow := hR.r i hi
  refine lv_iload_n hx hb dX6_isTooth_0 rfl (lv_at hl 2 rfl) ?_
  refine lv_if_lt (tgt := 23) hx hb dX6_isTooth_1 (by decide) (fun c_1 => ?_) (fun c_1 => ?_)
  · -- 1 to 23
    refine lv_iconst (v := nI 0) hx hb dX6_isTooth_23 (by decide) ?_
    refine hret hP hD hS dX6_isTooth_24 (by decide) rfl ?_
    exact ⟨congrArg nI (by rw [← hrow.1]; first | exact iw_a (by assumption) | exact iw_b (by omega) (by assumption) | exact iw_c (by omega) (by assumption) (by assumption)), rfl⟩
  · -- 1 to 4
    refine lv_iload_n hx hb dX6_isTooth_4 rfl (lv_at hl 2 rfl) ?_
    refine lv_aload_n hx hb dX6_isTooth_5 rfl (lv_at hl 0 rfl) ?_
    refine gf_6_55 hx hb hts hown hK hP 0 rfl rfl dX6_isTooth_6 ?_
    refine gf_6_105 hx hb hts hown hK hP 1 rfl rfl dX6_isTooth_9 ?_
    refine lv_iload_n hx hb dX6_isTooth_12 rfl (lv_at hl 1 rfl) ?_
    refine cl_6_109 (As := [.ref (pq 0), .int (nI (i))]) (rest := [.int (x)]) hx hb hml hts hown (k_X6_at (by first | assumption | omega) (by first | assumption | omega)) (by decide) ⟨Nat.zero_le _, Nat.zero_le _⟩ hK hP hD hS hA [2] rfl (by decide) rfl hl.1 rfl (Nat.le_of_ble_eq_true rfl) dX6_isTooth_13 (fun r_2 u H locs hp_3 hP hD hS => ?_)
    obtain ⟨rfl, rfl⟩ := hp_3
    have hP : va_P D vwCl [(o, .inr (6, [.ref xt, .ref xg, .ref xu, .ref xk, .ref b, .ref xd, .ref xe, .ref a, .ref xf])), pO a pq (bx 0) (bx 2) (bx 1) (szN bx (bx 0)) (bx 3) (bx 4), (pq 0, .inl (cI, 4, .inl (fun z_ => nI (te z_)))), (pq 1, .inl (cI, 4, .inl (fun z_ => nI (ps z_)))), (pq 2, .inl (cI, 4, .inl (fun z_ => nI (pu z_)))), (pq 3, .inl (cI, 4, .inl (fun z_ => nI (sd z_)))), (pq 4, .inl (cI, 8, .inl (fun z_ => nI (cj z_)))), (pq 5, .inl (cI, 5, .inl (fun z_ => nI (ta z_))))] _ := hP
    have hD : va_D A [(o, .inr (6, [.ref xt, .ref xg, .ref xu, .ref xk, .ref b, .ref xd, .ref xe, .ref a, .ref xf])), pO a pq (bx 0) (bx 2) (bx 1) (szN bx (bx 0)) (bx 3) (bx 4), (pq 0, .inl (cI, 4, .inl (fun z_ => nI (te z_)))), (pq 1, .inl (cI, 4, .inl (fun z_ => nI (ps z_)))), (pq 2, .inl (cI, 4, .inl (fun z_ => nI (pu z_)))), (pq 3, .inl (cI, 4, .inl (fun z_ => nI (sd z_)))), (pq 4, .inl (cI, 8, .inl (fun z_ => nI (cj z_)))), (pq 5, .inl (cI, 5, .inl (fun z_ => nI (ta z_))))] := hD
    refine lv_icmp_ge (tgt := 23) hx hb dX6_isTooth_16 (by decide) (fun c_4 => ?_) (fun c_4 => ?_)
    · -- 16 to 23
      refine lv_iconst (v := nI 0) hx hb dX6_isTooth_23 (by decide) ?_
      refine hret hP hD hS dX6_isTooth_24 (by decide) rfl ?_
      exact ⟨congrArg nI (by rw [← hrow.1]; first | exact iw_a (by assumption) | exact iw_b (by omega) (by assumption) | exact iw_c (by omega) (by assumption) (by assumption)), rfl⟩
    · -- 16 to 19
      refine lv_iconst (v := nI 1) hx hb dX6_isTooth_19 (by decide) ?_
      refine lv_goto (tgt := 24) hx hb dX6_isTooth_20 (by decide) ?_
      refine hret hP hD hS dX6_isTooth_24 (by decide) rfl ?_
      exact ⟨congrArg nI (by rw [← hrow.1]; first | exact iw_a (by assumption) | exact iw_b (by omega) (by assumption) | exact iw_c (by omega) (by assumption) (by assumption)), rfl⟩
set_option maxHeartbeats 4000000 in
set_option maxRecDepth 100000 in
theorem k_X6_isPart {l : Launch} {D : va_G} {cI cC cB : ClassId} {x : Int32} : MI l yX6_isPart cX6_isPart 1 (some .boolean) 0 D (Ty3 cI cC cB) [.int (x)] [] (fun r u => (r = nI (b2n (inR x 0 1)) ∧ u = [])) := by
  intro sz
  refine MI.walk (by decide +kernel) (Nat.le_of_ble_eq_true rfl) ?_
  intro p e s m args below meth c A Qf hx hb hml hts hown hret hK hP hD hS hA ls hl
  have hown : s.vm.findClass RX6 = some m.cls := hown
  have hl : lv_has ls 1 [(0, .int (x))] := hl
  have hP : va_P D vwCl [] s.heap := hP
  have hD : va_D A [] := hD
  refine lv_iload_n hx hb dX6_isPart_0 rfl (lv_at hl 0 rfl) ?_
  refine lv_if_eq (tgt := 9) hx hb dX6_isPart_1 (by decide) (fun c_1 => ?_) (fun c_1 => ?_)
  · -- 1 to 9
    refine lv_iconst (v := nI 1) hx hb dX6_isPart_9 (by decide) ?_
    refine lv_goto (tgt := 14) hx hb dX6_isPart_10 (by decide) ?_
    refine hret hP hD hS dX6_isPart_14 (by decide) rfl ?_
    exact ⟨congrArg nI (by first | exact ip_0 (by assumption) | exact ip_1 (by assumption) | exact ip_1 (fun h9 => absurd h9 (by assumption)) | exact ip_2 (by assumption) (by assumption) | exact ip_2 (by assumption) (fun h9 => absurd h9 (by assumption)) | exact ip_3 (by assumption)), rfl⟩
  · -- 1 to 4
    refine lv_iload_n hx hb dX6_isPart_4 rfl (lv_at hl 0 rfl) ?_
    refine lv_iconst (v := nI 1) hx hb dX6_isPart_5 (by decide) ?_
    refine lv_icmp_ne (tgt := 13) hx hb dX6_isPart_6 (by decide) (fun c_2 => ?_) (fun c_2 => ?_)
    · -- 6 to 13
      refine lv_iconst (v := nI 0) hx hb dX6_isPart_13 (by decide) ?_
      refine hret hP hD hS dX6_isPart_14 (by decide) rfl ?_
      exact ⟨congrArg nI (by first | exact ip_0 (by assumption) | exact ip_1 (by assumption) | exact ip_1 (fun h9 => absurd h9 (by assumption)) | exact ip_2 (by assumption) (by assumption) | exact ip_2 (by assumption) (fun h9 => absurd h9 (by assumption)) | exact ip_3 (by assumption)), rfl⟩
    · -- 6 to 9
      refine lv_iconst (v := nI 1) hx hb dX6_isPart_9 (by decide) ?_
      refine lv_goto (tgt := 14) hx hb dX6_isPart_10 (by decide) ?_
      refine hret hP hD hS dX6_isPart_14 (by decide) rfl ?_
      exact ⟨congrArg nI (by first | exact ip_0 (by assumption) | exact ip_1 (by assumption) | exact ip_1 (fun h9 => absurd h9 (by assumption)) | exact ip_2 (by assumption) (by assumption) | exact ip_2 (by assumption) (fun h9 => absurd h9 (by assumption)) | exact ip_3 (by assumption)), rfl⟩
set_option maxHeartbeats 4000000 in
set_option maxRecDepth 100000 in
theorem k_X6_talks {l : Launch} {D : va_G} {cI cC cB : ClassId} {o xt xg xu xk xd xe xf : Nat} {b : Nat} {a : Nat} {pq : Nat → Nat} {bx te ps pu sd cj ta : Nat → Nat} {x : Int32} (hR : PlR bx te ps pu sd cj ta) : MI l yX6_talks cX6_talks 2 (some .int) 2 D (Ty3 cI cC cB) [.ref o, .int (x)] [(o, .inr (6, [.ref xt, .ref xg, .ref xu, .ref xk, .ref b, .ref xd, .ref xe, .ref a, .ref xf])), pO a pq (bx 0) (bx 2) (bx 1) (szN bx (bx 0)) (bx 3) (bx 4), (pq 0, .inl (cI, 4, .inl (fun z_ => nI (te z_)))), (pq 1, .inl (cI, 4, .inl (fun z_ => nI (ps z_)))), (pq 2, .inl (cI, 4, .inl (fun z_ => nI (pu z_)))), (pq 3, .inl (cI, 4, .inl (fun z_ => nI (sd z_)))), (pq 4, .inl (cI, 8, .inl (fun z_ => nI (cj z_)))), (pq 5, .inl (cI, 5, .inl (fun z_ => nI (ta z_))))] (fun r u => (r = taA bx x ∧ u = [(o, .inr (6, [.ref xt, .ref xg, .ref xu, .ref xk, .ref b, .ref xd, .ref xe, .ref a, .ref xf])), pO a pq (bx 0) (bx 2) (bx 1) (szN bx (bx 0)) (bx 3) (bx 4), (pq 0, .inl (cI, 4, .inl (fun z_ => nI (te z_)))), (pq 1, .inl (cI, 4, .inl (fun z_ => nI (ps z_)))), (pq 2, .inl (cI, 4, .inl (fun z_ => nI (pu z_)))), (pq 3, .inl (cI, 4, .inl (fun z_ => nI (sd z_)))), (pq 4, .inl (cI, 8, .inl (fun z_ => nI (cj z_)))), (pq 5, .inl (cI, 5, .inl (fun z_ => nI (ta z_))))])) := by
  intro sz
  refine MI.walk (by decide +kernel) (Nat.le_of_ble_eq_true rfl) ?_
  intro p e s m args below meth c A Qf hx hb hml hts hown hret hK hP hD hS hA ls hl
  have hown : s.vm.findClass RX6 = some m.cls := hown
  have hl : lv_has ls 2 [(0, .ref o), (1, .int (x))] := hl
  have hP : va_P D vwCl [(o, .inr (6, [.ref xt, .ref xg, .ref xu, .ref xk, .ref b, .ref xd, .ref xe, .ref a, .ref xf])), pO a pq (bx 0) (bx 2) (bx 1) (szN bx (bx 0)) (bx 3) (bx 4), (pq 0, .inl (cI, 4, .inl (fun z_ => nI (te z_)))), (pq 1, .inl (cI, 4, .inl (fun z_ => nI (ps z_)))), (pq 2, .inl (cI, 4, .inl (fun z_ => nI (pu z_)))), (pq 3, .inl (cI, 4, .inl (fun z_ => nI (sd z_)))), (pq 4, .inl (cI, 8, .inl (fun z_ => nI (cj z_)))), (pq 5, .inl (cI, 5, .inl (fun z_ => nI (ta z_))))] s.heap := hP
  have hD : va_D A [(o, .inr (6, [.ref xt, .ref xg, .ref xu, .ref xk, .ref b, .ref xd, .ref xe, .ref a, .ref xf])), pO a pq (bx 0) (bx 2) (bx 1) (szN bx (bx 0)) (bx 3) (bx 4), (pq 0, .inl (cI, 4, .inl (fun z_ => nI (te z_)))), (pq 1, .inl (cI, 4, .inl (fun z_ => nI (ps z_)))), (pq 2, .inl (cI, 4, .inl (fun z_ => nI (pu z_)))), (pq 3, .inl (cI, 4, .inl (fun z_ => nI (sd z_)))), (pq 4, .inl (cI, 8, .inl (fun z_ => nI (cj z_)))), (pq 5, .inl (cI, 5, .inl (fun z_ => nI (ta z_))))] := hD
  refine lv_aload_n hx hb dX6_talks_0 rfl (lv_at hl 0 rfl) ?_
  refine lv_iload_n hx hb dX6_talks_1 rfl (lv_at hl 1 rfl) ?_
  refine cl_6_126 (As := [.int (x)]) (rest := []) hx hb hml hts hown (k_X6_isPerson (by first | assumption | omega)) (by decide) ⟨Nat.zero_le _, Nat.zero_le _⟩ hK hP hD hS hA 0 rfl [0, 1, 2, 3, 4, 5, 6, 7] rfl (by decide) rfl hl.1 rfl (Nat.le_of_ble_eq_true rfl) dX6_talks_2 (fun r_1 u H locs hp_2 hP hD hS => ?_)
  obtain ⟨rfl, rfl⟩ := hp_2
  have hP : va_P D vwCl [(o, .inr (6, [.ref xt, .ref xg, .ref xu, .ref xk, .ref b, .ref xd, .ref xe, .ref a, .ref xf])), pO a pq (bx 0) (bx 2) (bx 1) (szN bx (bx 0)) (bx 3) (bx 4), (pq 0, .inl (cI, 4, .inl (fun z_ => nI (te z_)))), (pq 1, .inl (cI, 4, .inl (fun z_ => nI (ps z_)))), (pq 2, .inl (cI, 4, .inl (fun z_ => nI (pu z_)))), (pq 3, .inl (cI, 4, .inl (fun z_ => nI (sd z_)))), (pq 4, .inl (cI, 8, .inl (fun z_ => nI (cj z_)))), (pq 5, .inl (cI, 5, .inl (fun z_ => nI (ta z_))))] _ := hP
  have hD : va_D A [(o, .inr (6, [.ref xt, .ref xg, .ref xu, .ref xk, .ref b, .ref xd, .ref xe, .ref a, .ref xf])), pO a pq (bx 0) (bx 2) (bx 1) (szN bx (bx 0)) (bx 3) (bx 4), (pq 0, .inl (cI, 4, .inl (fun z_ => nI (te z_)))), (pq 1, .inl (cI, 4, .inl (fun z_ => nI (ps z_)))), (pq 2, .inl (cI, 4, .inl (fun z_ => nI (pu z_)))), (pq 3, .inl (cI, 4, .inl (fun z_ => nI (sd z_)))), (pq 4, .inl (cI, 8, .inl (fun z_ => nI (cj z_)))), (pq 5, .inl (cI, 5, .inl (fun z_ => nI (ta z_))))] := hD
  refine n_ifb_eq (tgt := 19) hx hb dX6_talks_5 (by decide) (fun c_3 => ?_) (fun c_3 => ?_)
  · -- 5 to 19
    refine lv_iconst (v := (-1)) hx hb dX6_talks_19 (by decide) ?_
    refine hret hP hD hS dX6_talks_20 rfl rfl ?_
    exact ⟨by first | exact ta_t (by have := hR.b.n; omega) (by assumption) | exact ta_f (by assumption), rfl⟩
  · -- 5 to 8
    obtain ⟨j, hj, rfl⟩ := inN_e (by have := hR.b.bd 1; omega) c_3
    have hij_q : ix (nI j) = j := ix_n (by have := hR.b.bd 1; omega)
    have hicj_q : (nI j).toNatClampNeg = j := ix_n (by have := hR.b.bd 1; omega)
    refine lv_aload_n hx hb dX6_talks_8 rfl (lv_at hl 0 rfl) ?_
    refine gf_6_55 hx hb hts hown hK hP 0 rfl rfl dX6_talks_9 ?_
    refine lv_iload_n hx hb dX6_talks_12 rfl (lv_at hl 1 rfl) ?_
    refine cl_6_129 (As := [.int (nI (j))]) (rest := []) hx hb hml hts hown (k_X2_friendsOf (by first | assumption | omega) (by first | assumption | omega)) (by decide) ⟨Nat.zero_le _, Nat.zero_le _⟩ hK hP hD hS hA 1 rfl [1, 2, 3, 4, 5, 6, 7] rfl (by decide) rfl hl.1 rfl (Nat.le_of_ble_eq_true rfl) dX6_talks_13 (fun r_4 u H locs hp_5 hP hD hS => ?_)
    obtain ⟨rfl, rfl⟩ := hp_5
    have hP : va_P D vwCl [(o, .inr (6, [.ref xt, .ref xg, .ref xu, .ref xk, .ref b, .ref xd, .ref xe, .ref a, .ref xf])), pO a pq (bx 0) (bx 2) (bx 1) (szN bx (bx 0)) (bx 3) (bx 4), (pq 0, .inl (cI, 4, .inl (fun z_ => nI (te z_)))), (pq 1, .inl (cI, 4, .inl (fun z_ => nI (ps z_)))), (pq 2, .inl (cI, 4, .inl (fun z_ => nI (pu z_)))), (pq 3, .inl (cI, 4, .inl (fun z_ => nI (sd z_)))), (pq 4, .inl (cI, 8, .inl (fun z_ => nI (cj z_)))), (pq 5, .inl (cI, 5, .inl (fun z_ => nI (ta z_))))] _ := hP
    have hD : va_D A [(o, .inr (6, [.ref xt, .ref xg, .ref xu, .ref xk, .ref b, .ref xd, .ref xe, .ref a, .ref xf])), pO a pq (bx 0) (bx 2) (bx 1) (szN bx (bx 0)) (bx 3) (bx 4), (pq 0, .inl (cI, 4, .inl (fun z_ => nI (te z_)))), (pq 1, .inl (cI, 4, .inl (fun z_ => nI (ps z_)))), (pq 2, .inl (cI, 4, .inl (fun z_ => nI (pu z_)))), (pq 3, .inl (cI, 4, .inl (fun z_ => nI (sd z_)))), (pq 4, .inl (cI, 8, .inl (fun z_ => nI (cj z_)))), (pq 5, .inl (cI, 5, .inl (fun z_ => nI (ta z_))))] := hD
    refine lv_goto (tgt := 20) hx hb dX6_talks_16 (by decide) ?_
    refine hret hP hD hS dX6_talks_20 rfl rfl ?_
    exact ⟨by first | exact ta_t (by have := hR.b.n; omega) (by assumption) | exact ta_f (by assumption), rfl⟩
set_option maxHeartbeats 4000000 in
set_option maxRecDepth 100000 in
theorem k_X6_wheel {l : Launch} {D : va_G} {cI cC cB : ClassId} {o xt xg xu xk xd xe xf : Nat} {a : Nat} {pq : Nat → Nat} {bx te ps pu sd cj ta : Nat → Nat} {b : Nat} {bq : Nat → Nat} {nw up st ex tl he dy se : Nat → Nat} {fi : Nat} {x y : Int32} (hR : PlR bx te ps pu sd cj ta) (hX : BoR bx nw up st ex tl he dy se fi) (hF : ∀ i, i < bx 0 → nw (12 + i) < 64) : MI l yX6_wheel cX6_wheel 3 (some .int) 1 D (Ty3 cI cC cB) [.ref o, .int (x), .int (y)] [(o, .inr (6, [.ref xt, .ref xg, .ref xu, .ref xk, .ref b, .ref xd, .ref xe, .ref a, .ref xf])), bO b bq fi (nw 2) (nw 0) (nw 1), (bq 0, .inl (cI, 4, .inl (fun z_ => nI (up z_)))), (bq 1, .inl (cI, 4, .inl (fun z_ => nI (st z_)))), (bq 2, .inl (cI, 12, .inl (fun z_ => nI (ex z_)))), (bq 3, .inl (cI, 12, .inl (fun z_ => nI (tl z_)))), (bq 4, .inl (cI, 12, .inl (fun z_ => nI (he z_)))), (bq 5, .inl (cI, 12, .inl (fun z_ => nI (dy z_)))), (bq 6, .inl (cI, 12, .inl (fun z_ => nI (se z_)))), pO a pq (bx 0) (bx 2) (bx 1) (szN bx (bx 0)) (bx 3) (bx 4), (pq 0, .inl (cI, 4, .inl (fun z_ => nI (te z_)))), (pq 1, .inl (cI, 4, .inl (fun z_ => nI (ps z_)))), (pq 2, .inl (cI, 4, .inl (fun z_ => nI (pu z_)))), (pq 3, .inl (cI, 4, .inl (fun z_ => nI (sd z_)))), (pq 4, .inl (cI, 8, .inl (fun z_ => nI (cj z_)))), (pq 5, .inl (cI, 5, .inl (fun z_ => nI (ta z_))))] (fun r u => (r = whA bx nw x y ∧ u = [(o, .inr (6, [.ref xt, .ref xg, .ref xu, .ref xk, .ref b, .ref xd, .ref xe, .ref a, .ref xf])), bO b bq fi (nw 2) (nw 0) (nw 1), (bq 0, .inl (cI, 4, .inl (fun z_ => nI (up z_)))), (bq 1, .inl (cI, 4, .inl (fun z_ => nI (st z_)))), (bq 2, .inl (cI, 12, .inl (fun z_ => nI (ex z_)))), (bq 3, .inl (cI, 12, .inl (fun z_ => nI (tl z_)))), (bq 4, .inl (cI, 12, .inl (fun z_ => nI (he z_)))), (bq 5, .inl (cI, 12, .inl (fun z_ => nI (dy z_)))), (bq 6, .inl (cI, 12, .inl (fun z_ => nI (se z_)))), pO a pq (bx 0) (bx 2) (bx 1) (szN bx (bx 0)) (bx 3) (bx 4), (pq 0, .inl (cI, 4, .inl (fun z_ => nI (te z_)))), (pq 1, .inl (cI, 4, .inl (fun z_ => nI (ps z_)))), (pq 2, .inl (cI, 4, .inl (fun z_ => nI (pu z_)))), (pq 3, .inl (cI, 4, .inl (fun z_ => nI (sd z_)))), (pq 4, .inl (cI, 8, .inl (fun z_ => nI (cj z_)))), (pq 5, .inl (cI, 5, .inl (fun z_ => nI (ta z_))))])) := by
  intro sz
  refine MI.walk (by decide +kernel) (Nat.le_of_ble_eq_true rfl) ?_
  intro p e s m args below meth c A Qf hx hb hml hts hown hret hK hP hD hS hA ls hl
  have hown : s.vm.findClass RX6 = some m.cls := hown
  have hl : lv_has ls 3 [(0, .ref o), (1, .int (x)), (2, .int (y))] := hl
  have hP : va_P D vwCl [(o, .inr (6, [.ref xt, .ref xg, .ref xu, .ref xk, .ref b, .ref xd, .ref xe, .ref a, .ref xf])), bO b bq fi (nw 2) (nw 0) (nw 1), (bq 0, .inl (cI, 4, .inl (fun z_ => nI (up z_)))), (bq 1, .inl (cI, 4, .inl (fun z_ => nI (st z_)))), (bq 2, .inl (cI, 12, .inl (fun z_ => nI (ex z_)))), (bq 3, .inl (cI, 12, .inl (fun z_ => nI (tl z_)))), (bq 4, .inl (cI, 12, .inl (fun z_ => nI (he z_)))), (bq 5, .inl (cI, 12, .inl (fun z_ => nI (dy z_)))), (bq 6, .inl (cI, 12, .inl (fun z_ => nI (se z_)))), pO a pq (bx 0) (bx 2) (bx 1) (szN bx (bx 0)) (bx 3) (bx 4), (pq 0, .inl (cI, 4, .inl (fun z_ => nI (te z_)))), (pq 1, .inl (cI, 4, .inl (fun z_ => nI (ps z_)))), (pq 2, .inl (cI, 4, .inl (fun z_ => nI (pu z_)))), (pq 3, .inl (cI, 4, .inl (fun z_ => nI (sd z_)))), (pq 4, .inl (cI, 8, .inl (fun z_ => nI (cj z_)))), (pq 5, .inl (cI, 5, .inl (fun z_ => nI (ta z_))))] s.heap := hP
  have hD : va_D A [(o, .inr (6, [.ref xt, .ref xg, .ref xu, .ref xk, .ref b, .ref xd, .ref xe, .ref a, .ref xf])), bO b bq fi (nw 2) (nw 0) (nw 1), (bq 0, .inl (cI, 4, .inl (fun z_ => nI (up z_)))), (bq 1, .inl (cI, 4, .inl (fun z_ => nI (st z_)))), (bq 2, .inl (cI, 12, .inl (fun z_ => nI (ex z_)))), (bq 3, .inl (cI, 12, .inl (fun z_ => nI (tl z_)))), (bq 4, .inl (cI, 12, .inl (fun z_ => nI (he z_)))), (bq 5, .inl (cI, 12, .inl (fun z_ => nI (dy z_)))), (bq 6, .inl (cI, 12, .inl (fun z_ => nI (se z_)))), pO a pq (bx 0) (bx 2) (bx 1) (szN bx (bx 0)) (bx 3) (bx 4), (pq 0, .inl (cI, 4, .inl (fun z_ => nI (te z_)))), (pq 1, .inl (cI, 4, .inl (fun z_ => nI (ps z_)))), (pq 2, .inl (cI, 4, .inl (fun z_ => nI (pu z_)))), (pq 3, .inl (cI, 4, .inl (fun z_ => nI (sd z_)))), (pq 4, .inl (cI, 8, .inl (fun z_ => nI (cj z_)))), (pq 5, .inl (cI, 5, .inl (fun z_ => nI (ta z_))))] := hD
  refine lv_aload_n hx hb dX6_wheel_0 rfl (lv_at hl 0 rfl) ?_
  refine lv_iload_n hx hb dX6_wheel_1 rfl (lv_at hl 1 rfl) ?_
  refine cl_6_101 (As := [.int (x)]) (rest := []) hx hb hml hts hown (k_X6_isWheel (by first | assumption | omega)) (by decide) ⟨Nat.zero_le _, Nat.zero_le _⟩ hK hP hD hS hA 0 rfl [0, 9, 10, 11, 12, 13, 14, 15] rfl (by decide) rfl hl.1 rfl (Nat.le_of_ble_eq_true rfl) dX6_wheel_2 (fun r_1 u H locs hp_2 hP hD hS => ?_)
  obtain ⟨rfl, rfl⟩ := hp_2
  have hP : va_P D vwCl [(o, .inr (6, [.ref xt, .ref xg, .ref xu, .ref xk, .ref b, .ref xd, .ref xe, .ref a, .ref xf])), bO b bq fi (nw 2) (nw 0) (nw 1), (bq 0, .inl (cI, 4, .inl (fun z_ => nI (up z_)))), (bq 1, .inl (cI, 4, .inl (fun z_ => nI (st z_)))), (bq 2, .inl (cI, 12, .inl (fun z_ => nI (ex z_)))), (bq 3, .inl (cI, 12, .inl (fun z_ => nI (tl z_)))), (bq 4, .inl (cI, 12, .inl (fun z_ => nI (he z_)))), (bq 5, .inl (cI, 12, .inl (fun z_ => nI (dy z_)))), (bq 6, .inl (cI, 12, .inl (fun z_ => nI (se z_)))), pO a pq (bx 0) (bx 2) (bx 1) (szN bx (bx 0)) (bx 3) (bx 4), (pq 0, .inl (cI, 4, .inl (fun z_ => nI (te z_)))), (pq 1, .inl (cI, 4, .inl (fun z_ => nI (ps z_)))), (pq 2, .inl (cI, 4, .inl (fun z_ => nI (pu z_)))), (pq 3, .inl (cI, 4, .inl (fun z_ => nI (sd z_)))), (pq 4, .inl (cI, 8, .inl (fun z_ => nI (cj z_)))), (pq 5, .inl (cI, 5, .inl (fun z_ => nI (ta z_))))] _ := hP
  have hD : va_D A [(o, .inr (6, [.ref xt, .ref xg, .ref xu, .ref xk, .ref b, .ref xd, .ref xe, .ref a, .ref xf])), bO b bq fi (nw 2) (nw 0) (nw 1), (bq 0, .inl (cI, 4, .inl (fun z_ => nI (up z_)))), (bq 1, .inl (cI, 4, .inl (fun z_ => nI (st z_)))), (bq 2, .inl (cI, 12, .inl (fun z_ => nI (ex z_)))), (bq 3, .inl (cI, 12, .inl (fun z_ => nI (tl z_)))), (bq 4, .inl (cI, 12, .inl (fun z_ => nI (he z_)))), (bq 5, .inl (cI, 12, .inl (fun z_ => nI (dy z_)))), (bq 6, .inl (cI, 12, .inl (fun z_ => nI (se z_)))), pO a pq (bx 0) (bx 2) (bx 1) (szN bx (bx 0)) (bx 3) (bx 4), (pq 0, .inl (cI, 4, .inl (fun z_ => nI (te z_)))), (pq 1, .inl (cI, 4, .inl (fun z_ => nI (ps z_)))), (pq 2, .inl (cI, 4, .inl (fun z_ => nI (pu z_)))), (pq 3, .inl (cI, 4, .inl (fun z_ => nI (sd z_)))), (pq 4, .inl (cI, 8, .inl (fun z_ => nI (cj z_)))), (pq 5, .inl (cI, 5, .inl (fun z_ => nI (ta z_))))] := hD
  refine n_ifb_ne (tgt := 10) hx hb dX6_wheel_5 (by decide) (fun c_3 => ?_) (fun c_3 => ?_)
  · -- 5 to 10
    obtain ⟨j, hj, rfl⟩ := inN_e (by have := hR.b.bd 0; omega) c_3
    have hij_q : ix (nI j) = j := ix_n (by have := hR.b.bd 0; omega)
    have hicj_q : (nI j).toNatClampNeg = j := ix_n (by have := hR.b.bd 0; omega)
    have hw := hR.b.w
    have hrow := hR.r j hj
    have hrx := hX.u hR.b j hj
    have hfl_q : fi / 2 ^ (j * 6 + 0) &&& 63 = nw (12 + j) := fi_w hX hj (hF j hj)
    have hfl2_q : fi / 2 ^ (j * 6) &&& 63 = nw (12 + j) := hfl_q
    have hfi_q := hX.2.2.2.2.1
    refine lv_iload_n hx hb dX6_wheel_10 rfl (lv_at hl 2 rfl) ?_
    rcases tsw (y) 4 with c_4 | c_4 | ⟨j_sw, hj_sw, e_sw⟩
    · refine lv_tableOut (tgt := 93) hx hb dX6_wheel_11 (Or.inl (by omega)) (by decide) ?_
      have ho_q := inR_out (x := y) (a := 3) (by omega)
      refine lv_iconst (v := (-1)) hx hb dX6_wheel_93 (by decide) ?_
      refine hret hP hD hS dX6_wheel_94 rfl rfl ?_
      exact ⟨by simp [whA, c_3, hij_q, hicj_q, hw, hrow, hrx, hfl_q, hfl2_q, hfi_q, ho_q], rfl⟩
    · refine lv_tableOut (tgt := 93) hx hb dX6_wheel_11 (Or.inr (by omega)) (by decide) ?_
      have ho_q := inR_out (x := y) (a := 3) (by omega)
      refine lv_iconst (v := (-1)) hx hb dX6_wheel_93 (by decide) ?_
      refine hret hP hD hS dX6_wheel_94 rfl rfl ?_
      exact ⟨by simp [whA, c_3, hij_q, hicj_q, hw, hrow, hrx, hfl_q, hfl2_q, hfi_q, ho_q], rfl⟩
    · rcases (show j_sw = 0 ∨ j_sw = 1 ∨ j_sw = 2 ∨ j_sw = 3 by omega) with rfl | rfl | rfl | rfl
      · subst e_sw
        refine lv_tableIn (tgt := 40) hx hb dX6_wheel_11 (by decide) (by decide) (off := 29) (by decide) (by decide) ?_
        refine lv_aload_n hx hb dX6_wheel_40 rfl (lv_at hl 0 rfl) ?_
        refine gf_6_55 hx hb hts hown hK hP 0 rfl rfl dX6_wheel_41 ?_
        refine gf_6_105 hx hb hts hown hK hP 9 rfl rfl dX6_wheel_44 ?_
        refine lv_iload_n hx hb dX6_wheel_47 rfl (lv_at hl 1 rfl) ?_
        refine cl_6_109 (As := [.ref (pq 0), .int (nI (j))]) (rest := []) hx hb hml hts hown (k_X6_at (by first | assumption | omega) (by first | assumption | omega)) (by decide) ⟨Nat.zero_le _, Nat.zero_le _⟩ hK hP hD hS hA [10] rfl (by decide) rfl hl.1 rfl (Nat.le_of_ble_eq_true rfl) dX6_wheel_48 (fun r_5 u H locs hp_6 hP hD hS => ?_)
        obtain ⟨rfl, rfl⟩ := hp_6
        have hP : va_P D vwCl [(o, .inr (6, [.ref xt, .ref xg, .ref xu, .ref xk, .ref b, .ref xd, .ref xe, .ref a, .ref xf])), bO b bq fi (nw 2) (nw 0) (nw 1), (bq 0, .inl (cI, 4, .inl (fun z_ => nI (up z_)))), (bq 1, .inl (cI, 4, .inl (fun z_ => nI (st z_)))), (bq 2, .inl (cI, 12, .inl (fun z_ => nI (ex z_)))), (bq 3, .inl (cI, 12, .inl (fun z_ => nI (tl z_)))), (bq 4, .inl (cI, 12, .inl (fun z_ => nI (he z_)))), (bq 5, .inl (cI, 12, .inl (fun z_ => nI (dy z_)))), (bq 6, .inl (cI, 12, .inl (fun z_ => nI (se z_)))), pO a pq (bx 0) (bx 2) (bx 1) (szN bx (bx 0)) (bx 3) (bx 4), (pq 0, .inl (cI, 4, .inl (fun z_ => nI (te z_)))), (pq 1, .inl (cI, 4, .inl (fun z_ => nI (ps z_)))), (pq 2, .inl (cI, 4, .inl (fun z_ => nI (pu z_)))), (pq 3, .inl (cI, 4, .inl (fun z_ => nI (sd z_)))), (pq 4, .inl (cI, 8, .inl (fun z_ => nI (cj z_)))), (pq 5, .inl (cI, 5, .inl (fun z_ => nI (ta z_))))] _ := hP
        have hD : va_D A [(o, .inr (6, [.ref xt, .ref xg, .ref xu, .ref xk, .ref b, .ref xd, .ref xe, .ref a, .ref xf])), bO b bq fi (nw 2) (nw 0) (nw 1), (bq 0, .inl (cI, 4, .inl (fun z_ => nI (up z_)))), (bq 1, .inl (cI, 4, .inl (fun z_ => nI (st z_)))), (bq 2, .inl (cI, 12, .inl (fun z_ => nI (ex z_)))), (bq 3, .inl (cI, 12, .inl (fun z_ => nI (tl z_)))), (bq 4, .inl (cI, 12, .inl (fun z_ => nI (he z_)))), (bq 5, .inl (cI, 12, .inl (fun z_ => nI (dy z_)))), (bq 6, .inl (cI, 12, .inl (fun z_ => nI (se z_)))), pO a pq (bx 0) (bx 2) (bx 1) (szN bx (bx 0)) (bx 3) (bx 4), (pq 0, .inl (cI, 4, .inl (fun z_ => nI (te z_)))), (pq 1, .inl (cI, 4, .inl (fun z_ => nI (ps z_)))), (pq 2, .inl (cI, 4, .inl (fun z_ => nI (pu z_)))), (pq 3, .inl (cI, 4, .inl (fun z_ => nI (sd z_)))), (pq 4, .inl (cI, 8, .inl (fun z_ => nI (cj z_)))), (pq 5, .inl (cI, 5, .inl (fun z_ => nI (ta z_))))] := hD
        refine hret hP hD hS dX6_wheel_51 rfl rfl ?_
        exact ⟨by simp [whA, in03_0, in03_1, in03_2, in03_3, in04_0, in04_1, in04_2, in04_3, in04_4, ixl_0, ixl_1, ixl_2, ixl_3, ixl_4, ixl_5, ixl_6, ixl_7, ixl_8, ixl_9, ixl_10, in10_0, in10_1, in10_2, in10_3, in10_4, in10_5, in10_6, in10_7, in10_8, in10_9, in10_10, hrow.1, hrx.1, hrx.2.1, c_3, hij_q, hicj_q, hw, hrow, hrx, hfl_q, hfl2_q, hfi_q], rfl⟩
      · subst e_sw
        refine lv_tableIn (tgt := 52) hx hb dX6_wheel_11 (by decide) (by decide) (off := 41) (by decide) (by decide) ?_
        refine lv_aload_n hx hb dX6_wheel_52 rfl (lv_at hl 0 rfl) ?_
        refine gf_6_38 hx hb hts hown hK hP 0 rfl rfl dX6_wheel_53 ?_
        refine gf_6_113 hx hb hts hown hK hP 1 rfl rfl dX6_wheel_56 ?_
        refine lv_iload_n hx hb dX6_wheel_59 rfl (lv_at hl 1 rfl) ?_
        refine cl_6_109 (As := [.ref (bq 1), .int (nI (j))]) (rest := []) hx hb hml hts hown (k_X6_at (by first | assumption | omega) (by first | assumption | omega)) (by decide) ⟨Nat.zero_le _, Nat.zero_le _⟩ hK hP hD hS hA [3] rfl (by decide) rfl hl.1 rfl (Nat.le_of_ble_eq_true rfl) dX6_wheel_60 (fun r_7 u H locs hp_8 hP hD hS => ?_)
        obtain ⟨rfl, rfl⟩ := hp_8
        have hP : va_P D vwCl [(o, .inr (6, [.ref xt, .ref xg, .ref xu, .ref xk, .ref b, .ref xd, .ref xe, .ref a, .ref xf])), bO b bq fi (nw 2) (nw 0) (nw 1), (bq 0, .inl (cI, 4, .inl (fun z_ => nI (up z_)))), (bq 1, .inl (cI, 4, .inl (fun z_ => nI (st z_)))), (bq 2, .inl (cI, 12, .inl (fun z_ => nI (ex z_)))), (bq 3, .inl (cI, 12, .inl (fun z_ => nI (tl z_)))), (bq 4, .inl (cI, 12, .inl (fun z_ => nI (he z_)))), (bq 5, .inl (cI, 12, .inl (fun z_ => nI (dy z_)))), (bq 6, .inl (cI, 12, .inl (fun z_ => nI (se z_)))), pO a pq (bx 0) (bx 2) (bx 1) (szN bx (bx 0)) (bx 3) (bx 4), (pq 0, .inl (cI, 4, .inl (fun z_ => nI (te z_)))), (pq 1, .inl (cI, 4, .inl (fun z_ => nI (ps z_)))), (pq 2, .inl (cI, 4, .inl (fun z_ => nI (pu z_)))), (pq 3, .inl (cI, 4, .inl (fun z_ => nI (sd z_)))), (pq 4, .inl (cI, 8, .inl (fun z_ => nI (cj z_)))), (pq 5, .inl (cI, 5, .inl (fun z_ => nI (ta z_))))] _ := hP
        have hD : va_D A [(o, .inr (6, [.ref xt, .ref xg, .ref xu, .ref xk, .ref b, .ref xd, .ref xe, .ref a, .ref xf])), bO b bq fi (nw 2) (nw 0) (nw 1), (bq 0, .inl (cI, 4, .inl (fun z_ => nI (up z_)))), (bq 1, .inl (cI, 4, .inl (fun z_ => nI (st z_)))), (bq 2, .inl (cI, 12, .inl (fun z_ => nI (ex z_)))), (bq 3, .inl (cI, 12, .inl (fun z_ => nI (tl z_)))), (bq 4, .inl (cI, 12, .inl (fun z_ => nI (he z_)))), (bq 5, .inl (cI, 12, .inl (fun z_ => nI (dy z_)))), (bq 6, .inl (cI, 12, .inl (fun z_ => nI (se z_)))), pO a pq (bx 0) (bx 2) (bx 1) (szN bx (bx 0)) (bx 3) (bx 4), (pq 0, .inl (cI, 4, .inl (fun z_ => nI (te z_)))), (pq 1, .inl (cI, 4, .inl (fun z_ => nI (ps z_)))), (pq 2, .inl (cI, 4, .inl (fun z_ => nI (pu z_)))), (pq 3, .inl (cI, 4, .inl (fun z_ => nI (sd z_)))), (pq 4, .inl (cI, 8, .inl (fun z_ => nI (cj z_)))), (pq 5, .inl (cI, 5, .inl (fun z_ => nI (ta z_))))] := hD
        refine hret hP hD hS dX6_wheel_63 rfl rfl ?_
        exact ⟨by simp [whA, in03_0, in03_1, in03_2, in03_3, in04_0, in04_1, in04_2, in04_3, in04_4, ixl_0, ixl_1, ixl_2, ixl_3, ixl_4, ixl_5, ixl_6, ixl_7, ixl_8, ixl_9, ixl_10, in10_0, in10_1, in10_2, in10_3, in10_4, in10_5, in10_6, in10_7, in10_8, in10_9, in10_10, hrow.1, hrx.1, hrx.2.1, c_3, hij_q, hicj_q, hw, hrow, hrx, hfl_q, hfl2_q, hfi_q], rfl⟩
      · subst e_sw
        refine lv_tableIn (tgt := 64) hx hb dX6_wheel_11 (by decide) (by decide) (off := 53) (by decide) (by decide) ?_
        refine lv_aload_n hx hb dX6_wheel_64 rfl (lv_at hl 0 rfl) ?_
        refine gf_6_38 hx hb hts hown hK hP 0 rfl rfl dX6_wheel_65 ?_
        refine gf_6_116 hx hb hts hown hK hP 1 rfl rfl dX6_wheel_68 ?_
        refine lv_iload_n hx hb dX6_wheel_71 rfl (lv_at hl 1 rfl) ?_
        refine cl_6_109 (As := [.ref (bq 0), .int (nI (j))]) (rest := []) hx hb hml hts hown (k_X6_at (by first | assumption | omega) (by first | assumption | omega)) (by decide) ⟨Nat.zero_le _, Nat.zero_le _⟩ hK hP hD hS hA [2] rfl (by decide) rfl hl.1 rfl (Nat.le_of_ble_eq_true rfl) dX6_wheel_72 (fun r_9 u H locs hp_10 hP hD hS => ?_)
        obtain ⟨rfl, rfl⟩ := hp_10
        have hP : va_P D vwCl [(o, .inr (6, [.ref xt, .ref xg, .ref xu, .ref xk, .ref b, .ref xd, .ref xe, .ref a, .ref xf])), bO b bq fi (nw 2) (nw 0) (nw 1), (bq 0, .inl (cI, 4, .inl (fun z_ => nI (up z_)))), (bq 1, .inl (cI, 4, .inl (fun z_ => nI (st z_)))), (bq 2, .inl (cI, 12, .inl (fun z_ => nI (ex z_)))), (bq 3, .inl (cI, 12, .inl (fun z_ => nI (tl z_)))), (bq 4, .inl (cI, 12, .inl (fun z_ => nI (he z_)))), (bq 5, .inl (cI, 12, .inl (fun z_ => nI (dy z_)))), (bq 6, .inl (cI, 12, .inl (fun z_ => nI (se z_)))), pO a pq (bx 0) (bx 2) (bx 1) (szN bx (bx 0)) (bx 3) (bx 4), (pq 0, .inl (cI, 4, .inl (fun z_ => nI (te z_)))), (pq 1, .inl (cI, 4, .inl (fun z_ => nI (ps z_)))), (pq 2, .inl (cI, 4, .inl (fun z_ => nI (pu z_)))), (pq 3, .inl (cI, 4, .inl (fun z_ => nI (sd z_)))), (pq 4, .inl (cI, 8, .inl (fun z_ => nI (cj z_)))), (pq 5, .inl (cI, 5, .inl (fun z_ => nI (ta z_))))] _ := hP
        have hD : va_D A [(o, .inr (6, [.ref xt, .ref xg, .ref xu, .ref xk, .ref b, .ref xd, .ref xe, .ref a, .ref xf])), bO b bq fi (nw 2) (nw 0) (nw 1), (bq 0, .inl (cI, 4, .inl (fun z_ => nI (up z_)))), (bq 1, .inl (cI, 4, .inl (fun z_ => nI (st z_)))), (bq 2, .inl (cI, 12, .inl (fun z_ => nI (ex z_)))), (bq 3, .inl (cI, 12, .inl (fun z_ => nI (tl z_)))), (bq 4, .inl (cI, 12, .inl (fun z_ => nI (he z_)))), (bq 5, .inl (cI, 12, .inl (fun z_ => nI (dy z_)))), (bq 6, .inl (cI, 12, .inl (fun z_ => nI (se z_)))), pO a pq (bx 0) (bx 2) (bx 1) (szN bx (bx 0)) (bx 3) (bx 4), (pq 0, .inl (cI, 4, .inl (fun z_ => nI (te z_)))), (pq 1, .inl (cI, 4, .inl (fun z_ => nI (ps z_)))), (pq 2, .inl (cI, 4, .inl (fun z_ => nI (pu z_)))), (pq 3, .inl (cI, 4, .inl (fun z_ => nI (sd z_)))), (pq 4, .inl (cI, 8, .inl (fun z_ => nI (cj z_)))), (pq 5, .inl (cI, 5, .inl (fun z_ => nI (ta z_))))] := hD
        refine hret hP hD hS dX6_wheel_75 rfl rfl ?_
        exact ⟨by simp [whA, in03_0, in03_1, in03_2, in03_3, in04_0, in04_1, in04_2, in04_3, in04_4, ixl_0, ixl_1, ixl_2, ixl_3, ixl_4, ixl_5, ixl_6, ixl_7, ixl_8, ixl_9, ixl_10, in10_0, in10_1, in10_2, in10_3, in10_4, in10_5, in10_6, in10_7, in10_8, in10_9, in10_10, hrow.1, hrx.1, hrx.2.1, c_3, hij_q, hicj_q, hw, hrow, hrx, hfl_q, hfl2_q, hfi_q], rfl⟩
      · subst e_sw
        refine lv_tableIn (tgt := 76) hx hb dX6_wheel_11 (by decide) (by decide) (off := 65) (by decide) (by decide) ?_
        refine lv_aload_n hx hb dX6_wheel_76 rfl (lv_at hl 0 rfl) ?_
        refine gf_6_38 hx hb hts hown hK hP 0 rfl rfl dX6_wheel_77 ?_
        refine gf_6_119 hx hb hts hown hK hP 1 rfl rfl dX6_wheel_80 ?_
        refine lv_iload_n hx hb dX6_wheel_83 rfl (lv_at hl 1 rfl) ?_
        refine lv_iconst (v := nI 0) hx hb dX6_wheel_84 (by decide) ?_
        refine cl_6_122 (As := [.int (nI (j)), .int (nI (0))]) (rest := [.int (nI (fi))]) hx hb hml hts hown (k_X6_slotOf ) (by decide) ⟨Nat.zero_le _, Nat.zero_le _⟩ hK hP hD hS hA [] rfl (by decide) rfl hl.1 rfl (Nat.le_of_ble_eq_true rfl) dX6_wheel_85 (fun r_11 u H locs hp_12 hP hD hS => ?_)
        obtain ⟨rfl, rfl⟩ := hp_12
        have hP : va_P D vwCl [(o, .inr (6, [.ref xt, .ref xg, .ref xu, .ref xk, .ref b, .ref xd, .ref xe, .ref a, .ref xf])), bO b bq fi (nw 2) (nw 0) (nw 1), (bq 0, .inl (cI, 4, .inl (fun z_ => nI (up z_)))), (bq 1, .inl (cI, 4, .inl (fun z_ => nI (st z_)))), (bq 2, .inl (cI, 12, .inl (fun z_ => nI (ex z_)))), (bq 3, .inl (cI, 12, .inl (fun z_ => nI (tl z_)))), (bq 4, .inl (cI, 12, .inl (fun z_ => nI (he z_)))), (bq 5, .inl (cI, 12, .inl (fun z_ => nI (dy z_)))), (bq 6, .inl (cI, 12, .inl (fun z_ => nI (se z_)))), pO a pq (bx 0) (bx 2) (bx 1) (szN bx (bx 0)) (bx 3) (bx 4), (pq 0, .inl (cI, 4, .inl (fun z_ => nI (te z_)))), (pq 1, .inl (cI, 4, .inl (fun z_ => nI (ps z_)))), (pq 2, .inl (cI, 4, .inl (fun z_ => nI (pu z_)))), (pq 3, .inl (cI, 4, .inl (fun z_ => nI (sd z_)))), (pq 4, .inl (cI, 8, .inl (fun z_ => nI (cj z_)))), (pq 5, .inl (cI, 5, .inl (fun z_ => nI (ta z_))))] _ := hP
        have hD : va_D A [(o, .inr (6, [.ref xt, .ref xg, .ref xu, .ref xk, .ref b, .ref xd, .ref xe, .ref a, .ref xf])), bO b bq fi (nw 2) (nw 0) (nw 1), (bq 0, .inl (cI, 4, .inl (fun z_ => nI (up z_)))), (bq 1, .inl (cI, 4, .inl (fun z_ => nI (st z_)))), (bq 2, .inl (cI, 12, .inl (fun z_ => nI (ex z_)))), (bq 3, .inl (cI, 12, .inl (fun z_ => nI (tl z_)))), (bq 4, .inl (cI, 12, .inl (fun z_ => nI (he z_)))), (bq 5, .inl (cI, 12, .inl (fun z_ => nI (dy z_)))), (bq 6, .inl (cI, 12, .inl (fun z_ => nI (se z_)))), pO a pq (bx 0) (bx 2) (bx 1) (szN bx (bx 0)) (bx 3) (bx 4), (pq 0, .inl (cI, 4, .inl (fun z_ => nI (te z_)))), (pq 1, .inl (cI, 4, .inl (fun z_ => nI (ps z_)))), (pq 2, .inl (cI, 4, .inl (fun z_ => nI (pu z_)))), (pq 3, .inl (cI, 4, .inl (fun z_ => nI (sd z_)))), (pq 4, .inl (cI, 8, .inl (fun z_ => nI (cj z_)))), (pq 5, .inl (cI, 5, .inl (fun z_ => nI (ta z_))))] := hD
        refine n_ishr hx hb dX6_wheel_88 (by omega) (by omega) ?_
        refine lv_bipush (v := nI 63) hx hb dX6_wheel_89 (by decide) ?_
        refine n_iand hx hb dX6_wheel_91  ?_
        refine hret hP hD hS dX6_wheel_92 rfl rfl ?_
        exact ⟨by simp [whA, in03_0, in03_1, in03_2, in03_3, in04_0, in04_1, in04_2, in04_3, in04_4, ixl_0, ixl_1, ixl_2, ixl_3, ixl_4, ixl_5, ixl_6, ixl_7, ixl_8, ixl_9, ixl_10, in10_0, in10_1, in10_2, in10_3, in10_4, in10_5, in10_6, in10_7, in10_8, in10_9, in10_10, hrow.1, hrx.1, hrx.2.1, c_3, hij_q, hicj_q, hw, hrow, hrx, hfl_q, hfl2_q, hfi_q], rfl⟩
  · -- 5 to 8
    refine lv_iconst (v := (-1)) hx hb dX6_wheel_8 (by decide) ?_
    refine hret hP hD hS dX6_wheel_9 rfl rfl ?_
    exact ⟨by simp [whA, c_3], rfl⟩

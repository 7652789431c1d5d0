
theorem inR_neg {x : Int32} (b : Nat) (h : x < 0) : inR x 0 b = false := by
  simp only [inR, decide_eq_false_iff_not]
  rw [fa_lt] at h
  have : (0 : Int32).toInt = 0 := by decide
  omega
theorem inR_big {x : Int32} {b : Nat} (hb : b < 2147483648) (h : nI b < x) : inR x 0 b = false := by
  simp only [inR, decide_eq_false_iff_not]
  rw [fa_lt, nI_toInt (by omega)] at h
  omega
theorem inR_mid {x : Int32} {b : Nat} (hb : b < 2147483648) (h : ¬ x < 0) (h2 : ¬ nI b < x) : inR x 0 b = true := by
  simp only [inR, decide_eq_true_eq]
  rw [fa_lt] at h h2
  rw [nI_toInt (by omega)] at h2
  have : (0 : Int32).toInt = 0 := by decide
  omega
theorem ow_e {nw : Nat → Nat} {j k : Nat} (hk : k ≤ j) (hv : fsN nw j k = k) (h : k = j ∨ nw (16 + k) = nw (16 + j)) : fsN nw j j = k := by
  rcases h with h | h
  · subst h; exact hv
  · exact fs_e hk hv h
theorem cn_f0 {bx nw : Nat → Nat} {j n : Nat} (h : j = 0) : cnB (fun k_ => senN bx nw (if j = 0 then k_ else ebN bx nw k_)) n = cnB (fun k_ => senN bx nw k_) n := by subst h; simp
theorem cn_f1 {bx nw : Nat → Nat} {j n : Nat} (h : j ≠ 0) : cnB (fun k_ => senN bx nw (if j = 0 then k_ else ebN bx nw k_)) n = cnB (fun k_ => senN bx nw (ebN bx nw k_)) n := by simp [h]
theorem ask_f {bx : Nat → Nat} {i g : Nat} (h : woN bx i g 1 (bx (5 + i)) < 1000000) : (1, woN bx i g 1 (bx (5 + i))) = askN bx i g (2 - 1) := by
  show (1, woN bx i g 1 (bx (5 + i))) = if woN bx i g 1 (bx (5 + i)) < 1000000 then (1, woN bx i g 1 (bx (5 + i))) else (0, 1000000)
  rw [if_pos h]

set_option maxHeartbeats 4000000 in
set_option maxRecDepth 100000 in
theorem k_X6_heard {l : Launch} {D : va_G} {cI cC cB : ClassId} {o xt xg xu xk xd xe xf : Nat} {a : Nat} {bx : Nat → Nat} {b : Nat} {bq : Nat → Nat} {nw up st ex tl he dy se : Nat → Nat} {fi : Nat} {x y : Int32} (hX : BoR bx nw up st ex tl he dy se fi) : MI l yX6_heard cX6_heard 3 (some .int) 1 D (Ty3 cI cC cB) [.ref o, .int (x), .int (y)] [(o, .inr (6, [.ref xt, .ref xg, .ref xu, .ref xk, .ref b, .ref xd, .ref xe, .ref a, .ref xf])), bO b bq fi (nw 2) (nw 0) (nw 1), (bq 0, .inl (cI, 4, .inl (fun z_ => nI (up z_)))), (bq 1, .inl (cI, 4, .inl (fun z_ => nI (st z_)))), (bq 2, .inl (cI, 12, .inl (fun z_ => nI (ex z_)))), (bq 3, .inl (cI, 12, .inl (fun z_ => nI (tl z_)))), (bq 4, .inl (cI, 12, .inl (fun z_ => nI (he z_)))), (bq 5, .inl (cI, 12, .inl (fun z_ => nI (dy z_)))), (bq 6, .inl (cI, 12, .inl (fun z_ => nI (se z_))))] (fun r u => (r = heA nw x y ∧ u = [(o, .inr (6, [.ref xt, .ref xg, .ref xu, .ref xk, .ref b, .ref xd, .ref xe, .ref a, .ref xf])), bO b bq fi (nw 2) (nw 0) (nw 1), (bq 0, .inl (cI, 4, .inl (fun z_ => nI (up z_)))), (bq 1, .inl (cI, 4, .inl (fun z_ => nI (st z_)))), (bq 2, .inl (cI, 12, .inl (fun z_ => nI (ex z_)))), (bq 3, .inl (cI, 12, .inl (fun z_ => nI (tl z_)))), (bq 4, .inl (cI, 12, .inl (fun z_ => nI (he z_)))), (bq 5, .inl (cI, 12, .inl (fun z_ => nI (dy z_)))), (bq 6, .inl (cI, 12, .inl (fun z_ => nI (se z_))))])) := by
  intro sz
  refine MI.walk (by decide +kernel) (Nat.le_of_ble_eq_true rfl) ?_
  intro p e s m args below meth c A Qf hx hb hml hts hown hret hK hP hD hS hA ls hl
  have hown : s.vm.findClass RX6 = some m.cls := hown
  have hl : lv_has ls 3 [(0, .ref o), (1, .int (x)), (2, .int (y))] := hl
  have hP : va_P D vwCl [(o, .inr (6, [.ref xt, .ref xg, .ref xu, .ref xk, .ref b, .ref xd, .ref xe, .ref a, .ref xf])), bO b bq fi (nw 2) (nw 0) (nw 1), (bq 0, .inl (cI, 4, .inl (fun z_ => nI (up z_)))), (bq 1, .inl (cI, 4, .inl (fun z_ => nI (st z_)))), (bq 2, .inl (cI, 12, .inl (fun z_ => nI (ex z_)))), (bq 3, .inl (cI, 12, .inl (fun z_ => nI (tl z_)))), (bq 4, .inl (cI, 12, .inl (fun z_ => nI (he z_)))), (bq 5, .inl (cI, 12, .inl (fun z_ => nI (dy z_)))), (bq 6, .inl (cI, 12, .inl (fun z_ => nI (se z_))))] s.heap := hP
  have hD : va_D A [(o, .inr (6, [.ref xt, .ref xg, .ref xu, .ref xk, .ref b, .ref xd, .ref xe, .ref a, .ref xf])), bO b bq fi (nw 2) (nw 0) (nw 1), (bq 0, .inl (cI, 4, .inl (fun z_ => nI (up z_)))), (bq 1, .inl (cI, 4, .inl (fun z_ => nI (st z_)))), (bq 2, .inl (cI, 12, .inl (fun z_ => nI (ex z_)))), (bq 3, .inl (cI, 12, .inl (fun z_ => nI (tl z_)))), (bq 4, .inl (cI, 12, .inl (fun z_ => nI (he z_)))), (bq 5, .inl (cI, 12, .inl (fun z_ => nI (dy z_)))), (bq 6, .inl (cI, 12, .inl (fun z_ => nI (se z_))))] := hD
  refine lv_aload_n hx hb dX6_heard_0 rfl (lv_at hl 0 rfl) ?_
  refine lv_iload_n hx hb dX6_heard_1 rfl (lv_at hl 1 rfl) ?_
  refine cl_6_133 (As := [.int (x)]) (rest := []) hx hb hml hts hown (k_X6_isHeard (by first | assumption | omega)) (by decide) ⟨Nat.zero_le _, Nat.zero_le _⟩ hK hP hD hS hA 0 rfl [0, 1, 2, 3, 4, 5, 6, 7, 8] rfl (by decide) rfl hl.1 rfl (Nat.le_of_ble_eq_true rfl) dX6_heard_2 (fun r_1 u H locs hp_2 hP hD hS => ?_)
  obtain ⟨rfl, rfl⟩ := hp_2
  have hP : va_P D vwCl [(o, .inr (6, [.ref xt, .ref xg, .ref xu, .ref xk, .ref b, .ref xd, .ref xe, .ref a, .ref xf])), bO b bq fi (nw 2) (nw 0) (nw 1), (bq 0, .inl (cI, 4, .inl (fun z_ => nI (up z_)))), (bq 1, .inl (cI, 4, .inl (fun z_ => nI (st z_)))), (bq 2, .inl (cI, 12, .inl (fun z_ => nI (ex z_)))), (bq 3, .inl (cI, 12, .inl (fun z_ => nI (tl z_)))), (bq 4, .inl (cI, 12, .inl (fun z_ => nI (he z_)))), (bq 5, .inl (cI, 12, .inl (fun z_ => nI (dy z_)))), (bq 6, .inl (cI, 12, .inl (fun z_ => nI (se z_))))] _ := hP
  have hD : va_D A [(o, .inr (6, [.ref xt, .ref xg, .ref xu, .ref xk, .ref b, .ref xd, .ref xe, .ref a, .ref xf])), bO b bq fi (nw 2) (nw 0) (nw 1), (bq 0, .inl (cI, 4, .inl (fun z_ => nI (up z_)))), (bq 1, .inl (cI, 4, .inl (fun z_ => nI (st z_)))), (bq 2, .inl (cI, 12, .inl (fun z_ => nI (ex z_)))), (bq 3, .inl (cI, 12, .inl (fun z_ => nI (tl z_)))), (bq 4, .inl (cI, 12, .inl (fun z_ => nI (he z_)))), (bq 5, .inl (cI, 12, .inl (fun z_ => nI (dy z_)))), (bq 6, .inl (cI, 12, .inl (fun z_ => nI (se z_))))] := hD
  refine n_ifb_ne (tgt := 10) hx hb dX6_heard_5 (by decide) (fun c_3 => ?_) (fun c_3 => ?_)
  · -- 5 to 10
    obtain ⟨j, hj, rfl⟩ := inN_e (by have := hX.d.h; omega) c_3
    have hij_q : ix (nI j) = j := ix_n (by have := hX.d.h; omega)
    have hicj_q : (nI j).toNatClampNeg = j := ix_n (by have := hX.d.h; omega)
    have hrk := hX.k j hj
    have h12_q := hX.d.h
    refine lv_iload_n hx hb dX6_heard_10 rfl (lv_at hl 2 rfl) ?_
    rcases tsw (y) 5 with c_4 | c_4 | ⟨j_sw, hj_sw, e_sw⟩
    · refine lv_tableOut (tgt := 104) hx hb dX6_heard_11 (Or.inl (by omega)) (by decide) ?_
      have ho_q := inR_out (x := y) (a := 4) (by omega)
      refine lv_iconst (v := (-1)) hx hb dX6_heard_104 (by decide) ?_
      refine hret hP hD hS dX6_heard_105 rfl rfl ?_
      exact ⟨by simp [heA, c_3, hij_q, hicj_q, hrk, h12_q, ho_q], rfl⟩
    · refine lv_tableOut (tgt := 104) hx hb dX6_heard_11 (Or.inr (by omega)) (by decide) ?_
      have ho_q := inR_out (x := y) (a := 4) (by omega)
      refine lv_iconst (v := (-1)) hx hb dX6_heard_104 (by decide) ?_
      refine hret hP hD hS dX6_heard_105 rfl rfl ?_
      exact ⟨by simp [heA, c_3, hij_q, hicj_q, hrk, h12_q, ho_q], rfl⟩
    · rcases (show j_sw = 0 ∨ j_sw = 1 ∨ j_sw = 2 ∨ j_sw = 3 ∨ j_sw = 4 by omega) with rfl | rfl | rfl | rfl | rfl
      · subst e_sw
        refine lv_tableIn (tgt := 44) hx hb dX6_heard_11 (by decide) (by decide) (off := 33) (by decide) (by decide) ?_
        refine lv_aload_n hx hb dX6_heard_44 rfl (lv_at hl 0 rfl) ?_
        refine gf_6_38 hx hb hts hown hK hP 0 rfl rfl dX6_heard_45 ?_
        refine gf_6_136 hx hb hts hown hK hP 1 rfl rfl dX6_heard_48 ?_
        refine lv_iload_n hx hb dX6_heard_51 rfl (lv_at hl 1 rfl) ?_
        refine cl_6_109 (As := [.ref (bq 2), .int (nI (j))]) (rest := []) hx hb hml hts hown (k_X6_at (by first | assumption | omega) (by first | assumption | omega)) (by decide) ⟨Nat.zero_le _, Nat.zero_le _⟩ hK hP hD hS hA [4] rfl (by decide) rfl hl.1 rfl (Nat.le_of_ble_eq_true rfl) dX6_heard_52 (fun r_5 u H locs hp_6 hP hD hS => ?_)
        obtain ⟨rfl, rfl⟩ := hp_6
        have hP : va_P D vwCl [(o, .inr (6, [.ref xt, .ref xg, .ref xu, .ref xk, .ref b, .ref xd, .ref xe, .ref a, .ref xf])), bO b bq fi (nw 2) (nw 0) (nw 1), (bq 0, .inl (cI, 4, .inl (fun z_ => nI (up z_)))), (bq 1, .inl (cI, 4, .inl (fun z_ => nI (st z_)))), (bq 2, .inl (cI, 12, .inl (fun z_ => nI (ex z_)))), (bq 3, .inl (cI, 12, .inl (fun z_ => nI (tl z_)))), (bq 4, .inl (cI, 12, .inl (fun z_ => nI (he z_)))), (bq 5, .inl (cI, 12, .inl (fun z_ => nI (dy z_)))), (bq 6, .inl (cI, 12, .inl (fun z_ => nI (se z_))))] _ := hP
        have hD : va_D A [(o, .inr (6, [.ref xt, .ref xg, .ref xu, .ref xk, .ref b, .ref xd, .ref xe, .ref a, .ref xf])), bO b bq fi (nw 2) (nw 0) (nw 1), (bq 0, .inl (cI, 4, .inl (fun z_ => nI (up z_)))), (bq 1, .inl (cI, 4, .inl (fun z_ => nI (st z_)))), (bq 2, .inl (cI, 12, .inl (fun z_ => nI (ex z_)))), (bq 3, .inl (cI, 12, .inl (fun z_ => nI (tl z_)))), (bq 4, .inl (cI, 12, .inl (fun z_ => nI (he z_)))), (bq 5, .inl (cI, 12, .inl (fun z_ => nI (dy z_)))), (bq 6, .inl (cI, 12, .inl (fun z_ => nI (se z_))))] := hD
        refine hret hP hD hS dX6_heard_55 rfl rfl ?_
        exact ⟨by simp [heA, in03_0, in03_1, in03_2, in03_3, in04_0, in04_1, in04_2, in04_3, in04_4, ixl_0, ixl_1, ixl_2, ixl_3, ixl_4, ixl_5, ixl_6, ixl_7, ixl_8, ixl_9, ixl_10, in10_0, in10_1, in10_2, in10_3, in10_4, in10_5, in10_6, in10_7, in10_8, in10_9, in10_10, hrk.1, hrk.2.1, hrk.2.2.1, hrk.2.2.2.1, hrk.2.2.2.2, c_3, hij_q, hicj_q, hrk, h12_q], rfl⟩
      · subst e_sw
        refine lv_tableIn (tgt := 56) hx hb dX6_heard_11 (by decide) (by decide) (off := 45) (by decide) (by decide) ?_
        refine lv_aload_n hx hb dX6_heard_56 rfl (lv_at hl 0 rfl) ?_
        refine gf_6_38 hx hb hts hown hK hP 0 rfl rfl dX6_heard_57 ?_
        refine gf_6_139 hx hb hts hown hK hP 1 rfl rfl dX6_heard_60 ?_
        refine lv_iload_n hx hb dX6_heard_63 rfl (lv_at hl 1 rfl) ?_
        refine cl_6_109 (As := [.ref (bq 3), .int (nI (j))]) (rest := []) hx hb hml hts hown (k_X6_at (by first | assumption | omega) (by first | assumption | omega)) (by decide) ⟨Nat.zero_le _, Nat.zero_le _⟩ hK hP hD hS hA [5] rfl (by decide) rfl hl.1 rfl (Nat.le_of_ble_eq_true rfl) dX6_heard_64 (fun r_7 u H locs hp_8 hP hD hS => ?_)
        obtain ⟨rfl, rfl⟩ := hp_8
        have hP : va_P D vwCl [(o, .inr (6, [.ref xt, .ref xg, .ref xu, .ref xk, .ref b, .ref xd, .ref xe, .ref a, .ref xf])), bO b bq fi (nw 2) (nw 0) (nw 1), (bq 0, .inl (cI, 4, .inl (fun z_ => nI (up z_)))), (bq 1, .inl (cI, 4, .inl (fun z_ => nI (st z_)))), (bq 2, .inl (cI, 12, .inl (fun z_ => nI (ex z_)))), (bq 3, .inl (cI, 12, .inl (fun z_ => nI (tl z_)))), (bq 4, .inl (cI, 12, .inl (fun z_ => nI (he z_)))), (bq 5, .inl (cI, 12, .inl (fun z_ => nI (dy z_)))), (bq 6, .inl (cI, 12, .inl (fun z_ => nI (se z_))))] _ := hP
        have hD : va_D A [(o, .inr (6, [.ref xt, .ref xg, .ref xu, .ref xk, .ref b, .ref xd, .ref xe, .ref a, .ref xf])), bO b bq fi (nw 2) (nw 0) (nw 1), (bq 0, .inl (cI, 4, .inl (fun z_ => nI (up z_)))), (bq 1, .inl (cI, 4, .inl (fun z_ => nI (st z_)))), (bq 2, .inl (cI, 12, .inl (fun z_ => nI (ex z_)))), (bq 3, .inl (cI, 12, .inl (fun z_ => nI (tl z_)))), (bq 4, .inl (cI, 12, .inl (fun z_ => nI (he z_)))), (bq 5, .inl (cI, 12, .inl (fun z_ => nI (dy z_)))), (bq 6, .inl (cI, 12, .inl (fun z_ => nI (se z_))))] := hD
        refine hret hP hD hS dX6_heard_67 rfl rfl ?_
        exact ⟨by simp [heA, in03_0, in03_1, in03_2, in03_3, in04_0, in04_1, in04_2, in04_3, in04_4, ixl_0, ixl_1, ixl_2, ixl_3, ixl_4, ixl_5, ixl_6, ixl_7, ixl_8, ixl_9, ixl_10, in10_0, in10_1, in10_2, in10_3, in10_4, in10_5, in10_6, in10_7, in10_8, in10_9, in10_10, hrk.1, hrk.2.1, hrk.2.2.1, hrk.2.2.2.1, hrk.2.2.2.2, c_3, hij_q, hicj_q, hrk, h12_q], rfl⟩
      · subst e_sw
        refine lv_tableIn (tgt := 68) hx hb dX6_heard_11 (by decide) (by decide) (off := 57) (by decide) (by decide) ?_
        refine lv_aload_n hx hb dX6_heard_68 rfl (lv_at hl 0 rfl) ?_
        refine gf_6_38 hx hb hts hown hK hP 0 rfl rfl dX6_heard_69 ?_
        refine gf_6_142 hx hb hts hown hK hP 1 rfl rfl dX6_heard_72 ?_
        refine lv_iload_n hx hb dX6_heard_75 rfl (lv_at hl 1 rfl) ?_
        refine cl_6_109 (As := [.ref (bq 4), .int (nI (j))]) (rest := []) hx hb hml hts hown (k_X6_at (by first | assumption | omega) (by first | assumption | omega)) (by decide) ⟨Nat.zero_le _, Nat.zero_le _⟩ hK hP hD hS hA [6] rfl (by decide) rfl hl.1 rfl (Nat.le_of_ble_eq_true rfl) dX6_heard_76 (fun r_9 u H locs hp_10 hP hD hS => ?_)
        obtain ⟨rfl, rfl⟩ := hp_10
        have hP : va_P D vwCl [(o, .inr (6, [.ref xt, .ref xg, .ref xu, .ref xk, .ref b, .ref xd, .ref xe, .ref a, .ref xf])), bO b bq fi (nw 2) (nw 0) (nw 1), (bq 0, .inl (cI, 4, .inl (fun z_ => nI (up z_)))), (bq 1, .inl (cI, 4, .inl (fun z_ => nI (st z_)))), (bq 2, .inl (cI, 12, .inl (fun z_ => nI (ex z_)))), (bq 3, .inl (cI, 12, .inl (fun z_ => nI (tl z_)))), (bq 4, .inl (cI, 12, .inl (fun z_ => nI (he z_)))), (bq 5, .inl (cI, 12, .inl (fun z_ => nI (dy z_)))), (bq 6, .inl (cI, 12, .inl (fun z_ => nI (se z_))))] _ := hP
        have hD : va_D A [(o, .inr (6, [.ref xt, .ref xg, .ref xu, .ref xk, .ref b, .ref xd, .ref xe, .ref a, .ref xf])), bO b bq fi (nw 2) (nw 0) (nw 1), (bq 0, .inl (cI, 4, .inl (fun z_ => nI (up z_)))), (bq 1, .inl (cI, 4, .inl (fun z_ => nI (st z_)))), (bq 2, .inl (cI, 12, .inl (fun z_ => nI (ex z_)))), (bq 3, .inl (cI, 12, .inl (fun z_ => nI (tl z_)))), (bq 4, .inl (cI, 12, .inl (fun z_ => nI (he z_)))), (bq 5, .inl (cI, 12, .inl (fun z_ => nI (dy z_)))), (bq 6, .inl (cI, 12, .inl (fun z_ => nI (se z_))))] := hD
        refine hret hP hD hS dX6_heard_79 rfl rfl ?_
        exact ⟨by simp [heA, in03_0, in03_1, in03_2, in03_3, in04_0, in04_1, in04_2, in04_3, in04_4, ixl_0, ixl_1, ixl_2, ixl_3, ixl_4, ixl_5, ixl_6, ixl_7, ixl_8, ixl_9, ixl_10, in10_0, in10_1, in10_2, in10_3, in10_4, in10_5, in10_6, in10_7, in10_8, in10_9, in10_10, hrk.1, hrk.2.1, hrk.2.2.1, hrk.2.2.2.1, hrk.2.2.2.2, c_3, hij_q, hicj_q, hrk, h12_q], rfl⟩
      · subst e_sw
        refine lv_tableIn (tgt := 80) hx hb dX6_heard_11 (by decide) (by decide) (off := 69) (by decide) (by decide) ?_
        refine lv_aload_n hx hb dX6_heard_80 rfl (lv_at hl 0 rfl) ?_
        refine gf_6_38 hx hb hts hown hK hP 0 rfl rfl dX6_heard_81 ?_
        refine gf_6_145 hx hb hts hown hK hP 1 rfl rfl dX6_heard_84 ?_
        refine lv_iload_n hx hb dX6_heard_87 rfl (lv_at hl 1 rfl) ?_
        refine cl_6_109 (As := [.ref (bq 5), .int (nI (j))]) (rest := []) hx hb hml hts hown (k_X6_at (by first | assumption | omega) (by first | assumption | omega)) (by decide) ⟨Nat.zero_le _, Nat.zero_le _⟩ hK hP hD hS hA [7] rfl (by decide) rfl hl.1 rfl (Nat.le_of_ble_eq_true rfl) dX6_heard_88 (fun r_11 u H locs hp_12 hP hD hS => ?_)
        obtain ⟨rfl, rfl⟩ := hp_12
        have hP : va_P D vwCl [(o, .inr (6, [.ref xt, .ref xg, .ref xu, .ref xk, .ref b, .ref xd, .ref xe, .ref a, .ref xf])), bO b bq fi (nw 2) (nw 0) (nw 1), (bq 0, .inl (cI, 4, .inl (fun z_ => nI (up z_)))), (bq 1, .inl (cI, 4, .inl (fun z_ => nI (st z_)))), (bq 2, .inl (cI, 12, .inl (fun z_ => nI (ex z_)))), (bq 3, .inl (cI, 12, .inl (fun z_ => nI (tl z_)))), (bq 4, .inl (cI, 12, .inl (fun z_ => nI (he z_)))), (bq 5, .inl (cI, 12, .inl (fun z_ => nI (dy z_)))), (bq 6, .inl (cI, 12, .inl (fun z_ => nI (se z_))))] _ := hP
        have hD : va_D A [(o, .inr (6, [.ref xt, .ref xg, .ref xu, .ref xk, .ref b, .ref xd, .ref xe, .ref a, .ref xf])), bO b bq fi (nw 2) (nw 0) (nw 1), (bq 0, .inl (cI, 4, .inl (fun z_ => nI (up z_)))), (bq 1, .inl (cI, 4, .inl (fun z_ => nI (st z_)))), (bq 2, .inl (cI, 12, .inl (fun z_ => nI (ex z_)))), (bq 3, .inl (cI, 12, .inl (fun z_ => nI (tl z_)))), (bq 4, .inl (cI, 12, .inl (fun z_ => nI (he z_)))), (bq 5, .inl (cI, 12, .inl (fun z_ => nI (dy z_)))), (bq 6, .inl (cI, 12, .inl (fun z_ => nI (se z_))))] := hD
        refine hret hP hD hS dX6_heard_91 rfl rfl ?_
        exact ⟨by simp [heA, in03_0, in03_1, in03_2, in03_3, in04_0, in04_1, in04_2, in04_3, in04_4, ixl_0, ixl_1, ixl_2, ixl_3, ixl_4, ixl_5, ixl_6, ixl_7, ixl_8, ixl_9, ixl_10, in10_0, in10_1, in10_2, in10_3, in10_4, in10_5, in10_6, in10_7, in10_8, in10_9, in10_10, hrk.1, hrk.2.1, hrk.2.2.1, hrk.2.2.2.1, hrk.2.2.2.2, c_3, hij_q, hicj_q, hrk, h12_q], rfl⟩
      · subst e_sw
        refine lv_tableIn (tgt := 92) hx hb dX6_heard_11 (by decide) (by decide) (off := 81) (by decide) (by decide) ?_
        refine lv_aload_n hx hb dX6_heard_92 rfl (lv_at hl 0 rfl) ?_
        refine gf_6_38 hx hb hts hown hK hP 0 rfl rfl dX6_heard_93 ?_
        refine gf_6_148 hx hb hts hown hK hP 1 rfl rfl dX6_heard_96 ?_
        refine lv_iload_n hx hb dX6_heard_99 rfl (lv_at hl 1 rfl) ?_
        refine cl_6_109 (As := [.ref (bq 6), .int (nI (j))]) (rest := []) hx hb hml hts hown (k_X6_at (by first | assumption | omega) (by first | assumption | omega)) (by decide) ⟨Nat.zero_le _, Nat.zero_le _⟩ hK hP hD hS hA [8] rfl (by decide) rfl hl.1 rfl (Nat.le_of_ble_eq_true rfl) dX6_heard_100 (fun r_13 u H locs hp_14 hP hD hS => ?_)
        obtain ⟨rfl, rfl⟩ := hp_14
        have hP : va_P D vwCl [(o, .inr (6, [.ref xt, .ref xg, .ref xu, .ref xk, .ref b, .ref xd, .ref xe, .ref a, .ref xf])), bO b bq fi (nw 2) (nw 0) (nw 1), (bq 0, .inl (cI, 4, .inl (fun z_ => nI (up z_)))), (bq 1, .inl (cI, 4, .inl (fun z_ => nI (st z_)))), (bq 2, .inl (cI, 12, .inl (fun z_ => nI (ex z_)))), (bq 3, .inl (cI, 12, .inl (fun z_ => nI (tl z_)))), (bq 4, .inl (cI, 12, .inl (fun z_ => nI (he z_)))), (bq 5, .inl (cI, 12, .inl (fun z_ => nI (dy z_)))), (bq 6, .inl (cI, 12, .inl (fun z_ => nI (se z_))))] _ := hP
        have hD : va_D A [(o, .inr (6, [.ref xt, .ref xg, .ref xu, .ref xk, .ref b, .ref xd, .ref xe, .ref a, .ref xf])), bO b bq fi (nw 2) (nw 0) (nw 1), (bq 0, .inl (cI, 4, .inl (fun z_ => nI (up z_)))), (bq 1, .inl (cI, 4, .inl (fun z_ => nI (st z_)))), (bq 2, .inl (cI, 12, .inl (fun z_ => nI (ex z_)))), (bq 3, .inl (cI, 12, .inl (fun z_ => nI (tl z_)))), (bq 4, .inl (cI, 12, .inl (fun z_ => nI (he z_)))), (bq 5, .inl (cI, 12, .inl (fun z_ => nI (dy z_)))), (bq 6, .inl (cI, 12, .inl (fun z_ => nI (se z_))))] := hD
        refine hret hP hD hS dX6_heard_103 rfl rfl ?_
        exact ⟨by simp [heA, in03_0, in03_1, in03_2, in03_3, in04_0, in04_1, in04_2, in04_3, in04_4, ixl_0, ixl_1, ixl_2, ixl_3, ixl_4, ixl_5, ixl_6, ixl_7, ixl_8, ixl_9, ixl_10, in10_0, in10_1, in10_2, in10_3, in10_4, in10_5, in10_6, in10_7, in10_8, in10_9, in10_10, hrk.1, hrk.2.1, hrk.2.2.1, hrk.2.2.2.1, hrk.2.2.2.2, c_3, hij_q, hicj_q, hrk, h12_q], rfl⟩
  · -- 5 to 8
    refine lv_iconst (v := (-1)) hx hb dX6_heard_8 (by decide) ?_
    refine hret hP hD hS dX6_heard_9 rfl rfl ?_
    exact ⟨by simp [heA, c_3], rfl⟩
set_option maxHeartbeats 4000000 in
set_option maxRecDepth 100000 in
theorem k_X6_sense {l : Launch} {D : va_G} {cI cC cB : ClassId} {o xt xg xu xk xd xe xf : Nat} {a : Nat} {pq : Nat → Nat} {bx te ps pu sd cj ta : Nat → Nat} {b : Nat} {bq : Nat → Nat} {nw up st ex tl he dy se : Nat → Nat} {fi : Nat} {x : Int32} (hR : PlR bx te ps pu sd cj ta) (hX : BoR bx nw up st ex tl he dy se fi) : MI l yX6_sense cX6_sense 2 (some .int) 4 D (Ty3 cI cC cB) [.ref o, .int (x)] [(o, .inr (6, [.ref xt, .ref xg, .ref xu, .ref xk, .ref b, .ref xd, .ref xe, .ref a, .ref xf])), bO b bq fi (nw 2) (nw 0) (nw 1), (bq 0, .inl (cI, 4, .inl (fun z_ => nI (up z_)))), (bq 1, .inl (cI, 4, .inl (fun z_ => nI (st z_)))), (bq 2, .inl (cI, 12, .inl (fun z_ => nI (ex z_)))), (bq 3, .inl (cI, 12, .inl (fun z_ => nI (tl z_)))), (bq 4, .inl (cI, 12, .inl (fun z_ => nI (he z_)))), (bq 5, .inl (cI, 12, .inl (fun z_ => nI (dy z_)))), (bq 6, .inl (cI, 12, .inl (fun z_ => nI (se z_)))), pO a pq (bx 0) (bx 2) (bx 1) (szN bx (bx 0)) (bx 3) (bx 4), (pq 0, .inl (cI, 4, .inl (fun z_ => nI (te z_)))), (pq 1, .inl (cI, 4, .inl (fun z_ => nI (ps z_)))), (pq 2, .inl (cI, 4, .inl (fun z_ => nI (pu z_)))), (pq 3, .inl (cI, 4, .inl (fun z_ => nI (sd z_)))), (pq 4, .inl (cI, 8, .inl (fun z_ => nI (cj z_)))), (pq 5, .inl (cI, 5, .inl (fun z_ => nI (ta z_))))] (fun r u => (r = seA bx nw x ∧ u = [(o, .inr (6, [.ref xt, .ref xg, .ref xu, .ref xk, .ref b, .ref xd, .ref xe, .ref a, .ref xf])), bO b bq fi (nw 2) (nw 0) (nw 1), (bq 0, .inl (cI, 4, .inl (fun z_ => nI (up z_)))), (bq 1, .inl (cI, 4, .inl (fun z_ => nI (st z_)))), (bq 2, .inl (cI, 12, .inl (fun z_ => nI (ex z_)))), (bq 3, .inl (cI, 12, .inl (fun z_ => nI (tl z_)))), (bq 4, .inl (cI, 12, .inl (fun z_ => nI (he z_)))), (bq 5, .inl (cI, 12, .inl (fun z_ => nI (dy z_)))), (bq 6, .inl (cI, 12, .inl (fun z_ => nI (se z_)))), pO a pq (bx 0) (bx 2) (bx 1) (szN bx (bx 0)) (bx 3) (bx 4), (pq 0, .inl (cI, 4, .inl (fun z_ => nI (te z_)))), (pq 1, .inl (cI, 4, .inl (fun z_ => nI (ps z_)))), (pq 2, .inl (cI, 4, .inl (fun z_ => nI (pu z_)))), (pq 3, .inl (cI, 4, .inl (fun z_ => nI (sd z_)))), (pq 4, .inl (cI, 8, .inl (fun z_ => nI (cj z_)))), (pq 5, .inl (cI, 5, .inl (fun z_ => nI (ta z_))))])) := by
  intro sz
  refine MI.walk (by decide +kernel) (Nat.le_of_ble_eq_true rfl) ?_
  intro p e s m args below meth c A Qf hx hb hml hts hown hret hK hP hD hS hA ls hl
  have hown : s.vm.findClass RX6 = some m.cls := hown
  have hl : lv_has ls 2 [(0, .ref o), (1, .int (x))] := hl
  have hP : va_P D vwCl [(o, .inr (6, [.ref xt, .ref xg, .ref xu, .ref xk, .ref b, .ref xd, .ref xe, .ref a, .ref xf])), bO b bq fi (nw 2) (nw 0) (nw 1), (bq 0, .inl (cI, 4, .inl (fun z_ => nI (up z_)))), (bq 1, .inl (cI, 4, .inl (fun z_ => nI (st z_)))), (bq 2, .inl (cI, 12, .inl (fun z_ => nI (ex z_)))), (bq 3, .inl (cI, 12, .inl (fun z_ => nI (tl z_)))), (bq 4, .inl (cI, 12, .inl (fun z_ => nI (he z_)))), (bq 5, .inl (cI, 12, .inl (fun z_ => nI (dy z_)))), (bq 6, .inl (cI, 12, .inl (fun z_ => nI (se z_)))), pO a pq (bx 0) (bx 2) (bx 1) (szN bx (bx 0)) (bx 3) (bx 4), (pq 0, .inl (cI, 4, .inl (fun z_ => nI (te z_)))), (pq 1, .inl (cI, 4, .inl (fun z_ => nI (ps z_)))), (pq 2, .inl (cI, 4, .inl (fun z_ => nI (pu z_)))), (pq 3, .inl (cI, 4, .inl (fun z_ => nI (sd z_)))), (pq 4, .inl (cI, 8, .inl (fun z_ => nI (cj z_)))), (pq 5, .inl (cI, 5, .inl (fun z_ => nI (ta z_))))] s.heap := hP
  have hD : va_D A [(o, .inr (6, [.ref xt, .ref xg, .ref xu, .ref xk, .ref b, .ref xd, .ref xe, .ref a, .ref xf])), bO b bq fi (nw 2) (nw 0) (nw 1), (bq 0, .inl (cI, 4, .inl (fun z_ => nI (up z_)))), (bq 1, .inl (cI, 4, .inl (fun z_ => nI (st z_)))), (bq 2, .inl (cI, 12, .inl (fun z_ => nI (ex z_)))), (bq 3, .inl (cI, 12, .inl (fun z_ => nI (tl z_)))), (bq 4, .inl (cI, 12, .inl (fun z_ => nI (he z_)))), (bq 5, .inl (cI, 12, .inl (fun z_ => nI (dy z_)))), (bq 6, .inl (cI, 12, .inl (fun z_ => nI (se z_)))), pO a pq (bx 0) (bx 2) (bx 1) (szN bx (bx 0)) (bx 3) (bx 4), (pq 0, .inl (cI, 4, .inl (fun z_ => nI (te z_)))), (pq 1, .inl (cI, 4, .inl (fun z_ => nI (ps z_)))), (pq 2, .inl (cI, 4, .inl (fun z_ => nI (pu z_)))), (pq 3, .inl (cI, 4, .inl (fun z_ => nI (sd z_)))), (pq 4, .inl (cI, 8, .inl (fun z_ => nI (cj z_)))), (pq 5, .inl (cI, 5, .inl (fun z_ => nI (ta z_))))] := hD
  refine lv_aload_n hx hb dX6_sense_0 rfl (lv_at hl 0 rfl) ?_
  refine lv_iload_n hx hb dX6_sense_1 rfl (lv_at hl 1 rfl) ?_
  refine cl_6_151 (As := [.int (x)]) (rest := []) hx hb hml hts hown (k_X6_isExcuse (by first | assumption | omega)) (by decide) ⟨Nat.zero_le _, Nat.zero_le _⟩ hK hP hD hS hA 0 rfl [0, 9, 10, 11, 12, 13, 14, 15] rfl (by decide) rfl hl.1 rfl (Nat.le_of_ble_eq_true rfl) dX6_sense_2 (fun r_1 u H locs hp_2 hP hD hS => ?_)
  obtain ⟨rfl, rfl⟩ := hp_2
  have hP : va_P D vwCl [(o, .inr (6, [.ref xt, .ref xg, .ref xu, .ref xk, .ref b, .ref xd, .ref xe, .ref a, .ref xf])), bO b bq fi (nw 2) (nw 0) (nw 1), (bq 0, .inl (cI, 4, .inl (fun z_ => nI (up z_)))), (bq 1, .inl (cI, 4, .inl (fun z_ => nI (st z_)))), (bq 2, .inl (cI, 12, .inl (fun z_ => nI (ex z_)))), (bq 3, .inl (cI, 12, .inl (fun z_ => nI (tl z_)))), (bq 4, .inl (cI, 12, .inl (fun z_ => nI (he z_)))), (bq 5, .inl (cI, 12, .inl (fun z_ => nI (dy z_)))), (bq 6, .inl (cI, 12, .inl (fun z_ => nI (se z_)))), pO a pq (bx 0) (bx 2) (bx 1) (szN bx (bx 0)) (bx 3) (bx 4), (pq 0, .inl (cI, 4, .inl (fun z_ => nI (te z_)))), (pq 1, .inl (cI, 4, .inl (fun z_ => nI (ps z_)))), (pq 2, .inl (cI, 4, .inl (fun z_ => nI (pu z_)))), (pq 3, .inl (cI, 4, .inl (fun z_ => nI (sd z_)))), (pq 4, .inl (cI, 8, .inl (fun z_ => nI (cj z_)))), (pq 5, .inl (cI, 5, .inl (fun z_ => nI (ta z_))))] _ := hP
  have hD : va_D A [(o, .inr (6, [.ref xt, .ref xg, .ref xu, .ref xk, .ref b, .ref xd, .ref xe, .ref a, .ref xf])), bO b bq fi (nw 2) (nw 0) (nw 1), (bq 0, .inl (cI, 4, .inl (fun z_ => nI (up z_)))), (bq 1, .inl (cI, 4, .inl (fun z_ => nI (st z_)))), (bq 2, .inl (cI, 12, .inl (fun z_ => nI (ex z_)))), (bq 3, .inl (cI, 12, .inl (fun z_ => nI (tl z_)))), (bq 4, .inl (cI, 12, .inl (fun z_ => nI (he z_)))), (bq 5, .inl (cI, 12, .inl (fun z_ => nI (dy z_)))), (bq 6, .inl (cI, 12, .inl (fun z_ => nI (se z_)))), pO a pq (bx 0) (bx 2) (bx 1) (szN bx (bx 0)) (bx 3) (bx 4), (pq 0, .inl (cI, 4, .inl (fun z_ => nI (te z_)))), (pq 1, .inl (cI, 4, .inl (fun z_ => nI (ps z_)))), (pq 2, .inl (cI, 4, .inl (fun z_ => nI (pu z_)))), (pq 3, .inl (cI, 4, .inl (fun z_ => nI (sd z_)))), (pq 4, .inl (cI, 8, .inl (fun z_ => nI (cj z_)))), (pq 5, .inl (cI, 5, .inl (fun z_ => nI (ta z_))))] := hD
  refine n_ifb_ne (tgt := 10) hx hb dX6_sense_5 (by decide) (fun c_3 => ?_) (fun c_3 => ?_)
  · -- 5 to 10
    obtain ⟨j, hj, rfl⟩ := inN_e (by have := sz_lt hR.b; omega) c_3
    have hij_q : ix (nI j) = j := ix_n (by have := sz_lt hR.b; omega)
    have hicj_q : (nI j).toNatClampNeg = j := ix_n (by have := sz_lt hR.b; omega)
    refine lv_aload_n hx hb dX6_sense_10 rfl (lv_at hl 0 rfl) ?_
    refine gf_6_38 hx hb hts hown hK hP 0 rfl rfl dX6_sense_11 ?_
    refine lv_aload_n hx hb dX6_sense_14 rfl (lv_at hl 0 rfl) ?_
    refine gf_6_55 hx hb hts hown hK hP 0 rfl rfl dX6_sense_15 ?_
    refine lv_iload_n hx hb dX6_sense_18 rfl (lv_at hl 1 rfl) ?_
    refine cl_6_154 (As := [.ref a, .int (nI (j))]) (rest := []) hx hb hml hts hown (k_X0_makesSense hR hX (by have := sz_lt hR.b; omega)) (by decide) ⟨Nat.zero_le _, Nat.zero_le _⟩ hK hP hD hS hA 1 rfl [1, 2, 3, 4, 5, 6, 7, 8, 9, 10, 11, 12, 13, 14, 15] rfl (by decide) rfl hl.1 rfl (Nat.le_of_ble_eq_true rfl) dX6_sense_19 (fun r_4 u H locs hp_5 hP hD hS => ?_)
    obtain ⟨rfl, rfl⟩ := hp_5
    have hP : va_P D vwCl [(o, .inr (6, [.ref xt, .ref xg, .ref xu, .ref xk, .ref b, .ref xd, .ref xe, .ref a, .ref xf])), bO b bq fi (nw 2) (nw 0) (nw 1), (bq 0, .inl (cI, 4, .inl (fun z_ => nI (up z_)))), (bq 1, .inl (cI, 4, .inl (fun z_ => nI (st z_)))), (bq 2, .inl (cI, 12, .inl (fun z_ => nI (ex z_)))), (bq 3, .inl (cI, 12, .inl (fun z_ => nI (tl z_)))), (bq 4, .inl (cI, 12, .inl (fun z_ => nI (he z_)))), (bq 5, .inl (cI, 12, .inl (fun z_ => nI (dy z_)))), (bq 6, .inl (cI, 12, .inl (fun z_ => nI (se z_)))), pO a pq (bx 0) (bx 2) (bx 1) (szN bx (bx 0)) (bx 3) (bx 4), (pq 0, .inl (cI, 4, .inl (fun z_ => nI (te z_)))), (pq 1, .inl (cI, 4, .inl (fun z_ => nI (ps z_)))), (pq 2, .inl (cI, 4, .inl (fun z_ => nI (pu z_)))), (pq 3, .inl (cI, 4, .inl (fun z_ => nI (sd z_)))), (pq 4, .inl (cI, 8, .inl (fun z_ => nI (cj z_)))), (pq 5, .inl (cI, 5, .inl (fun z_ => nI (ta z_))))] _ := hP
    have hD : va_D A [(o, .inr (6, [.ref xt, .ref xg, .ref xu, .ref xk, .ref b, .ref xd, .ref xe, .ref a, .ref xf])), bO b bq fi (nw 2) (nw 0) (nw 1), (bq 0, .inl (cI, 4, .inl (fun z_ => nI (up z_)))), (bq 1, .inl (cI, 4, .inl (fun z_ => nI (st z_)))), (bq 2, .inl (cI, 12, .inl (fun z_ => nI (ex z_)))), (bq 3, .inl (cI, 12, .inl (fun z_ => nI (tl z_)))), (bq 4, .inl (cI, 12, .inl (fun z_ => nI (he z_)))), (bq 5, .inl (cI, 12, .inl (fun z_ => nI (dy z_)))), (bq 6, .inl (cI, 12, .inl (fun z_ => nI (se z_)))), pO a pq (bx 0) (bx 2) (bx 1) (szN bx (bx 0)) (bx 3) (bx 4), (pq 0, .inl (cI, 4, .inl (fun z_ => nI (te z_)))), (pq 1, .inl (cI, 4, .inl (fun z_ => nI (ps z_)))), (pq 2, .inl (cI, 4, .inl (fun z_ => nI (pu z_)))), (pq 3, .inl (cI, 4, .inl (fun z_ => nI (sd z_)))), (pq 4, .inl (cI, 8, .inl (fun z_ => nI (cj z_)))), (pq 5, .inl (cI, 5, .inl (fun z_ => nI (ta z_))))] := hD
    refine n_ifb_eq (tgt := 29) hx hb dX6_sense_22 (by decide) (fun c_6 => ?_) (fun c_6 => ?_)
    · -- 22 to 29
      refine lv_iconst (v := nI 0) hx hb dX6_sense_29 (by decide) ?_
      refine hret hP hD hS dX6_sense_30 rfl rfl ?_
      exact ⟨by simp [seA, c_3, c_6, hij_q, hicj_q, nI_0], rfl⟩
    · -- 22 to 25
      refine lv_iconst (v := nI 1) hx hb dX6_sense_25 (by decide) ?_
      refine lv_goto (tgt := 30) hx hb dX6_sense_26 (by decide) ?_
      refine hret hP hD hS dX6_sense_30 rfl rfl ?_
      exact ⟨by simp [seA, c_3, c_6, hij_q, hicj_q, nI_0], rfl⟩
  · -- 5 to 8
    refine lv_iconst (v := (-1)) hx hb dX6_sense_8 (by decide) ?_
    refine hret hP hD hS dX6_sense_9 rfl rfl ?_
    exact ⟨by simp [seA, c_3, nI_0], rfl⟩
set_option maxHeartbeats 4000000 in
set_option maxRecDepth 100000 in
theorem k_X6_stale {l : Launch} {D : va_G} {cI cC cB : ClassId} {o xt xg xu xk xd xe xf : Nat} {a : Nat} {pq : Nat → Nat} {bx te ps pu sd cj ta : Nat → Nat} {b : Nat} {bq : Nat → Nat} {nw up st ex tl he dy se : Nat → Nat} {fi : Nat} {x y : Int32} (hR : PlR bx te ps pu sd cj ta) (hX : BoR bx nw up st ex tl he dy se fi) : MI l yX6_stale cX6_stale 3 (some .int) 3 D (Ty3 cI cC cB) [.ref o, .int (x), .int (y)] [(o, .inr (6, [.ref xt, .ref xg, .ref xu, .ref xk, .ref b, .ref xd, .ref xe, .ref a, .ref xf])), bO b bq fi (nw 2) (nw 0) (nw 1), (bq 0, .inl (cI, 4, .inl (fun z_ => nI (up z_)))), (bq 1, .inl (cI, 4, .inl (fun z_ => nI (st z_)))), (bq 2, .inl (cI, 12, .inl (fun z_ => nI (ex z_)))), (bq 3, .inl (cI, 12, .inl (fun z_ => nI (tl z_)))), (bq 4, .inl (cI, 12, .inl (fun z_ => nI (he z_)))), (bq 5, .inl (cI, 12, .inl (fun z_ => nI (dy z_)))), (bq 6, .inl (cI, 12, .inl (fun z_ => nI (se z_)))), pO a pq (bx 0) (bx 2) (bx 1) (szN bx (bx 0)) (bx 3) (bx 4), (pq 0, .inl (cI, 4, .inl (fun z_ => nI (te z_)))), (pq 1, .inl (cI, 4, .inl (fun z_ => nI (ps z_)))), (pq 2, .inl (cI, 4, .inl (fun z_ => nI (pu z_)))), (pq 3, .inl (cI, 4, .inl (fun z_ => nI (sd z_)))), (pq 4, .inl (cI, 8, .inl (fun z_ => nI (cj z_)))), (pq 5, .inl (cI, 5, .inl (fun z_ => nI (ta z_))))] (fun r u => (r = stA bx nw x y ∧ u = [(o, .inr (6, [.ref xt, .ref xg, .ref xu, .ref xk, .ref b, .ref xd, .ref xe, .ref a, .ref xf])), bO b bq fi (nw 2) (nw 0) (nw 1), (bq 0, .inl (cI, 4, .inl (fun z_ => nI (up z_)))), (bq 1, .inl (cI, 4, .inl (fun z_ => nI (st z_)))), (bq 2, .inl (cI, 12, .inl (fun z_ => nI (ex z_)))), (bq 3, .inl (cI, 12, .inl (fun z_ => nI (tl z_)))), (bq 4, .inl (cI, 12, .inl (fun z_ => nI (he z_)))), (bq 5, .inl (cI, 12, .inl (fun z_ => nI (dy z_)))), (bq 6, .inl (cI, 12, .inl (fun z_ => nI (se z_)))), pO a pq (bx 0) (bx 2) (bx 1) (szN bx (bx 0)) (bx 3) (bx 4), (pq 0, .inl (cI, 4, .inl (fun z_ => nI (te z_)))), (pq 1, .inl (cI, 4, .inl (fun z_ => nI (ps z_)))), (pq 2, .inl (cI, 4, .inl (fun z_ => nI (pu z_)))), (pq 3, .inl (cI, 4, .inl (fun z_ => nI (sd z_)))), (pq 4, .inl (cI, 8, .inl (fun z_ => nI (cj z_)))), (pq 5, .inl (cI, 5, .inl (fun z_ => nI (ta z_))))])) := by
  intro sz
  refine MI.walk (by decide +kernel) (Nat.le_of_ble_eq_true rfl) ?_
  intro p e s m args below meth c A Qf hx hb hml hts hown hret hK hP hD hS hA ls hl
  have hown : s.vm.findClass RX6 = some m.cls := hown
  have hl : lv_has ls 3 [(0, .ref o), (1, .int (x)), (2, .int (y))] := hl
  have hP : va_P D vwCl [(o, .inr (6, [.ref xt, .ref xg, .ref xu, .ref xk, .ref b, .ref xd, .ref xe, .ref a, .ref xf])), bO b bq fi (nw 2) (nw 0) (nw 1), (bq 0, .inl (cI, 4, .inl (fun z_ => nI (up z_)))), (bq 1, .inl (cI, 4, .inl (fun z_ => nI (st z_)))), (bq 2, .inl (cI, 12, .inl (fun z_ => nI (ex z_)))), (bq 3, .inl (cI, 12, .inl (fun z_ => nI (tl z_)))), (bq 4, .inl (cI, 12, .inl (fun z_ => nI (he z_)))), (bq 5, .inl (cI, 12, .inl (fun z_ => nI (dy z_)))), (bq 6, .inl (cI, 12, .inl (fun z_ => nI (se z_)))), pO a pq (bx 0) (bx 2) (bx 1) (szN bx (bx 0)) (bx 3) (bx 4), (pq 0, .inl (cI, 4, .inl (fun z_ => nI (te z_)))), (pq 1, .inl (cI, 4, .inl (fun z_ => nI (ps z_)))), (pq 2, .inl (cI, 4, .inl (fun z_ => nI (pu z_)))), (pq 3, .inl (cI, 4, .inl (fun z_ => nI (sd z_)))), (pq 4, .inl (cI, 8, .inl (fun z_ => nI (cj z_)))), (pq 5, .inl (cI, 5, .inl (fun z_ => nI (ta z_))))] s.heap := hP
  have hD : va_D A [(o, .inr (6, [.ref xt, .ref xg, .ref xu, .ref xk, .ref b, .ref xd, .ref xe, .ref a, .ref xf])), bO b bq fi (nw 2) (nw 0) (nw 1), (bq 0, .inl (cI, 4, .inl (fun z_ => nI (up z_)))), (bq 1, .inl (cI, 4, .inl (fun z_ => nI (st z_)))), (bq 2, .inl (cI, 12, .inl (fun z_ => nI (ex z_)))), (bq 3, .inl (cI, 12, .inl (fun z_ => nI (tl z_)))), (bq 4, .inl (cI, 12, .inl (fun z_ => nI (he z_)))), (bq 5, .inl (cI, 12, .inl (fun z_ => nI (dy z_)))), (bq 6, .inl (cI, 12, .inl (fun z_ => nI (se z_)))), pO a pq (bx 0) (bx 2) (bx 1) (szN bx (bx 0)) (bx 3) (bx 4), (pq 0, .inl (cI, 4, .inl (fun z_ => nI (te z_)))), (pq 1, .inl (cI, 4, .inl (fun z_ => nI (ps z_)))), (pq 2, .inl (cI, 4, .inl (fun z_ => nI (pu z_)))), (pq 3, .inl (cI, 4, .inl (fun z_ => nI (sd z_)))), (pq 4, .inl (cI, 8, .inl (fun z_ => nI (cj z_)))), (pq 5, .inl (cI, 5, .inl (fun z_ => nI (ta z_))))] := hD
  refine lv_aload_n hx hb dX6_stale_0 rfl (lv_at hl 0 rfl) ?_
  refine lv_iload_n hx hb dX6_stale_1 rfl (lv_at hl 1 rfl) ?_
  refine cl_6_151 (As := [.int (x)]) (rest := []) hx hb hml hts hown (k_X6_isExcuse (by first | assumption | omega)) (by decide) ⟨Nat.zero_le _, Nat.zero_le _⟩ hK hP hD hS hA 0 rfl [0, 9, 10, 11, 12, 13, 14, 15] rfl (by decide) rfl hl.1 rfl (Nat.le_of_ble_eq_true rfl) dX6_stale_2 (fun r_1 u H locs hp_2 hP hD hS => ?_)
  obtain ⟨rfl, rfl⟩ := hp_2
  have hP : va_P D vwCl [(o, .inr (6, [.ref xt, .ref xg, .ref xu, .ref xk, .ref b, .ref xd, .ref xe, .ref a, .ref xf])), bO b bq fi (nw 2) (nw 0) (nw 1), (bq 0, .inl (cI, 4, .inl (fun z_ => nI (up z_)))), (bq 1, .inl (cI, 4, .inl (fun z_ => nI (st z_)))), (bq 2, .inl (cI, 12, .inl (fun z_ => nI (ex z_)))), (bq 3, .inl (cI, 12, .inl (fun z_ => nI (tl z_)))), (bq 4, .inl (cI, 12, .inl (fun z_ => nI (he z_)))), (bq 5, .inl (cI, 12, .inl (fun z_ => nI (dy z_)))), (bq 6, .inl (cI, 12, .inl (fun z_ => nI (se z_)))), pO a pq (bx 0) (bx 2) (bx 1) (szN bx (bx 0)) (bx 3) (bx 4), (pq 0, .inl (cI, 4, .inl (fun z_ => nI (te z_)))), (pq 1, .inl (cI, 4, .inl (fun z_ => nI (ps z_)))), (pq 2, .inl (cI, 4, .inl (fun z_ => nI (pu z_)))), (pq 3, .inl (cI, 4, .inl (fun z_ => nI (sd z_)))), (pq 4, .inl (cI, 8, .inl (fun z_ => nI (cj z_)))), (pq 5, .inl (cI, 5, .inl (fun z_ => nI (ta z_))))] _ := hP
  have hD : va_D A [(o, .inr (6, [.ref xt, .ref xg, .ref xu, .ref xk, .ref b, .ref xd, .ref xe, .ref a, .ref xf])), bO b bq fi (nw 2) (nw 0) (nw 1), (bq 0, .inl (cI, 4, .inl (fun z_ => nI (up z_)))), (bq 1, .inl (cI, 4, .inl (fun z_ => nI (st z_)))), (bq 2, .inl (cI, 12, .inl (fun z_ => nI (ex z_)))), (bq 3, .inl (cI, 12, .inl (fun z_ => nI (tl z_)))), (bq 4, .inl (cI, 12, .inl (fun z_ => nI (he z_)))), (bq 5, .inl (cI, 12, .inl (fun z_ => nI (dy z_)))), (bq 6, .inl (cI, 12, .inl (fun z_ => nI (se z_)))), pO a pq (bx 0) (bx 2) (bx 1) (szN bx (bx 0)) (bx 3) (bx 4), (pq 0, .inl (cI, 4, .inl (fun z_ => nI (te z_)))), (pq 1, .inl (cI, 4, .inl (fun z_ => nI (ps z_)))), (pq 2, .inl (cI, 4, .inl (fun z_ => nI (pu z_)))), (pq 3, .inl (cI, 4, .inl (fun z_ => nI (sd z_)))), (pq 4, .inl (cI, 8, .inl (fun z_ => nI (cj z_)))), (pq 5, .inl (cI, 5, .inl (fun z_ => nI (ta z_))))] := hD
  refine n_ifb_eq (tgt := 16) hx hb dX6_stale_5 (by decide) (fun c_3 => ?_) (fun c_3 => ?_)
  · -- 5 to 16
    refine lv_iconst (v := (-1)) hx hb dX6_stale_16 (by decide) ?_
    refine hret hP hD hS dX6_stale_17 rfl rfl ?_
    exact ⟨by simp [stA, c_3, nI_0], rfl⟩
  · -- 5 to 8
    obtain ⟨j, hj, rfl⟩ := inN_e (by have := sz_lt hR.b; omega) c_3
    have hij_q : ix (nI j) = j := ix_n (by have := sz_lt hR.b; omega)
    have hicj_q : (nI j).toNatClampNeg = j := ix_n (by have := sz_lt hR.b; omega)
    refine lv_aload_n hx hb dX6_stale_8 rfl (lv_at hl 0 rfl) ?_
    refine lv_iload_n hx hb dX6_stale_9 rfl (lv_at hl 2 rfl) ?_
    refine cl_6_126 (As := [.int (y)]) (rest := []) hx hb hml hts hown (k_X6_isPerson (by first | assumption | omega)) (by decide) ⟨Nat.zero_le _, Nat.zero_le _⟩ hK hP hD hS hA 0 rfl [0, 9, 10, 11, 12, 13, 14, 15] rfl (by decide) rfl hl.1 rfl (Nat.le_of_ble_eq_true rfl) dX6_stale_10 (fun r_4 u H locs hp_5 hP hD hS => ?_)
    obtain ⟨rfl, rfl⟩ := hp_5
    have hP : va_P D vwCl [(o, .inr (6, [.ref xt, .ref xg, .ref xu, .ref xk, .ref b, .ref xd, .ref xe, .ref a, .ref xf])), bO b bq fi (nw 2) (nw 0) (nw 1), (bq 0, .inl (cI, 4, .inl (fun z_ => nI (up z_)))), (bq 1, .inl (cI, 4, .inl (fun z_ => nI (st z_)))), (bq 2, .inl (cI, 12, .inl (fun z_ => nI (ex z_)))), (bq 3, .inl (cI, 12, .inl (fun z_ => nI (tl z_)))), (bq 4, .inl (cI, 12, .inl (fun z_ => nI (he z_)))), (bq 5, .inl (cI, 12, .inl (fun z_ => nI (dy z_)))), (bq 6, .inl (cI, 12, .inl (fun z_ => nI (se z_)))), pO a pq (bx 0) (bx 2) (bx 1) (szN bx (bx 0)) (bx 3) (bx 4), (pq 0, .inl (cI, 4, .inl (fun z_ => nI (te z_)))), (pq 1, .inl (cI, 4, .inl (fun z_ => nI (ps z_)))), (pq 2, .inl (cI, 4, .inl (fun z_ => nI (pu z_)))), (pq 3, .inl (cI, 4, .inl (fun z_ => nI (sd z_)))), (pq 4, .inl (cI, 8, .inl (fun z_ => nI (cj z_)))), (pq 5, .inl (cI, 5, .inl (fun z_ => nI (ta z_))))] _ := hP
    have hD : va_D A [(o, .inr (6, [.ref xt, .ref xg, .ref xu, .ref xk, .ref b, .ref xd, .ref xe, .ref a, .ref xf])), bO b bq fi (nw 2) (nw 0) (nw 1), (bq 0, .inl (cI, 4, .inl (fun z_ => nI (up z_)))), (bq 1, .inl (cI, 4, .inl (fun z_ => nI (st z_)))), (bq 2, .inl (cI, 12, .inl (fun z_ => nI (ex z_)))), (bq 3, .inl (cI, 12, .inl (fun z_ => nI (tl z_)))), (bq 4, .inl (cI, 12, .inl (fun z_ => nI (he z_)))), (bq 5, .inl (cI, 12, .inl (fun z_ => nI (dy z_)))), (bq 6, .inl (cI, 12, .inl (fun z_ => nI (se z_)))), pO a pq (bx 0) (bx 2) (bx 1) (szN bx (bx 0)) (bx 3) (bx 4), (pq 0, .inl (cI, 4, .inl (fun z_ => nI (te z_)))), (pq 1, .inl (cI, 4, .inl (fun z_ => nI (ps z_)))), (pq 2, .inl (cI, 4, .inl (fun z_ => nI (pu z_)))), (pq 3, .inl (cI, 4, .inl (fun z_ => nI (sd z_)))), (pq 4, .inl (cI, 8, .inl (fun z_ => nI (cj z_)))), (pq 5, .inl (cI, 5, .inl (fun z_ => nI (ta z_))))] := hD
    refine n_ifb_ne (tgt := 18) hx hb dX6_stale_13 (by decide) (fun c_6 => ?_) (fun c_6 => ?_)
    · -- 13 to 18
      obtain ⟨k, hk, rfl⟩ := inN_e (by have := hR.b.bd 1; omega) c_6
      have hik_q : ix (nI k) = k := ix_n (by have := hR.b.bd 1; omega)
      have hick_q : (nI k).toNatClampNeg = k := ix_n (by have := hR.b.bd 1; omega)
      refine lv_aload_n hx hb dX6_stale_18 rfl (lv_at hl 0 rfl) ?_
      refine gf_6_38 hx hb hts hown hK hP 0 rfl rfl dX6_stale_19 ?_
      refine lv_iload_n hx hb dX6_stale_22 rfl (lv_at hl 1 rfl) ?_
      refine lv_aload_n hx hb dX6_stale_23 rfl (lv_at hl 0 rfl) ?_
      refine gf_6_55 hx hb hts hown hK hP 0 rfl rfl dX6_stale_24 ?_
      refine lv_iload_n hx hb dX6_stale_27 rfl (lv_at hl 2 rfl) ?_
      refine cl_6_158 (As := [.int (nI (k))]) (rest := [.int (nI (j)), .ref b]) hx hb hml hts hown (k_X2_circleOf (by first | assumption | omega) (by first | assumption | omega)) (by decide) ⟨Nat.zero_le _, Nat.zero_le _⟩ hK hP hD hS hA 9 rfl [9, 10, 11, 12, 13, 14, 15] rfl (by decide) rfl hl.1 rfl (Nat.le_of_ble_eq_true rfl) dX6_stale_28 (fun r_7 u H locs hp_8 hP hD hS => ?_)
      obtain ⟨rfl, rfl⟩ := hp_8
      have hP : va_P D vwCl [(o, .inr (6, [.ref xt, .ref xg, .ref xu, .ref xk, .ref b, .ref xd, .ref xe, .ref a, .ref xf])), bO b bq fi (nw 2) (nw 0) (nw 1), (bq 0, .inl (cI, 4, .inl (fun z_ => nI (up z_)))), (bq 1, .inl (cI, 4, .inl (fun z_ => nI (st z_)))), (bq 2, .inl (cI, 12, .inl (fun z_ => nI (ex z_)))), (bq 3, .inl (cI, 12, .inl (fun z_ => nI (tl z_)))), (bq 4, .inl (cI, 12, .inl (fun z_ => nI (he z_)))), (bq 5, .inl (cI, 12, .inl (fun z_ => nI (dy z_)))), (bq 6, .inl (cI, 12, .inl (fun z_ => nI (se z_)))), pO a pq (bx 0) (bx 2) (bx 1) (szN bx (bx 0)) (bx 3) (bx 4), (pq 0, .inl (cI, 4, .inl (fun z_ => nI (te z_)))), (pq 1, .inl (cI, 4, .inl (fun z_ => nI (ps z_)))), (pq 2, .inl (cI, 4, .inl (fun z_ => nI (pu z_)))), (pq 3, .inl (cI, 4, .inl (fun z_ => nI (sd z_)))), (pq 4, .inl (cI, 8, .inl (fun z_ => nI (cj z_)))), (pq 5, .inl (cI, 5, .inl (fun z_ => nI (ta z_))))] _ := hP
      have hD : va_D A [(o, .inr (6, [.ref xt, .ref xg, .ref xu, .ref xk, .ref b, .ref xd, .ref xe, .ref a, .ref xf])), bO b bq fi (nw 2) (nw 0) (nw 1), (bq 0, .inl (cI, 4, .inl (fun z_ => nI (up z_)))), (bq 1, .inl (cI, 4, .inl (fun z_ => nI (st z_)))), (bq 2, .inl (cI, 12, .inl (fun z_ => nI (ex z_)))), (bq 3, .inl (cI, 12, .inl (fun z_ => nI (tl z_)))), (bq 4, .inl (cI, 12, .inl (fun z_ => nI (he z_)))), (bq 5, .inl (cI, 12, .inl (fun z_ => nI (dy z_)))), (bq 6, .inl (cI, 12, .inl (fun z_ => nI (se z_)))), pO a pq (bx 0) (bx 2) (bx 1) (szN bx (bx 0)) (bx 3) (bx 4), (pq 0, .inl (cI, 4, .inl (fun z_ => nI (te z_)))), (pq 1, .inl (cI, 4, .inl (fun z_ => nI (ps z_)))), (pq 2, .inl (cI, 4, .inl (fun z_ => nI (pu z_)))), (pq 3, .inl (cI, 4, .inl (fun z_ => nI (sd z_)))), (pq 4, .inl (cI, 8, .inl (fun z_ => nI (cj z_)))), (pq 5, .inl (cI, 5, .inl (fun z_ => nI (ta z_))))] := hD
      refine cl_6_161 (As := [.int (nI (j)), .int (nI (tkN bx k (bx 1) ||| 1 * 2 ^ k))]) (rest := []) hx hb hml hts hown (k_X0_isUsed hX hR.b (by have := sz_lt hR.b; omega) (by have := th_lt hR.b hk; omega)) (by decide) ⟨Nat.zero_le _, Nat.zero_le _⟩ hK hP hD hS hA 1 rfl [1, 2, 3, 4, 5, 6, 7, 8] rfl (by decide) rfl hl.1 rfl (Nat.le_of_ble_eq_true rfl) dX6_stale_31 (fun r_9 u H locs hp_10 hP hD hS => ?_)
      obtain ⟨rfl, rfl⟩ := hp_10
      have hP : va_P D vwCl [(o, .inr (6, [.ref xt, .ref xg, .ref xu, .ref xk, .ref b, .ref xd, .ref xe, .ref a, .ref xf])), bO b bq fi (nw 2) (nw 0) (nw 1), (bq 0, .inl (cI, 4, .inl (fun z_ => nI (up z_)))), (bq 1, .inl (cI, 4, .inl (fun z_ => nI (st z_)))), (bq 2, .inl (cI, 12, .inl (fun z_ => nI (ex z_)))), (bq 3, .inl (cI, 12, .inl (fun z_ => nI (tl z_)))), (bq 4, .inl (cI, 12, .inl (fun z_ => nI (he z_)))), (bq 5, .inl (cI, 12, .inl (fun z_ => nI (dy z_)))), (bq 6, .inl (cI, 12, .inl (fun z_ => nI (se z_)))), pO a pq (bx 0) (bx 2) (bx 1) (szN bx (bx 0)) (bx 3) (bx 4), (pq 0, .inl (cI, 4, .inl (fun z_ => nI (te z_)))), (pq 1, .inl (cI, 4, .inl (fun z_ => nI (ps z_)))), (pq 2, .inl (cI, 4, .inl (fun z_ => nI (pu z_)))), (pq 3, .inl (cI, 4, .inl (fun z_ => nI (sd z_)))), (pq 4, .inl (cI, 8, .inl (fun z_ => nI (cj z_)))), (pq 5, .inl (cI, 5, .inl (fun z_ => nI (ta z_))))] _ := hP
      have hD : va_D A [(o, .inr (6, [.ref xt, .ref xg, .ref xu, .ref xk, .ref b, .ref xd, .ref xe, .ref a, .ref xf])), bO b bq fi (nw 2) (nw 0) (nw 1), (bq 0, .inl (cI, 4, .inl (fun z_ => nI (up z_)))), (bq 1, .inl (cI, 4, .inl (fun z_ => nI (st z_)))), (bq 2, .inl (cI, 12, .inl (fun z_ => nI (ex z_)))), (bq 3, .inl (cI, 12, .inl (fun z_ => nI (tl z_)))), (bq 4, .inl (cI, 12, .inl (fun z_ => nI (he z_)))), (bq 5, .inl (cI, 12, .inl (fun z_ => nI (dy z_)))), (bq 6, .inl (cI, 12, .inl (fun z_ => nI (se z_)))), pO a pq (bx 0) (bx 2) (bx 1) (szN bx (bx 0)) (bx 3) (bx 4), (pq 0, .inl (cI, 4, .inl (fun z_ => nI (te z_)))), (pq 1, .inl (cI, 4, .inl (fun z_ => nI (ps z_)))), (pq 2, .inl (cI, 4, .inl (fun z_ => nI (pu z_)))), (pq 3, .inl (cI, 4, .inl (fun z_ => nI (sd z_)))), (pq 4, .inl (cI, 8, .inl (fun z_ => nI (cj z_)))), (pq 5, .inl (cI, 5, .inl (fun z_ => nI (ta z_))))] := hD
      refine n_ifb_eq (tgt := 41) hx hb dX6_stale_34 (by decide) (fun c_11 => ?_) (fun c_11 => ?_)
      · -- 34 to 41
        have hst_q : staN bx nw j k (nw 2) = false := by rw [sta_us]; exact c_11
        refine lv_iconst (v := nI 0) hx hb dX6_stale_41 (by decide) ?_
        refine hret hP hD hS dX6_stale_42 rfl rfl ?_
        exact ⟨by simp [stA, c_3, c_6, c_11, hij_q, hicj_q, hik_q, hick_q, hst_q, nI_0], rfl⟩
      · -- 34 to 37
        have hst_q : staN bx nw j k (nw 2) = true := by rw [sta_us]; exact c_11
        refine lv_iconst (v := nI 1) hx hb dX6_stale_37 (by decide) ?_
        refine lv_goto (tgt := 42) hx hb dX6_stale_38 (by decide) ?_
        refine hret hP hD hS dX6_stale_42 rfl rfl ?_
        exact ⟨by simp [stA, c_3, c_6, c_11, hij_q, hicj_q, hik_q, hick_q, hst_q, nI_0], rfl⟩
    · -- 13 to 16
      refine lv_iconst (v := (-1)) hx hb dX6_stale_16 (by decide) ?_
      refine hret hP hD hS dX6_stale_17 rfl rfl ?_
      exact ⟨by simp [stA, c_3, c_6, hij_q, hicj_q, nI_0], rfl⟩
set_option maxHeartbeats 4000000 in
set_option maxRecDepth 100000 in
theorem k_X6_owner {l : Launch} {D : va_G} {cI cC cB : ClassId} {o xt xg xu xk xd xe xf : Nat} {a : Nat} {bx : Nat → Nat} {b : Nat} {bq : Nat → Nat} {nw up st ex tl he dy se : Nat → Nat} {fi : Nat} {x : Int32} (hX : BoR bx nw up st ex tl he dy se fi) : MI l yX6_owner cX6_owner 4 (some .int) 1 D (Ty3 cI cC cB) [.ref o, .int (x)] [(o, .inr (6, [.ref xt, .ref xg, .ref xu, .ref xk, .ref b, .ref xd, .ref xe, .ref a, .ref xf])), bO b bq fi (nw 2) (nw 0) (nw 1), (bq 0, .inl (cI, 4, .inl (fun z_ => nI (up z_)))), (bq 1, .inl (cI, 4, .inl (fun z_ => nI (st z_)))), (bq 2, .inl (cI, 12, .inl (fun z_ => nI (ex z_)))), (bq 3, .inl (cI, 12, .inl (fun z_ => nI (tl z_)))), (bq 4, .inl (cI, 12, .inl (fun z_ => nI (he z_)))), (bq 5, .inl (cI, 12, .inl (fun z_ => nI (dy z_)))), (bq 6, .inl (cI, 12, .inl (fun z_ => nI (se z_))))] (fun r u => (r = owA nw x ∧ u = [(o, .inr (6, [.ref xt, .ref xg, .ref xu, .ref xk, .ref b, .ref xd, .ref xe, .ref a, .ref xf])), bO b bq fi (nw 2) (nw 0) (nw 1), (bq 0, .inl (cI, 4, .inl (fun z_ => nI (up z_)))), (bq 1, .inl (cI, 4, .inl (fun z_ => nI (st z_)))), (bq 2, .inl (cI, 12, .inl (fun z_ => nI (ex z_)))), (bq 3, .inl (cI, 12, .inl (fun z_ => nI (tl z_)))), (bq 4, .inl (cI, 12, .inl (fun z_ => nI (he z_)))), (bq 5, .inl (cI, 12, .inl (fun z_ => nI (dy z_)))), (bq 6, .inl (cI, 12, .inl (fun z_ => nI (se z_))))])) := by
  intro sz
  refine MI.walk (by decide +kernel) (Nat.le_of_ble_eq_true rfl) ?_
  intro p e s m args below meth c A Qf hx hb hml hts hown hret hK hP hD hS hA ls hl
  have hown : s.vm.findClass RX6 = some m.cls := hown
  have hl : lv_has ls 4 [(0, .ref o), (1, .int (x))] := hl
  have hP : va_P D vwCl [(o, .inr (6, [.ref xt, .ref xg, .ref xu, .ref xk, .ref b, .ref xd, .ref xe, .ref a, .ref xf])), bO b bq fi (nw 2) (nw 0) (nw 1), (bq 0, .inl (cI, 4, .inl (fun z_ => nI (up z_)))), (bq 1, .inl (cI, 4, .inl (fun z_ => nI (st z_)))), (bq 2, .inl (cI, 12, .inl (fun z_ => nI (ex z_)))), (bq 3, .inl (cI, 12, .inl (fun z_ => nI (tl z_)))), (bq 4, .inl (cI, 12, .inl (fun z_ => nI (he z_)))), (bq 5, .inl (cI, 12, .inl (fun z_ => nI (dy z_)))), (bq 6, .inl (cI, 12, .inl (fun z_ => nI (se z_))))] s.heap := hP
  have hD : va_D A [(o, .inr (6, [.ref xt, .ref xg, .ref xu, .ref xk, .ref b, .ref xd, .ref xe, .ref a, .ref xf])), bO b bq fi (nw 2) (nw 0) (nw 1), (bq 0, .inl (cI, 4, .inl (fun z_ => nI (up z_)))), (bq 1, .inl (cI, 4, .inl (fun z_ => nI (st z_)))), (bq 2, .inl (cI, 12, .inl (fun z_ => nI (ex z_)))), (bq 3, .inl (cI, 12, .inl (fun z_ => nI (tl z_)))), (bq 4, .inl (cI, 12, .inl (fun z_ => nI (he z_)))), (bq 5, .inl (cI, 12, .inl (fun z_ => nI (dy z_)))), (bq 6, .inl (cI, 12, .inl (fun z_ => nI (se z_))))] := hD
  refine lv_aload_n hx hb dX6_owner_0 rfl (lv_at hl 0 rfl) ?_
  refine lv_iload_n hx hb dX6_owner_1 rfl (lv_at hl 1 rfl) ?_
  refine cl_6_133 (As := [.int (x)]) (rest := []) hx hb hml hts hown (k_X6_isHeard (by first | assumption | omega)) (by decide) ⟨Nat.zero_le _, Nat.zero_le _⟩ hK hP hD hS hA 0 rfl [0, 1, 2, 3, 4, 5, 6, 7, 8] rfl (by decide) rfl hl.1 rfl (Nat.le_of_ble_eq_true rfl) dX6_owner_2 (fun r_1 u H locs hp_2 hP hD hS => ?_)
  obtain ⟨rfl, rfl⟩ := hp_2
  have hP : va_P D vwCl [(o, .inr (6, [.ref xt, .ref xg, .ref xu, .ref xk, .ref b, .ref xd, .ref xe, .ref a, .ref xf])), bO b bq fi (nw 2) (nw 0) (nw 1), (bq 0, .inl (cI, 4, .inl (fun z_ => nI (up z_)))), (bq 1, .inl (cI, 4, .inl (fun z_ => nI (st z_)))), (bq 2, .inl (cI, 12, .inl (fun z_ => nI (ex z_)))), (bq 3, .inl (cI, 12, .inl (fun z_ => nI (tl z_)))), (bq 4, .inl (cI, 12, .inl (fun z_ => nI (he z_)))), (bq 5, .inl (cI, 12, .inl (fun z_ => nI (dy z_)))), (bq 6, .inl (cI, 12, .inl (fun z_ => nI (se z_))))] _ := hP
  have hD : va_D A [(o, .inr (6, [.ref xt, .ref xg, .ref xu, .ref xk, .ref b, .ref xd, .ref xe, .ref a, .ref xf])), bO b bq fi (nw 2) (nw 0) (nw 1), (bq 0, .inl (cI, 4, .inl (fun z_ => nI (up z_)))), (bq 1, .inl (cI, 4, .inl (fun z_ => nI (st z_)))), (bq 2, .inl (cI, 12, .inl (fun z_ => nI (ex z_)))), (bq 3, .inl (cI, 12, .inl (fun z_ => nI (tl z_)))), (bq 4, .inl (cI, 12, .inl (fun z_ => nI (he z_)))), (bq 5, .inl (cI, 12, .inl (fun z_ => nI (dy z_)))), (bq 6, .inl (cI, 12, .inl (fun z_ => nI (se z_))))] := hD
  refine n_ifb_ne (tgt := 10) hx hb dX6_owner_5 (by decide) (fun c_3 => ?_) (fun c_3 => ?_)
  · -- 5 to 10
    obtain ⟨j, hj, rfl⟩ := inN_e (by have := hX.d.h; omega) c_3
    have hij_q : ix (nI j) = j := ix_n (by have := hX.d.h; omega)
    have hicj_q : (nI j).toNatClampNeg = j := ix_n (by have := hX.d.h; omega)
    have hrj := hX.k j hj
    have h12_q := hX.d.h
    have hbj_q := hX.d.bd (16 + j)
    refine lv_aload_n hx hb dX6_owner_10 rfl (lv_at hl 0 rfl) ?_
    refine gf_6_38 hx hb hts hown hK hP 0 rfl rfl dX6_owner_11 ?_
    refine gf_6_136 hx hb hts hown hK hP 1 rfl rfl dX6_owner_14 ?_
    refine lv_iload_n hx hb dX6_owner_17 rfl (lv_at hl 1 rfl) ?_
    refine cl_6_109 (As := [.ref (bq 2), .int (nI (j))]) (rest := []) hx hb hml hts hown (k_X6_at (by first | assumption | omega) (by first | assumption | omega)) (by decide) ⟨Nat.zero_le _, Nat.zero_le _⟩ hK hP hD hS hA [4] rfl (by decide) rfl hl.1 rfl (Nat.le_of_ble_eq_true rfl) dX6_owner_18 (fun r_4 u H locs hp_5 hP hD hS => ?_)
    obtain ⟨rfl, rfl⟩ := hp_5
    have hP : va_P D vwCl [(o, .inr (6, [.ref xt, .ref xg, .ref xu, .ref xk, .ref b, .ref xd, .ref xe, .ref a, .ref xf])), bO b bq fi (nw 2) (nw 0) (nw 1), (bq 0, .inl (cI, 4, .inl (fun z_ => nI (up z_)))), (bq 1, .inl (cI, 4, .inl (fun z_ => nI (st z_)))), (bq 2, .inl (cI, 12, .inl (fun z_ => nI (ex z_)))), (bq 3, .inl (cI, 12, .inl (fun z_ => nI (tl z_)))), (bq 4, .inl (cI, 12, .inl (fun z_ => nI (he z_)))), (bq 5, .inl (cI, 12, .inl (fun z_ => nI (dy z_)))), (bq 6, .inl (cI, 12, .inl (fun z_ => nI (se z_))))] _ := hP
    have hD : va_D A [(o, .inr (6, [.ref xt, .ref xg, .ref xu, .ref xk, .ref b, .ref xd, .ref xe, .ref a, .ref xf])), bO b bq fi (nw 2) (nw 0) (nw 1), (bq 0, .inl (cI, 4, .inl (fun z_ => nI (up z_)))), (bq 1, .inl (cI, 4, .inl (fun z_ => nI (st z_)))), (bq 2, .inl (cI, 12, .inl (fun z_ => nI (ex z_)))), (bq 3, .inl (cI, 12, .inl (fun z_ => nI (tl z_)))), (bq 4, .inl (cI, 12, .inl (fun z_ => nI (he z_)))), (bq 5, .inl (cI, 12, .inl (fun z_ => nI (dy z_)))), (bq 6, .inl (cI, 12, .inl (fun z_ => nI (se z_))))] := hD
    refine lv_istore_n (lv' := [(2, .int (nI (ex j))), (0, .ref o), (1, .int (nI (j)))]) hx hb dX6_owner_21 rfl hl (by decide) rfl (fun ls hl => ?_)
    refine lv_iconst (v := nI 0) hx hb dX6_owner_22 (by decide) ?_
    refine lv_istore_n (lv' := [(3, .int (nI (0))), (2, .int (nI (ex j))), (0, .ref o), (1, .int (nI (j)))]) hx hb dX6_owner_23 rfl hl (by decide) rfl (fun ls hl => ?_)
    have loop_24 : ∀ (N : Nat) (k : Nat), (k ≤ j) → (fsN nw j k = k) → (j - k) < N → ∀ (H : Heap) (locs : List Loc), va_P D vwCl [(o, .inr (6, [.ref xt, .ref xg, .ref xu, .ref xk, .ref b, .ref xd, .ref xe, .ref a, .ref xf])), bO b bq fi (nw 2) (nw 0) (nw 1), (bq 0, .inl (cI, 4, .inl (fun z_ => nI (up z_)))), (bq 1, .inl (cI, 4, .inl (fun z_ => nI (st z_)))), (bq 2, .inl (cI, 12, .inl (fun z_ => nI (ex z_)))), (bq 3, .inl (cI, 12, .inl (fun z_ => nI (tl z_)))), (bq 4, .inl (cI, 12, .inl (fun z_ => nI (he z_)))), (bq 5, .inl (cI, 12, .inl (fun z_ => nI (dy z_)))), (bq 6, .inl (cI, 12, .inl (fun z_ => nI (se z_))))] H → va_D A [(o, .inr (6, [.ref xt, .ref xg, .ref xu, .ref xk, .ref b, .ref xd, .ref xe, .ref a, .ref xf])), bO b bq fi (nw 2) (nw 0) (nw 1), (bq 0, .inl (cI, 4, .inl (fun z_ => nI (up z_)))), (bq 1, .inl (cI, 4, .inl (fun z_ => nI (st z_)))), (bq 2, .inl (cI, 12, .inl (fun z_ => nI (ex z_)))), (bq 3, .inl (cI, 12, .inl (fun z_ => nI (tl z_)))), (bq 4, .inl (cI, 12, .inl (fun z_ => nI (he z_)))), (bq 5, .inl (cI, 12, .inl (fun z_ => nI (dy z_)))), (bq 6, .inl (cI, 12, .inl (fun z_ => nI (se z_))))] → va_S A s.heap H locs → ∀ ls : Array Slot, lv_has ls 4 [(3, .int (nI (k))), (2, .int (nI (ex j))), (0, .ref o), (1, .int (nI (j)))] → W p l e (rmL 1) s m args below meth c H locs 0 0 Qf (F0 m 24 ls []) := by
      intro N; induction N with
      | zero => intro k _ _ hm; omega
      | succ N ih_24 =>
        intro k hk hv hm H locs hP hD hS ls hl
        refine lv_iload_n hx hb dX6_owner_24 rfl (lv_at hl 0 rfl) ?_
        refine lv_iload_n hx hb dX6_owner_25 rfl (lv_at hl 3 rfl) ?_
        refine n_icmp_ge (tgt := 50) hx hb dX6_owner_26 (by decide) (by omega) (by omega) (fun c_6 => ?_) (fun c_6 => ?_)
        · -- 26 to 50
          refine lv_aload_n hx hb dX6_owner_50 rfl (lv_at hl 2 rfl) ?_
          refine gf_6_38 hx hb hts hown hK hP 0 rfl rfl dX6_owner_51 ?_
          refine gf_6_139 hx hb hts hown hK hP 1 rfl rfl dX6_owner_54 ?_
          refine lv_iload_n hx hb dX6_owner_57 rfl (lv_at hl 0 rfl) ?_
          refine cl_6_109 (As := [.ref (bq 3), .int (nI (k))]) (rest := []) hx hb hml hts hown (k_X6_at (by first | assumption | omega) (by first | assumption | omega)) (by decide) ⟨Nat.zero_le _, Nat.zero_le _⟩ hK hP hD hS hA [5] rfl (by decide) rfl hl.1 rfl (Nat.le_of_ble_eq_true rfl) dX6_owner_58 (fun r_7 u H locs hp_8 hP hD hS => ?_)
          obtain ⟨rfl, rfl⟩ := hp_8
          have hP : va_P D vwCl [(o, .inr (6, [.ref xt, .ref xg, .ref xu, .ref xk, .ref b, .ref xd, .ref xe, .ref a, .ref xf])), bO b bq fi (nw 2) (nw 0) (nw 1), (bq 0, .inl (cI, 4, .inl (fun z_ => nI (up z_)))), (bq 1, .inl (cI, 4, .inl (fun z_ => nI (st z_)))), (bq 2, .inl (cI, 12, .inl (fun z_ => nI (ex z_)))), (bq 3, .inl (cI, 12, .inl (fun z_ => nI (tl z_)))), (bq 4, .inl (cI, 12, .inl (fun z_ => nI (he z_)))), (bq 5, .inl (cI, 12, .inl (fun z_ => nI (dy z_)))), (bq 6, .inl (cI, 12, .inl (fun z_ => nI (se z_))))] _ := hP
          have hD : va_D A [(o, .inr (6, [.ref xt, .ref xg, .ref xu, .ref xk, .ref b, .ref xd, .ref xe, .ref a, .ref xf])), bO b bq fi (nw 2) (nw 0) (nw 1), (bq 0, .inl (cI, 4, .inl (fun z_ => nI (up z_)))), (bq 1, .inl (cI, 4, .inl (fun z_ => nI (st z_)))), (bq 2, .inl (cI, 12, .inl (fun z_ => nI (ex z_)))), (bq 3, .inl (cI, 12, .inl (fun z_ => nI (tl z_)))), (bq 4, .inl (cI, 12, .inl (fun z_ => nI (he z_)))), (bq 5, .inl (cI, 12, .inl (fun z_ => nI (dy z_)))), (bq 6, .inl (cI, 12, .inl (fun z_ => nI (se z_))))] := hD
          refine hret hP hD hS dX6_owner_61 rfl rfl ?_
          have hrk2 := hX.k k (by omega)
          exact ⟨by rw [owA, if_pos (by assumption), hij_q, ow_e hk hv (Or.inl (by omega)), hrk2.2.1], rfl⟩
        · -- 26 to 29
          refine lv_aload_n hx hb dX6_owner_29 rfl (lv_at hl 2 rfl) ?_
          refine gf_6_38 hx hb hts hown hK hP 0 rfl rfl dX6_owner_30 ?_
          refine gf_6_136 hx hb hts hown hK hP 1 rfl rfl dX6_owner_33 ?_
          refine lv_iload_n hx hb dX6_owner_36 rfl (lv_at hl 0 rfl) ?_
          refine cl_6_109 (As := [.ref (bq 2), .int (nI (k))]) (rest := []) hx hb hml hts hown (k_X6_at (by first | assumption | omega) (by first | assumption | omega)) (by decide) ⟨Nat.zero_le _, Nat.zero_le _⟩ hK hP hD hS hA [4] rfl (by decide) rfl hl.1 rfl (Nat.le_of_ble_eq_true rfl) dX6_owner_37 (fun r_9 u H locs hp_10 hP hD hS => ?_)
          obtain ⟨rfl, rfl⟩ := hp_10
          have hP : va_P D vwCl [(o, .inr (6, [.ref xt, .ref xg, .ref xu, .ref xk, .ref b, .ref xd, .ref xe, .ref a, .ref xf])), bO b bq fi (nw 2) (nw 0) (nw 1), (bq 0, .inl (cI, 4, .inl (fun z_ => nI (up z_)))), (bq 1, .inl (cI, 4, .inl (fun z_ => nI (st z_)))), (bq 2, .inl (cI, 12, .inl (fun z_ => nI (ex z_)))), (bq 3, .inl (cI, 12, .inl (fun z_ => nI (tl z_)))), (bq 4, .inl (cI, 12, .inl (fun z_ => nI (he z_)))), (bq 5, .inl (cI, 12, .inl (fun z_ => nI (dy z_)))), (bq 6, .inl (cI, 12, .inl (fun z_ => nI (se z_))))] _ := hP
          have hD : va_D A [(o, .inr (6, [.ref xt, .ref xg, .ref xu, .ref xk, .ref b, .ref xd, .ref xe, .ref a, .ref xf])), bO b bq fi (nw 2) (nw 0) (nw 1), (bq 0, .inl (cI, 4, .inl (fun z_ => nI (up z_)))), (bq 1, .inl (cI, 4, .inl (fun z_ => nI (st z_)))), (bq 2, .inl (cI, 12, .inl (fun z_ => nI (ex z_)))), (bq 3, .inl (cI, 12, .inl (fun z_ => nI (tl z_)))), (bq 4, .inl (cI, 12, .inl (fun z_ => nI (he z_)))), (bq 5, .inl (cI, 12, .inl (fun z_ => nI (dy z_)))), (bq 6, .inl (cI, 12, .inl (fun z_ => nI (se z_))))] := hD
          refine lv_iload_n hx hb dX6_owner_40 rfl (lv_at hl 1 rfl) ?_
          have hrk := hX.k k (by omega)
          have hbk_q := hX.d.bd (16 + k)
          refine n_icmp_eq (tgt := 50) hx hb dX6_owner_41 (by decide) (by omega) (by omega) (fun c_11 => ?_) (fun c_11 => ?_)
          · -- 41 to 50
            refine lv_aload_n hx hb dX6_owner_50 rfl (lv_at hl 2 rfl) ?_
            refine gf_6_38 hx hb hts hown hK hP 0 rfl rfl dX6_owner_51 ?_
            refine gf_6_139 hx hb hts hown hK hP 1 rfl rfl dX6_owner_54 ?_
            refine lv_iload_n hx hb dX6_owner_57 rfl (lv_at hl 0 rfl) ?_
            refine cl_6_109 (As := [.ref (bq 3), .int (nI (k))]) (rest := []) hx hb hml hts hown (k_X6_at (by first | assumption | omega) (by first | assumption | omega)) (by decide) ⟨Nat.zero_le _, Nat.zero_le _⟩ hK hP hD hS hA [5] rfl (by decide) rfl hl.1 rfl (Nat.le_of_ble_eq_true rfl) dX6_owner_58 (fun r_12 u H locs hp_13 hP hD hS => ?_)
            obtain ⟨rfl, rfl⟩ := hp_13
            have hP : va_P D vwCl [(o, .inr (6, [.ref xt, .ref xg, .ref xu, .ref xk, .ref b, .ref xd, .ref xe, .ref a, .ref xf])), bO b bq fi (nw 2) (nw 0) (nw 1), (bq 0, .inl (cI, 4, .inl (fun z_ => nI (up z_)))), (bq 1, .inl (cI, 4, .inl (fun z_ => nI (st z_)))), (bq 2, .inl (cI, 12, .inl (fun z_ => nI (ex z_)))), (bq 3, .inl (cI, 12, .inl (fun z_ => nI (tl z_)))), (bq 4, .inl (cI, 12, .inl (fun z_ => nI (he z_)))), (bq 5, .inl (cI, 12, .inl (fun z_ => nI (dy z_)))), (bq 6, .inl (cI, 12, .inl (fun z_ => nI (se z_))))] _ := hP
            have hD : va_D A [(o, .inr (6, [.ref xt, .ref xg, .ref xu, .ref xk, .ref b, .ref xd, .ref xe, .ref a, .ref xf])), bO b bq fi (nw 2) (nw 0) (nw 1), (bq 0, .inl (cI, 4, .inl (fun z_ => nI (up z_)))), (bq 1, .inl (cI, 4, .inl (fun z_ => nI (st z_)))), (bq 2, .inl (cI, 12, .inl (fun z_ => nI (ex z_)))), (bq 3, .inl (cI, 12, .inl (fun z_ => nI (tl z_)))), (bq 4, .inl (cI, 12, .inl (fun z_ => nI (he z_)))), (bq 5, .inl (cI, 12, .inl (fun z_ => nI (dy z_)))), (bq 6, .inl (cI, 12, .inl (fun z_ => nI (se z_))))] := hD
            refine hret hP hD hS dX6_owner_61 rfl rfl ?_
            have hrk2 := hX.k k (by omega)
            exact ⟨by rw [owA, if_pos (by assumption), hij_q, ow_e hk hv (Or.inr (by rw [← hrk.1, ← hrj.1]; assumption)), hrk2.2.1], rfl⟩
          · -- 41 to 44
            refine lv_iinc (v := nI (k + 1)) (lv' := [(3, .int (nI (k + 1))), (2, .int (nI (ex j))), (0, .ref o), (1, .int (nI (j)))]) hx hb dX6_owner_44 hl (k := 0) rfl (n_inc _ 1) (by decide) rfl (fun ls hl => ?_)
            refine lv_goto (tgt := 24) hx hb dX6_owner_47 (by decide) ?_
            exact ih_24 (k + 1) (by omega) (fs_b2 hv (by rw [← hrk.1, ← hrj.1]; assumption)) (by omega) _ _ hP hD hS _ (lv_sub hl [0, 1, 2, 3] rfl)
    exact loop_24 _ 0 (Nat.zero_le _) rfl (Nat.lt_succ_self _) _ _ hP hD hS _ (lv_sub hl [0, 1, 2, 3] rfl)
  · -- 5 to 8
    refine lv_iconst (v := (-1)) hx hb dX6_owner_8 (by decide) ?_
    refine hret hP hD hS dX6_owner_9 rfl rfl ?_
    exact ⟨by simp [owA, c_3], rfl⟩
set_option maxHeartbeats 4000000 in
set_option maxRecDepth 100000 in
theorem k_X6_up {l : Launch} {D : va_G} {cI cC cB : ClassId} {o xt xg xu xk xd xe xf : Nat} {a : Nat} {pq : Nat → Nat} {bx te ps pu sd cj ta : Nat → Nat} {b : Nat} {bq : Nat → Nat} {nw up st ex tl he dy se : Nat → Nat} {fi : Nat} {x y : Int32} (hR : PlR bx te ps pu sd cj ta) (hX : BoR bx nw up st ex tl he dy se fi) : MI l yX6_up cX6_up 4 (some .int) 4 D (Ty3 cI cC cB) [.ref o, .int (x), .int (y)] [(o, .inr (6, [.ref xt, .ref xg, .ref xu, .ref xk, .ref b, .ref xd, .ref xe, .ref a, .ref xf])), bO b bq fi (nw 2) (nw 0) (nw 1), (bq 0, .inl (cI, 4, .inl (fun z_ => nI (up z_)))), (bq 1, .inl (cI, 4, .inl (fun z_ => nI (st z_)))), (bq 2, .inl (cI, 12, .inl (fun z_ => nI (ex z_)))), (bq 3, .inl (cI, 12, .inl (fun z_ => nI (tl z_)))), (bq 4, .inl (cI, 12, .inl (fun z_ => nI (he z_)))), (bq 5, .inl (cI, 12, .inl (fun z_ => nI (dy z_)))), (bq 6, .inl (cI, 12, .inl (fun z_ => nI (se z_)))), pO a pq (bx 0) (bx 2) (bx 1) (szN bx (bx 0)) (bx 3) (bx 4), (pq 0, .inl (cI, 4, .inl (fun z_ => nI (te z_)))), (pq 1, .inl (cI, 4, .inl (fun z_ => nI (ps z_)))), (pq 2, .inl (cI, 4, .inl (fun z_ => nI (pu z_)))), (pq 3, .inl (cI, 4, .inl (fun z_ => nI (sd z_)))), (pq 4, .inl (cI, 8, .inl (fun z_ => nI (cj z_)))), (pq 5, .inl (cI, 5, .inl (fun z_ => nI (ta z_))))] (fun r u => (r = upA bx nw x y ∧ u = [(o, .inr (6, [.ref xt, .ref xg, .ref xu, .ref xk, .ref b, .ref xd, .ref xe, .ref a, .ref xf])), bO b bq fi (nw 2) (nw 0) (nw 1), (bq 0, .inl (cI, 4, .inl (fun z_ => nI (up z_)))), (bq 1, .inl (cI, 4, .inl (fun z_ => nI (st z_)))), (bq 2, .inl (cI, 12, .inl (fun z_ => nI (ex z_)))), (bq 3, .inl (cI, 12, .inl (fun z_ => nI (tl z_)))), (bq 4, .inl (cI, 12, .inl (fun z_ => nI (he z_)))), (bq 5, .inl (cI, 12, .inl (fun z_ => nI (dy z_)))), (bq 6, .inl (cI, 12, .inl (fun z_ => nI (se z_)))), pO a pq (bx 0) (bx 2) (bx 1) (szN bx (bx 0)) (bx 3) (bx 4), (pq 0, .inl (cI, 4, .inl (fun z_ => nI (te z_)))), (pq 1, .inl (cI, 4, .inl (fun z_ => nI (ps z_)))), (pq 2, .inl (cI, 4, .inl (fun z_ => nI (pu z_)))), (pq 3, .inl (cI, 4, .inl (fun z_ => nI (sd z_)))), (pq 4, .inl (cI, 8, .inl (fun z_ => nI (cj z_)))), (pq 5, .inl (cI, 5, .inl (fun z_ => nI (ta z_))))])) := by
  intro sz
  refine MI.walk (by decide +kernel) (Nat.le_of_ble_eq_true rfl) ?_
  intro p e s m args below meth c A Qf hx hb hml hts hown hret hK hP hD hS hA ls hl
  have hown : s.vm.findClass RX6 = some m.cls := hown
  have hl : lv_has ls 4 [(0, .ref o), (1, .int (x)), (2, .int (y))] := hl
  have hP : va_P D vwCl [(o, .inr (6, [.ref xt, .ref xg, .ref xu, .ref xk, .ref b, .ref xd, .ref xe, .ref a, .ref xf])), bO b bq fi (nw 2) (nw 0) (nw 1), (bq 0, .inl (cI, 4, .inl (fun z_ => nI (up z_)))), (bq 1, .inl (cI, 4, .inl (fun z_ => nI (st z_)))), (bq 2, .inl (cI, 12, .inl (fun z_ => nI (ex z_)))), (bq 3, .inl (cI, 12, .inl (fun z_ => nI (tl z_)))), (bq 4, .inl (cI, 12, .inl (fun z_ => nI (he z_)))), (bq 5, .inl (cI, 12, .inl (fun z_ => nI (dy z_)))), (bq 6, .inl (cI, 12, .inl (fun z_ => nI (se z_)))), pO a pq (bx 0) (bx 2) (bx 1) (szN bx (bx 0)) (bx 3) (bx 4), (pq 0, .inl (cI, 4, .inl (fun z_ => nI (te z_)))), (pq 1, .inl (cI, 4, .inl (fun z_ => nI (ps z_)))), (pq 2, .inl (cI, 4, .inl (fun z_ => nI (pu z_)))), (pq 3, .inl (cI, 4, .inl (fun z_ => nI (sd z_)))), (pq 4, .inl (cI, 8, .inl (fun z_ => nI (cj z_)))), (pq 5, .inl (cI, 5, .inl (fun z_ => nI (ta z_))))] s.heap := hP
  have hD : va_D A [(o, .inr (6, [.ref xt, .ref xg, .ref xu, .ref xk, .ref b, .ref xd, .ref xe, .ref a, .ref xf])), bO b bq fi (nw 2) (nw 0) (nw 1), (bq 0, .inl (cI, 4, .inl (fun z_ => nI (up z_)))), (bq 1, .inl (cI, 4, .inl (fun z_ => nI (st z_)))), (bq 2, .inl (cI, 12, .inl (fun z_ => nI (ex z_)))), (bq 3, .inl (cI, 12, .inl (fun z_ => nI (tl z_)))), (bq 4, .inl (cI, 12, .inl (fun z_ => nI (he z_)))), (bq 5, .inl (cI, 12, .inl (fun z_ => nI (dy z_)))), (bq 6, .inl (cI, 12, .inl (fun z_ => nI (se z_)))), pO a pq (bx 0) (bx 2) (bx 1) (szN bx (bx 0)) (bx 3) (bx 4), (pq 0, .inl (cI, 4, .inl (fun z_ => nI (te z_)))), (pq 1, .inl (cI, 4, .inl (fun z_ => nI (ps z_)))), (pq 2, .inl (cI, 4, .inl (fun z_ => nI (pu z_)))), (pq 3, .inl (cI, 4, .inl (fun z_ => nI (sd z_)))), (pq 4, .inl (cI, 8, .inl (fun z_ => nI (cj z_)))), (pq 5, .inl (cI, 5, .inl (fun z_ => nI (ta z_))))] := hD
  refine lv_iload_n hx hb dX6_up_0 rfl (lv_at hl 1 rfl) ?_
  refine lv_if_lt (tgt := 18) hx hb dX6_up_1 (by decide) (fun c_1 => ?_) (fun c_1 => ?_)
  · -- 1 to 18
    have hv0_q := inR_neg 9999 c_1
    refine lv_iconst (v := (-1)) hx hb dX6_up_18 (by decide) ?_
    refine hret hP hD hS dX6_up_19 rfl rfl ?_
    exact ⟨by simp [upA, ix_0, in01_0, c_1, hv0_q], rfl⟩
  · -- 1 to 4
    refine lv_iload_n hx hb dX6_up_4 rfl (lv_at hl 1 rfl) ?_
    refine lv_sipush (v := nI 9999) hx hb dX6_up_5 (by decide) ?_
    refine lv_icmp_gt (tgt := 18) hx hb dX6_up_8 (by decide) (fun c_2 => ?_) (fun c_2 => ?_)
    · -- 8 to 18
      have hv0_q := inR_big (b := 9999) (by decide) c_2
      refine lv_iconst (v := (-1)) hx hb dX6_up_18 (by decide) ?_
      refine hret hP hD hS dX6_up_19 rfl rfl ?_
      exact ⟨by simp [upA, ix_0, in01_0, c_1, c_2, hv0_q], rfl⟩
    · -- 8 to 11
      have hvj_q := inR_mid (b := 9999) (by decide) (by assumption) c_2
      obtain ⟨j, hl1, hh1, rfl⟩ := inR_e (by omega) hvj_q
      have hij_q : ix (nI j) = j := ix_n (by omega)
      refine lv_iload_n hx hb dX6_up_11 rfl (lv_at hl 2 rfl) ?_
      refine cl_6_206 (As := [.int (y)]) (rest := []) hx hb hml hts hown (k_X6_isPart ) (by decide) ⟨Nat.zero_le _, Nat.zero_le _⟩ hK hP hD hS hA [] rfl (by decide) rfl hl.1 rfl (Nat.le_of_ble_eq_true rfl) dX6_up_12 (fun r_3 u H locs hp_4 hP hD hS => ?_)
      obtain ⟨rfl, rfl⟩ := hp_4
      have hP : va_P D vwCl [(o, .inr (6, [.ref xt, .ref xg, .ref xu, .ref xk, .ref b, .ref xd, .ref xe, .ref a, .ref xf])), bO b bq fi (nw 2) (nw 0) (nw 1), (bq 0, .inl (cI, 4, .inl (fun z_ => nI (up z_)))), (bq 1, .inl (cI, 4, .inl (fun z_ => nI (st z_)))), (bq 2, .inl (cI, 12, .inl (fun z_ => nI (ex z_)))), (bq 3, .inl (cI, 12, .inl (fun z_ => nI (tl z_)))), (bq 4, .inl (cI, 12, .inl (fun z_ => nI (he z_)))), (bq 5, .inl (cI, 12, .inl (fun z_ => nI (dy z_)))), (bq 6, .inl (cI, 12, .inl (fun z_ => nI (se z_)))), pO a pq (bx 0) (bx 2) (bx 1) (szN bx (bx 0)) (bx 3) (bx 4), (pq 0, .inl (cI, 4, .inl (fun z_ => nI (te z_)))), (pq 1, .inl (cI, 4, .inl (fun z_ => nI (ps z_)))), (pq 2, .inl (cI, 4, .inl (fun z_ => nI (pu z_)))), (pq 3, .inl (cI, 4, .inl (fun z_ => nI (sd z_)))), (pq 4, .inl (cI, 8, .inl (fun z_ => nI (cj z_)))), (pq 5, .inl (cI, 5, .inl (fun z_ => nI (ta z_))))] _ := hP
      have hD : va_D A [(o, .inr (6, [.ref xt, .ref xg, .ref xu, .ref xk, .ref b, .ref xd, .ref xe, .ref a, .ref xf])), bO b bq fi (nw 2) (nw 0) (nw 1), (bq 0, .inl (cI, 4, .inl (fun z_ => nI (up z_)))), (bq 1, .inl (cI, 4, .inl (fun z_ => nI (st z_)))), (bq 2, .inl (cI, 12, .inl (fun z_ => nI (ex z_)))), (bq 3, .inl (cI, 12, .inl (fun z_ => nI (tl z_)))), (bq 4, .inl (cI, 12, .inl (fun z_ => nI (he z_)))), (bq 5, .inl (cI, 12, .inl (fun z_ => nI (dy z_)))), (bq 6, .inl (cI, 12, .inl (fun z_ => nI (se z_)))), pO a pq (bx 0) (bx 2) (bx 1) (szN bx (bx 0)) (bx 3) (bx 4), (pq 0, .inl (cI, 4, .inl (fun z_ => nI (te z_)))), (pq 1, .inl (cI, 4, .inl (fun z_ => nI (ps z_)))), (pq 2, .inl (cI, 4, .inl (fun z_ => nI (pu z_)))), (pq 3, .inl (cI, 4, .inl (fun z_ => nI (sd z_)))), (pq 4, .inl (cI, 8, .inl (fun z_ => nI (cj z_)))), (pq 5, .inl (cI, 5, .inl (fun z_ => nI (ta z_))))] := hD
      refine n_ifb_ne (tgt := 20) hx hb dX6_up_15 (by decide) (fun c_5 => ?_) (fun c_5 => ?_)
      · -- 15 to 20
        have hvk_q := c_5
        obtain ⟨k, hl2, hh2, rfl⟩ := inR_e (by omega) hvk_q
        have hik_q : ix (nI k) = k := ix_n (by omega)
        refine lv_aload_n hx hb dX6_up_20 rfl (lv_at hl 0 rfl) ?_
        refine gf_6_38 hx hb hts hown hK hP 0 rfl rfl dX6_up_21 ?_
        refine lv_aload_n hx hb dX6_up_24 rfl (lv_at hl 0 rfl) ?_
        refine gf_6_55 hx hb hts hown hK hP 0 rfl rfl dX6_up_25 ?_
        refine lv_iload_n hx hb dX6_up_28 rfl (lv_at hl 1 rfl) ?_
        refine cl_6_173 (As := [.ref a, .int (nI (j))]) (rest := []) hx hb hml hts hown (k_X0_excuseBehind (by first | assumption | omega) (by first | assumption | omega) (by first | assumption | omega)) (by decide) ⟨Nat.zero_le _, Nat.zero_le _⟩ hK hP hD hS hA 1 rfl [1, 2, 3, 4, 5, 6, 7, 8, 9, 10, 11, 12, 13, 14, 15] rfl (by decide) rfl hl.1 rfl (Nat.le_of_ble_eq_true rfl) dX6_up_29 (fun r_6 u H locs hp_7 hP hD hS => ?_)
        obtain ⟨rfl, rfl⟩ := hp_7
        have hP : va_P D vwCl [(o, .inr (6, [.ref xt, .ref xg, .ref xu, .ref xk, .ref b, .ref xd, .ref xe, .ref a, .ref xf])), bO b bq fi (nw 2) (nw 0) (nw 1), (bq 0, .inl (cI, 4, .inl (fun z_ => nI (up z_)))), (bq 1, .inl (cI, 4, .inl (fun z_ => nI (st z_)))), (bq 2, .inl (cI, 12, .inl (fun z_ => nI (ex z_)))), (bq 3, .inl (cI, 12, .inl (fun z_ => nI (tl z_)))), (bq 4, .inl (cI, 12, .inl (fun z_ => nI (he z_)))), (bq 5, .inl (cI, 12, .inl (fun z_ => nI (dy z_)))), (bq 6, .inl (cI, 12, .inl (fun z_ => nI (se z_)))), pO a pq (bx 0) (bx 2) (bx 1) (szN bx (bx 0)) (bx 3) (bx 4), (pq 0, .inl (cI, 4, .inl (fun z_ => nI (te z_)))), (pq 1, .inl (cI, 4, .inl (fun z_ => nI (ps z_)))), (pq 2, .inl (cI, 4, .inl (fun z_ => nI (pu z_)))), (pq 3, .inl (cI, 4, .inl (fun z_ => nI (sd z_)))), (pq 4, .inl (cI, 8, .inl (fun z_ => nI (cj z_)))), (pq 5, .inl (cI, 5, .inl (fun z_ => nI (ta z_))))] _ := hP
        have hD : va_D A [(o, .inr (6, [.ref xt, .ref xg, .ref xu, .ref xk, .ref b, .ref xd, .ref xe, .ref a, .ref xf])), bO b bq fi (nw 2) (nw 0) (nw 1), (bq 0, .inl (cI, 4, .inl (fun z_ => nI (up z_)))), (bq 1, .inl (cI, 4, .inl (fun z_ => nI (st z_)))), (bq 2, .inl (cI, 12, .inl (fun z_ => nI (ex z_)))), (bq 3, .inl (cI, 12, .inl (fun z_ => nI (tl z_)))), (bq 4, .inl (cI, 12, .inl (fun z_ => nI (he z_)))), (bq 5, .inl (cI, 12, .inl (fun z_ => nI (dy z_)))), (bq 6, .inl (cI, 12, .inl (fun z_ => nI (se z_)))), pO a pq (bx 0) (bx 2) (bx 1) (szN bx (bx 0)) (bx 3) (bx 4), (pq 0, .inl (cI, 4, .inl (fun z_ => nI (te z_)))), (pq 1, .inl (cI, 4, .inl (fun z_ => nI (ps z_)))), (pq 2, .inl (cI, 4, .inl (fun z_ => nI (pu z_)))), (pq 3, .inl (cI, 4, .inl (fun z_ => nI (sd z_)))), (pq 4, .inl (cI, 8, .inl (fun z_ => nI (cj z_)))), (pq 5, .inl (cI, 5, .inl (fun z_ => nI (ta z_))))] := hD
        refine lv_istore_n (lv' := [(3, .int (nI (ebN bx nw j))), (0, .ref o), (1, .int (nI (j))), (2, .int (nI (k)))]) hx hb dX6_up_32 rfl hl (by decide) rfl (fun ls hl => ?_)
        refine lv_iload_n hx hb dX6_up_33 rfl (lv_at hl 3 rfl) ?_
        refine n_if_ne (tgt := 39) hx hb dX6_up_34 (by decide) (by omega) (fun c_8 => ?_) (fun c_8 => ?_)
        · -- 34 to 39
          refine lv_aload_n hx hb dX6_up_39 rfl (lv_at hl 1 rfl) ?_
          refine gf_6_38 hx hb hts hown hK hP 0 rfl rfl dX6_up_40 ?_
          refine lv_aload_n hx hb dX6_up_43 rfl (lv_at hl 1 rfl) ?_
          refine gf_6_55 hx hb hts hown hK hP 0 rfl rfl dX6_up_44 ?_
          refine lv_iload_n hx hb dX6_up_47 rfl (lv_at hl 0 rfl) ?_
          refine cl_6_154 (As := [.ref a, .int (nI (ebN bx nw j))]) (rest := []) hx hb hml hts hown (k_X0_makesSense hR hX (by have := eb_lt hR.b nw j; omega)) (by decide) ⟨Nat.zero_le _, Nat.zero_le _⟩ hK hP hD hS hA 1 rfl [1, 2, 3, 4, 5, 6, 7, 8, 9, 10, 11, 12, 13, 14, 15] rfl (by decide) rfl hl.1 rfl (Nat.le_of_ble_eq_true rfl) dX6_up_48 (fun r_9 u H locs hp_10 hP hD hS => ?_)
          obtain ⟨rfl, rfl⟩ := hp_10
          have hP : va_P D vwCl [(o, .inr (6, [.ref xt, .ref xg, .ref xu, .ref xk, .ref b, .ref xd, .ref xe, .ref a, .ref xf])), bO b bq fi (nw 2) (nw 0) (nw 1), (bq 0, .inl (cI, 4, .inl (fun z_ => nI (up z_)))), (bq 1, .inl (cI, 4, .inl (fun z_ => nI (st z_)))), (bq 2, .inl (cI, 12, .inl (fun z_ => nI (ex z_)))), (bq 3, .inl (cI, 12, .inl (fun z_ => nI (tl z_)))), (bq 4, .inl (cI, 12, .inl (fun z_ => nI (he z_)))), (bq 5, .inl (cI, 12, .inl (fun z_ => nI (dy z_)))), (bq 6, .inl (cI, 12, .inl (fun z_ => nI (se z_)))), pO a pq (bx 0) (bx 2) (bx 1) (szN bx (bx 0)) (bx 3) (bx 4), (pq 0, .inl (cI, 4, .inl (fun z_ => nI (te z_)))), (pq 1, .inl (cI, 4, .inl (fun z_ => nI (ps z_)))), (pq 2, .inl (cI, 4, .inl (fun z_ => nI (pu z_)))), (pq 3, .inl (cI, 4, .inl (fun z_ => nI (sd z_)))), (pq 4, .inl (cI, 8, .inl (fun z_ => nI (cj z_)))), (pq 5, .inl (cI, 5, .inl (fun z_ => nI (ta z_))))] _ := hP
          have hD : va_D A [(o, .inr (6, [.ref xt, .ref xg, .ref xu, .ref xk, .ref b, .ref xd, .ref xe, .ref a, .ref xf])), bO b bq fi (nw 2) (nw 0) (nw 1), (bq 0, .inl (cI, 4, .inl (fun z_ => nI (up z_)))), (bq 1, .inl (cI, 4, .inl (fun z_ => nI (st z_)))), (bq 2, .inl (cI, 12, .inl (fun z_ => nI (ex z_)))), (bq 3, .inl (cI, 12, .inl (fun z_ => nI (tl z_)))), (bq 4, .inl (cI, 12, .inl (fun z_ => nI (he z_)))), (bq 5, .inl (cI, 12, .inl (fun z_ => nI (dy z_)))), (bq 6, .inl (cI, 12, .inl (fun z_ => nI (se z_)))), pO a pq (bx 0) (bx 2) (bx 1) (szN bx (bx 0)) (bx 3) (bx 4), (pq 0, .inl (cI, 4, .inl (fun z_ => nI (te z_)))), (pq 1, .inl (cI, 4, .inl (fun z_ => nI (ps z_)))), (pq 2, .inl (cI, 4, .inl (fun z_ => nI (pu z_)))), (pq 3, .inl (cI, 4, .inl (fun z_ => nI (sd z_)))), (pq 4, .inl (cI, 8, .inl (fun z_ => nI (cj z_)))), (pq 5, .inl (cI, 5, .inl (fun z_ => nI (ta z_))))] := hD
          refine n_ifb_eq (tgt := 58) hx hb dX6_up_51 (by decide) (fun c_11 => ?_) (fun c_11 => ?_)
          · -- 51 to 58
            refine lv_iconst (v := nI 0) hx hb dX6_up_58 (by decide) ?_
            refine hret hP hD hS dX6_up_59 rfl rfl ?_
            exact ⟨by simp [upA, ix_0, in01_0, c_1, c_2, c_5, c_8, c_11, hvj_q, hij_q, hvk_q, hik_q], rfl⟩
          · -- 51 to 54
            refine lv_iconst (v := nI 1) hx hb dX6_up_54 (by decide) ?_
            refine lv_goto (tgt := 59) hx hb dX6_up_55 (by decide) ?_
            refine hret hP hD hS dX6_up_59 rfl rfl ?_
            exact ⟨by simp [upA, ix_0, in01_0, c_1, c_2, c_5, c_8, c_11, hvj_q, hij_q, hvk_q, hik_q], rfl⟩
        · -- 34 to 37
          refine lv_iload_n hx hb dX6_up_37 rfl (lv_at hl 0 rfl) ?_
          refine hret hP hD hS dX6_up_38 rfl rfl ?_
          exact ⟨by simp [upA, ix_0, in01_0, c_1, c_2, c_5, c_8, hvj_q, hij_q, hvk_q, hik_q], rfl⟩
      · -- 15 to 18
        have hvk_q := c_5
        refine lv_iconst (v := (-1)) hx hb dX6_up_18 (by decide) ?_
        refine hret hP hD hS dX6_up_19 rfl rfl ?_
        exact ⟨by simp [upA, ix_0, in01_0, c_1, c_2, c_5, hvj_q, hij_q, hvk_q], rfl⟩
set_option maxHeartbeats 4000000 in
set_option maxRecDepth 100000 in
theorem k_X6_round {l : Launch} {D : va_G} {cI cC cB : ClassId} {o xt xg xu xk xd xe xf : Nat} {a : Nat} {pq : Nat → Nat} {bx te ps pu sd cj ta : Nat → Nat} {b : Nat} {bq : Nat → Nat} {nw up st ex tl he dy se : Nat → Nat} {fi : Nat}  (hR : PlR bx te ps pu sd cj ta) (hX : BoR bx nw up st ex tl he dy se fi) : MI l yX6_round cX6_round 1 (some .int) 2 D (Ty3 cI cC cB) [.ref o] [(o, .inr (6, [.ref xt, .ref xg, .ref xu, .ref xk, .ref b, .ref xd, .ref xe, .ref a, .ref xf])), bO b bq fi (nw 2) (nw 0) (nw 1), (bq 0, .inl (cI, 4, .inl (fun z_ => nI (up z_)))), (bq 1, .inl (cI, 4, .inl (fun z_ => nI (st z_)))), (bq 2, .inl (cI, 12, .inl (fun z_ => nI (ex z_)))), (bq 3, .inl (cI, 12, .inl (fun z_ => nI (tl z_)))), (bq 4, .inl (cI, 12, .inl (fun z_ => nI (he z_)))), (bq 5, .inl (cI, 12, .inl (fun z_ => nI (dy z_)))), (bq 6, .inl (cI, 12, .inl (fun z_ => nI (se z_)))), pO a pq (bx 0) (bx 2) (bx 1) (szN bx (bx 0)) (bx 3) (bx 4), (pq 0, .inl (cI, 4, .inl (fun z_ => nI (te z_)))), (pq 1, .inl (cI, 4, .inl (fun z_ => nI (ps z_)))), (pq 2, .inl (cI, 4, .inl (fun z_ => nI (pu z_)))), (pq 3, .inl (cI, 4, .inl (fun z_ => nI (sd z_)))), (pq 4, .inl (cI, 8, .inl (fun z_ => nI (cj z_)))), (pq 5, .inl (cI, 5, .inl (fun z_ => nI (ta z_))))] (fun r u => (r = nI (rdN bx nw (bx 0)) ∧ u = [(o, .inr (6, [.ref xt, .ref xg, .ref xu, .ref xk, .ref b, .ref xd, .ref xe, .ref a, .ref xf])), bO b bq fi (nw 2) (nw 0) (nw 1), (bq 0, .inl (cI, 4, .inl (fun z_ => nI (up z_)))), (bq 1, .inl (cI, 4, .inl (fun z_ => nI (st z_)))), (bq 2, .inl (cI, 12, .inl (fun z_ => nI (ex z_)))), (bq 3, .inl (cI, 12, .inl (fun z_ => nI (tl z_)))), (bq 4, .inl (cI, 12, .inl (fun z_ => nI (he z_)))), (bq 5, .inl (cI, 12, .inl (fun z_ => nI (dy z_)))), (bq 6, .inl (cI, 12, .inl (fun z_ => nI (se z_)))), pO a pq (bx 0) (bx 2) (bx 1) (szN bx (bx 0)) (bx 3) (bx 4), (pq 0, .inl (cI, 4, .inl (fun z_ => nI (te z_)))), (pq 1, .inl (cI, 4, .inl (fun z_ => nI (ps z_)))), (pq 2, .inl (cI, 4, .inl (fun z_ => nI (pu z_)))), (pq 3, .inl (cI, 4, .inl (fun z_ => nI (sd z_)))), (pq 4, .inl (cI, 8, .inl (fun z_ => nI (cj z_)))), (pq 5, .inl (cI, 5, .inl (fun z_ => nI (ta z_))))])) := by
  intro sz
  refine MI.walk (by decide +kernel) (Nat.le_of_ble_eq_true rfl) ?_
  intro p e s m args below meth c A Qf hx hb hml hts hown hret hK hP hD hS hA ls hl
  have hown : s.vm.findClass RX6 = some m.cls := hown
  have hl : lv_has ls 1 [(0, .ref o)] := hl
  have hP : va_P D vwCl [(o, .inr (6, [.ref xt, .ref xg, .ref xu, .ref xk, .ref b, .ref xd, .ref xe, .ref a, .ref xf])), bO b bq fi (nw 2) (nw 0) (nw 1), (bq 0, .inl (cI, 4, .inl (fun z_ => nI (up z_)))), (bq 1, .inl (cI, 4, .inl (fun z_ => nI (st z_)))), (bq 2, .inl (cI, 12, .inl (fun z_ => nI (ex z_)))), (bq 3, .inl (cI, 12, .inl (fun z_ => nI (tl z_)))), (bq 4, .inl (cI, 12, .inl (fun z_ => nI (he z_)))), (bq 5, .inl (cI, 12, .inl (fun z_ => nI (dy z_)))), (bq 6, .inl (cI, 12, .inl (fun z_ => nI (se z_)))), pO a pq (bx 0) (bx 2) (bx 1) (szN bx (bx 0)) (bx 3) (bx 4), (pq 0, .inl (cI, 4, .inl (fun z_ => nI (te z_)))), (pq 1, .inl (cI, 4, .inl (fun z_ => nI (ps z_)))), (pq 2, .inl (cI, 4, .inl (fun z_ => nI (pu z_)))), (pq 3, .inl (cI, 4, .inl (fun z_ => nI (sd z_)))), (pq 4, .inl (cI, 8, .inl (fun z_ => nI (cj z_)))), (pq 5, .inl (cI, 5, .inl (fun z_ => nI (ta z_))))] s.heap := hP
  have hD : va_D A [(o, .inr (6, [.ref xt, .ref xg, .ref xu, .ref xk, .ref b, .ref xd, .ref xe, .ref a, .ref xf])), bO b bq fi (nw 2) (nw 0) (nw 1), (bq 0, .inl (cI, 4, .inl (fun z_ => nI (up z_)))), (bq 1, .inl (cI, 4, .inl (fun z_ => nI (st z_)))), (bq 2, .inl (cI, 12, .inl (fun z_ => nI (ex z_)))), (bq 3, .inl (cI, 12, .inl (fun z_ => nI (tl z_)))), (bq 4, .inl (cI, 12, .inl (fun z_ => nI (he z_)))), (bq 5, .inl (cI, 12, .inl (fun z_ => nI (dy z_)))), (bq 6, .inl (cI, 12, .inl (fun z_ => nI (se z_)))), pO a pq (bx 0) (bx 2) (bx 1) (szN bx (bx 0)) (bx 3) (bx 4), (pq 0, .inl (cI, 4, .inl (fun z_ => nI (te z_)))), (pq 1, .inl (cI, 4, .inl (fun z_ => nI (ps z_)))), (pq 2, .inl (cI, 4, .inl (fun z_ => nI (pu z_)))), (pq 3, .inl (cI, 4, .inl (fun z_ => nI (sd z_)))), (pq 4, .inl (cI, 8, .inl (fun z_ => nI (cj z_)))), (pq 5, .inl (cI, 5, .inl (fun z_ => nI (ta z_))))] := hD
  refine lv_aload_n hx hb dX6_round_0 rfl (lv_at hl 0 rfl) ?_
  refine gf_6_38 hx hb hts hown hK hP 0 rfl rfl dX6_round_1 ?_
  refine lv_aload_n hx hb dX6_round_4 rfl (lv_at hl 0 rfl) ?_
  refine gf_6_55 hx hb hts hown hK hP 0 rfl rfl dX6_round_5 ?_
  refine cl_6_209 (As := [.ref a]) (rest := []) hx hb hml hts hown (k_X0_turnsInRound (by first | assumption | omega) (by first | assumption | omega)) (by decide) ⟨Nat.zero_le _, Nat.zero_le _⟩ hK hP hD hS hA 1 rfl [1, 2, 3, 4, 5, 6, 7, 8, 9, 10, 11, 12, 13, 14, 15] rfl (by decide) rfl hl.1 rfl (Nat.le_of_ble_eq_true rfl) dX6_round_8 (fun r_1 u H locs hp_2 hP hD hS => ?_)
  obtain ⟨rfl, rfl⟩ := hp_2
  have hP : va_P D vwCl [(o, .inr (6, [.ref xt, .ref xg, .ref xu, .ref xk, .ref b, .ref xd, .ref xe, .ref a, .ref xf])), bO b bq fi (nw 2) (nw 0) (nw 1), (bq 0, .inl (cI, 4, .inl (fun z_ => nI (up z_)))), (bq 1, .inl (cI, 4, .inl (fun z_ => nI (st z_)))), (bq 2, .inl (cI, 12, .inl (fun z_ => nI (ex z_)))), (bq 3, .inl (cI, 12, .inl (fun z_ => nI (tl z_)))), (bq 4, .inl (cI, 12, .inl (fun z_ => nI (he z_)))), (bq 5, .inl (cI, 12, .inl (fun z_ => nI (dy z_)))), (bq 6, .inl (cI, 12, .inl (fun z_ => nI (se z_)))), pO a pq (bx 0) (bx 2) (bx 1) (szN bx (bx 0)) (bx 3) (bx 4), (pq 0, .inl (cI, 4, .inl (fun z_ => nI (te z_)))), (pq 1, .inl (cI, 4, .inl (fun z_ => nI (ps z_)))), (pq 2, .inl (cI, 4, .inl (fun z_ => nI (pu z_)))), (pq 3, .inl (cI, 4, .inl (fun z_ => nI (sd z_)))), (pq 4, .inl (cI, 8, .inl (fun z_ => nI (cj z_)))), (pq 5, .inl (cI, 5, .inl (fun z_ => nI (ta z_))))] _ := hP
  have hD : va_D A [(o, .inr (6, [.ref xt, .ref xg, .ref xu, .ref xk, .ref b, .ref xd, .ref xe, .ref a, .ref xf])), bO b bq fi (nw 2) (nw 0) (nw 1), (bq 0, .inl (cI, 4, .inl (fun z_ => nI (up z_)))), (bq 1, .inl (cI, 4, .inl (fun z_ => nI (st z_)))), (bq 2, .inl (cI, 12, .inl (fun z_ => nI (ex z_)))), (bq 3, .inl (cI, 12, .inl (fun z_ => nI (tl z_)))), (bq 4, .inl (cI, 12, .inl (fun z_ => nI (he z_)))), (bq 5, .inl (cI, 12, .inl (fun z_ => nI (dy z_)))), (bq 6, .inl (cI, 12, .inl (fun z_ => nI (se z_)))), pO a pq (bx 0) (bx 2) (bx 1) (szN bx (bx 0)) (bx 3) (bx 4), (pq 0, .inl (cI, 4, .inl (fun z_ => nI (te z_)))), (pq 1, .inl (cI, 4, .inl (fun z_ => nI (ps z_)))), (pq 2, .inl (cI, 4, .inl (fun z_ => nI (pu z_)))), (pq 3, .inl (cI, 4, .inl (fun z_ => nI (sd z_)))), (pq 4, .inl (cI, 8, .inl (fun z_ => nI (cj z_)))), (pq 5, .inl (cI, 5, .inl (fun z_ => nI (ta z_))))] := hD
  refine hret hP hD hS dX6_round_11 rfl rfl ?_
  exact ⟨rfl, rfl⟩
set_option maxHeartbeats 4000000 in
set_option maxRecDepth 100000 in
theorem k_X6_longest {l : Launch} {D : va_G} {cI cC cB : ClassId} {o xt xg xu xk xd xe xf : Nat} {a : Nat} {pq : Nat → Nat} {bx te ps pu sd cj ta : Nat → Nat} {b : Nat} {bq : Nat → Nat} {nw up st ex tl he dy se : Nat → Nat} {fi : Nat} {x : Int32} (hR : PlR bx te ps pu sd cj ta) (hX : BoR bx nw up st ex tl he dy se fi) : MI l yX6_longest cX6_longest 6 (some .int) 5 D (Ty3 cI cC cB) [.ref o, .int (x)] [(o, .inr (6, [.ref xt, .ref xg, .ref xu, .ref xk, .ref b, .ref xd, .ref xe, .ref a, .ref xf])), bO b bq fi (nw 2) (nw 0) (nw 1), (bq 0, .inl (cI, 4, .inl (fun z_ => nI (up z_)))), (bq 1, .inl (cI, 4, .inl (fun z_ => nI (st z_)))), (bq 2, .inl (cI, 12, .inl (fun z_ => nI (ex z_)))), (bq 3, .inl (cI, 12, .inl (fun z_ => nI (tl z_)))), (bq 4, .inl (cI, 12, .inl (fun z_ => nI (he z_)))), (bq 5, .inl (cI, 12, .inl (fun z_ => nI (dy z_)))), (bq 6, .inl (cI, 12, .inl (fun z_ => nI (se z_)))), pO a pq (bx 0) (bx 2) (bx 1) (szN bx (bx 0)) (bx 3) (bx 4), (pq 0, .inl (cI, 4, .inl (fun z_ => nI (te z_)))), (pq 1, .inl (cI, 4, .inl (fun z_ => nI (ps z_)))), (pq 2, .inl (cI, 4, .inl (fun z_ => nI (pu z_)))), (pq 3, .inl (cI, 4, .inl (fun z_ => nI (sd z_)))), (pq 4, .inl (cI, 8, .inl (fun z_ => nI (cj z_)))), (pq 5, .inl (cI, 5, .inl (fun z_ => nI (ta z_))))] (fun r u => (r = loA bx nw x ∧ u = [(o, .inr (6, [.ref xt, .ref xg, .ref xu, .ref xk, .ref b, .ref xd, .ref xe, .ref a, .ref xf])), bO b bq fi (nw 2) (nw 0) (nw 1), (bq 0, .inl (cI, 4, .inl (fun z_ => nI (up z_)))), (bq 1, .inl (cI, 4, .inl (fun z_ => nI (st z_)))), (bq 2, .inl (cI, 12, .inl (fun z_ => nI (ex z_)))), (bq 3, .inl (cI, 12, .inl (fun z_ => nI (tl z_)))), (bq 4, .inl (cI, 12, .inl (fun z_ => nI (he z_)))), (bq 5, .inl (cI, 12, .inl (fun z_ => nI (dy z_)))), (bq 6, .inl (cI, 12, .inl (fun z_ => nI (se z_)))), pO a pq (bx 0) (bx 2) (bx 1) (szN bx (bx 0)) (bx 3) (bx 4), (pq 0, .inl (cI, 4, .inl (fun z_ => nI (te z_)))), (pq 1, .inl (cI, 4, .inl (fun z_ => nI (ps z_)))), (pq 2, .inl (cI, 4, .inl (fun z_ => nI (pu z_)))), (pq 3, .inl (cI, 4, .inl (fun z_ => nI (sd z_)))), (pq 4, .inl (cI, 8, .inl (fun z_ => nI (cj z_)))), (pq 5, .inl (cI, 5, .inl (fun z_ => nI (ta z_))))])) := by
  intro sz
  refine MI.walk (by decide +kernel) (Nat.le_of_ble_eq_true rfl) ?_
  intro p e s m args below meth c A Qf hx hb hml hts hown hret hK hP hD hS hA ls hl
  have hown : s.vm.findClass RX6 = some m.cls := hown
  have hl : lv_has ls 6 [(0, .ref o), (1, .int (x))] := hl
  have hP : va_P D vwCl [(o, .inr (6, [.ref xt, .ref xg, .ref xu, .ref xk, .ref b, .ref xd, .ref xe, .ref a, .ref xf])), bO b bq fi (nw 2) (nw 0) (nw 1), (bq 0, .inl (cI, 4, .inl (fun z_ => nI (up z_)))), (bq 1, .inl (cI, 4, .inl (fun z_ => nI (st z_)))), (bq 2, .inl (cI, 12, .inl (fun z_ => nI (ex z_)))), (bq 3, .inl (cI, 12, .inl (fun z_ => nI (tl z_)))), (bq 4, .inl (cI, 12, .inl (fun z_ => nI (he z_)))), (bq 5, .inl (cI, 12, .inl (fun z_ => nI (dy z_)))), (bq 6, .inl (cI, 12, .inl (fun z_ => nI (se z_)))), pO a pq (bx 0) (bx 2) (bx 1) (szN bx (bx 0)) (bx 3) (bx 4), (pq 0, .inl (cI, 4, .inl (fun z_ => nI (te z_)))), (pq 1, .inl (cI, 4, .inl (fun z_ => nI (ps z_)))), (pq 2, .inl (cI, 4, .inl (fun z_ => nI (pu z_)))), (pq 3, .inl (cI, 4, .inl (fun z_ => nI (sd z_)))), (pq 4, .inl (cI, 8, .inl (fun z_ => nI (cj z_)))), (pq 5, .inl (cI, 5, .inl (fun z_ => nI (ta z_))))] s.heap := hP
  have hD : va_D A [(o, .inr (6, [.ref xt, .ref xg, .ref xu, .ref xk, .ref b, .ref xd, .ref xe, .ref a, .ref xf])), bO b bq fi (nw 2) (nw 0) (nw 1), (bq 0, .inl (cI, 4, .inl (fun z_ => nI (up z_)))), (bq 1, .inl (cI, 4, .inl (fun z_ => nI (st z_)))), (bq 2, .inl (cI, 12, .inl (fun z_ => nI (ex z_)))), (bq 3, .inl (cI, 12, .inl (fun z_ => nI (tl z_)))), (bq 4, .inl (cI, 12, .inl (fun z_ => nI (he z_)))), (bq 5, .inl (cI, 12, .inl (fun z_ => nI (dy z_)))), (bq 6, .inl (cI, 12, .inl (fun z_ => nI (se z_)))), pO a pq (bx 0) (bx 2) (bx 1) (szN bx (bx 0)) (bx 3) (bx 4), (pq 0, .inl (cI, 4, .inl (fun z_ => nI (te z_)))), (pq 1, .inl (cI, 4, .inl (fun z_ => nI (ps z_)))), (pq 2, .inl (cI, 4, .inl (fun z_ => nI (pu z_)))), (pq 3, .inl (cI, 4, .inl (fun z_ => nI (sd z_)))), (pq 4, .inl (cI, 8, .inl (fun z_ => nI (cj z_)))), (pq 5, .inl (cI, 5, .inl (fun z_ => nI (ta z_))))] := hD
  refine lv_aload_n hx hb dX6_longest_0 rfl (lv_at hl 0 rfl) ?_
  refine lv_iload_n hx hb dX6_longest_1 rfl (lv_at hl 1 rfl) ?_
  refine cl_6_126 (As := [.int (x)]) (rest := []) hx hb hml hts hown (k_X6_isPerson (by first | assumption | omega)) (by decide) ⟨Nat.zero_le _, Nat.zero_le _⟩ hK hP hD hS hA 0 rfl [0, 9, 10, 11, 12, 13, 14, 15] rfl (by decide) rfl hl.1 rfl (Nat.le_of_ble_eq_true rfl) dX6_longest_2 (fun r_1 u H locs hp_2 hP hD hS => ?_)
  obtain ⟨rfl, rfl⟩ := hp_2
  have hP : va_P D vwCl [(o, .inr (6, [.ref xt, .ref xg, .ref xu, .ref xk, .ref b, .ref xd, .ref xe, .ref a, .ref xf])), bO b bq fi (nw 2) (nw 0) (nw 1), (bq 0, .inl (cI, 4, .inl (fun z_ => nI (up z_)))), (bq 1, .inl (cI, 4, .inl (fun z_ => nI (st z_)))), (bq 2, .inl (cI, 12, .inl (fun z_ => nI (ex z_)))), (bq 3, .inl (cI, 12, .inl (fun z_ => nI (tl z_)))), (bq 4, .inl (cI, 12, .inl (fun z_ => nI (he z_)))), (bq 5, .inl (cI, 12, .inl (fun z_ => nI (dy z_)))), (bq 6, .inl (cI, 12, .inl (fun z_ => nI (se z_)))), pO a pq (bx 0) (bx 2) (bx 1) (szN bx (bx 0)) (bx 3) (bx 4), (pq 0, .inl (cI, 4, .inl (fun z_ => nI (te z_)))), (pq 1, .inl (cI, 4, .inl (fun z_ => nI (ps z_)))), (pq 2, .inl (cI, 4, .inl (fun z_ => nI (pu z_)))), (pq 3, .inl (cI, 4, .inl (fun z_ => nI (sd z_)))), (pq 4, .inl (cI, 8, .inl (fun z_ => nI (cj z_)))), (pq 5, .inl (cI, 5, .inl (fun z_ => nI (ta z_))))] _ := hP
  have hD : va_D A [(o, .inr (6, [.ref xt, .ref xg, .ref xu, .ref xk, .ref b, .ref xd, .ref xe, .ref a, .ref xf])), bO b bq fi (nw 2) (nw 0) (nw 1), (bq 0, .inl (cI, 4, .inl (fun z_ => nI (up z_)))), (bq 1, .inl (cI, 4, .inl (fun z_ => nI (st z_)))), (bq 2, .inl (cI, 12, .inl (fun z_ => nI (ex z_)))), (bq 3, .inl (cI, 12, .inl (fun z_ => nI (tl z_)))), (bq 4, .inl (cI, 12, .inl (fun z_ => nI (he z_)))), (bq 5, .inl (cI, 12, .inl (fun z_ => nI (dy z_)))), (bq 6, .inl (cI, 12, .inl (fun z_ => nI (se z_)))), pO a pq (bx 0) (bx 2) (bx 1) (szN bx (bx 0)) (bx 3) (bx 4), (pq 0, .inl (cI, 4, .inl (fun z_ => nI (te z_)))), (pq 1, .inl (cI, 4, .inl (fun z_ => nI (ps z_)))), (pq 2, .inl (cI, 4, .inl (fun z_ => nI (pu z_)))), (pq 3, .inl (cI, 4, .inl (fun z_ => nI (sd z_)))), (pq 4, .inl (cI, 8, .inl (fun z_ => nI (cj z_)))), (pq 5, .inl (cI, 5, .inl (fun z_ => nI (ta z_))))] := hD
  refine n_ifb_ne (tgt := 10) hx hb dX6_longest_5 (by decide) (fun c_3 => ?_) (fun c_3 => ?_)
  · -- 5 to 10
    obtain ⟨j, hj, rfl⟩ := inN_e (by have := hR.b.bd 1; omega) c_3
    have hij_q : ix (nI j) = j := ix_n (by have := hR.b.bd 1; omega)
    have hicj_q : (nI j).toNatClampNeg = j := ix_n (by have := hR.b.bd 1; omega)
    have hrd_q := rd_le2 (nw := nw) hR.b (Nat.le_refl _)
    have hth_q := th_lt hR.b hj
    refine lv_aload_n hx hb dX6_longest_10 rfl (lv_at hl 0 rfl) ?_
    refine gf_6_55 hx hb hts hown hK hP 0 rfl rfl dX6_longest_11 ?_
    refine lv_iload_n hx hb dX6_longest_14 rfl (lv_at hl 1 rfl) ?_
    refine cl_6_158 (As := [.int (nI (j))]) (rest := []) hx hb hml hts hown (k_X2_circleOf (by first | assumption | omega) (by first | assumption | omega)) (by decide) ⟨Nat.zero_le _, Nat.zero_le _⟩ hK hP hD hS hA 9 rfl [9, 10, 11, 12, 13, 14, 15] rfl (by decide) rfl hl.1 rfl (Nat.le_of_ble_eq_true rfl) dX6_longest_15 (fun r_4 u H locs hp_5 hP hD hS => ?_)
    obtain ⟨rfl, rfl⟩ := hp_5
    have hP : va_P D vwCl [(o, .inr (6, [.ref xt, .ref xg, .ref xu, .ref xk, .ref b, .ref xd, .ref xe, .ref a, .ref xf])), bO b bq fi (nw 2) (nw 0) (nw 1), (bq 0, .inl (cI, 4, .inl (fun z_ => nI (up z_)))), (bq 1, .inl (cI, 4, .inl (fun z_ => nI (st z_)))), (bq 2, .inl (cI, 12, .inl (fun z_ => nI (ex z_)))), (bq 3, .inl (cI, 12, .inl (fun z_ => nI (tl z_)))), (bq 4, .inl (cI, 12, .inl (fun z_ => nI (he z_)))), (bq 5, .inl (cI, 12, .inl (fun z_ => nI (dy z_)))), (bq 6, .inl (cI, 12, .inl (fun z_ => nI (se z_)))), pO a pq (bx 0) (bx 2) (bx 1) (szN bx (bx 0)) (bx 3) (bx 4), (pq 0, .inl (cI, 4, .inl (fun z_ => nI (te z_)))), (pq 1, .inl (cI, 4, .inl (fun z_ => nI (ps z_)))), (pq 2, .inl (cI, 4, .inl (fun z_ => nI (pu z_)))), (pq 3, .inl (cI, 4, .inl (fun z_ => nI (sd z_)))), (pq 4, .inl (cI, 8, .inl (fun z_ => nI (cj z_)))), (pq 5, .inl (cI, 5, .inl (fun z_ => nI (ta z_))))] _ := hP
    have hD : va_D A [(o, .inr (6, [.ref xt, .ref xg, .ref xu, .ref xk, .ref b, .ref xd, .ref xe, .ref a, .ref xf])), bO b bq fi (nw 2) (nw 0) (nw 1), (bq 0, .inl (cI, 4, .inl (fun z_ => nI (up z_)))), (bq 1, .inl (cI, 4, .inl (fun z_ => nI (st z_)))), (bq 2, .inl (cI, 12, .inl (fun z_ => nI (ex z_)))), (bq 3, .inl (cI, 12, .inl (fun z_ => nI (tl z_)))), (bq 4, .inl (cI, 12, .inl (fun z_ => nI (he z_)))), (bq 5, .inl (cI, 12, .inl (fun z_ => nI (dy z_)))), (bq 6, .inl (cI, 12, .inl (fun z_ => nI (se z_)))), pO a pq (bx 0) (bx 2) (bx 1) (szN bx (bx 0)) (bx 3) (bx 4), (pq 0, .inl (cI, 4, .inl (fun z_ => nI (te z_)))), (pq 1, .inl (cI, 4, .inl (fun z_ => nI (ps z_)))), (pq 2, .inl (cI, 4, .inl (fun z_ => nI (pu z_)))), (pq 3, .inl (cI, 4, .inl (fun z_ => nI (sd z_)))), (pq 4, .inl (cI, 8, .inl (fun z_ => nI (cj z_)))), (pq 5, .inl (cI, 5, .inl (fun z_ => nI (ta z_))))] := hD
    refine lv_istore_n (lv' := [(2, .int (nI (tkN bx j (bx 1) ||| 1 * 2 ^ j))), (0, .ref o), (1, .int (nI (j)))]) hx hb dX6_longest_18 rfl hl (by decide) rfl (fun ls hl => ?_)
    refine lv_aload_n hx hb dX6_longest_19 rfl (lv_at hl 1 rfl) ?_
    refine gf_6_38 hx hb hts hown hK hP 0 rfl rfl dX6_longest_20 ?_
    refine lv_aload_n hx hb dX6_longest_23 rfl (lv_at hl 1 rfl) ?_
    refine gf_6_55 hx hb hts hown hK hP 0 rfl rfl dX6_longest_24 ?_
    refine cl_6_209 (As := [.ref a]) (rest := []) hx hb hml hts hown (k_X0_turnsInRound (by first | assumption | omega) (by first | assumption | omega)) (by decide) ⟨Nat.zero_le _, Nat.zero_le _⟩ hK hP hD hS hA 1 rfl [1, 2, 3, 4, 5, 6, 7, 8, 9, 10, 11, 12, 13, 14, 15] rfl (by decide) rfl hl.1 rfl (Nat.le_of_ble_eq_true rfl) dX6_longest_27 (fun r_6 u H locs hp_7 hP hD hS => ?_)
    obtain ⟨rfl, rfl⟩ := hp_7
    have hP : va_P D vwCl [(o, .inr (6, [.ref xt, .ref xg, .ref xu, .ref xk, .ref b, .ref xd, .ref xe, .ref a, .ref xf])), bO b bq fi (nw 2) (nw 0) (nw 1), (bq 0, .inl (cI, 4, .inl (fun z_ => nI (up z_)))), (bq 1, .inl (cI, 4, .inl (fun z_ => nI (st z_)))), (bq 2, .inl (cI, 12, .inl (fun z_ => nI (ex z_)))), (bq 3, .inl (cI, 12, .inl (fun z_ => nI (tl z_)))), (bq 4, .inl (cI, 12, .inl (fun z_ => nI (he z_)))), (bq 5, .inl (cI, 12, .inl (fun z_ => nI (dy z_)))), (bq 6, .inl (cI, 12, .inl (fun z_ => nI (se z_)))), pO a pq (bx 0) (bx 2) (bx 1) (szN bx (bx 0)) (bx 3) (bx 4), (pq 0, .inl (cI, 4, .inl (fun z_ => nI (te z_)))), (pq 1, .inl (cI, 4, .inl (fun z_ => nI (ps z_)))), (pq 2, .inl (cI, 4, .inl (fun z_ => nI (pu z_)))), (pq 3, .inl (cI, 4, .inl (fun z_ => nI (sd z_)))), (pq 4, .inl (cI, 8, .inl (fun z_ => nI (cj z_)))), (pq 5, .inl (cI, 5, .inl (fun z_ => nI (ta z_))))] _ := hP
    have hD : va_D A [(o, .inr (6, [.ref xt, .ref xg, .ref xu, .ref xk, .ref b, .ref xd, .ref xe, .ref a, .ref xf])), bO b bq fi (nw 2) (nw 0) (nw 1), (bq 0, .inl (cI, 4, .inl (fun z_ => nI (up z_)))), (bq 1, .inl (cI, 4, .inl (fun z_ => nI (st z_)))), (bq 2, .inl (cI, 12, .inl (fun z_ => nI (ex z_)))), (bq 3, .inl (cI, 12, .inl (fun z_ => nI (tl z_)))), (bq 4, .inl (cI, 12, .inl (fun z_ => nI (he z_)))), (bq 5, .inl (cI, 12, .inl (fun z_ => nI (dy z_)))), (bq 6, .inl (cI, 12, .inl (fun z_ => nI (se z_)))), pO a pq (bx 0) (bx 2) (bx 1) (szN bx (bx 0)) (bx 3) (bx 4), (pq 0, .inl (cI, 4, .inl (fun z_ => nI (te z_)))), (pq 1, .inl (cI, 4, .inl (fun z_ => nI (ps z_)))), (pq 2, .inl (cI, 4, .inl (fun z_ => nI (pu z_)))), (pq 3, .inl (cI, 4, .inl (fun z_ => nI (sd z_)))), (pq 4, .inl (cI, 8, .inl (fun z_ => nI (cj z_)))), (pq 5, .inl (cI, 5, .inl (fun z_ => nI (ta z_))))] := hD
    refine lv_istore_n (lv' := [(3, .int (nI (rdN bx nw (bx 0)))), (2, .int (nI (tkN bx j (bx 1) ||| 1 * 2 ^ j))), (0, .ref o), (1, .int (nI (j)))]) hx hb dX6_longest_30 rfl hl (by decide) rfl (fun ls hl => ?_)
    refine lv_iconst (v := nI 0) hx hb dX6_longest_31 (by decide) ?_
    refine lv_istore (lv' := [(4, .int (nI (0))), (3, .int (nI (rdN bx nw (bx 0)))), (2, .int (nI (tkN bx j (bx 1) ||| 1 * 2 ^ j))), (0, .ref o), (1, .int (nI (j)))]) hx hb dX6_longest_32 hl (by decide) rfl (fun ls hl => ?_)
    refine lv_iconst (v := nI 0) hx hb dX6_longest_34 (by decide) ?_
    refine lv_istore (lv' := [(5, .int (nI (0))), (4, .int (nI (0))), (3, .int (nI (rdN bx nw (bx 0)))), (2, .int (nI (tkN bx j (bx 1) ||| 1 * 2 ^ j))), (0, .ref o), (1, .int (nI (j)))]) hx hb dX6_longest_35 hl (by decide) rfl (fun ls hl => ?_)
    have loop_37 : ∀ (N : Nat) (n : Nat) (k : Nat), (k ≤ rdN bx nw (bx 0)) → (n = cnB (fun k_ => frN bx nw j k_) k) → (rdN bx nw (bx 0) - k) < N → ∀ (H : Heap) (locs : List Loc), va_P D vwCl [(o, .inr (6, [.ref xt, .ref xg, .ref xu, .ref xk, .ref b, .ref xd, .ref xe, .ref a, .ref xf])), bO b bq fi (nw 2) (nw 0) (nw 1), (bq 0, .inl (cI, 4, .inl (fun z_ => nI (up z_)))), (bq 1, .inl (cI, 4, .inl (fun z_ => nI (st z_)))), (bq 2, .inl (cI, 12, .inl (fun z_ => nI (ex z_)))), (bq 3, .inl (cI, 12, .inl (fun z_ => nI (tl z_)))), (bq 4, .inl (cI, 12, .inl (fun z_ => nI (he z_)))), (bq 5, .inl (cI, 12, .inl (fun z_ => nI (dy z_)))), (bq 6, .inl (cI, 12, .inl (fun z_ => nI (se z_)))), pO a pq (bx 0) (bx 2) (bx 1) (szN bx (bx 0)) (bx 3) (bx 4), (pq 0, .inl (cI, 4, .inl (fun z_ => nI (te z_)))), (pq 1, .inl (cI, 4, .inl (fun z_ => nI (ps z_)))), (pq 2, .inl (cI, 4, .inl (fun z_ => nI (pu z_)))), (pq 3, .inl (cI, 4, .inl (fun z_ => nI (sd z_)))), (pq 4, .inl (cI, 8, .inl (fun z_ => nI (cj z_)))), (pq 5, .inl (cI, 5, .inl (fun z_ => nI (ta z_))))] H → va_D A [(o, .inr (6, [.ref xt, .ref xg, .ref xu, .ref xk, .ref b, .ref xd, .ref xe, .ref a, .ref xf])), bO b bq fi (nw 2) (nw 0) (nw 1), (bq 0, .inl (cI, 4, .inl (fun z_ => nI (up z_)))), (bq 1, .inl (cI, 4, .inl (fun z_ => nI (st z_)))), (bq 2, .inl (cI, 12, .inl (fun z_ => nI (ex z_)))), (bq 3, .inl (cI, 12, .inl (fun z_ => nI (tl z_)))), (bq 4, .inl (cI, 12, .inl (fun z_ => nI (he z_)))), (bq 5, .inl (cI, 12, .inl (fun z_ => nI (dy z_)))), (bq 6, .inl (cI, 12, .inl (fun z_ => nI (se z_)))), pO a pq (bx 0) (bx 2) (bx 1) (szN bx (bx 0)) (bx 3) (bx 4), (pq 0, .inl (cI, 4, .inl (fun z_ => nI (te z_)))), (pq 1, .inl (cI, 4, .inl (fun z_ => nI (ps z_)))), (pq 2, .inl (cI, 4, .inl (fun z_ => nI (pu z_)))), (pq 3, .inl (cI, 4, .inl (fun z_ => nI (sd z_)))), (pq 4, .inl (cI, 8, .inl (fun z_ => nI (cj z_)))), (pq 5, .inl (cI, 5, .inl (fun z_ => nI (ta z_))))] → va_S A s.heap H locs → ∀ ls : Array Slot, lv_has ls 6 [(5, .int (nI (k))), (4, .int (nI (n))), (3, .int (nI (rdN bx nw (bx 0)))), (2, .int (nI (tkN bx j (bx 1) ||| 1 * 2 ^ j))), (0, .ref o), (1, .int (nI (j)))] → W p l e (rmL 5) s m args below meth c H locs 0 0 Qf (F0 m 37 ls []) := by
      intro N; induction N with
      | zero => intro n k _ _ hm; omega
      | succ N ih_37 =>
        intro n k hk hn hm H locs hP hD hS ls hl
        refine lv_iload hx hb dX6_longest_37 (lv_at hl 0 rfl) ?_
        refine lv_iload_n hx hb dX6_longest_39 rfl (lv_at hl 2 rfl) ?_
        refine n_icmp_ge (tgt := 80) hx hb dX6_longest_40 (by decide) (by omega) (by omega) (fun c_8 => ?_) (fun c_8 => ?_)
        · -- 40 to 80
          refine lv_iload hx hb dX6_longest_80 (lv_at hl 1 rfl) ?_
          refine hret hP hD hS dX6_longest_82 rfl rfl ?_
          exact ⟨by rw [loA, if_pos (by assumption), hij_q, hn, show k = rdN bx nw (bx 0) by omega], rfl⟩
        · -- 40 to 43
          refine lv_aload_n hx hb dX6_longest_43 rfl (lv_at hl 4 rfl) ?_
          refine gf_6_38 hx hb hts hown hK hP 0 rfl rfl dX6_longest_44 ?_
          refine lv_aload_n hx hb dX6_longest_47 rfl (lv_at hl 4 rfl) ?_
          refine gf_6_55 hx hb hts hown hK hP 0 rfl rfl dX6_longest_48 ?_
          refine lv_aload_n hx hb dX6_longest_51 rfl (lv_at hl 4 rfl) ?_
          refine gf_6_38 hx hb hts hown hK hP 0 rfl rfl dX6_longest_52 ?_
          refine lv_aload_n hx hb dX6_longest_55 rfl (lv_at hl 4 rfl) ?_
          refine gf_6_55 hx hb hts hown hK hP 0 rfl rfl dX6_longest_56 ?_
          refine lv_iload hx hb dX6_longest_59 (lv_at hl 0 rfl) ?_
          refine cl_6_173 (As := [.ref a, .int (nI (k))]) (rest := [.ref a, .ref b]) hx hb hml hts hown (k_X0_excuseBehind (by first | assumption | omega) (by first | assumption | omega) (by first | assumption | omega)) (by decide) ⟨Nat.zero_le _, Nat.zero_le _⟩ hK hP hD hS hA 1 rfl [1, 2, 3, 4, 5, 6, 7, 8, 9, 10, 11, 12, 13, 14, 15] rfl (by decide) rfl hl.1 rfl (Nat.le_of_ble_eq_true rfl) dX6_longest_61 (fun r_9 u H locs hp_10 hP hD hS => ?_)
          obtain ⟨rfl, rfl⟩ := hp_10
          have hP : va_P D vwCl [(o, .inr (6, [.ref xt, .ref xg, .ref xu, .ref xk, .ref b, .ref xd, .ref xe, .ref a, .ref xf])), bO b bq fi (nw 2) (nw 0) (nw 1), (bq 0, .inl (cI, 4, .inl (fun z_ => nI (up z_)))), (bq 1, .inl (cI, 4, .inl (fun z_ => nI (st z_)))), (bq 2, .inl (cI, 12, .inl (fun z_ => nI (ex z_)))), (bq 3, .inl (cI, 12, .inl (fun z_ => nI (tl z_)))), (bq 4, .inl (cI, 12, .inl (fun z_ => nI (he z_)))), (bq 5, .inl (cI, 12, .inl (fun z_ => nI (dy z_)))), (bq 6, .inl (cI, 12, .inl (fun z_ => nI (se z_)))), pO a pq (bx 0) (bx 2) (bx 1) (szN bx (bx 0)) (bx 3) (bx 4), (pq 0, .inl (cI, 4, .inl (fun z_ => nI (te z_)))), (pq 1, .inl (cI, 4, .inl (fun z_ => nI (ps z_)))), (pq 2, .inl (cI, 4, .inl (fun z_ => nI (pu z_)))), (pq 3, .inl (cI, 4, .inl (fun z_ => nI (sd z_)))), (pq 4, .inl (cI, 8, .inl (fun z_ => nI (cj z_)))), (pq 5, .inl (cI, 5, .inl (fun z_ => nI (ta z_))))] _ := hP
          have hD : va_D A [(o, .inr (6, [.ref xt, .ref xg, .ref xu, .ref xk, .ref b, .ref xd, .ref xe, .ref a, .ref xf])), bO b bq fi (nw 2) (nw 0) (nw 1), (bq 0, .inl (cI, 4, .inl (fun z_ => nI (up z_)))), (bq 1, .inl (cI, 4, .inl (fun z_ => nI (st z_)))), (bq 2, .inl (cI, 12, .inl (fun z_ => nI (ex z_)))), (bq 3, .inl (cI, 12, .inl (fun z_ => nI (tl z_)))), (bq 4, .inl (cI, 12, .inl (fun z_ => nI (he z_)))), (bq 5, .inl (cI, 12, .inl (fun z_ => nI (dy z_)))), (bq 6, .inl (cI, 12, .inl (fun z_ => nI (se z_)))), pO a pq (bx 0) (bx 2) (bx 1) (szN bx (bx 0)) (bx 3) (bx 4), (pq 0, .inl (cI, 4, .inl (fun z_ => nI (te z_)))), (pq 1, .inl (cI, 4, .inl (fun z_ => nI (ps z_)))), (pq 2, .inl (cI, 4, .inl (fun z_ => nI (pu z_)))), (pq 3, .inl (cI, 4, .inl (fun z_ => nI (sd z_)))), (pq 4, .inl (cI, 8, .inl (fun z_ => nI (cj z_)))), (pq 5, .inl (cI, 5, .inl (fun z_ => nI (ta z_))))] := hD
          refine lv_iload_n hx hb dX6_longest_64 rfl (lv_at hl 3 rfl) ?_
          refine cl_6_215 (As := [.ref a, .int (nI (ebN bx nw k)), .int (nI (tkN bx j (bx 1) ||| 1 * 2 ^ j))]) (rest := []) hx hb hml hts hown (k_X0_isFresh hR hX (by have := eb_lt hR.b nw k; omega) (by omega)) (by decide) ⟨Nat.zero_le _, Nat.zero_le _⟩ hK hP hD hS hA 1 rfl [1, 2, 3, 4, 5, 6, 7, 8, 9, 10, 11, 12, 13, 14, 15] rfl (by decide) rfl hl.1 rfl (Nat.le_of_ble_eq_true rfl) dX6_longest_65 (fun r_11 u H locs hp_12 hP hD hS => ?_)
          obtain ⟨rfl, rfl⟩ := hp_12
          have hP : va_P D vwCl [(o, .inr (6, [.ref xt, .ref xg, .ref xu, .ref xk, .ref b, .ref xd, .ref xe, .ref a, .ref xf])), bO b bq fi (nw 2) (nw 0) (nw 1), (bq 0, .inl (cI, 4, .inl (fun z_ => nI (up z_)))), (bq 1, .inl (cI, 4, .inl (fun z_ => nI (st z_)))), (bq 2, .inl (cI, 12, .inl (fun z_ => nI (ex z_)))), (bq 3, .inl (cI, 12, .inl (fun z_ => nI (tl z_)))), (bq 4, .inl (cI, 12, .inl (fun z_ => nI (he z_)))), (bq 5, .inl (cI, 12, .inl (fun z_ => nI (dy z_)))), (bq 6, .inl (cI, 12, .inl (fun z_ => nI (se z_)))), pO a pq (bx 0) (bx 2) (bx 1) (szN bx (bx 0)) (bx 3) (bx 4), (pq 0, .inl (cI, 4, .inl (fun z_ => nI (te z_)))), (pq 1, .inl (cI, 4, .inl (fun z_ => nI (ps z_)))), (pq 2, .inl (cI, 4, .inl (fun z_ => nI (pu z_)))), (pq 3, .inl (cI, 4, .inl (fun z_ => nI (sd z_)))), (pq 4, .inl (cI, 8, .inl (fun z_ => nI (cj z_)))), (pq 5, .inl (cI, 5, .inl (fun z_ => nI (ta z_))))] _ := hP
          have hD : va_D A [(o, .inr (6, [.ref xt, .ref xg, .ref xu, .ref xk, .ref b, .ref xd, .ref xe, .ref a, .ref xf])), bO b bq fi (nw 2) (nw 0) (nw 1), (bq 0, .inl (cI, 4, .inl (fun z_ => nI (up z_)))), (bq 1, .inl (cI, 4, .inl (fun z_ => nI (st z_)))), (bq 2, .inl (cI, 12, .inl (fun z_ => nI (ex z_)))), (bq 3, .inl (cI, 12, .inl (fun z_ => nI (tl z_)))), (bq 4, .inl (cI, 12, .inl (fun z_ => nI (he z_)))), (bq 5, .inl (cI, 12, .inl (fun z_ => nI (dy z_)))), (bq 6, .inl (cI, 12, .inl (fun z_ => nI (se z_)))), pO a pq (bx 0) (bx 2) (bx 1) (szN bx (bx 0)) (bx 3) (bx 4), (pq 0, .inl (cI, 4, .inl (fun z_ => nI (te z_)))), (pq 1, .inl (cI, 4, .inl (fun z_ => nI (ps z_)))), (pq 2, .inl (cI, 4, .inl (fun z_ => nI (pu z_)))), (pq 3, .inl (cI, 4, .inl (fun z_ => nI (sd z_)))), (pq 4, .inl (cI, 8, .inl (fun z_ => nI (cj z_)))), (pq 5, .inl (cI, 5, .inl (fun z_ => nI (ta z_))))] := hD
          refine n_ifb_eq (tgt := 74) hx hb dX6_longest_68 (by decide) (fun c_13 => ?_) (fun c_13 => ?_)
          · -- 68 to 74
            refine lv_iinc (v := nI (k + 1)) (lv' := [(5, .int (nI (k + 1))), (4, .int (nI (n))), (3, .int (nI (rdN bx nw (bx 0)))), (2, .int (nI (tkN bx j (bx 1) ||| 1 * 2 ^ j))), (0, .ref o), (1, .int (nI (j)))]) hx hb dX6_longest_74 hl (k := 0) rfl (n_inc _ 1) (by decide) rfl (fun ls hl => ?_)
            refine lv_goto (tgt := 37) hx hb dX6_longest_77 (by decide) ?_
            exact ih_37 n (k + 1) (by omega) (by rw [hn]; first | exact cn_1 (P := fun k_ => frN bx nw j k_) (by rw [frN_us]; assumption) | exact cn_0 (P := fun k_ => frN bx nw j k_) (by rw [frN_us]; assumption)) (by omega) _ _ hP hD hS _ (lv_sub hl [0, 1, 2, 3, 4, 5] rfl)
          · -- 68 to 71
            refine lv_iinc (v := nI (n + 1)) (lv' := [(4, .int (nI (n + 1))), (5, .int (nI (k))), (3, .int (nI (rdN bx nw (bx 0)))), (2, .int (nI (tkN bx j (bx 1) ||| 1 * 2 ^ j))), (0, .ref o), (1, .int (nI (j)))]) hx hb dX6_longest_71 hl (k := 1) rfl (n_inc _ 1) (by decide) rfl (fun ls hl => ?_)
            refine lv_iinc (v := nI (k + 1)) (lv' := [(5, .int (nI (k + 1))), (4, .int (nI (n + 1))), (3, .int (nI (rdN bx nw (bx 0)))), (2, .int (nI (tkN bx j (bx 1) ||| 1 * 2 ^ j))), (0, .ref o), (1, .int (nI (j)))]) hx hb dX6_longest_74 hl (k := 1) rfl (n_inc _ 1) (by decide) rfl (fun ls hl => ?_)
            refine lv_goto (tgt := 37) hx hb dX6_longest_77 (by decide) ?_
            exact ih_37 (n + 1) (k + 1) (by omega) (by rw [hn]; first | exact cn_1 (P := fun k_ => frN bx nw j k_) (by rw [frN_us]; assumption) | exact cn_0 (P := fun k_ => frN bx nw j k_) (by rw [frN_us]; assumption)) (by omega) _ _ hP hD hS _ (lv_sub hl [0, 1, 2, 3, 4, 5] rfl)
    exact loop_37 _ 0 0 (Nat.zero_le _) rfl (Nat.lt_succ_self _) _ _ hP hD hS _ (lv_sub hl [0, 1, 2, 3, 4, 5] rfl)
  · -- 5 to 8
    refine lv_iconst (v := (-1)) hx hb dX6_longest_8 (by decide) ?_
    refine hret hP hD hS dX6_longest_9 rfl rfl ?_
    exact ⟨by simp [loA, c_3], rfl⟩
set_option maxHeartbeats 4000000 in
set_option maxRecDepth 100000 in
theorem k_X6_sensible {l : Launch} {D : va_G} {cI cC cB : ClassId} {o xt xg xu xk xd xe xf : Nat} {a : Nat} {pq : Nat → Nat} {bx te ps pu sd cj ta : Nat → Nat} {b : Nat} {bq : Nat → Nat} {nw up st ex tl he dy se : Nat → Nat} {fi : Nat} {x : Int32} (hR : PlR bx te ps pu sd cj ta) (hX : BoR bx nw up st ex tl he dy se fi) : MI l yX6_sensible cX6_sensible 6 (some .int) 4 D (Ty3 cI cC cB) [.ref o, .int (x)] [(o, .inr (6, [.ref xt, .ref xg, .ref xu, .ref xk, .ref b, .ref xd, .ref xe, .ref a, .ref xf])), bO b bq fi (nw 2) (nw 0) (nw 1), (bq 0, .inl (cI, 4, .inl (fun z_ => nI (up z_)))), (bq 1, .inl (cI, 4, .inl (fun z_ => nI (st z_)))), (bq 2, .inl (cI, 12, .inl (fun z_ => nI (ex z_)))), (bq 3, .inl (cI, 12, .inl (fun z_ => nI (tl z_)))), (bq 4, .inl (cI, 12, .inl (fun z_ => nI (he z_)))), (bq 5, .inl (cI, 12, .inl (fun z_ => nI (dy z_)))), (bq 6, .inl (cI, 12, .inl (fun z_ => nI (se z_)))), pO a pq (bx 0) (bx 2) (bx 1) (szN bx (bx 0)) (bx 3) (bx 4), (pq 0, .inl (cI, 4, .inl (fun z_ => nI (te z_)))), (pq 1, .inl (cI, 4, .inl (fun z_ => nI (ps z_)))), (pq 2, .inl (cI, 4, .inl (fun z_ => nI (pu z_)))), (pq 3, .inl (cI, 4, .inl (fun z_ => nI (sd z_)))), (pq 4, .inl (cI, 8, .inl (fun z_ => nI (cj z_)))), (pq 5, .inl (cI, 5, .inl (fun z_ => nI (ta z_))))] (fun r u => (r = snA bx nw x ∧ u = [(o, .inr (6, [.ref xt, .ref xg, .ref xu, .ref xk, .ref b, .ref xd, .ref xe, .ref a, .ref xf])), bO b bq fi (nw 2) (nw 0) (nw 1), (bq 0, .inl (cI, 4, .inl (fun z_ => nI (up z_)))), (bq 1, .inl (cI, 4, .inl (fun z_ => nI (st z_)))), (bq 2, .inl (cI, 12, .inl (fun z_ => nI (ex z_)))), (bq 3, .inl (cI, 12, .inl (fun z_ => nI (tl z_)))), (bq 4, .inl (cI, 12, .inl (fun z_ => nI (he z_)))), (bq 5, .inl (cI, 12, .inl (fun z_ => nI (dy z_)))), (bq 6, .inl (cI, 12, .inl (fun z_ => nI (se z_)))), pO a pq (bx 0) (bx 2) (bx 1) (szN bx (bx 0)) (bx 3) (bx 4), (pq 0, .inl (cI, 4, .inl (fun z_ => nI (te z_)))), (pq 1, .inl (cI, 4, .inl (fun z_ => nI (ps z_)))), (pq 2, .inl (cI, 4, .inl (fun z_ => nI (pu z_)))), (pq 3, .inl (cI, 4, .inl (fun z_ => nI (sd z_)))), (pq 4, .inl (cI, 8, .inl (fun z_ => nI (cj z_)))), (pq 5, .inl (cI, 5, .inl (fun z_ => nI (ta z_))))])) := by
  intro sz
  refine MI.walk (by decide +kernel) (Nat.le_of_ble_eq_true rfl) ?_
  intro p e s m args below meth c A Qf hx hb hml hts hown hret hK hP hD hS hA ls hl
  have hown : s.vm.findClass RX6 = some m.cls := hown
  have hl : lv_has ls 6 [(0, .ref o), (1, .int (x))] := hl
  have hP : va_P D vwCl [(o, .inr (6, [.ref xt, .ref xg, .ref xu, .ref xk, .ref b, .ref xd, .ref xe, .ref a, .ref xf])), bO b bq fi (nw 2) (nw 0) (nw 1), (bq 0, .inl (cI, 4, .inl (fun z_ => nI (up z_)))), (bq 1, .inl (cI, 4, .inl (fun z_ => nI (st z_)))), (bq 2, .inl (cI, 12, .inl (fun z_ => nI (ex z_)))), (bq 3, .inl (cI, 12, .inl (fun z_ => nI (tl z_)))), (bq 4, .inl (cI, 12, .inl (fun z_ => nI (he z_)))), (bq 5, .inl (cI, 12, .inl (fun z_ => nI (dy z_)))), (bq 6, .inl (cI, 12, .inl (fun z_ => nI (se z_)))), pO a pq (bx 0) (bx 2) (bx 1) (szN bx (bx 0)) (bx 3) (bx 4), (pq 0, .inl (cI, 4, .inl (fun z_ => nI (te z_)))), (pq 1, .inl (cI, 4, .inl (fun z_ => nI (ps z_)))), (pq 2, .inl (cI, 4, .inl (fun z_ => nI (pu z_)))), (pq 3, .inl (cI, 4, .inl (fun z_ => nI (sd z_)))), (pq 4, .inl (cI, 8, .inl (fun z_ => nI (cj z_)))), (pq 5, .inl (cI, 5, .inl (fun z_ => nI (ta z_))))] s.heap := hP
  have hD : va_D A [(o, .inr (6, [.ref xt, .ref xg, .ref xu, .ref xk, .ref b, .ref xd, .ref xe, .ref a, .ref xf])), bO b bq fi (nw 2) (nw 0) (nw 1), (bq 0, .inl (cI, 4, .inl (fun z_ => nI (up z_)))), (bq 1, .inl (cI, 4, .inl (fun z_ => nI (st z_)))), (bq 2, .inl (cI, 12, .inl (fun z_ => nI (ex z_)))), (bq 3, .inl (cI, 12, .inl (fun z_ => nI (tl z_)))), (bq 4, .inl (cI, 12, .inl (fun z_ => nI (he z_)))), (bq 5, .inl (cI, 12, .inl (fun z_ => nI (dy z_)))), (bq 6, .inl (cI, 12, .inl (fun z_ => nI (se z_)))), pO a pq (bx 0) (bx 2) (bx 1) (szN bx (bx 0)) (bx 3) (bx 4), (pq 0, .inl (cI, 4, .inl (fun z_ => nI (te z_)))), (pq 1, .inl (cI, 4, .inl (fun z_ => nI (ps z_)))), (pq 2, .inl (cI, 4, .inl (fun z_ => nI (pu z_)))), (pq 3, .inl (cI, 4, .inl (fun z_ => nI (sd z_)))), (pq 4, .inl (cI, 8, .inl (fun z_ => nI (cj z_)))), (pq 5, .inl (cI, 5, .inl (fun z_ => nI (ta z_))))] := hD
  refine lv_iload_n hx hb dX6_sensible_0 rfl (lv_at hl 1 rfl) ?_
  refine cl_6_206 (As := [.int (x)]) (rest := []) hx hb hml hts hown (k_X6_isPart ) (by decide) ⟨Nat.zero_le _, Nat.zero_le _⟩ hK hP hD hS hA [] rfl (by decide) rfl hl.1 rfl (Nat.le_of_ble_eq_true rfl) dX6_sensible_1 (fun r_1 u H locs hp_2 hP hD hS => ?_)
  obtain ⟨rfl, rfl⟩ := hp_2
  have hP : va_P D vwCl [(o, .inr (6, [.ref xt, .ref xg, .ref xu, .ref xk, .ref b, .ref xd, .ref xe, .ref a, .ref xf])), bO b bq fi (nw 2) (nw 0) (nw 1), (bq 0, .inl (cI, 4, .inl (fun z_ => nI (up z_)))), (bq 1, .inl (cI, 4, .inl (fun z_ => nI (st z_)))), (bq 2, .inl (cI, 12, .inl (fun z_ => nI (ex z_)))), (bq 3, .inl (cI, 12, .inl (fun z_ => nI (tl z_)))), (bq 4, .inl (cI, 12, .inl (fun z_ => nI (he z_)))), (bq 5, .inl (cI, 12, .inl (fun z_ => nI (dy z_)))), (bq 6, .inl (cI, 12, .inl (fun z_ => nI (se z_)))), pO a pq (bx 0) (bx 2) (bx 1) (szN bx (bx 0)) (bx 3) (bx 4), (pq 0, .inl (cI, 4, .inl (fun z_ => nI (te z_)))), (pq 1, .inl (cI, 4, .inl (fun z_ => nI (ps z_)))), (pq 2, .inl (cI, 4, .inl (fun z_ => nI (pu z_)))), (pq 3, .inl (cI, 4, .inl (fun z_ => nI (sd z_)))), (pq 4, .inl (cI, 8, .inl (fun z_ => nI (cj z_)))), (pq 5, .inl (cI, 5, .inl (fun z_ => nI (ta z_))))] _ := hP
  have hD : va_D A [(o, .inr (6, [.ref xt, .ref xg, .ref xu, .ref xk, .ref b, .ref xd, .ref xe, .ref a, .ref xf])), bO b bq fi (nw 2) (nw 0) (nw 1), (bq 0, .inl (cI, 4, .inl (fun z_ => nI (up z_)))), (bq 1, .inl (cI, 4, .inl (fun z_ => nI (st z_)))), (bq 2, .inl (cI, 12, .inl (fun z_ => nI (ex z_)))), (bq 3, .inl (cI, 12, .inl (fun z_ => nI (tl z_)))), (bq 4, .inl (cI, 12, .inl (fun z_ => nI (he z_)))), (bq 5, .inl (cI, 12, .inl (fun z_ => nI (dy z_)))), (bq 6, .inl (cI, 12, .inl (fun z_ => nI (se z_)))), pO a pq (bx 0) (bx 2) (bx 1) (szN bx (bx 0)) (bx 3) (bx 4), (pq 0, .inl (cI, 4, .inl (fun z_ => nI (te z_)))), (pq 1, .inl (cI, 4, .inl (fun z_ => nI (ps z_)))), (pq 2, .inl (cI, 4, .inl (fun z_ => nI (pu z_)))), (pq 3, .inl (cI, 4, .inl (fun z_ => nI (sd z_)))), (pq 4, .inl (cI, 8, .inl (fun z_ => nI (cj z_)))), (pq 5, .inl (cI, 5, .inl (fun z_ => nI (ta z_))))] := hD
  refine n_ifb_ne (tgt := 9) hx hb dX6_sensible_4 (by decide) (fun c_3 => ?_) (fun c_3 => ?_)
  · -- 4 to 9
    have hvj_q := c_3
    obtain ⟨j, hl1, hh1, rfl⟩ := inR_e (by omega) hvj_q
    have hij_q : ix (nI j) = j := ix_n (by omega)
    refine lv_iload_n hx hb dX6_sensible_9 rfl (lv_at hl 1 rfl) ?_
    refine n_if_ne (tgt := 23) hx hb dX6_sensible_10 (by decide) (by omega) (fun c_4 => ?_) (fun c_4 => ?_)
    · -- 10 to 23
      have hj1_q := c_4
      have hrd_q := rd_le2 (nw := nw) hR.b (Nat.le_refl _)
      refine lv_aload_n hx hb dX6_sensible_23 rfl (lv_at hl 0 rfl) ?_
      refine gf_6_38 hx hb hts hown hK hP 0 rfl rfl dX6_sensible_24 ?_
      refine lv_aload_n hx hb dX6_sensible_27 rfl (lv_at hl 0 rfl) ?_
      refine gf_6_55 hx hb hts hown hK hP 0 rfl rfl dX6_sensible_28 ?_
      refine cl_6_209 (As := [.ref a]) (rest := []) hx hb hml hts hown (k_X0_turnsInRound (by first | assumption | omega) (by first | assumption | omega)) (by decide) ⟨Nat.zero_le _, Nat.zero_le _⟩ hK hP hD hS hA 1 rfl [1, 2, 3, 4, 5, 6, 7, 8, 9, 10, 11, 12, 13, 14, 15] rfl (by decide) rfl hl.1 rfl (Nat.le_of_ble_eq_true rfl) dX6_sensible_31 (fun r_5 u H locs hp_6 hP hD hS => ?_)
      obtain ⟨rfl, rfl⟩ := hp_6
      have hP : va_P D vwCl [(o, .inr (6, [.ref xt, .ref xg, .ref xu, .ref xk, .ref b, .ref xd, .ref xe, .ref a, .ref xf])), bO b bq fi (nw 2) (nw 0) (nw 1), (bq 0, .inl (cI, 4, .inl (fun z_ => nI (up z_)))), (bq 1, .inl (cI, 4, .inl (fun z_ => nI (st z_)))), (bq 2, .inl (cI, 12, .inl (fun z_ => nI (ex z_)))), (bq 3, .inl (cI, 12, .inl (fun z_ => nI (tl z_)))), (bq 4, .inl (cI, 12, .inl (fun z_ => nI (he z_)))), (bq 5, .inl (cI, 12, .inl (fun z_ => nI (dy z_)))), (bq 6, .inl (cI, 12, .inl (fun z_ => nI (se z_)))), pO a pq (bx 0) (bx 2) (bx 1) (szN bx (bx 0)) (bx 3) (bx 4), (pq 0, .inl (cI, 4, .inl (fun z_ => nI (te z_)))), (pq 1, .inl (cI, 4, .inl (fun z_ => nI (ps z_)))), (pq 2, .inl (cI, 4, .inl (fun z_ => nI (pu z_)))), (pq 3, .inl (cI, 4, .inl (fun z_ => nI (sd z_)))), (pq 4, .inl (cI, 8, .inl (fun z_ => nI (cj z_)))), (pq 5, .inl (cI, 5, .inl (fun z_ => nI (ta z_))))] _ := hP
      have hD : va_D A [(o, .inr (6, [.ref xt, .ref xg, .ref xu, .ref xk, .ref b, .ref xd, .ref xe, .ref a, .ref xf])), bO b bq fi (nw 2) (nw 0) (nw 1), (bq 0, .inl (cI, 4, .inl (fun z_ => nI (up z_)))), (bq 1, .inl (cI, 4, .inl (fun z_ => nI (st z_)))), (bq 2, .inl (cI, 12, .inl (fun z_ => nI (ex z_)))), (bq 3, .inl (cI, 12, .inl (fun z_ => nI (tl z_)))), (bq 4, .inl (cI, 12, .inl (fun z_ => nI (he z_)))), (bq 5, .inl (cI, 12, .inl (fun z_ => nI (dy z_)))), (bq 6, .inl (cI, 12, .inl (fun z_ => nI (se z_)))), pO a pq (bx 0) (bx 2) (bx 1) (szN bx (bx 0)) (bx 3) (bx 4), (pq 0, .inl (cI, 4, .inl (fun z_ => nI (te z_)))), (pq 1, .inl (cI, 4, .inl (fun z_ => nI (ps z_)))), (pq 2, .inl (cI, 4, .inl (fun z_ => nI (pu z_)))), (pq 3, .inl (cI, 4, .inl (fun z_ => nI (sd z_)))), (pq 4, .inl (cI, 8, .inl (fun z_ => nI (cj z_)))), (pq 5, .inl (cI, 5, .inl (fun z_ => nI (ta z_))))] := hD
      refine lv_istore_n (lv' := [(2, .int (nI (rdN bx nw (bx 0)))), (0, .ref o), (1, .int (nI (j)))]) hx hb dX6_sensible_34 rfl hl (by decide) rfl (fun ls hl => ?_)
      refine lv_iconst (v := nI 0) hx hb dX6_sensible_35 (by decide) ?_
      refine lv_istore_n (lv' := [(3, .int (nI (0))), (2, .int (nI (rdN bx nw (bx 0)))), (0, .ref o), (1, .int (nI (j)))]) hx hb dX6_sensible_36 rfl hl (by decide) rfl (fun ls hl => ?_)
      refine lv_iconst (v := nI 0) hx hb dX6_sensible_37 (by decide) ?_
      refine lv_istore (lv' := [(4, .int (nI (0))), (3, .int (nI (0))), (2, .int (nI (rdN bx nw (bx 0)))), (0, .ref o), (1, .int (nI (j)))]) hx hb dX6_sensible_38 hl (by decide) rfl (fun ls hl => ?_)
      have loop_40 : ∀ (N : Nat) (n : Nat) (k : Nat), (k ≤ (rdN bx nw (bx 0))) → (n = cnB (fun k_ => senN bx nw (if j = 0 then k_ else ebN bx nw k_)) k) → ((rdN bx nw (bx 0)) - k) < N → ∀ (H : Heap) (locs : List Loc), va_P D vwCl [(o, .inr (6, [.ref xt, .ref xg, .ref xu, .ref xk, .ref b, .ref xd, .ref xe, .ref a, .ref xf])), bO b bq fi (nw 2) (nw 0) (nw 1), (bq 0, .inl (cI, 4, .inl (fun z_ => nI (up z_)))), (bq 1, .inl (cI, 4, .inl (fun z_ => nI (st z_)))), (bq 2, .inl (cI, 12, .inl (fun z_ => nI (ex z_)))), (bq 3, .inl (cI, 12, .inl (fun z_ => nI (tl z_)))), (bq 4, .inl (cI, 12, .inl (fun z_ => nI (he z_)))), (bq 5, .inl (cI, 12, .inl (fun z_ => nI (dy z_)))), (bq 6, .inl (cI, 12, .inl (fun z_ => nI (se z_)))), pO a pq (bx 0) (bx 2) (bx 1) (szN bx (bx 0)) (bx 3) (bx 4), (pq 0, .inl (cI, 4, .inl (fun z_ => nI (te z_)))), (pq 1, .inl (cI, 4, .inl (fun z_ => nI (ps z_)))), (pq 2, .inl (cI, 4, .inl (fun z_ => nI (pu z_)))), (pq 3, .inl (cI, 4, .inl (fun z_ => nI (sd z_)))), (pq 4, .inl (cI, 8, .inl (fun z_ => nI (cj z_)))), (pq 5, .inl (cI, 5, .inl (fun z_ => nI (ta z_))))] H → va_D A [(o, .inr (6, [.ref xt, .ref xg, .ref xu, .ref xk, .ref b, .ref xd, .ref xe, .ref a, .ref xf])), bO b bq fi (nw 2) (nw 0) (nw 1), (bq 0, .inl (cI, 4, .inl (fun z_ => nI (up z_)))), (bq 1, .inl (cI, 4, .inl (fun z_ => nI (st z_)))), (bq 2, .inl (cI, 12, .inl (fun z_ => nI (ex z_)))), (bq 3, .inl (cI, 12, .inl (fun z_ => nI (tl z_)))), (bq 4, .inl (cI, 12, .inl (fun z_ => nI (he z_)))), (bq 5, .inl (cI, 12, .inl (fun z_ => nI (dy z_)))), (bq 6, .inl (cI, 12, .inl (fun z_ => nI (se z_)))), pO a pq (bx 0) (bx 2) (bx 1) (szN bx (bx 0)) (bx 3) (bx 4), (pq 0, .inl (cI, 4, .inl (fun z_ => nI (te z_)))), (pq 1, .inl (cI, 4, .inl (fun z_ => nI (ps z_)))), (pq 2, .inl (cI, 4, .inl (fun z_ => nI (pu z_)))), (pq 3, .inl (cI, 4, .inl (fun z_ => nI (sd z_)))), (pq 4, .inl (cI, 8, .inl (fun z_ => nI (cj z_)))), (pq 5, .inl (cI, 5, .inl (fun z_ => nI (ta z_))))] → va_S A s.heap H locs → ∀ ls : Array Slot, lv_has ls 6 [(4, .int (nI (k))), (3, .int (nI (n))), (2, .int (nI (rdN bx nw (bx 0)))), (0, .ref o), (1, .int (nI (j)))] → W p l e (rmL 4) s m args below meth c H locs 0 0 Qf (F0 m 40 ls []) := by
        intro N; induction N with
        | zero => intro n k _ _ hm; omega
        | succ N ih_40 =>
          intro n k hk hn hm H locs hP hD hS ls hl
          refine lv_iload hx hb dX6_sensible_40 (lv_at hl 0 rfl) ?_
          refine lv_iload_n hx hb dX6_sensible_42 rfl (lv_at hl 2 rfl) ?_
          refine n_icmp_ge (tgt := 95) hx hb dX6_sensible_43 (by decide) (by omega) (by omega) (fun c_7 => ?_) (fun c_7 => ?_)
          · -- 43 to 95
            refine lv_iload_n hx hb dX6_sensible_95 rfl (lv_at hl 1 rfl) ?_
            refine hret hP hD hS dX6_sensible_96 rfl rfl ?_
            exact ⟨by rw [hn, show k = rdN bx nw (bx 0) by omega, cn_f1 hj1_q]; exact sn_1 hvj_q (by rw [hij_q]; omega), rfl⟩
          · -- 43 to 46
            refine lv_iload_n hx hb dX6_sensible_46 rfl (lv_at hl 4 rfl) ?_
            refine n_if_ne (tgt := 55) hx hb dX6_sensible_47 (by decide) (by omega) (fun c_8 => ?_) (fun c_8 => ?_)
            · -- 47 to 55
              refine lv_aload_n hx hb dX6_sensible_55 rfl (lv_at hl 3 rfl) ?_
              refine gf_6_38 hx hb hts hown hK hP 0 rfl rfl dX6_sensible_56 ?_
              refine lv_aload_n hx hb dX6_sensible_59 rfl (lv_at hl 3 rfl) ?_
              refine gf_6_55 hx hb hts hown hK hP 0 rfl rfl dX6_sensible_60 ?_
              refine lv_iload hx hb dX6_sensible_63 (lv_at hl 0 rfl) ?_
              refine cl_6_173 (As := [.ref a, .int (nI (k))]) (rest := []) hx hb hml hts hown (k_X0_excuseBehind (by first | assumption | omega) (by first | assumption | omega) (by first | assumption | omega)) (by decide) ⟨Nat.zero_le _, Nat.zero_le _⟩ hK hP hD hS hA 1 rfl [1, 2, 3, 4, 5, 6, 7, 8, 9, 10, 11, 12, 13, 14, 15] rfl (by decide) rfl hl.1 rfl (Nat.le_of_ble_eq_true rfl) dX6_sensible_65 (fun r_9 u H locs hp_10 hP hD hS => ?_)
              obtain ⟨rfl, rfl⟩ := hp_10
              have hP : va_P D vwCl [(o, .inr (6, [.ref xt, .ref xg, .ref xu, .ref xk, .ref b, .ref xd, .ref xe, .ref a, .ref xf])), bO b bq fi (nw 2) (nw 0) (nw 1), (bq 0, .inl (cI, 4, .inl (fun z_ => nI (up z_)))), (bq 1, .inl (cI, 4, .inl (fun z_ => nI (st z_)))), (bq 2, .inl (cI, 12, .inl (fun z_ => nI (ex z_)))), (bq 3, .inl (cI, 12, .inl (fun z_ => nI (tl z_)))), (bq 4, .inl (cI, 12, .inl (fun z_ => nI (he z_)))), (bq 5, .inl (cI, 12, .inl (fun z_ => nI (dy z_)))), (bq 6, .inl (cI, 12, .inl (fun z_ => nI (se z_)))), pO a pq (bx 0) (bx 2) (bx 1) (szN bx (bx 0)) (bx 3) (bx 4), (pq 0, .inl (cI, 4, .inl (fun z_ => nI (te z_)))), (pq 1, .inl (cI, 4, .inl (fun z_ => nI (ps z_)))), (pq 2, .inl (cI, 4, .inl (fun z_ => nI (pu z_)))), (pq 3, .inl (cI, 4, .inl (fun z_ => nI (sd z_)))), (pq 4, .inl (cI, 8, .inl (fun z_ => nI (cj z_)))), (pq 5, .inl (cI, 5, .inl (fun z_ => nI (ta z_))))] _ := hP
              have hD : va_D A [(o, .inr (6, [.ref xt, .ref xg, .ref xu, .ref xk, .ref b, .ref xd, .ref xe, .ref a, .ref xf])), bO b bq fi (nw 2) (nw 0) (nw 1), (bq 0, .inl (cI, 4, .inl (fun z_ => nI (up z_)))), (bq 1, .inl (cI, 4, .inl (fun z_ => nI (st z_)))), (bq 2, .inl (cI, 12, .inl (fun z_ => nI (ex z_)))), (bq 3, .inl (cI, 12, .inl (fun z_ => nI (tl z_)))), (bq 4, .inl (cI, 12, .inl (fun z_ => nI (he z_)))), (bq 5, .inl (cI, 12, .inl (fun z_ => nI (dy z_)))), (bq 6, .inl (cI, 12, .inl (fun z_ => nI (se z_)))), pO a pq (bx 0) (bx 2) (bx 1) (szN bx (bx 0)) (bx 3) (bx 4), (pq 0, .inl (cI, 4, .inl (fun z_ => nI (te z_)))), (pq 1, .inl (cI, 4, .inl (fun z_ => nI (ps z_)))), (pq 2, .inl (cI, 4, .inl (fun z_ => nI (pu z_)))), (pq 3, .inl (cI, 4, .inl (fun z_ => nI (sd z_)))), (pq 4, .inl (cI, 8, .inl (fun z_ => nI (cj z_)))), (pq 5, .inl (cI, 5, .inl (fun z_ => nI (ta z_))))] := hD
              refine lv_istore (lv' := [(5, .int (nI (ebN bx nw k))), (4, .int (nI (k))), (3, .int (nI (n))), (2, .int (nI (rdN bx nw (bx 0)))), (0, .ref o), (1, .int (nI (j)))]) hx hb dX6_sensible_68 hl (by decide) rfl (fun ls hl => ?_)
              refine lv_aload_n hx hb dX6_sensible_70 rfl (lv_at hl 4 rfl) ?_
              refine gf_6_38 hx hb hts hown hK hP 0 rfl rfl dX6_sensible_71 ?_
              refine lv_aload_n hx hb dX6_sensible_74 rfl (lv_at hl 4 rfl) ?_
              refine gf_6_55 hx hb hts hown hK hP 0 rfl rfl dX6_sensible_75 ?_
              refine lv_iload hx hb dX6_sensible_78 (lv_at hl 0 rfl) ?_
              refine cl_6_154 (As := [.ref a, .int (nI (ebN bx nw k))]) (rest := []) hx hb hml hts hown (k_X0_makesSense hR hX (by first | omega | (have := eb_lt hR.b nw k; omega))) (by decide) ⟨Nat.zero_le _, Nat.zero_le _⟩ hK hP hD hS hA 1 rfl [1, 2, 3, 4, 5, 6, 7, 8, 9, 10, 11, 12, 13, 14, 15] rfl (by decide) rfl hl.1 rfl (Nat.le_of_ble_eq_true rfl) dX6_sensible_80 (fun r_11 u H locs hp_12 hP hD hS => ?_)
              obtain ⟨rfl, rfl⟩ := hp_12
              have hP : va_P D vwCl [(o, .inr (6, [.ref xt, .ref xg, .ref xu, .ref xk, .ref b, .ref xd, .ref xe, .ref a, .ref xf])), bO b bq fi (nw 2) (nw 0) (nw 1), (bq 0, .inl (cI, 4, .inl (fun z_ => nI (up z_)))), (bq 1, .inl (cI, 4, .inl (fun z_ => nI (st z_)))), (bq 2, .inl (cI, 12, .inl (fun z_ => nI (ex z_)))), (bq 3, .inl (cI, 12, .inl (fun z_ => nI (tl z_)))), (bq 4, .inl (cI, 12, .inl (fun z_ => nI (he z_)))), (bq 5, .inl (cI, 12, .inl (fun z_ => nI (dy z_)))), (bq 6, .inl (cI, 12, .inl (fun z_ => nI (se z_)))), pO a pq (bx 0) (bx 2) (bx 1) (szN bx (bx 0)) (bx 3) (bx 4), (pq 0, .inl (cI, 4, .inl (fun z_ => nI (te z_)))), (pq 1, .inl (cI, 4, .inl (fun z_ => nI (ps z_)))), (pq 2, .inl (cI, 4, .inl (fun z_ => nI (pu z_)))), (pq 3, .inl (cI, 4, .inl (fun z_ => nI (sd z_)))), (pq 4, .inl (cI, 8, .inl (fun z_ => nI (cj z_)))), (pq 5, .inl (cI, 5, .inl (fun z_ => nI (ta z_))))] _ := hP
              have hD : va_D A [(o, .inr (6, [.ref xt, .ref xg, .ref xu, .ref xk, .ref b, .ref xd, .ref xe, .ref a, .ref xf])), bO b bq fi (nw 2) (nw 0) (nw 1), (bq 0, .inl (cI, 4, .inl (fun z_ => nI (up z_)))), (bq 1, .inl (cI, 4, .inl (fun z_ => nI (st z_)))), (bq 2, .inl (cI, 12, .inl (fun z_ => nI (ex z_)))), (bq 3, .inl (cI, 12, .inl (fun z_ => nI (tl z_)))), (bq 4, .inl (cI, 12, .inl (fun z_ => nI (he z_)))), (bq 5, .inl (cI, 12, .inl (fun z_ => nI (dy z_)))), (bq 6, .inl (cI, 12, .inl (fun z_ => nI (se z_)))), pO a pq (bx 0) (bx 2) (bx 1) (szN bx (bx 0)) (bx 3) (bx 4), (pq 0, .inl (cI, 4, .inl (fun z_ => nI (te z_)))), (pq 1, .inl (cI, 4, .inl (fun z_ => nI (ps z_)))), (pq 2, .inl (cI, 4, .inl (fun z_ => nI (pu z_)))), (pq 3, .inl (cI, 4, .inl (fun z_ => nI (sd z_)))), (pq 4, .inl (cI, 8, .inl (fun z_ => nI (cj z_)))), (pq 5, .inl (cI, 5, .inl (fun z_ => nI (ta z_))))] := hD
              refine n_ifb_eq (tgt := 89) hx hb dX6_sensible_83 (by decide) (fun c_13 => ?_) (fun c_13 => ?_)
              · -- 83 to 89
                refine lv_iinc (v := nI (k + 1)) (lv' := [(4, .int (nI (k + 1))), (5, .int (nI (ebN bx nw k))), (3, .int (nI (n))), (2, .int (nI (rdN bx nw (bx 0)))), (0, .ref o), (1, .int (nI (j)))]) hx hb dX6_sensible_89 hl (k := 1) rfl (n_inc _ 1) (by decide) rfl (fun ls hl => ?_)
                refine lv_goto (tgt := 40) hx hb dX6_sensible_92 (by decide) ?_
                exact ih_40 n (k + 1) (by omega) (by rw [hn]; first | exact cn_1 (P := fun k_ => senN bx nw (if j = 0 then k_ else ebN bx nw k_)) (by first | (rw [if_pos hj0_q]; assumption) | (rw [if_neg hj1_q]; assumption)) | exact cn_0 (P := fun k_ => senN bx nw (if j = 0 then k_ else ebN bx nw k_)) (by first | (rw [if_pos hj0_q]; assumption) | (rw [if_neg hj1_q]; assumption))) (by omega) _ _ hP hD hS _ (lv_sub hl [0, 2, 3, 4, 5] rfl)
              · -- 83 to 86
                refine lv_iinc (v := nI (n + 1)) (lv' := [(3, .int (nI (n + 1))), (5, .int (nI (ebN bx nw k))), (4, .int (nI (k))), (2, .int (nI (rdN bx nw (bx 0)))), (0, .ref o), (1, .int (nI (j)))]) hx hb dX6_sensible_86 hl (k := 2) rfl (n_inc _ 1) (by decide) rfl (fun ls hl => ?_)
                refine lv_iinc (v := nI (k + 1)) (lv' := [(4, .int (nI (k + 1))), (3, .int (nI (n + 1))), (5, .int (nI (ebN bx nw k))), (2, .int (nI (rdN bx nw (bx 0)))), (0, .ref o), (1, .int (nI (j)))]) hx hb dX6_sensible_89 hl (k := 2) rfl (n_inc _ 1) (by decide) rfl (fun ls hl => ?_)
                refine lv_goto (tgt := 40) hx hb dX6_sensible_92 (by decide) ?_
                exact ih_40 (n + 1) (k + 1) (by omega) (by rw [hn]; first | exact cn_1 (P := fun k_ => senN bx nw (if j = 0 then k_ else ebN bx nw k_)) (by first | (rw [if_pos hj0_q]; assumption) | (rw [if_neg hj1_q]; assumption)) | exact cn_0 (P := fun k_ => senN bx nw (if j = 0 then k_ else ebN bx nw k_)) (by first | (rw [if_pos hj0_q]; assumption) | (rw [if_neg hj1_q]; assumption))) (by omega) _ _ hP hD hS _ (lv_sub hl [0, 1, 3, 4, 5] rfl)
            · omega
      exact loop_40 _ 0 0 (Nat.zero_le _) rfl (Nat.lt_succ_self _) _ _ hP hD hS _ (lv_sub hl [0, 1, 2, 3, 4] rfl)
    · -- 10 to 13
      have hj0_q := c_4
      have hsz_q := sz_lt hR.b
      refine lv_aload_n hx hb dX6_sensible_13 rfl (lv_at hl 0 rfl) ?_
      refine gf_6_55 hx hb hts hown hK hP 0 rfl rfl dX6_sensible_14 ?_
      refine gf_6_212 hx hb hts hown hK hP 9 rfl rfl dX6_sensible_17 ?_
      refine lv_goto (tgt := 34) hx hb dX6_sensible_20 (by decide) ?_
      refine lv_istore_n (lv' := [(2, .int (nI (szN bx (bx 0)))), (0, .ref o), (1, .int (nI (j)))]) hx hb dX6_sensible_34 rfl hl (by decide) rfl (fun ls hl => ?_)
      refine lv_iconst (v := nI 0) hx hb dX6_sensible_35 (by decide) ?_
      refine lv_istore_n (lv' := [(3, .int (nI (0))), (2, .int (nI (szN bx (bx 0)))), (0, .ref o), (1, .int (nI (j)))]) hx hb dX6_sensible_36 rfl hl (by decide) rfl (fun ls hl => ?_)
      refine lv_iconst (v := nI 0) hx hb dX6_sensible_37 (by decide) ?_
      refine lv_istore (lv' := [(4, .int (nI (0))), (3, .int (nI (0))), (2, .int (nI (szN bx (bx 0)))), (0, .ref o), (1, .int (nI (j)))]) hx hb dX6_sensible_38 hl (by decide) rfl (fun ls hl => ?_)
      have loop_40 : ∀ (N : Nat) (n : Nat) (k : Nat), (k ≤ (szN bx (bx 0))) → (n = cnB (fun k_ => senN bx nw (if j = 0 then k_ else ebN bx nw k_)) k) → ((szN bx (bx 0)) - k) < N → ∀ (H : Heap) (locs : List Loc), va_P D vwCl [(o, .inr (6, [.ref xt, .ref xg, .ref xu, .ref xk, .ref b, .ref xd, .ref xe, .ref a, .ref xf])), bO b bq fi (nw 2) (nw 0) (nw 1), (bq 0, .inl (cI, 4, .inl (fun z_ => nI (up z_)))), (bq 1, .inl (cI, 4, .inl (fun z_ => nI (st z_)))), (bq 2, .inl (cI, 12, .inl (fun z_ => nI (ex z_)))), (bq 3, .inl (cI, 12, .inl (fun z_ => nI (tl z_)))), (bq 4, .inl (cI, 12, .inl (fun z_ => nI (he z_)))), (bq 5, .inl (cI, 12, .inl (fun z_ => nI (dy z_)))), (bq 6, .inl (cI, 12, .inl (fun z_ => nI (se z_)))), pO a pq (bx 0) (bx 2) (bx 1) (szN bx (bx 0)) (bx 3) (bx 4), (pq 0, .inl (cI, 4, .inl (fun z_ => nI (te z_)))), (pq 1, .inl (cI, 4, .inl (fun z_ => nI (ps z_)))), (pq 2, .inl (cI, 4, .inl (fun z_ => nI (pu z_)))), (pq 3, .inl (cI, 4, .inl (fun z_ => nI (sd z_)))), (pq 4, .inl (cI, 8, .inl (fun z_ => nI (cj z_)))), (pq 5, .inl (cI, 5, .inl (fun z_ => nI (ta z_))))] H → va_D A [(o, .inr (6, [.ref xt, .ref xg, .ref xu, .ref xk, .ref b, .ref xd, .ref xe, .ref a, .ref xf])), bO b bq fi (nw 2) (nw 0) (nw 1), (bq 0, .inl (cI, 4, .inl (fun z_ => nI (up z_)))), (bq 1, .inl (cI, 4, .inl (fun z_ => nI (st z_)))), (bq 2, .inl (cI, 12, .inl (fun z_ => nI (ex z_)))), (bq 3, .inl (cI, 12, .inl (fun z_ => nI (tl z_)))), (bq 4, .inl (cI, 12, .inl (fun z_ => nI (he z_)))), (bq 5, .inl (cI, 12, .inl (fun z_ => nI (dy z_)))), (bq 6, .inl (cI, 12, .inl (fun z_ => nI (se z_)))), pO a pq (bx 0) (bx 2) (bx 1) (szN bx (bx 0)) (bx 3) (bx 4), (pq 0, .inl (cI, 4, .inl (fun z_ => nI (te z_)))), (pq 1, .inl (cI, 4, .inl (fun z_ => nI (ps z_)))), (pq 2, .inl (cI, 4, .inl (fun z_ => nI (pu z_)))), (pq 3, .inl (cI, 4, .inl (fun z_ => nI (sd z_)))), (pq 4, .inl (cI, 8, .inl (fun z_ => nI (cj z_)))), (pq 5, .inl (cI, 5, .inl (fun z_ => nI (ta z_))))] → va_S A s.heap H locs → ∀ ls : Array Slot, lv_has ls 6 [(4, .int (nI (k))), (3, .int (nI (n))), (2, .int (nI (szN bx (bx 0)))), (0, .ref o), (1, .int (nI (j)))] → W p l e (rmL 4) s m args below meth c H locs 0 0 Qf (F0 m 40 ls []) := by
        intro N; induction N with
        | zero => intro n k _ _ hm; omega
        | succ N ih_40 =>
          intro n k hk hn hm H locs hP hD hS ls hl
          refine lv_iload hx hb dX6_sensible_40 (lv_at hl 0 rfl) ?_
          refine lv_iload_n hx hb dX6_sensible_42 rfl (lv_at hl 2 rfl) ?_
          refine n_icmp_ge (tgt := 95) hx hb dX6_sensible_43 (by decide) (by omega) (by omega) (fun c_14 => ?_) (fun c_14 => ?_)
          · -- 43 to 95
            refine lv_iload_n hx hb dX6_sensible_95 rfl (lv_at hl 1 rfl) ?_
            refine hret hP hD hS dX6_sensible_96 rfl rfl ?_
            exact ⟨by rw [hn, show k = szN bx (bx 0) by omega, cn_f0 hj0_q]; exact sn_0 hvj_q (by rw [hij_q]; exact hj0_q), rfl⟩
          · -- 43 to 46
            refine lv_iload_n hx hb dX6_sensible_46 rfl (lv_at hl 4 rfl) ?_
            refine n_if_ne (tgt := 55) hx hb dX6_sensible_47 (by decide) (by omega) (fun c_15 => ?_) (fun c_15 => ?_)
            · omega
            · -- 47 to 50
              refine lv_iload hx hb dX6_sensible_50 (lv_at hl 0 rfl) ?_
              refine lv_goto (tgt := 68) hx hb dX6_sensible_52 (by decide) ?_
              refine lv_istore (lv' := [(5, .int (nI (k))), (4, .int (nI (k))), (3, .int (nI (n))), (2, .int (nI (szN bx (bx 0)))), (0, .ref o), (1, .int (nI (j)))]) hx hb dX6_sensible_68 hl (by decide) rfl (fun ls hl => ?_)
              refine lv_aload_n hx hb dX6_sensible_70 rfl (lv_at hl 4 rfl) ?_
              refine gf_6_38 hx hb hts hown hK hP 0 rfl rfl dX6_sensible_71 ?_
              refine lv_aload_n hx hb dX6_sensible_74 rfl (lv_at hl 4 rfl) ?_
              refine gf_6_55 hx hb hts hown hK hP 0 rfl rfl dX6_sensible_75 ?_
              refine lv_iload hx hb dX6_sensible_78 (lv_at hl 0 rfl) ?_
              refine cl_6_154 (As := [.ref a, .int (nI (k))]) (rest := []) hx hb hml hts hown (k_X0_makesSense hR hX (by first | omega | (have := eb_lt hR.b nw k; omega))) (by decide) ⟨Nat.zero_le _, Nat.zero_le _⟩ hK hP hD hS hA 1 rfl [1, 2, 3, 4, 5, 6, 7, 8, 9, 10, 11, 12, 13, 14, 15] rfl (by decide) rfl hl.1 rfl (Nat.le_of_ble_eq_true rfl) dX6_sensible_80 (fun r_16 u H locs hp_17 hP hD hS => ?_)
              obtain ⟨rfl, rfl⟩ := hp_17
              have hP : va_P D vwCl [(o, .inr (6, [.ref xt, .ref xg, .ref xu, .ref xk, .ref b, .ref xd, .ref xe, .ref a, .ref xf])), bO b bq fi (nw 2) (nw 0) (nw 1), (bq 0, .inl (cI, 4, .inl (fun z_ => nI (up z_)))), (bq 1, .inl (cI, 4, .inl (fun z_ => nI (st z_)))), (bq 2, .inl (cI, 12, .inl (fun z_ => nI (ex z_)))), (bq 3, .inl (cI, 12, .inl (fun z_ => nI (tl z_)))), (bq 4, .inl (cI, 12, .inl (fun z_ => nI (he z_)))), (bq 5, .inl (cI, 12, .inl (fun z_ => nI (dy z_)))), (bq 6, .inl (cI, 12, .inl (fun z_ => nI (se z_)))), pO a pq (bx 0) (bx 2) (bx 1) (szN bx (bx 0)) (bx 3) (bx 4), (pq 0, .inl (cI, 4, .inl (fun z_ => nI (te z_)))), (pq 1, .inl (cI, 4, .inl (fun z_ => nI (ps z_)))), (pq 2, .inl (cI, 4, .inl (fun z_ => nI (pu z_)))), (pq 3, .inl (cI, 4, .inl (fun z_ => nI (sd z_)))), (pq 4, .inl (cI, 8, .inl (fun z_ => nI (cj z_)))), (pq 5, .inl (cI, 5, .inl (fun z_ => nI (ta z_))))] _ := hP
              have hD : va_D A [(o, .inr (6, [.ref xt, .ref xg, .ref xu, .ref xk, .ref b, .ref xd, .ref xe, .ref a, .ref xf])), bO b bq fi (nw 2) (nw 0) (nw 1), (bq 0, .inl (cI, 4, .inl (fun z_ => nI (up z_)))), (bq 1, .inl (cI, 4, .inl (fun z_ => nI (st z_)))), (bq 2, .inl (cI, 12, .inl (fun z_ => nI (ex z_)))), (bq 3, .inl (cI, 12, .inl (fun z_ => nI (tl z_)))), (bq 4, .inl (cI, 12, .inl (fun z_ => nI (he z_)))), (bq 5, .inl (cI, 12, .inl (fun z_ => nI (dy z_)))), (bq 6, .inl (cI, 12, .inl (fun z_ => nI (se z_)))), pO a pq (bx 0) (bx 2) (bx 1) (szN bx (bx 0)) (bx 3) (bx 4), (pq 0, .inl (cI, 4, .inl (fun z_ => nI (te z_)))), (pq 1, .inl (cI, 4, .inl (fun z_ => nI (ps z_)))), (pq 2, .inl (cI, 4, .inl (fun z_ => nI (pu z_)))), (pq 3, .inl (cI, 4, .inl (fun z_ => nI (sd z_)))), (pq 4, .inl (cI, 8, .inl (fun z_ => nI (cj z_)))), (pq 5, .inl (cI, 5, .inl (fun z_ => nI (ta z_))))] := hD
              refine n_ifb_eq (tgt := 89) hx hb dX6_sensible_83 (by decide) (fun c_18 => ?_) (fun c_18 => ?_)
              · -- 83 to 89
                refine lv_iinc (v := nI (k + 1)) (lv' := [(4, .int (nI (k + 1))), (5, .int (nI (k))), (3, .int (nI (n))), (2, .int (nI (szN bx (bx 0)))), (0, .ref o), (1, .int (nI (j)))]) hx hb dX6_sensible_89 hl (k := 1) rfl (n_inc _ 1) (by decide) rfl (fun ls hl => ?_)
                refine lv_goto (tgt := 40) hx hb dX6_sensible_92 (by decide) ?_
                exact ih_40 n (k + 1) (by omega) (by rw [hn]; first | exact cn_1 (P := fun k_ => senN bx nw (if j = 0 then k_ else ebN bx nw k_)) (by first | (rw [if_pos hj0_q]; assumption) | (rw [if_neg hj1_q]; assumption)) | exact cn_0 (P := fun k_ => senN bx nw (if j = 0 then k_ else ebN bx nw k_)) (by first | (rw [if_pos hj0_q]; assumption) | (rw [if_neg hj1_q]; assumption))) (by omega) _ _ hP hD hS _ (lv_sub hl [0, 2, 3, 4, 5] rfl)
              · -- 83 to 86
                refine lv_iinc (v := nI (n + 1)) (lv' := [(3, .int (nI (n + 1))), (5, .int (nI (k))), (4, .int (nI (k))), (2, .int (nI (szN bx (bx 0)))), (0, .ref o), (1, .int (nI (j)))]) hx hb dX6_sensible_86 hl (k := 2) rfl (n_inc _ 1) (by decide) rfl (fun ls hl => ?_)
                refine lv_iinc (v := nI (k + 1)) (lv' := [(4, .int (nI (k + 1))), (3, .int (nI (n + 1))), (5, .int (nI (k))), (2, .int (nI (szN bx (bx 0)))), (0, .ref o), (1, .int (nI (j)))]) hx hb dX6_sensible_89 hl (k := 2) rfl (n_inc _ 1) (by decide) rfl (fun ls hl => ?_)
                refine lv_goto (tgt := 40) hx hb dX6_sensible_92 (by decide) ?_
                exact ih_40 (n + 1) (k + 1) (by omega) (by rw [hn]; first | exact cn_1 (P := fun k_ => senN bx nw (if j = 0 then k_ else ebN bx nw k_)) (by first | (rw [if_pos hj0_q]; assumption) | (rw [if_neg hj1_q]; assumption)) | exact cn_0 (P := fun k_ => senN bx nw (if j = 0 then k_ else ebN bx nw k_)) (by first | (rw [if_pos hj0_q]; assumption) | (rw [if_neg hj1_q]; assumption))) (by omega) _ _ hP hD hS _ (lv_sub hl [0, 1, 3, 4, 5] rfl)
      exact loop_40 _ 0 0 (Nat.zero_le _) rfl (Nat.lt_succ_self _) _ _ hP hD hS _ (lv_sub hl [0, 1, 2, 3, 4] rfl)
  · -- 4 to 7
    have hvj_q := c_3
    refine lv_iconst (v := (-1)) hx hb dX6_sensible_7 (by decide) ?_
    refine hret hP hD hS dX6_sensible_8 rfl rfl ?_
    exact ⟨sn_n hvj_q, rfl⟩
set_option maxHeartbeats 4000000 in
set_option maxRecDepth 100000 in
theorem k_X6_forget {l : Launch} {D : va_G} {cI cC cB : ClassId} {o xt xg xu xk xd xe xf : Nat} {a b : Nat} {zms : Nat} {gq : Nat → Nat} {gw gn gt sh : Nat → Nat}  : MI l yX6_forget cX6_forget 2 (some .int) 0 D (Ty3 cI cC cB) [.ref o] [(o, .inr (6, [.ref xt, .ref xg, .ref xu, .ref xk, .ref b, .ref xd, .ref xe, .ref a, .ref xf])), gO xg gq zms] (fun r u => (r = nI (zms) ∧ u = [(o, .inr (6, [.ref xt, .ref xg, .ref xu, .ref xk, .ref b, .ref xd, .ref xe, .ref a, .ref xf])), gO xg gq 0])) := by
  intro sz
  refine MI.walk (by decide +kernel) (Nat.le_of_ble_eq_true rfl) ?_
  intro p e s m args below meth c A Qf hx hb hml hts hown hret hK hP hD hS hA ls hl
  have hown : s.vm.findClass RX6 = some m.cls := hown
  have hl : lv_has ls 2 [(0, .ref o)] := hl
  have hP : va_P D vwCl [(o, .inr (6, [.ref xt, .ref xg, .ref xu, .ref xk, .ref b, .ref xd, .ref xe, .ref a, .ref xf])), gO xg gq zms] s.heap := hP
  have hD : va_D A [(o, .inr (6, [.ref xt, .ref xg, .ref xu, .ref xk, .ref b, .ref xd, .ref xe, .ref a, .ref xf])), gO xg gq zms] := hD
  refine lv_aload_n hx hb dX6_forget_0 rfl (lv_at hl 0 rfl) ?_
  refine gf_6_19 hx hb hts hown hK hP 0 rfl rfl dX6_forget_1 ?_
  refine gf_6_95 hx hb hts hown hK hP 1 rfl rfl dX6_forget_4 ?_
  refine lv_istore_n (lv' := [(1, .int (nI (zms))), (0, .ref o)]) hx hb dX6_forget_7 rfl hl (by decide) rfl (fun ls hl => ?_)
  refine lv_aload_n hx hb dX6_forget_8 rfl (lv_at hl 1 rfl) ?_
  refine gf_6_19 hx hb hts hown hK hP 0 rfl rfl dX6_forget_9 ?_
  refine lv_iconst (v := nI 0) hx hb dX6_forget_12 (by decide) ?_
  refine pf_6_95 hx hb hts hown hK hP hD hS 1 rfl (Nat.le_of_ble_eq_true rfl) dX6_forget_13 (fun H locs hP hD hS => ?_)
  have hP : va_P D vwCl [(o, .inr (6, [.ref xt, .ref xg, .ref xu, .ref xk, .ref b, .ref xd, .ref xe, .ref a, .ref xf])), gO xg gq 0] _ := hP
  have hD : va_D A [(o, .inr (6, [.ref xt, .ref xg, .ref xu, .ref xk, .ref b, .ref xd, .ref xe, .ref a, .ref xf])), gO xg gq 0] := hD
  refine lv_iload_n hx hb dX6_forget_16 rfl (lv_at hl 0 rfl) ?_
  refine hret hP hD hS dX6_forget_17 rfl rfl ?_
  exact ⟨rfl, rfl⟩
set_option maxHeartbeats 4000000 in
set_option maxRecDepth 100000 in
theorem k_X6_gears {l : Launch} {D : va_G} {cI cC cB : ClassId} {o xt xg xu xk xd xe xf : Nat} {b : Nat} {a : Nat} {pq : Nat → Nat} {bx te ps pu sd cj ta : Nat → Nat} {zms : Nat} {gq : Nat → Nat} {gw gn gt sh : Nat → Nat} {x : Int32} (hR : PlR bx te ps pu sd cj ta) (hG : SgR bx sh gw gn gt zms) : MI l yX6_gears cX6_gears 2 (some .int) 4 D (Ty3 cI cC cB) [.ref o, .int (x)] [(o, .inr (6, [.ref xt, .ref xg, .ref xu, .ref xk, .ref b, .ref xd, .ref xe, .ref a, .ref xf])), gO xg gq zms, (gq 0, .inl (cI, 8, .inl (fun z_ => nI (gw z_)))), (gq 1, .inl (cI, 8, .inl (fun z_ => nI (gn z_)))), (gq 2, .inl (cI, 8, .inl (fun z_ => nI (gt z_)))), pO a pq (bx 0) (bx 2) (bx 1) (szN bx (bx 0)) (bx 3) (bx 4), (pq 0, .inl (cI, 4, .inl (fun z_ => nI (te z_)))), (pq 1, .inl (cI, 4, .inl (fun z_ => nI (ps z_)))), (pq 2, .inl (cI, 4, .inl (fun z_ => nI (pu z_)))), (pq 3, .inl (cI, 4, .inl (fun z_ => nI (sd z_)))), (pq 4, .inl (cI, 8, .inl (fun z_ => nI (cj z_)))), (pq 5, .inl (cI, 5, .inl (fun z_ => nI (ta z_))))] (fun r u => (r = gesA bx sh zms x ∧ u = [(o, .inr (6, [.ref xt, .ref xg, .ref xu, .ref xk, .ref b, .ref xd, .ref xe, .ref a, .ref xf])), gO xg gq zms, (gq 0, .inl (cI, 8, .inl (fun z_ => nI (gw z_)))), (gq 1, .inl (cI, 8, .inl (fun z_ => nI (gn z_)))), (gq 2, .inl (cI, 8, .inl (fun z_ => nI (gt z_)))), pO a pq (bx 0) (bx 2) (bx 1) (szN bx (bx 0)) (bx 3) (bx 4), (pq 0, .inl (cI, 4, .inl (fun z_ => nI (te z_)))), (pq 1, .inl (cI, 4, .inl (fun z_ => nI (ps z_)))), (pq 2, .inl (cI, 4, .inl (fun z_ => nI (pu z_)))), (pq 3, .inl (cI, 4, .inl (fun z_ => nI (sd z_)))), (pq 4, .inl (cI, 8, .inl (fun z_ => nI (cj z_)))), (pq 5, .inl (cI, 5, .inl (fun z_ => nI (ta z_))))])) := by
  intro sz
  refine MI.walk (by decide +kernel) (Nat.le_of_ble_eq_true rfl) ?_
  intro p e s m args below meth c A Qf hx hb hml hts hown hret hK hP hD hS hA ls hl
  have hown : s.vm.findClass RX6 = some m.cls := hown
  have hl : lv_has ls 2 [(0, .ref o), (1, .int (x))] := hl
  have hP : va_P D vwCl [(o, .inr (6, [.ref xt, .ref xg, .ref xu, .ref xk, .ref b, .ref xd, .ref xe, .ref a, .ref xf])), gO xg gq zms, (gq 0, .inl (cI, 8, .inl (fun z_ => nI (gw z_)))), (gq 1, .inl (cI, 8, .inl (fun z_ => nI (gn z_)))), (gq 2, .inl (cI, 8, .inl (fun z_ => nI (gt z_)))), pO a pq (bx 0) (bx 2) (bx 1) (szN bx (bx 0)) (bx 3) (bx 4), (pq 0, .inl (cI, 4, .inl (fun z_ => nI (te z_)))), (pq 1, .inl (cI, 4, .inl (fun z_ => nI (ps z_)))), (pq 2, .inl (cI, 4, .inl (fun z_ => nI (pu z_)))), (pq 3, .inl (cI, 4, .inl (fun z_ => nI (sd z_)))), (pq 4, .inl (cI, 8, .inl (fun z_ => nI (cj z_)))), (pq 5, .inl (cI, 5, .inl (fun z_ => nI (ta z_))))] s.heap := hP
  have hD : va_D A [(o, .inr (6, [.ref xt, .ref xg, .ref xu, .ref xk, .ref b, .ref xd, .ref xe, .ref a, .ref xf])), gO xg gq zms, (gq 0, .inl (cI, 8, .inl (fun z_ => nI (gw z_)))), (gq 1, .inl (cI, 8, .inl (fun z_ => nI (gn z_)))), (gq 2, .inl (cI, 8, .inl (fun z_ => nI (gt z_)))), pO a pq (bx 0) (bx 2) (bx 1) (szN bx (bx 0)) (bx 3) (bx 4), (pq 0, .inl (cI, 4, .inl (fun z_ => nI (te z_)))), (pq 1, .inl (cI, 4, .inl (fun z_ => nI (ps z_)))), (pq 2, .inl (cI, 4, .inl (fun z_ => nI (pu z_)))), (pq 3, .inl (cI, 4, .inl (fun z_ => nI (sd z_)))), (pq 4, .inl (cI, 8, .inl (fun z_ => nI (cj z_)))), (pq 5, .inl (cI, 5, .inl (fun z_ => nI (ta z_))))] := hD
  refine lv_aload_n hx hb dX6_gears_0 rfl (lv_at hl 0 rfl) ?_
  refine lv_iload_n hx hb dX6_gears_1 rfl (lv_at hl 1 rfl) ?_
  refine cl_6_101 (As := [.int (x)]) (rest := []) hx hb hml hts hown (k_X6_isWheel (by first | assumption | omega)) (by decide) ⟨Nat.zero_le _, Nat.zero_le _⟩ hK hP hD hS hA 0 rfl [0, 5, 6, 7, 8, 9, 10, 11] rfl (by decide) rfl hl.1 rfl (Nat.le_of_ble_eq_true rfl) dX6_gears_2 (fun r_1 u H locs hp_2 hP hD hS => ?_)
  obtain ⟨rfl, rfl⟩ := hp_2
  have hP : va_P D vwCl [(o, .inr (6, [.ref xt, .ref xg, .ref xu, .ref xk, .ref b, .ref xd, .ref xe, .ref a, .ref xf])), gO xg gq zms, (gq 0, .inl (cI, 8, .inl (fun z_ => nI (gw z_)))), (gq 1, .inl (cI, 8, .inl (fun z_ => nI (gn z_)))), (gq 2, .inl (cI, 8, .inl (fun z_ => nI (gt z_)))), pO a pq (bx 0) (bx 2) (bx 1) (szN bx (bx 0)) (bx 3) (bx 4), (pq 0, .inl (cI, 4, .inl (fun z_ => nI (te z_)))), (pq 1, .inl (cI, 4, .inl (fun z_ => nI (ps z_)))), (pq 2, .inl (cI, 4, .inl (fun z_ => nI (pu z_)))), (pq 3, .inl (cI, 4, .inl (fun z_ => nI (sd z_)))), (pq 4, .inl (cI, 8, .inl (fun z_ => nI (cj z_)))), (pq 5, .inl (cI, 5, .inl (fun z_ => nI (ta z_))))] _ := hP
  have hD : va_D A [(o, .inr (6, [.ref xt, .ref xg, .ref xu, .ref xk, .ref b, .ref xd, .ref xe, .ref a, .ref xf])), gO xg gq zms, (gq 0, .inl (cI, 8, .inl (fun z_ => nI (gw z_)))), (gq 1, .inl (cI, 8, .inl (fun z_ => nI (gn z_)))), (gq 2, .inl (cI, 8, .inl (fun z_ => nI (gt z_)))), pO a pq (bx 0) (bx 2) (bx 1) (szN bx (bx 0)) (bx 3) (bx 4), (pq 0, .inl (cI, 4, .inl (fun z_ => nI (te z_)))), (pq 1, .inl (cI, 4, .inl (fun z_ => nI (ps z_)))), (pq 2, .inl (cI, 4, .inl (fun z_ => nI (pu z_)))), (pq 3, .inl (cI, 4, .inl (fun z_ => nI (sd z_)))), (pq 4, .inl (cI, 8, .inl (fun z_ => nI (cj z_)))), (pq 5, .inl (cI, 5, .inl (fun z_ => nI (ta z_))))] := hD
  refine n_ifb_eq (tgt := 23) hx hb dX6_gears_5 (by decide) (fun c_3 => ?_) (fun c_3 => ?_)
  · -- 5 to 23
    refine lv_iconst (v := (-1)) hx hb dX6_gears_23 (by decide) ?_
    refine hret hP hD hS dX6_gears_24 rfl rfl ?_
    exact ⟨by first | exact ges_t (by have := hR.b.w; omega) (by assumption) | exact ges_f (by assumption), rfl⟩
  · -- 5 to 8
    obtain ⟨j, hj, rfl⟩ := inN_e (by have := hR.b.bd 0; omega) c_3
    have hij_q : ix (nI j) = j := ix_n (by have := hR.b.bd 0; omega)
    have hicj_q : (nI j).toNatClampNeg = j := ix_n (by have := hR.b.bd 0; omega)
    refine lv_aload_n hx hb dX6_gears_8 rfl (lv_at hl 0 rfl) ?_
    refine gf_6_19 hx hb hts hown hK hP 0 rfl rfl dX6_gears_9 ?_
    refine lv_aload_n hx hb dX6_gears_12 rfl (lv_at hl 0 rfl) ?_
    refine gf_6_55 hx hb hts hown hK hP 0 rfl rfl dX6_gears_13 ?_
    refine lv_iload_n hx hb dX6_gears_16 rfl (lv_at hl 1 rfl) ?_
    refine cl_6_243 (As := [.ref a, .int (nI (j))]) (rest := []) hx hb hml hts hown (k_X4_stepsOf (by first | assumption | omega) (by first | assumption | omega) (by first | assumption | omega)) (by decide) ⟨Nat.zero_le _, Nat.zero_le _⟩ hK hP hD hS hA 1 rfl [1, 2, 3, 4, 5, 6, 7, 8, 9, 10, 11] rfl (by decide) rfl hl.1 rfl (Nat.le_of_ble_eq_true rfl) dX6_gears_17 (fun r_4 u H locs hp_5 hP hD hS => ?_)
    obtain ⟨rfl, rfl⟩ := hp_5
    have hP : va_P D vwCl [(o, .inr (6, [.ref xt, .ref xg, .ref xu, .ref xk, .ref b, .ref xd, .ref xe, .ref a, .ref xf])), gO xg gq zms, (gq 0, .inl (cI, 8, .inl (fun z_ => nI (gw z_)))), (gq 1, .inl (cI, 8, .inl (fun z_ => nI (gn z_)))), (gq 2, .inl (cI, 8, .inl (fun z_ => nI (gt z_)))), pO a pq (bx 0) (bx 2) (bx 1) (szN bx (bx 0)) (bx 3) (bx 4), (pq 0, .inl (cI, 4, .inl (fun z_ => nI (te z_)))), (pq 1, .inl (cI, 4, .inl (fun z_ => nI (ps z_)))), (pq 2, .inl (cI, 4, .inl (fun z_ => nI (pu z_)))), (pq 3, .inl (cI, 4, .inl (fun z_ => nI (sd z_)))), (pq 4, .inl (cI, 8, .inl (fun z_ => nI (cj z_)))), (pq 5, .inl (cI, 5, .inl (fun z_ => nI (ta z_))))] _ := hP
    have hD : va_D A [(o, .inr (6, [.ref xt, .ref xg, .ref xu, .ref xk, .ref b, .ref xd, .ref xe, .ref a, .ref xf])), gO xg gq zms, (gq 0, .inl (cI, 8, .inl (fun z_ => nI (gw z_)))), (gq 1, .inl (cI, 8, .inl (fun z_ => nI (gn z_)))), (gq 2, .inl (cI, 8, .inl (fun z_ => nI (gt z_)))), pO a pq (bx 0) (bx 2) (bx 1) (szN bx (bx 0)) (bx 3) (bx 4), (pq 0, .inl (cI, 4, .inl (fun z_ => nI (te z_)))), (pq 1, .inl (cI, 4, .inl (fun z_ => nI (ps z_)))), (pq 2, .inl (cI, 4, .inl (fun z_ => nI (pu z_)))), (pq 3, .inl (cI, 4, .inl (fun z_ => nI (sd z_)))), (pq 4, .inl (cI, 8, .inl (fun z_ => nI (cj z_)))), (pq 5, .inl (cI, 5, .inl (fun z_ => nI (ta z_))))] := hD
    refine lv_goto (tgt := 24) hx hb dX6_gears_20 (by decide) ?_
    refine hret hP hD hS dX6_gears_24 rfl rfl ?_
    exact ⟨by first | exact ges_t (by have := hR.b.w; omega) (by assumption) | exact ges_f (by assumption), rfl⟩
set_option maxHeartbeats 4000000 in
set_option maxRecDepth 100000 in
theorem k_X6_shown {l : Launch} {D : va_G} {cI cC cB : ClassId} {o xt xg xu xk xd xe xf : Nat} {b : Nat} {a : Nat} {pq : Nat → Nat} {bx te ps pu sd cj ta : Nat → Nat} {zms : Nat} {gq : Nat → Nat} {gw gn gt sh : Nat → Nat} {x v y : Int32} (hR : PlR bx te ps pu sd cj ta) (hG : SgR bx sh gw gn gt zms) : MI l yX6_shown cX6_shown 4 (some .int) 3 D (Ty3 cI cC cB) [.ref o, .int (x), .int (v), .int (y)] [(o, .inr (6, [.ref xt, .ref xg, .ref xu, .ref xk, .ref b, .ref xd, .ref xe, .ref a, .ref xf])), gO xg gq zms, (gq 0, .inl (cI, 8, .inl (fun z_ => nI (gw z_)))), (gq 1, .inl (cI, 8, .inl (fun z_ => nI (gn z_)))), (gq 2, .inl (cI, 8, .inl (fun z_ => nI (gt z_)))), pO a pq (bx 0) (bx 2) (bx 1) (szN bx (bx 0)) (bx 3) (bx 4), (pq 0, .inl (cI, 4, .inl (fun z_ => nI (te z_)))), (pq 1, .inl (cI, 4, .inl (fun z_ => nI (ps z_)))), (pq 2, .inl (cI, 4, .inl (fun z_ => nI (pu z_)))), (pq 3, .inl (cI, 4, .inl (fun z_ => nI (sd z_)))), (pq 4, .inl (cI, 8, .inl (fun z_ => nI (cj z_)))), (pq 5, .inl (cI, 5, .inl (fun z_ => nI (ta z_))))] (fun r u => ((shOk bx zms x v y = false) ∧ r = shA bx zms x v y ∧ u = [(o, .inr (6, [.ref xt, .ref xg, .ref xu, .ref xk, .ref b, .ref xd, .ref xe, .ref a, .ref xf])), gO xg gq zms, (gq 0, .inl (cI, 8, .inl (fun z_ => nI (gw z_)))), (gq 1, .inl (cI, 8, .inl (fun z_ => nI (gn z_)))), (gq 2, .inl (cI, 8, .inl (fun z_ => nI (gt z_)))), pO a pq (bx 0) (bx 2) (bx 1) (szN bx (bx 0)) (bx 3) (bx 4), (pq 0, .inl (cI, 4, .inl (fun z_ => nI (te z_)))), (pq 1, .inl (cI, 4, .inl (fun z_ => nI (ps z_)))), (pq 2, .inl (cI, 4, .inl (fun z_ => nI (pu z_)))), (pq 3, .inl (cI, 4, .inl (fun z_ => nI (sd z_)))), (pq 4, .inl (cI, 8, .inl (fun z_ => nI (cj z_)))), (pq 5, .inl (cI, 5, .inl (fun z_ => nI (ta z_))))]) ∨ ((shOk bx zms x v y = true) ∧ r = shA bx zms x v y ∧ u = [(o, .inr (6, [.ref xt, .ref xg, .ref xu, .ref xk, .ref b, .ref xd, .ref xe, .ref a, .ref xf])), gO xg gq (zms + 1), (gq 0, .inl (cI, 8, .inl (fun z_ => nI ((up1 gw zms (ix x)) z_)))), (gq 1, .inl (cI, 8, .inl (fun z_ => nI ((up1 gn zms (ix v)) z_)))), (gq 2, .inl (cI, 8, .inl (fun z_ => nI ((up1 gt zms (ix y)) z_)))), pO a pq (bx 0) (bx 2) (bx 1) (szN bx (bx 0)) (bx 3) (bx 4), (pq 0, .inl (cI, 4, .inl (fun z_ => nI (te z_)))), (pq 1, .inl (cI, 4, .inl (fun z_ => nI (ps z_)))), (pq 2, .inl (cI, 4, .inl (fun z_ => nI (pu z_)))), (pq 3, .inl (cI, 4, .inl (fun z_ => nI (sd z_)))), (pq 4, .inl (cI, 8, .inl (fun z_ => nI (cj z_)))), (pq 5, .inl (cI, 5, .inl (fun z_ => nI (ta z_))))])) := by
  intro sz
  refine MI.walk (by decide +kernel) (Nat.le_of_ble_eq_true rfl) ?_
  intro p e s m args below meth c A Qf hx hb hml hts hown hret hK hP hD hS hA ls hl
  have hown : s.vm.findClass RX6 = some m.cls := hown
  have hl : lv_has ls 4 [(0, .ref o), (1, .int (x)), (2, .int (v)), (3, .int (y))] := hl
  have hP : va_P D vwCl [(o, .inr (6, [.ref xt, .ref xg, .ref xu, .ref xk, .ref b, .ref xd, .ref xe, .ref a, .ref xf])), gO xg gq zms, (gq 0, .inl (cI, 8, .inl (fun z_ => nI (gw z_)))), (gq 1, .inl (cI, 8, .inl (fun z_ => nI (gn z_)))), (gq 2, .inl (cI, 8, .inl (fun z_ => nI (gt z_)))), pO a pq (bx 0) (bx 2) (bx 1) (szN bx (bx 0)) (bx 3) (bx 4), (pq 0, .inl (cI, 4, .inl (fun z_ => nI (te z_)))), (pq 1, .inl (cI, 4, .inl (fun z_ => nI (ps z_)))), (pq 2, .inl (cI, 4, .inl (fun z_ => nI (pu z_)))), (pq 3, .inl (cI, 4, .inl (fun z_ => nI (sd z_)))), (pq 4, .inl (cI, 8, .inl (fun z_ => nI (cj z_)))), (pq 5, .inl (cI, 5, .inl (fun z_ => nI (ta z_))))] s.heap := hP
  have hD : va_D A [(o, .inr (6, [.ref xt, .ref xg, .ref xu, .ref xk, .ref b, .ref xd, .ref xe, .ref a, .ref xf])), gO xg gq zms, (gq 0, .inl (cI, 8, .inl (fun z_ => nI (gw z_)))), (gq 1, .inl (cI, 8, .inl (fun z_ => nI (gn z_)))), (gq 2, .inl (cI, 8, .inl (fun z_ => nI (gt z_)))), pO a pq (bx 0) (bx 2) (bx 1) (szN bx (bx 0)) (bx 3) (bx 4), (pq 0, .inl (cI, 4, .inl (fun z_ => nI (te z_)))), (pq 1, .inl (cI, 4, .inl (fun z_ => nI (ps z_)))), (pq 2, .inl (cI, 4, .inl (fun z_ => nI (pu z_)))), (pq 3, .inl (cI, 4, .inl (fun z_ => nI (sd z_)))), (pq 4, .inl (cI, 8, .inl (fun z_ => nI (cj z_)))), (pq 5, .inl (cI, 5, .inl (fun z_ => nI (ta z_))))] := hD
  refine lv_aload_n hx hb dX6_shown_0 rfl (lv_at hl 0 rfl) ?_
  refine lv_iload_n hx hb dX6_shown_1 rfl (lv_at hl 1 rfl) ?_
  refine cl_6_101 (As := [.int (x)]) (rest := []) hx hb hml hts hown (k_X6_isWheel (by first | assumption | omega)) (by decide) ⟨Nat.zero_le _, Nat.zero_le _⟩ hK hP hD hS hA 0 rfl [0, 5, 6, 7, 8, 9, 10, 11] rfl (by decide) rfl hl.1 rfl (Nat.le_of_ble_eq_true rfl) dX6_shown_2 (fun r_1 u H locs hp_2 hP hD hS => ?_)
  obtain ⟨rfl, rfl⟩ := hp_2
  have hP : va_P D vwCl [(o, .inr (6, [.ref xt, .ref xg, .ref xu, .ref xk, .ref b, .ref xd, .ref xe, .ref a, .ref xf])), gO xg gq zms, (gq 0, .inl (cI, 8, .inl (fun z_ => nI (gw z_)))), (gq 1, .inl (cI, 8, .inl (fun z_ => nI (gn z_)))), (gq 2, .inl (cI, 8, .inl (fun z_ => nI (gt z_)))), pO a pq (bx 0) (bx 2) (bx 1) (szN bx (bx 0)) (bx 3) (bx 4), (pq 0, .inl (cI, 4, .inl (fun z_ => nI (te z_)))), (pq 1, .inl (cI, 4, .inl (fun z_ => nI (ps z_)))), (pq 2, .inl (cI, 4, .inl (fun z_ => nI (pu z_)))), (pq 3, .inl (cI, 4, .inl (fun z_ => nI (sd z_)))), (pq 4, .inl (cI, 8, .inl (fun z_ => nI (cj z_)))), (pq 5, .inl (cI, 5, .inl (fun z_ => nI (ta z_))))] _ := hP
  have hD : va_D A [(o, .inr (6, [.ref xt, .ref xg, .ref xu, .ref xk, .ref b, .ref xd, .ref xe, .ref a, .ref xf])), gO xg gq zms, (gq 0, .inl (cI, 8, .inl (fun z_ => nI (gw z_)))), (gq 1, .inl (cI, 8, .inl (fun z_ => nI (gn z_)))), (gq 2, .inl (cI, 8, .inl (fun z_ => nI (gt z_)))), pO a pq (bx 0) (bx 2) (bx 1) (szN bx (bx 0)) (bx 3) (bx 4), (pq 0, .inl (cI, 4, .inl (fun z_ => nI (te z_)))), (pq 1, .inl (cI, 4, .inl (fun z_ => nI (ps z_)))), (pq 2, .inl (cI, 4, .inl (fun z_ => nI (pu z_)))), (pq 3, .inl (cI, 4, .inl (fun z_ => nI (sd z_)))), (pq 4, .inl (cI, 8, .inl (fun z_ => nI (cj z_)))), (pq 5, .inl (cI, 5, .inl (fun z_ => nI (ta z_))))] := hD
  refine n_ifb_eq (tgt := 27) hx hb dX6_shown_5 (by decide) (fun c_3 => ?_) (fun c_3 => ?_)
  · -- 5 to 27
    refine lv_iconst (v := (-1)) hx hb dX6_shown_27 (by decide) ?_
    refine hret hP hD hS dX6_shown_28 rfl rfl ?_
    exact Or.inl ⟨by simp [shOk, shA, c_3], by simp [shOk, shA, c_3], rfl⟩
  · -- 5 to 8
    obtain ⟨j, hj, rfl⟩ := inN_e (by have := hR.b.bd 0; omega) c_3
    have hij_q : ix (nI j) = j := ix_n (by have := hR.b.bd 0; omega)
    have hicj_q : (nI j).toNatClampNeg = j := ix_n (by have := hR.b.bd 0; omega)
    refine lv_iload_n hx hb dX6_shown_8 rfl (lv_at hl 2 rfl) ?_
    refine lv_if_lt (tgt := 27) hx hb dX6_shown_9 (by decide) (fun c_4 => ?_) (fun c_4 => ?_)
    · -- 9 to 27
      have hv0_q := inR_neg 99 c_4
      refine lv_iconst (v := (-1)) hx hb dX6_shown_27 (by decide) ?_
      refine hret hP hD hS dX6_shown_28 rfl rfl ?_
      exact Or.inl ⟨by simp [shOk, shA, c_3, c_4, hij_q, hicj_q, hv0_q], by simp [shOk, shA, c_3, c_4, hij_q, hicj_q, hv0_q], rfl⟩
    · -- 9 to 12
      refine lv_iload_n hx hb dX6_shown_12 rfl (lv_at hl 2 rfl) ?_
      refine lv_bipush (v := nI 99) hx hb dX6_shown_13 (by decide) ?_
      refine lv_icmp_gt (tgt := 27) hx hb dX6_shown_15 (by decide) (fun c_5 => ?_) (fun c_5 => ?_)
      · -- 15 to 27
        have hv0_q := inR_big (b := 99) (by decide) c_5
        refine lv_iconst (v := (-1)) hx hb dX6_shown_27 (by decide) ?_
        refine hret hP hD hS dX6_shown_28 rfl rfl ?_
        exact Or.inl ⟨by simp [shOk, shA, c_3, c_4, c_5, hij_q, hicj_q, hv0_q], by simp [shOk, shA, c_3, c_4, c_5, hij_q, hicj_q, hv0_q], rfl⟩
      · -- 15 to 18
        have hvn_q := inR_mid (b := 99) (by decide) (by assumption) c_5
        obtain ⟨n, hl1, hh1, rfl⟩ := inR_e (by omega) hvn_q
        have hin_q : ix (nI n) = n := ix_n (by omega)
        refine lv_aload_n hx hb dX6_shown_18 rfl (lv_at hl 0 rfl) ?_
        refine lv_iload_n hx hb dX6_shown_19 rfl (lv_at hl 1 rfl) ?_
        refine lv_iload_n hx hb dX6_shown_20 rfl (lv_at hl 3 rfl) ?_
        refine cl_6_190 (As := [.int (nI (j)), .int (y)]) (rest := []) hx hb hml hts hown (k_X6_isTooth (by first | assumption | omega) (by first | assumption | omega)) (by decide) ⟨Nat.zero_le _, Nat.zero_le _⟩ hK hP hD hS hA 0 rfl [0, 5, 6, 7, 8, 9, 10, 11] rfl (by decide) rfl hl.1 rfl (Nat.le_of_ble_eq_true rfl) dX6_shown_21 (fun r_6 u H locs hp_7 hP hD hS => ?_)
        obtain ⟨rfl, rfl⟩ := hp_7
        have hP : va_P D vwCl [(o, .inr (6, [.ref xt, .ref xg, .ref xu, .ref xk, .ref b, .ref xd, .ref xe, .ref a, .ref xf])), gO xg gq zms, (gq 0, .inl (cI, 8, .inl (fun z_ => nI (gw z_)))), (gq 1, .inl (cI, 8, .inl (fun z_ => nI (gn z_)))), (gq 2, .inl (cI, 8, .inl (fun z_ => nI (gt z_)))), pO a pq (bx 0) (bx 2) (bx 1) (szN bx (bx 0)) (bx 3) (bx 4), (pq 0, .inl (cI, 4, .inl (fun z_ => nI (te z_)))), (pq 1, .inl (cI, 4, .inl (fun z_ => nI (ps z_)))), (pq 2, .inl (cI, 4, .inl (fun z_ => nI (pu z_)))), (pq 3, .inl (cI, 4, .inl (fun z_ => nI (sd z_)))), (pq 4, .inl (cI, 8, .inl (fun z_ => nI (cj z_)))), (pq 5, .inl (cI, 5, .inl (fun z_ => nI (ta z_))))] _ := hP
        have hD : va_D A [(o, .inr (6, [.ref xt, .ref xg, .ref xu, .ref xk, .ref b, .ref xd, .ref xe, .ref a, .ref xf])), gO xg gq zms, (gq 0, .inl (cI, 8, .inl (fun z_ => nI (gw z_)))), (gq 1, .inl (cI, 8, .inl (fun z_ => nI (gn z_)))), (gq 2, .inl (cI, 8, .inl (fun z_ => nI (gt z_)))), pO a pq (bx 0) (bx 2) (bx 1) (szN bx (bx 0)) (bx 3) (bx 4), (pq 0, .inl (cI, 4, .inl (fun z_ => nI (te z_)))), (pq 1, .inl (cI, 4, .inl (fun z_ => nI (ps z_)))), (pq 2, .inl (cI, 4, .inl (fun z_ => nI (pu z_)))), (pq 3, .inl (cI, 4, .inl (fun z_ => nI (sd z_)))), (pq 4, .inl (cI, 8, .inl (fun z_ => nI (cj z_)))), (pq 5, .inl (cI, 5, .inl (fun z_ => nI (ta z_))))] := hD
        refine n_ifb_ne (tgt := 29) hx hb dX6_shown_24 (by decide) (fun c_8 => ?_) (fun c_8 => ?_)
        · -- 24 to 29
          obtain ⟨k, hk, rfl⟩ := inN_e (by have := hR.b.bd (5 + j); omega) c_8
          have hik_q : ix (nI k) = k := ix_n (by have := hR.b.bd (5 + j); omega)
          have hick_q : (nI k).toNatClampNeg = k := ix_n (by have := hR.b.bd (5 + j); omega)
          refine lv_aload_n hx hb dX6_shown_29 rfl (lv_at hl 0 rfl) ?_
          refine gf_6_19 hx hb hts hown hK hP 0 rfl rfl dX6_shown_30 ?_
          refine lv_iload_n hx hb dX6_shown_33 rfl (lv_at hl 1 rfl) ?_
          refine lv_iload_n hx hb dX6_shown_34 rfl (lv_at hl 2 rfl) ?_
          refine lv_iload_n hx hb dX6_shown_35 rfl (lv_at hl 3 rfl) ?_
          have hz8_q := hG.z
          refine cl_6_240 (As := [.int (nI (j)), .int (nI (n)), .int (nI (k))]) (rest := []) hx hb hml hts hown (k_X4_add (sh := sh) hz8_q) (by decide) ⟨Nat.zero_le _, Nat.zero_le _⟩ hK hP hD hS hA 1 rfl [1, 2, 3, 4] rfl (by decide) rfl hl.1 rfl (Nat.le_of_ble_eq_true rfl) dX6_shown_36 (fun r_9 u H locs hp_10 hP hD hS => ?_)
          rcases hp_10 with ⟨hq_11, rfl, rfl⟩ | ⟨hq_12, rfl, rfl⟩
          · -- case 0 of k_X4_add
            have hP : va_P D vwCl [(o, .inr (6, [.ref xt, .ref xg, .ref xu, .ref xk, .ref b, .ref xd, .ref xe, .ref a, .ref xf])), gO xg gq zms, (gq 0, .inl (cI, 8, .inl (fun z_ => nI (gw z_)))), (gq 1, .inl (cI, 8, .inl (fun z_ => nI (gn z_)))), (gq 2, .inl (cI, 8, .inl (fun z_ => nI (gt z_)))), pO a pq (bx 0) (bx 2) (bx 1) (szN bx (bx 0)) (bx 3) (bx 4), (pq 0, .inl (cI, 4, .inl (fun z_ => nI (te z_)))), (pq 1, .inl (cI, 4, .inl (fun z_ => nI (ps z_)))), (pq 2, .inl (cI, 4, .inl (fun z_ => nI (pu z_)))), (pq 3, .inl (cI, 4, .inl (fun z_ => nI (sd z_)))), (pq 4, .inl (cI, 8, .inl (fun z_ => nI (cj z_)))), (pq 5, .inl (cI, 5, .inl (fun z_ => nI (ta z_))))] _ := hP
            have hD : va_D A [(o, .inr (6, [.ref xt, .ref xg, .ref xu, .ref xk, .ref b, .ref xd, .ref xe, .ref a, .ref xf])), gO xg gq zms, (gq 0, .inl (cI, 8, .inl (fun z_ => nI (gw z_)))), (gq 1, .inl (cI, 8, .inl (fun z_ => nI (gn z_)))), (gq 2, .inl (cI, 8, .inl (fun z_ => nI (gt z_)))), pO a pq (bx 0) (bx 2) (bx 1) (szN bx (bx 0)) (bx 3) (bx 4), (pq 0, .inl (cI, 4, .inl (fun z_ => nI (te z_)))), (pq 1, .inl (cI, 4, .inl (fun z_ => nI (ps z_)))), (pq 2, .inl (cI, 4, .inl (fun z_ => nI (pu z_)))), (pq 3, .inl (cI, 4, .inl (fun z_ => nI (sd z_)))), (pq 4, .inl (cI, 8, .inl (fun z_ => nI (cj z_)))), (pq 5, .inl (cI, 5, .inl (fun z_ => nI (ta z_))))] := hD
            refine n_if_eq (tgt := 52) hx hb dX6_shown_39 (by decide) (by decide) (fun c_13 => ?_) (fun c_13 => ?_)
            · -- 39 to 52
              refine lv_bipush (v := (-3)) hx hb dX6_shown_52 (by decide) ?_
              refine hret hP hD hS dX6_shown_54 rfl rfl ?_
              exact Or.inl ⟨by simp [shOk, shA, c_3, c_4, c_5, c_8, hq_11, c_13, hij_q, hicj_q, hvn_q, hin_q, hik_q, hick_q], by simp [shOk, shA, c_3, c_4, c_5, c_8, hq_11, c_13, hij_q, hicj_q, hvn_q, hin_q, hik_q, hick_q], rfl⟩
            · omega
          · -- case 1 of k_X4_add
            have hP : va_P D vwCl [(o, .inr (6, [.ref xt, .ref xg, .ref xu, .ref xk, .ref b, .ref xd, .ref xe, .ref a, .ref xf])), gO xg gq (zms + 1), (gq 0, .inl (cI, 8, .inl (fun z_ => nI ((up1 gw zms j) z_)))), (gq 1, .inl (cI, 8, .inl (fun z_ => nI ((up1 gn zms n) z_)))), (gq 2, .inl (cI, 8, .inl (fun z_ => nI ((up1 gt zms k) z_)))), pO a pq (bx 0) (bx 2) (bx 1) (szN bx (bx 0)) (bx 3) (bx 4), (pq 0, .inl (cI, 4, .inl (fun z_ => nI (te z_)))), (pq 1, .inl (cI, 4, .inl (fun z_ => nI (ps z_)))), (pq 2, .inl (cI, 4, .inl (fun z_ => nI (pu z_)))), (pq 3, .inl (cI, 4, .inl (fun z_ => nI (sd z_)))), (pq 4, .inl (cI, 8, .inl (fun z_ => nI (cj z_)))), (pq 5, .inl (cI, 5, .inl (fun z_ => nI (ta z_))))] _ := hP
            have hD : va_D A [(o, .inr (6, [.ref xt, .ref xg, .ref xu, .ref xk, .ref b, .ref xd, .ref xe, .ref a, .ref xf])), gO xg gq (zms + 1), (gq 0, .inl (cI, 8, .inl (fun z_ => nI ((up1 gw zms j) z_)))), (gq 1, .inl (cI, 8, .inl (fun z_ => nI ((up1 gn zms n) z_)))), (gq 2, .inl (cI, 8, .inl (fun z_ => nI ((up1 gt zms k) z_)))), pO a pq (bx 0) (bx 2) (bx 1) (szN bx (bx 0)) (bx 3) (bx 4), (pq 0, .inl (cI, 4, .inl (fun z_ => nI (te z_)))), (pq 1, .inl (cI, 4, .inl (fun z_ => nI (ps z_)))), (pq 2, .inl (cI, 4, .inl (fun z_ => nI (pu z_)))), (pq 3, .inl (cI, 4, .inl (fun z_ => nI (sd z_)))), (pq 4, .inl (cI, 8, .inl (fun z_ => nI (cj z_)))), (pq 5, .inl (cI, 5, .inl (fun z_ => nI (ta z_))))] := hD
            refine n_if_eq (tgt := 52) hx hb dX6_shown_39 (by decide) (by decide) (fun c_14 => ?_) (fun c_14 => ?_)
            · omega
            · -- 39 to 42
              refine lv_aload_n hx hb dX6_shown_42 rfl (lv_at hl 0 rfl) ?_
              refine gf_6_19 hx hb hts hown hK hP 0 rfl rfl dX6_shown_43 ?_
              refine gf_6_95 hx hb hts hown hK hP 1 rfl rfl dX6_shown_46 ?_
              refine lv_goto (tgt := 54) hx hb dX6_shown_49 (by decide) ?_
              refine hret hP hD hS dX6_shown_54 rfl rfl ?_
              exact Or.inr ⟨by simp [shOk, shA, Nat.ne_of_lt, c_3, c_4, c_5, c_8, hq_12, c_14, hij_q, hicj_q, hvn_q, hin_q, hik_q, hick_q], by simp [shOk, shA, Nat.ne_of_lt, c_3, c_4, c_5, c_8, hq_12, c_14, hij_q, hicj_q, hvn_q, hin_q, hik_q, hick_q], by rw [hij_q, hik_q, hin_q]⟩
        · -- 24 to 27
          refine lv_iconst (v := (-1)) hx hb dX6_shown_27 (by decide) ?_
          refine hret hP hD hS dX6_shown_28 rfl rfl ?_
          exact Or.inl ⟨by simp [shOk, shA, c_3, c_4, c_5, c_8, hij_q, hicj_q, hvn_q, hin_q], by simp [shOk, shA, c_3, c_4, c_5, c_8, hij_q, hicj_q, hvn_q, hin_q], rfl⟩
set_option maxHeartbeats 4000000 in
set_option maxRecDepth 100000 in
theorem k_X6_ask {l : Launch} {D : va_G} {cI cC cB : ClassId} {o xt xg xu xk xd xe xf : Nat} {b : Nat} {a : Nat} {pq : Nat → Nat} {bx te ps pu sd cj ta : Nat → Nat} {zms : Nat} {gq : Nat → Nat} {gw gn gt sh : Nat → Nat} {x y : Int32} (hR : PlR bx te ps pu sd cj ta) (hG : SgR bx sh gw gn gt zms) : MI l yX6_ask cX6_ask 8 (some .int) 4 D (Ty3 cI cC cB) [.ref o, .int (x), .int (y)] [(o, .inr (6, [.ref xt, .ref xg, .ref xu, .ref xk, .ref b, .ref xd, .ref xe, .ref a, .ref xf])), gO xg gq zms, (gq 0, .inl (cI, 8, .inl (fun z_ => nI (gw z_)))), (gq 1, .inl (cI, 8, .inl (fun z_ => nI (gn z_)))), (gq 2, .inl (cI, 8, .inl (fun z_ => nI (gt z_)))), pO a pq (bx 0) (bx 2) (bx 1) (szN bx (bx 0)) (bx 3) (bx 4), (pq 0, .inl (cI, 4, .inl (fun z_ => nI (te z_)))), (pq 1, .inl (cI, 4, .inl (fun z_ => nI (ps z_)))), (pq 2, .inl (cI, 4, .inl (fun z_ => nI (pu z_)))), (pq 3, .inl (cI, 4, .inl (fun z_ => nI (sd z_)))), (pq 4, .inl (cI, 8, .inl (fun z_ => nI (cj z_)))), (pq 5, .inl (cI, 5, .inl (fun z_ => nI (ta z_))))] (fun r u => (r = asA bx sh zms x y ∧ u = [(o, .inr (6, [.ref xt, .ref xg, .ref xu, .ref xk, .ref b, .ref xd, .ref xe, .ref a, .ref xf])), gO xg gq zms, (gq 0, .inl (cI, 8, .inl (fun z_ => nI (gw z_)))), (gq 1, .inl (cI, 8, .inl (fun z_ => nI (gn z_)))), (gq 2, .inl (cI, 8, .inl (fun z_ => nI (gt z_)))), pO a pq (bx 0) (bx 2) (bx 1) (szN bx (bx 0)) (bx 3) (bx 4), (pq 0, .inl (cI, 4, .inl (fun z_ => nI (te z_)))), (pq 1, .inl (cI, 4, .inl (fun z_ => nI (ps z_)))), (pq 2, .inl (cI, 4, .inl (fun z_ => nI (pu z_)))), (pq 3, .inl (cI, 4, .inl (fun z_ => nI (sd z_)))), (pq 4, .inl (cI, 8, .inl (fun z_ => nI (cj z_)))), (pq 5, .inl (cI, 5, .inl (fun z_ => nI (ta z_))))])) := by
  intro sz
  refine MI.walk (by decide +kernel) (Nat.le_of_ble_eq_true rfl) ?_
  intro p e s m args below meth c A Qf hx hb hml hts hown hret hK hP hD hS hA ls hl
  have hown : s.vm.findClass RX6 = some m.cls := hown
  have hl : lv_has ls 8 [(0, .ref o), (1, .int (x)), (2, .int (y))] := hl
  have hP : va_P D vwCl [(o, .inr (6, [.ref xt, .ref xg, .ref xu, .ref xk, .ref b, .ref xd, .ref xe, .ref a, .ref xf])), gO xg gq zms, (gq 0, .inl (cI, 8, .inl (fun z_ => nI (gw z_)))), (gq 1, .inl (cI, 8, .inl (fun z_ => nI (gn z_)))), (gq 2, .inl (cI, 8, .inl (fun z_ => nI (gt z_)))), pO a pq (bx 0) (bx 2) (bx 1) (szN bx (bx 0)) (bx 3) (bx 4), (pq 0, .inl (cI, 4, .inl (fun z_ => nI (te z_)))), (pq 1, .inl (cI, 4, .inl (fun z_ => nI (ps z_)))), (pq 2, .inl (cI, 4, .inl (fun z_ => nI (pu z_)))), (pq 3, .inl (cI, 4, .inl (fun z_ => nI (sd z_)))), (pq 4, .inl (cI, 8, .inl (fun z_ => nI (cj z_)))), (pq 5, .inl (cI, 5, .inl (fun z_ => nI (ta z_))))] s.heap := hP
  have hD : va_D A [(o, .inr (6, [.ref xt, .ref xg, .ref xu, .ref xk, .ref b, .ref xd, .ref xe, .ref a, .ref xf])), gO xg gq zms, (gq 0, .inl (cI, 8, .inl (fun z_ => nI (gw z_)))), (gq 1, .inl (cI, 8, .inl (fun z_ => nI (gn z_)))), (gq 2, .inl (cI, 8, .inl (fun z_ => nI (gt z_)))), pO a pq (bx 0) (bx 2) (bx 1) (szN bx (bx 0)) (bx 3) (bx 4), (pq 0, .inl (cI, 4, .inl (fun z_ => nI (te z_)))), (pq 1, .inl (cI, 4, .inl (fun z_ => nI (ps z_)))), (pq 2, .inl (cI, 4, .inl (fun z_ => nI (pu z_)))), (pq 3, .inl (cI, 4, .inl (fun z_ => nI (sd z_)))), (pq 4, .inl (cI, 8, .inl (fun z_ => nI (cj z_)))), (pq 5, .inl (cI, 5, .inl (fun z_ => nI (ta z_))))] := hD
  refine lv_aload_n hx hb dX6_ask_0 rfl (lv_at hl 0 rfl) ?_
  refine lv_iload_n hx hb dX6_ask_1 rfl (lv_at hl 1 rfl) ?_
  refine cl_6_101 (As := [.int (x)]) (rest := []) hx hb hml hts hown (k_X6_isWheel (by first | assumption | omega)) (by decide) ⟨Nat.zero_le _, Nat.zero_le _⟩ hK hP hD hS hA 0 rfl [0, 5, 6, 7, 8, 9, 10, 11] rfl (by decide) rfl hl.1 rfl (Nat.le_of_ble_eq_true rfl) dX6_ask_2 (fun r_1 u H locs hp_2 hP hD hS => ?_)
  obtain ⟨rfl, rfl⟩ := hp_2
  have hP : va_P D vwCl [(o, .inr (6, [.ref xt, .ref xg, .ref xu, .ref xk, .ref b, .ref xd, .ref xe, .ref a, .ref xf])), gO xg gq zms, (gq 0, .inl (cI, 8, .inl (fun z_ => nI (gw z_)))), (gq 1, .inl (cI, 8, .inl (fun z_ => nI (gn z_)))), (gq 2, .inl (cI, 8, .inl (fun z_ => nI (gt z_)))), pO a pq (bx 0) (bx 2) (bx 1) (szN bx (bx 0)) (bx 3) (bx 4), (pq 0, .inl (cI, 4, .inl (fun z_ => nI (te z_)))), (pq 1, .inl (cI, 4, .inl (fun z_ => nI (ps z_)))), (pq 2, .inl (cI, 4, .inl (fun z_ => nI (pu z_)))), (pq 3, .inl (cI, 4, .inl (fun z_ => nI (sd z_)))), (pq 4, .inl (cI, 8, .inl (fun z_ => nI (cj z_)))), (pq 5, .inl (cI, 5, .inl (fun z_ => nI (ta z_))))] _ := hP
  have hD : va_D A [(o, .inr (6, [.ref xt, .ref xg, .ref xu, .ref xk, .ref b, .ref xd, .ref xe, .ref a, .ref xf])), gO xg gq zms, (gq 0, .inl (cI, 8, .inl (fun z_ => nI (gw z_)))), (gq 1, .inl (cI, 8, .inl (fun z_ => nI (gn z_)))), (gq 2, .inl (cI, 8, .inl (fun z_ => nI (gt z_)))), pO a pq (bx 0) (bx 2) (bx 1) (szN bx (bx 0)) (bx 3) (bx 4), (pq 0, .inl (cI, 4, .inl (fun z_ => nI (te z_)))), (pq 1, .inl (cI, 4, .inl (fun z_ => nI (ps z_)))), (pq 2, .inl (cI, 4, .inl (fun z_ => nI (pu z_)))), (pq 3, .inl (cI, 4, .inl (fun z_ => nI (sd z_)))), (pq 4, .inl (cI, 8, .inl (fun z_ => nI (cj z_)))), (pq 5, .inl (cI, 5, .inl (fun z_ => nI (ta z_))))] := hD
  refine n_ifb_eq (tgt := 15) hx hb dX6_ask_5 (by decide) (fun c_3 => ?_) (fun c_3 => ?_)
  · -- 5 to 15
    refine lv_iconst (v := (-1)) hx hb dX6_ask_15 (by decide) ?_
    refine hret hP hD hS dX6_ask_16 rfl rfl ?_
    exact ⟨by simp [asA, c_3], rfl⟩
  · -- 5 to 8
    obtain ⟨j, hj, rfl⟩ := inN_e (by have := hR.b.bd 0; omega) c_3
    have hij_q : ix (nI j) = j := ix_n (by have := hR.b.bd 0; omega)
    have hicj_q : (nI j).toNatClampNeg = j := ix_n (by have := hR.b.bd 0; omega)
    refine lv_iload_n hx hb dX6_ask_8 rfl (lv_at hl 2 rfl) ?_
    refine cl_6_206 (As := [.int (y)]) (rest := []) hx hb hml hts hown (k_X6_isPart ) (by decide) ⟨Nat.zero_le _, Nat.zero_le _⟩ hK hP hD hS hA [] rfl (by decide) rfl hl.1 rfl (Nat.le_of_ble_eq_true rfl) dX6_ask_9 (fun r_4 u H locs hp_5 hP hD hS => ?_)
    obtain ⟨rfl, rfl⟩ := hp_5
    have hP : va_P D vwCl [(o, .inr (6, [.ref xt, .ref xg, .ref xu, .ref xk, .ref b, .ref xd, .ref xe, .ref a, .ref xf])), gO xg gq zms, (gq 0, .inl (cI, 8, .inl (fun z_ => nI (gw z_)))), (gq 1, .inl (cI, 8, .inl (fun z_ => nI (gn z_)))), (gq 2, .inl (cI, 8, .inl (fun z_ => nI (gt z_)))), pO a pq (bx 0) (bx 2) (bx 1) (szN bx (bx 0)) (bx 3) (bx 4), (pq 0, .inl (cI, 4, .inl (fun z_ => nI (te z_)))), (pq 1, .inl (cI, 4, .inl (fun z_ => nI (ps z_)))), (pq 2, .inl (cI, 4, .inl (fun z_ => nI (pu z_)))), (pq 3, .inl (cI, 4, .inl (fun z_ => nI (sd z_)))), (pq 4, .inl (cI, 8, .inl (fun z_ => nI (cj z_)))), (pq 5, .inl (cI, 5, .inl (fun z_ => nI (ta z_))))] _ := hP
    have hD : va_D A [(o, .inr (6, [.ref xt, .ref xg, .ref xu, .ref xk, .ref b, .ref xd, .ref xe, .ref a, .ref xf])), gO xg gq zms, (gq 0, .inl (cI, 8, .inl (fun z_ => nI (gw z_)))), (gq 1, .inl (cI, 8, .inl (fun z_ => nI (gn z_)))), (gq 2, .inl (cI, 8, .inl (fun z_ => nI (gt z_)))), pO a pq (bx 0) (bx 2) (bx 1) (szN bx (bx 0)) (bx 3) (bx 4), (pq 0, .inl (cI, 4, .inl (fun z_ => nI (te z_)))), (pq 1, .inl (cI, 4, .inl (fun z_ => nI (ps z_)))), (pq 2, .inl (cI, 4, .inl (fun z_ => nI (pu z_)))), (pq 3, .inl (cI, 4, .inl (fun z_ => nI (sd z_)))), (pq 4, .inl (cI, 8, .inl (fun z_ => nI (cj z_)))), (pq 5, .inl (cI, 5, .inl (fun z_ => nI (ta z_))))] := hD
    refine n_ifb_ne (tgt := 17) hx hb dX6_ask_12 (by decide) (fun c_6 => ?_) (fun c_6 => ?_)
    · -- 12 to 17
      have hvk_q := c_6
      obtain ⟨k, hl2, hh2, rfl⟩ := inR_e (by omega) hvk_q
      have hik_q : ix (nI k) = k := ix_n (by omega)
      refine lv_aload_n hx hb dX6_ask_17 rfl (lv_at hl 0 rfl) ?_
      refine gf_6_19 hx hb hts hown hK hP 0 rfl rfl dX6_ask_18 ?_
      refine lv_aload_n hx hb dX6_ask_21 rfl (lv_at hl 0 rfl) ?_
      refine gf_6_55 hx hb hts hown hK hP 0 rfl rfl dX6_ask_22 ?_
      refine lv_iload_n hx hb dX6_ask_25 rfl (lv_at hl 1 rfl) ?_
      refine cl_6_243 (As := [.ref a, .int (nI (j))]) (rest := []) hx hb hml hts hown (k_X4_stepsOf (by first | assumption | omega) (by first | assumption | omega) (by first | assumption | omega)) (by decide) ⟨Nat.zero_le _, Nat.zero_le _⟩ hK hP hD hS hA 1 rfl [1, 2, 3, 4, 5, 6, 7, 8, 9, 10, 11] rfl (by decide) rfl hl.1 rfl (Nat.le_of_ble_eq_true rfl) dX6_ask_26 (fun r_7 u H locs hp_8 hP hD hS => ?_)
      obtain ⟨rfl, rfl⟩ := hp_8
      have hP : va_P D vwCl [(o, .inr (6, [.ref xt, .ref xg, .ref xu, .ref xk, .ref b, .ref xd, .ref xe, .ref a, .ref xf])), gO xg gq zms, (gq 0, .inl (cI, 8, .inl (fun z_ => nI (gw z_)))), (gq 1, .inl (cI, 8, .inl (fun z_ => nI (gn z_)))), (gq 2, .inl (cI, 8, .inl (fun z_ => nI (gt z_)))), pO a pq (bx 0) (bx 2) (bx 1) (szN bx (bx 0)) (bx 3) (bx 4), (pq 0, .inl (cI, 4, .inl (fun z_ => nI (te z_)))), (pq 1, .inl (cI, 4, .inl (fun z_ => nI (ps z_)))), (pq 2, .inl (cI, 4, .inl (fun z_ => nI (pu z_)))), (pq 3, .inl (cI, 4, .inl (fun z_ => nI (sd z_)))), (pq 4, .inl (cI, 8, .inl (fun z_ => nI (cj z_)))), (pq 5, .inl (cI, 5, .inl (fun z_ => nI (ta z_))))] _ := hP
      have hD : va_D A [(o, .inr (6, [.ref xt, .ref xg, .ref xu, .ref xk, .ref b, .ref xd, .ref xe, .ref a, .ref xf])), gO xg gq zms, (gq 0, .inl (cI, 8, .inl (fun z_ => nI (gw z_)))), (gq 1, .inl (cI, 8, .inl (fun z_ => nI (gn z_)))), (gq 2, .inl (cI, 8, .inl (fun z_ => nI (gt z_)))), pO a pq (bx 0) (bx 2) (bx 1) (szN bx (bx 0)) (bx 3) (bx 4), (pq 0, .inl (cI, 4, .inl (fun z_ => nI (te z_)))), (pq 1, .inl (cI, 4, .inl (fun z_ => nI (ps z_)))), (pq 2, .inl (cI, 4, .inl (fun z_ => nI (pu z_)))), (pq 3, .inl (cI, 4, .inl (fun z_ => nI (sd z_)))), (pq 4, .inl (cI, 8, .inl (fun z_ => nI (cj z_)))), (pq 5, .inl (cI, 5, .inl (fun z_ => nI (ta z_))))] := hD
      have hge_q := ge_lt bx sh j zms (bx (5 + j))
      have hw0_q := hR.b.t j hj
      have hgl_q : geN bx sh j zms (bx (5 + j)) < 64 := Nat.lt_of_lt_of_le hge_q (Nat.le_trans (Nat.pow_le_pow_right (by omega) hw0_q.2.1) (by decide))
      refine lv_istore_n (lv' := [(3, .int (nI (geN bx sh j zms (bx (5 + j))))), (0, .ref o), (1, .int (nI (j))), (2, .int (nI (k)))]) hx hb dX6_ask_29 rfl hl (by decide) rfl (fun ls hl => ?_)
      refine lv_iload_n hx hb dX6_ask_30 rfl (lv_at hl 0 rfl) ?_
      refine n_if_ne (tgt := 37) hx hb dX6_ask_31 (by decide) (by omega) (fun c_9 => ?_) (fun c_9 => ?_)
      · -- 31 to 37
        have hg0_q := c_9
        refine lv_iconst (v := nI 1) hx hb dX6_ask_37 (by decide) ?_
        refine lv_istore (lv' := [(4, .int (nI (1))), (3, .int (nI (geN bx sh j zms (bx (5 + j))))), (0, .ref o), (1, .int (nI (j))), (2, .int (nI (k)))]) hx hb dX6_ask_38 hl (by decide) rfl (fun ls hl => ?_)
        refine lv_aload_n hx hb dX6_ask_40 rfl (lv_at hl 2 rfl) ?_
        refine gf_6_19 hx hb hts hown hK hP 0 rfl rfl dX6_ask_41 ?_
        refine lv_aload_n hx hb dX6_ask_44 rfl (lv_at hl 2 rfl) ?_
        refine gf_6_55 hx hb hts hown hK hP 0 rfl rfl dX6_ask_45 ?_
        refine lv_iload_n hx hb dX6_ask_48 rfl (lv_at hl 3 rfl) ?_
        refine lv_iload_n hx hb dX6_ask_49 rfl (lv_at hl 1 rfl) ?_
        refine lv_iconst (v := nI 1) hx hb dX6_ask_50 (by decide) ?_
        refine cl_6_246 (As := [.ref a, .int (nI (j)), .int (nI (geN bx sh j zms (bx (5 + j)))), .int (nI (1))]) (rest := []) hx hb hml hts hown (k_X4_mostAlike (sh := sh) hR hj hgl_q (by omega)) (by decide) ⟨Nat.zero_le _, Nat.zero_le _⟩ hK hP hD hS hA 1 rfl [1, 2, 3, 4, 5, 6, 7, 8, 9, 10, 11] rfl (by decide) rfl hl.1 rfl (Nat.le_of_ble_eq_true rfl) dX6_ask_51 (fun r_10 u H locs hp_11 hP hD hS => ?_)
        obtain ⟨rfl, rfl⟩ := hp_11
        have hP : va_P D vwCl [(o, .inr (6, [.ref xt, .ref xg, .ref xu, .ref xk, .ref b, .ref xd, .ref xe, .ref a, .ref xf])), gO xg gq zms, (gq 0, .inl (cI, 8, .inl (fun z_ => nI (gw z_)))), (gq 1, .inl (cI, 8, .inl (fun z_ => nI (gn z_)))), (gq 2, .inl (cI, 8, .inl (fun z_ => nI (gt z_)))), pO a pq (bx 0) (bx 2) (bx 1) (szN bx (bx 0)) (bx 3) (bx 4), (pq 0, .inl (cI, 4, .inl (fun z_ => nI (te z_)))), (pq 1, .inl (cI, 4, .inl (fun z_ => nI (ps z_)))), (pq 2, .inl (cI, 4, .inl (fun z_ => nI (pu z_)))), (pq 3, .inl (cI, 4, .inl (fun z_ => nI (sd z_)))), (pq 4, .inl (cI, 8, .inl (fun z_ => nI (cj z_)))), (pq 5, .inl (cI, 5, .inl (fun z_ => nI (ta z_))))] _ := hP
        have hD : va_D A [(o, .inr (6, [.ref xt, .ref xg, .ref xu, .ref xk, .ref b, .ref xd, .ref xe, .ref a, .ref xf])), gO xg gq zms, (gq 0, .inl (cI, 8, .inl (fun z_ => nI (gw z_)))), (gq 1, .inl (cI, 8, .inl (fun z_ => nI (gn z_)))), (gq 2, .inl (cI, 8, .inl (fun z_ => nI (gt z_)))), pO a pq (bx 0) (bx 2) (bx 1) (szN bx (bx 0)) (bx 3) (bx 4), (pq 0, .inl (cI, 4, .inl (fun z_ => nI (te z_)))), (pq 1, .inl (cI, 4, .inl (fun z_ => nI (ps z_)))), (pq 2, .inl (cI, 4, .inl (fun z_ => nI (pu z_)))), (pq 3, .inl (cI, 4, .inl (fun z_ => nI (sd z_)))), (pq 4, .inl (cI, 8, .inl (fun z_ => nI (cj z_)))), (pq 5, .inl (cI, 5, .inl (fun z_ => nI (ta z_))))] := hD
        have hw1_q := wo_le bx j (geN bx sh j zms (bx (5 + j))) 1 (bx (5 + j))
        refine lv_istore (lv' := [(5, .int (nI (woN bx j (geN bx sh j zms (bx (5 + j))) 1 (bx (5 + j))))), (4, .int (nI (1))), (3, .int (nI (geN bx sh j zms (bx (5 + j))))), (0, .ref o), (1, .int (nI (j))), (2, .int (nI (k)))]) hx hb dX6_ask_54 hl (by decide) rfl (fun ls hl => ?_)
        refine lv_iconst (v := nI 2) hx hb dX6_ask_56 (by decide) ?_
        refine lv_istore (lv' := [(6, .int (nI (2))), (5, .int (nI (woN bx j (geN bx sh j zms (bx (5 + j))) 1 (bx (5 + j))))), (4, .int (nI (1))), (3, .int (nI (geN bx sh j zms (bx (5 + j))))), (0, .ref o), (1, .int (nI (j))), (2, .int (nI (k)))]) hx hb dX6_ask_57 hl (by decide) rfl (fun ls hl => ?_)
        have loop_59 : ∀ (N : Nat) (u1 : Nat) (v1 : Nat) (n : Nat), (1 ≤ n) → (n ≤ 10) → (u1 ≤ 10) → (v1 ≤ 6) → ((u1, v1) = askN bx j (geN bx sh j zms (bx (5 + j))) (n - 1)) → (10 - n) < N → ∀ (H : Heap) (locs : List Loc), va_P D vwCl [(o, .inr (6, [.ref xt, .ref xg, .ref xu, .ref xk, .ref b, .ref xd, .ref xe, .ref a, .ref xf])), gO xg gq zms, (gq 0, .inl (cI, 8, .inl (fun z_ => nI (gw z_)))), (gq 1, .inl (cI, 8, .inl (fun z_ => nI (gn z_)))), (gq 2, .inl (cI, 8, .inl (fun z_ => nI (gt z_)))), pO a pq (bx 0) (bx 2) (bx 1) (szN bx (bx 0)) (bx 3) (bx 4), (pq 0, .inl (cI, 4, .inl (fun z_ => nI (te z_)))), (pq 1, .inl (cI, 4, .inl (fun z_ => nI (ps z_)))), (pq 2, .inl (cI, 4, .inl (fun z_ => nI (pu z_)))), (pq 3, .inl (cI, 4, .inl (fun z_ => nI (sd z_)))), (pq 4, .inl (cI, 8, .inl (fun z_ => nI (cj z_)))), (pq 5, .inl (cI, 5, .inl (fun z_ => nI (ta z_))))] H → va_D A [(o, .inr (6, [.ref xt, .ref xg, .ref xu, .ref xk, .ref b, .ref xd, .ref xe, .ref a, .ref xf])), gO xg gq zms, (gq 0, .inl (cI, 8, .inl (fun z_ => nI (gw z_)))), (gq 1, .inl (cI, 8, .inl (fun z_ => nI (gn z_)))), (gq 2, .inl (cI, 8, .inl (fun z_ => nI (gt z_)))), pO a pq (bx 0) (bx 2) (bx 1) (szN bx (bx 0)) (bx 3) (bx 4), (pq 0, .inl (cI, 4, .inl (fun z_ => nI (te z_)))), (pq 1, .inl (cI, 4, .inl (fun z_ => nI (ps z_)))), (pq 2, .inl (cI, 4, .inl (fun z_ => nI (pu z_)))), (pq 3, .inl (cI, 4, .inl (fun z_ => nI (sd z_)))), (pq 4, .inl (cI, 8, .inl (fun z_ => nI (cj z_)))), (pq 5, .inl (cI, 5, .inl (fun z_ => nI (ta z_))))] → va_S A s.heap H locs → ∀ ls : Array Slot, lv_has ls 8 [(6, .int (nI (n))), (5, .int (nI (v1))), (4, .int (nI (u1))), (3, .int (nI (geN bx sh j zms (bx (5 + j))))), (0, .ref o), (1, .int (nI (j))), (2, .int (nI (k)))] → W p l e (rmL 4) s m args below meth c H locs 0 0 Qf (F0 m 59 ls []) := by
          intro N; induction N with
          | zero => intro u1 v1 n _ _ _ _ _ hm; omega
          | succ N ih_59 =>
            intro u1 v1 n hn1 hn hu1 hv1 huv hm H locs hP hD hS ls hl
            refine lv_iload hx hb dX6_ask_59 (lv_at hl 0 rfl) ?_
            refine lv_bipush (v := nI 9) hx hb dX6_ask_61 (by decide) ?_
            refine n_icmp_gt (tgt := 104) hx hb dX6_ask_63 (by decide) (by omega) (by decide) (fun c_12 => ?_) (fun c_12 => ?_)
            · -- 63 to 104
              refine lv_iload_n hx hb dX6_ask_104 rfl (lv_at hl 6 rfl) ?_
              refine n_if_ne (tgt := 113) hx hb dX6_ask_105 (by decide) (by omega) (fun c_13 => ?_) (fun c_13 => ?_)
              · -- 105 to 113
                refine lv_iload hx hb dX6_ask_113 (lv_at hl 1 rfl) ?_
                refine hret hP hD hS dX6_ask_115 rfl rfl ?_
                exact ⟨by first | exact as_0 (by assumption) hvk_q hij_q hik_q (by assumption) hg0_q (by rw [show 9 = n - 1 by omega]; exact huv) | exact as_1 (by assumption) hvk_q hij_q hik_q (by assumption) hg0_q (by rw [show 9 = n - 1 by omega]; exact huv), rfl⟩
              · -- 105 to 108
                refine lv_iload hx hb dX6_ask_108 (lv_at hl 2 rfl) ?_
                refine lv_goto (tgt := 115) hx hb dX6_ask_110 (by decide) ?_
                refine hret hP hD hS dX6_ask_115 rfl rfl ?_
                exact ⟨by first | exact as_0 (by assumption) hvk_q hij_q hik_q (by assumption) hg0_q (by rw [show 9 = n - 1 by omega]; exact huv) | exact as_1 (by assumption) hvk_q hij_q hik_q (by assumption) hg0_q (by rw [show 9 = n - 1 by omega]; exact huv), rfl⟩
            · -- 63 to 66
              refine lv_aload_n hx hb dX6_ask_66 rfl (lv_at hl 4 rfl) ?_
              refine gf_6_19 hx hb hts hown hK hP 0 rfl rfl dX6_ask_67 ?_
              refine lv_aload_n hx hb dX6_ask_70 rfl (lv_at hl 4 rfl) ?_
              refine gf_6_55 hx hb hts hown hK hP 0 rfl rfl dX6_ask_71 ?_
              refine lv_iload_n hx hb dX6_ask_74 rfl (lv_at hl 5 rfl) ?_
              refine lv_iload_n hx hb dX6_ask_75 rfl (lv_at hl 3 rfl) ?_
              refine lv_iload hx hb dX6_ask_76 (lv_at hl 0 rfl) ?_
              refine cl_6_246 (As := [.ref a, .int (nI (j)), .int (nI (geN bx sh j zms (bx (5 + j)))), .int (nI (n))]) (rest := []) hx hb hml hts hown (k_X4_mostAlike (sh := sh) hR hj hgl_q (by omega)) (by decide) ⟨Nat.zero_le _, Nat.zero_le _⟩ hK hP hD hS hA 1 rfl [1, 2, 3, 4, 5, 6, 7, 8, 9, 10, 11] rfl (by decide) rfl hl.1 rfl (Nat.le_of_ble_eq_true rfl) dX6_ask_78 (fun r_14 u H locs hp_15 hP hD hS => ?_)
              obtain ⟨rfl, rfl⟩ := hp_15
              have hP : va_P D vwCl [(o, .inr (6, [.ref xt, .ref xg, .ref xu, .ref xk, .ref b, .ref xd, .ref xe, .ref a, .ref xf])), gO xg gq zms, (gq 0, .inl (cI, 8, .inl (fun z_ => nI (gw z_)))), (gq 1, .inl (cI, 8, .inl (fun z_ => nI (gn z_)))), (gq 2, .inl (cI, 8, .inl (fun z_ => nI (gt z_)))), pO a pq (bx 0) (bx 2) (bx 1) (szN bx (bx 0)) (bx 3) (bx 4), (pq 0, .inl (cI, 4, .inl (fun z_ => nI (te z_)))), (pq 1, .inl (cI, 4, .inl (fun z_ => nI (ps z_)))), (pq 2, .inl (cI, 4, .inl (fun z_ => nI (pu z_)))), (pq 3, .inl (cI, 4, .inl (fun z_ => nI (sd z_)))), (pq 4, .inl (cI, 8, .inl (fun z_ => nI (cj z_)))), (pq 5, .inl (cI, 5, .inl (fun z_ => nI (ta z_))))] _ := hP
              have hD : va_D A [(o, .inr (6, [.ref xt, .ref xg, .ref xu, .ref xk, .ref b, .ref xd, .ref xe, .ref a, .ref xf])), gO xg gq zms, (gq 0, .inl (cI, 8, .inl (fun z_ => nI (gw z_)))), (gq 1, .inl (cI, 8, .inl (fun z_ => nI (gn z_)))), (gq 2, .inl (cI, 8, .inl (fun z_ => nI (gt z_)))), pO a pq (bx 0) (bx 2) (bx 1) (szN bx (bx 0)) (bx 3) (bx 4), (pq 0, .inl (cI, 4, .inl (fun z_ => nI (te z_)))), (pq 1, .inl (cI, 4, .inl (fun z_ => nI (ps z_)))), (pq 2, .inl (cI, 4, .inl (fun z_ => nI (pu z_)))), (pq 3, .inl (cI, 4, .inl (fun z_ => nI (sd z_)))), (pq 4, .inl (cI, 8, .inl (fun z_ => nI (cj z_)))), (pq 5, .inl (cI, 5, .inl (fun z_ => nI (ta z_))))] := hD
              refine lv_istore (lv' := [(7, .int (nI (woN bx j (geN bx sh j zms (bx (5 + j))) n (bx (5 + j))))), (6, .int (nI (n))), (5, .int (nI (v1))), (4, .int (nI (u1))), (3, .int (nI (geN bx sh j zms (bx (5 + j))))), (0, .ref o), (1, .int (nI (j))), (2, .int (nI (k)))]) hx hb dX6_ask_81 hl (by decide) rfl (fun ls hl => ?_)
              have hwl_q := wo_le bx j (geN bx sh j zms (bx (5 + j))) n (bx (5 + j))
              refine lv_iload hx hb dX6_ask_83 (lv_at hl 0 rfl) ?_
              refine lv_iload hx hb dX6_ask_85 (lv_at hl 2 rfl) ?_
              refine n_icmp_ge (tgt := 98) hx hb dX6_ask_87 (by decide) (by omega) (by omega) (fun c_16 => ?_) (fun c_16 => ?_)
              · -- 87 to 98
                refine lv_iinc (v := nI (n + 1)) (lv' := [(6, .int (nI (n + 1))), (7, .int (nI (woN bx j (geN bx sh j zms (bx (5 + j))) n (bx (5 + j))))), (5, .int (nI (v1))), (4, .int (nI (u1))), (3, .int (nI (geN bx sh j zms (bx (5 + j))))), (0, .ref o), (1, .int (nI (j))), (2, .int (nI (k)))]) hx hb dX6_ask_98 hl (k := 1) rfl (n_inc _ 1) (by decide) rfl (fun ls hl => ?_)
                refine lv_goto (tgt := 59) hx hb dX6_ask_101 (by decide) ?_
                exact ih_59 u1 v1 (n + 1) (by omega) (by omega) (by omega) (by omega) (by first | exact ask_1 hn1 huv (by assumption) | exact ask_0 hn1 huv (by assumption)) (by omega) _ _ hP hD hS _ (lv_sub hl [0, 2, 3, 4, 5, 6, 7] rfl)
              · -- 87 to 90
                refine lv_iload hx hb dX6_ask_90 (lv_at hl 1 rfl) ?_
                refine lv_istore (lv' := [(4, .int (nI (n))), (7, .int (nI (woN bx j (geN bx sh j zms (bx (5 + j))) n (bx (5 + j))))), (6, .int (nI (n))), (5, .int (nI (v1))), (3, .int (nI (geN bx sh j zms (bx (5 + j))))), (0, .ref o), (1, .int (nI (j))), (2, .int (nI (k)))]) hx hb dX6_ask_92 hl (by decide) rfl (fun ls hl => ?_)
                refine lv_iload hx hb dX6_ask_94 (lv_at hl 1 rfl) ?_
                refine lv_istore (lv' := [(5, .int (nI (woN bx j (geN bx sh j zms (bx (5 + j))) n (bx (5 + j))))), (4, .int (nI (n))), (7, .int (nI (woN bx j (geN bx sh j zms (bx (5 + j))) n (bx (5 + j))))), (6, .int (nI (n))), (3, .int (nI (geN bx sh j zms (bx (5 + j))))), (0, .ref o), (1, .int (nI (j))), (2, .int (nI (k)))]) hx hb dX6_ask_96 hl (by decide) rfl (fun ls hl => ?_)
                refine lv_iinc (v := nI (n + 1)) (lv' := [(6, .int (nI (n + 1))), (5, .int (nI (woN bx j (geN bx sh j zms (bx (5 + j))) n (bx (5 + j))))), (4, .int (nI (n))), (7, .int (nI (woN bx j (geN bx sh j zms (bx (5 + j))) n (bx (5 + j))))), (3, .int (nI (geN bx sh j zms (bx (5 + j))))), (0, .ref o), (1, .int (nI (j))), (2, .int (nI (k)))]) hx hb dX6_ask_98 hl (k := 3) rfl (n_inc _ 1) (by decide) rfl (fun ls hl => ?_)
                refine lv_goto (tgt := 59) hx hb dX6_ask_101 (by decide) ?_
                exact ih_59 n (woN bx j (geN bx sh j zms (bx (5 + j))) n (bx (5 + j))) (n + 1) (by omega) (by omega) (by omega) (by omega) (by first | exact ask_1 hn1 huv (by assumption) | exact ask_0 hn1 huv (by assumption)) (by omega) _ _ hP hD hS _ (lv_sub hl [0, 1, 2, 4, 5, 6, 7] rfl)
        exact loop_59 _ 1 (woN bx j (geN bx sh j zms (bx (5 + j))) 1 (bx (5 + j))) 2 (by omega) (by omega) (by omega) (by omega) (ask_f (by omega)) (Nat.lt_succ_self _) _ _ hP hD hS _ (lv_sub hl [0, 1, 2, 3, 4, 5, 6] rfl)
      · -- 31 to 34
        have hg0_q := c_9
        refine lv_bipush (v := (-4)) hx hb dX6_ask_34 (by decide) ?_
        refine hret hP hD hS dX6_ask_36 rfl rfl ?_
        exact ⟨by simp [asA, c_3, c_6, c_9, hij_q, hicj_q, hvk_q, hik_q, hg0_q], rfl⟩
    · -- 12 to 15
      have hvk_q := c_6
      refine lv_iconst (v := (-1)) hx hb dX6_ask_15 (by decide) ?_
      refine hret hP hD hS dX6_ask_16 rfl rfl ?_
      exact ⟨by simp [asA, c_3, c_6, hij_q, hicj_q, hvk_q], rfl⟩


theorem ft_le (bx nw : Nat → Nat) (y : Nat) : ∀ m, ftN bx nw y m ≤ m
  | 0 => Nat.le_refl _
  | m + 1 => by
    have ih := ft_le bx nw y m
    simp only [ftN]
    split
    · omega
    · split <;> omega
theorem eb_sz {bx : Nat → Nat} (hB : BxOk bx) (nw : Nat → Nat) (n : Nat) : ebN bx nw n < szN bx (bx 0) :=
  ex_lt hB (fun k => tbhN bx nw k n) (fun i hi => Nat.mod_lt _ (by have := hB.t i hi; omega)) (bx 0) (Nat.le_refl _)
section BOG
variable {bx T up st ex tl he dy se : Nat → Nat} {fi E x y S : Nat}
theorem bo_gv1 (hB : BxOk bx) (hX : BoR bx T up st ex tl he dy se fi) (h : T 2 < 12) (hE : E < szN bx (bx 0)) (hx : x < bx 1) (hy : y < bx 1) (hS : S ≤ 1) (h3 : T 3 ≤ 1000) : BoR bx (gvU T E x y S) up st (up1 ex (T 2) E) (up1 tl (T 2) x) (up1 he (T 2) y) (up1 dy (T 2) (T 0)) (up1 se (T 2) S) fi := by
  have hw := hB.w
  refine ⟨gv_go hB h hX.1, gv_hd hB h hX.2.1 hE hx hy hS h3, ?_, ?_, hX.2.2.2.2.1, ?_⟩
  · intro i hi
    rw [gv_lo h (by omega) (by omega) (by omega), gv_lo h (by omega) (by omega) (by omega)]
    exact hX.2.2.1 i hi
  · rw [gv_h2 h]
    intro k hk
    have hv := gv_w (E := E) (x := x) (y := y) (S := S) h (show k ≤ T 2 by omega)
    rw [hv.1, hv.2.1, hv.2.2.1, hv.2.2.2.1, hv.2.2.2.2]
    by_cases he : k = T 2
    · rw [if_pos he, if_pos he, if_pos he, if_pos he, if_pos he, he, up1_s, up1_s, up1_s, up1_s, up1_s]
      exact ⟨rfl, rfl, rfl, rfl, rfl⟩
    · rw [if_neg he, if_neg he, if_neg he, if_neg he, if_neg he, up1_n he, up1_n he, up1_n he, up1_n he, up1_n he]
      exact hX.2.2.2.1 k (by omega)
  · intro i hi t ht
    rw [gv_lo h (by omega) (by omega) (by omega)]
    exact hX.2.2.2.2.2 i hi t ht
theorem bo_lo (hB : BxOk bx) (hX : BoR bx T up st ex tl he dy se fi) (h : T 2 = 12) : BoR bx (losN T) up st (shJ ex (T 2)) (shJ tl (T 2)) (shJ he (T 2)) (shJ dy (T 2)) (shJ se (T 2)) fi := by
  have hw := hB.w
  refine ⟨lo_go hB hX.1, lo_hd h hX.2.1, ?_, ?_, hX.2.2.2.2.1, ?_⟩
  · intro i hi
    rw [lo_lo (by omega) (by omega) (by omega), lo_lo (by omega) (by omega) (by omega)]
    exact hX.2.2.1 i hi
  · rw [los_2, h]
    intro k hk
    have hv := lo_w (F := T) (show k < 11 by omega)
    rw [hv.1, hv.2.1, hv.2.2.1, hv.2.2.2.1, hv.2.2.2.2]
    simp only [shJ]
    rw [if_pos (by omega), if_pos (by omega), if_pos (by omega), if_pos (by omega), if_pos (by omega)]
    exact hX.2.2.2.1 (k + 1) (by omega)
  · intro i hi t ht
    rw [lo_lo (by omega) (by omega) (by omega)]
    exact hX.2.2.2.2.2 i hi t ht
theorem bo_gv2 (hB : BxOk bx) (hX : BoR bx T up st ex tl he dy se fi) (h : T 2 = 12) (hE : E < szN bx (bx 0)) (hx : x < bx 1) (hy : y < bx 1) (hS : S ≤ 1) (h3 : T 3 ≤ 1000) : BoR bx (gvU (losN T) E x y S) up st (up1 (shJ ex (T 2)) (T 2 - 1) E) (up1 (shJ tl (T 2)) (T 2 - 1) x) (up1 (shJ he (T 2)) (T 2 - 1) y) (up1 (shJ dy (T 2)) (T 2 - 1) (T 0)) (up1 (shJ se (T 2)) (T 2 - 1) S) fi := by
  have h1 := bo_gv1 hB (bo_lo hB hX h) (by rw [los_2]; omega) hE hx hy hS (by have h9 : losN T 3 = T 3 - T 64 := (by simp [losN]); omega)
  rw [los_2, lo_lo (by omega) (by omega) (by omega)] at h1
  exact h1
theorem bo_d {v : Nat} (hB : BxOk bx) (hX : BoR bx T up st ex tl he dy se fi) (hv : v < 100000000) : BoR bx (up1 T 0 v) up st ex tl he dy se fi := by
  refine ⟨fun i hi => ?_, ⟨by rw [up1_n (by omega)]; exact hX.2.1.h, fun k hk => ?_, fun j => ?_⟩, fun i hi => ?_, fun k hk => ?_, hX.2.2.2.2.1, fun i hi t ht => ?_⟩
  · rw [up1_n (by omega), up1_n (by omega)]; exact hX.1 i hi
  · rw [up1_n (by omega)] at hk
    rw [up1_n (by omega), up1_n (by omega), up1_n (by omega), up1_n (by omega)]; exact hX.2.1.k k hk
  · by_cases hj : j = 0
    · subst hj; rw [up1_s]; exact hv
    · rw [up1_n hj]; exact hX.2.1.bd j
  · rw [up1_n (by omega), up1_n (by omega)]; exact hX.2.2.1 i hi
  · rw [up1_n (by omega)] at hk
    rw [up1_n (by omega), up1_n (by omega), up1_n (by omega), up1_n (by omega), up1_n (by omega)]; exact hX.2.2.2.1 k hk
  · rw [up1_n (by omega)]; exact hX.2.2.2.2.2 i hi t ht
end BOG
section GSS
variable {bx F : Nat → Nat} {x y n : Nat}
theorem gs_1s (hG : GoOk bx (trN bx F n)) (h : trN bx F n 2 < 12) : gsN bx F x y n = gvU (trN bx F n) (ebN bx (trN bx F n) 0) x y (b2n (seeN bx (trN bx F n) (ebN bx (trN bx F n) 0) x y (trN bx F n 2))) ∧ gsN bx F x y n 2 = trN bx F n 2 + 1 ∧ gsN bx F x y n 0 = trN bx F n 0 ∧ gsN bx F x y n 1 = trN bx F n 1 := by
  have e : gsN bx F x y n = gvU (trN bx F n) (ebN bx (trN bx F n) 0) x y (b2n (seeN bx (trN bx F n) (ebN bx (trN bx F n) 0) x y (trN bx F n 2))) := by
    simp only [gsN, gvF]
    rw [if_neg (by omega), eb_0 hG]
  rw [e]
  exact ⟨rfl, gv_h2 h, gv_lo h (by omega) (by omega) (by omega), gv_lo h (by omega) (by omega) (by omega)⟩
theorem gs_2s (hG : GoOk bx (trN bx F n)) (h : trN bx F n 2 = 12) : gsN bx F x y n = gvU (losN (trN bx F n)) (ebN bx (trN bx F n) 0) x y (b2n (seeN bx (trN bx F n) (ebN bx (trN bx F n) 0) x y (trN bx F n 2))) ∧ gsN bx F x y n 2 = trN bx F n 2 - 1 + 1 ∧ gsN bx F x y n 0 = trN bx F n 0 ∧ gsN bx F x y n 1 = trN bx F n 1 := by
  have e : gsN bx F x y n = gvU (losN (trN bx F n)) (ebN bx (trN bx F n) 0) x y (b2n (seeN bx (trN bx F n) (ebN bx (trN bx F n) 0) x y (trN bx F n 2))) := by
    simp only [gsN, gvF]
    rw [if_pos h, eb_0 hG]
  have h2 : losN (trN bx F n) 2 < 12 := by rw [los_2]; omega
  rw [e]
  refine ⟨rfl, ?_, ?_, ?_⟩
  · rw [gv_h2 h2, los_2]
  · rw [gv_lo h2 (by omega) (by omega) (by omega), lo_lo (by omega) (by omega) (by omega)]
  · rw [gv_lo h2 (by omega) (by omega) (by omega), lo_lo (by omega) (by omega) (by omega)]
end GSS
theorem wb_0 {a b : Nat} (ha : a < 1000000000) (hb : b < 1000000000) (h : nI a - nI b ≤ 0) : a - b = 0 := by
  rw [fa_le, pk_sub_toInt (by omega) (by omega)] at h
  have : (0 : Int32).toInt = 0 := by decide
  omega
theorem wb_1 {a b : Nat} (ha : a < 1000000000) (hb : b < 1000000000) (h : ¬ nI a - nI b ≤ 0) : nI a - nI b = nI (a - b) := by
  rw [fa_le, pk_sub_toInt (by omega) (by omega)] at h
  have : (0 : Int32).toInt = 0 := by decide
  exact pk_sub (by omega)
theorem lsb_ti {a b : Nat} (ha : a < 2147483648) (hb : b < 2147483648) : (lN a - lN b).toInt = (a : Int) - b := by
  rw [Int64.toInt_sub, lN_toInt (by omega), lN_toInt (by omega)]
  exact Int.bmod_eq_of_le (by omega) (by omega)
theorem lc_1 {a b : Nat} (ha : a < 2147483648) (hb : b < 2147483648) (h : 0 ≤ lg_cmp (lN a - lN b) (lN 0)) : b ≤ a := by
  by_cases hc : lg_cmp (lN a - lN b) (lN 0) < 0
  · rw [fa_lt] at hc
    rw [fa_le] at h
    omega
  · rw [lg_cmp_lt, fa_lt64, lsb_ti ha hb, lN_toInt (by omega)] at hc
    omega
theorem lc_0 {a b : Nat} (ha : a < 2147483648) (hb : b < 2147483648) (h : ¬ 0 ≤ lg_cmp (lN a - lN b) (lN 0)) : a < b := by
  have hc : lg_cmp (lN a - lN b) (lN 0) < 0 := by
    rw [fa_lt]
    rw [fa_le] at h
    omega
  rw [lg_cmp_lt, fa_lt64, lsb_ti ha hb, lN_toInt (by omega)] at hc
  omega
theorem cn_le (P : Nat → Bool) : ∀ n, cnB P n ≤ n
  | 0 => Nat.le_refl _
  | n + 1 => by
    have ih := cn_le P n
    have := b2n_le (P n)
    simp only [cnB]
    omega
/-- what the box is worth behind n turns, with the excuses that had sense -/
def slW (bx nw : Nat → Nat) (n : Nat) : Nat := bx 4 - bx 3 * (nw 1 + n) + cnB (fun k_ => senN bx nw (ebN bx nw (k_ + 1))) n
def slN (bx nw : Nat → Nat) : Nat → Nat × Nat
  | 0 => (0, slW bx nw 0)
  | k + 1 => if (slN bx nw k).2 < slW bx nw (k + 1) then (k + 1, slW bx nw (k + 1)) else slN bx nw k
theorem slW_le {bx : Nat → Nat} (hB : BxOk bx) (nw : Nat → Nat) (n : Nat) : slW bx nw n ≤ 99 + n := by
  have h1 := cn_le (fun k_ => senN bx nw (ebN bx nw (k_ + 1))) n
  have h2 := hB.n
  simp only [slW]
  omega
theorem slN_le {bx : Nat → Nat} (hB : BxOk bx) (nw : Nat → Nat) : ∀ n, (slN bx nw n).2 ≤ 99 + n
  | 0 => slW_le hB nw 0
  | n + 1 => by
    have ih := slN_le hB nw n
    have h := slW_le hB nw (n + 1)
    simp only [slN]
    split
    · exact h
    · omega
def SlI (bx nw : Nat → Nat) (n u : Nat) (M : Int32) : Prop := (n = 0 ∧ M = -1 ∧ u = 0) ∨ (1 ≤ n ∧ ∃ v, M = nI v ∧ (u, v) = slN bx nw (n - 1))
theorem sl_2 {bx nw : Nat → Nat} {n u : Nat} {M : Int32} (h : SlI bx nw n u M) (hn : 1 ≤ n) : 1 ≤ n ∧ ∃ v, M = nI v ∧ (u, v) = slN bx nw (n - 1) := by
  rcases h with h | h
  · omega
  · exact h
theorem sl_1 {bx nw : Nat → Nat} {n u : Nat} {M : Int32} (hB : BxOk bx) (h : SlI bx nw n u M) (hn : n ≤ 41) (hc : ¬ nI (slW bx nw n) ≤ M) : SlI bx nw (n + 1) n (nI (slW bx nw n)) := by
  refine Or.inr ⟨by omega, _, rfl, ?_⟩
  rcases h with ⟨h0, _, _⟩ | ⟨h1, v, hM, hv⟩
  · subst h0; rfl
  · obtain ⟨k, rfl⟩ : ∃ k, n = k + 1 := ⟨n - 1, by omega⟩
    simp only [Nat.add_sub_cancel] at hv ⊢
    have hl := slN_le hB nw k
    rw [← hv] at hl
    have hw := slW_le hB nw (k + 1)
    rw [hM, nI_leI (by omega) (by omega)] at hc
    simp only [slN]
    rw [← hv, if_pos (by simp only; omega)]
theorem sl_0 {bx nw : Nat → Nat} {n u : Nat} {M : Int32} (hB : BxOk bx) (h : SlI bx nw n u M) (hn : n ≤ 41) (hc : nI (slW bx nw n) ≤ M) : SlI bx nw (n + 1) u M := by
  have hw := slW_le hB nw n
  rcases h with ⟨h0, hM, _⟩ | ⟨h1, v, hM, hv⟩
  · subst hM
    rw [fa_le, nI_toInt (by omega)] at hc
    have : (-1 : Int32).toInt = -1 := by decide
    omega
  · refine Or.inr ⟨by omega, v, hM, ?_⟩
    obtain ⟨k, rfl⟩ : ∃ k, n = k + 1 := ⟨n - 1, by omega⟩
    simp only [Nat.add_sub_cancel] at hv ⊢
    have hl := slN_le hB nw k
    rw [← hv] at hl
    simp only at hl
    rw [hM, nI_leI (by omega) (by omega)] at hc
    simp only [slN]
    rw [← hv, if_neg (by simp only; omega)]
theorem sl_c1 {bx nw : Nat → Nat} {n u v w : Nat} (hn : 1 ≤ n) (h : (u, v) = slN bx nw (n - 1)) (hw : w = slW bx nw n) (hc : v < w) : (n, w) = slN bx nw n := by
  obtain ⟨k, rfl⟩ : ∃ k, n = k + 1 := ⟨n - 1, by omega⟩
  simp only [Nat.add_sub_cancel] at h
  simp only [slN]
  rw [← h, ← hw, if_pos hc]
theorem sl_c0 {bx nw : Nat → Nat} {n u v w : Nat} (hn : 1 ≤ n) (h : (u, v) = slN bx nw (n - 1)) (hw : w = slW bx nw n) (hc : w ≤ v) : (u, v) = slN bx nw n := by
  obtain ⟨k, rfl⟩ : ∃ k, n = k + 1 := ⟨n - 1, by omega⟩
  simp only [Nat.add_sub_cancel] at h
  simp only [slN]
  rw [← h, ← hw, if_neg (by simp only; omega)]
def slA (bx nw : Nat → Nat) (x : Int32) : Int32 := if inR x 0 1 = true then nI (if ix x = 0 then (slN bx nw 40).1 else (slN bx nw 40).2) else -1
theorem sl_r0 {bx nw : Nat → Nat} {j u v n : Nat} {x : Int32} (h : inR x 0 1 = true) (hj : ix x = j) (h0 : j = 0) (hv : (u, v) = slN bx nw n) (hn : n = 40) : nI u = slA bx nw x := by
  subst hn
  simp only [slA]
  rw [if_pos h, if_pos (hj.trans h0), ← hv]
theorem sl_r1 {bx nw : Nat → Nat} {j u v n : Nat} {M x : Int32} (h : inR x 0 1 = true) (hj : ix x = j) (h0 : j ≠ 0) (hv : (u, v) = slN bx nw n) (hM : M = nI v) (hn : n = 40) : M = slA bx nw x := by
  subst hn
  simp only [slA]
  rw [if_pos h, if_neg (by rw [hj]; exact h0), ← hv, hM]

set_option maxHeartbeats 4000000 in
set_option maxRecDepth 100000 in
theorem k_X6_give {l : Launch} {D : va_G} {cI cC cB : ClassId} {o xt xg xu xk xd xe xf : Nat} {zn zc : Nat} {uq : Nat → Nat} {uf : Nat → Option Nat} {b2 : Nat} {bq2 : Nat → Nat} {up2 st2 ex2 tl2 he2 dy2 se2 : Nat → Nat} {fi2 hd2 td2 tn2 : Nat} {a : Nat} {pq : Nat → Nat} {bx te ps pu sd cj ta : Nat → Nat} {b : Nat} {bq : Nat → Nat} {nw up st ex tl he dy se : Nat → Nat} {fi : Nat} {x y : Int32}  (hR : PlR bx te ps pu sd cj ta) (hX : BoR bx nw up st ex tl he dy se fi) (hzn : zn < 8) (hzc : zc ≤ 8) (hf : uf zn = some b2) (hbl : BdOk nw) (hsm : nw 3 = smN nw (nw 2)) : MI l yX6_give cX6_give 4 (some .int) 6 D (Ty3 cI cC cB) [.ref o, .int (x), .int (y)] [(o, .inr (6, [.ref xt, .ref xg, .ref xu, .ref xk, .ref b, .ref xd, .ref xe, .ref a, .ref xf])), sO xu uq zn zc, (uq 0, .inl (cB, 8, .inr (.inr (.inr (.inr uf))))), bO b2 bq2 fi2 hd2 td2 tn2, (bq2 0, .inl (cI, 4, .inl (fun z_ => nI (up2 z_)))), (bq2 1, .inl (cI, 4, .inl (fun z_ => nI (st2 z_)))), (bq2 2, .inl (cI, 12, .inl (fun z_ => nI (ex2 z_)))), (bq2 3, .inl (cI, 12, .inl (fun z_ => nI (tl2 z_)))), (bq2 4, .inl (cI, 12, .inl (fun z_ => nI (he2 z_)))), (bq2 5, .inl (cI, 12, .inl (fun z_ => nI (dy2 z_)))), (bq2 6, .inl (cI, 12, .inl (fun z_ => nI (se2 z_)))), bO b bq fi (nw 2) (nw 0) (nw 1), (bq 0, .inl (cI, 4, .inl (fun z_ => nI (up z_)))), (bq 1, .inl (cI, 4, .inl (fun z_ => nI (st z_)))), (bq 2, .inl (cI, 12, .inl (fun z_ => nI (ex z_)))), (bq 3, .inl (cI, 12, .inl (fun z_ => nI (tl z_)))), (bq 4, .inl (cI, 12, .inl (fun z_ => nI (he z_)))), (bq 5, .inl (cI, 12, .inl (fun z_ => nI (dy z_)))), (bq 6, .inl (cI, 12, .inl (fun z_ => nI (se z_)))), pO a pq (bx 0) (bx 2) (bx 1) (szN bx (bx 0)) (bx 3) (bx 4), (pq 0, .inl (cI, 4, .inl (fun z_ => nI (te z_)))), (pq 1, .inl (cI, 4, .inl (fun z_ => nI (ps z_)))), (pq 2, .inl (cI, 4, .inl (fun z_ => nI (pu z_)))), (pq 3, .inl (cI, 4, .inl (fun z_ => nI (sd z_)))), (pq 4, .inl (cI, 8, .inl (fun z_ => nI (cj z_)))), (pq 5, .inl (cI, 5, .inl (fun z_ => nI (ta z_))))] (fun r u => ((giOk bx nw x y = false) ∧ r = giA bx nw x y ∧ u = [(o, .inr (6, [.ref xt, .ref xg, .ref xu, .ref xk, .ref b, .ref xd, .ref xe, .ref a, .ref xf])), sO xu uq zn zc, (uq 0, .inl (cB, 8, .inr (.inr (.inr (.inr uf))))), bO b2 bq2 fi2 hd2 td2 tn2, (bq2 0, .inl (cI, 4, .inl (fun z_ => nI (up2 z_)))), (bq2 1, .inl (cI, 4, .inl (fun z_ => nI (st2 z_)))), (bq2 2, .inl (cI, 12, .inl (fun z_ => nI (ex2 z_)))), (bq2 3, .inl (cI, 12, .inl (fun z_ => nI (tl2 z_)))), (bq2 4, .inl (cI, 12, .inl (fun z_ => nI (he2 z_)))), (bq2 5, .inl (cI, 12, .inl (fun z_ => nI (dy2 z_)))), (bq2 6, .inl (cI, 12, .inl (fun z_ => nI (se2 z_)))), bO b bq fi (nw 2) (nw 0) (nw 1), (bq 0, .inl (cI, 4, .inl (fun z_ => nI (up z_)))), (bq 1, .inl (cI, 4, .inl (fun z_ => nI (st z_)))), (bq 2, .inl (cI, 12, .inl (fun z_ => nI (ex z_)))), (bq 3, .inl (cI, 12, .inl (fun z_ => nI (tl z_)))), (bq 4, .inl (cI, 12, .inl (fun z_ => nI (he z_)))), (bq 5, .inl (cI, 12, .inl (fun z_ => nI (dy z_)))), (bq 6, .inl (cI, 12, .inl (fun z_ => nI (se z_)))), pO a pq (bx 0) (bx 2) (bx 1) (szN bx (bx 0)) (bx 3) (bx 4), (pq 0, .inl (cI, 4, .inl (fun z_ => nI (te z_)))), (pq 1, .inl (cI, 4, .inl (fun z_ => nI (ps z_)))), (pq 2, .inl (cI, 4, .inl (fun z_ => nI (pu z_)))), (pq 3, .inl (cI, 4, .inl (fun z_ => nI (sd z_)))), (pq 4, .inl (cI, 8, .inl (fun z_ => nI (cj z_)))), (pq 5, .inl (cI, 5, .inl (fun z_ => nI (ta z_))))]) ∨ (∃ ua : Nat → Nat, ∃ ea : Nat → Nat, ∃ la : Nat → Nat, ∃ ha : Nat → Nat, ∃ da : Nat → Nat, ∃ sa : Nat → Nat, (giOk bx nw x y = true) ∧ (BoR bx (gsN bx nw (ix x) (ix y) (ftN bx nw (ix y) (szN bx (bx 0)))) ua st ea la ha da sa fi) ∧ r = giA bx nw x y ∧ u = [(o, .inr (6, [.ref xt, .ref xg, .ref xu, .ref xk, .ref b, .ref xd, .ref xe, .ref a, .ref xf])), sO xu uq (nxN 8 zn) (ctN 8 zc), (uq 0, .inl (cB, 8, .inr (.inr (.inr (.inr uf))))), bO b2 bq2 fi (nw 2) (nw 0) (nw 1), (bq2 0, .inl (cI, 4, .inl (fun z_ => nI (up z_)))), (bq2 1, .inl (cI, 4, .inl (fun z_ => nI (st z_)))), (bq2 2, .inl (cI, 12, .inl (fun z_ => nI (ex z_)))), (bq2 3, .inl (cI, 12, .inl (fun z_ => nI (tl z_)))), (bq2 4, .inl (cI, 12, .inl (fun z_ => nI (he z_)))), (bq2 5, .inl (cI, 12, .inl (fun z_ => nI (dy z_)))), (bq2 6, .inl (cI, 12, .inl (fun z_ => nI (se z_)))), bO b bq fi (gsN bx nw (ix x) (ix y) (ftN bx nw (ix y) (szN bx (bx 0))) 2) (gsN bx nw (ix x) (ix y) (ftN bx nw (ix y) (szN bx (bx 0))) 0) (gsN bx nw (ix x) (ix y) (ftN bx nw (ix y) (szN bx (bx 0))) 1), (bq 0, .inl (cI, 4, .inl (fun z_ => nI (ua z_)))), (bq 1, .inl (cI, 4, .inl (fun z_ => nI (st z_)))), (bq 2, .inl (cI, 12, .inl (fun z_ => nI (ea z_)))), (bq 3, .inl (cI, 12, .inl (fun z_ => nI (la z_)))), (bq 4, .inl (cI, 12, .inl (fun z_ => nI (ha z_)))), (bq 5, .inl (cI, 12, .inl (fun z_ => nI (da z_)))), (bq 6, .inl (cI, 12, .inl (fun z_ => nI (sa z_)))), pO a pq (bx 0) (bx 2) (bx 1) (szN bx (bx 0)) (bx 3) (bx 4), (pq 0, .inl (cI, 4, .inl (fun z_ => nI (te z_)))), (pq 1, .inl (cI, 4, .inl (fun z_ => nI (ps z_)))), (pq 2, .inl (cI, 4, .inl (fun z_ => nI (pu z_)))), (pq 3, .inl (cI, 4, .inl (fun z_ => nI (sd z_)))), (pq 4, .inl (cI, 8, .inl (fun z_ => nI (cj z_)))), (pq 5, .inl (cI, 5, .inl (fun z_ => nI (ta z_))))])) := by
  intro sz
  refine MI.walk (by decide +kernel) (Nat.le_of_ble_eq_true rfl) ?_
  intro p e s m args below meth c A Qf hx hb hml hts hown hret hK hP hD hS hA ls hl
  have hown : s.vm.findClass RX6 = some m.cls := hown
  have hl : lv_has ls 4 [(0, .ref o), (1, .int (x)), (2, .int (y))] := hl
  have hP : va_P D vwCl [(o, .inr (6, [.ref xt, .ref xg, .ref xu, .ref xk, .ref b, .ref xd, .ref xe, .ref a, .ref xf])), sO xu uq zn zc, (uq 0, .inl (cB, 8, .inr (.inr (.inr (.inr uf))))), bO b2 bq2 fi2 hd2 td2 tn2, (bq2 0, .inl (cI, 4, .inl (fun z_ => nI (up2 z_)))), (bq2 1, .inl (cI, 4, .inl (fun z_ => nI (st2 z_)))), (bq2 2, .inl (cI, 12, .inl (fun z_ => nI (ex2 z_)))), (bq2 3, .inl (cI, 12, .inl (fun z_ => nI (tl2 z_)))), (bq2 4, .inl (cI, 12, .inl (fun z_ => nI (he2 z_)))), (bq2 5, .inl (cI, 12, .inl (fun z_ => nI (dy2 z_)))), (bq2 6, .inl (cI, 12, .inl (fun z_ => nI (se2 z_)))), bO b bq fi (nw 2) (nw 0) (nw 1), (bq 0, .inl (cI, 4, .inl (fun z_ => nI (up z_)))), (bq 1, .inl (cI, 4, .inl (fun z_ => nI (st z_)))), (bq 2, .inl (cI, 12, .inl (fun z_ => nI (ex z_)))), (bq 3, .inl (cI, 12, .inl (fun z_ => nI (tl z_)))), (bq 4, .inl (cI, 12, .inl (fun z_ => nI (he z_)))), (bq 5, .inl (cI, 12, .inl (fun z_ => nI (dy z_)))), (bq 6, .inl (cI, 12, .inl (fun z_ => nI (se z_)))), pO a pq (bx 0) (bx 2) (bx 1) (szN bx (bx 0)) (bx 3) (bx 4), (pq 0, .inl (cI, 4, .inl (fun z_ => nI (te z_)))), (pq 1, .inl (cI, 4, .inl (fun z_ => nI (ps z_)))), (pq 2, .inl (cI, 4, .inl (fun z_ => nI (pu z_)))), (pq 3, .inl (cI, 4, .inl (fun z_ => nI (sd z_)))), (pq 4, .inl (cI, 8, .inl (fun z_ => nI (cj z_)))), (pq 5, .inl (cI, 5, .inl (fun z_ => nI (ta z_))))] s.heap := hP
  have hD : va_D A [(o, .inr (6, [.ref xt, .ref xg, .ref xu, .ref xk, .ref b, .ref xd, .ref xe, .ref a, .ref xf])), sO xu uq zn zc, (uq 0, .inl (cB, 8, .inr (.inr (.inr (.inr uf))))), bO b2 bq2 fi2 hd2 td2 tn2, (bq2 0, .inl (cI, 4, .inl (fun z_ => nI (up2 z_)))), (bq2 1, .inl (cI, 4, .inl (fun z_ => nI (st2 z_)))), (bq2 2, .inl (cI, 12, .inl (fun z_ => nI (ex2 z_)))), (bq2 3, .inl (cI, 12, .inl (fun z_ => nI (tl2 z_)))), (bq2 4, .inl (cI, 12, .inl (fun z_ => nI (he2 z_)))), (bq2 5, .inl (cI, 12, .inl (fun z_ => nI (dy2 z_)))), (bq2 6, .inl (cI, 12, .inl (fun z_ => nI (se2 z_)))), bO b bq fi (nw 2) (nw 0) (nw 1), (bq 0, .inl (cI, 4, .inl (fun z_ => nI (up z_)))), (bq 1, .inl (cI, 4, .inl (fun z_ => nI (st z_)))), (bq 2, .inl (cI, 12, .inl (fun z_ => nI (ex z_)))), (bq 3, .inl (cI, 12, .inl (fun z_ => nI (tl z_)))), (bq 4, .inl (cI, 12, .inl (fun z_ => nI (he z_)))), (bq 5, .inl (cI, 12, .inl (fun z_ => nI (dy z_)))), (bq 6, .inl (cI, 12, .inl (fun z_ => nI (se z_)))), pO a pq (bx 0) (bx 2) (bx 1) (szN bx (bx 0)) (bx 3) (bx 4), (pq 0, .inl (cI, 4, .inl (fun z_ => nI (te z_)))), (pq 1, .inl (cI, 4, .inl (fun z_ => nI (ps z_)))), (pq 2, .inl (cI, 4, .inl (fun z_ => nI (pu z_)))), (pq 3, .inl (cI, 4, .inl (fun z_ => nI (sd z_)))), (pq 4, .inl (cI, 8, .inl (fun z_ => nI (cj z_)))), (pq 5, .inl (cI, 5, .inl (fun z_ => nI (ta z_))))] := hD
  refine lv_aload_n hx hb dX6_give_0 rfl (lv_at hl 0 rfl) ?_
  refine lv_iload_n hx hb dX6_give_1 rfl (lv_at hl 1 rfl) ?_
  refine cl_6_126 (As := [.int (x)]) (rest := []) hx hb hml hts hown (k_X6_isPerson (by first | assumption | omega)) (by decide) ⟨Nat.zero_le _, Nat.zero_le _⟩ hK hP hD hS hA 0 rfl [0, 19, 20, 21, 22, 23, 24, 25] rfl (by decide) rfl hl.1 rfl (Nat.le_of_ble_eq_true rfl) dX6_give_2 (fun r_1 u H locs hp_2 hP hD hS => ?_)
  obtain ⟨rfl, rfl⟩ := hp_2
  dsimp only [putAll, List.set] at hP hD
  have hP : va_P D vwCl [(o, .inr (6, [.ref xt, .ref xg, .ref xu, .ref xk, .ref b, .ref xd, .ref xe, .ref a, .ref xf])), sO xu uq zn zc, (uq 0, .inl (cB, 8, .inr (.inr (.inr (.inr uf))))), bO b2 bq2 fi2 hd2 td2 tn2, (bq2 0, .inl (cI, 4, .inl (fun z_ => nI (up2 z_)))), (bq2 1, .inl (cI, 4, .inl (fun z_ => nI (st2 z_)))), (bq2 2, .inl (cI, 12, .inl (fun z_ => nI (ex2 z_)))), (bq2 3, .inl (cI, 12, .inl (fun z_ => nI (tl2 z_)))), (bq2 4, .inl (cI, 12, .inl (fun z_ => nI (he2 z_)))), (bq2 5, .inl (cI, 12, .inl (fun z_ => nI (dy2 z_)))), (bq2 6, .inl (cI, 12, .inl (fun z_ => nI (se2 z_)))), bO b bq fi (nw 2) (nw 0) (nw 1), (bq 0, .inl (cI, 4, .inl (fun z_ => nI (up z_)))), (bq 1, .inl (cI, 4, .inl (fun z_ => nI (st z_)))), (bq 2, .inl (cI, 12, .inl (fun z_ => nI (ex z_)))), (bq 3, .inl (cI, 12, .inl (fun z_ => nI (tl z_)))), (bq 4, .inl (cI, 12, .inl (fun z_ => nI (he z_)))), (bq 5, .inl (cI, 12, .inl (fun z_ => nI (dy z_)))), (bq 6, .inl (cI, 12, .inl (fun z_ => nI (se z_)))), pO a pq (bx 0) (bx 2) (bx 1) (szN bx (bx 0)) (bx 3) (bx 4), (pq 0, .inl (cI, 4, .inl (fun z_ => nI (te z_)))), (pq 1, .inl (cI, 4, .inl (fun z_ => nI (ps z_)))), (pq 2, .inl (cI, 4, .inl (fun z_ => nI (pu z_)))), (pq 3, .inl (cI, 4, .inl (fun z_ => nI (sd z_)))), (pq 4, .inl (cI, 8, .inl (fun z_ => nI (cj z_)))), (pq 5, .inl (cI, 5, .inl (fun z_ => nI (ta z_))))] _ := hP
  have hD : va_D A [(o, .inr (6, [.ref xt, .ref xg, .ref xu, .ref xk, .ref b, .ref xd, .ref xe, .ref a, .ref xf])), sO xu uq zn zc, (uq 0, .inl (cB, 8, .inr (.inr (.inr (.inr uf))))), bO b2 bq2 fi2 hd2 td2 tn2, (bq2 0, .inl (cI, 4, .inl (fun z_ => nI (up2 z_)))), (bq2 1, .inl (cI, 4, .inl (fun z_ => nI (st2 z_)))), (bq2 2, .inl (cI, 12, .inl (fun z_ => nI (ex2 z_)))), (bq2 3, .inl (cI, 12, .inl (fun z_ => nI (tl2 z_)))), (bq2 4, .inl (cI, 12, .inl (fun z_ => nI (he2 z_)))), (bq2 5, .inl (cI, 12, .inl (fun z_ => nI (dy2 z_)))), (bq2 6, .inl (cI, 12, .inl (fun z_ => nI (se2 z_)))), bO b bq fi (nw 2) (nw 0) (nw 1), (bq 0, .inl (cI, 4, .inl (fun z_ => nI (up z_)))), (bq 1, .inl (cI, 4, .inl (fun z_ => nI (st z_)))), (bq 2, .inl (cI, 12, .inl (fun z_ => nI (ex z_)))), (bq 3, .inl (cI, 12, .inl (fun z_ => nI (tl z_)))), (bq 4, .inl (cI, 12, .inl (fun z_ => nI (he z_)))), (bq 5, .inl (cI, 12, .inl (fun z_ => nI (dy z_)))), (bq 6, .inl (cI, 12, .inl (fun z_ => nI (se z_)))), pO a pq (bx 0) (bx 2) (bx 1) (szN bx (bx 0)) (bx 3) (bx 4), (pq 0, .inl (cI, 4, .inl (fun z_ => nI (te z_)))), (pq 1, .inl (cI, 4, .inl (fun z_ => nI (ps z_)))), (pq 2, .inl (cI, 4, .inl (fun z_ => nI (pu z_)))), (pq 3, .inl (cI, 4, .inl (fun z_ => nI (sd z_)))), (pq 4, .inl (cI, 8, .inl (fun z_ => nI (cj z_)))), (pq 5, .inl (cI, 5, .inl (fun z_ => nI (ta z_))))] := hD
  refine n_ifb_eq (tgt := 21) hx hb dX6_give_5 (by decide) (fun c_3 => ?_) (fun c_3 => ?_)
  · -- 5 to 21
    refine lv_iconst (v := (-1)) hx hb dX6_give_21 (by decide) ?_
    refine hret hP hD hS dX6_give_22 rfl rfl ?_
    exact Or.inl ⟨by simp [giOk, giA, c_3], by simp [giOk, giA, c_3], rfl⟩
  · -- 5 to 8
    obtain ⟨j, hj, rfl⟩ := inN_e (by have := hR.b.bd 1; omega) c_3
    have hij_q : ix (nI j) = j := ix_n (by have := hR.b.bd 1; omega)
    have hicj_q : (nI j).toNatClampNeg = j := ix_n (by have := hR.b.bd 1; omega)
    have hpn_q := hR.b.n
    have h12_q := hX.d.h
    have hw_q := hR.b.w
    refine lv_aload_n hx hb dX6_give_8 rfl (lv_at hl 0 rfl) ?_
    refine lv_iload_n hx hb dX6_give_9 rfl (lv_at hl 2 rfl) ?_
    refine cl_6_126 (As := [.int (y)]) (rest := []) hx hb hml hts hown (k_X6_isPerson (by first | assumption | omega)) (by decide) ⟨Nat.zero_le _, Nat.zero_le _⟩ hK hP hD hS hA 0 rfl [0, 19, 20, 21, 22, 23, 24, 25] rfl (by decide) rfl hl.1 rfl (Nat.le_of_ble_eq_true rfl) dX6_give_10 (fun r_4 u H locs hp_5 hP hD hS => ?_)
    obtain ⟨rfl, rfl⟩ := hp_5
    dsimp only [putAll, List.set] at hP hD
    have hP : va_P D vwCl [(o, .inr (6, [.ref xt, .ref xg, .ref xu, .ref xk, .ref b, .ref xd, .ref xe, .ref a, .ref xf])), sO xu uq zn zc, (uq 0, .inl (cB, 8, .inr (.inr (.inr (.inr uf))))), bO b2 bq2 fi2 hd2 td2 tn2, (bq2 0, .inl (cI, 4, .inl (fun z_ => nI (up2 z_)))), (bq2 1, .inl (cI, 4, .inl (fun z_ => nI (st2 z_)))), (bq2 2, .inl (cI, 12, .inl (fun z_ => nI (ex2 z_)))), (bq2 3, .inl (cI, 12, .inl (fun z_ => nI (tl2 z_)))), (bq2 4, .inl (cI, 12, .inl (fun z_ => nI (he2 z_)))), (bq2 5, .inl (cI, 12, .inl (fun z_ => nI (dy2 z_)))), (bq2 6, .inl (cI, 12, .inl (fun z_ => nI (se2 z_)))), bO b bq fi (nw 2) (nw 0) (nw 1), (bq 0, .inl (cI, 4, .inl (fun z_ => nI (up z_)))), (bq 1, .inl (cI, 4, .inl (fun z_ => nI (st z_)))), (bq 2, .inl (cI, 12, .inl (fun z_ => nI (ex z_)))), (bq 3, .inl (cI, 12, .inl (fun z_ => nI (tl z_)))), (bq 4, .inl (cI, 12, .inl (fun z_ => nI (he z_)))), (bq 5, .inl (cI, 12, .inl (fun z_ => nI (dy z_)))), (bq 6, .inl (cI, 12, .inl (fun z_ => nI (se z_)))), pO a pq (bx 0) (bx 2) (bx 1) (szN bx (bx 0)) (bx 3) (bx 4), (pq 0, .inl (cI, 4, .inl (fun z_ => nI (te z_)))), (pq 1, .inl (cI, 4, .inl (fun z_ => nI (ps z_)))), (pq 2, .inl (cI, 4, .inl (fun z_ => nI (pu z_)))), (pq 3, .inl (cI, 4, .inl (fun z_ => nI (sd z_)))), (pq 4, .inl (cI, 8, .inl (fun z_ => nI (cj z_)))), (pq 5, .inl (cI, 5, .inl (fun z_ => nI (ta z_))))] _ := hP
    have hD : va_D A [(o, .inr (6, [.ref xt, .ref xg, .ref xu, .ref xk, .ref b, .ref xd, .ref xe, .ref a, .ref xf])), sO xu uq zn zc, (uq 0, .inl (cB, 8, .inr (.inr (.inr (.inr uf))))), bO b2 bq2 fi2 hd2 td2 tn2, (bq2 0, .inl (cI, 4, .inl (fun z_ => nI (up2 z_)))), (bq2 1, .inl (cI, 4, .inl (fun z_ => nI (st2 z_)))), (bq2 2, .inl (cI, 12, .inl (fun z_ => nI (ex2 z_)))), (bq2 3, .inl (cI, 12, .inl (fun z_ => nI (tl2 z_)))), (bq2 4, .inl (cI, 12, .inl (fun z_ => nI (he2 z_)))), (bq2 5, .inl (cI, 12, .inl (fun z_ => nI (dy2 z_)))), (bq2 6, .inl (cI, 12, .inl (fun z_ => nI (se2 z_)))), bO b bq fi (nw 2) (nw 0) (nw 1), (bq 0, .inl (cI, 4, .inl (fun z_ => nI (up z_)))), (bq 1, .inl (cI, 4, .inl (fun z_ => nI (st z_)))), (bq 2, .inl (cI, 12, .inl (fun z_ => nI (ex z_)))), (bq 3, .inl (cI, 12, .inl (fun z_ => nI (tl z_)))), (bq 4, .inl (cI, 12, .inl (fun z_ => nI (he z_)))), (bq 5, .inl (cI, 12, .inl (fun z_ => nI (dy z_)))), (bq 6, .inl (cI, 12, .inl (fun z_ => nI (se z_)))), pO a pq (bx 0) (bx 2) (bx 1) (szN bx (bx 0)) (bx 3) (bx 4), (pq 0, .inl (cI, 4, .inl (fun z_ => nI (te z_)))), (pq 1, .inl (cI, 4, .inl (fun z_ => nI (ps z_)))), (pq 2, .inl (cI, 4, .inl (fun z_ => nI (pu z_)))), (pq 3, .inl (cI, 4, .inl (fun z_ => nI (sd z_)))), (pq 4, .inl (cI, 8, .inl (fun z_ => nI (cj z_)))), (pq 5, .inl (cI, 5, .inl (fun z_ => nI (ta z_))))] := hD
    refine n_ifb_eq (tgt := 21) hx hb dX6_give_13 (by decide) (fun c_6 => ?_) (fun c_6 => ?_)
    · -- 13 to 21
      refine lv_iconst (v := (-1)) hx hb dX6_give_21 (by decide) ?_
      refine hret hP hD hS dX6_give_22 rfl rfl ?_
      exact Or.inl ⟨by simp [giOk, giA, c_3, c_6, hij_q, hicj_q, hpn_q, h12_q, hw_q], by simp [giOk, giA, c_3, c_6, hij_q, hicj_q, hpn_q, h12_q, hw_q], rfl⟩
    · -- 13 to 16
      obtain ⟨k, hk, rfl⟩ := inN_e (by have := hR.b.bd 1; omega) c_6
      have hik_q : ix (nI k) = k := ix_n (by have := hR.b.bd 1; omega)
      have hick_q : (nI k).toNatClampNeg = k := ix_n (by have := hR.b.bd 1; omega)
      refine lv_iload_n hx hb dX6_give_16 rfl (lv_at hl 1 rfl) ?_
      refine lv_iload_n hx hb dX6_give_17 rfl (lv_at hl 2 rfl) ?_
      refine n_icmp_ne (tgt := 23) hx hb dX6_give_18 (by decide) (by omega) (by omega) (fun c_7 => ?_) (fun c_7 => ?_)
      · -- 18 to 23
        refine lv_aload_n hx hb dX6_give_23 rfl (lv_at hl 0 rfl) ?_
        refine gf_6_38 hx hb hts hown hK hP 0 rfl rfl dX6_give_24 ?_
        refine gf_6_177 hx hb hts hown hK hP 11 rfl rfl dX6_give_27 ?_
        refine lv_bipush (v := nI 12) hx hb dX6_give_30 (by decide) ?_
        refine n_icmp_lt (tgt := 38) hx hb dX6_give_32 (by decide) (by omega) (by decide) (fun c_8 => ?_) (fun c_8 => ?_)
        · -- 32 to 38
          have h12n_q : nw 2 ≠ 12 := by omega
          refine lv_aload_n hx hb dX6_give_38 rfl (lv_at hl 0 rfl) ?_
          refine gf_6_38 hx hb hts hown hK hP 0 rfl rfl dX6_give_39 ?_
          refine lv_aload_n hx hb dX6_give_42 rfl (lv_at hl 0 rfl) ?_
          refine gf_6_55 hx hb hts hown hK hP 0 rfl rfl dX6_give_43 ?_
          refine lv_iload_n hx hb dX6_give_46 rfl (lv_at hl 2 rfl) ?_
          refine cl_6_180 (As := [.ref a, .int (nI (k))]) (rest := []) hx hb hml hts hown (k_X0_turnsTillFresh (by first | assumption | omega) (by first | assumption | omega) (by first | assumption | omega)) (by decide) ⟨Nat.zero_le _, Nat.zero_le _⟩ hK hP hD hS hA 11 rfl [11, 12, 13, 14, 15, 16, 17, 18, 19, 20, 21, 22, 23, 24, 25] rfl (by decide) rfl hl.1 rfl (Nat.le_of_ble_eq_true rfl) dX6_give_47 (fun r_9 u H locs hp_10 hP hD hS => ?_)
          obtain ⟨rfl, rfl⟩ := hp_10
          dsimp only [putAll, List.set] at hP hD
          have hP : va_P D vwCl [(o, .inr (6, [.ref xt, .ref xg, .ref xu, .ref xk, .ref b, .ref xd, .ref xe, .ref a, .ref xf])), sO xu uq zn zc, (uq 0, .inl (cB, 8, .inr (.inr (.inr (.inr uf))))), bO b2 bq2 fi2 hd2 td2 tn2, (bq2 0, .inl (cI, 4, .inl (fun z_ => nI (up2 z_)))), (bq2 1, .inl (cI, 4, .inl (fun z_ => nI (st2 z_)))), (bq2 2, .inl (cI, 12, .inl (fun z_ => nI (ex2 z_)))), (bq2 3, .inl (cI, 12, .inl (fun z_ => nI (tl2 z_)))), (bq2 4, .inl (cI, 12, .inl (fun z_ => nI (he2 z_)))), (bq2 5, .inl (cI, 12, .inl (fun z_ => nI (dy2 z_)))), (bq2 6, .inl (cI, 12, .inl (fun z_ => nI (se2 z_)))), bO b bq fi (nw 2) (nw 0) (nw 1), (bq 0, .inl (cI, 4, .inl (fun z_ => nI (up z_)))), (bq 1, .inl (cI, 4, .inl (fun z_ => nI (st z_)))), (bq 2, .inl (cI, 12, .inl (fun z_ => nI (ex z_)))), (bq 3, .inl (cI, 12, .inl (fun z_ => nI (tl z_)))), (bq 4, .inl (cI, 12, .inl (fun z_ => nI (he z_)))), (bq 5, .inl (cI, 12, .inl (fun z_ => nI (dy z_)))), (bq 6, .inl (cI, 12, .inl (fun z_ => nI (se z_)))), pO a pq (bx 0) (bx 2) (bx 1) (szN bx (bx 0)) (bx 3) (bx 4), (pq 0, .inl (cI, 4, .inl (fun z_ => nI (te z_)))), (pq 1, .inl (cI, 4, .inl (fun z_ => nI (ps z_)))), (pq 2, .inl (cI, 4, .inl (fun z_ => nI (pu z_)))), (pq 3, .inl (cI, 4, .inl (fun z_ => nI (sd z_)))), (pq 4, .inl (cI, 8, .inl (fun z_ => nI (cj z_)))), (pq 5, .inl (cI, 5, .inl (fun z_ => nI (ta z_))))] _ := hP
          have hD : va_D A [(o, .inr (6, [.ref xt, .ref xg, .ref xu, .ref xk, .ref b, .ref xd, .ref xe, .ref a, .ref xf])), sO xu uq zn zc, (uq 0, .inl (cB, 8, .inr (.inr (.inr (.inr uf))))), bO b2 bq2 fi2 hd2 td2 tn2, (bq2 0, .inl (cI, 4, .inl (fun z_ => nI (up2 z_)))), (bq2 1, .inl (cI, 4, .inl (fun z_ => nI (st2 z_)))), (bq2 2, .inl (cI, 12, .inl (fun z_ => nI (ex2 z_)))), (bq2 3, .inl (cI, 12, .inl (fun z_ => nI (tl2 z_)))), (bq2 4, .inl (cI, 12, .inl (fun z_ => nI (he2 z_)))), (bq2 5, .inl (cI, 12, .inl (fun z_ => nI (dy2 z_)))), (bq2 6, .inl (cI, 12, .inl (fun z_ => nI (se2 z_)))), bO b bq fi (nw 2) (nw 0) (nw 1), (bq 0, .inl (cI, 4, .inl (fun z_ => nI (up z_)))), (bq 1, .inl (cI, 4, .inl (fun z_ => nI (st z_)))), (bq 2, .inl (cI, 12, .inl (fun z_ => nI (ex z_)))), (bq 3, .inl (cI, 12, .inl (fun z_ => nI (tl z_)))), (bq 4, .inl (cI, 12, .inl (fun z_ => nI (he z_)))), (bq 5, .inl (cI, 12, .inl (fun z_ => nI (dy z_)))), (bq 6, .inl (cI, 12, .inl (fun z_ => nI (se z_)))), pO a pq (bx 0) (bx 2) (bx 1) (szN bx (bx 0)) (bx 3) (bx 4), (pq 0, .inl (cI, 4, .inl (fun z_ => nI (te z_)))), (pq 1, .inl (cI, 4, .inl (fun z_ => nI (ps z_)))), (pq 2, .inl (cI, 4, .inl (fun z_ => nI (pu z_)))), (pq 3, .inl (cI, 4, .inl (fun z_ => nI (sd z_)))), (pq 4, .inl (cI, 8, .inl (fun z_ => nI (cj z_)))), (pq 5, .inl (cI, 5, .inl (fun z_ => nI (ta z_))))] := hD
          rw [ft_rd hR.b]
          show W p l e _ s m args below meth c _ _ _ _ Qf (F0 m _ _ [.int (nI (ftN bx nw k (szN bx (bx 0))))])
          have hft_q := ft_le bx nw k (szN bx (bx 0))
          have hsz_q := sz_lt hR.b
          refine lv_istore_n (lv' := [(3, .int (nI (ftN bx nw k (szN bx (bx 0))))), (0, .ref o), (1, .int (nI (j))), (2, .int (nI (k)))]) hx hb dX6_give_50 rfl hl (by decide) rfl (fun ls hl => ?_)
          refine lv_iload_n hx hb dX6_give_51 rfl (lv_at hl 0 rfl) ?_
          refine n_if_ne (tgt := 58) hx hb dX6_give_52 (by decide) (by omega) (fun c_11 => ?_) (fun c_11 => ?_)
          · -- 52 to 58
            refine lv_aload_n hx hb dX6_give_58 rfl (lv_at hl 1 rfl) ?_
            refine gf_6_28 hx hb hts hown hK hP 0 rfl rfl dX6_give_59 ?_
            refine lv_aload_n hx hb dX6_give_62 rfl (lv_at hl 1 rfl) ?_
            refine gf_6_38 hx hb hts hown hK hP 0 rfl rfl dX6_give_63 ?_
            refine cl_6_165 (As := [.ref b]) (rest := []) hx hb hml hts hown (k_X3_push (n := 8) hzn (by decide) hf hzc) (by decide) ⟨Nat.zero_le _, Nat.zero_le _⟩ hK hP hD hS hA 1 rfl [1, 2, 3, 4, 5, 6, 7, 8, 9, 10, 11, 12, 13, 14, 15, 16, 17, 18] rfl (by decide) rfl hl.1 rfl (Nat.le_of_ble_eq_true rfl) dX6_give_66 (fun  u H locs hp_12 hP hD hS => ?_)
            subst hp_12
            dsimp only [putAll, List.set] at hP hD
            have hP : va_P D vwCl [(o, .inr (6, [.ref xt, .ref xg, .ref xu, .ref xk, .ref b, .ref xd, .ref xe, .ref a, .ref xf])), sO xu uq (nxN 8 zn) (ctN 8 zc), (uq 0, .inl (cB, 8, .inr (.inr (.inr (.inr uf))))), bO b2 bq2 fi ((nw 2)) ((nw 0)) ((nw 1)), (bq2 0, .inl (cI, 4, .inl (fun z_ => nI (up z_)))), (bq2 1, .inl (cI, 4, .inl (fun z_ => nI (st z_)))), (bq2 2, .inl (cI, 12, .inl (fun z_ => nI (ex z_)))), (bq2 3, .inl (cI, 12, .inl (fun z_ => nI (tl z_)))), (bq2 4, .inl (cI, 12, .inl (fun z_ => nI (he z_)))), (bq2 5, .inl (cI, 12, .inl (fun z_ => nI (dy z_)))), (bq2 6, .inl (cI, 12, .inl (fun z_ => nI (se z_)))), bO b bq fi ((nw 2)) ((nw 0)) ((nw 1)), (bq 0, .inl (cI, 4, .inl (fun z_ => nI (up z_)))), (bq 1, .inl (cI, 4, .inl (fun z_ => nI (st z_)))), (bq 2, .inl (cI, 12, .inl (fun z_ => nI (ex z_)))), (bq 3, .inl (cI, 12, .inl (fun z_ => nI (tl z_)))), (bq 4, .inl (cI, 12, .inl (fun z_ => nI (he z_)))), (bq 5, .inl (cI, 12, .inl (fun z_ => nI (dy z_)))), (bq 6, .inl (cI, 12, .inl (fun z_ => nI (se z_)))), pO a pq (bx 0) (bx 2) (bx 1) (szN bx (bx 0)) (bx 3) (bx 4), (pq 0, .inl (cI, 4, .inl (fun z_ => nI (te z_)))), (pq 1, .inl (cI, 4, .inl (fun z_ => nI (ps z_)))), (pq 2, .inl (cI, 4, .inl (fun z_ => nI (pu z_)))), (pq 3, .inl (cI, 4, .inl (fun z_ => nI (sd z_)))), (pq 4, .inl (cI, 8, .inl (fun z_ => nI (cj z_)))), (pq 5, .inl (cI, 5, .inl (fun z_ => nI (ta z_))))] _ := hP
            have hD : va_D A [(o, .inr (6, [.ref xt, .ref xg, .ref xu, .ref xk, .ref b, .ref xd, .ref xe, .ref a, .ref xf])), sO xu uq (nxN 8 zn) (ctN 8 zc), (uq 0, .inl (cB, 8, .inr (.inr (.inr (.inr uf))))), bO b2 bq2 fi ((nw 2)) ((nw 0)) ((nw 1)), (bq2 0, .inl (cI, 4, .inl (fun z_ => nI (up z_)))), (bq2 1, .inl (cI, 4, .inl (fun z_ => nI (st z_)))), (bq2 2, .inl (cI, 12, .inl (fun z_ => nI (ex z_)))), (bq2 3, .inl (cI, 12, .inl (fun z_ => nI (tl z_)))), (bq2 4, .inl (cI, 12, .inl (fun z_ => nI (he z_)))), (bq2 5, .inl (cI, 12, .inl (fun z_ => nI (dy z_)))), (bq2 6, .inl (cI, 12, .inl (fun z_ => nI (se z_)))), bO b bq fi ((nw 2)) ((nw 0)) ((nw 1)), (bq 0, .inl (cI, 4, .inl (fun z_ => nI (up z_)))), (bq 1, .inl (cI, 4, .inl (fun z_ => nI (st z_)))), (bq 2, .inl (cI, 12, .inl (fun z_ => nI (ex z_)))), (bq 3, .inl (cI, 12, .inl (fun z_ => nI (tl z_)))), (bq 4, .inl (cI, 12, .inl (fun z_ => nI (he z_)))), (bq 5, .inl (cI, 12, .inl (fun z_ => nI (dy z_)))), (bq 6, .inl (cI, 12, .inl (fun z_ => nI (se z_)))), pO a pq (bx 0) (bx 2) (bx 1) (szN bx (bx 0)) (bx 3) (bx 4), (pq 0, .inl (cI, 4, .inl (fun z_ => nI (te z_)))), (pq 1, .inl (cI, 4, .inl (fun z_ => nI (ps z_)))), (pq 2, .inl (cI, 4, .inl (fun z_ => nI (pu z_)))), (pq 3, .inl (cI, 4, .inl (fun z_ => nI (sd z_)))), (pq 4, .inl (cI, 8, .inl (fun z_ => nI (cj z_)))), (pq 5, .inl (cI, 5, .inl (fun z_ => nI (ta z_))))] := hD
            refine lv_aload_n hx hb dX6_give_69 rfl (lv_at hl 1 rfl) ?_
            refine gf_6_38 hx hb hts hown hK hP 0 rfl rfl dX6_give_70 ?_
            refine lv_aload_n hx hb dX6_give_73 rfl (lv_at hl 1 rfl) ?_
            refine gf_6_55 hx hb hts hown hK hP 0 rfl rfl dX6_give_74 ?_
            refine lv_iload_n hx hb dX6_give_77 rfl (lv_at hl 0 rfl) ?_
            refine cl_6_169 (As := [.ref a, .int (nI (ftN bx nw k (szN bx (bx 0))))]) (rest := []) hx hb hml hts hown (k_X0_turnBy hR hX (by omega)) (by decide) ⟨Nat.zero_le _, Nat.zero_le _⟩ hK hP hD hS hA 11 rfl [11, 12, 13, 14, 15, 16, 17, 18, 19, 20, 21, 22, 23, 24, 25] rfl (by decide) rfl hl.1 rfl (Nat.le_of_ble_eq_true rfl) dX6_give_78 (fun  u H locs hp_13 hP hD hS => ?_)
            subst hp_13
            dsimp only [putAll, List.set] at hP hD
            have hP : va_P D vwCl [(o, .inr (6, [.ref xt, .ref xg, .ref xu, .ref xk, .ref b, .ref xd, .ref xe, .ref a, .ref xf])), sO xu uq (nxN 8 zn) (ctN 8 zc), (uq 0, .inl (cB, 8, .inr (.inr (.inr (.inr uf))))), bO b2 bq2 fi ((nw 2)) ((nw 0)) ((nw 1)), (bq2 0, .inl (cI, 4, .inl (fun z_ => nI (up z_)))), (bq2 1, .inl (cI, 4, .inl (fun z_ => nI (st z_)))), (bq2 2, .inl (cI, 12, .inl (fun z_ => nI (ex z_)))), (bq2 3, .inl (cI, 12, .inl (fun z_ => nI (tl z_)))), (bq2 4, .inl (cI, 12, .inl (fun z_ => nI (he z_)))), (bq2 5, .inl (cI, 12, .inl (fun z_ => nI (dy z_)))), (bq2 6, .inl (cI, 12, .inl (fun z_ => nI (se z_)))), bO b bq fi (nw 2) (nw 0) (nw 1 + (ftN bx nw k (szN bx (bx 0)))), (bq 0, .inl (cI, 4, .inl (fun z_ => nI ((upI bx up st (ftN bx nw k (szN bx (bx 0))) (bx 0)) z_)))), (bq 1, .inl (cI, 4, .inl (fun z_ => nI (st z_)))), (bq 2, .inl (cI, 12, .inl (fun z_ => nI (ex z_)))), (bq 3, .inl (cI, 12, .inl (fun z_ => nI (tl z_)))), (bq 4, .inl (cI, 12, .inl (fun z_ => nI (he z_)))), (bq 5, .inl (cI, 12, .inl (fun z_ => nI (dy z_)))), (bq 6, .inl (cI, 12, .inl (fun z_ => nI (se z_)))), pO a pq (bx 0) (bx 2) (bx 1) (szN bx (bx 0)) (bx 3) (bx 4), (pq 0, .inl (cI, 4, .inl (fun z_ => nI (te z_)))), (pq 1, .inl (cI, 4, .inl (fun z_ => nI (ps z_)))), (pq 2, .inl (cI, 4, .inl (fun z_ => nI (pu z_)))), (pq 3, .inl (cI, 4, .inl (fun z_ => nI (sd z_)))), (pq 4, .inl (cI, 8, .inl (fun z_ => nI (cj z_)))), (pq 5, .inl (cI, 5, .inl (fun z_ => nI (ta z_))))] _ := hP
            have hD : va_D A [(o, .inr (6, [.ref xt, .ref xg, .ref xu, .ref xk, .ref b, .ref xd, .ref xe, .ref a, .ref xf])), sO xu uq (nxN 8 zn) (ctN 8 zc), (uq 0, .inl (cB, 8, .inr (.inr (.inr (.inr uf))))), bO b2 bq2 fi ((nw 2)) ((nw 0)) ((nw 1)), (bq2 0, .inl (cI, 4, .inl (fun z_ => nI (up z_)))), (bq2 1, .inl (cI, 4, .inl (fun z_ => nI (st z_)))), (bq2 2, .inl (cI, 12, .inl (fun z_ => nI (ex z_)))), (bq2 3, .inl (cI, 12, .inl (fun z_ => nI (tl z_)))), (bq2 4, .inl (cI, 12, .inl (fun z_ => nI (he z_)))), (bq2 5, .inl (cI, 12, .inl (fun z_ => nI (dy z_)))), (bq2 6, .inl (cI, 12, .inl (fun z_ => nI (se z_)))), bO b bq fi (nw 2) (nw 0) (nw 1 + (ftN bx nw k (szN bx (bx 0)))), (bq 0, .inl (cI, 4, .inl (fun z_ => nI ((upI bx up st (ftN bx nw k (szN bx (bx 0))) (bx 0)) z_)))), (bq 1, .inl (cI, 4, .inl (fun z_ => nI (st z_)))), (bq 2, .inl (cI, 12, .inl (fun z_ => nI (ex z_)))), (bq 3, .inl (cI, 12, .inl (fun z_ => nI (tl z_)))), (bq 4, .inl (cI, 12, .inl (fun z_ => nI (he z_)))), (bq 5, .inl (cI, 12, .inl (fun z_ => nI (dy z_)))), (bq 6, .inl (cI, 12, .inl (fun z_ => nI (se z_)))), pO a pq (bx 0) (bx 2) (bx 1) (szN bx (bx 0)) (bx 3) (bx 4), (pq 0, .inl (cI, 4, .inl (fun z_ => nI (te z_)))), (pq 1, .inl (cI, 4, .inl (fun z_ => nI (ps z_)))), (pq 2, .inl (cI, 4, .inl (fun z_ => nI (pu z_)))), (pq 3, .inl (cI, 4, .inl (fun z_ => nI (sd z_)))), (pq 4, .inl (cI, 8, .inl (fun z_ => nI (cj z_)))), (pq 5, .inl (cI, 5, .inl (fun z_ => nI (ta z_))))] := hD
            have hbt_q := bo_tr hR.b hX (ftN bx nw k (szN bx (bx 0))) (by omega) hbl
            have eb_q : (bO b bq fi (nw 2) (nw 0) (nw 1 + (ftN bx nw k (szN bx (bx 0)))) : Nat × va_E) = bO b bq fi (trN bx nw (ftN bx nw k (szN bx (bx 0))) 2) (trN bx nw (ftN bx nw k (szN bx (bx 0))) 0) (trN bx nw (ftN bx nw k (szN bx (bx 0))) 1) := by rw [tr_o bx nw (ftN bx nw k (szN bx (bx 0))) 2 (by omega) (by omega), tr_o bx nw (ftN bx nw k (szN bx (bx 0))) 0 (by omega) (by omega), tr_1]
            rw [eb_q] at hP hD
            have hP : va_P D vwCl [(o, .inr (6, [.ref xt, .ref xg, .ref xu, .ref xk, .ref b, .ref xd, .ref xe, .ref a, .ref xf])), sO xu uq (nxN 8 zn) (ctN 8 zc), (uq 0, .inl (cB, 8, .inr (.inr (.inr (.inr uf))))), bO b2 bq2 fi ((nw 2)) ((nw 0)) ((nw 1)), (bq2 0, .inl (cI, 4, .inl (fun z_ => nI (up z_)))), (bq2 1, .inl (cI, 4, .inl (fun z_ => nI (st z_)))), (bq2 2, .inl (cI, 12, .inl (fun z_ => nI (ex z_)))), (bq2 3, .inl (cI, 12, .inl (fun z_ => nI (tl z_)))), (bq2 4, .inl (cI, 12, .inl (fun z_ => nI (he z_)))), (bq2 5, .inl (cI, 12, .inl (fun z_ => nI (dy z_)))), (bq2 6, .inl (cI, 12, .inl (fun z_ => nI (se z_)))), bO b bq fi (trN bx nw (ftN bx nw k (szN bx (bx 0))) 2) (trN bx nw (ftN bx nw k (szN bx (bx 0))) 0) (trN bx nw (ftN bx nw k (szN bx (bx 0))) 1), (bq 0, .inl (cI, 4, .inl (fun z_ => nI ((upI bx up st (ftN bx nw k (szN bx (bx 0))) (bx 0)) z_)))), (bq 1, .inl (cI, 4, .inl (fun z_ => nI (st z_)))), (bq 2, .inl (cI, 12, .inl (fun z_ => nI (ex z_)))), (bq 3, .inl (cI, 12, .inl (fun z_ => nI (tl z_)))), (bq 4, .inl (cI, 12, .inl (fun z_ => nI (he z_)))), (bq 5, .inl (cI, 12, .inl (fun z_ => nI (dy z_)))), (bq 6, .inl (cI, 12, .inl (fun z_ => nI (se z_)))), pO a pq (bx 0) (bx 2) (bx 1) (szN bx (bx 0)) (bx 3) (bx 4), (pq 0, .inl (cI, 4, .inl (fun z_ => nI (te z_)))), (pq 1, .inl (cI, 4, .inl (fun z_ => nI (ps z_)))), (pq 2, .inl (cI, 4, .inl (fun z_ => nI (pu z_)))), (pq 3, .inl (cI, 4, .inl (fun z_ => nI (sd z_)))), (pq 4, .inl (cI, 8, .inl (fun z_ => nI (cj z_)))), (pq 5, .inl (cI, 5, .inl (fun z_ => nI (ta z_))))] _ := hP
            have hD : va_D A [(o, .inr (6, [.ref xt, .ref xg, .ref xu, .ref xk, .ref b, .ref xd, .ref xe, .ref a, .ref xf])), sO xu uq (nxN 8 zn) (ctN 8 zc), (uq 0, .inl (cB, 8, .inr (.inr (.inr (.inr uf))))), bO b2 bq2 fi ((nw 2)) ((nw 0)) ((nw 1)), (bq2 0, .inl (cI, 4, .inl (fun z_ => nI (up z_)))), (bq2 1, .inl (cI, 4, .inl (fun z_ => nI (st z_)))), (bq2 2, .inl (cI, 12, .inl (fun z_ => nI (ex z_)))), (bq2 3, .inl (cI, 12, .inl (fun z_ => nI (tl z_)))), (bq2 4, .inl (cI, 12, .inl (fun z_ => nI (he z_)))), (bq2 5, .inl (cI, 12, .inl (fun z_ => nI (dy z_)))), (bq2 6, .inl (cI, 12, .inl (fun z_ => nI (se z_)))), bO b bq fi (trN bx nw (ftN bx nw k (szN bx (bx 0))) 2) (trN bx nw (ftN bx nw k (szN bx (bx 0))) 0) (trN bx nw (ftN bx nw k (szN bx (bx 0))) 1), (bq 0, .inl (cI, 4, .inl (fun z_ => nI ((upI bx up st (ftN bx nw k (szN bx (bx 0))) (bx 0)) z_)))), (bq 1, .inl (cI, 4, .inl (fun z_ => nI (st z_)))), (bq 2, .inl (cI, 12, .inl (fun z_ => nI (ex z_)))), (bq 3, .inl (cI, 12, .inl (fun z_ => nI (tl z_)))), (bq 4, .inl (cI, 12, .inl (fun z_ => nI (he z_)))), (bq 5, .inl (cI, 12, .inl (fun z_ => nI (dy z_)))), (bq 6, .inl (cI, 12, .inl (fun z_ => nI (se z_)))), pO a pq (bx 0) (bx 2) (bx 1) (szN bx (bx 0)) (bx 3) (bx 4), (pq 0, .inl (cI, 4, .inl (fun z_ => nI (te z_)))), (pq 1, .inl (cI, 4, .inl (fun z_ => nI (ps z_)))), (pq 2, .inl (cI, 4, .inl (fun z_ => nI (pu z_)))), (pq 3, .inl (cI, 4, .inl (fun z_ => nI (sd z_)))), (pq 4, .inl (cI, 8, .inl (fun z_ => nI (cj z_)))), (pq 5, .inl (cI, 5, .inl (fun z_ => nI (ta z_))))] := hD
            refine lv_aload_n hx hb dX6_give_81 rfl (lv_at hl 1 rfl) ?_
            refine gf_6_38 hx hb hts hown hK hP 0 rfl rfl dX6_give_82 ?_
            refine lv_aload_n hx hb dX6_give_85 rfl (lv_at hl 1 rfl) ?_
            refine gf_6_55 hx hb hts hown hK hP 0 rfl rfl dX6_give_86 ?_
            refine lv_iload_n hx hb dX6_give_89 rfl (lv_at hl 2 rfl) ?_
            refine lv_iload_n hx hb dX6_give_90 rfl (lv_at hl 3 rfl) ?_
            refine cl_6_183 (As := [.ref a, .int (nI (j)), .int (nI (k))]) (rest := []) hx hb hml hts hown (k_X0_tell hR hbt_q hj hk) (by decide) ⟨Nat.zero_le _, Nat.zero_le _⟩ hK hP hD hS hA 11 rfl [11, 12, 13, 14, 15, 16, 17, 18, 19, 20, 21, 22, 23, 24, 25] rfl (by decide) rfl hl.1 rfl (Nat.le_of_ble_eq_true rfl) dX6_give_91 (fun r_14 u H locs hp_15 hP hD hS => ?_)
            rcases hp_15 with ⟨hq_16, rfl, rfl⟩ | ⟨hq_17, rfl, rfl⟩
            · -- case 0 of k_X0_tell
              dsimp only [putAll, List.set] at hP hD
              have hP : va_P D vwCl [(o, .inr (6, [.ref xt, .ref xg, .ref xu, .ref xk, .ref b, .ref xd, .ref xe, .ref a, .ref xf])), sO xu uq (nxN 8 zn) (ctN 8 zc), (uq 0, .inl (cB, 8, .inr (.inr (.inr (.inr uf))))), bO b2 bq2 fi ((nw 2)) ((nw 0)) ((nw 1)), (bq2 0, .inl (cI, 4, .inl (fun z_ => nI (up z_)))), (bq2 1, .inl (cI, 4, .inl (fun z_ => nI (st z_)))), (bq2 2, .inl (cI, 12, .inl (fun z_ => nI (ex z_)))), (bq2 3, .inl (cI, 12, .inl (fun z_ => nI (tl z_)))), (bq2 4, .inl (cI, 12, .inl (fun z_ => nI (he z_)))), (bq2 5, .inl (cI, 12, .inl (fun z_ => nI (dy z_)))), (bq2 6, .inl (cI, 12, .inl (fun z_ => nI (se z_)))), bO b bq fi ((trN bx nw (ftN bx nw k (szN bx (bx 0)))) 2 + 1) ((trN bx nw (ftN bx nw k (szN bx (bx 0)))) 0) ((trN bx nw (ftN bx nw k (szN bx (bx 0)))) 1), (bq 0, .inl (cI, 4, .inl (fun z_ => nI ((upI bx up st (ftN bx nw k (szN bx (bx 0))) (bx 0)) z_)))), (bq 1, .inl (cI, 4, .inl (fun z_ => nI (st z_)))), (bq 2, .inl (cI, 12, .inl (fun z_ => nI ((up1 ex ((trN bx nw (ftN bx nw k (szN bx (bx 0)))) 2) (ebN bx (trN bx nw (ftN bx nw k (szN bx (bx 0)))) 0)) z_)))), (bq 3, .inl (cI, 12, .inl (fun z_ => nI ((up1 tl ((trN bx nw (ftN bx nw k (szN bx (bx 0)))) 2) (j)) z_)))), (bq 4, .inl (cI, 12, .inl (fun z_ => nI ((up1 he ((trN bx nw (ftN bx nw k (szN bx (bx 0)))) 2) (k)) z_)))), (bq 5, .inl (cI, 12, .inl (fun z_ => nI ((up1 dy ((trN bx nw (ftN bx nw k (szN bx (bx 0)))) 2) ((trN bx nw (ftN bx nw k (szN bx (bx 0)))) 0)) z_)))), (bq 6, .inl (cI, 12, .inl (fun z_ => nI ((up1 se ((trN bx nw (ftN bx nw k (szN bx (bx 0)))) 2) (b2n (seeN bx (trN bx nw (ftN bx nw k (szN bx (bx 0)))) (ebN bx (trN bx nw (ftN bx nw k (szN bx (bx 0)))) 0) j k ((trN bx nw (ftN bx nw k (szN bx (bx 0)))) 2)))) z_)))), pO a pq (bx 0) (bx 2) (bx 1) (szN bx (bx 0)) (bx 3) (bx 4), (pq 0, .inl (cI, 4, .inl (fun z_ => nI (te z_)))), (pq 1, .inl (cI, 4, .inl (fun z_ => nI (ps z_)))), (pq 2, .inl (cI, 4, .inl (fun z_ => nI (pu z_)))), (pq 3, .inl (cI, 4, .inl (fun z_ => nI (sd z_)))), (pq 4, .inl (cI, 8, .inl (fun z_ => nI (cj z_)))), (pq 5, .inl (cI, 5, .inl (fun z_ => nI (ta z_))))] _ := hP
              have hD : va_D A [(o, .inr (6, [.ref xt, .ref xg, .ref xu, .ref xk, .ref b, .ref xd, .ref xe, .ref a, .ref xf])), sO xu uq (nxN 8 zn) (ctN 8 zc), (uq 0, .inl (cB, 8, .inr (.inr (.inr (.inr uf))))), bO b2 bq2 fi ((nw 2)) ((nw 0)) ((nw 1)), (bq2 0, .inl (cI, 4, .inl (fun z_ => nI (up z_)))), (bq2 1, .inl (cI, 4, .inl (fun z_ => nI (st z_)))), (bq2 2, .inl (cI, 12, .inl (fun z_ => nI (ex z_)))), (bq2 3, .inl (cI, 12, .inl (fun z_ => nI (tl z_)))), (bq2 4, .inl (cI, 12, .inl (fun z_ => nI (he z_)))), (bq2 5, .inl (cI, 12, .inl (fun z_ => nI (dy z_)))), (bq2 6, .inl (cI, 12, .inl (fun z_ => nI (se z_)))), bO b bq fi ((trN bx nw (ftN bx nw k (szN bx (bx 0)))) 2 + 1) ((trN bx nw (ftN bx nw k (szN bx (bx 0)))) 0) ((trN bx nw (ftN bx nw k (szN bx (bx 0)))) 1), (bq 0, .inl (cI, 4, .inl (fun z_ => nI ((upI bx up st (ftN bx nw k (szN bx (bx 0))) (bx 0)) z_)))), (bq 1, .inl (cI, 4, .inl (fun z_ => nI (st z_)))), (bq 2, .inl (cI, 12, .inl (fun z_ => nI ((up1 ex ((trN bx nw (ftN bx nw k (szN bx (bx 0)))) 2) (ebN bx (trN bx nw (ftN bx nw k (szN bx (bx 0)))) 0)) z_)))), (bq 3, .inl (cI, 12, .inl (fun z_ => nI ((up1 tl ((trN bx nw (ftN bx nw k (szN bx (bx 0)))) 2) (j)) z_)))), (bq 4, .inl (cI, 12, .inl (fun z_ => nI ((up1 he ((trN bx nw (ftN bx nw k (szN bx (bx 0)))) 2) (k)) z_)))), (bq 5, .inl (cI, 12, .inl (fun z_ => nI ((up1 dy ((trN bx nw (ftN bx nw k (szN bx (bx 0)))) 2) ((trN bx nw (ftN bx nw k (szN bx (bx 0)))) 0)) z_)))), (bq 6, .inl (cI, 12, .inl (fun z_ => nI ((up1 se ((trN bx nw (ftN bx nw k (szN bx (bx 0)))) 2) (b2n (seeN bx (trN bx nw (ftN bx nw k (szN bx (bx 0)))) (ebN bx (trN bx nw (ftN bx nw k (szN bx (bx 0)))) 0) j k ((trN bx nw (ftN bx nw k (szN bx (bx 0)))) 2)))) z_)))), pO a pq (bx 0) (bx 2) (bx 1) (szN bx (bx 0)) (bx 3) (bx 4), (pq 0, .inl (cI, 4, .inl (fun z_ => nI (te z_)))), (pq 1, .inl (cI, 4, .inl (fun z_ => nI (ps z_)))), (pq 2, .inl (cI, 4, .inl (fun z_ => nI (pu z_)))), (pq 3, .inl (cI, 4, .inl (fun z_ => nI (sd z_)))), (pq 4, .inl (cI, 8, .inl (fun z_ => nI (cj z_)))), (pq 5, .inl (cI, 5, .inl (fun z_ => nI (ta z_))))] := hD
              have hq12_q : trN bx nw (ftN bx nw k (szN bx (bx 0))) 2 < 12 := hq_16
              have hgs_q := gs_1s (x := j) (y := k) hbt_q.1 hq12_q
              have eb2_q : (bO b bq fi ((trN bx nw (ftN bx nw k (szN bx (bx 0)))) 2 + 1) ((trN bx nw (ftN bx nw k (szN bx (bx 0)))) 0) ((trN bx nw (ftN bx nw k (szN bx (bx 0)))) 1) : Nat × va_E) = bO b bq fi (gsN bx nw j k (ftN bx nw k (szN bx (bx 0))) 2) (gsN bx nw j k (ftN bx nw k (szN bx (bx 0))) 0) (gsN bx nw j k (ftN bx nw k (szN bx (bx 0))) 1) := by rw [hgs_q.2.1, hgs_q.2.2.1, hgs_q.2.2.2]
              rw [eb2_q] at hP hD
              have hP : va_P D vwCl [(o, .inr (6, [.ref xt, .ref xg, .ref xu, .ref xk, .ref b, .ref xd, .ref xe, .ref a, .ref xf])), sO xu uq (nxN 8 zn) (ctN 8 zc), (uq 0, .inl (cB, 8, .inr (.inr (.inr (.inr uf))))), bO b2 bq2 fi ((nw 2)) ((nw 0)) ((nw 1)), (bq2 0, .inl (cI, 4, .inl (fun z_ => nI (up z_)))), (bq2 1, .inl (cI, 4, .inl (fun z_ => nI (st z_)))), (bq2 2, .inl (cI, 12, .inl (fun z_ => nI (ex z_)))), (bq2 3, .inl (cI, 12, .inl (fun z_ => nI (tl z_)))), (bq2 4, .inl (cI, 12, .inl (fun z_ => nI (he z_)))), (bq2 5, .inl (cI, 12, .inl (fun z_ => nI (dy z_)))), (bq2 6, .inl (cI, 12, .inl (fun z_ => nI (se z_)))), bO b bq fi (gsN bx nw j k (ftN bx nw k (szN bx (bx 0))) 2) (gsN bx nw j k (ftN bx nw k (szN bx (bx 0))) 0) (gsN bx nw j k (ftN bx nw k (szN bx (bx 0))) 1), (bq 0, .inl (cI, 4, .inl (fun z_ => nI ((upI bx up st (ftN bx nw k (szN bx (bx 0))) (bx 0)) z_)))), (bq 1, .inl (cI, 4, .inl (fun z_ => nI (st z_)))), (bq 2, .inl (cI, 12, .inl (fun z_ => nI ((up1 ex ((trN bx nw (ftN bx nw k (szN bx (bx 0)))) 2) (ebN bx (trN bx nw (ftN bx nw k (szN bx (bx 0)))) 0)) z_)))), (bq 3, .inl (cI, 12, .inl (fun z_ => nI ((up1 tl ((trN bx nw (ftN bx nw k (szN bx (bx 0)))) 2) (j)) z_)))), (bq 4, .inl (cI, 12, .inl (fun z_ => nI ((up1 he ((trN bx nw (ftN bx nw k (szN bx (bx 0)))) 2) (k)) z_)))), (bq 5, .inl (cI, 12, .inl (fun z_ => nI ((up1 dy ((trN bx nw (ftN bx nw k (szN bx (bx 0)))) 2) ((trN bx nw (ftN bx nw k (szN bx (bx 0)))) 0)) z_)))), (bq 6, .inl (cI, 12, .inl (fun z_ => nI ((up1 se ((trN bx nw (ftN bx nw k (szN bx (bx 0)))) 2) (b2n (seeN bx (trN bx nw (ftN bx nw k (szN bx (bx 0)))) (ebN bx (trN bx nw (ftN bx nw k (szN bx (bx 0)))) 0) j k ((trN bx nw (ftN bx nw k (szN bx (bx 0)))) 2)))) z_)))), pO a pq (bx 0) (bx 2) (bx 1) (szN bx (bx 0)) (bx 3) (bx 4), (pq 0, .inl (cI, 4, .inl (fun z_ => nI (te z_)))), (pq 1, .inl (cI, 4, .inl (fun z_ => nI (ps z_)))), (pq 2, .inl (cI, 4, .inl (fun z_ => nI (pu z_)))), (pq 3, .inl (cI, 4, .inl (fun z_ => nI (sd z_)))), (pq 4, .inl (cI, 8, .inl (fun z_ => nI (cj z_)))), (pq 5, .inl (cI, 5, .inl (fun z_ => nI (ta z_))))] _ := hP
              have hD : va_D A [(o, .inr (6, [.ref xt, .ref xg, .ref xu, .ref xk, .ref b, .ref xd, .ref xe, .ref a, .ref xf])), sO xu uq (nxN 8 zn) (ctN 8 zc), (uq 0, .inl (cB, 8, .inr (.inr (.inr (.inr uf))))), bO b2 bq2 fi ((nw 2)) ((nw 0)) ((nw 1)), (bq2 0, .inl (cI, 4, .inl (fun z_ => nI (up z_)))), (bq2 1, .inl (cI, 4, .inl (fun z_ => nI (st z_)))), (bq2 2, .inl (cI, 12, .inl (fun z_ => nI (ex z_)))), (bq2 3, .inl (cI, 12, .inl (fun z_ => nI (tl z_)))), (bq2 4, .inl (cI, 12, .inl (fun z_ => nI (he z_)))), (bq2 5, .inl (cI, 12, .inl (fun z_ => nI (dy z_)))), (bq2 6, .inl (cI, 12, .inl (fun z_ => nI (se z_)))), bO b bq fi (gsN bx nw j k (ftN bx nw k (szN bx (bx 0))) 2) (gsN bx nw j k (ftN bx nw k (szN bx (bx 0))) 0) (gsN bx nw j k (ftN bx nw k (szN bx (bx 0))) 1), (bq 0, .inl (cI, 4, .inl (fun z_ => nI ((upI bx up st (ftN bx nw k (szN bx (bx 0))) (bx 0)) z_)))), (bq 1, .inl (cI, 4, .inl (fun z_ => nI (st z_)))), (bq 2, .inl (cI, 12, .inl (fun z_ => nI ((up1 ex ((trN bx nw (ftN bx nw k (szN bx (bx 0)))) 2) (ebN bx (trN bx nw (ftN bx nw k (szN bx (bx 0)))) 0)) z_)))), (bq 3, .inl (cI, 12, .inl (fun z_ => nI ((up1 tl ((trN bx nw (ftN bx nw k (szN bx (bx 0)))) 2) (j)) z_)))), (bq 4, .inl (cI, 12, .inl (fun z_ => nI ((up1 he ((trN bx nw (ftN bx nw k (szN bx (bx 0)))) 2) (k)) z_)))), (bq 5, .inl (cI, 12, .inl (fun z_ => nI ((up1 dy ((trN bx nw (ftN bx nw k (szN bx (bx 0)))) 2) ((trN bx nw (ftN bx nw k (szN bx (bx 0)))) 0)) z_)))), (bq 6, .inl (cI, 12, .inl (fun z_ => nI ((up1 se ((trN bx nw (ftN bx nw k (szN bx (bx 0)))) 2) (b2n (seeN bx (trN bx nw (ftN bx nw k (szN bx (bx 0)))) (ebN bx (trN bx nw (ftN bx nw k (szN bx (bx 0)))) 0) j k ((trN bx nw (ftN bx nw k (szN bx (bx 0)))) 2)))) z_)))), pO a pq (bx 0) (bx 2) (bx 1) (szN bx (bx 0)) (bx 3) (bx 4), (pq 0, .inl (cI, 4, .inl (fun z_ => nI (te z_)))), (pq 1, .inl (cI, 4, .inl (fun z_ => nI (ps z_)))), (pq 2, .inl (cI, 4, .inl (fun z_ => nI (pu z_)))), (pq 3, .inl (cI, 4, .inl (fun z_ => nI (sd z_)))), (pq 4, .inl (cI, 8, .inl (fun z_ => nI (cj z_)))), (pq 5, .inl (cI, 5, .inl (fun z_ => nI (ta z_))))] := hD
              have hbo_q : BoR bx (gsN bx nw j k (ftN bx nw k (szN bx (bx 0)))) (upI bx up st (ftN bx nw k (szN bx (bx 0))) (bx 0)) st (up1 ex ((trN bx nw (ftN bx nw k (szN bx (bx 0)))) 2) (ebN bx (trN bx nw (ftN bx nw k (szN bx (bx 0)))) 0)) (up1 tl ((trN bx nw (ftN bx nw k (szN bx (bx 0)))) 2) (j)) (up1 he ((trN bx nw (ftN bx nw k (szN bx (bx 0)))) 2) (k)) (up1 dy ((trN bx nw (ftN bx nw k (szN bx (bx 0)))) 2) ((trN bx nw (ftN bx nw k (szN bx (bx 0)))) 0)) (up1 se ((trN bx nw (ftN bx nw k (szN bx (bx 0)))) 2) (b2n (seeN bx (trN bx nw (ftN bx nw k (szN bx (bx 0)))) (ebN bx (trN bx nw (ftN bx nw k (szN bx (bx 0)))) 0) j k ((trN bx nw (ftN bx nw k (szN bx (bx 0)))) 2)))) fi := by rw [hgs_q.1]; exact bo_gv1 hR.b hbt_q hq12_q (eb_sz hR.b _ _) hj hk (b2n_le _) (by rw [tr_o bx nw _ 3 (by omega) (by omega), hsm]; have h9 := sm_le hX.d (nw 2) (Nat.le_refl _); omega)
              refine lv_pop hx hb dX6_give_94 rfl ?_
              refine lv_aload_n hx hb dX6_give_95 rfl (lv_at hl 1 rfl) ?_
              refine gf_6_38 hx hb hts hown hK hP 0 rfl rfl dX6_give_96 ?_
              refine lv_aload_n hx hb dX6_give_99 rfl (lv_at hl 1 rfl) ?_
              refine gf_6_55 hx hb hts hown hK hP 0 rfl rfl dX6_give_100 ?_
              refine lv_iconst (v := nI 0) hx hb dX6_give_103 (by decide) ?_
              refine cl_6_173 (As := [.ref a, .int (nI (0))]) (rest := []) hx hb hml hts hown (k_X0_excuseBehind hR hbo_q (by omega)) (by decide) ⟨Nat.zero_le _, Nat.zero_le _⟩ hK hP hD hS hA 11 rfl [11, 12, 13, 14, 15, 16, 17, 18, 19, 20, 21, 22, 23, 24, 25] rfl (by decide) rfl hl.1 rfl (Nat.le_of_ble_eq_true rfl) dX6_give_104 (fun r_18 u H locs hp_19 hP hD hS => ?_)
              obtain ⟨rfl, rfl⟩ := hp_19
              dsimp only [putAll, List.set] at hP hD
              have hP : va_P D vwCl [(o, .inr (6, [.ref xt, .ref xg, .ref xu, .ref xk, .ref b, .ref xd, .ref xe, .ref a, .ref xf])), sO xu uq (nxN 8 zn) (ctN 8 zc), (uq 0, .inl (cB, 8, .inr (.inr (.inr (.inr uf))))), bO b2 bq2 fi ((nw 2)) ((nw 0)) ((nw 1)), (bq2 0, .inl (cI, 4, .inl (fun z_ => nI (up z_)))), (bq2 1, .inl (cI, 4, .inl (fun z_ => nI (st z_)))), (bq2 2, .inl (cI, 12, .inl (fun z_ => nI (ex z_)))), (bq2 3, .inl (cI, 12, .inl (fun z_ => nI (tl z_)))), (bq2 4, .inl (cI, 12, .inl (fun z_ => nI (he z_)))), (bq2 5, .inl (cI, 12, .inl (fun z_ => nI (dy z_)))), (bq2 6, .inl (cI, 12, .inl (fun z_ => nI (se z_)))), bO b bq fi ((gsN bx nw j k (ftN bx nw k (szN bx (bx 0)))) 2) ((gsN bx nw j k (ftN bx nw k (szN bx (bx 0)))) 0) ((gsN bx nw j k (ftN bx nw k (szN bx (bx 0)))) 1), (bq 0, .inl (cI, 4, .inl (fun z_ => nI ((upI bx up st (ftN bx nw k (szN bx (bx 0))) (bx 0)) z_)))), (bq 1, .inl (cI, 4, .inl (fun z_ => nI (st z_)))), (bq 2, .inl (cI, 12, .inl (fun z_ => nI ((up1 ex ((trN bx nw (ftN bx nw k (szN bx (bx 0)))) 2) (ebN bx (trN bx nw (ftN bx nw k (szN bx (bx 0)))) 0)) z_)))), (bq 3, .inl (cI, 12, .inl (fun z_ => nI ((up1 tl ((trN bx nw (ftN bx nw k (szN bx (bx 0)))) 2) (j)) z_)))), (bq 4, .inl (cI, 12, .inl (fun z_ => nI ((up1 he ((trN bx nw (ftN bx nw k (szN bx (bx 0)))) 2) (k)) z_)))), (bq 5, .inl (cI, 12, .inl (fun z_ => nI ((up1 dy ((trN bx nw (ftN bx nw k (szN bx (bx 0)))) 2) ((trN bx nw (ftN bx nw k (szN bx (bx 0)))) 0)) z_)))), (bq 6, .inl (cI, 12, .inl (fun z_ => nI ((up1 se ((trN bx nw (ftN bx nw k (szN bx (bx 0)))) 2) (b2n (seeN bx (trN bx nw (ftN bx nw k (szN bx (bx 0)))) (ebN bx (trN bx nw (ftN bx nw k (szN bx (bx 0)))) 0) j k ((trN bx nw (ftN bx nw k (szN bx (bx 0)))) 2)))) z_)))), pO a pq (bx 0) (bx 2) (bx 1) (szN bx (bx 0)) (bx 3) (bx 4), (pq 0, .inl (cI, 4, .inl (fun z_ => nI (te z_)))), (pq 1, .inl (cI, 4, .inl (fun z_ => nI (ps z_)))), (pq 2, .inl (cI, 4, .inl (fun z_ => nI (pu z_)))), (pq 3, .inl (cI, 4, .inl (fun z_ => nI (sd z_)))), (pq 4, .inl (cI, 8, .inl (fun z_ => nI (cj z_)))), (pq 5, .inl (cI, 5, .inl (fun z_ => nI (ta z_))))] _ := hP
              have hD : va_D A [(o, .inr (6, [.ref xt, .ref xg, .ref xu, .ref xk, .ref b, .ref xd, .ref xe, .ref a, .ref xf])), sO xu uq (nxN 8 zn) (ctN 8 zc), (uq 0, .inl (cB, 8, .inr (.inr (.inr (.inr uf))))), bO b2 bq2 fi ((nw 2)) ((nw 0)) ((nw 1)), (bq2 0, .inl (cI, 4, .inl (fun z_ => nI (up z_)))), (bq2 1, .inl (cI, 4, .inl (fun z_ => nI (st z_)))), (bq2 2, .inl (cI, 12, .inl (fun z_ => nI (ex z_)))), (bq2 3, .inl (cI, 12, .inl (fun z_ => nI (tl z_)))), (bq2 4, .inl (cI, 12, .inl (fun z_ => nI (he z_)))), (bq2 5, .inl (cI, 12, .inl (fun z_ => nI (dy z_)))), (bq2 6, .inl (cI, 12, .inl (fun z_ => nI (se z_)))), bO b bq fi ((gsN bx nw j k (ftN bx nw k (szN bx (bx 0)))) 2) ((gsN bx nw j k (ftN bx nw k (szN bx (bx 0)))) 0) ((gsN bx nw j k (ftN bx nw k (szN bx (bx 0)))) 1), (bq 0, .inl (cI, 4, .inl (fun z_ => nI ((upI bx up st (ftN bx nw k (szN bx (bx 0))) (bx 0)) z_)))), (bq 1, .inl (cI, 4, .inl (fun z_ => nI (st z_)))), (bq 2, .inl (cI, 12, .inl (fun z_ => nI ((up1 ex ((trN bx nw (ftN bx nw k (szN bx (bx 0)))) 2) (ebN bx (trN bx nw (ftN bx nw k (szN bx (bx 0)))) 0)) z_)))), (bq 3, .inl (cI, 12, .inl (fun z_ => nI ((up1 tl ((trN bx nw (ftN bx nw k (szN bx (bx 0)))) 2) (j)) z_)))), (bq 4, .inl (cI, 12, .inl (fun z_ => nI ((up1 he ((trN bx nw (ftN bx nw k (szN bx (bx 0)))) 2) (k)) z_)))), (bq 5, .inl (cI, 12, .inl (fun z_ => nI ((up1 dy ((trN bx nw (ftN bx nw k (szN bx (bx 0)))) 2) ((trN bx nw (ftN bx nw k (szN bx (bx 0)))) 0)) z_)))), (bq 6, .inl (cI, 12, .inl (fun z_ => nI ((up1 se ((trN bx nw (ftN bx nw k (szN bx (bx 0)))) 2) (b2n (seeN bx (trN bx nw (ftN bx nw k (szN bx (bx 0)))) (ebN bx (trN bx nw (ftN bx nw k (szN bx (bx 0)))) 0) j k ((trN bx nw (ftN bx nw k (szN bx (bx 0)))) 2)))) z_)))), pO a pq (bx 0) (bx 2) (bx 1) (szN bx (bx 0)) (bx 3) (bx 4), (pq 0, .inl (cI, 4, .inl (fun z_ => nI (te z_)))), (pq 1, .inl (cI, 4, .inl (fun z_ => nI (ps z_)))), (pq 2, .inl (cI, 4, .inl (fun z_ => nI (pu z_)))), (pq 3, .inl (cI, 4, .inl (fun z_ => nI (sd z_)))), (pq 4, .inl (cI, 8, .inl (fun z_ => nI (cj z_)))), (pq 5, .inl (cI, 5, .inl (fun z_ => nI (ta z_))))] := hD
              refine hret hP hD hS dX6_give_107 rfl rfl ?_
              exact Or.inr ⟨upI bx up st (ftN bx nw k (szN bx (bx 0))) (bx 0), up1 ex ((trN bx nw (ftN bx nw k (szN bx (bx 0)))) 2) (ebN bx (trN bx nw (ftN bx nw k (szN bx (bx 0)))) 0), up1 tl ((trN bx nw (ftN bx nw k (szN bx (bx 0)))) 2) (j), up1 he ((trN bx nw (ftN bx nw k (szN bx (bx 0)))) 2) (k), up1 dy ((trN bx nw (ftN bx nw k (szN bx (bx 0)))) 2) ((trN bx nw (ftN bx nw k (szN bx (bx 0)))) 0), up1 se ((trN bx nw (ftN bx nw k (szN bx (bx 0)))) 2) (b2n (seeN bx (trN bx nw (ftN bx nw k (szN bx (bx 0)))) (ebN bx (trN bx nw (ftN bx nw k (szN bx (bx 0)))) 0) j k ((trN bx nw (ftN bx nw k (szN bx (bx 0)))) 2))), by simp [giOk, giA, c_3, c_6, c_7, c_8, c_11, hq_16, hij_q, hicj_q, hpn_q, h12_q, hw_q, hik_q, hick_q, h12n_q, hq12_q, hgs_q], by rw [hij_q, hik_q]; exact hbo_q, by rw [eb_0 hbo_q.1]; simp [giOk, giA, c_3, c_6, c_7, c_8, c_11, hq_16, hij_q, hicj_q, hpn_q, h12_q, hw_q, hik_q, hick_q, h12n_q, hq12_q, hgs_q], by rw [hij_q, hik_q]⟩
            · -- case 1 of k_X0_tell
              dsimp only [putAll, List.set] at hP hD
              exact absurd hq_17 (by rw [tr_o bx nw _ 2 (by omega) (by omega)]; omega)
          · -- 52 to 55
            refine lv_bipush (v := (-4)) hx hb dX6_give_55 (by decide) ?_
            refine hret hP hD hS dX6_give_57 rfl rfl ?_
            exact Or.inl ⟨by simp [giOk, giA, c_3, c_6, c_7, c_8, c_11, hij_q, hicj_q, hpn_q, h12_q, hw_q, hik_q, hick_q, h12n_q], by simp [giOk, giA, c_3, c_6, c_7, c_8, c_11, hij_q, hicj_q, hpn_q, h12_q, hw_q, hik_q, hick_q, h12n_q], rfl⟩
        · -- 32 to 35
          have h12n_q : nw 2 = 12 := by omega
          refine lv_bipush (v := (-3)) hx hb dX6_give_35 (by decide) ?_
          refine hret hP hD hS dX6_give_37 rfl rfl ?_
          exact Or.inl ⟨by simp [giOk, giA, c_3, c_6, c_7, c_8, hij_q, hicj_q, hpn_q, h12_q, hw_q, hik_q, hick_q, h12n_q], by simp [giOk, giA, c_3, c_6, c_7, c_8, hij_q, hicj_q, hpn_q, h12_q, hw_q, hik_q, hick_q, h12n_q], rfl⟩
      · -- 18 to 21
        refine lv_iconst (v := (-1)) hx hb dX6_give_21 (by decide) ?_
        refine hret hP hD hS dX6_give_22 rfl rfl ?_
        exact Or.inl ⟨by simp [giOk, giA, c_3, c_6, c_7, hij_q, hicj_q, hpn_q, h12_q, hw_q, hik_q, hick_q], by simp [giOk, giA, c_3, c_6, c_7, hij_q, hicj_q, hpn_q, h12_q, hw_q, hik_q, hick_q], rfl⟩
set_option maxHeartbeats 4000000 in
set_option maxRecDepth 100000 in
theorem k_X6_count {l : Launch} {D : va_G} {cI cC cB : ClassId} {o xt xg xu xk xd xe xf : Nat} {a : Nat} {pq : Nat → Nat} {bx te ps pu sd cj ta : Nat → Nat} {b : Nat} {bq : Nat → Nat} {nw up st ex tl he dy se : Nat → Nat} {fi : Nat} {zms : Nat} {gq : Nat → Nat} {gw gn gt sh : Nat → Nat} {zn zc kn kc zl zp : Nat} {uq kq tq : Nat → Nat} {x : Int32} (hR : PlR bx te ps pu sd cj ta) (hX : BoR bx nw up st ex tl he dy se fi) (hsm : nw 3 = smN nw (nw 2)) : MI l yX6_count cX6_count 2 (some .int) 2 D (Ty3 cI cC cB) [.ref o, .int (x)] [(o, .inr (6, [.ref xt, .ref xg, .ref xu, .ref xk, .ref b, .ref xd, .ref xe, .ref a, .ref xf])), gO xg gq zms, sO xu uq zn zc, sO xk kq kn kc, tO xt tq zl zp, bO b bq fi (nw 2) (nw 0) (nw 1), (bq 0, .inl (cI, 4, .inl (fun z_ => nI (up z_)))), (bq 1, .inl (cI, 4, .inl (fun z_ => nI (st z_)))), (bq 2, .inl (cI, 12, .inl (fun z_ => nI (ex z_)))), (bq 3, .inl (cI, 12, .inl (fun z_ => nI (tl z_)))), (bq 4, .inl (cI, 12, .inl (fun z_ => nI (he z_)))), (bq 5, .inl (cI, 12, .inl (fun z_ => nI (dy z_)))), (bq 6, .inl (cI, 12, .inl (fun z_ => nI (se z_)))), pO a pq (bx 0) (bx 2) (bx 1) (szN bx (bx 0)) (bx 3) (bx 4), (pq 0, .inl (cI, 4, .inl (fun z_ => nI (te z_)))), (pq 1, .inl (cI, 4, .inl (fun z_ => nI (ps z_)))), (pq 2, .inl (cI, 4, .inl (fun z_ => nI (pu z_)))), (pq 3, .inl (cI, 4, .inl (fun z_ => nI (sd z_)))), (pq 4, .inl (cI, 8, .inl (fun z_ => nI (cj z_)))), (pq 5, .inl (cI, 5, .inl (fun z_ => nI (ta z_))))] (fun r u => (r = coA bx nw zms zc kc zl x ∧ u = [(o, .inr (6, [.ref xt, .ref xg, .ref xu, .ref xk, .ref b, .ref xd, .ref xe, .ref a, .ref xf])), gO xg gq zms, sO xu uq zn zc, sO xk kq kn kc, tO xt tq zl zp, bO b bq fi (nw 2) (nw 0) (nw 1), (bq 0, .inl (cI, 4, .inl (fun z_ => nI (up z_)))), (bq 1, .inl (cI, 4, .inl (fun z_ => nI (st z_)))), (bq 2, .inl (cI, 12, .inl (fun z_ => nI (ex z_)))), (bq 3, .inl (cI, 12, .inl (fun z_ => nI (tl z_)))), (bq 4, .inl (cI, 12, .inl (fun z_ => nI (he z_)))), (bq 5, .inl (cI, 12, .inl (fun z_ => nI (dy z_)))), (bq 6, .inl (cI, 12, .inl (fun z_ => nI (se z_)))), pO a pq (bx 0) (bx 2) (bx 1) (szN bx (bx 0)) (bx 3) (bx 4), (pq 0, .inl (cI, 4, .inl (fun z_ => nI (te z_)))), (pq 1, .inl (cI, 4, .inl (fun z_ => nI (ps z_)))), (pq 2, .inl (cI, 4, .inl (fun z_ => nI (pu z_)))), (pq 3, .inl (cI, 4, .inl (fun z_ => nI (sd z_)))), (pq 4, .inl (cI, 8, .inl (fun z_ => nI (cj z_)))), (pq 5, .inl (cI, 5, .inl (fun z_ => nI (ta z_))))])) := by
  intro sz
  refine MI.walk (by decide +kernel) (Nat.le_of_ble_eq_true rfl) ?_
  intro p e s m args below meth c A Qf hx hb hml hts hown hret hK hP hD hS hA ls hl
  have hown : s.vm.findClass RX6 = some m.cls := hown
  have hl : lv_has ls 2 [(0, .ref o), (1, .int (x))] := hl
  have hP : va_P D vwCl [(o, .inr (6, [.ref xt, .ref xg, .ref xu, .ref xk, .ref b, .ref xd, .ref xe, .ref a, .ref xf])), gO xg gq zms, sO xu uq zn zc, sO xk kq kn kc, tO xt tq zl zp, bO b bq fi (nw 2) (nw 0) (nw 1), (bq 0, .inl (cI, 4, .inl (fun z_ => nI (up z_)))), (bq 1, .inl (cI, 4, .inl (fun z_ => nI (st z_)))), (bq 2, .inl (cI, 12, .inl (fun z_ => nI (ex z_)))), (bq 3, .inl (cI, 12, .inl (fun z_ => nI (tl z_)))), (bq 4, .inl (cI, 12, .inl (fun z_ => nI (he z_)))), (bq 5, .inl (cI, 12, .inl (fun z_ => nI (dy z_)))), (bq 6, .inl (cI, 12, .inl (fun z_ => nI (se z_)))), pO a pq (bx 0) (bx 2) (bx 1) (szN bx (bx 0)) (bx 3) (bx 4), (pq 0, .inl (cI, 4, .inl (fun z_ => nI (te z_)))), (pq 1, .inl (cI, 4, .inl (fun z_ => nI (ps z_)))), (pq 2, .inl (cI, 4, .inl (fun z_ => nI (pu z_)))), (pq 3, .inl (cI, 4, .inl (fun z_ => nI (sd z_)))), (pq 4, .inl (cI, 8, .inl (fun z_ => nI (cj z_)))), (pq 5, .inl (cI, 5, .inl (fun z_ => nI (ta z_))))] s.heap := hP
  have hD : va_D A [(o, .inr (6, [.ref xt, .ref xg, .ref xu, .ref xk, .ref b, .ref xd, .ref xe, .ref a, .ref xf])), gO xg gq zms, sO xu uq zn zc, sO xk kq kn kc, tO xt tq zl zp, bO b bq fi (nw 2) (nw 0) (nw 1), (bq 0, .inl (cI, 4, .inl (fun z_ => nI (up z_)))), (bq 1, .inl (cI, 4, .inl (fun z_ => nI (st z_)))), (bq 2, .inl (cI, 12, .inl (fun z_ => nI (ex z_)))), (bq 3, .inl (cI, 12, .inl (fun z_ => nI (tl z_)))), (bq 4, .inl (cI, 12, .inl (fun z_ => nI (he z_)))), (bq 5, .inl (cI, 12, .inl (fun z_ => nI (dy z_)))), (bq 6, .inl (cI, 12, .inl (fun z_ => nI (se z_)))), pO a pq (bx 0) (bx 2) (bx 1) (szN bx (bx 0)) (bx 3) (bx 4), (pq 0, .inl (cI, 4, .inl (fun z_ => nI (te z_)))), (pq 1, .inl (cI, 4, .inl (fun z_ => nI (ps z_)))), (pq 2, .inl (cI, 4, .inl (fun z_ => nI (pu z_)))), (pq 3, .inl (cI, 4, .inl (fun z_ => nI (sd z_)))), (pq 4, .inl (cI, 8, .inl (fun z_ => nI (cj z_)))), (pq 5, .inl (cI, 5, .inl (fun z_ => nI (ta z_))))] := hD
  refine lv_iload_n hx hb dX6_count_0 rfl (lv_at hl 1 rfl) ?_
  rcases tsw (x) 11 with c_1 | c_1 | ⟨j_sw, hj_sw, e_sw⟩
  · refine lv_tableOut (tgt := 148) hx hb dX6_count_1 (Or.inl (by omega)) (by decide) ?_
    refine lv_iconst (v := (-1)) hx hb dX6_count_148 (by decide) ?_
    refine hret hP hD hS dX6_count_149 rfl rfl ?_
    exact ⟨by first | exact (co_out (by omega)).symm | rfl | (rw [← hsm]; rfl), rfl⟩
  · refine lv_tableOut (tgt := 148) hx hb dX6_count_1 (Or.inr (by omega)) (by decide) ?_
    refine lv_iconst (v := (-1)) hx hb dX6_count_148 (by decide) ?_
    refine hret hP hD hS dX6_count_149 rfl rfl ?_
    exact ⟨by first | exact (co_out (by omega)).symm | rfl | (rw [← hsm]; rfl), rfl⟩
  · rcases (show j_sw = 0 ∨ j_sw = 1 ∨ j_sw = 2 ∨ j_sw = 3 ∨ j_sw = 4 ∨ j_sw = 5 ∨ j_sw = 6 ∨ j_sw = 7 ∨ j_sw = 8 ∨ j_sw = 9 ∨ j_sw = 10 by omega) with rfl | rfl | rfl | rfl | rfl | rfl | rfl | rfl | rfl | rfl | rfl
    · subst e_sw
      refine lv_tableIn (tgt := 60) hx hb dX6_count_1 (by decide) (by decide) (off := 59) (by decide) (by decide) ?_
      refine lv_aload_n hx hb dX6_count_60 rfl (lv_at hl 0 rfl) ?_
      refine gf_6_55 hx hb hts hown hK hP 0 rfl rfl dX6_count_61 ?_
      refine gf_6_92 hx hb hts hown hK hP 13 rfl rfl dX6_count_64 ?_
      refine hret hP hD hS dX6_count_67 rfl rfl ?_
      exact ⟨by first | exact (co_out (by omega)).symm | rfl | (rw [← hsm]; rfl), rfl⟩
    · subst e_sw
      refine lv_tableIn (tgt := 68) hx hb dX6_count_1 (by decide) (by decide) (off := 67) (by decide) (by decide) ?_
      refine lv_aload_n hx hb dX6_count_68 rfl (lv_at hl 0 rfl) ?_
      refine gf_6_55 hx hb hts hown hK hP 0 rfl rfl dX6_count_69 ?_
      refine gf_6_253 hx hb hts hown hK hP 13 rfl rfl dX6_count_72 ?_
      refine hret hP hD hS dX6_count_75 rfl rfl ?_
      exact ⟨by first | exact (co_out (by omega)).symm | rfl | (rw [← hsm]; rfl), rfl⟩
    · subst e_sw
      refine lv_tableIn (tgt := 76) hx hb dX6_count_1 (by decide) (by decide) (off := 75) (by decide) (by decide) ?_
      refine lv_aload_n hx hb dX6_count_76 rfl (lv_at hl 0 rfl) ?_
      refine gf_6_55 hx hb hts hown hK hP 0 rfl rfl dX6_count_77 ?_
      refine gf_6_212 hx hb hts hown hK hP 13 rfl rfl dX6_count_80 ?_
      refine hret hP hD hS dX6_count_83 rfl rfl ?_
      exact ⟨by first | exact (co_out (by omega)).symm | rfl | (rw [← hsm]; rfl), rfl⟩
    · subst e_sw
      refine lv_tableIn (tgt := 84) hx hb dX6_count_1 (by decide) (by decide) (off := 83) (by decide) (by decide) ?_
      refine lv_aload_n hx hb dX6_count_84 rfl (lv_at hl 0 rfl) ?_
      refine gf_6_38 hx hb hts hown hK hP 0 rfl rfl dX6_count_85 ?_
      refine gf_6_187 hx hb hts hown hK hP 5 rfl rfl dX6_count_88 ?_
      refine hret hP hD hS dX6_count_91 rfl rfl ?_
      exact ⟨by first | exact (co_out (by omega)).symm | rfl | (rw [← hsm]; rfl), rfl⟩
    · subst e_sw
      refine lv_tableIn (tgt := 92) hx hb dX6_count_1 (by decide) (by decide) (off := 91) (by decide) (by decide) ?_
      refine lv_aload_n hx hb dX6_count_92 rfl (lv_at hl 0 rfl) ?_
      refine gf_6_38 hx hb hts hown hK hP 0 rfl rfl dX6_count_93 ?_
      refine gf_6_262 hx hb hts hown hK hP 5 rfl rfl dX6_count_96 ?_
      refine hret hP hD hS dX6_count_99 rfl rfl ?_
      exact ⟨by first | exact (co_out (by omega)).symm | rfl | (rw [← hsm]; rfl), rfl⟩
    · subst e_sw
      refine lv_tableIn (tgt := 100) hx hb dX6_count_1 (by decide) (by decide) (off := 99) (by decide) (by decide) ?_
      refine lv_aload_n hx hb dX6_count_100 rfl (lv_at hl 0 rfl) ?_
      refine gf_6_38 hx hb hts hown hK hP 0 rfl rfl dX6_count_101 ?_
      refine gf_6_177 hx hb hts hown hK hP 5 rfl rfl dX6_count_104 ?_
      refine hret hP hD hS dX6_count_107 rfl rfl ?_
      exact ⟨by first | exact (co_out (by omega)).symm | rfl | (rw [← hsm]; rfl), rfl⟩
    · subst e_sw
      refine lv_tableIn (tgt := 108) hx hb dX6_count_1 (by decide) (by decide) (off := 107) (by decide) (by decide) ?_
      refine lv_aload_n hx hb dX6_count_108 rfl (lv_at hl 0 rfl) ?_
      refine gf_6_38 hx hb hts hown hK hP 0 rfl rfl dX6_count_109 ?_
      refine cl_6_265 (As := []) (rest := []) hx hb hml hts hown (k_X0_seenThrough (by first | assumption | omega)) (by decide) ⟨Nat.zero_le _, Nat.zero_le _⟩ hK hP hD hS hA 5 rfl [5, 6, 7, 8, 9, 10, 11, 12] rfl (by decide) rfl hl.1 rfl (Nat.le_of_ble_eq_true rfl) dX6_count_112 (fun r_2 u H locs hp_3 hP hD hS => ?_)
      obtain ⟨rfl, rfl⟩ := hp_3
      dsimp only [putAll, List.set] at hP hD
      have hP : va_P D vwCl [(o, .inr (6, [.ref xt, .ref xg, .ref xu, .ref xk, .ref b, .ref xd, .ref xe, .ref a, .ref xf])), gO xg gq zms, sO xu uq zn zc, sO xk kq kn kc, tO xt tq zl zp, bO b bq fi (nw 2) (nw 0) (nw 1), (bq 0, .inl (cI, 4, .inl (fun z_ => nI (up z_)))), (bq 1, .inl (cI, 4, .inl (fun z_ => nI (st z_)))), (bq 2, .inl (cI, 12, .inl (fun z_ => nI (ex z_)))), (bq 3, .inl (cI, 12, .inl (fun z_ => nI (tl z_)))), (bq 4, .inl (cI, 12, .inl (fun z_ => nI (he z_)))), (bq 5, .inl (cI, 12, .inl (fun z_ => nI (dy z_)))), (bq 6, .inl (cI, 12, .inl (fun z_ => nI (se z_)))), pO a pq (bx 0) (bx 2) (bx 1) (szN bx (bx 0)) (bx 3) (bx 4), (pq 0, .inl (cI, 4, .inl (fun z_ => nI (te z_)))), (pq 1, .inl (cI, 4, .inl (fun z_ => nI (ps z_)))), (pq 2, .inl (cI, 4, .inl (fun z_ => nI (pu z_)))), (pq 3, .inl (cI, 4, .inl (fun z_ => nI (sd z_)))), (pq 4, .inl (cI, 8, .inl (fun z_ => nI (cj z_)))), (pq 5, .inl (cI, 5, .inl (fun z_ => nI (ta z_))))] _ := hP
      have hD : va_D A [(o, .inr (6, [.ref xt, .ref xg, .ref xu, .ref xk, .ref b, .ref xd, .ref xe, .ref a, .ref xf])), gO xg gq zms, sO xu uq zn zc, sO xk kq kn kc, tO xt tq zl zp, bO b bq fi (nw 2) (nw 0) (nw 1), (bq 0, .inl (cI, 4, .inl (fun z_ => nI (up z_)))), (bq 1, .inl (cI, 4, .inl (fun z_ => nI (st z_)))), (bq 2, .inl (cI, 12, .inl (fun z_ => nI (ex z_)))), (bq 3, .inl (cI, 12, .inl (fun z_ => nI (tl z_)))), (bq 4, .inl (cI, 12, .inl (fun z_ => nI (he z_)))), (bq 5, .inl (cI, 12, .inl (fun z_ => nI (dy z_)))), (bq 6, .inl (cI, 12, .inl (fun z_ => nI (se z_)))), pO a pq (bx 0) (bx 2) (bx 1) (szN bx (bx 0)) (bx 3) (bx 4), (pq 0, .inl (cI, 4, .inl (fun z_ => nI (te z_)))), (pq 1, .inl (cI, 4, .inl (fun z_ => nI (ps z_)))), (pq 2, .inl (cI, 4, .inl (fun z_ => nI (pu z_)))), (pq 3, .inl (cI, 4, .inl (fun z_ => nI (sd z_)))), (pq 4, .inl (cI, 8, .inl (fun z_ => nI (cj z_)))), (pq 5, .inl (cI, 5, .inl (fun z_ => nI (ta z_))))] := hD
      refine hret hP hD hS dX6_count_115 rfl rfl ?_
      exact ⟨by first | exact (co_out (by omega)).symm | rfl | (rw [← hsm]; rfl), rfl⟩
    · subst e_sw
      refine lv_tableIn (tgt := 116) hx hb dX6_count_1 (by decide) (by decide) (off := 115) (by decide) (by decide) ?_
      refine lv_aload_n hx hb dX6_count_116 rfl (lv_at hl 0 rfl) ?_
      refine gf_6_19 hx hb hts hown hK hP 0 rfl rfl dX6_count_117 ?_
      refine gf_6_95 hx hb hts hown hK hP 1 rfl rfl dX6_count_120 ?_
      refine hret hP hD hS dX6_count_123 rfl rfl ?_
      exact ⟨by first | exact (co_out (by omega)).symm | rfl | (rw [← hsm]; rfl), rfl⟩
    · subst e_sw
      refine lv_tableIn (tgt := 124) hx hb dX6_count_1 (by decide) (by decide) (off := 123) (by decide) (by decide) ?_
      refine lv_aload_n hx hb dX6_count_124 rfl (lv_at hl 0 rfl) ?_
      refine gf_6_28 hx hb hts hown hK hP 0 rfl rfl dX6_count_125 ?_
      refine gf_6_98 hx hb hts hown hK hP 2 rfl rfl dX6_count_128 ?_
      refine hret hP hD hS dX6_count_131 rfl rfl ?_
      exact ⟨by first | exact (co_out (by omega)).symm | rfl | (rw [← hsm]; rfl), rfl⟩
    · subst e_sw
      refine lv_tableIn (tgt := 132) hx hb dX6_count_1 (by decide) (by decide) (off := 131) (by decide) (by decide) ?_
      refine lv_aload_n hx hb dX6_count_132 rfl (lv_at hl 0 rfl) ?_
      refine gf_6_32 hx hb hts hown hK hP 0 rfl rfl dX6_count_133 ?_
      refine gf_6_98 hx hb hts hown hK hP 3 rfl rfl dX6_count_136 ?_
      refine hret hP hD hS dX6_count_139 rfl rfl ?_
      exact ⟨by first | exact (co_out (by omega)).symm | rfl | (rw [← hsm]; rfl), rfl⟩
    · subst e_sw
      refine lv_tableIn (tgt := 140) hx hb dX6_count_1 (by decide) (by decide) (off := 139) (by decide) (by decide) ?_
      refine lv_aload_n hx hb dX6_count_140 rfl (lv_at hl 0 rfl) ?_
      refine gf_6_12 hx hb hts hown hK hP 0 rfl rfl dX6_count_141 ?_
      refine gf_6_89 hx hb hts hown hK hP 4 rfl rfl dX6_count_144 ?_
      refine hret hP hD hS dX6_count_147 rfl rfl ?_
      exact ⟨by first | exact (co_out (by omega)).symm | rfl | (rw [← hsm]; rfl), rfl⟩
set_option maxHeartbeats 4000000 in
set_option maxRecDepth 100000 in
theorem k_X6_worthBehind {l : Launch} {D : va_G} {cI cC cB : ClassId} {o xt xg xu xk xd xe xf : Nat} {a : Nat} {pq : Nat → Nat} {bx te ps pu sd cj ta : Nat → Nat} {b : Nat} {bq : Nat → Nat} {nw up st ex tl he dy se : Nat → Nat} {fi : Nat} {n : Nat} (hR : PlR bx te ps pu sd cj ta) (hX : BoR bx nw up st ex tl he dy se fi) (hb1 : nw 1 < 50000000) (hn : n ≤ 1000) : MI l yX6_worthBehind cX6_worthBehind 3 (some .int) 0 D (Ty3 cI cC cB) [.ref o, .int (nI (n))] [(o, .inr (6, [.ref xt, .ref xg, .ref xu, .ref xk, .ref b, .ref xd, .ref xe, .ref a, .ref xf])), bO b bq fi (nw 2) (nw 0) (nw 1), (bq 0, .inl (cI, 4, .inl (fun z_ => nI (up z_)))), (bq 1, .inl (cI, 4, .inl (fun z_ => nI (st z_)))), (bq 2, .inl (cI, 12, .inl (fun z_ => nI (ex z_)))), (bq 3, .inl (cI, 12, .inl (fun z_ => nI (tl z_)))), (bq 4, .inl (cI, 12, .inl (fun z_ => nI (he z_)))), (bq 5, .inl (cI, 12, .inl (fun z_ => nI (dy z_)))), (bq 6, .inl (cI, 12, .inl (fun z_ => nI (se z_)))), pO a pq (bx 0) (bx 2) (bx 1) (szN bx (bx 0)) (bx 3) (bx 4), (pq 0, .inl (cI, 4, .inl (fun z_ => nI (te z_)))), (pq 1, .inl (cI, 4, .inl (fun z_ => nI (ps z_)))), (pq 2, .inl (cI, 4, .inl (fun z_ => nI (pu z_)))), (pq 3, .inl (cI, 4, .inl (fun z_ => nI (sd z_)))), (pq 4, .inl (cI, 8, .inl (fun z_ => nI (cj z_)))), (pq 5, .inl (cI, 5, .inl (fun z_ => nI (ta z_))))] (fun r u => (r = nI (bx 4 - bx 3 * (nw 1 + n)) ∧ u = [(o, .inr (6, [.ref xt, .ref xg, .ref xu, .ref xk, .ref b, .ref xd, .ref xe, .ref a, .ref xf])), bO b bq fi (nw 2) (nw 0) (nw 1), (bq 0, .inl (cI, 4, .inl (fun z_ => nI (up z_)))), (bq 1, .inl (cI, 4, .inl (fun z_ => nI (st z_)))), (bq 2, .inl (cI, 12, .inl (fun z_ => nI (ex z_)))), (bq 3, .inl (cI, 12, .inl (fun z_ => nI (tl z_)))), (bq 4, .inl (cI, 12, .inl (fun z_ => nI (he z_)))), (bq 5, .inl (cI, 12, .inl (fun z_ => nI (dy z_)))), (bq 6, .inl (cI, 12, .inl (fun z_ => nI (se z_)))), pO a pq (bx 0) (bx 2) (bx 1) (szN bx (bx 0)) (bx 3) (bx 4), (pq 0, .inl (cI, 4, .inl (fun z_ => nI (te z_)))), (pq 1, .inl (cI, 4, .inl (fun z_ => nI (ps z_)))), (pq 2, .inl (cI, 4, .inl (fun z_ => nI (pu z_)))), (pq 3, .inl (cI, 4, .inl (fun z_ => nI (sd z_)))), (pq 4, .inl (cI, 8, .inl (fun z_ => nI (cj z_)))), (pq 5, .inl (cI, 5, .inl (fun z_ => nI (ta z_))))])) := by
  intro sz
  refine MI.walk (by decide +kernel) (Nat.le_of_ble_eq_true rfl) ?_
  intro p e s m args below meth c A Qf hx hb hml hts hown hret hK hP hD hS hA ls hl
  have hown : s.vm.findClass RX6 = some m.cls := hown
  have hl : lv_has ls 3 [(0, .ref o), (1, .int (nI (n)))] := hl
  have hP : va_P D vwCl [(o, .inr (6, [.ref xt, .ref xg, .ref xu, .ref xk, .ref b, .ref xd, .ref xe, .ref a, .ref xf])), bO b bq fi (nw 2) (nw 0) (nw 1), (bq 0, .inl (cI, 4, .inl (fun z_ => nI (up z_)))), (bq 1, .inl (cI, 4, .inl (fun z_ => nI (st z_)))), (bq 2, .inl (cI, 12, .inl (fun z_ => nI (ex z_)))), (bq 3, .inl (cI, 12, .inl (fun z_ => nI (tl z_)))), (bq 4, .inl (cI, 12, .inl (fun z_ => nI (he z_)))), (bq 5, .inl (cI, 12, .inl (fun z_ => nI (dy z_)))), (bq 6, .inl (cI, 12, .inl (fun z_ => nI (se z_)))), pO a pq (bx 0) (bx 2) (bx 1) (szN bx (bx 0)) (bx 3) (bx 4), (pq 0, .inl (cI, 4, .inl (fun z_ => nI (te z_)))), (pq 1, .inl (cI, 4, .inl (fun z_ => nI (ps z_)))), (pq 2, .inl (cI, 4, .inl (fun z_ => nI (pu z_)))), (pq 3, .inl (cI, 4, .inl (fun z_ => nI (sd z_)))), (pq 4, .inl (cI, 8, .inl (fun z_ => nI (cj z_)))), (pq 5, .inl (cI, 5, .inl (fun z_ => nI (ta z_))))] s.heap := hP
  have hD : va_D A [(o, .inr (6, [.ref xt, .ref xg, .ref xu, .ref xk, .ref b, .ref xd, .ref xe, .ref a, .ref xf])), bO b bq fi (nw 2) (nw 0) (nw 1), (bq 0, .inl (cI, 4, .inl (fun z_ => nI (up z_)))), (bq 1, .inl (cI, 4, .inl (fun z_ => nI (st z_)))), (bq 2, .inl (cI, 12, .inl (fun z_ => nI (ex z_)))), (bq 3, .inl (cI, 12, .inl (fun z_ => nI (tl z_)))), (bq 4, .inl (cI, 12, .inl (fun z_ => nI (he z_)))), (bq 5, .inl (cI, 12, .inl (fun z_ => nI (dy z_)))), (bq 6, .inl (cI, 12, .inl (fun z_ => nI (se z_)))), pO a pq (bx 0) (bx 2) (bx 1) (szN bx (bx 0)) (bx 3) (bx 4), (pq 0, .inl (cI, 4, .inl (fun z_ => nI (te z_)))), (pq 1, .inl (cI, 4, .inl (fun z_ => nI (ps z_)))), (pq 2, .inl (cI, 4, .inl (fun z_ => nI (pu z_)))), (pq 3, .inl (cI, 4, .inl (fun z_ => nI (sd z_)))), (pq 4, .inl (cI, 8, .inl (fun z_ => nI (cj z_)))), (pq 5, .inl (cI, 5, .inl (fun z_ => nI (ta z_))))] := hD
  have hpn_q := hR.b.n
  have hmul_q := Nat.mul_le_mul hpn_q.2.2.1 (show nw 1 + n ≤ 50001000 by omega)
  refine lv_aload_n hx hb dX6_worthBehind_0 rfl (lv_at hl 0 rfl) ?_
  refine gf_6_55 hx hb hts hown hK hP 0 rfl rfl dX6_worthBehind_1 ?_
  refine gf_6_268 hx hb hts hown hK hP 9 rfl rfl dX6_worthBehind_4 ?_
  refine lv_aload_n hx hb dX6_worthBehind_7 rfl (lv_at hl 0 rfl) ?_
  refine gf_6_55 hx hb hts hown hK hP 0 rfl rfl dX6_worthBehind_8 ?_
  refine gf_6_271 hx hb hts hown hK hP 9 rfl rfl dX6_worthBehind_11 ?_
  refine lv_aload_n hx hb dX6_worthBehind_14 rfl (lv_at hl 0 rfl) ?_
  refine gf_6_38 hx hb hts hown hK hP 0 rfl rfl dX6_worthBehind_15 ?_
  refine gf_6_262 hx hb hts hown hK hP 1 rfl rfl dX6_worthBehind_18 ?_
  refine lv_iload_n hx hb dX6_worthBehind_21 rfl (lv_at hl 1 rfl) ?_
  refine n_iadd hx hb dX6_worthBehind_22  ?_
  refine n_imul hx hb dX6_worthBehind_23  ?_
  refine lv_isub hx hb dX6_worthBehind_24 ?_
  refine lv_istore_n (lv' := [(2, .int (nI (bx 4) - nI ((bx 3) * ((nw 1) + n)))), (0, .ref o), (1, .int (nI (n)))]) hx hb dX6_worthBehind_25 rfl hl (by decide) rfl (fun ls hl => ?_)
  refine lv_iload_n hx hb dX6_worthBehind_26 rfl (lv_at hl 0 rfl) ?_
  refine lv_if_le (tgt := 34) hx hb dX6_worthBehind_27 (by decide) (fun c_1 => ?_) (fun c_1 => ?_)
  · -- 27 to 34
    have hwb_q := wb_0 (by omega) (by omega) c_1
    refine lv_iconst (v := nI 0) hx hb dX6_worthBehind_34 (by decide) ?_
    refine hret hP hD hS dX6_worthBehind_35 rfl rfl ?_
    exact ⟨by first | rw [hwb_q] | exact hwb_q, rfl⟩
  · -- 27 to 30
    have hwb_q := wb_1 (by omega) (by omega) c_1
    refine lv_iload_n hx hb dX6_worthBehind_30 rfl (lv_at hl 0 rfl) ?_
    refine lv_goto (tgt := 35) hx hb dX6_worthBehind_31 (by decide) ?_
    refine hret hP hD hS dX6_worthBehind_35 rfl rfl ?_
    exact ⟨by first | rw [hwb_q] | exact hwb_q, rfl⟩
set_option maxHeartbeats 4000000 in
set_option maxRecDepth 100000 in
theorem k_X7_sell {l : Launch} {D : va_G} {cI cC cB : ClassId} {h : Nat} {q : Nat → Nat} {zmu zmk zmz zms zma zmc : Nat} {bx nw f : Nat → Nat} {x : Int32} (hB : BxOk bx) (hG : GoOk bx nw) (hN : HdOk bx nw) (hbl : BdOk nw) : MI l yX7_sell cX7_sell 9 (some .int) 2 D (Ty3 cI cC cB) [.ref h, .int (x)] [mO h q zmu zmk zmz zms zma zmc, (q 0, .inl (cI, 54, .inl (fun z_ => nI (bx z_)))), (q 2, .inl (cI, 76, .inl (fun z_ => nI (nw z_)))), (q 9, .inl (cI, 76, .inl (fun z_ => nI (f z_))))] (fun r u => (∃ f2 : Nat → Nat, r = slA bx nw x ∧ u = [mO h q zmu zmk zmz zms zma zmc, (q 0, .inl (cI, 54, .inl (fun z_ => nI (bx z_)))), (q 2, .inl (cI, 76, .inl (fun z_ => nI (nw z_)))), (q 9, .inl (cI, 76, .inl (fun z_ => nI (f2 z_))))])) := by
  intro sz
  refine MI.walk (by decide +kernel) (Nat.le_of_ble_eq_true rfl) ?_
  intro p e s m args below meth c A Qf hx hb hml hts hown hret hK hP hD hS hA ls hl
  have hown : s.vm.findClass RX7 = some m.cls := hown
  have hl : lv_has ls 9 [(0, .ref h), (1, .int (x))] := hl
  have hP : va_P D vwCl [mO h q zmu zmk zmz zms zma zmc, (q 0, .inl (cI, 54, .inl (fun z_ => nI (bx z_)))), (q 2, .inl (cI, 76, .inl (fun z_ => nI (nw z_)))), (q 9, .inl (cI, 76, .inl (fun z_ => nI (f z_))))] s.heap := hP
  have hD : va_D A [mO h q zmu zmk zmz zms zma zmc, (q 0, .inl (cI, 54, .inl (fun z_ => nI (bx z_)))), (q 2, .inl (cI, 76, .inl (fun z_ => nI (nw z_)))), (q 9, .inl (cI, 76, .inl (fun z_ => nI (f z_))))] := hD
  refine lv_iload_n hx hb dX7_sell_0 rfl (lv_at hl 1 rfl) ?_
  refine cl_7_198 (As := [.int (x)]) (rest := []) hx hb hml hts hown (k_X7_isTwo ) (by decide) ⟨Nat.zero_le _, Nat.zero_le _⟩ hK hP hD hS hA [] rfl (by decide) rfl hl.1 rfl (Nat.le_of_ble_eq_true rfl) dX7_sell_1 (fun r_1 u H locs hp_2 hP hD hS => ?_)
  obtain ⟨rfl, rfl⟩ := hp_2
  have hP : va_P D vwCl [mO h q zmu zmk zmz zms zma zmc, (q 0, .inl (cI, 54, .inl (fun z_ => nI (bx z_)))), (q 2, .inl (cI, 76, .inl (fun z_ => nI (nw z_)))), (q 9, .inl (cI, 76, .inl (fun z_ => nI (f z_))))] _ := hP
  have hD : va_D A [mO h q zmu zmk zmz zms zma zmc, (q 0, .inl (cI, 54, .inl (fun z_ => nI (bx z_)))), (q 2, .inl (cI, 76, .inl (fun z_ => nI (nw z_)))), (q 9, .inl (cI, 76, .inl (fun z_ => nI (f z_))))] := hD
  refine n_ifb_ne (tgt := 9) hx hb dX7_sell_4 (by decide) (fun c_3 => ?_) (fun c_3 => ?_)
  · -- 4 to 9
    have hvk_q := c_3
    obtain ⟨j, hl2, hh2, rfl⟩ := inR_e (by omega) hvk_q
    have hij_q : ix (nI j) = j := ix_n (by omega)
    refine lv_aload_n hx hb dX7_sell_9 rfl (lv_at hl 0 rfl) ?_
    refine cl_7_201 (As := []) (rest := []) hx hb hml hts hown (k_X7_layAside ) (by decide) ⟨Nat.zero_le _, Nat.zero_le _⟩ hK hP hD hS hA 0 rfl [0, 2, 3] rfl (by decide) rfl hl.1 rfl (Nat.le_of_ble_eq_true rfl) dX7_sell_10 (fun  u H locs hp_4 hP hD hS => ?_)
    subst hp_4
    have hP : va_P D vwCl [mO h q zmu zmk zmz zms zma zmc, (q 0, .inl (cI, 54, .inl (fun z_ => nI (bx z_)))), (q 2, .inl (cI, 76, .inl (fun z_ => nI (nw z_)))), (q 9, .inl (cI, 76, .inl (fun z_ => nI (nw z_))))] _ := hP
    have hD : va_D A [mO h q zmu zmk zmz zms zma zmc, (q 0, .inl (cI, 54, .inl (fun z_ => nI (bx z_)))), (q 2, .inl (cI, 76, .inl (fun z_ => nI (nw z_)))), (q 9, .inl (cI, 76, .inl (fun z_ => nI (nw z_))))] := hD
    refine lv_iconst (v := nI 0) hx hb dX7_sell_13 (by decide) ?_
    refine lv_istore_n (lv' := [(2, .int (nI (0))), (0, .ref h), (1, .int (nI (j)))]) hx hb dX7_sell_14 rfl hl (by decide) rfl (fun ls hl => ?_)
    refine lv_iconst (v := (-1)) hx hb dX7_sell_15 (by decide) ?_
    refine lv_istore_n (lv' := [(3, .int ((-1 : Int32))), (2, .int (nI (0))), (0, .ref h), (1, .int (nI (j)))]) hx hb dX7_sell_16 rfl hl (by decide) rfl (fun ls hl => ?_)
    refine lv_iconst (v := nI 0) hx hb dX7_sell_17 (by decide) ?_
    refine lv_istore (lv' := [(4, .int (nI (0))), (3, .int ((-1 : Int32))), (2, .int (nI (0))), (0, .ref h), (1, .int (nI (j)))]) hx hb dX7_sell_18 hl (by decide) rfl (fun ls hl => ?_)
    refine lv_iconst (v := nI 0) hx hb dX7_sell_20 (by decide) ?_
    refine lv_istore (lv' := [(5, .int (nI (0))), (4, .int (nI (0))), (3, .int ((-1 : Int32))), (2, .int (nI (0))), (0, .ref h), (1, .int (nI (j)))]) hx hb dX7_sell_21 hl (by decide) rfl (fun ls hl => ?_)
    have loop_23 : ∀ (N : Nat) (u : Nat) (M : Int32) (sn : Nat) (n : Nat) (g : Nat → Nat), (n ≤ 41) → (g = trN bx nw n) → (sn = cnB (fun k_ => senN bx nw (ebN bx nw (k_ + 1))) n) → (SlI bx nw n u M) → (41 - n) < N → ∀ (H : Heap) (locs : List Loc), va_P D vwCl [mO h q zmu zmk zmz zms zma zmc, (q 0, .inl (cI, 54, .inl (fun z_ => nI (bx z_)))), (q 2, .inl (cI, 76, .inl (fun z_ => nI (nw z_)))), (q 9, .inl (cI, 76, .inl (fun z_ => nI (g z_))))] H → va_D A [mO h q zmu zmk zmz zms zma zmc, (q 0, .inl (cI, 54, .inl (fun z_ => nI (bx z_)))), (q 2, .inl (cI, 76, .inl (fun z_ => nI (nw z_)))), (q 9, .inl (cI, 76, .inl (fun z_ => nI (g z_))))] → va_S A s.heap H locs → ∀ ls : Array Slot, lv_has ls 9 [(5, .int (nI (n))), (4, .int (nI (sn))), (3, .int (M)), (2, .int (nI (u))), (0, .ref h), (1, .int (nI (j)))] → W p l e (rmL 2) s m args below meth c H locs 0 0 Qf (F0 m 23 ls []) := by
      intro N; induction N with
      | zero => intro u M sn n g _ _ _ _ hm; omega
      | succ N ih_23 =>
        intro u M sn n g hn hg hsn hI hm H locs hP hD hS ls hl
        have hgb_q : ∀ z, g z < 100000000 := by rw [hg]; exact tr_bd hB hN hbl n (by omega)
        have hg1_q : g 1 = nw 1 + n := by rw [hg, tr_1]
        have hbl1_q : nw 1 < 10000000 := hbl
        have hpn_q := hB.n
        have hmul_q := Nat.mul_le_mul hpn_q.2.2.1 (show g 1 ≤ 10001000 by omega)
        have hcn_q := cn_le (fun k_ => senN bx nw (ebN bx nw (k_ + 1))) n
        refine lv_iload hx hb dX7_sell_23 (lv_at hl 0 rfl) ?_
        refine lv_bipush (v := nI 40) hx hb dX7_sell_25 (by decide) ?_
        refine n_icmp_gt (tgt := 143) hx hb dX7_sell_27 (by decide) (by omega) (by decide) (fun c_5 => ?_) (fun c_5 => ?_)
        · -- 27 to 143
          refine lv_iload_n hx hb dX7_sell_143 rfl (lv_at hl 5 rfl) ?_
          refine n_if_ne (tgt := 151) hx hb dX7_sell_144 (by decide) (by omega) (fun c_6 => ?_) (fun c_6 => ?_)
          · -- 144 to 151
            refine lv_iload_n hx hb dX7_sell_151 rfl (lv_at hl 2 rfl) ?_
            refine hret hP hD hS dX7_sell_152 rfl rfl ?_
            obtain ⟨_, v9, hv9, hu9⟩ := sl_2 hI (by omega)
            exact ⟨g, by first | exact sl_r0 hvk_q hij_q (by assumption) hu9 (show n - 1 = 40 by omega) | exact sl_r1 hvk_q hij_q (by assumption) hu9 hv9 (show n - 1 = 40 by omega), rfl⟩
          · -- 144 to 147
            refine lv_iload_n hx hb dX7_sell_147 rfl (lv_at hl 3 rfl) ?_
            refine lv_goto (tgt := 152) hx hb dX7_sell_148 (by decide) ?_
            refine hret hP hD hS dX7_sell_152 rfl rfl ?_
            obtain ⟨_, v9, hv9, hu9⟩ := sl_2 hI (by omega)
            exact ⟨g, by first | exact sl_r0 hvk_q hij_q (by assumption) hu9 (show n - 1 = 40 by omega) | exact sl_r1 hvk_q hij_q (by assumption) hu9 hv9 (show n - 1 = 40 by omega), rfl⟩
        · -- 27 to 30
          refine lv_aload_n hx hb dX7_sell_30 rfl (lv_at hl 4 rfl) ?_
          refine gf_7_7 hx hb hts hown hK hP 0 rfl rfl dX7_sell_31 ?_
          refine lv_iconst (v := nI 4) hx hb dX7_sell_34 (by decide) ?_
          refine n_iald hx hb hK hP 1 0 rfl rfl dX7_sell_35 (by decide) (by omega) ?_
          have hb_7 := hB.bd 4
          refine lv_i2l (v := lN (bx 4)) hx hb dX7_sell_36 (nI_l (by omega)) ?_
          refine lv_aload_n hx hb dX7_sell_37 rfl (lv_at hl 4 rfl) ?_
          refine gf_7_7 hx hb hts hown hK hP 0 rfl rfl dX7_sell_38 ?_
          refine lv_iconst (v := nI 3) hx hb dX7_sell_41 (by decide) ?_
          refine n_iald hx hb hK hP 1 0 rfl rfl dX7_sell_42 (by decide) (by omega) ?_
          have hb_8 := hB.bd 3
          refine lv_i2l (v := lN (bx 3)) hx hb dX7_sell_43 (nI_l (by omega)) ?_
          refine lv_aload_n hx hb dX7_sell_44 rfl (lv_at hl 4 rfl) ?_
          refine gf_7_37 hx hb hts hown hK hP 0 rfl rfl dX7_sell_45 ?_
          refine lv_iconst (v := nI 1) hx hb dX7_sell_48 (by decide) ?_
          refine n_iald hx hb hK hP 3 0 rfl rfl dX7_sell_49 (by decide) (by omega) ?_
          refine lv_i2l (v := lN (g 1)) hx hb dX7_sell_50 (nI_l (by omega)) ?_
          refine n_lmul hx hb dX7_sell_51  ?_
          refine lv_lsub hx hb dX7_sell_52 ?_
          refine lv_lstore (lv' := [(6, .long (lN (bx 4) - lN ((bx 3) * (g 1)))), (5, .int (nI (n))), (4, .int (nI (sn))), (3, .int (M)), (2, .int (nI (u))), (0, .ref h), (1, .int (nI (j)))]) hx hb dX7_sell_53 hl (by decide) rfl (fun ls hl => ?_)
          refine lv_lload hx hb dX7_sell_55 (lv_at hl 0 rfl) ?_
          refine lv_lconst (v := lN 0) hx hb dX7_sell_57 (by decide) ?_
          refine W.lcmp hx hb dX7_sell_58 ?_
          refine lv_if_ge (tgt := 66) hx hb dX7_sell_59 (by decide) (fun c_9 => ?_) (fun c_9 => ?_)
          · -- 59 to 66
            have hle_q := lc_1 (by omega) (by omega) c_9
            rw [lN_sub hle_q] at hl
            have hws_q : bx 4 - bx 3 * g 1 + sn = slW bx nw n := by rw [hg1_q, hsn]; rfl
            have hwl_q := slW_le hB nw n
            refine lv_lload hx hb dX7_sell_66 (lv_at hl 0 rfl) ?_
            refine lv_l2i (v := nI (bx 4 - bx 3 * g 1)) hx hb dX7_sell_68 (lN_i _) ?_
            refine lv_iload hx hb dX7_sell_69 (lv_at hl 2 rfl) ?_
            refine n_iadd hx hb dX7_sell_71  ?_
            refine lv_istore (lv' := [(8, .int (nI ((bx 4 - bx 3 * g 1) + sn))), (6, .long (lN (bx 4 - bx 3 * g 1))), (5, .int (nI (n))), (4, .int (nI (sn))), (3, .int (M)), (2, .int (nI (u))), (0, .ref h), (1, .int (nI (j)))]) hx hb dX7_sell_72 hl (by decide) rfl (fun ls hl => ?_)
            refine lv_iload hx hb dX7_sell_74 (lv_at hl 0 rfl) ?_
            refine lv_iload_n hx hb dX7_sell_76 rfl (lv_at hl 4 rfl) ?_
            refine lv_icmp_le (tgt := 85) hx hb dX7_sell_77 (by decide) (fun c_10 => ?_) (fun c_10 => ?_)
            · -- 77 to 85
              refine lv_iload_n hx hb dX7_sell_85 rfl (lv_at hl 5 rfl) ?_
              refine lv_istore_n (lv' := [(2, .int (nI (u))), (8, .int (nI ((bx 4 - bx 3 * g 1) + sn))), (6, .long (lN (bx 4 - bx 3 * g 1))), (5, .int (nI (n))), (4, .int (nI (sn))), (3, .int (M)), (0, .ref h), (1, .int (nI (j)))]) hx hb dX7_sell_86 rfl hl (by decide) rfl (fun ls hl => ?_)
              refine lv_iload hx hb dX7_sell_87 (lv_at hl 1 rfl) ?_
              refine lv_iload_n hx hb dX7_sell_89 rfl (lv_at hl 5 rfl) ?_
              refine lv_icmp_le (tgt := 98) hx hb dX7_sell_90 (by decide) (fun c_11 => ?_) (fun c_11 => ?_)
              · -- 90 to 98
                refine lv_iload_n hx hb dX7_sell_98 rfl (lv_at hl 5 rfl) ?_
                refine lv_istore_n (lv' := [(3, .int (M)), (2, .int (nI (u))), (8, .int (nI ((bx 4 - bx 3 * g 1) + sn))), (6, .long (lN (bx 4 - bx 3 * g 1))), (5, .int (nI (n))), (4, .int (nI (sn))), (0, .ref h), (1, .int (nI (j)))]) hx hb dX7_sell_99 rfl hl (by decide) rfl (fun ls hl => ?_)
                refine lv_aload_n hx hb dX7_sell_100 rfl (lv_at hl 6 rfl) ?_
                refine lv_aload_n hx hb dX7_sell_101 rfl (lv_at hl 6 rfl) ?_
                refine gf_7_37 hx hb hts hown hK hP 0 rfl rfl dX7_sell_102 ?_
                refine cl_7_144 (As := [.ref (q 9)]) (rest := []) hx hb hml hts hown (k_X7_turns hB hgb_q) (by decide) ⟨Nat.zero_le _, Nat.zero_le _⟩ hK hP hD hS hA 0 rfl [0, 1, 3] rfl (by decide) rfl hl.1 rfl (Nat.le_of_ble_eq_true rfl) dX7_sell_105 (fun  u H locs hp_12 hP hD hS => ?_)
                subst hp_12
                have hP : va_P D vwCl [mO h q zmu zmk zmz zms zma zmc, (q 0, .inl (cI, 54, .inl (fun z_ => nI (bx z_)))), (q 2, .inl (cI, 76, .inl (fun z_ => nI (nw z_)))), (q 9, .inl (cI, 76, .inl (fun z_ => nI ((tuN bx g) z_))))] _ := hP
                have hD : va_D A [mO h q zmu zmk zmz zms zma zmc, (q 0, .inl (cI, 54, .inl (fun z_ => nI (bx z_)))), (q 2, .inl (cI, 76, .inl (fun z_ => nI (nw z_)))), (q 9, .inl (cI, 76, .inl (fun z_ => nI ((tuN bx g) z_))))] := hD
                have g2_q : tuN bx g = trN bx nw (n + 1) := by rw [hg]; exact tr_s hB nw n
                rw [g2_q] at hP hD
                have hP : va_P D vwCl [mO h q zmu zmk zmz zms zma zmc, (q 0, .inl (cI, 54, .inl (fun z_ => nI (bx z_)))), (q 2, .inl (cI, 76, .inl (fun z_ => nI (nw z_)))), (q 9, .inl (cI, 76, .inl (fun z_ => nI ((trN bx nw (n + 1)) z_))))] _ := hP
                have hD : va_D A [mO h q zmu zmk zmz zms zma zmc, (q 0, .inl (cI, 54, .inl (fun z_ => nI (bx z_)))), (q 2, .inl (cI, 76, .inl (fun z_ => nI (nw z_)))), (q 9, .inl (cI, 76, .inl (fun z_ => nI ((trN bx nw (n + 1)) z_))))] := hD
                refine lv_iload hx hb dX7_sell_108 (lv_at hl 5 rfl) ?_
                refine lv_aload_n hx hb dX7_sell_110 rfl (lv_at hl 6 rfl) ?_
                refine lv_aload_n hx hb dX7_sell_111 rfl (lv_at hl 6 rfl) ?_
                refine gf_7_16 hx hb hts hown hK hP 0 rfl rfl dX7_sell_112 ?_
                refine lv_aload_n hx hb dX7_sell_115 rfl (lv_at hl 6 rfl) ?_
                refine lv_aload_n hx hb dX7_sell_116 rfl (lv_at hl 6 rfl) ?_
                refine gf_7_37 hx hb hts hown hK hP 0 rfl rfl dX7_sell_117 ?_
                refine cl_7_148 (As := [.ref (q 9)]) (rest := [.ref (q 2), .ref h, .int (nI (sn))]) hx hb hml hts hown (k_X7_upOn hB) (by decide) ⟨Nat.zero_le _, Nat.zero_le _⟩ hK hP hD hS hA 0 rfl [0, 1, 3] rfl (by decide) rfl hl.1 rfl (Nat.le_of_ble_eq_true rfl) dX7_sell_120 (fun r_13 u H locs hp_14 hP hD hS => ?_)
                obtain ⟨rfl, rfl⟩ := hp_14
                have hP : va_P D vwCl [mO h q zmu zmk zmz zms zma zmc, (q 0, .inl (cI, 54, .inl (fun z_ => nI (bx z_)))), (q 2, .inl (cI, 76, .inl (fun z_ => nI (nw z_)))), (q 9, .inl (cI, 76, .inl (fun z_ => nI ((trN bx nw (n + 1)) z_))))] _ := hP
                have hD : va_D A [mO h q zmu zmk zmz zms zma zmc, (q 0, .inl (cI, 54, .inl (fun z_ => nI (bx z_)))), (q 2, .inl (cI, 76, .inl (fun z_ => nI (nw z_)))), (q 9, .inl (cI, 76, .inl (fun z_ => nI ((trN bx nw (n + 1)) z_))))] := hD
                have e9_q : exN bx (fun i => trN bx nw (n + 1) (8 + i)) (bx 0) = ebN bx nw (n + 1) := tr_eb hB nw (n + 1)
                have hel_q := eb_lt hB nw (n + 1)
                rw [e9_q]
                show W p l e _ s m args below meth c _ _ _ _ Qf (F0 m _ _ [.int (nI (ebN bx nw (n + 1))), .ref (q 2), .ref h, .int (nI (sn))])
                refine cl_7_152 (As := [.ref (q 2), .int (nI (ebN bx nw (n + 1)))]) (rest := [.int (nI (sn))]) hx hb hml hts hown (k_X7_hasSense hB hN.bd (by omega)) (by decide) ⟨Nat.zero_le _, Nat.zero_le _⟩ hK hP hD hS hA 0 rfl [0, 1, 2] rfl (by decide) rfl hl.1 rfl (Nat.le_of_ble_eq_true rfl) dX7_sell_123 (fun r_15 u H locs hp_16 hP hD hS => ?_)
                obtain ⟨rfl, rfl⟩ := hp_16
                have hP : va_P D vwCl [mO h q zmu zmk zmz zms zma zmc, (q 0, .inl (cI, 54, .inl (fun z_ => nI (bx z_)))), (q 2, .inl (cI, 76, .inl (fun z_ => nI (nw z_)))), (q 9, .inl (cI, 76, .inl (fun z_ => nI ((trN bx nw (n + 1)) z_))))] _ := hP
                have hD : va_D A [mO h q zmu zmk zmz zms zma zmc, (q 0, .inl (cI, 54, .inl (fun z_ => nI (bx z_)))), (q 2, .inl (cI, 76, .inl (fun z_ => nI (nw z_)))), (q 9, .inl (cI, 76, .inl (fun z_ => nI ((trN bx nw (n + 1)) z_))))] := hD
                refine n_ifb_eq (tgt := 133) hx hb dX7_sell_126 (by decide) (fun c_17 => ?_) (fun c_17 => ?_)
                · -- 126 to 133
                  have hs1_q := c_17
                  refine lv_iconst (v := nI 0) hx hb dX7_sell_133 (by decide) ?_
                  refine n_iadd hx hb dX7_sell_134  ?_
                  refine lv_istore (lv' := [(4, .int (nI (sn + 0))), (3, .int (M)), (2, .int (nI (u))), (8, .int (nI ((bx 4 - bx 3 * g 1) + sn))), (6, .long (lN (bx 4 - bx 3 * g 1))), (5, .int (nI (n))), (0, .ref h), (1, .int (nI (j)))]) hx hb dX7_sell_135 hl (by decide) rfl (fun ls hl => ?_)
                  refine lv_iinc (v := nI (n + 1)) (lv' := [(5, .int (nI (n + 1))), (4, .int (nI (sn + 0))), (3, .int (M)), (2, .int (nI (u))), (8, .int (nI ((bx 4 - bx 3 * g 1) + sn))), (6, .long (lN (bx 4 - bx 3 * g 1))), (0, .ref h), (1, .int (nI (j)))]) hx hb dX7_sell_137 hl (k := 5) rfl (n_inc _ 1) (by decide) rfl (fun ls hl => ?_)
                  refine lv_goto (tgt := 23) hx hb dX7_sell_140 (by decide) ?_
                  exact ih_23 u M (sn + 0) (n + 1) (trN bx nw (n + 1)) (by omega) rfl (by rw [hsn]; first | exact cn_1 (P := fun k_ => senN bx nw (ebN bx nw (k_ + 1))) hs1_q | exact cn_0 (P := fun k_ => senN bx nw (ebN bx nw (k_ + 1))) hs1_q) (by rw [hws_q] at *; first | exact sl_1 hB hI (by omega) (by assumption) | exact sl_0 hB hI (by omega) (by assumption)) (by omega) _ _ hP hD hS _ (lv_sub hl [0, 1, 2, 3, 6, 7] rfl)
                · -- 126 to 129
                  have hs1_q := c_17
                  refine lv_iconst (v := nI 1) hx hb dX7_sell_129 (by decide) ?_
                  refine lv_goto (tgt := 134) hx hb dX7_sell_130 (by decide) ?_
                  refine n_iadd hx hb dX7_sell_134  ?_
                  refine lv_istore (lv' := [(4, .int (nI (sn + 1))), (3, .int (M)), (2, .int (nI (u))), (8, .int (nI ((bx 4 - bx 3 * g 1) + sn))), (6, .long (lN (bx 4 - bx 3 * g 1))), (5, .int (nI (n))), (0, .ref h), (1, .int (nI (j)))]) hx hb dX7_sell_135 hl (by decide) rfl (fun ls hl => ?_)
                  refine lv_iinc (v := nI (n + 1)) (lv' := [(5, .int (nI (n + 1))), (4, .int (nI (sn + 1))), (3, .int (M)), (2, .int (nI (u))), (8, .int (nI ((bx 4 - bx 3 * g 1) + sn))), (6, .long (lN (bx 4 - bx 3 * g 1))), (0, .ref h), (1, .int (nI (j)))]) hx hb dX7_sell_137 hl (k := 5) rfl (n_inc _ 1) (by decide) rfl (fun ls hl => ?_)
                  refine lv_goto (tgt := 23) hx hb dX7_sell_140 (by decide) ?_
                  exact ih_23 u M (sn + 1) (n + 1) (trN bx nw (n + 1)) (by omega) rfl (by rw [hsn]; first | exact cn_1 (P := fun k_ => senN bx nw (ebN bx nw (k_ + 1))) hs1_q | exact cn_0 (P := fun k_ => senN bx nw (ebN bx nw (k_ + 1))) hs1_q) (by rw [hws_q] at *; first | exact sl_1 hB hI (by omega) (by assumption) | exact sl_0 hB hI (by omega) (by assumption)) (by omega) _ _ hP hD hS _ (lv_sub hl [0, 1, 2, 3, 6, 7] rfl)
              · exact absurd c_10 c_11
            · -- 77 to 80
              refine lv_iload hx hb dX7_sell_80 (lv_at hl 2 rfl) ?_
              refine lv_goto (tgt := 86) hx hb dX7_sell_82 (by decide) ?_
              refine lv_istore_n (lv' := [(2, .int (nI (n))), (8, .int (nI ((bx 4 - bx 3 * g 1) + sn))), (6, .long (lN (bx 4 - bx 3 * g 1))), (5, .int (nI (n))), (4, .int (nI (sn))), (3, .int (M)), (0, .ref h), (1, .int (nI (j)))]) hx hb dX7_sell_86 rfl hl (by decide) rfl (fun ls hl => ?_)
              refine lv_iload hx hb dX7_sell_87 (lv_at hl 1 rfl) ?_
              refine lv_iload_n hx hb dX7_sell_89 rfl (lv_at hl 5 rfl) ?_
              refine lv_icmp_le (tgt := 98) hx hb dX7_sell_90 (by decide) (fun c_18 => ?_) (fun c_18 => ?_)
              · exact absurd c_18 c_10
              · -- 90 to 93
                refine lv_iload hx hb dX7_sell_93 (lv_at hl 1 rfl) ?_
                refine lv_goto (tgt := 99) hx hb dX7_sell_95 (by decide) ?_
                refine lv_istore_n (lv' := [(3, .int (nI ((bx 4 - bx 3 * g 1) + sn))), (2, .int (nI (n))), (8, .int (nI ((bx 4 - bx 3 * g 1) + sn))), (6, .long (lN (bx 4 - bx 3 * g 1))), (5, .int (nI (n))), (4, .int (nI (sn))), (0, .ref h), (1, .int (nI (j)))]) hx hb dX7_sell_99 rfl hl (by decide) rfl (fun ls hl => ?_)
                refine lv_aload_n hx hb dX7_sell_100 rfl (lv_at hl 6 rfl) ?_
                refine lv_aload_n hx hb dX7_sell_101 rfl (lv_at hl 6 rfl) ?_
                refine gf_7_37 hx hb hts hown hK hP 0 rfl rfl dX7_sell_102 ?_
                refine cl_7_144 (As := [.ref (q 9)]) (rest := []) hx hb hml hts hown (k_X7_turns hB hgb_q) (by decide) ⟨Nat.zero_le _, Nat.zero_le _⟩ hK hP hD hS hA 0 rfl [0, 1, 3] rfl (by decide) rfl hl.1 rfl (Nat.le_of_ble_eq_true rfl) dX7_sell_105 (fun  u H locs hp_19 hP hD hS => ?_)
                subst hp_19
                have hP : va_P D vwCl [mO h q zmu zmk zmz zms zma zmc, (q 0, .inl (cI, 54, .inl (fun z_ => nI (bx z_)))), (q 2, .inl (cI, 76, .inl (fun z_ => nI (nw z_)))), (q 9, .inl (cI, 76, .inl (fun z_ => nI ((tuN bx g) z_))))] _ := hP
                have hD : va_D A [mO h q zmu zmk zmz zms zma zmc, (q 0, .inl (cI, 54, .inl (fun z_ => nI (bx z_)))), (q 2, .inl (cI, 76, .inl (fun z_ => nI (nw z_)))), (q 9, .inl (cI, 76, .inl (fun z_ => nI ((tuN bx g) z_))))] := hD
                have g2_q : tuN bx g = trN bx nw (n + 1) := by rw [hg]; exact tr_s hB nw n
                rw [g2_q] at hP hD
                have hP : va_P D vwCl [mO h q zmu zmk zmz zms zma zmc, (q 0, .inl (cI, 54, .inl (fun z_ => nI (bx z_)))), (q 2, .inl (cI, 76, .inl (fun z_ => nI (nw z_)))), (q 9, .inl (cI, 76, .inl (fun z_ => nI ((trN bx nw (n + 1)) z_))))] _ := hP
                have hD : va_D A [mO h q zmu zmk zmz zms zma zmc, (q 0, .inl (cI, 54, .inl (fun z_ => nI (bx z_)))), (q 2, .inl (cI, 76, .inl (fun z_ => nI (nw z_)))), (q 9, .inl (cI, 76, .inl (fun z_ => nI ((trN bx nw (n + 1)) z_))))] := hD
                refine lv_iload hx hb dX7_sell_108 (lv_at hl 5 rfl) ?_
                refine lv_aload_n hx hb dX7_sell_110 rfl (lv_at hl 6 rfl) ?_
                refine lv_aload_n hx hb dX7_sell_111 rfl (lv_at hl 6 rfl) ?_
                refine gf_7_16 hx hb hts hown hK hP 0 rfl rfl dX7_sell_112 ?_
                refine lv_aload_n hx hb dX7_sell_115 rfl (lv_at hl 6 rfl) ?_
                refine lv_aload_n hx hb dX7_sell_116 rfl (lv_at hl 6 rfl) ?_
                refine gf_7_37 hx hb hts hown hK hP 0 rfl rfl dX7_sell_117 ?_
                refine cl_7_148 (As := [.ref (q 9)]) (rest := [.ref (q 2), .ref h, .int (nI (sn))]) hx hb hml hts hown (k_X7_upOn hB) (by decide) ⟨Nat.zero_le _, Nat.zero_le _⟩ hK hP hD hS hA 0 rfl [0, 1, 3] rfl (by decide) rfl hl.1 rfl (Nat.le_of_ble_eq_true rfl) dX7_sell_120 (fun r_20 u H locs hp_21 hP hD hS => ?_)
                obtain ⟨rfl, rfl⟩ := hp_21
                have hP : va_P D vwCl [mO h q zmu zmk zmz zms zma zmc, (q 0, .inl (cI, 54, .inl (fun z_ => nI (bx z_)))), (q 2, .inl (cI, 76, .inl (fun z_ => nI (nw z_)))), (q 9, .inl (cI, 76, .inl (fun z_ => nI ((trN bx nw (n + 1)) z_))))] _ := hP
                have hD : va_D A [mO h q zmu zmk zmz zms zma zmc, (q 0, .inl (cI, 54, .inl (fun z_ => nI (bx z_)))), (q 2, .inl (cI, 76, .inl (fun z_ => nI (nw z_)))), (q 9, .inl (cI, 76, .inl (fun z_ => nI ((trN bx nw (n + 1)) z_))))] := hD
                have e9_q : exN bx (fun i => trN bx nw (n + 1) (8 + i)) (bx 0) = ebN bx nw (n + 1) := tr_eb hB nw (n + 1)
                have hel_q := eb_lt hB nw (n + 1)
                rw [e9_q]
                show W p l e _ s m args below meth c _ _ _ _ Qf (F0 m _ _ [.int (nI (ebN bx nw (n + 1))), .ref (q 2), .ref h, .int (nI (sn))])
                refine cl_7_152 (As := [.ref (q 2), .int (nI (ebN bx nw (n + 1)))]) (rest := [.int (nI (sn))]) hx hb hml hts hown (k_X7_hasSense hB hN.bd (by omega)) (by decide) ⟨Nat.zero_le _, Nat.zero_le _⟩ hK hP hD hS hA 0 rfl [0, 1, 2] rfl (by decide) rfl hl.1 rfl (Nat.le_of_ble_eq_true rfl) dX7_sell_123 (fun r_22 u H locs hp_23 hP hD hS => ?_)
                obtain ⟨rfl, rfl⟩ := hp_23
                have hP : va_P D vwCl [mO h q zmu zmk zmz zms zma zmc, (q 0, .inl (cI, 54, .inl (fun z_ => nI (bx z_)))), (q 2, .inl (cI, 76, .inl (fun z_ => nI (nw z_)))), (q 9, .inl (cI, 76, .inl (fun z_ => nI ((trN bx nw (n + 1)) z_))))] _ := hP
                have hD : va_D A [mO h q zmu zmk zmz zms zma zmc, (q 0, .inl (cI, 54, .inl (fun z_ => nI (bx z_)))), (q 2, .inl (cI, 76, .inl (fun z_ => nI (nw z_)))), (q 9, .inl (cI, 76, .inl (fun z_ => nI ((trN bx nw (n + 1)) z_))))] := hD
                refine n_ifb_eq (tgt := 133) hx hb dX7_sell_126 (by decide) (fun c_24 => ?_) (fun c_24 => ?_)
                · -- 126 to 133
                  have hs1_q := c_24
                  refine lv_iconst (v := nI 0) hx hb dX7_sell_133 (by decide) ?_
                  refine n_iadd hx hb dX7_sell_134  ?_
                  refine lv_istore (lv' := [(4, .int (nI (sn + 0))), (3, .int (nI ((bx 4 - bx 3 * g 1) + sn))), (2, .int (nI (n))), (8, .int (nI ((bx 4 - bx 3 * g 1) + sn))), (6, .long (lN (bx 4 - bx 3 * g 1))), (5, .int (nI (n))), (0, .ref h), (1, .int (nI (j)))]) hx hb dX7_sell_135 hl (by decide) rfl (fun ls hl => ?_)
                  refine lv_iinc (v := nI (n + 1)) (lv' := [(5, .int (nI (n + 1))), (4, .int (nI (sn + 0))), (3, .int (nI ((bx 4 - bx 3 * g 1) + sn))), (2, .int (nI (n))), (8, .int (nI ((bx 4 - bx 3 * g 1) + sn))), (6, .long (lN (bx 4 - bx 3 * g 1))), (0, .ref h), (1, .int (nI (j)))]) hx hb dX7_sell_137 hl (k := 5) rfl (n_inc _ 1) (by decide) rfl (fun ls hl => ?_)
                  refine lv_goto (tgt := 23) hx hb dX7_sell_140 (by decide) ?_
                  exact ih_23 n (nI ((bx 4 - bx 3 * g 1) + sn)) (sn + 0) (n + 1) (trN bx nw (n + 1)) (by omega) rfl (by rw [hsn]; first | exact cn_1 (P := fun k_ => senN bx nw (ebN bx nw (k_ + 1))) hs1_q | exact cn_0 (P := fun k_ => senN bx nw (ebN bx nw (k_ + 1))) hs1_q) (by rw [hws_q] at *; first | exact sl_1 hB hI (by omega) (by assumption) | exact sl_0 hB hI (by omega) (by assumption)) (by omega) _ _ hP hD hS _ (lv_sub hl [0, 1, 2, 3, 6, 7] rfl)
                · -- 126 to 129
                  have hs1_q := c_24
                  refine lv_iconst (v := nI 1) hx hb dX7_sell_129 (by decide) ?_
                  refine lv_goto (tgt := 134) hx hb dX7_sell_130 (by decide) ?_
                  refine n_iadd hx hb dX7_sell_134  ?_
                  refine lv_istore (lv' := [(4, .int (nI (sn + 1))), (3, .int (nI ((bx 4 - bx 3 * g 1) + sn))), (2, .int (nI (n))), (8, .int (nI ((bx 4 - bx 3 * g 1) + sn))), (6, .long (lN (bx 4 - bx 3 * g 1))), (5, .int (nI (n))), (0, .ref h), (1, .int (nI (j)))]) hx hb dX7_sell_135 hl (by decide) rfl (fun ls hl => ?_)
                  refine lv_iinc (v := nI (n + 1)) (lv' := [(5, .int (nI (n + 1))), (4, .int (nI (sn + 1))), (3, .int (nI ((bx 4 - bx 3 * g 1) + sn))), (2, .int (nI (n))), (8, .int (nI ((bx 4 - bx 3 * g 1) + sn))), (6, .long (lN (bx 4 - bx 3 * g 1))), (0, .ref h), (1, .int (nI (j)))]) hx hb dX7_sell_137 hl (k := 5) rfl (n_inc _ 1) (by decide) rfl (fun ls hl => ?_)
                  refine lv_goto (tgt := 23) hx hb dX7_sell_140 (by decide) ?_
                  exact ih_23 n (nI ((bx 4 - bx 3 * g 1) + sn)) (sn + 1) (n + 1) (trN bx nw (n + 1)) (by omega) rfl (by rw [hsn]; first | exact cn_1 (P := fun k_ => senN bx nw (ebN bx nw (k_ + 1))) hs1_q | exact cn_0 (P := fun k_ => senN bx nw (ebN bx nw (k_ + 1))) hs1_q) (by rw [hws_q] at *; first | exact sl_1 hB hI (by omega) (by assumption) | exact sl_0 hB hI (by omega) (by assumption)) (by omega) _ _ hP hD hS _ (lv_sub hl [0, 1, 2, 3, 6, 7] rfl)
          · -- 59 to 62
            have hle_q := lc_0 (by omega) (by omega) c_9
            have hws_q : 0 + sn = slW bx nw n := by rw [show 0 = bx 4 - bx 3 * g 1 by omega, hg1_q, hsn]; rfl
            have hwl_q := slW_le hB nw n
            refine lv_iconst (v := nI 0) hx hb dX7_sell_62 (by decide) ?_
            refine lv_goto (tgt := 69) hx hb dX7_sell_63 (by decide) ?_
            refine lv_iload hx hb dX7_sell_69 (lv_at hl 2 rfl) ?_
            refine n_iadd hx hb dX7_sell_71  ?_
            refine lv_istore (lv' := [(8, .int (nI (0 + sn))), (6, .long (lN (bx 4) - lN ((bx 3) * (g 1)))), (5, .int (nI (n))), (4, .int (nI (sn))), (3, .int (M)), (2, .int (nI (u))), (0, .ref h), (1, .int (nI (j)))]) hx hb dX7_sell_72 hl (by decide) rfl (fun ls hl => ?_)
            refine lv_iload hx hb dX7_sell_74 (lv_at hl 0 rfl) ?_
            refine lv_iload_n hx hb dX7_sell_76 rfl (lv_at hl 4 rfl) ?_
            refine lv_icmp_le (tgt := 85) hx hb dX7_sell_77 (by decide) (fun c_25 => ?_) (fun c_25 => ?_)
            · -- 77 to 85
              refine lv_iload_n hx hb dX7_sell_85 rfl (lv_at hl 5 rfl) ?_
              refine lv_istore_n (lv' := [(2, .int (nI (u))), (8, .int (nI (0 + sn))), (6, .long (lN (bx 4) - lN ((bx 3) * (g 1)))), (5, .int (nI (n))), (4, .int (nI (sn))), (3, .int (M)), (0, .ref h), (1, .int (nI (j)))]) hx hb dX7_sell_86 rfl hl (by decide) rfl (fun ls hl => ?_)
              refine lv_iload hx hb dX7_sell_87 (lv_at hl 1 rfl) ?_
              refine lv_iload_n hx hb dX7_sell_89 rfl (lv_at hl 5 rfl) ?_
              refine lv_icmp_le (tgt := 98) hx hb dX7_sell_90 (by decide) (fun c_26 => ?_) (fun c_26 => ?_)
              · -- 90 to 98
                refine lv_iload_n hx hb dX7_sell_98 rfl (lv_at hl 5 rfl) ?_
                refine lv_istore_n (lv' := [(3, .int (M)), (2, .int (nI (u))), (8, .int (nI (0 + sn))), (6, .long (lN (bx 4) - lN ((bx 3) * (g 1)))), (5, .int (nI (n))), (4, .int (nI (sn))), (0, .ref h), (1, .int (nI (j)))]) hx hb dX7_sell_99 rfl hl (by decide) rfl (fun ls hl => ?_)
                refine lv_aload_n hx hb dX7_sell_100 rfl (lv_at hl 6 rfl) ?_
                refine lv_aload_n hx hb dX7_sell_101 rfl (lv_at hl 6 rfl) ?_
                refine gf_7_37 hx hb hts hown hK hP 0 rfl rfl dX7_sell_102 ?_
                refine cl_7_144 (As := [.ref (q 9)]) (rest := []) hx hb hml hts hown (k_X7_turns hB hgb_q) (by decide) ⟨Nat.zero_le _, Nat.zero_le _⟩ hK hP hD hS hA 0 rfl [0, 1, 3] rfl (by decide) rfl hl.1 rfl (Nat.le_of_ble_eq_true rfl) dX7_sell_105 (fun  u H locs hp_27 hP hD hS => ?_)
                subst hp_27
                have hP : va_P D vwCl [mO h q zmu zmk zmz zms zma zmc, (q 0, .inl (cI, 54, .inl (fun z_ => nI (bx z_)))), (q 2, .inl (cI, 76, .inl (fun z_ => nI (nw z_)))), (q 9, .inl (cI, 76, .inl (fun z_ => nI ((tuN bx g) z_))))] _ := hP
                have hD : va_D A [mO h q zmu zmk zmz zms zma zmc, (q 0, .inl (cI, 54, .inl (fun z_ => nI (bx z_)))), (q 2, .inl (cI, 76, .inl (fun z_ => nI (nw z_)))), (q 9, .inl (cI, 76, .inl (fun z_ => nI ((tuN bx g) z_))))] := hD
                have g2_q : tuN bx g = trN bx nw (n + 1) := by rw [hg]; exact tr_s hB nw n
                rw [g2_q] at hP hD
                have hP : va_P D vwCl [mO h q zmu zmk zmz zms zma zmc, (q 0, .inl (cI, 54, .inl (fun z_ => nI (bx z_)))), (q 2, .inl (cI, 76, .inl (fun z_ => nI (nw z_)))), (q 9, .inl (cI, 76, .inl (fun z_ => nI ((trN bx nw (n + 1)) z_))))] _ := hP
                have hD : va_D A [mO h q zmu zmk zmz zms zma zmc, (q 0, .inl (cI, 54, .inl (fun z_ => nI (bx z_)))), (q 2, .inl (cI, 76, .inl (fun z_ => nI (nw z_)))), (q 9, .inl (cI, 76, .inl (fun z_ => nI ((trN bx nw (n + 1)) z_))))] := hD
                refine lv_iload hx hb dX7_sell_108 (lv_at hl 5 rfl) ?_
                refine lv_aload_n hx hb dX7_sell_110 rfl (lv_at hl 6 rfl) ?_
                refine lv_aload_n hx hb dX7_sell_111 rfl (lv_at hl 6 rfl) ?_
                refine gf_7_16 hx hb hts hown hK hP 0 rfl rfl dX7_sell_112 ?_
                refine lv_aload_n hx hb dX7_sell_115 rfl (lv_at hl 6 rfl) ?_
                refine lv_aload_n hx hb dX7_sell_116 rfl (lv_at hl 6 rfl) ?_
                refine gf_7_37 hx hb hts hown hK hP 0 rfl rfl dX7_sell_117 ?_
                refine cl_7_148 (As := [.ref (q 9)]) (rest := [.ref (q 2), .ref h, .int (nI (sn))]) hx hb hml hts hown (k_X7_upOn hB) (by decide) ⟨Nat.zero_le _, Nat.zero_le _⟩ hK hP hD hS hA 0 rfl [0, 1, 3] rfl (by decide) rfl hl.1 rfl (Nat.le_of_ble_eq_true rfl) dX7_sell_120 (fun r_28 u H locs hp_29 hP hD hS => ?_)
                obtain ⟨rfl, rfl⟩ := hp_29
                have hP : va_P D vwCl [mO h q zmu zmk zmz zms zma zmc, (q 0, .inl (cI, 54, .inl (fun z_ => nI (bx z_)))), (q 2, .inl (cI, 76, .inl (fun z_ => nI (nw z_)))), (q 9, .inl (cI, 76, .inl (fun z_ => nI ((trN bx nw (n + 1)) z_))))] _ := hP
                have hD : va_D A [mO h q zmu zmk zmz zms zma zmc, (q 0, .inl (cI, 54, .inl (fun z_ => nI (bx z_)))), (q 2, .inl (cI, 76, .inl (fun z_ => nI (nw z_)))), (q 9, .inl (cI, 76, .inl (fun z_ => nI ((trN bx nw (n + 1)) z_))))] := hD
                have e9_q : exN bx (fun i => trN bx nw (n + 1) (8 + i)) (bx 0) = ebN bx nw (n + 1) := tr_eb hB nw (n + 1)
                have hel_q := eb_lt hB nw (n + 1)
                rw [e9_q]
                show W p l e _ s m args below meth c _ _ _ _ Qf (F0 m _ _ [.int (nI (ebN bx nw (n + 1))), .ref (q 2), .ref h, .int (nI (sn))])
                refine cl_7_152 (As := [.ref (q 2), .int (nI (ebN bx nw (n + 1)))]) (rest := [.int (nI (sn))]) hx hb hml hts hown (k_X7_hasSense hB hN.bd (by omega)) (by decide) ⟨Nat.zero_le _, Nat.zero_le _⟩ hK hP hD hS hA 0 rfl [0, 1, 2] rfl (by decide) rfl hl.1 rfl (Nat.le_of_ble_eq_true rfl) dX7_sell_123 (fun r_30 u H locs hp_31 hP hD hS => ?_)
                obtain ⟨rfl, rfl⟩ := hp_31
                have hP : va_P D vwCl [mO h q zmu zmk zmz zms zma zmc, (q 0, .inl (cI, 54, .inl (fun z_ => nI (bx z_)))), (q 2, .inl (cI, 76, .inl (fun z_ => nI (nw z_)))), (q 9, .inl (cI, 76, .inl (fun z_ => nI ((trN bx nw (n + 1)) z_))))] _ := hP
                have hD : va_D A [mO h q zmu zmk zmz zms zma zmc, (q 0, .inl (cI, 54, .inl (fun z_ => nI (bx z_)))), (q 2, .inl (cI, 76, .inl (fun z_ => nI (nw z_)))), (q 9, .inl (cI, 76, .inl (fun z_ => nI ((trN bx nw (n + 1)) z_))))] := hD
                refine n_ifb_eq (tgt := 133) hx hb dX7_sell_126 (by decide) (fun c_32 => ?_) (fun c_32 => ?_)
                · -- 126 to 133
                  have hs1_q := c_32
                  refine lv_iconst (v := nI 0) hx hb dX7_sell_133 (by decide) ?_
                  refine n_iadd hx hb dX7_sell_134  ?_
                  refine lv_istore (lv' := [(4, .int (nI (sn + 0))), (3, .int (M)), (2, .int (nI (u))), (8, .int (nI (0 + sn))), (6, .long (lN (bx 4) - lN ((bx 3) * (g 1)))), (5, .int (nI (n))), (0, .ref h), (1, .int (nI (j)))]) hx hb dX7_sell_135 hl (by decide) rfl (fun ls hl => ?_)
                  refine lv_iinc (v := nI (n + 1)) (lv' := [(5, .int (nI (n + 1))), (4, .int (nI (sn + 0))), (3, .int (M)), (2, .int (nI (u))), (8, .int (nI (0 + sn))), (6, .long (lN (bx 4) - lN ((bx 3) * (g 1)))), (0, .ref h), (1, .int (nI (j)))]) hx hb dX7_sell_137 hl (k := 5) rfl (n_inc _ 1) (by decide) rfl (fun ls hl => ?_)
                  refine lv_goto (tgt := 23) hx hb dX7_sell_140 (by decide) ?_
                  exact ih_23 u M (sn + 0) (n + 1) (trN bx nw (n + 1)) (by omega) rfl (by rw [hsn]; first | exact cn_1 (P := fun k_ => senN bx nw (ebN bx nw (k_ + 1))) hs1_q | exact cn_0 (P := fun k_ => senN bx nw (ebN bx nw (k_ + 1))) hs1_q) (by rw [hws_q] at *; first | exact sl_1 hB hI (by omega) (by assumption) | exact sl_0 hB hI (by omega) (by assumption)) (by omega) _ _ hP hD hS _ (lv_sub hl [0, 1, 2, 3, 6, 7] rfl)
                · -- 126 to 129
                  have hs1_q := c_32
                  refine lv_iconst (v := nI 1) hx hb dX7_sell_129 (by decide) ?_
                  refine lv_goto (tgt := 134) hx hb dX7_sell_130 (by decide) ?_
                  refine n_iadd hx hb dX7_sell_134  ?_
                  refine lv_istore (lv' := [(4, .int (nI (sn + 1))), (3, .int (M)), (2, .int (nI (u))), (8, .int (nI (0 + sn))), (6, .long (lN (bx 4) - lN ((bx 3) * (g 1)))), (5, .int (nI (n))), (0, .ref h), (1, .int (nI (j)))]) hx hb dX7_sell_135 hl (by decide) rfl (fun ls hl => ?_)
                  refine lv_iinc (v := nI (n + 1)) (lv' := [(5, .int (nI (n + 1))), (4, .int (nI (sn + 1))), (3, .int (M)), (2, .int (nI (u))), (8, .int (nI (0 + sn))), (6, .long (lN (bx 4) - lN ((bx 3) * (g 1)))), (0, .ref h), (1, .int (nI (j)))]) hx hb dX7_sell_137 hl (k := 5) rfl (n_inc _ 1) (by decide) rfl (fun ls hl => ?_)
                  refine lv_goto (tgt := 23) hx hb dX7_sell_140 (by decide) ?_
                  exact ih_23 u M (sn + 1) (n + 1) (trN bx nw (n + 1)) (by omega) rfl (by rw [hsn]; first | exact cn_1 (P := fun k_ => senN bx nw (ebN bx nw (k_ + 1))) hs1_q | exact cn_0 (P := fun k_ => senN bx nw (ebN bx nw (k_ + 1))) hs1_q) (by rw [hws_q] at *; first | exact sl_1 hB hI (by omega) (by assumption) | exact sl_0 hB hI (by omega) (by assumption)) (by omega) _ _ hP hD hS _ (lv_sub hl [0, 1, 2, 3, 6, 7] rfl)
              · exact absurd c_25 c_26
            · -- 77 to 80
              refine lv_iload hx hb dX7_sell_80 (lv_at hl 2 rfl) ?_
              refine lv_goto (tgt := 86) hx hb dX7_sell_82 (by decide) ?_
              refine lv_istore_n (lv' := [(2, .int (nI (n))), (8, .int (nI (0 + sn))), (6, .long (lN (bx 4) - lN ((bx 3) * (g 1)))), (5, .int (nI (n))), (4, .int (nI (sn))), (3, .int (M)), (0, .ref h), (1, .int (nI (j)))]) hx hb dX7_sell_86 rfl hl (by decide) rfl (fun ls hl => ?_)
              refine lv_iload hx hb dX7_sell_87 (lv_at hl 1 rfl) ?_
              refine lv_iload_n hx hb dX7_sell_89 rfl (lv_at hl 5 rfl) ?_
              refine lv_icmp_le (tgt := 98) hx hb dX7_sell_90 (by decide) (fun c_33 => ?_) (fun c_33 => ?_)
              · exact absurd c_33 c_25
              · -- 90 to 93
                refine lv_iload hx hb dX7_sell_93 (lv_at hl 1 rfl) ?_
                refine lv_goto (tgt := 99) hx hb dX7_sell_95 (by decide) ?_
                refine lv_istore_n (lv' := [(3, .int (nI (0 + sn))), (2, .int (nI (n))), (8, .int (nI (0 + sn))), (6, .long (lN (bx 4) - lN ((bx 3) * (g 1)))), (5, .int (nI (n))), (4, .int (nI (sn))), (0, .ref h), (1, .int (nI (j)))]) hx hb dX7_sell_99 rfl hl (by decide) rfl (fun ls hl => ?_)
                refine lv_aload_n hx hb dX7_sell_100 rfl (lv_at hl 6 rfl) ?_
                refine lv_aload_n hx hb dX7_sell_101 rfl (lv_at hl 6 rfl) ?_
                refine gf_7_37 hx hb hts hown hK hP 0 rfl rfl dX7_sell_102 ?_
                refine cl_7_144 (As := [.ref (q 9)]) (rest := []) hx hb hml hts hown (k_X7_turns hB hgb_q) (by decide) ⟨Nat.zero_le _, Nat.zero_le _⟩ hK hP hD hS hA 0 rfl [0, 1, 3] rfl (by decide) rfl hl.1 rfl (Nat.le_of_ble_eq_true rfl) dX7_sell_105 (fun  u H locs hp_34 hP hD hS => ?_)
                subst hp_34
                have hP : va_P D vwCl [mO h q zmu zmk zmz zms zma zmc, (q 0, .inl (cI, 54, .inl (fun z_ => nI (bx z_)))), (q 2, .inl (cI, 76, .inl (fun z_ => nI (nw z_)))), (q 9, .inl (cI, 76, .inl (fun z_ => nI ((tuN bx g) z_))))] _ := hP
                have hD : va_D A [mO h q zmu zmk zmz zms zma zmc, (q 0, .inl (cI, 54, .inl (fun z_ => nI (bx z_)))), (q 2, .inl (cI, 76, .inl (fun z_ => nI (nw z_)))), (q 9, .inl (cI, 76, .inl (fun z_ => nI ((tuN bx g) z_))))] := hD
                have g2_q : tuN bx g = trN bx nw (n + 1) := by rw [hg]; exact tr_s hB nw n
                rw [g2_q] at hP hD
                have hP : va_P D vwCl [mO h q zmu zmk zmz zms zma zmc, (q 0, .inl (cI, 54, .inl (fun z_ => nI (bx z_)))), (q 2, .inl (cI, 76, .inl (fun z_ => nI (nw z_)))), (q 9, .inl (cI, 76, .inl (fun z_ => nI ((trN bx nw (n + 1)) z_))))] _ := hP
                have hD : va_D A [mO h q zmu zmk zmz zms zma zmc, (q 0, .inl (cI, 54, .inl (fun z_ => nI (bx z_)))), (q 2, .inl (cI, 76, .inl (fun z_ => nI (nw z_)))), (q 9, .inl (cI, 76, .inl (fun z_ => nI ((trN bx nw (n + 1)) z_))))] := hD
                refine lv_iload hx hb dX7_sell_108 (lv_at hl 5 rfl) ?_
                refine lv_aload_n hx hb dX7_sell_110 rfl (lv_at hl 6 rfl) ?_
                refine lv_aload_n hx hb dX7_sell_111 rfl (lv_at hl 6 rfl) ?_
                refine gf_7_16 hx hb hts hown hK hP 0 rfl rfl dX7_sell_112 ?_
                refine lv_aload_n hx hb dX7_sell_115 rfl (lv_at hl 6 rfl) ?_
                refine lv_aload_n hx hb dX7_sell_116 rfl (lv_at hl 6 rfl) ?_
                refine gf_7_37 hx hb hts hown hK hP 0 rfl rfl dX7_sell_117 ?_
                refine cl_7_148 (As := [.ref (q 9)]) (rest := [.ref (q 2), .ref h, .int (nI (sn))]) hx hb hml hts hown (k_X7_upOn hB) (by decide) ⟨Nat.zero_le _, Nat.zero_le _⟩ hK hP hD hS hA 0 rfl [0, 1, 3] rfl (by decide) rfl hl.1 rfl (Nat.le_of_ble_eq_true rfl) dX7_sell_120 (fun r_35 u H locs hp_36 hP hD hS => ?_)
                obtain ⟨rfl, rfl⟩ := hp_36
                have hP : va_P D vwCl [mO h q zmu zmk zmz zms zma zmc, (q 0, .inl (cI, 54, .inl (fun z_ => nI (bx z_)))), (q 2, .inl (cI, 76, .inl (fun z_ => nI (nw z_)))), (q 9, .inl (cI, 76, .inl (fun z_ => nI ((trN bx nw (n + 1)) z_))))] _ := hP
                have hD : va_D A [mO h q zmu zmk zmz zms zma zmc, (q 0, .inl (cI, 54, .inl (fun z_ => nI (bx z_)))), (q 2, .inl (cI, 76, .inl (fun z_ => nI (nw z_)))), (q 9, .inl (cI, 76, .inl (fun z_ => nI ((trN bx nw (n + 1)) z_))))] := hD
                have e9_q : exN bx (fun i => trN bx nw (n + 1) (8 + i)) (bx 0) = ebN bx nw (n + 1) := tr_eb hB nw (n + 1)
                have hel_q := eb_lt hB nw (n + 1)
                rw [e9_q]
                show W p l e _ s m args below meth c _ _ _ _ Qf (F0 m _ _ [.int (nI (ebN bx nw (n + 1))), .ref (q 2), .ref h, .int (nI (sn))])
                refine cl_7_152 (As := [.ref (q 2), .int (nI (ebN bx nw (n + 1)))]) (rest := [.int (nI (sn))]) hx hb hml hts hown (k_X7_hasSense hB hN.bd (by omega)) (by decide) ⟨Nat.zero_le _, Nat.zero_le _⟩ hK hP hD hS hA 0 rfl [0, 1, 2] rfl (by decide) rfl hl.1 rfl (Nat.le_of_ble_eq_true rfl) dX7_sell_123 (fun r_37 u H locs hp_38 hP hD hS => ?_)
                obtain ⟨rfl, rfl⟩ := hp_38
                have hP : va_P D vwCl [mO h q zmu zmk zmz zms zma zmc, (q 0, .inl (cI, 54, .inl (fun z_ => nI (bx z_)))), (q 2, .inl (cI, 76, .inl (fun z_ => nI (nw z_)))), (q 9, .inl (cI, 76, .inl (fun z_ => nI ((trN bx nw (n + 1)) z_))))] _ := hP
                have hD : va_D A [mO h q zmu zmk zmz zms zma zmc, (q 0, .inl (cI, 54, .inl (fun z_ => nI (bx z_)))), (q 2, .inl (cI, 76, .inl (fun z_ => nI (nw z_)))), (q 9, .inl (cI, 76, .inl (fun z_ => nI ((trN bx nw (n + 1)) z_))))] := hD
                refine n_ifb_eq (tgt := 133) hx hb dX7_sell_126 (by decide) (fun c_39 => ?_) (fun c_39 => ?_)
                · -- 126 to 133
                  have hs1_q := c_39
                  refine lv_iconst (v := nI 0) hx hb dX7_sell_133 (by decide) ?_
                  refine n_iadd hx hb dX7_sell_134  ?_
                  refine lv_istore (lv' := [(4, .int (nI (sn + 0))), (3, .int (nI (0 + sn))), (2, .int (nI (n))), (8, .int (nI (0 + sn))), (6, .long (lN (bx 4) - lN ((bx 3) * (g 1)))), (5, .int (nI (n))), (0, .ref h), (1, .int (nI (j)))]) hx hb dX7_sell_135 hl (by decide) rfl (fun ls hl => ?_)
                  refine lv_iinc (v := nI (n + 1)) (lv' := [(5, .int (nI (n + 1))), (4, .int (nI (sn + 0))), (3, .int (nI (0 + sn))), (2, .int (nI (n))), (8, .int (nI (0 + sn))), (6, .long (lN (bx 4) - lN ((bx 3) * (g 1)))), (0, .ref h), (1, .int (nI (j)))]) hx hb dX7_sell_137 hl (k := 5) rfl (n_inc _ 1) (by decide) rfl (fun ls hl => ?_)
                  refine lv_goto (tgt := 23) hx hb dX7_sell_140 (by decide) ?_
                  exact ih_23 n (nI (0 + sn)) (sn + 0) (n + 1) (trN bx nw (n + 1)) (by omega) rfl (by rw [hsn]; first | exact cn_1 (P := fun k_ => senN bx nw (ebN bx nw (k_ + 1))) hs1_q | exact cn_0 (P := fun k_ => senN bx nw (ebN bx nw (k_ + 1))) hs1_q) (by rw [hws_q] at *; first | exact sl_1 hB hI (by omega) (by assumption) | exact sl_0 hB hI (by omega) (by assumption)) (by omega) _ _ hP hD hS _ (lv_sub hl [0, 1, 2, 3, 6, 7] rfl)
                · -- 126 to 129
                  have hs1_q := c_39
                  refine lv_iconst (v := nI 1) hx hb dX7_sell_129 (by decide) ?_
                  refine lv_goto (tgt := 134) hx hb dX7_sell_130 (by decide) ?_
                  refine n_iadd hx hb dX7_sell_134  ?_
                  refine lv_istore (lv' := [(4, .int (nI (sn + 1))), (3, .int (nI (0 + sn))), (2, .int (nI (n))), (8, .int (nI (0 + sn))), (6, .long (lN (bx 4) - lN ((bx 3) * (g 1)))), (5, .int (nI (n))), (0, .ref h), (1, .int (nI (j)))]) hx hb dX7_sell_135 hl (by decide) rfl (fun ls hl => ?_)
                  refine lv_iinc (v := nI (n + 1)) (lv' := [(5, .int (nI (n + 1))), (4, .int (nI (sn + 1))), (3, .int (nI (0 + sn))), (2, .int (nI (n))), (8, .int (nI (0 + sn))), (6, .long (lN (bx 4) - lN ((bx 3) * (g 1)))), (0, .ref h), (1, .int (nI (j)))]) hx hb dX7_sell_137 hl (k := 5) rfl (n_inc _ 1) (by decide) rfl (fun ls hl => ?_)
                  refine lv_goto (tgt := 23) hx hb dX7_sell_140 (by decide) ?_
                  exact ih_23 n (nI (0 + sn)) (sn + 1) (n + 1) (trN bx nw (n + 1)) (by omega) rfl (by rw [hsn]; first | exact cn_1 (P := fun k_ => senN bx nw (ebN bx nw (k_ + 1))) hs1_q | exact cn_0 (P := fun k_ => senN bx nw (ebN bx nw (k_ + 1))) hs1_q) (by rw [hws_q] at *; first | exact sl_1 hB hI (by omega) (by assumption) | exact sl_0 hB hI (by omega) (by assumption)) (by omega) _ _ hP hD hS _ (lv_sub hl [0, 1, 2, 3, 6, 7] rfl)
    exact loop_23 _ 0 ((-1 : Int32)) 0 0 nw (by omega) (tr_0 hG).symm rfl (Or.inl ⟨rfl, rfl, rfl⟩) (Nat.lt_succ_self _) _ _ hP hD hS _ (lv_sub hl [0, 1, 2, 3, 4, 5] rfl)
  · -- 4 to 7
    have hvk_q := c_3
    refine lv_iconst (v := (-1)) hx hb dX7_sell_7 (by decide) ?_
    refine hret hP hD hS dX7_sell_8 rfl rfl ?_
    exact ⟨f, by simp [slA, c_3, hvk_q], rfl⟩
set_option maxHeartbeats 4000000 in
set_option maxRecDepth 100000 in
theorem k_X6_sell {l : Launch} {D : va_G} {cI cC cB : ClassId} {o xt xg xu xk xd xe xf : Nat} {a : Nat} {pq : Nat → Nat} {bx te ps pu sd cj ta : Nat → Nat} {b : Nat} {bq : Nat → Nat} {nw up st ex tl he dy se : Nat → Nat} {fi : Nat} {x : Int32} (hR : PlR bx te ps pu sd cj ta) (hX : BoR bx nw up st ex tl he dy se fi) (hbl : BdOk nw) : MI l yX6_sell cX6_sell 7 (some .int) 4 D (Ty3 cI cC cB) [.ref o, .int (x)] [(o, .inr (6, [.ref xt, .ref xg, .ref xu, .ref xk, .ref b, .ref xd, .ref xe, .ref a, .ref xf])), bO b bq fi (nw 2) (nw 0) (nw 1), (bq 0, .inl (cI, 4, .inl (fun z_ => nI (up z_)))), (bq 1, .inl (cI, 4, .inl (fun z_ => nI (st z_)))), (bq 2, .inl (cI, 12, .inl (fun z_ => nI (ex z_)))), (bq 3, .inl (cI, 12, .inl (fun z_ => nI (tl z_)))), (bq 4, .inl (cI, 12, .inl (fun z_ => nI (he z_)))), (bq 5, .inl (cI, 12, .inl (fun z_ => nI (dy z_)))), (bq 6, .inl (cI, 12, .inl (fun z_ => nI (se z_)))), pO a pq (bx 0) (bx 2) (bx 1) (szN bx (bx 0)) (bx 3) (bx 4), (pq 0, .inl (cI, 4, .inl (fun z_ => nI (te z_)))), (pq 1, .inl (cI, 4, .inl (fun z_ => nI (ps z_)))), (pq 2, .inl (cI, 4, .inl (fun z_ => nI (pu z_)))), (pq 3, .inl (cI, 4, .inl (fun z_ => nI (sd z_)))), (pq 4, .inl (cI, 8, .inl (fun z_ => nI (cj z_)))), (pq 5, .inl (cI, 5, .inl (fun z_ => nI (ta z_))))] (fun r u => (r = slA bx nw x ∧ u = [(o, .inr (6, [.ref xt, .ref xg, .ref xu, .ref xk, .ref b, .ref xd, .ref xe, .ref a, .ref xf])), bO b bq fi (nw 2) (nw 0) (nw 1), (bq 0, .inl (cI, 4, .inl (fun z_ => nI (up z_)))), (bq 1, .inl (cI, 4, .inl (fun z_ => nI (st z_)))), (bq 2, .inl (cI, 12, .inl (fun z_ => nI (ex z_)))), (bq 3, .inl (cI, 12, .inl (fun z_ => nI (tl z_)))), (bq 4, .inl (cI, 12, .inl (fun z_ => nI (he z_)))), (bq 5, .inl (cI, 12, .inl (fun z_ => nI (dy z_)))), (bq 6, .inl (cI, 12, .inl (fun z_ => nI (se z_)))), pO a pq (bx 0) (bx 2) (bx 1) (szN bx (bx 0)) (bx 3) (bx 4), (pq 0, .inl (cI, 4, .inl (fun z_ => nI (te z_)))), (pq 1, .inl (cI, 4, .inl (fun z_ => nI (ps z_)))), (pq 2, .inl (cI, 4, .inl (fun z_ => nI (pu z_)))), (pq 3, .inl (cI, 4, .inl (fun z_ => nI (sd z_)))), (pq 4, .inl (cI, 8, .inl (fun z_ => nI (cj z_)))), (pq 5, .inl (cI, 5, .inl (fun z_ => nI (ta z_))))])) := by
  intro sz
  refine MI.walk (by decide +kernel) (Nat.le_of_ble_eq_true rfl) ?_
  intro p e s m args below meth c A Qf hx hb hml hts hown hret hK hP hD hS hA ls hl
  have hown : s.vm.findClass RX6 = some m.cls := hown
  have hl : lv_has ls 7 [(0, .ref o), (1, .int (x))] := hl
  have hP : va_P D vwCl [(o, .inr (6, [.ref xt, .ref xg, .ref xu, .ref xk, .ref b, .ref xd, .ref xe, .ref a, .ref xf])), bO b bq fi (nw 2) (nw 0) (nw 1), (bq 0, .inl (cI, 4, .inl (fun z_ => nI (up z_)))), (bq 1, .inl (cI, 4, .inl (fun z_ => nI (st z_)))), (bq 2, .inl (cI, 12, .inl (fun z_ => nI (ex z_)))), (bq 3, .inl (cI, 12, .inl (fun z_ => nI (tl z_)))), (bq 4, .inl (cI, 12, .inl (fun z_ => nI (he z_)))), (bq 5, .inl (cI, 12, .inl (fun z_ => nI (dy z_)))), (bq 6, .inl (cI, 12, .inl (fun z_ => nI (se z_)))), pO a pq (bx 0) (bx 2) (bx 1) (szN bx (bx 0)) (bx 3) (bx 4), (pq 0, .inl (cI, 4, .inl (fun z_ => nI (te z_)))), (pq 1, .inl (cI, 4, .inl (fun z_ => nI (ps z_)))), (pq 2, .inl (cI, 4, .inl (fun z_ => nI (pu z_)))), (pq 3, .inl (cI, 4, .inl (fun z_ => nI (sd z_)))), (pq 4, .inl (cI, 8, .inl (fun z_ => nI (cj z_)))), (pq 5, .inl (cI, 5, .inl (fun z_ => nI (ta z_))))] s.heap := hP
  have hD : va_D A [(o, .inr (6, [.ref xt, .ref xg, .ref xu, .ref xk, .ref b, .ref xd, .ref xe, .ref a, .ref xf])), bO b bq fi (nw 2) (nw 0) (nw 1), (bq 0, .inl (cI, 4, .inl (fun z_ => nI (up z_)))), (bq 1, .inl (cI, 4, .inl (fun z_ => nI (st z_)))), (bq 2, .inl (cI, 12, .inl (fun z_ => nI (ex z_)))), (bq 3, .inl (cI, 12, .inl (fun z_ => nI (tl z_)))), (bq 4, .inl (cI, 12, .inl (fun z_ => nI (he z_)))), (bq 5, .inl (cI, 12, .inl (fun z_ => nI (dy z_)))), (bq 6, .inl (cI, 12, .inl (fun z_ => nI (se z_)))), pO a pq (bx 0) (bx 2) (bx 1) (szN bx (bx 0)) (bx 3) (bx 4), (pq 0, .inl (cI, 4, .inl (fun z_ => nI (te z_)))), (pq 1, .inl (cI, 4, .inl (fun z_ => nI (ps z_)))), (pq 2, .inl (cI, 4, .inl (fun z_ => nI (pu z_)))), (pq 3, .inl (cI, 4, .inl (fun z_ => nI (sd z_)))), (pq 4, .inl (cI, 8, .inl (fun z_ => nI (cj z_)))), (pq 5, .inl (cI, 5, .inl (fun z_ => nI (ta z_))))] := hD
  refine lv_iload_n hx hb dX6_sell_0 rfl (lv_at hl 1 rfl) ?_
  refine cl_6_206 (As := [.int (x)]) (rest := []) hx hb hml hts hown (k_X6_isPart ) (by decide) ⟨Nat.zero_le _, Nat.zero_le _⟩ hK hP hD hS hA [] rfl (by decide) rfl hl.1 rfl (Nat.le_of_ble_eq_true rfl) dX6_sell_1 (fun r_1 u H locs hp_2 hP hD hS => ?_)
  obtain ⟨rfl, rfl⟩ := hp_2
  dsimp only [putAll, List.set] at hP hD
  have hP : va_P D vwCl [(o, .inr (6, [.ref xt, .ref xg, .ref xu, .ref xk, .ref b, .ref xd, .ref xe, .ref a, .ref xf])), bO b bq fi (nw 2) (nw 0) (nw 1), (bq 0, .inl (cI, 4, .inl (fun z_ => nI (up z_)))), (bq 1, .inl (cI, 4, .inl (fun z_ => nI (st z_)))), (bq 2, .inl (cI, 12, .inl (fun z_ => nI (ex z_)))), (bq 3, .inl (cI, 12, .inl (fun z_ => nI (tl z_)))), (bq 4, .inl (cI, 12, .inl (fun z_ => nI (he z_)))), (bq 5, .inl (cI, 12, .inl (fun z_ => nI (dy z_)))), (bq 6, .inl (cI, 12, .inl (fun z_ => nI (se z_)))), pO a pq (bx 0) (bx 2) (bx 1) (szN bx (bx 0)) (bx 3) (bx 4), (pq 0, .inl (cI, 4, .inl (fun z_ => nI (te z_)))), (pq 1, .inl (cI, 4, .inl (fun z_ => nI (ps z_)))), (pq 2, .inl (cI, 4, .inl (fun z_ => nI (pu z_)))), (pq 3, .inl (cI, 4, .inl (fun z_ => nI (sd z_)))), (pq 4, .inl (cI, 8, .inl (fun z_ => nI (cj z_)))), (pq 5, .inl (cI, 5, .inl (fun z_ => nI (ta z_))))] _ := hP
  have hD : va_D A [(o, .inr (6, [.ref xt, .ref xg, .ref xu, .ref xk, .ref b, .ref xd, .ref xe, .ref a, .ref xf])), bO b bq fi (nw 2) (nw 0) (nw 1), (bq 0, .inl (cI, 4, .inl (fun z_ => nI (up z_)))), (bq 1, .inl (cI, 4, .inl (fun z_ => nI (st z_)))), (bq 2, .inl (cI, 12, .inl (fun z_ => nI (ex z_)))), (bq 3, .inl (cI, 12, .inl (fun z_ => nI (tl z_)))), (bq 4, .inl (cI, 12, .inl (fun z_ => nI (he z_)))), (bq 5, .inl (cI, 12, .inl (fun z_ => nI (dy z_)))), (bq 6, .inl (cI, 12, .inl (fun z_ => nI (se z_)))), pO a pq (bx 0) (bx 2) (bx 1) (szN bx (bx 0)) (bx 3) (bx 4), (pq 0, .inl (cI, 4, .inl (fun z_ => nI (te z_)))), (pq 1, .inl (cI, 4, .inl (fun z_ => nI (ps z_)))), (pq 2, .inl (cI, 4, .inl (fun z_ => nI (pu z_)))), (pq 3, .inl (cI, 4, .inl (fun z_ => nI (sd z_)))), (pq 4, .inl (cI, 8, .inl (fun z_ => nI (cj z_)))), (pq 5, .inl (cI, 5, .inl (fun z_ => nI (ta z_))))] := hD
  refine n_ifb_ne (tgt := 9) hx hb dX6_sell_4 (by decide) (fun c_3 => ?_) (fun c_3 => ?_)
  · -- 4 to 9
    have hvk_q := c_3
    obtain ⟨j, hl2, hh2, rfl⟩ := inR_e (by omega) hvk_q
    have hij_q : ix (nI j) = j := ix_n (by omega)
    refine lv_iconst (v := nI 0) hx hb dX6_sell_9 (by decide) ?_
    refine lv_istore_n (lv' := [(2, .int (nI (0))), (0, .ref o), (1, .int (nI (j)))]) hx hb dX6_sell_10 rfl hl (by decide) rfl (fun ls hl => ?_)
    refine lv_aload_n hx hb dX6_sell_11 rfl (lv_at hl 1 rfl) ?_
    refine lv_iconst (v := nI 0) hx hb dX6_sell_12 (by decide) ?_
    refine cl_6_250 (As := [.int (nI (0))]) (rest := []) hx hb hml hts hown (k_X6_worthBehind hR hX (by have h9 : nw 1 < 10000000 := hbl; omega) (by omega)) (by decide) ⟨Nat.zero_le _, Nat.zero_le _⟩ hK hP hD hS hA 0 rfl [0, 1, 2, 3, 4, 5, 6, 7, 8, 9, 10, 11, 12, 13, 14, 15] rfl (by decide) rfl hl.1 rfl (Nat.le_of_ble_eq_true rfl) dX6_sell_13 (fun r_4 u H locs hp_5 hP hD hS => ?_)
    obtain ⟨rfl, rfl⟩ := hp_5
    dsimp only [putAll, List.set] at hP hD
    have hP : va_P D vwCl [(o, .inr (6, [.ref xt, .ref xg, .ref xu, .ref xk, .ref b, .ref xd, .ref xe, .ref a, .ref xf])), bO b bq fi (nw 2) (nw 0) (nw 1), (bq 0, .inl (cI, 4, .inl (fun z_ => nI (up z_)))), (bq 1, .inl (cI, 4, .inl (fun z_ => nI (st z_)))), (bq 2, .inl (cI, 12, .inl (fun z_ => nI (ex z_)))), (bq 3, .inl (cI, 12, .inl (fun z_ => nI (tl z_)))), (bq 4, .inl (cI, 12, .inl (fun z_ => nI (he z_)))), (bq 5, .inl (cI, 12, .inl (fun z_ => nI (dy z_)))), (bq 6, .inl (cI, 12, .inl (fun z_ => nI (se z_)))), pO a pq (bx 0) (bx 2) (bx 1) (szN bx (bx 0)) (bx 3) (bx 4), (pq 0, .inl (cI, 4, .inl (fun z_ => nI (te z_)))), (pq 1, .inl (cI, 4, .inl (fun z_ => nI (ps z_)))), (pq 2, .inl (cI, 4, .inl (fun z_ => nI (pu z_)))), (pq 3, .inl (cI, 4, .inl (fun z_ => nI (sd z_)))), (pq 4, .inl (cI, 8, .inl (fun z_ => nI (cj z_)))), (pq 5, .inl (cI, 5, .inl (fun z_ => nI (ta z_))))] _ := hP
    have hD : va_D A [(o, .inr (6, [.ref xt, .ref xg, .ref xu, .ref xk, .ref b, .ref xd, .ref xe, .ref a, .ref xf])), bO b bq fi (nw 2) (nw 0) (nw 1), (bq 0, .inl (cI, 4, .inl (fun z_ => nI (up z_)))), (bq 1, .inl (cI, 4, .inl (fun z_ => nI (st z_)))), (bq 2, .inl (cI, 12, .inl (fun z_ => nI (ex z_)))), (bq 3, .inl (cI, 12, .inl (fun z_ => nI (tl z_)))), (bq 4, .inl (cI, 12, .inl (fun z_ => nI (he z_)))), (bq 5, .inl (cI, 12, .inl (fun z_ => nI (dy z_)))), (bq 6, .inl (cI, 12, .inl (fun z_ => nI (se z_)))), pO a pq (bx 0) (bx 2) (bx 1) (szN bx (bx 0)) (bx 3) (bx 4), (pq 0, .inl (cI, 4, .inl (fun z_ => nI (te z_)))), (pq 1, .inl (cI, 4, .inl (fun z_ => nI (ps z_)))), (pq 2, .inl (cI, 4, .inl (fun z_ => nI (pu z_)))), (pq 3, .inl (cI, 4, .inl (fun z_ => nI (sd z_)))), (pq 4, .inl (cI, 8, .inl (fun z_ => nI (cj z_)))), (pq 5, .inl (cI, 5, .inl (fun z_ => nI (ta z_))))] := hD
    have hbl1_q : nw 1 < 10000000 := hbl
    have hpn_q := hR.b.n
    refine lv_istore_n (lv' := [(3, .int (nI (bx 4 - bx 3 * (nw 1 + 0)))), (2, .int (nI (0))), (0, .ref o), (1, .int (nI (j)))]) hx hb dX6_sell_16 rfl hl (by decide) rfl (fun ls hl => ?_)
    refine lv_iconst (v := nI 0) hx hb dX6_sell_17 (by decide) ?_
    refine lv_istore (lv' := [(4, .int (nI (0))), (3, .int (nI (bx 4 - bx 3 * (nw 1 + 0)))), (2, .int (nI (0))), (0, .ref o), (1, .int (nI (j)))]) hx hb dX6_sell_18 hl (by decide) rfl (fun ls hl => ?_)
    refine lv_iconst (v := nI 1) hx hb dX6_sell_20 (by decide) ?_
    refine lv_istore (lv' := [(5, .int (nI (1))), (4, .int (nI (0))), (3, .int (nI (bx 4 - bx 3 * (nw 1 + 0)))), (2, .int (nI (0))), (0, .ref o), (1, .int (nI (j)))]) hx hb dX6_sell_21 hl (by decide) rfl (fun ls hl => ?_)
    have loop_23 : ∀ (N : Nat) (u : Nat) (v : Nat) (sn : Nat) (n : Nat), (1 ≤ n) → (n ≤ 41) → (sn = cnB (fun k_ => senN bx nw (ebN bx nw (k_ + 1))) (n - 1)) → (v ≤ 1000) → ((u, v) = slN bx nw (n - 1)) → (41 - n) < N → ∀ (H : Heap) (locs : List Loc), va_P D vwCl [(o, .inr (6, [.ref xt, .ref xg, .ref xu, .ref xk, .ref b, .ref xd, .ref xe, .ref a, .ref xf])), bO b bq fi (nw 2) (nw 0) (nw 1), (bq 0, .inl (cI, 4, .inl (fun z_ => nI (up z_)))), (bq 1, .inl (cI, 4, .inl (fun z_ => nI (st z_)))), (bq 2, .inl (cI, 12, .inl (fun z_ => nI (ex z_)))), (bq 3, .inl (cI, 12, .inl (fun z_ => nI (tl z_)))), (bq 4, .inl (cI, 12, .inl (fun z_ => nI (he z_)))), (bq 5, .inl (cI, 12, .inl (fun z_ => nI (dy z_)))), (bq 6, .inl (cI, 12, .inl (fun z_ => nI (se z_)))), pO a pq (bx 0) (bx 2) (bx 1) (szN bx (bx 0)) (bx 3) (bx 4), (pq 0, .inl (cI, 4, .inl (fun z_ => nI (te z_)))), (pq 1, .inl (cI, 4, .inl (fun z_ => nI (ps z_)))), (pq 2, .inl (cI, 4, .inl (fun z_ => nI (pu z_)))), (pq 3, .inl (cI, 4, .inl (fun z_ => nI (sd z_)))), (pq 4, .inl (cI, 8, .inl (fun z_ => nI (cj z_)))), (pq 5, .inl (cI, 5, .inl (fun z_ => nI (ta z_))))] H → va_D A [(o, .inr (6, [.ref xt, .ref xg, .ref xu, .ref xk, .ref b, .ref xd, .ref xe, .ref a, .ref xf])), bO b bq fi (nw 2) (nw 0) (nw 1), (bq 0, .inl (cI, 4, .inl (fun z_ => nI (up z_)))), (bq 1, .inl (cI, 4, .inl (fun z_ => nI (st z_)))), (bq 2, .inl (cI, 12, .inl (fun z_ => nI (ex z_)))), (bq 3, .inl (cI, 12, .inl (fun z_ => nI (tl z_)))), (bq 4, .inl (cI, 12, .inl (fun z_ => nI (he z_)))), (bq 5, .inl (cI, 12, .inl (fun z_ => nI (dy z_)))), (bq 6, .inl (cI, 12, .inl (fun z_ => nI (se z_)))), pO a pq (bx 0) (bx 2) (bx 1) (szN bx (bx 0)) (bx 3) (bx 4), (pq 0, .inl (cI, 4, .inl (fun z_ => nI (te z_)))), (pq 1, .inl (cI, 4, .inl (fun z_ => nI (ps z_)))), (pq 2, .inl (cI, 4, .inl (fun z_ => nI (pu z_)))), (pq 3, .inl (cI, 4, .inl (fun z_ => nI (sd z_)))), (pq 4, .inl (cI, 8, .inl (fun z_ => nI (cj z_)))), (pq 5, .inl (cI, 5, .inl (fun z_ => nI (ta z_))))] → va_S A s.heap H locs → ∀ ls : Array Slot, lv_has ls 7 [(5, .int (nI (n))), (4, .int (nI (sn))), (3, .int (nI (v))), (2, .int (nI (u))), (0, .ref o), (1, .int (nI (j)))] → W p l e (rmL 4) s m args below meth c H locs 0 0 Qf (F0 m 23 ls []) := by
      intro N; induction N with
      | zero => intro u v sn n _ _ _ _ _ hm; omega
      | succ N ih_23 =>
        intro u v sn n hn1 hn hsn hv huv hm H locs hP hD hS ls hl
        have hcn_q := cn_le (fun k_ => senN bx nw (ebN bx nw (k_ + 1))) (n - 1)
        refine lv_iload hx hb dX6_sell_23 (lv_at hl 0 rfl) ?_
        refine lv_bipush (v := nI 40) hx hb dX6_sell_25 (by decide) ?_
        refine n_icmp_gt (tgt := 96) hx hb dX6_sell_27 (by decide) (by omega) (by decide) (fun c_6 => ?_) (fun c_6 => ?_)
        · -- 27 to 96
          refine lv_iload_n hx hb dX6_sell_96 rfl (lv_at hl 5 rfl) ?_
          refine n_if_ne (tgt := 104) hx hb dX6_sell_97 (by decide) (by omega) (fun c_7 => ?_) (fun c_7 => ?_)
          · -- 97 to 104
            refine lv_iload_n hx hb dX6_sell_104 rfl (lv_at hl 2 rfl) ?_
            refine hret hP hD hS dX6_sell_105 rfl rfl ?_
            exact ⟨by first | exact sl_r0 hvk_q hij_q (by assumption) huv (show n - 1 = 40 by omega) | exact sl_r1 hvk_q hij_q (by assumption) huv rfl (show n - 1 = 40 by omega), rfl⟩
          · -- 97 to 100
            refine lv_iload_n hx hb dX6_sell_100 rfl (lv_at hl 3 rfl) ?_
            refine lv_goto (tgt := 105) hx hb dX6_sell_101 (by decide) ?_
            refine hret hP hD hS dX6_sell_105 rfl rfl ?_
            exact ⟨by first | exact sl_r0 hvk_q hij_q (by assumption) huv (show n - 1 = 40 by omega) | exact sl_r1 hvk_q hij_q (by assumption) huv rfl (show n - 1 = 40 by omega), rfl⟩
        · -- 27 to 30
          refine lv_iload hx hb dX6_sell_30 (lv_at hl 1 rfl) ?_
          refine lv_aload_n hx hb dX6_sell_32 rfl (lv_at hl 4 rfl) ?_
          refine gf_6_38 hx hb hts hown hK hP 0 rfl rfl dX6_sell_33 ?_
          refine lv_aload_n hx hb dX6_sell_36 rfl (lv_at hl 4 rfl) ?_
          refine gf_6_55 hx hb hts hown hK hP 0 rfl rfl dX6_sell_37 ?_
          refine lv_aload_n hx hb dX6_sell_40 rfl (lv_at hl 4 rfl) ?_
          refine gf_6_38 hx hb hts hown hK hP 0 rfl rfl dX6_sell_41 ?_
          refine lv_aload_n hx hb dX6_sell_44 rfl (lv_at hl 4 rfl) ?_
          refine gf_6_55 hx hb hts hown hK hP 0 rfl rfl dX6_sell_45 ?_
          refine lv_iload hx hb dX6_sell_48 (lv_at hl 0 rfl) ?_
          refine cl_6_173 (As := [.ref a, .int (nI (n))]) (rest := [.ref a, .ref b, .int (nI (sn))]) hx hb hml hts hown (k_X0_excuseBehind hR hX (by omega)) (by decide) ⟨Nat.zero_le _, Nat.zero_le _⟩ hK hP hD hS hA 1 rfl [1, 2, 3, 4, 5, 6, 7, 8, 9, 10, 11, 12, 13, 14, 15] rfl (by decide) rfl hl.1 rfl (Nat.le_of_ble_eq_true rfl) dX6_sell_50 (fun r_8 u H locs hp_9 hP hD hS => ?_)
          obtain ⟨rfl, rfl⟩ := hp_9
          dsimp only [putAll, List.set] at hP hD
          have hP : va_P D vwCl [(o, .inr (6, [.ref xt, .ref xg, .ref xu, .ref xk, .ref b, .ref xd, .ref xe, .ref a, .ref xf])), bO b bq fi (nw 2) (nw 0) (nw 1), (bq 0, .inl (cI, 4, .inl (fun z_ => nI (up z_)))), (bq 1, .inl (cI, 4, .inl (fun z_ => nI (st z_)))), (bq 2, .inl (cI, 12, .inl (fun z_ => nI (ex z_)))), (bq 3, .inl (cI, 12, .inl (fun z_ => nI (tl z_)))), (bq 4, .inl (cI, 12, .inl (fun z_ => nI (he z_)))), (bq 5, .inl (cI, 12, .inl (fun z_ => nI (dy z_)))), (bq 6, .inl (cI, 12, .inl (fun z_ => nI (se z_)))), pO a pq (bx 0) (bx 2) (bx 1) (szN bx (bx 0)) (bx 3) (bx 4), (pq 0, .inl (cI, 4, .inl (fun z_ => nI (te z_)))), (pq 1, .inl (cI, 4, .inl (fun z_ => nI (ps z_)))), (pq 2, .inl (cI, 4, .inl (fun z_ => nI (pu z_)))), (pq 3, .inl (cI, 4, .inl (fun z_ => nI (sd z_)))), (pq 4, .inl (cI, 8, .inl (fun z_ => nI (cj z_)))), (pq 5, .inl (cI, 5, .inl (fun z_ => nI (ta z_))))] _ := hP
          have hD : va_D A [(o, .inr (6, [.ref xt, .ref xg, .ref xu, .ref xk, .ref b, .ref xd, .ref xe, .ref a, .ref xf])), bO b bq fi (nw 2) (nw 0) (nw 1), (bq 0, .inl (cI, 4, .inl (fun z_ => nI (up z_)))), (bq 1, .inl (cI, 4, .inl (fun z_ => nI (st z_)))), (bq 2, .inl (cI, 12, .inl (fun z_ => nI (ex z_)))), (bq 3, .inl (cI, 12, .inl (fun z_ => nI (tl z_)))), (bq 4, .inl (cI, 12, .inl (fun z_ => nI (he z_)))), (bq 5, .inl (cI, 12, .inl (fun z_ => nI (dy z_)))), (bq 6, .inl (cI, 12, .inl (fun z_ => nI (se z_)))), pO a pq (bx 0) (bx 2) (bx 1) (szN bx (bx 0)) (bx 3) (bx 4), (pq 0, .inl (cI, 4, .inl (fun z_ => nI (te z_)))), (pq 1, .inl (cI, 4, .inl (fun z_ => nI (ps z_)))), (pq 2, .inl (cI, 4, .inl (fun z_ => nI (pu z_)))), (pq 3, .inl (cI, 4, .inl (fun z_ => nI (sd z_)))), (pq 4, .inl (cI, 8, .inl (fun z_ => nI (cj z_)))), (pq 5, .inl (cI, 5, .inl (fun z_ => nI (ta z_))))] := hD
          have hel_q := eb_lt hR.b nw n
          refine cl_6_154 (As := [.ref a, .int (nI (ebN bx nw n))]) (rest := [.int (nI (sn))]) hx hb hml hts hown (k_X0_makesSense hR hX (by omega)) (by decide) ⟨Nat.zero_le _, Nat.zero_le _⟩ hK hP hD hS hA 1 rfl [1, 2, 3, 4, 5, 6, 7, 8, 9, 10, 11, 12, 13, 14, 15] rfl (by decide) rfl hl.1 rfl (Nat.le_of_ble_eq_true rfl) dX6_sell_53 (fun r_10 u H locs hp_11 hP hD hS => ?_)
          obtain ⟨rfl, rfl⟩ := hp_11
          dsimp only [putAll, List.set] at hP hD
          have hP : va_P D vwCl [(o, .inr (6, [.ref xt, .ref xg, .ref xu, .ref xk, .ref b, .ref xd, .ref xe, .ref a, .ref xf])), bO b bq fi (nw 2) (nw 0) (nw 1), (bq 0, .inl (cI, 4, .inl (fun z_ => nI (up z_)))), (bq 1, .inl (cI, 4, .inl (fun z_ => nI (st z_)))), (bq 2, .inl (cI, 12, .inl (fun z_ => nI (ex z_)))), (bq 3, .inl (cI, 12, .inl (fun z_ => nI (tl z_)))), (bq 4, .inl (cI, 12, .inl (fun z_ => nI (he z_)))), (bq 5, .inl (cI, 12, .inl (fun z_ => nI (dy z_)))), (bq 6, .inl (cI, 12, .inl (fun z_ => nI (se z_)))), pO a pq (bx 0) (bx 2) (bx 1) (szN bx (bx 0)) (bx 3) (bx 4), (pq 0, .inl (cI, 4, .inl (fun z_ => nI (te z_)))), (pq 1, .inl (cI, 4, .inl (fun z_ => nI (ps z_)))), (pq 2, .inl (cI, 4, .inl (fun z_ => nI (pu z_)))), (pq 3, .inl (cI, 4, .inl (fun z_ => nI (sd z_)))), (pq 4, .inl (cI, 8, .inl (fun z_ => nI (cj z_)))), (pq 5, .inl (cI, 5, .inl (fun z_ => nI (ta z_))))] _ := hP
          have hD : va_D A [(o, .inr (6, [.ref xt, .ref xg, .ref xu, .ref xk, .ref b, .ref xd, .ref xe, .ref a, .ref xf])), bO b bq fi (nw 2) (nw 0) (nw 1), (bq 0, .inl (cI, 4, .inl (fun z_ => nI (up z_)))), (bq 1, .inl (cI, 4, .inl (fun z_ => nI (st z_)))), (bq 2, .inl (cI, 12, .inl (fun z_ => nI (ex z_)))), (bq 3, .inl (cI, 12, .inl (fun z_ => nI (tl z_)))), (bq 4, .inl (cI, 12, .inl (fun z_ => nI (he z_)))), (bq 5, .inl (cI, 12, .inl (fun z_ => nI (dy z_)))), (bq 6, .inl (cI, 12, .inl (fun z_ => nI (se z_)))), pO a pq (bx 0) (bx 2) (bx 1) (szN bx (bx 0)) (bx 3) (bx 4), (pq 0, .inl (cI, 4, .inl (fun z_ => nI (te z_)))), (pq 1, .inl (cI, 4, .inl (fun z_ => nI (ps z_)))), (pq 2, .inl (cI, 4, .inl (fun z_ => nI (pu z_)))), (pq 3, .inl (cI, 4, .inl (fun z_ => nI (sd z_)))), (pq 4, .inl (cI, 8, .inl (fun z_ => nI (cj z_)))), (pq 5, .inl (cI, 5, .inl (fun z_ => nI (ta z_))))] := hD
          refine n_ifb_eq (tgt := 63) hx hb dX6_sell_56 (by decide) (fun c_12 => ?_) (fun c_12 => ?_)
          · -- 56 to 63
            have hs2_q : sn + 0 = cnB (fun k_ => senN bx nw (ebN bx nw (k_ + 1))) n := by (have h9 := cn_0 (P := fun k_ => senN bx nw (ebN bx nw (k_ + 1))) (k := n - 1) (by show senN bx nw (ebN bx nw (n - 1 + 1)) = false; rw [show n - 1 + 1 = n by omega]; exact c_12); rw [show n - 1 + 1 = n by omega] at h9; rw [hsn]; exact h9)
            refine lv_iconst (v := nI 0) hx hb dX6_sell_63 (by decide) ?_
            refine n_iadd hx hb dX6_sell_64  ?_
            refine lv_istore (lv' := [(4, .int (nI (sn + 0))), (5, .int (nI (n))), (3, .int (nI (v))), (2, .int (nI (u))), (0, .ref o), (1, .int (nI (j)))]) hx hb dX6_sell_65 hl (by decide) rfl (fun ls hl => ?_)
            refine lv_aload_n hx hb dX6_sell_67 rfl (lv_at hl 4 rfl) ?_
            refine lv_iload hx hb dX6_sell_68 (lv_at hl 1 rfl) ?_
            refine cl_6_250 (As := [.int (nI (n))]) (rest := []) hx hb hml hts hown (k_X6_worthBehind hR hX (by omega) (by omega)) (by decide) ⟨Nat.zero_le _, Nat.zero_le _⟩ hK hP hD hS hA 0 rfl [0, 1, 2, 3, 4, 5, 6, 7, 8, 9, 10, 11, 12, 13, 14, 15] rfl (by decide) rfl hl.1 rfl (Nat.le_of_ble_eq_true rfl) dX6_sell_70 (fun r_13 u H locs hp_14 hP hD hS => ?_)
            obtain ⟨rfl, rfl⟩ := hp_14
            dsimp only [putAll, List.set] at hP hD
            have hP : va_P D vwCl [(o, .inr (6, [.ref xt, .ref xg, .ref xu, .ref xk, .ref b, .ref xd, .ref xe, .ref a, .ref xf])), bO b bq fi (nw 2) (nw 0) (nw 1), (bq 0, .inl (cI, 4, .inl (fun z_ => nI (up z_)))), (bq 1, .inl (cI, 4, .inl (fun z_ => nI (st z_)))), (bq 2, .inl (cI, 12, .inl (fun z_ => nI (ex z_)))), (bq 3, .inl (cI, 12, .inl (fun z_ => nI (tl z_)))), (bq 4, .inl (cI, 12, .inl (fun z_ => nI (he z_)))), (bq 5, .inl (cI, 12, .inl (fun z_ => nI (dy z_)))), (bq 6, .inl (cI, 12, .inl (fun z_ => nI (se z_)))), pO a pq (bx 0) (bx 2) (bx 1) (szN bx (bx 0)) (bx 3) (bx 4), (pq 0, .inl (cI, 4, .inl (fun z_ => nI (te z_)))), (pq 1, .inl (cI, 4, .inl (fun z_ => nI (ps z_)))), (pq 2, .inl (cI, 4, .inl (fun z_ => nI (pu z_)))), (pq 3, .inl (cI, 4, .inl (fun z_ => nI (sd z_)))), (pq 4, .inl (cI, 8, .inl (fun z_ => nI (cj z_)))), (pq 5, .inl (cI, 5, .inl (fun z_ => nI (ta z_))))] _ := hP
            have hD : va_D A [(o, .inr (6, [.ref xt, .ref xg, .ref xu, .ref xk, .ref b, .ref xd, .ref xe, .ref a, .ref xf])), bO b bq fi (nw 2) (nw 0) (nw 1), (bq 0, .inl (cI, 4, .inl (fun z_ => nI (up z_)))), (bq 1, .inl (cI, 4, .inl (fun z_ => nI (st z_)))), (bq 2, .inl (cI, 12, .inl (fun z_ => nI (ex z_)))), (bq 3, .inl (cI, 12, .inl (fun z_ => nI (tl z_)))), (bq 4, .inl (cI, 12, .inl (fun z_ => nI (he z_)))), (bq 5, .inl (cI, 12, .inl (fun z_ => nI (dy z_)))), (bq 6, .inl (cI, 12, .inl (fun z_ => nI (se z_)))), pO a pq (bx 0) (bx 2) (bx 1) (szN bx (bx 0)) (bx 3) (bx 4), (pq 0, .inl (cI, 4, .inl (fun z_ => nI (te z_)))), (pq 1, .inl (cI, 4, .inl (fun z_ => nI (ps z_)))), (pq 2, .inl (cI, 4, .inl (fun z_ => nI (pu z_)))), (pq 3, .inl (cI, 4, .inl (fun z_ => nI (sd z_)))), (pq 4, .inl (cI, 8, .inl (fun z_ => nI (cj z_)))), (pq 5, .inl (cI, 5, .inl (fun z_ => nI (ta z_))))] := hD
            refine lv_iload hx hb dX6_sell_73 (lv_at hl 0 rfl) ?_
            refine n_iadd hx hb dX6_sell_75  ?_
            have hws_q : (bx 4 - bx 3 * (nw 1 + n)) + (sn + 0) = slW bx nw n := by rw [hs2_q]; rfl
            have hwl_q := slW_le hR.b nw n
            refine lv_istore (lv' := [(6, .int (nI ((bx 4 - bx 3 * (nw 1 + n)) + (sn + 0)))), (4, .int (nI (sn + 0))), (5, .int (nI (n))), (3, .int (nI (v))), (2, .int (nI (u))), (0, .ref o), (1, .int (nI (j)))]) hx hb dX6_sell_76 hl (by decide) rfl (fun ls hl => ?_)
            refine lv_iload hx hb dX6_sell_78 (lv_at hl 0 rfl) ?_
            refine lv_iload_n hx hb dX6_sell_80 rfl (lv_at hl 3 rfl) ?_
            refine n_icmp_le (tgt := 90) hx hb dX6_sell_81 (by decide) (by omega) (by omega) (fun c_15 => ?_) (fun c_15 => ?_)
            · -- 81 to 90
              refine lv_iinc (v := nI (n + 1)) (lv' := [(5, .int (nI (n + 1))), (6, .int (nI ((bx 4 - bx 3 * (nw 1 + n)) + (sn + 0)))), (4, .int (nI (sn + 0))), (3, .int (nI (v))), (2, .int (nI (u))), (0, .ref o), (1, .int (nI (j)))]) hx hb dX6_sell_90 hl (k := 2) rfl (n_inc _ 1) (by decide) rfl (fun ls hl => ?_)
              refine lv_goto (tgt := 23) hx hb dX6_sell_93 (by decide) ?_
              exact ih_23 u v (sn + 0) (n + 1) (by omega) (by omega) (by rw [show n + 1 - 1 = n by omega]; exact hs2_q) (by omega) (by rw [show n + 1 - 1 = n by omega]; first | exact sl_c1 hn1 huv hws_q (by assumption) | exact sl_c0 hn1 huv hws_q (by assumption)) (by omega) _ _ hP hD hS _ (lv_sub hl [0, 2, 3, 4, 5, 6] rfl)
            · -- 81 to 84
              refine lv_iload hx hb dX6_sell_84 (lv_at hl 2 rfl) ?_
              refine lv_istore_n (lv' := [(2, .int (nI (n))), (6, .int (nI ((bx 4 - bx 3 * (nw 1 + n)) + (sn + 0)))), (4, .int (nI (sn + 0))), (5, .int (nI (n))), (3, .int (nI (v))), (0, .ref o), (1, .int (nI (j)))]) hx hb dX6_sell_86 rfl hl (by decide) rfl (fun ls hl => ?_)
              refine lv_iload hx hb dX6_sell_87 (lv_at hl 1 rfl) ?_
              refine lv_istore_n (lv' := [(3, .int (nI ((bx 4 - bx 3 * (nw 1 + n)) + (sn + 0)))), (2, .int (nI (n))), (6, .int (nI ((bx 4 - bx 3 * (nw 1 + n)) + (sn + 0)))), (4, .int (nI (sn + 0))), (5, .int (nI (n))), (0, .ref o), (1, .int (nI (j)))]) hx hb dX6_sell_89 rfl hl (by decide) rfl (fun ls hl => ?_)
              refine lv_iinc (v := nI (n + 1)) (lv' := [(5, .int (nI (n + 1))), (3, .int (nI ((bx 4 - bx 3 * (nw 1 + n)) + (sn + 0)))), (2, .int (nI (n))), (6, .int (nI ((bx 4 - bx 3 * (nw 1 + n)) + (sn + 0)))), (4, .int (nI (sn + 0))), (0, .ref o), (1, .int (nI (j)))]) hx hb dX6_sell_90 hl (k := 4) rfl (n_inc _ 1) (by decide) rfl (fun ls hl => ?_)
              refine lv_goto (tgt := 23) hx hb dX6_sell_93 (by decide) ?_
              exact ih_23 n ((bx 4 - bx 3 * (nw 1 + n)) + (sn + 0)) (sn + 0) (n + 1) (by omega) (by omega) (by rw [show n + 1 - 1 = n by omega]; exact hs2_q) (by omega) (by rw [show n + 1 - 1 = n by omega]; first | exact sl_c1 hn1 huv hws_q (by assumption) | exact sl_c0 hn1 huv hws_q (by assumption)) (by omega) _ _ hP hD hS _ (lv_sub hl [0, 4, 1, 2, 5, 6] rfl)
          · -- 56 to 59
            have hs2_q : sn + 1 = cnB (fun k_ => senN bx nw (ebN bx nw (k_ + 1))) n := by (have h9 := cn_1 (P := fun k_ => senN bx nw (ebN bx nw (k_ + 1))) (k := n - 1) (by show senN bx nw (ebN bx nw (n - 1 + 1)) = true; rw [show n - 1 + 1 = n by omega]; exact c_12); rw [show n - 1 + 1 = n by omega] at h9; rw [hsn]; exact h9)
            refine lv_iconst (v := nI 1) hx hb dX6_sell_59 (by decide) ?_
            refine lv_goto (tgt := 64) hx hb dX6_sell_60 (by decide) ?_
            refine n_iadd hx hb dX6_sell_64  ?_
            refine lv_istore (lv' := [(4, .int (nI (sn + 1))), (5, .int (nI (n))), (3, .int (nI (v))), (2, .int (nI (u))), (0, .ref o), (1, .int (nI (j)))]) hx hb dX6_sell_65 hl (by decide) rfl (fun ls hl => ?_)
            refine lv_aload_n hx hb dX6_sell_67 rfl (lv_at hl 4 rfl) ?_
            refine lv_iload hx hb dX6_sell_68 (lv_at hl 1 rfl) ?_
            refine cl_6_250 (As := [.int (nI (n))]) (rest := []) hx hb hml hts hown (k_X6_worthBehind hR hX (by omega) (by omega)) (by decide) ⟨Nat.zero_le _, Nat.zero_le _⟩ hK hP hD hS hA 0 rfl [0, 1, 2, 3, 4, 5, 6, 7, 8, 9, 10, 11, 12, 13, 14, 15] rfl (by decide) rfl hl.1 rfl (Nat.le_of_ble_eq_true rfl) dX6_sell_70 (fun r_16 u H locs hp_17 hP hD hS => ?_)
            obtain ⟨rfl, rfl⟩ := hp_17
            dsimp only [putAll, List.set] at hP hD
            have hP : va_P D vwCl [(o, .inr (6, [.ref xt, .ref xg, .ref xu, .ref xk, .ref b, .ref xd, .ref xe, .ref a, .ref xf])), bO b bq fi (nw 2) (nw 0) (nw 1), (bq 0, .inl (cI, 4, .inl (fun z_ => nI (up z_)))), (bq 1, .inl (cI, 4, .inl (fun z_ => nI (st z_)))), (bq 2, .inl (cI, 12, .inl (fun z_ => nI (ex z_)))), (bq 3, .inl (cI, 12, .inl (fun z_ => nI (tl z_)))), (bq 4, .inl (cI, 12, .inl (fun z_ => nI (he z_)))), (bq 5, .inl (cI, 12, .inl (fun z_ => nI (dy z_)))), (bq 6, .inl (cI, 12, .inl (fun z_ => nI (se z_)))), pO a pq (bx 0) (bx 2) (bx 1) (szN bx (bx 0)) (bx 3) (bx 4), (pq 0, .inl (cI, 4, .inl (fun z_ => nI (te z_)))), (pq 1, .inl (cI, 4, .inl (fun z_ => nI (ps z_)))), (pq 2, .inl (cI, 4, .inl (fun z_ => nI (pu z_)))), (pq 3, .inl (cI, 4, .inl (fun z_ => nI (sd z_)))), (pq 4, .inl (cI, 8, .inl (fun z_ => nI (cj z_)))), (pq 5, .inl (cI, 5, .inl (fun z_ => nI (ta z_))))] _ := hP
            have hD : va_D A [(o, .inr (6, [.ref xt, .ref xg, .ref xu, .ref xk, .ref b, .ref xd, .ref xe, .ref a, .ref xf])), bO b bq fi (nw 2) (nw 0) (nw 1), (bq 0, .inl (cI, 4, .inl (fun z_ => nI (up z_)))), (bq 1, .inl (cI, 4, .inl (fun z_ => nI (st z_)))), (bq 2, .inl (cI, 12, .inl (fun z_ => nI (ex z_)))), (bq 3, .inl (cI, 12, .inl (fun z_ => nI (tl z_)))), (bq 4, .inl (cI, 12, .inl (fun z_ => nI (he z_)))), (bq 5, .inl (cI, 12, .inl (fun z_ => nI (dy z_)))), (bq 6, .inl (cI, 12, .inl (fun z_ => nI (se z_)))), pO a pq (bx 0) (bx 2) (bx 1) (szN bx (bx 0)) (bx 3) (bx 4), (pq 0, .inl (cI, 4, .inl (fun z_ => nI (te z_)))), (pq 1, .inl (cI, 4, .inl (fun z_ => nI (ps z_)))), (pq 2, .inl (cI, 4, .inl (fun z_ => nI (pu z_)))), (pq 3, .inl (cI, 4, .inl (fun z_ => nI (sd z_)))), (pq 4, .inl (cI, 8, .inl (fun z_ => nI (cj z_)))), (pq 5, .inl (cI, 5, .inl (fun z_ => nI (ta z_))))] := hD
            refine lv_iload hx hb dX6_sell_73 (lv_at hl 0 rfl) ?_
            refine n_iadd hx hb dX6_sell_75  ?_
            have hws_q : (bx 4 - bx 3 * (nw 1 + n)) + (sn + 1) = slW bx nw n := by rw [hs2_q]; rfl
            have hwl_q := slW_le hR.b nw n
            refine lv_istore (lv' := [(6, .int (nI ((bx 4 - bx 3 * (nw 1 + n)) + (sn + 1)))), (4, .int (nI (sn + 1))), (5, .int (nI (n))), (3, .int (nI (v))), (2, .int (nI (u))), (0, .ref o), (1, .int (nI (j)))]) hx hb dX6_sell_76 hl (by decide) rfl (fun ls hl => ?_)
            refine lv_iload hx hb dX6_sell_78 (lv_at hl 0 rfl) ?_
            refine lv_iload_n hx hb dX6_sell_80 rfl (lv_at hl 3 rfl) ?_
            refine n_icmp_le (tgt := 90) hx hb dX6_sell_81 (by decide) (by omega) (by omega) (fun c_18 => ?_) (fun c_18 => ?_)
            · -- 81 to 90
              refine lv_iinc (v := nI (n + 1)) (lv' := [(5, .int (nI (n + 1))), (6, .int (nI ((bx 4 - bx 3 * (nw 1 + n)) + (sn + 1)))), (4, .int (nI (sn + 1))), (3, .int (nI (v))), (2, .int (nI (u))), (0, .ref o), (1, .int (nI (j)))]) hx hb dX6_sell_90 hl (k := 2) rfl (n_inc _ 1) (by decide) rfl (fun ls hl => ?_)
              refine lv_goto (tgt := 23) hx hb dX6_sell_93 (by decide) ?_
              exact ih_23 u v (sn + 1) (n + 1) (by omega) (by omega) (by rw [show n + 1 - 1 = n by omega]; exact hs2_q) (by omega) (by rw [show n + 1 - 1 = n by omega]; first | exact sl_c1 hn1 huv hws_q (by assumption) | exact sl_c0 hn1 huv hws_q (by assumption)) (by omega) _ _ hP hD hS _ (lv_sub hl [0, 2, 3, 4, 5, 6] rfl)
            · -- 81 to 84
              refine lv_iload hx hb dX6_sell_84 (lv_at hl 2 rfl) ?_
              refine lv_istore_n (lv' := [(2, .int (nI (n))), (6, .int (nI ((bx 4 - bx 3 * (nw 1 + n)) + (sn + 1)))), (4, .int (nI (sn + 1))), (5, .int (nI (n))), (3, .int (nI (v))), (0, .ref o), (1, .int (nI (j)))]) hx hb dX6_sell_86 rfl hl (by decide) rfl (fun ls hl => ?_)
              refine lv_iload hx hb dX6_sell_87 (lv_at hl 1 rfl) ?_
              refine lv_istore_n (lv' := [(3, .int (nI ((bx 4 - bx 3 * (nw 1 + n)) + (sn + 1)))), (2, .int (nI (n))), (6, .int (nI ((bx 4 - bx 3 * (nw 1 + n)) + (sn + 1)))), (4, .int (nI (sn + 1))), (5, .int (nI (n))), (0, .ref o), (1, .int (nI (j)))]) hx hb dX6_sell_89 rfl hl (by decide) rfl (fun ls hl => ?_)
              refine lv_iinc (v := nI (n + 1)) (lv' := [(5, .int (nI (n + 1))), (3, .int (nI ((bx 4 - bx 3 * (nw 1 + n)) + (sn + 1)))), (2, .int (nI (n))), (6, .int (nI ((bx 4 - bx 3 * (nw 1 + n)) + (sn + 1)))), (4, .int (nI (sn + 1))), (0, .ref o), (1, .int (nI (j)))]) hx hb dX6_sell_90 hl (k := 4) rfl (n_inc _ 1) (by decide) rfl (fun ls hl => ?_)
              refine lv_goto (tgt := 23) hx hb dX6_sell_93 (by decide) ?_
              exact ih_23 n ((bx 4 - bx 3 * (nw 1 + n)) + (sn + 1)) (sn + 1) (n + 1) (by omega) (by omega) (by rw [show n + 1 - 1 = n by omega]; exact hs2_q) (by omega) (by rw [show n + 1 - 1 = n by omega]; first | exact sl_c1 hn1 huv hws_q (by assumption) | exact sl_c0 hn1 huv hws_q (by assumption)) (by omega) _ _ hP hD hS _ (lv_sub hl [0, 4, 1, 2, 5, 6] rfl)
    exact loop_23 _ 0 (bx 4 - bx 3 * (nw 1 + 0)) 0 1 (by omega) (by omega) rfl (by omega) rfl (Nat.lt_succ_self _) _ _ hP hD hS _ (lv_sub hl [0, 1, 2, 3, 4, 5] rfl)
  · -- 4 to 7
    have hvk_q := c_3
    refine lv_iconst (v := (-1)) hx hb dX6_sell_7 (by decide) ?_
    refine hret hP hD hS dX6_sell_8 rfl rfl ?_
    exact ⟨by simp [slA, c_3, hvk_q], rfl⟩

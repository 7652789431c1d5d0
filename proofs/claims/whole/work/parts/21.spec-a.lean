/-! an excuse told: the row behind it; a round is enough -/
theorem gv_at {F : Nat → Nat} {E x y S : Nat} (hk : F 2 < 12) (j : Nat) : gvU F E x y S j = if j = 2 then F 2 + 1 else if j = 3 then F 3 + S else if j = 64 + F 2 then S else if j = 52 + F 2 then F 0 else if j = 40 + F 2 then y else if j = 28 + F 2 then x else if j = 16 + F 2 then E else F j := by
  have a0 : up1 (up1 (up1 F (16 + F 2) E) (28 + F 2) x) (40 + F 2) y 0 = F 0 := by
    rw [up1_n (by omega), up1_n (by omega), up1_n (by omega)]
  have a3 : up1 (up1 (up1 (up1 (up1 F (16 + F 2) E) (28 + F 2) x) (40 + F 2) y) (52 + F 2) (F 0)) (64 + F 2) S 3 = F 3 := by
    rw [up1_n (by omega), up1_n (by omega), up1_n (by omega), up1_n (by omega), up1_n (by omega)]
  have a2 : up1 (up1 (up1 (up1 (up1 (up1 F (16 + F 2) E) (28 + F 2) x) (40 + F 2) y) (52 + F 2) (F 0)) (64 + F 2) S) 3 (F 3 + S) 2 = F 2 := by
    rw [up1_n (by omega), up1_n (by omega), up1_n (by omega), up1_n (by omega), up1_n (by omega), up1_n (by omega)]
  simp only [gvU]
  rw [a0, a3, a2]
  simp only [up1]
section GVS
variable {bx F : Nat → Nat} {E x y S : Nat}
theorem gv_lo (hk : F 2 < 12) {j : Nat} (h2 : j ≠ 2) (h3 : j ≠ 3) (h16 : j < 16) : gvU F E x y S j = F j := by
  rw [gv_at hk, if_neg h2, if_neg h3, if_neg (by omega), if_neg (by omega), if_neg (by omega), if_neg (by omega), if_neg (by omega)]
theorem gv_h2 (hk : F 2 < 12) : gvU F E x y S 2 = F 2 + 1 := by rw [gv_at hk, if_pos rfl]
theorem gv_3' (hk : F 2 < 12) : gvU F E x y S 3 = F 3 + S := by rw [gv_at hk, if_neg (by omega), if_pos rfl]
theorem gv_w (hk : F 2 < 12) {k : Nat} (h : k ≤ F 2) : gvU F E x y S (16 + k) = (if k = F 2 then E else F (16 + k)) ∧ gvU F E x y S (28 + k) = (if k = F 2 then x else F (28 + k)) ∧ gvU F E x y S (40 + k) = (if k = F 2 then y else F (40 + k)) ∧ gvU F E x y S (52 + k) = (if k = F 2 then F 0 else F (52 + k)) ∧ gvU F E x y S (64 + k) = (if k = F 2 then S else F (64 + k)) := by
  by_cases he : k = F 2
  · refine ⟨?_, ?_, ?_, ?_, ?_⟩
    · rw [gv_at hk, if_neg (by omega), if_neg (by omega), if_neg (by omega), if_neg (by omega), if_neg (by omega), if_neg (by omega), if_pos (by omega), if_pos he]
    · rw [gv_at hk, if_neg (by omega), if_neg (by omega), if_neg (by omega), if_neg (by omega), if_neg (by omega), if_pos (by omega), if_pos he]
    · rw [gv_at hk, if_neg (by omega), if_neg (by omega), if_neg (by omega), if_neg (by omega), if_pos (by omega), if_pos he]
    · rw [gv_at hk, if_neg (by omega), if_neg (by omega), if_neg (by omega), if_pos (by omega), if_pos he]
    · rw [gv_at hk, if_neg (by omega), if_neg (by omega), if_pos (by omega), if_pos he]
  · refine ⟨?_, ?_, ?_, ?_, ?_⟩ <;> rw [gv_at hk, if_neg (by omega), if_neg (by omega), if_neg (by omega), if_neg (by omega), if_neg (by omega), if_neg (by omega), if_neg (by omega), if_neg he]
theorem gv_go (hB : BxOk bx) (hk : F 2 < 12) (hG : GoOk bx F) : GoOk bx (gvU F E x y S) := by
  have hw := hB.w
  intro i hi
  rw [gv_lo hk (by omega) (by omega) (by omega), gv_lo hk (by omega) (by omega) (by omega)]
  exact hG i hi
theorem gv_hd (hB : BxOk bx) (hk : F 2 < 12) (hN : HdOk bx F) (hE : E < szN bx (bx 0)) (hx : x < bx 1) (hy : y < bx 1) (hS : S ≤ 1) (h3 : F 3 ≤ 1000) : HdOk bx (gvU F E x y S) := by
  have hsz := sz_lt hB
  have hn := hB.n
  refine ⟨by rw [gv_h2 hk]; omega, ?_, ?_⟩
  · rw [gv_h2 hk]
    intro k hk2
    have h := gv_w (E := E) (x := x) (y := y) (S := S) hk (show k ≤ F 2 by omega)
    rw [h.1, h.2.1, h.2.2.1, h.2.2.2.2]
    by_cases he : k = F 2
    · rw [if_pos he, if_pos he, if_pos he, if_pos he]
      exact ⟨hE, hx, hy, hS⟩
    · rw [if_neg he, if_neg he, if_neg he, if_neg he]
      exact hN.k k (by omega)
  · intro j
    have hj := hN.bd j
    have h0 := hN.bd 0
    rw [gv_at hk]
    split
    · omega
    · split
      · omega
      · split
        · omega
        · split
          · omega
          · split
            · omega
            · split
              · omega
              · split <;> omega
theorem gv_sm (hk : F 2 < 12) (hs : F 3 = smN F (F 2)) : gvU F E x y S 3 = smN (gvU F E x y S) (gvU F E x y S 2) := by
  rw [gv_3' hk, gv_h2 hk, hs]
  have e : ∀ n, n ≤ F 2 → smN (gvU F E x y S) n = smN F n := by
    intro n
    induction n with
    | zero => intro _; rfl
    | succ n ih =>
      intro hn
      simp only [smN]
      rw [ih (by omega), (gv_w hk (show n ≤ F 2 by omega)).2.2.2.2, if_neg (by omega)]
  show _ = smN (gvU F E x y S) (F 2) + gvU F E x y S (64 + F 2)
  rw [e (F 2) (Nat.le_refl _), (gv_w hk (Nat.le_refl _)).2.2.2.2, if_pos rfl]
/-! the oldest lost -/
theorem lo_lo {j : Nat} (h2 : j ≠ 2) (h3 : j ≠ 3) (h16 : j < 16) : losN F j = F j := by
  simp only [losN]; rw [if_neg h3, if_neg h2, if_neg (by omega)]
theorem lo_w {k : Nat} (h : k < 11) : losN F (16 + k) = F (16 + (k + 1)) ∧ losN F (28 + k) = F (28 + (k + 1)) ∧ losN F (40 + k) = F (40 + (k + 1)) ∧ losN F (52 + k) = F (52 + (k + 1)) ∧ losN F (64 + k) = F (64 + (k + 1)) := by
  refine ⟨?_, ?_, ?_, ?_, ?_⟩ <;> (simp only [losN]; rw [if_neg (by omega), if_neg (by omega), if_pos (by omega)]) <;> rfl
theorem lo_go (hB : BxOk bx) (hG : GoOk bx F) : GoOk bx (losN F) := by
  have hw := hB.w
  intro i hi
  rw [lo_lo (by omega) (by omega) (by omega), lo_lo (by omega) (by omega) (by omega)]
  exact hG i hi
theorem lo_hd (h12 : F 2 = 12) (hN : HdOk bx F) : HdOk bx (losN F) := by
  refine ⟨by rw [los_2]; omega, ?_, ?_⟩
  · rw [los_2, h12]
    intro k hk
    have h := lo_w (F := F) (show k < 11 by omega)
    rw [h.1, h.2.1, h.2.2.1, h.2.2.2.2]
    exact hN.k (k + 1) (by omega)
  · intro j
    have h1 := hN.bd j
    have h2 := hN.bd (j + 1)
    have h3 := hN.bd 3
    have h4 := hN.bd 2
    simp only [losN]
    split
    · omega
    · split
      · omega
      · split <;> omega
theorem lo_sm (h12 : F 2 = 12) (hs : F 3 = smN F (F 2)) : losN F 3 = smN (losN F) (losN F 2) := by
  rw [los_2, h12]
  have e : ∀ n, n ≤ 11 → smN (losN F) n + F 64 = smN F (n + 1) := by
    intro n
    induction n with
    | zero => intro _; simp [smN]
    | succ n ih =>
      intro hn
      have h1 := ih (by omega)
      have h2 := (lo_w (F := F) (show n < 11 by omega)).2.2.2.2
      have h3 : smN (losN F) (n + 1) = smN (losN F) n + losN F (64 + n) := rfl
      have h4 : smN F (n + 1 + 1) = smN F (n + 1) + F (64 + (n + 1)) := rfl
      omega
  have h1 := e 11 (Nat.le_refl _)
  have h0 : losN F 3 = F 3 - F 64 := by simp [losN]
  rw [h0, hs, h12]
  show smN F (11 + 1) - F 64 = smN (losN F) 11
  omega
end GVS
theorem sm_le {bx nw : Nat → Nat} (hN : HdOk bx nw) : ∀ n, n ≤ nw 2 → smN nw n ≤ n
  | 0, _ => by simp [smN]
  | n + 1, h => by
    have ih := sm_le hN n (by omega)
    have h1 := (hN.k n (by omega)).2.2.2
    simp only [smN]
    omega
theorem eb_0 {bx nw : Nat → Nat} (hG : GoOk bx nw) : ebN bx nw 0 = exN bx (fun i => nw (8 + i)) (bx 0) := by
  refine ex_congr bx _ _ (bx 0) (fun i hi => ?_)
  simp only [tbhN]
  rw [Nat.mul_zero, Nat.add_zero]
  exact Nat.mod_eq_of_lt (hG i hi).2
/-! a round: behind it all is as it was -/
theorem rd_s (bx nw : Nat → Nat) (i : Nat) (h : 0 < ownN bx nw i) : rdN bx nw (i + 1) = Nat.lcm (rdN bx nw i) (ownN bx nw i) := by
  simp only [rdN, Nat.lcm]
  have hg : 0 < Nat.gcd (rdN bx nw i) (ownN bx nw i) := Nat.gcd_pos_of_pos_right _ h
  have hd : Nat.gcd (rdN bx nw i) (ownN bx nw i) ∣ rdN bx nw i := Nat.gcd_dvd_left _ _
  obtain ⟨k, hk⟩ := hd
  generalize Nat.gcd (rdN bx nw i) (ownN bx nw i) = g at *
  rw [hk, Nat.mul_div_cancel_left k hg, Nat.mul_assoc, Nat.mul_div_cancel_left _ hg]
theorem own_dvd {bx nw : Nat → Nat} (hB : BxOk bx) : ∀ n, n ≤ bx 0 → ∀ i, i < n → ownN bx nw i ∣ rdN bx nw n
  | 0, _, i, hi => by omega
  | n + 1, h, i, hi => by
    have ht := hB.t n (by omega)
    have ho := own_le bx nw n (by omega)
    rw [rd_s bx nw n ho.1]
    by_cases he : i = n
    · subst he; exact Nat.dvd_lcm_right _ _
    · exact Nat.dvd_trans (own_dvd hB n (by omega) i (by omega)) (Nat.dvd_lcm_left _ _)
theorem own_mul (bx nw : Nat → Nat) (i : Nat) : bx (5 + i) ∣ nw (4 + i) * ownN bx nw i := by
  simp only [ownN]
  obtain ⟨u, hu⟩ := Nat.gcd_dvd_left (bx (5 + i)) (nw (4 + i))
  obtain ⟨v, hv⟩ := Nat.gcd_dvd_right (bx (5 + i)) (nw (4 + i))
  generalize Nat.gcd (bx (5 + i)) (nw (4 + i)) = g at *
  by_cases hg : g = 0
  · subst hg; rw [Nat.zero_mul] at hv; rw [hv, Nat.zero_mul]; exact Nat.dvd_zero _
  · refine ⟨v, ?_⟩
    have h1 : bx (5 + i) / g = u := by rw [hu]; exact Nat.mul_div_cancel_left u (by omega)
    rw [h1, hv, hu, Nat.mul_right_comm]
theorem eb_per {bx nw : Nat → Nat} (hB : BxOk bx) (n : Nat) : ebN bx nw (n + rdN bx nw (bx 0)) = ebN bx nw n := by
  refine ex_congr bx _ _ (bx 0) (fun i hi => ?_)
  simp only [tbhN]
  obtain ⟨u, hu⟩ := own_dvd (nw := nw) hB (bx 0) (Nat.le_refl _) i hi
  obtain ⟨v, hv⟩ := own_mul bx nw i
  rw [Nat.mul_add, hu, ← Nat.mul_assoc (nw (4 + i)), hv, Nat.mul_assoc, ← Nat.add_assoc, Nat.add_mul_mod_self_left]
theorem fr_per {bx nw : Nat → Nat} (hB : BxOk bx) (y n : Nat) : frN bx nw y (n + rdN bx nw (bx 0)) = frN bx nw y n := by
  simp only [frN, eb_per hB n]
theorem ft_none {bx nw : Nat → Nat} {y : Nat} : ∀ m, ftN bx nw y m = 0 → ∀ n, 1 ≤ n → n ≤ m → frN bx nw y n = false
  | 0, _, n, h1, h2 => by omega
  | m + 1, h, n, h1, h2 => by
    simp only [ftN] at h
    by_cases h0 : ftN bx nw y m ≠ 0
    · rw [if_pos h0] at h; exact absurd h h0
    · rw [if_neg h0] at h
      by_cases hf : frN bx nw y (m + 1) = true
      · rw [if_pos hf] at h; omega
      · by_cases he : n = m + 1
        · subst he; simpa using hf
        · exact ft_none m (Classical.not_not.mp h0) n h1 (by omega)
theorem ft_zero {bx nw : Nat → Nat} {y : Nat} : ∀ m, (∀ n, 1 ≤ n → n ≤ m → frN bx nw y n = false) → ftN bx nw y m = 0
  | 0, _ => rfl
  | m + 1, h => by
    have ih := ft_zero m (fun n h1 h2 => h n h1 (by omega))
    exact ft_0 ih (h (m + 1) (by omega) (Nat.le_refl _))
/-- a round is enough -/
theorem ft_rd {bx nw : Nat → Nat} (hB : BxOk bx) (y : Nat) : ftN bx nw y (rdN bx nw (bx 0)) = ftN bx nw y (szN bx (bx 0)) := by
  have hr := rd_le (nw := nw) hB (bx 0) (Nat.le_refl _)
  by_cases h : ftN bx nw y (rdN bx nw (bx 0)) = 0
  · rw [h]
    have h1 := ft_none _ h
    have all : ∀ b n, 1 ≤ n → n ≤ b → frN bx nw y n = false := by
      intro b
      induction b with
      | zero => intro n hn hb; omega
      | succ b ih =>
        intro n hn hb
        by_cases hle : n ≤ rdN bx nw (bx 0)
        · exact h1 n hn hle
        · have h2 := fr_per (nw := nw) hB y (n - rdN bx nw (bx 0))
          rw [show n - rdN bx nw (bx 0) + rdN bx nw (bx 0) = n by omega] at h2
          rw [h2]
          exact ih _ (by omega) (by omega)
    exact (ft_zero _ (fun n hn hb => all _ n hn hb)).symm
  · exact (ft_m h _ hr.2).symm

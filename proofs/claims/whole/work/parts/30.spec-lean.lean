/-! the reference's list of teeth -/
def kcB (bx : Nat → Nat) (c : Nat) : Bool := decide (c / 10 < bx 0 ∧ c % 10 < bx (5 + c / 10))
theorem cp_sh (P : Nat → Bool) (a : Nat) : ∀ b, cnP P (a + b) = cnP P a + cnP (fun k => P (a + k)) b
  | 0 => by simp [cnP]
  | b + 1 => by
    have h1 := cp_sh P a b
    show cnP P (a + b) + b2n (P (a + b)) = cnP P a + (cnP (fun k => P (a + k)) b + b2n (P (a + b)))
    omega
theorem kc_rl {bx : Nat → Nat} {i t : Nat} (ht : t < 6) : kcB bx (i * 10 + t) = rlB bx (i * 6 + t) := by
  simp only [kcB, rlB]
  rw [show (i * 10 + t) / 10 = i by omega, show (i * 10 + t) % 10 = t by omega, show (i * 6 + t) / 6 = i by omega, show (i * 6 + t) % 6 = t by omega]
theorem kc_no {bx : Nat → Nat} (hB : BxOk bx) {i t : Nat} (ht : 6 ≤ t) (ht2 : t < 10) : kcB bx (i * 10 + t) = false := by
  refine decide_eq_false ?_
  rw [show (i * 10 + t) / 10 = i by omega, show (i * 10 + t) % 10 = t by omega]
  rintro ⟨h1, h2⟩
  have := (hB.t i h1).2.1
  omega
theorem kc_10 {bx : Nat → Nat} (hB : BxOk bx) : ∀ i, cnP (kcB bx) (i * 10) = cnP (rlB bx) (i * 6)
  | 0 => rfl
  | i + 1 => by
    have h10 : cnP (fun k => kcB bx (i * 10 + k)) 10 = cnP (fun k => kcB bx (i * 10 + k)) 6 := by
      show cnP (fun k => kcB bx (i * 10 + k)) (6 + 4) = _
      rw [cp_sh, cp_z 4 (fun k hk => kc_no hB (show 6 ≤ 6 + k by omega) (by omega)), Nat.add_zero]
    rw [show (i + 1) * 10 = i * 10 + 10 by omega, show (i + 1) * 6 = i * 6 + 6 by omega, cp_sh, cp_sh, kc_10 hB i, h10, cp_eq 6 (fun t ht => kc_rl (bx := bx) (i := i) ht)]
theorem kc_s {bx : Nat → Nat} (hB : BxOk bx) (s : Nat) : cnP (kcB bx) (s / 6 * 10 + s % 6) = cnP (rlB bx) s := by
  have h1 : cnP (rlB bx) (s / 6 * 6 + s % 6) = cnP (rlB bx) s := by rw [show s / 6 * 6 + s % 6 = s by omega]
  rw [← h1, cp_sh, cp_sh, kc_10 hB, cp_eq (s % 6) (fun t ht => kc_rl (bx := bx) (i := s / 6) (show t < 6 by omega))]
theorem kc_m {bx : Nat → Nat} (hB : BxOk bx) : cnP (kcB bx) 40 = mnN bx := kc_10 hB 4
def tcB (bx nw : Nat → Nat) (c k : Nat) : Bool := decide (tooN bx (nw (16 + k)) (c / 10) = c % 10)
/-- the codes below n, listed -/
def LyR (bx nw : Nat → Nat) (n : Nat) (cd ln : Nat → Nat) : Prop := ∀ c, c < n → kcB bx c = true → cd (cnP (kcB bx) c) = c ∧ ln (cnP (kcB bx) c) = bmN (tcB bx nw c) (nw 2)
section LYR
variable {bx nw cd ln : Nat → Nat} {n z : Nat}
theorem ly_0 : LyR bx nw 0 cd ln := fun c hc => absurd hc (Nat.not_lt_zero c)
theorem ly_t (hk : kcB bx n = true) (hz : z = cnP (kcB bx) n) (h : LyR bx nw n cd ln) : LyR bx nw (n + 1) (up1 cd z n) (up1 ln z (bmN (tcB bx nw n) (nw 2))) := by
  intro c hc hk2
  by_cases he : c = n
  · subst he; rw [hz, up1_s, up1_s]; exact ⟨rfl, rfl⟩
  · have h1 := ep_k hk2 n (by omega)
    rw [up1_n (by omega), up1_n (by omega)]
    exact h c (by omega) hk2
theorem ly_f (hk : kcB bx n = false) (h : LyR bx nw n cd ln) : LyR bx nw (n + 1) cd ln := by
  intro c hc hk2
  by_cases he : c = n
  · subst he; rw [hk] at hk2; exact absurd hk2 (by decide)
  · exact h c (by omega) hk2
theorem ly_e (hB : BxOk bx) (h : LyR bx nw 40 cd ln) : ∀ j, j < mnN bx → cd j = cdN bx j ∧ ln j = bmN (fun k_ => hcN bx nw k_ j) (nw 2) := by
  intro j hj
  have hw := hB.w
  have h1 := ep_ok (rlB bx) 24 j hj
  have hs : slP bx j < 24 := h1.1
  have hr : rlB bx (slP bx j) = true := h1.2.1
  have hc : cnP (rlB bx) (slP bx j) = j := h1.2.2
  have hr2 : slP bx j / 6 < bx 0 ∧ slP bx j % 6 < bx (5 + slP bx j / 6) := of_decide_eq_true hr
  have hk : kcB bx (cdN bx j) = true := by
    refine decide_eq_true ?_
    simp only [cdN]
    rw [show (slP bx j / 6 * 10 + slP bx j % 6) / 10 = slP bx j / 6 by omega, show (slP bx j / 6 * 10 + slP bx j % 6) % 10 = slP bx j % 6 by omega]
    exact hr2
  have h2 := h (cdN bx j) (by simp only [cdN]; omega) hk
  have h3 : cnP (kcB bx) (cdN bx j) = j := (kc_s hB (slP bx j)).trans hc
  rw [h3] at h2
  refine ⟨h2.1, h2.2.trans ?_⟩
  have e : tcB bx nw (cdN bx j) = fun k_ => hcN bx nw k_ j := by
    funext k
    refine Bool.eq_iff_iff.mpr ?_
    have e1 : cdN bx j / 10 = slP bx j / 6 := by simp only [cdN]; omega
    have e2 : cdN bx j % 10 = slP bx j % 6 := by simp only [cdN]; omega
    simp only [tcB, hcN, hsN, decide_eq_true_eq]
    rw [e1, e2]
    exact ⟨fun h => ⟨hr2.1, h⟩, fun h => h.2⟩
  rw [e]
theorem bm_t {S : Nat → Bool} (h : S n = true) : bmN S n ||| 1 * 2 ^ n = bmN S (n + 1) := by simp only [bmN]; rw [if_pos h]
theorem bm_f {S : Nat → Bool} (h : S n = false) : bmN S n ||| 0 = bmN S (n + 1) := by simp only [bmN]; rw [if_neg (by rw [h]; decide)]
theorem kc_in {c : Nat} (hB : BxOk bx) (hc : c < 40) : (inN (nI (c / 10)) (bx 0) && inN (nI (c % 10)) (bx (5 + (nI (c / 10)).toNatClampNeg))) = kcB bx c := by
  have e : ∀ k n, k < 1000 → n < 1000 → inN (nI k) n = decide (k < n) := by
    intro k n hk hn
    simp only [inN]
    rw [nI_toInt (by omega)]
    exact decide_eq_decide.mpr ⟨fun h => by omega, fun h => by omega⟩
  have hb0 := hB.bd 0
  rw [nI_clamp (by omega), e _ _ (by omega) hb0, e _ _ (by omega) (hB.bd _), kcB, Bool.decide_and]
end LYR
/-! the reference's search -/
def orN (ln ch : Nat → Nat) : Nat → Nat
  | 0 => 0
  | e + 1 => orN ln ch e ||| ln (ch e)
theorem or_tb (ln ch : Nat → Nat) (k : Nat) : ∀ n, Nat.testBit (orN ln ch n) k = true ↔ ∃ e, e < n ∧ Nat.testBit (ln (ch e)) k = true
  | 0 => by simp [orN]
  | n + 1 => by
    simp only [orN]
    rw [Nat.testBit_or, Bool.or_eq_true, or_tb ln ch k n]
    constructor
    · rintro (⟨e, h1, h2⟩ | h)
      · exact ⟨e, by omega, h2⟩
      · exact ⟨n, by omega, h⟩
    · rintro ⟨e, h1, h2⟩
      by_cases he : e = n
      · subst he; exact Or.inr h2
      · exact Or.inl ⟨e, by omega, h2⟩
theorem le_cv {bx nw ln ch : Nat → Nat} {y n m : Nat} (hl : ∀ j, j < m → ln j = bmN (fun k_ => hcN bx nw k_ j) (nw 2)) (hI : InC m n ch) : anN (hbN nw y (nw 2)) (orN ln ch n) = 0 ↔ CvS (hcN bx nw) (nw 2) (fun k => decide (nw (40 + k) = y)) n ch := by
  constructor
  · intro h k hk hL
    have h1 : Nat.testBit (hbN nw y (nw 2)) k = true := by
      rw [hb_tb, decide_eq_true hk, Bool.true_and]; exact hL
    obtain ⟨e, h2, h3⟩ := (or_tb ln ch k n).mp (an_0 h k h1)
    rw [hl _ (hI.2 e h2), bm_tb, Bool.and_eq_true] at h3
    exact ⟨e, h2, h3.2⟩
  · intro h
    refine an_1 (fun k hk => ?_)
    rw [hb_tb, Bool.and_eq_true, decide_eq_true_eq] at hk
    obtain ⟨e, h2, h3⟩ := h k hk.1 hk.2
    refine (or_tb ln ch k n).mpr ⟨e, h2, ?_⟩
    rw [hl _ (hI.2 e h2), bm_tb, decide_eq_true hk.1, Bool.true_and]
    exact h3
def nxF (ch : Nat → Nat) (j e : Nat) : Nat → Nat := fun i => if i < j then ch i else if i < e then ch j + 1 + (i - j) else ch i
section NXF
variable {hs : Nat → Nat → Bool} {N m n F j e : Nat} {L : Nat → Bool} {ch t : Nat → Nat}
theorem ny_0 : up1 ch j (ch j + 1) = nxF ch j (j + 1) := by
  funext i
  simp only [nxF]
  by_cases h : i = j
  · subst h; rw [up1_s, if_neg (by omega), if_pos (by omega)]; omega
  · rw [up1_n h]
    by_cases h2 : i < j
    · rw [if_pos h2]
    · rw [if_neg h2, if_neg (by omega)]
theorem ny_s (h : j < e) : up1 (nxF ch j e) e (nxF ch j e (e - 1) + 1) = nxF ch j (e + 1) := by
  funext i
  have h1 : nxF ch j e (e - 1) = ch j + 1 + (e - 1 - j) := by
    simp only [nxF]; rw [if_neg (by omega), if_pos (by omega)]
  by_cases h2 : i = e
  · subst h2
    rw [up1_s, h1]
    simp only [nxF]
    rw [if_neg (by omega), if_pos (by omega)]; omega
  · rw [up1_n h2]
    simp only [nxF]
    by_cases h3 : i < j
    · rw [if_pos h3, if_pos h3]
    · rw [if_neg h3, if_neg h3]
      by_cases h4 : i < e
      · rw [if_pos h4, if_pos (by omega)]
      · rw [if_neg h4, if_neg (by omega)]
theorem in_le (hI : InC m n ch) {i : Nat} (hi : i < n) : n ≤ m ∧ ch i ≤ m - n + i := by
  have h1 := in_mono hI (n - 1) i (by omega) (by omega)
  have h2 := in_mono hI (n - 1) 0 (by omega) (by omega)
  have h3 := hI.2 (n - 1) (by omega)
  omega
theorem ny_I (hI : InC m n ch) (hj : j < n) (hne : ch j ≠ m - n + j) : InC m n (nxF ch j n) := by
  have h0 := in_le hI hj
  refine ⟨fun i hi => ?_, fun i hi => ?_⟩
  · simp only [nxF]
    by_cases h1 : i + 1 < j
    · rw [if_pos (by omega), if_pos h1]; exact hI.1 i hi
    · by_cases h2 : i < j
      · rw [if_pos h2, if_neg (by omega), if_pos hi]
        have h3 := hI.1 i hi
        have h4 : i + 1 = j := by omega
        rw [h4] at h3 ⊢; omega
      · rw [if_neg h2, if_pos (show i < n by omega), if_neg h1, if_pos hi]; omega
  · simp only [nxF]
    by_cases h1 : i < j
    · rw [if_pos h1]; exact hI.2 i hi
    · rw [if_neg h1, if_pos hi]; omega
theorem ny_lx (hj : j < n) : LxS ch (nxF ch j n) n := by
  refine ⟨j, hj, fun i hi => ?_, ?_⟩
  · simp only [nxF]; rw [if_pos hi]
  · simp only [nxF]; rw [if_neg (by omega), if_pos hj]; omega
theorem ny_min (hI : InC m n ch) (hj : j < n) (hfull : ∀ i, j + 1 ≤ i → i < n → ch i = m - n + i) (hmin : ∀ u, InC m n u → CvS hs N L n u → ¬ LxS u ch n) (hnc : ¬ CvS hs N L n ch) : ∀ u, InC m n u → CvS hs N L n u → ¬ LxS u (nxF ch j n) n := by
  rintro u hu hcu ⟨i, hi, heq, hlt⟩
  have h0 := in_le hI hj
  rcases Nat.lt_trichotomy i j with h | h | h
  · refine hmin u hu hcu ⟨i, hi, fun p hp => ?_, ?_⟩
    · have := heq p hp
      simp only [nxF] at this
      rw [if_pos (by omega)] at this; exact this
    · simp only [nxF] at hlt
      rw [if_pos h] at hlt; exact hlt
  · subst h
    simp only [nxF] at hlt
    rw [if_neg (by omega), if_pos hi] at hlt
    have hpre : ∀ p, p < i → u p = ch p := fun p hp => by
      have := heq p hp
      simp only [nxF] at this
      rw [if_pos hp] at this; exact this
    by_cases hl : u i < ch i
    · exact hmin u hu hcu ⟨i, hi, hpre, hl⟩
    · have hie : u i = ch i := by omega
      rcases lx_tri u ch n with h5 | h5 | h5
      · exact hmin u hu hcu h5
      · obtain ⟨p, hp, _, hp3⟩ := h5
        have h6 := in_le hu hp
        rcases Nat.lt_trichotomy p i with h7 | h7 | h7
        · have := hpre p h7; omega
        · subst h7; omega
        · have := hfull p (by omega) hp; omega
      · refine hnc (fun k hk hL => ?_)
        obtain ⟨p, h6, h7⟩ := hcu k hk hL
        rw [h5 p h6] at h7
        exact ⟨p, h6, h7⟩
  · have h1 := heq j h
    simp only [nxF] at h1 hlt
    rw [if_neg (by omega), if_pos hj] at h1
    rw [if_neg (by omega), if_pos hi] at hlt
    have h2 := in_mono hu i j (by omega) hi
    omega
theorem lo_1 (hT : IsF hs N m L F t) (hn : n ≤ F) (hI : InC m n ch) (hmin : ∀ u, InC m n u → CvS hs N L n u → ¬ LxS u ch n) (hc : CvS hs N L n ch) : n = F ∧ ∀ i, i < F → ch i = t i := by
  have he : n = F := by
    rcases Nat.lt_or_ge n F with h | h
    · exact absurd hc (hT.2.2.1 n ch h hI)
    · omega
  subst he
  refine ⟨rfl, ?_⟩
  rcases lx_tri ch t n with h | h | h
  · exact absurd h (hT.2.2.2 ch hI hc)
  · exact absurd h (hmin t hT.1 hT.2.1)
  · exact h
theorem lo_0 (hT : IsF hs N m L F t) (hmin : ∀ u, InC m n u → CvS hs N L n u → ¬ LxS u ch n) (hnc : ¬ CvS hs N L n ch) (hfull : ∀ i, 0 ≤ i → i < n → ch i = m - n + i) : n ≠ F := by
  intro he
  subst he
  rcases lx_tri ch t n with h | h | h
  · obtain ⟨j, h1, _, h3⟩ := h
    have h4 := in_le hT.1 h1
    have h5 := hfull j (Nat.zero_le _) h1
    omega
  · exact hmin t hT.1 hT.2.1 h
  · refine hnc (fun k hk hL => ?_)
    obtain ⟨p, h6, h7⟩ := hT.2.1 k hk hL
    rw [← h p h6] at h7
    exact ⟨p, h6, h7⟩
theorem id_I {g : Nat → Nat} (h : ∀ i, i < n → g i = i) (hm : n ≤ m) : InC m n g := ⟨fun i hi => by rw [h i (by omega), h (i + 1) hi]; omega, fun i hi => by rw [h i hi]; omega⟩
theorem id_min {g : Nat → Nat} (h : ∀ i, i < n → g i = i) : ∀ u, InC m n u → CvS hs N L n u → ¬ LxS u g n := by
  rintro u hu _ ⟨j, h1, _, h3⟩
  rw [h j h1] at h3
  have := in_mono hu j 0 (Nat.zero_le _) h1
  omega
theorem nu_b {g : Nat → Nat} : ∀ n, (∀ i, i < n → g i < 25) → nuN g n < 25 ^ n
  | 0, _ => by simp [nuN]
  | n + 1, h => by
    have h1 := nu_b (g := g) n (fun i hi => h i (by omega))
    have h2 := h n (by omega)
    simp only [nuN]
    rw [Nat.pow_succ]; omega
theorem ny_nu (hm : m ≤ 24) (hI : InC m n ch) (hj : j < n) (hne : ch j ≠ m - n + j) : 25 ^ n - nuN (nxF ch j n) n < 25 ^ n - nuN ch n := by
  have h1 := nu_lt (u := ch) (t := nxF ch j n) n (fun i hi => by have := hI.2 i hi; omega) (ny_lx hj)
  have h2 := nu_b (g := nxF ch j n) n (fun i hi => by have := (ny_I hI hj hne).2 i hi; omega)
  omega
theorem id_s {g : Nat → Nat} {k : Nat} (h : ∀ i, i < k → g i = i) : ∀ i, i < k + 1 → up1 g k k i = i := by
  intro i hi
  by_cases h2 : i = k
  · subst h2; rw [up1_s]
  · rw [up1_n h2]; exact h i (by omega)
theorem fu_s {k : Nat} (h : ∀ i, k + 1 ≤ i → i < n → ch i = m - n + i) (h2 : ch k = m - n + k) : ∀ i, k ≤ i → i < n → ch i = m - n + i := by
  intro i h3 h4
  by_cases h5 : i = k
  · subst h5; exact h2
  · exact h i (by omega) h4
end NXF

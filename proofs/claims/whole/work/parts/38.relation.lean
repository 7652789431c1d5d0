/-! both boxes: what holds between calls -/
/-- a row, and what the class keeps of it, behind at most n calls -/
def RwOk (n : Nat) (bx nw up st ex tl he dy se : Nat → Nat) (fi : Nat) : Prop := BoR bx nw up st ex tl he dy se fi ∧ nw 1 ≤ 1296 * n ∧ nw 0 ≤ n ∧ nw 3 = smN nw (nw 2) ∧ DsOk nw ∧ ∀ i, i < bx 0 → nw (12 + i) < 64
section RWO
variable {n : Nat} {bx nw up st ex tl he dy se : Nat → Nat} {fi : Nat}
theorem RwOk.m (h : RwOk n bx nw up st ex tl he dy se fi) : RwOk (n + 1) bx nw up st ex tl he dy se fi := by
  obtain ⟨h1, h2, h3, h4⟩ := h
  exact ⟨h1, by omega, by omega, h4⟩
theorem RwOk.b (h : RwOk n bx nw up st ex tl he dy se fi) (hn : n ≤ 600) : BdOk nw := by
  have h2 := h.2.1
  show nw 1 < 10000000
  omega
theorem sm_cg {r nw : Nat → Nat} : ∀ m, (∀ k, k < m → r (64 + k) = nw (64 + k)) → smN r m = smN nw m
  | 0, _ => rfl
  | m + 1, h => by simp only [smN]; rw [sm_cg m (fun k hk => h k (by omega)), h m (by omega)]
theorem rw_cg {r : Nat → Nat} (hB : BxOk bx) (h : RwOk n bx nw up st ex tl he dy se fi) (he2 : ∀ j, j < 76 → r j = nw j) (hb : ∀ j, r j < 100000000) : RwOk n bx r up st ex tl he dy se fi := by
  have hw := hB.w
  obtain ⟨⟨h1, h2, h3, h4, h5, h6⟩, g1, g2, g3, g4, g5⟩ := h
  have h12 := h2.1
  have e2 := he2 2 (by omega)
  refine ⟨⟨?_, ⟨by rw [e2]; exact h12, ?_, hb⟩, ?_, ?_, h5, ?_⟩, by rw [he2 1 (by omega)]; exact g1, by rw [he2 0 (by omega)]; exact g2, ?_, ?_, ?_⟩
  · intro i hi
    rw [he2 (4 + i) (by omega), he2 (8 + i) (by omega)]; exact h1 i hi
  · rw [e2]; intro k hk
    rw [he2 (16 + k) (by omega), he2 (28 + k) (by omega), he2 (40 + k) (by omega), he2 (64 + k) (by omega)]; exact h2.2.1 k hk
  · intro i hi
    rw [he2 (8 + i) (by omega), he2 (4 + i) (by omega)]; exact h3 i hi
  · rw [e2]; intro k hk
    rw [he2 (16 + k) (by omega), he2 (28 + k) (by omega), he2 (40 + k) (by omega), he2 (52 + k) (by omega), he2 (64 + k) (by omega)]; exact h4 k hk
  · intro i hi t ht
    rw [he2 (12 + i) (by omega)]; exact h6 i hi t ht
  · rw [he2 3 (by omega), e2, g3]
    exact (sm_cg (nw 2) (fun k hk => he2 (64 + k) (by omega))).symm
  · intro a b hab hb2
    rw [e2] at hb2
    rw [he2 (40 + a) (by omega), he2 (40 + b) (by omega), he2 (16 + a) (by omega), he2 (16 + b) (by omega)]
    exact g4 a b hab hb2
  · intro i hi
    rw [he2 (12 + i) (by omega)]; exact g5 i hi
/-! calls that change the row -/
theorem rw_cr (hB : BxOk bx) (h : RwOk n bx nw up st ex tl he dy se fi) (hn : n ≤ 600) : RwOk (n + 1) bx (trN bx nw 1) (upI bx up st 1 (bx 0)) st ex tl he dy se fi := by
  have hw := hB.w
  have hbl := h.b hn
  obtain ⟨h1, g1, g2, g3, g4, g5⟩ := h
  refine ⟨bo_tr hB h1 1 (by omega) hbl, ?_, ?_, tr_sm hB h1.d g3 1, ?_, ?_⟩
  · rw [tr_1]; omega
  · rw [tr_o bx nw 1 0 (by omega) (by omega)]; omega
  · intro a b hab hb
    have h12 := h1.d.h
    rw [tr_o bx nw 1 2 (by omega) (by omega)] at hb
    rw [tr_o bx nw 1 (40 + a) (by omega) (by omega), tr_o bx nw 1 (40 + b) (by omega) (by omega), tr_o bx nw 1 (16 + a) (by omega) (by omega), tr_o bx nw 1 (16 + b) (by omega) (by omega)]
    exact g4 a b hab hb
  · intro i hi
    rw [tr_o bx nw 1 (12 + i) (by omega) (by omega)]; exact g5 i hi
theorem tu_tr (hB : BxOk bx) (hG : GoOk bx nw) : tuN bx nw = trN bx nw 1 := by
  have h := tr_s hB nw 0
  rw [tr_0 hG] at h
  exact h
theorem rw_da (hB : BxOk bx) (h : RwOk n bx nw up st ex tl he dy se fi) (hn : n ≤ 600) : RwOk (n + 1) bx (up1 nw 0 (nw 0 + 1)) up st ex tl he dy se fi := by
  have hw := hB.w
  obtain ⟨⟨h1, h2, h3, h4, h5, h6⟩, g1, g2, g3, g4, g5⟩ := h
  have e : ∀ j, j ≠ 0 → up1 nw 0 (nw 0 + 1) j = nw j := fun j hj => up1_n hj
  refine ⟨⟨?_, ⟨by rw [e 2 (by omega)]; exact h2.1, ?_, ?_⟩, ?_, ?_, h5, ?_⟩, by rw [e 1 (by omega)]; omega, by rw [up1_s]; omega, ?_, ?_, ?_⟩
  · intro i hi
    rw [e (4 + i) (by omega), e (8 + i) (by omega)]; exact h1 i hi
  · rw [e 2 (by omega)]; intro k hk
    rw [e (16 + k) (by omega), e (28 + k) (by omega), e (40 + k) (by omega), e (64 + k) (by omega)]; exact h2.2.1 k hk
  · intro j
    by_cases hj : j = 0
    · subst hj; rw [up1_s]; omega
    · rw [e j hj]; exact h2.2.2 j
  · intro i hi
    rw [e (8 + i) (by omega), e (4 + i) (by omega)]; exact h3 i hi
  · rw [e 2 (by omega)]; intro k hk
    rw [e (16 + k) (by omega), e (28 + k) (by omega), e (40 + k) (by omega), e (52 + k) (by omega), e (64 + k) (by omega)]; exact h4 k hk
  · intro i hi t ht
    rw [e (12 + i) (by omega)]; exact h6 i hi t ht
  · rw [e 3 (by omega), e 2 (by omega), g3]
    exact (sm_cg (nw 2) (fun k hk => e (64 + k) (by omega))).symm
  · intro a b hab hb2
    rw [e 2 (by omega)] at hb2
    rw [e (40 + a) (by omega), e (40 + b) (by omega), e (16 + a) (by omega), e (16 + b) (by omega)]
    exact g4 a b hab hb2
  · intro i hi
    rw [e (12 + i) (by omega)]; exact g5 i hi
theorem rw_fi (hB : BxOk bx) (h : RwOk n bx nw up st ex tl he dy se fi) {i t : Nat} (hi : i < bx 0) (ht : t < bx (5 + i)) : RwOk (n + 1) bx (up1 nw (12 + i) (nw (12 + i) ||| 1 * 2 ^ t)) up st ex tl he dy se (fi ||| 1 * 2 ^ (i * 6 + t)) := by
  have hw := hB.w
  have ht6 := (hB.t i hi).2.1
  obtain ⟨⟨h1, h2, h3, h4, h5, h6⟩, g1, g2, g3, g4, g5⟩ := h
  have h12 := h2.1
  have e : ∀ j, j ≠ 12 + i → up1 nw (12 + i) (nw (12 + i) ||| 1 * 2 ^ t) j = nw j := fun j hj => up1_n hj
  have e64 : nw (12 + i) ||| 1 * 2 ^ t < 64 := Nat.or_lt_two_pow (n := 6) (g5 i hi) (by rw [Nat.one_mul]; exact Nat.pow_lt_pow_right (by omega) (by omega))
  refine ⟨⟨?_, ⟨by rw [e 2 (by omega)]; exact h2.1, ?_, ?_⟩, ?_, ?_, ?_, ?_⟩, by rw [e 1 (by omega)]; omega, by rw [e 0 (by omega)]; omega, ?_, ?_, ?_⟩
  · intro j hj
    rw [e (4 + j) (by omega), e (8 + j) (by omega)]; exact h1 j hj
  · rw [e 2 (by omega)]; intro k hk
    rw [e (16 + k) (by omega), e (28 + k) (by omega), e (40 + k) (by omega), e (64 + k) (by omega)]; exact h2.2.1 k hk
  · intro j
    by_cases hj : j = 12 + i
    · subst hj; rw [up1_s]; omega
    · rw [e j hj]; exact h2.2.2 j
  · intro j hj
    rw [e (8 + j) (by omega), e (4 + j) (by omega)]; exact h3 j hj
  · rw [e 2 (by omega)]; intro k hk
    rw [e (16 + k) (by omega), e (28 + k) (by omega), e (40 + k) (by omega), e (52 + k) (by omega), e (64 + k) (by omega)]; exact h4 k hk
  · exact Nat.or_lt_two_pow (n := 24) h5 (by rw [Nat.one_mul]; exact Nat.pow_lt_pow_right (by omega) (by omega))
  · intro j hj v hv
    rw [Nat.testBit_or, tb_one, h6 j hj v hv]
    by_cases he : j = i
    · subst he
      rw [up1_s, Nat.testBit_or, tb_one]
      have : decide (j * 6 + v = j * 6 + t) = decide (v = t) := decide_eq_decide.mpr (by omega)
      rw [this]
    · rw [e (12 + j) (by omega)]
      have : decide (j * 6 + v = i * 6 + t) = false := decide_eq_false (by omega)
      rw [this, Bool.or_false]
  · rw [e 3 (by omega), e 2 (by omega), g3]
    exact (sm_cg (nw 2) (fun k hk => e (64 + k) (by omega))).symm
  · intro a b hab hb2
    rw [e 2 (by omega)] at hb2
    rw [e (40 + a) (by omega), e (40 + b) (by omega), e (16 + a) (by omega), e (16 + b) (by omega)]
    exact g4 a b hab hb2
  · intro j hj
    by_cases he : j = i
    · subst he; rw [up1_s]; exact e64
    · rw [e (12 + j) (by omega)]; exact g5 j hj
theorem rw_ge (hB : BxOk bx) (h : RwOk n bx nw up st ex tl he dy se fi) {i t : Nat} (hi : i < bx 0) (ht : t < bx (5 + i)) : RwOk (n + 1) bx (up1 nw (4 + i) t) up (up1 st i t) ex tl he dy se fi := by
  have hw := hB.w
  have ht6 := (hB.t i hi).2.1
  obtain ⟨⟨h1, h2, h3, h4, h5, h6⟩, g1, g2, g3, g4, g5⟩ := h
  have h12 := h2.1
  have e : ∀ j, j ≠ 4 + i → up1 nw (4 + i) t j = nw j := fun j hj => up1_n hj
  refine ⟨⟨?_, ⟨by rw [e 2 (by omega)]; exact h2.1, ?_, ?_⟩, ?_, ?_, h5, ?_⟩, by rw [e 1 (by omega)]; omega, by rw [e 0 (by omega)]; omega, ?_, ?_, ?_⟩
  · intro j hj
    rw [e (8 + j) (by omega)]
    by_cases he : j = i
    · subst he; rw [up1_s]; exact ⟨ht, (h1 j hj).2⟩
    · rw [e (4 + j) (by omega)]; exact h1 j hj
  · rw [e 2 (by omega)]; intro k hk
    rw [e (16 + k) (by omega), e (28 + k) (by omega), e (40 + k) (by omega), e (64 + k) (by omega)]; exact h2.2.1 k hk
  · intro j
    by_cases hj : j = 4 + i
    · subst hj; rw [up1_s]; omega
    · rw [e j hj]; exact h2.2.2 j
  · intro j hj
    rw [e (8 + j) (by omega)]
    by_cases he : j = i
    · subst he; rw [up1_s, up1_s]; exact ⟨(h3 j hj).1, rfl⟩
    · rw [up1_n he, e (4 + j) (by omega)]; exact h3 j hj
  · rw [e 2 (by omega)]; intro k hk
    rw [e (16 + k) (by omega), e (28 + k) (by omega), e (40 + k) (by omega), e (52 + k) (by omega), e (64 + k) (by omega)]; exact h4 k hk
  · intro j hj v hv
    rw [e (12 + j) (by omega)]; exact h6 j hj v hv
  · rw [e 3 (by omega), e 2 (by omega), g3]
    exact (sm_cg (nw 2) (fun k hk => e (64 + k) (by omega))).symm
  · intro a b hab hb2
    rw [e 2 (by omega)] at hb2
    rw [e (40 + a) (by omega), e (40 + b) (by omega), e (16 + a) (by omega), e (16 + b) (by omega)]
    exact g4 a b hab hb2
  · intro j hj
    rw [e (12 + j) (by omega)]; exact g5 j hj
theorem ft_fr {y : Nat} : ∀ m, ftN bx nw y m ≠ 0 → frN bx nw y (ftN bx nw y m) = true
  | 0, h => absurd rfl h
  | m + 1, h => by
    simp only [ftN] at h ⊢
    by_cases h0 : ftN bx nw y m ≠ 0
    · rw [if_pos h0]; exact ft_fr m h0
    · rw [if_neg h0] at h ⊢
      by_cases h1 : frN bx nw y (m + 1) = true
      · rw [if_pos h1]; exact h1
      · rw [if_neg h1] at h; exact absurd rfl h
theorem sta_no {x y k : Nat} : ∀ m, staN bx nw x y m = false → k < m → nw (40 + k) = y → nw (16 + k) ≠ x
  | 0, _, h, _ => by omega
  | m + 1, h, hk, hy => by
    simp only [staN, Bool.or_eq_false_iff] at h
    by_cases he : k = m
    · subst he
      intro hx
      have h2 := h.2
      rw [decide_eq_true hx, hy, Nat.testBit_or, tb_one] at h2
      simp at h2
    · exact sta_no m h.1 (by omega) hy
theorem rw_gi {ua ea la ha da sa : Nat → Nat} {x y : Nat} (hB : BxOk bx) (h : RwOk n bx nw up st ex tl he dy se fi) (hn : n ≤ 600) (hx : x < bx 1) (hy : y < bx 1) (h12 : nw 2 ≠ 12) (h0 : ftN bx nw y (szN bx (bx 0)) ≠ 0)
    (hX2 : BoR bx (gsN bx nw x y (ftN bx nw y (szN bx (bx 0)))) ua st ea la ha da sa fi) : RwOk (n + 1) bx (gsN bx nw x y (ftN bx nw y (szN bx (bx 0)))) ua st ea la ha da sa fi := by
  have hw := hB.w
  have hsz := sz_lt hB
  have hbl := h.b hn
  have hfl := ft_le bx nw y (szN bx (bx 0))
  have hfr := ft_fr (szN bx (bx 0)) h0
  obtain ⟨m, hm⟩ : ∃ m, m = ftN bx nw y (szN bx (bx 0)) := ⟨_, rfl⟩
  rw [← hm] at hX2 hfl hfr ⊢
  obtain ⟨h1, g1, g2, g3, g4, g5⟩ := h
  have hN := h1.d
  have hh := hN.h
  have hg := gs_ok hB h1.1 hN hbl g3 m (by omega) (x := x) (y := y) hx hy
  have e2 : trN bx nw m 2 = nw 2 := tr_o bx nw m 2 (by omega) (by omega)
  have hgs := gs_1s (x := x) (y := y) (tr_go hB h1.1 m) (show trN bx nw m 2 < 12 by omega)
  refine ⟨hX2, by rw [hg.2.2.2.2.1]; omega, by rw [hg.2.2.2.1]; omega, hg.2.2.1, ?_, ?_⟩
  · intro a b hab hb
    rw [hgs.2.1] at hb
    have hT : trN bx nw m 2 < 12 := by omega
    have wa := gv_w (F := trN bx nw m) (E := ebN bx (trN bx nw m) 0) (x := x) (y := y) (S := b2n (seeN bx (trN bx nw m) (ebN bx (trN bx nw m) 0) x y (trN bx nw m 2))) hT (show a ≤ trN bx nw m 2 by omega)
    have wb := gv_w (F := trN bx nw m) (E := ebN bx (trN bx nw m) 0) (x := x) (y := y) (S := b2n (seeN bx (trN bx nw m) (ebN bx (trN bx nw m) 0) x y (trN bx nw m 2))) hT (show b ≤ trN bx nw m 2 by omega)
    rw [hgs.1, wa.1, wa.2.2.1, wb.1, wb.2.2.1, if_neg (show ¬ a = trN bx nw m 2 by omega), if_neg (show ¬ a = trN bx nw m 2 by omega), tr_o bx nw m (40 + a) (by omega) (by omega), tr_o bx nw m (16 + a) (by omega) (by omega)]
    by_cases hb2 : b = trN bx nw m 2
    · rw [if_pos hb2, if_pos hb2]
      intro hya
      have h3 : staN bx nw (ebN bx nw m) y (nw 2) = false := by
        simp only [frN, Bool.and_eq_true, Bool.not_eq_true'] at hfr
        exact hfr.2
      have h4 : ebN bx (trN bx nw m) 0 = ebN bx nw m := by rw [eb_0 (tr_go hB h1.1 m), tr_eb hB nw m]
      rw [h4]
      exact sta_no (nw 2) h3 (by omega) hya
    · rw [if_neg hb2, if_neg hb2, tr_o bx nw m (40 + b) (by omega) (by omega), tr_o bx nw m (16 + b) (by omega) (by omega)]
      exact g4 a b hab (by omega)
  · intro i hi
    rw [hgs.1, gv_lo (by omega) (by omega) (by omega) (by omega), tr_o bx nw m (12 + i) (by omega) (by omega)]
    exact g5 i hi
theorem rw_st {te ps pu sd cj ta : Nat → Nat} (hR : PlR bx te ps pu sd cj ta) (hb : BoR bx (stN bx) up st ex tl he dy se fi) : RwOk (n + 1) bx (stN bx) up st ex tl he dy se fi := by
  refine ⟨hb, ?_, ?_, ?_, ?_, ?_⟩
  · show (0 : Nat) ≤ _; omega
  · show (0 : Nat) ≤ _; omega
  · rfl
  · intro a b _ hb2
    have : stN bx 2 = 0 := rfl
    omega
  · intro i hi
    have : stN bx (12 + i) = 0 := if_neg (by omega)
    omega
end RWO
/-! shelves -/
def BxHas (n : Nat) (bx r : Nat → Nat) (v : Nat → Nat → Nat) : Prop := RwOk n bx r (v 0) (v 1) (v 2) (v 3) (v 4) (v 5) (v 6) (v 7 0) ∧ v 7 1 = r 2 ∧ v 7 2 = r 0 ∧ v 7 3 = r 1
def ShI (n N : Nat) (bx : Nat → Nat) (z c : Nat) (pa : Nat → Nat) (bv : Nat → Nat → Nat → Nat) : Prop := z < N ∧ c ≤ N ∧ (∀ j, pa j < 100000000) ∧ ∀ k, k < c → BxHas n bx (rwN pa k) (bv ((z + N - c + k) % N))
def pkV (up st ex tl he dy se : Nat → Nat) (a b c d : Nat) : Nat → Nat → Nat := fun i k => if i = 0 then up k else if i = 1 then st k else if i = 2 then ex k else if i = 3 then tl k else if i = 4 then he k else if i = 5 then dy k else if i = 6 then se k else if k = 0 then a else if k = 1 then b else if k = 2 then c else d
def upV (bv : Nat → Nat → Nat → Nat) (z : Nat) (w : Nat → Nat → Nat) : Nat → Nat → Nat → Nat := fun j => if j = z then w else bv j
theorem upV_s {bv : Nat → Nat → Nat → Nat} {z : Nat} {w : Nat → Nat → Nat} : upV bv z w z = w := if_pos rfl
theorem upV_n {bv : Nat → Nat → Nat → Nat} {z j : Nat} {w : Nat → Nat → Nat} (h : j ≠ z) : upV bv z w j = bv j := if_neg h
section SHI
variable {n N z c : Nat} {bx nw pa : Nat → Nat} {bv : Nat → Nat → Nat → Nat} {w : Nat → Nat → Nat}
theorem BxHas.m (h : BxHas n bx nw w) : BxHas (n + 1) bx nw w := ⟨h.1.m, h.2⟩
theorem bh_cg {r : Nat → Nat} (hB : BxOk bx) (h : BxHas n bx nw w) (he : ∀ j, j < 76 → r j = nw j) (hb : ∀ j, r j < 100000000) : BxHas n bx r w :=
  ⟨rw_cg hB h.1 he hb, by rw [he 2 (by omega)]; exact h.2.1, by rw [he 0 (by omega)]; exact h.2.2.1, by rw [he 1 (by omega)]; exact h.2.2.2⟩
theorem bh_pk {up st ex tl he dy se : Nat → Nat} {fi : Nat} (h : RwOk n bx nw up st ex tl he dy se fi) : BxHas n bx nw (pkV up st ex tl he dy se fi (nw 2) (nw 0) (nw 1)) := ⟨h, rfl, rfl, rfl⟩
theorem ShI.m (h : ShI n N bx z c pa bv) : ShI (n + 1) N bx z c pa bv := ⟨h.1, h.2.1, h.2.2.1, fun k hk => (h.2.2.2 k hk).m⟩
theorem sh_no {bx2 : Nat → Nat} {n2 : Nat} (h : ShI n N bx z c pa bv) : ShI n2 N bx2 z 0 pa bv := ⟨h.1, Nat.zero_le _, h.2.2.1, fun k hk => absurd hk (Nat.not_lt_zero k)⟩
theorem cp_bd {f g : Nat → Nat} {i j k : Nat} (h1 : ∀ x, f x < 100000000) (h2 : ∀ x, g x < 100000000) : ∀ x, cpN f i g j k x < 100000000 := by
  intro x; simp only [cpN]; split
  · exact h1 _
  · exact h2 _
theorem cp_o {f g : Nat → Nat} {i j k x : Nat} (h : x < j) : cpN f i g j k x = g x := by simp only [cpN]; rw [if_neg (by omega)]
theorem cp_i {f g : Nat → Nat} {j x : Nat} (h : x < 76) : cpN f 0 g j 76 (j + x) = f x := by
  simp only [cpN]; rw [if_pos (by omega)]; congr 1; omega
theorem si_bd {g : Nat → Nat} {k : Nat} (h : ∀ x, g x < 100000000) : ∀ x, shI g k x < 100000000 := by
  intro x; simp only [shI]; split <;> exact h _
theorem sh_k8 (hB : BxOk bx) (h : ShI n 8 bx z c pa bv) (hb : ∀ j, nw j < 100000000) (hw : BxHas n bx nw w) : ShI (n + 1) 8 bx (nxN 8 z) (rmU c) (rmP nw pa c) (upV bv z w) := by
  obtain ⟨h1, h2, h3, h4⟩ := h
  have hnx : nxN 8 z = (z + 1) % 8 := by simp only [nxN]; split <;> omega
  by_cases h8 : c = 8
  · subst h8
    have eP : rmP nw pa 8 = cpN nw 0 (shI pa 532) 532 76 := if_pos rfl
    have hbd : ∀ j, rmP nw pa 8 j < 100000000 := by rw [eP]; exact cp_bd hb (si_bd h3)
    refine ⟨by omega, by decide, hbd, fun k hk => ?_⟩
    have hk8 : k < 8 := hk
    by_cases h7 : k = 7
    · subst h7
      rw [show (nxN 8 z + 8 - rmU 8 + 7) % 8 = z by have : rmU 8 = 8 := rfl; omega, upV_s]
      refine bh_cg hB hw.m (fun j hj => ?_) (fun j => hbd _)
      simp only [rwN]; rw [eP, show 76 * 7 + j = 532 + j by omega]; exact cp_i hj
    · have hs : (nxN 8 z + 8 - rmU 8 + k) % 8 = (z + 8 - 8 + (k + 1)) % 8 := by have : rmU 8 = 8 := rfl; omega
      rw [hs, upV_n (by omega)]
      refine bh_cg hB (h4 (k + 1) (by omega)).m (fun j hj => ?_) (fun j => hbd _)
      simp only [rwN]; rw [eP, cp_o (by omega)]; simp only [shI]; rw [if_pos (by omega)]; congr 1; omega
  · have eP : rmP nw pa c = cpN nw 0 pa (76 * c) 76 := if_neg h8
    have eU : rmU c = c + 1 := if_neg h8
    have hbd : ∀ j, rmP nw pa c j < 100000000 := by rw [eP]; exact cp_bd hb h3
    refine ⟨by omega, by omega, hbd, fun k hk => ?_⟩
    rw [eU] at hk ⊢
    by_cases hkc : k = c
    · subst hkc
      rw [show (nxN 8 z + 8 - (k + 1) + k) % 8 = z by omega, upV_s]
      refine bh_cg hB hw.m (fun j hj => ?_) (fun j => hbd _)
      simp only [rwN]; rw [eP]; exact cp_i hj
    · rw [show (nxN 8 z + 8 - (c + 1) + k) % 8 = (z + 8 - c + k) % 8 by omega, upV_n (by omega)]
      refine bh_cg hB (h4 k (by omega)).m (fun j hj => ?_) (fun j => hbd _)
      simp only [rwN]; rw [eP]; exact cp_o (by omega)
theorem sh_k2 (hB : BxOk bx) (h : ShI n 2 bx z c pa bv) (hc : c ≠ 2) (hb : ∀ j, nw j < 100000000) (hw : BxHas n bx nw w) : ShI (n + 1) 2 bx (nxN 2 z) (c + 1) (cpN nw 0 pa (76 * c) 76) (upV bv z w) := by
  obtain ⟨h1, h2, h3, h4⟩ := h
  have hnx : nxN 2 z = (z + 1) % 2 := by simp only [nxN]; split <;> omega
  have hbd : ∀ j, cpN nw 0 pa (76 * c) 76 j < 100000000 := cp_bd hb h3
  refine ⟨by omega, by omega, hbd, fun k hk => ?_⟩
  by_cases hkc : k = c
  · subst hkc
    rw [show (nxN 2 z + 2 - (k + 1) + k) % 2 = z by omega, upV_s]
    exact bh_cg hB hw.m (fun j hj => cp_i hj) (fun j => hbd _)
  · rw [show (nxN 2 z + 2 - (c + 1) + k) % 2 = (z + 2 - c + k) % 2 by omega, upV_n (by omega)]
    exact bh_cg hB (h4 k (by omega)).m (fun j hj => cp_o (by omega)) (fun j => hbd _)
theorem sh_u8 (h : ShI n 8 bx z c pa bv) (hc : c ≠ 0) : BxHas (n + 1) bx (rwN pa (c - 1)) (bv (prN 8 z)) ∧ ShI (n + 1) 8 bx (prN 8 z) (c - 1) pa bv ∧ prN 8 z < 8 := by
  obtain ⟨h1, h2, h3, h4⟩ := h
  have hp : prN 8 z = (z + 7) % 8 := by simp only [prN]; split <;> omega
  refine ⟨?_, ⟨by omega, by omega, h3, fun k hk => ?_⟩, by omega⟩
  · have := h4 (c - 1) (by omega)
    rw [show (z + 8 - c + (c - 1)) % 8 = prN 8 z by omega] at this
    exact this.m
  · have := h4 k (by omega)
    rw [show (prN 8 z + 8 - (c - 1) + k) % 8 = (z + 8 - c + k) % 8 by omega]
    exact this.m
theorem sh_u2 (h : ShI n 2 bx z c pa bv) (hc : c ≠ 0) : BxHas (n + 1) bx (rwN pa (c - 1)) (bv (prN 2 z)) ∧ ShI (n + 1) 2 bx (prN 2 z) (c - 1) pa bv ∧ prN 2 z < 2 := by
  obtain ⟨h1, h2, h3, h4⟩ := h
  have hp : prN 2 z = (z + 1) % 2 := by simp only [prN]; split <;> omega
  refine ⟨?_, ⟨by omega, by omega, h3, fun k hk => ?_⟩, by omega⟩
  · have := h4 (c - 1) (by omega)
    rw [show (z + 2 - c + (c - 1)) % 2 = prN 2 z by omega] at this
    exact this.m
  · have := h4 k (by omega)
    rw [show (prN 2 z + 2 - (c - 1) + k) % 2 = (z + 2 - c + k) % 2 by omega]
    exact this.m
theorem ct_rm (h : c ≤ 8) : ctN 8 c = rmU c := by
  simp only [ctN, rmU]; split <;> split <;> omega
theorem pr_lt (h : z < N) : prN N z < N := by simp only [prN]; split <;> omega
end SHI
/-! a shelf's cells, one box taken out -/
theorem shW_cg {cI : ClassId} {ba : Nat → Nat} {bq : Nat → Nat → Nat} {bv bv2 : Nat → Nat → Nat → Nat} : ∀ n, (∀ j, j < n → bv j = bv2 j) → shW cI ba bq bv n = shW cI ba bq bv2 n
  | 0, _ => rfl
  | n + 1, h => by simp only [shW]; rw [shW_cg n (fun j hj => h j (by omega)), h n (by omega)]
theorem sh_get {cI : ClassId} {ba : Nat → Nat} {bq : Nat → Nat → Nat} {bv : Nat → Nat → Nat → Nat} : ∀ n z, z < n → ∃ Y, (shW cI ba bq bv n).Perm (bxW cI (ba z) (bq z) (bv z) ++ Y) ∧ ∀ w, (bxW cI (ba z) (bq z) w ++ Y).Perm (shW cI ba bq (upV bv z w) n)
  | 0, z, h => by omega
  | n + 1, z, h => by
    by_cases he : z = n
    · subst he
      refine ⟨shW cI ba bq bv z, List.Perm.refl _, fun w => ?_⟩
      simp only [shW]
      rw [upV_s, shW_cg z (fun j hj => (upV_n (by omega) : upV bv z w j = bv j))]
    · obtain ⟨Y, h1, h2⟩ := sh_get n z (by omega)
      refine ⟨bxW cI (ba n) (bq n) (bv n) ++ Y, ?_, fun w => ?_⟩
      · simp only [shW]
        exact (List.Perm.append_left _ h1).trans (by rw [← List.append_assoc, ← List.append_assoc]; exact List.Perm.append_right Y List.perm_append_comm)
      · simp only [shW]
        rw [upV_n (show n ≠ z by omega)]
        refine List.Perm.trans ?_ (List.Perm.append_left _ (h2 w))
        rw [← List.append_assoc, ← List.append_assoc]
        exact List.Perm.append_right Y List.perm_append_comm
/-! texts -/
def TxR (z : Nat) (tc tx : Nat → Nat) : Prop := z ≤ 200 ∧ (∀ j, tc j < 128) ∧ (∀ j, tx j < 128) ∧ ∀ j, j < z → tc j = tx j
section TXR
variable {z p n c : Nat} {tc tx rd : Nat → Nat} {x : Int32}
theorem tx_0 (h : TxR z tc tx) : TxR 0 tc tx := ⟨by omega, h.2.1, h.2.2.1, fun j hj => absurd hj (Nat.not_lt_zero j)⟩
theorem tx_w (h : TxR z tc tx) : TxR (wrZ x z) (wrT x tc z) (wrT x tx z) := by
  cases hb : wrOk x z with
  | false => rw [wrZ_0 hb, wrT_0 hb, wrT_0 hb]; exact h
  | true =>
    have hb2 := hb
    simp only [wrOk, Bool.and_eq_true, Bool.not_eq_true', decide_eq_false_iff_not] at hb2
    obtain ⟨j, h1, h2, rfl⟩ := inR_e (by omega) hb2.1
    have hij : ix (nI j) = j := ix_n (by omega)
    obtain ⟨g1, g2, g3, g4⟩ := h
    have e : ∀ f : Nat → Nat, wrT (nI j) f z = up1 f z j := fun f => by
      simp only [wrT]; rw [if_pos hb, hij]
    rw [wrZ_1 hb, e, e]
    refine ⟨by omega, ?_, ?_, ?_⟩
    · intro k
      by_cases hk : k = z
      · subst hk; rw [up1_s]; omega
      · rw [up1_n hk]; exact g2 k
    · intro k
      by_cases hk : k = z
      · subst hk; rw [up1_s]; omega
      · rw [up1_n hk]; exact g3 k
    · intro k hk
      by_cases hk2 : k = z
      · subst hk2; rw [up1_s, up1_s]
      · rw [up1_n hk2, up1_n hk2]; exact g4 k (by omega)
theorem dg_cg (h : ∀ j, j < z → tc j = tx j) (p : Nat) : dgB tc z p = dgB tx z p := by
  simp only [dgB]
  by_cases hp : p < z
  · rw [h p hp]
  · exact decide_eq_decide.mpr ⟨fun q => absurd q.1 hp, fun q => absurd q.1 hp⟩
theorem ctb_cg (h : ∀ j, j < z → tc j = tx j) (p c : Nat) : ctB tc z p c = ctB tx z p c := by
  simp only [ctB]
  by_cases hp : p < z
  · rw [h p hp]
  · exact decide_eq_decide.mpr ⟨fun q => absurd q.1 hp, fun q => absurd q.1 hp⟩
theorem rnw_cg (h : ∀ j, j < z → tc j = tx j) (p : Nat) : rnW tc z p = rnW tx z p := by
  simp only [rnW]; rw [dg_cg h]
theorem rnb_cg (h : ∀ j, j < z → tc j = tx j) (p c : Nat) : rnB tc z p c = rnB tx z p c := by
  simp only [rnB]; rw [dg_cg h, rnw_cg h, ctb_cg h]
theorem npn_cg (h : ∀ j, j < z → tc j = tx j) (p : Nat) : ∀ k, npN tc z p k = npN tx z p k
  | 0 => rfl
  | k + 1 => by simp only [npN]; rw [npn_cg h p k, rnw_cg h]
theorem nbb_cg (h : ∀ j, j < z → tc j = tx j) (p n : Nat) : ∀ k, nbB tc z p n k = nbB tx z p n k
  | 0 => rfl
  | k + 1 => by simp only [nbB]; rw [nbb_cg h p n k, npn_cg h, rnb_cg h]
theorem rnv_cg (h : ∀ j, j < z → tc j = tx j) (hp : p < z) : rnV tc z p = rnV tx z p := by
  simp only [rnV]; rw [dg_cg h, h p hp]
  split
  · rename_i hd
    simp only [dgB, decide_eq_true_eq] at hd
    rw [h (p + 1) hd.1]
  · rfl
theorem nbv_cg (h : ∀ j, j < z → tc j = tx j) (hb : nbB tx z p n n = true) : ∀ j, j < n → rnV tc z (npN tc z p j) = rnV tx z (npN tx z p j) := by
  intro j hj
  have h1 := nb_t hb j hj
  simp only [rnB, Bool.and_eq_true, dgB, decide_eq_true_eq] at h1
  rw [npn_cg h, rnv_cg h h1.1.1]
theorem itb_cg (h : ∀ j, j < z → tc j = tx j) (hp : p < z) : itB tc z p rd = itB tx z p rd ∧ (itB tx z p rd = true → itR tc z p rd = itR tx z p rd) ∧ itP tc z p = itP tx z p := by
  have e1 := h p hp
  refine ⟨?_, ?_, ?_⟩
  · simp only [itB]
    rw [e1, nbb_cg h]
    cases hb : nbB tx z (p + 1) (nmO (tx p)) (nmO (tx p)) with
    | false => rfl
    | true => rw [tkB_c (nbv_cg h hb)]
  · intro hi
    have hi2 := hi
    simp only [itB, Bool.and_eq_true] at hi2
    simp only [itR]
    rw [e1]
    exact (tkR_c hi2.2 (fun j hj => (nbv_cg h hi2.1 j hj).symm)).symm
  · simp only [itP]; rw [e1, npn_cg h]
theorem fx_cg (h : ∀ j, j < z → tc j = tx j) : ∀ n p rd, fxN tc z n p rd = fxN tx z n p rd
  | 0, _, _ => rfl
  | n + 1, p, rd => by
    simp only [fxN]
    by_cases hp : p < z
    · rw [if_pos hp, if_pos hp]
      obtain ⟨h1, h2, h3⟩ := itb_cg (rd := rd) h hp
      rw [h1, h3]
      by_cases hi : itB tx z p rd = true
      · rw [if_pos hi, if_pos hi, h2 hi]; exact fx_cg h n _ _
      · rw [if_neg hi, if_neg hi]
    · rw [if_neg hp, if_neg hp]
end TXR
/-! sightings -/
def SgA (bx sh gw gn gt : Nat → Nat) (z : Nat) : Prop := SgR bx sh gw gn gt z ∧ ∀ j, sh j < 100
section SGA
variable {bx sh gw gn gt : Nat → Nat} {z : Nat} {x v y : Int32}
theorem sg_0 {bx2 : Nat → Nat} (h : SgA bx sh gw gn gt z) : SgA bx2 sh gw gn gt 0 := ⟨⟨Nat.zero_le _, fun k hk => absurd hk (Nat.not_lt_zero k)⟩, h.2⟩
theorem sg_s (hB : BxOk bx) (h : SgA bx sh gw gn gt z) (ho : shOk bx z x v y = true) : SgA bx (up1 (up1 (up1 sh (3 * z) (ix x)) (3 * z + 1) (ix v)) (3 * z + 2) (ix y)) (up1 gw z (ix x)) (up1 gn z (ix v)) (up1 gt z (ix y)) (z + 1) := by
  have hw := hB.w
  simp only [shOk, Bool.and_eq_true, Bool.not_eq_true', decide_eq_false_iff_not] at ho
  obtain ⟨⟨⟨h1, h2⟩, h3⟩, h4⟩ := ho
  obtain ⟨j, hj, rfl⟩ := inN_e (by omega) h1
  have hc : (nI j).toNatClampNeg = j := nI_clamp (by omega)
  rw [hc] at h2
  have ht := hB.t j hj
  obtain ⟨k, hk, rfl⟩ := inN_e (by omega) h2
  obtain ⟨m, _, hm, rfl⟩ := inR_e (by omega) h3
  have e1 : ix (nI j) = j := ix_n (by omega)
  have e2 : ix (nI k) = k := ix_n (by omega)
  have e3 : ix (nI m) = m := ix_n (by omega)
  rw [e1, e2, e3]
  obtain ⟨⟨g1, g2⟩, g3⟩ := h
  refine ⟨⟨by omega, fun i hi => ?_⟩, fun i => ?_⟩
  · by_cases hz : i = z
    · subst hz
      rw [up1_s, up1_s, up1_s, up1_s, up1_n (show 3 * i + 1 ≠ 3 * i + 2 by omega), up1_s, up1_n (show 3 * i ≠ 3 * i + 2 by omega), up1_n (show 3 * i ≠ 3 * i + 1 by omega), up1_s]
      omega
    · rw [up1_n hz, up1_n hz, up1_n hz]
      have := g2 i (by omega)
      rw [up1_n (by omega), up1_n (by omega), up1_n (by omega), up1_n (by omega), up1_n (by omega), up1_n (by omega), up1_n (by omega), up1_n (by omega), up1_n (by omega)]
      exact this
  · have := g3 i
    by_cases a1 : i = 3 * z + 2
    · subst a1; rw [up1_s]; omega
    · rw [up1_n a1]
      by_cases a2 : i = 3 * z + 1
      · subst a2; rw [up1_s]; omega
      · rw [up1_n a2]
        by_cases a3 : i = 3 * z
        · subst a3; rw [up1_s]; omega
        · rw [up1_n a3]; exact this
end SGA

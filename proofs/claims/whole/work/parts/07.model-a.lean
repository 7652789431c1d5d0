abbrev mO (a : Nat) (q : Nat → Nat) (s0 s1 s2 s3 s4 s5 : Nat) : Nat × va_E := (a, .inr (7, [.ref (q 0), .ref (q 1), .ref (q 2), .ref (q 3), .int (nI s0), .ref (q 4), .int (nI s1), .ref (q 5), .int (nI s2), .ref (q 6), .int (nI s3), .int (nI s4), .ref (q 7), .ref (q 8), .ref (q 9), .ref (q 10), .ref (q 11), .int (nI s5), .ref (q 12)]))
abbrev bO (a : Nat) (q : Nat → Nat) (s0 s1 s2 s3 : Nat) : Nat × va_E := (a, .inr (0, [.ref (q 0), .ref (q 1), .ref (q 2), .ref (q 3), .ref (q 4), .ref (q 5), .ref (q 6), .int (nI s0), .int (nI s1), .int (nI s2), .int (nI s3)]))
abbrev eO (a : Nat) (q : Nat → Nat) (s0 : Nat) : Nat × va_E := (a, .inr (1, [.ref (q 0), .ref (q 1), .ref (q 2), .int (nI s0)]))
abbrev pO (a : Nat) (q : Nat → Nat) (s0 s1 s2 s3 s4 s5 : Nat) : Nat × va_E := (a, .inr (2, [.ref (q 0), .ref (q 1), .ref (q 2), .ref (q 3), .ref (q 4), .ref (q 5), .int (nI s0), .int (nI s1), .int (nI s2), .int (nI s3), .int (nI s4), .int (nI s5)]))
abbrev sO (a : Nat) (q : Nat → Nat) (s0 s1 : Nat) : Nat × va_E := (a, .inr (3, [.ref (q 0), .int (nI s0), .int (nI s1)]))
abbrev gO (a : Nat) (q : Nat → Nat) (s0 : Nat) : Nat × va_E := (a, .inr (4, [.ref (q 0), .ref (q 1), .ref (q 2), .int (nI s0)]))
abbrev tO (a : Nat) (q : Nat → Nat) (s0 s1 : Nat) : Nat × va_E := (a, .inr (5, [.ref (q 0), .ref (q 1), .int (nI s0), .int (nI s1)]))
/-! what the box, as told, is: wheels, persons, pairs, wears, worth, teeth, gears, firsts, talks, pairs' teeth; how it stands: day, turns, heard, seen, gears, up, filed, heard ones -/
def szN (bx : Nat → Nat) : Nat → Nat
  | 0 => 1
  | i + 1 => szN bx i * bx (5 + i)
def tooN (bx : Nat → Nat) (x i : Nat) : Nat := x / szN bx i % bx (5 + i)
def exN (bx : Nat → Nat) (f : Nat → Nat) : Nat → Nat
  | 0 => 0
  | i + 1 => exN bx f i + szN bx i * f i
/-- a box is told rightly -/
def BxOk (bx : Nat → Nat) : Prop := (1 ≤ bx 0 ∧ bx 0 ≤ 4) ∧ (bx 1 ≤ 5 ∧ bx 2 ≤ 8 ∧ bx 3 ≤ 9 ∧ bx 4 ≤ 99) ∧ (∀ i, i < bx 0 → 2 ≤ bx (5 + i) ∧ bx (5 + i) ≤ 6 ∧ bx (9 + i) < bx (5 + i) ∧ bx (13 + i) < bx (5 + i)) ∧ (∀ p, p < bx 1 → bx (17 + p) < 32) ∧
  (∀ k, k < bx 2 → bx (22 + k) < bx 0 ∧ bx (30 + k) < bx (5 + bx (22 + k)) ∧ bx (38 + k) < bx 0 ∧ bx (46 + k) < bx (5 + bx (38 + k)) ∧ bx (22 + k) ≠ bx (38 + k)) ∧ ∀ j, bx j < 1000
theorem BxOk.w {bx : Nat → Nat} (h : BxOk bx) : 1 ≤ bx 0 ∧ bx 0 ≤ 4 := h.1
theorem BxOk.t {bx : Nat → Nat} (h : BxOk bx) (i : Nat) (hi : i < bx 0) : 2 ≤ bx (5 + i) ∧ bx (5 + i) ≤ 6 ∧ bx (9 + i) < bx (5 + i) ∧ bx (13 + i) < bx (5 + i) := h.2.2.1 i hi
theorem BxOk.bd {bx : Nat → Nat} (h : BxOk bx) (j : Nat) : bx j < 1000 := h.2.2.2.2.2 j
theorem exN_st (bx f : Nat → Nat) (x j : Nat) : (x * bx (5 + j) + f j) * szN bx j + exN bx f j = x * szN bx (j + 1) + exN bx f (j + 1) := by
  simp only [szN, exN]
  rw [Nat.add_mul, Nat.mul_assoc, Nat.mul_comm (bx (5 + j)) (szN bx j), Nat.mul_comm (f j)]
  omega
theorem n_decI (j : Nat) : nI j + Int32.ofInt (-1) = nI j - 1 := by rw [Int32.sub_eq_add_neg]; rfl
theorem nk_0 {k : Nat} (hk : k < 2147483648) (h : nI k - 1 < 0) : k = 0 := by
  cases k with
  | zero => rfl
  | succ j => rw [nI_pred] at h; exact absurd h (nI_pos (by omega))
theorem nk_s {k : Nat} (hk : k < 2147483648) (h : ¬ nI k - 1 < 0) : ∃ j, k = j + 1 := by
  cases k with
  | zero => exact absurd (by decide) h
  | succ j => exact ⟨j, rfl⟩
theorem has_1 {a i : Nat} (h : a / 2 ^ i &&& 1 = 1) : 1 = b2n (Nat.testBit a i) := by
  rw [Nat.and_one_is_mod] at h
  simp [b2n, Nat.testBit, Nat.shiftRight_eq_div_pow, Nat.one_and_eq_mod_two, h]
theorem has_0 {a i : Nat} (h : a / 2 ^ i &&& 1 ≠ 1) : 0 = b2n (Nat.testBit a i) := by
  rw [Nat.and_one_is_mod] at h
  simp [b2n, Nat.testBit, Nat.shiftRight_eq_div_pow, Nat.one_and_eq_mod_two]
  omega

set_option maxHeartbeats 4000000 in
set_option maxRecDepth 100000 in
theorem k_X7_has {l : Launch} {D : va_G} {cI cC cB : ClassId} {a i : Nat} (ha : a < 2147483648) (hi : i < 32) : MI l yX7_has cX7_has 2 (some .boolean) 0 D (Ty3 cI cC cB) [.int (nI (a)), .int (nI (i))] [] (fun r u => (r = nI (b2n (Nat.testBit a i)) ∧ u = [])) := by
  intro sz
  refine MI.walk (by decide +kernel) (by decide) ?_
  intro p e s m below meth c A F hK hP hD hS hA ls hl
  obtain ⟨hx, hb, hr, hml, hts, hown, hlocks⟩ := F
  have hown : s.vm.findClass RX7 = some m.cls := hown
  have hl : lv_has ls 2 [(0, .int (nI (a))), (1, .int (nI (i)))] := hl
  have hP : va_P D vwCl [] s.heap := hP
  have hD : va_D A [] := hD
  refine lv_iload_n hx hb dX7_has_0 rfl (lv_at hl 0 rfl) ?_
  refine lv_iload_n hx hb dX7_has_1 rfl (lv_at hl 1 rfl) ?_
  refine n_ishr hx hb dX7_has_2 (by omega) (by omega) ?_
  refine lv_iconst (v := nI 1) hx hb dX7_has_3 (by decide) ?_
  refine n_iand hx hb dX7_has_4  ?_
  refine lv_iconst (v := nI 1) hx hb dX7_has_5 (by decide) ?_
  refine n_icmp_ne (tgt := 13) hx hb dX7_has_6 (by decide) (by omega) (by decide) (fun c_1 => ?_) (fun c_1 => ?_)
  · -- 6 to 13
    refine lv_iconst (v := nI 0) hx hb dX7_has_13 (by decide) ?_
    refine ret_z hx hb hr hlocks (by decide) hK hP hD hS dX7_has_14 rfl ?_
    exact ⟨congrArg nI (by first | exact has_1 (by assumption) | exact has_0 (by assumption)), rfl⟩
  · -- 6 to 9
    refine lv_iconst (v := nI 1) hx hb dX7_has_9 (by decide) ?_
    refine lv_goto (tgt := 14) hx hb dX7_has_10 (by decide) ?_
    refine ret_z hx hb hr hlocks (by decide) hK hP hD hS dX7_has_14 rfl ?_
    exact ⟨congrArg nI (by first | exact has_1 (by assumption) | exact has_0 (by assumption)), rfl⟩
set_option maxHeartbeats 4000000 in
set_option maxRecDepth 100000 in
theorem k_X7_excuses {l : Launch} {D : va_G} {cI cC cB : ClassId} {h : Nat} {q : Nat → Nat} {mu mk mz ms ma mc : Nat} {bx : Nat → Nat} (hB : BxOk bx) : MI l yX7_excuses cX7_excuses 3 (some .int) 0 D (Ty3 cI cC cB) [.ref h] [mO h q mu mk mz ms ma mc, (q 0, .inl (cI, 54, .inl (fun j => nI (bx j))))] (fun r u => (r = nI (szN bx (bx 0)) ∧ u = [mO h q mu mk mz ms ma mc, (q 0, .inl (cI, 54, .inl (fun j => nI (bx j))))])) := by
  intro sz
  refine MI.walk (by decide +kernel) (by decide) ?_
  intro p e s m below meth c A F hK hP hD hS hA ls hl
  obtain ⟨hx, hb, hr, hml, hts, hown, hlocks⟩ := F
  have hown : s.vm.findClass RX7 = some m.cls := hown
  have hl : lv_has ls 3 [(0, .ref h)] := hl
  have hP : va_P D vwCl [mO h q mu mk mz ms ma mc, (q 0, .inl (cI, 54, .inl (fun j => nI (bx j))))] s.heap := hP
  have hD : va_D A [mO h q mu mk mz ms ma mc, (q 0, .inl (cI, 54, .inl (fun j => nI (bx j))))] := hD
  refine lv_iconst (v := nI 1) hx hb dX7_excuses_0 (by decide) ?_
  refine lv_istore_n (lv' := [(1, .int (nI (1))), (0, .ref h)]) hx hb dX7_excuses_1 rfl hl (by decide) rfl (fun ls hl => ?_)
  refine lv_iconst (v := nI 0) hx hb dX7_excuses_2 (by decide) ?_
  refine lv_istore_n (lv' := [(2, .int (nI (0))), (1, .int (nI (1))), (0, .ref h)]) hx hb dX7_excuses_3 rfl hl (by decide) rfl (fun ls hl => ?_)
  have loop_4 : ∀ (N : Nat) (n : Nat) (i : Nat), (i ≤ bx 0) → (n = szN bx i) → (bx 0 - i) < N → ∀ (H : Heap) (locs : List Loc), va_P D vwCl [mO h q mu mk mz ms ma mc, (q 0, .inl (cI, 54, .inl (fun j => nI (bx j))))] H → va_D A [mO h q mu mk mz ms ma mc, (q 0, .inl (cI, 54, .inl (fun j => nI (bx j))))] → va_S A s.heap H locs → ∀ ls : Array Slot, lv_has ls 3 [(2, .int (nI (i))), (1, .int (nI (n))), (0, .ref h)] → W p l e (rmL 0) s m _ below meth c H locs 0 0 (MQ below _ _ s 0 0 A) (F0 m 4 ls []) := by
    intro N; induction N with
    | zero => intro n i _ _ hm; omega
    | succ N ih_4 =>
      intro n i hi hn hm H locs hP hD hS ls hl
      have hw := hB.w
      refine lv_iload_n hx hb dX7_excuses_4 rfl (lv_at hl 0 rfl) ?_
      refine lv_aload_n hx hb dX7_excuses_5 rfl (lv_at hl 2 rfl) ?_
      refine gf_7_7 hx hb hts hown hK hP 0 rfl rfl dX7_excuses_6 ?_
      refine lv_iconst (v := nI 0) hx hb dX7_excuses_9 (by decide) ?_
      refine n_iald hx hb hK hP 1 0 rfl rfl dX7_excuses_10 (by decide) (by omega) ?_
      have hb_1 := hB.bd 0
      refine n_icmp_ge (tgt := 31) hx hb dX7_excuses_11 (by decide) (by omega) (by omega) (fun c_2 => ?_) (fun c_2 => ?_)
      · -- 11 to 31
        refine lv_iload_n hx hb dX7_excuses_31 rfl (lv_at hl 1 rfl) ?_
        refine ret_i hx hb hr hlocks hK hP hD hS dX7_excuses_32 rfl ?_
        exact ⟨by rw [hn, show i = bx 0 by omega], rfl⟩
      · -- 11 to 14
        refine lv_iload_n hx hb dX7_excuses_14 rfl (lv_at hl 1 rfl) ?_
        refine lv_aload_n hx hb dX7_excuses_15 rfl (lv_at hl 2 rfl) ?_
        refine gf_7_7 hx hb hts hown hK hP 0 rfl rfl dX7_excuses_16 ?_
        refine lv_iconst (v := nI 5) hx hb dX7_excuses_19 (by decide) ?_
        refine lv_iload_n hx hb dX7_excuses_20 rfl (lv_at hl 0 rfl) ?_
        refine n_iadd hx hb dX7_excuses_21  ?_
        refine n_iald hx hb hK hP 1 0 rfl rfl dX7_excuses_22 (by decide) (by omega) ?_
        have hb_3 := hB.bd (5 + i)
        refine n_imul hx hb dX7_excuses_23  ?_
        refine lv_istore_n (lv' := [(1, .int (nI (n * (bx (5 + i))))), (2, .int (nI (i))), (0, .ref h)]) hx hb dX7_excuses_24 rfl hl (by decide) rfl (fun ls hl => ?_)
        refine lv_iinc (v := nI (i + 1)) (lv' := [(2, .int (nI (i + 1))), (1, .int (nI (n * (bx (5 + i))))), (0, .ref h)]) hx hb dX7_excuses_25 hl (k := 1) rfl (n_inc _ 1) (by decide) rfl (fun ls hl => ?_)
        refine lv_goto (tgt := 4) hx hb dX7_excuses_28 (by decide) ?_
        exact ih_4 (n * (bx (5 + i))) (i + 1) (by omega) (by rw [hn]; rfl) (by omega) _ _ hP hD hS _ (lv_sub hl [0, 1, 2] rfl)
  exact loop_4 _ 1 0 (Nat.zero_le _) rfl (Nat.lt_succ_self _) _ _ hP hD hS _ (lv_sub hl [0, 1, 2] rfl)
set_option maxHeartbeats 4000000 in
set_option maxRecDepth 100000 in
theorem k_X7_toothOf {l : Launch} {D : va_G} {cI cC cB : ClassId} {h : Nat} {q : Nat → Nat} {mu mk mz ms ma mc : Nat} {bx : Nat → Nat} {x i : Nat} (hB : BxOk bx) (hi : i < bx 0) (he : x < 2147483648) : MI l yX7_toothOf cX7_toothOf 5 (some .int) 0 D (Ty3 cI cC cB) [.ref h, .int (nI (x)), .int (nI (i))] [mO h q mu mk mz ms ma mc, (q 0, .inl (cI, 54, .inl (fun j => nI (bx j))))] (fun r u => (r = nI (tooN bx x i) ∧ u = [mO h q mu mk mz ms ma mc, (q 0, .inl (cI, 54, .inl (fun j => nI (bx j))))])) := by
  intro sz
  refine MI.walk (by decide +kernel) (by decide) ?_
  intro p e s m below meth c A F hK hP hD hS hA ls hl
  obtain ⟨hx, hb, hr, hml, hts, hown, hlocks⟩ := F
  have hown : s.vm.findClass RX7 = some m.cls := hown
  have hl : lv_has ls 5 [(0, .ref h), (1, .int (nI (x))), (2, .int (nI (i)))] := hl
  have hP : va_P D vwCl [mO h q mu mk mz ms ma mc, (q 0, .inl (cI, 54, .inl (fun j => nI (bx j))))] s.heap := hP
  have hD : va_D A [mO h q mu mk mz ms ma mc, (q 0, .inl (cI, 54, .inl (fun j => nI (bx j))))] := hD
  refine lv_iload_n hx hb dX7_toothOf_0 rfl (lv_at hl 1 rfl) ?_
  refine lv_istore_n (lv' := [(3, .int (nI (x))), (0, .ref h), (1, .int (nI (x))), (2, .int (nI (i)))]) hx hb dX7_toothOf_1 rfl hl (by decide) rfl (fun ls hl => ?_)
  refine lv_iconst (v := nI 0) hx hb dX7_toothOf_2 (by decide) ?_
  refine lv_istore (lv' := [(4, .int (nI (0))), (3, .int (nI (x))), (0, .ref h), (1, .int (nI (x))), (2, .int (nI (i)))]) hx hb dX7_toothOf_3 hl (by decide) rfl (fun ls hl => ?_)
  have loop_5 : ∀ (N : Nat) (v : Nat) (k : Nat), (k ≤ i) → (v = x / szN bx k) → (i - k) < N → ∀ (H : Heap) (locs : List Loc), va_P D vwCl [mO h q mu mk mz ms ma mc, (q 0, .inl (cI, 54, .inl (fun j => nI (bx j))))] H → va_D A [mO h q mu mk mz ms ma mc, (q 0, .inl (cI, 54, .inl (fun j => nI (bx j))))] → va_S A s.heap H locs → ∀ ls : Array Slot, lv_has ls 5 [(4, .int (nI (k))), (3, .int (nI (v))), (0, .ref h), (1, .int (nI (x))), (2, .int (nI (i)))] → W p l e (rmL 0) s m _ below meth c H locs 0 0 (MQ below _ _ s 0 0 A) (F0 m 5 ls []) := by
    intro N; induction N with
    | zero => intro v k _ _ hm; omega
    | succ N ih_5 =>
      intro v k hk hv hm H locs hP hD hS ls hl
      have hw := hB.w
      have hvx : v ≤ x := by rw [hv]; exact Nat.div_le_self _ _
      refine lv_iload hx hb dX7_toothOf_5 (lv_at hl 0 rfl) ?_
      refine lv_iload_n hx hb dX7_toothOf_7 rfl (lv_at hl 4 rfl) ?_
      refine n_icmp_ge (tgt := 29) hx hb dX7_toothOf_8 (by decide) (by omega) (by omega) (fun c_1 => ?_) (fun c_1 => ?_)
      · -- 8 to 29
        refine lv_iload_n hx hb dX7_toothOf_29 rfl (lv_at hl 1 rfl) ?_
        refine lv_aload_n hx hb dX7_toothOf_30 rfl (lv_at hl 2 rfl) ?_
        refine gf_7_7 hx hb hts hown hK hP 0 rfl rfl dX7_toothOf_31 ?_
        refine lv_iconst (v := nI 5) hx hb dX7_toothOf_34 (by decide) ?_
        refine lv_iload_n hx hb dX7_toothOf_35 rfl (lv_at hl 4 rfl) ?_
        refine n_iadd hx hb dX7_toothOf_36  ?_
        refine n_iald hx hb hK hP 1 0 rfl rfl dX7_toothOf_37 (by decide) (by omega) ?_
        have hb_2 := hB.bd (5 + i)
        have ht := hB.t i (by omega)
        refine n_irem hx hb dX7_toothOf_38 (by omega) (by omega) (by omega) ?_
        refine ret_i hx hb hr hlocks hK hP hD hS dX7_toothOf_39 rfl ?_
        exact ⟨by rw [hv, show k = i by omega]; rfl, rfl⟩
      · -- 8 to 11
        refine lv_iload_n hx hb dX7_toothOf_11 rfl (lv_at hl 1 rfl) ?_
        refine lv_aload_n hx hb dX7_toothOf_12 rfl (lv_at hl 2 rfl) ?_
        refine gf_7_7 hx hb hts hown hK hP 0 rfl rfl dX7_toothOf_13 ?_
        refine lv_iconst (v := nI 5) hx hb dX7_toothOf_16 (by decide) ?_
        refine lv_iload hx hb dX7_toothOf_17 (lv_at hl 0 rfl) ?_
        refine n_iadd hx hb dX7_toothOf_19  ?_
        refine n_iald hx hb hK hP 1 0 rfl rfl dX7_toothOf_20 (by decide) (by omega) ?_
        have hb_3 := hB.bd (5 + k)
        have ht := hB.t k (by omega)
        refine n_idiv hx hb dX7_toothOf_21 (by omega) (by omega) (by omega) ?_
        refine lv_istore_n (lv' := [(3, .int (nI (v / (bx (5 + k))))), (4, .int (nI (k))), (0, .ref h), (1, .int (nI (x))), (2, .int (nI (i)))]) hx hb dX7_toothOf_22 rfl hl (by decide) rfl (fun ls hl => ?_)
        refine lv_iinc (v := nI (k + 1)) (lv' := [(4, .int (nI (k + 1))), (3, .int (nI (v / (bx (5 + k))))), (0, .ref h), (1, .int (nI (x))), (2, .int (nI (i)))]) hx hb dX7_toothOf_23 hl (k := 1) rfl (n_inc _ 1) (by decide) rfl (fun ls hl => ?_)
        refine lv_goto (tgt := 5) hx hb dX7_toothOf_26 (by decide) ?_
        exact ih_5 (v / (bx (5 + k))) (k + 1) (by omega) (by rw [hv, Nat.div_div_eq_div_mul]; rfl) (by omega) _ _ hP hD hS _ (lv_sub hl [0, 1, 2, 3, 4] rfl)
  exact loop_5 _ x 0 (Nat.zero_le _) (by simp [szN]) (Nat.lt_succ_self _) _ _ hP hD hS _ (lv_sub hl [0, 1, 2, 3, 4] rfl)
set_option maxHeartbeats 4000000 in
set_option maxRecDepth 100000 in
theorem k_X7_upOn {l : Launch} {D : va_G} {cI cC cB : ClassId} {h : Nat} {q : Nat → Nat} {mu mk mz ms ma mc : Nat} {bx nw : Nat → Nat} {t : Nat} (hB : BxOk bx) : MI l yX7_upOn cX7_upOn 4 (some .int) 0 D (Ty3 cI cC cB) [.ref h, .ref t] [mO h q mu mk mz ms ma mc, (q 0, .inl (cI, 54, .inl (fun j => nI (bx j)))), (t, .inl (cI, 76, .inl (fun j => nI (nw j))))] (fun r u => (r = nI (exN bx (fun i => nw (8 + i)) (bx 0)) ∧ u = [mO h q mu mk mz ms ma mc, (q 0, .inl (cI, 54, .inl (fun j => nI (bx j)))), (t, .inl (cI, 76, .inl (fun j => nI (nw j))))])) := by
  intro sz
  refine MI.walk (by decide +kernel) (by decide) ?_
  intro p e s m below meth c A F hK hP hD hS hA ls hl
  obtain ⟨hx, hb, hr, hml, hts, hown, hlocks⟩ := F
  have hown : s.vm.findClass RX7 = some m.cls := hown
  have hl : lv_has ls 4 [(0, .ref h), (1, .ref t)] := hl
  have hP : va_P D vwCl [mO h q mu mk mz ms ma mc, (q 0, .inl (cI, 54, .inl (fun j => nI (bx j)))), (t, .inl (cI, 76, .inl (fun j => nI (nw j))))] s.heap := hP
  have hD : va_D A [mO h q mu mk mz ms ma mc, (q 0, .inl (cI, 54, .inl (fun j => nI (bx j)))), (t, .inl (cI, 76, .inl (fun j => nI (nw j))))] := hD
  refine lv_iconst (v := nI 0) hx hb dX7_upOn_0 (by decide) ?_
  refine lv_istore_n (lv' := [(2, .int (nI (0))), (0, .ref h), (1, .ref t)]) hx hb dX7_upOn_1 rfl hl (by decide) rfl (fun ls hl => ?_)
  refine lv_aload_n hx hb dX7_upOn_2 rfl (lv_at hl 1 rfl) ?_
  refine gf_7_7 hx hb hts hown hK hP 0 rfl rfl dX7_upOn_3 ?_
  refine lv_iconst (v := nI 0) hx hb dX7_upOn_6 (by decide) ?_
  refine n_iald hx hb hK hP 1 0 rfl rfl dX7_upOn_7 (by decide) (by omega) ?_
  have hb_1 := hB.bd 0
  have hw := hB.w
  refine lv_iconst (v := nI 1) hx hb dX7_upOn_8 (by decide) ?_
  refine n_isub hx hb dX7_upOn_9 (by omega) ?_
  refine lv_istore_n (lv' := [(3, .int (nI ((bx 0) - 1))), (2, .int (nI (0))), (0, .ref h), (1, .ref t)]) hx hb dX7_upOn_10 rfl hl (by decide) rfl (fun ls hl => ?_)
  have loop_11 : ∀ (N : Nat) (x : Nat) (k : Nat), (k ≤ bx 0) → (x * szN bx k + exN bx (fun i => nw (8 + i)) k = exN bx (fun i => nw (8 + i)) (bx 0)) → k < N → ∀ (H : Heap) (locs : List Loc), va_P D vwCl [mO h q mu mk mz ms ma mc, (q 0, .inl (cI, 54, .inl (fun j => nI (bx j)))), (t, .inl (cI, 76, .inl (fun j => nI (nw j))))] H → va_D A [mO h q mu mk mz ms ma mc, (q 0, .inl (cI, 54, .inl (fun j => nI (bx j)))), (t, .inl (cI, 76, .inl (fun j => nI (nw j))))] → va_S A s.heap H locs → ∀ ls : Array Slot, lv_has ls 4 [(3, .int (nI k - 1)), (2, .int (nI (x))), (0, .ref h), (1, .ref t)] → W p l e (rmL 0) s m _ below meth c H locs 0 0 (MQ below _ _ s 0 0 A) (F0 m 11 ls []) := by
    intro N; induction N with
    | zero => intro x k _ _ hm; omega
    | succ N ih_11 =>
      intro x k hk hx hm H locs hP hD hS ls hl
      refine lv_iload_n hx hb dX7_upOn_11 rfl (lv_at hl 0 rfl) ?_
      refine lv_if_lt (tgt := 39) hx hb dX7_upOn_12 (by decide) (fun c_2 => ?_) (fun c_2 => ?_)
      · -- 12 to 39
        have hk0 := nk_0 (by omega) c_2
        subst hk0
        refine lv_iload_n hx hb dX7_upOn_39 rfl (lv_at hl 1 rfl) ?_
        refine ret_i hx hb hr hlocks hK hP hD hS dX7_upOn_40 rfl ?_
        exact ⟨by rw [← hx]; simp [szN, exN], rfl⟩
      · -- 12 to 15
        obtain ⟨j, rfl⟩ := nk_s (by omega) c_2
        rw [nI_pred] at hl
        refine lv_iload_n hx hb dX7_upOn_15 rfl (lv_at hl 1 rfl) ?_
        refine lv_aload_n hx hb dX7_upOn_16 rfl (lv_at hl 2 rfl) ?_
        refine gf_7_7 hx hb hts hown hK hP 0 rfl rfl dX7_upOn_17 ?_
        refine lv_iconst (v := nI 5) hx hb dX7_upOn_20 (by decide) ?_
        refine lv_iload_n hx hb dX7_upOn_21 rfl (lv_at hl 0 rfl) ?_
        refine n_iadd hx hb dX7_upOn_22  ?_
        refine n_iald hx hb hK hP 1 0 rfl rfl dX7_upOn_23 (by decide) (by omega) ?_
        have hb_3 := hB.bd (5 + j)
        refine n_imul hx hb dX7_upOn_24  ?_
        refine lv_aload_n hx hb dX7_upOn_25 rfl (lv_at hl 3 rfl) ?_
        refine lv_bipush (v := nI 8) hx hb dX7_upOn_26 (by decide) ?_
        refine lv_iload_n hx hb dX7_upOn_28 rfl (lv_at hl 0 rfl) ?_
        refine n_iadd hx hb dX7_upOn_29  ?_
        refine n_iald hx hb hK hP 2 0 rfl rfl dX7_upOn_30 (by decide) (by omega) ?_
        refine n_iadd hx hb dX7_upOn_31  ?_
        refine lv_istore_n (lv' := [(2, .int (nI ((x * (bx (5 + j))) + (nw (8 + j))))), (3, .int (nI (j))), (0, .ref h), (1, .ref t)]) hx hb dX7_upOn_32 rfl hl (by decide) rfl (fun ls hl => ?_)
        refine lv_iinc (v := nI j - 1) (lv' := [(3, .int (nI j - 1)), (2, .int (nI ((x * (bx (5 + j))) + (nw (8 + j))))), (0, .ref h), (1, .ref t)]) hx hb dX7_upOn_33 hl (k := 1) rfl (n_decI _) (by decide) rfl (fun ls hl => ?_)
        refine lv_goto (tgt := 11) hx hb dX7_upOn_36 (by decide) ?_
        exact ih_11 ((x * (bx (5 + j))) + (nw (8 + j))) j (by omega) (by rw [← hx]; exact exN_st _ _ _ _) (by omega) _ _ hP hD hS _ (lv_sub hl [0, 1, 2, 3] rfl)
  rw [show nI (bx 0 - 1) = nI (bx 0) - 1 from (pk_sub hw.1).symm] at hl
  exact loop_11 _ 0 (bx 0) (Nat.le_refl _) (by simp) (Nat.lt_succ_self _) _ _ hP hD hS _ (lv_sub hl [0, 1, 2, 3] rfl)

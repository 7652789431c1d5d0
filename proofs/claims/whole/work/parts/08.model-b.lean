theorem fa_lt (a b : Int32) : a < b ↔ a.toInt < b.toInt := Int32.lt_iff_toInt_lt
theorem fa_le (a b : Int32) : a ≤ b ↔ a.toInt ≤ b.toInt := Int32.le_iff_toInt_le
theorem fa_lt64 (a b : Int64) : a < b ↔ a.toInt < b.toInt := Int64.lt_iff_toInt_lt
theorem fa_le64 (a b : Int64) : a ≤ b ↔ a.toInt ≤ b.toInt := Int64.le_iff_toInt_le
theorem in_a {v a b : Int64} (h : lg_cmp v a < 0) : 0 = b2n (decide (a ≤ v ∧ v ≤ b)) := by
  rw [lg_cmp_lt] at h
  have h2 : ¬ (a ≤ v) := by rw [fa_le64]; rw [fa_lt64] at h; omega
  simp [b2n, h2]
theorem in_b {v a b : Int64} (h : 0 < lg_cmp v b) : 0 = b2n (decide (a ≤ v ∧ v ≤ b)) := by
  rw [lg_cmp_gt] at h
  have h2 : ¬ (v ≤ b) := by rw [fa_le64]; rw [fa_lt64] at h; omega
  simp [b2n, h2]
theorem in_c {v a b : Int64} (h : ¬ lg_cmp v a < 0) (h2 : ¬ 0 < lg_cmp v b) : 1 = b2n (decide (a ≤ v ∧ v ≤ b)) := by
  rw [lg_cmp_lt, fa_lt64] at h
  rw [lg_cmp_gt, fa_lt64] at h2
  have h3 : a ≤ v ∧ v ≤ b := by rw [fa_le64, fa_le64]; omega
  simp [b2n, h3]
/-- x lies between a and b -/
def inR (x : Int32) (a b : Nat) : Bool := decide ((a : Int) ≤ x.toInt ∧ x.toInt ≤ (b : Int))
/-- x is one of the first n numbers -/
def inN (x : Int32) (n : Nat) : Bool := decide (0 ≤ x.toInt ∧ x.toInt < (n : Int))
theorem inR_l (x : Int32) (a b : Nat) (ha : a < 2147483648) (hb : b < 2147483648) : inR x a b = decide (lN a ≤ x.toInt64 ∧ x.toInt64 ≤ lN b) := by
  simp only [inR]
  congr 1
  rw [fa_le64, fa_le64, Int32.toInt_toInt64, lN_toInt (by omega), lN_toInt (by omega)]
theorem inN_l (x : Int32) {n : Nat} (hn : n < 1000000000) : inN x n = decide (lN 0 ≤ x.toInt64 ∧ x.toInt64 ≤ (nI n - nI 1).toInt64) := by
  simp only [inN]
  congr 1
  rw [fa_le64, fa_le64, Int32.toInt_toInt64, Int32.toInt_toInt64, lN_toInt (by omega), pk_sub_toInt (by omega) (by omega)]
  apply propext
  constructor <;> intro h <;> omega
theorem inN_e {x : Int32} {n : Nat} (hn : n < 2147483648) (h : inN x n = true) : ∃ j, j < n ∧ x = nI j := by
  simp only [inN, decide_eq_true_eq] at h
  obtain ⟨j, h1, h2⟩ := vp_in_of (vp_in_iff.mpr h) (by omega)
  exact ⟨j, h1, h2⟩
theorem inN_n {t n : Nat} (ht : t < 2147483648) : inN (nI t) n = decide (t < n) := by
  simp only [inN]
  rw [nI_toInt (by omega)]
  congr 1
  apply propext
  constructor <;> intro h <;> omega
theorem inR_e {x : Int32} {a b : Nat} (hb : b < 2147483647) (h : inR x a b = true) : ∃ j, a ≤ j ∧ j ≤ b ∧ x = nI j := by
  simp only [inR, decide_eq_true_eq] at h
  obtain ⟨j, h1, h2⟩ := vp_in_of (x := x) (n := b + 1) (vp_in_iff.mpr ⟨by omega, by omega⟩) (by omega)
  subst h2
  rw [nI_toInt (by omega)] at h
  exact ⟨j, by omega, by omega, rfl⟩
theorem inR_n {t a b : Nat} (ht : t < 2147483648) : inR (nI t) a b = decide (a ≤ t ∧ t ≤ b) := by
  simp only [inR]
  rw [nI_toInt (by omega)]
  congr 1
  apply propext
  constructor <;> intro h <;> omega
theorem tsw (x : Int32) (n : Nat) : x.toInt < 0 ∨ (n : Int) ≤ x.toInt ∨ ∃ j, j < n ∧ x = nI j := by
  by_cases h1 : x.toInt < 0
  · exact Or.inl h1
  · by_cases h2 : (n : Int) ≤ x.toInt
    · exact Or.inr (Or.inl h2)
    · have hx : ¬ x < 0 := by rw [fa_lt]; simpa using h1
      obtain ⟨j, hj, rfl⟩ := nI_of hx
      rw [nI_toInt hj] at h2
      exact Or.inr (Or.inr ⟨j, by omega, rfl⟩)
theorem sz_le {bx : Nat → Nat} (hB : BxOk bx) : ∀ i, i ≤ bx 0 → szN bx i ≤ 6 ^ i ∧ 1 ≤ szN bx i
  | 0, _ => by simp [szN]
  | i + 1, h => by
    have ih := sz_le hB i (by omega)
    have ht := hB.t i (by omega)
    simp only [szN]
    refine ⟨?_, ?_⟩
    · rw [Nat.pow_succ]; exact Nat.mul_le_mul ih.1 ht.2.1
    · exact Nat.mul_pos ih.2 (by omega)
theorem sz_lt {bx : Nat → Nat} (hB : BxOk bx) : szN bx (bx 0) ≤ 1296 ∧ 1 ≤ szN bx (bx 0) := by
  have h := sz_le hB (bx 0) (Nat.le_refl _)
  refine ⟨Nat.le_trans h.1 ?_, h.2⟩
  exact Nat.le_trans (Nat.pow_le_pow_right (by omega) hB.w.2) (by decide)
theorem t_2 {bx : Nat → Nat} {x y : Int32} (h : inN x (bx 0) = false) : (inN x (bx 0) && inN y (bx (5 + x.toNatClampNeg))) = false := by simp [h]
theorem t_1 {bx : Nat → Nat} {j : Nat} {y : Int32} (hj : j < 2147483648) (h : inN (nI j) (bx 0) = true) : (inN (nI j) (bx 0) && inN y (bx (5 + (nI j).toNatClampNeg))) = inN y (bx (5 + j)) := by rw [h, nI_clamp (by omega)]; rfl
theorem b2n_e0 {b : Bool} (h : b = false) : 0 = b2n b := by subst h; rfl
theorem b2n_e1 {b : Bool} (h : b = true) : 1 = b2n b := by subst h; rfl
def pcK : Nat → Nat → Nat
  | 0, _ => 0
  | k + 1, n => pcK k n + b2n (Nat.testBit n k)
/-- how many bits (of the first twelve) -/
def pcN (n : Nat) : Nat := pcK 12 n
theorem pc_s2 : ∀ a, a < 64 → ∀ b, b < 64 → 64 * a + b ≠ 0 → (64 * a + b) &&& (64 * a + b - 1) < 64 * a + b ∧ pcN ((64 * a + b) &&& (64 * a + b - 1)) + 1 = pcN (64 * a + b) := by decide +kernel
theorem pc_s (v : Nat) (hv : v < 4096) (h0 : v ≠ 0) : v &&& (v - 1) < v ∧ pcN (v &&& (v - 1)) + 1 = pcN v := by
  have h := pc_s2 (v / 64) (by omega) (v % 64) (by omega) (by omega)
  rw [show 64 * (v / 64) + v % 64 = v by omega] at h
  exact h
/-- k cells of f from i on, in g from j on -/
def cpN (f : Nat → Nat) (i : Nat) (g : Nat → Nat) (j k : Nat) : Nat → Nat := fun x => if j ≤ x ∧ x < j + k then f (i + (x - j)) else g x
theorem cp_0 (f : Nat → Nat) (i : Nat) (g : Nat → Nat) (j : Nat) : cpN f i g j 0 = g := by
  funext x; simp only [cpN]; rw [if_neg (by omega)]
theorem cp_s (f : Nat → Nat) (i : Nat) (g : Nat → Nat) (j k : Nat) : up1 (cpN f i g j k) (j + k) (f (i + k)) = cpN f i g j (k + 1) := by
  funext x
  by_cases hx : x = j + k
  · subst hx
    rw [up1_s]
    simp only [cpN]
    rw [if_pos (by omega), show i + (j + k - j) = i + k by omega]
  · rw [up1_n hx]
    simp only [cpN]
    by_cases h : j ≤ x ∧ x < j + k
    · rw [if_pos h, if_pos (by omega)]
    · rw [if_neg h, if_neg (by omega)]
theorem cp_all (f g : Nat → Nat) (j : Nat) (hj : j < 76) : cpN f 0 g 0 76 j = f j := by simp only [cpN]; rw [if_pos (by omega)]; congr 1; simp
theorem cp_row (f g : Nat → Nat) (i j : Nat) (hj : j < 76) : cpN f i g 0 76 j = f (i + j) := by simp only [cpN]; rw [if_pos (by omega)]; congr 1
theorem arr_eq {D : va_G} {cl : List vw_C} {ws : va_W} {H : Heap} {a n : Nat} {cA : ClassId} {f g : Nat → Nat} (hP : va_P D cl ws H) (q0 : Nat) (hq : ws[q0]? = some (a, .inl (cA, n, .inl (fun z_ => nI (f z_))))) (he : ∀ j, j < n → f j = g j) : va_P D cl (ws.set q0 (a, .inl (cA, n, .inl (fun z_ => nI (g z_))))) H := by
  intro k q hk
  by_cases h : q0 = k
  · subst h
    have hl : q0 < ws.length := (List.getElem?_eq_some_iff.mp hq).1
    rw [List.getElem?_set_self hl] at hk
    cases hk
    have h1 := hP q0 _ hq
    show H[a]? = some (vp_cell _ _)
    have h2 : H[a]? = some (vp_cell cA (n, .inl (fun z_ => nI (f z_)))) := h1
    rw [h2, vp_cell_i, vp_cell_i]
    refine congrArg some ?_
    simp only [arrV]
    have e9 : (fun z : Fin n => Value.int (nI (f z.val))) = fun z : Fin n => Value.int (nI (g z.val)) := by
      funext z
      rw [he z.val z.isLt]
    rw [e9]
  · rw [List.getElem?_set_ne h] at hk
    exact hP k q hk
theorem arr_eqD {A : Nat → Prop} {ws : va_W} {a n : Nat} {cA : ClassId} {f g : Nat → Nat} (hD : va_D A ws) (q0 : Nat) (hq : ws[q0]? = some (a, .inl (cA, n, .inl (fun z_ => nI (f z_))))) : va_D A (ws.set q0 (a, .inl (cA, n, .inl (fun z_ => nI (g z_))))) := hD.set hq
def shI (pa : Nat → Nat) (k : Nat) : Nat → Nat := fun x => if x < k then pa (x + 76) else pa x
theorem sh_0 (pa : Nat → Nat) : shI pa 0 = pa := by funext x; simp [shI]
theorem sh_s (pa : Nat → Nat) (k : Nat) : up1 (shI pa k) k (shI pa k (k + 76)) = shI pa (k + 1) := by
  funext x
  by_cases hx : x = k
  · subst hx
    rw [up1_s]
    simp only [shI]
    rw [if_neg (by omega), if_pos (by omega)]
  · rw [up1_n hx]
    simp only [shI]
    by_cases h : x < k
    · rw [if_pos h, if_pos (by omega)]
    · rw [if_neg h, if_neg (by omega)]
/-- what can be undone, behind a change -/
def rmP (nw pa : Nat → Nat) (zmu : Nat) : Nat → Nat := if zmu = 8 then cpN nw 0 (shI pa 532) 532 76 else cpN nw 0 pa (76 * zmu) 76
def rmU (zmu : Nat) : Nat := if zmu = 8 then 8 else zmu + 1
theorem rmU_8 {zmu : Nat} (h : zmu = 8) : rmU zmu = zmu - 1 + 1 := by subst h; rfl
theorem rmP_8 {zmu : Nat} (h : zmu = 8) (nw pa : Nat → Nat) : rmP nw pa zmu = cpN nw 0 (shI pa 532) (76 * (zmu - 1)) 76 := by subst h; simp [rmP]
theorem rmU_n {zmu : Nat} (h : zmu ≠ 8) : rmU zmu = zmu + 1 := by simp only [rmU]; rw [if_neg h]
theorem rmP_n {zmu : Nat} (h : zmu ≠ 8) (nw pa : Nat → Nat) : rmP nw pa zmu = cpN nw 0 pa (76 * zmu) 76 := by simp only [rmP]; rw [if_neg h]

set_option maxHeartbeats 4000000 in
set_option maxRecDepth 100000 in
theorem k_X7_in {l : Launch} {D : va_G} {cI cC cB : ClassId} {v a b : Int64} : MI l yX7_in cX7_in 6 (some .boolean) 0 D (Ty3 cI cC cB) [.long (v), .long (a), .long (b)] [] (fun r u => (r = nI (b2n (decide (a ≤ v ∧ v ≤ b))) ∧ u = [])) := by
  intro sz
  refine MI.walk (by decide +kernel) (Nat.le_of_ble_eq_true rfl) ?_
  intro p e s m args below meth c A Qf hx hb hml hts hown hret hK hP hD hS hA ls hl
  have hown : s.vm.findClass RX7 = some m.cls := hown
  have hl : lv_has ls 6 [(0, .long (v)), (2, .long (a)), (4, .long (b))] := hl
  have hP : va_P D vwCl [] s.heap := hP
  have hD : va_D A [] := hD
  refine lv_lload_n hx hb dX7_in_0 rfl (lv_at hl 0 rfl) ?_
  refine lv_lload_n hx hb dX7_in_1 rfl (lv_at hl 1 rfl) ?_
  refine W.lcmp hx hb dX7_in_2 ?_
  refine lv_if_lt (tgt := 17) hx hb dX7_in_3 (by decide) (fun c_1 => ?_) (fun c_1 => ?_)
  · -- 3 to 17
    refine lv_iconst (v := nI 0) hx hb dX7_in_17 (by decide) ?_
    refine hret hP hD hS dX7_in_18 (by decide) rfl ?_
    exact ⟨congrArg nI (by first | exact in_a (by assumption) | exact in_b (by assumption) | exact in_c (by assumption) (by assumption)), rfl⟩
  · -- 3 to 6
    refine lv_lload_n hx hb dX7_in_6 rfl (lv_at hl 0 rfl) ?_
    refine lv_lload hx hb dX7_in_7 (lv_at hl 2 rfl) ?_
    refine W.lcmp hx hb dX7_in_9 ?_
    refine lv_if_gt (tgt := 17) hx hb dX7_in_10 (by decide) (fun c_2 => ?_) (fun c_2 => ?_)
    · -- 10 to 17
      refine lv_iconst (v := nI 0) hx hb dX7_in_17 (by decide) ?_
      refine hret hP hD hS dX7_in_18 (by decide) rfl ?_
      exact ⟨congrArg nI (by first | exact in_a (by assumption) | exact in_b (by assumption) | exact in_c (by assumption) (by assumption)), rfl⟩
    · -- 10 to 13
      refine lv_iconst (v := nI 1) hx hb dX7_in_13 (by decide) ?_
      refine lv_goto (tgt := 18) hx hb dX7_in_14 (by decide) ?_
      refine hret hP hD hS dX7_in_18 (by decide) rfl ?_
      exact ⟨congrArg nI (by first | exact in_a (by assumption) | exact in_b (by assumption) | exact in_c (by assumption) (by assumption)), rfl⟩
set_option maxHeartbeats 4000000 in
set_option maxRecDepth 100000 in
theorem k_X7_isTwo {l : Launch} {D : va_G} {cI cC cB : ClassId} {x : Int32} : MI l yX7_isTwo cX7_isTwo 1 (some .boolean) 1 D (Ty3 cI cC cB) [.int (x)] [] (fun r u => (r = nI (b2n (inR x 0 1)) ∧ u = [])) := by
  intro sz
  refine MI.walk (by decide +kernel) (Nat.le_of_ble_eq_true rfl) ?_
  intro p e s m args below meth c A Qf hx hb hml hts hown hret hK hP hD hS hA ls hl
  have hown : s.vm.findClass RX7 = some m.cls := hown
  have hl : lv_has ls 1 [(0, .int (x))] := hl
  have hP : va_P D vwCl [] s.heap := hP
  have hD : va_D A [] := hD
  refine lv_iload_n hx hb dX7_isTwo_0 rfl (lv_at hl 0 rfl) ?_
  refine lv_i2l (v := (x).toInt64) hx hb dX7_isTwo_1 rfl ?_
  refine lv_lconst (v := lN 0) hx hb dX7_isTwo_2 (by decide) ?_
  refine lv_lconst (v := lN 1) hx hb dX7_isTwo_3 (by decide) ?_
  refine cl_7_67 (As := [.long ((x).toInt64), .long (lN (0)), .long (lN (1))]) (rest := []) hx hb hml hts hown (k_X7_in ) (by decide) ⟨Nat.zero_le _, Nat.zero_le _⟩ hK hP hD hS hA [] rfl (by decide) rfl hl.1 rfl (Nat.le_of_ble_eq_true rfl) dX7_isTwo_4 (fun r_1 u H locs hp_2 hP hD hS => ?_)
  obtain ⟨rfl, rfl⟩ := hp_2
  have hP : va_P D vwCl [] _ := hP
  have hD : va_D A [] := hD
  refine hret hP hD hS dX7_isTwo_7 (b2n_nar _) rfl ?_
  exact ⟨by rw [inR_l x 0 1 (by omega) (by omega)], rfl⟩
set_option maxHeartbeats 4000000 in
set_option maxRecDepth 100000 in
theorem k_X7_isWheel {l : Launch} {D : va_G} {cI cC cB : ClassId} {h : Nat} {q : Nat → Nat} {zmu zmk zmz zms zma zmc : Nat} {bx : Nat → Nat} {x : Int32} (hB : BxOk bx) : MI l yX7_isWheel cX7_isWheel 2 (some .boolean) 1 D (Ty3 cI cC cB) [.ref h, .int (x)] [mO h q zmu zmk zmz zms zma zmc, (q 0, .inl (cI, 54, .inl (fun z_ => nI (bx z_))))] (fun r u => (r = nI (b2n (inN x (bx 0))) ∧ u = [mO h q zmu zmk zmz zms zma zmc, (q 0, .inl (cI, 54, .inl (fun z_ => nI (bx z_))))])) := by
  intro sz
  refine MI.walk (by decide +kernel) (Nat.le_of_ble_eq_true rfl) ?_
  intro p e s m args below meth c A Qf hx hb hml hts hown hret hK hP hD hS hA ls hl
  have hown : s.vm.findClass RX7 = some m.cls := hown
  have hl : lv_has ls 2 [(0, .ref h), (1, .int (x))] := hl
  have hP : va_P D vwCl [mO h q zmu zmk zmz zms zma zmc, (q 0, .inl (cI, 54, .inl (fun z_ => nI (bx z_))))] s.heap := hP
  have hD : va_D A [mO h q zmu zmk zmz zms zma zmc, (q 0, .inl (cI, 54, .inl (fun z_ => nI (bx z_))))] := hD
  refine lv_iload_n hx hb dX7_isWheel_0 rfl (lv_at hl 1 rfl) ?_
  refine lv_i2l (v := (x).toInt64) hx hb dX7_isWheel_1 rfl ?_
  refine lv_lconst (v := lN 0) hx hb dX7_isWheel_2 (by decide) ?_
  refine lv_aload_n hx hb dX7_isWheel_3 rfl (lv_at hl 0 rfl) ?_
  refine gf_7_7 hx hb hts hown hK hP 0 rfl rfl dX7_isWheel_4 ?_
  refine lv_iconst (v := nI 0) hx hb dX7_isWheel_7 (by decide) ?_
  refine n_iald hx hb hK hP 1 0 rfl rfl dX7_isWheel_8 (by decide) (by omega) ?_
  have hb_1 := hB.bd 0
  refine lv_iconst (v := nI 1) hx hb dX7_isWheel_9 (by decide) ?_
  refine lv_isub hx hb dX7_isWheel_10 ?_
  refine lv_i2l (v := (nI (bx 0) - nI (1)).toInt64) hx hb dX7_isWheel_11 rfl ?_
  refine cl_7_67 (As := [.long ((x).toInt64), .long (lN (0)), .long ((nI (bx 0) - nI (1)).toInt64)]) (rest := []) hx hb hml hts hown (k_X7_in ) (by decide) ⟨Nat.zero_le _, Nat.zero_le _⟩ hK hP hD hS hA [] rfl (by decide) rfl hl.1 rfl (Nat.le_of_ble_eq_true rfl) dX7_isWheel_12 (fun r_2 u H locs hp_3 hP hD hS => ?_)
  obtain ⟨rfl, rfl⟩ := hp_3
  have hP : va_P D vwCl [mO h q zmu zmk zmz zms zma zmc, (q 0, .inl (cI, 54, .inl (fun z_ => nI (bx z_))))] _ := hP
  have hD : va_D A [mO h q zmu zmk zmz zms zma zmc, (q 0, .inl (cI, 54, .inl (fun z_ => nI (bx z_))))] := hD
  refine hret hP hD hS dX7_isWheel_15 (b2n_nar _) rfl ?_
  exact ⟨by rw [inN_l x (by have := hB.bd 0; omega)], rfl⟩
set_option maxHeartbeats 4000000 in
set_option maxRecDepth 100000 in
theorem k_X7_isPerson {l : Launch} {D : va_G} {cI cC cB : ClassId} {h : Nat} {q : Nat → Nat} {zmu zmk zmz zms zma zmc : Nat} {bx : Nat → Nat} {x : Int32} (hB : BxOk bx) : MI l yX7_isPerson cX7_isPerson 2 (some .boolean) 1 D (Ty3 cI cC cB) [.ref h, .int (x)] [mO h q zmu zmk zmz zms zma zmc, (q 0, .inl (cI, 54, .inl (fun z_ => nI (bx z_))))] (fun r u => (r = nI (b2n (inN x (bx 1))) ∧ u = [mO h q zmu zmk zmz zms zma zmc, (q 0, .inl (cI, 54, .inl (fun z_ => nI (bx z_))))])) := by
  intro sz
  refine MI.walk (by decide +kernel) (Nat.le_of_ble_eq_true rfl) ?_
  intro p e s m args below meth c A Qf hx hb hml hts hown hret hK hP hD hS hA ls hl
  have hown : s.vm.findClass RX7 = some m.cls := hown
  have hl : lv_has ls 2 [(0, .ref h), (1, .int (x))] := hl
  have hP : va_P D vwCl [mO h q zmu zmk zmz zms zma zmc, (q 0, .inl (cI, 54, .inl (fun z_ => nI (bx z_))))] s.heap := hP
  have hD : va_D A [mO h q zmu zmk zmz zms zma zmc, (q 0, .inl (cI, 54, .inl (fun z_ => nI (bx z_))))] := hD
  refine lv_iload_n hx hb dX7_isPerson_0 rfl (lv_at hl 1 rfl) ?_
  refine lv_i2l (v := (x).toInt64) hx hb dX7_isPerson_1 rfl ?_
  refine lv_lconst (v := lN 0) hx hb dX7_isPerson_2 (by decide) ?_
  refine lv_aload_n hx hb dX7_isPerson_3 rfl (lv_at hl 0 rfl) ?_
  refine gf_7_7 hx hb hts hown hK hP 0 rfl rfl dX7_isPerson_4 ?_
  refine lv_iconst (v := nI 1) hx hb dX7_isPerson_7 (by decide) ?_
  refine n_iald hx hb hK hP 1 0 rfl rfl dX7_isPerson_8 (by decide) (by omega) ?_
  have hb_1 := hB.bd 1
  refine lv_iconst (v := nI 1) hx hb dX7_isPerson_9 (by decide) ?_
  refine lv_isub hx hb dX7_isPerson_10 ?_
  refine lv_i2l (v := (nI (bx 1) - nI (1)).toInt64) hx hb dX7_isPerson_11 rfl ?_
  refine cl_7_67 (As := [.long ((x).toInt64), .long (lN (0)), .long ((nI (bx 1) - nI (1)).toInt64)]) (rest := []) hx hb hml hts hown (k_X7_in ) (by decide) ⟨Nat.zero_le _, Nat.zero_le _⟩ hK hP hD hS hA [] rfl (by decide) rfl hl.1 rfl (Nat.le_of_ble_eq_true rfl) dX7_isPerson_12 (fun r_2 u H locs hp_3 hP hD hS => ?_)
  obtain ⟨rfl, rfl⟩ := hp_3
  have hP : va_P D vwCl [mO h q zmu zmk zmz zms zma zmc, (q 0, .inl (cI, 54, .inl (fun z_ => nI (bx z_))))] _ := hP
  have hD : va_D A [mO h q zmu zmk zmz zms zma zmc, (q 0, .inl (cI, 54, .inl (fun z_ => nI (bx z_))))] := hD
  refine hret hP hD hS dX7_isPerson_15 (b2n_nar _) rfl ?_
  exact ⟨by rw [inN_l x (by have := hB.bd 1; omega)], rfl⟩
set_option maxHeartbeats 4000000 in
set_option maxRecDepth 100000 in
theorem k_X7_isHeard {l : Launch} {D : va_G} {cI cC cB : ClassId} {h : Nat} {q : Nat → Nat} {zmu zmk zmz zms zma zmc : Nat} {nw : Nat → Nat} {x : Int32} (hbd : ∀ j, nw j < 100000000) : MI l yX7_isHeard cX7_isHeard 2 (some .boolean) 1 D (Ty3 cI cC cB) [.ref h, .int (x)] [mO h q zmu zmk zmz zms zma zmc, (q 2, .inl (cI, 76, .inl (fun z_ => nI (nw z_))))] (fun r u => (r = nI (b2n (inN x (nw 2))) ∧ u = [mO h q zmu zmk zmz zms zma zmc, (q 2, .inl (cI, 76, .inl (fun z_ => nI (nw z_))))])) := by
  intro sz
  refine MI.walk (by decide +kernel) (Nat.le_of_ble_eq_true rfl) ?_
  intro p e s m args below meth c A Qf hx hb hml hts hown hret hK hP hD hS hA ls hl
  have hown : s.vm.findClass RX7 = some m.cls := hown
  have hl : lv_has ls 2 [(0, .ref h), (1, .int (x))] := hl
  have hP : va_P D vwCl [mO h q zmu zmk zmz zms zma zmc, (q 2, .inl (cI, 76, .inl (fun z_ => nI (nw z_))))] s.heap := hP
  have hD : va_D A [mO h q zmu zmk zmz zms zma zmc, (q 2, .inl (cI, 76, .inl (fun z_ => nI (nw z_))))] := hD
  refine lv_iload_n hx hb dX7_isHeard_0 rfl (lv_at hl 1 rfl) ?_
  refine lv_i2l (v := (x).toInt64) hx hb dX7_isHeard_1 rfl ?_
  refine lv_lconst (v := lN 0) hx hb dX7_isHeard_2 (by decide) ?_
  refine lv_aload_n hx hb dX7_isHeard_3 rfl (lv_at hl 0 rfl) ?_
  refine gf_7_16 hx hb hts hown hK hP 0 rfl rfl dX7_isHeard_4 ?_
  refine lv_iconst (v := nI 2) hx hb dX7_isHeard_7 (by decide) ?_
  refine n_iald hx hb hK hP 1 0 rfl rfl dX7_isHeard_8 (by decide) (by omega) ?_
  have hb_1 := hbd 2
  refine lv_iconst (v := nI 1) hx hb dX7_isHeard_9 (by decide) ?_
  refine lv_isub hx hb dX7_isHeard_10 ?_
  refine lv_i2l (v := (nI (nw 2) - nI (1)).toInt64) hx hb dX7_isHeard_11 rfl ?_
  refine cl_7_67 (As := [.long ((x).toInt64), .long (lN (0)), .long ((nI (nw 2) - nI (1)).toInt64)]) (rest := []) hx hb hml hts hown (k_X7_in ) (by decide) ⟨Nat.zero_le _, Nat.zero_le _⟩ hK hP hD hS hA [] rfl (by decide) rfl hl.1 rfl (Nat.le_of_ble_eq_true rfl) dX7_isHeard_12 (fun r_2 u H locs hp_3 hP hD hS => ?_)
  obtain ⟨rfl, rfl⟩ := hp_3
  have hP : va_P D vwCl [mO h q zmu zmk zmz zms zma zmc, (q 2, .inl (cI, 76, .inl (fun z_ => nI (nw z_))))] _ := hP
  have hD : va_D A [mO h q zmu zmk zmz zms zma zmc, (q 2, .inl (cI, 76, .inl (fun z_ => nI (nw z_))))] := hD
  refine hret hP hD hS dX7_isHeard_15 (b2n_nar _) rfl ?_
  exact ⟨by rw [inN_l x (by have := hbd 2; omega)], rfl⟩
set_option maxHeartbeats 4000000 in
set_option maxRecDepth 100000 in
theorem k_X7_isExcuse {l : Launch} {D : va_G} {cI cC cB : ClassId} {h : Nat} {q : Nat → Nat} {zmu zmk zmz zms zma zmc : Nat} {bx : Nat → Nat} {x : Int32} (hB : BxOk bx) : MI l yX7_isExcuse cX7_isExcuse 2 (some .boolean) 1 D (Ty3 cI cC cB) [.ref h, .int (x)] [mO h q zmu zmk zmz zms zma zmc, (q 0, .inl (cI, 54, .inl (fun z_ => nI (bx z_))))] (fun r u => (r = nI (b2n (inN x (szN bx (bx 0)))) ∧ u = [mO h q zmu zmk zmz zms zma zmc, (q 0, .inl (cI, 54, .inl (fun z_ => nI (bx z_))))])) := by
  intro sz
  refine MI.walk (by decide +kernel) (Nat.le_of_ble_eq_true rfl) ?_
  intro p e s m args below meth c A Qf hx hb hml hts hown hret hK hP hD hS hA ls hl
  have hown : s.vm.findClass RX7 = some m.cls := hown
  have hl : lv_has ls 2 [(0, .ref h), (1, .int (x))] := hl
  have hP : va_P D vwCl [mO h q zmu zmk zmz zms zma zmc, (q 0, .inl (cI, 54, .inl (fun z_ => nI (bx z_))))] s.heap := hP
  have hD : va_D A [mO h q zmu zmk zmz zms zma zmc, (q 0, .inl (cI, 54, .inl (fun z_ => nI (bx z_))))] := hD
  refine lv_iload_n hx hb dX7_isExcuse_0 rfl (lv_at hl 1 rfl) ?_
  refine lv_i2l (v := (x).toInt64) hx hb dX7_isExcuse_1 rfl ?_
  refine lv_lconst (v := lN 0) hx hb dX7_isExcuse_2 (by decide) ?_
  refine lv_aload_n hx hb dX7_isExcuse_3 rfl (lv_at hl 0 rfl) ?_
  refine cl_7_130 (As := []) (rest := [.long (lN (0)), .long ((x).toInt64)]) hx hb hml hts hown (k_X7_excuses (by first | assumption | omega)) (by decide) ⟨Nat.zero_le _, Nat.zero_le _⟩ hK hP hD hS hA 0 rfl [0, 1] rfl (by decide) rfl hl.1 rfl (Nat.le_of_ble_eq_true rfl) dX7_isExcuse_4 (fun r_1 u H locs hp_2 hP hD hS => ?_)
  obtain ⟨rfl, rfl⟩ := hp_2
  have hP : va_P D vwCl [mO h q zmu zmk zmz zms zma zmc, (q 0, .inl (cI, 54, .inl (fun z_ => nI (bx z_))))] _ := hP
  have hD : va_D A [mO h q zmu zmk zmz zms zma zmc, (q 0, .inl (cI, 54, .inl (fun z_ => nI (bx z_))))] := hD
  refine lv_iconst (v := nI 1) hx hb dX7_isExcuse_7 (by decide) ?_
  refine lv_isub hx hb dX7_isExcuse_8 ?_
  refine lv_i2l (v := (nI (szN bx (bx 0)) - nI (1)).toInt64) hx hb dX7_isExcuse_9 rfl ?_
  refine cl_7_67 (As := [.long ((x).toInt64), .long (lN (0)), .long ((nI (szN bx (bx 0)) - nI (1)).toInt64)]) (rest := []) hx hb hml hts hown (k_X7_in ) (by decide) ⟨Nat.zero_le _, Nat.zero_le _⟩ hK hP hD hS hA [] rfl (by decide) rfl hl.1 rfl (Nat.le_of_ble_eq_true rfl) dX7_isExcuse_10 (fun r_3 u H locs hp_4 hP hD hS => ?_)
  obtain ⟨rfl, rfl⟩ := hp_4
  have hP : va_P D vwCl [mO h q zmu zmk zmz zms zma zmc, (q 0, .inl (cI, 54, .inl (fun z_ => nI (bx z_))))] _ := hP
  have hD : va_D A [mO h q zmu zmk zmz zms zma zmc, (q 0, .inl (cI, 54, .inl (fun z_ => nI (bx z_))))] := hD
  refine hret hP hD hS dX7_isExcuse_13 (b2n_nar _) rfl ?_
  exact ⟨by rw [inN_l x (by have := sz_lt hB; omega)], rfl⟩
set_option maxHeartbeats 4000000 in
set_option maxRecDepth 100000 in
theorem k_X7_isTooth {l : Launch} {D : va_G} {cI cC cB : ClassId} {h : Nat} {q : Nat → Nat} {zmu zmk zmz zms zma zmc : Nat} {bx : Nat → Nat} {x y : Int32} (hB : BxOk bx) : MI l yX7_isTooth cX7_isTooth 3 (some .boolean) 2 D (Ty3 cI cC cB) [.ref h, .int (x), .int (y)] [mO h q zmu zmk zmz zms zma zmc, (q 0, .inl (cI, 54, .inl (fun z_ => nI (bx z_))))] (fun r u => (r = nI (b2n (inN x (bx 0) && inN y (bx (5 + x.toNatClampNeg)))) ∧ u = [mO h q zmu zmk zmz zms zma zmc, (q 0, .inl (cI, 54, .inl (fun z_ => nI (bx z_))))])) := by
  intro sz
  refine MI.walk (by decide +kernel) (Nat.le_of_ble_eq_true rfl) ?_
  intro p e s m args below meth c A Qf hx hb hml hts hown hret hK hP hD hS hA ls hl
  have hown : s.vm.findClass RX7 = some m.cls := hown
  have hl : lv_has ls 3 [(0, .ref h), (1, .int (x)), (2, .int (y))] := hl
  have hP : va_P D vwCl [mO h q zmu zmk zmz zms zma zmc, (q 0, .inl (cI, 54, .inl (fun z_ => nI (bx z_))))] s.heap := hP
  have hD : va_D A [mO h q zmu zmk zmz zms zma zmc, (q 0, .inl (cI, 54, .inl (fun z_ => nI (bx z_))))] := hD
  refine lv_aload_n hx hb dX7_isTooth_0 rfl (lv_at hl 0 rfl) ?_
  refine lv_iload_n hx hb dX7_isTooth_1 rfl (lv_at hl 1 rfl) ?_
  refine cl_7_127 (As := [.int (x)]) (rest := []) hx hb hml hts hown (k_X7_isWheel (by first | assumption | omega)) (by decide) ⟨Nat.zero_le _, Nat.zero_le _⟩ hK hP hD hS hA 0 rfl [0, 1] rfl (by decide) rfl hl.1 rfl (Nat.le_of_ble_eq_true rfl) dX7_isTooth_2 (fun r_1 u H locs hp_2 hP hD hS => ?_)
  obtain ⟨rfl, rfl⟩ := hp_2
  have hP : va_P D vwCl [mO h q zmu zmk zmz zms zma zmc, (q 0, .inl (cI, 54, .inl (fun z_ => nI (bx z_))))] _ := hP
  have hD : va_D A [mO h q zmu zmk zmz zms zma zmc, (q 0, .inl (cI, 54, .inl (fun z_ => nI (bx z_))))] := hD
  refine n_ifb_eq (tgt := 32) hx hb dX7_isTooth_5 (by decide) (fun c_3 => ?_) (fun c_3 => ?_)
  · -- 5 to 32
    refine lv_iconst (v := nI 0) hx hb dX7_isTooth_32 (by decide) ?_
    refine hret hP hD hS dX7_isTooth_33 (by decide) rfl ?_
    first | exact ⟨by rw [t_2 (by assumption)]; rfl, rfl⟩ | exact ⟨by rw [t_1 (bx := bx) (j := j) (by omega) (by assumption)]; exact congrArg nI (by first | exact b2n_e0 (by rw [inN_l (n := bx (5 + j)) _ (by have := hB.bd (5 + j); omega)]; assumption) | exact b2n_e1 (by rw [inN_l (n := bx (5 + j)) _ (by have := hB.bd (5 + j); omega)]; assumption)), rfl⟩
  · -- 5 to 8
    obtain ⟨j, hj, rfl⟩ := inN_e (by have := hB.w; omega) c_3
    have hw := hB.w
    refine lv_iload_n hx hb dX7_isTooth_8 rfl (lv_at hl 2 rfl) ?_
    refine lv_i2l (v := (y).toInt64) hx hb dX7_isTooth_9 rfl ?_
    refine lv_lconst (v := lN 0) hx hb dX7_isTooth_10 (by decide) ?_
    refine lv_aload_n hx hb dX7_isTooth_11 rfl (lv_at hl 0 rfl) ?_
    refine gf_7_7 hx hb hts hown hK hP 0 rfl rfl dX7_isTooth_12 ?_
    refine lv_iconst (v := nI 5) hx hb dX7_isTooth_15 (by decide) ?_
    refine lv_iload_n hx hb dX7_isTooth_16 rfl (lv_at hl 1 rfl) ?_
    refine n_iadd hx hb dX7_isTooth_17  ?_
    refine n_iald hx hb hK hP 1 0 rfl rfl dX7_isTooth_18 (by decide) (by omega) ?_
    have hb_4 := hB.bd (5 + j)
    refine lv_iconst (v := nI 1) hx hb dX7_isTooth_19 (by decide) ?_
    refine lv_isub hx hb dX7_isTooth_20 ?_
    refine lv_i2l (v := (nI (bx (5 + j)) - nI (1)).toInt64) hx hb dX7_isTooth_21 rfl ?_
    refine cl_7_67 (As := [.long ((y).toInt64), .long (lN (0)), .long ((nI (bx (5 + j)) - nI (1)).toInt64)]) (rest := []) hx hb hml hts hown (k_X7_in ) (by decide) ⟨Nat.zero_le _, Nat.zero_le _⟩ hK hP hD hS hA [] rfl (by decide) rfl hl.1 rfl (Nat.le_of_ble_eq_true rfl) dX7_isTooth_22 (fun r_5 u H locs hp_6 hP hD hS => ?_)
    obtain ⟨rfl, rfl⟩ := hp_6
    have hP : va_P D vwCl [mO h q zmu zmk zmz zms zma zmc, (q 0, .inl (cI, 54, .inl (fun z_ => nI (bx z_))))] _ := hP
    have hD : va_D A [mO h q zmu zmk zmz zms zma zmc, (q 0, .inl (cI, 54, .inl (fun z_ => nI (bx z_))))] := hD
    refine n_ifb_eq (tgt := 32) hx hb dX7_isTooth_25 (by decide) (fun c_7 => ?_) (fun c_7 => ?_)
    · -- 25 to 32
      refine lv_iconst (v := nI 0) hx hb dX7_isTooth_32 (by decide) ?_
      refine hret hP hD hS dX7_isTooth_33 (by decide) rfl ?_
      first | exact ⟨by rw [t_2 (by assumption)]; rfl, rfl⟩ | exact ⟨by rw [t_1 (bx := bx) (j := j) (by omega) (by assumption)]; exact congrArg nI (by first | exact b2n_e0 (by rw [inN_l (n := bx (5 + j)) _ (by have := hB.bd (5 + j); omega)]; assumption) | exact b2n_e1 (by rw [inN_l (n := bx (5 + j)) _ (by have := hB.bd (5 + j); omega)]; assumption)), rfl⟩
    · -- 25 to 28
      refine lv_iconst (v := nI 1) hx hb dX7_isTooth_28 (by decide) ?_
      refine lv_goto (tgt := 33) hx hb dX7_isTooth_29 (by decide) ?_
      refine hret hP hD hS dX7_isTooth_33 (by decide) rfl ?_
      first | exact ⟨by rw [t_2 (by assumption)]; rfl, rfl⟩ | exact ⟨by rw [t_1 (bx := bx) (j := j) (by omega) (by assumption)]; exact congrArg nI (by first | exact b2n_e0 (by rw [inN_l (n := bx (5 + j)) _ (by have := hB.bd (5 + j); omega)]; assumption) | exact b2n_e1 (by rw [inN_l (n := bx (5 + j)) _ (by have := hB.bd (5 + j); omega)]; assumption)), rfl⟩
set_option maxHeartbeats 4000000 in
set_option maxRecDepth 100000 in
theorem k_X7_bits {l : Launch} {D : va_G} {cI cC cB : ClassId} {x : Nat} (hx2 : x < 4096) : MI l yX7_bits cX7_bits 3 (some .int) 0 D (Ty3 cI cC cB) [.int (nI (x))] [] (fun r u => (r = nI (pcN x) ∧ u = [])) := by
  intro sz
  refine MI.walk (by decide +kernel) (Nat.le_of_ble_eq_true rfl) ?_
  intro p e s m args below meth c A Qf hx hb hml hts hown hret hK hP hD hS hA ls hl
  have hown : s.vm.findClass RX7 = some m.cls := hown
  have hl : lv_has ls 3 [(0, .int (nI (x)))] := hl
  have hP : va_P D vwCl [] s.heap := hP
  have hD : va_D A [] := hD
  refine lv_iconst (v := nI 0) hx hb dX7_bits_0 (by decide) ?_
  refine lv_istore_n (lv' := [(1, .int (nI (0))), (0, .int (nI (x)))]) hx hb dX7_bits_1 rfl hl (by decide) rfl (fun ls hl => ?_)
  refine lv_iload_n hx hb dX7_bits_2 rfl (lv_at hl 1 rfl) ?_
  refine lv_istore_n (lv' := [(2, .int (nI (x))), (1, .int (nI (0))), (0, .int (nI (x)))]) hx hb dX7_bits_3 rfl hl (by decide) rfl (fun ls hl => ?_)
  have loop_4 : ∀ (N : Nat) (n : Nat) (v : Nat), (v < 4096) → (n + pcN v = pcN x) → v < N → ∀ (H : Heap) (locs : List Loc), va_P D vwCl [] H → va_D A [] → va_S A s.heap H locs → ∀ ls : Array Slot, lv_has ls 3 [(2, .int (nI (v))), (1, .int (nI (n))), (0, .int (nI (x)))] → W p l e (rmL 0) s m args below meth c H locs 0 0 Qf (F0 m 4 ls []) := by
    intro N; induction N with
    | zero => intro n v _ _ hm; omega
    | succ N ih_4 =>
      intro n v hv hn hm H locs hP hD hS ls hl
      refine lv_iload_n hx hb dX7_bits_4 rfl (lv_at hl 0 rfl) ?_
      refine n_if_eq (tgt := 20) hx hb dX7_bits_5 (by decide) (by omega) (fun c_1 => ?_) (fun c_1 => ?_)
      · -- 5 to 20
        refine lv_iload_n hx hb dX7_bits_20 rfl (lv_at hl 1 rfl) ?_
        refine hret hP hD hS dX7_bits_21 rfl rfl ?_
        exact ⟨by rw [← hn, show v = 0 by omega]; rfl, rfl⟩
      · -- 5 to 8
        refine lv_iinc (v := nI (n + 1)) (lv' := [(1, .int (nI (n + 1))), (2, .int (nI (v))), (0, .int (nI (x)))]) hx hb dX7_bits_8 hl (k := 1) rfl (n_inc _ 1) (by decide) rfl (fun ls hl => ?_)
        refine lv_iload_n hx hb dX7_bits_11 rfl (lv_at hl 1 rfl) ?_
        refine lv_iload_n hx hb dX7_bits_12 rfl (lv_at hl 1 rfl) ?_
        refine lv_iconst (v := nI 1) hx hb dX7_bits_13 (by decide) ?_
        refine n_isub hx hb dX7_bits_14 (by omega) ?_
        refine n_iand hx hb dX7_bits_15  ?_
        refine lv_istore_n (lv' := [(2, .int (nI (v &&& (v - 1)))), (1, .int (nI (n + 1))), (0, .int (nI (x)))]) hx hb dX7_bits_16 rfl hl (by decide) rfl (fun ls hl => ?_)
        refine lv_goto (tgt := 4) hx hb dX7_bits_17 (by decide) ?_
        exact ih_4 (n + 1) (v &&& (v - 1)) (by have := (pc_s v hv (by omega)).1; omega) (by have := (pc_s v hv (by omega)).2; omega) (by have := (pc_s v hv (by omega)).1; omega) _ _ hP hD hS _ (lv_sub hl [0, 1, 2] rfl)
  exact loop_4 _ 0 x (by omega) (by omega) (Nat.lt_succ_self _) _ _ hP hD hS _ (lv_sub hl [0, 1, 2] rfl)
set_option maxHeartbeats 4000000 in
set_option maxRecDepth 100000 in
theorem k_X7_copies {l : Launch} {D : va_G} {cI cC cB : ClassId} {f g : Nat → Nat} {t w n1 n2 i j : Nat} (hi : i + 76 ≤ n1) (hj : j + 76 ≤ n2) (h1 : n1 < 100000) (h2 : n2 < 100000) : MV l yX7_copies cX7_copies 5 none 0 D (Ty3 cI cC cB) [.ref t, .int (nI (i)), .ref w, .int (nI (j))] [(t, .inl (cI, n1, .inl (fun z_ => nI (f z_)))), (w, .inl (cI, n2, .inl (fun z_ => nI (g z_))))] (fun (u : va_W) => (u = [(t, .inl (cI, n1, .inl (fun z_ => nI (f z_)))), (w, .inl (cI, n2, .inl (fun z_ => nI ((cpN f i g j 76) z_))))])) := by
  intro sz
  refine MV.walk (by decide +kernel) (Nat.le_of_ble_eq_true rfl) ?_
  intro p e s m args below meth c A Qf hx hb hml hts hown hret hK hP hD hS hA ls hl
  have hown : s.vm.findClass RX7 = some m.cls := hown
  have hl : lv_has ls 5 [(0, .ref t), (1, .int (nI (i))), (2, .ref w), (3, .int (nI (j)))] := hl
  have hP : va_P D vwCl [(t, .inl (cI, n1, .inl (fun z_ => nI (f z_)))), (w, .inl (cI, n2, .inl (fun z_ => nI (g z_))))] s.heap := hP
  have hD : va_D A [(t, .inl (cI, n1, .inl (fun z_ => nI (f z_)))), (w, .inl (cI, n2, .inl (fun z_ => nI (g z_))))] := hD
  refine lv_iconst (v := nI 0) hx hb dX7_copies_0 (by decide) ?_
  refine lv_istore (lv' := [(4, .int (nI (0))), (0, .ref t), (1, .int (nI (i))), (2, .ref w), (3, .int (nI (j)))]) hx hb dX7_copies_1 hl (by decide) rfl (fun ls hl => ?_)
  have loop_3 : ∀ (N : Nat) (k : Nat) (g1 : Nat → Nat), (k ≤ 76) → (g1 = cpN f i g j k) → (76 - k) < N → ∀ (H : Heap) (locs : List Loc), va_P D vwCl [(t, .inl (cI, n1, .inl (fun z_ => nI (f z_)))), (w, .inl (cI, n2, .inl (fun z_ => nI (g1 z_))))] H → va_D A [(t, .inl (cI, n1, .inl (fun z_ => nI (f z_)))), (w, .inl (cI, n2, .inl (fun z_ => nI (g1 z_))))] → va_S A s.heap H locs → ∀ ls : Array Slot, lv_has ls 5 [(4, .int (nI (k))), (0, .ref t), (1, .int (nI (i))), (2, .ref w), (3, .int (nI (j)))] → W p l e (rmL 0) s m args below meth c H locs 0 0 Qf (F0 m 3 ls []) := by
    intro N; induction N with
    | zero => intro k g1 _ _ hm; omega
    | succ N ih_3 =>
      intro k g1 hk hg hm H locs hP hD hS ls hl
      refine lv_iload hx hb dX7_copies_3 (lv_at hl 0 rfl) ?_
      refine lv_bipush (v := nI 76) hx hb dX7_copies_5 (by decide) ?_
      refine n_icmp_ge (tgt := 28) hx hb dX7_copies_7 (by decide) (by omega) (by decide) (fun c_1 => ?_) (fun c_1 => ?_)
      · -- 7 to 28
        refine hret hP hD hS dX7_copies_28 rfl ?_
        have hk9 : k = 76 := by omega
        subst hg
        subst hk9
        rfl
      · -- 7 to 10
        refine lv_aload_n hx hb dX7_copies_10 rfl (lv_at hl 3 rfl) ?_
        refine lv_iload_n hx hb dX7_copies_11 rfl (lv_at hl 4 rfl) ?_
        refine lv_iload hx hb dX7_copies_12 (lv_at hl 0 rfl) ?_
        refine n_iadd hx hb dX7_copies_14  ?_
        refine lv_aload_n hx hb dX7_copies_15 rfl (lv_at hl 1 rfl) ?_
        refine lv_iload_n hx hb dX7_copies_16 rfl (lv_at hl 2 rfl) ?_
        refine lv_iload hx hb dX7_copies_17 (lv_at hl 0 rfl) ?_
        refine n_iadd hx hb dX7_copies_19  ?_
        refine n_iald hx hb hK hP 0 0 rfl rfl dX7_copies_20 (by omega) (by omega) ?_
        refine n_iast hx hb hK hP hD hS 1 0 rfl rfl dX7_copies_21 (by omega) (by omega) (fun H locs hP hD hS => ?_)
        have hP : va_P D vwCl [(t, .inl (cI, n1, .inl (fun z_ => nI (f z_)))), (w, .inl (cI, n2, .inl (fun z_ => nI ((up1 g1 (j + k) (f (i + k))) z_))))] _ := hP
        have hD : va_D A [(t, .inl (cI, n1, .inl (fun z_ => nI (f z_)))), (w, .inl (cI, n2, .inl (fun z_ => nI ((up1 g1 (j + k) (f (i + k))) z_))))] := hD
        refine lv_iinc (v := nI (k + 1)) (lv' := [(4, .int (nI (k + 1))), (0, .ref t), (1, .int (nI (i))), (2, .ref w), (3, .int (nI (j)))]) hx hb dX7_copies_22 hl (k := 0) rfl (n_inc _ 1) (by decide) rfl (fun ls hl => ?_)
        refine lv_goto (tgt := 3) hx hb dX7_copies_25 (by decide) ?_
        exact ih_3 (k + 1) (up1 g1 (j + k) (f (i + k))) (by omega) (by rw [hg]; exact cp_s f i g j k) (by omega) _ _ hP hD hS _ (lv_sub hl [0, 1, 2, 3, 4] rfl)
  exact loop_3 _ 0 g (by omega) (cp_0 f i g j).symm (Nat.lt_succ_self _) _ _ hP hD hS _ (lv_sub hl [0, 1, 2, 3, 4] rfl)
set_option maxHeartbeats 4000000 in
set_option maxRecDepth 100000 in
theorem k_X7_remember {l : Launch} {D : va_G} {cI cC cB : ClassId} {h : Nat} {q : Nat → Nat} {zmu zmk zmz zms zma zmc : Nat} {nw pa : Nat → Nat} (hu : zmu ≤ 8) : MV l yX7_remember cX7_remember 2 none 1 D (Ty3 cI cC cB) [.ref h] [mO h q zmu zmk zmz zms zma zmc, (q 2, .inl (cI, 76, .inl (fun z_ => nI (nw z_)))), (q 3, .inl (cI, 608, .inl (fun z_ => nI (pa z_))))] (fun (u : va_W) => (u = [mO h q (rmU zmu) zmk zmz zms zma zmc, (q 2, .inl (cI, 76, .inl (fun z_ => nI (nw z_)))), (q 3, .inl (cI, 608, .inl (fun z_ => nI ((rmP nw pa zmu) z_))))])) := by
  intro sz
  refine MV.walk (by decide +kernel) (Nat.le_of_ble_eq_true rfl) ?_
  intro p e s m args below meth c A Qf hx hb hml hts hown hret hK hP hD hS hA ls hl
  have hown : s.vm.findClass RX7 = some m.cls := hown
  have hl : lv_has ls 2 [(0, .ref h)] := hl
  have hP : va_P D vwCl [mO h q zmu zmk zmz zms zma zmc, (q 2, .inl (cI, 76, .inl (fun z_ => nI (nw z_)))), (q 3, .inl (cI, 608, .inl (fun z_ => nI (pa z_))))] s.heap := hP
  have hD : va_D A [mO h q zmu zmk zmz zms zma zmc, (q 2, .inl (cI, 76, .inl (fun z_ => nI (nw z_)))), (q 3, .inl (cI, 608, .inl (fun z_ => nI (pa z_))))] := hD
  refine lv_aload_n hx hb dX7_remember_0 rfl (lv_at hl 0 rfl) ?_
  refine gf_7_117 hx hb hts hown hK hP 0 rfl rfl dX7_remember_1 ?_
  refine lv_bipush (v := nI 8) hx hb dX7_remember_4 (by decide) ?_
  refine n_icmp_ne (tgt := 49) hx hb dX7_remember_6 (by decide) (by omega) (by decide) (fun c_1 => ?_) (fun c_1 => ?_)
  · -- 6 to 49
    have hmu_q := c_1
    refine lv_aload_n hx hb dX7_remember_49 rfl (lv_at hl 0 rfl) ?_
    refine gf_7_16 hx hb hts hown hK hP 0 rfl rfl dX7_remember_50 ?_
    refine lv_iconst (v := nI 0) hx hb dX7_remember_53 (by decide) ?_
    refine lv_aload_n hx hb dX7_remember_54 rfl (lv_at hl 0 rfl) ?_
    refine gf_7_19 hx hb hts hown hK hP 0 rfl rfl dX7_remember_55 ?_
    refine lv_bipush (v := nI 76) hx hb dX7_remember_58 (by decide) ?_
    refine lv_aload_n hx hb dX7_remember_60 rfl (lv_at hl 0 rfl) ?_
    refine gf_7_117 hx hb hts hown hK hP 0 rfl rfl dX7_remember_61 ?_
    refine n_imul hx hb dX7_remember_64  ?_
    refine cl_7_180 (As := [.ref (q 2), .int (nI (0)), .ref (q 3), .int (nI (76 * zmu))]) (rest := []) hx hb hml hts hown (k_X7_copies (by first | assumption | omega) (by first | assumption | omega) (by first | assumption | omega) (by first | assumption | omega)) (by decide) ⟨Nat.zero_le _, Nat.zero_le _⟩ hK hP hD hS hA [1, 2] rfl (by decide) rfl hl.1 rfl (Nat.le_of_ble_eq_true rfl) dX7_remember_65 (fun  u H locs hp_2 hP hD hS => ?_)
    subst hp_2
    have hP : va_P D vwCl [mO h q zmu zmk zmz zms zma zmc, (q 2, .inl (cI, 76, .inl (fun z_ => nI (nw z_)))), (q 3, .inl (cI, 608, .inl (fun z_ => nI ((cpN nw 0 pa (76 * zmu) 76) z_))))] _ := hP
    have hD : va_D A [mO h q zmu zmk zmz zms zma zmc, (q 2, .inl (cI, 76, .inl (fun z_ => nI (nw z_)))), (q 3, .inl (cI, 608, .inl (fun z_ => nI ((cpN nw 0 pa (76 * zmu) 76) z_))))] := hD
    refine lv_aload_n hx hb dX7_remember_68 rfl (lv_at hl 0 rfl) ?_
    refine lv_dup hx hb dX7_remember_69 rfl ?_
    refine gf_7_117 hx hb hts hown hK hP 0 rfl rfl dX7_remember_70 ?_
    refine lv_iconst (v := nI 1) hx hb dX7_remember_73 (by decide) ?_
    refine n_iadd hx hb dX7_remember_74  ?_
    refine pf_7_117 hx hb hts hown hK hP hD hS 0 rfl (Nat.le_of_ble_eq_true rfl) dX7_remember_75 (fun H locs hP hD hS => ?_)
    have hP : va_P D vwCl [mO h q (zmu + 1) zmk zmz zms zma zmc, (q 2, .inl (cI, 76, .inl (fun z_ => nI (nw z_)))), (q 3, .inl (cI, 608, .inl (fun z_ => nI ((cpN nw 0 pa (76 * zmu) 76) z_))))] _ := hP
    have hD : va_D A [mO h q (zmu + 1) zmk zmz zms zma zmc, (q 2, .inl (cI, 76, .inl (fun z_ => nI (nw z_)))), (q 3, .inl (cI, 608, .inl (fun z_ => nI ((cpN nw 0 pa (76 * zmu) 76) z_))))] := hD
    refine hret hP hD hS dX7_remember_78 rfl ?_
    rw [rmU_n (by assumption), rmP_n (by assumption)]
  · -- 6 to 9
    have h8_q := c_1
    refine lv_iconst (v := nI 0) hx hb dX7_remember_9 (by decide) ?_
    refine lv_istore_n (lv' := [(1, .int (nI (0))), (0, .ref h)]) hx hb dX7_remember_10 rfl hl (by decide) rfl (fun ls hl => ?_)
    have loop_11 : ∀ (N : Nat) (k : Nat) (g : Nat → Nat), (k ≤ 532) → (g = shI pa k) → (532 - k) < N → ∀ (H : Heap) (locs : List Loc), va_P D vwCl [mO h q zmu zmk zmz zms zma zmc, (q 2, .inl (cI, 76, .inl (fun z_ => nI (nw z_)))), (q 3, .inl (cI, 608, .inl (fun z_ => nI (g z_))))] H → va_D A [mO h q zmu zmk zmz zms zma zmc, (q 2, .inl (cI, 76, .inl (fun z_ => nI (nw z_)))), (q 3, .inl (cI, 608, .inl (fun z_ => nI (g z_))))] → va_S A s.heap H locs → ∀ ls : Array Slot, lv_has ls 2 [(1, .int (nI (k))), (0, .ref h)] → W p l e (rmL 1) s m args below meth c H locs 0 0 Qf (F0 m 11 ls []) := by
      intro N; induction N with
      | zero => intro k g _ _ hm; omega
      | succ N ih_11 =>
        intro k g hk hg hm H locs hP hD hS ls hl
        refine lv_iload_n hx hb dX7_remember_11 rfl (lv_at hl 0 rfl) ?_
        refine lv_sipush (v := nI 532) hx hb dX7_remember_12 (by decide) ?_
        refine n_icmp_ge (tgt := 39) hx hb dX7_remember_15 (by decide) (by omega) (by decide) (fun c_3 => ?_) (fun c_3 => ?_)
        · -- 15 to 39
          refine lv_aload_n hx hb dX7_remember_39 rfl (lv_at hl 1 rfl) ?_
          refine lv_dup hx hb dX7_remember_40 rfl ?_
          refine gf_7_117 hx hb hts hown hK hP 0 rfl rfl dX7_remember_41 ?_
          refine lv_iconst (v := nI 1) hx hb dX7_remember_44 (by decide) ?_
          refine n_isub hx hb dX7_remember_45 (by omega) ?_
          refine pf_7_117 hx hb hts hown hK hP hD hS 0 rfl (Nat.le_of_ble_eq_true rfl) dX7_remember_46 (fun H locs hP hD hS => ?_)
          have hP : va_P D vwCl [mO h q (zmu - 1) zmk zmz zms zma zmc, (q 2, .inl (cI, 76, .inl (fun z_ => nI (nw z_)))), (q 3, .inl (cI, 608, .inl (fun z_ => nI (g z_))))] _ := hP
          have hD : va_D A [mO h q (zmu - 1) zmk zmz zms zma zmc, (q 2, .inl (cI, 76, .inl (fun z_ => nI (nw z_)))), (q 3, .inl (cI, 608, .inl (fun z_ => nI (g z_))))] := hD
          refine lv_aload_n hx hb dX7_remember_49 rfl (lv_at hl 1 rfl) ?_
          refine gf_7_16 hx hb hts hown hK hP 0 rfl rfl dX7_remember_50 ?_
          refine lv_iconst (v := nI 0) hx hb dX7_remember_53 (by decide) ?_
          refine lv_aload_n hx hb dX7_remember_54 rfl (lv_at hl 1 rfl) ?_
          refine gf_7_19 hx hb hts hown hK hP 0 rfl rfl dX7_remember_55 ?_
          refine lv_bipush (v := nI 76) hx hb dX7_remember_58 (by decide) ?_
          refine lv_aload_n hx hb dX7_remember_60 rfl (lv_at hl 1 rfl) ?_
          refine gf_7_117 hx hb hts hown hK hP 0 rfl rfl dX7_remember_61 ?_
          refine n_imul hx hb dX7_remember_64  ?_
          refine cl_7_180 (As := [.ref (q 2), .int (nI (0)), .ref (q 3), .int (nI (76 * (zmu - 1)))]) (rest := []) hx hb hml hts hown (k_X7_copies (by first | assumption | omega) (by first | assumption | omega) (by first | assumption | omega) (by first | assumption | omega)) (by decide) ⟨Nat.zero_le _, Nat.zero_le _⟩ hK hP hD hS hA [1, 2] rfl (by decide) rfl hl.1 rfl (Nat.le_of_ble_eq_true rfl) dX7_remember_65 (fun  u H locs hp_4 hP hD hS => ?_)
          subst hp_4
          have hP : va_P D vwCl [mO h q (zmu - 1) zmk zmz zms zma zmc, (q 2, .inl (cI, 76, .inl (fun z_ => nI (nw z_)))), (q 3, .inl (cI, 608, .inl (fun z_ => nI ((cpN nw 0 g (76 * (zmu - 1)) 76) z_))))] _ := hP
          have hD : va_D A [mO h q (zmu - 1) zmk zmz zms zma zmc, (q 2, .inl (cI, 76, .inl (fun z_ => nI (nw z_)))), (q 3, .inl (cI, 608, .inl (fun z_ => nI ((cpN nw 0 g (76 * (zmu - 1)) 76) z_))))] := hD
          refine lv_aload_n hx hb dX7_remember_68 rfl (lv_at hl 1 rfl) ?_
          refine lv_dup hx hb dX7_remember_69 rfl ?_
          refine gf_7_117 hx hb hts hown hK hP 0 rfl rfl dX7_remember_70 ?_
          refine lv_iconst (v := nI 1) hx hb dX7_remember_73 (by decide) ?_
          refine n_iadd hx hb dX7_remember_74  ?_
          refine pf_7_117 hx hb hts hown hK hP hD hS 0 rfl (Nat.le_of_ble_eq_true rfl) dX7_remember_75 (fun H locs hP hD hS => ?_)
          have hP : va_P D vwCl [mO h q ((zmu - 1) + 1) zmk zmz zms zma zmc, (q 2, .inl (cI, 76, .inl (fun z_ => nI (nw z_)))), (q 3, .inl (cI, 608, .inl (fun z_ => nI ((cpN nw 0 g (76 * (zmu - 1)) 76) z_))))] _ := hP
          have hD : va_D A [mO h q ((zmu - 1) + 1) zmk zmz zms zma zmc, (q 2, .inl (cI, 76, .inl (fun z_ => nI (nw z_)))), (q 3, .inl (cI, 608, .inl (fun z_ => nI ((cpN nw 0 g (76 * (zmu - 1)) 76) z_))))] := hD
          refine hret hP hD hS dX7_remember_78 rfl ?_
          have hk9 : k = 532 := by omega
          rw [rmU_8 (by assumption), rmP_8 (by assumption), hg, hk9]
        · -- 15 to 18
          refine lv_aload_n hx hb dX7_remember_18 rfl (lv_at hl 1 rfl) ?_
          refine gf_7_19 hx hb hts hown hK hP 0 rfl rfl dX7_remember_19 ?_
          refine lv_iload_n hx hb dX7_remember_22 rfl (lv_at hl 0 rfl) ?_
          refine lv_aload_n hx hb dX7_remember_23 rfl (lv_at hl 1 rfl) ?_
          refine gf_7_19 hx hb hts hown hK hP 0 rfl rfl dX7_remember_24 ?_
          refine lv_iload_n hx hb dX7_remember_27 rfl (lv_at hl 0 rfl) ?_
          refine lv_bipush (v := nI 76) hx hb dX7_remember_28 (by decide) ?_
          refine n_iadd hx hb dX7_remember_30  ?_
          refine n_iald hx hb hK hP 2 0 rfl rfl dX7_remember_31 (by decide) (by omega) ?_
          refine n_iast hx hb hK hP hD hS 2 0 rfl rfl dX7_remember_32 (by decide) (by omega) (fun H locs hP hD hS => ?_)
          have hP : va_P D vwCl [mO h q zmu zmk zmz zms zma zmc, (q 2, .inl (cI, 76, .inl (fun z_ => nI (nw z_)))), (q 3, .inl (cI, 608, .inl (fun z_ => nI ((up1 g k (g (k + 76))) z_))))] _ := hP
          have hD : va_D A [mO h q zmu zmk zmz zms zma zmc, (q 2, .inl (cI, 76, .inl (fun z_ => nI (nw z_)))), (q 3, .inl (cI, 608, .inl (fun z_ => nI ((up1 g k (g (k + 76))) z_))))] := hD
          refine lv_iinc (v := nI (k + 1)) (lv' := [(1, .int (nI (k + 1))), (0, .ref h)]) hx hb dX7_remember_33 hl (k := 0) rfl (n_inc _ 1) (by decide) rfl (fun ls hl => ?_)
          refine lv_goto (tgt := 11) hx hb dX7_remember_36 (by decide) ?_
          exact ih_11 (k + 1) (up1 g k (g (k + 76))) (by omega) (by rw [hg]; exact sh_s pa k) (by omega) _ _ hP hD hS _ (lv_sub hl [0, 1] rfl)
    exact loop_11 _ 0 pa (by omega) (sh_0 pa).symm (Nat.lt_succ_self _) _ _ hP hD hS _ (lv_sub hl [0, 1] rfl)
set_option maxHeartbeats 4000000 in
set_option maxRecDepth 100000 in
theorem k_X7_layAside {l : Launch} {D : va_G} {cI cC cB : ClassId} {h : Nat} {q : Nat → Nat} {zmu zmk zmz zms zma zmc : Nat} {nw f : Nat → Nat} : MV l yX7_layAside cX7_layAside 1 none 1 D (Ty3 cI cC cB) [.ref h] [mO h q zmu zmk zmz zms zma zmc, (q 2, .inl (cI, 76, .inl (fun z_ => nI (nw z_)))), (q 9, .inl (cI, 76, .inl (fun z_ => nI (f z_))))] (fun (u : va_W) => (u = [mO h q zmu zmk zmz zms zma zmc, (q 2, .inl (cI, 76, .inl (fun z_ => nI (nw z_)))), (q 9, .inl (cI, 76, .inl (fun z_ => nI (nw z_))))])) := by
  intro sz
  refine MV.walk (by decide +kernel) (Nat.le_of_ble_eq_true rfl) ?_
  intro p e s m args below meth c A Qf hx hb hml hts hown hret hK hP hD hS hA ls hl
  have hown : s.vm.findClass RX7 = some m.cls := hown
  have hl : lv_has ls 1 [(0, .ref h)] := hl
  have hP : va_P D vwCl [mO h q zmu zmk zmz zms zma zmc, (q 2, .inl (cI, 76, .inl (fun z_ => nI (nw z_)))), (q 9, .inl (cI, 76, .inl (fun z_ => nI (f z_))))] s.heap := hP
  have hD : va_D A [mO h q zmu zmk zmz zms zma zmc, (q 2, .inl (cI, 76, .inl (fun z_ => nI (nw z_)))), (q 9, .inl (cI, 76, .inl (fun z_ => nI (f z_))))] := hD
  refine lv_aload_n hx hb dX7_layAside_0 rfl (lv_at hl 0 rfl) ?_
  refine gf_7_16 hx hb hts hown hK hP 0 rfl rfl dX7_layAside_1 ?_
  refine lv_iconst (v := nI 0) hx hb dX7_layAside_4 (by decide) ?_
  refine lv_aload_n hx hb dX7_layAside_5 rfl (lv_at hl 0 rfl) ?_
  refine gf_7_37 hx hb hts hown hK hP 0 rfl rfl dX7_layAside_6 ?_
  refine lv_iconst (v := nI 0) hx hb dX7_layAside_9 (by decide) ?_
  refine cl_7_180 (As := [.ref (q 2), .int (nI (0)), .ref (q 9), .int (nI (0))]) (rest := []) hx hb hml hts hown (k_X7_copies (i := 0) (j := 0) (n1 := 76) (n2 := 76) (by decide) (by decide) (by decide) (by decide)) (by decide) ⟨Nat.zero_le _, Nat.zero_le _⟩ hK hP hD hS hA [1, 2] rfl (by decide) rfl hl.1 rfl (Nat.le_of_ble_eq_true rfl) dX7_layAside_10 (fun  u H locs hp_1 hP hD hS => ?_)
  subst hp_1
  have hP : va_P D vwCl [mO h q zmu zmk zmz zms zma zmc, (q 2, .inl (cI, 76, .inl (fun z_ => nI (nw z_)))), (q 9, .inl (cI, 76, .inl (fun z_ => nI ((cpN nw 0 f 0 76) z_))))] _ := hP
  have hD : va_D A [mO h q zmu zmk zmz zms zma zmc, (q 2, .inl (cI, 76, .inl (fun z_ => nI (nw z_)))), (q 9, .inl (cI, 76, .inl (fun z_ => nI ((cpN nw 0 f 0 76) z_))))] := hD
  have hP := arr_eq (g := nw) hP 2 rfl (fun j hj => cp_all _ _ j hj)
  have hD := arr_eqD (g := nw) hD 2 rfl
  have hP : va_P D vwCl [mO h q zmu zmk zmz zms zma zmc, (q 2, .inl (cI, 76, .inl (fun z_ => nI (nw z_)))), (q 9, .inl (cI, 76, .inl (fun z_ => nI (nw z_))))] _ := hP
  have hD : va_D A [mO h q zmu zmk zmz zms zma zmc, (q 2, .inl (cI, 76, .inl (fun z_ => nI (nw z_)))), (q 9, .inl (cI, 76, .inl (fun z_ => nI (nw z_))))] := hD
  refine hret hP hD hS dX7_layAside_13 rfl ?_
  rfl

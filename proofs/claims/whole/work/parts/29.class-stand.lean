
section RVL
variable {eu : Nat → Nat} {k j c : Nat}
theorem rc_a (h : j = k) : rcB eu k j = false := decide_eq_false (fun q => q.1 h)
theorem rc_b (h : (eu j &&& eu k) &&& 63 = 0) : rcB eu k j = false := decide_eq_false (fun q => q.2.1 h)
theorem rc_c (h : anN (eu j &&& eu k) 63 ≠ 0) : rcB eu k j = false := decide_eq_false (fun q => h q.2.2)
theorem rc_d (h : j ≠ k) (h2 : (eu j &&& eu k) &&& 63 ≠ 0) (h3 : anN (eu j &&& eu k) 63 = 0) : rcB eu k j = true := decide_eq_true ⟨h, h2, h3⟩
theorem rv_t (h : rcB eu k j = true) : rvN eu k (j + 1) = rvN eu k j ||| 1 * 2 ^ j := if_pos h
theorem rv_f (h : rcB eu k j = false) : rvN eu k (j + 1) = rvN eu k j := if_neg (by rw [h]; decide)
theorem rv_s {v1 : Nat → Nat} (h : ∀ t, t < k → v1 t = rvN eu t c) : ∀ t, t < k + 1 → up1 v1 k (rvN eu k c) t = rvN eu t c := by
  intro t ht
  by_cases h2 : t = k
  · subst h2; rw [up1_s]
  · rw [up1_n h2]; exact h t (by omega)
end RVL
section MOL
variable {rv : Nat → Nat} {d lf : Nat}
theorem mo_0 (h : lf = 0) : 0 = moN rv d lf := by
  cases d with
  | zero => rfl
  | succ d => exact (if_pos h).symm
theorem mo_a (h0 : lf ≠ 0) (h : anN (anN lf (1 * 2 ^ lwN lf)) (rv (lwN lf)) = anN lf (1 * 2 ^ lwN lf)) : 1 + moN rv d (anN (anN lf (1 * 2 ^ lwN lf)) (rv (lwN lf))) = moN rv (d + 1) lf := by
  simp only [moN]; rw [if_neg h0, if_pos h]
theorem mo_b (h0 : lf ≠ 0) (h : anN (anN lf (1 * 2 ^ lwN lf)) (rv (lwN lf)) ≠ anN lf (1 * 2 ^ lwN lf)) : max (1 + moN rv d (anN (anN lf (1 * 2 ^ lwN lf)) (rv (lwN lf)))) (moN rv d (anN lf (1 * 2 ^ lwN lf))) = moN rv (d + 1) lf := by
  simp only [moN]; rw [if_neg h0, if_neg h]
end MOL
/-- the most that stand together -/
def tgN (bx nw : Nat → Nat) (y : Nat) : Nat := bfN (clB bx nw) (nw 2) (hbN nw y (nw 2)) (hbN nw y (nw 2) + 1)
def tgA (bx nw : Nat → Nat) (x : Int32) : Int32 := if inN x (bx 1) = true then nI (tgN bx nw (ix x)) else -1
theorem hb_tb (nw : Nat → Nat) (y k : Nat) : ∀ n, Nat.testBit (hbN nw y n) k = (decide (k < n) && pyB nw y k)
  | 0 => by simp [hbN]
  | n + 1 => by
    simp only [hbN]
    rw [Nat.testBit_or, hb_tb nw y k n]
    by_cases he : k = n
    · subst he
      by_cases hy : nw (40 + k) = y
      · rw [if_pos hy, tb_one]; simp [pyB, hy]
      · rw [if_neg hy]; simp [pyB, hy]
    · have h1 : decide (k < n + 1) = decide (k < n) := decide_eq_decide.mpr (by omega)
      have h2 : Nat.testBit (if nw (40 + n) = y then 1 * 2 ^ n else 0) k = false := by
        split
        · rw [tb_one]; exact decide_eq_false he
        · exact Nat.zero_testBit k
      rw [h1, h2, Bool.or_false]
section TGL
variable {bx nw eu cv rv2 : Nat → Nat} {y c j : Nat}
theorem tg_e (hB : BxOk bx) (hN : HdOk bx nw) (hD : DsOk nw) (hE : EaR bx nw y eu cv c) (hr : ∀ t, t < c → rv2 t = rvN eu t c) : moN rv2 12 (1 * 2 ^ c - 1) = tgN bx nw y := by
  have hc := ear_c hN hE
  have h12 := hN.h
  have hl : ∀ k, Nat.testBit (1 * 2 ^ c - 1) k = decide (k < c) := fun k => by rw [Nat.one_mul, Nat.testBit_two_pow_sub_one]
  have hg : ∀ a b, a < c → b < c → (Nat.testBit (rv2 a) b = true ↔ a ≠ b ∧ clI bx (nw (16 + enP (pyB nw y) (nw 2) a)) (nw (16 + enP (pyB nw y) (nw 2) b)) (bx 0) = true) := by
    intro a b ha hb
    have ea := ep_ok (pyB nw y) (nw 2) a (by rw [← hE.1]; exact ha)
    have eb := ep_ok (pyB nw y) (nw 2) b (by rw [← hE.1]; exact hb)
    have ya : nw (40 + enP (pyB nw y) (nw 2) a) = y := of_decide_eq_true ea.2.1
    have yb : nw (40 + enP (pyB nw y) (nw 2) b) = y := of_decide_eq_true eb.2.1
    rw [hr a ha, tb_rv, Bool.and_eq_true, decide_eq_true_eq]
    simp only [rcB, decide_eq_true_eq]
    rw [hE.2.1 a ha, hE.2.1 b hb]
    by_cases hab : a = b
    · subst hab; simp
    · have hne : nw (16 + enP (pyB nw y) (nw 2) b) ≠ nw (16 + enP (pyB nw y) (nw 2) a) := by
        rcases Nat.lt_or_ge a b with h | h
        · exact fun q => hD _ _ (ep_lt h (by rw [← hE.1]; exact hb)) eb.1 (ya.trans yb.symm) q.symm
        · exact hD _ _ (ep_lt (show b < a by omega) (by rw [← hE.1]; exact ha)) ea.1 (yb.trans ya.symm)
      have h1 := rc_cl hB (hN.k _ eb.1).1 (hN.k _ ea.1).1 hne
      have hs : ∀ p q n, clI bx p q n = clI bx q p n := by
        intro p q n
        induction n with
        | zero => simp only [clI]; exact decide_eq_decide.mpr ⟨fun h => ⟨h.1, h.2.symm⟩, fun h => ⟨h.1, h.2.symm⟩⟩
        | succ n ih =>
          simp only [clI]
          rw [ih]
          have : decide (tooN bx p n ≠ tooN bx q n) = decide (tooN bx q n ≠ tooN bx p n) := decide_eq_decide.mpr ⟨fun h q => h q.symm, fun h q => h q.symm⟩
          rw [this]
      rw [hs, ← h1]
      constructor
      · rintro ⟨_, _, h3⟩; exact ⟨hab, h3⟩
      · rintro ⟨_, h3⟩; exact ⟨hb, fun q => hab q.symm, h3⟩
  have hsy : ∀ a b, a < c → b < c → Nat.testBit (rv2 a) b = Nat.testBit (rv2 b) a := by
    intro a b ha hb
    have hs : ∀ p q n, clI bx p q n = clI bx q p n := by
      intro p q n
      induction n with
      | zero => simp only [clI]; exact decide_eq_decide.mpr ⟨fun h => ⟨h.1, h.2.symm⟩, fun h => ⟨h.1, h.2.symm⟩⟩
      | succ n ih =>
        simp only [clI]
        rw [ih]
        have : decide (tooN bx p n ≠ tooN bx q n) = decide (tooN bx q n ≠ tooN bx p n) := decide_eq_decide.mpr ⟨fun h q => h q.symm, fun h q => h q.symm⟩
        rw [this]
    rw [Bool.eq_iff_iff, hg a b ha hb, hg b a hb ha, hs]
    exact ⟨fun h => ⟨fun q => h.1 q.symm, h.2⟩, fun h => ⟨fun q => h.1 q.symm, h.2⟩⟩
  have h1 := mo_is (rv := rv2) (N := c) hc hsy 12 (1 * 2 ^ c - 1) (all_l hc) (fun k hk => by rw [hl, decide_eq_true_eq] at hk; exact hk) (Nat.le_trans (cp_le _ c) hc)
  have h2 : IsM (fun i j => clB bx nw (enP (pyB nw y) (nw 2) i) (enP (pyB nw y) (nw 2) j)) (cnP (pyB nw y) (nw 2)) (fun _ => true) (moN rv2 12 (1 * 2 ^ c - 1)) := by
    rw [← hE.1]
    refine ism_cg (fun k hk => by rw [hl]; exact decide_eq_true hk) (fun a b hab hb => ?_) h1
    rw [Bool.eq_iff_iff, hg a b (by omega) hb]
    exact ⟨fun h => h.2, fun h => ⟨by omega, h⟩⟩
  have h3 := bf_is (G := clB bx nw) (N := nw 2) (all := hbN nw y (nw 2)) h12 (fun k hk => by rw [hb_tb, Bool.and_eq_true, decide_eq_true_eq] at hk; exact hk.1)
  refine ism_u (tr_is h2) (ism_cg (fun k hk => ?_) (fun _ _ _ _ => rfl) h3)
  rw [hb_tb]; simp [hk]
theorem tg_t {x : Int32} (hB : BxOk bx) (hN : HdOk bx nw) (hD : DsOk nw) (h : inN x (bx 1) = true) (hE : EaR bx nw j eu cv c) (hj : ix x = j) (hr : ∀ t, t < c → rv2 t = rvN eu t c) : nI (moN rv2 12 (1 * 2 ^ c - 1)) = tgA bx nw x := by
  simp only [tgA]; rw [if_pos h, hj, tg_e hB hN hD hE hr]
end TGL
/-! those that share the first wheel's tooth -/
theorem pc_12 (v : Nat) : pcN v ≤ 12 := by
  show pcK 12 v ≤ 12
  rw [pc_cn]; exact cp_le _ 12
def shN (cv : Nat → Nat) : Nat → Nat
  | 0 => 0
  | t + 1 => shN cv t + (if 1 < pcN (cv (0 * 6 + t)) then pcN (cv (0 * 6 + t)) else 0)
theorem sh_t {cv : Nat → Nat} {t : Nat} (h : 1 < pcN (cv (0 * 6 + t))) : shN cv t + pcN (cv (0 * 6 + t)) = shN cv (t + 1) := by
  simp only [shN]; rw [if_pos (by omega)]
theorem sh_f {cv : Nat → Nat} {t : Nat} (h : pcN (cv (0 * 6 + t)) ≤ 1) : shN cv t + 0 = shN cv (t + 1) := by
  simp only [shN]; rw [if_neg (by omega)]
def liI (bx nw : Nat → Nat) (y k : Nat) : Nat → Bool
  | 0 => false
  | e + 1 => liI bx nw y k e || (decide (e ≠ k ∧ nw (40 + e) = y ∧ nw (40 + k) = y) && decide (tooN bx (nw (16 + e)) 0 = tooN bx (nw (16 + k)) 0))
def liB (bx nw : Nat → Nat) (y k : Nat) : Bool := liI bx nw y k (nw 2)
def liN (bx nw : Nat → Nat) (y : Nat) : Nat := cnP (liB bx nw y) (nw 2)
theorem li_iff {bx nw : Nat → Nat} {y k : Nat} : ∀ n, liI bx nw y k n = true ↔ ∃ e, e < n ∧ (e ≠ k ∧ nw (40 + e) = y ∧ nw (40 + k) = y) ∧ tooN bx (nw (16 + e)) 0 = tooN bx (nw (16 + k)) 0
  | 0 => by simp [liI]
  | n + 1 => by
    simp only [liI, Bool.or_eq_true, Bool.and_eq_true, decide_eq_true_eq, li_iff n]
    constructor
    · rintro (⟨e, h1, h2⟩ | h)
      · exact ⟨e, by omega, h2⟩
      · exact ⟨n, by omega, h⟩
    · rintro ⟨e, h1, h2⟩
      by_cases he : e = n
      · subst he; exact Or.inr h2
      · exact Or.inl ⟨e, by omega, h2⟩
theorem li_12 {bx nw : Nat → Nat} {y : Nat} (h : nw 2 ≤ 12) : liN bx nw y ≤ 12 := Nat.le_trans (cp_le _ _) h
theorem cp_add {A B C : Nat → Bool} : ∀ n, (∀ k, k < n → b2n (A k) = b2n (B k) + b2n (C k)) → cnP A n = cnP B n + cnP C n
  | 0, _ => rfl
  | n + 1, h => by
    have h1 := cp_add (A := A) (B := B) (C := C) n (fun k hk => h k (by omega))
    have h2 := h n (by omega)
    simp only [cnP]; omega
section SHL
variable {bx nw eu cv : Nat → Nat} {y c : Nat}
theorem ear_v (hN : HdOk bx nw) (hE : EaR bx nw y eu cv c) : ∀ t, t < 24 → cv t < 4096 := by
  intro t ht
  have hc := ear_c hN hE
  rw [hE.2.2 t ht]
  refine Nat.lt_of_lt_of_le (Nat.lt_pow_two_of_testBit (n := 12) _ (fun i hi => ?_)) (by decide)
  rw [tb_hv]
  have : ¬ i < c := by omega
  simp [this]
theorem sh_1 (hB : BxOk bx) (hN : HdOk bx nw) (hE : EaR bx nw y eu cv c) {t : Nat} (ht : t < 6) : pcN (cv (0 * 6 + t)) = cnP (fun k => pyB nw y k && decide (tooN bx (nw (16 + k)) 0 = t)) (nw 2) := by
  have hc := ear_c hN hE
  have hw := hB.w
  rw [show 0 * 6 + t = t by omega, hE.2.2 t (by omega)]
  rw [pc_big hc (fun k hk => by rw [tb_hv, Bool.and_eq_true, decide_eq_true_eq] at hk; exact hk.1)]
  rw [tr_cn (P := pyB nw y) (S := fun k => pyB nw y k && decide (tooN bx (nw (16 + k)) 0 = t)) (nw 2) (fun k _ hk => by simp only [Bool.and_eq_true] at hk; exact hk.1), ← hE.1]
  refine cp_eq c (fun i hi => ?_)
  have h1 := ep_ok (pyB nw y) (nw 2) i (by rw [← hE.1]; exact hi)
  have h2 := ear_hs hB hE hi (show t < 24 by omega)
  simp only [hsE] at h2
  rw [tb_hv, h2, h1.2.1, Bool.true_and, decide_eq_true hi, Bool.true_and]
  simp only [hsN]
  rw [Nat.div_eq_of_lt ht, Nat.mod_eq_of_lt ht]
  exact decide_eq_decide.mpr ⟨fun h => h.2, fun h => ⟨by omega, h⟩⟩
theorem sh_2 {P : Nat → Bool} {z : Nat → Nat} {wd : Nat → Bool} {N : Nat} : ∀ n, cnP (fun k => P k && (decide (z k < n + 1) && wd (z k))) N = cnP (fun k => P k && (decide (z k < n) && wd (z k))) N + (if wd n = true then cnP (fun k => P k && decide (z k = n)) N else 0) := by
  intro n
  have h1 : (if wd n = true then cnP (fun k => P k && decide (z k = n)) N else 0) = cnP (fun k => wd n && (P k && decide (z k = n))) N := by
    cases hb : wd n with
    | true => rw [if_pos rfl]; exact cp_eq N (fun k _ => by simp)
    | false => rw [if_neg (by decide)]; exact (cp_z N (fun k _ => by simp)).symm
  rw [h1]
  refine cp_add N (fun k _ => ?_)
  cases hp : P k with
  | false => simp [b2n]
  | true =>
    by_cases hz : z k = n
    · rw [hz]
      have e1 : decide (n < n + 1) = true := decide_eq_true (by omega)
      have e2 : decide (n < n) = false := decide_eq_false (by omega)
      rw [e1, e2]
      cases wd n <;> simp [b2n]
    · have e1 : decide (z k < n + 1) = decide (z k < n) := decide_eq_decide.mpr (by omega)
      rw [e1]; simp [hz, b2n]
theorem sh_e (hB : BxOk bx) (hN : HdOk bx nw) (hE : EaR bx nw y eu cv c) : shN cv 6 = liN bx nw y := by
  have hw := hB.w
  have h1 : ∀ n, n ≤ 6 → shN cv n = cnP (fun k => pyB nw y k && (decide (tooN bx (nw (16 + k)) 0 < n) && decide (1 < cnP (fun k_ => pyB nw y k_ && decide (tooN bx (nw (16 + k_)) 0 = tooN bx (nw (16 + k)) 0)) (nw 2)))) (nw 2) := by
    intro n
    induction n with
    | zero => intro _; exact (cp_z (nw 2) (fun k _ => by simp)).symm
    | succ n ih =>
      intro hn
      rw [sh_2 (P := pyB nw y) (z := fun k => tooN bx (nw (16 + k)) 0) (wd := fun t => decide (1 < cnP (fun k_ => pyB nw y k_ && decide (tooN bx (nw (16 + k_)) 0 = t)) (nw 2))) n, ← ih (by omega)]
      simp only [shN]
      rw [sh_1 hB hN hE (show n < 6 by omega)]
      simp only [decide_eq_true_eq]
  rw [h1 6 (Nat.le_refl _)]
  refine cp_eq (nw 2) (fun k hk => ?_)
  have hz := hB.too (nw (16 + k)) 0 (by omega)
  rw [decide_eq_true hz, Bool.true_and, Bool.eq_iff_iff, Bool.and_eq_true, decide_eq_true_eq]
  simp only [liB]
  rw [li_iff]
  constructor
  · rintro ⟨hp, h2⟩
    have h3 : cnP _ (nw 2) = _ := cp_dl (P := fun k_ => pyB nw y k_ && decide (tooN bx (nw (16 + k_)) 0 = tooN bx (nw (16 + k)) 0)) (f := k) (by simp [hp]) (nw 2) hk
    rw [h3] at h2
    obtain ⟨e, h4, h5⟩ := (cp_pos (nw 2)).mp (show 0 < cnP (dlB (fun k_ => pyB nw y k_ && decide (tooN bx (nw (16 + k_)) 0 = tooN bx (nw (16 + k)) 0)) k) (nw 2) by omega)
    simp only [dlB, Bool.and_eq_true, decide_eq_true_eq] at h5
    exact ⟨e, h4, ⟨h5.2, of_decide_eq_true h5.1.1, of_decide_eq_true hp⟩, h5.1.2⟩
  · rintro ⟨e, h2, ⟨h3, h4, h5⟩, h6⟩
    have hp : pyB nw y k = true := decide_eq_true h5
    refine ⟨hp, ?_⟩
    have h7 : cnP _ (nw 2) = _ := cp_dl (P := fun k_ => pyB nw y k_ && decide (tooN bx (nw (16 + k_)) 0 = tooN bx (nw (16 + k)) 0)) (f := k) (by simp [hp]) (nw 2) hk
    rw [h7]
    have h8 := (cp_pos (P := dlB (fun k_ => pyB nw y k_ && decide (tooN bx (nw (16 + k_)) 0 = tooN bx (nw (16 + k)) 0)) k) (nw 2)).mpr ⟨e, h2, by
      have hpe : pyB nw y e = true := decide_eq_true h4
      simp [dlB, hpe, h3, h6]⟩
    omega
end SHL
/-! what is caught -/
def cuV (z a s : Nat) : Nat := if z = 0 then (10 - a) ^ s / Nat.gcd ((10 - a) ^ s) (10 ^ s) else 10 ^ s / Nat.gcd ((10 - a) ^ s) (10 ^ s)
def cuA (bx nw : Nat → Nat) (x y v : Int32) : Int64 := if inN x (bx 1) = true then (if inR y 0 10 = true then (if inR v 0 1 = true then lN (cuV (ix v) (ix y) (liN bx nw (ix x))) else -1) else -1) else -1
theorem cu_0 : ∀ a, a < 11 → ∀ s, s < 13 → ((10 - a) / Nat.gcd 10 (10 - a)) ^ s = (10 - a) ^ s / Nat.gcd ((10 - a) ^ s) (10 ^ s) ∧ (10 / Nat.gcd 10 (10 - a)) ^ s = 10 ^ s / Nat.gcd ((10 - a) ^ s) (10 ^ s) := by decide +kernel
theorem cu_p {P b s z : Nat} (h : s = 0) (hP : P * b ^ s = b ^ z) : P = b ^ z := by
  subst h; rw [Nat.pow_zero, Nat.mul_one] at hP; exact hP
theorem cu_v0 {P z n s : Nat} (hz : z = 0) (hn : n ≤ 10) (hs : s ≤ 12) (hP : P = ((10 - n) / Nat.gcd 10 (10 - n)) ^ s) : P = cuV z n s := by
  simp only [cuV]; rw [if_pos hz, hP]; exact (cu_0 n (by omega) s (by omega)).1
theorem cu_v1 {P z n s : Nat} (hz : z ≠ 0) (hn : n ≤ 10) (hs : s ≤ 12) (hP : P = (10 / Nat.gcd 10 (10 - n)) ^ s) : P = cuV z n s := by
  simp only [cuV]; rw [if_neg hz, hP]; exact (cu_0 n (by omega) s (by omega)).2
section CUL
variable {bx nw : Nat → Nat} {x y v : Int32}
theorem cu_n1 (h : inN x (bx 1) = false) : (-1 : Int64) = cuA bx nw x y v := by
  simp only [cuA]; rw [if_neg (by rw [h]; decide)]
theorem cu_n2 (h : inR y 0 10 = false) : (-1 : Int64) = cuA bx nw x y v := by
  simp only [cuA]; rw [if_neg (show ¬ inR y 0 10 = true by rw [h]; decide)]; split <;> rfl
theorem cu_n3 (h : inR v 0 1 = false) : (-1 : Int64) = cuA bx nw x y v := by
  simp only [cuA]; rw [if_neg (show ¬ inR v 0 1 = true by rw [h]; decide)]; split
  · split <;> rfl
  · rfl
theorem cu_t {j n k P : Nat} (h1 : inN x (bx 1) = true) (h2 : inR y 0 10 = true) (h3 : inR v 0 1 = true) (hj : ix x = j) (hn : ix y = n) (hk : ix v = k) (hP : P = cuV k n (liN bx nw j)) : lN P = cuA bx nw x y v := by
  simp only [cuA]; rw [if_pos h1, if_pos h2, if_pos h3, hj, hn, hk, hP]
end CUL

set_option maxHeartbeats 4000000 in
set_option maxRecDepth 100000 in
theorem k_X1_rivalsOf {l : Launch} {D : va_G} {cI cC cB : ClassId} {xe ec : Nat} {oq : Nat → Nat} {eu : Nat → Nat} {k : Nat} (hk : k < ec) (hec : ec ≤ 12) (heu : ∀ i, i < ec → eu i < 16777216) : MI l yX1_rivalsOf cX1_rivalsOf 5 (some .int) 1 D (Ty3 cI cC cB) [.ref xe, .int (nI (k))] [eO xe oq ec, (oq 0, .inl (cI, 12, .inl (fun z_ => nI (eu z_))))] (fun r u => (r = nI (rvN eu k ec) ∧ u = [eO xe oq ec, (oq 0, .inl (cI, 12, .inl (fun z_ => nI (eu z_))))])) := by
  intro sz
  refine MI.walk (by decide +kernel) (Nat.le_of_ble_eq_true rfl) ?_
  intro p e s m args below meth c A Qf hx hb hml hts hown hret hK hP hD hS hA ls hl
  have hown : s.vm.findClass RX1 = some m.cls := hown
  have hl : lv_has ls 5 [(0, .ref xe), (1, .int (nI (k)))] := hl
  have hP : va_P D vwCl [eO xe oq ec, (oq 0, .inl (cI, 12, .inl (fun z_ => nI (eu z_))))] s.heap := hP
  have hD : va_D A [eO xe oq ec, (oq 0, .inl (cI, 12, .inl (fun z_ => nI (eu z_))))] := hD
  refine lv_iconst (v := nI 0) hx hb dX1_rivalsOf_0 (by decide) ?_
  refine lv_istore_n (lv' := [(2, .int (nI (0))), (0, .ref xe), (1, .int (nI (k)))]) hx hb dX1_rivalsOf_1 rfl hl (by decide) rfl (fun ls hl => ?_)
  refine lv_iconst (v := nI 0) hx hb dX1_rivalsOf_2 (by decide) ?_
  refine lv_istore_n (lv' := [(3, .int (nI (0))), (2, .int (nI (0))), (0, .ref xe), (1, .int (nI (k)))]) hx hb dX1_rivalsOf_3 rfl hl (by decide) rfl (fun ls hl => ?_)
  have loop_4 : ∀ (N : Nat) (v : Nat) (j : Nat), (j ≤ ec) → (v = rvN eu k j) → (ec - j) < N → ∀ (H : Heap) (locs : List Loc), va_P D vwCl [eO xe oq ec, (oq 0, .inl (cI, 12, .inl (fun z_ => nI (eu z_))))] H → va_D A [eO xe oq ec, (oq 0, .inl (cI, 12, .inl (fun z_ => nI (eu z_))))] → va_S A s.heap H locs → ∀ ls : Array Slot, lv_has ls 5 [(3, .int (nI (j))), (2, .int (nI (v))), (0, .ref xe), (1, .int (nI (k)))] → W p l e (rmL 1) s m args below meth c H locs 0 0 Qf (F0 m 4 ls []) := by
    intro N; induction N with
    | zero => intro v j _ _ hm; omega
    | succ N ih_4 =>
      intro v j hj hv hm H locs hP hD hS ls hl
      refine lv_iload_n hx hb dX1_rivalsOf_4 rfl (lv_at hl 0 rfl) ?_
      refine lv_aload_n hx hb dX1_rivalsOf_5 rfl (lv_at hl 2 rfl) ?_
      refine gf_1_21 hx hb hts hown hK hP 0 rfl rfl dX1_rivalsOf_6 ?_
      refine n_icmp_ge (tgt := 64) hx hb dX1_rivalsOf_9 (by decide) (by omega) (by omega) (fun c_1 => ?_) (fun c_1 => ?_)
      · -- 9 to 64
        refine lv_iload_n hx hb dX1_rivalsOf_64 rfl (lv_at hl 1 rfl) ?_
        refine hret hP hD hS dX1_rivalsOf_65 rfl rfl ?_
        exact ⟨by rw [hv, show j = ec by omega], rfl⟩
      · -- 9 to 12
        refine lv_aload_n hx hb dX1_rivalsOf_12 rfl (lv_at hl 2 rfl) ?_
        refine gf_1_9 hx hb hts hown hK hP 0 rfl rfl dX1_rivalsOf_13 ?_
        refine lv_iload_n hx hb dX1_rivalsOf_16 rfl (lv_at hl 0 rfl) ?_
        refine cl_1_33 (As := [.ref (oq 0), .int (nI (j))]) (rest := []) hx hb hml hts hown (k_X6_at (by first | assumption | omega) (by first | assumption | omega)) (by decide) ⟨Nat.zero_le _, Nat.zero_le _⟩ hK hP hD hS hA [1] rfl (by decide) rfl hl.1 rfl (Nat.le_of_ble_eq_true rfl) dX1_rivalsOf_17 (fun r_2 u H locs hp_3 hP hD hS => ?_)
        obtain ⟨rfl, rfl⟩ := hp_3
        have hP : va_P D vwCl [eO xe oq ec, (oq 0, .inl (cI, 12, .inl (fun z_ => nI (eu z_))))] _ := hP
        have hD : va_D A [eO xe oq ec, (oq 0, .inl (cI, 12, .inl (fun z_ => nI (eu z_))))] := hD
        refine lv_aload_n hx hb dX1_rivalsOf_20 rfl (lv_at hl 2 rfl) ?_
        refine gf_1_9 hx hb hts hown hK hP 0 rfl rfl dX1_rivalsOf_21 ?_
        refine lv_iload_n hx hb dX1_rivalsOf_24 rfl (lv_at hl 3 rfl) ?_
        refine cl_1_33 (As := [.ref (oq 0), .int (nI (k))]) (rest := [.int (nI (eu j))]) hx hb hml hts hown (k_X6_at (by first | assumption | omega) (by first | assumption | omega)) (by decide) ⟨Nat.zero_le _, Nat.zero_le _⟩ hK hP hD hS hA [1] rfl (by decide) rfl hl.1 rfl (Nat.le_of_ble_eq_true rfl) dX1_rivalsOf_25 (fun r_4 u H locs hp_5 hP hD hS => ?_)
        obtain ⟨rfl, rfl⟩ := hp_5
        have hP : va_P D vwCl [eO xe oq ec, (oq 0, .inl (cI, 12, .inl (fun z_ => nI (eu z_))))] _ := hP
        have hD : va_D A [eO xe oq ec, (oq 0, .inl (cI, 12, .inl (fun z_ => nI (eu z_))))] := hD
        refine n_iand hx hb dX1_rivalsOf_28  ?_
        have hcm_q : eu j &&& eu k < 16777216 := by have := Nat.and_le_left (n := eu j) (m := eu k); have := heu j (by omega); omega
        refine lv_istore (lv' := [(4, .int (nI ((eu j) &&& (eu k)))), (3, .int (nI (j))), (2, .int (nI (v))), (0, .ref xe), (1, .int (nI (k)))]) hx hb dX1_rivalsOf_29 hl (by decide) rfl (fun ls hl => ?_)
        refine lv_iload_n hx hb dX1_rivalsOf_31 rfl (lv_at hl 1 rfl) ?_
        refine lv_iload_n hx hb dX1_rivalsOf_32 rfl (lv_at hl 4 rfl) ?_
        refine n_icmp_eq (tgt := 58) hx hb dX1_rivalsOf_33 (by decide) (by omega) (by omega) (fun c_6 => ?_) (fun c_6 => ?_)
        · -- 33 to 58
          have hrc_q := rc_a (eu := eu) c_6
          refine lv_iinc (v := nI (j + 1)) (lv' := [(3, .int (nI (j + 1))), (4, .int (nI ((eu j) &&& (eu k)))), (2, .int (nI (v))), (0, .ref xe), (1, .int (nI (k)))]) hx hb dX1_rivalsOf_58 hl (k := 1) rfl (n_inc _ 1) (by decide) rfl (fun ls hl => ?_)
          refine lv_goto (tgt := 4) hx hb dX1_rivalsOf_61 (by decide) ?_
          exact ih_4 v (j + 1) (by omega) (by rw [hv]; first | exact (rv_t hrc_q).symm | exact (rv_f hrc_q).symm) (by omega) _ _ hP hD hS _ (lv_sub hl [0, 2, 3, 4] rfl)
        · -- 33 to 36
          have hne_q := c_6
          refine lv_iload hx hb dX1_rivalsOf_36 (lv_at hl 0 rfl) ?_
          refine lv_bipush (v := nI 63) hx hb dX1_rivalsOf_38 (by decide) ?_
          refine n_iand hx hb dX1_rivalsOf_40  ?_
          have hcl_q := Nat.and_le_left (n := eu j &&& eu k) (m := 63)
          refine n_if_eq (tgt := 58) hx hb dX1_rivalsOf_41 (by decide) (by omega) (fun c_7 => ?_) (fun c_7 => ?_)
          · -- 41 to 58
            have hrc_q := rc_b c_7
            refine lv_iinc (v := nI (j + 1)) (lv' := [(3, .int (nI (j + 1))), (4, .int (nI ((eu j) &&& (eu k)))), (2, .int (nI (v))), (0, .ref xe), (1, .int (nI (k)))]) hx hb dX1_rivalsOf_58 hl (k := 1) rfl (n_inc _ 1) (by decide) rfl (fun ls hl => ?_)
            refine lv_goto (tgt := 4) hx hb dX1_rivalsOf_61 (by decide) ?_
            exact ih_4 v (j + 1) (by omega) (by rw [hv]; first | exact (rv_t hrc_q).symm | exact (rv_f hrc_q).symm) (by omega) _ _ hP hD hS _ (lv_sub hl [0, 2, 3, 4] rfl)
          · -- 41 to 44
            have h63_q := c_7
            refine lv_iload hx hb dX1_rivalsOf_44 (lv_at hl 0 rfl) ?_
            refine lv_bipush (v := (-64)) hx hb dX1_rivalsOf_46 (by decide) ?_
            refine lv_iand hx hb dX1_rivalsOf_48 ?_
            rw [and64_e _ (by omega)]
            have hca_q : anN (eu j &&& eu k) 63 < 16777216 := an_lt (n := 24) _ hcm_q
            refine n_if_ne (tgt := 58) hx hb dX1_rivalsOf_49 (by decide) (by omega) (fun c_8 => ?_) (fun c_8 => ?_)
            · -- 49 to 58
              have hrc_q := rc_c c_8
              refine lv_iinc (v := nI (j + 1)) (lv' := [(3, .int (nI (j + 1))), (4, .int (nI ((eu j) &&& (eu k)))), (2, .int (nI (v))), (0, .ref xe), (1, .int (nI (k)))]) hx hb dX1_rivalsOf_58 hl (k := 1) rfl (n_inc _ 1) (by decide) rfl (fun ls hl => ?_)
              refine lv_goto (tgt := 4) hx hb dX1_rivalsOf_61 (by decide) ?_
              exact ih_4 v (j + 1) (by omega) (by rw [hv]; first | exact (rv_t hrc_q).symm | exact (rv_f hrc_q).symm) (by omega) _ _ hP hD hS _ (lv_sub hl [0, 2, 3, 4] rfl)
            · -- 49 to 52
              have hrc_q := rc_d hne_q h63_q c_8
              refine lv_iload_n hx hb dX1_rivalsOf_52 rfl (lv_at hl 2 rfl) ?_
              refine lv_iconst (v := nI 1) hx hb dX1_rivalsOf_53 (by decide) ?_
              refine lv_iload_n hx hb dX1_rivalsOf_54 rfl (lv_at hl 1 rfl) ?_
              refine n_ishl hx hb dX1_rivalsOf_55 (by omega) ?_
              refine n_ior hx hb dX1_rivalsOf_56  ?_
              refine lv_istore_n (lv' := [(2, .int (nI (v ||| (1 * 2 ^ j)))), (4, .int (nI ((eu j) &&& (eu k)))), (3, .int (nI (j))), (0, .ref xe), (1, .int (nI (k)))]) hx hb dX1_rivalsOf_57 rfl hl (by decide) rfl (fun ls hl => ?_)
              refine lv_iinc (v := nI (j + 1)) (lv' := [(3, .int (nI (j + 1))), (2, .int (nI (v ||| (1 * 2 ^ j)))), (4, .int (nI ((eu j) &&& (eu k)))), (0, .ref xe), (1, .int (nI (k)))]) hx hb dX1_rivalsOf_58 hl (k := 2) rfl (n_inc _ 1) (by decide) rfl (fun ls hl => ?_)
              refine lv_goto (tgt := 4) hx hb dX1_rivalsOf_61 (by decide) ?_
              exact ih_4 (v ||| (1 * 2 ^ j)) (j + 1) (by omega) (by rw [hv]; first | exact (rv_t hrc_q).symm | exact (rv_f hrc_q).symm) (by omega) _ _ hP hD hS _ (lv_sub hl [0, 1, 3, 4] rfl)
  exact loop_4 _ 0 0 (by omega) rfl (Nat.lt_succ_self _) _ _ hP hD hS _ (lv_sub hl [0, 1, 2, 3] rfl)
set_option maxHeartbeats 4000000 in
set_option maxRecDepth 100000 in
theorem k_X1_mostOf0 {l : Launch} {D : va_G} {cI cC cB : ClassId} {xr lf : Nat} {rv : Nat → Nat}  (hlf : lf < 4096) : MI l yX1_mostOf cX1_mostOf 7 (some .int) 2 D (Ty3 cI cC cB) [.ref xr, .int (nI (lf)), .int (nI (0))] [(xr, .inl (cI, 12, .inl (fun z_ => nI (rv z_))))] (fun r u => (r = nI (moN rv 0 lf) ∧ u = [(xr, .inl (cI, 12, .inl (fun z_ => nI (rv z_))))])) := by
  intro sz
  refine MI.walk (by decide +kernel) (Nat.le_of_ble_eq_true rfl) ?_
  intro p e s m args below meth c A Qf hx hb hml hts hown hret hK hP hD hS hA ls hl
  have hown : s.vm.findClass RX1 = some m.cls := hown
  have hl : lv_has ls 7 [(0, .ref xr), (1, .int (nI (lf))), (2, .int (nI (0)))] := hl
  have hP : va_P D vwCl [(xr, .inl (cI, 12, .inl (fun z_ => nI (rv z_))))] s.heap := hP
  have hD : va_D A [(xr, .inl (cI, 12, .inl (fun z_ => nI (rv z_))))] := hD
  refine lv_iload_n hx hb dX1_mostOf_0 rfl (lv_at hl 1 rfl) ?_
  refine n_if_eq (tgt := 8) hx hb dX1_mostOf_1 (by decide) (by omega) (fun c_1 => ?_) (fun c_1 => ?_)
  · -- 1 to 8
    refine lv_iconst (v := nI 0) hx hb dX1_mostOf_8 (by decide) ?_
    refine hret hP hD hS dX1_mostOf_9 rfl rfl ?_
    exact ⟨rfl, rfl⟩
  · -- 1 to 4
    refine lv_iload_n hx hb dX1_mostOf_4 rfl (lv_at hl 2 rfl) ?_
    refine n_if_gt (tgt := 10) hx hb dX1_mostOf_5 (by decide) (by decide) (fun c_2 => ?_) (fun c_2 => ?_)
    · omega
    · -- 5 to 8
      refine lv_iconst (v := nI 0) hx hb dX1_mostOf_8 (by decide) ?_
      refine hret hP hD hS dX1_mostOf_9 rfl rfl ?_
      exact ⟨rfl, rfl⟩
set_option maxHeartbeats 4000000 in
set_option maxRecDepth 100000 in
theorem k_X1_mostOfS {l : Launch} {D : va_G} {cI cC cB : ClassId} {xr lf n : Nat} {rv : Nat → Nat}  (hlf : lf < 4096) (hn9 : n < 12) (ihc : ∀ lf2, lf2 < 4096 → MI l yX1_mostOf cX1_mostOf 7 (some .int) (n + 2) D (Ty3 cI cC cB) [.ref xr, .int (nI (lf2)), .int (nI (n))] [(xr, .inl (cI, 12, .inl (fun z_ => nI (rv z_))))] (fun r u => (r = nI (moN rv n lf2) ∧ u = [(xr, .inl (cI, 12, .inl (fun z_ => nI (rv z_))))]))) : MI l yX1_mostOf cX1_mostOf 7 (some .int) (n + 3) D (Ty3 cI cC cB) [.ref xr, .int (nI (lf)), .int (nI (n + 1))] [(xr, .inl (cI, 12, .inl (fun z_ => nI (rv z_))))] (fun r u => (r = nI (moN rv (n + 1) lf) ∧ u = [(xr, .inl (cI, 12, .inl (fun z_ => nI (rv z_))))])) := by
  intro sz
  refine MI.walk (by decide +kernel) (Nat.le_of_ble_eq_true rfl) ?_
  intro p e s m args below meth c A Qf hx hb hml hts hown hret hK hP hD hS hA ls hl
  have hown : s.vm.findClass RX1 = some m.cls := hown
  have hl : lv_has ls 7 [(0, .ref xr), (1, .int (nI (lf))), (2, .int (nI (n + 1)))] := hl
  have hP : va_P D vwCl [(xr, .inl (cI, 12, .inl (fun z_ => nI (rv z_))))] s.heap := hP
  have hD : va_D A [(xr, .inl (cI, 12, .inl (fun z_ => nI (rv z_))))] := hD
  refine lv_iload_n hx hb dX1_mostOf_0 rfl (lv_at hl 1 rfl) ?_
  refine n_if_eq (tgt := 8) hx hb dX1_mostOf_1 (by decide) (by omega) (fun c_1 => ?_) (fun c_1 => ?_)
  · -- 1 to 8
    have hl0_q := c_1
    refine lv_iconst (v := nI 0) hx hb dX1_mostOf_8 (by decide) ?_
    refine hret hP hD hS dX1_mostOf_9 rfl rfl ?_
    exact ⟨congrArg nI (by first | exact mo_0 hl0_q | exact mo_a hl0_q heq_q | exact mo_b hl0_q hne_q), rfl⟩
  · -- 1 to 4
    have hl0_q := c_1
    refine lv_iload_n hx hb dX1_mostOf_4 rfl (lv_at hl 2 rfl) ?_
    refine n_if_gt (tgt := 10) hx hb dX1_mostOf_5 (by decide) (by omega) (fun c_2 => ?_) (fun c_2 => ?_)
    · -- 5 to 10
      have hlw_q := lw_t lf hlf hl0_q
      refine lv_iload_n hx hb dX1_mostOf_10 rfl (lv_at hl 1 rfl) ?_
      refine cl_1_61 (As := [.int (nI (lf))]) (rest := []) hx hb hml hts hown (k_X6_lowestOf hlf hl0_q) (by simp only [rmL]; omega) ⟨Nat.zero_le _, Nat.zero_le _⟩ hK hP hD hS hA [] rfl (by decide) rfl hl.1 rfl (Nat.le_of_ble_eq_true rfl) dX1_mostOf_11 (fun r_3 u H locs hp_4 hP hD hS => ?_)
      obtain ⟨rfl, rfl⟩ := hp_4
      have hP : va_P D vwCl [(xr, .inl (cI, 12, .inl (fun z_ => nI (rv z_))))] _ := hP
      have hD : va_D A [(xr, .inl (cI, 12, .inl (fun z_ => nI (rv z_))))] := hD
      refine lv_istore_n (lv' := [(3, .int (nI (lwN lf))), (0, .ref xr), (1, .int (nI (lf))), (2, .int (nI (n + 1)))]) hx hb dX1_mostOf_14 rfl hl (by decide) rfl (fun ls hl => ?_)
      refine lv_iload_n hx hb dX1_mostOf_15 rfl (lv_at hl 2 rfl) ?_
      refine lv_iconst (v := nI 1) hx hb dX1_mostOf_16 (by decide) ?_
      refine lv_iload_n hx hb dX1_mostOf_17 rfl (lv_at hl 0 rfl) ?_
      refine n_ishl hx hb dX1_mostOf_18 (by omega) ?_
      refine lv_iconst (v := (-1)) hx hb dX1_mostOf_19 (by decide) ?_
      refine lv_ixor hx hb dX1_mostOf_20 ?_
      refine lv_iand hx hb dX1_mostOf_21 ?_
      rw [andn_e]
      have hot_q : anN lf (1 * 2 ^ lwN lf) < 4096 := an_lt (n := 12) _ hlf
      refine lv_istore (lv' := [(4, .int (nI (anN lf (1 * 2 ^ (lwN lf))))), (3, .int (nI (lwN lf))), (0, .ref xr), (1, .int (nI (lf))), (2, .int (nI (n + 1)))]) hx hb dX1_mostOf_22 hl (by decide) rfl (fun ls hl => ?_)
      refine lv_iload hx hb dX1_mostOf_24 (lv_at hl 0 rfl) ?_
      refine lv_aload_n hx hb dX1_mostOf_26 rfl (lv_at hl 2 rfl) ?_
      refine lv_iload_n hx hb dX1_mostOf_27 rfl (lv_at hl 1 rfl) ?_
      refine cl_1_33 (As := [.ref xr, .int (nI (lwN lf))]) (rest := [.int (nI (anN lf (1 * 2 ^ (lwN lf))))]) hx hb hml hts hown (k_X6_at (by first | assumption | omega) (by first | assumption | omega)) (by simp only [rmL]; omega) ⟨Nat.zero_le _, Nat.zero_le _⟩ hK hP hD hS hA [0] rfl (by decide) rfl hl.1 rfl (Nat.le_of_ble_eq_true rfl) dX1_mostOf_28 (fun r_5 u H locs hp_6 hP hD hS => ?_)
      obtain ⟨rfl, rfl⟩ := hp_6
      have hP : va_P D vwCl [(xr, .inl (cI, 12, .inl (fun z_ => nI (rv z_))))] _ := hP
      have hD : va_D A [(xr, .inl (cI, 12, .inl (fun z_ => nI (rv z_))))] := hD
      refine lv_iconst (v := (-1)) hx hb dX1_mostOf_31 (by decide) ?_
      refine lv_ixor hx hb dX1_mostOf_32 ?_
      refine lv_iand hx hb dX1_mostOf_33 ?_
      rw [andn_e]
      have hfr_q : anN (anN lf (1 * 2 ^ lwN lf)) (rv (lwN lf)) < 4096 := an_lt (n := 12) _ hot_q
      refine lv_istore (lv' := [(5, .int (nI (anN (anN lf (1 * 2 ^ (lwN lf))) (rv (lwN lf))))), (4, .int (nI (anN lf (1 * 2 ^ (lwN lf))))), (3, .int (nI (lwN lf))), (0, .ref xr), (1, .int (nI (lf))), (2, .int (nI (n + 1)))]) hx hb dX1_mostOf_34 hl (by decide) rfl (fun ls hl => ?_)
      have hm1_q := mo_le rv (n + 1 - 1) (anN (anN lf (1 * 2 ^ lwN lf)) (rv (lwN lf)))
      refine lv_iconst (v := nI 1) hx hb dX1_mostOf_36 (by decide) ?_
      refine lv_aload_n hx hb dX1_mostOf_37 rfl (lv_at hl 3 rfl) ?_
      refine lv_iload hx hb dX1_mostOf_38 (lv_at hl 0 rfl) ?_
      refine lv_iload_n hx hb dX1_mostOf_40 rfl (lv_at hl 5 rfl) ?_
      refine lv_iconst (v := nI 1) hx hb dX1_mostOf_41 (by decide) ?_
      refine n_isub hx hb dX1_mostOf_42 (by omega) ?_
      refine cl_1_67 (As := [.ref xr, .int (nI (anN (anN lf (1 * 2 ^ (lwN lf))) (rv (lwN lf)))), .int (nI ((n + 1) - 1))]) (rest := [.int (nI (1))]) hx hb hml hts hown (ihc _ hfr_q) (by simp only [rmL]; omega) ⟨Nat.zero_le _, Nat.zero_le _⟩ hK hP hD hS hA [0] rfl (by decide) rfl hl.1 rfl (Nat.le_of_ble_eq_true rfl) dX1_mostOf_43 (fun r_7 u H locs hp_8 hP hD hS => ?_)
      obtain ⟨rfl, rfl⟩ := hp_8
      have hP : va_P D vwCl [(xr, .inl (cI, 12, .inl (fun z_ => nI (rv z_))))] _ := hP
      have hD : va_D A [(xr, .inl (cI, 12, .inl (fun z_ => nI (rv z_))))] := hD
      refine n_iadd hx hb dX1_mostOf_46  ?_
      refine lv_istore (lv' := [(6, .int (nI (1 + (moN rv ((n + 1) - 1) (anN (anN lf (1 * 2 ^ (lwN lf))) (rv (lwN lf))))))), (5, .int (nI (anN (anN lf (1 * 2 ^ (lwN lf))) (rv (lwN lf))))), (4, .int (nI (anN lf (1 * 2 ^ (lwN lf))))), (3, .int (nI (lwN lf))), (0, .ref xr), (1, .int (nI (lf))), (2, .int (nI (n + 1)))]) hx hb dX1_mostOf_47 hl (by decide) rfl (fun ls hl => ?_)
      refine lv_iload hx hb dX1_mostOf_49 (lv_at hl 1 rfl) ?_
      refine lv_iload hx hb dX1_mostOf_51 (lv_at hl 2 rfl) ?_
      refine n_icmp_ne (tgt := 61) hx hb dX1_mostOf_53 (by decide) (by omega) (by omega) (fun c_9 => ?_) (fun c_9 => ?_)
      · -- 53 to 61
        have hne_q := c_9
        refine lv_iload hx hb dX1_mostOf_61 (lv_at hl 0 rfl) ?_
        have hm2_q := mo_le rv (n + 1 - 1) (anN lf (1 * 2 ^ lwN lf))
        have hm3_q := mo_le rv n (anN lf (1 * 2 ^ lwN lf))
        refine lv_aload_n hx hb dX1_mostOf_63 rfl (lv_at hl 4 rfl) ?_
        refine lv_iload hx hb dX1_mostOf_64 (lv_at hl 2 rfl) ?_
        refine lv_iload_n hx hb dX1_mostOf_66 rfl (lv_at hl 6 rfl) ?_
        refine lv_iconst (v := nI 1) hx hb dX1_mostOf_67 (by decide) ?_
        refine n_isub hx hb dX1_mostOf_68 (by omega) ?_
        refine cl_1_67 (As := [.ref xr, .int (nI (anN lf (1 * 2 ^ (lwN lf)))), .int (nI ((n + 1) - 1))]) (rest := [.int (nI (1 + (moN rv ((n + 1) - 1) (anN (anN lf (1 * 2 ^ (lwN lf))) (rv (lwN lf))))))]) hx hb hml hts hown (ihc _ hot_q) (by simp only [rmL]; omega) ⟨Nat.zero_le _, Nat.zero_le _⟩ hK hP hD hS hA [0] rfl (by decide) rfl hl.1 rfl (Nat.le_of_ble_eq_true rfl) dX1_mostOf_69 (fun r_10 u H locs hp_11 hP hD hS => ?_)
        obtain ⟨rfl, rfl⟩ := hp_11
        have hP : va_P D vwCl [(xr, .inl (cI, 12, .inl (fun z_ => nI (rv z_))))] _ := hP
        have hD : va_D A [(xr, .inl (cI, 12, .inl (fun z_ => nI (rv z_))))] := hD
        refine n_max hx hb (hml.trans hl.1.symm) hown hts tw_624 (by simp only [rmL]; omega) (Nat.le_of_ble_eq_true rfl) ⟨Nat.zero_le _, Nat.zero_le _⟩ (by omega) (by omega) dX1_mostOf_72 ?_
        refine hret hP hD hS dX1_mostOf_75 rfl rfl ?_
        exact ⟨congrArg nI (by first | exact mo_0 hl0_q | exact mo_a hl0_q heq_q | exact mo_b hl0_q hne_q), rfl⟩
      · -- 53 to 56
        have heq_q := c_9
        refine lv_iload hx hb dX1_mostOf_56 (lv_at hl 0 rfl) ?_
        refine lv_goto (tgt := 75) hx hb dX1_mostOf_58 (by decide) ?_
        refine hret hP hD hS dX1_mostOf_75 rfl rfl ?_
        exact ⟨congrArg nI (by first | exact mo_0 hl0_q | exact mo_a hl0_q heq_q | exact mo_b hl0_q hne_q), rfl⟩
    · omega
theorem k_X1_mostOf {l : Launch} {D : va_G} {cI cC cB : ClassId} {xr lf n : Nat} {rv : Nat → Nat}  (hlf : lf < 4096) (hn9 : n ≤ 12) : MI l yX1_mostOf cX1_mostOf 7 (some .int) (n + 2) D (Ty3 cI cC cB) [.ref xr, .int (nI (lf)), .int (nI (n))] [(xr, .inl (cI, 12, .inl (fun z_ => nI (rv z_))))] (fun r u => (r = nI (moN rv n lf) ∧ u = [(xr, .inl (cI, 12, .inl (fun z_ => nI (rv z_))))])) := by
  induction n generalizing lf with
  | zero => exact k_X1_mostOf0 hlf
  | succ n ih => exact k_X1_mostOfS hlf (by omega) (fun lf2 h1 => ih h1 (by omega))

set_option maxHeartbeats 4000000 in
set_option maxRecDepth 100000 in
theorem k_X1_mostTogether {l : Launch} {D : va_G} {cI cC cB : ClassId} {xe ec : Nat} {oq : Nat → Nat} {eu rv : Nat → Nat}  (hec : ec ≤ 12) (heu : ∀ i, i < ec → eu i < 16777216) : MI l yX1_mostTogether cX1_mostTogether 2 (some .int) 15 D (Ty3 cI cC cB) [.ref xe] [eO xe oq ec, (oq 0, .inl (cI, 12, .inl (fun z_ => nI (eu z_)))), (oq 2, .inl (cI, 12, .inl (fun z_ => nI (rv z_))))] (fun r u => (∃ rv2 : Nat → Nat, (∀ t, t < ec → rv2 t = rvN eu t ec) ∧ r = nI (moN rv2 12 (1 * 2 ^ ec - 1)) ∧ u = [eO xe oq ec, (oq 0, .inl (cI, 12, .inl (fun z_ => nI (eu z_)))), (oq 2, .inl (cI, 12, .inl (fun z_ => nI (rv2 z_))))])) := by
  intro sz
  refine MI.walk (by decide +kernel) (Nat.le_of_ble_eq_true rfl) ?_
  intro p e s m args below meth c A Qf hx hb hml hts hown hret hK hP hD hS hA ls hl
  have hown : s.vm.findClass RX1 = some m.cls := hown
  have hl : lv_has ls 2 [(0, .ref xe)] := hl
  have hP : va_P D vwCl [eO xe oq ec, (oq 0, .inl (cI, 12, .inl (fun z_ => nI (eu z_)))), (oq 2, .inl (cI, 12, .inl (fun z_ => nI (rv z_))))] s.heap := hP
  have hD : va_D A [eO xe oq ec, (oq 0, .inl (cI, 12, .inl (fun z_ => nI (eu z_)))), (oq 2, .inl (cI, 12, .inl (fun z_ => nI (rv z_))))] := hD
  refine lv_iconst (v := nI 0) hx hb dX1_mostTogether_0 (by decide) ?_
  refine lv_istore_n (lv' := [(1, .int (nI (0))), (0, .ref xe)]) hx hb dX1_mostTogether_1 rfl hl (by decide) rfl (fun ls hl => ?_)
  have loop_2 : ∀ (N : Nat) (k : Nat) (v1 : Nat → Nat), (k ≤ ec) → (∀ t, t < k → v1 t = rvN eu t ec) → (ec - k) < N → ∀ (H : Heap) (locs : List Loc), va_P D vwCl [eO xe oq ec, (oq 0, .inl (cI, 12, .inl (fun z_ => nI (eu z_)))), (oq 2, .inl (cI, 12, .inl (fun z_ => nI (v1 z_))))] H → va_D A [eO xe oq ec, (oq 0, .inl (cI, 12, .inl (fun z_ => nI (eu z_)))), (oq 2, .inl (cI, 12, .inl (fun z_ => nI (v1 z_))))] → va_S A s.heap H locs → ∀ ls : Array Slot, lv_has ls 2 [(1, .int (nI (k))), (0, .ref xe)] → W p l e (rmL 15) s m args below meth c H locs 0 0 Qf (F0 m 2 ls []) := by
    intro N; induction N with
    | zero => intro k v1 _ _ hm; omega
    | succ N ih_2 =>
      intro k v1 hk hv1 hm H locs hP hD hS ls hl
      refine lv_iload_n hx hb dX1_mostTogether_2 rfl (lv_at hl 0 rfl) ?_
      refine lv_aload_n hx hb dX1_mostTogether_3 rfl (lv_at hl 1 rfl) ?_
      refine gf_1_21 hx hb hts hown hK hP 0 rfl rfl dX1_mostTogether_4 ?_
      refine n_icmp_ge (tgt := 29) hx hb dX1_mostTogether_7 (by decide) (by omega) (by omega) (fun c_1 => ?_) (fun c_1 => ?_)
      · -- 7 to 29
        refine lv_aload_n hx hb dX1_mostTogether_29 rfl (lv_at hl 1 rfl) ?_
        refine gf_1_18 hx hb hts hown hK hP 0 rfl rfl dX1_mostTogether_30 ?_
        refine lv_aload_n hx hb dX1_mostTogether_33 rfl (lv_at hl 1 rfl) ?_
        refine cl_1_53 (As := []) (rest := [.ref (oq 2)]) hx hb hml hts hown (k_X1_allHeard (by first | assumption | omega)) (by simp only [rmL]; omega) ⟨Nat.zero_le _, Nat.zero_le _⟩ hK hP hD hS hA 0 rfl [0] rfl (by decide) rfl hl.1 rfl (Nat.le_of_ble_eq_true rfl) dX1_mostTogether_34 (fun r_2 u H locs hp_3 hP hD hS => ?_)
        obtain ⟨rfl, rfl⟩ := hp_3
        have hP : va_P D vwCl [eO xe oq ec, (oq 0, .inl (cI, 12, .inl (fun z_ => nI (eu z_)))), (oq 2, .inl (cI, 12, .inl (fun z_ => nI (v1 z_))))] _ := hP
        have hD : va_D A [eO xe oq ec, (oq 0, .inl (cI, 12, .inl (fun z_ => nI (eu z_)))), (oq 2, .inl (cI, 12, .inl (fun z_ => nI (v1 z_))))] := hD
        refine lv_bipush (v := nI 12) hx hb dX1_mostTogether_37 (by decide) ?_
        refine cl_1_67 (As := [.ref (oq 2), .int (nI (1 * 2 ^ ec - 1)), .int (nI (12))]) (rest := []) hx hb hml hts hown (k_X1_mostOf (all_l hec) (by decide)) (by simp only [rmL]; omega) ⟨Nat.zero_le _, Nat.zero_le _⟩ hK hP hD hS hA [2] rfl (by decide) rfl hl.1 rfl (Nat.le_of_ble_eq_true rfl) dX1_mostTogether_39 (fun r_4 u H locs hp_5 hP hD hS => ?_)
        obtain ⟨rfl, rfl⟩ := hp_5
        have hP : va_P D vwCl [eO xe oq ec, (oq 0, .inl (cI, 12, .inl (fun z_ => nI (eu z_)))), (oq 2, .inl (cI, 12, .inl (fun z_ => nI (v1 z_))))] _ := hP
        have hD : va_D A [eO xe oq ec, (oq 0, .inl (cI, 12, .inl (fun z_ => nI (eu z_)))), (oq 2, .inl (cI, 12, .inl (fun z_ => nI (v1 z_))))] := hD
        refine hret hP hD hS dX1_mostTogether_42 rfl rfl ?_
        exact ⟨_, fun t ht => hv1 t (by omega), rfl, rfl⟩
      · -- 7 to 10
        refine lv_aload_n hx hb dX1_mostTogether_10 rfl (lv_at hl 1 rfl) ?_
        refine gf_1_18 hx hb hts hown hK hP 0 rfl rfl dX1_mostTogether_11 ?_
        refine lv_iload_n hx hb dX1_mostTogether_14 rfl (lv_at hl 0 rfl) ?_
        refine lv_aload_n hx hb dX1_mostTogether_15 rfl (lv_at hl 1 rfl) ?_
        refine lv_iload_n hx hb dX1_mostTogether_16 rfl (lv_at hl 0 rfl) ?_
        refine cl_1_64 (As := [.int (nI (k))]) (rest := [.int (nI (k)), .ref (oq 2)]) hx hb hml hts hown (k_X1_rivalsOf (by omega) hec heu) (by simp only [rmL]; omega) ⟨Nat.zero_le _, Nat.zero_le _⟩ hK hP hD hS hA 0 rfl [0, 1] rfl (by decide) rfl hl.1 rfl (Nat.le_of_ble_eq_true rfl) dX1_mostTogether_17 (fun r_6 u H locs hp_7 hP hD hS => ?_)
        obtain ⟨rfl, rfl⟩ := hp_7
        have hP : va_P D vwCl [eO xe oq ec, (oq 0, .inl (cI, 12, .inl (fun z_ => nI (eu z_)))), (oq 2, .inl (cI, 12, .inl (fun z_ => nI (v1 z_))))] _ := hP
        have hD : va_D A [eO xe oq ec, (oq 0, .inl (cI, 12, .inl (fun z_ => nI (eu z_)))), (oq 2, .inl (cI, 12, .inl (fun z_ => nI (v1 z_))))] := hD
        refine cl_1_46 (As := [.ref (oq 2), .int (nI (k)), .int (nI (rvN eu k ec))]) (rest := []) hx hb hml hts hown (k_X6_put (by first | assumption | omega) (by first | assumption | omega)) (by simp only [rmL]; omega) ⟨Nat.zero_le _, Nat.zero_le _⟩ hK hP hD hS hA [2] rfl (by decide) rfl hl.1 rfl (Nat.le_of_ble_eq_true rfl) dX1_mostTogether_20 (fun  u H locs hp_8 hP hD hS => ?_)
        subst hp_8
        have hP : va_P D vwCl [eO xe oq ec, (oq 0, .inl (cI, 12, .inl (fun z_ => nI (eu z_)))), (oq 2, .inl (cI, 12, .inl (fun z_ => nI ((up1 v1 k (rvN eu k ec)) z_))))] _ := hP
        have hD : va_D A [eO xe oq ec, (oq 0, .inl (cI, 12, .inl (fun z_ => nI (eu z_)))), (oq 2, .inl (cI, 12, .inl (fun z_ => nI ((up1 v1 k (rvN eu k ec)) z_))))] := hD
        refine lv_iinc (v := nI (k + 1)) (lv' := [(1, .int (nI (k + 1))), (0, .ref xe)]) hx hb dX1_mostTogether_23 hl (k := 0) rfl (n_inc _ 1) (by decide) rfl (fun ls hl => ?_)
        refine lv_goto (tgt := 2) hx hb dX1_mostTogether_26 (by decide) ?_
        exact ih_2 (k + 1) (up1 v1 k (rvN eu k ec)) (by omega) (rv_s hv1) (by omega) _ _ hP hD hS _ (lv_sub hl [0, 1] rfl)
  exact loop_2 _ 0 rv (by omega) (fun i hi => absurd hi (Nat.not_lt_zero i)) (Nat.lt_succ_self _) _ _ hP hD hS _ (lv_sub hl [0, 1] rfl)
set_option maxHeartbeats 4000000 in
set_option maxRecDepth 100000 in
theorem k_X6_together {l : Launch} {D : va_G} {cI cC cB : ClassId} {o xt xg xu xk xd xf : Nat} {xe ec : Nat} {oq : Nat → Nat} {eu cv rv : Nat → Nat} {a : Nat} {pq : Nat → Nat} {bx te ps pu sd cj ta : Nat → Nat} {b : Nat} {bq : Nat → Nat} {nw up st ex tl he dy se : Nat → Nat} {fi : Nat} {x : Int32}  (hR : PlR bx te ps pu sd cj ta) (hX : BoR bx nw up st ex tl he dy se fi) (hDs : DsOk nw) : MI l yX6_together cX6_together 2 (some .int) 16 D (Ty3 cI cC cB) [.ref o, .int (x)] [(o, .inr (6, [.ref xt, .ref xg, .ref xu, .ref xk, .ref b, .ref xd, .ref xe, .ref a, .ref xf])), eO xe oq ec, (oq 0, .inl (cI, 12, .inl (fun z_ => nI (eu z_)))), (oq 1, .inl (cI, 24, .inl (fun z_ => nI (cv z_)))), (oq 2, .inl (cI, 12, .inl (fun z_ => nI (rv z_)))), bO b bq fi (nw 2) (nw 0) (nw 1), (bq 0, .inl (cI, 4, .inl (fun z_ => nI (up z_)))), (bq 1, .inl (cI, 4, .inl (fun z_ => nI (st z_)))), (bq 2, .inl (cI, 12, .inl (fun z_ => nI (ex z_)))), (bq 3, .inl (cI, 12, .inl (fun z_ => nI (tl z_)))), (bq 4, .inl (cI, 12, .inl (fun z_ => nI (he z_)))), (bq 5, .inl (cI, 12, .inl (fun z_ => nI (dy z_)))), (bq 6, .inl (cI, 12, .inl (fun z_ => nI (se z_)))), pO a pq (bx 0) (bx 2) (bx 1) (szN bx (bx 0)) (bx 3) (bx 4), (pq 0, .inl (cI, 4, .inl (fun z_ => nI (te z_)))), (pq 1, .inl (cI, 4, .inl (fun z_ => nI (ps z_)))), (pq 2, .inl (cI, 4, .inl (fun z_ => nI (pu z_)))), (pq 3, .inl (cI, 4, .inl (fun z_ => nI (sd z_)))), (pq 4, .inl (cI, 8, .inl (fun z_ => nI (cj z_)))), (pq 5, .inl (cI, 5, .inl (fun z_ => nI (ta z_))))] (fun r u => (∃ e2 : Nat, ∃ eu2 : Nat → Nat, ∃ cv2 : Nat → Nat, ∃ rv2 : Nat → Nat, r = tgA bx nw x ∧ u = [(o, .inr (6, [.ref xt, .ref xg, .ref xu, .ref xk, .ref b, .ref xd, .ref xe, .ref a, .ref xf])), eO xe oq e2, (oq 0, .inl (cI, 12, .inl (fun z_ => nI (eu2 z_)))), (oq 1, .inl (cI, 24, .inl (fun z_ => nI (cv2 z_)))), (oq 2, .inl (cI, 12, .inl (fun z_ => nI (rv2 z_)))), bO b bq fi (nw 2) (nw 0) (nw 1), (bq 0, .inl (cI, 4, .inl (fun z_ => nI (up z_)))), (bq 1, .inl (cI, 4, .inl (fun z_ => nI (st z_)))), (bq 2, .inl (cI, 12, .inl (fun z_ => nI (ex z_)))), (bq 3, .inl (cI, 12, .inl (fun z_ => nI (tl z_)))), (bq 4, .inl (cI, 12, .inl (fun z_ => nI (he z_)))), (bq 5, .inl (cI, 12, .inl (fun z_ => nI (dy z_)))), (bq 6, .inl (cI, 12, .inl (fun z_ => nI (se z_)))), pO a pq (bx 0) (bx 2) (bx 1) (szN bx (bx 0)) (bx 3) (bx 4), (pq 0, .inl (cI, 4, .inl (fun z_ => nI (te z_)))), (pq 1, .inl (cI, 4, .inl (fun z_ => nI (ps z_)))), (pq 2, .inl (cI, 4, .inl (fun z_ => nI (pu z_)))), (pq 3, .inl (cI, 4, .inl (fun z_ => nI (sd z_)))), (pq 4, .inl (cI, 8, .inl (fun z_ => nI (cj z_)))), (pq 5, .inl (cI, 5, .inl (fun z_ => nI (ta z_))))])) := by
  intro sz
  refine MI.walk (by decide +kernel) (Nat.le_of_ble_eq_true rfl) ?_
  intro p e s m args below meth c A Qf hx hb hml hts hown hret hK hP hD hS hA ls hl
  have hown : s.vm.findClass RX6 = some m.cls := hown
  have hl : lv_has ls 2 [(0, .ref o), (1, .int (x))] := hl
  have hP : va_P D vwCl [(o, .inr (6, [.ref xt, .ref xg, .ref xu, .ref xk, .ref b, .ref xd, .ref xe, .ref a, .ref xf])), eO xe oq ec, (oq 0, .inl (cI, 12, .inl (fun z_ => nI (eu z_)))), (oq 1, .inl (cI, 24, .inl (fun z_ => nI (cv z_)))), (oq 2, .inl (cI, 12, .inl (fun z_ => nI (rv z_)))), bO b bq fi (nw 2) (nw 0) (nw 1), (bq 0, .inl (cI, 4, .inl (fun z_ => nI (up z_)))), (bq 1, .inl (cI, 4, .inl (fun z_ => nI (st z_)))), (bq 2, .inl (cI, 12, .inl (fun z_ => nI (ex z_)))), (bq 3, .inl (cI, 12, .inl (fun z_ => nI (tl z_)))), (bq 4, .inl (cI, 12, .inl (fun z_ => nI (he z_)))), (bq 5, .inl (cI, 12, .inl (fun z_ => nI (dy z_)))), (bq 6, .inl (cI, 12, .inl (fun z_ => nI (se z_)))), pO a pq (bx 0) (bx 2) (bx 1) (szN bx (bx 0)) (bx 3) (bx 4), (pq 0, .inl (cI, 4, .inl (fun z_ => nI (te z_)))), (pq 1, .inl (cI, 4, .inl (fun z_ => nI (ps z_)))), (pq 2, .inl (cI, 4, .inl (fun z_ => nI (pu z_)))), (pq 3, .inl (cI, 4, .inl (fun z_ => nI (sd z_)))), (pq 4, .inl (cI, 8, .inl (fun z_ => nI (cj z_)))), (pq 5, .inl (cI, 5, .inl (fun z_ => nI (ta z_))))] s.heap := hP
  have hD : va_D A [(o, .inr (6, [.ref xt, .ref xg, .ref xu, .ref xk, .ref b, .ref xd, .ref xe, .ref a, .ref xf])), eO xe oq ec, (oq 0, .inl (cI, 12, .inl (fun z_ => nI (eu z_)))), (oq 1, .inl (cI, 24, .inl (fun z_ => nI (cv z_)))), (oq 2, .inl (cI, 12, .inl (fun z_ => nI (rv z_)))), bO b bq fi (nw 2) (nw 0) (nw 1), (bq 0, .inl (cI, 4, .inl (fun z_ => nI (up z_)))), (bq 1, .inl (cI, 4, .inl (fun z_ => nI (st z_)))), (bq 2, .inl (cI, 12, .inl (fun z_ => nI (ex z_)))), (bq 3, .inl (cI, 12, .inl (fun z_ => nI (tl z_)))), (bq 4, .inl (cI, 12, .inl (fun z_ => nI (he z_)))), (bq 5, .inl (cI, 12, .inl (fun z_ => nI (dy z_)))), (bq 6, .inl (cI, 12, .inl (fun z_ => nI (se z_)))), pO a pq (bx 0) (bx 2) (bx 1) (szN bx (bx 0)) (bx 3) (bx 4), (pq 0, .inl (cI, 4, .inl (fun z_ => nI (te z_)))), (pq 1, .inl (cI, 4, .inl (fun z_ => nI (ps z_)))), (pq 2, .inl (cI, 4, .inl (fun z_ => nI (pu z_)))), (pq 3, .inl (cI, 4, .inl (fun z_ => nI (sd z_)))), (pq 4, .inl (cI, 8, .inl (fun z_ => nI (cj z_)))), (pq 5, .inl (cI, 5, .inl (fun z_ => nI (ta z_))))] := hD
  refine lv_aload_n hx hb dX6_together_0 rfl (lv_at hl 0 rfl) ?_
  refine lv_iload_n hx hb dX6_together_1 rfl (lv_at hl 1 rfl) ?_
  refine cl_6_126 (As := [.int (x)]) (rest := []) hx hb hml hts hown (k_X6_isPerson (by first | assumption | omega)) (by simp only [rmL]; omega) ⟨Nat.zero_le _, Nat.zero_le _⟩ hK hP hD hS hA 0 rfl [0, 13, 14, 15, 16, 17, 18, 19] rfl (by decide) rfl hl.1 rfl (Nat.le_of_ble_eq_true rfl) dX6_together_2 (fun r_1 u H locs hp_2 hP hD hS => ?_)
  obtain ⟨rfl, rfl⟩ := hp_2
  dsimp only [putAll, List.set] at hP hD
  have hP : va_P D vwCl [(o, .inr (6, [.ref xt, .ref xg, .ref xu, .ref xk, .ref b, .ref xd, .ref xe, .ref a, .ref xf])), eO xe oq ec, (oq 0, .inl (cI, 12, .inl (fun z_ => nI (eu z_)))), (oq 1, .inl (cI, 24, .inl (fun z_ => nI (cv z_)))), (oq 2, .inl (cI, 12, .inl (fun z_ => nI (rv z_)))), bO b bq fi (nw 2) (nw 0) (nw 1), (bq 0, .inl (cI, 4, .inl (fun z_ => nI (up z_)))), (bq 1, .inl (cI, 4, .inl (fun z_ => nI (st z_)))), (bq 2, .inl (cI, 12, .inl (fun z_ => nI (ex z_)))), (bq 3, .inl (cI, 12, .inl (fun z_ => nI (tl z_)))), (bq 4, .inl (cI, 12, .inl (fun z_ => nI (he z_)))), (bq 5, .inl (cI, 12, .inl (fun z_ => nI (dy z_)))), (bq 6, .inl (cI, 12, .inl (fun z_ => nI (se z_)))), pO a pq (bx 0) (bx 2) (bx 1) (szN bx (bx 0)) (bx 3) (bx 4), (pq 0, .inl (cI, 4, .inl (fun z_ => nI (te z_)))), (pq 1, .inl (cI, 4, .inl (fun z_ => nI (ps z_)))), (pq 2, .inl (cI, 4, .inl (fun z_ => nI (pu z_)))), (pq 3, .inl (cI, 4, .inl (fun z_ => nI (sd z_)))), (pq 4, .inl (cI, 8, .inl (fun z_ => nI (cj z_)))), (pq 5, .inl (cI, 5, .inl (fun z_ => nI (ta z_))))] _ := hP
  have hD : va_D A [(o, .inr (6, [.ref xt, .ref xg, .ref xu, .ref xk, .ref b, .ref xd, .ref xe, .ref a, .ref xf])), eO xe oq ec, (oq 0, .inl (cI, 12, .inl (fun z_ => nI (eu z_)))), (oq 1, .inl (cI, 24, .inl (fun z_ => nI (cv z_)))), (oq 2, .inl (cI, 12, .inl (fun z_ => nI (rv z_)))), bO b bq fi (nw 2) (nw 0) (nw 1), (bq 0, .inl (cI, 4, .inl (fun z_ => nI (up z_)))), (bq 1, .inl (cI, 4, .inl (fun z_ => nI (st z_)))), (bq 2, .inl (cI, 12, .inl (fun z_ => nI (ex z_)))), (bq 3, .inl (cI, 12, .inl (fun z_ => nI (tl z_)))), (bq 4, .inl (cI, 12, .inl (fun z_ => nI (he z_)))), (bq 5, .inl (cI, 12, .inl (fun z_ => nI (dy z_)))), (bq 6, .inl (cI, 12, .inl (fun z_ => nI (se z_)))), pO a pq (bx 0) (bx 2) (bx 1) (szN bx (bx 0)) (bx 3) (bx 4), (pq 0, .inl (cI, 4, .inl (fun z_ => nI (te z_)))), (pq 1, .inl (cI, 4, .inl (fun z_ => nI (ps z_)))), (pq 2, .inl (cI, 4, .inl (fun z_ => nI (pu z_)))), (pq 3, .inl (cI, 4, .inl (fun z_ => nI (sd z_)))), (pq 4, .inl (cI, 8, .inl (fun z_ => nI (cj z_)))), (pq 5, .inl (cI, 5, .inl (fun z_ => nI (ta z_))))] := hD
  refine n_ifb_ne (tgt := 10) hx hb dX6_together_5 (by decide) (fun c_3 => ?_) (fun c_3 => ?_)
  · -- 5 to 10
    obtain ⟨j, hj, rfl⟩ := inN_e (by have := hR.b.bd 1; omega) c_3
    have hij_q : ix (nI j) = j := ix_n (by have := hR.b.bd 1; omega)
    have hicj_q : (nI j).toNatClampNeg = j := ix_n (by have := hR.b.bd 1; omega)
    refine lv_aload_n hx hb dX6_together_10 rfl (lv_at hl 0 rfl) ?_
    refine gf_6_48 hx hb hts hown hK hP 0 rfl rfl dX6_together_11 ?_
    refine lv_aload_n hx hb dX6_together_14 rfl (lv_at hl 0 rfl) ?_
    refine gf_6_55 hx hb hts hown hK hP 0 rfl rfl dX6_together_15 ?_
    refine lv_aload_n hx hb dX6_together_18 rfl (lv_at hl 0 rfl) ?_
    refine gf_6_38 hx hb hts hown hK hP 0 rfl rfl dX6_together_19 ?_
    refine lv_iload_n hx hb dX6_together_22 rfl (lv_at hl 1 rfl) ?_
    refine cl_6_219 (As := [.ref a, .ref b, .int (nI (j))]) (rest := []) hx hb hml hts hown (k_X1_listen (by first | assumption | omega) (by first | assumption | omega) (by first | assumption | omega)) (by simp only [rmL]; omega) ⟨Nat.zero_le _, Nat.zero_le _⟩ hK hP hD hS hA 1 rfl [1, 2, 3, 5, 6, 7, 8, 9, 10, 11, 12, 13, 14, 15, 16, 17, 18, 19] rfl (by decide) rfl hl.1 rfl (Nat.le_of_ble_eq_true rfl) dX6_together_23 (fun  u H locs hp_4 hP hD hS => ?_)
    obtain ⟨z_5, z_6, hq_7, rfl⟩ := hp_4
    dsimp only [putAll, List.set] at hP hD
    have hP : va_P D vwCl [(o, .inr (6, [.ref xt, .ref xg, .ref xu, .ref xk, .ref b, .ref xd, .ref xe, .ref a, .ref xf])), eO xe oq (cnP (pyB nw j) (nw 2)), (oq 0, .inl (cI, 12, .inl (fun z_ => nI (z_5 z_)))), (oq 1, .inl (cI, 24, .inl (fun z_ => nI (z_6 z_)))), (oq 2, .inl (cI, 12, .inl (fun z_ => nI (rv z_)))), bO b bq fi (nw 2) (nw 0) (nw 1), (bq 0, .inl (cI, 4, .inl (fun z_ => nI (up z_)))), (bq 1, .inl (cI, 4, .inl (fun z_ => nI (st z_)))), (bq 2, .inl (cI, 12, .inl (fun z_ => nI (ex z_)))), (bq 3, .inl (cI, 12, .inl (fun z_ => nI (tl z_)))), (bq 4, .inl (cI, 12, .inl (fun z_ => nI (he z_)))), (bq 5, .inl (cI, 12, .inl (fun z_ => nI (dy z_)))), (bq 6, .inl (cI, 12, .inl (fun z_ => nI (se z_)))), pO a pq (bx 0) (bx 2) (bx 1) (szN bx (bx 0)) (bx 3) (bx 4), (pq 0, .inl (cI, 4, .inl (fun z_ => nI (te z_)))), (pq 1, .inl (cI, 4, .inl (fun z_ => nI (ps z_)))), (pq 2, .inl (cI, 4, .inl (fun z_ => nI (pu z_)))), (pq 3, .inl (cI, 4, .inl (fun z_ => nI (sd z_)))), (pq 4, .inl (cI, 8, .inl (fun z_ => nI (cj z_)))), (pq 5, .inl (cI, 5, .inl (fun z_ => nI (ta z_))))] _ := hP
    have hD : va_D A [(o, .inr (6, [.ref xt, .ref xg, .ref xu, .ref xk, .ref b, .ref xd, .ref xe, .ref a, .ref xf])), eO xe oq (cnP (pyB nw j) (nw 2)), (oq 0, .inl (cI, 12, .inl (fun z_ => nI (z_5 z_)))), (oq 1, .inl (cI, 24, .inl (fun z_ => nI (z_6 z_)))), (oq 2, .inl (cI, 12, .inl (fun z_ => nI (rv z_)))), bO b bq fi (nw 2) (nw 0) (nw 1), (bq 0, .inl (cI, 4, .inl (fun z_ => nI (up z_)))), (bq 1, .inl (cI, 4, .inl (fun z_ => nI (st z_)))), (bq 2, .inl (cI, 12, .inl (fun z_ => nI (ex z_)))), (bq 3, .inl (cI, 12, .inl (fun z_ => nI (tl z_)))), (bq 4, .inl (cI, 12, .inl (fun z_ => nI (he z_)))), (bq 5, .inl (cI, 12, .inl (fun z_ => nI (dy z_)))), (bq 6, .inl (cI, 12, .inl (fun z_ => nI (se z_)))), pO a pq (bx 0) (bx 2) (bx 1) (szN bx (bx 0)) (bx 3) (bx 4), (pq 0, .inl (cI, 4, .inl (fun z_ => nI (te z_)))), (pq 1, .inl (cI, 4, .inl (fun z_ => nI (ps z_)))), (pq 2, .inl (cI, 4, .inl (fun z_ => nI (pu z_)))), (pq 3, .inl (cI, 4, .inl (fun z_ => nI (sd z_)))), (pq 4, .inl (cI, 8, .inl (fun z_ => nI (cj z_)))), (pq 5, .inl (cI, 5, .inl (fun z_ => nI (ta z_))))] := hD
    have hEa_q := hq_7
    have hec_q := ear_c hX.d hEa_q
    have heu_q := ear_b hR.b hEa_q
    refine lv_aload_n hx hb dX6_together_26 rfl (lv_at hl 0 rfl) ?_
    refine gf_6_48 hx hb hts hown hK hP 0 rfl rfl dX6_together_27 ?_
    refine cl_6_229 (As := []) (rest := []) hx hb hml hts hown (k_X1_mostTogether hec_q heu_q) (by simp only [rmL]; omega) ⟨Nat.zero_le _, Nat.zero_le _⟩ hK hP hD hS hA 1 rfl [1, 2, 4] rfl (by decide) rfl hl.1 rfl (Nat.le_of_ble_eq_true rfl) dX6_together_30 (fun r_8 u H locs hp_9 hP hD hS => ?_)
    obtain ⟨z_10, hq_11, rfl, rfl⟩ := hp_9
    dsimp only [putAll, List.set] at hP hD
    have hP : va_P D vwCl [(o, .inr (6, [.ref xt, .ref xg, .ref xu, .ref xk, .ref b, .ref xd, .ref xe, .ref a, .ref xf])), eO xe oq ((cnP (pyB nw j) (nw 2))), (oq 0, .inl (cI, 12, .inl (fun z_ => nI (z_5 z_)))), (oq 1, .inl (cI, 24, .inl (fun z_ => nI (z_6 z_)))), (oq 2, .inl (cI, 12, .inl (fun z_ => nI (z_10 z_)))), bO b bq fi (nw 2) (nw 0) (nw 1), (bq 0, .inl (cI, 4, .inl (fun z_ => nI (up z_)))), (bq 1, .inl (cI, 4, .inl (fun z_ => nI (st z_)))), (bq 2, .inl (cI, 12, .inl (fun z_ => nI (ex z_)))), (bq 3, .inl (cI, 12, .inl (fun z_ => nI (tl z_)))), (bq 4, .inl (cI, 12, .inl (fun z_ => nI (he z_)))), (bq 5, .inl (cI, 12, .inl (fun z_ => nI (dy z_)))), (bq 6, .inl (cI, 12, .inl (fun z_ => nI (se z_)))), pO a pq (bx 0) (bx 2) (bx 1) (szN bx (bx 0)) (bx 3) (bx 4), (pq 0, .inl (cI, 4, .inl (fun z_ => nI (te z_)))), (pq 1, .inl (cI, 4, .inl (fun z_ => nI (ps z_)))), (pq 2, .inl (cI, 4, .inl (fun z_ => nI (pu z_)))), (pq 3, .inl (cI, 4, .inl (fun z_ => nI (sd z_)))), (pq 4, .inl (cI, 8, .inl (fun z_ => nI (cj z_)))), (pq 5, .inl (cI, 5, .inl (fun z_ => nI (ta z_))))] _ := hP
    have hD : va_D A [(o, .inr (6, [.ref xt, .ref xg, .ref xu, .ref xk, .ref b, .ref xd, .ref xe, .ref a, .ref xf])), eO xe oq ((cnP (pyB nw j) (nw 2))), (oq 0, .inl (cI, 12, .inl (fun z_ => nI (z_5 z_)))), (oq 1, .inl (cI, 24, .inl (fun z_ => nI (z_6 z_)))), (oq 2, .inl (cI, 12, .inl (fun z_ => nI (z_10 z_)))), bO b bq fi (nw 2) (nw 0) (nw 1), (bq 0, .inl (cI, 4, .inl (fun z_ => nI (up z_)))), (bq 1, .inl (cI, 4, .inl (fun z_ => nI (st z_)))), (bq 2, .inl (cI, 12, .inl (fun z_ => nI (ex z_)))), (bq 3, .inl (cI, 12, .inl (fun z_ => nI (tl z_)))), (bq 4, .inl (cI, 12, .inl (fun z_ => nI (he z_)))), (bq 5, .inl (cI, 12, .inl (fun z_ => nI (dy z_)))), (bq 6, .inl (cI, 12, .inl (fun z_ => nI (se z_)))), pO a pq (bx 0) (bx 2) (bx 1) (szN bx (bx 0)) (bx 3) (bx 4), (pq 0, .inl (cI, 4, .inl (fun z_ => nI (te z_)))), (pq 1, .inl (cI, 4, .inl (fun z_ => nI (ps z_)))), (pq 2, .inl (cI, 4, .inl (fun z_ => nI (pu z_)))), (pq 3, .inl (cI, 4, .inl (fun z_ => nI (sd z_)))), (pq 4, .inl (cI, 8, .inl (fun z_ => nI (cj z_)))), (pq 5, .inl (cI, 5, .inl (fun z_ => nI (ta z_))))] := hD
    have hrv_q := hq_11
    refine hret hP hD hS dX6_together_33 rfl rfl ?_
    exact ⟨_, _, _, _, tg_t hR.b hX.d hDs (by assumption) hEa_q hij_q hrv_q, rfl⟩
  · -- 5 to 8
    refine lv_iconst (v := (-1)) hx hb dX6_together_8 (by decide) ?_
    refine hret hP hD hS dX6_together_9 rfl rfl ?_
    exact ⟨_, _, _, _, by simp [tgA, (by assumption : inN x (bx 1) = false)], rfl⟩
set_option maxHeartbeats 4000000 in
set_option maxRecDepth 100000 in
theorem k_X1_sharersOfFirstWheel {l : Launch} {D : va_G} {cI cC cB : ClassId} {xe ec : Nat} {oq : Nat → Nat} {cv : Nat → Nat}  (hcv : ∀ t, t < 24 → cv t < 4096) : MI l yX1_sharersOfFirstWheel cX1_sharersOfFirstWheel 4 (some .int) 1 D (Ty3 cI cC cB) [.ref xe] [eO xe oq ec, (oq 1, .inl (cI, 24, .inl (fun z_ => nI (cv z_))))] (fun r u => (r = nI (shN cv 6) ∧ u = [eO xe oq ec, (oq 1, .inl (cI, 24, .inl (fun z_ => nI (cv z_))))])) := by
  intro sz
  refine MI.walk (by decide +kernel) (Nat.le_of_ble_eq_true rfl) ?_
  intro p e s m args below meth c A Qf hx hb hml hts hown hret hK hP hD hS hA ls hl
  have hown : s.vm.findClass RX1 = some m.cls := hown
  have hl : lv_has ls 4 [(0, .ref xe)] := hl
  have hP : va_P D vwCl [eO xe oq ec, (oq 1, .inl (cI, 24, .inl (fun z_ => nI (cv z_))))] s.heap := hP
  have hD : va_D A [eO xe oq ec, (oq 1, .inl (cI, 24, .inl (fun z_ => nI (cv z_))))] := hD
  refine lv_iconst (v := nI 0) hx hb dX1_sharersOfFirstWheel_0 (by decide) ?_
  refine lv_istore_n (lv' := [(1, .int (nI (0))), (0, .ref xe)]) hx hb dX1_sharersOfFirstWheel_1 rfl hl (by decide) rfl (fun ls hl => ?_)
  refine lv_iconst (v := nI 0) hx hb dX1_sharersOfFirstWheel_2 (by decide) ?_
  refine lv_istore_n (lv' := [(2, .int (nI (0))), (1, .int (nI (0))), (0, .ref xe)]) hx hb dX1_sharersOfFirstWheel_3 rfl hl (by decide) rfl (fun ls hl => ?_)
  have loop_4 : ∀ (N : Nat) (v : Nat) (t : Nat), (t ≤ 6) → (v = shN cv t) → (6 - t) < N → ∀ (H : Heap) (locs : List Loc), va_P D vwCl [eO xe oq ec, (oq 1, .inl (cI, 24, .inl (fun z_ => nI (cv z_))))] H → va_D A [eO xe oq ec, (oq 1, .inl (cI, 24, .inl (fun z_ => nI (cv z_))))] → va_S A s.heap H locs → ∀ ls : Array Slot, lv_has ls 4 [(2, .int (nI (t))), (1, .int (nI (v))), (0, .ref xe)] → W p l e (rmL 1) s m args below meth c H locs 0 0 Qf (F0 m 4 ls []) := by
    intro N; induction N with
    | zero => intro v t _ _ hm; omega
    | succ N ih_4 =>
      intro v t ht hv hm H locs hP hD hS ls hl
      refine lv_iload_n hx hb dX1_sharersOfFirstWheel_4 rfl (lv_at hl 0 rfl) ?_
      refine lv_bipush (v := nI 6) hx hb dX1_sharersOfFirstWheel_5 (by decide) ?_
      refine n_icmp_ge (tgt := 45) hx hb dX1_sharersOfFirstWheel_7 (by decide) (by omega) (by decide) (fun c_1 => ?_) (fun c_1 => ?_)
      · -- 7 to 45
        refine lv_iload_n hx hb dX1_sharersOfFirstWheel_45 rfl (lv_at hl 1 rfl) ?_
        refine hret hP hD hS dX1_sharersOfFirstWheel_46 rfl rfl ?_
        exact ⟨by rw [hv, show t = 6 by omega], rfl⟩
      · -- 7 to 10
        refine lv_aload_n hx hb dX1_sharersOfFirstWheel_10 rfl (lv_at hl 2 rfl) ?_
        refine gf_1_15 hx hb hts hown hK hP 0 rfl rfl dX1_sharersOfFirstWheel_11 ?_
        refine lv_iconst (v := nI 0) hx hb dX1_sharersOfFirstWheel_14 (by decide) ?_
        refine lv_iload_n hx hb dX1_sharersOfFirstWheel_15 rfl (lv_at hl 0 rfl) ?_
        refine cl_1_77 (As := [.int (nI (0)), .int (nI (t))]) (rest := [.ref (oq 1)]) hx hb hml hts hown (k_X6_slotOf ) (by decide) ⟨Nat.zero_le _, Nat.zero_le _⟩ hK hP hD hS hA [] rfl (by decide) rfl hl.1 rfl (Nat.le_of_ble_eq_true rfl) dX1_sharersOfFirstWheel_16 (fun r_2 u H locs hp_3 hP hD hS => ?_)
        obtain ⟨rfl, rfl⟩ := hp_3
        have hP : va_P D vwCl [eO xe oq ec, (oq 1, .inl (cI, 24, .inl (fun z_ => nI (cv z_))))] _ := hP
        have hD : va_D A [eO xe oq ec, (oq 1, .inl (cI, 24, .inl (fun z_ => nI (cv z_))))] := hD
        refine cl_1_33 (As := [.ref (oq 1), .int (nI (0 * 6 + t))]) (rest := []) hx hb hml hts hown (k_X6_at (by first | assumption | omega) (by first | assumption | omega)) (by decide) ⟨Nat.zero_le _, Nat.zero_le _⟩ hK hP hD hS hA [1] rfl (by decide) rfl hl.1 rfl (Nat.le_of_ble_eq_true rfl) dX1_sharersOfFirstWheel_19 (fun r_4 u H locs hp_5 hP hD hS => ?_)
        obtain ⟨rfl, rfl⟩ := hp_5
        have hP : va_P D vwCl [eO xe oq ec, (oq 1, .inl (cI, 24, .inl (fun z_ => nI (cv z_))))] _ := hP
        have hD : va_D A [eO xe oq ec, (oq 1, .inl (cI, 24, .inl (fun z_ => nI (cv z_))))] := hD
        have hcb_q := hcv (0 * 6 + t) (by omega)
        refine cl_1_80 (As := [.int (nI (cv (0 * 6 + t)))]) (rest := []) hx hb hml hts hown (k_J6_bitCount (by first | assumption | omega)) (by decide) ⟨Nat.zero_le _, Nat.zero_le _⟩ hK hP hD hS hA [] rfl (by decide) rfl hl.1 rfl (Nat.le_of_ble_eq_true rfl) dX1_sharersOfFirstWheel_22 (fun r_6 u H locs hp_7 hP hD hS => ?_)
        obtain ⟨rfl, rfl⟩ := hp_7
        have hP : va_P D vwCl [eO xe oq ec, (oq 1, .inl (cI, 24, .inl (fun z_ => nI (cv z_))))] _ := hP
        have hD : va_D A [eO xe oq ec, (oq 1, .inl (cI, 24, .inl (fun z_ => nI (cv z_))))] := hD
        have hpb_q := pc_12 (cv (0 * 6 + t))
        refine lv_istore_n (lv' := [(3, .int (nI (pcN (cv (0 * 6 + t))))), (2, .int (nI (t))), (1, .int (nI (v))), (0, .ref xe)]) hx hb dX1_sharersOfFirstWheel_25 rfl hl (by decide) rfl (fun ls hl => ?_)
        refine lv_iload_n hx hb dX1_sharersOfFirstWheel_26 rfl (lv_at hl 2 rfl) ?_
        refine lv_iload_n hx hb dX1_sharersOfFirstWheel_27 rfl (lv_at hl 0 rfl) ?_
        refine lv_iconst (v := nI 1) hx hb dX1_sharersOfFirstWheel_28 (by decide) ?_
        refine n_icmp_le (tgt := 36) hx hb dX1_sharersOfFirstWheel_29 (by decide) (by omega) (by decide) (fun c_8 => ?_) (fun c_8 => ?_)
        · -- 29 to 36
          have hpc_q := c_8
          refine lv_iconst (v := nI 0) hx hb dX1_sharersOfFirstWheel_36 (by decide) ?_
          refine n_iadd hx hb dX1_sharersOfFirstWheel_37  ?_
          refine lv_istore_n (lv' := [(1, .int (nI (v + 0))), (3, .int (nI (pcN (cv (0 * 6 + t))))), (2, .int (nI (t))), (0, .ref xe)]) hx hb dX1_sharersOfFirstWheel_38 rfl hl (by decide) rfl (fun ls hl => ?_)
          refine lv_iinc (v := nI (t + 1)) (lv' := [(2, .int (nI (t + 1))), (1, .int (nI (v + 0))), (3, .int (nI (pcN (cv (0 * 6 + t))))), (0, .ref xe)]) hx hb dX1_sharersOfFirstWheel_39 hl (k := 2) rfl (n_inc _ 1) (by decide) rfl (fun ls hl => ?_)
          refine lv_goto (tgt := 4) hx hb dX1_sharersOfFirstWheel_42 (by decide) ?_
          exact ih_4 (v + 0) (t + 1) (by omega) (by rw [hv]; first | exact sh_f hpc_q | exact sh_t hpc_q) (by omega) _ _ hP hD hS _ (lv_sub hl [0, 1, 3] rfl)
        · -- 29 to 32
          have hpc_q := c_8
          refine lv_iload_n hx hb dX1_sharersOfFirstWheel_32 rfl (lv_at hl 0 rfl) ?_
          refine lv_goto (tgt := 37) hx hb dX1_sharersOfFirstWheel_33 (by decide) ?_
          refine n_iadd hx hb dX1_sharersOfFirstWheel_37  ?_
          refine lv_istore_n (lv' := [(1, .int (nI (v + (pcN (cv (0 * 6 + t)))))), (3, .int (nI (pcN (cv (0 * 6 + t))))), (2, .int (nI (t))), (0, .ref xe)]) hx hb dX1_sharersOfFirstWheel_38 rfl hl (by decide) rfl (fun ls hl => ?_)
          refine lv_iinc (v := nI (t + 1)) (lv' := [(2, .int (nI (t + 1))), (1, .int (nI (v + (pcN (cv (0 * 6 + t)))))), (3, .int (nI (pcN (cv (0 * 6 + t))))), (0, .ref xe)]) hx hb dX1_sharersOfFirstWheel_39 hl (k := 2) rfl (n_inc _ 1) (by decide) rfl (fun ls hl => ?_)
          refine lv_goto (tgt := 4) hx hb dX1_sharersOfFirstWheel_42 (by decide) ?_
          exact ih_4 (v + (pcN (cv (0 * 6 + t)))) (t + 1) (by omega) (by rw [hv]; first | exact sh_f hpc_q | exact sh_t hpc_q) (by omega) _ _ hP hD hS _ (lv_sub hl [0, 1, 3] rfl)
  exact loop_4 _ 0 0 (by omega) rfl (Nat.lt_succ_self _) _ _ hP hD hS _ (lv_sub hl [0, 1, 2] rfl)
set_option maxHeartbeats 4000000 in
set_option maxRecDepth 100000 in
theorem k_X6_caught {l : Launch} {D : va_G} {cI cC cB : ClassId} {o xt xg xu xk xd xf : Nat} {xe ec : Nat} {oq : Nat → Nat} {eu cv rv : Nat → Nat} {a : Nat} {pq : Nat → Nat} {bx te ps pu sd cj ta : Nat → Nat} {b : Nat} {bq : Nat → Nat} {nw up st ex tl he dy se : Nat → Nat} {fi : Nat} {x y v : Int32}  (hR : PlR bx te ps pu sd cj ta) (hX : BoR bx nw up st ex tl he dy se fi) : ML l yX6_caught cX6_caught 9 (some .long) 5 D (Ty3 cI cC cB) [.ref o, .int (x), .int (y), .int (v)] [(o, .inr (6, [.ref xt, .ref xg, .ref xu, .ref xk, .ref b, .ref xd, .ref xe, .ref a, .ref xf])), eO xe oq ec, (oq 0, .inl (cI, 12, .inl (fun z_ => nI (eu z_)))), (oq 1, .inl (cI, 24, .inl (fun z_ => nI (cv z_)))), (oq 2, .inl (cI, 12, .inl (fun z_ => nI (rv z_)))), bO b bq fi (nw 2) (nw 0) (nw 1), (bq 0, .inl (cI, 4, .inl (fun z_ => nI (up z_)))), (bq 1, .inl (cI, 4, .inl (fun z_ => nI (st z_)))), (bq 2, .inl (cI, 12, .inl (fun z_ => nI (ex z_)))), (bq 3, .inl (cI, 12, .inl (fun z_ => nI (tl z_)))), (bq 4, .inl (cI, 12, .inl (fun z_ => nI (he z_)))), (bq 5, .inl (cI, 12, .inl (fun z_ => nI (dy z_)))), (bq 6, .inl (cI, 12, .inl (fun z_ => nI (se z_)))), pO a pq (bx 0) (bx 2) (bx 1) (szN bx (bx 0)) (bx 3) (bx 4), (pq 0, .inl (cI, 4, .inl (fun z_ => nI (te z_)))), (pq 1, .inl (cI, 4, .inl (fun z_ => nI (ps z_)))), (pq 2, .inl (cI, 4, .inl (fun z_ => nI (pu z_)))), (pq 3, .inl (cI, 4, .inl (fun z_ => nI (sd z_)))), (pq 4, .inl (cI, 8, .inl (fun z_ => nI (cj z_)))), (pq 5, .inl (cI, 5, .inl (fun z_ => nI (ta z_))))] (fun r u => (∃ e2 : Nat, ∃ eu2 : Nat → Nat, ∃ cv2 : Nat → Nat, ∃ rv2 : Nat → Nat, r = cuA bx nw x y v ∧ u = [(o, .inr (6, [.ref xt, .ref xg, .ref xu, .ref xk, .ref b, .ref xd, .ref xe, .ref a, .ref xf])), eO xe oq e2, (oq 0, .inl (cI, 12, .inl (fun z_ => nI (eu2 z_)))), (oq 1, .inl (cI, 24, .inl (fun z_ => nI (cv2 z_)))), (oq 2, .inl (cI, 12, .inl (fun z_ => nI (rv2 z_)))), bO b bq fi (nw 2) (nw 0) (nw 1), (bq 0, .inl (cI, 4, .inl (fun z_ => nI (up z_)))), (bq 1, .inl (cI, 4, .inl (fun z_ => nI (st z_)))), (bq 2, .inl (cI, 12, .inl (fun z_ => nI (ex z_)))), (bq 3, .inl (cI, 12, .inl (fun z_ => nI (tl z_)))), (bq 4, .inl (cI, 12, .inl (fun z_ => nI (he z_)))), (bq 5, .inl (cI, 12, .inl (fun z_ => nI (dy z_)))), (bq 6, .inl (cI, 12, .inl (fun z_ => nI (se z_)))), pO a pq (bx 0) (bx 2) (bx 1) (szN bx (bx 0)) (bx 3) (bx 4), (pq 0, .inl (cI, 4, .inl (fun z_ => nI (te z_)))), (pq 1, .inl (cI, 4, .inl (fun z_ => nI (ps z_)))), (pq 2, .inl (cI, 4, .inl (fun z_ => nI (pu z_)))), (pq 3, .inl (cI, 4, .inl (fun z_ => nI (sd z_)))), (pq 4, .inl (cI, 8, .inl (fun z_ => nI (cj z_)))), (pq 5, .inl (cI, 5, .inl (fun z_ => nI (ta z_))))])) := by
  intro sz
  refine ML.walk (by decide +kernel) (Nat.le_of_ble_eq_true rfl) ?_
  intro p e s m args below meth c A Qf hx hb hml hts hown hret hK hP hD hS hA ls hl
  have hown : s.vm.findClass RX6 = some m.cls := hown
  have hl : lv_has ls 9 [(0, .ref o), (1, .int (x)), (2, .int (y)), (3, .int (v))] := hl
  have hP : va_P D vwCl [(o, .inr (6, [.ref xt, .ref xg, .ref xu, .ref xk, .ref b, .ref xd, .ref xe, .ref a, .ref xf])), eO xe oq ec, (oq 0, .inl (cI, 12, .inl (fun z_ => nI (eu z_)))), (oq 1, .inl (cI, 24, .inl (fun z_ => nI (cv z_)))), (oq 2, .inl (cI, 12, .inl (fun z_ => nI (rv z_)))), bO b bq fi (nw 2) (nw 0) (nw 1), (bq 0, .inl (cI, 4, .inl (fun z_ => nI (up z_)))), (bq 1, .inl (cI, 4, .inl (fun z_ => nI (st z_)))), (bq 2, .inl (cI, 12, .inl (fun z_ => nI (ex z_)))), (bq 3, .inl (cI, 12, .inl (fun z_ => nI (tl z_)))), (bq 4, .inl (cI, 12, .inl (fun z_ => nI (he z_)))), (bq 5, .inl (cI, 12, .inl (fun z_ => nI (dy z_)))), (bq 6, .inl (cI, 12, .inl (fun z_ => nI (se z_)))), pO a pq (bx 0) (bx 2) (bx 1) (szN bx (bx 0)) (bx 3) (bx 4), (pq 0, .inl (cI, 4, .inl (fun z_ => nI (te z_)))), (pq 1, .inl (cI, 4, .inl (fun z_ => nI (ps z_)))), (pq 2, .inl (cI, 4, .inl (fun z_ => nI (pu z_)))), (pq 3, .inl (cI, 4, .inl (fun z_ => nI (sd z_)))), (pq 4, .inl (cI, 8, .inl (fun z_ => nI (cj z_)))), (pq 5, .inl (cI, 5, .inl (fun z_ => nI (ta z_))))] s.heap := hP
  have hD : va_D A [(o, .inr (6, [.ref xt, .ref xg, .ref xu, .ref xk, .ref b, .ref xd, .ref xe, .ref a, .ref xf])), eO xe oq ec, (oq 0, .inl (cI, 12, .inl (fun z_ => nI (eu z_)))), (oq 1, .inl (cI, 24, .inl (fun z_ => nI (cv z_)))), (oq 2, .inl (cI, 12, .inl (fun z_ => nI (rv z_)))), bO b bq fi (nw 2) (nw 0) (nw 1), (bq 0, .inl (cI, 4, .inl (fun z_ => nI (up z_)))), (bq 1, .inl (cI, 4, .inl (fun z_ => nI (st z_)))), (bq 2, .inl (cI, 12, .inl (fun z_ => nI (ex z_)))), (bq 3, .inl (cI, 12, .inl (fun z_ => nI (tl z_)))), (bq 4, .inl (cI, 12, .inl (fun z_ => nI (he z_)))), (bq 5, .inl (cI, 12, .inl (fun z_ => nI (dy z_)))), (bq 6, .inl (cI, 12, .inl (fun z_ => nI (se z_)))), pO a pq (bx 0) (bx 2) (bx 1) (szN bx (bx 0)) (bx 3) (bx 4), (pq 0, .inl (cI, 4, .inl (fun z_ => nI (te z_)))), (pq 1, .inl (cI, 4, .inl (fun z_ => nI (ps z_)))), (pq 2, .inl (cI, 4, .inl (fun z_ => nI (pu z_)))), (pq 3, .inl (cI, 4, .inl (fun z_ => nI (sd z_)))), (pq 4, .inl (cI, 8, .inl (fun z_ => nI (cj z_)))), (pq 5, .inl (cI, 5, .inl (fun z_ => nI (ta z_))))] := hD
  refine lv_aload_n hx hb dX6_caught_0 rfl (lv_at hl 0 rfl) ?_
  refine lv_iload_n hx hb dX6_caught_1 rfl (lv_at hl 1 rfl) ?_
  refine cl_6_126 (As := [.int (x)]) (rest := []) hx hb hml hts hown (k_X6_isPerson (by first | assumption | omega)) (by decide) ⟨Nat.zero_le _, Nat.zero_le _⟩ hK hP hD hS hA 0 rfl [0, 13, 14, 15, 16, 17, 18, 19] rfl (by decide) rfl hl.1 rfl (Nat.le_of_ble_eq_true rfl) dX6_caught_2 (fun r_1 u H locs hp_2 hP hD hS => ?_)
  obtain ⟨rfl, rfl⟩ := hp_2
  dsimp only [putAll, List.set] at hP hD
  have hP : va_P D vwCl [(o, .inr (6, [.ref xt, .ref xg, .ref xu, .ref xk, .ref b, .ref xd, .ref xe, .ref a, .ref xf])), eO xe oq ec, (oq 0, .inl (cI, 12, .inl (fun z_ => nI (eu z_)))), (oq 1, .inl (cI, 24, .inl (fun z_ => nI (cv z_)))), (oq 2, .inl (cI, 12, .inl (fun z_ => nI (rv z_)))), bO b bq fi (nw 2) (nw 0) (nw 1), (bq 0, .inl (cI, 4, .inl (fun z_ => nI (up z_)))), (bq 1, .inl (cI, 4, .inl (fun z_ => nI (st z_)))), (bq 2, .inl (cI, 12, .inl (fun z_ => nI (ex z_)))), (bq 3, .inl (cI, 12, .inl (fun z_ => nI (tl z_)))), (bq 4, .inl (cI, 12, .inl (fun z_ => nI (he z_)))), (bq 5, .inl (cI, 12, .inl (fun z_ => nI (dy z_)))), (bq 6, .inl (cI, 12, .inl (fun z_ => nI (se z_)))), pO a pq (bx 0) (bx 2) (bx 1) (szN bx (bx 0)) (bx 3) (bx 4), (pq 0, .inl (cI, 4, .inl (fun z_ => nI (te z_)))), (pq 1, .inl (cI, 4, .inl (fun z_ => nI (ps z_)))), (pq 2, .inl (cI, 4, .inl (fun z_ => nI (pu z_)))), (pq 3, .inl (cI, 4, .inl (fun z_ => nI (sd z_)))), (pq 4, .inl (cI, 8, .inl (fun z_ => nI (cj z_)))), (pq 5, .inl (cI, 5, .inl (fun z_ => nI (ta z_))))] _ := hP
  have hD : va_D A [(o, .inr (6, [.ref xt, .ref xg, .ref xu, .ref xk, .ref b, .ref xd, .ref xe, .ref a, .ref xf])), eO xe oq ec, (oq 0, .inl (cI, 12, .inl (fun z_ => nI (eu z_)))), (oq 1, .inl (cI, 24, .inl (fun z_ => nI (cv z_)))), (oq 2, .inl (cI, 12, .inl (fun z_ => nI (rv z_)))), bO b bq fi (nw 2) (nw 0) (nw 1), (bq 0, .inl (cI, 4, .inl (fun z_ => nI (up z_)))), (bq 1, .inl (cI, 4, .inl (fun z_ => nI (st z_)))), (bq 2, .inl (cI, 12, .inl (fun z_ => nI (ex z_)))), (bq 3, .inl (cI, 12, .inl (fun z_ => nI (tl z_)))), (bq 4, .inl (cI, 12, .inl (fun z_ => nI (he z_)))), (bq 5, .inl (cI, 12, .inl (fun z_ => nI (dy z_)))), (bq 6, .inl (cI, 12, .inl (fun z_ => nI (se z_)))), pO a pq (bx 0) (bx 2) (bx 1) (szN bx (bx 0)) (bx 3) (bx 4), (pq 0, .inl (cI, 4, .inl (fun z_ => nI (te z_)))), (pq 1, .inl (cI, 4, .inl (fun z_ => nI (ps z_)))), (pq 2, .inl (cI, 4, .inl (fun z_ => nI (pu z_)))), (pq 3, .inl (cI, 4, .inl (fun z_ => nI (sd z_)))), (pq 4, .inl (cI, 8, .inl (fun z_ => nI (cj z_)))), (pq 5, .inl (cI, 5, .inl (fun z_ => nI (ta z_))))] := hD
  refine n_ifb_eq (tgt := 25) hx hb dX6_caught_5 (by decide) (fun c_3 => ?_) (fun c_3 => ?_)
  · -- 5 to 25
    refine lv_ldc2 (v := (-1)) hx hb hown (hts _ tw_635) dX6_caught_25 ?_
    refine hret hP hD hS dX6_caught_28 rfl ?_
    exact ⟨_, _, _, _, by first | exact cu_n1 (by assumption) | exact cu_n2 hvj_q | exact cu_n3 hvk_q, rfl⟩
  · -- 5 to 8
    obtain ⟨j, hj, rfl⟩ := inN_e (by have := hR.b.bd 1; omega) c_3
    have hij_q : ix (nI j) = j := ix_n (by have := hR.b.bd 1; omega)
    have hicj_q : (nI j).toNatClampNeg = j := ix_n (by have := hR.b.bd 1; omega)
    refine lv_iload_n hx hb dX6_caught_8 rfl (lv_at hl 2 rfl) ?_
    refine lv_if_lt (tgt := 25) hx hb dX6_caught_9 (by decide) (fun c_4 => ?_) (fun c_4 => ?_)
    · -- 9 to 25
      have hvj_q := inR_neg 10 c_4
      refine lv_ldc2 (v := (-1)) hx hb hown (hts _ tw_635) dX6_caught_25 ?_
      refine hret hP hD hS dX6_caught_28 rfl ?_
      exact ⟨_, _, _, _, by first | exact cu_n1 (by assumption) | exact cu_n2 hvj_q | exact cu_n3 hvk_q, rfl⟩
    · -- 9 to 12
      refine lv_iload_n hx hb dX6_caught_12 rfl (lv_at hl 2 rfl) ?_
      refine lv_bipush (v := nI 10) hx hb dX6_caught_13 (by decide) ?_
      refine lv_icmp_gt (tgt := 25) hx hb dX6_caught_15 (by decide) (fun c_5 => ?_) (fun c_5 => ?_)
      · -- 15 to 25
        have hvj_q := inR_big (b := 10) (by decide) c_5
        refine lv_ldc2 (v := (-1)) hx hb hown (hts _ tw_635) dX6_caught_25 ?_
        refine hret hP hD hS dX6_caught_28 rfl ?_
        exact ⟨_, _, _, _, by first | exact cu_n1 (by assumption) | exact cu_n2 hvj_q | exact cu_n3 hvk_q, rfl⟩
      · -- 15 to 18
        have hvj_q := inR_mid (b := 10) (by decide) (by assumption) c_5
        obtain ⟨n, hl1, hh1, rfl⟩ := inR_e (by omega) hvj_q
        have hin_q : ix (nI n) = n := ix_n (by omega)
        refine lv_iload_n hx hb dX6_caught_18 rfl (lv_at hl 3 rfl) ?_
        refine cl_6_206 (As := [.int (v)]) (rest := []) hx hb hml hts hown (k_X6_isPart ) (by decide) ⟨Nat.zero_le _, Nat.zero_le _⟩ hK hP hD hS hA [] rfl (by decide) rfl hl.1 rfl (Nat.le_of_ble_eq_true rfl) dX6_caught_19 (fun r_6 u H locs hp_7 hP hD hS => ?_)
        obtain ⟨rfl, rfl⟩ := hp_7
        dsimp only [putAll, List.set] at hP hD
        have hP : va_P D vwCl [(o, .inr (6, [.ref xt, .ref xg, .ref xu, .ref xk, .ref b, .ref xd, .ref xe, .ref a, .ref xf])), eO xe oq ec, (oq 0, .inl (cI, 12, .inl (fun z_ => nI (eu z_)))), (oq 1, .inl (cI, 24, .inl (fun z_ => nI (cv z_)))), (oq 2, .inl (cI, 12, .inl (fun z_ => nI (rv z_)))), bO b bq fi (nw 2) (nw 0) (nw 1), (bq 0, .inl (cI, 4, .inl (fun z_ => nI (up z_)))), (bq 1, .inl (cI, 4, .inl (fun z_ => nI (st z_)))), (bq 2, .inl (cI, 12, .inl (fun z_ => nI (ex z_)))), (bq 3, .inl (cI, 12, .inl (fun z_ => nI (tl z_)))), (bq 4, .inl (cI, 12, .inl (fun z_ => nI (he z_)))), (bq 5, .inl (cI, 12, .inl (fun z_ => nI (dy z_)))), (bq 6, .inl (cI, 12, .inl (fun z_ => nI (se z_)))), pO a pq (bx 0) (bx 2) (bx 1) (szN bx (bx 0)) (bx 3) (bx 4), (pq 0, .inl (cI, 4, .inl (fun z_ => nI (te z_)))), (pq 1, .inl (cI, 4, .inl (fun z_ => nI (ps z_)))), (pq 2, .inl (cI, 4, .inl (fun z_ => nI (pu z_)))), (pq 3, .inl (cI, 4, .inl (fun z_ => nI (sd z_)))), (pq 4, .inl (cI, 8, .inl (fun z_ => nI (cj z_)))), (pq 5, .inl (cI, 5, .inl (fun z_ => nI (ta z_))))] _ := hP
        have hD : va_D A [(o, .inr (6, [.ref xt, .ref xg, .ref xu, .ref xk, .ref b, .ref xd, .ref xe, .ref a, .ref xf])), eO xe oq ec, (oq 0, .inl (cI, 12, .inl (fun z_ => nI (eu z_)))), (oq 1, .inl (cI, 24, .inl (fun z_ => nI (cv z_)))), (oq 2, .inl (cI, 12, .inl (fun z_ => nI (rv z_)))), bO b bq fi (nw 2) (nw 0) (nw 1), (bq 0, .inl (cI, 4, .inl (fun z_ => nI (up z_)))), (bq 1, .inl (cI, 4, .inl (fun z_ => nI (st z_)))), (bq 2, .inl (cI, 12, .inl (fun z_ => nI (ex z_)))), (bq 3, .inl (cI, 12, .inl (fun z_ => nI (tl z_)))), (bq 4, .inl (cI, 12, .inl (fun z_ => nI (he z_)))), (bq 5, .inl (cI, 12, .inl (fun z_ => nI (dy z_)))), (bq 6, .inl (cI, 12, .inl (fun z_ => nI (se z_)))), pO a pq (bx 0) (bx 2) (bx 1) (szN bx (bx 0)) (bx 3) (bx 4), (pq 0, .inl (cI, 4, .inl (fun z_ => nI (te z_)))), (pq 1, .inl (cI, 4, .inl (fun z_ => nI (ps z_)))), (pq 2, .inl (cI, 4, .inl (fun z_ => nI (pu z_)))), (pq 3, .inl (cI, 4, .inl (fun z_ => nI (sd z_)))), (pq 4, .inl (cI, 8, .inl (fun z_ => nI (cj z_)))), (pq 5, .inl (cI, 5, .inl (fun z_ => nI (ta z_))))] := hD
        refine n_ifb_ne (tgt := 29) hx hb dX6_caught_22 (by decide) (fun c_8 => ?_) (fun c_8 => ?_)
        · -- 22 to 29
          have hvk_q := c_8
          obtain ⟨k, hl2, hh2, rfl⟩ := inR_e (by omega) hvk_q
          have hik_q : ix (nI k) = k := ix_n (by omega)
          refine lv_aload_n hx hb dX6_caught_29 rfl (lv_at hl 0 rfl) ?_
          refine gf_6_48 hx hb hts hown hK hP 0 rfl rfl dX6_caught_30 ?_
          refine lv_aload_n hx hb dX6_caught_33 rfl (lv_at hl 0 rfl) ?_
          refine gf_6_55 hx hb hts hown hK hP 0 rfl rfl dX6_caught_34 ?_
          refine lv_aload_n hx hb dX6_caught_37 rfl (lv_at hl 0 rfl) ?_
          refine gf_6_38 hx hb hts hown hK hP 0 rfl rfl dX6_caught_38 ?_
          refine lv_iload_n hx hb dX6_caught_41 rfl (lv_at hl 1 rfl) ?_
          refine cl_6_219 (As := [.ref a, .ref b, .int (nI (j))]) (rest := []) hx hb hml hts hown (k_X1_listen (by first | assumption | omega) (by first | assumption | omega) (by first | assumption | omega)) (by decide) ⟨Nat.zero_le _, Nat.zero_le _⟩ hK hP hD hS hA 1 rfl [1, 2, 3, 5, 6, 7, 8, 9, 10, 11, 12, 13, 14, 15, 16, 17, 18, 19] rfl (by decide) rfl hl.1 rfl (Nat.le_of_ble_eq_true rfl) dX6_caught_42 (fun  u H locs hp_9 hP hD hS => ?_)
          obtain ⟨z_10, z_11, hq_12, rfl⟩ := hp_9
          dsimp only [putAll, List.set] at hP hD
          have hP : va_P D vwCl [(o, .inr (6, [.ref xt, .ref xg, .ref xu, .ref xk, .ref b, .ref xd, .ref xe, .ref a, .ref xf])), eO xe oq (cnP (pyB nw j) (nw 2)), (oq 0, .inl (cI, 12, .inl (fun z_ => nI (z_10 z_)))), (oq 1, .inl (cI, 24, .inl (fun z_ => nI (z_11 z_)))), (oq 2, .inl (cI, 12, .inl (fun z_ => nI (rv z_)))), bO b bq fi (nw 2) (nw 0) (nw 1), (bq 0, .inl (cI, 4, .inl (fun z_ => nI (up z_)))), (bq 1, .inl (cI, 4, .inl (fun z_ => nI (st z_)))), (bq 2, .inl (cI, 12, .inl (fun z_ => nI (ex z_)))), (bq 3, .inl (cI, 12, .inl (fun z_ => nI (tl z_)))), (bq 4, .inl (cI, 12, .inl (fun z_ => nI (he z_)))), (bq 5, .inl (cI, 12, .inl (fun z_ => nI (dy z_)))), (bq 6, .inl (cI, 12, .inl (fun z_ => nI (se z_)))), pO a pq (bx 0) (bx 2) (bx 1) (szN bx (bx 0)) (bx 3) (bx 4), (pq 0, .inl (cI, 4, .inl (fun z_ => nI (te z_)))), (pq 1, .inl (cI, 4, .inl (fun z_ => nI (ps z_)))), (pq 2, .inl (cI, 4, .inl (fun z_ => nI (pu z_)))), (pq 3, .inl (cI, 4, .inl (fun z_ => nI (sd z_)))), (pq 4, .inl (cI, 8, .inl (fun z_ => nI (cj z_)))), (pq 5, .inl (cI, 5, .inl (fun z_ => nI (ta z_))))] _ := hP
          have hD : va_D A [(o, .inr (6, [.ref xt, .ref xg, .ref xu, .ref xk, .ref b, .ref xd, .ref xe, .ref a, .ref xf])), eO xe oq (cnP (pyB nw j) (nw 2)), (oq 0, .inl (cI, 12, .inl (fun z_ => nI (z_10 z_)))), (oq 1, .inl (cI, 24, .inl (fun z_ => nI (z_11 z_)))), (oq 2, .inl (cI, 12, .inl (fun z_ => nI (rv z_)))), bO b bq fi (nw 2) (nw 0) (nw 1), (bq 0, .inl (cI, 4, .inl (fun z_ => nI (up z_)))), (bq 1, .inl (cI, 4, .inl (fun z_ => nI (st z_)))), (bq 2, .inl (cI, 12, .inl (fun z_ => nI (ex z_)))), (bq 3, .inl (cI, 12, .inl (fun z_ => nI (tl z_)))), (bq 4, .inl (cI, 12, .inl (fun z_ => nI (he z_)))), (bq 5, .inl (cI, 12, .inl (fun z_ => nI (dy z_)))), (bq 6, .inl (cI, 12, .inl (fun z_ => nI (se z_)))), pO a pq (bx 0) (bx 2) (bx 1) (szN bx (bx 0)) (bx 3) (bx 4), (pq 0, .inl (cI, 4, .inl (fun z_ => nI (te z_)))), (pq 1, .inl (cI, 4, .inl (fun z_ => nI (ps z_)))), (pq 2, .inl (cI, 4, .inl (fun z_ => nI (pu z_)))), (pq 3, .inl (cI, 4, .inl (fun z_ => nI (sd z_)))), (pq 4, .inl (cI, 8, .inl (fun z_ => nI (cj z_)))), (pq 5, .inl (cI, 5, .inl (fun z_ => nI (ta z_))))] := hD
          have hEa_q := hq_12
          have hec_q := ear_c hX.d hEa_q
          have hsh_q := sh_e hR.b hX.d hEa_q
          refine lv_bipush (v := nI 10) hx hb dX6_caught_45 (by decide) ?_
          refine lv_bipush (v := nI 10) hx hb dX6_caught_47 (by decide) ?_
          refine lv_iload_n hx hb dX6_caught_49 rfl (lv_at hl 2 rfl) ?_
          refine n_isub hx hb dX6_caught_50 (by omega) ?_
          refine cl_6_234 (As := [.int (nI (10)), .int (nI (10 - n))]) (rest := []) hx hb hml hts hown (k_X6_commonDivisor (by decide) (by omega)) (by decide) ⟨Nat.zero_le _, Nat.zero_le _⟩ hK hP hD hS hA [] rfl (by decide) rfl hl.1 rfl (Nat.le_of_ble_eq_true rfl) dX6_caught_51 (fun r_13 u H locs hp_14 hP hD hS => ?_)
          obtain ⟨rfl, rfl⟩ := hp_14
          dsimp only [putAll, List.set] at hP hD
          have hP : va_P D vwCl [(o, .inr (6, [.ref xt, .ref xg, .ref xu, .ref xk, .ref b, .ref xd, .ref xe, .ref a, .ref xf])), eO xe oq (cnP (pyB nw j) (nw 2)), (oq 0, .inl (cI, 12, .inl (fun z_ => nI (z_10 z_)))), (oq 1, .inl (cI, 24, .inl (fun z_ => nI (z_11 z_)))), (oq 2, .inl (cI, 12, .inl (fun z_ => nI (rv z_)))), bO b bq fi (nw 2) (nw 0) (nw 1), (bq 0, .inl (cI, 4, .inl (fun z_ => nI (up z_)))), (bq 1, .inl (cI, 4, .inl (fun z_ => nI (st z_)))), (bq 2, .inl (cI, 12, .inl (fun z_ => nI (ex z_)))), (bq 3, .inl (cI, 12, .inl (fun z_ => nI (tl z_)))), (bq 4, .inl (cI, 12, .inl (fun z_ => nI (he z_)))), (bq 5, .inl (cI, 12, .inl (fun z_ => nI (dy z_)))), (bq 6, .inl (cI, 12, .inl (fun z_ => nI (se z_)))), pO a pq (bx 0) (bx 2) (bx 1) (szN bx (bx 0)) (bx 3) (bx 4), (pq 0, .inl (cI, 4, .inl (fun z_ => nI (te z_)))), (pq 1, .inl (cI, 4, .inl (fun z_ => nI (ps z_)))), (pq 2, .inl (cI, 4, .inl (fun z_ => nI (pu z_)))), (pq 3, .inl (cI, 4, .inl (fun z_ => nI (sd z_)))), (pq 4, .inl (cI, 8, .inl (fun z_ => nI (cj z_)))), (pq 5, .inl (cI, 5, .inl (fun z_ => nI (ta z_))))] _ := hP
          have hD : va_D A [(o, .inr (6, [.ref xt, .ref xg, .ref xu, .ref xk, .ref b, .ref xd, .ref xe, .ref a, .ref xf])), eO xe oq (cnP (pyB nw j) (nw 2)), (oq 0, .inl (cI, 12, .inl (fun z_ => nI (z_10 z_)))), (oq 1, .inl (cI, 24, .inl (fun z_ => nI (z_11 z_)))), (oq 2, .inl (cI, 12, .inl (fun z_ => nI (rv z_)))), bO b bq fi (nw 2) (nw 0) (nw 1), (bq 0, .inl (cI, 4, .inl (fun z_ => nI (up z_)))), (bq 1, .inl (cI, 4, .inl (fun z_ => nI (st z_)))), (bq 2, .inl (cI, 12, .inl (fun z_ => nI (ex z_)))), (bq 3, .inl (cI, 12, .inl (fun z_ => nI (tl z_)))), (bq 4, .inl (cI, 12, .inl (fun z_ => nI (he z_)))), (bq 5, .inl (cI, 12, .inl (fun z_ => nI (dy z_)))), (bq 6, .inl (cI, 12, .inl (fun z_ => nI (se z_)))), pO a pq (bx 0) (bx 2) (bx 1) (szN bx (bx 0)) (bx 3) (bx 4), (pq 0, .inl (cI, 4, .inl (fun z_ => nI (te z_)))), (pq 1, .inl (cI, 4, .inl (fun z_ => nI (ps z_)))), (pq 2, .inl (cI, 4, .inl (fun z_ => nI (pu z_)))), (pq 3, .inl (cI, 4, .inl (fun z_ => nI (sd z_)))), (pq 4, .inl (cI, 8, .inl (fun z_ => nI (cj z_)))), (pq 5, .inl (cI, 5, .inl (fun z_ => nI (ta z_))))] := hD
          have hg_q : 0 < Nat.gcd 10 (10 - n) := Nat.gcd_pos_of_pos_left _ (by decide)
          have hg2_q : Nat.gcd 10 (10 - n) ≤ 10 := Nat.gcd_le_left _ (by decide)
          refine lv_istore (lv' := [(4, .int (nI (Nat.gcd 10 (10 - n)))), (0, .ref o), (1, .int (nI (j))), (2, .int (nI (n))), (3, .int (nI (k)))]) hx hb dX6_caught_54 hl (by decide) rfl (fun ls hl => ?_)
          refine lv_iload_n hx hb dX6_caught_56 rfl (lv_at hl 4 rfl) ?_
          refine n_if_ne (tgt := 67) hx hb dX6_caught_57 (by decide) (by omega) (fun c_15 => ?_) (fun c_15 => ?_)
          · -- 57 to 67
            have hv0_q := c_15
            refine lv_bipush (v := nI 10) hx hb dX6_caught_67 (by decide) ?_
            refine lv_iload hx hb dX6_caught_69 (lv_at hl 0 rfl) ?_
            refine n_if_le (tgt := 79) hx hb dX6_caught_71 (by decide) (by omega) (fun c_16 => ?_) (fun c_16 => ?_)
            · omega
            · -- 71 to 74
              refine lv_iload hx hb dX6_caught_74 (lv_at hl 0 rfl) ?_
              refine lv_goto (tgt := 80) hx hb dX6_caught_76 (by decide) ?_
              refine n_idiv hx hb dX6_caught_80 (by omega) (by omega) (by omega) ?_
              refine lv_istore (lv' := [(5, .int (nI (10 / (Nat.gcd 10 (10 - n))))), (4, .int (nI (Nat.gcd 10 (10 - n)))), (0, .ref o), (1, .int (nI (j))), (2, .int (nI (n))), (3, .int (nI (k)))]) hx hb dX6_caught_81 hl (by decide) rfl (fun ls hl => ?_)
              refine lv_lconst (v := lN 1) hx hb dX6_caught_83 (by decide) ?_
              refine lv_lstore (lv' := [(6, .long (lN (1))), (5, .int (nI (10 / (Nat.gcd 10 (10 - n))))), (4, .int (nI (Nat.gcd 10 (10 - n)))), (0, .ref o), (1, .int (nI (j))), (2, .int (nI (n))), (3, .int (nI (k)))]) hx hb dX6_caught_84 hl (by decide) rfl (fun ls hl => ?_)
              refine lv_aload_n hx hb dX6_caught_86 rfl (lv_at hl 3 rfl) ?_
              refine gf_6_48 hx hb hts hown hK hP 0 rfl rfl dX6_caught_87 ?_
              refine cl_6_237 (As := []) (rest := []) hx hb hml hts hown (k_X1_sharersOfFirstWheel (ear_v hX.d hEa_q)) (by decide) ⟨Nat.zero_le _, Nat.zero_le _⟩ hK hP hD hS hA 1 rfl [1, 3] rfl (by decide) rfl hl.1 rfl (Nat.le_of_ble_eq_true rfl) dX6_caught_90 (fun r_17 u H locs hp_18 hP hD hS => ?_)
              obtain ⟨rfl, rfl⟩ := hp_18
              dsimp only [putAll, List.set] at hP hD
              have hP : va_P D vwCl [(o, .inr (6, [.ref xt, .ref xg, .ref xu, .ref xk, .ref b, .ref xd, .ref xe, .ref a, .ref xf])), eO xe oq ((cnP (pyB nw j) (nw 2))), (oq 0, .inl (cI, 12, .inl (fun z_ => nI (z_10 z_)))), (oq 1, .inl (cI, 24, .inl (fun z_ => nI (z_11 z_)))), (oq 2, .inl (cI, 12, .inl (fun z_ => nI (rv z_)))), bO b bq fi (nw 2) (nw 0) (nw 1), (bq 0, .inl (cI, 4, .inl (fun z_ => nI (up z_)))), (bq 1, .inl (cI, 4, .inl (fun z_ => nI (st z_)))), (bq 2, .inl (cI, 12, .inl (fun z_ => nI (ex z_)))), (bq 3, .inl (cI, 12, .inl (fun z_ => nI (tl z_)))), (bq 4, .inl (cI, 12, .inl (fun z_ => nI (he z_)))), (bq 5, .inl (cI, 12, .inl (fun z_ => nI (dy z_)))), (bq 6, .inl (cI, 12, .inl (fun z_ => nI (se z_)))), pO a pq (bx 0) (bx 2) (bx 1) (szN bx (bx 0)) (bx 3) (bx 4), (pq 0, .inl (cI, 4, .inl (fun z_ => nI (te z_)))), (pq 1, .inl (cI, 4, .inl (fun z_ => nI (ps z_)))), (pq 2, .inl (cI, 4, .inl (fun z_ => nI (pu z_)))), (pq 3, .inl (cI, 4, .inl (fun z_ => nI (sd z_)))), (pq 4, .inl (cI, 8, .inl (fun z_ => nI (cj z_)))), (pq 5, .inl (cI, 5, .inl (fun z_ => nI (ta z_))))] _ := hP
              have hD : va_D A [(o, .inr (6, [.ref xt, .ref xg, .ref xu, .ref xk, .ref b, .ref xd, .ref xe, .ref a, .ref xf])), eO xe oq ((cnP (pyB nw j) (nw 2))), (oq 0, .inl (cI, 12, .inl (fun z_ => nI (z_10 z_)))), (oq 1, .inl (cI, 24, .inl (fun z_ => nI (z_11 z_)))), (oq 2, .inl (cI, 12, .inl (fun z_ => nI (rv z_)))), bO b bq fi (nw 2) (nw 0) (nw 1), (bq 0, .inl (cI, 4, .inl (fun z_ => nI (up z_)))), (bq 1, .inl (cI, 4, .inl (fun z_ => nI (st z_)))), (bq 2, .inl (cI, 12, .inl (fun z_ => nI (ex z_)))), (bq 3, .inl (cI, 12, .inl (fun z_ => nI (tl z_)))), (bq 4, .inl (cI, 12, .inl (fun z_ => nI (he z_)))), (bq 5, .inl (cI, 12, .inl (fun z_ => nI (dy z_)))), (bq 6, .inl (cI, 12, .inl (fun z_ => nI (se z_)))), pO a pq (bx 0) (bx 2) (bx 1) (szN bx (bx 0)) (bx 3) (bx 4), (pq 0, .inl (cI, 4, .inl (fun z_ => nI (te z_)))), (pq 1, .inl (cI, 4, .inl (fun z_ => nI (ps z_)))), (pq 2, .inl (cI, 4, .inl (fun z_ => nI (pu z_)))), (pq 3, .inl (cI, 4, .inl (fun z_ => nI (sd z_)))), (pq 4, .inl (cI, 8, .inl (fun z_ => nI (cj z_)))), (pq 5, .inl (cI, 5, .inl (fun z_ => nI (ta z_))))] := hD
              have hs12_q := li_12 (nw := nw) (bx := bx) (y := j) hX.d.h
              rw [hsh_q]
              refine lv_istore (lv' := [(8, .int (nI (liN bx nw j))), (6, .long (lN (1))), (5, .int (nI (10 / (Nat.gcd 10 (10 - n))))), (4, .int (nI (Nat.gcd 10 (10 - n)))), (0, .ref o), (1, .int (nI (j))), (2, .int (nI (n))), (3, .int (nI (k)))]) hx hb dX6_caught_93 hl (by decide) rfl (fun ls hl => ?_)
              have loop_95 : ∀ (N : Nat) (P : Nat) (sl : Nat), (sl ≤ liN bx nw j) → (P * (10 / (Nat.gcd 10 (10 - n))) ^ sl = (10 / (Nat.gcd 10 (10 - n))) ^ liN bx nw j) → sl < N → ∀ (H : Heap) (locs : List Loc), va_P D vwCl [(o, .inr (6, [.ref xt, .ref xg, .ref xu, .ref xk, .ref b, .ref xd, .ref xe, .ref a, .ref xf])), eO xe oq ((cnP (pyB nw j) (nw 2))), (oq 0, .inl (cI, 12, .inl (fun z_ => nI (z_10 z_)))), (oq 1, .inl (cI, 24, .inl (fun z_ => nI (z_11 z_)))), (oq 2, .inl (cI, 12, .inl (fun z_ => nI (rv z_)))), bO b bq fi (nw 2) (nw 0) (nw 1), (bq 0, .inl (cI, 4, .inl (fun z_ => nI (up z_)))), (bq 1, .inl (cI, 4, .inl (fun z_ => nI (st z_)))), (bq 2, .inl (cI, 12, .inl (fun z_ => nI (ex z_)))), (bq 3, .inl (cI, 12, .inl (fun z_ => nI (tl z_)))), (bq 4, .inl (cI, 12, .inl (fun z_ => nI (he z_)))), (bq 5, .inl (cI, 12, .inl (fun z_ => nI (dy z_)))), (bq 6, .inl (cI, 12, .inl (fun z_ => nI (se z_)))), pO a pq (bx 0) (bx 2) (bx 1) (szN bx (bx 0)) (bx 3) (bx 4), (pq 0, .inl (cI, 4, .inl (fun z_ => nI (te z_)))), (pq 1, .inl (cI, 4, .inl (fun z_ => nI (ps z_)))), (pq 2, .inl (cI, 4, .inl (fun z_ => nI (pu z_)))), (pq 3, .inl (cI, 4, .inl (fun z_ => nI (sd z_)))), (pq 4, .inl (cI, 8, .inl (fun z_ => nI (cj z_)))), (pq 5, .inl (cI, 5, .inl (fun z_ => nI (ta z_))))] H → va_D A [(o, .inr (6, [.ref xt, .ref xg, .ref xu, .ref xk, .ref b, .ref xd, .ref xe, .ref a, .ref xf])), eO xe oq ((cnP (pyB nw j) (nw 2))), (oq 0, .inl (cI, 12, .inl (fun z_ => nI (z_10 z_)))), (oq 1, .inl (cI, 24, .inl (fun z_ => nI (z_11 z_)))), (oq 2, .inl (cI, 12, .inl (fun z_ => nI (rv z_)))), bO b bq fi (nw 2) (nw 0) (nw 1), (bq 0, .inl (cI, 4, .inl (fun z_ => nI (up z_)))), (bq 1, .inl (cI, 4, .inl (fun z_ => nI (st z_)))), (bq 2, .inl (cI, 12, .inl (fun z_ => nI (ex z_)))), (bq 3, .inl (cI, 12, .inl (fun z_ => nI (tl z_)))), (bq 4, .inl (cI, 12, .inl (fun z_ => nI (he z_)))), (bq 5, .inl (cI, 12, .inl (fun z_ => nI (dy z_)))), (bq 6, .inl (cI, 12, .inl (fun z_ => nI (se z_)))), pO a pq (bx 0) (bx 2) (bx 1) (szN bx (bx 0)) (bx 3) (bx 4), (pq 0, .inl (cI, 4, .inl (fun z_ => nI (te z_)))), (pq 1, .inl (cI, 4, .inl (fun z_ => nI (ps z_)))), (pq 2, .inl (cI, 4, .inl (fun z_ => nI (pu z_)))), (pq 3, .inl (cI, 4, .inl (fun z_ => nI (sd z_)))), (pq 4, .inl (cI, 8, .inl (fun z_ => nI (cj z_)))), (pq 5, .inl (cI, 5, .inl (fun z_ => nI (ta z_))))] → va_S A s.heap H locs → ∀ ls : Array Slot, lv_has ls 9 [(8, .int (nI (sl))), (6, .long (lN (P))), (5, .int (nI (10 / (Nat.gcd 10 (10 - n))))), (4, .int (nI (Nat.gcd 10 (10 - n)))), (0, .ref o), (1, .int (nI (j))), (2, .int (nI (n))), (3, .int (nI (k)))] → W p l e (rmL 5) s m args below meth c H locs 0 0 Qf (F0 m 95 ls []) := by
                intro N; induction N with
                | zero => intro P sl _ _ hm; omega
                | succ N ih_95 =>
                  intro P sl hs9 hP9 hm H locs hP hD hS ls hl
                  refine lv_iload hx hb dX6_caught_95 (lv_at hl 0 rfl) ?_
                  refine n_if_le (tgt := 114) hx hb dX6_caught_97 (by decide) (by omega) (fun c_19 => ?_) (fun c_19 => ?_)
                  · -- 97 to 114
                    refine lv_lload hx hb dX6_caught_114 (lv_at hl 1 rfl) ?_
                    refine hret hP hD hS dX6_caught_116 rfl ?_
                    exact ⟨_, _, _, _, cu_t (by assumption) hvj_q hvk_q hij_q hin_q hik_q (by first | exact cu_v0 hv0_q hh1 hs12_q (cu_p (by omega) hP9) | exact cu_v1 hv0_q hh1 hs12_q (cu_p (by omega) hP9)), rfl⟩
                  · -- 97 to 100
                    refine lv_lload hx hb dX6_caught_100 (lv_at hl 1 rfl) ?_
                    refine lv_iload hx hb dX6_caught_102 (lv_at hl 2 rfl) ?_
                    refine lv_i2l (v := lN (10 / (Nat.gcd 10 (10 - n)))) hx hb dX6_caught_104 (nI_l (Nat.lt_of_le_of_lt (Nat.div_le_self _ _) (by omega))) ?_
                    refine n_lmul hx hb dX6_caught_105  ?_
                    refine lv_lstore (lv' := [(6, .long (lN (P * (10 / (Nat.gcd 10 (10 - n)))))), (8, .int (nI (sl))), (5, .int (nI (10 / (Nat.gcd 10 (10 - n))))), (4, .int (nI (Nat.gcd 10 (10 - n)))), (0, .ref o), (1, .int (nI (j))), (2, .int (nI (n))), (3, .int (nI (k)))]) hx hb dX6_caught_106 hl (by decide) rfl (fun ls hl => ?_)
                    refine lv_iinc (v := nI (sl - 1)) (lv' := [(8, .int (nI (sl - 1))), (6, .long (lN (P * (10 / (Nat.gcd 10 (10 - n)))))), (5, .int (nI (10 / (Nat.gcd 10 (10 - n))))), (4, .int (nI (Nat.gcd 10 (10 - n)))), (0, .ref o), (1, .int (nI (j))), (2, .int (nI (n))), (3, .int (nI (k)))]) hx hb dX6_caught_108 hl (k := 1) rfl (n_dec (by omega)) (by decide) rfl (fun ls hl => ?_)
                    refine lv_goto (tgt := 95) hx hb dX6_caught_111 (by decide) ?_
                    exact ih_95 (P * (10 / (Nat.gcd 10 (10 - n)))) (sl - 1) (by omega) (by rw [← hP9, Nat.mul_assoc, ← Nat.pow_succ', Nat.succ_eq_add_one, show sl - 1 + 1 = sl by omega]) (by omega) _ _ hP hD hS _ (lv_sub hl [0, 1, 2, 3, 4, 5, 6, 7] rfl)
              exact loop_95 _ 1 (liN bx nw j) (Nat.le_refl _) (Nat.one_mul _) (Nat.lt_succ_self _) _ _ hP hD hS _ (lv_sub hl [0, 1, 2, 3, 4, 5, 6, 7] rfl)
          · -- 57 to 60
            have hv0_q := c_15
            refine lv_bipush (v := nI 10) hx hb dX6_caught_60 (by decide) ?_
            refine lv_iload_n hx hb dX6_caught_62 rfl (lv_at hl 3 rfl) ?_
            refine n_isub hx hb dX6_caught_63 (by omega) ?_
            refine lv_goto (tgt := 69) hx hb dX6_caught_64 (by decide) ?_
            refine lv_iload hx hb dX6_caught_69 (lv_at hl 0 rfl) ?_
            refine n_if_le (tgt := 79) hx hb dX6_caught_71 (by decide) (by omega) (fun c_20 => ?_) (fun c_20 => ?_)
            · omega
            · -- 71 to 74
              refine lv_iload hx hb dX6_caught_74 (lv_at hl 0 rfl) ?_
              refine lv_goto (tgt := 80) hx hb dX6_caught_76 (by decide) ?_
              refine n_idiv hx hb dX6_caught_80 (by omega) (by omega) (by omega) ?_
              refine lv_istore (lv' := [(5, .int (nI ((10 - n) / (Nat.gcd 10 (10 - n))))), (4, .int (nI (Nat.gcd 10 (10 - n)))), (0, .ref o), (1, .int (nI (j))), (2, .int (nI (n))), (3, .int (nI (k)))]) hx hb dX6_caught_81 hl (by decide) rfl (fun ls hl => ?_)
              refine lv_lconst (v := lN 1) hx hb dX6_caught_83 (by decide) ?_
              refine lv_lstore (lv' := [(6, .long (lN (1))), (5, .int (nI ((10 - n) / (Nat.gcd 10 (10 - n))))), (4, .int (nI (Nat.gcd 10 (10 - n)))), (0, .ref o), (1, .int (nI (j))), (2, .int (nI (n))), (3, .int (nI (k)))]) hx hb dX6_caught_84 hl (by decide) rfl (fun ls hl => ?_)
              refine lv_aload_n hx hb dX6_caught_86 rfl (lv_at hl 3 rfl) ?_
              refine gf_6_48 hx hb hts hown hK hP 0 rfl rfl dX6_caught_87 ?_
              refine cl_6_237 (As := []) (rest := []) hx hb hml hts hown (k_X1_sharersOfFirstWheel (ear_v hX.d hEa_q)) (by decide) ⟨Nat.zero_le _, Nat.zero_le _⟩ hK hP hD hS hA 1 rfl [1, 3] rfl (by decide) rfl hl.1 rfl (Nat.le_of_ble_eq_true rfl) dX6_caught_90 (fun r_21 u H locs hp_22 hP hD hS => ?_)
              obtain ⟨rfl, rfl⟩ := hp_22
              dsimp only [putAll, List.set] at hP hD
              have hP : va_P D vwCl [(o, .inr (6, [.ref xt, .ref xg, .ref xu, .ref xk, .ref b, .ref xd, .ref xe, .ref a, .ref xf])), eO xe oq ((cnP (pyB nw j) (nw 2))), (oq 0, .inl (cI, 12, .inl (fun z_ => nI (z_10 z_)))), (oq 1, .inl (cI, 24, .inl (fun z_ => nI (z_11 z_)))), (oq 2, .inl (cI, 12, .inl (fun z_ => nI (rv z_)))), bO b bq fi (nw 2) (nw 0) (nw 1), (bq 0, .inl (cI, 4, .inl (fun z_ => nI (up z_)))), (bq 1, .inl (cI, 4, .inl (fun z_ => nI (st z_)))), (bq 2, .inl (cI, 12, .inl (fun z_ => nI (ex z_)))), (bq 3, .inl (cI, 12, .inl (fun z_ => nI (tl z_)))), (bq 4, .inl (cI, 12, .inl (fun z_ => nI (he z_)))), (bq 5, .inl (cI, 12, .inl (fun z_ => nI (dy z_)))), (bq 6, .inl (cI, 12, .inl (fun z_ => nI (se z_)))), pO a pq (bx 0) (bx 2) (bx 1) (szN bx (bx 0)) (bx 3) (bx 4), (pq 0, .inl (cI, 4, .inl (fun z_ => nI (te z_)))), (pq 1, .inl (cI, 4, .inl (fun z_ => nI (ps z_)))), (pq 2, .inl (cI, 4, .inl (fun z_ => nI (pu z_)))), (pq 3, .inl (cI, 4, .inl (fun z_ => nI (sd z_)))), (pq 4, .inl (cI, 8, .inl (fun z_ => nI (cj z_)))), (pq 5, .inl (cI, 5, .inl (fun z_ => nI (ta z_))))] _ := hP
              have hD : va_D A [(o, .inr (6, [.ref xt, .ref xg, .ref xu, .ref xk, .ref b, .ref xd, .ref xe, .ref a, .ref xf])), eO xe oq ((cnP (pyB nw j) (nw 2))), (oq 0, .inl (cI, 12, .inl (fun z_ => nI (z_10 z_)))), (oq 1, .inl (cI, 24, .inl (fun z_ => nI (z_11 z_)))), (oq 2, .inl (cI, 12, .inl (fun z_ => nI (rv z_)))), bO b bq fi (nw 2) (nw 0) (nw 1), (bq 0, .inl (cI, 4, .inl (fun z_ => nI (up z_)))), (bq 1, .inl (cI, 4, .inl (fun z_ => nI (st z_)))), (bq 2, .inl (cI, 12, .inl (fun z_ => nI (ex z_)))), (bq 3, .inl (cI, 12, .inl (fun z_ => nI (tl z_)))), (bq 4, .inl (cI, 12, .inl (fun z_ => nI (he z_)))), (bq 5, .inl (cI, 12, .inl (fun z_ => nI (dy z_)))), (bq 6, .inl (cI, 12, .inl (fun z_ => nI (se z_)))), pO a pq (bx 0) (bx 2) (bx 1) (szN bx (bx 0)) (bx 3) (bx 4), (pq 0, .inl (cI, 4, .inl (fun z_ => nI (te z_)))), (pq 1, .inl (cI, 4, .inl (fun z_ => nI (ps z_)))), (pq 2, .inl (cI, 4, .inl (fun z_ => nI (pu z_)))), (pq 3, .inl (cI, 4, .inl (fun z_ => nI (sd z_)))), (pq 4, .inl (cI, 8, .inl (fun z_ => nI (cj z_)))), (pq 5, .inl (cI, 5, .inl (fun z_ => nI (ta z_))))] := hD
              have hs12_q := li_12 (nw := nw) (bx := bx) (y := j) hX.d.h
              rw [hsh_q]
              refine lv_istore (lv' := [(8, .int (nI (liN bx nw j))), (6, .long (lN (1))), (5, .int (nI ((10 - n) / (Nat.gcd 10 (10 - n))))), (4, .int (nI (Nat.gcd 10 (10 - n)))), (0, .ref o), (1, .int (nI (j))), (2, .int (nI (n))), (3, .int (nI (k)))]) hx hb dX6_caught_93 hl (by decide) rfl (fun ls hl => ?_)
              have loop_95 : ∀ (N : Nat) (P : Nat) (sl : Nat), (sl ≤ liN bx nw j) → (P * ((10 - n) / (Nat.gcd 10 (10 - n))) ^ sl = ((10 - n) / (Nat.gcd 10 (10 - n))) ^ liN bx nw j) → sl < N → ∀ (H : Heap) (locs : List Loc), va_P D vwCl [(o, .inr (6, [.ref xt, .ref xg, .ref xu, .ref xk, .ref b, .ref xd, .ref xe, .ref a, .ref xf])), eO xe oq ((cnP (pyB nw j) (nw 2))), (oq 0, .inl (cI, 12, .inl (fun z_ => nI (z_10 z_)))), (oq 1, .inl (cI, 24, .inl (fun z_ => nI (z_11 z_)))), (oq 2, .inl (cI, 12, .inl (fun z_ => nI (rv z_)))), bO b bq fi (nw 2) (nw 0) (nw 1), (bq 0, .inl (cI, 4, .inl (fun z_ => nI (up z_)))), (bq 1, .inl (cI, 4, .inl (fun z_ => nI (st z_)))), (bq 2, .inl (cI, 12, .inl (fun z_ => nI (ex z_)))), (bq 3, .inl (cI, 12, .inl (fun z_ => nI (tl z_)))), (bq 4, .inl (cI, 12, .inl (fun z_ => nI (he z_)))), (bq 5, .inl (cI, 12, .inl (fun z_ => nI (dy z_)))), (bq 6, .inl (cI, 12, .inl (fun z_ => nI (se z_)))), pO a pq (bx 0) (bx 2) (bx 1) (szN bx (bx 0)) (bx 3) (bx 4), (pq 0, .inl (cI, 4, .inl (fun z_ => nI (te z_)))), (pq 1, .inl (cI, 4, .inl (fun z_ => nI (ps z_)))), (pq 2, .inl (cI, 4, .inl (fun z_ => nI (pu z_)))), (pq 3, .inl (cI, 4, .inl (fun z_ => nI (sd z_)))), (pq 4, .inl (cI, 8, .inl (fun z_ => nI (cj z_)))), (pq 5, .inl (cI, 5, .inl (fun z_ => nI (ta z_))))] H → va_D A [(o, .inr (6, [.ref xt, .ref xg, .ref xu, .ref xk, .ref b, .ref xd, .ref xe, .ref a, .ref xf])), eO xe oq ((cnP (pyB nw j) (nw 2))), (oq 0, .inl (cI, 12, .inl (fun z_ => nI (z_10 z_)))), (oq 1, .inl (cI, 24, .inl (fun z_ => nI (z_11 z_)))), (oq 2, .inl (cI, 12, .inl (fun z_ => nI (rv z_)))), bO b bq fi (nw 2) (nw 0) (nw 1), (bq 0, .inl (cI, 4, .inl (fun z_ => nI (up z_)))), (bq 1, .inl (cI, 4, .inl (fun z_ => nI (st z_)))), (bq 2, .inl (cI, 12, .inl (fun z_ => nI (ex z_)))), (bq 3, .inl (cI, 12, .inl (fun z_ => nI (tl z_)))), (bq 4, .inl (cI, 12, .inl (fun z_ => nI (he z_)))), (bq 5, .inl (cI, 12, .inl (fun z_ => nI (dy z_)))), (bq 6, .inl (cI, 12, .inl (fun z_ => nI (se z_)))), pO a pq (bx 0) (bx 2) (bx 1) (szN bx (bx 0)) (bx 3) (bx 4), (pq 0, .inl (cI, 4, .inl (fun z_ => nI (te z_)))), (pq 1, .inl (cI, 4, .inl (fun z_ => nI (ps z_)))), (pq 2, .inl (cI, 4, .inl (fun z_ => nI (pu z_)))), (pq 3, .inl (cI, 4, .inl (fun z_ => nI (sd z_)))), (pq 4, .inl (cI, 8, .inl (fun z_ => nI (cj z_)))), (pq 5, .inl (cI, 5, .inl (fun z_ => nI (ta z_))))] → va_S A s.heap H locs → ∀ ls : Array Slot, lv_has ls 9 [(8, .int (nI (sl))), (6, .long (lN (P))), (5, .int (nI ((10 - n) / (Nat.gcd 10 (10 - n))))), (4, .int (nI (Nat.gcd 10 (10 - n)))), (0, .ref o), (1, .int (nI (j))), (2, .int (nI (n))), (3, .int (nI (k)))] → W p l e (rmL 5) s m args below meth c H locs 0 0 Qf (F0 m 95 ls []) := by
                intro N; induction N with
                | zero => intro P sl _ _ hm; omega
                | succ N ih_95 =>
                  intro P sl hs9 hP9 hm H locs hP hD hS ls hl
                  refine lv_iload hx hb dX6_caught_95 (lv_at hl 0 rfl) ?_
                  refine n_if_le (tgt := 114) hx hb dX6_caught_97 (by decide) (by omega) (fun c_23 => ?_) (fun c_23 => ?_)
                  · -- 97 to 114
                    refine lv_lload hx hb dX6_caught_114 (lv_at hl 1 rfl) ?_
                    refine hret hP hD hS dX6_caught_116 rfl ?_
                    exact ⟨_, _, _, _, cu_t (by assumption) hvj_q hvk_q hij_q hin_q hik_q (by first | exact cu_v0 hv0_q hh1 hs12_q (cu_p (by omega) hP9) | exact cu_v1 hv0_q hh1 hs12_q (cu_p (by omega) hP9)), rfl⟩
                  · -- 97 to 100
                    refine lv_lload hx hb dX6_caught_100 (lv_at hl 1 rfl) ?_
                    refine lv_iload hx hb dX6_caught_102 (lv_at hl 2 rfl) ?_
                    refine lv_i2l (v := lN ((10 - n) / (Nat.gcd 10 (10 - n)))) hx hb dX6_caught_104 (nI_l (Nat.lt_of_le_of_lt (Nat.div_le_self _ _) (by omega))) ?_
                    refine n_lmul hx hb dX6_caught_105  ?_
                    refine lv_lstore (lv' := [(6, .long (lN (P * ((10 - n) / (Nat.gcd 10 (10 - n)))))), (8, .int (nI (sl))), (5, .int (nI ((10 - n) / (Nat.gcd 10 (10 - n))))), (4, .int (nI (Nat.gcd 10 (10 - n)))), (0, .ref o), (1, .int (nI (j))), (2, .int (nI (n))), (3, .int (nI (k)))]) hx hb dX6_caught_106 hl (by decide) rfl (fun ls hl => ?_)
                    refine lv_iinc (v := nI (sl - 1)) (lv' := [(8, .int (nI (sl - 1))), (6, .long (lN (P * ((10 - n) / (Nat.gcd 10 (10 - n)))))), (5, .int (nI ((10 - n) / (Nat.gcd 10 (10 - n))))), (4, .int (nI (Nat.gcd 10 (10 - n)))), (0, .ref o), (1, .int (nI (j))), (2, .int (nI (n))), (3, .int (nI (k)))]) hx hb dX6_caught_108 hl (k := 1) rfl (n_dec (by omega)) (by decide) rfl (fun ls hl => ?_)
                    refine lv_goto (tgt := 95) hx hb dX6_caught_111 (by decide) ?_
                    exact ih_95 (P * ((10 - n) / (Nat.gcd 10 (10 - n)))) (sl - 1) (by omega) (by rw [← hP9, Nat.mul_assoc, ← Nat.pow_succ', Nat.succ_eq_add_one, show sl - 1 + 1 = sl by omega]) (by omega) _ _ hP hD hS _ (lv_sub hl [0, 1, 2, 3, 4, 5, 6, 7] rfl)
              exact loop_95 _ 1 (liN bx nw j) (Nat.le_refl _) (Nat.one_mul _) (Nat.lt_succ_self _) _ _ hP hD hS _ (lv_sub hl [0, 1, 2, 3, 4, 5, 6, 7] rfl)
        · -- 22 to 25
          have hvk_q := c_8
          refine lv_ldc2 (v := (-1)) hx hb hown (hts _ tw_635) dX6_caught_25 ?_
          refine hret hP hD hS dX6_caught_28 rfl ?_
          exact ⟨_, _, _, _, by first | exact cu_n1 (by assumption) | exact cu_n2 hvj_q | exact cu_n3 hvk_q, rfl⟩

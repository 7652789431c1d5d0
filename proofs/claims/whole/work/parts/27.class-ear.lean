
theorem m1_e : (-1 : Int32) = nI 4294967295 := by decide
theorem m64_e : (-64 : Int32) = nI 4294967232 := by decide
theorem nx_nat {n : Nat} : (nI n).toBitVec = BitVec.ofNat 32 n := rfl
theorem nI_xo (a b : Nat) : nI a ^^^ nI b = nI (a ^^^ b) := by
  apply Int32.toBitVec_inj.mp
  rw [Int32.toBitVec_xor, nx_nat, nx_nat, nx_nat]
  apply BitVec.eq_of_getLsbD_eq
  intro i hi
  simp [hi]
theorem nI_an (a b : Nat) : nI a &&& nI b = nI (a &&& b) := by
  apply Int32.toBitVec_inj.mp
  rw [Int32.toBitVec_and, nx_nat, nx_nat, nx_nat]
  apply BitVec.eq_of_getLsbD_eq
  intro i hi
  simp [hi]
theorem nI_tb {a b : Nat} (h : ∀ i, i < 32 → Nat.testBit a i = Nat.testBit b i) : nI a = nI b := by
  apply Int32.toBitVec_inj.mp
  rw [nx_nat, nx_nat]
  apply BitVec.eq_of_toNat_eq
  rw [BitVec.toNat_ofNat, BitVec.toNat_ofNat]
  apply Nat.eq_of_testBit_eq
  intro i
  rw [Nat.testBit_mod_two_pow, Nat.testBit_mod_two_pow]
  by_cases hi : i < 32
  · rw [h i hi]
  · simp [hi]
theorem tb_m1 {i : Nat} (h : i < 32) : Nat.testBit 4294967295 i = true := by
  have : (4294967295 : Nat) = 2 ^ 32 - 1 := by decide
  rw [this, Nat.testBit_two_pow_sub_one]; simp [h]
theorem andn_e (a b : Nat) : nI a &&& (nI b ^^^ -1) = nI (anN a b) := by
  rw [m1_e, nI_xo, nI_an]
  refine nI_tb (fun i hi => ?_)
  rw [tb_an, Nat.testBit_and, Nat.testBit_xor, tb_m1 hi]
  cases Nat.testBit a i <;> cases Nat.testBit b i <;> rfl
theorem and64_e (a : Nat) (_ : a < 4294967296) : nI a &&& (-64 : Int32) = nI (anN a 63) := by
  rw [show (-64 : Int32) = nI 63 ^^^ -1 by decide]
  exact andn_e a 63
/-- one that is left: the lowest -/
def lbN (x : Nat) : Nat := ((nI x &&& -nI x) - nI 1).toNatClampNeg
def lwN (x : Nat) : Nat := pcN (lbN x)
theorem lb_2 : ∀ a, a < 64 → ∀ b, b < 64 → 64 * a + b ≠ 0 → (nI (64 * a + b) &&& -nI (64 * a + b)) - nI 1 = nI (lbN (64 * a + b)) ∧ lbN (64 * a + b) < 4096 ∧ Nat.testBit (64 * a + b) (lwN (64 * a + b)) = true ∧ lwN (64 * a + b) < 12 := by decide +kernel
theorem lb_a (x : Nat) (h : x < 4096) (h0 : x ≠ 0) : (nI x &&& -nI x) - nI 1 = nI (lbN x) ∧ lbN x < 4096 ∧ Nat.testBit x (lwN x) = true ∧ lwN x < 12 := by
  have h1 := lb_2 (x / 64) (by omega) (x % 64) (by omega) (by omega)
  rw [show 64 * (x / 64) + x % 64 = x by omega] at h1
  exact h1
theorem lw_e (x : Nat) (h : x < 4096) (h0 : x ≠ 0) : (nI x &&& -nI x) - nI 1 = nI (lbN x) := (lb_a x h h0).1
theorem lb_lt (x : Nat) (h : x < 4096) (h0 : x ≠ 0) : lbN x < 4096 := (lb_a x h h0).2.1
theorem lw_t (x : Nat) (h : x < 4096) (h0 : x ≠ 0) : Nat.testBit x (lwN x) = true ∧ lwN x < 12 := (lb_a x h h0).2.2
/-- of those heard, which have a tooth -/
def hvN (eu : Nat → Nat) (j : Nat) : Nat → Nat
  | 0 => 0
  | k + 1 => hvN eu j k ||| (eu k / 2 ^ j &&& 1) * 2 ^ k
theorem tb_01 (z k i : Nat) : Nat.testBit ((z &&& 1) * 2 ^ k) i = (decide (i = k) && Nat.testBit z 0) := by
  rw [Nat.and_one_is_mod, Nat.testBit_zero]
  rcases Nat.mod_two_eq_zero_or_one z with h | h
  · rw [h, Nat.zero_mul, Nat.zero_testBit]; simp
  · rw [h, Nat.one_mul, Nat.testBit_two_pow]
    by_cases hk : k = i
    · subst hk; simp
    · have : ¬ i = k := fun q => hk q.symm
      simp [hk, this]
theorem tb_hv (eu : Nat → Nat) (j i : Nat) : ∀ c, Nat.testBit (hvN eu j c) i = (decide (i < c) && Nat.testBit (eu i) j)
  | 0 => by simp [hvN]
  | c + 1 => by
    simp only [hvN]
    rw [Nat.testBit_or, tb_hv eu j i c, tb_01, Nat.testBit_div_two_pow, Nat.zero_add]
    by_cases h : i = c
    · subst h; simp
    · have h1 : decide (i < c + 1) = decide (i < c) := decide_eq_decide.mpr (by omega)
      rw [h1]; simp [h]
def pyB (nw : Nat → Nat) (y k : Nat) : Bool := decide (nw (40 + k) = y)
def hsE (eu : Nat → Nat) (i s : Nat) : Bool := Nat.testBit (eu i) s
/-- the ear holds what y has heard -/
def EaR (bx nw : Nat → Nat) (y : Nat) (eu cv : Nat → Nat) (c : Nat) : Prop := c = cnP (pyB nw y) (nw 2) ∧ (∀ i, i < c → eu i = tbN bx (nw (16 + enP (pyB nw y) (nw 2) i)) (bx 0)) ∧ (∀ s, s < 24 → cv s = hvN eu s c)
section LIS
variable {bx nw eu cv : Nat → Nat} {y k c v : Nat}
theorem li_t {e1 : Nat → Nat} (h : pyB nw y k = true) (hc : c = cnP (pyB nw y) k) (he : ∀ i, i < c → e1 i = tbN bx (nw (16 + enP (pyB nw y) k i)) (bx 0)) (hv : v = tbN bx (nw (16 + k)) (bx 0)) : ∀ i, i < c + 1 → up1 e1 c v i = tbN bx (nw (16 + enP (pyB nw y) (k + 1) i)) (bx 0) := by
  intro i hi
  rw [ep_t h]
  by_cases h2 : i = c
  · subst h2; rw [up1_s, hc, up1_s, hv]
  · rw [up1_n h2, up1_n (by omega)]; exact he i (by omega)
theorem li_f {e1 : Nat → Nat} (h : pyB nw y k = false) (he : ∀ i, i < c → e1 i = tbN bx (nw (16 + enP (pyB nw y) k i)) (bx 0)) : ∀ i, i < c → e1 i = tbN bx (nw (16 + enP (pyB nw y) (k + 1) i)) (bx 0) := by
  rw [ep_f h]; exact he
theorem li_v {v1 e1 : Nat → Nat} {j : Nat} (h : ∀ t, t < j → v1 t = hvN e1 t c) : ∀ t, t < j + 1 → up1 v1 j (hvN e1 j c) t = hvN e1 t c := by
  intro t ht
  by_cases h2 : t = j
  · subst h2; rw [up1_s]
  · rw [up1_n h2]; exact h t (by omega)
theorem ear_c (hN : HdOk bx nw) (h : EaR bx nw y eu cv c) : c ≤ 12 := by
  have := cp_le (pyB nw y) (nw 2)
  have := hN.h
  have := h.1
  omega
theorem ear_b (hB : BxOk bx) (h : EaR bx nw y eu cv c) : ∀ i, i < c → eu i < 16777216 := fun i hi => by rw [h.2.1 i hi]; exact tb_lt hB _
/-- teeth of those heard, by places -/
theorem ear_hs (hB : BxOk bx) (h : EaR bx nw y eu cv c) {i s : Nat} (hi : i < c) (hs : s < 24) : hsE eu i s = hsN bx nw (enP (pyB nw y) (nw 2) i) s := by
  simp only [hsE, hsN]
  rw [h.2.1 i hi]
  by_cases hw : s / 6 < bx 0
  · have h1 := tb_bit hB (nw (16 + enP (pyB nw y) (nw 2) i)) (bx 0) (Nat.le_refl _) (s / 6) (s % 6) hw (by omega)
    rw [show s / 6 * 6 + s % 6 = s by omega] at h1
    cases hb : Nat.testBit (tbN bx (nw (16 + enP (pyB nw y) (nw 2) i)) (bx 0)) s with
    | true => simp [hw, h1.mp hb]
    | false =>
      have h2 : ¬ tooN bx (nw (16 + enP (pyB nw y) (nw 2) i)) (s / 6) = s % 6 := fun q => by
        rw [h1.mpr q] at hb; exact absurd hb (by decide)
      simp [hw, h2]
  · have h1 := tb_lt' hB (nw (16 + enP (pyB nw y) (nw 2) i)) (bx 0) (Nat.le_refl _)
    have h2 : Nat.testBit (tbN bx (nw (16 + enP (pyB nw y) (nw 2) i)) (bx 0)) s = false := Nat.testBit_lt_two_pow (Nat.lt_of_lt_of_le h1 (Nat.pow_le_pow_right (by omega) (by omega)))
    rw [h2]; simp [hw]
theorem sl_lt {j : Nat} (h : j < mnN bx) : slP bx j < 24 := (ep_ok (rlB bx) 24 j h).1
/-- the same fewest, told of the ear -/
theorem ear_t (hB : BxOk bx) (h : EaR bx nw y eu cv c) {F : Nat} {u : Nat → Nat} (hT : IsT bx nw y F u) : IsF (fun i_ j_ => hsE eu i_ (slP bx j_)) c (mnN bx) (fun i_ => decide (i_ < c)) F u := by
  have e : ∀ r (v : Nat → Nat), InC (mnN bx) r v → (CvS (fun i_ j_ => hsE eu i_ (slP bx j_)) c (fun i_ => decide (i_ < c)) r v ↔ CvS (hcN bx nw) (nw 2) (fun k => decide (nw (40 + k) = y)) r v) := by
    intro r v hv
    constructor
    · intro h1 k hk hL
      have h2 := ep_k (P := pyB nw y) hL (nw 2) hk
      rw [← h.1] at h2
      obtain ⟨i, h3, h4⟩ := h1 _ h2.1 (by simp [h2.1])
      refine ⟨i, h3, ?_⟩
      simp only at h4
      rw [ear_hs hB h h2.1 (sl_lt (hv.2 i h3)), h2.2] at h4
      exact h4
    · intro h1 k hk hL
      have h2 := ep_ok (pyB nw y) (nw 2) k (by rw [← h.1]; exact hk)
      obtain ⟨i, h3, h4⟩ := h1 _ h2.1 h2.2.1
      refine ⟨i, h3, ?_⟩
      simp only
      rw [ear_hs hB h hk (sl_lt (hv.2 i h3))]
      exact h4
  refine ⟨hT.1, (e F u hT.1).mpr hT.2.1, fun r v hr hv hc => hT.2.2.1 r v hr hv ((e r v hv).mp hc), fun v hv hc => hT.2.2.2 v hv ((e F v hv).mp hc)⟩
end LIS
theorem em_0 {lf ec : Nat} (h : lf = 0) : emB (fun k_ => Nat.testBit lf k_) ec = true := by
  subst h
  exact (em_iff _ _).mpr (fun k _ => Nat.zero_testBit k)
theorem em_1 {lf ec : Nat} (hl : lf < 4096) (h : lf ≠ 0) (hsub : ∀ k, Nat.testBit lf k = true → k < ec) : emB (fun k_ => Nat.testBit lf k_) ec = false := by
  have h1 := lw_t lf hl h
  cases hb : emB (fun k_ => Nat.testBit lf k_) ec with
  | false => rfl
  | true =>
    have h2 : Nat.testBit lf (lwN lf) = false := (em_iff _ _).mp hb (lwN lf) (hsub _ h1.1)
    rw [h1.1] at h2; exact absurd h2 (by decide)
theorem an_su {a b k : Nat} (h : Nat.testBit (anN a b) k = true) : Nat.testBit a k = true := by
  rw [tb_an, Bool.and_eq_true] at h; exact h.1
theorem cc_rm {eu : Nat → Nat} {lf ec t z : Nat} (hz : z = hvN eu t ec) (hsub : ∀ k, Nat.testBit lf k = true → k < ec) : rmB (hsE eu) (fun k_ => Nat.testBit lf k_) t = fun k_ => Nat.testBit (anN lf z) k_ := by
  funext k
  simp only [rmB, hsE]
  rw [tb_an, hz, tb_hv]
  cases hb : Nat.testBit lf k with
  | false => rfl
  | true => simp [hsub k hb]
theorem cc_s {P : Nat → Bool} {fr t : Nat} (h : ∀ t2, fr ≤ t2 → t2 < t → P t2 = false) (h2 : P t = false) : ∀ t2, fr ≤ t2 → t2 < t + 1 → P t2 = false := by
  intro t2 h3 h4
  by_cases he : t2 = t
  · subst he; exact h2
  · exact h t2 h3 (by omega)
theorem cc_no {eu : Nat → Nat} {ec k fr n : Nat} {L : Nat → Bool} (hk : k < ec) (hL : L k = true) (hfr : fr ≤ 24) (h : ∀ t2, fr ≤ t2 → t2 < 24 → (Nat.testBit (eu k) t2 && cvB (hsE eu) ec (24 - fr) (rmB (hsE eu) L t2) fr n) = false) : cvB (hsE eu) ec (24 - fr) L fr (n + 1) = false := by
  cases hb : cvB (hsE eu) ec (24 - fr) L fr (n + 1) with
  | false => rfl
  | true =>
    obtain ⟨t, h1, h2, h3, h4⟩ := cv_ex hk (24 - fr) L fr n hL hb
    have h5 := h t h1 (by omega)
    rw [h4, show Nat.testBit (eu k) t = true from h3] at h5
    exact absurd h5 (by decide)
theorem all_l {ec : Nat} (h : ec ≤ 12) : 1 * 2 ^ ec - 1 < 4096 := by
  have := Nat.pow_le_pow_right (n := 2) (by omega) h
  have := Nat.two_pow_pos ec
  omega
theorem all_s {c : Nat} : ∀ k, Nat.testBit (1 * 2 ^ c - 1) k = true → k < c := by
  intro k h
  rw [Nat.one_mul, Nat.testBit_two_pow_sub_one] at h
  simpa using h
theorem all_e (c : Nat) : (fun k_ => Nat.testBit (1 * 2 ^ c - 1) k_) = fun i_ => decide (i_ < c) := by
  funext k
  rw [Nat.one_mul, Nat.testBit_two_pow_sub_one]
theorem all_f {eu bx u : Nat → Nat} (c : Nat) : (fun k_ => Nat.testBit (1 * 2 ^ c - 1) k_) = lfB (fun i_ j_ => hsE eu i_ (slP bx j_)) (fun i_ => decide (i_ < c)) u 0 := all_e c
/-- places of no tooth: nobody has them -/
theorem hsE_0 {bx nw eu cv : Nat → Nat} {y c : Nat} (hB : BxOk bx) (hE : EaR bx nw y eu cv c) : ∀ i s, i < c → s < 24 → rlB bx s = false → hsE eu i s = false := fun i s hi hs h => by rw [ear_hs hB hE hi hs]; exact hs_rl hB h
theorem cv_cg {hs h2 : Nat → Nat → Bool} {N : Nat} : ∀ f (L L2 : Nat → Bool) s q, (∀ k t, k < N → s ≤ t → t < s + f → hs k t = h2 k t) → (∀ k, k < N → L k = L2 k) → cvB hs N f L s q = cvB h2 N f L2 s q
  | 0, L, L2, s, q, _, hL => by
    simp only [cvB]
    rw [Bool.eq_iff_iff, em_iff, em_iff]
    constructor
    · intro h k hk; rw [← hL k hk]; exact h k hk
    · intro h k hk; rw [hL k hk]; exact h k hk
  | f + 1, L, L2, s, 0, hh, hL => by
    simp only [cvB]
    exact cv_cg f L L2 (s + 1) 0 (fun k t h1 h3 h4 => hh k t h1 (by omega) (by omega)) hL
  | f + 1, L, L2, s, q + 1, hh, hL => by
    simp only [cvB]
    rw [cv_cg f L L2 (s + 1) (q + 1) (fun k t h1 h3 h4 => hh k t h1 (by omega) (by omega)) hL]
    rw [cv_cg f (rmB hs L s) (rmB h2 L2 s) (s + 1) q (fun k t h1 h3 h4 => hh k t h1 (by omega) (by omega)) (fun k hk => by simp only [rmB]; rw [hL k hk, hh k s hk (by omega) (by omega)])]
section SLO
variable {bx nw eu cv u : Nat → Nat} {y c F lf j t n : Nat}
theorem cv_w (hB : BxOk bx) (hE : EaR bx nw y eu cv c) (f : Nat) (L : Nat → Bool) (s q : Nat) (h : f + s = 24) : cvB (hsE eu) c f L s q = cvB (fun i_ j_ => hsE eu i_ (slP bx j_)) c (mnN bx - cnP (rlB bx) s) L (cnP (rlB bx) s) q := by
  have h1 : cvB (hsE eu) c f L s q = cvB (fun k t => decide (k < c ∧ t < 24) && hsE eu k t) c f L s q := cv_cg f L L s q (fun k t h2 h3 h4 => by simp [h2, show t < 24 by omega]) (fun _ _ => rfl)
  rw [h1, cv_sl (bx := bx) (fun k s hr => by
    by_cases hk : k < c ∧ s < 24
    · rw [hsE_0 hB hE k s hk.1 hk.2 hr, Bool.and_false]
    · simp [hk]) f L s q h]
  have hm : cnP (rlB bx) s ≤ mnN bx := cp_m _ 24 (by omega)
  exact cv_cg _ L L _ q (fun k t h2 h3 h4 => by
    have := sl_lt (bx := bx) (show t < mnN bx by omega)
    simp [h2, this]) (fun _ _ => rfl)
theorem few_lt (hB : BxOk bx) (hE : EaR bx nw y eu cv c) (hT : IsF (fun i_ j_ => hsE eu i_ (slP bx j_)) c (mnN bx) (fun i_ => decide (i_ < c)) F u) (hn : n ≤ F) (h : cvB (hsE eu) c (24 - 0) (fun k_ => Nat.testBit (1 * 2 ^ c - 1) k_) 0 n = false) : n + 1 ≤ F := by
  rw [all_e, cv_w hB hE (24 - 0) _ 0 n (by omega)] at h
  by_cases he : n = F
  · subst he
    have h1 := fw_1 hT
    rw [show mnN bx - cnP (rlB bx) 0 = mnN bx by simp [cnP], show cnP (rlB bx) 0 = 0 from rfl, h1] at h
    exact absurd h (by decide)
  · omega
theorem few_eq (hB : BxOk bx) (hE : EaR bx nw y eu cv c) (hT : IsF (fun i_ j_ => hsE eu i_ (slP bx j_)) c (mnN bx) (fun i_ => decide (i_ < c)) F u) (hn : n ≤ F) (h : cvB (hsE eu) c (24 - 0) (fun k_ => Nat.testBit (1 * 2 ^ c - 1) k_) 0 n = true) : n = F := by
  rw [all_e, cv_w hB hE (24 - 0) _ 0 n (by omega)] at h
  by_cases he : n = F
  · exact he
  · have h1 := fw_0 hT (show n < F by omega)
    rw [show mnN bx - cnP (rlB bx) 0 = mnN bx by simp [cnP], show cnP (rlB bx) 0 = 0 from rfl, h1] at h
    exact absurd h (by decide)
theorem slo_1 (hB : BxOk bx) (hE : EaR bx nw y eu cv c) (hT : IsF (fun i_ j_ => hsE eu i_ (slP bx j_)) c (mnN bx) (fun i_ => decide (i_ < c)) F u) (hj : j < F) (ht : t < 24) (hls : ∀ k, Nat.testBit lf k = true → k < c) (hlf : (fun k_ => Nat.testBit lf k_) = lfB (fun i_ j_ => hsE eu i_ (slP bx j_)) (fun i_ => decide (i_ < c)) u j) (ha : ∀ i, i < j → u i < cnP (rlB bx) t) (hb : cnP (rlB bx) t ≤ u j) (h : cvB (hsE eu) c (24 - (t + 1)) (fun k_ => Nat.testBit (anN lf (cv t)) k_) (t + 1) (F - j - 1) = true) : rlB bx t = true ∧ cnP (rlB bx) t = u j ∧ slP bx (u j) = t := by
  rw [← cc_rm (hE.2.2 t ht) hls, cv_w hB hE (24 - (t + 1)) _ (t + 1) _ (by omega)] at h
  obtain ⟨r, v, h1, h2, h3, h4⟩ := cv_sq _ _ _ _ h
  have hm : cnP (rlB bx) (t + 1) ≤ mnN bx := cp_m _ 24 (by omega)
  cases hr : rlB bx t with
  | true =>
    have hk := ep_k hr 24 ht
    have hm2 : cnP (rlB bx) t < mnN bx := hk.1
    rw [cp_t hr] at h3 hm
    have hsl : slP bx (cnP (rlB bx) t) = t := hk.2
    have h5 := grq_1 hT hj ha hm2 h1 h2 (fun i hi => by have := h3 i hi; omega) (by
      intro k hk2 hL
      refine h4 k hk2 ?_
      rw [← hlf] at hL
      simp only [rmB] at hL ⊢
      rw [hsl] at hL; exact hL) hb
    exact ⟨rfl, h5, by rw [← h5]; exact hsl⟩
  | false =>
    rw [cp_f hr] at h3 hm
    exact absurd (grq_0 hT hj ha h1 h2 (fun i hi => by have := h3 i hi; omega) (by
      intro k hk2 hL
      refine h4 k hk2 ?_
      rw [← hlf] at hL
      have hL2 : Nat.testBit lf k = true := hL
      simp only [rmB]
      rw [hL2, hsE_0 hB hE k t hk2 ht hr]; rfl)) id
theorem slo_0 (hB : BxOk bx) (hE : EaR bx nw y eu cv c) (hT : IsF (fun i_ j_ => hsE eu i_ (slP bx j_)) c (mnN bx) (fun i_ => decide (i_ < c)) F u) (hj : j < F) (ht : t < 24) (hls : ∀ k, Nat.testBit lf k = true → k < c) (hlf : (fun k_ => Nat.testBit lf k_) = lfB (fun i_ j_ => hsE eu i_ (slP bx j_)) (fun i_ => decide (i_ < c)) u j) (ha : ∀ i, i < j → u i < cnP (rlB bx) t) (hb : cnP (rlB bx) t ≤ u j) (h : cvB (hsE eu) c (24 - (t + 1)) (fun k_ => Nat.testBit (anN lf (cv t)) k_) (t + 1) (F - j - 1) = false) : cnP (rlB bx) (t + 1) ≤ u j := by
  cases hr : rlB bx t with
  | false => rw [cp_f hr]; exact hb
  | true =>
    rw [cp_t hr]
    by_cases he : cnP (rlB bx) t = u j
    · have hk := ep_k hr 24 ht
      have hsl : slP bx (cnP (rlB bx) t) = t := hk.2
      have hm : cnP (rlB bx) t < mnN bx := hk.1
      have h5 := grq_t hT hj
      rw [← cc_rm (hE.2.2 t ht) hls, cv_w hB hE (24 - (t + 1)) _ (t + 1) _ (by omega), cp_t hr] at h
      have h6 := sq_cv (hs := fun i_ j_ => hsE eu i_ (slP bx j_)) (N := c) (mnN bx - (cnP (rlB bx) t + 1)) (rmB (hsE eu) (fun k_ => Nat.testBit lf k_) t) (cnP (rlB bx) t + 1) (F - j - 1) (F - j - 1) (fun i => u (i + j + 1)) (Nat.le_refl _) (fun i hi => by
          have h9 := hT.1.1 (i + j + 1) (by omega)
          show u (i + j + 1) < u (i + 1 + j + 1)
          rw [show i + 1 + j + 1 = i + j + 1 + 1 by omega]; exact h9) (fun i hi => by
          have h8 := in_mono hT.1 (i + j + 1) j (by omega) (by omega)
          have h9 := hT.1.2 (i + j + 1) (by omega)
          show cnP (rlB bx) t + 1 ≤ u (i + j + 1) ∧ u (i + j + 1) < cnP (rlB bx) t + 1 + (mnN bx - (cnP (rlB bx) t + 1))
          omega) (by
          intro k hk2 hL
          refine h5 k hk2 ?_
          rw [hlf] at hL
          simp only [rmB] at hL ⊢
          rw [← he, hsl]; exact hL)
      rw [h6] at h; exact absurd h (by decide)
    · omega
theorem slo_lf (hlf : (fun k_ => Nat.testBit lf k_) = lfB (fun i_ j_ => hsE eu i_ (slP bx j_)) (fun i_ => decide (i_ < c)) u j) (h : rlB bx t = true ∧ cnP (rlB bx) t = u j ∧ slP bx (u j) = t) (hc : cv t = hvN eu t c) (hls : ∀ k, Nat.testBit lf k = true → k < c) : (fun k_ => Nat.testBit (anN lf (cv t)) k_) = lfB (fun i_ j_ => hsE eu i_ (slP bx j_)) (fun i_ => decide (i_ < c)) u (j + 1) := by
  rw [← cc_rm hc hls, hlf]
  funext k
  simp only [lfB, rmB]
  rw [h.2.2]
theorem slo_a0 (ha : ∀ i, i < j → u i < cnP (rlB bx) t) : ∀ i, i < j → u i < cnP (rlB bx) (t + 1) := fun i hi => Nat.lt_of_lt_of_le (ha i hi) (cp_m _ _ (by omega))
theorem slo_a1 (ha : ∀ i, i < j → u i < cnP (rlB bx) t) (h : rlB bx t = true ∧ cnP (rlB bx) t = u j ∧ slP bx (u j) = t) : ∀ i, i < j + 1 → u i < cnP (rlB bx) (t + 1) := by
  intro i hi
  rw [cp_t h.1]
  by_cases he : i = j
  · subst he; omega
  · have := ha i (by omega); omega
theorem slo_b {hs : Nat → Nat → Bool} {N : Nat} {L : Nat → Bool} (h : rlB bx t = true ∧ cnP (rlB bx) t = u j ∧ slP bx (u j) = t) (hT : IsF hs N (mnN bx) L F u) (hj : j + 1 < F) : cnP (rlB bx) (t + 1) ≤ u (j + 1) := by
  rw [cp_t h.1]
  have := hT.1.1 j hj
  omega
end SLO
def wvB (w : Int32) : Bool := decide (-1 ≤ w.toInt ∧ w.toInt ≤ 7)
def teA (bx : Nat → Nat) (F : Nat) (u : Nat → Nat) (x w : Int32) : Int32 := if inN x (bx 1) = true then (if wvB w = true then (if w = -1 then nI F else if ix w < F then nI (cdN bx (u (ix w))) else -4) else -1) else -1
theorem m1_ti : (-1 : Int32).toInt = -1 := by decide
theorem tw_a {w : Int32} (h : w < -1) : wvB w = false := by
  rw [fa_lt, m1_ti] at h
  simp only [wvB, decide_eq_false_iff_not]; omega
theorem tw_b {w : Int32} (h : ¬ w ≤ nI 7) : wvB w = false := by
  rw [fa_le, nI_toInt (by omega)] at h
  simp only [wvB, decide_eq_false_iff_not]; omega
theorem tw_c {w : Int32} (h : ¬ w < -1) (h2 : w ≤ nI 7) : wvB w = true := by
  rw [fa_lt, m1_ti] at h
  rw [fa_le, nI_toInt (by omega)] at h2
  simp only [wvB, decide_eq_true_eq]; omega
theorem tw_d {w : Int32} (h : ¬ w ≠ -1) : w = -1 := Classical.not_not.mp h
theorem tw_e {w : Int32} (h : wvB w = true) (h2 : w ≠ -1) : ∃ k, k ≤ 7 ∧ w = nI k := by
  simp only [wvB, decide_eq_true_eq] at h
  have h3 : w.toInt ≠ -1 := fun q => h2 (Int32.toInt_inj.mp (q.trans m1_ti.symm))
  have hx : ¬ w < 0 := by
    rw [fa_lt]
    have : (0 : Int32).toInt = 0 := by decide
    omega
  obtain ⟨j, hj, rfl⟩ := nI_of hx
  rw [nI_toInt hj] at h
  exact ⟨j, by omega, rfl⟩
section TEA
variable {bx u : Nat → Nat} {F k : Nat} {x w : Int32}
theorem te_f (h : inN x (bx 1) = true) (h2 : wvB w = true) (h3 : w = -1) : nI F = teA bx F u x w := by simp only [teA]; rw [if_pos h, if_pos h2, if_pos h3]
theorem kn_m1 (hk : k < 2147483648) : nI k ≠ -1 := fun q => by
  have h1 := congrArg Int32.toInt q
  rw [nI_toInt (by omega), m1_ti] at h1
  omega
theorem te_n (h : inN x (bx 1) = true) (h2 : wvB (nI k) = true) (h3 : nI k ≠ -1) (hk : ix (nI k) = k) (h4 : F ≤ k) : (-4 : Int32) = teA bx F u x (nI k) := by
  simp only [teA]; rw [if_pos h, if_pos h2, if_neg h3, hk, if_neg (by omega)]
theorem te_v (h : inN x (bx 1) = true) (h2 : wvB (nI k) = true) (h3 : nI k ≠ -1) (hk : ix (nI k) = k) (h4 : k < F) : nI (slP bx (u k) / 6 * 10 + slP bx (u k) % 6) = teA bx F u x (nI k) := by
  simp only [teA]; rw [if_pos h, if_pos h2, if_neg h3, hk, if_pos h4]; rfl
end TEA

set_option maxHeartbeats 4000000 in
set_option maxRecDepth 100000 in
theorem k_X6_lowestOf {l : Launch} {D : va_G} {cI cC cB : ClassId} {x : Nat} (hx1 : x < 4096) (hx0 : x ≠ 0) : MI l yX6_lowestOf cX6_lowestOf 1 (some .int) 1 D (Ty3 cI cC cB) [.int (nI (x))] [] (fun r u => (r = nI (lwN x) ∧ u = [])) := by
  intro sz
  refine MI.walk (by decide +kernel) (Nat.le_of_ble_eq_true rfl) ?_
  intro p e s m args below meth c A Qf hx hb hml hts hown hret hK hP hD hS hA ls hl
  have hown : s.vm.findClass RX6 = some m.cls := hown
  have hl : lv_has ls 1 [(0, .int (nI (x)))] := hl
  have hP : va_P D vwCl [] s.heap := hP
  have hD : va_D A [] := hD
  refine lv_iload_n hx hb dX6_lowestOf_0 rfl (lv_at hl 0 rfl) ?_
  refine lv_iload_n hx hb dX6_lowestOf_1 rfl (lv_at hl 0 rfl) ?_
  refine lv_ineg hx hb dX6_lowestOf_2 ?_
  refine lv_iand hx hb dX6_lowestOf_3 ?_
  refine lv_iconst (v := nI 1) hx hb dX6_lowestOf_4 (by decide) ?_
  refine lv_isub hx hb dX6_lowestOf_5 ?_
  rw [lw_e x hx1 hx0]
  refine cl_6_193 (As := [.int (nI (lbN x))]) (rest := []) hx hb hml hts hown (k_J6_bitCount (lb_lt x hx1 hx0)) (by decide) ⟨Nat.zero_le _, Nat.zero_le _⟩ hK hP hD hS hA [] rfl (by decide) rfl hl.1 rfl (Nat.le_of_ble_eq_true rfl) dX6_lowestOf_6 (fun r_1 u H locs hp_2 hP hD hS => ?_)
  obtain ⟨rfl, rfl⟩ := hp_2
  have hP : va_P D vwCl [] _ := hP
  have hD : va_D A [] := hD
  refine hret hP hD hS dX6_lowestOf_9 rfl rfl ?_
  exact ⟨rfl, rfl⟩
set_option maxHeartbeats 4000000 in
set_option maxRecDepth 100000 in
theorem k_X1_haversOf {l : Launch} {D : va_G} {cI cC cB : ClassId} {xe ec : Nat} {oq : Nat → Nat} {eu : Nat → Nat} {j : Nat} (hj : j < 24) (hec : ec ≤ 12) (heu : ∀ i, i < ec → eu i < 16777216) : MI l yX1_haversOf cX1_haversOf 4 (some .int) 1 D (Ty3 cI cC cB) [.ref xe, .int (nI (j))] [eO xe oq ec, (oq 0, .inl (cI, 12, .inl (fun z_ => nI (eu z_))))] (fun r u => (r = nI (hvN eu j ec) ∧ u = [eO xe oq ec, (oq 0, .inl (cI, 12, .inl (fun z_ => nI (eu z_))))])) := by
  intro sz
  refine MI.walk (by decide +kernel) (Nat.le_of_ble_eq_true rfl) ?_
  intro p e s m args below meth c A Qf hx hb hml hts hown hret hK hP hD hS hA ls hl
  have hown : s.vm.findClass RX1 = some m.cls := hown
  have hl : lv_has ls 4 [(0, .ref xe), (1, .int (nI (j)))] := hl
  have hP : va_P D vwCl [eO xe oq ec, (oq 0, .inl (cI, 12, .inl (fun z_ => nI (eu z_))))] s.heap := hP
  have hD : va_D A [eO xe oq ec, (oq 0, .inl (cI, 12, .inl (fun z_ => nI (eu z_))))] := hD
  refine lv_iconst (v := nI 0) hx hb dX1_haversOf_0 (by decide) ?_
  refine lv_istore_n (lv' := [(2, .int (nI (0))), (0, .ref xe), (1, .int (nI (j)))]) hx hb dX1_haversOf_1 rfl hl (by decide) rfl (fun ls hl => ?_)
  refine lv_iconst (v := nI 0) hx hb dX1_haversOf_2 (by decide) ?_
  refine lv_istore_n (lv' := [(3, .int (nI (0))), (2, .int (nI (0))), (0, .ref xe), (1, .int (nI (j)))]) hx hb dX1_haversOf_3 rfl hl (by decide) rfl (fun ls hl => ?_)
  have loop_4 : ∀ (N : Nat) (v : Nat) (k : Nat), (k ≤ ec) → (v = hvN eu j k) → (ec - k) < N → ∀ (H : Heap) (locs : List Loc), va_P D vwCl [eO xe oq ec, (oq 0, .inl (cI, 12, .inl (fun z_ => nI (eu z_))))] H → va_D A [eO xe oq ec, (oq 0, .inl (cI, 12, .inl (fun z_ => nI (eu z_))))] → va_S A s.heap H locs → ∀ ls : Array Slot, lv_has ls 4 [(3, .int (nI (k))), (2, .int (nI (v))), (0, .ref xe), (1, .int (nI (j)))] → W p l e (rmL 1) s m args below meth c H locs 0 0 Qf (F0 m 4 ls []) := by
    intro N; induction N with
    | zero => intro v k _ _ hm; omega
    | succ N ih_4 =>
      intro v k hk hv hm H locs hP hD hS ls hl
      refine lv_iload_n hx hb dX1_haversOf_4 rfl (lv_at hl 0 rfl) ?_
      refine lv_aload_n hx hb dX1_haversOf_5 rfl (lv_at hl 2 rfl) ?_
      refine gf_1_21 hx hb hts hown hK hP 0 rfl rfl dX1_haversOf_6 ?_
      refine n_icmp_ge (tgt := 35) hx hb dX1_haversOf_9 (by decide) (by omega) (by omega) (fun c_1 => ?_) (fun c_1 => ?_)
      · -- 9 to 35
        refine lv_iload_n hx hb dX1_haversOf_35 rfl (lv_at hl 1 rfl) ?_
        refine hret hP hD hS dX1_haversOf_36 rfl rfl ?_
        exact ⟨by rw [hv, show k = ec by omega], rfl⟩
      · -- 9 to 12
        refine lv_iload_n hx hb dX1_haversOf_12 rfl (lv_at hl 1 rfl) ?_
        refine lv_aload_n hx hb dX1_haversOf_13 rfl (lv_at hl 2 rfl) ?_
        refine gf_1_9 hx hb hts hown hK hP 0 rfl rfl dX1_haversOf_14 ?_
        refine lv_iload_n hx hb dX1_haversOf_17 rfl (lv_at hl 0 rfl) ?_
        refine cl_1_33 (As := [.ref (oq 0), .int (nI (k))]) (rest := [.int (nI (v))]) hx hb hml hts hown (k_X6_at (by first | assumption | omega) (by first | assumption | omega)) (by decide) ⟨Nat.zero_le _, Nat.zero_le _⟩ hK hP hD hS hA [1] rfl (by decide) rfl hl.1 rfl (Nat.le_of_ble_eq_true rfl) dX1_haversOf_18 (fun r_2 u H locs hp_3 hP hD hS => ?_)
        obtain ⟨rfl, rfl⟩ := hp_3
        have hP : va_P D vwCl [eO xe oq ec, (oq 0, .inl (cI, 12, .inl (fun z_ => nI (eu z_))))] _ := hP
        have hD : va_D A [eO xe oq ec, (oq 0, .inl (cI, 12, .inl (fun z_ => nI (eu z_))))] := hD
        refine lv_iload_n hx hb dX1_haversOf_21 rfl (lv_at hl 3 rfl) ?_
        have hb_q := heu k (by omega)
        refine n_ishr hx hb dX1_haversOf_22 (by omega) (by omega) ?_
        refine lv_iconst (v := nI 1) hx hb dX1_haversOf_23 (by decide) ?_
        refine n_iand hx hb dX1_haversOf_24  ?_
        refine lv_iload_n hx hb dX1_haversOf_25 rfl (lv_at hl 0 rfl) ?_
        refine n_ishl hx hb dX1_haversOf_26 (by omega) ?_
        refine n_ior hx hb dX1_haversOf_27  ?_
        refine lv_istore_n (lv' := [(2, .int (nI (v ||| ((((eu k) / 2 ^ j) &&& 1) * 2 ^ k)))), (3, .int (nI (k))), (0, .ref xe), (1, .int (nI (j)))]) hx hb dX1_haversOf_28 rfl hl (by decide) rfl (fun ls hl => ?_)
        refine lv_iinc (v := nI (k + 1)) (lv' := [(3, .int (nI (k + 1))), (2, .int (nI (v ||| ((((eu k) / 2 ^ j) &&& 1) * 2 ^ k)))), (0, .ref xe), (1, .int (nI (j)))]) hx hb dX1_haversOf_29 hl (k := 1) rfl (n_inc _ 1) (by decide) rfl (fun ls hl => ?_)
        refine lv_goto (tgt := 4) hx hb dX1_haversOf_32 (by decide) ?_
        exact ih_4 (v ||| ((((eu k) / 2 ^ j) &&& 1) * 2 ^ k)) (k + 1) (by omega) (by rw [hv]; rfl) (by omega) _ _ hP hD hS _ (lv_sub hl [0, 1, 2, 3] rfl)
  exact loop_4 _ 0 0 (by omega) rfl (Nat.lt_succ_self _) _ _ hP hD hS _ (lv_sub hl [0, 1, 2, 3] rfl)
set_option maxHeartbeats 4000000 in
set_option maxRecDepth 100000 in
theorem k_X1_allHeard {l : Launch} {D : va_G} {cI cC cB : ClassId} {xe ec : Nat} {oq : Nat → Nat}  (hec : ec ≤ 12) : MI l yX1_allHeard cX1_allHeard 1 (some .int) 0 D (Ty3 cI cC cB) [.ref xe] [eO xe oq ec] (fun r u => (r = nI (1 * 2 ^ ec - 1) ∧ u = [eO xe oq ec])) := by
  intro sz
  refine MI.walk (by decide +kernel) (Nat.le_of_ble_eq_true rfl) ?_
  intro p e s m args below meth c A Qf hx hb hml hts hown hret hK hP hD hS hA ls hl
  have hown : s.vm.findClass RX1 = some m.cls := hown
  have hl : lv_has ls 1 [(0, .ref xe)] := hl
  have hP : va_P D vwCl [eO xe oq ec] s.heap := hP
  have hD : va_D A [eO xe oq ec] := hD
  refine lv_iconst (v := nI 1) hx hb dX1_allHeard_0 (by decide) ?_
  refine lv_aload_n hx hb dX1_allHeard_1 rfl (lv_at hl 0 rfl) ?_
  refine gf_1_21 hx hb hts hown hK hP 0 rfl rfl dX1_allHeard_2 ?_
  refine n_ishl hx hb dX1_allHeard_5 (by omega) ?_
  refine lv_iconst (v := nI 1) hx hb dX1_allHeard_6 (by decide) ?_
  refine n_isub hx hb dX1_allHeard_7 (by have := Nat.two_pow_pos ec; omega) ?_
  refine hret hP hD hS dX1_allHeard_8 rfl rfl ?_
  exact ⟨rfl, rfl⟩
set_option maxHeartbeats 4000000 in
set_option maxRecDepth 100000 in
theorem k_X1_listen {l : Launch} {D : va_G} {cI cC cB : ClassId} {xe ec : Nat} {oq : Nat → Nat} {eu cv : Nat → Nat} {a : Nat} {pq : Nat → Nat} {bx te ps pu sd cj ta : Nat → Nat} {b : Nat} {bq : Nat → Nat} {nw up st ex tl he dy se : Nat → Nat} {fi : Nat} {y : Nat} (hR : PlR bx te ps pu sd cj ta) (hX : BoR bx nw up st ex tl he dy se fi) (hy : y < bx 1) : MV l yX1_listen cX1_listen 5 none 3 D (Ty3 cI cC cB) [.ref xe, .ref a, .ref b, .int (nI (y))] [eO xe oq ec, (oq 0, .inl (cI, 12, .inl (fun z_ => nI (eu z_)))), (oq 1, .inl (cI, 24, .inl (fun z_ => nI (cv z_)))), bO b bq fi (nw 2) (nw 0) (nw 1), (bq 0, .inl (cI, 4, .inl (fun z_ => nI (up z_)))), (bq 1, .inl (cI, 4, .inl (fun z_ => nI (st z_)))), (bq 2, .inl (cI, 12, .inl (fun z_ => nI (ex z_)))), (bq 3, .inl (cI, 12, .inl (fun z_ => nI (tl z_)))), (bq 4, .inl (cI, 12, .inl (fun z_ => nI (he z_)))), (bq 5, .inl (cI, 12, .inl (fun z_ => nI (dy z_)))), (bq 6, .inl (cI, 12, .inl (fun z_ => nI (se z_)))), pO a pq (bx 0) (bx 2) (bx 1) (szN bx (bx 0)) (bx 3) (bx 4), (pq 0, .inl (cI, 4, .inl (fun z_ => nI (te z_)))), (pq 1, .inl (cI, 4, .inl (fun z_ => nI (ps z_)))), (pq 2, .inl (cI, 4, .inl (fun z_ => nI (pu z_)))), (pq 3, .inl (cI, 4, .inl (fun z_ => nI (sd z_)))), (pq 4, .inl (cI, 8, .inl (fun z_ => nI (cj z_)))), (pq 5, .inl (cI, 5, .inl (fun z_ => nI (ta z_))))] (fun (u : va_W) => (∃ eu2 : Nat → Nat, ∃ cv2 : Nat → Nat, (EaR bx nw y eu2 cv2 (cnP (pyB nw y) (nw 2))) ∧ u = [eO xe oq (cnP (pyB nw y) (nw 2)), (oq 0, .inl (cI, 12, .inl (fun z_ => nI (eu2 z_)))), (oq 1, .inl (cI, 24, .inl (fun z_ => nI (cv2 z_)))), bO b bq fi (nw 2) (nw 0) (nw 1), (bq 0, .inl (cI, 4, .inl (fun z_ => nI (up z_)))), (bq 1, .inl (cI, 4, .inl (fun z_ => nI (st z_)))), (bq 2, .inl (cI, 12, .inl (fun z_ => nI (ex z_)))), (bq 3, .inl (cI, 12, .inl (fun z_ => nI (tl z_)))), (bq 4, .inl (cI, 12, .inl (fun z_ => nI (he z_)))), (bq 5, .inl (cI, 12, .inl (fun z_ => nI (dy z_)))), (bq 6, .inl (cI, 12, .inl (fun z_ => nI (se z_)))), pO a pq (bx 0) (bx 2) (bx 1) (szN bx (bx 0)) (bx 3) (bx 4), (pq 0, .inl (cI, 4, .inl (fun z_ => nI (te z_)))), (pq 1, .inl (cI, 4, .inl (fun z_ => nI (ps z_)))), (pq 2, .inl (cI, 4, .inl (fun z_ => nI (pu z_)))), (pq 3, .inl (cI, 4, .inl (fun z_ => nI (sd z_)))), (pq 4, .inl (cI, 8, .inl (fun z_ => nI (cj z_)))), (pq 5, .inl (cI, 5, .inl (fun z_ => nI (ta z_))))])) := by
  intro sz
  refine MV.walk (by decide +kernel) (Nat.le_of_ble_eq_true rfl) ?_
  intro p e s m args below meth c A Qf hx hb hml hts hown hret hK hP hD hS hA ls hl
  have hown : s.vm.findClass RX1 = some m.cls := hown
  have hl : lv_has ls 5 [(0, .ref xe), (1, .ref a), (2, .ref b), (3, .int (nI (y)))] := hl
  have hP : va_P D vwCl [eO xe oq ec, (oq 0, .inl (cI, 12, .inl (fun z_ => nI (eu z_)))), (oq 1, .inl (cI, 24, .inl (fun z_ => nI (cv z_)))), bO b bq fi (nw 2) (nw 0) (nw 1), (bq 0, .inl (cI, 4, .inl (fun z_ => nI (up z_)))), (bq 1, .inl (cI, 4, .inl (fun z_ => nI (st z_)))), (bq 2, .inl (cI, 12, .inl (fun z_ => nI (ex z_)))), (bq 3, .inl (cI, 12, .inl (fun z_ => nI (tl z_)))), (bq 4, .inl (cI, 12, .inl (fun z_ => nI (he z_)))), (bq 5, .inl (cI, 12, .inl (fun z_ => nI (dy z_)))), (bq 6, .inl (cI, 12, .inl (fun z_ => nI (se z_)))), pO a pq (bx 0) (bx 2) (bx 1) (szN bx (bx 0)) (bx 3) (bx 4), (pq 0, .inl (cI, 4, .inl (fun z_ => nI (te z_)))), (pq 1, .inl (cI, 4, .inl (fun z_ => nI (ps z_)))), (pq 2, .inl (cI, 4, .inl (fun z_ => nI (pu z_)))), (pq 3, .inl (cI, 4, .inl (fun z_ => nI (sd z_)))), (pq 4, .inl (cI, 8, .inl (fun z_ => nI (cj z_)))), (pq 5, .inl (cI, 5, .inl (fun z_ => nI (ta z_))))] s.heap := hP
  have hD : va_D A [eO xe oq ec, (oq 0, .inl (cI, 12, .inl (fun z_ => nI (eu z_)))), (oq 1, .inl (cI, 24, .inl (fun z_ => nI (cv z_)))), bO b bq fi (nw 2) (nw 0) (nw 1), (bq 0, .inl (cI, 4, .inl (fun z_ => nI (up z_)))), (bq 1, .inl (cI, 4, .inl (fun z_ => nI (st z_)))), (bq 2, .inl (cI, 12, .inl (fun z_ => nI (ex z_)))), (bq 3, .inl (cI, 12, .inl (fun z_ => nI (tl z_)))), (bq 4, .inl (cI, 12, .inl (fun z_ => nI (he z_)))), (bq 5, .inl (cI, 12, .inl (fun z_ => nI (dy z_)))), (bq 6, .inl (cI, 12, .inl (fun z_ => nI (se z_)))), pO a pq (bx 0) (bx 2) (bx 1) (szN bx (bx 0)) (bx 3) (bx 4), (pq 0, .inl (cI, 4, .inl (fun z_ => nI (te z_)))), (pq 1, .inl (cI, 4, .inl (fun z_ => nI (ps z_)))), (pq 2, .inl (cI, 4, .inl (fun z_ => nI (pu z_)))), (pq 3, .inl (cI, 4, .inl (fun z_ => nI (sd z_)))), (pq 4, .inl (cI, 8, .inl (fun z_ => nI (cj z_)))), (pq 5, .inl (cI, 5, .inl (fun z_ => nI (ta z_))))] := hD
  have h12 := hX.d.h
  have hpn := hR.b.n
  refine lv_aload_n hx hb dX1_listen_0 rfl (lv_at hl 0 rfl) ?_
  refine lv_iconst (v := nI 0) hx hb dX1_listen_1 (by decide) ?_
  refine pf_1_21 hx hb hts hown hK hP hD hS 0 rfl (Nat.le_of_ble_eq_true rfl) dX1_listen_2 (fun H locs hP hD hS => ?_)
  have hP : va_P D vwCl [eO xe oq 0, (oq 0, .inl (cI, 12, .inl (fun z_ => nI (eu z_)))), (oq 1, .inl (cI, 24, .inl (fun z_ => nI (cv z_)))), bO b bq fi (nw 2) (nw 0) (nw 1), (bq 0, .inl (cI, 4, .inl (fun z_ => nI (up z_)))), (bq 1, .inl (cI, 4, .inl (fun z_ => nI (st z_)))), (bq 2, .inl (cI, 12, .inl (fun z_ => nI (ex z_)))), (bq 3, .inl (cI, 12, .inl (fun z_ => nI (tl z_)))), (bq 4, .inl (cI, 12, .inl (fun z_ => nI (he z_)))), (bq 5, .inl (cI, 12, .inl (fun z_ => nI (dy z_)))), (bq 6, .inl (cI, 12, .inl (fun z_ => nI (se z_)))), pO a pq (bx 0) (bx 2) (bx 1) (szN bx (bx 0)) (bx 3) (bx 4), (pq 0, .inl (cI, 4, .inl (fun z_ => nI (te z_)))), (pq 1, .inl (cI, 4, .inl (fun z_ => nI (ps z_)))), (pq 2, .inl (cI, 4, .inl (fun z_ => nI (pu z_)))), (pq 3, .inl (cI, 4, .inl (fun z_ => nI (sd z_)))), (pq 4, .inl (cI, 8, .inl (fun z_ => nI (cj z_)))), (pq 5, .inl (cI, 5, .inl (fun z_ => nI (ta z_))))] _ := hP
  have hD : va_D A [eO xe oq 0, (oq 0, .inl (cI, 12, .inl (fun z_ => nI (eu z_)))), (oq 1, .inl (cI, 24, .inl (fun z_ => nI (cv z_)))), bO b bq fi (nw 2) (nw 0) (nw 1), (bq 0, .inl (cI, 4, .inl (fun z_ => nI (up z_)))), (bq 1, .inl (cI, 4, .inl (fun z_ => nI (st z_)))), (bq 2, .inl (cI, 12, .inl (fun z_ => nI (ex z_)))), (bq 3, .inl (cI, 12, .inl (fun z_ => nI (tl z_)))), (bq 4, .inl (cI, 12, .inl (fun z_ => nI (he z_)))), (bq 5, .inl (cI, 12, .inl (fun z_ => nI (dy z_)))), (bq 6, .inl (cI, 12, .inl (fun z_ => nI (se z_)))), pO a pq (bx 0) (bx 2) (bx 1) (szN bx (bx 0)) (bx 3) (bx 4), (pq 0, .inl (cI, 4, .inl (fun z_ => nI (te z_)))), (pq 1, .inl (cI, 4, .inl (fun z_ => nI (ps z_)))), (pq 2, .inl (cI, 4, .inl (fun z_ => nI (pu z_)))), (pq 3, .inl (cI, 4, .inl (fun z_ => nI (sd z_)))), (pq 4, .inl (cI, 8, .inl (fun z_ => nI (cj z_)))), (pq 5, .inl (cI, 5, .inl (fun z_ => nI (ta z_))))] := hD
  refine lv_iconst (v := nI 0) hx hb dX1_listen_5 (by decide) ?_
  refine lv_istore (lv' := [(4, .int (nI (0))), (0, .ref xe), (1, .ref a), (2, .ref b), (3, .int (nI (y)))]) hx hb dX1_listen_6 hl (by decide) rfl (fun ls hl => ?_)
  have loop_8 : ∀ (N : Nat) (k : Nat) (c1 : Nat) (e1 : Nat → Nat), (k ≤ nw 2) → (c1 = cnP (pyB nw y) k) → (∀ i, i < c1 → e1 i = tbN bx (nw (16 + enP (pyB nw y) k i)) (bx 0)) → (nw 2 - k) < N → ∀ (H : Heap) (locs : List Loc), va_P D vwCl [eO xe oq c1, (oq 0, .inl (cI, 12, .inl (fun z_ => nI (e1 z_)))), (oq 1, .inl (cI, 24, .inl (fun z_ => nI (cv z_)))), bO b bq fi (nw 2) (nw 0) (nw 1), (bq 0, .inl (cI, 4, .inl (fun z_ => nI (up z_)))), (bq 1, .inl (cI, 4, .inl (fun z_ => nI (st z_)))), (bq 2, .inl (cI, 12, .inl (fun z_ => nI (ex z_)))), (bq 3, .inl (cI, 12, .inl (fun z_ => nI (tl z_)))), (bq 4, .inl (cI, 12, .inl (fun z_ => nI (he z_)))), (bq 5, .inl (cI, 12, .inl (fun z_ => nI (dy z_)))), (bq 6, .inl (cI, 12, .inl (fun z_ => nI (se z_)))), pO a pq (bx 0) (bx 2) (bx 1) (szN bx (bx 0)) (bx 3) (bx 4), (pq 0, .inl (cI, 4, .inl (fun z_ => nI (te z_)))), (pq 1, .inl (cI, 4, .inl (fun z_ => nI (ps z_)))), (pq 2, .inl (cI, 4, .inl (fun z_ => nI (pu z_)))), (pq 3, .inl (cI, 4, .inl (fun z_ => nI (sd z_)))), (pq 4, .inl (cI, 8, .inl (fun z_ => nI (cj z_)))), (pq 5, .inl (cI, 5, .inl (fun z_ => nI (ta z_))))] H → va_D A [eO xe oq c1, (oq 0, .inl (cI, 12, .inl (fun z_ => nI (e1 z_)))), (oq 1, .inl (cI, 24, .inl (fun z_ => nI (cv z_)))), bO b bq fi (nw 2) (nw 0) (nw 1), (bq 0, .inl (cI, 4, .inl (fun z_ => nI (up z_)))), (bq 1, .inl (cI, 4, .inl (fun z_ => nI (st z_)))), (bq 2, .inl (cI, 12, .inl (fun z_ => nI (ex z_)))), (bq 3, .inl (cI, 12, .inl (fun z_ => nI (tl z_)))), (bq 4, .inl (cI, 12, .inl (fun z_ => nI (he z_)))), (bq 5, .inl (cI, 12, .inl (fun z_ => nI (dy z_)))), (bq 6, .inl (cI, 12, .inl (fun z_ => nI (se z_)))), pO a pq (bx 0) (bx 2) (bx 1) (szN bx (bx 0)) (bx 3) (bx 4), (pq 0, .inl (cI, 4, .inl (fun z_ => nI (te z_)))), (pq 1, .inl (cI, 4, .inl (fun z_ => nI (ps z_)))), (pq 2, .inl (cI, 4, .inl (fun z_ => nI (pu z_)))), (pq 3, .inl (cI, 4, .inl (fun z_ => nI (sd z_)))), (pq 4, .inl (cI, 8, .inl (fun z_ => nI (cj z_)))), (pq 5, .inl (cI, 5, .inl (fun z_ => nI (ta z_))))] → va_S A s.heap H locs → ∀ ls : Array Slot, lv_has ls 5 [(4, .int (nI (k))), (0, .ref xe), (1, .ref a), (2, .ref b), (3, .int (nI (y)))] → W p l e (rmL 3) s m args below meth c H locs 0 0 Qf (F0 m 8 ls []) := by
    intro N; induction N with
    | zero => intro k c1 e1 _ _ _ hm; omega
    | succ N ih_8 =>
      intro k c1 e1 hk hc1 he1 hm H locs hP hD hS ls hl
      refine lv_iload hx hb dX1_listen_8 (lv_at hl 0 rfl) ?_
      refine lv_aload_n hx hb dX1_listen_10 rfl (lv_at hl 3 rfl) ?_
      refine gf_1_25 hx hb hts hown hK hP 3 rfl rfl dX1_listen_11 ?_
      refine n_icmp_ge (tgt := 70) hx hb dX1_listen_14 (by decide) (by omega) (by omega) (fun c_1 => ?_) (fun c_1 => ?_)
      · -- 14 to 70
        refine lv_iconst (v := nI 0) hx hb dX1_listen_70 (by decide) ?_
        refine lv_istore (lv' := [(4, .int (nI (0))), (0, .ref xe), (1, .ref a), (2, .ref b), (3, .int (nI (y)))]) hx hb dX1_listen_71 hl (by decide) rfl (fun ls hl => ?_)
        have loop_73 : ∀ (N : Nat) (j : Nat) (v1 : Nat → Nat), (j ≤ 24) → (∀ t, t < j → v1 t = hvN e1 t c1) → (24 - j) < N → ∀ (H : Heap) (locs : List Loc), va_P D vwCl [eO xe oq c1, (oq 0, .inl (cI, 12, .inl (fun z_ => nI (e1 z_)))), (oq 1, .inl (cI, 24, .inl (fun z_ => nI (v1 z_)))), bO b bq fi (nw 2) (nw 0) (nw 1), (bq 0, .inl (cI, 4, .inl (fun z_ => nI (up z_)))), (bq 1, .inl (cI, 4, .inl (fun z_ => nI (st z_)))), (bq 2, .inl (cI, 12, .inl (fun z_ => nI (ex z_)))), (bq 3, .inl (cI, 12, .inl (fun z_ => nI (tl z_)))), (bq 4, .inl (cI, 12, .inl (fun z_ => nI (he z_)))), (bq 5, .inl (cI, 12, .inl (fun z_ => nI (dy z_)))), (bq 6, .inl (cI, 12, .inl (fun z_ => nI (se z_)))), pO a pq (bx 0) (bx 2) (bx 1) (szN bx (bx 0)) (bx 3) (bx 4), (pq 0, .inl (cI, 4, .inl (fun z_ => nI (te z_)))), (pq 1, .inl (cI, 4, .inl (fun z_ => nI (ps z_)))), (pq 2, .inl (cI, 4, .inl (fun z_ => nI (pu z_)))), (pq 3, .inl (cI, 4, .inl (fun z_ => nI (sd z_)))), (pq 4, .inl (cI, 8, .inl (fun z_ => nI (cj z_)))), (pq 5, .inl (cI, 5, .inl (fun z_ => nI (ta z_))))] H → va_D A [eO xe oq c1, (oq 0, .inl (cI, 12, .inl (fun z_ => nI (e1 z_)))), (oq 1, .inl (cI, 24, .inl (fun z_ => nI (v1 z_)))), bO b bq fi (nw 2) (nw 0) (nw 1), (bq 0, .inl (cI, 4, .inl (fun z_ => nI (up z_)))), (bq 1, .inl (cI, 4, .inl (fun z_ => nI (st z_)))), (bq 2, .inl (cI, 12, .inl (fun z_ => nI (ex z_)))), (bq 3, .inl (cI, 12, .inl (fun z_ => nI (tl z_)))), (bq 4, .inl (cI, 12, .inl (fun z_ => nI (he z_)))), (bq 5, .inl (cI, 12, .inl (fun z_ => nI (dy z_)))), (bq 6, .inl (cI, 12, .inl (fun z_ => nI (se z_)))), pO a pq (bx 0) (bx 2) (bx 1) (szN bx (bx 0)) (bx 3) (bx 4), (pq 0, .inl (cI, 4, .inl (fun z_ => nI (te z_)))), (pq 1, .inl (cI, 4, .inl (fun z_ => nI (ps z_)))), (pq 2, .inl (cI, 4, .inl (fun z_ => nI (pu z_)))), (pq 3, .inl (cI, 4, .inl (fun z_ => nI (sd z_)))), (pq 4, .inl (cI, 8, .inl (fun z_ => nI (cj z_)))), (pq 5, .inl (cI, 5, .inl (fun z_ => nI (ta z_))))] → va_S A s.heap H locs → ∀ ls : Array Slot, lv_has ls 5 [(4, .int (nI (j))), (0, .ref xe), (1, .ref a), (2, .ref b), (3, .int (nI (y)))] → W p l e (rmL 3) s m args below meth c H locs 0 0 Qf (F0 m 73 ls []) := by
          intro N; induction N with
          | zero => intro j v1 _ _ hm; omega
          | succ N ih_73 =>
            intro j v1 hj hv1 hm H locs hP hD hS ls hl
            have hk9_q : k = nw 2 := by omega
            have hcp_q := cp_le (pyB nw y) k
            have hb24_q : ∀ i, i < c1 → e1 i < 16777216 := fun i hi => by rw [he1 i hi]; exact tb_lt hR.b _
            refine lv_iload hx hb dX1_listen_73 (lv_at hl 0 rfl) ?_
            refine lv_aload_n hx hb dX1_listen_75 rfl (lv_at hl 1 rfl) ?_
            refine gf_1_15 hx hb hts hown hK hP 0 rfl rfl dX1_listen_76 ?_
            refine n_alen hx hb hK hP 2 0 rfl rfl dX1_listen_79 ?_
            show W p l e _ s m args below meth c _ _ _ _ Qf (F0 m _ _ [.int (nI (24)), .int (nI (j))])
            refine n_icmp_ge (tgt := 102) hx hb dX1_listen_80 (by decide) (by omega) (by decide) (fun c_2 => ?_) (fun c_2 => ?_)
            · -- 80 to 102
              refine hret hP hD hS dX1_listen_102 rfl ?_
              have hk9_q : k = nw 2 := by omega
              subst hc1
              rw [hk9_q] at he1 hv1
              exact ⟨e1, v1, ⟨rfl, he1, fun t ht => hv1 t (by omega)⟩, by rw [hk9_q]⟩
            · -- 80 to 83
              refine lv_aload_n hx hb dX1_listen_83 rfl (lv_at hl 1 rfl) ?_
              refine gf_1_15 hx hb hts hown hK hP 0 rfl rfl dX1_listen_84 ?_
              refine lv_iload hx hb dX1_listen_87 (lv_at hl 0 rfl) ?_
              refine lv_aload_n hx hb dX1_listen_89 rfl (lv_at hl 1 rfl) ?_
              refine lv_iload hx hb dX1_listen_90 (lv_at hl 0 rfl) ?_
              refine cl_1_50 (As := [.int (nI (j))]) (rest := [.int (nI (j)), .ref (oq 1)]) hx hb hml hts hown (k_X1_haversOf (by omega) (by omega) hb24_q) (by decide) ⟨Nat.zero_le _, Nat.zero_le _⟩ hK hP hD hS hA 0 rfl [0, 1] rfl (by decide) rfl hl.1 rfl (Nat.le_of_ble_eq_true rfl) dX1_listen_92 (fun r_3 u H locs hp_4 hP hD hS => ?_)
              obtain ⟨rfl, rfl⟩ := hp_4
              dsimp only [putAll, List.set] at hP hD
              have hP : va_P D vwCl [eO xe oq c1, (oq 0, .inl (cI, 12, .inl (fun z_ => nI (e1 z_)))), (oq 1, .inl (cI, 24, .inl (fun z_ => nI (v1 z_)))), bO b bq fi (nw 2) (nw 0) (nw 1), (bq 0, .inl (cI, 4, .inl (fun z_ => nI (up z_)))), (bq 1, .inl (cI, 4, .inl (fun z_ => nI (st z_)))), (bq 2, .inl (cI, 12, .inl (fun z_ => nI (ex z_)))), (bq 3, .inl (cI, 12, .inl (fun z_ => nI (tl z_)))), (bq 4, .inl (cI, 12, .inl (fun z_ => nI (he z_)))), (bq 5, .inl (cI, 12, .inl (fun z_ => nI (dy z_)))), (bq 6, .inl (cI, 12, .inl (fun z_ => nI (se z_)))), pO a pq (bx 0) (bx 2) (bx 1) (szN bx (bx 0)) (bx 3) (bx 4), (pq 0, .inl (cI, 4, .inl (fun z_ => nI (te z_)))), (pq 1, .inl (cI, 4, .inl (fun z_ => nI (ps z_)))), (pq 2, .inl (cI, 4, .inl (fun z_ => nI (pu z_)))), (pq 3, .inl (cI, 4, .inl (fun z_ => nI (sd z_)))), (pq 4, .inl (cI, 8, .inl (fun z_ => nI (cj z_)))), (pq 5, .inl (cI, 5, .inl (fun z_ => nI (ta z_))))] _ := hP
              have hD : va_D A [eO xe oq c1, (oq 0, .inl (cI, 12, .inl (fun z_ => nI (e1 z_)))), (oq 1, .inl (cI, 24, .inl (fun z_ => nI (v1 z_)))), bO b bq fi (nw 2) (nw 0) (nw 1), (bq 0, .inl (cI, 4, .inl (fun z_ => nI (up z_)))), (bq 1, .inl (cI, 4, .inl (fun z_ => nI (st z_)))), (bq 2, .inl (cI, 12, .inl (fun z_ => nI (ex z_)))), (bq 3, .inl (cI, 12, .inl (fun z_ => nI (tl z_)))), (bq 4, .inl (cI, 12, .inl (fun z_ => nI (he z_)))), (bq 5, .inl (cI, 12, .inl (fun z_ => nI (dy z_)))), (bq 6, .inl (cI, 12, .inl (fun z_ => nI (se z_)))), pO a pq (bx 0) (bx 2) (bx 1) (szN bx (bx 0)) (bx 3) (bx 4), (pq 0, .inl (cI, 4, .inl (fun z_ => nI (te z_)))), (pq 1, .inl (cI, 4, .inl (fun z_ => nI (ps z_)))), (pq 2, .inl (cI, 4, .inl (fun z_ => nI (pu z_)))), (pq 3, .inl (cI, 4, .inl (fun z_ => nI (sd z_)))), (pq 4, .inl (cI, 8, .inl (fun z_ => nI (cj z_)))), (pq 5, .inl (cI, 5, .inl (fun z_ => nI (ta z_))))] := hD
              refine n_iast hx hb hK hP hD hS 2 0 rfl rfl dX1_listen_95 (by decide) (by omega) (fun H locs hP hD hS => ?_)
              have hP : va_P D vwCl [eO xe oq c1, (oq 0, .inl (cI, 12, .inl (fun z_ => nI (e1 z_)))), (oq 1, .inl (cI, 24, .inl (fun z_ => nI ((up1 v1 j (hvN e1 j c1)) z_)))), bO b bq fi (nw 2) (nw 0) (nw 1), (bq 0, .inl (cI, 4, .inl (fun z_ => nI (up z_)))), (bq 1, .inl (cI, 4, .inl (fun z_ => nI (st z_)))), (bq 2, .inl (cI, 12, .inl (fun z_ => nI (ex z_)))), (bq 3, .inl (cI, 12, .inl (fun z_ => nI (tl z_)))), (bq 4, .inl (cI, 12, .inl (fun z_ => nI (he z_)))), (bq 5, .inl (cI, 12, .inl (fun z_ => nI (dy z_)))), (bq 6, .inl (cI, 12, .inl (fun z_ => nI (se z_)))), pO a pq (bx 0) (bx 2) (bx 1) (szN bx (bx 0)) (bx 3) (bx 4), (pq 0, .inl (cI, 4, .inl (fun z_ => nI (te z_)))), (pq 1, .inl (cI, 4, .inl (fun z_ => nI (ps z_)))), (pq 2, .inl (cI, 4, .inl (fun z_ => nI (pu z_)))), (pq 3, .inl (cI, 4, .inl (fun z_ => nI (sd z_)))), (pq 4, .inl (cI, 8, .inl (fun z_ => nI (cj z_)))), (pq 5, .inl (cI, 5, .inl (fun z_ => nI (ta z_))))] _ := hP
              have hD : va_D A [eO xe oq c1, (oq 0, .inl (cI, 12, .inl (fun z_ => nI (e1 z_)))), (oq 1, .inl (cI, 24, .inl (fun z_ => nI ((up1 v1 j (hvN e1 j c1)) z_)))), bO b bq fi (nw 2) (nw 0) (nw 1), (bq 0, .inl (cI, 4, .inl (fun z_ => nI (up z_)))), (bq 1, .inl (cI, 4, .inl (fun z_ => nI (st z_)))), (bq 2, .inl (cI, 12, .inl (fun z_ => nI (ex z_)))), (bq 3, .inl (cI, 12, .inl (fun z_ => nI (tl z_)))), (bq 4, .inl (cI, 12, .inl (fun z_ => nI (he z_)))), (bq 5, .inl (cI, 12, .inl (fun z_ => nI (dy z_)))), (bq 6, .inl (cI, 12, .inl (fun z_ => nI (se z_)))), pO a pq (bx 0) (bx 2) (bx 1) (szN bx (bx 0)) (bx 3) (bx 4), (pq 0, .inl (cI, 4, .inl (fun z_ => nI (te z_)))), (pq 1, .inl (cI, 4, .inl (fun z_ => nI (ps z_)))), (pq 2, .inl (cI, 4, .inl (fun z_ => nI (pu z_)))), (pq 3, .inl (cI, 4, .inl (fun z_ => nI (sd z_)))), (pq 4, .inl (cI, 8, .inl (fun z_ => nI (cj z_)))), (pq 5, .inl (cI, 5, .inl (fun z_ => nI (ta z_))))] := hD
              refine lv_iinc (v := nI (j + 1)) (lv' := [(4, .int (nI (j + 1))), (0, .ref xe), (1, .ref a), (2, .ref b), (3, .int (nI (y)))]) hx hb dX1_listen_96 hl (k := 0) rfl (n_inc _ 1) (by decide) rfl (fun ls hl => ?_)
              refine lv_goto (tgt := 73) hx hb dX1_listen_99 (by decide) ?_
              exact ih_73 (j + 1) (up1 v1 j (hvN e1 j c1)) (by omega) (li_v hv1) (by omega) _ _ hP hD hS _ (lv_sub hl [0, 1, 2, 3, 4] rfl)
        exact loop_73 _ 0 cv (by omega) (fun i hi => absurd hi (Nat.not_lt_zero i)) (Nat.lt_succ_self _) _ _ hP hD hS _ (lv_sub hl [0, 1, 2, 3, 4] rfl)
      · -- 14 to 17
        have hrk := hX.k k (by omega)
        have hdk := hX.d.k k (by omega)
        have hbk := hX.d.bd (16 + k)
        have hcp_q := cp_le (pyB nw y) k
        refine lv_aload_n hx hb dX1_listen_17 rfl (lv_at hl 3 rfl) ?_
        refine gf_1_30 hx hb hts hown hK hP 3 rfl rfl dX1_listen_18 ?_
        refine lv_iload hx hb dX1_listen_21 (lv_at hl 0 rfl) ?_
        refine cl_1_33 (As := [.ref (bq 4), .int (nI (k))]) (rest := []) hx hb hml hts hown (k_X6_at (by first | assumption | omega) (by first | assumption | omega)) (by decide) ⟨Nat.zero_le _, Nat.zero_le _⟩ hK hP hD hS hA [8] rfl (by decide) rfl hl.1 rfl (Nat.le_of_ble_eq_true rfl) dX1_listen_23 (fun r_5 u H locs hp_6 hP hD hS => ?_)
        obtain ⟨rfl, rfl⟩ := hp_6
        dsimp only [putAll, List.set] at hP hD
        have hP : va_P D vwCl [eO xe oq c1, (oq 0, .inl (cI, 12, .inl (fun z_ => nI (e1 z_)))), (oq 1, .inl (cI, 24, .inl (fun z_ => nI (cv z_)))), bO b bq fi (nw 2) (nw 0) (nw 1), (bq 0, .inl (cI, 4, .inl (fun z_ => nI (up z_)))), (bq 1, .inl (cI, 4, .inl (fun z_ => nI (st z_)))), (bq 2, .inl (cI, 12, .inl (fun z_ => nI (ex z_)))), (bq 3, .inl (cI, 12, .inl (fun z_ => nI (tl z_)))), (bq 4, .inl (cI, 12, .inl (fun z_ => nI (he z_)))), (bq 5, .inl (cI, 12, .inl (fun z_ => nI (dy z_)))), (bq 6, .inl (cI, 12, .inl (fun z_ => nI (se z_)))), pO a pq (bx 0) (bx 2) (bx 1) (szN bx (bx 0)) (bx 3) (bx 4), (pq 0, .inl (cI, 4, .inl (fun z_ => nI (te z_)))), (pq 1, .inl (cI, 4, .inl (fun z_ => nI (ps z_)))), (pq 2, .inl (cI, 4, .inl (fun z_ => nI (pu z_)))), (pq 3, .inl (cI, 4, .inl (fun z_ => nI (sd z_)))), (pq 4, .inl (cI, 8, .inl (fun z_ => nI (cj z_)))), (pq 5, .inl (cI, 5, .inl (fun z_ => nI (ta z_))))] _ := hP
        have hD : va_D A [eO xe oq c1, (oq 0, .inl (cI, 12, .inl (fun z_ => nI (e1 z_)))), (oq 1, .inl (cI, 24, .inl (fun z_ => nI (cv z_)))), bO b bq fi (nw 2) (nw 0) (nw 1), (bq 0, .inl (cI, 4, .inl (fun z_ => nI (up z_)))), (bq 1, .inl (cI, 4, .inl (fun z_ => nI (st z_)))), (bq 2, .inl (cI, 12, .inl (fun z_ => nI (ex z_)))), (bq 3, .inl (cI, 12, .inl (fun z_ => nI (tl z_)))), (bq 4, .inl (cI, 12, .inl (fun z_ => nI (he z_)))), (bq 5, .inl (cI, 12, .inl (fun z_ => nI (dy z_)))), (bq 6, .inl (cI, 12, .inl (fun z_ => nI (se z_)))), pO a pq (bx 0) (bx 2) (bx 1) (szN bx (bx 0)) (bx 3) (bx 4), (pq 0, .inl (cI, 4, .inl (fun z_ => nI (te z_)))), (pq 1, .inl (cI, 4, .inl (fun z_ => nI (ps z_)))), (pq 2, .inl (cI, 4, .inl (fun z_ => nI (pu z_)))), (pq 3, .inl (cI, 4, .inl (fun z_ => nI (sd z_)))), (pq 4, .inl (cI, 8, .inl (fun z_ => nI (cj z_)))), (pq 5, .inl (cI, 5, .inl (fun z_ => nI (ta z_))))] := hD
        refine lv_iload_n hx hb dX1_listen_26 rfl (lv_at hl 4 rfl) ?_
        refine n_icmp_ne (tgt := 64) hx hb dX1_listen_27 (by decide) (by omega) (by omega) (fun c_7 => ?_) (fun c_7 => ?_)
        · -- 27 to 64
          have hne_q : pyB nw y k = false := by simp only [pyB, decide_eq_false_iff_not]; omega
          refine lv_iinc (v := nI (k + 1)) (lv' := [(4, .int (nI (k + 1))), (0, .ref xe), (1, .ref a), (2, .ref b), (3, .int (nI (y)))]) hx hb dX1_listen_64 hl (k := 0) rfl (n_inc _ 1) (by decide) rfl (fun ls hl => ?_)
          refine lv_goto (tgt := 8) hx hb dX1_listen_67 (by decide) ?_
          exact ih_8 (k + 1) c1 e1 (by omega) (by first | rw [cp_t hne_q, hc1] | rw [cp_f hne_q, hc1]) (by first | exact li_t hne_q hc1 he1 (by rw [hrk.1]) | exact li_f hne_q he1) (by omega) _ _ hP hD hS _ (lv_sub hl [0, 1, 2, 3, 4] rfl)
        · -- 27 to 30
          have hne_q : pyB nw y k = true := by simp only [pyB, decide_eq_true_eq]; omega
          refine lv_aload_n hx hb dX1_listen_30 rfl (lv_at hl 1 rfl) ?_
          refine gf_1_9 hx hb hts hown hK hP 0 rfl rfl dX1_listen_31 ?_
          refine lv_aload_n hx hb dX1_listen_34 rfl (lv_at hl 1 rfl) ?_
          refine gf_1_21 hx hb hts hown hK hP 0 rfl rfl dX1_listen_35 ?_
          refine lv_aload_n hx hb dX1_listen_38 rfl (lv_at hl 2 rfl) ?_
          refine lv_aload_n hx hb dX1_listen_39 rfl (lv_at hl 3 rfl) ?_
          refine gf_1_37 hx hb hts hown hK hP 3 rfl rfl dX1_listen_40 ?_
          refine lv_iload hx hb dX1_listen_43 (lv_at hl 0 rfl) ?_
          refine cl_1_33 (As := [.ref (bq 2), .int (nI (k))]) (rest := [.ref a, .int (nI (c1)), .ref (oq 0)]) hx hb hml hts hown (k_X6_at (by first | assumption | omega) (by first | assumption | omega)) (by decide) ⟨Nat.zero_le _, Nat.zero_le _⟩ hK hP hD hS hA [6] rfl (by decide) rfl hl.1 rfl (Nat.le_of_ble_eq_true rfl) dX1_listen_45 (fun r_8 u H locs hp_9 hP hD hS => ?_)
          obtain ⟨rfl, rfl⟩ := hp_9
          dsimp only [putAll, List.set] at hP hD
          have hP : va_P D vwCl [eO xe oq c1, (oq 0, .inl (cI, 12, .inl (fun z_ => nI (e1 z_)))), (oq 1, .inl (cI, 24, .inl (fun z_ => nI (cv z_)))), bO b bq fi (nw 2) (nw 0) (nw 1), (bq 0, .inl (cI, 4, .inl (fun z_ => nI (up z_)))), (bq 1, .inl (cI, 4, .inl (fun z_ => nI (st z_)))), (bq 2, .inl (cI, 12, .inl (fun z_ => nI (ex z_)))), (bq 3, .inl (cI, 12, .inl (fun z_ => nI (tl z_)))), (bq 4, .inl (cI, 12, .inl (fun z_ => nI (he z_)))), (bq 5, .inl (cI, 12, .inl (fun z_ => nI (dy z_)))), (bq 6, .inl (cI, 12, .inl (fun z_ => nI (se z_)))), pO a pq (bx 0) (bx 2) (bx 1) (szN bx (bx 0)) (bx 3) (bx 4), (pq 0, .inl (cI, 4, .inl (fun z_ => nI (te z_)))), (pq 1, .inl (cI, 4, .inl (fun z_ => nI (ps z_)))), (pq 2, .inl (cI, 4, .inl (fun z_ => nI (pu z_)))), (pq 3, .inl (cI, 4, .inl (fun z_ => nI (sd z_)))), (pq 4, .inl (cI, 8, .inl (fun z_ => nI (cj z_)))), (pq 5, .inl (cI, 5, .inl (fun z_ => nI (ta z_))))] _ := hP
          have hD : va_D A [eO xe oq c1, (oq 0, .inl (cI, 12, .inl (fun z_ => nI (e1 z_)))), (oq 1, .inl (cI, 24, .inl (fun z_ => nI (cv z_)))), bO b bq fi (nw 2) (nw 0) (nw 1), (bq 0, .inl (cI, 4, .inl (fun z_ => nI (up z_)))), (bq 1, .inl (cI, 4, .inl (fun z_ => nI (st z_)))), (bq 2, .inl (cI, 12, .inl (fun z_ => nI (ex z_)))), (bq 3, .inl (cI, 12, .inl (fun z_ => nI (tl z_)))), (bq 4, .inl (cI, 12, .inl (fun z_ => nI (he z_)))), (bq 5, .inl (cI, 12, .inl (fun z_ => nI (dy z_)))), (bq 6, .inl (cI, 12, .inl (fun z_ => nI (se z_)))), pO a pq (bx 0) (bx 2) (bx 1) (szN bx (bx 0)) (bx 3) (bx 4), (pq 0, .inl (cI, 4, .inl (fun z_ => nI (te z_)))), (pq 1, .inl (cI, 4, .inl (fun z_ => nI (ps z_)))), (pq 2, .inl (cI, 4, .inl (fun z_ => nI (pu z_)))), (pq 3, .inl (cI, 4, .inl (fun z_ => nI (sd z_)))), (pq 4, .inl (cI, 8, .inl (fun z_ => nI (cj z_)))), (pq 5, .inl (cI, 5, .inl (fun z_ => nI (ta z_))))] := hD
          refine cl_1_40 (As := [.int (nI (ex k))]) (rest := [.int (nI (c1)), .ref (oq 0)]) hx hb hml hts hown (k_X2_teethOf hR (by omega)) (by decide) ⟨Nat.zero_le _, Nat.zero_le _⟩ hK hP hD hS hA 11 rfl [11, 12, 13, 14, 15, 16, 17] rfl (by decide) rfl hl.1 rfl (Nat.le_of_ble_eq_true rfl) dX1_listen_48 (fun r_10 u H locs hp_11 hP hD hS => ?_)
          obtain ⟨rfl, rfl⟩ := hp_11
          dsimp only [putAll, List.set] at hP hD
          have hP : va_P D vwCl [eO xe oq c1, (oq 0, .inl (cI, 12, .inl (fun z_ => nI (e1 z_)))), (oq 1, .inl (cI, 24, .inl (fun z_ => nI (cv z_)))), bO b bq fi (nw 2) (nw 0) (nw 1), (bq 0, .inl (cI, 4, .inl (fun z_ => nI (up z_)))), (bq 1, .inl (cI, 4, .inl (fun z_ => nI (st z_)))), (bq 2, .inl (cI, 12, .inl (fun z_ => nI (ex z_)))), (bq 3, .inl (cI, 12, .inl (fun z_ => nI (tl z_)))), (bq 4, .inl (cI, 12, .inl (fun z_ => nI (he z_)))), (bq 5, .inl (cI, 12, .inl (fun z_ => nI (dy z_)))), (bq 6, .inl (cI, 12, .inl (fun z_ => nI (se z_)))), pO a pq (bx 0) (bx 2) (bx 1) (szN bx (bx 0)) (bx 3) (bx 4), (pq 0, .inl (cI, 4, .inl (fun z_ => nI (te z_)))), (pq 1, .inl (cI, 4, .inl (fun z_ => nI (ps z_)))), (pq 2, .inl (cI, 4, .inl (fun z_ => nI (pu z_)))), (pq 3, .inl (cI, 4, .inl (fun z_ => nI (sd z_)))), (pq 4, .inl (cI, 8, .inl (fun z_ => nI (cj z_)))), (pq 5, .inl (cI, 5, .inl (fun z_ => nI (ta z_))))] _ := hP
          have hD : va_D A [eO xe oq c1, (oq 0, .inl (cI, 12, .inl (fun z_ => nI (e1 z_)))), (oq 1, .inl (cI, 24, .inl (fun z_ => nI (cv z_)))), bO b bq fi (nw 2) (nw 0) (nw 1), (bq 0, .inl (cI, 4, .inl (fun z_ => nI (up z_)))), (bq 1, .inl (cI, 4, .inl (fun z_ => nI (st z_)))), (bq 2, .inl (cI, 12, .inl (fun z_ => nI (ex z_)))), (bq 3, .inl (cI, 12, .inl (fun z_ => nI (tl z_)))), (bq 4, .inl (cI, 12, .inl (fun z_ => nI (he z_)))), (bq 5, .inl (cI, 12, .inl (fun z_ => nI (dy z_)))), (bq 6, .inl (cI, 12, .inl (fun z_ => nI (se z_)))), pO a pq (bx 0) (bx 2) (bx 1) (szN bx (bx 0)) (bx 3) (bx 4), (pq 0, .inl (cI, 4, .inl (fun z_ => nI (te z_)))), (pq 1, .inl (cI, 4, .inl (fun z_ => nI (ps z_)))), (pq 2, .inl (cI, 4, .inl (fun z_ => nI (pu z_)))), (pq 3, .inl (cI, 4, .inl (fun z_ => nI (sd z_)))), (pq 4, .inl (cI, 8, .inl (fun z_ => nI (cj z_)))), (pq 5, .inl (cI, 5, .inl (fun z_ => nI (ta z_))))] := hD
          refine cl_1_46 (As := [.ref (oq 0), .int (nI (c1)), .int (nI (tbN bx (ex k) (bx 0)))]) (rest := []) hx hb hml hts hown (k_X6_put (by first | assumption | omega) (by first | assumption | omega)) (by decide) ⟨Nat.zero_le _, Nat.zero_le _⟩ hK hP hD hS hA [1] rfl (by decide) rfl hl.1 rfl (Nat.le_of_ble_eq_true rfl) dX1_listen_51 (fun  u H locs hp_12 hP hD hS => ?_)
          subst hp_12
          dsimp only [putAll, List.set] at hP hD
          have hP : va_P D vwCl [eO xe oq c1, (oq 0, .inl (cI, 12, .inl (fun z_ => nI ((up1 e1 c1 (tbN bx (ex k) (bx 0))) z_)))), (oq 1, .inl (cI, 24, .inl (fun z_ => nI (cv z_)))), bO b bq fi (nw 2) (nw 0) (nw 1), (bq 0, .inl (cI, 4, .inl (fun z_ => nI (up z_)))), (bq 1, .inl (cI, 4, .inl (fun z_ => nI (st z_)))), (bq 2, .inl (cI, 12, .inl (fun z_ => nI (ex z_)))), (bq 3, .inl (cI, 12, .inl (fun z_ => nI (tl z_)))), (bq 4, .inl (cI, 12, .inl (fun z_ => nI (he z_)))), (bq 5, .inl (cI, 12, .inl (fun z_ => nI (dy z_)))), (bq 6, .inl (cI, 12, .inl (fun z_ => nI (se z_)))), pO a pq (bx 0) (bx 2) (bx 1) (szN bx (bx 0)) (bx 3) (bx 4), (pq 0, .inl (cI, 4, .inl (fun z_ => nI (te z_)))), (pq 1, .inl (cI, 4, .inl (fun z_ => nI (ps z_)))), (pq 2, .inl (cI, 4, .inl (fun z_ => nI (pu z_)))), (pq 3, .inl (cI, 4, .inl (fun z_ => nI (sd z_)))), (pq 4, .inl (cI, 8, .inl (fun z_ => nI (cj z_)))), (pq 5, .inl (cI, 5, .inl (fun z_ => nI (ta z_))))] _ := hP
          have hD : va_D A [eO xe oq c1, (oq 0, .inl (cI, 12, .inl (fun z_ => nI ((up1 e1 c1 (tbN bx (ex k) (bx 0))) z_)))), (oq 1, .inl (cI, 24, .inl (fun z_ => nI (cv z_)))), bO b bq fi (nw 2) (nw 0) (nw 1), (bq 0, .inl (cI, 4, .inl (fun z_ => nI (up z_)))), (bq 1, .inl (cI, 4, .inl (fun z_ => nI (st z_)))), (bq 2, .inl (cI, 12, .inl (fun z_ => nI (ex z_)))), (bq 3, .inl (cI, 12, .inl (fun z_ => nI (tl z_)))), (bq 4, .inl (cI, 12, .inl (fun z_ => nI (he z_)))), (bq 5, .inl (cI, 12, .inl (fun z_ => nI (dy z_)))), (bq 6, .inl (cI, 12, .inl (fun z_ => nI (se z_)))), pO a pq (bx 0) (bx 2) (bx 1) (szN bx (bx 0)) (bx 3) (bx 4), (pq 0, .inl (cI, 4, .inl (fun z_ => nI (te z_)))), (pq 1, .inl (cI, 4, .inl (fun z_ => nI (ps z_)))), (pq 2, .inl (cI, 4, .inl (fun z_ => nI (pu z_)))), (pq 3, .inl (cI, 4, .inl (fun z_ => nI (sd z_)))), (pq 4, .inl (cI, 8, .inl (fun z_ => nI (cj z_)))), (pq 5, .inl (cI, 5, .inl (fun z_ => nI (ta z_))))] := hD
          refine lv_aload_n hx hb dX1_listen_54 rfl (lv_at hl 1 rfl) ?_
          refine lv_dup hx hb dX1_listen_55 rfl ?_
          refine gf_1_21 hx hb hts hown hK hP 0 rfl rfl dX1_listen_56 ?_
          refine lv_iconst (v := nI 1) hx hb dX1_listen_59 (by decide) ?_
          refine n_iadd hx hb dX1_listen_60  ?_
          refine pf_1_21 hx hb hts hown hK hP hD hS 0 rfl (Nat.le_of_ble_eq_true rfl) dX1_listen_61 (fun H locs hP hD hS => ?_)
          have hP : va_P D vwCl [eO xe oq (c1 + 1), (oq 0, .inl (cI, 12, .inl (fun z_ => nI ((up1 e1 c1 (tbN bx (ex k) (bx 0))) z_)))), (oq 1, .inl (cI, 24, .inl (fun z_ => nI (cv z_)))), bO b bq fi (nw 2) (nw 0) (nw 1), (bq 0, .inl (cI, 4, .inl (fun z_ => nI (up z_)))), (bq 1, .inl (cI, 4, .inl (fun z_ => nI (st z_)))), (bq 2, .inl (cI, 12, .inl (fun z_ => nI (ex z_)))), (bq 3, .inl (cI, 12, .inl (fun z_ => nI (tl z_)))), (bq 4, .inl (cI, 12, .inl (fun z_ => nI (he z_)))), (bq 5, .inl (cI, 12, .inl (fun z_ => nI (dy z_)))), (bq 6, .inl (cI, 12, .inl (fun z_ => nI (se z_)))), pO a pq (bx 0) (bx 2) (bx 1) (szN bx (bx 0)) (bx 3) (bx 4), (pq 0, .inl (cI, 4, .inl (fun z_ => nI (te z_)))), (pq 1, .inl (cI, 4, .inl (fun z_ => nI (ps z_)))), (pq 2, .inl (cI, 4, .inl (fun z_ => nI (pu z_)))), (pq 3, .inl (cI, 4, .inl (fun z_ => nI (sd z_)))), (pq 4, .inl (cI, 8, .inl (fun z_ => nI (cj z_)))), (pq 5, .inl (cI, 5, .inl (fun z_ => nI (ta z_))))] _ := hP
          have hD : va_D A [eO xe oq (c1 + 1), (oq 0, .inl (cI, 12, .inl (fun z_ => nI ((up1 e1 c1 (tbN bx (ex k) (bx 0))) z_)))), (oq 1, .inl (cI, 24, .inl (fun z_ => nI (cv z_)))), bO b bq fi (nw 2) (nw 0) (nw 1), (bq 0, .inl (cI, 4, .inl (fun z_ => nI (up z_)))), (bq 1, .inl (cI, 4, .inl (fun z_ => nI (st z_)))), (bq 2, .inl (cI, 12, .inl (fun z_ => nI (ex z_)))), (bq 3, .inl (cI, 12, .inl (fun z_ => nI (tl z_)))), (bq 4, .inl (cI, 12, .inl (fun z_ => nI (he z_)))), (bq 5, .inl (cI, 12, .inl (fun z_ => nI (dy z_)))), (bq 6, .inl (cI, 12, .inl (fun z_ => nI (se z_)))), pO a pq (bx 0) (bx 2) (bx 1) (szN bx (bx 0)) (bx 3) (bx 4), (pq 0, .inl (cI, 4, .inl (fun z_ => nI (te z_)))), (pq 1, .inl (cI, 4, .inl (fun z_ => nI (ps z_)))), (pq 2, .inl (cI, 4, .inl (fun z_ => nI (pu z_)))), (pq 3, .inl (cI, 4, .inl (fun z_ => nI (sd z_)))), (pq 4, .inl (cI, 8, .inl (fun z_ => nI (cj z_)))), (pq 5, .inl (cI, 5, .inl (fun z_ => nI (ta z_))))] := hD
          refine lv_iinc (v := nI (k + 1)) (lv' := [(4, .int (nI (k + 1))), (0, .ref xe), (1, .ref a), (2, .ref b), (3, .int (nI (y)))]) hx hb dX1_listen_64 hl (k := 0) rfl (n_inc _ 1) (by decide) rfl (fun ls hl => ?_)
          refine lv_goto (tgt := 8) hx hb dX1_listen_67 (by decide) ?_
          exact ih_8 (k + 1) (c1 + 1) (up1 e1 c1 (tbN bx (ex k) (bx 0))) (by omega) (by first | rw [cp_t hne_q, hc1] | rw [cp_f hne_q, hc1]) (by first | exact li_t hne_q hc1 he1 (by rw [hrk.1]) | exact li_f hne_q he1) (by omega) _ _ hP hD hS _ (lv_sub hl [0, 1, 2, 3, 4] rfl)
  exact loop_8 _ 0 0 eu (by omega) rfl (fun i hi => absurd hi (Nat.not_lt_zero i)) (Nat.lt_succ_self _) _ _ hP hD hS _ (lv_sub hl [0, 1, 2, 3, 4] rfl)
set_option maxHeartbeats 4000000 in
set_option maxRecDepth 100000 in
theorem k_X1_canCover0 {l : Launch} {D : va_G} {cI cC cB : ClassId} {xe ec : Nat} {oq : Nat → Nat} {eu cv : Nat → Nat} {lf fr : Nat} (hec : ec ≤ 12) (heu : ∀ i, i < ec → eu i < 16777216) (hcv : ∀ s, s < 24 → cv s = hvN eu s ec) (hfr : fr ≤ 24) (hlf : lf < 4096) (hsub : ∀ k, Nat.testBit lf k = true → k < ec) : MI l yX1_canCover cX1_canCover 6 (some .boolean) 2 D (Ty3 cI cC cB) [.ref xe, .int (nI (lf)), .int (nI (fr)), .int (nI (0))] [eO xe oq ec, (oq 0, .inl (cI, 12, .inl (fun z_ => nI (eu z_)))), (oq 1, .inl (cI, 24, .inl (fun z_ => nI (cv z_))))] (fun r u => (r = nI (b2n (cvB (hsE eu) ec (24 - fr) (fun k_ => Nat.testBit lf k_) fr 0)) ∧ u = [eO xe oq ec, (oq 0, .inl (cI, 12, .inl (fun z_ => nI (eu z_)))), (oq 1, .inl (cI, 24, .inl (fun z_ => nI (cv z_))))])) := by
  intro sz
  refine MI.walk (by decide +kernel) (Nat.le_of_ble_eq_true rfl) ?_
  intro p e s m args below meth c A Qf hx hb hml hts hown hret hK hP hD hS hA ls hl
  have hown : s.vm.findClass RX1 = some m.cls := hown
  have hl : lv_has ls 6 [(0, .ref xe), (1, .int (nI (lf))), (2, .int (nI (fr))), (3, .int (nI (0)))] := hl
  have hP : va_P D vwCl [eO xe oq ec, (oq 0, .inl (cI, 12, .inl (fun z_ => nI (eu z_)))), (oq 1, .inl (cI, 24, .inl (fun z_ => nI (cv z_))))] s.heap := hP
  have hD : va_D A [eO xe oq ec, (oq 0, .inl (cI, 12, .inl (fun z_ => nI (eu z_)))), (oq 1, .inl (cI, 24, .inl (fun z_ => nI (cv z_))))] := hD
  refine lv_iload_n hx hb dX1_canCover_0 rfl (lv_at hl 1 rfl) ?_
  refine n_if_eq (tgt := 8) hx hb dX1_canCover_1 (by decide) (by omega) (fun c_1 => ?_) (fun c_1 => ?_)
  · -- 1 to 8
    refine lv_iload_n hx hb dX1_canCover_8 rfl (lv_at hl 1 rfl) ?_
    refine n_if_ne (tgt := 20) hx hb dX1_canCover_9 (by decide) (by omega) (fun c_2 => ?_) (fun c_2 => ?_)
    · omega
    · -- 9 to 12
      refine lv_iload_n hx hb dX1_canCover_12 rfl (lv_at hl 3 rfl) ?_
      refine n_if_lt (tgt := 20) hx hb dX1_canCover_13 (by decide) (by decide) ?_
      refine lv_iconst (v := nI 1) hx hb dX1_canCover_16 (by decide) ?_
      refine lv_goto (tgt := 21) hx hb dX1_canCover_17 (by decide) ?_
      refine hret hP hD hS dX1_canCover_21 (by decide) rfl ?_
      exact ⟨congrArg nI (by first | exact b2n_e1 (cv_em _ _ _ _ (em_0 (by assumption))) | exact b2n_e0 (by rw [cv_q0]; exact em_1 hlf (by assumption) hsub)), rfl⟩
  · -- 1 to 4
    refine lv_iload_n hx hb dX1_canCover_4 rfl (lv_at hl 3 rfl) ?_
    refine n_if_gt (tgt := 22) hx hb dX1_canCover_5 (by decide) (by decide) (fun c_4 => ?_) (fun c_4 => ?_)
    · omega
    · -- 5 to 8
      refine lv_iload_n hx hb dX1_canCover_8 rfl (lv_at hl 1 rfl) ?_
      refine n_if_ne (tgt := 20) hx hb dX1_canCover_9 (by decide) (by omega) (fun c_5 => ?_) (fun c_5 => ?_)
      · -- 9 to 20
        refine lv_iconst (v := nI 0) hx hb dX1_canCover_20 (by decide) ?_
        refine hret hP hD hS dX1_canCover_21 (by decide) rfl ?_
        exact ⟨congrArg nI (by first | exact b2n_e1 (cv_em _ _ _ _ (em_0 (by assumption))) | exact b2n_e0 (by rw [cv_q0]; exact em_1 hlf (by assumption) hsub)), rfl⟩
      · omega
set_option maxHeartbeats 4000000 in
set_option maxRecDepth 100000 in
theorem k_X1_canCoverS {l : Launch} {D : va_G} {cI cC cB : ClassId} {xe ec : Nat} {oq : Nat → Nat} {eu cv : Nat → Nat} {lf fr n : Nat} (hec : ec ≤ 12) (heu : ∀ i, i < ec → eu i < 16777216) (hcv : ∀ s, s < 24 → cv s = hvN eu s ec) (hfr : fr ≤ 24) (hlf : lf < 4096) (hsub : ∀ k, Nat.testBit lf k = true → k < ec) (hn9 : n < 100) (ihc : ∀ lf2, lf2 < 4096 → (∀ k, Nat.testBit lf2 k = true → k < ec) → MI l yX1_canCover cX1_canCover 6 (some .boolean) (n + 2) D (Ty3 cI cC cB) [.ref xe, .int (nI (lf2)), .int (nI (fr)), .int (nI (n))] [eO xe oq ec, (oq 0, .inl (cI, 12, .inl (fun z_ => nI (eu z_)))), (oq 1, .inl (cI, 24, .inl (fun z_ => nI (cv z_))))] (fun r u => (r = nI (b2n (cvB (hsE eu) ec (24 - fr) (fun k_ => Nat.testBit lf2 k_) fr n)) ∧ u = [eO xe oq ec, (oq 0, .inl (cI, 12, .inl (fun z_ => nI (eu z_)))), (oq 1, .inl (cI, 24, .inl (fun z_ => nI (cv z_))))]))) : MI l yX1_canCover cX1_canCover 6 (some .boolean) (n + 3) D (Ty3 cI cC cB) [.ref xe, .int (nI (lf)), .int (nI (fr)), .int (nI (n + 1))] [eO xe oq ec, (oq 0, .inl (cI, 12, .inl (fun z_ => nI (eu z_)))), (oq 1, .inl (cI, 24, .inl (fun z_ => nI (cv z_))))] (fun r u => (r = nI (b2n (cvB (hsE eu) ec (24 - fr) (fun k_ => Nat.testBit lf k_) fr (n + 1))) ∧ u = [eO xe oq ec, (oq 0, .inl (cI, 12, .inl (fun z_ => nI (eu z_)))), (oq 1, .inl (cI, 24, .inl (fun z_ => nI (cv z_))))])) := by
  intro sz
  refine MI.walk (by decide +kernel) (Nat.le_of_ble_eq_true rfl) ?_
  intro p e s m args below meth c A Qf hx hb hml hts hown hret hK hP hD hS hA ls hl
  have hown : s.vm.findClass RX1 = some m.cls := hown
  have hl : lv_has ls 6 [(0, .ref xe), (1, .int (nI (lf))), (2, .int (nI (fr))), (3, .int (nI (n + 1)))] := hl
  have hP : va_P D vwCl [eO xe oq ec, (oq 0, .inl (cI, 12, .inl (fun z_ => nI (eu z_)))), (oq 1, .inl (cI, 24, .inl (fun z_ => nI (cv z_))))] s.heap := hP
  have hD : va_D A [eO xe oq ec, (oq 0, .inl (cI, 12, .inl (fun z_ => nI (eu z_)))), (oq 1, .inl (cI, 24, .inl (fun z_ => nI (cv z_))))] := hD
  refine lv_iload_n hx hb dX1_canCover_0 rfl (lv_at hl 1 rfl) ?_
  refine n_if_eq (tgt := 8) hx hb dX1_canCover_1 (by decide) (by omega) (fun c_1 => ?_) (fun c_1 => ?_)
  · -- 1 to 8
    refine lv_iload_n hx hb dX1_canCover_8 rfl (lv_at hl 1 rfl) ?_
    refine n_if_ne (tgt := 20) hx hb dX1_canCover_9 (by decide) (by omega) (fun c_2 => ?_) (fun c_2 => ?_)
    · omega
    · -- 9 to 12
      refine lv_iload_n hx hb dX1_canCover_12 rfl (lv_at hl 3 rfl) ?_
      refine n_if_lt (tgt := 20) hx hb dX1_canCover_13 (by decide) (by omega) ?_
      refine lv_iconst (v := nI 1) hx hb dX1_canCover_16 (by decide) ?_
      refine lv_goto (tgt := 21) hx hb dX1_canCover_17 (by decide) ?_
      refine hret hP hD hS dX1_canCover_21 (by decide) rfl ?_
      exact ⟨congrArg nI (b2n_e1 (cv_em _ _ _ _ (em_0 (by assumption)))), rfl⟩
  · -- 1 to 4
    have hl0_q := c_1
    have hlw_q := lw_t lf hlf c_1
    have hle_q := hsub _ hlw_q.1
    have hb_q := heu _ hle_q
    refine lv_iload_n hx hb dX1_canCover_4 rfl (lv_at hl 3 rfl) ?_
    refine n_if_gt (tgt := 22) hx hb dX1_canCover_5 (by decide) (by omega) (fun c_4 => ?_) (fun c_4 => ?_)
    · -- 5 to 22
      refine lv_aload_n hx hb dX1_canCover_22 rfl (lv_at hl 0 rfl) ?_
      refine gf_1_9 hx hb hts hown hK hP 0 rfl rfl dX1_canCover_23 ?_
      refine lv_iload_n hx hb dX1_canCover_26 rfl (lv_at hl 1 rfl) ?_
      refine cl_1_61 (As := [.int (nI (lf))]) (rest := [.ref (oq 0)]) hx hb hml hts hown (k_X6_lowestOf hlf hl0_q) (by simp only [rmL]; omega) ⟨Nat.zero_le _, Nat.zero_le _⟩ hK hP hD hS hA [] rfl (by decide) rfl hl.1 rfl (Nat.le_of_ble_eq_true rfl) dX1_canCover_27 (fun r_5 u H locs hp_6 hP hD hS => ?_)
      obtain ⟨rfl, rfl⟩ := hp_6
      have hP : va_P D vwCl [eO xe oq ec, (oq 0, .inl (cI, 12, .inl (fun z_ => nI (eu z_)))), (oq 1, .inl (cI, 24, .inl (fun z_ => nI (cv z_))))] _ := hP
      have hD : va_D A [eO xe oq ec, (oq 0, .inl (cI, 12, .inl (fun z_ => nI (eu z_)))), (oq 1, .inl (cI, 24, .inl (fun z_ => nI (cv z_))))] := hD
      refine cl_1_33 (As := [.ref (oq 0), .int (nI (lwN lf))]) (rest := []) hx hb hml hts hown (k_X6_at (by first | assumption | omega) (by first | assumption | omega)) (by simp only [rmL]; omega) ⟨Nat.zero_le _, Nat.zero_le _⟩ hK hP hD hS hA [1] rfl (by decide) rfl hl.1 rfl (Nat.le_of_ble_eq_true rfl) dX1_canCover_30 (fun r_7 u H locs hp_8 hP hD hS => ?_)
      obtain ⟨rfl, rfl⟩ := hp_8
      have hP : va_P D vwCl [eO xe oq ec, (oq 0, .inl (cI, 12, .inl (fun z_ => nI (eu z_)))), (oq 1, .inl (cI, 24, .inl (fun z_ => nI (cv z_))))] _ := hP
      have hD : va_D A [eO xe oq ec, (oq 0, .inl (cI, 12, .inl (fun z_ => nI (eu z_)))), (oq 1, .inl (cI, 24, .inl (fun z_ => nI (cv z_))))] := hD
      refine lv_istore (lv' := [(4, .int (nI (eu (lwN lf)))), (0, .ref xe), (1, .int (nI (lf))), (2, .int (nI (fr))), (3, .int (nI (n + 1)))]) hx hb dX1_canCover_33 hl (by decide) rfl (fun ls hl => ?_)
      refine lv_iload_n hx hb dX1_canCover_35 rfl (lv_at hl 3 rfl) ?_
      refine lv_istore (lv' := [(5, .int (nI (fr))), (4, .int (nI (eu (lwN lf)))), (0, .ref xe), (1, .int (nI (lf))), (2, .int (nI (fr))), (3, .int (nI (n + 1)))]) hx hb dX1_canCover_36 hl (by decide) rfl (fun ls hl => ?_)
      have loop_38 : ∀ (N : Nat) (t : Nat), (fr ≤ t) → (t ≤ 24) → (∀ t2, fr ≤ t2 → t2 < t → (Nat.testBit (eu (lwN lf)) t2 && cvB (hsE eu) ec (24 - fr) (rmB (hsE eu) (fun k_ => Nat.testBit lf k_) t2) fr n) = false) → (24 - t) < N → ∀ (H : Heap) (locs : List Loc), va_P D vwCl [eO xe oq ec, (oq 0, .inl (cI, 12, .inl (fun z_ => nI (eu z_)))), (oq 1, .inl (cI, 24, .inl (fun z_ => nI (cv z_))))] H → va_D A [eO xe oq ec, (oq 0, .inl (cI, 12, .inl (fun z_ => nI (eu z_)))), (oq 1, .inl (cI, 24, .inl (fun z_ => nI (cv z_))))] → va_S A s.heap H locs → ∀ ls : Array Slot, lv_has ls 6 [(5, .int (nI (t))), (4, .int (nI (eu (lwN lf)))), (0, .ref xe), (1, .int (nI (lf))), (2, .int (nI (fr))), (3, .int (nI (n + 1)))] → W p l e (rmL (n + 3)) s m args below meth c H locs 0 0 Qf (F0 m 38 ls []) := by
        intro N; induction N with
        | zero => intro t _ _ _ hm; omega
        | succ N ih_38 =>
          intro t ht1 ht2 hno hm H locs hP hD hS ls hl
          refine lv_iload hx hb dX1_canCover_38 (lv_at hl 0 rfl) ?_
          refine lv_bipush (v := nI 24) hx hb dX1_canCover_40 (by decide) ?_
          refine n_icmp_ge (tgt := 87) hx hb dX1_canCover_42 (by decide) (by omega) (by decide) (fun c_9 => ?_) (fun c_9 => ?_)
          · -- 42 to 87
            refine lv_iconst (v := nI 0) hx hb dX1_canCover_87 (by decide) ?_
            refine hret hP hD hS dX1_canCover_88 (by decide) rfl ?_
            exact ⟨congrArg nI (b2n_e0 (cc_no hle_q hlw_q.1 hfr (fun t2 h8 h9 => hno t2 h8 (by omega)))), rfl⟩
          · -- 42 to 45
            refine lv_iload hx hb dX1_canCover_45 (lv_at hl 1 rfl) ?_
            refine lv_iload hx hb dX1_canCover_47 (lv_at hl 0 rfl) ?_
            refine n_ishr hx hb dX1_canCover_49 (by omega) (by omega) ?_
            refine lv_iconst (v := nI 1) hx hb dX1_canCover_50 (by decide) ?_
            refine n_iand hx hb dX1_canCover_51  ?_
            refine n_if_eq (tgt := 81) hx hb dX1_canCover_52 (by decide) (by have := Nat.and_le_right (n := eu (lwN lf) / 2 ^ t) (m := 1); omega) (fun c_10 => ?_) (fun c_10 => ?_)
            · -- 52 to 81
              have hbt_q : Nat.testBit (eu (lwN lf)) t = false := bit_0 c_10
              refine lv_iinc (v := nI (t + 1)) (lv' := [(5, .int (nI (t + 1))), (4, .int (nI (eu (lwN lf)))), (0, .ref xe), (1, .int (nI (lf))), (2, .int (nI (fr))), (3, .int (nI (n + 1)))]) hx hb dX1_canCover_81 hl (k := 0) rfl (n_inc _ 1) (by decide) rfl (fun ls hl => ?_)
              refine lv_goto (tgt := 38) hx hb dX1_canCover_84 (by decide) ?_
              exact ih_38 (t + 1) (by omega) (by omega) (by first | exact cc_s hno (by rw [hbt_q]; rfl) | exact cc_s hno (by rw [hbt_q, cc_rm (hcv t (by omega)) hsub, hcc_q]; rfl)) (by omega) _ _ hP hD hS _ (lv_sub hl [0, 1, 2, 3, 4, 5] rfl)
            · -- 52 to 55
              have hbt_q : Nat.testBit (eu (lwN lf)) t = true := bit_1 c_10
              refine lv_aload_n hx hb dX1_canCover_55 rfl (lv_at hl 2 rfl) ?_
              refine lv_iload_n hx hb dX1_canCover_56 rfl (lv_at hl 3 rfl) ?_
              refine lv_aload_n hx hb dX1_canCover_57 rfl (lv_at hl 2 rfl) ?_
              refine gf_1_15 hx hb hts hown hK hP 0 rfl rfl dX1_canCover_58 ?_
              refine lv_iload hx hb dX1_canCover_61 (lv_at hl 0 rfl) ?_
              refine cl_1_33 (As := [.ref (oq 1), .int (nI (t))]) (rest := [.int (nI (lf)), .ref xe]) hx hb hml hts hown (k_X6_at (by first | assumption | omega) (by first | assumption | omega)) (by simp only [rmL]; omega) ⟨Nat.zero_le _, Nat.zero_le _⟩ hK hP hD hS hA [2] rfl (by decide) rfl hl.1 rfl (Nat.le_of_ble_eq_true rfl) dX1_canCover_63 (fun r_11 u H locs hp_12 hP hD hS => ?_)
              obtain ⟨rfl, rfl⟩ := hp_12
              have hP : va_P D vwCl [eO xe oq ec, (oq 0, .inl (cI, 12, .inl (fun z_ => nI (eu z_)))), (oq 1, .inl (cI, 24, .inl (fun z_ => nI (cv z_))))] _ := hP
              have hD : va_D A [eO xe oq ec, (oq 0, .inl (cI, 12, .inl (fun z_ => nI (eu z_)))), (oq 1, .inl (cI, 24, .inl (fun z_ => nI (cv z_))))] := hD
              refine lv_iconst (v := (-1)) hx hb dX1_canCover_66 (by decide) ?_
              refine lv_ixor hx hb dX1_canCover_67 ?_
              refine lv_iand hx hb dX1_canCover_68 ?_
              rw [andn_e]
              refine lv_iload_n hx hb dX1_canCover_69 rfl (lv_at hl 4 rfl) ?_
              refine lv_iload_n hx hb dX1_canCover_70 rfl (lv_at hl 5 rfl) ?_
              refine lv_iconst (v := nI 1) hx hb dX1_canCover_71 (by decide) ?_
              refine n_isub hx hb dX1_canCover_72 (by omega) ?_
              refine cl_1_57 (As := [.ref xe, .int (nI (anN lf (cv t))), .int (nI (fr)), .int (nI ((n + 1) - 1))]) (rest := []) hx hb hml hts hown (ihc _ (an_lt (n := 12) _ hlf) (fun k hk => hsub k (an_su hk))) (by simp only [rmL]; omega) ⟨Nat.zero_le _, Nat.zero_le _⟩ hK hP hD hS hA [0, 1, 2] rfl (by decide) rfl hl.1 rfl (Nat.le_of_ble_eq_true rfl) dX1_canCover_73 (fun r_13 u H locs hp_14 hP hD hS => ?_)
              obtain ⟨rfl, rfl⟩ := hp_14
              have hP : va_P D vwCl [eO xe oq ec, (oq 0, .inl (cI, 12, .inl (fun z_ => nI (eu z_)))), (oq 1, .inl (cI, 24, .inl (fun z_ => nI (cv z_))))] _ := hP
              have hD : va_D A [eO xe oq ec, (oq 0, .inl (cI, 12, .inl (fun z_ => nI (eu z_)))), (oq 1, .inl (cI, 24, .inl (fun z_ => nI (cv z_))))] := hD
              refine n_ifb_eq (tgt := 81) hx hb dX1_canCover_76 (by decide) (fun c_15 => ?_) (fun c_15 => ?_)
              · -- 76 to 81
                have hcc_q := c_15
                refine lv_iinc (v := nI (t + 1)) (lv' := [(5, .int (nI (t + 1))), (4, .int (nI (eu (lwN lf)))), (0, .ref xe), (1, .int (nI (lf))), (2, .int (nI (fr))), (3, .int (nI (n + 1)))]) hx hb dX1_canCover_81 hl (k := 0) rfl (n_inc _ 1) (by decide) rfl (fun ls hl => ?_)
                refine lv_goto (tgt := 38) hx hb dX1_canCover_84 (by decide) ?_
                exact ih_38 (t + 1) (by omega) (by omega) (by first | exact cc_s hno (by rw [hbt_q]; rfl) | exact cc_s hno (by rw [hbt_q, cc_rm (hcv t (by omega)) hsub, hcc_q]; rfl)) (by omega) _ _ hP hD hS _ (lv_sub hl [0, 1, 2, 3, 4, 5] rfl)
              · -- 76 to 79
                have hcc_q := c_15
                refine lv_iconst (v := nI 1) hx hb dX1_canCover_79 (by decide) ?_
                refine hret hP hD hS dX1_canCover_80 (by decide) rfl ?_
                exact ⟨congrArg nI (b2n_e1 (cv_in _ _ _ _ t ht1 (by omega) (by rw [cc_rm (hcv t (by omega)) hsub]; exact hcc_q))), rfl⟩
      exact loop_38 _ fr (by omega) (by omega) (fun t2 h8 h9 => absurd h9 (by omega)) (Nat.lt_succ_self _) _ _ hP hD hS _ (lv_sub hl [0, 1, 2, 3, 4, 5] rfl)
    · omega
theorem k_X1_canCover {l : Launch} {D : va_G} {cI cC cB : ClassId} {xe ec : Nat} {oq : Nat → Nat} {eu cv : Nat → Nat} {lf fr n : Nat} (hec : ec ≤ 12) (heu : ∀ i, i < ec → eu i < 16777216) (hcv : ∀ s, s < 24 → cv s = hvN eu s ec) (hfr : fr ≤ 24) (hlf : lf < 4096) (hsub : ∀ k, Nat.testBit lf k = true → k < ec) (hn9 : n ≤ 100) : MI l yX1_canCover cX1_canCover 6 (some .boolean) (n + 2) D (Ty3 cI cC cB) [.ref xe, .int (nI (lf)), .int (nI (fr)), .int (nI (n))] [eO xe oq ec, (oq 0, .inl (cI, 12, .inl (fun z_ => nI (eu z_)))), (oq 1, .inl (cI, 24, .inl (fun z_ => nI (cv z_))))] (fun r u => (r = nI (b2n (cvB (hsE eu) ec (24 - fr) (fun k_ => Nat.testBit lf k_) fr n)) ∧ u = [eO xe oq ec, (oq 0, .inl (cI, 12, .inl (fun z_ => nI (eu z_)))), (oq 1, .inl (cI, 24, .inl (fun z_ => nI (cv z_))))])) := by
  induction n generalizing lf with
  | zero => exact k_X1_canCover0 hec heu hcv hfr hlf hsub
  | succ n ih => exact k_X1_canCoverS hec heu hcv hfr hlf hsub (by omega) (fun lf2 h1 h2 => ih h1 h2 (by omega))

set_option maxHeartbeats 4000000 in
set_option maxRecDepth 100000 in
theorem k_X1_fewestTeeth {l : Launch} {D : va_G} {cI cC cB : ClassId} {xe ec : Nat} {oq : Nat → Nat} {eu cv : Nat → Nat} {bx nw tu : Nat → Nat} {y F : Nat}  (hB : BxOk bx) (hN : HdOk bx nw) (hE : EaR bx nw y eu cv ec) (hT : IsT bx nw y F tu) (hF : F ≤ 6) : MI l yX1_fewestTeeth cX1_fewestTeeth 2 (some .int) 12 D (Ty3 cI cC cB) [.ref xe] [eO xe oq ec, (oq 0, .inl (cI, 12, .inl (fun z_ => nI (eu z_)))), (oq 1, .inl (cI, 24, .inl (fun z_ => nI (cv z_))))] (fun r u => (r = nI (F) ∧ u = [eO xe oq ec, (oq 0, .inl (cI, 12, .inl (fun z_ => nI (eu z_)))), (oq 1, .inl (cI, 24, .inl (fun z_ => nI (cv z_))))])) := by
  intro sz
  refine MI.walk (by decide +kernel) (Nat.le_of_ble_eq_true rfl) ?_
  intro p e s m args below meth c A Qf hx hb hml hts hown hret hK hP hD hS hA ls hl
  have hown : s.vm.findClass RX1 = some m.cls := hown
  have hl : lv_has ls 2 [(0, .ref xe)] := hl
  have hP : va_P D vwCl [eO xe oq ec, (oq 0, .inl (cI, 12, .inl (fun z_ => nI (eu z_)))), (oq 1, .inl (cI, 24, .inl (fun z_ => nI (cv z_))))] s.heap := hP
  have hD : va_D A [eO xe oq ec, (oq 0, .inl (cI, 12, .inl (fun z_ => nI (eu z_)))), (oq 1, .inl (cI, 24, .inl (fun z_ => nI (cv z_))))] := hD
  have hec_q := ear_c hN hE
  have heu_q := ear_b hB hE
  have htF_q := ear_t hB hE hT
  refine lv_iconst (v := nI 0) hx hb dX1_fewestTeeth_0 (by decide) ?_
  refine lv_istore_n (lv' := [(1, .int (nI (0))), (0, .ref xe)]) hx hb dX1_fewestTeeth_1 rfl hl (by decide) rfl (fun ls hl => ?_)
  have loop_2 : ∀ (N : Nat) (n : Nat), (n ≤ F) → (F - n) < N → ∀ (H : Heap) (locs : List Loc), va_P D vwCl [eO xe oq ec, (oq 0, .inl (cI, 12, .inl (fun z_ => nI (eu z_)))), (oq 1, .inl (cI, 24, .inl (fun z_ => nI (cv z_))))] H → va_D A [eO xe oq ec, (oq 0, .inl (cI, 12, .inl (fun z_ => nI (eu z_)))), (oq 1, .inl (cI, 24, .inl (fun z_ => nI (cv z_))))] → va_S A s.heap H locs → ∀ ls : Array Slot, lv_has ls 2 [(1, .int (nI (n))), (0, .ref xe)] → W p l e (rmL 12) s m args below meth c H locs 0 0 Qf (F0 m 2 ls []) := by
    intro N; induction N with
    | zero => intro n _ hm; omega
    | succ N ih_2 =>
      intro n hn hm H locs hP hD hS ls hl
      refine lv_iload_n hx hb dX1_fewestTeeth_2 rfl (lv_at hl 0 rfl) ?_
      refine lv_bipush (v := nI 8) hx hb dX1_fewestTeeth_3 (by decide) ?_
      refine n_icmp_ge (tgt := 27) hx hb dX1_fewestTeeth_5 (by decide) (by omega) (by decide) (fun c_1 => ?_) (fun c_1 => ?_)
      · omega
      · -- 5 to 8
        refine lv_aload_n hx hb dX1_fewestTeeth_8 rfl (lv_at hl 1 rfl) ?_
        refine lv_aload_n hx hb dX1_fewestTeeth_9 rfl (lv_at hl 1 rfl) ?_
        refine cl_1_53 (As := []) (rest := [.ref xe]) hx hb hml hts hown (k_X1_allHeard (by first | assumption | omega)) (by simp only [rmL]; omega) ⟨Nat.zero_le _, Nat.zero_le _⟩ hK hP hD hS hA 0 rfl [0] rfl (by decide) rfl hl.1 rfl (Nat.le_of_ble_eq_true rfl) dX1_fewestTeeth_10 (fun r_2 u H locs hp_3 hP hD hS => ?_)
        obtain ⟨rfl, rfl⟩ := hp_3
        have hP : va_P D vwCl [eO xe oq ec, (oq 0, .inl (cI, 12, .inl (fun z_ => nI (eu z_)))), (oq 1, .inl (cI, 24, .inl (fun z_ => nI (cv z_))))] _ := hP
        have hD : va_D A [eO xe oq ec, (oq 0, .inl (cI, 12, .inl (fun z_ => nI (eu z_)))), (oq 1, .inl (cI, 24, .inl (fun z_ => nI (cv z_))))] := hD
        have ha_q := all_l hec_q
        have has_q := all_s (c := ec)
        refine lv_iconst (v := nI 0) hx hb dX1_fewestTeeth_13 (by decide) ?_
        refine lv_iload_n hx hb dX1_fewestTeeth_14 rfl (lv_at hl 0 rfl) ?_
        refine cl_1_57 (As := [.ref xe, .int (nI (1 * 2 ^ ec - 1)), .int (nI (0)), .int (nI (n))]) (rest := []) hx hb hml hts hown (k_X1_canCover hec_q heu_q hE.2.2 (by omega) ha_q has_q (by omega)) (by simp only [rmL]; omega) ⟨Nat.zero_le _, Nat.zero_le _⟩ hK hP hD hS hA [0, 1, 2] rfl (by decide) rfl hl.1 rfl (Nat.le_of_ble_eq_true rfl) dX1_fewestTeeth_15 (fun r_4 u H locs hp_5 hP hD hS => ?_)
        obtain ⟨rfl, rfl⟩ := hp_5
        have hP : va_P D vwCl [eO xe oq ec, (oq 0, .inl (cI, 12, .inl (fun z_ => nI (eu z_)))), (oq 1, .inl (cI, 24, .inl (fun z_ => nI (cv z_))))] _ := hP
        have hD : va_D A [eO xe oq ec, (oq 0, .inl (cI, 12, .inl (fun z_ => nI (eu z_)))), (oq 1, .inl (cI, 24, .inl (fun z_ => nI (cv z_))))] := hD
        refine n_ifb_ne (tgt := 27) hx hb dX1_fewestTeeth_18 (by decide) (fun c_6 => ?_) (fun c_6 => ?_)
        · -- 18 to 27
          have hcc_q := c_6
          refine lv_iload_n hx hb dX1_fewestTeeth_27 rfl (lv_at hl 0 rfl) ?_
          refine hret hP hD hS dX1_fewestTeeth_28 rfl rfl ?_
          exact ⟨congrArg nI (by first | omega | exact few_eq hB hE htF_q hn (by assumption)), rfl⟩
        · -- 18 to 21
          have hcc_q := c_6
          refine lv_iinc (v := nI (n + 1)) (lv' := [(1, .int (nI (n + 1))), (0, .ref xe)]) hx hb dX1_fewestTeeth_21 hl (k := 0) rfl (n_inc _ 1) (by decide) rfl (fun ls hl => ?_)
          refine lv_goto (tgt := 2) hx hb dX1_fewestTeeth_24 (by decide) ?_
          exact ih_2 (n + 1) (few_lt hB hE htF_q hn hcc_q) (by have := few_lt hB hE htF_q hn hcc_q; omega) _ _ hP hD hS _ (lv_sub hl [0, 1] rfl)
  exact loop_2 _ 0 (by omega) (Nat.lt_succ_self _) _ _ hP hD hS _ (lv_sub hl [0, 1] rfl)
set_option maxHeartbeats 4000000 in
set_option maxRecDepth 100000 in
theorem k_X1_slotOfFewest {l : Launch} {D : va_G} {cI cC cB : ClassId} {xe ec : Nat} {oq : Nat → Nat} {eu cv : Nat → Nat} {bx nw tu : Nat → Nat} {y F : Nat} {k : Nat}  (hB : BxOk bx) (hN : HdOk bx nw) (hE : EaR bx nw y eu cv ec) (hT : IsT bx nw y F tu) (hF : F ≤ 6) (hk : k < F) : MI l yX1_slotOfFewest cX1_slotOfFewest 7 (some .int) 12 D (Ty3 cI cC cB) [.ref xe, .int (nI (F)), .int (nI (k))] [eO xe oq ec, (oq 0, .inl (cI, 12, .inl (fun z_ => nI (eu z_)))), (oq 1, .inl (cI, 24, .inl (fun z_ => nI (cv z_))))] (fun r u => (r = nI (slP bx (tu k)) ∧ u = [eO xe oq ec, (oq 0, .inl (cI, 12, .inl (fun z_ => nI (eu z_)))), (oq 1, .inl (cI, 24, .inl (fun z_ => nI (cv z_))))])) := by
  intro sz
  refine MI.walk (by decide +kernel) (Nat.le_of_ble_eq_true rfl) ?_
  intro p e s m args below meth c A Qf hx hb hml hts hown hret hK hP hD hS hA ls hl
  have hown : s.vm.findClass RX1 = some m.cls := hown
  have hl : lv_has ls 7 [(0, .ref xe), (1, .int (nI (F))), (2, .int (nI (k)))] := hl
  have hP : va_P D vwCl [eO xe oq ec, (oq 0, .inl (cI, 12, .inl (fun z_ => nI (eu z_)))), (oq 1, .inl (cI, 24, .inl (fun z_ => nI (cv z_))))] s.heap := hP
  have hD : va_D A [eO xe oq ec, (oq 0, .inl (cI, 12, .inl (fun z_ => nI (eu z_)))), (oq 1, .inl (cI, 24, .inl (fun z_ => nI (cv z_))))] := hD
  have hec_q := ear_c hN hE
  have heu_q := ear_b hB hE
  have htF_q := ear_t hB hE hT
  refine lv_aload_n hx hb dX1_slotOfFewest_0 rfl (lv_at hl 0 rfl) ?_
  refine cl_1_53 (As := []) (rest := []) hx hb hml hts hown (k_X1_allHeard (by first | assumption | omega)) (by simp only [rmL]; omega) ⟨Nat.zero_le _, Nat.zero_le _⟩ hK hP hD hS hA 0 rfl [0] rfl (by decide) rfl hl.1 rfl (Nat.le_of_ble_eq_true rfl) dX1_slotOfFewest_1 (fun r_1 u H locs hp_2 hP hD hS => ?_)
  obtain ⟨rfl, rfl⟩ := hp_2
  have hP : va_P D vwCl [eO xe oq ec, (oq 0, .inl (cI, 12, .inl (fun z_ => nI (eu z_)))), (oq 1, .inl (cI, 24, .inl (fun z_ => nI (cv z_))))] _ := hP
  have hD : va_D A [eO xe oq ec, (oq 0, .inl (cI, 12, .inl (fun z_ => nI (eu z_)))), (oq 1, .inl (cI, 24, .inl (fun z_ => nI (cv z_))))] := hD
  have ha_q := all_l hec_q
  have has_q := all_s (c := ec)
  refine lv_istore_n (lv' := [(3, .int (nI (1 * 2 ^ ec - 1))), (0, .ref xe), (1, .int (nI (F))), (2, .int (nI (k)))]) hx hb dX1_slotOfFewest_4 rfl hl (by decide) rfl (fun ls hl => ?_)
  refine lv_iconst (v := nI 0) hx hb dX1_slotOfFewest_5 (by decide) ?_
  refine lv_istore (lv' := [(4, .int (nI (0))), (3, .int (nI (1 * 2 ^ ec - 1))), (0, .ref xe), (1, .int (nI (F))), (2, .int (nI (k)))]) hx hb dX1_slotOfFewest_6 hl (by decide) rfl (fun ls hl => ?_)
  refine lv_iconst (v := nI 0) hx hb dX1_slotOfFewest_8 (by decide) ?_
  refine lv_istore (lv' := [(5, .int (nI (0))), (4, .int (nI (0))), (3, .int (nI (1 * 2 ^ ec - 1))), (0, .ref xe), (1, .int (nI (F))), (2, .int (nI (k)))]) hx hb dX1_slotOfFewest_9 hl (by decide) rfl (fun ls hl => ?_)
  have loop_11 : ∀ (N : Nat) (lf : Nat) (j : Nat) (t : Nat), (j ≤ k) → (t ≤ 24) → (lf < 4096) → (∀ k, Nat.testBit lf k = true → k < ec) → ((fun k_ => Nat.testBit lf k_) = lfB (fun i_ j_ => hsE eu i_ (slP bx j_)) (fun i_ => decide (i_ < ec)) tu j) → (∀ i, i < j → tu i < cnP (rlB bx) t) → (cnP (rlB bx) t ≤ tu j) → (24 - t) < N → ∀ (H : Heap) (locs : List Loc), va_P D vwCl [eO xe oq ec, (oq 0, .inl (cI, 12, .inl (fun z_ => nI (eu z_)))), (oq 1, .inl (cI, 24, .inl (fun z_ => nI (cv z_))))] H → va_D A [eO xe oq ec, (oq 0, .inl (cI, 12, .inl (fun z_ => nI (eu z_)))), (oq 1, .inl (cI, 24, .inl (fun z_ => nI (cv z_))))] → va_S A s.heap H locs → ∀ ls : Array Slot, lv_has ls 7 [(5, .int (nI (t))), (4, .int (nI (j))), (3, .int (nI (lf))), (0, .ref xe), (1, .int (nI (F))), (2, .int (nI (k)))] → W p l e (rmL 12) s m args below meth c H locs 0 0 Qf (F0 m 11 ls []) := by
    intro N; induction N with
    | zero => intro lf j t _ _ _ _ _ _ _ hm; omega
    | succ N ih_11 =>
      intro lf j t hj ht hl1 hls hlf_q ha2 hb2 hm H locs hP hD hS ls hl
      refine lv_iload hx hb dX1_slotOfFewest_11 (lv_at hl 0 rfl) ?_
      refine lv_bipush (v := nI 24) hx hb dX1_slotOfFewest_13 (by decide) ?_
      refine n_icmp_ge (tgt := 73) hx hb dX1_slotOfFewest_15 (by decide) (by omega) (by decide) (fun c_3 => ?_) (fun c_3 => ?_)
      · -- 15 to 73
        refine lv_iconst (v := nI 0) hx hb dX1_slotOfFewest_73 (by decide) ?_
        refine hret hP hD hS dX1_slotOfFewest_74 rfl rfl ?_
        exact absurd hb2 (by rw [show t = 24 by omega]; have := htF_q.1.2 j (by omega); exact Nat.not_le.mpr this)
      · -- 15 to 18
        refine lv_iload_n hx hb dX1_slotOfFewest_18 rfl (lv_at hl 2 rfl) ?_
        refine lv_aload_n hx hb dX1_slotOfFewest_19 rfl (lv_at hl 3 rfl) ?_
        refine gf_1_15 hx hb hts hown hK hP 0 rfl rfl dX1_slotOfFewest_20 ?_
        refine lv_iload hx hb dX1_slotOfFewest_23 (lv_at hl 0 rfl) ?_
        refine cl_1_33 (As := [.ref (oq 1), .int (nI (t))]) (rest := [.int (nI (lf))]) hx hb hml hts hown (k_X6_at (by first | assumption | omega) (by first | assumption | omega)) (by simp only [rmL]; omega) ⟨Nat.zero_le _, Nat.zero_le _⟩ hK hP hD hS hA [2] rfl (by decide) rfl hl.1 rfl (Nat.le_of_ble_eq_true rfl) dX1_slotOfFewest_25 (fun r_4 u H locs hp_5 hP hD hS => ?_)
        obtain ⟨rfl, rfl⟩ := hp_5
        have hP : va_P D vwCl [eO xe oq ec, (oq 0, .inl (cI, 12, .inl (fun z_ => nI (eu z_)))), (oq 1, .inl (cI, 24, .inl (fun z_ => nI (cv z_))))] _ := hP
        have hD : va_D A [eO xe oq ec, (oq 0, .inl (cI, 12, .inl (fun z_ => nI (eu z_)))), (oq 1, .inl (cI, 24, .inl (fun z_ => nI (cv z_))))] := hD
        refine lv_iconst (v := (-1)) hx hb dX1_slotOfFewest_28 (by decide) ?_
        refine lv_ixor hx hb dX1_slotOfFewest_29 ?_
        refine lv_iand hx hb dX1_slotOfFewest_30 ?_
        rw [andn_e]
        refine lv_istore (lv' := [(6, .int (nI (anN lf (cv t)))), (5, .int (nI (t))), (4, .int (nI (j))), (3, .int (nI (lf))), (0, .ref xe), (1, .int (nI (F))), (2, .int (nI (k)))]) hx hb dX1_slotOfFewest_31 hl (by decide) rfl (fun ls hl => ?_)
        refine lv_aload_n hx hb dX1_slotOfFewest_33 rfl (lv_at hl 4 rfl) ?_
        refine lv_iload hx hb dX1_slotOfFewest_34 (lv_at hl 0 rfl) ?_
        refine lv_iload hx hb dX1_slotOfFewest_36 (lv_at hl 1 rfl) ?_
        refine lv_iconst (v := nI 1) hx hb dX1_slotOfFewest_38 (by decide) ?_
        refine n_iadd hx hb dX1_slotOfFewest_39  ?_
        refine lv_iload_n hx hb dX1_slotOfFewest_40 rfl (lv_at hl 5 rfl) ?_
        refine lv_iload hx hb dX1_slotOfFewest_41 (lv_at hl 2 rfl) ?_
        refine n_isub hx hb dX1_slotOfFewest_43 (by omega) ?_
        refine lv_iconst (v := nI 1) hx hb dX1_slotOfFewest_44 (by decide) ?_
        refine n_isub hx hb dX1_slotOfFewest_45 (by omega) ?_
        refine cl_1_57 (As := [.ref xe, .int (nI (anN lf (cv t))), .int (nI (t + 1)), .int (nI ((F - j) - 1))]) (rest := []) hx hb hml hts hown (k_X1_canCover hec_q heu_q hE.2.2 (by omega) (an_lt (n := 12) _ hl1) (fun k hk => hls k (an_su hk)) (by omega)) (by simp only [rmL]; omega) ⟨Nat.zero_le _, Nat.zero_le _⟩ hK hP hD hS hA [0, 1, 2] rfl (by decide) rfl hl.1 rfl (Nat.le_of_ble_eq_true rfl) dX1_slotOfFewest_46 (fun r_6 u H locs hp_7 hP hD hS => ?_)
        obtain ⟨rfl, rfl⟩ := hp_7
        have hP : va_P D vwCl [eO xe oq ec, (oq 0, .inl (cI, 12, .inl (fun z_ => nI (eu z_)))), (oq 1, .inl (cI, 24, .inl (fun z_ => nI (cv z_))))] _ := hP
        have hD : va_D A [eO xe oq ec, (oq 0, .inl (cI, 12, .inl (fun z_ => nI (eu z_)))), (oq 1, .inl (cI, 24, .inl (fun z_ => nI (cv z_))))] := hD
        refine n_ifb_eq (tgt := 67) hx hb dX1_slotOfFewest_49 (by decide) (fun c_8 => ?_) (fun c_8 => ?_)
        · -- 49 to 67
          have hcc_q := slo_0 hB hE htF_q (by omega) (by omega) hls hlf_q ha2 hb2 c_8
          refine lv_iinc (v := nI (t + 1)) (lv' := [(5, .int (nI (t + 1))), (6, .int (nI (anN lf (cv t)))), (4, .int (nI (j))), (3, .int (nI (lf))), (0, .ref xe), (1, .int (nI (F))), (2, .int (nI (k)))]) hx hb dX1_slotOfFewest_67 hl (k := 1) rfl (n_inc _ 1) (by decide) rfl (fun ls hl => ?_)
          refine lv_goto (tgt := 11) hx hb dX1_slotOfFewest_70 (by decide) ?_
          exact ih_11 lf j (t + 1) (by omega) (by omega) (by first | exact hl1 | exact an_lt (n := 12) _ hl1) (by first | exact hls | exact fun k hk => hls k (an_su hk)) (by first | exact hlf_q | exact slo_lf hlf_q hcc_q (hE.2.2 t (by omega)) hls) (by first | exact slo_a0 ha2 | exact slo_a1 ha2 hcc_q) (by first | exact hcc_q | exact slo_b hcc_q htF_q (by omega)) (by omega) _ _ hP hD hS _ (lv_sub hl [0, 2, 3, 4, 5, 6] rfl)
        · -- 49 to 52
          have hcc_q := slo_1 hB hE htF_q (by omega) (by omega) hls hlf_q ha2 hb2 c_8
          refine lv_iload hx hb dX1_slotOfFewest_52 (lv_at hl 2 rfl) ?_
          refine lv_iload_n hx hb dX1_slotOfFewest_54 rfl (lv_at hl 6 rfl) ?_
          refine n_icmp_ne (tgt := 61) hx hb dX1_slotOfFewest_55 (by decide) (by omega) (by omega) (fun c_9 => ?_) (fun c_9 => ?_)
          · -- 55 to 61
            refine lv_iload hx hb dX1_slotOfFewest_61 (lv_at hl 0 rfl) ?_
            refine lv_istore_n (lv' := [(3, .int (nI (anN lf (cv t)))), (6, .int (nI (anN lf (cv t)))), (5, .int (nI (t))), (4, .int (nI (j))), (0, .ref xe), (1, .int (nI (F))), (2, .int (nI (k)))]) hx hb dX1_slotOfFewest_63 rfl hl (by decide) rfl (fun ls hl => ?_)
            refine lv_iinc (v := nI (j + 1)) (lv' := [(4, .int (nI (j + 1))), (3, .int (nI (anN lf (cv t)))), (6, .int (nI (anN lf (cv t)))), (5, .int (nI (t))), (0, .ref xe), (1, .int (nI (F))), (2, .int (nI (k)))]) hx hb dX1_slotOfFewest_64 hl (k := 3) rfl (n_inc _ 1) (by decide) rfl (fun ls hl => ?_)
            refine lv_iinc (v := nI (t + 1)) (lv' := [(5, .int (nI (t + 1))), (4, .int (nI (j + 1))), (3, .int (nI (anN lf (cv t)))), (6, .int (nI (anN lf (cv t)))), (0, .ref xe), (1, .int (nI (F))), (2, .int (nI (k)))]) hx hb dX1_slotOfFewest_67 hl (k := 3) rfl (n_inc _ 1) (by decide) rfl (fun ls hl => ?_)
            refine lv_goto (tgt := 11) hx hb dX1_slotOfFewest_70 (by decide) ?_
            exact ih_11 (anN lf (cv t)) (j + 1) (t + 1) (by omega) (by omega) (by first | exact hl1 | exact an_lt (n := 12) _ hl1) (by first | exact hls | exact fun k hk => hls k (an_su hk)) (by first | exact hlf_q | exact slo_lf hlf_q hcc_q (hE.2.2 t (by omega)) hls) (by first | exact slo_a0 ha2 | exact slo_a1 ha2 hcc_q) (by first | exact hcc_q | exact slo_b hcc_q htF_q (by omega)) (by omega) _ _ hP hD hS _ (lv_sub hl [0, 1, 2, 4, 5, 6] rfl)
          · -- 55 to 58
            refine lv_iload hx hb dX1_slotOfFewest_58 (lv_at hl 1 rfl) ?_
            refine hret hP hD hS dX1_slotOfFewest_60 rfl rfl ?_
            exact ⟨congrArg nI (by rw [show k = j by omega]; exact hcc_q.2.2.symm), rfl⟩
  exact loop_11 _ (1 * 2 ^ ec - 1) 0 0 (by omega) (by omega) ha_q has_q (all_f _) (fun i hi => absurd hi (Nat.not_lt_zero i)) (Nat.zero_le _) (Nat.lt_succ_self _) _ _ hP hD hS _ (lv_sub hl [0, 1, 2, 3, 4, 5] rfl)
set_option maxHeartbeats 4000000 in
set_option maxRecDepth 100000 in
theorem k_X6_teeth {l : Launch} {D : va_G} {cI cC cB : ClassId} {o xt xg xu xk xd xf : Nat} {xe ec : Nat} {oq : Nat → Nat} {eu cv : Nat → Nat} {a : Nat} {pq : Nat → Nat} {bx te ps pu sd cj ta : Nat → Nat} {b : Nat} {bq : Nat → Nat} {nw up st ex tl he dy se : Nat → Nat} {fi : Nat} {tu : Nat → Nat} {F : Nat} {x w : Int32}  (hR : PlR bx te ps pu sd cj ta) (hX : BoR bx nw up st ex tl he dy se fi) (hT : inN x (bx 1) = true → IsT bx nw (ix x) F tu) (hF : F ≤ 6) : MI l yX6_teeth cX6_teeth 5 (some .int) 13 D (Ty3 cI cC cB) [.ref o, .int (x), .int (w)] [(o, .inr (6, [.ref xt, .ref xg, .ref xu, .ref xk, .ref b, .ref xd, .ref xe, .ref a, .ref xf])), eO xe oq ec, (oq 0, .inl (cI, 12, .inl (fun z_ => nI (eu z_)))), (oq 1, .inl (cI, 24, .inl (fun z_ => nI (cv z_)))), bO b bq fi (nw 2) (nw 0) (nw 1), (bq 0, .inl (cI, 4, .inl (fun z_ => nI (up z_)))), (bq 1, .inl (cI, 4, .inl (fun z_ => nI (st z_)))), (bq 2, .inl (cI, 12, .inl (fun z_ => nI (ex z_)))), (bq 3, .inl (cI, 12, .inl (fun z_ => nI (tl z_)))), (bq 4, .inl (cI, 12, .inl (fun z_ => nI (he z_)))), (bq 5, .inl (cI, 12, .inl (fun z_ => nI (dy z_)))), (bq 6, .inl (cI, 12, .inl (fun z_ => nI (se z_)))), pO a pq (bx 0) (bx 2) (bx 1) (szN bx (bx 0)) (bx 3) (bx 4), (pq 0, .inl (cI, 4, .inl (fun z_ => nI (te z_)))), (pq 1, .inl (cI, 4, .inl (fun z_ => nI (ps z_)))), (pq 2, .inl (cI, 4, .inl (fun z_ => nI (pu z_)))), (pq 3, .inl (cI, 4, .inl (fun z_ => nI (sd z_)))), (pq 4, .inl (cI, 8, .inl (fun z_ => nI (cj z_)))), (pq 5, .inl (cI, 5, .inl (fun z_ => nI (ta z_))))] (fun r u => (∃ e2 : Nat, ∃ eu2 : Nat → Nat, ∃ cv2 : Nat → Nat, r = teA bx F tu x w ∧ u = [(o, .inr (6, [.ref xt, .ref xg, .ref xu, .ref xk, .ref b, .ref xd, .ref xe, .ref a, .ref xf])), eO xe oq e2, (oq 0, .inl (cI, 12, .inl (fun z_ => nI (eu2 z_)))), (oq 1, .inl (cI, 24, .inl (fun z_ => nI (cv2 z_)))), bO b bq fi (nw 2) (nw 0) (nw 1), (bq 0, .inl (cI, 4, .inl (fun z_ => nI (up z_)))), (bq 1, .inl (cI, 4, .inl (fun z_ => nI (st z_)))), (bq 2, .inl (cI, 12, .inl (fun z_ => nI (ex z_)))), (bq 3, .inl (cI, 12, .inl (fun z_ => nI (tl z_)))), (bq 4, .inl (cI, 12, .inl (fun z_ => nI (he z_)))), (bq 5, .inl (cI, 12, .inl (fun z_ => nI (dy z_)))), (bq 6, .inl (cI, 12, .inl (fun z_ => nI (se z_)))), pO a pq (bx 0) (bx 2) (bx 1) (szN bx (bx 0)) (bx 3) (bx 4), (pq 0, .inl (cI, 4, .inl (fun z_ => nI (te z_)))), (pq 1, .inl (cI, 4, .inl (fun z_ => nI (ps z_)))), (pq 2, .inl (cI, 4, .inl (fun z_ => nI (pu z_)))), (pq 3, .inl (cI, 4, .inl (fun z_ => nI (sd z_)))), (pq 4, .inl (cI, 8, .inl (fun z_ => nI (cj z_)))), (pq 5, .inl (cI, 5, .inl (fun z_ => nI (ta z_))))])) := by
  intro sz
  refine MI.walk (by decide +kernel) (Nat.le_of_ble_eq_true rfl) ?_
  intro p e s m args below meth c A Qf hx hb hml hts hown hret hK hP hD hS hA ls hl
  have hown : s.vm.findClass RX6 = some m.cls := hown
  have hl : lv_has ls 5 [(0, .ref o), (1, .int (x)), (2, .int (w))] := hl
  have hP : va_P D vwCl [(o, .inr (6, [.ref xt, .ref xg, .ref xu, .ref xk, .ref b, .ref xd, .ref xe, .ref a, .ref xf])), eO xe oq ec, (oq 0, .inl (cI, 12, .inl (fun z_ => nI (eu z_)))), (oq 1, .inl (cI, 24, .inl (fun z_ => nI (cv z_)))), bO b bq fi (nw 2) (nw 0) (nw 1), (bq 0, .inl (cI, 4, .inl (fun z_ => nI (up z_)))), (bq 1, .inl (cI, 4, .inl (fun z_ => nI (st z_)))), (bq 2, .inl (cI, 12, .inl (fun z_ => nI (ex z_)))), (bq 3, .inl (cI, 12, .inl (fun z_ => nI (tl z_)))), (bq 4, .inl (cI, 12, .inl (fun z_ => nI (he z_)))), (bq 5, .inl (cI, 12, .inl (fun z_ => nI (dy z_)))), (bq 6, .inl (cI, 12, .inl (fun z_ => nI (se z_)))), pO a pq (bx 0) (bx 2) (bx 1) (szN bx (bx 0)) (bx 3) (bx 4), (pq 0, .inl (cI, 4, .inl (fun z_ => nI (te z_)))), (pq 1, .inl (cI, 4, .inl (fun z_ => nI (ps z_)))), (pq 2, .inl (cI, 4, .inl (fun z_ => nI (pu z_)))), (pq 3, .inl (cI, 4, .inl (fun z_ => nI (sd z_)))), (pq 4, .inl (cI, 8, .inl (fun z_ => nI (cj z_)))), (pq 5, .inl (cI, 5, .inl (fun z_ => nI (ta z_))))] s.heap := hP
  have hD : va_D A [(o, .inr (6, [.ref xt, .ref xg, .ref xu, .ref xk, .ref b, .ref xd, .ref xe, .ref a, .ref xf])), eO xe oq ec, (oq 0, .inl (cI, 12, .inl (fun z_ => nI (eu z_)))), (oq 1, .inl (cI, 24, .inl (fun z_ => nI (cv z_)))), bO b bq fi (nw 2) (nw 0) (nw 1), (bq 0, .inl (cI, 4, .inl (fun z_ => nI (up z_)))), (bq 1, .inl (cI, 4, .inl (fun z_ => nI (st z_)))), (bq 2, .inl (cI, 12, .inl (fun z_ => nI (ex z_)))), (bq 3, .inl (cI, 12, .inl (fun z_ => nI (tl z_)))), (bq 4, .inl (cI, 12, .inl (fun z_ => nI (he z_)))), (bq 5, .inl (cI, 12, .inl (fun z_ => nI (dy z_)))), (bq 6, .inl (cI, 12, .inl (fun z_ => nI (se z_)))), pO a pq (bx 0) (bx 2) (bx 1) (szN bx (bx 0)) (bx 3) (bx 4), (pq 0, .inl (cI, 4, .inl (fun z_ => nI (te z_)))), (pq 1, .inl (cI, 4, .inl (fun z_ => nI (ps z_)))), (pq 2, .inl (cI, 4, .inl (fun z_ => nI (pu z_)))), (pq 3, .inl (cI, 4, .inl (fun z_ => nI (sd z_)))), (pq 4, .inl (cI, 8, .inl (fun z_ => nI (cj z_)))), (pq 5, .inl (cI, 5, .inl (fun z_ => nI (ta z_))))] := hD
  refine lv_aload_n hx hb dX6_teeth_0 rfl (lv_at hl 0 rfl) ?_
  refine lv_iload_n hx hb dX6_teeth_1 rfl (lv_at hl 1 rfl) ?_
  refine cl_6_126 (As := [.int (x)]) (rest := []) hx hb hml hts hown (k_X6_isPerson (by first | assumption | omega)) (by decide) ⟨Nat.zero_le _, Nat.zero_le _⟩ hK hP hD hS hA 0 rfl [0, 12, 13, 14, 15, 16, 17, 18] rfl (by decide) rfl hl.1 rfl (Nat.le_of_ble_eq_true rfl) dX6_teeth_2 (fun r_1 u H locs hp_2 hP hD hS => ?_)
  obtain ⟨rfl, rfl⟩ := hp_2
  dsimp only [putAll, List.set] at hP hD
  have hP : va_P D vwCl [(o, .inr (6, [.ref xt, .ref xg, .ref xu, .ref xk, .ref b, .ref xd, .ref xe, .ref a, .ref xf])), eO xe oq ec, (oq 0, .inl (cI, 12, .inl (fun z_ => nI (eu z_)))), (oq 1, .inl (cI, 24, .inl (fun z_ => nI (cv z_)))), bO b bq fi (nw 2) (nw 0) (nw 1), (bq 0, .inl (cI, 4, .inl (fun z_ => nI (up z_)))), (bq 1, .inl (cI, 4, .inl (fun z_ => nI (st z_)))), (bq 2, .inl (cI, 12, .inl (fun z_ => nI (ex z_)))), (bq 3, .inl (cI, 12, .inl (fun z_ => nI (tl z_)))), (bq 4, .inl (cI, 12, .inl (fun z_ => nI (he z_)))), (bq 5, .inl (cI, 12, .inl (fun z_ => nI (dy z_)))), (bq 6, .inl (cI, 12, .inl (fun z_ => nI (se z_)))), pO a pq (bx 0) (bx 2) (bx 1) (szN bx (bx 0)) (bx 3) (bx 4), (pq 0, .inl (cI, 4, .inl (fun z_ => nI (te z_)))), (pq 1, .inl (cI, 4, .inl (fun z_ => nI (ps z_)))), (pq 2, .inl (cI, 4, .inl (fun z_ => nI (pu z_)))), (pq 3, .inl (cI, 4, .inl (fun z_ => nI (sd z_)))), (pq 4, .inl (cI, 8, .inl (fun z_ => nI (cj z_)))), (pq 5, .inl (cI, 5, .inl (fun z_ => nI (ta z_))))] _ := hP
  have hD : va_D A [(o, .inr (6, [.ref xt, .ref xg, .ref xu, .ref xk, .ref b, .ref xd, .ref xe, .ref a, .ref xf])), eO xe oq ec, (oq 0, .inl (cI, 12, .inl (fun z_ => nI (eu z_)))), (oq 1, .inl (cI, 24, .inl (fun z_ => nI (cv z_)))), bO b bq fi (nw 2) (nw 0) (nw 1), (bq 0, .inl (cI, 4, .inl (fun z_ => nI (up z_)))), (bq 1, .inl (cI, 4, .inl (fun z_ => nI (st z_)))), (bq 2, .inl (cI, 12, .inl (fun z_ => nI (ex z_)))), (bq 3, .inl (cI, 12, .inl (fun z_ => nI (tl z_)))), (bq 4, .inl (cI, 12, .inl (fun z_ => nI (he z_)))), (bq 5, .inl (cI, 12, .inl (fun z_ => nI (dy z_)))), (bq 6, .inl (cI, 12, .inl (fun z_ => nI (se z_)))), pO a pq (bx 0) (bx 2) (bx 1) (szN bx (bx 0)) (bx 3) (bx 4), (pq 0, .inl (cI, 4, .inl (fun z_ => nI (te z_)))), (pq 1, .inl (cI, 4, .inl (fun z_ => nI (ps z_)))), (pq 2, .inl (cI, 4, .inl (fun z_ => nI (pu z_)))), (pq 3, .inl (cI, 4, .inl (fun z_ => nI (sd z_)))), (pq 4, .inl (cI, 8, .inl (fun z_ => nI (cj z_)))), (pq 5, .inl (cI, 5, .inl (fun z_ => nI (ta z_))))] := hD
  refine n_ifb_eq (tgt := 19) hx hb dX6_teeth_5 (by decide) (fun c_3 => ?_) (fun c_3 => ?_)
  · -- 5 to 19
    refine lv_iconst (v := (-1)) hx hb dX6_teeth_19 (by decide) ?_
    refine hret hP hD hS dX6_teeth_20 rfl rfl ?_
    exact ⟨_, _, _, by simp [teA, c_3], rfl⟩
  · -- 5 to 8
    obtain ⟨j, hj, rfl⟩ := inN_e (by have := hR.b.bd 1; omega) c_3
    have hij_q : ix (nI j) = j := ix_n (by have := hR.b.bd 1; omega)
    have hicj_q : (nI j).toNatClampNeg = j := ix_n (by have := hR.b.bd 1; omega)
    have hT_q := hT (by assumption)
    rw [hij_q] at hT_q
    refine lv_iload_n hx hb dX6_teeth_8 rfl (lv_at hl 2 rfl) ?_
    refine lv_iconst (v := (-1)) hx hb dX6_teeth_9 (by decide) ?_
    refine lv_icmp_lt (tgt := 19) hx hb dX6_teeth_10 (by decide) (fun c_4 => ?_) (fun c_4 => ?_)
    · -- 10 to 19
      have hwv_q := tw_a c_4
      refine lv_iconst (v := (-1)) hx hb dX6_teeth_19 (by decide) ?_
      refine hret hP hD hS dX6_teeth_20 rfl rfl ?_
      exact ⟨_, _, _, by simp [teA, c_3, c_4, hij_q, hicj_q, hwv_q], rfl⟩
    · -- 10 to 13
      have hlo_q := c_4
      refine lv_iload_n hx hb dX6_teeth_13 rfl (lv_at hl 2 rfl) ?_
      refine lv_bipush (v := nI 7) hx hb dX6_teeth_14 (by decide) ?_
      refine lv_icmp_le (tgt := 21) hx hb dX6_teeth_16 (by decide) (fun c_5 => ?_) (fun c_5 => ?_)
      · -- 16 to 21
        have hwv_q := tw_c hlo_q c_5
        refine lv_aload_n hx hb dX6_teeth_21 rfl (lv_at hl 0 rfl) ?_
        refine gf_6_48 hx hb hts hown hK hP 0 rfl rfl dX6_teeth_22 ?_
        refine lv_aload_n hx hb dX6_teeth_25 rfl (lv_at hl 0 rfl) ?_
        refine gf_6_55 hx hb hts hown hK hP 0 rfl rfl dX6_teeth_26 ?_
        refine lv_aload_n hx hb dX6_teeth_29 rfl (lv_at hl 0 rfl) ?_
        refine gf_6_38 hx hb hts hown hK hP 0 rfl rfl dX6_teeth_30 ?_
        refine lv_iload_n hx hb dX6_teeth_33 rfl (lv_at hl 1 rfl) ?_
        refine cl_6_219 (As := [.ref a, .ref b, .int (nI (j))]) (rest := []) hx hb hml hts hown (k_X1_listen (by first | assumption | omega) (by first | assumption | omega) (by first | assumption | omega)) (by decide) ⟨Nat.zero_le _, Nat.zero_le _⟩ hK hP hD hS hA 1 rfl [1, 2, 3, 4, 5, 6, 7, 8, 9, 10, 11, 12, 13, 14, 15, 16, 17, 18] rfl (by decide) rfl hl.1 rfl (Nat.le_of_ble_eq_true rfl) dX6_teeth_34 (fun  u H locs hp_6 hP hD hS => ?_)
        obtain ⟨z_7, z_8, hq_9, rfl⟩ := hp_6
        dsimp only [putAll, List.set] at hP hD
        have hP : va_P D vwCl [(o, .inr (6, [.ref xt, .ref xg, .ref xu, .ref xk, .ref b, .ref xd, .ref xe, .ref a, .ref xf])), eO xe oq (cnP (pyB nw j) (nw 2)), (oq 0, .inl (cI, 12, .inl (fun z_ => nI (z_7 z_)))), (oq 1, .inl (cI, 24, .inl (fun z_ => nI (z_8 z_)))), bO b bq fi (nw 2) (nw 0) (nw 1), (bq 0, .inl (cI, 4, .inl (fun z_ => nI (up z_)))), (bq 1, .inl (cI, 4, .inl (fun z_ => nI (st z_)))), (bq 2, .inl (cI, 12, .inl (fun z_ => nI (ex z_)))), (bq 3, .inl (cI, 12, .inl (fun z_ => nI (tl z_)))), (bq 4, .inl (cI, 12, .inl (fun z_ => nI (he z_)))), (bq 5, .inl (cI, 12, .inl (fun z_ => nI (dy z_)))), (bq 6, .inl (cI, 12, .inl (fun z_ => nI (se z_)))), pO a pq (bx 0) (bx 2) (bx 1) (szN bx (bx 0)) (bx 3) (bx 4), (pq 0, .inl (cI, 4, .inl (fun z_ => nI (te z_)))), (pq 1, .inl (cI, 4, .inl (fun z_ => nI (ps z_)))), (pq 2, .inl (cI, 4, .inl (fun z_ => nI (pu z_)))), (pq 3, .inl (cI, 4, .inl (fun z_ => nI (sd z_)))), (pq 4, .inl (cI, 8, .inl (fun z_ => nI (cj z_)))), (pq 5, .inl (cI, 5, .inl (fun z_ => nI (ta z_))))] _ := hP
        have hD : va_D A [(o, .inr (6, [.ref xt, .ref xg, .ref xu, .ref xk, .ref b, .ref xd, .ref xe, .ref a, .ref xf])), eO xe oq (cnP (pyB nw j) (nw 2)), (oq 0, .inl (cI, 12, .inl (fun z_ => nI (z_7 z_)))), (oq 1, .inl (cI, 24, .inl (fun z_ => nI (z_8 z_)))), bO b bq fi (nw 2) (nw 0) (nw 1), (bq 0, .inl (cI, 4, .inl (fun z_ => nI (up z_)))), (bq 1, .inl (cI, 4, .inl (fun z_ => nI (st z_)))), (bq 2, .inl (cI, 12, .inl (fun z_ => nI (ex z_)))), (bq 3, .inl (cI, 12, .inl (fun z_ => nI (tl z_)))), (bq 4, .inl (cI, 12, .inl (fun z_ => nI (he z_)))), (bq 5, .inl (cI, 12, .inl (fun z_ => nI (dy z_)))), (bq 6, .inl (cI, 12, .inl (fun z_ => nI (se z_)))), pO a pq (bx 0) (bx 2) (bx 1) (szN bx (bx 0)) (bx 3) (bx 4), (pq 0, .inl (cI, 4, .inl (fun z_ => nI (te z_)))), (pq 1, .inl (cI, 4, .inl (fun z_ => nI (ps z_)))), (pq 2, .inl (cI, 4, .inl (fun z_ => nI (pu z_)))), (pq 3, .inl (cI, 4, .inl (fun z_ => nI (sd z_)))), (pq 4, .inl (cI, 8, .inl (fun z_ => nI (cj z_)))), (pq 5, .inl (cI, 5, .inl (fun z_ => nI (ta z_))))] := hD
        have hEa_q := hq_9
        refine lv_aload_n hx hb dX6_teeth_37 rfl (lv_at hl 0 rfl) ?_
        refine gf_6_48 hx hb hts hown hK hP 0 rfl rfl dX6_teeth_38 ?_
        refine cl_6_223 (As := []) (rest := []) hx hb hml hts hown (k_X1_fewestTeeth hR.b hX.d hEa_q hT_q hF) (by decide) ⟨Nat.zero_le _, Nat.zero_le _⟩ hK hP hD hS hA 1 rfl [1, 2, 3] rfl (by decide) rfl hl.1 rfl (Nat.le_of_ble_eq_true rfl) dX6_teeth_41 (fun r_10 u H locs hp_11 hP hD hS => ?_)
        obtain ⟨rfl, rfl⟩ := hp_11
        dsimp only [putAll, List.set] at hP hD
        have hP : va_P D vwCl [(o, .inr (6, [.ref xt, .ref xg, .ref xu, .ref xk, .ref b, .ref xd, .ref xe, .ref a, .ref xf])), eO xe oq ((cnP (pyB nw j) (nw 2))), (oq 0, .inl (cI, 12, .inl (fun z_ => nI (z_7 z_)))), (oq 1, .inl (cI, 24, .inl (fun z_ => nI (z_8 z_)))), bO b bq fi (nw 2) (nw 0) (nw 1), (bq 0, .inl (cI, 4, .inl (fun z_ => nI (up z_)))), (bq 1, .inl (cI, 4, .inl (fun z_ => nI (st z_)))), (bq 2, .inl (cI, 12, .inl (fun z_ => nI (ex z_)))), (bq 3, .inl (cI, 12, .inl (fun z_ => nI (tl z_)))), (bq 4, .inl (cI, 12, .inl (fun z_ => nI (he z_)))), (bq 5, .inl (cI, 12, .inl (fun z_ => nI (dy z_)))), (bq 6, .inl (cI, 12, .inl (fun z_ => nI (se z_)))), pO a pq (bx 0) (bx 2) (bx 1) (szN bx (bx 0)) (bx 3) (bx 4), (pq 0, .inl (cI, 4, .inl (fun z_ => nI (te z_)))), (pq 1, .inl (cI, 4, .inl (fun z_ => nI (ps z_)))), (pq 2, .inl (cI, 4, .inl (fun z_ => nI (pu z_)))), (pq 3, .inl (cI, 4, .inl (fun z_ => nI (sd z_)))), (pq 4, .inl (cI, 8, .inl (fun z_ => nI (cj z_)))), (pq 5, .inl (cI, 5, .inl (fun z_ => nI (ta z_))))] _ := hP
        have hD : va_D A [(o, .inr (6, [.ref xt, .ref xg, .ref xu, .ref xk, .ref b, .ref xd, .ref xe, .ref a, .ref xf])), eO xe oq ((cnP (pyB nw j) (nw 2))), (oq 0, .inl (cI, 12, .inl (fun z_ => nI (z_7 z_)))), (oq 1, .inl (cI, 24, .inl (fun z_ => nI (z_8 z_)))), bO b bq fi (nw 2) (nw 0) (nw 1), (bq 0, .inl (cI, 4, .inl (fun z_ => nI (up z_)))), (bq 1, .inl (cI, 4, .inl (fun z_ => nI (st z_)))), (bq 2, .inl (cI, 12, .inl (fun z_ => nI (ex z_)))), (bq 3, .inl (cI, 12, .inl (fun z_ => nI (tl z_)))), (bq 4, .inl (cI, 12, .inl (fun z_ => nI (he z_)))), (bq 5, .inl (cI, 12, .inl (fun z_ => nI (dy z_)))), (bq 6, .inl (cI, 12, .inl (fun z_ => nI (se z_)))), pO a pq (bx 0) (bx 2) (bx 1) (szN bx (bx 0)) (bx 3) (bx 4), (pq 0, .inl (cI, 4, .inl (fun z_ => nI (te z_)))), (pq 1, .inl (cI, 4, .inl (fun z_ => nI (ps z_)))), (pq 2, .inl (cI, 4, .inl (fun z_ => nI (pu z_)))), (pq 3, .inl (cI, 4, .inl (fun z_ => nI (sd z_)))), (pq 4, .inl (cI, 8, .inl (fun z_ => nI (cj z_)))), (pq 5, .inl (cI, 5, .inl (fun z_ => nI (ta z_))))] := hD
        refine lv_istore_n (lv' := [(3, .int (nI (F))), (0, .ref o), (1, .int (nI (j))), (2, .int (w))]) hx hb dX6_teeth_44 rfl hl (by decide) rfl (fun ls hl => ?_)
        refine lv_iload_n hx hb dX6_teeth_45 rfl (lv_at hl 3 rfl) ?_
        refine lv_iconst (v := (-1)) hx hb dX6_teeth_46 (by decide) ?_
        refine lv_icmp_ne (tgt := 52) hx hb dX6_teeth_47 (by decide) (fun c_12 => ?_) (fun c_12 => ?_)
        · -- 47 to 52
          have hw1_q := c_12
          obtain ⟨k, hk7, rfl⟩ := tw_e hwv_q c_12
          have hik_q : ix (nI k) = k := ix_n (by omega)
          refine lv_iload_n hx hb dX6_teeth_52 rfl (lv_at hl 3 rfl) ?_
          refine lv_iload_n hx hb dX6_teeth_53 rfl (lv_at hl 0 rfl) ?_
          refine n_icmp_lt (tgt := 60) hx hb dX6_teeth_54 (by decide) (by omega) (by omega) (fun c_13 => ?_) (fun c_13 => ?_)
          · -- 54 to 60
            refine lv_aload_n hx hb dX6_teeth_60 rfl (lv_at hl 1 rfl) ?_
            refine gf_6_48 hx hb hts hown hK hP 0 rfl rfl dX6_teeth_61 ?_
            refine lv_iload_n hx hb dX6_teeth_64 rfl (lv_at hl 0 rfl) ?_
            refine lv_iload_n hx hb dX6_teeth_65 rfl (lv_at hl 3 rfl) ?_
            refine cl_6_226 (As := [.int (nI (F)), .int (nI (k))]) (rest := []) hx hb hml hts hown (k_X1_slotOfFewest hR.b hX.d hEa_q hT_q hF (by omega)) (by decide) ⟨Nat.zero_le _, Nat.zero_le _⟩ hK hP hD hS hA 1 rfl [1, 2, 3] rfl (by decide) rfl hl.1 rfl (Nat.le_of_ble_eq_true rfl) dX6_teeth_66 (fun r_14 u H locs hp_15 hP hD hS => ?_)
            obtain ⟨rfl, rfl⟩ := hp_15
            dsimp only [putAll, List.set] at hP hD
            have hP : va_P D vwCl [(o, .inr (6, [.ref xt, .ref xg, .ref xu, .ref xk, .ref b, .ref xd, .ref xe, .ref a, .ref xf])), eO xe oq (((cnP (pyB nw j) (nw 2)))), (oq 0, .inl (cI, 12, .inl (fun z_ => nI (z_7 z_)))), (oq 1, .inl (cI, 24, .inl (fun z_ => nI (z_8 z_)))), bO b bq fi (nw 2) (nw 0) (nw 1), (bq 0, .inl (cI, 4, .inl (fun z_ => nI (up z_)))), (bq 1, .inl (cI, 4, .inl (fun z_ => nI (st z_)))), (bq 2, .inl (cI, 12, .inl (fun z_ => nI (ex z_)))), (bq 3, .inl (cI, 12, .inl (fun z_ => nI (tl z_)))), (bq 4, .inl (cI, 12, .inl (fun z_ => nI (he z_)))), (bq 5, .inl (cI, 12, .inl (fun z_ => nI (dy z_)))), (bq 6, .inl (cI, 12, .inl (fun z_ => nI (se z_)))), pO a pq (bx 0) (bx 2) (bx 1) (szN bx (bx 0)) (bx 3) (bx 4), (pq 0, .inl (cI, 4, .inl (fun z_ => nI (te z_)))), (pq 1, .inl (cI, 4, .inl (fun z_ => nI (ps z_)))), (pq 2, .inl (cI, 4, .inl (fun z_ => nI (pu z_)))), (pq 3, .inl (cI, 4, .inl (fun z_ => nI (sd z_)))), (pq 4, .inl (cI, 8, .inl (fun z_ => nI (cj z_)))), (pq 5, .inl (cI, 5, .inl (fun z_ => nI (ta z_))))] _ := hP
            have hD : va_D A [(o, .inr (6, [.ref xt, .ref xg, .ref xu, .ref xk, .ref b, .ref xd, .ref xe, .ref a, .ref xf])), eO xe oq (((cnP (pyB nw j) (nw 2)))), (oq 0, .inl (cI, 12, .inl (fun z_ => nI (z_7 z_)))), (oq 1, .inl (cI, 24, .inl (fun z_ => nI (z_8 z_)))), bO b bq fi (nw 2) (nw 0) (nw 1), (bq 0, .inl (cI, 4, .inl (fun z_ => nI (up z_)))), (bq 1, .inl (cI, 4, .inl (fun z_ => nI (st z_)))), (bq 2, .inl (cI, 12, .inl (fun z_ => nI (ex z_)))), (bq 3, .inl (cI, 12, .inl (fun z_ => nI (tl z_)))), (bq 4, .inl (cI, 12, .inl (fun z_ => nI (he z_)))), (bq 5, .inl (cI, 12, .inl (fun z_ => nI (dy z_)))), (bq 6, .inl (cI, 12, .inl (fun z_ => nI (se z_)))), pO a pq (bx 0) (bx 2) (bx 1) (szN bx (bx 0)) (bx 3) (bx 4), (pq 0, .inl (cI, 4, .inl (fun z_ => nI (te z_)))), (pq 1, .inl (cI, 4, .inl (fun z_ => nI (ps z_)))), (pq 2, .inl (cI, 4, .inl (fun z_ => nI (pu z_)))), (pq 3, .inl (cI, 4, .inl (fun z_ => nI (sd z_)))), (pq 4, .inl (cI, 8, .inl (fun z_ => nI (cj z_)))), (pq 5, .inl (cI, 5, .inl (fun z_ => nI (ta z_))))] := hD
            have hsl_q := ep_ok (rlB bx) 24 (tu k) (hT_q.1.2 k (by omega))
            have hsl2_q : slP bx (tu k) < 24 := hsl_q.1
            refine lv_istore (lv' := [(4, .int (nI (slP bx (tu k)))), (3, .int (nI (F))), (0, .ref o), (1, .int (nI (j))), (2, .int (nI (k)))]) hx hb dX6_teeth_69 hl (by decide) rfl (fun ls hl => ?_)
            refine lv_iload hx hb dX6_teeth_71 (lv_at hl 0 rfl) ?_
            refine lv_bipush (v := nI 6) hx hb dX6_teeth_73 (by decide) ?_
            refine n_idiv hx hb dX6_teeth_75 (by omega) (by omega) (by omega) ?_
            refine lv_bipush (v := nI 10) hx hb dX6_teeth_76 (by decide) ?_
            refine n_imul hx hb dX6_teeth_78  ?_
            refine lv_iload hx hb dX6_teeth_79 (lv_at hl 0 rfl) ?_
            refine lv_bipush (v := nI 6) hx hb dX6_teeth_81 (by decide) ?_
            refine n_irem hx hb dX6_teeth_83 (by omega) (by omega) (by omega) ?_
            refine n_iadd hx hb dX6_teeth_84  ?_
            refine hret hP hD hS dX6_teeth_85 rfl rfl ?_
            exact ⟨_, _, _, te_v (by assumption) hwv_q hw1_q hik_q (by omega), rfl⟩
          · -- 54 to 57
            refine lv_bipush (v := (-4)) hx hb dX6_teeth_57 (by decide) ?_
            refine hret hP hD hS dX6_teeth_59 rfl rfl ?_
            exact ⟨_, _, _, te_n (by assumption) hwv_q hw1_q hik_q (by omega), rfl⟩
        · -- 47 to 50
          have hw1_q := c_12
          refine lv_iload_n hx hb dX6_teeth_50 rfl (lv_at hl 0 rfl) ?_
          refine hret hP hD hS dX6_teeth_51 rfl rfl ?_
          exact ⟨_, _, _, te_f (by assumption) hwv_q hw1_q, rfl⟩
      · -- 16 to 19
        have hwv_q := tw_b c_5
        refine lv_iconst (v := (-1)) hx hb dX6_teeth_19 (by decide) ?_
        refine hret hP hD hS dX6_teeth_20 rfl rfl ?_
        exact ⟨_, _, _, by simp [teA, c_3, c_4, c_5, hij_q, hicj_q, hlo_q, hwv_q], rfl⟩

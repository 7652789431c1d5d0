/-! counting by kinds -/
theorem pc_cn (v : Nat) : ∀ n, pcK n v = cnP (fun k_ => Nat.testBit v k_) n
  | 0 => rfl
  | n + 1 => by simp only [pcK, cnP]; rw [pc_cn v n]
theorem cp_eq {P Q : Nat → Bool} : ∀ n, (∀ k, k < n → P k = Q k) → cnP P n = cnP Q n
  | 0, _ => rfl
  | n + 1, h => by simp only [cnP]; rw [cp_eq n (fun k hk => h k (by omega)), h n (by omega)]
theorem cp_z {P : Nat → Bool} : ∀ n, (∀ k, k < n → P k = false) → cnP P n = 0
  | 0, _ => rfl
  | n + 1, h => by rw [cp_f (h n (by omega))]; exact cp_z n (fun k hk => h k (by omega))
theorem cp_pos {P : Nat → Bool} : ∀ n, 0 < cnP P n ↔ ∃ k, k < n ∧ P k = true
  | 0 => ⟨fun h => absurd h (by simp [cnP]), fun ⟨k, h, _⟩ => by omega⟩
  | n + 1 => by
    have ih := cp_pos (P := P) n
    cases hb : P n with
    | true => rw [cp_t hb]; exact ⟨fun _ => ⟨n, by omega, hb⟩, fun _ => by omega⟩
    | false =>
      rw [cp_f hb, ih]
      constructor
      · rintro ⟨k, h1, h2⟩; exact ⟨k, by omega, h2⟩
      · rintro ⟨k, h1, h2⟩
        by_cases he : k = n
        · subst he; rw [hb] at h2; exact absurd h2 (by decide)
        · exact ⟨k, by omega, h2⟩
theorem cp_sub {P Q : Nat → Bool} : ∀ n, (∀ k, k < n → P k = true → Q k = true) → cnP P n ≤ cnP Q n
  | 0, _ => Nat.le_refl _
  | n + 1, h => by
    have ih := cp_sub (P := P) (Q := Q) n (fun k hk => h k (by omega))
    have h2 := h n (by omega)
    simp only [cnP]
    cases hb : P n with
    | false => have := b2n_f; omega
    | true => rw [h2 hb]; omega
/-- one taken away -/
def dlB (P : Nat → Bool) (f : Nat) : Nat → Bool := fun k => P k && decide (k ≠ f)
theorem dl_f (P : Nat → Bool) (f : Nat) : dlB P f f = false := by simp [dlB]
theorem dl_n {P : Nat → Bool} {f k : Nat} (h : k ≠ f) : dlB P f k = P k := by simp [dlB, h]
theorem cp_dl {P : Nat → Bool} {f : Nat} (hP : P f = true) : ∀ n, f < n → cnP P n = cnP (dlB P f) n + 1
  | 0, h => by omega
  | n + 1, h => by
    by_cases he : f = n
    · subst he
      rw [cp_t hP, cp_f (dl_f P f), cp_eq f (fun k hk => (dl_n (P := P) (f := f) (by omega)).symm)]
    · have ih := cp_dl hP n (by omega)
      simp only [cnP]
      rw [ih, dl_n (P := P) (f := f) (fun q => he q.symm)]; omega
theorem cp_big {P : Nat → Bool} {n N : Nat} (hn : n ≤ N) (h : ∀ k, n ≤ k → P k = false) : cnP P N = cnP P n := by
  induction N with
  | zero => rw [show n = 0 by omega]
  | succ N ih =>
    by_cases he : n = N + 1
    · rw [he]
    · rw [cp_f (h N (by omega))]; exact ih (by omega)
/-! a set as a number -/
def bmN (S : Nat → Bool) : Nat → Nat
  | 0 => 0
  | n + 1 => bmN S n ||| (if S n = true then 1 * 2 ^ n else 0)
theorem bm_tb (S : Nat → Bool) (k : Nat) : ∀ n, Nat.testBit (bmN S n) k = (decide (k < n) && S k)
  | 0 => by simp [bmN]
  | n + 1 => by
    simp only [bmN]
    rw [Nat.testBit_or, bm_tb S k n]
    by_cases he : k = n
    · subst he
      cases hb : S k with
      | true => simp [Nat.testBit_two_pow_self]
      | false => simp
    · have h1 : decide (k < n + 1) = decide (k < n) := decide_eq_decide.mpr (by omega)
      have h2 : Nat.testBit (if S n = true then 1 * 2 ^ n else 0) k = false := by
        split
        · rw [Nat.one_mul, Nat.testBit_two_pow]; exact decide_eq_false (fun q => he q.symm)
        · exact Nat.zero_testBit k
      rw [h1, h2, Bool.or_false]
theorem bm_lt (S : Nat → Bool) : ∀ n, bmN S n < 2 ^ n
  | 0 => by simp [bmN]
  | n + 1 => by
    have h1 := bm_lt S n
    have h2 : 2 ^ n < 2 ^ (n + 1) := Nat.pow_lt_pow_right (by omega) (by omega)
    refine Nat.or_lt_two_pow (Nat.lt_trans h1 h2) ?_
    split
    · omega
    · exact Nat.two_pow_pos _
/-! those that stand together -/
def StS (G : Nat → Nat → Bool) (N : Nat) (L S : Nat → Bool) : Prop := (∀ k, k < N → S k = true → L k = true) ∧ ∀ a b, a < b → b < N → S a = true → S b = true → G a b = false
def IsM (G : Nat → Nat → Bool) (N : Nat) (L : Nat → Bool) (n : Nat) : Prop := (∃ S, StS G N L S ∧ cnP S N = n) ∧ ∀ S, StS G N L S → cnP S N ≤ n
theorem ism_u {G : Nat → Nat → Bool} {N n n2 : Nat} {L : Nat → Bool} (h : IsM G N L n) (h2 : IsM G N L n2) : n = n2 := by
  obtain ⟨⟨S, h3, h4⟩, h5⟩ := h
  obtain ⟨⟨S2, h6, h7⟩, h8⟩ := h2
  have := h5 S2 h6
  have := h8 S h3
  omega
theorem ism_cg {G G2 : Nat → Nat → Bool} {N n : Nat} {L L2 : Nat → Bool} (hL : ∀ k, k < N → L k = L2 k) (hG : ∀ a b, a < b → b < N → G a b = G2 a b) (h : IsM G N L n) : IsM G2 N L2 n := by
  have e : ∀ S, StS G N L S ↔ StS G2 N L2 S := fun S => by
    constructor
    · rintro ⟨h1, h2⟩
      exact ⟨fun k hk hS => by rw [← hL k hk]; exact h1 k hk hS, fun a b ha hb h3 h4 => by rw [← hG a b ha hb]; exact h2 a b ha hb h3 h4⟩
    · rintro ⟨h1, h2⟩
      exact ⟨fun k hk hS => by rw [hL k hk]; exact h1 k hk hS, fun a b ha hb h3 h4 => by rw [hG a b ha hb]; exact h2 a b ha hb h3 h4⟩
  obtain ⟨⟨S, h1, h2⟩, h3⟩ := h
  exact ⟨⟨S, (e S).mp h1, h2⟩, fun S hS => h3 S ((e S).mpr hS)⟩
theorem no_st (G : Nat → Nat → Bool) (N : Nat) (L : Nat → Bool) : StS G N L (fun _ => false) := ⟨fun _ _ h => absurd h Bool.false_ne_true, fun _ _ _ _ h => absurd h Bool.false_ne_true⟩
/-- the class's search -/
def moN (rv : Nat → Nat) : Nat → Nat → Nat
  | 0, _ => 0
  | d + 1, lf => if lf = 0 then 0 else if anN (anN lf (1 * 2 ^ lwN lf)) (rv (lwN lf)) = anN lf (1 * 2 ^ lwN lf) then 1 + moN rv d (anN (anN lf (1 * 2 ^ lwN lf)) (rv (lwN lf))) else max (1 + moN rv d (anN (anN lf (1 * 2 ^ lwN lf)) (rv (lwN lf)))) (moN rv d (anN lf (1 * 2 ^ lwN lf)))
theorem mo_le (rv : Nat → Nat) : ∀ d lf, moN rv d lf ≤ d
  | 0, _ => Nat.le_refl _
  | d + 1, lf => by
    have h1 := mo_le rv d (anN (anN lf (1 * 2 ^ lwN lf)) (rv (lwN lf)))
    have h2 := mo_le rv d (anN lf (1 * 2 ^ lwN lf))
    simp only [moN]
    split
    · omega
    · split <;> omega
theorem tb_one (f k : Nat) : Nat.testBit (1 * 2 ^ f) k = decide (k = f) := by
  rw [Nat.one_mul, Nat.testBit_two_pow]
  exact decide_eq_decide.mpr ⟨fun h => h.symm, fun h => h.symm⟩
section STA
variable {rv : Nat → Nat} {N : Nat}
theorem mo_is (hN : N ≤ 12) (hs : ∀ a b, a < N → b < N → Nat.testBit (rv a) b = Nat.testBit (rv b) a) : ∀ d lf, lf < 4096 → (∀ k, Nat.testBit lf k = true → k < N) → cnP (fun k_ => Nat.testBit lf k_) N ≤ d → IsM (fun a b => Nat.testBit (rv a) b) N (fun k_ => Nat.testBit lf k_) (moN rv d lf) := by
  intro d
  induction d with
  | zero =>
    intro lf h1 h2 h3
    have h4 : ∀ k, k < N → Nat.testBit lf k = false := by
      intro k hk
      cases hb : Nat.testBit lf k with
      | false => rfl
      | true =>
        have := (cp_pos (P := fun k_ => Nat.testBit lf k_) N).mpr ⟨k, hk, hb⟩
        omega
    refine ⟨⟨fun _ => false, no_st _ _ _, cp_z N (fun _ _ => rfl)⟩, fun S hS => ?_⟩
    rw [cp_z N (fun k hk => by
      cases hb : S k with
      | false => rfl
      | true =>
        have h5 : Nat.testBit lf k = true := hS.1 k hk hb
        rw [h4 k hk] at h5; exact absurd h5 (by decide))]
    exact Nat.zero_le _
  | succ d ih =>
    intro lf h1 h2 h3
    by_cases h0 : lf = 0
    · simp only [moN]
      rw [if_pos h0]
      subst h0
      refine ⟨⟨fun _ => false, no_st _ _ _, cp_z N (fun _ _ => rfl)⟩, fun S hS => ?_⟩
      rw [cp_z N (fun k hk => by
        cases hb : S k with
        | false => rfl
        | true =>
          have h5 : Nat.testBit 0 k = true := hS.1 k hk hb
          rw [Nat.zero_testBit] at h5; exact absurd h5 (by decide))]
      exact Nat.zero_le _
    · have hf := lw_t lf h1 h0
      have hfN := h2 _ hf.1
      obtain ⟨f, hfe⟩ : ∃ f, f = lwN lf := ⟨_, rfl⟩
      simp only [moN]
      rw [if_neg h0]
      rw [← hfe] at hf hfN ⊢
      obtain ⟨ot, hot⟩ : ∃ ot, ot = anN lf (1 * 2 ^ f) := ⟨_, rfl⟩
      obtain ⟨fr, hfr⟩ : ∃ fr, fr = anN ot (rv f) := ⟨_, rfl⟩
      rw [← hot, ← hfr]
      have to : ∀ k, Nat.testBit ot k = (Nat.testBit lf k && decide (k ≠ f)) := fun k => by
        rw [hot, tb_an, tb_one]; by_cases hk : k = f <;> simp [hk]
      have tf : ∀ k, Nat.testBit fr k = (Nat.testBit ot k && !Nat.testBit (rv f) k) := fun k => by rw [hfr, tb_an]
      have lo : ot < 4096 := by rw [hot]; exact an_lt (n := 12) _ h1
      have lr : fr < 4096 := by rw [hfr]; exact an_lt (n := 12) _ lo
      have so : ∀ k, Nat.testBit ot k = true → Nat.testBit lf k = true ∧ k ≠ f := fun k h => by
        rw [to, Bool.and_eq_true, decide_eq_true_eq] at h; exact h
      have sf : ∀ k, Nat.testBit fr k = true → Nat.testBit ot k = true ∧ Nat.testBit (rv f) k = false := fun k h => by
        rw [tf, Bool.and_eq_true, Bool.not_eq_true'] at h; exact h
      have co : cnP (fun k_ => Nat.testBit ot k_) N + 1 = cnP (fun k_ => Nat.testBit lf k_) N := by
        rw [cp_dl (P := fun k_ => Nat.testBit lf k_) (f := f) hf.1 N hfN]
        refine congrArg (· + 1) (cp_eq N (fun k _ => ?_))
        rw [to]; rfl
      have cr : cnP (fun k_ => Nat.testBit fr k_) N ≤ cnP (fun k_ => Nat.testBit ot k_) N := cp_sub N (fun k _ h => (sf k h).1)
      have iho := ih ot lo (fun k h => h2 k (so k h).1) (by omega)
      have ihr := ih fr lr (fun k h => h2 k (so k (sf k h).1).1) (by omega)
      obtain ⟨⟨S1, q1, q2⟩, q3⟩ := ihr
      obtain ⟨⟨S2, p1, p2⟩, p3⟩ := iho
      have exA : ∃ S, StS (fun a b => Nat.testBit (rv a) b) N (fun k_ => Nat.testBit lf k_) S ∧ cnP S N = 1 + moN rv d fr := by
        refine ⟨fun k => (S1 k && decide (k ≠ f)) || decide (k = f), ⟨?_, ?_⟩, ?_⟩
        · intro k hk hS
          simp only [Bool.or_eq_true, Bool.and_eq_true, decide_eq_true_eq] at hS
          rcases hS with hS | hS
          · exact (so k (sf k (q1.1 k hk hS.1)).1).1
          · subst hS; exact hf.1
        · intro a b ha hb hSa hSb
          simp only [Bool.or_eq_true, Bool.and_eq_true, decide_eq_true_eq] at hSa hSb
          rcases hSa with hSa | hSa
          · rcases hSb with hSb | hSb
            · exact q1.2 a b ha hb hSa.1 hSb.1
            · subst hSb
              show Nat.testBit (rv a) b = false
              rw [hs a b (by omega) hb]
              exact (sf a (q1.1 a (by omega) hSa.1)).2
          · rcases hSb with hSb | hSb
            · subst hSa; exact (sf b (q1.1 b hb hSb.1)).2
            · omega
        · rw [cp_dl (P := fun k => (S1 k && decide (k ≠ f)) || decide (k = f)) (f := f) (by simp) N hfN, ← q2, Nat.add_comm]
          refine congrArg (1 + ·) (cp_eq N (fun k hk => ?_))
          by_cases hkf : k = f
          · subst hkf
            rw [dl_f]
            cases hb : S1 k with
            | false => rfl
            | true => exact absurd rfl (so k (sf k (q1.1 k hk hb)).1).2
          · rw [dl_n hkf]; simp [hkf]
      have upA : ∀ S, StS (fun a b => Nat.testBit (rv a) b) N (fun k_ => Nat.testBit lf k_) S → S f = true → cnP S N ≤ 1 + moN rv d fr := by
        intro S hS hSf
        rw [cp_dl hSf N hfN, Nat.add_comm]
        refine Nat.add_le_add_left (q3 _ ⟨?_, ?_⟩) 1
        · intro k hk hk2
          simp only [dlB, Bool.and_eq_true, decide_eq_true_eq] at hk2
          show Nat.testBit fr k = true
          rw [tf, to]
          have h5 : Nat.testBit lf k = true := hS.1 k hk hk2.1
          have h6 : Nat.testBit (rv f) k = false := by
            rcases Nat.lt_or_ge k f with h7 | h7
            · rw [hs f k hfN hk]; exact hS.2 k f h7 hfN hk2.1 hSf
            · exact hS.2 f k (by omega) hk hSf hk2.1
          simp [h5, h6, hk2.2]
        · intro a b ha hb h5 h6
          simp only [dlB, Bool.and_eq_true, decide_eq_true_eq] at h5 h6
          exact hS.2 a b ha hb h5.1 h6.1
      have upB : ∀ S, StS (fun a b => Nat.testBit (rv a) b) N (fun k_ => Nat.testBit lf k_) S → S f = false → StS (fun a b => Nat.testBit (rv a) b) N (fun k_ => Nat.testBit ot k_) S := by
        intro S hS hSf
        refine ⟨fun k hk h5 => ?_, hS.2⟩
        show Nat.testBit ot k = true
        have h6 : Nat.testBit lf k = true := hS.1 k hk h5
        have h7 : k ≠ f := fun q => by subst q; rw [hSf] at h5; exact absurd h5 (by decide)
        rw [to]; simp [h6, h7]
      by_cases he : fr = ot
      · rw [if_pos he]
        refine ⟨exA, fun S hS => ?_⟩
        cases hb : S f with
        | true => exact upA S hS hb
        | false =>
          have h5 := upB S hS hb
          rw [← he] at h5
          have h6 := q3 S h5
          omega
      · rw [if_neg he]
        refine ⟨?_, fun S hS => ?_⟩
        · rcases Nat.le_total (moN rv d ot) (1 + moN rv d fr) with h5 | h5
          · rw [Nat.max_eq_left h5]; exact exA
          · rw [Nat.max_eq_right h5]
            exact ⟨S2, ⟨fun k hk h6 => (so k (p1.1 k hk h6)).1, p1.2⟩, p2⟩
        · cases hb : S f with
          | true => exact Nat.le_trans (upA S hS hb) (Nat.le_max_left _ _)
          | false => exact Nat.le_trans (p3 S (upB S hS hb)) (Nat.le_max_right _ _)
end STA
/-! the reference's search -/
def siB (G : Nat → Nat → Bool) (s a : Nat) : Nat → Bool
  | 0 => true
  | b + 1 => siB G s a b && !(decide (a < b) && (Nat.testBit s a && (Nat.testBit s b && G a b)))
def soB (G : Nat → Nat → Bool) (s N : Nat) : Nat → Bool
  | 0 => true
  | a + 1 => soB G s N a && siB G s a N
def bfN (G : Nat → Nat → Bool) (N all : Nat) : Nat → Nat
  | 0 => 0
  | s + 1 => if (decide (anN s all = 0 ∧ bfN G N all s < pcN s) && soB G s N N) = true then pcN s else bfN G N all s
section BRU
variable {G : Nat → Nat → Bool} {N s a all : Nat}
theorem si_iff : ∀ n, siB G s a n = true ↔ ∀ b, b < n → a < b → Nat.testBit s a = true → Nat.testBit s b = true → G a b = false
  | 0 => ⟨fun _ b hb => by omega, fun _ => rfl⟩
  | n + 1 => by
    simp only [siB, Bool.and_eq_true, si_iff n]
    constructor
    · rintro ⟨h1, h2⟩ b hb h3 h4 h5
      by_cases he : b = n
      · subst he
        cases hg : G a b with
        | false => rfl
        | true => simp [h3, h4, h5, hg] at h2
      · exact h1 b (by omega) h3 h4 h5
    · intro h
      refine ⟨fun b hb => h b (by omega), ?_⟩
      by_cases h3 : a < n
      · cases h4 : Nat.testBit s a with
        | false => simp
        | true =>
          cases h5 : Nat.testBit s n with
          | false => simp
          | true => rw [h n (by omega) h3 h4 h5]; simp
      · simp [h3]
theorem si_a : siB G s a (a + 1) = true := (si_iff _).mpr (fun b hb hab => by omega)
theorem so_iff : ∀ n, soB G s N n = true ↔ ∀ a, a < n → siB G s a N = true
  | 0 => ⟨fun _ b hb => by omega, fun _ => rfl⟩
  | n + 1 => by
    simp only [soB, Bool.and_eq_true, so_iff n]
    constructor
    · rintro ⟨h1, h2⟩ b hb
      by_cases he : b = n
      · subst he; exact h2
      · exact h1 b (by omega)
    · intro h; exact ⟨fun b hb => h b (by omega), h n (by omega)⟩
theorem so_F {n : Nat} (hn : n ≤ N) (h : soB G s N n = false) : soB G s N N = false := by
  cases hb : soB G s N N with
  | false => rfl
  | true =>
    have h2 : soB G s N n = true := (so_iff n).mpr (fun a ha => (so_iff N).mp hb a (by omega))
    rw [h] at h2; exact absurd h2 (by decide)
theorem an_0 {s all : Nat} (h : anN s all = 0) (k : Nat) (hk : Nat.testBit s k = true) : Nat.testBit all k = true := by
  have h1 := tb_an s all k
  rw [h, Nat.zero_testBit, hk] at h1
  cases hb : Nat.testBit all k with
  | true => rfl
  | false => rw [hb] at h1; exact absurd h1 (by decide)
theorem an_1 {s all : Nat} (h : ∀ k, Nat.testBit s k = true → Nat.testBit all k = true) : anN s all = 0 := by
  apply Nat.eq_of_testBit_eq
  intro k
  rw [tb_an, Nat.zero_testBit]
  cases hb : Nat.testBit s k with
  | false => rfl
  | true => rw [h k hb]; rfl
theorem an_le {s all : Nat} (h : anN s all = 0) : s ≤ all := by
  have : s &&& all = s := by
    apply Nat.eq_of_testBit_eq
    intro k
    rw [Nat.testBit_and]
    cases hb : Nat.testBit s k with
    | false => rfl
    | true => rw [an_0 h k hb]; rfl
  rw [← this]; exact Nat.and_le_right
theorem bf_in (h : ∀ k, Nat.testBit all k = true → k < N) (h0 : anN s all = 0) (hs : soB G s N N = true) : StS G N (fun k_ => Nat.testBit all k_) (fun k_ => Nat.testBit s k_) :=
  ⟨fun k _ hk => an_0 h0 k hk, fun a b hab hb h1 h2 => (si_iff N).mp ((so_iff N).mp hs a (by omega)) b hb hab h1 h2⟩
theorem bf_is1 : ∀ T, (bfN G N all T = 0 ∨ ∃ s, s < T ∧ anN s all = 0 ∧ soB G s N N = true ∧ pcN s = bfN G N all T) ∧ ∀ s, s < T → anN s all = 0 → soB G s N N = true → pcN s ≤ bfN G N all T
  | 0 => ⟨Or.inl rfl, fun s hs => by omega⟩
  | T + 1 => by
    obtain ⟨h1, h2⟩ := bf_is1 T
    simp only [bfN]
    by_cases hc : (decide (anN T all = 0 ∧ bfN G N all T < pcN T) && soB G T N N) = true
    · rw [if_pos hc]
      rw [Bool.and_eq_true, decide_eq_true_eq] at hc
      refine ⟨Or.inr ⟨T, by omega, hc.1.1, hc.2, rfl⟩, fun s hs h3 h4 => ?_⟩
      by_cases he : s = T
      · subst he; exact Nat.le_refl _
      · have := h2 s (by omega) h3 h4; omega
    · rw [if_neg hc]
      refine ⟨?_, fun s hs h3 h4 => ?_⟩
      · rcases h1 with h1 | ⟨s, h3, h4⟩
        · exact Or.inl h1
        · exact Or.inr ⟨s, by omega, h4⟩
      · by_cases he : s = T
        · subst he
          rw [Bool.and_eq_true, decide_eq_true_eq] at hc
          rcases Nat.lt_or_ge (bfN G N all s) (pcN s) with h5 | h5
          · exact absurd ⟨⟨h3, h5⟩, h4⟩ hc
          · exact h5
        · exact h2 s (by omega) h3 h4
theorem pc_big (hN : N ≤ 12) (h : ∀ k, Nat.testBit s k = true → k < N) : pcN s = cnP (fun k_ => Nat.testBit s k_) N := by
  show pcK 12 s = _
  rw [pc_cn s 12]
  refine cp_big hN (fun k hk => ?_)
  cases hb : Nat.testBit s k with
  | false => rfl
  | true => have := h k hb; omega
theorem bf_is (hN : N ≤ 12) (h : ∀ k, Nat.testBit all k = true → k < N) : IsM G N (fun k_ => Nat.testBit all k_) (bfN G N all (all + 1)) := by
  obtain ⟨h1, h2⟩ := bf_is1 (G := G) (N := N) (all := all) (all + 1)
  have hsub : ∀ s, anN s all = 0 → ∀ k, Nat.testBit s k = true → k < N := fun s h0 k hk => h k (an_0 h0 k hk)
  constructor
  · rcases h1 with h1 | ⟨s, h3, h4, h5, h6⟩
    · exact ⟨fun _ => false, no_st _ _ _, by rw [h1]; exact cp_z N (fun _ _ => rfl)⟩
    · exact ⟨fun k_ => Nat.testBit s k_, bf_in h h4 h5, by rw [← h6]; exact (pc_big hN (hsub s h4)).symm⟩
  · intro S hS
    have e : ∀ k, k < N → Nat.testBit (bmN S N) k = S k := fun k hk => by rw [bm_tb]; simp [hk]
    have h3 : anN (bmN S N) all = 0 := an_1 (fun k hk => by
      rw [bm_tb, Bool.and_eq_true, decide_eq_true_eq] at hk
      exact hS.1 k hk.1 hk.2)
    have h4 : soB G (bmN S N) N N = true := (so_iff N).mpr (fun a ha => (si_iff N).mpr (fun b hb hab h5 h6 => by
      rw [e a ha] at h5
      rw [e b hb] at h6
      exact hS.2 a b hab hb h5 h6))
    have h5 := h2 (bmN S N) (Nat.lt_succ_of_le (an_le h3)) h3 h4
    rw [pc_big hN (hsub _ h3), cp_eq N e] at h5
    exact h5
theorem bf_le : ∀ T, bfN G N all T ≤ 12 := by
  have hp : ∀ n v, pcK n v ≤ n := by
    intro n v
    rw [pc_cn]; exact cp_le _ n
  intro T
  induction T with
  | zero => exact Nat.zero_le _
  | succ T ih =>
    simp only [bfN]
    split
    · exact hp 12 T
    · exact ih
end BRU
/-! those of a kind taken together -/
theorem tr_cn {P S : Nat → Bool} : ∀ n, (∀ k, k < n → S k = true → P k = true) → cnP S n = cnP (fun i => S (enP P n i)) (cnP P n)
  | 0, _ => rfl
  | n + 1, h => by
    have ih := tr_cn (P := P) (S := S) n (fun k hk => h k (by omega))
    cases hb : P n with
    | true =>
      rw [cp_t hb, ep_t hb]
      simp only [cnP]
      rw [ih, up1_s]
      refine congrArg (· + b2n (S n)) (cp_eq _ (fun i hi => ?_))
      rw [up1_n (by omega)]
    | false =>
      have h2 : S n = false := by
        cases hs : S n with
        | false => rfl
        | true => have := h n (by omega) hs; rw [hb] at this; exact absurd this (by decide)
      rw [cp_f hb, ep_f hb, cp_f h2]; exact ih
theorem tr_is {G : Nat → Nat → Bool} {P : Nat → Bool} {N n : Nat} (h : IsM (fun i j => G (enP P N i) (enP P N j)) (cnP P N) (fun _ => true) n) : IsM G N P n := by
  obtain ⟨⟨S, h1, h2⟩, h3⟩ := h
  constructor
  · refine ⟨fun k => P k && S (cnP P k), ⟨fun k hk hS => ?_, fun a b hab hb hSa hSb => ?_⟩, ?_⟩
    · rw [Bool.and_eq_true] at hS; exact hS.1
    · rw [Bool.and_eq_true] at hSa hSb
      have ha := ep_k hSa.1 N (by omega)
      have hb2 := ep_k hSb.1 N hb
      have hc := ep_k hSa.1 b hab
      have h4 : G (enP P N (cnP P a)) (enP P N (cnP P b)) = false := h1.2 (cnP P a) (cnP P b) hc.1 hb2.1 hSa.2 hSb.2
      rw [ha.2, hb2.2] at h4
      exact h4
    · rw [tr_cn (P := P) N (fun k _ hk => by rw [Bool.and_eq_true] at hk; exact hk.1), ← h2]
      refine cp_eq _ (fun i hi => ?_)
      have h4 := ep_ok P N i hi
      rw [h4.2.1, h4.2.2, Bool.true_and]
  · intro S hS
    rw [tr_cn (P := P) N hS.1]
    refine h3 _ ⟨fun _ _ _ => rfl, fun i j hij hj h4 h5 => ?_⟩
    have h6 := ep_ok P N j hj
    exact hS.2 _ _ (ep_lt hij hj) h6.1 h4 h5
/-! rivals -/
def clI (bx : Nat → Nat) (x y : Nat) : Nat → Bool
  | 0 => decide (1 < bx 0 ∧ tooN bx x 0 = tooN bx y 0)
  | i + 1 => clI bx x y i && (decide (i = 0) || decide (tooN bx x i ≠ tooN bx y i))
def clB (bx nw : Nat → Nat) (a b : Nat) : Bool := clI bx (nw (16 + a)) (nw (16 + b)) (bx 0)
theorem cl_iff {bx : Nat → Nat} {x y : Nat} : ∀ n, clI bx x y n = true ↔ (1 < bx 0 ∧ tooN bx x 0 = tooN bx y 0) ∧ ∀ i, 1 ≤ i → i < n → tooN bx x i ≠ tooN bx y i
  | 0 => by simp [clI]
  | n + 1 => by
    simp only [clI, Bool.and_eq_true, cl_iff n, Bool.or_eq_true, decide_eq_true_eq]
    constructor
    · rintro ⟨⟨h1, h2⟩, h3⟩
      refine ⟨h1, fun i h4 h5 => ?_⟩
      by_cases he : i = n
      · subst he
        rcases h3 with h3 | h3
        · omega
        · exact h3
      · exact h2 i h4 (by omega)
    · rintro ⟨h1, h2⟩
      refine ⟨⟨h1, fun i h4 h5 => h2 i h4 (by omega)⟩, ?_⟩
      by_cases he : n = 0
      · exact Or.inl he
      · exact Or.inr (h2 n (by omega) (by omega))
/-- of those heard, which cannot stand beside one -/
def rcB (eu : Nat → Nat) (k j : Nat) : Bool := decide (j ≠ k ∧ (eu j &&& eu k) &&& 63 ≠ 0 ∧ anN (eu j &&& eu k) 63 = 0)
def rvN (eu : Nat → Nat) (k : Nat) : Nat → Nat
  | 0 => 0
  | j + 1 => if rcB eu k j = true then rvN eu k j ||| 1 * 2 ^ j else rvN eu k j
theorem tb_rv (eu : Nat → Nat) (k i : Nat) : ∀ c, Nat.testBit (rvN eu k c) i = (decide (i < c) && rcB eu k i)
  | 0 => by simp [rvN]
  | c + 1 => by
    simp only [rvN]
    by_cases he : i = c
    · subst he
      cases hb : rcB eu k i with
      | true => rw [if_pos rfl, Nat.testBit_or, tb_one]; simp
      | false => rw [if_neg (by decide), tb_rv eu k i i]; simp
    · have h1 : decide (i < c + 1) = decide (i < c) := decide_eq_decide.mpr (by omega)
      rw [h1, ← tb_rv eu k i c]
      split
      · rw [Nat.testBit_or, tb_one]; simp [he]
      · rfl
theorem rv_lt (eu : Nat → Nat) (k : Nat) : ∀ c, rvN eu k c < 2 ^ c
  | 0 => by simp [rvN]
  | c + 1 => by
    have h1 := rv_lt eu k c
    have h2 : 2 ^ c < 2 ^ (c + 1) := Nat.pow_lt_pow_right (by omega) (by omega)
    simp only [rvN]
    split
    · exact Nat.or_lt_two_pow (by omega) (by omega)
    · omega
theorem tb_63 (i : Nat) : Nat.testBit 63 i = decide (i < 6) := by
  rw [show (63 : Nat) = 2 ^ 6 - 1 by decide, Nat.testBit_two_pow_sub_one]
/-- different excuses for one person -/
def DsOk (nw : Nat → Nat) : Prop := ∀ a b, a < b → b < nw 2 → nw (40 + a) = nw (40 + b) → nw (16 + a) ≠ nw (16 + b)
theorem rc_cl {bx : Nat → Nat} (hB : BxOk bx) {x y : Nat} (hx : x < szN bx (bx 0)) (hy : y < szN bx (bx 0)) (hne : x ≠ y) : ((tbN bx x (bx 0) &&& tbN bx y (bx 0)) &&& 63 ≠ 0 ∧ anN (tbN bx x (bx 0) &&& tbN bx y (bx 0)) 63 = 0) ↔ clI bx x y (bx 0) = true := by
  have hw := hB.w
  have hb : ∀ z i t, i < bx 0 → t < 6 → (Nat.testBit (tbN bx z (bx 0)) (i * 6 + t) = true ↔ tooN bx z i = t) := fun z i t hi ht => tb_bit hB z (bx 0) (Nat.le_refl _) i t hi ht
  have hz : ∀ z s, 6 * bx 0 ≤ s → Nat.testBit (tbN bx z (bx 0)) s = false := fun z s hs => Nat.testBit_lt_two_pow (Nat.lt_of_lt_of_le (tb_lt' hB z (bx 0) (Nat.le_refl _)) (Nat.pow_le_pow_right (by omega) hs))
  have h0 : (tbN bx x (bx 0) &&& tbN bx y (bx 0)) &&& 63 ≠ 0 ↔ tooN bx x 0 = tooN bx y 0 := by
    constructor
    · intro h
      by_cases he : tooN bx x 0 = tooN bx y 0
      · exact he
      · refine absurd ?_ h
        apply Nat.eq_of_testBit_eq
        intro t
        rw [Nat.testBit_and, Nat.testBit_and, tb_63, Nat.zero_testBit]
        by_cases ht : t < 6
        · cases h1 : Nat.testBit (tbN bx x (bx 0)) t with
          | false => simp
          | true =>
            cases h2 : Nat.testBit (tbN bx y (bx 0)) t with
            | false => simp
            | true =>
              have h3 := (hb x 0 t (by omega) ht).mp (by rw [Nat.zero_mul, Nat.zero_add]; exact h1)
              have h4 := (hb y 0 t (by omega) ht).mp (by rw [Nat.zero_mul, Nat.zero_add]; exact h2)
              exact absurd (h3.trans h4.symm) he
        · simp [ht]
    · intro h h5
      have ht := hB.too x 0 (by omega)
      have h3 := (hb x 0 _ (by omega) ht).mpr rfl
      have h4 := (hb y 0 _ (by omega) ht).mpr h.symm
      rw [Nat.zero_mul, Nat.zero_add] at h3 h4
      have h6 : Nat.testBit ((tbN bx x (bx 0) &&& tbN bx y (bx 0)) &&& 63) (tooN bx x 0) = true := by
        rw [Nat.testBit_and, Nat.testBit_and, tb_63, h3, h4]; simp [ht]
      rw [h5, Nat.zero_testBit] at h6
      exact absurd h6 (by decide)
  have h1 : anN (tbN bx x (bx 0) &&& tbN bx y (bx 0)) 63 = 0 ↔ ∀ i, 1 ≤ i → i < bx 0 → tooN bx x i ≠ tooN bx y i := by
    constructor
    · intro h i h2 h3 he
      have ht := hB.too x i h3
      have h4 := (hb x i _ h3 ht).mpr rfl
      have h5 := (hb y i _ h3 ht).mpr he.symm
      have h6 := an_0 h (i * 6 + tooN bx x i) (by rw [Nat.testBit_and, h4, h5]; rfl)
      rw [tb_63, decide_eq_true_eq] at h6
      omega
    · intro h
      refine an_1 (fun s hs => ?_)
      rw [Nat.testBit_and, Bool.and_eq_true] at hs
      rw [tb_63, decide_eq_true_eq]
      rcases Nat.lt_or_ge s 6 with h2 | h2
      · exact h2
      · rcases Nat.lt_or_ge s (6 * bx 0) with h3 | h3
        · have h4 : s / 6 * 6 + s % 6 = s := by omega
          have h5 := (hb x (s / 6) (s % 6) (by omega) (by omega)).mp (by rw [h4]; exact hs.1)
          have h6 := (hb y (s / 6) (s % 6) (by omega) (by omega)).mp (by rw [h4]; exact hs.2)
          exact absurd (h5.trans h6.symm) (h (s / 6) (by omega) (by omega))
        · rw [hz x s h3] at hs
          exact absurd hs.1 (by decide)
  rw [h0, h1, cl_iff]
  constructor
  · rintro ⟨h2, h3⟩
    refine ⟨⟨?_, h2⟩, h3⟩
    rcases Nat.lt_or_ge 1 (bx 0) with h4 | h4
    · exact h4
    · exfalso
      have hb1 : bx 0 = 1 := by omega
      have ht := hB.t 0 (by omega)
      have e : ∀ z, z < szN bx (bx 0) → tooN bx z 0 = z := by
        intro z hz2
        rw [hb1] at hz2
        have h7 : szN bx 1 = bx 5 := by simp [szN]
        rw [h7] at hz2
        simp only [tooN, szN, Nat.div_one, Nat.add_zero]
        exact Nat.mod_eq_of_lt hz2
      rw [e x hx, e y hy] at h2
      exact hne h2
  · rintro ⟨⟨_, h2⟩, h3⟩; exact ⟨h2, h3⟩

/-! bits taken away -/
def anN (a b : Nat) : Nat := a ^^^ (a &&& b)
theorem tb_an (a b k : Nat) : Nat.testBit (anN a b) k = (Nat.testBit a k && !Nat.testBit b k) := by
  simp only [anN, Nat.testBit_xor, Nat.testBit_and]
  cases Nat.testBit a k <;> cases Nat.testBit b k <;> rfl
theorem an_lt {a n : Nat} (b : Nat) (h : a < 2 ^ n) : anN a b < 2 ^ n := Nat.xor_lt_two_pow h (Nat.lt_of_le_of_lt Nat.and_le_left h)
/-! what leans on what: L those left, hs who has a tooth -/
def emB (L : Nat → Bool) : Nat → Bool
  | 0 => true
  | n + 1 => emB L n && !L n
def rmB (hs : Nat → Nat → Bool) (L : Nat → Bool) (s : Nat) : Nat → Bool := fun k => L k && !hs k s
/-- can those left be had by q of the f places from s on -/
def cvB (hs : Nat → Nat → Bool) (N : Nat) : Nat → (Nat → Bool) → Nat → Nat → Bool
  | 0, L, _, _ => emB L N
  | f + 1, L, s, 0 => cvB hs N f L (s + 1) 0
  | f + 1, L, s, q + 1 => cvB hs N f L (s + 1) (q + 1) || cvB hs N f (rmB hs L s) (s + 1) q
section COV
variable {hs : Nat → Nat → Bool} {N : Nat}
theorem em_iff (L : Nat → Bool) : ∀ n, emB L n = true ↔ ∀ k, k < n → L k = false
  | 0 => by simp [emB]
  | n + 1 => by
    simp only [emB, Bool.and_eq_true, em_iff L n, Bool.not_eq_true']
    constructor
    · rintro ⟨h1, h2⟩ k hk
      by_cases he : k = n
      · subst he; exact h2
      · exact h1 k (by omega)
    · intro h; exact ⟨fun k hk => h k (by omega), h n (by omega)⟩
theorem rm_em {L : Nat → Bool} (s : Nat) (h : emB L N = true) : emB (rmB hs L s) N = true := by
  rw [em_iff] at h ⊢
  intro k hk
  simp [rmB, h k hk]
theorem cv_em : ∀ f (L : Nat → Bool) s q, emB L N = true → cvB hs N f L s q = true
  | 0, L, s, q, h => h
  | f + 1, L, s, 0, h => cv_em f L (s + 1) 0 h
  | f + 1, L, s, q + 1, h => by simp only [cvB, cv_em f L (s + 1) (q + 1) h, Bool.true_or]
theorem cv_q0 : ∀ f (L : Nat → Bool) s, cvB hs N f L s 0 = emB L N
  | 0, L, s => rfl
  | f + 1, L, s => cv_q0 f L (s + 1)
theorem cv_q : ∀ f (L : Nat → Bool) s q, cvB hs N f L s q = true → cvB hs N f L s (q + 1) = true
  | 0, L, s, q, h => h
  | f + 1, L, s, 0, h => by
    simp only [cvB] at h ⊢
    rw [cv_q f L (s + 1) 0 h, Bool.true_or]
  | f + 1, L, s, q + 1, h => by
    simp only [cvB, Bool.or_eq_true] at h ⊢
    rcases h with h | h
    · exact Or.inl (cv_q f L (s + 1) (q + 1) h)
    · exact Or.inr (cv_q f (rmB hs L s) (s + 1) q h)
theorem cv_qq {f : Nat} {L : Nat → Bool} {s q : Nat} (h : cvB hs N f L s q = true) : ∀ r, q ≤ r → cvB hs N f L s r = true
  | 0, hr => by rw [show q = 0 by omega] at h; exact h
  | r + 1, hr => by
    by_cases he : q = r + 1
    · rw [← he]; exact h
    · exact cv_q f L s r (cv_qq h r (by omega))
theorem cv_sk {f : Nat} {L : Nat → Bool} {s : Nat} : ∀ q, cvB hs N f L (s + 1) q = true → cvB hs N (f + 1) L s q = true
  | 0, h => h
  | q + 1, h => by simp only [cvB, h, Bool.true_or]
theorem rm_rm (L : Nat → Bool) (s : Nat) : rmB hs (rmB hs L s) s = rmB hs L s := by
  funext k; simp only [rmB]; cases L k <;> cases hs k s <;> rfl
theorem rm_cm (L : Nat → Bool) (s t : Nat) : rmB hs (rmB hs L s) t = rmB hs (rmB hs L t) s := by
  funext k; simp only [rmB]; cases L k <;> cases hs k s <;> cases hs k t <;> rfl
theorem cv_in : ∀ f (L : Nat → Bool) s q t, s ≤ t → t < s + f → cvB hs N f (rmB hs L t) s q = true → cvB hs N f L s (q + 1) = true
  | 0, L, s, q, t, h1, h2, _ => by omega
  | f + 1, L, s, q, t, h1, h2, h => by
    simp only [cvB, Bool.or_eq_true]
    by_cases he : t = s
    · subst he
      refine Or.inr ?_
      cases q with
      | zero => exact h
      | succ q =>
        simp only [cvB, Bool.or_eq_true] at h
        rcases h with h | h
        · exact h
        · rw [rm_rm] at h; exact cv_q f _ _ _ h
    · cases q with
      | zero => exact Or.inl (cv_in f L (s + 1) 0 t (by omega) (by omega) h)
      | succ q =>
        simp only [cvB, Bool.or_eq_true] at h
        rcases h with h | h
        · exact Or.inl (cv_in f L (s + 1) (q + 1) t (by omega) (by omega) h)
        · rw [rm_cm] at h
          exact Or.inr (cv_in f (rmB hs L s) (s + 1) q t (by omega) (by omega) h)
theorem cv_ex {k : Nat} (hk : k < N) : ∀ f (L : Nat → Bool) s q, L k = true → cvB hs N f L s (q + 1) = true → ∃ t, s ≤ t ∧ t < s + f ∧ hs k t = true ∧ cvB hs N f (rmB hs L t) s q = true
  | 0, L, s, q, hL, h => by
    have h1 := (em_iff L N).mp h k hk
    rw [hL] at h1; exact absurd h1 (by decide)
  | f + 1, L, s, q, hL, h => by
    simp only [cvB, Bool.or_eq_true] at h
    rcases h with h | h
    · obtain ⟨t, h1, h2, h3, h4⟩ := cv_ex hk f L (s + 1) q hL h
      exact ⟨t, by omega, by omega, h3, cv_sk q h4⟩
    · cases hb : hs k s with
      | true => exact ⟨s, Nat.le_refl _, by omega, hb, cv_sk q h⟩
      | false =>
        have hL2 : rmB hs L s k = true := by simp [rmB, hL, hb]
        cases q with
        | zero =>
          rw [cv_q0] at h
          have h1 := (em_iff _ N).mp h k hk
          rw [hL2] at h1; exact absurd h1 (by decide)
        | succ q =>
          obtain ⟨t, h1, h2, h3, h4⟩ := cv_ex hk f (rmB hs L s) (s + 1) q hL2 h
          refine ⟨t, by omega, by omega, h3, ?_⟩
          simp only [cvB, Bool.or_eq_true]
          rw [rm_cm] at h4
          exact Or.inr h4
/-- sets as rows that grow -/
def InC (m n : Nat) (t : Nat → Nat) : Prop := (∀ i, i + 1 < n → t i < t (i + 1)) ∧ ∀ i, i < n → t i < m
def CvS (hs : Nat → Nat → Bool) (N : Nat) (L : Nat → Bool) (n : Nat) (t : Nat → Nat) : Prop := ∀ k, k < N → L k = true → ∃ i, i < n ∧ hs k (t i) = true
theorem in_mono {m n : Nat} {t : Nat → Nat} (h : InC m n t) : ∀ j i, i ≤ j → j < n → t i + (j - i) ≤ t j
  | 0, i, h1, h2 => by rw [show i = 0 by omega]; simp
  | j + 1, i, h1, h2 => by
    by_cases he : i = j + 1
    · subst he; simp
    · have ih := in_mono h j i (by omega) (by omega)
      have h3 := h.1 j h2
      omega
theorem cv_sq : ∀ f (L : Nat → Bool) s q, cvB hs N f L s q = true → ∃ r t, r ≤ q ∧ (∀ i, i + 1 < r → t i < t (i + 1)) ∧ (∀ i, i < r → s ≤ t i ∧ t i < s + f) ∧ CvS hs N L r t
  | 0, L, s, q, h => ⟨0, fun _ => 0, by omega, fun i hi => by omega, fun i hi => by omega, fun k hk hL => by
      have h1 := (em_iff L N).mp h k hk
      rw [hL] at h1; exact absurd h1 (by decide)⟩
  | f + 1, L, s, 0, h => by
    obtain ⟨r, t, h1, h2, h3, h4⟩ := cv_sq f L (s + 1) 0 h
    exact ⟨r, t, h1, h2, fun i hi => by have := h3 i hi; omega, h4⟩
  | f + 1, L, s, q + 1, h => by
    simp only [cvB, Bool.or_eq_true] at h
    rcases h with h | h
    · obtain ⟨r, t, h1, h2, h3, h4⟩ := cv_sq f L (s + 1) (q + 1) h
      exact ⟨r, t, h1, h2, fun i hi => by have := h3 i hi; omega, h4⟩
    · obtain ⟨r, t, h1, h2, h3, h4⟩ := cv_sq f (rmB hs L s) (s + 1) q h
      refine ⟨r + 1, fun i => if i = 0 then s else t (i - 1), by omega, ?_, ?_, ?_⟩
      · intro i hi
        by_cases h0 : i = 0
        · subst h0
          have h5 := h3 0 (by omega)
          simp only [if_pos]
          rw [if_neg (by omega)]
          show s < t (0 + 1 - 1)
          rw [show 0 + 1 - 1 = 0 by omega]; omega
        · have h5 := h2 (i - 1) (by omega)
          simp only
          rw [if_neg h0, if_neg (by omega), show i + 1 - 1 = i - 1 + 1 by omega]; exact h5
      · intro i hi
        simp only
        split
        · omega
        · have h5 := h3 (i - 1) (by omega); omega
      · intro k hk hL
        cases hb : hs k s with
        | true => exact ⟨0, by omega, hb⟩
        | false =>
          obtain ⟨i, h5, h6⟩ := h4 k hk (by simp [rmB, hL, hb])
          refine ⟨i + 1, by omega, ?_⟩
          simp only
          rw [if_neg (by omega)]
          exact h6
theorem sq_cv : ∀ f (L : Nat → Bool) s q r (t : Nat → Nat), r ≤ q → (∀ i, i + 1 < r → t i < t (i + 1)) → (∀ i, i < r → s ≤ t i ∧ t i < s + f) → CvS hs N L r t → cvB hs N f L s q = true
  | 0, L, s, q, r, t, h1, h2, h3, h4 => by
    have hr : r = 0 := by
      cases r with
      | zero => rfl
      | succ r => have := h3 0 (by omega); omega
    subst hr
    refine (em_iff L N).mpr (fun k hk => ?_)
    cases hL : L k with
    | false => rfl
    | true =>
      obtain ⟨i, h5, _⟩ := h4 k hk hL
      omega
  | f + 1, L, s, q, r, t, h1, h2, h3, h4 => by
    by_cases hr : r = 0
    · subst hr
      refine cv_em _ _ _ _ ((em_iff L N).mpr (fun k hk => ?_))
      cases hL : L k with
      | false => rfl
      | true =>
        obtain ⟨i, h5, _⟩ := h4 k hk hL
        omega
    · have hI : InC (s + (f + 1)) r t := ⟨h2, fun i hi => (h3 i hi).2⟩
      by_cases he : t 0 = s
      · cases q with
        | zero => omega
        | succ q =>
          simp only [cvB, Bool.or_eq_true]
          refine Or.inr (sq_cv f (rmB hs L s) (s + 1) q (r - 1) (fun i => t (i + 1)) (by omega) (fun i hi => h2 (i + 1) (by omega)) (fun i hi => ?_) ?_)
          · have h5 := in_mono hI (i + 1) 0 (by omega) (by omega)
            have h6 := h3 (i + 1) (by omega)
            show s + 1 ≤ t (i + 1) ∧ t (i + 1) < s + 1 + f
            omega
          · intro k hk hL
            simp only [rmB, Bool.and_eq_true, Bool.not_eq_true'] at hL
            obtain ⟨i, h5, h6⟩ := h4 k hk hL.1
            by_cases h0 : i = 0
            · subst h0; rw [he, hL.2] at h6; exact absurd h6 (by decide)
            · refine ⟨i - 1, by omega, ?_⟩
              simp only
              rw [show i - 1 + 1 = i by omega]; exact h6
      · refine cv_sk q (sq_cv f L (s + 1) q r t h1 h2 (fun i hi => ?_) h4)
        have h5 := in_mono hI i 0 (by omega) hi
        have h6 := h3 i hi
        have h7 := h3 0 (by omega)
        omega
def LxS (u t : Nat → Nat) (n : Nat) : Prop := ∃ j, j < n ∧ (∀ i, i < j → u i = t i) ∧ u j < t j
/-- the fewest, and the first set of so many -/
def IsF (hs : Nat → Nat → Bool) (N m : Nat) (L : Nat → Bool) (F : Nat) (t : Nat → Nat) : Prop := InC m F t ∧ CvS hs N L F t ∧ (∀ r u, r < F → InC m r u → ¬ CvS hs N L r u) ∧ (∀ u, InC m F u → CvS hs N L F u → ¬ LxS u t F)
theorem lx_tri (u t : Nat → Nat) : ∀ n, LxS u t n ∨ LxS t u n ∨ ∀ i, i < n → u i = t i
  | 0 => Or.inr (Or.inr (fun i hi => by omega))
  | n + 1 => by
    rcases lx_tri u t n with h | h | h
    · obtain ⟨j, h1, h2, h3⟩ := h; exact Or.inl ⟨j, by omega, h2, h3⟩
    · obtain ⟨j, h1, h2, h3⟩ := h; exact Or.inr (Or.inl ⟨j, by omega, h2, h3⟩)
    · rcases Nat.lt_trichotomy (u n) (t n) with h4 | h4 | h4
      · exact Or.inl ⟨n, by omega, h, h4⟩
      · refine Or.inr (Or.inr (fun i hi => ?_))
        by_cases he : i = n
        · subst he; exact h4
        · exact h i (by omega)
      · exact Or.inr (Or.inl ⟨n, by omega, fun i hi => (h i hi).symm, h4⟩)
/-- a row as a number -/
def nuN (t : Nat → Nat) : Nat → Nat
  | 0 => 0
  | n + 1 => nuN t n * 25 + t n
theorem nu_e {u t : Nat → Nat} : ∀ n, (∀ i, i < n → u i = t i) → nuN u n = nuN t n
  | 0, _ => rfl
  | n + 1, h => by simp only [nuN]; rw [nu_e n (fun i hi => h i (by omega)), h n (by omega)]
theorem nu_lt {u t : Nat → Nat} : ∀ n, (∀ i, i < n → u i < 25) → LxS u t n → nuN u n < nuN t n
  | 0, _, h => by obtain ⟨j, h1, _⟩ := h; omega
  | n + 1, hb, h => by
    obtain ⟨j, h1, h2, h3⟩ := h
    have hn := hb n (by omega)
    simp only [nuN]
    by_cases he : j = n
    · subst he; rw [nu_e j h2]; omega
    · have ih := nu_lt n (fun i hi => hb i (by omega)) ⟨j, by omega, h2, h3⟩
      omega
theorem lx_min {L : Nat → Bool} {m n : Nat} (hm : m ≤ 25) : ∀ B (t : Nat → Nat), nuN t n < B → InC m n t → CvS hs N L n t → ∃ u, InC m n u ∧ CvS hs N L n u ∧ ∀ w, InC m n w → CvS hs N L n w → ¬ LxS w u n
  | 0, t, h, _, _ => by omega
  | B + 1, t, h, h1, h2 => by
    by_cases hc : ∃ w, InC m n w ∧ CvS hs N L n w ∧ LxS w t n
    · obtain ⟨w, h3, h4, h5⟩ := hc
      have h6 := nu_lt n (fun i hi => Nat.lt_of_lt_of_le (h3.2 i hi) hm) h5
      exact lx_min hm B w (by omega) h3 h4
    · exact ⟨t, h1, h2, fun w h3 h4 h5 => hc ⟨w, h3, h4, h5⟩⟩
theorem isf_ex {L : Nat → Bool} {m : Nat} (hm : m ≤ 25) : ∀ n (t : Nat → Nat), InC m n t → CvS hs N L n t → ∃ F u, F ≤ n ∧ IsF hs N m L F u := by
  intro n
  induction n using Nat.strongRecOn with
  | ind n ih =>
    intro t h1 h2
    by_cases hc : ∃ r u, r < n ∧ InC m r u ∧ CvS hs N L r u
    · obtain ⟨r, u, h3, h4, h5⟩ := hc
      obtain ⟨F, w, h6, h7⟩ := ih r h3 u h4 h5
      exact ⟨F, w, by omega, h7⟩
    · obtain ⟨u, h3, h4, h5⟩ := lx_min hm (nuN t n + 1) t (by omega) h1 h2
      exact ⟨n, u, Nat.le_refl _, h3, h4, fun r w h6 h7 h8 => hc ⟨r, w, h6, h7, h8⟩, h5⟩
theorem isf_u {L : Nat → Bool} {m F G : Nat} {t u : Nat → Nat} (h : IsF hs N m L F t) (h2 : IsF hs N m L G u) : G = F ∧ ∀ i, i < F → u i = t i := by
  have hFG : G = F := by
    rcases Nat.lt_trichotomy G F with h3 | h3 | h3
    · exact absurd h2.2.1 (h.2.2.1 G u h3 h2.1)
    · exact h3
    · exact absurd h.2.1 (h2.2.2.1 F t h3 h.1)
  subst hFG
  refine ⟨rfl, ?_⟩
  rcases lx_tri u t G with h3 | h3 | h3
  · exact absurd h3 (h.2.2.2 u h2.1 h2.2.1)
  · exact absurd h3 (h2.2.2.2 t h.1 h.2.1)
  · exact h3
/-- the class's search: how many -/
theorem fw_0 {L : Nat → Bool} {m F n : Nat} {t : Nat → Nat} (h : IsF hs N m L F t) (hn : n < F) : cvB hs N m L 0 n = false := by
  cases hb : cvB hs N m L 0 n with
  | false => rfl
  | true =>
    obtain ⟨r, u, h1, h2, h3, h4⟩ := cv_sq m L 0 n hb
    exact absurd h4 (h.2.2.1 r u (by omega) ⟨h2, fun i hi => by have := h3 i hi; omega⟩)
theorem fw_1 {L : Nat → Bool} {m F : Nat} {t : Nat → Nat} (h : IsF hs N m L F t) : cvB hs N m L 0 F = true :=
  sq_cv m L 0 F F t (Nat.le_refl _) h.1.1 (fun i hi => by have := h.1.2 i hi; omega) h.2.1
/-- those left behind the first j of a row -/
def lfB (hs : Nat → Nat → Bool) (L : Nat → Bool) (t : Nat → Nat) : Nat → Nat → Bool
  | 0 => L
  | j + 1 => rmB hs (lfB hs L t j) (t j)
theorem lf_iff {L : Nat → Bool} {t : Nat → Nat} {k : Nat} : ∀ j, lfB hs L t j k = true ↔ L k = true ∧ ∀ i, i < j → hs k (t i) = false
  | 0 => by simp [lfB]
  | j + 1 => by
    simp only [lfB, rmB, Bool.and_eq_true, lf_iff j, Bool.not_eq_true']
    constructor
    · rintro ⟨⟨h1, h2⟩, h3⟩
      refine ⟨h1, fun i hi => ?_⟩
      by_cases he : i = j
      · subst he; exact h3
      · exact h2 i (by omega)
    · rintro ⟨h1, h2⟩
      exact ⟨⟨h1, fun i hi => h2 i (by omega)⟩, h2 j (by omega)⟩
/-- a row, its first j kept, then c, then u -/
def ctF (t : Nat → Nat) (j c : Nat) (u : Nat → Nat) : Nat → Nat := fun i => if i < j then t i else if i = j then c else u (i - j - 1)
theorem grq_1 {L : Nat → Bool} {m F j c r : Nat} {t u : Nat → Nat} (h : IsF hs N m L F t) (hj : j < F) (ha : ∀ i, i < j → t i < c) (hc : c < m) (hr : r ≤ F - j - 1) (h2 : ∀ i, i + 1 < r → u i < u (i + 1)) (h3 : ∀ i, i < r → c + 1 ≤ u i ∧ u i < m) (h4 : CvS hs N (rmB hs (lfB hs L t j) c) r u) (hb : c ≤ t j) : c = t j := by
  have hI : InC m (j + 1 + r) (ctF t j c u) := by
    refine ⟨fun i hi => ?_, fun i hi => ?_⟩
    · simp only [ctF]
      rcases Nat.lt_trichotomy (i + 1) j with h5 | h5 | h5
      · rw [if_pos (by omega), if_pos h5]; exact h.1.1 i (by omega)
      · rw [if_pos (by omega), if_neg (by omega), if_pos h5]; exact ha i (by omega)
      · by_cases h6 : i = j
        · rw [if_neg (by omega), if_pos h6, if_neg (by omega), if_neg (by omega)]
          have := h3 (i + 1 - j - 1) (by omega); omega
        · rw [if_neg (by omega), if_neg h6, if_neg (by omega), if_neg (by omega), show i + 1 - j - 1 = i - j - 1 + 1 by omega]
          exact h2 _ (by omega)
    · simp only [ctF]
      split
      · exact h.1.2 i (by omega)
      · split
        · exact hc
        · exact (h3 _ (by omega)).2
  have hC : CvS hs N L (j + 1 + r) (ctF t j c u) := by
    intro k hk hL
    by_cases h5 : ∃ i, i < j ∧ hs k (t i) = true
    · obtain ⟨i, h6, h7⟩ := h5
      exact ⟨i, by omega, by simp only [ctF]; rw [if_pos h6]; exact h7⟩
    · cases h6 : hs k c with
      | true => exact ⟨j, by omega, by simp only [ctF]; rw [if_neg (by omega), if_pos trivial]; exact h6⟩
      | false =>
        have h7 : lfB hs L t j k = true := (lf_iff j).mpr ⟨hL, fun i hi => by
          cases h8 : hs k (t i) with
          | false => rfl
          | true => exact absurd ⟨i, hi, h8⟩ h5⟩
        obtain ⟨i, h8, h9⟩ := h4 k hk (by simp [rmB, h7, h6])
        exact ⟨j + 1 + i, by omega, by simp only [ctF]; rw [if_neg (by omega), if_neg (by omega), show j + 1 + i - j - 1 = i by omega]; exact h9⟩
  by_cases hl : j + 1 + r < F
  · exact absurd hC (h.2.2.1 _ _ hl hI)
  · have hF : j + 1 + r = F := by omega
    rw [hF] at hI hC
    rcases Nat.lt_or_ge c (t j) with h5 | h5
    · exact absurd ⟨j, hj, fun i hi => by simp only [ctF]; rw [if_pos hi], by simp only [ctF]; rw [if_neg (by omega), if_pos trivial]; exact h5⟩ (h.2.2.2 _ hI hC)
    · omega
theorem grq_0 {L : Nat → Bool} {m F j c r : Nat} {t u : Nat → Nat} (h : IsF hs N m L F t) (hj : j < F) (ha : ∀ i, i < j → t i < c) (hr : r ≤ F - j - 1) (h2 : ∀ i, i + 1 < r → u i < u (i + 1)) (h3 : ∀ i, i < r → c ≤ u i ∧ u i < m) (h4 : CvS hs N (lfB hs L t j) r u) : False := by
  have hI : InC m (j + r) (fun i => if i < j then t i else u (i - j)) := by
    refine ⟨fun i hi => ?_, fun i hi => ?_⟩
    · simp only
      rcases Nat.lt_trichotomy (i + 1) j with h5 | h5 | h5
      · rw [if_pos (by omega), if_pos h5]; exact h.1.1 i (by omega)
      · rw [if_pos (by omega), if_neg (by omega)]
        have h6 := ha i (by omega)
        have h7 := h3 (i + 1 - j) (by omega)
        omega
      · rw [if_neg (by omega), if_neg (by omega), show i + 1 - j = i - j + 1 by omega]
        exact h2 _ (by omega)
    · simp only
      split
      · exact h.1.2 i (by omega)
      · exact (h3 _ (by omega)).2
  refine h.2.2.1 _ _ (by omega) hI ?_
  intro k hk hL
  by_cases h5 : ∃ i, i < j ∧ hs k (t i) = true
  · obtain ⟨i, h6, h7⟩ := h5
    exact ⟨i, by omega, by simp only; rw [if_pos h6]; exact h7⟩
  · have h7 : lfB hs L t j k = true := (lf_iff j).mpr ⟨hL, fun i hi => by
      cases h8 : hs k (t i) with
      | false => rfl
      | true => exact absurd ⟨i, hi, h8⟩ h5⟩
    obtain ⟨i, h8, h9⟩ := h4 k hk h7
    exact ⟨j + i, by omega, by simp only; rw [if_neg (by omega), show j + i - j = i by omega]; exact h9⟩
/-- the rest of the row has what is left -/
theorem grq_t {L : Nat → Bool} {m F j : Nat} {t : Nat → Nat} (h : IsF hs N m L F t) (hj : j < F) : CvS hs N (rmB hs (lfB hs L t j) (t j)) (F - j - 1) (fun i => t (i + j + 1)) := by
  intro k hk hL
  have h1 : lfB hs L t (j + 1) k = true := hL
  have h2 := (lf_iff (j + 1)).mp h1
  obtain ⟨i, h3, h4⟩ := h.2.1 k hk h2.1
  by_cases h5 : i < j + 1
  · rw [h2.2 i h5] at h4; exact absurd h4 (by decide)
  · refine ⟨i - j - 1, by omega, ?_⟩
    simp only
    rw [show i - j - 1 + j + 1 = i by omega]; exact h4
end COV
/-! those of a kind, one behind the other -/
def cnP (P : Nat → Bool) : Nat → Nat
  | 0 => 0
  | n + 1 => cnP P n + b2n (P n)
def enP (P : Nat → Bool) : Nat → Nat → Nat
  | 0 => fun _ => 0
  | n + 1 => if P n = true then up1 (enP P n) (cnP P n) n else enP P n
section ENP
variable {P : Nat → Bool}
theorem cp_t {n : Nat} (h : P n = true) : cnP P (n + 1) = cnP P n + 1 := by simp only [cnP, h]; rfl
theorem cp_f {n : Nat} (h : P n = false) : cnP P (n + 1) = cnP P n := by simp only [cnP, h]; rfl
theorem ep_t {n : Nat} (h : P n = true) : enP P (n + 1) = up1 (enP P n) (cnP P n) n := if_pos h
theorem ep_f {n : Nat} (h : P n = false) : enP P (n + 1) = enP P n := if_neg (by rw [h]; decide)
theorem cp_le (P : Nat → Bool) : ∀ n, cnP P n ≤ n
  | 0 => Nat.le_refl _
  | n + 1 => by have := cp_le P n; have := b2n_le (P n); simp only [cnP]; omega
theorem cp_m (P : Nat → Bool) {a : Nat} : ∀ b, a ≤ b → cnP P a ≤ cnP P b
  | 0, h => by rw [show a = 0 by omega]; exact Nat.le_refl _
  | b + 1, h => by
    by_cases he : a = b + 1
    · subst he; exact Nat.le_refl _
    · exact Nat.le_trans (cp_m P (a := a) b (by omega)) (Nat.le_add_right _ _)
theorem ep_ok (P : Nat → Bool) : ∀ n i, i < cnP P n → enP P n i < n ∧ P (enP P n i) = true ∧ cnP P (enP P n i) = i
  | 0, i, h => by simp [cnP] at h
  | n + 1, i, h => by
    cases hb : P n with
    | false =>
      rw [cp_f hb] at h
      rw [ep_f hb]
      have := ep_ok P n i h
      exact ⟨by omega, this.2⟩
    | true =>
      rw [cp_t hb] at h
      rw [ep_t hb]
      by_cases he : i = cnP P n
      · subst he; rw [up1_s]; exact ⟨by omega, hb, rfl⟩
      · rw [up1_n he]
        have := ep_ok P n i (by omega)
        exact ⟨by omega, this.2⟩
theorem ep_k {k : Nat} (hP : P k = true) : ∀ n, k < n → cnP P k < cnP P n ∧ enP P n (cnP P k) = k
  | 0, h => by omega
  | n + 1, h => by
    by_cases he : k = n
    · subst he
      rw [cp_t hP, ep_t hP, up1_s]
      exact ⟨by omega, rfl⟩
    · have ih := ep_k hP n (by omega)
      cases hb : P n with
      | false => rw [cp_f hb, ep_f hb]; exact ih
      | true => rw [cp_t hb, ep_t hb, up1_n (by omega)]; exact ⟨by omega, ih.2⟩
theorem ep_lt {n i j : Nat} (hi : i < j) (hj : j < cnP P n) : enP P n i < enP P n j := by
  have h1 := ep_ok P n i (by omega)
  have h2 := ep_ok P n j hj
  rcases Nat.lt_or_ge (enP P n i) (enP P n j) with h | h
  · exact h
  · have := cp_m P _ h
    omega
end ENP
/-! the places of a wheel's teeth, one behind the other; who has a tooth -/
def rlB (bx : Nat → Nat) (s : Nat) : Bool := decide (s / 6 < bx 0 ∧ s % 6 < bx (5 + s / 6))
def hsN (bx nw : Nat → Nat) (k s : Nat) : Bool := decide (s / 6 < bx 0 ∧ tooN bx (nw (16 + k)) (s / 6) = s % 6)
def mnN (bx : Nat → Nat) : Nat := cnP (rlB bx) 24
def slP (bx : Nat → Nat) (j : Nat) : Nat := enP (rlB bx) 24 j
/-- the same by the number of a tooth -/
def hcN (bx nw : Nat → Nat) (k j : Nat) : Bool := hsN bx nw k (slP bx j)
def cdN (bx : Nat → Nat) (j : Nat) : Nat := slP bx j / 6 * 10 + slP bx j % 6
theorem hs_rl {bx nw : Nat → Nat} (hB : BxOk bx) {k s : Nat} (h : rlB bx s = false) : hsN bx nw k s = false := by
  simp only [rlB, decide_eq_false_iff_not] at h
  simp only [hsN, decide_eq_false_iff_not]
  rintro ⟨h1, h2⟩
  have ht := hB.t _ h1
  have h3 : tooN bx (nw (16 + k)) (s / 6) < bx (5 + s / 6) := Nat.mod_lt _ (by omega)
  exact h ⟨h1, by omega⟩
theorem cv_sl {bx : Nat → Nat} {hs : Nat → Nat → Bool} {N : Nat} (h0 : ∀ k s, rlB bx s = false → hs k s = false) : ∀ f (L : Nat → Bool) s q, f + s = 24 → cvB hs N f L s q = cvB (fun k j => hs k (slP bx j)) N (mnN bx - cnP (rlB bx) s) L (cnP (rlB bx) s) q
  | 0, L, s, q, h => by
    rw [show s = 24 by omega]
    simp only [mnN, Nat.sub_self]; rfl
  | f + 1, L, s, q, h => by
    have ih := fun L q => cv_sl (hs := hs) (N := N) h0 f L (s + 1) q (by omega)
    cases hb : rlB bx s with
    | false =>
      rw [cp_f hb] at ih
      have e : rmB hs L s = L := by
        funext k; simp [rmB, h0 k s hb]
      cases q with
      | zero => simp only [cvB]; exact ih L 0
      | succ q =>
        simp only [cvB]
        rw [e, ← ih L (q + 1)]
        cases hq : cvB hs N f L (s + 1) q with
        | false => rw [Bool.or_false]
        | true => rw [cv_q _ _ _ _ hq]; rfl
    | true =>
      have hk := ep_k hb 24 (by omega)
      rw [cp_t hb] at ih
      obtain ⟨d, hd⟩ : ∃ d, mnN bx - cnP (rlB bx) s = d + 1 := ⟨mnN bx - cnP (rlB bx) s - 1, by have : cnP (rlB bx) s < mnN bx := hk.1; omega⟩
      rw [hd]
      rw [show mnN bx - (cnP (rlB bx) s + 1) = d by omega] at ih
      cases q with
      | zero => simp only [cvB]; exact ih L 0
      | succ q =>
        simp only [cvB]
        rw [ih L (q + 1), ih (rmB hs L s) q]
        have e : rmB (fun k j => hs k (slP bx j)) L (cnP (rlB bx) s) = rmB hs L s := by
          funext k; simp only [rmB, slP]; rw [hk.2]
        rw [e]
/-- the fewest teeth of a person, and the first set of them -/
def IsT (bx nw : Nat → Nat) (y F : Nat) (t : Nat → Nat) : Prop := IsF (hcN bx nw) (nw 2) (mnN bx) (fun k => decide (nw (40 + k) = y)) F t
theorem mn_le (bx : Nat → Nat) : mnN bx ≤ 24 := cp_le _ 24
theorem sl_id {bx : Nat → Nat} (hB : BxOk bx) : ∀ i, i < bx 5 → cnP (rlB bx) i = i ∧ rlB bx i = true := by
  intro i
  have hw := hB.w
  have ht := hB.t 0 (by omega)
  have hr : ∀ i, i < bx 5 → rlB bx i = true := by
    intro i hi
    have ht2 : bx (5 + 0) ≤ 6 := ht.2.1
    rw [Nat.add_zero] at ht2
    simp only [rlB, decide_eq_true_eq]
    rw [Nat.div_eq_of_lt (by omega), Nat.mod_eq_of_lt (by omega)]
    exact ⟨by omega, by simpa using hi⟩
  induction i with
  | zero => intro h; exact ⟨rfl, hr 0 h⟩
  | succ i ih =>
    intro h
    have h1 := ih (by omega)
    exact ⟨by rw [cp_t h1.2, h1.1], hr _ h⟩
theorem ist_ex {bx nw : Nat → Nat} (hB : BxOk bx) (y : Nat) : ∃ F t, F ≤ 6 ∧ F ≤ mnN bx ∧ IsT bx nw y F t := by
  have hw := hB.w
  have ht := hB.t 0 (by omega)
  rw [Nat.add_zero] at ht
  have hi : ∀ i, i < bx 5 → i < mnN bx ∧ slP bx i = i := by
    intro i hi
    have h1 := sl_id hB i hi
    have h2 := ep_k h1.2 24 (by omega)
    rw [h1.1] at h2
    exact h2
  have hm : bx 5 ≤ mnN bx := by
    have := (hi (bx 5 - 1) (by omega)).1; omega
  obtain ⟨F, u, h1, h2⟩ := isf_ex (hs := hcN bx nw) (N := nw 2) (L := fun k => decide (nw (40 + k) = y)) (m := mnN bx) (Nat.le_trans (mn_le bx) (by omega)) (bx 5) (fun i => i) ⟨fun i _ => Nat.lt_succ_self i, fun i hi2 => (hi i hi2).1⟩ (fun k _ _ => by
    have h3 : tooN bx (nw (16 + k)) 0 < bx 5 := by
      have : tooN bx (nw (16 + k)) 0 < bx (5 + 0) := Nat.mod_lt _ (by rw [Nat.add_zero]; omega)
      rw [Nat.add_zero] at this; exact this
    refine ⟨tooN bx (nw (16 + k)) 0, h3, ?_⟩
    simp only [hcN]
    rw [(hi _ h3).2]
    simp only [hsN, decide_eq_true_eq]
    rw [Nat.div_eq_of_lt (by omega), Nat.mod_eq_of_lt (by omega)]
    exact ⟨by omega, rfl⟩)
  exact ⟨F, u, by omega, by omega, h2⟩

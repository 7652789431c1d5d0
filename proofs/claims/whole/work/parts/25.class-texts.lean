
section CST
variable {p : Program} {l : Launch} {e : Env} {R : Room} {s : State} {m : MethodId} {args : Array Value} {below : List Frame} {meth : Method} {c : Code} {H : Heap} {locs : List Loc} {cells slots : Nat} {Q : State → Prop}
variable {cc : ByteArray} {pc : Nat} {ls : Array Slot} {rest : List Value} {D : va_G} {cl : List vw_C} {TY : List (ClassId × FieldType)} {ws : va_W} {adr : Nat} {A : Nat → Prop} {H0 : Heap}
theorem i2c_all : ∀ j, j < 128 → ((nI j).toUInt32 % 65536).toInt32 = nI j ∧ vp_nar .char (nI j) = nI j := by decide +kernel
theorem i2c_e {j : Nat} (h : j < 128) : ((nI j).toUInt32 % 65536).toInt32 = nI j := (i2c_all j h).1
theorem n_cast (hx : p.tables.exec = Jvm.exec) (hb : c.code = cc) (hK : va_K D cl TY s) (hP : va_P D cl ws H) (hD : va_D A ws) (hS : va_S A H0 H locs) (q0 t0 : Nat) {cA : ClassId} {n : Nat} {g : Nat → Nat} (ha : ws[q0]? = some (adr, .inl (cA, n, .inl (fun j => nI (g j))))) (ht : TY[t0]? = some (cA, .char)) {i v : Nat} (hdg : decode cc pc = .ok (.castore, 1)) (hn : n < 2147483648) (hi : i < n) (hv : v < 128)
    (k : ∀ (H : Heap) (locs : List Loc), va_P D cl (ws.set q0 (adr, .inl (cA, n, .inl (fun j => nI (up1 g i v j))))) H → va_D A (ws.set q0 (adr, .inl (cA, n, .inl (fun j => nI (up1 g i v j))))) → va_S A H0 H locs → W p l e R s m args below meth c H locs cells slots Q (F0 m (pc + 1) ls (rest))) : W p l e R s m args below meth c H locs cells slots Q (F0 m pc ls (.int (nI v) :: .int (nI i) :: .ref adr :: rest)) := by
  refine va_cast hx hb hK hP hD hS q0 t0 ha ht (vp_in_nI hi (by omega)) hdg (fun H1 locs1 hP1 hD1 hS1 => ?_)
  rw [(i2c_all v hv).2, up1_upd g i v (by omega)] at hP1 hD1
  exact k H1 locs1 hP1 hD1 hS1
end CST
theorem inR_hj {x : Int32} (a : Nat) {b : Nat} (hb : b < 2147483648) (h : ¬ x ≤ nI b) : inR x a b = false := by
  simp only [inR, decide_eq_false_iff_not]
  rw [fa_le, nI_toInt (by omega)] at h
  omega
theorem inR_mj {x : Int32} {a b : Nat} (ha : a < 2147483648) (hb : b < 2147483648) (h : ¬ x < nI a) (h2 : x ≤ nI b) : inR x a b = true := by
  simp only [inR, decide_eq_true_eq]
  rw [fa_lt, nI_toInt (by omega)] at h
  rw [fa_le, nI_toInt (by omega)] at h2
  omega
def ltN (tx : Nat → Nat) (z p : Nat) : Nat := if p < z then tx p else 0
section LTN
variable {tx rd : Nat → Nat} {z p c : Nat}
theorem lt_lt (htx : ∀ j, tx j < 128) : ltN tx z p < 128 := by
  simp only [ltN]; split
  · exact htx p
  · omega
theorem lt_p (h : p < z) : ltN tx z p = tx p := if_pos h
theorem fg_0 (h : ltN tx z p < 48) : dgB tx z p = false := by
  simp only [ltN] at h
  simp only [dgB, decide_eq_false_iff_not]
  split at h <;> omega
theorem fg_1 (h : 57 < ltN tx z p) : dgB tx z p = false := by
  simp only [ltN] at h
  simp only [dgB, decide_eq_false_iff_not]
  split at h <;> omega
theorem fg_2 (h : 48 ≤ ltN tx z p) (h2 : ltN tx z p ≤ 57) : dgB tx z p = true ∧ ltN tx z p = tx p := by
  simp only [ltN] at h h2 ⊢
  simp only [dgB, decide_eq_true_eq]
  split at h
  · rename_i h3; rw [if_pos h3] at h2 ⊢; omega
  · omega
theorem lt_c (hc : 0 < c) (h : ltN tx z p = c) : ctB tx z p c = true := by
  simp only [ltN] at h
  simp only [ctB, decide_eq_true_eq]
  split at h <;> omega
theorem lt_d (hc : 0 < c) (h : ltN tx z p ≠ c) : ctB tx z p c = false := by
  simp only [ltN] at h
  simp only [ctB, decide_eq_false_iff_not]
  split at h <;> omega
theorem rw_le (tx : Nat → Nat) (z p : Nat) : rnW tx z p ≤ 2 := by simp only [rnW]; split <;> omega
theorem rv_le (htx : ∀ j, tx j < 128) (z p : Nat) : rnV tx z p ≤ 1000 := by
  have h1 := htx p
  have h2 := htx (p + 1)
  simp only [rnV]; split <;> omega
theorem rn_lt (h : rnB tx z p c = true) : p + rnW tx z p < z := by
  simp only [rnB, Bool.and_eq_true] at h
  exact cx_lt h.2
theorem nm_o {x : Nat} (h : x < 111 ∨ 120 < x ∨ (112 < x ∧ x < 119)) : 0 = nmO x := by
  simp only [nmO]
  rw [if_neg (by omega), if_neg (by omega), if_neg (by omega), if_neg (by omega)]
theorem tk_out {k : Nat} {v : Nat → Nat} (h : k < 111 ∨ 120 < k ∨ (112 < k ∧ k < 119)) : tkB rd k v = false := by
  simp only [tkB]
  rw [if_neg (by omega), if_neg (by omega), if_neg (by omega), if_neg (by omega)]
theorem tkB_c {k : Nat} {v v2 : Nat → Nat} (h : ∀ j, j < nmO k → v j = v2 j) : tkB rd k v = tkB rd k v2 := by
  simp only [tkB]
  simp only [nmO] at h
  by_cases h1 : k = 119
  · rw [if_pos h1] at h ⊢; rw [if_pos h1, h 0 (by omega), h 1 (by omega), h 2 (by omega)]
  · rw [if_neg h1] at h ⊢; rw [if_neg h1]
    by_cases h2 : k = 120
    · rw [if_pos h2] at h ⊢; rw [if_pos h2, h 0 (by omega), h 1 (by omega), h 2 (by omega), h 3 (by omega)]
    · rw [if_neg h2] at h ⊢; rw [if_neg h2]
      by_cases h3 : k = 112
      · rw [if_pos h3] at h ⊢; rw [if_pos h3, h 0 (by omega)]
      · rw [if_neg h3] at h ⊢; rw [if_neg h3]
        by_cases h4 : k = 111
        · rw [if_pos h4] at h ⊢; rw [if_pos h4, h 0 (by omega)]
        · rw [if_neg h4, if_neg h4]
theorem tkR_c {k : Nat} {v v2 : Nat → Nat} (_ : tkB rd k v = true) (h : ∀ j, j < nmO k → v j = v2 j) : tkR rd k v = tkR rd k v2 := by
  simp only [tkR]
  simp only [nmO] at h
  by_cases h1 : k = 119
  · rw [if_pos h1] at h ⊢; rw [if_pos h1, h 0 (by omega), h 1 (by omega), h 2 (by omega)]
  · rw [if_neg h1] at h ⊢; rw [if_neg h1]
    by_cases h2 : k = 120
    · rw [if_pos h2] at h ⊢; rw [if_pos h2, h 0 (by omega), h 1 (by omega), h 2 (by omega), h 3 (by omega)]
    · rw [if_neg h2] at h ⊢; rw [if_neg h2]
      by_cases h3 : k = 112
      · rw [if_pos h3] at h ⊢; rw [if_pos h3, h 0 (by omega)]
      · rw [if_neg h3] at h ⊢; rw [if_neg h3]
        by_cases h4 : k = 111
        · rw [if_pos h4] at h ⊢; rw [if_pos h4, h 0 (by omega), h 1 (by omega)]
        · rw [if_neg h4, if_neg h4]
theorem it_n (h : nmO (tx p) = 0) : itB tx z p rd = false := by
  cases hb : itB tx z p rd with
  | false => rfl
  | true =>
    simp only [itB, Bool.and_eq_true] at hb
    have := tk_nm hb.2
    omega
theorem it_f (h : tkB rd (tx p) (fun j_ => rnV tx z (npN tx z (p + 1) j_)) = false) : itB tx z p rd = false := by simp only [itB, h, Bool.and_false]
theorem it_b (h : nbB tx z (p + 1) (nmO (tx p)) (nmO (tx p)) = false) : itB tx z p rd = false := by simp only [itB, h, Bool.false_and]
theorem it_t (h0 : nbB tx z (p + 1) (nmO (tx p)) (nmO (tx p)) = true) (h : tkB rd (tx p) (fun j_ => rnV tx z (npN tx z (p + 1) j_)) = true) : itB tx z p rd = true := by simp only [itB, h, h0]; rfl
end LTN
/-- a plan of the class tells a row, so far -/
def PlW (bx te ps pu sd cj ta : Nat → Nat) : Prop := BxW bx ∧ (∀ i, i < bx 0 → te i = bx (5 + i) ∧ ps i = bx (9 + i) ∧ pu i = bx (13 + i) ∧ sd i = szN bx i) ∧ (∀ k, k < bx 2 → cj k = 2 ^ (bx (22 + k) * 6 + bx (30 + k)) ||| 2 ^ (bx (38 + k) * 6 + bx (46 + k))) ∧ (∀ y, y < bx 1 → ta y = bx (17 + y))
section PLW
variable {rd te ps pu sd cj ta : Nat → Nat} {x y w v : Nat}
theorem plw_r (h : PlW rd te ps pu sd cj ta) (h1 : 1 ≤ rd 0) : PlR rd te ps pu sd cj ta := ⟨h.1.ok h1, h.2⟩
theorem cl_pw : PlW clN te ps pu sd cj ta := ⟨cl_w, fun i hi => absurd hi (Nat.not_lt_zero i), fun i hi => absurd hi (Nat.not_lt_zero i), fun i hi => absurd hi (Nat.not_lt_zero i)⟩
theorem sz_cg {f g : Nat → Nat} : ∀ n, (∀ i, i < n → f (5 + i) = g (5 + i)) → szN f n = szN g n
  | 0, _ => rfl
  | n + 1, h => by simp only [szN]; rw [sz_cg n (fun i hi => h i (by omega)), h n (by omega)]
theorem tlt_lt {i t : Nat} (hW : BxW rd) (h : tltB rd i t = true) : i < rd 0 ∧ t < rd (5 + i) ∧ i < 4 ∧ t < 6 := by
  simp only [tltB, decide_eq_true_eq] at h
  have hw := hW.w
  have ht := hW.2.2.1 i h.1
  omega
theorem wok_0 (h : rd 0 = 4 ∨ x < 2 ∨ 6 < x ∨ x ≤ y ∨ x ≤ w) : wokB rd x y w = false := by
  simp only [wokB, decide_eq_false_iff_not]; omega
theorem wok_1 (h : rd 0 ≠ 4 ∧ 2 ≤ x ∧ x ≤ 6 ∧ y < x ∧ w < x) : wokB rd x y w = true := by
  simp only [wokB, decide_eq_true_eq]; omega
theorem pok_0 (h : rd 2 = 8) : pokB rd x y w v = false := by simp [pokB, h]
theorem pok_1 (h : x = w) : pokB rd x y w v = false := by simp [pokB, h]
theorem pok_2 (h : tltB rd x y = false) : pokB rd x y w v = false := by simp [pokB, h]
theorem pok_3 (h : tltB rd w v = false) : pokB rd x y w v = false := by simp [pokB, h]
theorem pok_t (h : rd 2 ≠ 8) (h2 : x ≠ w) (h3 : tltB rd x y = true) (h4 : tltB rd w v = true) : pokB rd x y w v = true := by simp [pokB, h, h2, h3, h4]
theorem sok_0 (h : rd 1 = 5 ∨ 31 < x) : sokB rd x = false := by simp only [sokB, decide_eq_false_iff_not]; omega
theorem sok_1 (h : rd 1 ≠ 5 ∧ x ≤ 31) : sokB rd x = true := by simp only [sokB, decide_eq_true_eq]; omega
theorem ook_0 (h : 9 < x) : ookB x = false := by simp only [ookB, decide_eq_false_iff_not]; omega
theorem ook_1 (h : x ≤ 9) : ookB x = true := by simp only [ookB, decide_eq_true_eq]; omega
theorem wr_o (hw : rd 0 ≤ 4) {j : Nat} (h0 : j ≠ 0) (h1 : j ≠ 5 + rd 0) (h2 : j ≠ 9 + rd 0) (h3 : j ≠ 13 + rd 0) : wrdN rd x y w j = rd j := by
  simp only [wrdN]; rw [up1_n h0, up1_n h3, up1_n h2, up1_n h1]
theorem wr_v (hw : rd 0 ≤ 4) : wrdN rd x y w 0 = rd 0 + 1 ∧ wrdN rd x y w 2 = rd 2 ∧ wrdN rd x y w 1 = rd 1 ∧ wrdN rd x y w 3 = rd 3 ∧ wrdN rd x y w 4 = rd 4 :=
  ⟨up1_s _ _ _, wr_o hw (by omega) (by omega) (by omega) (by omega), wr_o hw (by omega) (by omega) (by omega) (by omega), wr_o hw (by omega) (by omega) (by omega) (by omega), wr_o hw (by omega) (by omega) (by omega) (by omega)⟩
theorem wr_5 (hw : rd 0 ≤ 4) : wrdN rd x y w (5 + rd 0) = x ∧ wrdN rd x y w (9 + rd 0) = y ∧ wrdN rd x y w (13 + rd 0) = w := by
  simp only [wrdN]
  refine ⟨?_, ?_, ?_⟩
  · rw [up1_n (by omega), up1_n (by omega), up1_n (by omega), up1_s]
  · rw [up1_n (by omega), up1_n (by omega), up1_s]
  · rw [up1_n (by omega), up1_s]
theorem wr_szi (hw : rd 0 ≤ 4) {i : Nat} (hi : i ≤ rd 0) : szN (wrdN rd x y w) i = szN rd i := sz_cg i (fun j hj => wr_o hw (by omega) (by omega) (by omega) (by omega))
theorem wr_sz (hw : rd 0 ≤ 4) : szN (wrdN rd x y w) (rd 0 + 1) = szN rd (rd 0) * x := by
  show szN (wrdN rd x y w) (rd 0) * wrdN rd x y w (5 + rd 0) = _
  rw [wr_szi hw (Nat.le_refl _), (wr_5 hw).1]
theorem plw_w (h : PlW rd te ps pu sd cj ta) (hok : wokB rd x y w = true) : PlW (wrdN rd x y w) (up1 te (rd 0) x) (up1 ps (rd 0) y) (up1 pu (rd 0) w) (up1 sd (rd 0) (szN rd (rd 0))) cj ta := by
  have hw := h.1.w
  have hok2 := hok
  simp only [wokB, decide_eq_true_eq] at hok2
  refine ⟨wrd_w h.1 hok, ?_, ?_, ?_⟩
  · rw [(wr_v hw).1]
    intro i hi
    by_cases he : i = rd 0
    · subst he
      rw [up1_s, up1_s, up1_s, up1_s, (wr_5 hw).1, (wr_5 hw).2.1, (wr_5 hw).2.2, wr_szi hw (Nat.le_refl _)]
      exact ⟨rfl, rfl, rfl, rfl⟩
    · rw [up1_n he, up1_n he, up1_n he, up1_n he, wr_o hw (by omega) (by omega) (by omega) (by omega), wr_o hw (by omega) (by omega) (by omega) (by omega), wr_o hw (by omega) (by omega) (by omega) (by omega), wr_szi hw (by omega)]
      exact h.2.1 i (by omega)
  · rw [(wr_v hw).2.1]
    intro k hk
    rw [wr_o hw (by omega) (by omega) (by omega) (by omega), wr_o hw (by omega) (by omega) (by omega) (by omega), wr_o hw (by omega) (by omega) (by omega) (by omega), wr_o hw (by omega) (by omega) (by omega) (by omega)]
    exact h.2.2.1 k hk
  · rw [(wr_v hw).2.2.1]
    intro k hk
    rw [wr_o hw (by omega) (by omega) (by omega) (by omega)]
    exact h.2.2.2 k hk
theorem prd_o {j : Nat} (h0 : j ≠ 2) (h1 : j ≠ 22 + rd 2) (h2 : j ≠ 30 + rd 2) (h3 : j ≠ 38 + rd 2) (h4 : j ≠ 46 + rd 2) : prdN rd x y w v j = rd j := by
  simp only [prdN]; rw [up1_n h0, up1_n h4, up1_n h3, up1_n h2, up1_n h1]
theorem prd_l {j : Nat} (h : j < 22) (h0 : j ≠ 2) : prdN rd x y w v j = rd j := prd_o h0 (by omega) (by omega) (by omega) (by omega)
theorem prd_v : prdN rd x y w v 0 = rd 0 ∧ prdN rd x y w v 2 = rd 2 + 1 ∧ prdN rd x y w v 1 = rd 1 ∧ prdN rd x y w v 3 = rd 3 ∧ prdN rd x y w v 4 = rd 4 :=
  ⟨prd_l (by omega) (by omega), up1_s _ _ _, prd_l (by omega) (by omega), prd_l (by omega) (by omega), prd_l (by omega) (by omega)⟩
theorem prd_szi {i : Nat} (hi : i ≤ 4) : szN (prdN rd x y w v) i = szN rd i := sz_cg i (fun j hj => prd_l (by omega) (by omega))
theorem prd_sz (hW : BxW rd) : szN (prdN rd x y w v) (rd 0) = szN rd (rd 0) := prd_szi hW.w
theorem plw_p (h : PlW rd te ps pu sd cj ta) (hok : pokB rd x y w v = true) : PlW (prdN rd x y w v) te ps pu sd (up1 cj (rd 2) (1 * 2 ^ (x * 6 + y) ||| 1 * 2 ^ (w * 6 + v))) ta := by
  have hw := h.1.w
  refine ⟨prd_w h.1 hok, ?_, ?_, ?_⟩
  · rw [prd_v.1]
    intro i hi
    rw [prd_l (by omega) (by omega), prd_l (by omega) (by omega), prd_l (by omega) (by omega), prd_szi (by omega)]
    exact h.2.1 i hi
  · rw [prd_v.2.1]
    intro k hk
    have hn := h.1.n
    by_cases he : k = rd 2
    · subst he
      have e1 : prdN rd x y w v (22 + rd 2) = x := by simp only [prdN]; rw [up1_n (by omega), up1_n (by omega), up1_n (by omega), up1_n (by omega), up1_s]
      have e2 : prdN rd x y w v (30 + rd 2) = y := by simp only [prdN]; rw [up1_n (by omega), up1_n (by omega), up1_n (by omega), up1_s]
      have e3 : prdN rd x y w v (38 + rd 2) = w := by simp only [prdN]; rw [up1_n (by omega), up1_n (by omega), up1_s]
      have e4 : prdN rd x y w v (46 + rd 2) = v := by simp only [prdN]; rw [up1_n (by omega), up1_s]
      rw [up1_s, e1, e2, e3, e4, Nat.one_mul, Nat.one_mul]
    · have hok3 : rd 2 ≠ 8 := by
        simp only [pokB, Bool.and_eq_true, Bool.not_eq_true', decide_eq_false_iff_not] at hok
        exact hok.2
      rw [up1_n he, prd_o (by omega) (by omega) (by omega) (by omega) (by omega), prd_o (by omega) (by omega) (by omega) (by omega) (by omega), prd_o (by omega) (by omega) (by omega) (by omega) (by omega), prd_o (by omega) (by omega) (by omega) (by omega) (by omega)]
      exact h.2.2.1 k (by omega)
  · rw [prd_v.2.2.1]
    intro k hk
    have hn := h.1.n
    rw [prd_l (by omega) (by omega)]
    exact h.2.2.2 k hk
theorem srd_o {j : Nat} (h0 : j ≠ 1) (h1 : j ≠ 17 + rd 1) : srdN rd x j = rd j := by
  simp only [srdN]; rw [up1_n h0, up1_n h1]
theorem srd_v : srdN rd x 0 = rd 0 ∧ srdN rd x 2 = rd 2 ∧ srdN rd x 1 = rd 1 + 1 ∧ srdN rd x 3 = rd 3 ∧ srdN rd x 4 = rd 4 :=
  ⟨srd_o (by omega) (by omega), srd_o (by omega) (by omega), up1_s _ _ _, srd_o (by omega) (by omega), srd_o (by omega) (by omega)⟩
theorem srd_szi {i : Nat} (hi : i ≤ 4) : szN (srdN rd x) i = szN rd i := sz_cg i (fun j hj => srd_o (by omega) (by omega))
theorem srd_sz (hW : BxW rd) : szN (srdN rd x) (rd 0) = szN rd (rd 0) := srd_szi hW.w
theorem plw_s (h : PlW rd te ps pu sd cj ta) (hok : sokB rd x = true) : PlW (srdN rd x) te ps pu sd cj (up1 ta (rd 1) x) := by
  have hw := h.1.w
  have hn := h.1.n
  have hok2 := hok
  simp only [sokB, decide_eq_true_eq] at hok2
  refine ⟨srd_w h.1 hok, ?_, ?_, ?_⟩
  · rw [srd_v.1]
    intro i hi
    rw [srd_o (by omega) (by omega), srd_o (by omega) (by omega), srd_o (by omega) (by omega), srd_szi (by omega)]
    exact h.2.1 i hi
  · rw [srd_v.2.1]
    intro k hk
    rw [srd_o (by omega) (by omega), srd_o (by omega) (by omega), srd_o (by omega) (by omega), srd_o (by omega) (by omega)]
    exact h.2.2.1 k hk
  · rw [srd_v.2.2.1]
    intro k hk
    by_cases he : k = rd 1
    · subst he
      rw [up1_s]; simp only [srdN]; rw [up1_n (by omega), up1_s]
    · rw [up1_n he, srd_o (by omega) (by omega)]
      exact h.2.2.2 k (by omega)
theorem ord_o {j : Nat} (h0 : j ≠ 3) (h1 : j ≠ 4) : up1 (up1 rd 3 x) 4 y j = rd j := by rw [up1_n h1, up1_n h0]
theorem ord_v : up1 (up1 rd 3 x) 4 y 0 = rd 0 ∧ up1 (up1 rd 3 x) 4 y 2 = rd 2 ∧ up1 (up1 rd 3 x) 4 y 1 = rd 1 ∧ up1 (up1 rd 3 x) 4 y 3 = x ∧ up1 (up1 rd 3 x) 4 y 4 = y :=
  ⟨ord_o (by omega) (by omega), ord_o (by omega) (by omega), ord_o (by omega) (by omega), by rw [up1_n (by omega), up1_s], up1_s _ _ _⟩
theorem ord_szi {i : Nat} : szN (up1 (up1 rd 3 x) 4 y) i = szN rd i := sz_cg i (fun j hj => ord_o (by omega) (by omega))
theorem ord_sz (_ : BxW rd) : szN (up1 (up1 rd 3 x) 4 y) (rd 0) = szN rd (rd 0) := ord_szi
theorem plw_o (h : PlW rd te ps pu sd cj ta) (hok : ookB x = true) (hy : y ≤ 99) : PlW (up1 (up1 rd 3 x) 4 y) te ps pu sd cj ta := by
  refine ⟨ord_w h.1 hok hy, ?_, ?_, ?_⟩
  · rw [ord_v.1]
    intro i hi
    rw [ord_o (by omega) (by omega), ord_o (by omega) (by omega), ord_o (by omega) (by omega), ord_szi]
    exact h.2.1 i hi
  · rw [ord_v.2.1]
    intro k hk
    rw [ord_o (by omega) (by omega), ord_o (by omega) (by omega), ord_o (by omega) (by omega), ord_o (by omega) (by omega)]
    exact h.2.2.1 k hk
  · rw [ord_v.2.2.1]
    intro k hk
    rw [ord_o (by omega) (by omega)]
    exact h.2.2.2 k hk
end PLW
theorem bo_st {bx te ps pu sd cj ta ex tl he dy se : Nat → Nat} (h : PlR bx te ps pu sd cj ta) : BoR bx (stN bx) pu ps ex tl he dy se 0 := by
  have hB := h.b
  have hw := hB.w
  have e0 : stN bx 2 = 0 := rfl
  have ez : ∀ j, 12 ≤ j → stN bx j = 0 := fun j hj => if_neg (by omega)
  refine ⟨?_, ⟨by rw [e0]; omega, ?_, ?_⟩, ?_, ?_, by omega, ?_⟩
  · intro i hi
    have ht := hB.t i hi
    simp only [stN]
    rw [if_pos (by omega), if_pos (by omega), show 4 + i + 5 = 9 + i by omega, show 8 + i + 5 = 13 + i by omega]
    exact ht.2.2
  · rw [e0]; intro k hk; exact absurd hk (Nat.not_lt_zero k)
  · intro j
    have hj := hB.bd (j + 5)
    simp only [stN]; split <;> omega
  · intro i hi
    have hr := h.r i hi
    simp only [stN]
    rw [if_pos (by omega), if_pos (by omega), show 4 + i + 5 = 9 + i by omega, show 8 + i + 5 = 13 + i by omega]
    exact ⟨hr.2.2.1, hr.2.1⟩
  · rw [e0]; intro k hk; exact absurd hk (Nat.not_lt_zero k)
  · intro i hi t ht
    rw [ez (12 + i) (by omega), Nat.zero_testBit, Nat.zero_testBit]

set_option maxHeartbeats 4000000 in
set_option maxRecDepth 100000 in
theorem k_X5_letterAt {l : Launch} {D : va_G} {cI cC cB : ClassId} {xt zl zp : Nat} {tq : Nat → Nat} {tc : Nat → Nat} {i : Nat} (hzl : zl ≤ 200) (htc : ∀ j, tc j < 128) (hi : i < 1000) : MI l yX5_letterAt cX5_letterAt 2 (some .int) 0 D (Ty3 cI cC cB) [.ref xt, .int (nI (i))] [tO xt tq zl zp, (tq 0, .inl (cC, 200, .inl (fun z_ => nI (tc z_))))] (fun r u => (r = nI (ltN tc zl i) ∧ u = [tO xt tq zl zp, (tq 0, .inl (cC, 200, .inl (fun z_ => nI (tc z_))))])) := by
  intro sz
  refine MI.walk (by decide +kernel) (Nat.le_of_ble_eq_true rfl) ?_
  intro p e s m args below meth c A Qf hx hb hml hts hown hret hK hP hD hS hA ls hl
  have hown : s.vm.findClass RX5 = some m.cls := hown
  have hl : lv_has ls 2 [(0, .ref xt), (1, .int (nI (i)))] := hl
  have hP : va_P D vwCl [tO xt tq zl zp, (tq 0, .inl (cC, 200, .inl (fun z_ => nI (tc z_))))] s.heap := hP
  have hD : va_D A [tO xt tq zl zp, (tq 0, .inl (cC, 200, .inl (fun z_ => nI (tc z_))))] := hD
  refine lv_iload_n hx hb dX5_letterAt_0 rfl (lv_at hl 1 rfl) ?_
  refine n_if_lt (tgt := 30) hx hb dX5_letterAt_1 (by decide) (by omega) ?_
  refine lv_iload_n hx hb dX5_letterAt_4 rfl (lv_at hl 1 rfl) ?_
  refine lv_aload_n hx hb dX5_letterAt_5 rfl (lv_at hl 0 rfl) ?_
  refine gf_5_19 hx hb hts hown hK hP 0 rfl rfl dX5_letterAt_6 ?_
  refine n_icmp_ge (tgt := 30) hx hb dX5_letterAt_9 (by decide) (by omega) (by omega) (fun c_2 => ?_) (fun c_2 => ?_)
  · -- 9 to 30
    refine lv_iconst (v := nI 0) hx hb dX5_letterAt_30 (by decide) ?_
    refine hret hP hD hS dX5_letterAt_31 rfl rfl ?_
    exact ⟨congrArg nI (by simp only [ltN]; first | rw [if_pos (by omega)] | rw [if_neg (by omega)]), rfl⟩
  · -- 9 to 12
    refine lv_iload_n hx hb dX5_letterAt_12 rfl (lv_at hl 1 rfl) ?_
    refine lv_aload_n hx hb dX5_letterAt_13 rfl (lv_at hl 0 rfl) ?_
    refine gf_5_9 hx hb hts hown hK hP 0 rfl rfl dX5_letterAt_14 ?_
    refine n_alen hx hb hK hP 1 1 rfl rfl dX5_letterAt_17 ?_
    show W p l e _ s m args below meth c _ _ _ _ Qf (F0 m _ _ [.int (nI (200)), .int (nI (i))])
    refine n_icmp_ge (tgt := 30) hx hb dX5_letterAt_18 (by decide) (by omega) (by decide) (fun c_3 => ?_) (fun c_3 => ?_)
    · omega
    · -- 18 to 21
      refine lv_aload_n hx hb dX5_letterAt_21 rfl (lv_at hl 0 rfl) ?_
      refine gf_5_9 hx hb hts hown hK hP 0 rfl rfl dX5_letterAt_22 ?_
      refine lv_iload_n hx hb dX5_letterAt_25 rfl (lv_at hl 1 rfl) ?_
      refine n_cald hx hb hK hP 1 1 rfl rfl dX5_letterAt_26 (by decide) (by omega) ?_
      have hb_4 := htc i
      refine lv_goto (tgt := 31) hx hb dX5_letterAt_27 (by decide) ?_
      refine hret hP hD hS dX5_letterAt_31 rfl rfl ?_
      exact ⟨congrArg nI (by simp only [ltN]; first | rw [if_pos (by omega)] | rw [if_neg (by omega)]), rfl⟩
set_option maxHeartbeats 4000000 in
set_option maxRecDepth 100000 in
theorem k_X5_figureAt {l : Launch} {D : va_G} {cI cC cB : ClassId} {xt zl zp : Nat} {tq : Nat → Nat} {tc : Nat → Nat} {i : Nat} (hzl : zl ≤ 200) (htc : ∀ j, tc j < 128) (hi : i < 1000) : MI l yX5_figureAt cX5_figureAt 3 (some .int) 1 D (Ty3 cI cC cB) [.ref xt, .int (nI (i))] [tO xt tq zl zp, (tq 0, .inl (cC, 200, .inl (fun z_ => nI (tc z_))))] (fun r u => ((dgB tc zl i = false) ∧ r = (-1 : Int32) ∧ u = [tO xt tq zl zp, (tq 0, .inl (cC, 200, .inl (fun z_ => nI (tc z_))))]) ∨ ((dgB tc zl i = true) ∧ r = nI (tc i - 48) ∧ u = [tO xt tq zl zp, (tq 0, .inl (cC, 200, .inl (fun z_ => nI (tc z_))))])) := by
  intro sz
  refine MI.walk (by decide +kernel) (Nat.le_of_ble_eq_true rfl) ?_
  intro p e s m args below meth c A Qf hx hb hml hts hown hret hK hP hD hS hA ls hl
  have hown : s.vm.findClass RX5 = some m.cls := hown
  have hl : lv_has ls 3 [(0, .ref xt), (1, .int (nI (i)))] := hl
  have hP : va_P D vwCl [tO xt tq zl zp, (tq 0, .inl (cC, 200, .inl (fun z_ => nI (tc z_))))] s.heap := hP
  have hD : va_D A [tO xt tq zl zp, (tq 0, .inl (cC, 200, .inl (fun z_ => nI (tc z_))))] := hD
  refine lv_aload_n hx hb dX5_figureAt_0 rfl (lv_at hl 0 rfl) ?_
  refine lv_iload_n hx hb dX5_figureAt_1 rfl (lv_at hl 1 rfl) ?_
  refine cl_5_35 (As := [.int (nI (i))]) (rest := []) hx hb hml hts hown (k_X5_letterAt (by first | assumption | omega) (by first | assumption | omega) (by first | assumption | omega)) (by decide) ⟨Nat.zero_le _, Nat.zero_le _⟩ hK hP hD hS hA 0 rfl [0, 1] rfl (by decide) rfl hl.1 rfl (Nat.le_of_ble_eq_true rfl) dX5_figureAt_2 (fun r_1 u H locs hp_2 hP hD hS => ?_)
  obtain ⟨rfl, rfl⟩ := hp_2
  have hP : va_P D vwCl [tO xt tq zl zp, (tq 0, .inl (cC, 200, .inl (fun z_ => nI (tc z_))))] _ := hP
  have hD : va_D A [tO xt tq zl zp, (tq 0, .inl (cC, 200, .inl (fun z_ => nI (tc z_))))] := hD
  have hlt_q := lt_lt (z := zl) (p := i) htc
  refine lv_istore_n (lv' := [(2, .int (nI (ltN tc zl i))), (0, .ref xt), (1, .int (nI (i)))]) hx hb dX5_figureAt_5 rfl hl (by decide) rfl (fun ls hl => ?_)
  refine lv_iload_n hx hb dX5_figureAt_6 rfl (lv_at hl 0 rfl) ?_
  refine lv_bipush (v := nI 48) hx hb dX5_figureAt_7 (by decide) ?_
  refine n_icmp_lt (tgt := 25) hx hb dX5_figureAt_9 (by decide) (by omega) (by decide) (fun c_3 => ?_) (fun c_3 => ?_)
  · -- 9 to 25
    refine lv_iconst (v := (-1)) hx hb dX5_figureAt_25 (by decide) ?_
    refine hret hP hD hS dX5_figureAt_26 rfl rfl ?_
    exact Or.inl ⟨by first | exact fg_0 (by assumption) | exact fg_1 (by assumption), rfl, rfl⟩
  · -- 9 to 12
    refine lv_iload_n hx hb dX5_figureAt_12 rfl (lv_at hl 0 rfl) ?_
    refine lv_bipush (v := nI 57) hx hb dX5_figureAt_13 (by decide) ?_
    refine n_icmp_gt (tgt := 25) hx hb dX5_figureAt_15 (by decide) (by omega) (by decide) (fun c_4 => ?_) (fun c_4 => ?_)
    · -- 15 to 25
      refine lv_iconst (v := (-1)) hx hb dX5_figureAt_25 (by decide) ?_
      refine hret hP hD hS dX5_figureAt_26 rfl rfl ?_
      exact Or.inl ⟨by first | exact fg_0 (by assumption) | exact fg_1 (by assumption), rfl, rfl⟩
    · -- 15 to 18
      refine lv_iload_n hx hb dX5_figureAt_18 rfl (lv_at hl 0 rfl) ?_
      refine lv_bipush (v := nI 48) hx hb dX5_figureAt_19 (by decide) ?_
      refine n_isub hx hb dX5_figureAt_21 (by omega) ?_
      refine lv_goto (tgt := 26) hx hb dX5_figureAt_22 (by decide) ?_
      refine hret hP hD hS dX5_figureAt_26 rfl rfl ?_
      have hf_q := fg_2 (tx := tc) (z := zl) (p := i) (by omega) (by omega)
      exact Or.inr ⟨hf_q.1, by rw [hf_q.2], rfl⟩
set_option maxHeartbeats 4000000 in
set_option maxRecDepth 100000 in
theorem k_X5_readNumber {l : Launch} {D : va_G} {cI cC cB : ClassId} {xt zl zp : Nat} {tq : Nat → Nat} {tc : Nat → Nat}  (hzl : zl ≤ 200) (htc : ∀ j, tc j < 128) (hp : zp < 900) : MI l yX5_readNumber cX5_readNumber 3 (some .int) 2 D (Ty3 cI cC cB) [.ref xt] [tO xt tq zl zp, (tq 0, .inl (cC, 200, .inl (fun z_ => nI (tc z_))))] (fun r u => ((dgB tc zl zp = false) ∧ r = (-1 : Int32) ∧ u = [tO xt tq zl zp, (tq 0, .inl (cC, 200, .inl (fun z_ => nI (tc z_))))]) ∨ ((dgB tc zl zp = true) ∧ r = nI (rnV tc zl zp) ∧ u = [tO xt tq zl (zp + rnW tc zl zp), (tq 0, .inl (cC, 200, .inl (fun z_ => nI (tc z_))))])) := by
  intro sz
  refine MI.walk (by decide +kernel) (Nat.le_of_ble_eq_true rfl) ?_
  intro p e s m args below meth c A Qf hx hb hml hts hown hret hK hP hD hS hA ls hl
  have hown : s.vm.findClass RX5 = some m.cls := hown
  have hl : lv_has ls 3 [(0, .ref xt)] := hl
  have hP : va_P D vwCl [tO xt tq zl zp, (tq 0, .inl (cC, 200, .inl (fun z_ => nI (tc z_))))] s.heap := hP
  have hD : va_D A [tO xt tq zl zp, (tq 0, .inl (cC, 200, .inl (fun z_ => nI (tc z_))))] := hD
  refine lv_aload_n hx hb dX5_readNumber_0 rfl (lv_at hl 0 rfl) ?_
  refine lv_aload_n hx hb dX5_readNumber_1 rfl (lv_at hl 0 rfl) ?_
  refine gf_5_28 hx hb hts hown hK hP 0 rfl rfl dX5_readNumber_2 ?_
  refine cl_5_54 (As := [.int (nI (zp))]) (rest := []) hx hb hml hts hown (k_X5_figureAt (by first | assumption | omega) (by first | assumption | omega) (by first | assumption | omega)) (by decide) ⟨Nat.zero_le _, Nat.zero_le _⟩ hK hP hD hS hA 0 rfl [0, 1] rfl (by decide) rfl hl.1 rfl (Nat.le_of_ble_eq_true rfl) dX5_readNumber_5 (fun r_1 u H locs hp_2 hP hD hS => ?_)
  rcases hp_2 with ⟨hq_3, rfl, rfl⟩ | ⟨hq_4, rfl, rfl⟩
  · -- case 0 of k_X5_figureAt
    have hP : va_P D vwCl [tO xt tq zl zp, (tq 0, .inl (cC, 200, .inl (fun z_ => nI (tc z_))))] _ := hP
    have hD : va_D A [tO xt tq zl zp, (tq 0, .inl (cC, 200, .inl (fun z_ => nI (tc z_))))] := hD
    refine lv_istore_n (lv' := [(1, .int ((-1 : Int32))), (0, .ref xt)]) hx hb dX5_readNumber_8 rfl hl (by decide) rfl (fun ls hl => ?_)
    refine lv_iload_n hx hb dX5_readNumber_9 rfl (lv_at hl 0 rfl) ?_
    refine lv_if_ge (tgt := 15) hx hb dX5_readNumber_10 (by decide) (fun c_5 => ?_) (fun c_5 => ?_)
    · exact absurd c_5 (by decide)
    · -- 10 to 13
      refine lv_iconst (v := (-1)) hx hb dX5_readNumber_13 (by decide) ?_
      refine hret hP hD hS dX5_readNumber_14 rfl rfl ?_
      exact Or.inl ⟨by assumption, rfl, rfl⟩
  · -- case 1 of k_X5_figureAt
    have hP : va_P D vwCl [tO xt tq zl zp, (tq 0, .inl (cC, 200, .inl (fun z_ => nI (tc z_))))] _ := hP
    have hD : va_D A [tO xt tq zl zp, (tq 0, .inl (cC, 200, .inl (fun z_ => nI (tc z_))))] := hD
    have hd1_q := hq_4
    have hl1_q := htc zp
    refine lv_istore_n (lv' := [(1, .int (nI (tc zp - 48))), (0, .ref xt)]) hx hb dX5_readNumber_8 rfl hl (by decide) rfl (fun ls hl => ?_)
    refine lv_iload_n hx hb dX5_readNumber_9 rfl (lv_at hl 0 rfl) ?_
    refine n_if_ge (tgt := 15) hx hb dX5_readNumber_10 (by decide) (by omega) ?_
    refine lv_aload_n hx hb dX5_readNumber_15 rfl (lv_at hl 1 rfl) ?_
    refine lv_dup hx hb dX5_readNumber_16 rfl ?_
    refine gf_5_28 hx hb hts hown hK hP 0 rfl rfl dX5_readNumber_17 ?_
    refine lv_iconst (v := nI 1) hx hb dX5_readNumber_20 (by decide) ?_
    refine n_iadd hx hb dX5_readNumber_21  ?_
    refine pf_5_28 hx hb hts hown hK hP hD hS 0 rfl (Nat.le_of_ble_eq_true rfl) dX5_readNumber_22 (fun H locs hP hD hS => ?_)
    have hP : va_P D vwCl [tO xt tq zl (zp + 1), (tq 0, .inl (cC, 200, .inl (fun z_ => nI (tc z_))))] _ := hP
    have hD : va_D A [tO xt tq zl (zp + 1), (tq 0, .inl (cC, 200, .inl (fun z_ => nI (tc z_))))] := hD
    refine lv_aload_n hx hb dX5_readNumber_25 rfl (lv_at hl 1 rfl) ?_
    refine lv_aload_n hx hb dX5_readNumber_26 rfl (lv_at hl 1 rfl) ?_
    refine gf_5_28 hx hb hts hown hK hP 0 rfl rfl dX5_readNumber_27 ?_
    refine cl_5_54 (As := [.int (nI (zp + 1))]) (rest := []) hx hb hml hts hown (k_X5_figureAt (by first | assumption | omega) (by first | assumption | omega) (by first | assumption | omega)) (by decide) ⟨Nat.zero_le _, Nat.zero_le _⟩ hK hP hD hS hA 0 rfl [0, 1] rfl (by decide) rfl hl.1 rfl (Nat.le_of_ble_eq_true rfl) dX5_readNumber_30 (fun r_7 u H locs hp_8 hP hD hS => ?_)
    rcases hp_8 with ⟨hq_9, rfl, rfl⟩ | ⟨hq_10, rfl, rfl⟩
    · -- case 0 of k_X5_figureAt
      have hP : va_P D vwCl [tO xt tq zl ((zp + 1)), (tq 0, .inl (cC, 200, .inl (fun z_ => nI (tc z_))))] _ := hP
      have hD : va_D A [tO xt tq zl ((zp + 1)), (tq 0, .inl (cC, 200, .inl (fun z_ => nI (tc z_))))] := hD
      have hd2_q := hq_9
      refine lv_istore_n (lv' := [(2, .int ((-1 : Int32))), (1, .int (nI (tc zp - 48))), (0, .ref xt)]) hx hb dX5_readNumber_33 rfl hl (by decide) rfl (fun ls hl => ?_)
      refine lv_iload_n hx hb dX5_readNumber_34 rfl (lv_at hl 0 rfl) ?_
      refine lv_if_ge (tgt := 40) hx hb dX5_readNumber_35 (by decide) (fun c_11 => ?_) (fun c_11 => ?_)
      · exact absurd c_11 (by decide)
      · -- 35 to 38
        refine lv_iload_n hx hb dX5_readNumber_38 rfl (lv_at hl 1 rfl) ?_
        refine hret hP hD hS dX5_readNumber_39 rfl rfl ?_
        exact Or.inr ⟨hd1_q, by simp only [rnV, hd2_q]; rfl, by simp only [rnW, hd2_q]; rfl⟩
    · -- case 1 of k_X5_figureAt
      have hP : va_P D vwCl [tO xt tq zl ((zp + 1)), (tq 0, .inl (cC, 200, .inl (fun z_ => nI (tc z_))))] _ := hP
      have hD : va_D A [tO xt tq zl ((zp + 1)), (tq 0, .inl (cC, 200, .inl (fun z_ => nI (tc z_))))] := hD
      have hl2_q := htc (zp + 1)
      have hd2_q := hq_10
      refine lv_istore_n (lv' := [(2, .int (nI (tc (zp + 1) - 48))), (1, .int (nI (tc zp - 48))), (0, .ref xt)]) hx hb dX5_readNumber_33 rfl hl (by decide) rfl (fun ls hl => ?_)
      refine lv_iload_n hx hb dX5_readNumber_34 rfl (lv_at hl 0 rfl) ?_
      refine n_if_ge (tgt := 40) hx hb dX5_readNumber_35 (by decide) (by omega) ?_
      refine lv_aload_n hx hb dX5_readNumber_40 rfl (lv_at hl 2 rfl) ?_
      refine lv_dup hx hb dX5_readNumber_41 rfl ?_
      refine gf_5_28 hx hb hts hown hK hP 0 rfl rfl dX5_readNumber_42 ?_
      refine lv_iconst (v := nI 1) hx hb dX5_readNumber_45 (by decide) ?_
      refine n_iadd hx hb dX5_readNumber_46  ?_
      refine pf_5_28 hx hb hts hown hK hP hD hS 0 rfl (Nat.le_of_ble_eq_true rfl) dX5_readNumber_47 (fun H locs hP hD hS => ?_)
      have hP : va_P D vwCl [tO xt tq zl (((zp + 1)) + 1), (tq 0, .inl (cC, 200, .inl (fun z_ => nI (tc z_))))] _ := hP
      have hD : va_D A [tO xt tq zl (((zp + 1)) + 1), (tq 0, .inl (cC, 200, .inl (fun z_ => nI (tc z_))))] := hD
      refine lv_bipush (v := nI 10) hx hb dX5_readNumber_50 (by decide) ?_
      refine lv_iload_n hx hb dX5_readNumber_52 rfl (lv_at hl 1 rfl) ?_
      refine n_imul hx hb dX5_readNumber_53  ?_
      refine lv_iload_n hx hb dX5_readNumber_54 rfl (lv_at hl 0 rfl) ?_
      refine n_iadd hx hb dX5_readNumber_55  ?_
      refine hret hP hD hS dX5_readNumber_56 rfl rfl ?_
      exact Or.inr ⟨hd1_q, by simp only [rnV, hd2_q]; rfl, by simp only [rnW, hd2_q]; rfl⟩
set_option maxHeartbeats 4000000 in
set_option maxRecDepth 100000 in
theorem k_X5_numbersOf {l : Launch} {D : va_G} {cI cC cB : ClassId} {x : Nat} (hx1 : x < 1000) : MI l yX5_numbersOf cX5_numbersOf 1 (some .int) 0 D (Ty3 cI cC cB) [.int (nI (x))] [] (fun r u => (r = nI (nmO x) ∧ u = [])) := by
  intro sz
  refine MI.walk (by decide +kernel) (Nat.le_of_ble_eq_true rfl) ?_
  intro p e s m args below meth c A Qf hx hb hml hts hown hret hK hP hD hS hA ls hl
  have hown : s.vm.findClass RX5 = some m.cls := hown
  have hl : lv_has ls 1 [(0, .int (nI (x)))] := hl
  have hP : va_P D vwCl [] s.heap := hP
  have hD : va_D A [] := hD
  refine lv_iload_n hx hb dX5_numbersOf_0 rfl (lv_at hl 0 rfl) ?_
  rcases (show x < 111 ∨ 120 < x ∨ x = 111 ∨ x = 112 ∨ x = 113 ∨ x = 114 ∨ x = 115 ∨ x = 116 ∨ x = 117 ∨ x = 118 ∨ x = 119 ∨ x = 120 by omega) with c_1 | c_1 | c_1 | c_1 | c_1 | c_1 | c_1 | c_1 | c_1 | c_1 | c_1 | c_1
  · refine n_tabOut (tgt := 64) hx hb dX5_numbersOf_1 (by omega) (Or.inl (by omega)) (by decide) ?_
    refine lv_iconst (v := nI 0) hx hb dX5_numbersOf_64 (by decide) ?_
    refine hret hP hD hS dX5_numbersOf_65 rfl rfl ?_
    exact ⟨congrArg nI (by first | exact nm_o (by omega) | (rw [hk_q]; rfl)), rfl⟩
  · refine n_tabOut (tgt := 64) hx hb dX5_numbersOf_1 (by omega) (Or.inr (by omega)) (by decide) ?_
    refine lv_iconst (v := nI 0) hx hb dX5_numbersOf_64 (by decide) ?_
    refine hret hP hD hS dX5_numbersOf_65 rfl rfl ?_
    exact ⟨congrArg nI (by first | exact nm_o (by omega) | (rw [hk_q]; rfl)), rfl⟩
  · refine n_tabIn (tgt := 62) (v := 111) hx hb dX5_numbersOf_1 c_1 (by decide) (by decide) (off := 61) (by decide) (by decide) ?_
    have hk_q := c_1
    refine lv_iconst (v := nI 2) hx hb dX5_numbersOf_62 (by decide) ?_
    refine hret hP hD hS dX5_numbersOf_63 rfl rfl ?_
    exact ⟨congrArg nI (by first | exact nm_o (by omega) | (rw [hk_q]; rfl)), rfl⟩
  · refine n_tabIn (tgt := 60) (v := 112) hx hb dX5_numbersOf_1 c_1 (by decide) (by decide) (off := 59) (by decide) (by decide) ?_
    have hk_q := c_1
    refine lv_iconst (v := nI 1) hx hb dX5_numbersOf_60 (by decide) ?_
    refine hret hP hD hS dX5_numbersOf_61 rfl rfl ?_
    exact ⟨congrArg nI (by first | exact nm_o (by omega) | (rw [hk_q]; rfl)), rfl⟩
  · refine n_tabIn (tgt := 64) (v := 113) hx hb dX5_numbersOf_1 c_1 (by decide) (by decide) (off := 63) (by decide) (by decide) ?_
    have hk_q := c_1
    refine lv_iconst (v := nI 0) hx hb dX5_numbersOf_64 (by decide) ?_
    refine hret hP hD hS dX5_numbersOf_65 rfl rfl ?_
    exact ⟨congrArg nI (by first | exact nm_o (by omega) | (rw [hk_q]; rfl)), rfl⟩
  · refine n_tabIn (tgt := 64) (v := 114) hx hb dX5_numbersOf_1 c_1 (by decide) (by decide) (off := 63) (by decide) (by decide) ?_
    have hk_q := c_1
    refine lv_iconst (v := nI 0) hx hb dX5_numbersOf_64 (by decide) ?_
    refine hret hP hD hS dX5_numbersOf_65 rfl rfl ?_
    exact ⟨congrArg nI (by first | exact nm_o (by omega) | (rw [hk_q]; rfl)), rfl⟩
  · refine n_tabIn (tgt := 64) (v := 115) hx hb dX5_numbersOf_1 c_1 (by decide) (by decide) (off := 63) (by decide) (by decide) ?_
    have hk_q := c_1
    refine lv_iconst (v := nI 0) hx hb dX5_numbersOf_64 (by decide) ?_
    refine hret hP hD hS dX5_numbersOf_65 rfl rfl ?_
    exact ⟨congrArg nI (by first | exact nm_o (by omega) | (rw [hk_q]; rfl)), rfl⟩
  · refine n_tabIn (tgt := 64) (v := 116) hx hb dX5_numbersOf_1 c_1 (by decide) (by decide) (off := 63) (by decide) (by decide) ?_
    have hk_q := c_1
    refine lv_iconst (v := nI 0) hx hb dX5_numbersOf_64 (by decide) ?_
    refine hret hP hD hS dX5_numbersOf_65 rfl rfl ?_
    exact ⟨congrArg nI (by first | exact nm_o (by omega) | (rw [hk_q]; rfl)), rfl⟩
  · refine n_tabIn (tgt := 64) (v := 117) hx hb dX5_numbersOf_1 c_1 (by decide) (by decide) (off := 63) (by decide) (by decide) ?_
    have hk_q := c_1
    refine lv_iconst (v := nI 0) hx hb dX5_numbersOf_64 (by decide) ?_
    refine hret hP hD hS dX5_numbersOf_65 rfl rfl ?_
    exact ⟨congrArg nI (by first | exact nm_o (by omega) | (rw [hk_q]; rfl)), rfl⟩
  · refine n_tabIn (tgt := 64) (v := 118) hx hb dX5_numbersOf_1 c_1 (by decide) (by decide) (off := 63) (by decide) (by decide) ?_
    have hk_q := c_1
    refine lv_iconst (v := nI 0) hx hb dX5_numbersOf_64 (by decide) ?_
    refine hret hP hD hS dX5_numbersOf_65 rfl rfl ?_
    exact ⟨congrArg nI (by first | exact nm_o (by omega) | (rw [hk_q]; rfl)), rfl⟩
  · refine n_tabIn (tgt := 56) (v := 119) hx hb dX5_numbersOf_1 c_1 (by decide) (by decide) (off := 55) (by decide) (by decide) ?_
    have hk_q := c_1
    refine lv_iconst (v := nI 3) hx hb dX5_numbersOf_56 (by decide) ?_
    refine hret hP hD hS dX5_numbersOf_57 rfl rfl ?_
    exact ⟨congrArg nI (by first | exact nm_o (by omega) | (rw [hk_q]; rfl)), rfl⟩
  · refine n_tabIn (tgt := 58) (v := 120) hx hb dX5_numbersOf_1 c_1 (by decide) (by decide) (off := 57) (by decide) (by decide) ?_
    have hk_q := c_1
    refine lv_iconst (v := nI 4) hx hb dX5_numbersOf_58 (by decide) ?_
    refine hret hP hD hS dX5_numbersOf_59 rfl rfl ?_
    exact ⟨congrArg nI (by first | exact nm_o (by omega) | (rw [hk_q]; rfl)), rfl⟩
set_option maxHeartbeats 4000000 in
set_option maxRecDepth 100000 in
theorem k_X2_empty {l : Launch} {D : va_G} {cI cC cB : ClassId} {a s0 s1 s2 s3 s4 s5 : Nat} {pq : Nat → Nat} : MV l yX2_empty cX2_empty 1 none 0 D (Ty3 cI cC cB) [.ref a] [pO a pq s0 s1 s2 s3 s4 s5] (fun (u : va_W) => (u = [pO a pq (clN 0) (clN 2) (clN 1) (szN clN (clN 0)) (clN 3) (clN 4)])) := by
  intro sz
  refine MV.walk (by decide +kernel) (Nat.le_of_ble_eq_true rfl) ?_
  intro p e s m args below meth c A Qf hx hb hml hts hown hret hK hP hD hS hA ls hl
  have hown : s.vm.findClass RX2 = some m.cls := hown
  have hl : lv_has ls 1 [(0, .ref a)] := hl
  have hP : va_P D vwCl [pO a pq s0 s1 s2 s3 s4 s5] s.heap := hP
  have hD : va_D A [pO a pq s0 s1 s2 s3 s4 s5] := hD
  refine lv_aload_n hx hb dX2_empty_0 rfl (lv_at hl 0 rfl) ?_
  refine lv_iconst (v := nI 0) hx hb dX2_empty_1 (by decide) ?_
  refine pf_2_30 hx hb hts hown hK hP hD hS 0 rfl (Nat.le_of_ble_eq_true rfl) dX2_empty_2 (fun H locs hP hD hS => ?_)
  have hP : va_P D vwCl [pO a pq 0 s1 s2 s3 s4 s5] _ := hP
  have hD : va_D A [pO a pq 0 s1 s2 s3 s4 s5] := hD
  refine lv_aload_n hx hb dX2_empty_5 rfl (lv_at hl 0 rfl) ?_
  refine lv_iconst (v := nI 0) hx hb dX2_empty_6 (by decide) ?_
  refine pf_2_34 hx hb hts hown hK hP hD hS 0 rfl (Nat.le_of_ble_eq_true rfl) dX2_empty_7 (fun H locs hP hD hS => ?_)
  have hP : va_P D vwCl [pO a pq 0 0 s2 s3 s4 s5] _ := hP
  have hD : va_D A [pO a pq 0 0 s2 s3 s4 s5] := hD
  refine lv_aload_n hx hb dX2_empty_10 rfl (lv_at hl 0 rfl) ?_
  refine lv_iconst (v := nI 0) hx hb dX2_empty_11 (by decide) ?_
  refine pf_2_37 hx hb hts hown hK hP hD hS 0 rfl (Nat.le_of_ble_eq_true rfl) dX2_empty_12 (fun H locs hP hD hS => ?_)
  have hP : va_P D vwCl [pO a pq 0 0 0 s3 s4 s5] _ := hP
  have hD : va_D A [pO a pq 0 0 0 s3 s4 s5] := hD
  refine lv_aload_n hx hb dX2_empty_15 rfl (lv_at hl 0 rfl) ?_
  refine lv_iconst (v := nI 1) hx hb dX2_empty_16 (by decide) ?_
  refine pf_2_40 hx hb hts hown hK hP hD hS 0 rfl (Nat.le_of_ble_eq_true rfl) dX2_empty_17 (fun H locs hP hD hS => ?_)
  have hP : va_P D vwCl [pO a pq 0 0 0 1 s4 s5] _ := hP
  have hD : va_D A [pO a pq 0 0 0 1 s4 s5] := hD
  refine lv_aload_n hx hb dX2_empty_20 rfl (lv_at hl 0 rfl) ?_
  refine lv_iconst (v := nI 1) hx hb dX2_empty_21 (by decide) ?_
  refine pf_2_43 hx hb hts hown hK hP hD hS 0 rfl (Nat.le_of_ble_eq_true rfl) dX2_empty_22 (fun H locs hP hD hS => ?_)
  have hP : va_P D vwCl [pO a pq 0 0 0 1 1 s5] _ := hP
  have hD : va_D A [pO a pq 0 0 0 1 1 s5] := hD
  refine lv_aload_n hx hb dX2_empty_25 rfl (lv_at hl 0 rfl) ?_
  refine lv_bipush (v := nI 60) hx hb dX2_empty_26 (by decide) ?_
  refine pf_2_46 hx hb hts hown hK hP hD hS 0 rfl (Nat.le_of_ble_eq_true rfl) dX2_empty_28 (fun H locs hP hD hS => ?_)
  have hP : va_P D vwCl [pO a pq 0 0 0 1 1 60] _ := hP
  have hD : va_D A [pO a pq 0 0 0 1 1 60] := hD
  refine hret hP hD hS dX2_empty_31 rfl ?_
  rfl
set_option maxHeartbeats 4000000 in
set_option maxRecDepth 100000 in
theorem k_X2_isToothTold {l : Launch} {D : va_G} {cI cC cB : ClassId} {a : Nat} {pq : Nat → Nat} {rd te ps pu sd cj ta : Nat → Nat} {x y : Nat} (hW : PlW rd te ps pu sd cj ta) (hx1 : x < 1000) (hy1 : y < 1000) : MI l yX2_isToothTold cX2_isToothTold 3 (some .boolean) 1 D (Ty3 cI cC cB) [.ref a, .int (nI (x)), .int (nI (y))] [pO a pq (rd 0) (rd 2) (rd 1) (szN rd (rd 0)) (rd 3) (rd 4), (pq 0, .inl (cI, 4, .inl (fun z_ => nI (te z_)))), (pq 1, .inl (cI, 4, .inl (fun z_ => nI (ps z_)))), (pq 2, .inl (cI, 4, .inl (fun z_ => nI (pu z_)))), (pq 3, .inl (cI, 4, .inl (fun z_ => nI (sd z_)))), (pq 4, .inl (cI, 8, .inl (fun z_ => nI (cj z_)))), (pq 5, .inl (cI, 5, .inl (fun z_ => nI (ta z_))))] (fun r u => (r = nI (b2n (tltB rd x y)) ∧ u = [pO a pq (rd 0) (rd 2) (rd 1) (szN rd (rd 0)) (rd 3) (rd 4), (pq 0, .inl (cI, 4, .inl (fun z_ => nI (te z_)))), (pq 1, .inl (cI, 4, .inl (fun z_ => nI (ps z_)))), (pq 2, .inl (cI, 4, .inl (fun z_ => nI (pu z_)))), (pq 3, .inl (cI, 4, .inl (fun z_ => nI (sd z_)))), (pq 4, .inl (cI, 8, .inl (fun z_ => nI (cj z_)))), (pq 5, .inl (cI, 5, .inl (fun z_ => nI (ta z_))))])) := by
  intro sz
  refine MI.walk (by decide +kernel) (Nat.le_of_ble_eq_true rfl) ?_
  intro p e s m args below meth c A Qf hx hb hml hts hown hret hK hP hD hS hA ls hl
  have hown : s.vm.findClass RX2 = some m.cls := hown
  have hl : lv_has ls 3 [(0, .ref a), (1, .int (nI (x))), (2, .int (nI (y)))] := hl
  have hP : va_P D vwCl [pO a pq (rd 0) (rd 2) (rd 1) (szN rd (rd 0)) (rd 3) (rd 4), (pq 0, .inl (cI, 4, .inl (fun z_ => nI (te z_)))), (pq 1, .inl (cI, 4, .inl (fun z_ => nI (ps z_)))), (pq 2, .inl (cI, 4, .inl (fun z_ => nI (pu z_)))), (pq 3, .inl (cI, 4, .inl (fun z_ => nI (sd z_)))), (pq 4, .inl (cI, 8, .inl (fun z_ => nI (cj z_)))), (pq 5, .inl (cI, 5, .inl (fun z_ => nI (ta z_))))] s.heap := hP
  have hD : va_D A [pO a pq (rd 0) (rd 2) (rd 1) (szN rd (rd 0)) (rd 3) (rd 4), (pq 0, .inl (cI, 4, .inl (fun z_ => nI (te z_)))), (pq 1, .inl (cI, 4, .inl (fun z_ => nI (ps z_)))), (pq 2, .inl (cI, 4, .inl (fun z_ => nI (pu z_)))), (pq 3, .inl (cI, 4, .inl (fun z_ => nI (sd z_)))), (pq 4, .inl (cI, 8, .inl (fun z_ => nI (cj z_)))), (pq 5, .inl (cI, 5, .inl (fun z_ => nI (ta z_))))] := hD
  have hw_q := hW.1.w
  refine lv_iload_n hx hb dX2_isToothTold_0 rfl (lv_at hl 1 rfl) ?_
  refine lv_aload_n hx hb dX2_isToothTold_1 rfl (lv_at hl 0 rfl) ?_
  refine gf_2_30 hx hb hts hown hK hP 0 rfl rfl dX2_isToothTold_2 ?_
  refine n_icmp_ge (tgt := 24) hx hb dX2_isToothTold_5 (by decide) (by omega) (by omega) (fun c_1 => ?_) (fun c_1 => ?_)
  · -- 5 to 24
    refine lv_iconst (v := nI 0) hx hb dX2_isToothTold_24 (by decide) ?_
    refine hret hP hD hS dX2_isToothTold_25 (by decide) rfl ?_
    exact ⟨congrArg nI (by first | exact b2n_e1 (tlt_1 (by assumption) (by rw [← hr_q.1]; assumption)) | exact b2n_e0 (tlt_0 (by assumption)) | exact b2n_e0 (tlt_2 (by rw [← hr_q.1]; assumption))), rfl⟩
  · -- 5 to 8
    have hr_q := hW.2.1 x (by omega)
    have hb_q := hW.1.bd (5 + x)
    refine lv_iload_n hx hb dX2_isToothTold_8 rfl (lv_at hl 2 rfl) ?_
    refine lv_aload_n hx hb dX2_isToothTold_9 rfl (lv_at hl 0 rfl) ?_
    refine gf_2_9 hx hb hts hown hK hP 0 rfl rfl dX2_isToothTold_10 ?_
    refine lv_iload_n hx hb dX2_isToothTold_13 rfl (lv_at hl 1 rfl) ?_
    refine cl_2_49 (As := [.ref (pq 0), .int (nI (x))]) (rest := [.int (nI (y))]) hx hb hml hts hown (k_X6_at (by first | assumption | omega) (by first | assumption | omega)) (by decide) ⟨Nat.zero_le _, Nat.zero_le _⟩ hK hP hD hS hA [1] rfl (by decide) rfl hl.1 rfl (Nat.le_of_ble_eq_true rfl) dX2_isToothTold_14 (fun r_2 u H locs hp_3 hP hD hS => ?_)
    obtain ⟨rfl, rfl⟩ := hp_3
    have hP : va_P D vwCl [pO a pq (rd 0) (rd 2) (rd 1) (szN rd (rd 0)) (rd 3) (rd 4), (pq 0, .inl (cI, 4, .inl (fun z_ => nI (te z_)))), (pq 1, .inl (cI, 4, .inl (fun z_ => nI (ps z_)))), (pq 2, .inl (cI, 4, .inl (fun z_ => nI (pu z_)))), (pq 3, .inl (cI, 4, .inl (fun z_ => nI (sd z_)))), (pq 4, .inl (cI, 8, .inl (fun z_ => nI (cj z_)))), (pq 5, .inl (cI, 5, .inl (fun z_ => nI (ta z_))))] _ := hP
    have hD : va_D A [pO a pq (rd 0) (rd 2) (rd 1) (szN rd (rd 0)) (rd 3) (rd 4), (pq 0, .inl (cI, 4, .inl (fun z_ => nI (te z_)))), (pq 1, .inl (cI, 4, .inl (fun z_ => nI (ps z_)))), (pq 2, .inl (cI, 4, .inl (fun z_ => nI (pu z_)))), (pq 3, .inl (cI, 4, .inl (fun z_ => nI (sd z_)))), (pq 4, .inl (cI, 8, .inl (fun z_ => nI (cj z_)))), (pq 5, .inl (cI, 5, .inl (fun z_ => nI (ta z_))))] := hD
    refine n_icmp_ge (tgt := 24) hx hb dX2_isToothTold_17 (by decide) (by omega) (by omega) (fun c_4 => ?_) (fun c_4 => ?_)
    · -- 17 to 24
      refine lv_iconst (v := nI 0) hx hb dX2_isToothTold_24 (by decide) ?_
      refine hret hP hD hS dX2_isToothTold_25 (by decide) rfl ?_
      exact ⟨congrArg nI (by first | exact b2n_e1 (tlt_1 (by assumption) (by rw [← hr_q.1]; assumption)) | exact b2n_e0 (tlt_0 (by assumption)) | exact b2n_e0 (tlt_2 (by rw [← hr_q.1]; assumption))), rfl⟩
    · -- 17 to 20
      refine lv_iconst (v := nI 1) hx hb dX2_isToothTold_20 (by decide) ?_
      refine lv_goto (tgt := 25) hx hb dX2_isToothTold_21 (by decide) ?_
      refine hret hP hD hS dX2_isToothTold_25 (by decide) rfl ?_
      exact ⟨congrArg nI (by first | exact b2n_e1 (tlt_1 (by assumption) (by rw [← hr_q.1]; assumption)) | exact b2n_e0 (tlt_0 (by assumption)) | exact b2n_e0 (tlt_2 (by rw [← hr_q.1]; assumption))), rfl⟩
set_option maxHeartbeats 4000000 in
set_option maxRecDepth 100000 in
theorem k_X2_addWheel {l : Launch} {D : va_G} {cI cC cB : ClassId} {a : Nat} {pq : Nat → Nat} {rd te ps pu sd cj ta : Nat → Nat} {x y w : Nat} (hW : PlW rd te ps pu sd cj ta) (hx1 : x ≤ 99) (hy1 : y ≤ 99) (hw1 : w ≤ 99) : MI l yX2_addWheel cX2_addWheel 4 (some .boolean) 1 D (Ty3 cI cC cB) [.ref a, .int (nI (x)), .int (nI (y)), .int (nI (w))] [pO a pq (rd 0) (rd 2) (rd 1) (szN rd (rd 0)) (rd 3) (rd 4), (pq 0, .inl (cI, 4, .inl (fun z_ => nI (te z_)))), (pq 1, .inl (cI, 4, .inl (fun z_ => nI (ps z_)))), (pq 2, .inl (cI, 4, .inl (fun z_ => nI (pu z_)))), (pq 3, .inl (cI, 4, .inl (fun z_ => nI (sd z_)))), (pq 4, .inl (cI, 8, .inl (fun z_ => nI (cj z_)))), (pq 5, .inl (cI, 5, .inl (fun z_ => nI (ta z_))))] (fun r u => ((wokB rd x y w = false) ∧ r = nI (0) ∧ u = [pO a pq (rd 0) (rd 2) (rd 1) (szN rd (rd 0)) (rd 3) (rd 4), (pq 0, .inl (cI, 4, .inl (fun z_ => nI (te z_)))), (pq 1, .inl (cI, 4, .inl (fun z_ => nI (ps z_)))), (pq 2, .inl (cI, 4, .inl (fun z_ => nI (pu z_)))), (pq 3, .inl (cI, 4, .inl (fun z_ => nI (sd z_)))), (pq 4, .inl (cI, 8, .inl (fun z_ => nI (cj z_)))), (pq 5, .inl (cI, 5, .inl (fun z_ => nI (ta z_))))]) ∨ (∃ te2 : Nat → Nat, ∃ ps2 : Nat → Nat, ∃ pu2 : Nat → Nat, ∃ sd2 : Nat → Nat, ∃ cj2 : Nat → Nat, ∃ ta2 : Nat → Nat, (wokB rd x y w = true) ∧ (PlW (wrdN rd x y w) te2 ps2 pu2 sd2 cj2 ta2) ∧ r = nI (1) ∧ u = [pO a pq ((wrdN rd x y w) 0) ((wrdN rd x y w) 2) ((wrdN rd x y w) 1) (szN (wrdN rd x y w) ((wrdN rd x y w) 0)) ((wrdN rd x y w) 3) ((wrdN rd x y w) 4), (pq 0, .inl (cI, 4, .inl (fun z_ => nI (te2 z_)))), (pq 1, .inl (cI, 4, .inl (fun z_ => nI (ps2 z_)))), (pq 2, .inl (cI, 4, .inl (fun z_ => nI (pu2 z_)))), (pq 3, .inl (cI, 4, .inl (fun z_ => nI (sd2 z_)))), (pq 4, .inl (cI, 8, .inl (fun z_ => nI (cj2 z_)))), (pq 5, .inl (cI, 5, .inl (fun z_ => nI (ta2 z_))))])) := by
  intro sz
  refine MI.walk (by decide +kernel) (Nat.le_of_ble_eq_true rfl) ?_
  intro p e s m args below meth c A Qf hx hb hml hts hown hret hK hP hD hS hA ls hl
  have hown : s.vm.findClass RX2 = some m.cls := hown
  have hl : lv_has ls 4 [(0, .ref a), (1, .int (nI (x))), (2, .int (nI (y))), (3, .int (nI (w)))] := hl
  have hP : va_P D vwCl [pO a pq (rd 0) (rd 2) (rd 1) (szN rd (rd 0)) (rd 3) (rd 4), (pq 0, .inl (cI, 4, .inl (fun z_ => nI (te z_)))), (pq 1, .inl (cI, 4, .inl (fun z_ => nI (ps z_)))), (pq 2, .inl (cI, 4, .inl (fun z_ => nI (pu z_)))), (pq 3, .inl (cI, 4, .inl (fun z_ => nI (sd z_)))), (pq 4, .inl (cI, 8, .inl (fun z_ => nI (cj z_)))), (pq 5, .inl (cI, 5, .inl (fun z_ => nI (ta z_))))] s.heap := hP
  have hD : va_D A [pO a pq (rd 0) (rd 2) (rd 1) (szN rd (rd 0)) (rd 3) (rd 4), (pq 0, .inl (cI, 4, .inl (fun z_ => nI (te z_)))), (pq 1, .inl (cI, 4, .inl (fun z_ => nI (ps z_)))), (pq 2, .inl (cI, 4, .inl (fun z_ => nI (pu z_)))), (pq 3, .inl (cI, 4, .inl (fun z_ => nI (sd z_)))), (pq 4, .inl (cI, 8, .inl (fun z_ => nI (cj z_)))), (pq 5, .inl (cI, 5, .inl (fun z_ => nI (ta z_))))] := hD
  have hw_q := hW.1.w
  refine lv_aload_n hx hb dX2_addWheel_0 rfl (lv_at hl 0 rfl) ?_
  refine gf_2_30 hx hb hts hown hK hP 0 rfl rfl dX2_addWheel_1 ?_
  refine lv_iconst (v := nI 4) hx hb dX2_addWheel_4 (by decide) ?_
  refine n_icmp_ge (tgt := 29) hx hb dX2_addWheel_5 (by decide) (by omega) (by decide) (fun c_1 => ?_) (fun c_1 => ?_)
  · -- 5 to 29
    refine lv_iconst (v := nI 0) hx hb dX2_addWheel_29 (by decide) ?_
    refine hret hP hD hS dX2_addWheel_30 (by decide) rfl ?_
    exact Or.inl ⟨wok_0 (by omega), rfl, rfl⟩
  · -- 5 to 8
    refine lv_iload_n hx hb dX2_addWheel_8 rfl (lv_at hl 1 rfl) ?_
    refine lv_iconst (v := nI 2) hx hb dX2_addWheel_9 (by decide) ?_
    refine n_icmp_lt (tgt := 29) hx hb dX2_addWheel_10 (by decide) (by omega) (by decide) (fun c_2 => ?_) (fun c_2 => ?_)
    · -- 10 to 29
      refine lv_iconst (v := nI 0) hx hb dX2_addWheel_29 (by decide) ?_
      refine hret hP hD hS dX2_addWheel_30 (by decide) rfl ?_
      exact Or.inl ⟨wok_0 (by omega), rfl, rfl⟩
    · -- 10 to 13
      refine lv_iload_n hx hb dX2_addWheel_13 rfl (lv_at hl 1 rfl) ?_
      refine lv_bipush (v := nI 6) hx hb dX2_addWheel_14 (by decide) ?_
      refine n_icmp_gt (tgt := 29) hx hb dX2_addWheel_16 (by decide) (by omega) (by decide) (fun c_3 => ?_) (fun c_3 => ?_)
      · -- 16 to 29
        refine lv_iconst (v := nI 0) hx hb dX2_addWheel_29 (by decide) ?_
        refine hret hP hD hS dX2_addWheel_30 (by decide) rfl ?_
        exact Or.inl ⟨wok_0 (by omega), rfl, rfl⟩
      · -- 16 to 19
        refine lv_iload_n hx hb dX2_addWheel_19 rfl (lv_at hl 2 rfl) ?_
        refine lv_iload_n hx hb dX2_addWheel_20 rfl (lv_at hl 1 rfl) ?_
        refine n_icmp_ge (tgt := 29) hx hb dX2_addWheel_21 (by decide) (by omega) (by omega) (fun c_4 => ?_) (fun c_4 => ?_)
        · -- 21 to 29
          refine lv_iconst (v := nI 0) hx hb dX2_addWheel_29 (by decide) ?_
          refine hret hP hD hS dX2_addWheel_30 (by decide) rfl ?_
          exact Or.inl ⟨wok_0 (by omega), rfl, rfl⟩
        · -- 21 to 24
          refine lv_iload_n hx hb dX2_addWheel_24 rfl (lv_at hl 3 rfl) ?_
          refine lv_iload_n hx hb dX2_addWheel_25 rfl (lv_at hl 1 rfl) ?_
          refine n_icmp_lt (tgt := 31) hx hb dX2_addWheel_26 (by decide) (by omega) (by omega) (fun c_5 => ?_) (fun c_5 => ?_)
          · -- 26 to 31
            refine lv_aload_n hx hb dX2_addWheel_31 rfl (lv_at hl 0 rfl) ?_
            refine gf_2_9 hx hb hts hown hK hP 0 rfl rfl dX2_addWheel_32 ?_
            refine lv_aload_n hx hb dX2_addWheel_35 rfl (lv_at hl 0 rfl) ?_
            refine gf_2_30 hx hb hts hown hK hP 0 rfl rfl dX2_addWheel_36 ?_
            refine lv_iload_n hx hb dX2_addWheel_39 rfl (lv_at hl 1 rfl) ?_
            refine cl_2_69 (As := [.ref (pq 0), .int (nI (rd 0)), .int (nI (x))]) (rest := []) hx hb hml hts hown (k_X6_put (by first | assumption | omega) (by first | assumption | omega)) (by decide) ⟨Nat.zero_le _, Nat.zero_le _⟩ hK hP hD hS hA [1] rfl (by decide) rfl hl.1 rfl (Nat.le_of_ble_eq_true rfl) dX2_addWheel_40 (fun  u H locs hp_6 hP hD hS => ?_)
            subst hp_6
            have hP : va_P D vwCl [pO a pq (rd 0) (rd 2) (rd 1) (szN rd (rd 0)) (rd 3) (rd 4), (pq 0, .inl (cI, 4, .inl (fun z_ => nI ((up1 te (rd 0) x) z_)))), (pq 1, .inl (cI, 4, .inl (fun z_ => nI (ps z_)))), (pq 2, .inl (cI, 4, .inl (fun z_ => nI (pu z_)))), (pq 3, .inl (cI, 4, .inl (fun z_ => nI (sd z_)))), (pq 4, .inl (cI, 8, .inl (fun z_ => nI (cj z_)))), (pq 5, .inl (cI, 5, .inl (fun z_ => nI (ta z_))))] _ := hP
            have hD : va_D A [pO a pq (rd 0) (rd 2) (rd 1) (szN rd (rd 0)) (rd 3) (rd 4), (pq 0, .inl (cI, 4, .inl (fun z_ => nI ((up1 te (rd 0) x) z_)))), (pq 1, .inl (cI, 4, .inl (fun z_ => nI (ps z_)))), (pq 2, .inl (cI, 4, .inl (fun z_ => nI (pu z_)))), (pq 3, .inl (cI, 4, .inl (fun z_ => nI (sd z_)))), (pq 4, .inl (cI, 8, .inl (fun z_ => nI (cj z_)))), (pq 5, .inl (cI, 5, .inl (fun z_ => nI (ta z_))))] := hD
            refine lv_aload_n hx hb dX2_addWheel_43 rfl (lv_at hl 0 rfl) ?_
            refine gf_2_15 hx hb hts hown hK hP 0 rfl rfl dX2_addWheel_44 ?_
            refine lv_aload_n hx hb dX2_addWheel_47 rfl (lv_at hl 0 rfl) ?_
            refine gf_2_30 hx hb hts hown hK hP 0 rfl rfl dX2_addWheel_48 ?_
            refine lv_iload_n hx hb dX2_addWheel_51 rfl (lv_at hl 2 rfl) ?_
            refine cl_2_69 (As := [.ref (pq 1), .int (nI (rd 0)), .int (nI (y))]) (rest := []) hx hb hml hts hown (k_X6_put (by first | assumption | omega) (by first | assumption | omega)) (by decide) ⟨Nat.zero_le _, Nat.zero_le _⟩ hK hP hD hS hA [2] rfl (by decide) rfl hl.1 rfl (Nat.le_of_ble_eq_true rfl) dX2_addWheel_52 (fun  u H locs hp_7 hP hD hS => ?_)
            subst hp_7
            have hP : va_P D vwCl [pO a pq (rd 0) (rd 2) (rd 1) (szN rd (rd 0)) (rd 3) (rd 4), (pq 0, .inl (cI, 4, .inl (fun z_ => nI ((up1 te (rd 0) x) z_)))), (pq 1, .inl (cI, 4, .inl (fun z_ => nI ((up1 ps (rd 0) y) z_)))), (pq 2, .inl (cI, 4, .inl (fun z_ => nI (pu z_)))), (pq 3, .inl (cI, 4, .inl (fun z_ => nI (sd z_)))), (pq 4, .inl (cI, 8, .inl (fun z_ => nI (cj z_)))), (pq 5, .inl (cI, 5, .inl (fun z_ => nI (ta z_))))] _ := hP
            have hD : va_D A [pO a pq (rd 0) (rd 2) (rd 1) (szN rd (rd 0)) (rd 3) (rd 4), (pq 0, .inl (cI, 4, .inl (fun z_ => nI ((up1 te (rd 0) x) z_)))), (pq 1, .inl (cI, 4, .inl (fun z_ => nI ((up1 ps (rd 0) y) z_)))), (pq 2, .inl (cI, 4, .inl (fun z_ => nI (pu z_)))), (pq 3, .inl (cI, 4, .inl (fun z_ => nI (sd z_)))), (pq 4, .inl (cI, 8, .inl (fun z_ => nI (cj z_)))), (pq 5, .inl (cI, 5, .inl (fun z_ => nI (ta z_))))] := hD
            refine lv_aload_n hx hb dX2_addWheel_55 rfl (lv_at hl 0 rfl) ?_
            refine gf_2_18 hx hb hts hown hK hP 0 rfl rfl dX2_addWheel_56 ?_
            refine lv_aload_n hx hb dX2_addWheel_59 rfl (lv_at hl 0 rfl) ?_
            refine gf_2_30 hx hb hts hown hK hP 0 rfl rfl dX2_addWheel_60 ?_
            refine lv_iload_n hx hb dX2_addWheel_63 rfl (lv_at hl 3 rfl) ?_
            refine cl_2_69 (As := [.ref (pq 2), .int (nI (rd 0)), .int (nI (w))]) (rest := []) hx hb hml hts hown (k_X6_put (by first | assumption | omega) (by first | assumption | omega)) (by decide) ⟨Nat.zero_le _, Nat.zero_le _⟩ hK hP hD hS hA [3] rfl (by decide) rfl hl.1 rfl (Nat.le_of_ble_eq_true rfl) dX2_addWheel_64 (fun  u H locs hp_8 hP hD hS => ?_)
            subst hp_8
            have hP : va_P D vwCl [pO a pq (rd 0) (rd 2) (rd 1) (szN rd (rd 0)) (rd 3) (rd 4), (pq 0, .inl (cI, 4, .inl (fun z_ => nI ((up1 te (rd 0) x) z_)))), (pq 1, .inl (cI, 4, .inl (fun z_ => nI ((up1 ps (rd 0) y) z_)))), (pq 2, .inl (cI, 4, .inl (fun z_ => nI ((up1 pu (rd 0) w) z_)))), (pq 3, .inl (cI, 4, .inl (fun z_ => nI (sd z_)))), (pq 4, .inl (cI, 8, .inl (fun z_ => nI (cj z_)))), (pq 5, .inl (cI, 5, .inl (fun z_ => nI (ta z_))))] _ := hP
            have hD : va_D A [pO a pq (rd 0) (rd 2) (rd 1) (szN rd (rd 0)) (rd 3) (rd 4), (pq 0, .inl (cI, 4, .inl (fun z_ => nI ((up1 te (rd 0) x) z_)))), (pq 1, .inl (cI, 4, .inl (fun z_ => nI ((up1 ps (rd 0) y) z_)))), (pq 2, .inl (cI, 4, .inl (fun z_ => nI ((up1 pu (rd 0) w) z_)))), (pq 3, .inl (cI, 4, .inl (fun z_ => nI (sd z_)))), (pq 4, .inl (cI, 8, .inl (fun z_ => nI (cj z_)))), (pq 5, .inl (cI, 5, .inl (fun z_ => nI (ta z_))))] := hD
            refine lv_aload_n hx hb dX2_addWheel_67 rfl (lv_at hl 0 rfl) ?_
            refine gf_2_21 hx hb hts hown hK hP 0 rfl rfl dX2_addWheel_68 ?_
            refine lv_aload_n hx hb dX2_addWheel_71 rfl (lv_at hl 0 rfl) ?_
            refine gf_2_30 hx hb hts hown hK hP 0 rfl rfl dX2_addWheel_72 ?_
            refine lv_aload_n hx hb dX2_addWheel_75 rfl (lv_at hl 0 rfl) ?_
            refine gf_2_40 hx hb hts hown hK hP 0 rfl rfl dX2_addWheel_76 ?_
            refine cl_2_69 (As := [.ref (pq 3), .int (nI (rd 0)), .int (nI (szN rd (rd 0)))]) (rest := []) hx hb hml hts hown (k_X6_put (by first | assumption | omega) (by first | assumption | omega)) (by decide) ⟨Nat.zero_le _, Nat.zero_le _⟩ hK hP hD hS hA [4] rfl (by decide) rfl hl.1 rfl (Nat.le_of_ble_eq_true rfl) dX2_addWheel_79 (fun  u H locs hp_9 hP hD hS => ?_)
            subst hp_9
            have hP : va_P D vwCl [pO a pq (rd 0) (rd 2) (rd 1) (szN rd (rd 0)) (rd 3) (rd 4), (pq 0, .inl (cI, 4, .inl (fun z_ => nI ((up1 te (rd 0) x) z_)))), (pq 1, .inl (cI, 4, .inl (fun z_ => nI ((up1 ps (rd 0) y) z_)))), (pq 2, .inl (cI, 4, .inl (fun z_ => nI ((up1 pu (rd 0) w) z_)))), (pq 3, .inl (cI, 4, .inl (fun z_ => nI ((up1 sd (rd 0) (szN rd (rd 0))) z_)))), (pq 4, .inl (cI, 8, .inl (fun z_ => nI (cj z_)))), (pq 5, .inl (cI, 5, .inl (fun z_ => nI (ta z_))))] _ := hP
            have hD : va_D A [pO a pq (rd 0) (rd 2) (rd 1) (szN rd (rd 0)) (rd 3) (rd 4), (pq 0, .inl (cI, 4, .inl (fun z_ => nI ((up1 te (rd 0) x) z_)))), (pq 1, .inl (cI, 4, .inl (fun z_ => nI ((up1 ps (rd 0) y) z_)))), (pq 2, .inl (cI, 4, .inl (fun z_ => nI ((up1 pu (rd 0) w) z_)))), (pq 3, .inl (cI, 4, .inl (fun z_ => nI ((up1 sd (rd 0) (szN rd (rd 0))) z_)))), (pq 4, .inl (cI, 8, .inl (fun z_ => nI (cj z_)))), (pq 5, .inl (cI, 5, .inl (fun z_ => nI (ta z_))))] := hD
            refine lv_aload_n hx hb dX2_addWheel_82 rfl (lv_at hl 0 rfl) ?_
            refine lv_dup hx hb dX2_addWheel_83 rfl ?_
            refine gf_2_40 hx hb hts hown hK hP 0 rfl rfl dX2_addWheel_84 ?_
            refine lv_iload_n hx hb dX2_addWheel_87 rfl (lv_at hl 1 rfl) ?_
            refine n_imul hx hb dX2_addWheel_88  ?_
            refine pf_2_40 hx hb hts hown hK hP hD hS 0 rfl (Nat.le_of_ble_eq_true rfl) dX2_addWheel_89 (fun H locs hP hD hS => ?_)
            have hP : va_P D vwCl [pO a pq (rd 0) (rd 2) (rd 1) ((szN rd (rd 0)) * x) (rd 3) (rd 4), (pq 0, .inl (cI, 4, .inl (fun z_ => nI ((up1 te (rd 0) x) z_)))), (pq 1, .inl (cI, 4, .inl (fun z_ => nI ((up1 ps (rd 0) y) z_)))), (pq 2, .inl (cI, 4, .inl (fun z_ => nI ((up1 pu (rd 0) w) z_)))), (pq 3, .inl (cI, 4, .inl (fun z_ => nI ((up1 sd (rd 0) (szN rd (rd 0))) z_)))), (pq 4, .inl (cI, 8, .inl (fun z_ => nI (cj z_)))), (pq 5, .inl (cI, 5, .inl (fun z_ => nI (ta z_))))] _ := hP
            have hD : va_D A [pO a pq (rd 0) (rd 2) (rd 1) ((szN rd (rd 0)) * x) (rd 3) (rd 4), (pq 0, .inl (cI, 4, .inl (fun z_ => nI ((up1 te (rd 0) x) z_)))), (pq 1, .inl (cI, 4, .inl (fun z_ => nI ((up1 ps (rd 0) y) z_)))), (pq 2, .inl (cI, 4, .inl (fun z_ => nI ((up1 pu (rd 0) w) z_)))), (pq 3, .inl (cI, 4, .inl (fun z_ => nI ((up1 sd (rd 0) (szN rd (rd 0))) z_)))), (pq 4, .inl (cI, 8, .inl (fun z_ => nI (cj z_)))), (pq 5, .inl (cI, 5, .inl (fun z_ => nI (ta z_))))] := hD
            refine lv_aload_n hx hb dX2_addWheel_92 rfl (lv_at hl 0 rfl) ?_
            refine lv_dup hx hb dX2_addWheel_93 rfl ?_
            refine gf_2_30 hx hb hts hown hK hP 0 rfl rfl dX2_addWheel_94 ?_
            refine lv_iconst (v := nI 1) hx hb dX2_addWheel_97 (by decide) ?_
            refine n_iadd hx hb dX2_addWheel_98  ?_
            refine pf_2_30 hx hb hts hown hK hP hD hS 0 rfl (Nat.le_of_ble_eq_true rfl) dX2_addWheel_99 (fun H locs hP hD hS => ?_)
            have hP : va_P D vwCl [pO a pq ((rd 0) + 1) (rd 2) (rd 1) ((szN rd (rd 0)) * x) (rd 3) (rd 4), (pq 0, .inl (cI, 4, .inl (fun z_ => nI ((up1 te (rd 0) x) z_)))), (pq 1, .inl (cI, 4, .inl (fun z_ => nI ((up1 ps (rd 0) y) z_)))), (pq 2, .inl (cI, 4, .inl (fun z_ => nI ((up1 pu (rd 0) w) z_)))), (pq 3, .inl (cI, 4, .inl (fun z_ => nI ((up1 sd (rd 0) (szN rd (rd 0))) z_)))), (pq 4, .inl (cI, 8, .inl (fun z_ => nI (cj z_)))), (pq 5, .inl (cI, 5, .inl (fun z_ => nI (ta z_))))] _ := hP
            have hD : va_D A [pO a pq ((rd 0) + 1) (rd 2) (rd 1) ((szN rd (rd 0)) * x) (rd 3) (rd 4), (pq 0, .inl (cI, 4, .inl (fun z_ => nI ((up1 te (rd 0) x) z_)))), (pq 1, .inl (cI, 4, .inl (fun z_ => nI ((up1 ps (rd 0) y) z_)))), (pq 2, .inl (cI, 4, .inl (fun z_ => nI ((up1 pu (rd 0) w) z_)))), (pq 3, .inl (cI, 4, .inl (fun z_ => nI ((up1 sd (rd 0) (szN rd (rd 0))) z_)))), (pq 4, .inl (cI, 8, .inl (fun z_ => nI (cj z_)))), (pq 5, .inl (cI, 5, .inl (fun z_ => nI (ta z_))))] := hD
            have hok_q : wokB rd x y w = true := wok_1 (by omega)
            have eb_q : (pO a pq ((rd 0) + 1) (rd 2) (rd 1) ((szN rd (rd 0)) * x) (rd 3) (rd 4) : Nat × va_E) = pO a pq ((wrdN rd x y w) 0) ((wrdN rd x y w) 2) ((wrdN rd x y w) 1) (szN (wrdN rd x y w) ((wrdN rd x y w) 0)) ((wrdN rd x y w) 3) ((wrdN rd x y w) 4) := by rw [(wr_v hw_q).1, (wr_v hw_q).2.1, (wr_v hw_q).2.2.1, (wr_v hw_q).2.2.2.1, (wr_v hw_q).2.2.2.2, wr_sz hw_q]
            rw [eb_q] at hP hD
            have hP : va_P D vwCl [pO a pq ((wrdN rd x y w) 0) ((wrdN rd x y w) 2) ((wrdN rd x y w) 1) (szN (wrdN rd x y w) ((wrdN rd x y w) 0)) ((wrdN rd x y w) 3) ((wrdN rd x y w) 4), (pq 0, .inl (cI, 4, .inl (fun z_ => nI ((up1 te (rd 0) x) z_)))), (pq 1, .inl (cI, 4, .inl (fun z_ => nI ((up1 ps (rd 0) y) z_)))), (pq 2, .inl (cI, 4, .inl (fun z_ => nI ((up1 pu (rd 0) w) z_)))), (pq 3, .inl (cI, 4, .inl (fun z_ => nI ((up1 sd (rd 0) (szN rd (rd 0))) z_)))), (pq 4, .inl (cI, 8, .inl (fun z_ => nI (cj z_)))), (pq 5, .inl (cI, 5, .inl (fun z_ => nI (ta z_))))] _ := hP
            have hD : va_D A [pO a pq ((wrdN rd x y w) 0) ((wrdN rd x y w) 2) ((wrdN rd x y w) 1) (szN (wrdN rd x y w) ((wrdN rd x y w) 0)) ((wrdN rd x y w) 3) ((wrdN rd x y w) 4), (pq 0, .inl (cI, 4, .inl (fun z_ => nI ((up1 te (rd 0) x) z_)))), (pq 1, .inl (cI, 4, .inl (fun z_ => nI ((up1 ps (rd 0) y) z_)))), (pq 2, .inl (cI, 4, .inl (fun z_ => nI ((up1 pu (rd 0) w) z_)))), (pq 3, .inl (cI, 4, .inl (fun z_ => nI ((up1 sd (rd 0) (szN rd (rd 0))) z_)))), (pq 4, .inl (cI, 8, .inl (fun z_ => nI (cj z_)))), (pq 5, .inl (cI, 5, .inl (fun z_ => nI (ta z_))))] := hD
            refine lv_iconst (v := nI 1) hx hb dX2_addWheel_102 (by decide) ?_
            refine hret hP hD hS dX2_addWheel_103 (by decide) rfl ?_
            exact Or.inr ⟨up1 te (rd 0) x, up1 ps (rd 0) y, up1 pu (rd 0) w, up1 sd (rd 0) (szN rd (rd 0)), cj, ta, hok_q, plw_w hW hok_q, rfl, rfl⟩
          · -- 26 to 29
            refine lv_iconst (v := nI 0) hx hb dX2_addWheel_29 (by decide) ?_
            refine hret hP hD hS dX2_addWheel_30 (by decide) rfl ?_
            exact Or.inl ⟨wok_0 (by omega), rfl, rfl⟩
set_option maxHeartbeats 4000000 in
set_option maxRecDepth 100000 in
theorem k_X2_addClash {l : Launch} {D : va_G} {cI cC cB : ClassId} {a : Nat} {pq : Nat → Nat} {rd te ps pu sd cj ta : Nat → Nat} {x y w v : Nat} (hW : PlW rd te ps pu sd cj ta) (hx1 : x ≤ 99) (hy1 : y ≤ 99) (hw1 : w ≤ 99) (hv1 : v ≤ 99) : MI l yX2_addClash cX2_addClash 5 (some .boolean) 2 D (Ty3 cI cC cB) [.ref a, .int (nI (x)), .int (nI (y)), .int (nI (w)), .int (nI (v))] [pO a pq (rd 0) (rd 2) (rd 1) (szN rd (rd 0)) (rd 3) (rd 4), (pq 0, .inl (cI, 4, .inl (fun z_ => nI (te z_)))), (pq 1, .inl (cI, 4, .inl (fun z_ => nI (ps z_)))), (pq 2, .inl (cI, 4, .inl (fun z_ => nI (pu z_)))), (pq 3, .inl (cI, 4, .inl (fun z_ => nI (sd z_)))), (pq 4, .inl (cI, 8, .inl (fun z_ => nI (cj z_)))), (pq 5, .inl (cI, 5, .inl (fun z_ => nI (ta z_))))] (fun r u => ((pokB rd x y w v = false) ∧ r = nI (0) ∧ u = [pO a pq (rd 0) (rd 2) (rd 1) (szN rd (rd 0)) (rd 3) (rd 4), (pq 0, .inl (cI, 4, .inl (fun z_ => nI (te z_)))), (pq 1, .inl (cI, 4, .inl (fun z_ => nI (ps z_)))), (pq 2, .inl (cI, 4, .inl (fun z_ => nI (pu z_)))), (pq 3, .inl (cI, 4, .inl (fun z_ => nI (sd z_)))), (pq 4, .inl (cI, 8, .inl (fun z_ => nI (cj z_)))), (pq 5, .inl (cI, 5, .inl (fun z_ => nI (ta z_))))]) ∨ (∃ te2 : Nat → Nat, ∃ ps2 : Nat → Nat, ∃ pu2 : Nat → Nat, ∃ sd2 : Nat → Nat, ∃ cj2 : Nat → Nat, ∃ ta2 : Nat → Nat, (pokB rd x y w v = true) ∧ (PlW (prdN rd x y w v) te2 ps2 pu2 sd2 cj2 ta2) ∧ r = nI (1) ∧ u = [pO a pq ((prdN rd x y w v) 0) ((prdN rd x y w v) 2) ((prdN rd x y w v) 1) (szN (prdN rd x y w v) ((prdN rd x y w v) 0)) ((prdN rd x y w v) 3) ((prdN rd x y w v) 4), (pq 0, .inl (cI, 4, .inl (fun z_ => nI (te2 z_)))), (pq 1, .inl (cI, 4, .inl (fun z_ => nI (ps2 z_)))), (pq 2, .inl (cI, 4, .inl (fun z_ => nI (pu2 z_)))), (pq 3, .inl (cI, 4, .inl (fun z_ => nI (sd2 z_)))), (pq 4, .inl (cI, 8, .inl (fun z_ => nI (cj2 z_)))), (pq 5, .inl (cI, 5, .inl (fun z_ => nI (ta2 z_))))])) := by
  intro sz
  refine MI.walk (by decide +kernel) (Nat.le_of_ble_eq_true rfl) ?_
  intro p e s m args below meth c A Qf hx hb hml hts hown hret hK hP hD hS hA ls hl
  have hown : s.vm.findClass RX2 = some m.cls := hown
  have hl : lv_has ls 5 [(0, .ref a), (1, .int (nI (x))), (2, .int (nI (y))), (3, .int (nI (w))), (4, .int (nI (v)))] := hl
  have hP : va_P D vwCl [pO a pq (rd 0) (rd 2) (rd 1) (szN rd (rd 0)) (rd 3) (rd 4), (pq 0, .inl (cI, 4, .inl (fun z_ => nI (te z_)))), (pq 1, .inl (cI, 4, .inl (fun z_ => nI (ps z_)))), (pq 2, .inl (cI, 4, .inl (fun z_ => nI (pu z_)))), (pq 3, .inl (cI, 4, .inl (fun z_ => nI (sd z_)))), (pq 4, .inl (cI, 8, .inl (fun z_ => nI (cj z_)))), (pq 5, .inl (cI, 5, .inl (fun z_ => nI (ta z_))))] s.heap := hP
  have hD : va_D A [pO a pq (rd 0) (rd 2) (rd 1) (szN rd (rd 0)) (rd 3) (rd 4), (pq 0, .inl (cI, 4, .inl (fun z_ => nI (te z_)))), (pq 1, .inl (cI, 4, .inl (fun z_ => nI (ps z_)))), (pq 2, .inl (cI, 4, .inl (fun z_ => nI (pu z_)))), (pq 3, .inl (cI, 4, .inl (fun z_ => nI (sd z_)))), (pq 4, .inl (cI, 8, .inl (fun z_ => nI (cj z_)))), (pq 5, .inl (cI, 5, .inl (fun z_ => nI (ta z_))))] := hD
  have hw_q := hW.1.n
  have hw0_q := hW.1.w
  refine lv_aload_n hx hb dX2_addClash_0 rfl (lv_at hl 0 rfl) ?_
  refine gf_2_34 hx hb hts hown hK hP 0 rfl rfl dX2_addClash_1 ?_
  refine lv_bipush (v := nI 8) hx hb dX2_addClash_4 (by decide) ?_
  refine n_icmp_ge (tgt := 33) hx hb dX2_addClash_6 (by decide) (by omega) (by decide) (fun c_1 => ?_) (fun c_1 => ?_)
  · -- 6 to 33
    refine lv_iconst (v := nI 0) hx hb dX2_addClash_33 (by decide) ?_
    refine hret hP hD hS dX2_addClash_34 (by decide) rfl ?_
    exact Or.inl ⟨by first | exact pok_0 (by omega) | exact pok_1 (by omega) | exact pok_2 (by assumption) | exact pok_3 (by assumption), rfl, rfl⟩
  · -- 6 to 9
    refine lv_iload_n hx hb dX2_addClash_9 rfl (lv_at hl 1 rfl) ?_
    refine lv_iload_n hx hb dX2_addClash_10 rfl (lv_at hl 3 rfl) ?_
    refine n_icmp_eq (tgt := 33) hx hb dX2_addClash_11 (by decide) (by omega) (by omega) (fun c_2 => ?_) (fun c_2 => ?_)
    · -- 11 to 33
      refine lv_iconst (v := nI 0) hx hb dX2_addClash_33 (by decide) ?_
      refine hret hP hD hS dX2_addClash_34 (by decide) rfl ?_
      exact Or.inl ⟨by first | exact pok_0 (by omega) | exact pok_1 (by omega) | exact pok_2 (by assumption) | exact pok_3 (by assumption), rfl, rfl⟩
    · -- 11 to 14
      refine lv_aload_n hx hb dX2_addClash_14 rfl (lv_at hl 0 rfl) ?_
      refine lv_iload_n hx hb dX2_addClash_15 rfl (lv_at hl 1 rfl) ?_
      refine lv_iload_n hx hb dX2_addClash_16 rfl (lv_at hl 2 rfl) ?_
      refine cl_2_73 (As := [.int (nI (x)), .int (nI (y))]) (rest := []) hx hb hml hts hown (k_X2_isToothTold hW (by omega) (by omega)) (by decide) ⟨Nat.zero_le _, Nat.zero_le _⟩ hK hP hD hS hA 0 rfl [0, 1, 2, 3, 4, 5, 6] rfl (by decide) rfl hl.1 rfl (Nat.le_of_ble_eq_true rfl) dX2_addClash_17 (fun r_3 u H locs hp_4 hP hD hS => ?_)
      obtain ⟨rfl, rfl⟩ := hp_4
      have hP : va_P D vwCl [pO a pq (rd 0) (rd 2) (rd 1) (szN rd (rd 0)) (rd 3) (rd 4), (pq 0, .inl (cI, 4, .inl (fun z_ => nI (te z_)))), (pq 1, .inl (cI, 4, .inl (fun z_ => nI (ps z_)))), (pq 2, .inl (cI, 4, .inl (fun z_ => nI (pu z_)))), (pq 3, .inl (cI, 4, .inl (fun z_ => nI (sd z_)))), (pq 4, .inl (cI, 8, .inl (fun z_ => nI (cj z_)))), (pq 5, .inl (cI, 5, .inl (fun z_ => nI (ta z_))))] _ := hP
      have hD : va_D A [pO a pq (rd 0) (rd 2) (rd 1) (szN rd (rd 0)) (rd 3) (rd 4), (pq 0, .inl (cI, 4, .inl (fun z_ => nI (te z_)))), (pq 1, .inl (cI, 4, .inl (fun z_ => nI (ps z_)))), (pq 2, .inl (cI, 4, .inl (fun z_ => nI (pu z_)))), (pq 3, .inl (cI, 4, .inl (fun z_ => nI (sd z_)))), (pq 4, .inl (cI, 8, .inl (fun z_ => nI (cj z_)))), (pq 5, .inl (cI, 5, .inl (fun z_ => nI (ta z_))))] := hD
      refine n_ifb_eq (tgt := 33) hx hb dX2_addClash_20 (by decide) (fun c_5 => ?_) (fun c_5 => ?_)
      · -- 20 to 33
        refine lv_iconst (v := nI 0) hx hb dX2_addClash_33 (by decide) ?_
        refine hret hP hD hS dX2_addClash_34 (by decide) rfl ?_
        exact Or.inl ⟨by first | exact pok_0 (by omega) | exact pok_1 (by omega) | exact pok_2 (by assumption) | exact pok_3 (by assumption), rfl, rfl⟩
      · -- 20 to 23
        have ht1_q := c_5
        refine lv_aload_n hx hb dX2_addClash_23 rfl (lv_at hl 0 rfl) ?_
        refine lv_iload_n hx hb dX2_addClash_24 rfl (lv_at hl 3 rfl) ?_
        refine lv_iload hx hb dX2_addClash_25 (lv_at hl 4 rfl) ?_
        refine cl_2_73 (As := [.int (nI (w)), .int (nI (v))]) (rest := []) hx hb hml hts hown (k_X2_isToothTold hW (by omega) (by omega)) (by decide) ⟨Nat.zero_le _, Nat.zero_le _⟩ hK hP hD hS hA 0 rfl [0, 1, 2, 3, 4, 5, 6] rfl (by decide) rfl hl.1 rfl (Nat.le_of_ble_eq_true rfl) dX2_addClash_27 (fun r_6 u H locs hp_7 hP hD hS => ?_)
        obtain ⟨rfl, rfl⟩ := hp_7
        have hP : va_P D vwCl [pO a pq (rd 0) (rd 2) (rd 1) (szN rd (rd 0)) (rd 3) (rd 4), (pq 0, .inl (cI, 4, .inl (fun z_ => nI (te z_)))), (pq 1, .inl (cI, 4, .inl (fun z_ => nI (ps z_)))), (pq 2, .inl (cI, 4, .inl (fun z_ => nI (pu z_)))), (pq 3, .inl (cI, 4, .inl (fun z_ => nI (sd z_)))), (pq 4, .inl (cI, 8, .inl (fun z_ => nI (cj z_)))), (pq 5, .inl (cI, 5, .inl (fun z_ => nI (ta z_))))] _ := hP
        have hD : va_D A [pO a pq (rd 0) (rd 2) (rd 1) (szN rd (rd 0)) (rd 3) (rd 4), (pq 0, .inl (cI, 4, .inl (fun z_ => nI (te z_)))), (pq 1, .inl (cI, 4, .inl (fun z_ => nI (ps z_)))), (pq 2, .inl (cI, 4, .inl (fun z_ => nI (pu z_)))), (pq 3, .inl (cI, 4, .inl (fun z_ => nI (sd z_)))), (pq 4, .inl (cI, 8, .inl (fun z_ => nI (cj z_)))), (pq 5, .inl (cI, 5, .inl (fun z_ => nI (ta z_))))] := hD
        refine n_ifb_ne (tgt := 35) hx hb dX2_addClash_30 (by decide) (fun c_8 => ?_) (fun c_8 => ?_)
        · -- 30 to 35
          have ht2_q := c_8
          have hl1_q := tlt_lt hW.1 ht1_q
          have hl2_q := tlt_lt hW.1 ht2_q
          refine lv_aload_n hx hb dX2_addClash_35 rfl (lv_at hl 0 rfl) ?_
          refine gf_2_24 hx hb hts hown hK hP 0 rfl rfl dX2_addClash_36 ?_
          refine lv_aload_n hx hb dX2_addClash_39 rfl (lv_at hl 0 rfl) ?_
          refine gf_2_34 hx hb hts hown hK hP 0 rfl rfl dX2_addClash_40 ?_
          refine lv_iconst (v := nI 1) hx hb dX2_addClash_43 (by decide) ?_
          refine lv_iload_n hx hb dX2_addClash_44 rfl (lv_at hl 1 rfl) ?_
          refine lv_iload_n hx hb dX2_addClash_45 rfl (lv_at hl 2 rfl) ?_
          refine cl_2_76 (As := [.int (nI (x)), .int (nI (y))]) (rest := [.int (nI (1)), .int (nI (rd 2)), .ref (pq 4)]) hx hb hml hts hown (k_X6_slotOf ) (by decide) ⟨Nat.zero_le _, Nat.zero_le _⟩ hK hP hD hS hA [] rfl (by decide) rfl hl.1 rfl (Nat.le_of_ble_eq_true rfl) dX2_addClash_46 (fun r_9 u H locs hp_10 hP hD hS => ?_)
          obtain ⟨rfl, rfl⟩ := hp_10
          have hP : va_P D vwCl [pO a pq (rd 0) (rd 2) (rd 1) (szN rd (rd 0)) (rd 3) (rd 4), (pq 0, .inl (cI, 4, .inl (fun z_ => nI (te z_)))), (pq 1, .inl (cI, 4, .inl (fun z_ => nI (ps z_)))), (pq 2, .inl (cI, 4, .inl (fun z_ => nI (pu z_)))), (pq 3, .inl (cI, 4, .inl (fun z_ => nI (sd z_)))), (pq 4, .inl (cI, 8, .inl (fun z_ => nI (cj z_)))), (pq 5, .inl (cI, 5, .inl (fun z_ => nI (ta z_))))] _ := hP
          have hD : va_D A [pO a pq (rd 0) (rd 2) (rd 1) (szN rd (rd 0)) (rd 3) (rd 4), (pq 0, .inl (cI, 4, .inl (fun z_ => nI (te z_)))), (pq 1, .inl (cI, 4, .inl (fun z_ => nI (ps z_)))), (pq 2, .inl (cI, 4, .inl (fun z_ => nI (pu z_)))), (pq 3, .inl (cI, 4, .inl (fun z_ => nI (sd z_)))), (pq 4, .inl (cI, 8, .inl (fun z_ => nI (cj z_)))), (pq 5, .inl (cI, 5, .inl (fun z_ => nI (ta z_))))] := hD
          refine n_ishl hx hb dX2_addClash_49 (by omega) ?_
          refine lv_iconst (v := nI 1) hx hb dX2_addClash_50 (by decide) ?_
          refine lv_iload_n hx hb dX2_addClash_51 rfl (lv_at hl 3 rfl) ?_
          refine lv_iload hx hb dX2_addClash_52 (lv_at hl 4 rfl) ?_
          refine cl_2_76 (As := [.int (nI (w)), .int (nI (v))]) (rest := [.int (nI (1)), .int (nI (1 * 2 ^ (x * 6 + y))), .int (nI (rd 2)), .ref (pq 4)]) hx hb hml hts hown (k_X6_slotOf ) (by decide) ⟨Nat.zero_le _, Nat.zero_le _⟩ hK hP hD hS hA [] rfl (by decide) rfl hl.1 rfl (Nat.le_of_ble_eq_true rfl) dX2_addClash_54 (fun r_11 u H locs hp_12 hP hD hS => ?_)
          obtain ⟨rfl, rfl⟩ := hp_12
          have hP : va_P D vwCl [pO a pq (rd 0) (rd 2) (rd 1) (szN rd (rd 0)) (rd 3) (rd 4), (pq 0, .inl (cI, 4, .inl (fun z_ => nI (te z_)))), (pq 1, .inl (cI, 4, .inl (fun z_ => nI (ps z_)))), (pq 2, .inl (cI, 4, .inl (fun z_ => nI (pu z_)))), (pq 3, .inl (cI, 4, .inl (fun z_ => nI (sd z_)))), (pq 4, .inl (cI, 8, .inl (fun z_ => nI (cj z_)))), (pq 5, .inl (cI, 5, .inl (fun z_ => nI (ta z_))))] _ := hP
          have hD : va_D A [pO a pq (rd 0) (rd 2) (rd 1) (szN rd (rd 0)) (rd 3) (rd 4), (pq 0, .inl (cI, 4, .inl (fun z_ => nI (te z_)))), (pq 1, .inl (cI, 4, .inl (fun z_ => nI (ps z_)))), (pq 2, .inl (cI, 4, .inl (fun z_ => nI (pu z_)))), (pq 3, .inl (cI, 4, .inl (fun z_ => nI (sd z_)))), (pq 4, .inl (cI, 8, .inl (fun z_ => nI (cj z_)))), (pq 5, .inl (cI, 5, .inl (fun z_ => nI (ta z_))))] := hD
          refine n_ishl hx hb dX2_addClash_57 (by omega) ?_
          refine n_ior hx hb dX2_addClash_58  ?_
          refine cl_2_69 (As := [.ref (pq 4), .int (nI (rd 2)), .int (nI ((1 * 2 ^ (x * 6 + y)) ||| (1 * 2 ^ (w * 6 + v))))]) (rest := []) hx hb hml hts hown (k_X6_put (by first | assumption | omega) (by first | assumption | omega)) (by decide) ⟨Nat.zero_le _, Nat.zero_le _⟩ hK hP hD hS hA [5] rfl (by decide) rfl hl.1 rfl (Nat.le_of_ble_eq_true rfl) dX2_addClash_59 (fun  u H locs hp_13 hP hD hS => ?_)
          subst hp_13
          have hP : va_P D vwCl [pO a pq (rd 0) (rd 2) (rd 1) (szN rd (rd 0)) (rd 3) (rd 4), (pq 0, .inl (cI, 4, .inl (fun z_ => nI (te z_)))), (pq 1, .inl (cI, 4, .inl (fun z_ => nI (ps z_)))), (pq 2, .inl (cI, 4, .inl (fun z_ => nI (pu z_)))), (pq 3, .inl (cI, 4, .inl (fun z_ => nI (sd z_)))), (pq 4, .inl (cI, 8, .inl (fun z_ => nI ((up1 cj (rd 2) ((1 * 2 ^ (x * 6 + y)) ||| (1 * 2 ^ (w * 6 + v)))) z_)))), (pq 5, .inl (cI, 5, .inl (fun z_ => nI (ta z_))))] _ := hP
          have hD : va_D A [pO a pq (rd 0) (rd 2) (rd 1) (szN rd (rd 0)) (rd 3) (rd 4), (pq 0, .inl (cI, 4, .inl (fun z_ => nI (te z_)))), (pq 1, .inl (cI, 4, .inl (fun z_ => nI (ps z_)))), (pq 2, .inl (cI, 4, .inl (fun z_ => nI (pu z_)))), (pq 3, .inl (cI, 4, .inl (fun z_ => nI (sd z_)))), (pq 4, .inl (cI, 8, .inl (fun z_ => nI ((up1 cj (rd 2) ((1 * 2 ^ (x * 6 + y)) ||| (1 * 2 ^ (w * 6 + v)))) z_)))), (pq 5, .inl (cI, 5, .inl (fun z_ => nI (ta z_))))] := hD
          refine lv_aload_n hx hb dX2_addClash_62 rfl (lv_at hl 0 rfl) ?_
          refine lv_dup hx hb dX2_addClash_63 rfl ?_
          refine gf_2_34 hx hb hts hown hK hP 0 rfl rfl dX2_addClash_64 ?_
          refine lv_iconst (v := nI 1) hx hb dX2_addClash_67 (by decide) ?_
          refine n_iadd hx hb dX2_addClash_68  ?_
          refine pf_2_34 hx hb hts hown hK hP hD hS 0 rfl (Nat.le_of_ble_eq_true rfl) dX2_addClash_69 (fun H locs hP hD hS => ?_)
          have hP : va_P D vwCl [pO a pq (rd 0) ((rd 2) + 1) (rd 1) (szN rd (rd 0)) (rd 3) (rd 4), (pq 0, .inl (cI, 4, .inl (fun z_ => nI (te z_)))), (pq 1, .inl (cI, 4, .inl (fun z_ => nI (ps z_)))), (pq 2, .inl (cI, 4, .inl (fun z_ => nI (pu z_)))), (pq 3, .inl (cI, 4, .inl (fun z_ => nI (sd z_)))), (pq 4, .inl (cI, 8, .inl (fun z_ => nI ((up1 cj (rd 2) ((1 * 2 ^ (x * 6 + y)) ||| (1 * 2 ^ (w * 6 + v)))) z_)))), (pq 5, .inl (cI, 5, .inl (fun z_ => nI (ta z_))))] _ := hP
          have hD : va_D A [pO a pq (rd 0) ((rd 2) + 1) (rd 1) (szN rd (rd 0)) (rd 3) (rd 4), (pq 0, .inl (cI, 4, .inl (fun z_ => nI (te z_)))), (pq 1, .inl (cI, 4, .inl (fun z_ => nI (ps z_)))), (pq 2, .inl (cI, 4, .inl (fun z_ => nI (pu z_)))), (pq 3, .inl (cI, 4, .inl (fun z_ => nI (sd z_)))), (pq 4, .inl (cI, 8, .inl (fun z_ => nI ((up1 cj (rd 2) ((1 * 2 ^ (x * 6 + y)) ||| (1 * 2 ^ (w * 6 + v)))) z_)))), (pq 5, .inl (cI, 5, .inl (fun z_ => nI (ta z_))))] := hD
          have hok_q : pokB rd x y w v = true := pok_t (by omega) (by assumption) ht1_q ht2_q
          have eb_q : (pO a pq (rd 0) ((rd 2) + 1) (rd 1) (szN rd (rd 0)) (rd 3) (rd 4) : Nat × va_E) = pO a pq ((prdN rd x y w v) 0) ((prdN rd x y w v) 2) ((prdN rd x y w v) 1) (szN (prdN rd x y w v) ((prdN rd x y w v) 0)) ((prdN rd x y w v) 3) ((prdN rd x y w v) 4) := by rw [prd_v.1, prd_v.2.1, prd_v.2.2.1, prd_v.2.2.2.1, prd_v.2.2.2.2, prd_sz hW.1]
          rw [eb_q] at hP hD
          have hP : va_P D vwCl [pO a pq ((prdN rd x y w v) 0) ((prdN rd x y w v) 2) ((prdN rd x y w v) 1) (szN (prdN rd x y w v) ((prdN rd x y w v) 0)) ((prdN rd x y w v) 3) ((prdN rd x y w v) 4), (pq 0, .inl (cI, 4, .inl (fun z_ => nI (te z_)))), (pq 1, .inl (cI, 4, .inl (fun z_ => nI (ps z_)))), (pq 2, .inl (cI, 4, .inl (fun z_ => nI (pu z_)))), (pq 3, .inl (cI, 4, .inl (fun z_ => nI (sd z_)))), (pq 4, .inl (cI, 8, .inl (fun z_ => nI ((up1 cj (rd 2) ((1 * 2 ^ (x * 6 + y)) ||| (1 * 2 ^ (w * 6 + v)))) z_)))), (pq 5, .inl (cI, 5, .inl (fun z_ => nI (ta z_))))] _ := hP
          have hD : va_D A [pO a pq ((prdN rd x y w v) 0) ((prdN rd x y w v) 2) ((prdN rd x y w v) 1) (szN (prdN rd x y w v) ((prdN rd x y w v) 0)) ((prdN rd x y w v) 3) ((prdN rd x y w v) 4), (pq 0, .inl (cI, 4, .inl (fun z_ => nI (te z_)))), (pq 1, .inl (cI, 4, .inl (fun z_ => nI (ps z_)))), (pq 2, .inl (cI, 4, .inl (fun z_ => nI (pu z_)))), (pq 3, .inl (cI, 4, .inl (fun z_ => nI (sd z_)))), (pq 4, .inl (cI, 8, .inl (fun z_ => nI ((up1 cj (rd 2) ((1 * 2 ^ (x * 6 + y)) ||| (1 * 2 ^ (w * 6 + v)))) z_)))), (pq 5, .inl (cI, 5, .inl (fun z_ => nI (ta z_))))] := hD
          refine lv_iconst (v := nI 1) hx hb dX2_addClash_72 (by decide) ?_
          refine hret hP hD hS dX2_addClash_73 (by decide) rfl ?_
          exact Or.inr ⟨te, ps, pu, sd, up1 cj (rd 2) ((1 * 2 ^ (x * 6 + y)) ||| (1 * 2 ^ (w * 6 + v))), ta, hok_q, plw_p hW hok_q, rfl, rfl⟩
        · -- 30 to 33
          refine lv_iconst (v := nI 0) hx hb dX2_addClash_33 (by decide) ?_
          refine hret hP hD hS dX2_addClash_34 (by decide) rfl ?_
          exact Or.inl ⟨by first | exact pok_0 (by omega) | exact pok_1 (by omega) | exact pok_2 (by assumption) | exact pok_3 (by assumption), rfl, rfl⟩
set_option maxHeartbeats 4000000 in
set_option maxRecDepth 100000 in
theorem k_X2_addPerson {l : Launch} {D : va_G} {cI cC cB : ClassId} {a : Nat} {pq : Nat → Nat} {rd te ps pu sd cj ta : Nat → Nat} {x : Nat} (hW : PlW rd te ps pu sd cj ta) (hx1 : x ≤ 99) : MI l yX2_addPerson cX2_addPerson 2 (some .boolean) 1 D (Ty3 cI cC cB) [.ref a, .int (nI (x))] [pO a pq (rd 0) (rd 2) (rd 1) (szN rd (rd 0)) (rd 3) (rd 4), (pq 0, .inl (cI, 4, .inl (fun z_ => nI (te z_)))), (pq 1, .inl (cI, 4, .inl (fun z_ => nI (ps z_)))), (pq 2, .inl (cI, 4, .inl (fun z_ => nI (pu z_)))), (pq 3, .inl (cI, 4, .inl (fun z_ => nI (sd z_)))), (pq 4, .inl (cI, 8, .inl (fun z_ => nI (cj z_)))), (pq 5, .inl (cI, 5, .inl (fun z_ => nI (ta z_))))] (fun r u => ((sokB rd x = false) ∧ r = nI (0) ∧ u = [pO a pq (rd 0) (rd 2) (rd 1) (szN rd (rd 0)) (rd 3) (rd 4), (pq 0, .inl (cI, 4, .inl (fun z_ => nI (te z_)))), (pq 1, .inl (cI, 4, .inl (fun z_ => nI (ps z_)))), (pq 2, .inl (cI, 4, .inl (fun z_ => nI (pu z_)))), (pq 3, .inl (cI, 4, .inl (fun z_ => nI (sd z_)))), (pq 4, .inl (cI, 8, .inl (fun z_ => nI (cj z_)))), (pq 5, .inl (cI, 5, .inl (fun z_ => nI (ta z_))))]) ∨ (∃ te2 : Nat → Nat, ∃ ps2 : Nat → Nat, ∃ pu2 : Nat → Nat, ∃ sd2 : Nat → Nat, ∃ cj2 : Nat → Nat, ∃ ta2 : Nat → Nat, (sokB rd x = true) ∧ (PlW (srdN rd x) te2 ps2 pu2 sd2 cj2 ta2) ∧ r = nI (1) ∧ u = [pO a pq ((srdN rd x) 0) ((srdN rd x) 2) ((srdN rd x) 1) (szN (srdN rd x) ((srdN rd x) 0)) ((srdN rd x) 3) ((srdN rd x) 4), (pq 0, .inl (cI, 4, .inl (fun z_ => nI (te2 z_)))), (pq 1, .inl (cI, 4, .inl (fun z_ => nI (ps2 z_)))), (pq 2, .inl (cI, 4, .inl (fun z_ => nI (pu2 z_)))), (pq 3, .inl (cI, 4, .inl (fun z_ => nI (sd2 z_)))), (pq 4, .inl (cI, 8, .inl (fun z_ => nI (cj2 z_)))), (pq 5, .inl (cI, 5, .inl (fun z_ => nI (ta2 z_))))])) := by
  intro sz
  refine MI.walk (by decide +kernel) (Nat.le_of_ble_eq_true rfl) ?_
  intro p e s m args below meth c A Qf hx hb hml hts hown hret hK hP hD hS hA ls hl
  have hown : s.vm.findClass RX2 = some m.cls := hown
  have hl : lv_has ls 2 [(0, .ref a), (1, .int (nI (x)))] := hl
  have hP : va_P D vwCl [pO a pq (rd 0) (rd 2) (rd 1) (szN rd (rd 0)) (rd 3) (rd 4), (pq 0, .inl (cI, 4, .inl (fun z_ => nI (te z_)))), (pq 1, .inl (cI, 4, .inl (fun z_ => nI (ps z_)))), (pq 2, .inl (cI, 4, .inl (fun z_ => nI (pu z_)))), (pq 3, .inl (cI, 4, .inl (fun z_ => nI (sd z_)))), (pq 4, .inl (cI, 8, .inl (fun z_ => nI (cj z_)))), (pq 5, .inl (cI, 5, .inl (fun z_ => nI (ta z_))))] s.heap := hP
  have hD : va_D A [pO a pq (rd 0) (rd 2) (rd 1) (szN rd (rd 0)) (rd 3) (rd 4), (pq 0, .inl (cI, 4, .inl (fun z_ => nI (te z_)))), (pq 1, .inl (cI, 4, .inl (fun z_ => nI (ps z_)))), (pq 2, .inl (cI, 4, .inl (fun z_ => nI (pu z_)))), (pq 3, .inl (cI, 4, .inl (fun z_ => nI (sd z_)))), (pq 4, .inl (cI, 8, .inl (fun z_ => nI (cj z_)))), (pq 5, .inl (cI, 5, .inl (fun z_ => nI (ta z_))))] := hD
  have hw_q := hW.1.n
  have hw0_q := hW.1.w
  refine lv_aload_n hx hb dX2_addPerson_0 rfl (lv_at hl 0 rfl) ?_
  refine gf_2_37 hx hb hts hown hK hP 0 rfl rfl dX2_addPerson_1 ?_
  refine lv_iconst (v := nI 5) hx hb dX2_addPerson_4 (by decide) ?_
  refine n_icmp_ge (tgt := 14) hx hb dX2_addPerson_5 (by decide) (by omega) (by decide) (fun c_1 => ?_) (fun c_1 => ?_)
  · -- 5 to 14
    refine lv_iconst (v := nI 0) hx hb dX2_addPerson_14 (by decide) ?_
    refine hret hP hD hS dX2_addPerson_15 (by decide) rfl ?_
    exact Or.inl ⟨sok_0 (by omega), rfl, rfl⟩
  · -- 5 to 8
    refine lv_iload_n hx hb dX2_addPerson_8 rfl (lv_at hl 1 rfl) ?_
    refine lv_bipush (v := nI 31) hx hb dX2_addPerson_9 (by decide) ?_
    refine n_icmp_le (tgt := 16) hx hb dX2_addPerson_11 (by decide) (by omega) (by decide) (fun c_2 => ?_) (fun c_2 => ?_)
    · -- 11 to 16
      refine lv_aload_n hx hb dX2_addPerson_16 rfl (lv_at hl 0 rfl) ?_
      refine gf_2_27 hx hb hts hown hK hP 0 rfl rfl dX2_addPerson_17 ?_
      refine lv_aload_n hx hb dX2_addPerson_20 rfl (lv_at hl 0 rfl) ?_
      refine gf_2_37 hx hb hts hown hK hP 0 rfl rfl dX2_addPerson_21 ?_
      refine lv_iload_n hx hb dX2_addPerson_24 rfl (lv_at hl 1 rfl) ?_
      refine cl_2_69 (As := [.ref (pq 5), .int (nI (rd 1)), .int (nI (x))]) (rest := []) hx hb hml hts hown (k_X6_put (by first | assumption | omega) (by first | assumption | omega)) (by decide) ⟨Nat.zero_le _, Nat.zero_le _⟩ hK hP hD hS hA [6] rfl (by decide) rfl hl.1 rfl (Nat.le_of_ble_eq_true rfl) dX2_addPerson_25 (fun  u H locs hp_3 hP hD hS => ?_)
      subst hp_3
      have hP : va_P D vwCl [pO a pq (rd 0) (rd 2) (rd 1) (szN rd (rd 0)) (rd 3) (rd 4), (pq 0, .inl (cI, 4, .inl (fun z_ => nI (te z_)))), (pq 1, .inl (cI, 4, .inl (fun z_ => nI (ps z_)))), (pq 2, .inl (cI, 4, .inl (fun z_ => nI (pu z_)))), (pq 3, .inl (cI, 4, .inl (fun z_ => nI (sd z_)))), (pq 4, .inl (cI, 8, .inl (fun z_ => nI (cj z_)))), (pq 5, .inl (cI, 5, .inl (fun z_ => nI ((up1 ta (rd 1) x) z_))))] _ := hP
      have hD : va_D A [pO a pq (rd 0) (rd 2) (rd 1) (szN rd (rd 0)) (rd 3) (rd 4), (pq 0, .inl (cI, 4, .inl (fun z_ => nI (te z_)))), (pq 1, .inl (cI, 4, .inl (fun z_ => nI (ps z_)))), (pq 2, .inl (cI, 4, .inl (fun z_ => nI (pu z_)))), (pq 3, .inl (cI, 4, .inl (fun z_ => nI (sd z_)))), (pq 4, .inl (cI, 8, .inl (fun z_ => nI (cj z_)))), (pq 5, .inl (cI, 5, .inl (fun z_ => nI ((up1 ta (rd 1) x) z_))))] := hD
      refine lv_aload_n hx hb dX2_addPerson_28 rfl (lv_at hl 0 rfl) ?_
      refine lv_dup hx hb dX2_addPerson_29 rfl ?_
      refine gf_2_37 hx hb hts hown hK hP 0 rfl rfl dX2_addPerson_30 ?_
      refine lv_iconst (v := nI 1) hx hb dX2_addPerson_33 (by decide) ?_
      refine n_iadd hx hb dX2_addPerson_34  ?_
      refine pf_2_37 hx hb hts hown hK hP hD hS 0 rfl (Nat.le_of_ble_eq_true rfl) dX2_addPerson_35 (fun H locs hP hD hS => ?_)
      have hP : va_P D vwCl [pO a pq (rd 0) (rd 2) ((rd 1) + 1) (szN rd (rd 0)) (rd 3) (rd 4), (pq 0, .inl (cI, 4, .inl (fun z_ => nI (te z_)))), (pq 1, .inl (cI, 4, .inl (fun z_ => nI (ps z_)))), (pq 2, .inl (cI, 4, .inl (fun z_ => nI (pu z_)))), (pq 3, .inl (cI, 4, .inl (fun z_ => nI (sd z_)))), (pq 4, .inl (cI, 8, .inl (fun z_ => nI (cj z_)))), (pq 5, .inl (cI, 5, .inl (fun z_ => nI ((up1 ta (rd 1) x) z_))))] _ := hP
      have hD : va_D A [pO a pq (rd 0) (rd 2) ((rd 1) + 1) (szN rd (rd 0)) (rd 3) (rd 4), (pq 0, .inl (cI, 4, .inl (fun z_ => nI (te z_)))), (pq 1, .inl (cI, 4, .inl (fun z_ => nI (ps z_)))), (pq 2, .inl (cI, 4, .inl (fun z_ => nI (pu z_)))), (pq 3, .inl (cI, 4, .inl (fun z_ => nI (sd z_)))), (pq 4, .inl (cI, 8, .inl (fun z_ => nI (cj z_)))), (pq 5, .inl (cI, 5, .inl (fun z_ => nI ((up1 ta (rd 1) x) z_))))] := hD
      have hok_q : sokB rd x = true := sok_1 (by omega)
      have eb_q : (pO a pq (rd 0) (rd 2) ((rd 1) + 1) (szN rd (rd 0)) (rd 3) (rd 4) : Nat × va_E) = pO a pq ((srdN rd x) 0) ((srdN rd x) 2) ((srdN rd x) 1) (szN (srdN rd x) ((srdN rd x) 0)) ((srdN rd x) 3) ((srdN rd x) 4) := by rw [srd_v.1, srd_v.2.1, srd_v.2.2.1, srd_v.2.2.2.1, srd_v.2.2.2.2, srd_sz hW.1]
      rw [eb_q] at hP hD
      have hP : va_P D vwCl [pO a pq ((srdN rd x) 0) ((srdN rd x) 2) ((srdN rd x) 1) (szN (srdN rd x) ((srdN rd x) 0)) ((srdN rd x) 3) ((srdN rd x) 4), (pq 0, .inl (cI, 4, .inl (fun z_ => nI (te z_)))), (pq 1, .inl (cI, 4, .inl (fun z_ => nI (ps z_)))), (pq 2, .inl (cI, 4, .inl (fun z_ => nI (pu z_)))), (pq 3, .inl (cI, 4, .inl (fun z_ => nI (sd z_)))), (pq 4, .inl (cI, 8, .inl (fun z_ => nI (cj z_)))), (pq 5, .inl (cI, 5, .inl (fun z_ => nI ((up1 ta (rd 1) x) z_))))] _ := hP
      have hD : va_D A [pO a pq ((srdN rd x) 0) ((srdN rd x) 2) ((srdN rd x) 1) (szN (srdN rd x) ((srdN rd x) 0)) ((srdN rd x) 3) ((srdN rd x) 4), (pq 0, .inl (cI, 4, .inl (fun z_ => nI (te z_)))), (pq 1, .inl (cI, 4, .inl (fun z_ => nI (ps z_)))), (pq 2, .inl (cI, 4, .inl (fun z_ => nI (pu z_)))), (pq 3, .inl (cI, 4, .inl (fun z_ => nI (sd z_)))), (pq 4, .inl (cI, 8, .inl (fun z_ => nI (cj z_)))), (pq 5, .inl (cI, 5, .inl (fun z_ => nI ((up1 ta (rd 1) x) z_))))] := hD
      refine lv_iconst (v := nI 1) hx hb dX2_addPerson_38 (by decide) ?_
      refine hret hP hD hS dX2_addPerson_39 (by decide) rfl ?_
      exact Or.inr ⟨te, ps, pu, sd, cj, up1 ta (rd 1) x, hok_q, plw_s hW hok_q, rfl, rfl⟩
    · -- 11 to 14
      refine lv_iconst (v := nI 0) hx hb dX2_addPerson_14 (by decide) ?_
      refine hret hP hD hS dX2_addPerson_15 (by decide) rfl ?_
      exact Or.inl ⟨sok_0 (by omega), rfl, rfl⟩
set_option maxHeartbeats 4000000 in
set_option maxRecDepth 100000 in
theorem k_X2_setWorth {l : Launch} {D : va_G} {cI cC cB : ClassId} {a : Nat} {pq : Nat → Nat} {rd te ps pu sd cj ta : Nat → Nat} {x y : Nat} (hW : PlW rd te ps pu sd cj ta) (hx1 : x ≤ 99) (hy1 : y ≤ 99) : MI l yX2_setWorth cX2_setWorth 3 (some .boolean) 0 D (Ty3 cI cC cB) [.ref a, .int (nI (x)), .int (nI (y))] [pO a pq (rd 0) (rd 2) (rd 1) (szN rd (rd 0)) (rd 3) (rd 4), (pq 0, .inl (cI, 4, .inl (fun z_ => nI (te z_)))), (pq 1, .inl (cI, 4, .inl (fun z_ => nI (ps z_)))), (pq 2, .inl (cI, 4, .inl (fun z_ => nI (pu z_)))), (pq 3, .inl (cI, 4, .inl (fun z_ => nI (sd z_)))), (pq 4, .inl (cI, 8, .inl (fun z_ => nI (cj z_)))), (pq 5, .inl (cI, 5, .inl (fun z_ => nI (ta z_))))] (fun r u => ((ookB x = false) ∧ r = nI (0) ∧ u = [pO a pq (rd 0) (rd 2) (rd 1) (szN rd (rd 0)) (rd 3) (rd 4), (pq 0, .inl (cI, 4, .inl (fun z_ => nI (te z_)))), (pq 1, .inl (cI, 4, .inl (fun z_ => nI (ps z_)))), (pq 2, .inl (cI, 4, .inl (fun z_ => nI (pu z_)))), (pq 3, .inl (cI, 4, .inl (fun z_ => nI (sd z_)))), (pq 4, .inl (cI, 8, .inl (fun z_ => nI (cj z_)))), (pq 5, .inl (cI, 5, .inl (fun z_ => nI (ta z_))))]) ∨ (∃ te2 : Nat → Nat, ∃ ps2 : Nat → Nat, ∃ pu2 : Nat → Nat, ∃ sd2 : Nat → Nat, ∃ cj2 : Nat → Nat, ∃ ta2 : Nat → Nat, (ookB x = true) ∧ (PlW (up1 (up1 rd 3 x) 4 y) te2 ps2 pu2 sd2 cj2 ta2) ∧ r = nI (1) ∧ u = [pO a pq ((up1 (up1 rd 3 x) 4 y) 0) ((up1 (up1 rd 3 x) 4 y) 2) ((up1 (up1 rd 3 x) 4 y) 1) (szN (up1 (up1 rd 3 x) 4 y) ((up1 (up1 rd 3 x) 4 y) 0)) ((up1 (up1 rd 3 x) 4 y) 3) ((up1 (up1 rd 3 x) 4 y) 4), (pq 0, .inl (cI, 4, .inl (fun z_ => nI (te2 z_)))), (pq 1, .inl (cI, 4, .inl (fun z_ => nI (ps2 z_)))), (pq 2, .inl (cI, 4, .inl (fun z_ => nI (pu2 z_)))), (pq 3, .inl (cI, 4, .inl (fun z_ => nI (sd2 z_)))), (pq 4, .inl (cI, 8, .inl (fun z_ => nI (cj2 z_)))), (pq 5, .inl (cI, 5, .inl (fun z_ => nI (ta2 z_))))])) := by
  intro sz
  refine MI.walk (by decide +kernel) (Nat.le_of_ble_eq_true rfl) ?_
  intro p e s m args below meth c A Qf hx hb hml hts hown hret hK hP hD hS hA ls hl
  have hown : s.vm.findClass RX2 = some m.cls := hown
  have hl : lv_has ls 3 [(0, .ref a), (1, .int (nI (x))), (2, .int (nI (y)))] := hl
  have hP : va_P D vwCl [pO a pq (rd 0) (rd 2) (rd 1) (szN rd (rd 0)) (rd 3) (rd 4), (pq 0, .inl (cI, 4, .inl (fun z_ => nI (te z_)))), (pq 1, .inl (cI, 4, .inl (fun z_ => nI (ps z_)))), (pq 2, .inl (cI, 4, .inl (fun z_ => nI (pu z_)))), (pq 3, .inl (cI, 4, .inl (fun z_ => nI (sd z_)))), (pq 4, .inl (cI, 8, .inl (fun z_ => nI (cj z_)))), (pq 5, .inl (cI, 5, .inl (fun z_ => nI (ta z_))))] s.heap := hP
  have hD : va_D A [pO a pq (rd 0) (rd 2) (rd 1) (szN rd (rd 0)) (rd 3) (rd 4), (pq 0, .inl (cI, 4, .inl (fun z_ => nI (te z_)))), (pq 1, .inl (cI, 4, .inl (fun z_ => nI (ps z_)))), (pq 2, .inl (cI, 4, .inl (fun z_ => nI (pu z_)))), (pq 3, .inl (cI, 4, .inl (fun z_ => nI (sd z_)))), (pq 4, .inl (cI, 8, .inl (fun z_ => nI (cj z_)))), (pq 5, .inl (cI, 5, .inl (fun z_ => nI (ta z_))))] := hD
  refine lv_iload_n hx hb dX2_setWorth_0 rfl (lv_at hl 1 rfl) ?_
  refine lv_bipush (v := nI 9) hx hb dX2_setWorth_1 (by decide) ?_
  refine n_icmp_le (tgt := 8) hx hb dX2_setWorth_3 (by decide) (by omega) (by decide) (fun c_1 => ?_) (fun c_1 => ?_)
  · -- 3 to 8
    refine lv_aload_n hx hb dX2_setWorth_8 rfl (lv_at hl 0 rfl) ?_
    refine lv_iload_n hx hb dX2_setWorth_9 rfl (lv_at hl 1 rfl) ?_
    refine pf_2_43 hx hb hts hown hK hP hD hS 0 rfl (Nat.le_of_ble_eq_true rfl) dX2_setWorth_10 (fun H locs hP hD hS => ?_)
    have hP : va_P D vwCl [pO a pq (rd 0) (rd 2) (rd 1) (szN rd (rd 0)) x (rd 4), (pq 0, .inl (cI, 4, .inl (fun z_ => nI (te z_)))), (pq 1, .inl (cI, 4, .inl (fun z_ => nI (ps z_)))), (pq 2, .inl (cI, 4, .inl (fun z_ => nI (pu z_)))), (pq 3, .inl (cI, 4, .inl (fun z_ => nI (sd z_)))), (pq 4, .inl (cI, 8, .inl (fun z_ => nI (cj z_)))), (pq 5, .inl (cI, 5, .inl (fun z_ => nI (ta z_))))] _ := hP
    have hD : va_D A [pO a pq (rd 0) (rd 2) (rd 1) (szN rd (rd 0)) x (rd 4), (pq 0, .inl (cI, 4, .inl (fun z_ => nI (te z_)))), (pq 1, .inl (cI, 4, .inl (fun z_ => nI (ps z_)))), (pq 2, .inl (cI, 4, .inl (fun z_ => nI (pu z_)))), (pq 3, .inl (cI, 4, .inl (fun z_ => nI (sd z_)))), (pq 4, .inl (cI, 8, .inl (fun z_ => nI (cj z_)))), (pq 5, .inl (cI, 5, .inl (fun z_ => nI (ta z_))))] := hD
    refine lv_aload_n hx hb dX2_setWorth_13 rfl (lv_at hl 0 rfl) ?_
    refine lv_iload_n hx hb dX2_setWorth_14 rfl (lv_at hl 2 rfl) ?_
    refine pf_2_46 hx hb hts hown hK hP hD hS 0 rfl (Nat.le_of_ble_eq_true rfl) dX2_setWorth_15 (fun H locs hP hD hS => ?_)
    have hP : va_P D vwCl [pO a pq (rd 0) (rd 2) (rd 1) (szN rd (rd 0)) x y, (pq 0, .inl (cI, 4, .inl (fun z_ => nI (te z_)))), (pq 1, .inl (cI, 4, .inl (fun z_ => nI (ps z_)))), (pq 2, .inl (cI, 4, .inl (fun z_ => nI (pu z_)))), (pq 3, .inl (cI, 4, .inl (fun z_ => nI (sd z_)))), (pq 4, .inl (cI, 8, .inl (fun z_ => nI (cj z_)))), (pq 5, .inl (cI, 5, .inl (fun z_ => nI (ta z_))))] _ := hP
    have hD : va_D A [pO a pq (rd 0) (rd 2) (rd 1) (szN rd (rd 0)) x y, (pq 0, .inl (cI, 4, .inl (fun z_ => nI (te z_)))), (pq 1, .inl (cI, 4, .inl (fun z_ => nI (ps z_)))), (pq 2, .inl (cI, 4, .inl (fun z_ => nI (pu z_)))), (pq 3, .inl (cI, 4, .inl (fun z_ => nI (sd z_)))), (pq 4, .inl (cI, 8, .inl (fun z_ => nI (cj z_)))), (pq 5, .inl (cI, 5, .inl (fun z_ => nI (ta z_))))] := hD
    have hok_q : ookB x = true := ook_1 (by omega)
    have eb_q : (pO a pq (rd 0) (rd 2) (rd 1) (szN rd (rd 0)) x y : Nat × va_E) = pO a pq ((up1 (up1 rd 3 x) 4 y) 0) ((up1 (up1 rd 3 x) 4 y) 2) ((up1 (up1 rd 3 x) 4 y) 1) (szN (up1 (up1 rd 3 x) 4 y) ((up1 (up1 rd 3 x) 4 y) 0)) ((up1 (up1 rd 3 x) 4 y) 3) ((up1 (up1 rd 3 x) 4 y) 4) := by rw [ord_v.1, ord_v.2.1, ord_v.2.2.1, ord_v.2.2.2.1, ord_v.2.2.2.2, ord_sz hW.1]
    rw [eb_q] at hP hD
    have hP : va_P D vwCl [pO a pq ((up1 (up1 rd 3 x) 4 y) 0) ((up1 (up1 rd 3 x) 4 y) 2) ((up1 (up1 rd 3 x) 4 y) 1) (szN (up1 (up1 rd 3 x) 4 y) ((up1 (up1 rd 3 x) 4 y) 0)) ((up1 (up1 rd 3 x) 4 y) 3) ((up1 (up1 rd 3 x) 4 y) 4), (pq 0, .inl (cI, 4, .inl (fun z_ => nI (te z_)))), (pq 1, .inl (cI, 4, .inl (fun z_ => nI (ps z_)))), (pq 2, .inl (cI, 4, .inl (fun z_ => nI (pu z_)))), (pq 3, .inl (cI, 4, .inl (fun z_ => nI (sd z_)))), (pq 4, .inl (cI, 8, .inl (fun z_ => nI (cj z_)))), (pq 5, .inl (cI, 5, .inl (fun z_ => nI (ta z_))))] _ := hP
    have hD : va_D A [pO a pq ((up1 (up1 rd 3 x) 4 y) 0) ((up1 (up1 rd 3 x) 4 y) 2) ((up1 (up1 rd 3 x) 4 y) 1) (szN (up1 (up1 rd 3 x) 4 y) ((up1 (up1 rd 3 x) 4 y) 0)) ((up1 (up1 rd 3 x) 4 y) 3) ((up1 (up1 rd 3 x) 4 y) 4), (pq 0, .inl (cI, 4, .inl (fun z_ => nI (te z_)))), (pq 1, .inl (cI, 4, .inl (fun z_ => nI (ps z_)))), (pq 2, .inl (cI, 4, .inl (fun z_ => nI (pu z_)))), (pq 3, .inl (cI, 4, .inl (fun z_ => nI (sd z_)))), (pq 4, .inl (cI, 8, .inl (fun z_ => nI (cj z_)))), (pq 5, .inl (cI, 5, .inl (fun z_ => nI (ta z_))))] := hD
    refine lv_iconst (v := nI 1) hx hb dX2_setWorth_18 (by decide) ?_
    refine hret hP hD hS dX2_setWorth_19 (by decide) rfl ?_
    exact Or.inr ⟨te, ps, pu, sd, cj, ta, hok_q, plw_o hW hok_q hy1, rfl, rfl⟩
  · -- 3 to 6
    refine lv_iconst (v := nI 0) hx hb dX2_setWorth_6 (by decide) ?_
    refine hret hP hD hS dX2_setWorth_7 (by decide) rfl ?_
    exact Or.inl ⟨ook_0 (by omega), rfl, rfl⟩
set_option maxHeartbeats 4000000 in
set_option maxRecDepth 100000 in
theorem k_X2_take {l : Launch} {D : va_G} {cI cC cB : ClassId} {a : Nat} {pq : Nat → Nat} {rd te ps pu sd cj ta : Nat → Nat} {t k : Nat} {v : Nat → Nat} (hW : PlW rd te ps pu sd cj ta) (hk : k < 1000) (hv : ∀ j, j < nmO k → v j ≤ 99) : MI l yX2_take cX2_take 5 (some .boolean) 3 D (Ty3 cI cC cB) [.ref a, .int (nI (k)), .ref t] [pO a pq (rd 0) (rd 2) (rd 1) (szN rd (rd 0)) (rd 3) (rd 4), (pq 0, .inl (cI, 4, .inl (fun z_ => nI (te z_)))), (pq 1, .inl (cI, 4, .inl (fun z_ => nI (ps z_)))), (pq 2, .inl (cI, 4, .inl (fun z_ => nI (pu z_)))), (pq 3, .inl (cI, 4, .inl (fun z_ => nI (sd z_)))), (pq 4, .inl (cI, 8, .inl (fun z_ => nI (cj z_)))), (pq 5, .inl (cI, 5, .inl (fun z_ => nI (ta z_)))), (t, .inl (cI, 4, .inl (fun z_ => nI (v z_))))] (fun r u => ((tkB rd k v = false) ∧ r = nI (0) ∧ u = [pO a pq (rd 0) (rd 2) (rd 1) (szN rd (rd 0)) (rd 3) (rd 4), (pq 0, .inl (cI, 4, .inl (fun z_ => nI (te z_)))), (pq 1, .inl (cI, 4, .inl (fun z_ => nI (ps z_)))), (pq 2, .inl (cI, 4, .inl (fun z_ => nI (pu z_)))), (pq 3, .inl (cI, 4, .inl (fun z_ => nI (sd z_)))), (pq 4, .inl (cI, 8, .inl (fun z_ => nI (cj z_)))), (pq 5, .inl (cI, 5, .inl (fun z_ => nI (ta z_)))), (t, .inl (cI, 4, .inl (fun z_ => nI (v z_))))]) ∨ (∃ te2 : Nat → Nat, ∃ ps2 : Nat → Nat, ∃ pu2 : Nat → Nat, ∃ sd2 : Nat → Nat, ∃ cj2 : Nat → Nat, ∃ ta2 : Nat → Nat, (tkB rd k v = true) ∧ (PlW (tkR rd k v) te2 ps2 pu2 sd2 cj2 ta2) ∧ r = nI (1) ∧ u = [pO a pq ((tkR rd k v) 0) ((tkR rd k v) 2) ((tkR rd k v) 1) (szN (tkR rd k v) ((tkR rd k v) 0)) ((tkR rd k v) 3) ((tkR rd k v) 4), (pq 0, .inl (cI, 4, .inl (fun z_ => nI (te2 z_)))), (pq 1, .inl (cI, 4, .inl (fun z_ => nI (ps2 z_)))), (pq 2, .inl (cI, 4, .inl (fun z_ => nI (pu2 z_)))), (pq 3, .inl (cI, 4, .inl (fun z_ => nI (sd2 z_)))), (pq 4, .inl (cI, 8, .inl (fun z_ => nI (cj2 z_)))), (pq 5, .inl (cI, 5, .inl (fun z_ => nI (ta2 z_)))), (t, .inl (cI, 4, .inl (fun z_ => nI (v z_))))])) := by
  intro sz
  refine MI.walk (by decide +kernel) (Nat.le_of_ble_eq_true rfl) ?_
  intro p e s m args below meth c A Qf hx hb hml hts hown hret hK hP hD hS hA ls hl
  have hown : s.vm.findClass RX2 = some m.cls := hown
  have hl : lv_has ls 5 [(0, .ref a), (1, .int (nI (k))), (2, .ref t)] := hl
  have hP : va_P D vwCl [pO a pq (rd 0) (rd 2) (rd 1) (szN rd (rd 0)) (rd 3) (rd 4), (pq 0, .inl (cI, 4, .inl (fun z_ => nI (te z_)))), (pq 1, .inl (cI, 4, .inl (fun z_ => nI (ps z_)))), (pq 2, .inl (cI, 4, .inl (fun z_ => nI (pu z_)))), (pq 3, .inl (cI, 4, .inl (fun z_ => nI (sd z_)))), (pq 4, .inl (cI, 8, .inl (fun z_ => nI (cj z_)))), (pq 5, .inl (cI, 5, .inl (fun z_ => nI (ta z_)))), (t, .inl (cI, 4, .inl (fun z_ => nI (v z_))))] s.heap := hP
  have hD : va_D A [pO a pq (rd 0) (rd 2) (rd 1) (szN rd (rd 0)) (rd 3) (rd 4), (pq 0, .inl (cI, 4, .inl (fun z_ => nI (te z_)))), (pq 1, .inl (cI, 4, .inl (fun z_ => nI (ps z_)))), (pq 2, .inl (cI, 4, .inl (fun z_ => nI (pu z_)))), (pq 3, .inl (cI, 4, .inl (fun z_ => nI (sd z_)))), (pq 4, .inl (cI, 8, .inl (fun z_ => nI (cj z_)))), (pq 5, .inl (cI, 5, .inl (fun z_ => nI (ta z_)))), (t, .inl (cI, 4, .inl (fun z_ => nI (v z_))))] := hD
  refine lv_aload_n hx hb dX2_take_0 rfl (lv_at hl 2 rfl) ?_
  refine lv_iconst (v := nI 0) hx hb dX2_take_1 (by decide) ?_
  refine cl_2_49 (As := [.ref t, .int (nI (0))]) (rest := []) hx hb hml hts hown (k_X6_at (by first | assumption | omega) (by first | assumption | omega)) (by decide) ⟨Nat.zero_le _, Nat.zero_le _⟩ hK hP hD hS hA [7] rfl (by decide) rfl hl.1 rfl (Nat.le_of_ble_eq_true rfl) dX2_take_2 (fun r_1 u H locs hp_2 hP hD hS => ?_)
  obtain ⟨rfl, rfl⟩ := hp_2
  have hP : va_P D vwCl [pO a pq (rd 0) (rd 2) (rd 1) (szN rd (rd 0)) (rd 3) (rd 4), (pq 0, .inl (cI, 4, .inl (fun z_ => nI (te z_)))), (pq 1, .inl (cI, 4, .inl (fun z_ => nI (ps z_)))), (pq 2, .inl (cI, 4, .inl (fun z_ => nI (pu z_)))), (pq 3, .inl (cI, 4, .inl (fun z_ => nI (sd z_)))), (pq 4, .inl (cI, 8, .inl (fun z_ => nI (cj z_)))), (pq 5, .inl (cI, 5, .inl (fun z_ => nI (ta z_)))), (t, .inl (cI, 4, .inl (fun z_ => nI (v z_))))] _ := hP
  have hD : va_D A [pO a pq (rd 0) (rd 2) (rd 1) (szN rd (rd 0)) (rd 3) (rd 4), (pq 0, .inl (cI, 4, .inl (fun z_ => nI (te z_)))), (pq 1, .inl (cI, 4, .inl (fun z_ => nI (ps z_)))), (pq 2, .inl (cI, 4, .inl (fun z_ => nI (pu z_)))), (pq 3, .inl (cI, 4, .inl (fun z_ => nI (sd z_)))), (pq 4, .inl (cI, 8, .inl (fun z_ => nI (cj z_)))), (pq 5, .inl (cI, 5, .inl (fun z_ => nI (ta z_)))), (t, .inl (cI, 4, .inl (fun z_ => nI (v z_))))] := hD
  refine lv_istore_n (lv' := [(3, .int (nI (v 0))), (0, .ref a), (1, .int (nI (k))), (2, .ref t)]) hx hb dX2_take_5 rfl hl (by decide) rfl (fun ls hl => ?_)
  refine lv_aload_n hx hb dX2_take_6 rfl (lv_at hl 3 rfl) ?_
  refine lv_iconst (v := nI 1) hx hb dX2_take_7 (by decide) ?_
  refine cl_2_49 (As := [.ref t, .int (nI (1))]) (rest := []) hx hb hml hts hown (k_X6_at (by first | assumption | omega) (by first | assumption | omega)) (by decide) ⟨Nat.zero_le _, Nat.zero_le _⟩ hK hP hD hS hA [7] rfl (by decide) rfl hl.1 rfl (Nat.le_of_ble_eq_true rfl) dX2_take_8 (fun r_3 u H locs hp_4 hP hD hS => ?_)
  obtain ⟨rfl, rfl⟩ := hp_4
  have hP : va_P D vwCl [pO a pq (rd 0) (rd 2) (rd 1) (szN rd (rd 0)) (rd 3) (rd 4), (pq 0, .inl (cI, 4, .inl (fun z_ => nI (te z_)))), (pq 1, .inl (cI, 4, .inl (fun z_ => nI (ps z_)))), (pq 2, .inl (cI, 4, .inl (fun z_ => nI (pu z_)))), (pq 3, .inl (cI, 4, .inl (fun z_ => nI (sd z_)))), (pq 4, .inl (cI, 8, .inl (fun z_ => nI (cj z_)))), (pq 5, .inl (cI, 5, .inl (fun z_ => nI (ta z_)))), (t, .inl (cI, 4, .inl (fun z_ => nI (v z_))))] _ := hP
  have hD : va_D A [pO a pq (rd 0) (rd 2) (rd 1) (szN rd (rd 0)) (rd 3) (rd 4), (pq 0, .inl (cI, 4, .inl (fun z_ => nI (te z_)))), (pq 1, .inl (cI, 4, .inl (fun z_ => nI (ps z_)))), (pq 2, .inl (cI, 4, .inl (fun z_ => nI (pu z_)))), (pq 3, .inl (cI, 4, .inl (fun z_ => nI (sd z_)))), (pq 4, .inl (cI, 8, .inl (fun z_ => nI (cj z_)))), (pq 5, .inl (cI, 5, .inl (fun z_ => nI (ta z_)))), (t, .inl (cI, 4, .inl (fun z_ => nI (v z_))))] := hD
  refine lv_istore (lv' := [(4, .int (nI (v 1))), (3, .int (nI (v 0))), (0, .ref a), (1, .int (nI (k))), (2, .ref t)]) hx hb dX2_take_11 hl (by decide) rfl (fun ls hl => ?_)
  refine lv_iload_n hx hb dX2_take_13 rfl (lv_at hl 3 rfl) ?_
  rcases (show k < 111 ∨ 120 < k ∨ k = 111 ∨ k = 112 ∨ k = 113 ∨ k = 114 ∨ k = 115 ∨ k = 116 ∨ k = 117 ∨ k = 118 ∨ k = 119 ∨ k = 120 by omega) with c_5 | c_5 | c_5 | c_5 | c_5 | c_5 | c_5 | c_5 | c_5 | c_5 | c_5 | c_5
  · refine n_tabOut (tgt := 113) hx hb dX2_take_14 (by omega) (Or.inl (by omega)) (by decide) ?_
    refine lv_iconst (v := nI 0) hx hb dX2_take_113 (by decide) ?_
    refine hret hP hD hS dX2_take_114 (by decide) rfl ?_
    exact Or.inl ⟨tk_out (by omega), rfl, rfl⟩
  · refine n_tabOut (tgt := 113) hx hb dX2_take_14 (by omega) (Or.inr (by omega)) (by decide) ?_
    refine lv_iconst (v := nI 0) hx hb dX2_take_113 (by decide) ?_
    refine hret hP hD hS dX2_take_114 (by decide) rfl ?_
    exact Or.inl ⟨tk_out (by omega), rfl, rfl⟩
  · refine n_tabIn (tgt := 105) (v := 111) hx hb dX2_take_14 c_5 (by decide) (by decide) (off := 91) (by decide) (by decide) ?_
    have hk_q : k = 111 := c_5
    have hv0_q := hv 0 (by rw [hk_q]; decide)
    have hv1_q := hv 1 (by rw [hk_q]; decide)
    refine lv_aload_n hx hb dX2_take_105 rfl (lv_at hl 2 rfl) ?_
    refine lv_iload_n hx hb dX2_take_106 rfl (lv_at hl 1 rfl) ?_
    refine lv_iload hx hb dX2_take_107 (lv_at hl 0 rfl) ?_
    refine cl_2_65 (As := [.int (nI (v 0)), .int (nI (v 1))]) (rest := []) hx hb hml hts hown (k_X2_setWorth hW (by omega) (by omega)) (by decide) ⟨Nat.zero_le _, Nat.zero_le _⟩ hK hP hD hS hA 0 rfl [0, 1, 2, 3, 4, 5, 6] rfl (by decide) rfl hl.1 rfl (Nat.le_of_ble_eq_true rfl) dX2_take_109 (fun r_6 u H locs hp_7 hP hD hS => ?_)
    rcases hp_7 with ⟨hq_8, rfl, rfl⟩ | ⟨z_9, z_10, z_11, z_12, z_13, z_14, hq_15, hq_16, rfl, rfl⟩
    · -- case 0 of k_X2_setWorth
      have hP : va_P D vwCl [pO a pq (rd 0) (rd 2) (rd 1) (szN rd (rd 0)) (rd 3) (rd 4), (pq 0, .inl (cI, 4, .inl (fun z_ => nI (te z_)))), (pq 1, .inl (cI, 4, .inl (fun z_ => nI (ps z_)))), (pq 2, .inl (cI, 4, .inl (fun z_ => nI (pu z_)))), (pq 3, .inl (cI, 4, .inl (fun z_ => nI (sd z_)))), (pq 4, .inl (cI, 8, .inl (fun z_ => nI (cj z_)))), (pq 5, .inl (cI, 5, .inl (fun z_ => nI (ta z_)))), (t, .inl (cI, 4, .inl (fun z_ => nI (v z_))))] _ := hP
      have hD : va_D A [pO a pq (rd 0) (rd 2) (rd 1) (szN rd (rd 0)) (rd 3) (rd 4), (pq 0, .inl (cI, 4, .inl (fun z_ => nI (te z_)))), (pq 1, .inl (cI, 4, .inl (fun z_ => nI (ps z_)))), (pq 2, .inl (cI, 4, .inl (fun z_ => nI (pu z_)))), (pq 3, .inl (cI, 4, .inl (fun z_ => nI (sd z_)))), (pq 4, .inl (cI, 8, .inl (fun z_ => nI (cj z_)))), (pq 5, .inl (cI, 5, .inl (fun z_ => nI (ta z_)))), (t, .inl (cI, 4, .inl (fun z_ => nI (v z_))))] := hD
      refine hret hP hD hS dX2_take_112 (by decide) rfl ?_
      subst hk_q
      exact Or.inl ⟨hq_8, rfl, rfl⟩
    · -- case 1 of k_X2_setWorth
      have hP : va_P D vwCl [pO a pq ((up1 (up1 rd 3 (v 0)) 4 (v 1)) 0) ((up1 (up1 rd 3 (v 0)) 4 (v 1)) 2) ((up1 (up1 rd 3 (v 0)) 4 (v 1)) 1) (szN (up1 (up1 rd 3 (v 0)) 4 (v 1)) ((up1 (up1 rd 3 (v 0)) 4 (v 1)) 0)) ((up1 (up1 rd 3 (v 0)) 4 (v 1)) 3) ((up1 (up1 rd 3 (v 0)) 4 (v 1)) 4), (pq 0, .inl (cI, 4, .inl (fun z_ => nI (z_9 z_)))), (pq 1, .inl (cI, 4, .inl (fun z_ => nI (z_10 z_)))), (pq 2, .inl (cI, 4, .inl (fun z_ => nI (z_11 z_)))), (pq 3, .inl (cI, 4, .inl (fun z_ => nI (z_12 z_)))), (pq 4, .inl (cI, 8, .inl (fun z_ => nI (z_13 z_)))), (pq 5, .inl (cI, 5, .inl (fun z_ => nI (z_14 z_)))), (t, .inl (cI, 4, .inl (fun z_ => nI (v z_))))] _ := hP
      have hD : va_D A [pO a pq ((up1 (up1 rd 3 (v 0)) 4 (v 1)) 0) ((up1 (up1 rd 3 (v 0)) 4 (v 1)) 2) ((up1 (up1 rd 3 (v 0)) 4 (v 1)) 1) (szN (up1 (up1 rd 3 (v 0)) 4 (v 1)) ((up1 (up1 rd 3 (v 0)) 4 (v 1)) 0)) ((up1 (up1 rd 3 (v 0)) 4 (v 1)) 3) ((up1 (up1 rd 3 (v 0)) 4 (v 1)) 4), (pq 0, .inl (cI, 4, .inl (fun z_ => nI (z_9 z_)))), (pq 1, .inl (cI, 4, .inl (fun z_ => nI (z_10 z_)))), (pq 2, .inl (cI, 4, .inl (fun z_ => nI (z_11 z_)))), (pq 3, .inl (cI, 4, .inl (fun z_ => nI (z_12 z_)))), (pq 4, .inl (cI, 8, .inl (fun z_ => nI (z_13 z_)))), (pq 5, .inl (cI, 5, .inl (fun z_ => nI (z_14 z_)))), (t, .inl (cI, 4, .inl (fun z_ => nI (v z_))))] := hD
      refine hret hP hD hS dX2_take_112 (by decide) rfl ?_
      subst hk_q
      exact Or.inr ⟨z_9, z_10, z_11, z_12, z_13, z_14, hq_15, hq_16, rfl, rfl⟩
  · refine n_tabIn (tgt := 99) (v := 112) hx hb dX2_take_14 c_5 (by decide) (by decide) (off := 85) (by decide) (by decide) ?_
    have hk_q : k = 112 := c_5
    have hv0_q := hv 0 (by rw [hk_q]; decide)
    refine lv_aload_n hx hb dX2_take_99 rfl (lv_at hl 2 rfl) ?_
    refine lv_iload_n hx hb dX2_take_100 rfl (lv_at hl 1 rfl) ?_
    refine cl_2_61 (As := [.int (nI (v 0))]) (rest := []) hx hb hml hts hown (k_X2_addPerson hW (by omega)) (by decide) ⟨Nat.zero_le _, Nat.zero_le _⟩ hK hP hD hS hA 0 rfl [0, 1, 2, 3, 4, 5, 6] rfl (by decide) rfl hl.1 rfl (Nat.le_of_ble_eq_true rfl) dX2_take_101 (fun r_17 u H locs hp_18 hP hD hS => ?_)
    rcases hp_18 with ⟨hq_19, rfl, rfl⟩ | ⟨z_20, z_21, z_22, z_23, z_24, z_25, hq_26, hq_27, rfl, rfl⟩
    · -- case 0 of k_X2_addPerson
      have hP : va_P D vwCl [pO a pq (rd 0) (rd 2) (rd 1) (szN rd (rd 0)) (rd 3) (rd 4), (pq 0, .inl (cI, 4, .inl (fun z_ => nI (te z_)))), (pq 1, .inl (cI, 4, .inl (fun z_ => nI (ps z_)))), (pq 2, .inl (cI, 4, .inl (fun z_ => nI (pu z_)))), (pq 3, .inl (cI, 4, .inl (fun z_ => nI (sd z_)))), (pq 4, .inl (cI, 8, .inl (fun z_ => nI (cj z_)))), (pq 5, .inl (cI, 5, .inl (fun z_ => nI (ta z_)))), (t, .inl (cI, 4, .inl (fun z_ => nI (v z_))))] _ := hP
      have hD : va_D A [pO a pq (rd 0) (rd 2) (rd 1) (szN rd (rd 0)) (rd 3) (rd 4), (pq 0, .inl (cI, 4, .inl (fun z_ => nI (te z_)))), (pq 1, .inl (cI, 4, .inl (fun z_ => nI (ps z_)))), (pq 2, .inl (cI, 4, .inl (fun z_ => nI (pu z_)))), (pq 3, .inl (cI, 4, .inl (fun z_ => nI (sd z_)))), (pq 4, .inl (cI, 8, .inl (fun z_ => nI (cj z_)))), (pq 5, .inl (cI, 5, .inl (fun z_ => nI (ta z_)))), (t, .inl (cI, 4, .inl (fun z_ => nI (v z_))))] := hD
      refine hret hP hD hS dX2_take_104 (by decide) rfl ?_
      subst hk_q
      exact Or.inl ⟨hq_19, rfl, rfl⟩
    · -- case 1 of k_X2_addPerson
      have hP : va_P D vwCl [pO a pq ((srdN rd (v 0)) 0) ((srdN rd (v 0)) 2) ((srdN rd (v 0)) 1) (szN (srdN rd (v 0)) ((srdN rd (v 0)) 0)) ((srdN rd (v 0)) 3) ((srdN rd (v 0)) 4), (pq 0, .inl (cI, 4, .inl (fun z_ => nI (z_20 z_)))), (pq 1, .inl (cI, 4, .inl (fun z_ => nI (z_21 z_)))), (pq 2, .inl (cI, 4, .inl (fun z_ => nI (z_22 z_)))), (pq 3, .inl (cI, 4, .inl (fun z_ => nI (z_23 z_)))), (pq 4, .inl (cI, 8, .inl (fun z_ => nI (z_24 z_)))), (pq 5, .inl (cI, 5, .inl (fun z_ => nI (z_25 z_)))), (t, .inl (cI, 4, .inl (fun z_ => nI (v z_))))] _ := hP
      have hD : va_D A [pO a pq ((srdN rd (v 0)) 0) ((srdN rd (v 0)) 2) ((srdN rd (v 0)) 1) (szN (srdN rd (v 0)) ((srdN rd (v 0)) 0)) ((srdN rd (v 0)) 3) ((srdN rd (v 0)) 4), (pq 0, .inl (cI, 4, .inl (fun z_ => nI (z_20 z_)))), (pq 1, .inl (cI, 4, .inl (fun z_ => nI (z_21 z_)))), (pq 2, .inl (cI, 4, .inl (fun z_ => nI (z_22 z_)))), (pq 3, .inl (cI, 4, .inl (fun z_ => nI (z_23 z_)))), (pq 4, .inl (cI, 8, .inl (fun z_ => nI (z_24 z_)))), (pq 5, .inl (cI, 5, .inl (fun z_ => nI (z_25 z_)))), (t, .inl (cI, 4, .inl (fun z_ => nI (v z_))))] := hD
      refine hret hP hD hS dX2_take_104 (by decide) rfl ?_
      subst hk_q
      exact Or.inr ⟨z_20, z_21, z_22, z_23, z_24, z_25, hq_26, hq_27, rfl, rfl⟩
  · refine n_tabIn (tgt := 113) (v := 113) hx hb dX2_take_14 c_5 (by decide) (by decide) (off := 99) (by decide) (by decide) ?_
    refine lv_iconst (v := nI 0) hx hb dX2_take_113 (by decide) ?_
    refine hret hP hD hS dX2_take_114 (by decide) rfl ?_
    exact Or.inl ⟨tk_out (by omega), rfl, rfl⟩
  · refine n_tabIn (tgt := 113) (v := 114) hx hb dX2_take_14 c_5 (by decide) (by decide) (off := 99) (by decide) (by decide) ?_
    refine lv_iconst (v := nI 0) hx hb dX2_take_113 (by decide) ?_
    refine hret hP hD hS dX2_take_114 (by decide) rfl ?_
    exact Or.inl ⟨tk_out (by omega), rfl, rfl⟩
  · refine n_tabIn (tgt := 113) (v := 115) hx hb dX2_take_14 c_5 (by decide) (by decide) (off := 99) (by decide) (by decide) ?_
    refine lv_iconst (v := nI 0) hx hb dX2_take_113 (by decide) ?_
    refine hret hP hD hS dX2_take_114 (by decide) rfl ?_
    exact Or.inl ⟨tk_out (by omega), rfl, rfl⟩
  · refine n_tabIn (tgt := 113) (v := 116) hx hb dX2_take_14 c_5 (by decide) (by decide) (off := 99) (by decide) (by decide) ?_
    refine lv_iconst (v := nI 0) hx hb dX2_take_113 (by decide) ?_
    refine hret hP hD hS dX2_take_114 (by decide) rfl ?_
    exact Or.inl ⟨tk_out (by omega), rfl, rfl⟩
  · refine n_tabIn (tgt := 113) (v := 117) hx hb dX2_take_14 c_5 (by decide) (by decide) (off := 99) (by decide) (by decide) ?_
    refine lv_iconst (v := nI 0) hx hb dX2_take_113 (by decide) ?_
    refine hret hP hD hS dX2_take_114 (by decide) rfl ?_
    exact Or.inl ⟨tk_out (by omega), rfl, rfl⟩
  · refine n_tabIn (tgt := 113) (v := 118) hx hb dX2_take_14 c_5 (by decide) (by decide) (off := 99) (by decide) (by decide) ?_
    refine lv_iconst (v := nI 0) hx hb dX2_take_113 (by decide) ?_
    refine hret hP hD hS dX2_take_114 (by decide) rfl ?_
    exact Or.inl ⟨tk_out (by omega), rfl, rfl⟩
  · refine n_tabIn (tgt := 68) (v := 119) hx hb dX2_take_14 c_5 (by decide) (by decide) (off := 54) (by decide) (by decide) ?_
    have hk_q : k = 119 := c_5
    have hv0_q := hv 0 (by rw [hk_q]; decide)
    have hv1_q := hv 1 (by rw [hk_q]; decide)
    have hv2_q := hv 2 (by rw [hk_q]; decide)
    refine lv_aload_n hx hb dX2_take_68 rfl (lv_at hl 2 rfl) ?_
    refine lv_iload_n hx hb dX2_take_69 rfl (lv_at hl 1 rfl) ?_
    refine lv_iload hx hb dX2_take_70 (lv_at hl 0 rfl) ?_
    refine lv_aload_n hx hb dX2_take_72 rfl (lv_at hl 4 rfl) ?_
    refine lv_iconst (v := nI 2) hx hb dX2_take_73 (by decide) ?_
    refine cl_2_49 (As := [.ref t, .int (nI (2))]) (rest := [.int (nI (v 1)), .int (nI (v 0)), .ref a]) hx hb hml hts hown (k_X6_at (by first | assumption | omega) (by first | assumption | omega)) (by decide) ⟨Nat.zero_le _, Nat.zero_le _⟩ hK hP hD hS hA [7] rfl (by decide) rfl hl.1 rfl (Nat.le_of_ble_eq_true rfl) dX2_take_74 (fun r_28 u H locs hp_29 hP hD hS => ?_)
    obtain ⟨rfl, rfl⟩ := hp_29
    have hP : va_P D vwCl [pO a pq (rd 0) (rd 2) (rd 1) (szN rd (rd 0)) (rd 3) (rd 4), (pq 0, .inl (cI, 4, .inl (fun z_ => nI (te z_)))), (pq 1, .inl (cI, 4, .inl (fun z_ => nI (ps z_)))), (pq 2, .inl (cI, 4, .inl (fun z_ => nI (pu z_)))), (pq 3, .inl (cI, 4, .inl (fun z_ => nI (sd z_)))), (pq 4, .inl (cI, 8, .inl (fun z_ => nI (cj z_)))), (pq 5, .inl (cI, 5, .inl (fun z_ => nI (ta z_)))), (t, .inl (cI, 4, .inl (fun z_ => nI (v z_))))] _ := hP
    have hD : va_D A [pO a pq (rd 0) (rd 2) (rd 1) (szN rd (rd 0)) (rd 3) (rd 4), (pq 0, .inl (cI, 4, .inl (fun z_ => nI (te z_)))), (pq 1, .inl (cI, 4, .inl (fun z_ => nI (ps z_)))), (pq 2, .inl (cI, 4, .inl (fun z_ => nI (pu z_)))), (pq 3, .inl (cI, 4, .inl (fun z_ => nI (sd z_)))), (pq 4, .inl (cI, 8, .inl (fun z_ => nI (cj z_)))), (pq 5, .inl (cI, 5, .inl (fun z_ => nI (ta z_)))), (t, .inl (cI, 4, .inl (fun z_ => nI (v z_))))] := hD
    refine cl_2_53 (As := [.int (nI (v 0)), .int (nI (v 1)), .int (nI (v 2))]) (rest := []) hx hb hml hts hown (k_X2_addWheel hW (by omega) (by omega) (by omega)) (by decide) ⟨Nat.zero_le _, Nat.zero_le _⟩ hK hP hD hS hA 0 rfl [0, 1, 2, 3, 4, 5, 6] rfl (by decide) rfl hl.1 rfl (Nat.le_of_ble_eq_true rfl) dX2_take_77 (fun r_30 u H locs hp_31 hP hD hS => ?_)
    rcases hp_31 with ⟨hq_32, rfl, rfl⟩ | ⟨z_33, z_34, z_35, z_36, z_37, z_38, hq_39, hq_40, rfl, rfl⟩
    · -- case 0 of k_X2_addWheel
      have hP : va_P D vwCl [pO a pq (rd 0) (rd 2) (rd 1) (szN rd (rd 0)) (rd 3) (rd 4), (pq 0, .inl (cI, 4, .inl (fun z_ => nI (te z_)))), (pq 1, .inl (cI, 4, .inl (fun z_ => nI (ps z_)))), (pq 2, .inl (cI, 4, .inl (fun z_ => nI (pu z_)))), (pq 3, .inl (cI, 4, .inl (fun z_ => nI (sd z_)))), (pq 4, .inl (cI, 8, .inl (fun z_ => nI (cj z_)))), (pq 5, .inl (cI, 5, .inl (fun z_ => nI (ta z_)))), (t, .inl (cI, 4, .inl (fun z_ => nI (v z_))))] _ := hP
      have hD : va_D A [pO a pq (rd 0) (rd 2) (rd 1) (szN rd (rd 0)) (rd 3) (rd 4), (pq 0, .inl (cI, 4, .inl (fun z_ => nI (te z_)))), (pq 1, .inl (cI, 4, .inl (fun z_ => nI (ps z_)))), (pq 2, .inl (cI, 4, .inl (fun z_ => nI (pu z_)))), (pq 3, .inl (cI, 4, .inl (fun z_ => nI (sd z_)))), (pq 4, .inl (cI, 8, .inl (fun z_ => nI (cj z_)))), (pq 5, .inl (cI, 5, .inl (fun z_ => nI (ta z_)))), (t, .inl (cI, 4, .inl (fun z_ => nI (v z_))))] := hD
      refine hret hP hD hS dX2_take_80 (by decide) rfl ?_
      subst hk_q
      exact Or.inl ⟨hq_32, rfl, rfl⟩
    · -- case 1 of k_X2_addWheel
      have hP : va_P D vwCl [pO a pq ((wrdN rd (v 0) (v 1) (v 2)) 0) ((wrdN rd (v 0) (v 1) (v 2)) 2) ((wrdN rd (v 0) (v 1) (v 2)) 1) (szN (wrdN rd (v 0) (v 1) (v 2)) ((wrdN rd (v 0) (v 1) (v 2)) 0)) ((wrdN rd (v 0) (v 1) (v 2)) 3) ((wrdN rd (v 0) (v 1) (v 2)) 4), (pq 0, .inl (cI, 4, .inl (fun z_ => nI (z_33 z_)))), (pq 1, .inl (cI, 4, .inl (fun z_ => nI (z_34 z_)))), (pq 2, .inl (cI, 4, .inl (fun z_ => nI (z_35 z_)))), (pq 3, .inl (cI, 4, .inl (fun z_ => nI (z_36 z_)))), (pq 4, .inl (cI, 8, .inl (fun z_ => nI (z_37 z_)))), (pq 5, .inl (cI, 5, .inl (fun z_ => nI (z_38 z_)))), (t, .inl (cI, 4, .inl (fun z_ => nI (v z_))))] _ := hP
      have hD : va_D A [pO a pq ((wrdN rd (v 0) (v 1) (v 2)) 0) ((wrdN rd (v 0) (v 1) (v 2)) 2) ((wrdN rd (v 0) (v 1) (v 2)) 1) (szN (wrdN rd (v 0) (v 1) (v 2)) ((wrdN rd (v 0) (v 1) (v 2)) 0)) ((wrdN rd (v 0) (v 1) (v 2)) 3) ((wrdN rd (v 0) (v 1) (v 2)) 4), (pq 0, .inl (cI, 4, .inl (fun z_ => nI (z_33 z_)))), (pq 1, .inl (cI, 4, .inl (fun z_ => nI (z_34 z_)))), (pq 2, .inl (cI, 4, .inl (fun z_ => nI (z_35 z_)))), (pq 3, .inl (cI, 4, .inl (fun z_ => nI (z_36 z_)))), (pq 4, .inl (cI, 8, .inl (fun z_ => nI (z_37 z_)))), (pq 5, .inl (cI, 5, .inl (fun z_ => nI (z_38 z_)))), (t, .inl (cI, 4, .inl (fun z_ => nI (v z_))))] := hD
      refine hret hP hD hS dX2_take_80 (by decide) rfl ?_
      subst hk_q
      exact Or.inr ⟨z_33, z_34, z_35, z_36, z_37, z_38, hq_39, hq_40, rfl, rfl⟩
  · refine n_tabIn (tgt := 81) (v := 120) hx hb dX2_take_14 c_5 (by decide) (by decide) (off := 67) (by decide) (by decide) ?_
    have hk_q : k = 120 := c_5
    have hv0_q := hv 0 (by rw [hk_q]; decide)
    have hv1_q := hv 1 (by rw [hk_q]; decide)
    have hv2_q := hv 2 (by rw [hk_q]; decide)
    have hv3_q := hv 3 (by rw [hk_q]; decide)
    refine lv_aload_n hx hb dX2_take_81 rfl (lv_at hl 2 rfl) ?_
    refine lv_iload_n hx hb dX2_take_82 rfl (lv_at hl 1 rfl) ?_
    refine lv_iload hx hb dX2_take_83 (lv_at hl 0 rfl) ?_
    refine lv_aload_n hx hb dX2_take_85 rfl (lv_at hl 4 rfl) ?_
    refine lv_iconst (v := nI 2) hx hb dX2_take_86 (by decide) ?_
    refine cl_2_49 (As := [.ref t, .int (nI (2))]) (rest := [.int (nI (v 1)), .int (nI (v 0)), .ref a]) hx hb hml hts hown (k_X6_at (by first | assumption | omega) (by first | assumption | omega)) (by decide) ⟨Nat.zero_le _, Nat.zero_le _⟩ hK hP hD hS hA [7] rfl (by decide) rfl hl.1 rfl (Nat.le_of_ble_eq_true rfl) dX2_take_87 (fun r_41 u H locs hp_42 hP hD hS => ?_)
    obtain ⟨rfl, rfl⟩ := hp_42
    have hP : va_P D vwCl [pO a pq (rd 0) (rd 2) (rd 1) (szN rd (rd 0)) (rd 3) (rd 4), (pq 0, .inl (cI, 4, .inl (fun z_ => nI (te z_)))), (pq 1, .inl (cI, 4, .inl (fun z_ => nI (ps z_)))), (pq 2, .inl (cI, 4, .inl (fun z_ => nI (pu z_)))), (pq 3, .inl (cI, 4, .inl (fun z_ => nI (sd z_)))), (pq 4, .inl (cI, 8, .inl (fun z_ => nI (cj z_)))), (pq 5, .inl (cI, 5, .inl (fun z_ => nI (ta z_)))), (t, .inl (cI, 4, .inl (fun z_ => nI (v z_))))] _ := hP
    have hD : va_D A [pO a pq (rd 0) (rd 2) (rd 1) (szN rd (rd 0)) (rd 3) (rd 4), (pq 0, .inl (cI, 4, .inl (fun z_ => nI (te z_)))), (pq 1, .inl (cI, 4, .inl (fun z_ => nI (ps z_)))), (pq 2, .inl (cI, 4, .inl (fun z_ => nI (pu z_)))), (pq 3, .inl (cI, 4, .inl (fun z_ => nI (sd z_)))), (pq 4, .inl (cI, 8, .inl (fun z_ => nI (cj z_)))), (pq 5, .inl (cI, 5, .inl (fun z_ => nI (ta z_)))), (t, .inl (cI, 4, .inl (fun z_ => nI (v z_))))] := hD
    refine lv_aload_n hx hb dX2_take_90 rfl (lv_at hl 4 rfl) ?_
    refine lv_iconst (v := nI 3) hx hb dX2_take_91 (by decide) ?_
    refine cl_2_49 (As := [.ref t, .int (nI (3))]) (rest := [.int (nI (v 2)), .int (nI (v 1)), .int (nI (v 0)), .ref a]) hx hb hml hts hown (k_X6_at (by first | assumption | omega) (by first | assumption | omega)) (by decide) ⟨Nat.zero_le _, Nat.zero_le _⟩ hK hP hD hS hA [7] rfl (by decide) rfl hl.1 rfl (Nat.le_of_ble_eq_true rfl) dX2_take_92 (fun r_43 u H locs hp_44 hP hD hS => ?_)
    obtain ⟨rfl, rfl⟩ := hp_44
    have hP : va_P D vwCl [pO a pq (rd 0) (rd 2) (rd 1) (szN rd (rd 0)) (rd 3) (rd 4), (pq 0, .inl (cI, 4, .inl (fun z_ => nI (te z_)))), (pq 1, .inl (cI, 4, .inl (fun z_ => nI (ps z_)))), (pq 2, .inl (cI, 4, .inl (fun z_ => nI (pu z_)))), (pq 3, .inl (cI, 4, .inl (fun z_ => nI (sd z_)))), (pq 4, .inl (cI, 8, .inl (fun z_ => nI (cj z_)))), (pq 5, .inl (cI, 5, .inl (fun z_ => nI (ta z_)))), (t, .inl (cI, 4, .inl (fun z_ => nI (v z_))))] _ := hP
    have hD : va_D A [pO a pq (rd 0) (rd 2) (rd 1) (szN rd (rd 0)) (rd 3) (rd 4), (pq 0, .inl (cI, 4, .inl (fun z_ => nI (te z_)))), (pq 1, .inl (cI, 4, .inl (fun z_ => nI (ps z_)))), (pq 2, .inl (cI, 4, .inl (fun z_ => nI (pu z_)))), (pq 3, .inl (cI, 4, .inl (fun z_ => nI (sd z_)))), (pq 4, .inl (cI, 8, .inl (fun z_ => nI (cj z_)))), (pq 5, .inl (cI, 5, .inl (fun z_ => nI (ta z_)))), (t, .inl (cI, 4, .inl (fun z_ => nI (v z_))))] := hD
    refine cl_2_57 (As := [.int (nI (v 0)), .int (nI (v 1)), .int (nI (v 2)), .int (nI (v 3))]) (rest := []) hx hb hml hts hown (k_X2_addClash hW (by omega) (by omega) (by omega) (by omega)) (by decide) ⟨Nat.zero_le _, Nat.zero_le _⟩ hK hP hD hS hA 0 rfl [0, 1, 2, 3, 4, 5, 6] rfl (by decide) rfl hl.1 rfl (Nat.le_of_ble_eq_true rfl) dX2_take_95 (fun r_45 u H locs hp_46 hP hD hS => ?_)
    rcases hp_46 with ⟨hq_47, rfl, rfl⟩ | ⟨z_48, z_49, z_50, z_51, z_52, z_53, hq_54, hq_55, rfl, rfl⟩
    · -- case 0 of k_X2_addClash
      have hP : va_P D vwCl [pO a pq (rd 0) (rd 2) (rd 1) (szN rd (rd 0)) (rd 3) (rd 4), (pq 0, .inl (cI, 4, .inl (fun z_ => nI (te z_)))), (pq 1, .inl (cI, 4, .inl (fun z_ => nI (ps z_)))), (pq 2, .inl (cI, 4, .inl (fun z_ => nI (pu z_)))), (pq 3, .inl (cI, 4, .inl (fun z_ => nI (sd z_)))), (pq 4, .inl (cI, 8, .inl (fun z_ => nI (cj z_)))), (pq 5, .inl (cI, 5, .inl (fun z_ => nI (ta z_)))), (t, .inl (cI, 4, .inl (fun z_ => nI (v z_))))] _ := hP
      have hD : va_D A [pO a pq (rd 0) (rd 2) (rd 1) (szN rd (rd 0)) (rd 3) (rd 4), (pq 0, .inl (cI, 4, .inl (fun z_ => nI (te z_)))), (pq 1, .inl (cI, 4, .inl (fun z_ => nI (ps z_)))), (pq 2, .inl (cI, 4, .inl (fun z_ => nI (pu z_)))), (pq 3, .inl (cI, 4, .inl (fun z_ => nI (sd z_)))), (pq 4, .inl (cI, 8, .inl (fun z_ => nI (cj z_)))), (pq 5, .inl (cI, 5, .inl (fun z_ => nI (ta z_)))), (t, .inl (cI, 4, .inl (fun z_ => nI (v z_))))] := hD
      refine hret hP hD hS dX2_take_98 (by decide) rfl ?_
      subst hk_q
      exact Or.inl ⟨hq_47, rfl, rfl⟩
    · -- case 1 of k_X2_addClash
      have hP : va_P D vwCl [pO a pq ((prdN rd (v 0) (v 1) (v 2) (v 3)) 0) ((prdN rd (v 0) (v 1) (v 2) (v 3)) 2) ((prdN rd (v 0) (v 1) (v 2) (v 3)) 1) (szN (prdN rd (v 0) (v 1) (v 2) (v 3)) ((prdN rd (v 0) (v 1) (v 2) (v 3)) 0)) ((prdN rd (v 0) (v 1) (v 2) (v 3)) 3) ((prdN rd (v 0) (v 1) (v 2) (v 3)) 4), (pq 0, .inl (cI, 4, .inl (fun z_ => nI (z_48 z_)))), (pq 1, .inl (cI, 4, .inl (fun z_ => nI (z_49 z_)))), (pq 2, .inl (cI, 4, .inl (fun z_ => nI (z_50 z_)))), (pq 3, .inl (cI, 4, .inl (fun z_ => nI (z_51 z_)))), (pq 4, .inl (cI, 8, .inl (fun z_ => nI (z_52 z_)))), (pq 5, .inl (cI, 5, .inl (fun z_ => nI (z_53 z_)))), (t, .inl (cI, 4, .inl (fun z_ => nI (v z_))))] _ := hP
      have hD : va_D A [pO a pq ((prdN rd (v 0) (v 1) (v 2) (v 3)) 0) ((prdN rd (v 0) (v 1) (v 2) (v 3)) 2) ((prdN rd (v 0) (v 1) (v 2) (v 3)) 1) (szN (prdN rd (v 0) (v 1) (v 2) (v 3)) ((prdN rd (v 0) (v 1) (v 2) (v 3)) 0)) ((prdN rd (v 0) (v 1) (v 2) (v 3)) 3) ((prdN rd (v 0) (v 1) (v 2) (v 3)) 4), (pq 0, .inl (cI, 4, .inl (fun z_ => nI (z_48 z_)))), (pq 1, .inl (cI, 4, .inl (fun z_ => nI (z_49 z_)))), (pq 2, .inl (cI, 4, .inl (fun z_ => nI (z_50 z_)))), (pq 3, .inl (cI, 4, .inl (fun z_ => nI (z_51 z_)))), (pq 4, .inl (cI, 8, .inl (fun z_ => nI (z_52 z_)))), (pq 5, .inl (cI, 5, .inl (fun z_ => nI (z_53 z_)))), (t, .inl (cI, 4, .inl (fun z_ => nI (v z_))))] := hD
      refine hret hP hD hS dX2_take_98 (by decide) rfl ?_
      subst hk_q
      exact Or.inr ⟨z_48, z_49, z_50, z_51, z_52, z_53, hq_54, hq_55, rfl, rfl⟩
set_option maxHeartbeats 4000000 in
set_option maxRecDepth 100000 in
theorem k_X5_add {l : Launch} {D : va_G} {cI cC cB : ClassId} {xt zl zp : Nat} {tq : Nat → Nat} {tc : Nat → Nat} {x : Nat} (hzl : zl ≤ 200) (hx1 : x < 128) : MI l yX5_add cX5_add 2 (some .boolean) 0 D (Ty3 cI cC cB) [.ref xt, .int (nI (x))] [tO xt tq zl zp, (tq 0, .inl (cC, 200, .inl (fun z_ => nI (tc z_))))] (fun r u => ((zl = 200) ∧ r = nI (0) ∧ u = [tO xt tq zl zp, (tq 0, .inl (cC, 200, .inl (fun z_ => nI (tc z_))))]) ∨ ((zl ≠ 200) ∧ r = nI (1) ∧ u = [tO xt tq (zl + 1) zp, (tq 0, .inl (cC, 200, .inl (fun z_ => nI ((up1 tc zl x) z_))))])) := by
  intro sz
  refine MI.walk (by decide +kernel) (Nat.le_of_ble_eq_true rfl) ?_
  intro p e s m args below meth c A Qf hx hb hml hts hown hret hK hP hD hS hA ls hl
  have hown : s.vm.findClass RX5 = some m.cls := hown
  have hl : lv_has ls 2 [(0, .ref xt), (1, .int (nI (x)))] := hl
  have hP : va_P D vwCl [tO xt tq zl zp, (tq 0, .inl (cC, 200, .inl (fun z_ => nI (tc z_))))] s.heap := hP
  have hD : va_D A [tO xt tq zl zp, (tq 0, .inl (cC, 200, .inl (fun z_ => nI (tc z_))))] := hD
  refine lv_aload_n hx hb dX5_add_0 rfl (lv_at hl 0 rfl) ?_
  refine gf_5_19 hx hb hts hown hK hP 0 rfl rfl dX5_add_1 ?_
  refine n_if_lt (tgt := 19) hx hb dX5_add_4 (by decide) (by omega) ?_
  refine lv_aload_n hx hb dX5_add_7 rfl (lv_at hl 0 rfl) ?_
  refine gf_5_19 hx hb hts hown hK hP 0 rfl rfl dX5_add_8 ?_
  refine lv_aload_n hx hb dX5_add_11 rfl (lv_at hl 0 rfl) ?_
  refine gf_5_9 hx hb hts hown hK hP 0 rfl rfl dX5_add_12 ?_
  refine n_alen hx hb hK hP 1 1 rfl rfl dX5_add_15 ?_
  show W p l e _ s m args below meth c _ _ _ _ Qf (F0 m _ _ [.int (nI (200)), .int (nI (zl))])
  refine n_icmp_lt (tgt := 21) hx hb dX5_add_16 (by decide) (by omega) (by decide) (fun c_2 => ?_) (fun c_2 => ?_)
  · -- 16 to 21
    refine lv_aload_n hx hb dX5_add_21 rfl (lv_at hl 0 rfl) ?_
    refine gf_5_9 hx hb hts hown hK hP 0 rfl rfl dX5_add_22 ?_
    refine lv_aload_n hx hb dX5_add_25 rfl (lv_at hl 0 rfl) ?_
    refine gf_5_19 hx hb hts hown hK hP 0 rfl rfl dX5_add_26 ?_
    refine lv_iload_n hx hb dX5_add_29 rfl (lv_at hl 1 rfl) ?_
    refine n_cast hx hb hK hP hD hS 1 1 rfl rfl dX5_add_30 (by decide) (by omega) (by omega) (fun H locs hP hD hS => ?_)
    have hP : va_P D vwCl [tO xt tq zl zp, (tq 0, .inl (cC, 200, .inl (fun z_ => nI ((up1 tc zl x) z_))))] _ := hP
    have hD : va_D A [tO xt tq zl zp, (tq 0, .inl (cC, 200, .inl (fun z_ => nI ((up1 tc zl x) z_))))] := hD
    refine lv_aload_n hx hb dX5_add_31 rfl (lv_at hl 0 rfl) ?_
    refine lv_dup hx hb dX5_add_32 rfl ?_
    refine gf_5_19 hx hb hts hown hK hP 0 rfl rfl dX5_add_33 ?_
    refine lv_iconst (v := nI 1) hx hb dX5_add_36 (by decide) ?_
    refine n_iadd hx hb dX5_add_37  ?_
    refine pf_5_19 hx hb hts hown hK hP hD hS 0 rfl (Nat.le_of_ble_eq_true rfl) dX5_add_38 (fun H locs hP hD hS => ?_)
    have hP : va_P D vwCl [tO xt tq (zl + 1) zp, (tq 0, .inl (cC, 200, .inl (fun z_ => nI ((up1 tc zl x) z_))))] _ := hP
    have hD : va_D A [tO xt tq (zl + 1) zp, (tq 0, .inl (cC, 200, .inl (fun z_ => nI ((up1 tc zl x) z_))))] := hD
    refine lv_iconst (v := nI 1) hx hb dX5_add_41 (by decide) ?_
    refine hret hP hD hS dX5_add_42 (by decide) rfl ?_
    first | exact Or.inl ⟨by omega, rfl, rfl⟩ | exact Or.inr ⟨by omega, rfl, rfl⟩
  · -- 16 to 19
    refine lv_iconst (v := nI 0) hx hb dX5_add_19 (by decide) ?_
    refine hret hP hD hS dX5_add_20 (by decide) rfl ?_
    first | exact Or.inl ⟨by omega, rfl, rfl⟩ | exact Or.inr ⟨by omega, rfl, rfl⟩
set_option maxHeartbeats 4000000 in
set_option maxRecDepth 100000 in
theorem k_X5_empty {l : Launch} {D : va_G} {cI cC cB : ClassId} {xt zl zp : Nat} {tq : Nat → Nat}  : MV l yX5_empty cX5_empty 1 none 0 D (Ty3 cI cC cB) [.ref xt] [tO xt tq zl zp] (fun (u : va_W) => (u = [tO xt tq 0 zp])) := by
  intro sz
  refine MV.walk (by decide +kernel) (Nat.le_of_ble_eq_true rfl) ?_
  intro p e s m args below meth c A Qf hx hb hml hts hown hret hK hP hD hS hA ls hl
  have hown : s.vm.findClass RX5 = some m.cls := hown
  have hl : lv_has ls 1 [(0, .ref xt)] := hl
  have hP : va_P D vwCl [tO xt tq zl zp] s.heap := hP
  have hD : va_D A [tO xt tq zl zp] := hD
  refine lv_aload_n hx hb dX5_empty_0 rfl (lv_at hl 0 rfl) ?_
  refine lv_iconst (v := nI 0) hx hb dX5_empty_1 (by decide) ?_
  refine pf_5_19 hx hb hts hown hK hP hD hS 0 rfl (Nat.le_of_ble_eq_true rfl) dX5_empty_2 (fun H locs hP hD hS => ?_)
  have hP : va_P D vwCl [tO xt tq 0 zp] _ := hP
  have hD : va_D A [tO xt tq 0 zp] := hD
  refine hret hP hD hS dX5_empty_5 rfl ?_
  rfl
set_option maxHeartbeats 4000000 in
set_option maxRecDepth 100000 in
theorem k_X5_readItem {l : Launch} {D : va_G} {cI cC cB : ClassId} {xt zl zp : Nat} {tq : Nat → Nat} {tc : Nat → Nat} {nu : Nat → Nat} {a : Nat} {pq : Nat → Nat} {rd te ps pu sd cj ta : Nat → Nat}  (hW : PlW rd te ps pu sd cj ta) (hzl : zl ≤ 200) (htc : ∀ j, tc j < 128) (hp : zp < zl) : MI l yX5_readItem cX5_readItem 7 (some .boolean) 4 D (Ty3 cI cC cB) [.ref xt, .ref a] [tO xt tq zl zp, (tq 0, .inl (cC, 200, .inl (fun z_ => nI (tc z_)))), (tq 1, .inl (cI, 4, .inl (fun z_ => nI (nu z_)))), pO a pq (rd 0) (rd 2) (rd 1) (szN rd (rd 0)) (rd 3) (rd 4), (pq 0, .inl (cI, 4, .inl (fun z_ => nI (te z_)))), (pq 1, .inl (cI, 4, .inl (fun z_ => nI (ps z_)))), (pq 2, .inl (cI, 4, .inl (fun z_ => nI (pu z_)))), (pq 3, .inl (cI, 4, .inl (fun z_ => nI (sd z_)))), (pq 4, .inl (cI, 8, .inl (fun z_ => nI (cj z_)))), (pq 5, .inl (cI, 5, .inl (fun z_ => nI (ta z_))))] (fun r u => (∃ p2 : Nat, ∃ t2 : Nat → Nat, (itB tc zl zp rd = false) ∧ r = nI (0) ∧ u = [tO xt tq zl p2, (tq 0, .inl (cC, 200, .inl (fun z_ => nI (tc z_)))), (tq 1, .inl (cI, 4, .inl (fun z_ => nI (t2 z_)))), pO a pq (rd 0) (rd 2) (rd 1) (szN rd (rd 0)) (rd 3) (rd 4), (pq 0, .inl (cI, 4, .inl (fun z_ => nI (te z_)))), (pq 1, .inl (cI, 4, .inl (fun z_ => nI (ps z_)))), (pq 2, .inl (cI, 4, .inl (fun z_ => nI (pu z_)))), (pq 3, .inl (cI, 4, .inl (fun z_ => nI (sd z_)))), (pq 4, .inl (cI, 8, .inl (fun z_ => nI (cj z_)))), (pq 5, .inl (cI, 5, .inl (fun z_ => nI (ta z_))))]) ∨ (∃ t2 : Nat → Nat, ∃ te2 : Nat → Nat, ∃ ps2 : Nat → Nat, ∃ pu2 : Nat → Nat, ∃ sd2 : Nat → Nat, ∃ cj2 : Nat → Nat, ∃ ta2 : Nat → Nat, (itB tc zl zp rd = true) ∧ (PlW (itR tc zl zp rd) te2 ps2 pu2 sd2 cj2 ta2) ∧ r = nI (1) ∧ u = [tO xt tq zl (itP tc zl zp), (tq 0, .inl (cC, 200, .inl (fun z_ => nI (tc z_)))), (tq 1, .inl (cI, 4, .inl (fun z_ => nI (t2 z_)))), pO a pq ((itR tc zl zp rd) 0) ((itR tc zl zp rd) 2) ((itR tc zl zp rd) 1) (szN (itR tc zl zp rd) ((itR tc zl zp rd) 0)) ((itR tc zl zp rd) 3) ((itR tc zl zp rd) 4), (pq 0, .inl (cI, 4, .inl (fun z_ => nI (te2 z_)))), (pq 1, .inl (cI, 4, .inl (fun z_ => nI (ps2 z_)))), (pq 2, .inl (cI, 4, .inl (fun z_ => nI (pu2 z_)))), (pq 3, .inl (cI, 4, .inl (fun z_ => nI (sd2 z_)))), (pq 4, .inl (cI, 8, .inl (fun z_ => nI (cj2 z_)))), (pq 5, .inl (cI, 5, .inl (fun z_ => nI (ta2 z_))))])) := by
  intro sz
  refine MI.walk (by decide +kernel) (Nat.le_of_ble_eq_true rfl) ?_
  intro p e s m args below meth c A Qf hx hb hml hts hown hret hK hP hD hS hA ls hl
  have hown : s.vm.findClass RX5 = some m.cls := hown
  have hl : lv_has ls 7 [(0, .ref xt), (1, .ref a)] := hl
  have hP : va_P D vwCl [tO xt tq zl zp, (tq 0, .inl (cC, 200, .inl (fun z_ => nI (tc z_)))), (tq 1, .inl (cI, 4, .inl (fun z_ => nI (nu z_)))), pO a pq (rd 0) (rd 2) (rd 1) (szN rd (rd 0)) (rd 3) (rd 4), (pq 0, .inl (cI, 4, .inl (fun z_ => nI (te z_)))), (pq 1, .inl (cI, 4, .inl (fun z_ => nI (ps z_)))), (pq 2, .inl (cI, 4, .inl (fun z_ => nI (pu z_)))), (pq 3, .inl (cI, 4, .inl (fun z_ => nI (sd z_)))), (pq 4, .inl (cI, 8, .inl (fun z_ => nI (cj z_)))), (pq 5, .inl (cI, 5, .inl (fun z_ => nI (ta z_))))] s.heap := hP
  have hD : va_D A [tO xt tq zl zp, (tq 0, .inl (cC, 200, .inl (fun z_ => nI (tc z_)))), (tq 1, .inl (cI, 4, .inl (fun z_ => nI (nu z_)))), pO a pq (rd 0) (rd 2) (rd 1) (szN rd (rd 0)) (rd 3) (rd 4), (pq 0, .inl (cI, 4, .inl (fun z_ => nI (te z_)))), (pq 1, .inl (cI, 4, .inl (fun z_ => nI (ps z_)))), (pq 2, .inl (cI, 4, .inl (fun z_ => nI (pu z_)))), (pq 3, .inl (cI, 4, .inl (fun z_ => nI (sd z_)))), (pq 4, .inl (cI, 8, .inl (fun z_ => nI (cj z_)))), (pq 5, .inl (cI, 5, .inl (fun z_ => nI (ta z_))))] := hD
  refine lv_aload_n hx hb dX5_readItem_0 rfl (lv_at hl 0 rfl) ?_
  refine lv_aload_n hx hb dX5_readItem_1 rfl (lv_at hl 0 rfl) ?_
  refine gf_5_28 hx hb hts hown hK hP 0 rfl rfl dX5_readItem_2 ?_
  refine cl_5_35 (As := [.int (nI (zp))]) (rest := []) hx hb hml hts hown (k_X5_letterAt hzl htc (by omega)) (by decide) ⟨Nat.zero_le _, Nat.zero_le _⟩ hK hP hD hS hA 0 rfl [0, 1] rfl (by decide) rfl hl.1 rfl (Nat.le_of_ble_eq_true rfl) dX5_readItem_5 (fun r_1 u H locs hp_2 hP hD hS => ?_)
  obtain ⟨rfl, rfl⟩ := hp_2
  have hP : va_P D vwCl [tO xt tq zl zp, (tq 0, .inl (cC, 200, .inl (fun z_ => nI (tc z_)))), (tq 1, .inl (cI, 4, .inl (fun z_ => nI (nu z_)))), pO a pq (rd 0) (rd 2) (rd 1) (szN rd (rd 0)) (rd 3) (rd 4), (pq 0, .inl (cI, 4, .inl (fun z_ => nI (te z_)))), (pq 1, .inl (cI, 4, .inl (fun z_ => nI (ps z_)))), (pq 2, .inl (cI, 4, .inl (fun z_ => nI (pu z_)))), (pq 3, .inl (cI, 4, .inl (fun z_ => nI (sd z_)))), (pq 4, .inl (cI, 8, .inl (fun z_ => nI (cj z_)))), (pq 5, .inl (cI, 5, .inl (fun z_ => nI (ta z_))))] _ := hP
  have hD : va_D A [tO xt tq zl zp, (tq 0, .inl (cC, 200, .inl (fun z_ => nI (tc z_)))), (tq 1, .inl (cI, 4, .inl (fun z_ => nI (nu z_)))), pO a pq (rd 0) (rd 2) (rd 1) (szN rd (rd 0)) (rd 3) (rd 4), (pq 0, .inl (cI, 4, .inl (fun z_ => nI (te z_)))), (pq 1, .inl (cI, 4, .inl (fun z_ => nI (ps z_)))), (pq 2, .inl (cI, 4, .inl (fun z_ => nI (pu z_)))), (pq 3, .inl (cI, 4, .inl (fun z_ => nI (sd z_)))), (pq 4, .inl (cI, 8, .inl (fun z_ => nI (cj z_)))), (pq 5, .inl (cI, 5, .inl (fun z_ => nI (ta z_))))] := hD
  rw [lt_p hp]
  show W p l e _ s m args below meth c _ _ _ _ Qf (F0 m _ _ [.int (nI (tc zp))])
  have hlk_q := htc zp
  have hnm_q := nmO_le (tc zp)
  refine lv_istore_n (lv' := [(2, .int (nI (tc zp))), (0, .ref xt), (1, .ref a)]) hx hb dX5_readItem_8 rfl hl (by decide) rfl (fun ls hl => ?_)
  refine lv_iload_n hx hb dX5_readItem_9 rfl (lv_at hl 0 rfl) ?_
  refine cl_5_39 (As := [.int (nI (tc zp))]) (rest := []) hx hb hml hts hown (k_X5_numbersOf (by first | assumption | omega)) (by decide) ⟨Nat.zero_le _, Nat.zero_le _⟩ hK hP hD hS hA [] rfl (by decide) rfl hl.1 rfl (Nat.le_of_ble_eq_true rfl) dX5_readItem_10 (fun r_3 u H locs hp_4 hP hD hS => ?_)
  obtain ⟨rfl, rfl⟩ := hp_4
  have hP : va_P D vwCl [tO xt tq zl zp, (tq 0, .inl (cC, 200, .inl (fun z_ => nI (tc z_)))), (tq 1, .inl (cI, 4, .inl (fun z_ => nI (nu z_)))), pO a pq (rd 0) (rd 2) (rd 1) (szN rd (rd 0)) (rd 3) (rd 4), (pq 0, .inl (cI, 4, .inl (fun z_ => nI (te z_)))), (pq 1, .inl (cI, 4, .inl (fun z_ => nI (ps z_)))), (pq 2, .inl (cI, 4, .inl (fun z_ => nI (pu z_)))), (pq 3, .inl (cI, 4, .inl (fun z_ => nI (sd z_)))), (pq 4, .inl (cI, 8, .inl (fun z_ => nI (cj z_)))), (pq 5, .inl (cI, 5, .inl (fun z_ => nI (ta z_))))] _ := hP
  have hD : va_D A [tO xt tq zl zp, (tq 0, .inl (cC, 200, .inl (fun z_ => nI (tc z_)))), (tq 1, .inl (cI, 4, .inl (fun z_ => nI (nu z_)))), pO a pq (rd 0) (rd 2) (rd 1) (szN rd (rd 0)) (rd 3) (rd 4), (pq 0, .inl (cI, 4, .inl (fun z_ => nI (te z_)))), (pq 1, .inl (cI, 4, .inl (fun z_ => nI (ps z_)))), (pq 2, .inl (cI, 4, .inl (fun z_ => nI (pu z_)))), (pq 3, .inl (cI, 4, .inl (fun z_ => nI (sd z_)))), (pq 4, .inl (cI, 8, .inl (fun z_ => nI (cj z_)))), (pq 5, .inl (cI, 5, .inl (fun z_ => nI (ta z_))))] := hD
  refine lv_istore_n (lv' := [(3, .int (nI (nmO (tc zp)))), (2, .int (nI (tc zp))), (0, .ref xt), (1, .ref a)]) hx hb dX5_readItem_13 rfl hl (by decide) rfl (fun ls hl => ?_)
  refine lv_aload_n hx hb dX5_readItem_14 rfl (lv_at hl 2 rfl) ?_
  refine lv_dup hx hb dX5_readItem_15 rfl ?_
  refine gf_5_28 hx hb hts hown hK hP 0 rfl rfl dX5_readItem_16 ?_
  refine lv_iconst (v := nI 1) hx hb dX5_readItem_19 (by decide) ?_
  refine n_iadd hx hb dX5_readItem_20  ?_
  refine pf_5_28 hx hb hts hown hK hP hD hS 0 rfl (Nat.le_of_ble_eq_true rfl) dX5_readItem_21 (fun H locs hP hD hS => ?_)
  have hP : va_P D vwCl [tO xt tq zl (zp + 1), (tq 0, .inl (cC, 200, .inl (fun z_ => nI (tc z_)))), (tq 1, .inl (cI, 4, .inl (fun z_ => nI (nu z_)))), pO a pq (rd 0) (rd 2) (rd 1) (szN rd (rd 0)) (rd 3) (rd 4), (pq 0, .inl (cI, 4, .inl (fun z_ => nI (te z_)))), (pq 1, .inl (cI, 4, .inl (fun z_ => nI (ps z_)))), (pq 2, .inl (cI, 4, .inl (fun z_ => nI (pu z_)))), (pq 3, .inl (cI, 4, .inl (fun z_ => nI (sd z_)))), (pq 4, .inl (cI, 8, .inl (fun z_ => nI (cj z_)))), (pq 5, .inl (cI, 5, .inl (fun z_ => nI (ta z_))))] _ := hP
  have hD : va_D A [tO xt tq zl (zp + 1), (tq 0, .inl (cC, 200, .inl (fun z_ => nI (tc z_)))), (tq 1, .inl (cI, 4, .inl (fun z_ => nI (nu z_)))), pO a pq (rd 0) (rd 2) (rd 1) (szN rd (rd 0)) (rd 3) (rd 4), (pq 0, .inl (cI, 4, .inl (fun z_ => nI (te z_)))), (pq 1, .inl (cI, 4, .inl (fun z_ => nI (ps z_)))), (pq 2, .inl (cI, 4, .inl (fun z_ => nI (pu z_)))), (pq 3, .inl (cI, 4, .inl (fun z_ => nI (sd z_)))), (pq 4, .inl (cI, 8, .inl (fun z_ => nI (cj z_)))), (pq 5, .inl (cI, 5, .inl (fun z_ => nI (ta z_))))] := hD
  refine lv_iconst (v := nI 0) hx hb dX5_readItem_24 (by decide) ?_
  refine lv_istore (lv' := [(4, .int (nI (0))), (3, .int (nI (nmO (tc zp)))), (2, .int (nI (tc zp))), (0, .ref xt), (1, .ref a)]) hx hb dX5_readItem_25 hl (by decide) rfl (fun ls hl => ?_)
  have loop_27 : ∀ (N : Nat) (i : Nat) (p1 : Nat) (t1 : Nat → Nat), (i ≤ (nmO (tc zp))) → (nbB tc zl (zp + 1) (nmO (tc zp)) i = true) → (p1 = npN tc zl (zp + 1) i) → (p1 ≤ 201) → (∀ j, j < i → t1 j = rnV tc zl (npN tc zl (zp + 1) j)) → ((nmO (tc zp)) - i) < N → ∀ (H : Heap) (locs : List Loc), va_P D vwCl [tO xt tq zl p1, (tq 0, .inl (cC, 200, .inl (fun z_ => nI (tc z_)))), (tq 1, .inl (cI, 4, .inl (fun z_ => nI (t1 z_)))), pO a pq (rd 0) (rd 2) (rd 1) (szN rd (rd 0)) (rd 3) (rd 4), (pq 0, .inl (cI, 4, .inl (fun z_ => nI (te z_)))), (pq 1, .inl (cI, 4, .inl (fun z_ => nI (ps z_)))), (pq 2, .inl (cI, 4, .inl (fun z_ => nI (pu z_)))), (pq 3, .inl (cI, 4, .inl (fun z_ => nI (sd z_)))), (pq 4, .inl (cI, 8, .inl (fun z_ => nI (cj z_)))), (pq 5, .inl (cI, 5, .inl (fun z_ => nI (ta z_))))] H → va_D A [tO xt tq zl p1, (tq 0, .inl (cC, 200, .inl (fun z_ => nI (tc z_)))), (tq 1, .inl (cI, 4, .inl (fun z_ => nI (t1 z_)))), pO a pq (rd 0) (rd 2) (rd 1) (szN rd (rd 0)) (rd 3) (rd 4), (pq 0, .inl (cI, 4, .inl (fun z_ => nI (te z_)))), (pq 1, .inl (cI, 4, .inl (fun z_ => nI (ps z_)))), (pq 2, .inl (cI, 4, .inl (fun z_ => nI (pu z_)))), (pq 3, .inl (cI, 4, .inl (fun z_ => nI (sd z_)))), (pq 4, .inl (cI, 8, .inl (fun z_ => nI (cj z_)))), (pq 5, .inl (cI, 5, .inl (fun z_ => nI (ta z_))))] → va_S A s.heap H locs → ∀ ls : Array Slot, lv_has ls 7 [(4, .int (nI (i))), (3, .int (nI (nmO (tc zp)))), (2, .int (nI (tc zp))), (0, .ref xt), (1, .ref a)] → W p l e (rmL 4) s m args below meth c H locs 0 0 Qf (F0 m 27 ls []) := by
    intro N; induction N with
    | zero => intro i p1 t1 _ _ _ _ _ hm; omega
    | succ N ih_27 =>
      intro i p1 t1 hi hok hp1 hp2 hg hm H locs hP hD hS ls hl
      refine lv_iload hx hb dX5_readItem_27 (lv_at hl 0 rfl) ?_
      refine lv_iload_n hx hb dX5_readItem_29 rfl (lv_at hl 1 rfl) ?_
      refine n_icmp_ge (tgt := 103) hx hb dX5_readItem_30 (by decide) (by omega) (by omega) (fun c_5 => ?_) (fun c_5 => ?_)
      · -- 30 to 103
        refine lv_iload_n hx hb dX5_readItem_103 rfl (lv_at hl 1 rfl) ?_
        refine n_if_le (tgt := 123) hx hb dX5_readItem_104 (by decide) (by omega) (fun c_6 => ?_) (fun c_6 => ?_)
        · -- 104 to 123
          have hit_q : itB tc zl zp rd = false := it_n (by omega)
          refine lv_iconst (v := nI 0) hx hb dX5_readItem_123 (by decide) ?_
          refine hret hP hD hS dX5_readItem_124 (by decide) rfl ?_
          exact Or.inl ⟨_, _, hit_q, rfl, rfl⟩
        · -- 104 to 107
          refine lv_aload_n hx hb dX5_readItem_107 rfl (lv_at hl 4 rfl) ?_
          refine lv_iload_n hx hb dX5_readItem_108 rfl (lv_at hl 2 rfl) ?_
          refine lv_aload_n hx hb dX5_readItem_109 rfl (lv_at hl 3 rfl) ?_
          refine gf_5_15 hx hb hts hown hK hP 0 rfl rfl dX5_readItem_110 ?_
          refine cl_5_50 (As := [.int (nI (tc zp)), .ref (tq 1)]) (rest := []) hx hb hml hts hown (k_X2_take hW (by omega) (fun j hj => by rw [hg j (by omega)]; exact nb_v hok j (by omega))) (by decide) ⟨Nat.zero_le _, Nat.zero_le _⟩ hK hP hD hS hA 3 rfl [3, 4, 5, 6, 7, 8, 9, 2] rfl (by decide) rfl hl.1 rfl (Nat.le_of_ble_eq_true rfl) dX5_readItem_113 (fun r_7 u H locs hp_8 hP hD hS => ?_)
          rcases hp_8 with ⟨hq_9, rfl, rfl⟩ | ⟨z_10, z_11, z_12, z_13, z_14, z_15, hq_16, hq_17, rfl, rfl⟩
          · -- case 0 of k_X2_take
            have hP : va_P D vwCl [tO xt tq zl p1, (tq 0, .inl (cC, 200, .inl (fun z_ => nI (tc z_)))), (tq 1, .inl (cI, 4, .inl (fun z_ => nI (t1 z_)))), pO a pq (rd 0) (rd 2) (rd 1) (szN rd (rd 0)) (rd 3) (rd 4), (pq 0, .inl (cI, 4, .inl (fun z_ => nI (te z_)))), (pq 1, .inl (cI, 4, .inl (fun z_ => nI (ps z_)))), (pq 2, .inl (cI, 4, .inl (fun z_ => nI (pu z_)))), (pq 3, .inl (cI, 4, .inl (fun z_ => nI (sd z_)))), (pq 4, .inl (cI, 8, .inl (fun z_ => nI (cj z_)))), (pq 5, .inl (cI, 5, .inl (fun z_ => nI (ta z_))))] _ := hP
            have hD : va_D A [tO xt tq zl p1, (tq 0, .inl (cC, 200, .inl (fun z_ => nI (tc z_)))), (tq 1, .inl (cI, 4, .inl (fun z_ => nI (t1 z_)))), pO a pq (rd 0) (rd 2) (rd 1) (szN rd (rd 0)) (rd 3) (rd 4), (pq 0, .inl (cI, 4, .inl (fun z_ => nI (te z_)))), (pq 1, .inl (cI, 4, .inl (fun z_ => nI (ps z_)))), (pq 2, .inl (cI, 4, .inl (fun z_ => nI (pu z_)))), (pq 3, .inl (cI, 4, .inl (fun z_ => nI (sd z_)))), (pq 4, .inl (cI, 8, .inl (fun z_ => nI (cj z_)))), (pq 5, .inl (cI, 5, .inl (fun z_ => nI (ta z_))))] := hD
            have hit_q : itB tc zl zp rd = false := it_f (by rw [← tkB_c (v := t1) (fun j hj => hg j (by omega))]; exact hq_9)
            refine n_if_eq (tgt := 123) hx hb dX5_readItem_116 (by decide) (by decide) (fun c_18 => ?_) (fun c_18 => ?_)
            · -- 116 to 123
              refine lv_iconst (v := nI 0) hx hb dX5_readItem_123 (by decide) ?_
              refine hret hP hD hS dX5_readItem_124 (by decide) rfl ?_
              exact Or.inl ⟨_, _, hit_q, rfl, rfl⟩
            · omega
          · -- case 1 of k_X2_take
            have hP : va_P D vwCl [tO xt tq zl p1, (tq 0, .inl (cC, 200, .inl (fun z_ => nI (tc z_)))), (tq 1, .inl (cI, 4, .inl (fun z_ => nI (t1 z_)))), pO a pq ((tkR rd (tc zp) t1) 0) ((tkR rd (tc zp) t1) 2) ((tkR rd (tc zp) t1) 1) (szN (tkR rd (tc zp) t1) ((tkR rd (tc zp) t1) 0)) ((tkR rd (tc zp) t1) 3) ((tkR rd (tc zp) t1) 4), (pq 0, .inl (cI, 4, .inl (fun z_ => nI (z_10 z_)))), (pq 1, .inl (cI, 4, .inl (fun z_ => nI (z_11 z_)))), (pq 2, .inl (cI, 4, .inl (fun z_ => nI (z_12 z_)))), (pq 3, .inl (cI, 4, .inl (fun z_ => nI (z_13 z_)))), (pq 4, .inl (cI, 8, .inl (fun z_ => nI (z_14 z_)))), (pq 5, .inl (cI, 5, .inl (fun z_ => nI (z_15 z_))))] _ := hP
            have hD : va_D A [tO xt tq zl p1, (tq 0, .inl (cC, 200, .inl (fun z_ => nI (tc z_)))), (tq 1, .inl (cI, 4, .inl (fun z_ => nI (t1 z_)))), pO a pq ((tkR rd (tc zp) t1) 0) ((tkR rd (tc zp) t1) 2) ((tkR rd (tc zp) t1) 1) (szN (tkR rd (tc zp) t1) ((tkR rd (tc zp) t1) 0)) ((tkR rd (tc zp) t1) 3) ((tkR rd (tc zp) t1) 4), (pq 0, .inl (cI, 4, .inl (fun z_ => nI (z_10 z_)))), (pq 1, .inl (cI, 4, .inl (fun z_ => nI (z_11 z_)))), (pq 2, .inl (cI, 4, .inl (fun z_ => nI (z_12 z_)))), (pq 3, .inl (cI, 4, .inl (fun z_ => nI (z_13 z_)))), (pq 4, .inl (cI, 8, .inl (fun z_ => nI (z_14 z_)))), (pq 5, .inl (cI, 5, .inl (fun z_ => nI (z_15 z_))))] := hD
            have htk_q := hq_16
            have hpw_q := hq_17
            have hit_q : itB tc zl zp rd = true := it_t (by have h9 := hok; rw [show i = nmO (tc zp) by omega] at h9; exact h9) (by rw [← tkB_c (v := t1) (fun j hj => hg j (by omega))]; exact htk_q)
            have hir_q : itR tc zl zp rd = tkR rd (tc zp) t1 := by simp only [itR]; exact (tkR_c htk_q (fun j hj => hg j (by omega))).symm
            refine n_if_eq (tgt := 123) hx hb dX5_readItem_116 (by decide) (by decide) (fun c_19 => ?_) (fun c_19 => ?_)
            · omega
            · -- 116 to 119
              refine lv_iconst (v := nI 1) hx hb dX5_readItem_119 (by decide) ?_
              refine lv_goto (tgt := 124) hx hb dX5_readItem_120 (by decide) ?_
              refine hret hP hD hS dX5_readItem_124 (by decide) rfl ?_
              have hpp_q : itP tc zl zp = p1 := by rw [hp1, show i = (nmO (tc zp)) by omega]; rfl
              exact Or.inr ⟨_, z_10, z_11, z_12, z_13, z_14, z_15, hit_q, by rw [hir_q]; exact hpw_q, rfl, by rw [hir_q, hpp_q]⟩
      · -- 30 to 33
        refine lv_aload_n hx hb dX5_readItem_33 rfl (lv_at hl 3 rfl) ?_
        refine cl_5_42 (As := []) (rest := []) hx hb hml hts hown (k_X5_readNumber hzl htc (by omega)) (by decide) ⟨Nat.zero_le _, Nat.zero_le _⟩ hK hP hD hS hA 0 rfl [0, 1] rfl (by decide) rfl hl.1 rfl (Nat.le_of_ble_eq_true rfl) dX5_readItem_34 (fun r_20 u H locs hp_21 hP hD hS => ?_)
        rcases hp_21 with ⟨hq_22, rfl, rfl⟩ | ⟨hq_23, rfl, rfl⟩
        · -- case 0 of k_X5_readNumber
          have hP : va_P D vwCl [tO xt tq zl p1, (tq 0, .inl (cC, 200, .inl (fun z_ => nI (tc z_)))), (tq 1, .inl (cI, 4, .inl (fun z_ => nI (t1 z_)))), pO a pq (rd 0) (rd 2) (rd 1) (szN rd (rd 0)) (rd 3) (rd 4), (pq 0, .inl (cI, 4, .inl (fun z_ => nI (te z_)))), (pq 1, .inl (cI, 4, .inl (fun z_ => nI (ps z_)))), (pq 2, .inl (cI, 4, .inl (fun z_ => nI (pu z_)))), (pq 3, .inl (cI, 4, .inl (fun z_ => nI (sd z_)))), (pq 4, .inl (cI, 8, .inl (fun z_ => nI (cj z_)))), (pq 5, .inl (cI, 5, .inl (fun z_ => nI (ta z_))))] _ := hP
          have hD : va_D A [tO xt tq zl p1, (tq 0, .inl (cC, 200, .inl (fun z_ => nI (tc z_)))), (tq 1, .inl (cI, 4, .inl (fun z_ => nI (t1 z_)))), pO a pq (rd 0) (rd 2) (rd 1) (szN rd (rd 0)) (rd 3) (rd 4), (pq 0, .inl (cI, 4, .inl (fun z_ => nI (te z_)))), (pq 1, .inl (cI, 4, .inl (fun z_ => nI (ps z_)))), (pq 2, .inl (cI, 4, .inl (fun z_ => nI (pu z_)))), (pq 3, .inl (cI, 4, .inl (fun z_ => nI (sd z_)))), (pq 4, .inl (cI, 8, .inl (fun z_ => nI (cj z_)))), (pq 5, .inl (cI, 5, .inl (fun z_ => nI (ta z_))))] := hD
          have hd_q := hq_22
          have hrf_q : rnB tc zl p1 (spN (nmO (tc zp)) i) = false := by simp only [rnB]; rw [hd_q]; rfl
          refine lv_istore (lv' := [(5, .int ((-1 : Int32))), (4, .int (nI (i))), (3, .int (nI (nmO (tc zp)))), (2, .int (nI (tc zp))), (0, .ref xt), (1, .ref a)]) hx hb dX5_readItem_37 hl (by decide) rfl (fun ls hl => ?_)
          refine lv_iload hx hb dX5_readItem_39 (lv_at hl 1 rfl) ?_
          refine lv_iload_n hx hb dX5_readItem_41 rfl (lv_at hl 2 rfl) ?_
          refine lv_iconst (v := nI 1) hx hb dX5_readItem_42 (by decide) ?_
          refine n_isub hx hb dX5_readItem_43 (by omega) ?_
          refine n_icmp_ge (tgt := 52) hx hb dX5_readItem_44 (by decide) (by omega) (by omega) (fun c_24 => ?_) (fun c_24 => ?_)
          · -- 44 to 52
            have hsp_q : spN (nmO (tc zp)) i = 59 := if_neg (by omega)
            refine lv_bipush (v := nI 59) hx hb dX5_readItem_52 (by decide) ?_
            refine lv_istore (lv' := [(6, .int (nI (59))), (5, .int ((-1 : Int32))), (4, .int (nI (i))), (3, .int (nI (nmO (tc zp)))), (2, .int (nI (tc zp))), (0, .ref xt), (1, .ref a)]) hx hb dX5_readItem_54 hl (by decide) rfl (fun ls hl => ?_)
            refine lv_iload hx hb dX5_readItem_56 (lv_at hl 1 rfl) ?_
            refine lv_if_lt (tgt := 74) hx hb dX5_readItem_58 (by decide) (fun c_25 => ?_) (fun c_25 => ?_)
            · -- 58 to 74
              refine lv_iconst (v := nI 0) hx hb dX5_readItem_74 (by decide) ?_
              refine hret hP hD hS dX5_readItem_75 (by decide) rfl ?_
              exact Or.inl ⟨_, _, it_b (nb_f (show i < (nmO (tc zp)) by omega) (by rw [← hp1]; exact hrf_q)), rfl, rfl⟩
            · exact absurd (by decide) c_25
          · -- 44 to 47
            have hsp_q : spN (nmO (tc zp)) i = 44 := if_pos (by omega)
            refine lv_bipush (v := nI 44) hx hb dX5_readItem_47 (by decide) ?_
            refine lv_goto (tgt := 54) hx hb dX5_readItem_49 (by decide) ?_
            refine lv_istore (lv' := [(6, .int (nI (44))), (5, .int ((-1 : Int32))), (4, .int (nI (i))), (3, .int (nI (nmO (tc zp)))), (2, .int (nI (tc zp))), (0, .ref xt), (1, .ref a)]) hx hb dX5_readItem_54 hl (by decide) rfl (fun ls hl => ?_)
            refine lv_iload hx hb dX5_readItem_56 (lv_at hl 1 rfl) ?_
            refine lv_if_lt (tgt := 74) hx hb dX5_readItem_58 (by decide) (fun c_26 => ?_) (fun c_26 => ?_)
            · -- 58 to 74
              refine lv_iconst (v := nI 0) hx hb dX5_readItem_74 (by decide) ?_
              refine hret hP hD hS dX5_readItem_75 (by decide) rfl ?_
              exact Or.inl ⟨_, _, it_b (nb_f (show i < (nmO (tc zp)) by omega) (by rw [← hp1]; exact hrf_q)), rfl, rfl⟩
            · exact absurd (by decide) c_26
        · -- case 1 of k_X5_readNumber
          have hP : va_P D vwCl [tO xt tq zl (p1 + rnW tc zl p1), (tq 0, .inl (cC, 200, .inl (fun z_ => nI (tc z_)))), (tq 1, .inl (cI, 4, .inl (fun z_ => nI (t1 z_)))), pO a pq (rd 0) (rd 2) (rd 1) (szN rd (rd 0)) (rd 3) (rd 4), (pq 0, .inl (cI, 4, .inl (fun z_ => nI (te z_)))), (pq 1, .inl (cI, 4, .inl (fun z_ => nI (ps z_)))), (pq 2, .inl (cI, 4, .inl (fun z_ => nI (pu z_)))), (pq 3, .inl (cI, 4, .inl (fun z_ => nI (sd z_)))), (pq 4, .inl (cI, 8, .inl (fun z_ => nI (cj z_)))), (pq 5, .inl (cI, 5, .inl (fun z_ => nI (ta z_))))] _ := hP
          have hD : va_D A [tO xt tq zl (p1 + rnW tc zl p1), (tq 0, .inl (cC, 200, .inl (fun z_ => nI (tc z_)))), (tq 1, .inl (cI, 4, .inl (fun z_ => nI (t1 z_)))), pO a pq (rd 0) (rd 2) (rd 1) (szN rd (rd 0)) (rd 3) (rd 4), (pq 0, .inl (cI, 4, .inl (fun z_ => nI (te z_)))), (pq 1, .inl (cI, 4, .inl (fun z_ => nI (ps z_)))), (pq 2, .inl (cI, 4, .inl (fun z_ => nI (pu z_)))), (pq 3, .inl (cI, 4, .inl (fun z_ => nI (sd z_)))), (pq 4, .inl (cI, 8, .inl (fun z_ => nI (cj z_)))), (pq 5, .inl (cI, 5, .inl (fun z_ => nI (ta z_))))] := hD
          have hd_q := hq_23
          have hwl_q := rw_le tc zl p1
          have hvl_q := rv_le htc zl p1
          refine lv_istore (lv' := [(5, .int (nI (rnV tc zl p1))), (4, .int (nI (i))), (3, .int (nI (nmO (tc zp)))), (2, .int (nI (tc zp))), (0, .ref xt), (1, .ref a)]) hx hb dX5_readItem_37 hl (by decide) rfl (fun ls hl => ?_)
          refine lv_iload hx hb dX5_readItem_39 (lv_at hl 1 rfl) ?_
          refine lv_iload_n hx hb dX5_readItem_41 rfl (lv_at hl 2 rfl) ?_
          refine lv_iconst (v := nI 1) hx hb dX5_readItem_42 (by decide) ?_
          refine n_isub hx hb dX5_readItem_43 (by omega) ?_
          refine n_icmp_ge (tgt := 52) hx hb dX5_readItem_44 (by decide) (by omega) (by omega) (fun c_27 => ?_) (fun c_27 => ?_)
          · -- 44 to 52
            have hsp_q : spN (nmO (tc zp)) i = 59 := if_neg (by omega)
            refine lv_bipush (v := nI 59) hx hb dX5_readItem_52 (by decide) ?_
            refine lv_istore (lv' := [(6, .int (nI (59))), (5, .int (nI (rnV tc zl p1))), (4, .int (nI (i))), (3, .int (nI (nmO (tc zp)))), (2, .int (nI (tc zp))), (0, .ref xt), (1, .ref a)]) hx hb dX5_readItem_54 hl (by decide) rfl (fun ls hl => ?_)
            refine lv_iload hx hb dX5_readItem_56 (lv_at hl 1 rfl) ?_
            refine n_if_lt (tgt := 74) hx hb dX5_readItem_58 (by decide) (by omega) ?_
            refine lv_aload_n hx hb dX5_readItem_61 rfl (lv_at hl 5 rfl) ?_
            refine lv_aload_n hx hb dX5_readItem_62 rfl (lv_at hl 5 rfl) ?_
            refine gf_5_28 hx hb hts hown hK hP 0 rfl rfl dX5_readItem_63 ?_
            refine cl_5_35 (As := [.int (nI (p1 + rnW tc zl p1))]) (rest := []) hx hb hml hts hown (k_X5_letterAt hzl htc (by omega)) (by decide) ⟨Nat.zero_le _, Nat.zero_le _⟩ hK hP hD hS hA 0 rfl [0, 1] rfl (by decide) rfl hl.1 rfl (Nat.le_of_ble_eq_true rfl) dX5_readItem_66 (fun r_29 u H locs hp_30 hP hD hS => ?_)
            obtain ⟨rfl, rfl⟩ := hp_30
            have hP : va_P D vwCl [tO xt tq zl ((p1 + rnW tc zl p1)), (tq 0, .inl (cC, 200, .inl (fun z_ => nI (tc z_)))), (tq 1, .inl (cI, 4, .inl (fun z_ => nI (t1 z_)))), pO a pq (rd 0) (rd 2) (rd 1) (szN rd (rd 0)) (rd 3) (rd 4), (pq 0, .inl (cI, 4, .inl (fun z_ => nI (te z_)))), (pq 1, .inl (cI, 4, .inl (fun z_ => nI (ps z_)))), (pq 2, .inl (cI, 4, .inl (fun z_ => nI (pu z_)))), (pq 3, .inl (cI, 4, .inl (fun z_ => nI (sd z_)))), (pq 4, .inl (cI, 8, .inl (fun z_ => nI (cj z_)))), (pq 5, .inl (cI, 5, .inl (fun z_ => nI (ta z_))))] _ := hP
            have hD : va_D A [tO xt tq zl ((p1 + rnW tc zl p1)), (tq 0, .inl (cC, 200, .inl (fun z_ => nI (tc z_)))), (tq 1, .inl (cI, 4, .inl (fun z_ => nI (t1 z_)))), pO a pq (rd 0) (rd 2) (rd 1) (szN rd (rd 0)) (rd 3) (rd 4), (pq 0, .inl (cI, 4, .inl (fun z_ => nI (te z_)))), (pq 1, .inl (cI, 4, .inl (fun z_ => nI (ps z_)))), (pq 2, .inl (cI, 4, .inl (fun z_ => nI (pu z_)))), (pq 3, .inl (cI, 4, .inl (fun z_ => nI (sd z_)))), (pq 4, .inl (cI, 8, .inl (fun z_ => nI (cj z_)))), (pq 5, .inl (cI, 5, .inl (fun z_ => nI (ta z_))))] := hD
            have hll_q := lt_lt (z := zl) (p := p1 + rnW tc zl p1) htc
            refine lv_iload hx hb dX5_readItem_69 (lv_at hl 0 rfl) ?_
            refine n_icmp_eq (tgt := 76) hx hb dX5_readItem_71 (by decide) (by omega) (by decide) (fun c_31 => ?_) (fun c_31 => ?_)
            · -- 71 to 76
              have hrt_q : rnB tc zl p1 (spN (nmO (tc zp)) i) = true := by simp only [rnB]; rw [hd_q, hsp_q, lt_c (by omega) c_31]; rfl
              refine lv_aload_n hx hb dX5_readItem_76 rfl (lv_at hl 5 rfl) ?_
              refine lv_dup hx hb dX5_readItem_77 rfl ?_
              refine gf_5_28 hx hb hts hown hK hP 0 rfl rfl dX5_readItem_78 ?_
              refine lv_iconst (v := nI 1) hx hb dX5_readItem_81 (by decide) ?_
              refine n_iadd hx hb dX5_readItem_82  ?_
              refine pf_5_28 hx hb hts hown hK hP hD hS 0 rfl (Nat.le_of_ble_eq_true rfl) dX5_readItem_83 (fun H locs hP hD hS => ?_)
              have hP : va_P D vwCl [tO xt tq zl (((p1 + rnW tc zl p1)) + 1), (tq 0, .inl (cC, 200, .inl (fun z_ => nI (tc z_)))), (tq 1, .inl (cI, 4, .inl (fun z_ => nI (t1 z_)))), pO a pq (rd 0) (rd 2) (rd 1) (szN rd (rd 0)) (rd 3) (rd 4), (pq 0, .inl (cI, 4, .inl (fun z_ => nI (te z_)))), (pq 1, .inl (cI, 4, .inl (fun z_ => nI (ps z_)))), (pq 2, .inl (cI, 4, .inl (fun z_ => nI (pu z_)))), (pq 3, .inl (cI, 4, .inl (fun z_ => nI (sd z_)))), (pq 4, .inl (cI, 8, .inl (fun z_ => nI (cj z_)))), (pq 5, .inl (cI, 5, .inl (fun z_ => nI (ta z_))))] _ := hP
              have hD : va_D A [tO xt tq zl (((p1 + rnW tc zl p1)) + 1), (tq 0, .inl (cC, 200, .inl (fun z_ => nI (tc z_)))), (tq 1, .inl (cI, 4, .inl (fun z_ => nI (t1 z_)))), pO a pq (rd 0) (rd 2) (rd 1) (szN rd (rd 0)) (rd 3) (rd 4), (pq 0, .inl (cI, 4, .inl (fun z_ => nI (te z_)))), (pq 1, .inl (cI, 4, .inl (fun z_ => nI (ps z_)))), (pq 2, .inl (cI, 4, .inl (fun z_ => nI (pu z_)))), (pq 3, .inl (cI, 4, .inl (fun z_ => nI (sd z_)))), (pq 4, .inl (cI, 8, .inl (fun z_ => nI (cj z_)))), (pq 5, .inl (cI, 5, .inl (fun z_ => nI (ta z_))))] := hD
              refine lv_aload_n hx hb dX5_readItem_86 rfl (lv_at hl 5 rfl) ?_
              refine gf_5_15 hx hb hts hown hK hP 0 rfl rfl dX5_readItem_87 ?_
              refine lv_iload hx hb dX5_readItem_90 (lv_at hl 2 rfl) ?_
              refine lv_iload hx hb dX5_readItem_92 (lv_at hl 1 rfl) ?_
              refine cl_5_46 (As := [.ref (tq 1), .int (nI (i)), .int (nI (rnV tc zl p1))]) (rest := []) hx hb hml hts hown (k_X6_put (by first | assumption | omega) (by first | assumption | omega)) (by decide) ⟨Nat.zero_le _, Nat.zero_le _⟩ hK hP hD hS hA [2] rfl (by decide) rfl hl.1 rfl (Nat.le_of_ble_eq_true rfl) dX5_readItem_94 (fun  u H locs hp_32 hP hD hS => ?_)
              subst hp_32
              have hP : va_P D vwCl [tO xt tq zl (((p1 + rnW tc zl p1)) + 1), (tq 0, .inl (cC, 200, .inl (fun z_ => nI (tc z_)))), (tq 1, .inl (cI, 4, .inl (fun z_ => nI ((up1 t1 i (rnV tc zl p1)) z_)))), pO a pq (rd 0) (rd 2) (rd 1) (szN rd (rd 0)) (rd 3) (rd 4), (pq 0, .inl (cI, 4, .inl (fun z_ => nI (te z_)))), (pq 1, .inl (cI, 4, .inl (fun z_ => nI (ps z_)))), (pq 2, .inl (cI, 4, .inl (fun z_ => nI (pu z_)))), (pq 3, .inl (cI, 4, .inl (fun z_ => nI (sd z_)))), (pq 4, .inl (cI, 8, .inl (fun z_ => nI (cj z_)))), (pq 5, .inl (cI, 5, .inl (fun z_ => nI (ta z_))))] _ := hP
              have hD : va_D A [tO xt tq zl (((p1 + rnW tc zl p1)) + 1), (tq 0, .inl (cC, 200, .inl (fun z_ => nI (tc z_)))), (tq 1, .inl (cI, 4, .inl (fun z_ => nI ((up1 t1 i (rnV tc zl p1)) z_)))), pO a pq (rd 0) (rd 2) (rd 1) (szN rd (rd 0)) (rd 3) (rd 4), (pq 0, .inl (cI, 4, .inl (fun z_ => nI (te z_)))), (pq 1, .inl (cI, 4, .inl (fun z_ => nI (ps z_)))), (pq 2, .inl (cI, 4, .inl (fun z_ => nI (pu z_)))), (pq 3, .inl (cI, 4, .inl (fun z_ => nI (sd z_)))), (pq 4, .inl (cI, 8, .inl (fun z_ => nI (cj z_)))), (pq 5, .inl (cI, 5, .inl (fun z_ => nI (ta z_))))] := hD
              refine lv_iinc (v := nI (i + 1)) (lv' := [(4, .int (nI (i + 1))), (6, .int (nI (59))), (5, .int (nI (rnV tc zl p1))), (3, .int (nI (nmO (tc zp)))), (2, .int (nI (tc zp))), (0, .ref xt), (1, .ref a)]) hx hb dX5_readItem_97 hl (k := 2) rfl (n_inc _ 1) (by decide) rfl (fun ls hl => ?_)
              refine lv_goto (tgt := 27) hx hb dX5_readItem_100 (by decide) ?_
              exact ih_27 (i + 1) (((p1 + rnW tc zl p1)) + 1) (up1 t1 i (rnV tc zl p1)) (by omega) (nb_s hok (by rw [← hp1]; exact hrt_q)) (by rw [npN, ← hp1]) (by have h9 := rn_lt hrt_q; omega) (nb_g hg (by rw [← hp1])) (by omega) _ _ hP hD hS _ (lv_sub hl [0, 3, 4, 5, 6] rfl)
            · -- 71 to 74
              have hrf_q : rnB tc zl p1 (spN (nmO (tc zp)) i) = false := by simp only [rnB]; rw [hsp_q, lt_d (by omega) c_31, Bool.and_false]
              refine lv_iconst (v := nI 0) hx hb dX5_readItem_74 (by decide) ?_
              refine hret hP hD hS dX5_readItem_75 (by decide) rfl ?_
              exact Or.inl ⟨_, _, it_b (nb_f (show i < (nmO (tc zp)) by omega) (by rw [← hp1]; exact hrf_q)), rfl, rfl⟩
          · -- 44 to 47
            have hsp_q : spN (nmO (tc zp)) i = 44 := if_pos (by omega)
            refine lv_bipush (v := nI 44) hx hb dX5_readItem_47 (by decide) ?_
            refine lv_goto (tgt := 54) hx hb dX5_readItem_49 (by decide) ?_
            refine lv_istore (lv' := [(6, .int (nI (44))), (5, .int (nI (rnV tc zl p1))), (4, .int (nI (i))), (3, .int (nI (nmO (tc zp)))), (2, .int (nI (tc zp))), (0, .ref xt), (1, .ref a)]) hx hb dX5_readItem_54 hl (by decide) rfl (fun ls hl => ?_)
            refine lv_iload hx hb dX5_readItem_56 (lv_at hl 1 rfl) ?_
            refine n_if_lt (tgt := 74) hx hb dX5_readItem_58 (by decide) (by omega) ?_
            refine lv_aload_n hx hb dX5_readItem_61 rfl (lv_at hl 5 rfl) ?_
            refine lv_aload_n hx hb dX5_readItem_62 rfl (lv_at hl 5 rfl) ?_
            refine gf_5_28 hx hb hts hown hK hP 0 rfl rfl dX5_readItem_63 ?_
            refine cl_5_35 (As := [.int (nI (p1 + rnW tc zl p1))]) (rest := []) hx hb hml hts hown (k_X5_letterAt hzl htc (by omega)) (by decide) ⟨Nat.zero_le _, Nat.zero_le _⟩ hK hP hD hS hA 0 rfl [0, 1] rfl (by decide) rfl hl.1 rfl (Nat.le_of_ble_eq_true rfl) dX5_readItem_66 (fun r_34 u H locs hp_35 hP hD hS => ?_)
            obtain ⟨rfl, rfl⟩ := hp_35
            have hP : va_P D vwCl [tO xt tq zl ((p1 + rnW tc zl p1)), (tq 0, .inl (cC, 200, .inl (fun z_ => nI (tc z_)))), (tq 1, .inl (cI, 4, .inl (fun z_ => nI (t1 z_)))), pO a pq (rd 0) (rd 2) (rd 1) (szN rd (rd 0)) (rd 3) (rd 4), (pq 0, .inl (cI, 4, .inl (fun z_ => nI (te z_)))), (pq 1, .inl (cI, 4, .inl (fun z_ => nI (ps z_)))), (pq 2, .inl (cI, 4, .inl (fun z_ => nI (pu z_)))), (pq 3, .inl (cI, 4, .inl (fun z_ => nI (sd z_)))), (pq 4, .inl (cI, 8, .inl (fun z_ => nI (cj z_)))), (pq 5, .inl (cI, 5, .inl (fun z_ => nI (ta z_))))] _ := hP
            have hD : va_D A [tO xt tq zl ((p1 + rnW tc zl p1)), (tq 0, .inl (cC, 200, .inl (fun z_ => nI (tc z_)))), (tq 1, .inl (cI, 4, .inl (fun z_ => nI (t1 z_)))), pO a pq (rd 0) (rd 2) (rd 1) (szN rd (rd 0)) (rd 3) (rd 4), (pq 0, .inl (cI, 4, .inl (fun z_ => nI (te z_)))), (pq 1, .inl (cI, 4, .inl (fun z_ => nI (ps z_)))), (pq 2, .inl (cI, 4, .inl (fun z_ => nI (pu z_)))), (pq 3, .inl (cI, 4, .inl (fun z_ => nI (sd z_)))), (pq 4, .inl (cI, 8, .inl (fun z_ => nI (cj z_)))), (pq 5, .inl (cI, 5, .inl (fun z_ => nI (ta z_))))] := hD
            have hll_q := lt_lt (z := zl) (p := p1 + rnW tc zl p1) htc
            refine lv_iload hx hb dX5_readItem_69 (lv_at hl 0 rfl) ?_
            refine n_icmp_eq (tgt := 76) hx hb dX5_readItem_71 (by decide) (by omega) (by decide) (fun c_36 => ?_) (fun c_36 => ?_)
            · -- 71 to 76
              have hrt_q : rnB tc zl p1 (spN (nmO (tc zp)) i) = true := by simp only [rnB]; rw [hd_q, hsp_q, lt_c (by omega) c_36]; rfl
              refine lv_aload_n hx hb dX5_readItem_76 rfl (lv_at hl 5 rfl) ?_
              refine lv_dup hx hb dX5_readItem_77 rfl ?_
              refine gf_5_28 hx hb hts hown hK hP 0 rfl rfl dX5_readItem_78 ?_
              refine lv_iconst (v := nI 1) hx hb dX5_readItem_81 (by decide) ?_
              refine n_iadd hx hb dX5_readItem_82  ?_
              refine pf_5_28 hx hb hts hown hK hP hD hS 0 rfl (Nat.le_of_ble_eq_true rfl) dX5_readItem_83 (fun H locs hP hD hS => ?_)
              have hP : va_P D vwCl [tO xt tq zl (((p1 + rnW tc zl p1)) + 1), (tq 0, .inl (cC, 200, .inl (fun z_ => nI (tc z_)))), (tq 1, .inl (cI, 4, .inl (fun z_ => nI (t1 z_)))), pO a pq (rd 0) (rd 2) (rd 1) (szN rd (rd 0)) (rd 3) (rd 4), (pq 0, .inl (cI, 4, .inl (fun z_ => nI (te z_)))), (pq 1, .inl (cI, 4, .inl (fun z_ => nI (ps z_)))), (pq 2, .inl (cI, 4, .inl (fun z_ => nI (pu z_)))), (pq 3, .inl (cI, 4, .inl (fun z_ => nI (sd z_)))), (pq 4, .inl (cI, 8, .inl (fun z_ => nI (cj z_)))), (pq 5, .inl (cI, 5, .inl (fun z_ => nI (ta z_))))] _ := hP
              have hD : va_D A [tO xt tq zl (((p1 + rnW tc zl p1)) + 1), (tq 0, .inl (cC, 200, .inl (fun z_ => nI (tc z_)))), (tq 1, .inl (cI, 4, .inl (fun z_ => nI (t1 z_)))), pO a pq (rd 0) (rd 2) (rd 1) (szN rd (rd 0)) (rd 3) (rd 4), (pq 0, .inl (cI, 4, .inl (fun z_ => nI (te z_)))), (pq 1, .inl (cI, 4, .inl (fun z_ => nI (ps z_)))), (pq 2, .inl (cI, 4, .inl (fun z_ => nI (pu z_)))), (pq 3, .inl (cI, 4, .inl (fun z_ => nI (sd z_)))), (pq 4, .inl (cI, 8, .inl (fun z_ => nI (cj z_)))), (pq 5, .inl (cI, 5, .inl (fun z_ => nI (ta z_))))] := hD
              refine lv_aload_n hx hb dX5_readItem_86 rfl (lv_at hl 5 rfl) ?_
              refine gf_5_15 hx hb hts hown hK hP 0 rfl rfl dX5_readItem_87 ?_
              refine lv_iload hx hb dX5_readItem_90 (lv_at hl 2 rfl) ?_
              refine lv_iload hx hb dX5_readItem_92 (lv_at hl 1 rfl) ?_
              refine cl_5_46 (As := [.ref (tq 1), .int (nI (i)), .int (nI (rnV tc zl p1))]) (rest := []) hx hb hml hts hown (k_X6_put (by first | assumption | omega) (by first | assumption | omega)) (by decide) ⟨Nat.zero_le _, Nat.zero_le _⟩ hK hP hD hS hA [2] rfl (by decide) rfl hl.1 rfl (Nat.le_of_ble_eq_true rfl) dX5_readItem_94 (fun  u H locs hp_37 hP hD hS => ?_)
              subst hp_37
              have hP : va_P D vwCl [tO xt tq zl (((p1 + rnW tc zl p1)) + 1), (tq 0, .inl (cC, 200, .inl (fun z_ => nI (tc z_)))), (tq 1, .inl (cI, 4, .inl (fun z_ => nI ((up1 t1 i (rnV tc zl p1)) z_)))), pO a pq (rd 0) (rd 2) (rd 1) (szN rd (rd 0)) (rd 3) (rd 4), (pq 0, .inl (cI, 4, .inl (fun z_ => nI (te z_)))), (pq 1, .inl (cI, 4, .inl (fun z_ => nI (ps z_)))), (pq 2, .inl (cI, 4, .inl (fun z_ => nI (pu z_)))), (pq 3, .inl (cI, 4, .inl (fun z_ => nI (sd z_)))), (pq 4, .inl (cI, 8, .inl (fun z_ => nI (cj z_)))), (pq 5, .inl (cI, 5, .inl (fun z_ => nI (ta z_))))] _ := hP
              have hD : va_D A [tO xt tq zl (((p1 + rnW tc zl p1)) + 1), (tq 0, .inl (cC, 200, .inl (fun z_ => nI (tc z_)))), (tq 1, .inl (cI, 4, .inl (fun z_ => nI ((up1 t1 i (rnV tc zl p1)) z_)))), pO a pq (rd 0) (rd 2) (rd 1) (szN rd (rd 0)) (rd 3) (rd 4), (pq 0, .inl (cI, 4, .inl (fun z_ => nI (te z_)))), (pq 1, .inl (cI, 4, .inl (fun z_ => nI (ps z_)))), (pq 2, .inl (cI, 4, .inl (fun z_ => nI (pu z_)))), (pq 3, .inl (cI, 4, .inl (fun z_ => nI (sd z_)))), (pq 4, .inl (cI, 8, .inl (fun z_ => nI (cj z_)))), (pq 5, .inl (cI, 5, .inl (fun z_ => nI (ta z_))))] := hD
              refine lv_iinc (v := nI (i + 1)) (lv' := [(4, .int (nI (i + 1))), (6, .int (nI (44))), (5, .int (nI (rnV tc zl p1))), (3, .int (nI (nmO (tc zp)))), (2, .int (nI (tc zp))), (0, .ref xt), (1, .ref a)]) hx hb dX5_readItem_97 hl (k := 2) rfl (n_inc _ 1) (by decide) rfl (fun ls hl => ?_)
              refine lv_goto (tgt := 27) hx hb dX5_readItem_100 (by decide) ?_
              exact ih_27 (i + 1) (((p1 + rnW tc zl p1)) + 1) (up1 t1 i (rnV tc zl p1)) (by omega) (nb_s hok (by rw [← hp1]; exact hrt_q)) (by rw [npN, ← hp1]) (by have h9 := rn_lt hrt_q; omega) (nb_g hg (by rw [← hp1])) (by omega) _ _ hP hD hS _ (lv_sub hl [0, 3, 4, 5, 6] rfl)
            · -- 71 to 74
              have hrf_q : rnB tc zl p1 (spN (nmO (tc zp)) i) = false := by simp only [rnB]; rw [hsp_q, lt_d (by omega) c_36, Bool.and_false]
              refine lv_iconst (v := nI 0) hx hb dX5_readItem_74 (by decide) ?_
              refine hret hP hD hS dX5_readItem_75 (by decide) rfl ?_
              exact Or.inl ⟨_, _, it_b (nb_f (show i < (nmO (tc zp)) by omega) (by rw [← hp1]; exact hrf_q)), rfl, rfl⟩
  exact loop_27 _ 0 (zp + 1) nu (by omega) rfl rfl (by omega) (fun j hj => absurd hj (Nat.not_lt_zero j)) (Nat.lt_succ_self _) _ _ hP hD hS _ (lv_sub hl [0, 1, 2, 3, 4] rfl)
set_option maxHeartbeats 4000000 in
set_option maxRecDepth 100000 in
theorem k_X5_readInto {l : Launch} {D : va_G} {cI cC cB : ClassId} {xt zl zp : Nat} {tq : Nat → Nat} {tc : Nat → Nat} {nu : Nat → Nat} {a : Nat} {pq : Nat → Nat} {te ps pu sd cj ta : Nat → Nat} {s0 s1 s2 s3 s4 s5 : Nat} (hzl : zl ≤ 200) (htc : ∀ j, tc j < 128) : MI l yX5_readInto cX5_readInto 4 (some .int) 5 D (Ty3 cI cC cB) [.ref xt, .ref a] [tO xt tq zl zp, (tq 0, .inl (cC, 200, .inl (fun z_ => nI (tc z_)))), (tq 1, .inl (cI, 4, .inl (fun z_ => nI (nu z_)))), pO a pq s0 s1 s2 s3 s4 s5, (pq 0, .inl (cI, 4, .inl (fun z_ => nI (te z_)))), (pq 1, .inl (cI, 4, .inl (fun z_ => nI (ps z_)))), (pq 2, .inl (cI, 4, .inl (fun z_ => nI (pu z_)))), (pq 3, .inl (cI, 4, .inl (fun z_ => nI (sd z_)))), (pq 4, .inl (cI, 8, .inl (fun z_ => nI (cj z_)))), (pq 5, .inl (cI, 5, .inl (fun z_ => nI (ta z_))))] (fun r u => (∃ p2 : Nat, ∃ t2 : Nat → Nat, ∃ te2 : Nat → Nat, ∃ ps2 : Nat → Nat, ∃ pu2 : Nat → Nat, ∃ sd2 : Nat → Nat, ∃ cj2 : Nat → Nat, ∃ ta2 : Nat → Nat, (PlW (fxN tc zl 201 0 clN).2 te2 ps2 pu2 sd2 cj2 ta2) ∧ r = (fxN tc zl 201 0 clN).1 ∧ u = [tO xt tq zl p2, (tq 0, .inl (cC, 200, .inl (fun z_ => nI (tc z_)))), (tq 1, .inl (cI, 4, .inl (fun z_ => nI (t2 z_)))), pO a pq (((fxN tc zl 201 0 clN).2) 0) (((fxN tc zl 201 0 clN).2) 2) (((fxN tc zl 201 0 clN).2) 1) (szN ((fxN tc zl 201 0 clN).2) (((fxN tc zl 201 0 clN).2) 0)) (((fxN tc zl 201 0 clN).2) 3) (((fxN tc zl 201 0 clN).2) 4), (pq 0, .inl (cI, 4, .inl (fun z_ => nI (te2 z_)))), (pq 1, .inl (cI, 4, .inl (fun z_ => nI (ps2 z_)))), (pq 2, .inl (cI, 4, .inl (fun z_ => nI (pu2 z_)))), (pq 3, .inl (cI, 4, .inl (fun z_ => nI (sd2 z_)))), (pq 4, .inl (cI, 8, .inl (fun z_ => nI (cj2 z_)))), (pq 5, .inl (cI, 5, .inl (fun z_ => nI (ta2 z_))))])) := by
  intro sz
  refine MI.walk (by decide +kernel) (Nat.le_of_ble_eq_true rfl) ?_
  intro p e s m args below meth c A Qf hx hb hml hts hown hret hK hP hD hS hA ls hl
  have hown : s.vm.findClass RX5 = some m.cls := hown
  have hl : lv_has ls 4 [(0, .ref xt), (1, .ref a)] := hl
  have hP : va_P D vwCl [tO xt tq zl zp, (tq 0, .inl (cC, 200, .inl (fun z_ => nI (tc z_)))), (tq 1, .inl (cI, 4, .inl (fun z_ => nI (nu z_)))), pO a pq s0 s1 s2 s3 s4 s5, (pq 0, .inl (cI, 4, .inl (fun z_ => nI (te z_)))), (pq 1, .inl (cI, 4, .inl (fun z_ => nI (ps z_)))), (pq 2, .inl (cI, 4, .inl (fun z_ => nI (pu z_)))), (pq 3, .inl (cI, 4, .inl (fun z_ => nI (sd z_)))), (pq 4, .inl (cI, 8, .inl (fun z_ => nI (cj z_)))), (pq 5, .inl (cI, 5, .inl (fun z_ => nI (ta z_))))] s.heap := hP
  have hD : va_D A [tO xt tq zl zp, (tq 0, .inl (cC, 200, .inl (fun z_ => nI (tc z_)))), (tq 1, .inl (cI, 4, .inl (fun z_ => nI (nu z_)))), pO a pq s0 s1 s2 s3 s4 s5, (pq 0, .inl (cI, 4, .inl (fun z_ => nI (te z_)))), (pq 1, .inl (cI, 4, .inl (fun z_ => nI (ps z_)))), (pq 2, .inl (cI, 4, .inl (fun z_ => nI (pu z_)))), (pq 3, .inl (cI, 4, .inl (fun z_ => nI (sd z_)))), (pq 4, .inl (cI, 8, .inl (fun z_ => nI (cj z_)))), (pq 5, .inl (cI, 5, .inl (fun z_ => nI (ta z_))))] := hD
  refine lv_aload_n hx hb dX5_readInto_0 rfl (lv_at hl 1 rfl) ?_
  refine cl_5_23 (As := []) (rest := []) hx hb hml hts hown (k_X2_empty ) (by decide) ⟨Nat.zero_le _, Nat.zero_le _⟩ hK hP hD hS hA 3 rfl [3] rfl (by decide) rfl hl.1 rfl (Nat.le_of_ble_eq_true rfl) dX5_readInto_1 (fun  u H locs hp_1 hP hD hS => ?_)
  subst hp_1
  have hP : va_P D vwCl [tO xt tq zl zp, (tq 0, .inl (cC, 200, .inl (fun z_ => nI (tc z_)))), (tq 1, .inl (cI, 4, .inl (fun z_ => nI (nu z_)))), pO a pq (clN 0) (clN 2) (clN 1) (szN clN (clN 0)) (clN 3) (clN 4), (pq 0, .inl (cI, 4, .inl (fun z_ => nI (te z_)))), (pq 1, .inl (cI, 4, .inl (fun z_ => nI (ps z_)))), (pq 2, .inl (cI, 4, .inl (fun z_ => nI (pu z_)))), (pq 3, .inl (cI, 4, .inl (fun z_ => nI (sd z_)))), (pq 4, .inl (cI, 8, .inl (fun z_ => nI (cj z_)))), (pq 5, .inl (cI, 5, .inl (fun z_ => nI (ta z_))))] _ := hP
  have hD : va_D A [tO xt tq zl zp, (tq 0, .inl (cC, 200, .inl (fun z_ => nI (tc z_)))), (tq 1, .inl (cI, 4, .inl (fun z_ => nI (nu z_)))), pO a pq (clN 0) (clN 2) (clN 1) (szN clN (clN 0)) (clN 3) (clN 4), (pq 0, .inl (cI, 4, .inl (fun z_ => nI (te z_)))), (pq 1, .inl (cI, 4, .inl (fun z_ => nI (ps z_)))), (pq 2, .inl (cI, 4, .inl (fun z_ => nI (pu z_)))), (pq 3, .inl (cI, 4, .inl (fun z_ => nI (sd z_)))), (pq 4, .inl (cI, 8, .inl (fun z_ => nI (cj z_)))), (pq 5, .inl (cI, 5, .inl (fun z_ => nI (ta z_))))] := hD
  refine lv_aload_n hx hb dX5_readInto_4 rfl (lv_at hl 0 rfl) ?_
  refine lv_iconst (v := nI 0) hx hb dX5_readInto_5 (by decide) ?_
  refine pf_5_28 hx hb hts hown hK hP hD hS 0 rfl (Nat.le_of_ble_eq_true rfl) dX5_readInto_6 (fun H locs hP hD hS => ?_)
  have hP : va_P D vwCl [tO xt tq zl 0, (tq 0, .inl (cC, 200, .inl (fun z_ => nI (tc z_)))), (tq 1, .inl (cI, 4, .inl (fun z_ => nI (nu z_)))), pO a pq (clN 0) (clN 2) (clN 1) (szN clN (clN 0)) (clN 3) (clN 4), (pq 0, .inl (cI, 4, .inl (fun z_ => nI (te z_)))), (pq 1, .inl (cI, 4, .inl (fun z_ => nI (ps z_)))), (pq 2, .inl (cI, 4, .inl (fun z_ => nI (pu z_)))), (pq 3, .inl (cI, 4, .inl (fun z_ => nI (sd z_)))), (pq 4, .inl (cI, 8, .inl (fun z_ => nI (cj z_)))), (pq 5, .inl (cI, 5, .inl (fun z_ => nI (ta z_))))] _ := hP
  have hD : va_D A [tO xt tq zl 0, (tq 0, .inl (cC, 200, .inl (fun z_ => nI (tc z_)))), (tq 1, .inl (cI, 4, .inl (fun z_ => nI (nu z_)))), pO a pq (clN 0) (clN 2) (clN 1) (szN clN (clN 0)) (clN 3) (clN 4), (pq 0, .inl (cI, 4, .inl (fun z_ => nI (te z_)))), (pq 1, .inl (cI, 4, .inl (fun z_ => nI (ps z_)))), (pq 2, .inl (cI, 4, .inl (fun z_ => nI (pu z_)))), (pq 3, .inl (cI, 4, .inl (fun z_ => nI (sd z_)))), (pq 4, .inl (cI, 8, .inl (fun z_ => nI (cj z_)))), (pq 5, .inl (cI, 5, .inl (fun z_ => nI (ta z_))))] := hD
  refine lv_iconst (v := nI 0) hx hb dX5_readInto_9 (by decide) ?_
  refine lv_istore_n (lv' := [(2, .int (nI (0))), (0, .ref xt), (1, .ref a)]) hx hb dX5_readInto_10 rfl hl (by decide) rfl (fun ls hl => ?_)
  have loop_11 : ∀ (N : Nat) (n : Nat) (p1 : Nat) (t1 : Nat → Nat) (c0 : Nat) (c1 : Nat) (c2 : Nat) (c3 : Nat) (c4 : Nat) (c5 : Nat) (te1 : Nat → Nat) (ps1 : Nat → Nat) (pu1 : Nat → Nat) (sd1 : Nat → Nat) (cj1 : Nat → Nat) (ta1 : Nat → Nat) (r1 : Nat → Nat), (p1 ≤ zl) → (n ≤ p1) → (fxN tc zl (201 - n) p1 r1 = (fxN tc zl 201 0 clN)) → (c0 = r1 0) → (c1 = r1 2) → (c2 = r1 1) → (c3 = szN r1 (r1 0)) → (c4 = r1 3) → (c5 = r1 4) → (PlW r1 te1 ps1 pu1 sd1 cj1 ta1) → (zl - p1) < N → ∀ (H : Heap) (locs : List Loc), va_P D vwCl [tO xt tq zl p1, (tq 0, .inl (cC, 200, .inl (fun z_ => nI (tc z_)))), (tq 1, .inl (cI, 4, .inl (fun z_ => nI (t1 z_)))), pO a pq c0 c1 c2 c3 c4 c5, (pq 0, .inl (cI, 4, .inl (fun z_ => nI (te1 z_)))), (pq 1, .inl (cI, 4, .inl (fun z_ => nI (ps1 z_)))), (pq 2, .inl (cI, 4, .inl (fun z_ => nI (pu1 z_)))), (pq 3, .inl (cI, 4, .inl (fun z_ => nI (sd1 z_)))), (pq 4, .inl (cI, 8, .inl (fun z_ => nI (cj1 z_)))), (pq 5, .inl (cI, 5, .inl (fun z_ => nI (ta1 z_))))] H → va_D A [tO xt tq zl p1, (tq 0, .inl (cC, 200, .inl (fun z_ => nI (tc z_)))), (tq 1, .inl (cI, 4, .inl (fun z_ => nI (t1 z_)))), pO a pq c0 c1 c2 c3 c4 c5, (pq 0, .inl (cI, 4, .inl (fun z_ => nI (te1 z_)))), (pq 1, .inl (cI, 4, .inl (fun z_ => nI (ps1 z_)))), (pq 2, .inl (cI, 4, .inl (fun z_ => nI (pu1 z_)))), (pq 3, .inl (cI, 4, .inl (fun z_ => nI (sd1 z_)))), (pq 4, .inl (cI, 8, .inl (fun z_ => nI (cj1 z_)))), (pq 5, .inl (cI, 5, .inl (fun z_ => nI (ta1 z_))))] → va_S A s.heap H locs → ∀ ls : Array Slot, lv_has ls 4 [(2, .int (nI (n))), (0, .ref xt), (1, .ref a)] → W p l e (rmL 5) s m args below meth c H locs 0 0 Qf (F0 m 11 ls []) := by
    intro N; induction N with
    | zero => intro n p1 t1 c0 c1 c2 c3 c4 c5 te1 ps1 pu1 sd1 cj1 ta1 r1 _ _ _ _ _ _ _ _ _ _ hm; omega
    | succ N ih_11 =>
      intro n p1 t1 c0 c1 c2 c3 c4 c5 te1 ps1 pu1 sd1 cj1 ta1 r1 hle hnp hfx hc0 hc1 hc2 hc3 hc4 hc5 hW hm H locs hP hD hS ls hl
      subst hc0 hc1 hc2 hc3 hc4 hc5
      refine lv_iload_n hx hb dX5_readInto_11 rfl (lv_at hl 0 rfl) ?_
      refine lv_sipush (v := nI 200) hx hb dX5_readInto_12 (by decide) ?_
      refine n_icmp_ge (tgt := 50) hx hb dX5_readInto_15 (by decide) (by omega) (by decide) (fun c_2 => ?_) (fun c_2 => ?_)
      · -- 15 to 50
        have hge_q : zl ≤ p1 := by omega
        refine lv_bipush (v := (-4)) hx hb dX5_readInto_50 (by decide) ?_
        refine hret hP hD hS dX5_readInto_52 rfl rfl ?_
        have hr_q : r1 = (fxN tc zl 201 0 clN).2 := by rw [← hfx]; exact fx_r (by omega) hge_q
        exact ⟨_, _, te1, ps1, pu1, sd1, cj1, ta1, by rw [← hr_q]; exact hW, by rw [← hfx]; exact fx_e (by omega) hge_q, by rw [← hr_q]⟩
      · -- 15 to 18
        refine lv_aload_n hx hb dX5_readInto_18 rfl (lv_at hl 1 rfl) ?_
        refine gf_5_28 hx hb hts hown hK hP 0 rfl rfl dX5_readInto_19 ?_
        refine lv_aload_n hx hb dX5_readInto_22 rfl (lv_at hl 1 rfl) ?_
        refine gf_5_19 hx hb hts hown hK hP 0 rfl rfl dX5_readInto_23 ?_
        refine n_icmp_ge (tgt := 50) hx hb dX5_readInto_26 (by decide) (by omega) (by omega) (fun c_3 => ?_) (fun c_3 => ?_)
        · -- 26 to 50
          have hge_q := c_3
          refine lv_bipush (v := (-4)) hx hb dX5_readInto_50 (by decide) ?_
          refine hret hP hD hS dX5_readInto_52 rfl rfl ?_
          have hr_q : r1 = (fxN tc zl 201 0 clN).2 := by rw [← hfx]; exact fx_r (by omega) hge_q
          exact ⟨_, _, te1, ps1, pu1, sd1, cj1, ta1, by rw [← hr_q]; exact hW, by rw [← hfx]; exact fx_e (by omega) hge_q, by rw [← hr_q]⟩
        · -- 26 to 29
          have hlt_q := c_3
          refine lv_aload_n hx hb dX5_readInto_29 rfl (lv_at hl 1 rfl) ?_
          refine gf_5_28 hx hb hts hown hK hP 0 rfl rfl dX5_readInto_30 ?_
          refine lv_istore_n (lv' := [(3, .int (nI (p1))), (2, .int (nI (n))), (0, .ref xt), (1, .ref a)]) hx hb dX5_readInto_33 rfl hl (by decide) rfl (fun ls hl => ?_)
          refine lv_aload_n hx hb dX5_readInto_34 rfl (lv_at hl 2 rfl) ?_
          refine lv_aload_n hx hb dX5_readInto_35 rfl (lv_at hl 3 rfl) ?_
          refine cl_5_31 (As := [.ref a]) (rest := []) hx hb hml hts hown (k_X5_readItem hW hzl htc hlt_q) (by decide) ⟨Nat.zero_le _, Nat.zero_le _⟩ hK hP hD hS hA 0 rfl [0, 1, 2, 3, 4, 5, 6, 7, 8, 9] rfl (by decide) rfl hl.1 rfl (Nat.le_of_ble_eq_true rfl) dX5_readInto_36 (fun r_4 u H locs hp_5 hP hD hS => ?_)
          rcases hp_5 with ⟨z_6, z_7, hq_8, rfl, rfl⟩ | ⟨z_9, z_10, z_11, z_12, z_13, z_14, z_15, hq_16, hq_17, rfl, rfl⟩
          · -- case 0 of k_X5_readItem
            have hP : va_P D vwCl [tO xt tq zl z_6, (tq 0, .inl (cC, 200, .inl (fun z_ => nI (tc z_)))), (tq 1, .inl (cI, 4, .inl (fun z_ => nI (z_7 z_)))), pO a pq (r1 0) (r1 2) (r1 1) (szN r1 (r1 0)) (r1 3) (r1 4), (pq 0, .inl (cI, 4, .inl (fun z_ => nI (te1 z_)))), (pq 1, .inl (cI, 4, .inl (fun z_ => nI (ps1 z_)))), (pq 2, .inl (cI, 4, .inl (fun z_ => nI (pu1 z_)))), (pq 3, .inl (cI, 4, .inl (fun z_ => nI (sd1 z_)))), (pq 4, .inl (cI, 8, .inl (fun z_ => nI (cj1 z_)))), (pq 5, .inl (cI, 5, .inl (fun z_ => nI (ta1 z_))))] _ := hP
            have hD : va_D A [tO xt tq zl z_6, (tq 0, .inl (cC, 200, .inl (fun z_ => nI (tc z_)))), (tq 1, .inl (cI, 4, .inl (fun z_ => nI (z_7 z_)))), pO a pq (r1 0) (r1 2) (r1 1) (szN r1 (r1 0)) (r1 3) (r1 4), (pq 0, .inl (cI, 4, .inl (fun z_ => nI (te1 z_)))), (pq 1, .inl (cI, 4, .inl (fun z_ => nI (ps1 z_)))), (pq 2, .inl (cI, 4, .inl (fun z_ => nI (pu1 z_)))), (pq 3, .inl (cI, 4, .inl (fun z_ => nI (sd1 z_)))), (pq 4, .inl (cI, 8, .inl (fun z_ => nI (cj1 z_)))), (pq 5, .inl (cI, 5, .inl (fun z_ => nI (ta1 z_))))] := hD
            have hit_q := hq_8
            refine n_if_ne (tgt := 44) hx hb dX5_readInto_39 (by decide) (by decide) (fun c_18 => ?_) (fun c_18 => ?_)
            · omega
            · -- 39 to 42
              refine lv_iload_n hx hb dX5_readInto_42 rfl (lv_at hl 0 rfl) ?_
              refine hret hP hD hS dX5_readInto_43 rfl rfl ?_
              have hr_q : r1 = (fxN tc zl 201 0 clN).2 := by rw [← hfx]; exact fx_q (by omega) hlt_q hit_q
              exact ⟨_, _, te1, ps1, pu1, sd1, cj1, ta1, by rw [← hr_q]; exact hW, by rw [← hfx]; exact fx_f (by omega) hlt_q hit_q, by rw [← hr_q]⟩
          · -- case 1 of k_X5_readItem
            have hP : va_P D vwCl [tO xt tq zl (itP tc zl p1), (tq 0, .inl (cC, 200, .inl (fun z_ => nI (tc z_)))), (tq 1, .inl (cI, 4, .inl (fun z_ => nI (z_9 z_)))), pO a pq ((itR tc zl p1 r1) 0) ((itR tc zl p1 r1) 2) ((itR tc zl p1 r1) 1) (szN (itR tc zl p1 r1) ((itR tc zl p1 r1) 0)) ((itR tc zl p1 r1) 3) ((itR tc zl p1 r1) 4), (pq 0, .inl (cI, 4, .inl (fun z_ => nI (z_10 z_)))), (pq 1, .inl (cI, 4, .inl (fun z_ => nI (z_11 z_)))), (pq 2, .inl (cI, 4, .inl (fun z_ => nI (z_12 z_)))), (pq 3, .inl (cI, 4, .inl (fun z_ => nI (z_13 z_)))), (pq 4, .inl (cI, 8, .inl (fun z_ => nI (z_14 z_)))), (pq 5, .inl (cI, 5, .inl (fun z_ => nI (z_15 z_))))] _ := hP
            have hD : va_D A [tO xt tq zl (itP tc zl p1), (tq 0, .inl (cC, 200, .inl (fun z_ => nI (tc z_)))), (tq 1, .inl (cI, 4, .inl (fun z_ => nI (z_9 z_)))), pO a pq ((itR tc zl p1 r1) 0) ((itR tc zl p1 r1) 2) ((itR tc zl p1 r1) 1) (szN (itR tc zl p1 r1) ((itR tc zl p1 r1) 0)) ((itR tc zl p1 r1) 3) ((itR tc zl p1 r1) 4), (pq 0, .inl (cI, 4, .inl (fun z_ => nI (z_10 z_)))), (pq 1, .inl (cI, 4, .inl (fun z_ => nI (z_11 z_)))), (pq 2, .inl (cI, 4, .inl (fun z_ => nI (z_12 z_)))), (pq 3, .inl (cI, 4, .inl (fun z_ => nI (z_13 z_)))), (pq 4, .inl (cI, 8, .inl (fun z_ => nI (z_14 z_)))), (pq 5, .inl (cI, 5, .inl (fun z_ => nI (z_15 z_))))] := hD
            have hit_q := hq_16
            have hpw_q := hq_17
            refine n_if_ne (tgt := 44) hx hb dX5_readInto_39 (by decide) (by decide) (fun c_19 => ?_) (fun c_19 => ?_)
            · -- 39 to 44
              refine lv_iinc (v := nI (n + 1)) (lv' := [(2, .int (nI (n + 1))), (3, .int (nI (p1))), (0, .ref xt), (1, .ref a)]) hx hb dX5_readInto_44 hl (k := 1) rfl (n_inc _ 1) (by decide) rfl (fun ls hl => ?_)
              refine lv_goto (tgt := 11) hx hb dX5_readInto_47 (by decide) ?_
              exact ih_11 (n + 1) (itP tc zl p1) z_9 ((itR tc zl p1 r1) 0) ((itR tc zl p1 r1) 2) ((itR tc zl p1 r1) 1) (szN (itR tc zl p1 r1) ((itR tc zl p1 r1) 0)) ((itR tc zl p1 r1) 3) ((itR tc zl p1 r1) 4) z_10 z_11 z_12 z_13 z_14 z_15 ((itR tc zl p1 r1)) (it_le hit_q) (by have := it_gt tc zl p1; omega) (by rw [← hfx, show 201 - (n + 1) = 201 - n - 1 by omega]; exact fx_s (by omega) (by assumption) hit_q) rfl rfl rfl rfl rfl rfl hpw_q (by have := it_gt tc zl p1; omega) _ _ hP hD hS _ (lv_sub hl [0, 2, 3] rfl)
            · omega
  exact loop_11 _ 0 0 nu (clN 0) (clN 2) (clN 1) (szN clN (clN 0)) (clN 3) (clN 4) te ps pu sd cj ta clN (by omega) (by omega) rfl rfl rfl rfl rfl rfl rfl cl_pw (Nat.lt_succ_self _) _ _ hP hD hS _ (lv_sub hl [0, 1, 2] rfl)
set_option maxHeartbeats 4000000 in
set_option maxRecDepth 100000 in
theorem k_X6_write {l : Launch} {D : va_G} {cI cC cB : ClassId} {o xg xu xk xd xe xf : Nat} {a b : Nat} {xt zl zp : Nat} {tq : Nat → Nat} {tc : Nat → Nat} {x : Int32} (hzl : zl ≤ 200) : MI l yX6_write cX6_write 2 (some .int) 1 D (Ty3 cI cC cB) [.ref o, .int (x)] [(o, .inr (6, [.ref xt, .ref xg, .ref xu, .ref xk, .ref b, .ref xd, .ref xe, .ref a, .ref xf])), tO xt tq zl zp, (tq 0, .inl (cC, 200, .inl (fun z_ => nI (tc z_))))] (fun r u => (r = wrA x zl ∧ u = [(o, .inr (6, [.ref xt, .ref xg, .ref xu, .ref xk, .ref b, .ref xd, .ref xe, .ref a, .ref xf])), tO xt tq (wrZ x zl) zp, (tq 0, .inl (cC, 200, .inl (fun z_ => nI ((wrT x tc zl) z_))))])) := by
  intro sz
  refine MI.walk (by decide +kernel) (Nat.le_of_ble_eq_true rfl) ?_
  intro p e s m args below meth c A Qf hx hb hml hts hown hret hK hP hD hS hA ls hl
  have hown : s.vm.findClass RX6 = some m.cls := hown
  have hl : lv_has ls 2 [(0, .ref o), (1, .int (x))] := hl
  have hP : va_P D vwCl [(o, .inr (6, [.ref xt, .ref xg, .ref xu, .ref xk, .ref b, .ref xd, .ref xe, .ref a, .ref xf])), tO xt tq zl zp, (tq 0, .inl (cC, 200, .inl (fun z_ => nI (tc z_))))] s.heap := hP
  have hD : va_D A [(o, .inr (6, [.ref xt, .ref xg, .ref xu, .ref xk, .ref b, .ref xd, .ref xe, .ref a, .ref xf])), tO xt tq zl zp, (tq 0, .inl (cC, 200, .inl (fun z_ => nI (tc z_))))] := hD
  refine lv_iload_n hx hb dX6_write_0 rfl (lv_at hl 1 rfl) ?_
  refine lv_bipush (v := nI 32) hx hb dX6_write_1 (by decide) ?_
  refine lv_icmp_lt (tgt := 12) hx hb dX6_write_3 (by decide) (fun c_1 => ?_) (fun c_1 => ?_)
  · -- 3 to 12
    have hv_q := inR_lo (a := 32) 126 (by decide) c_1
    refine lv_iconst (v := (-1)) hx hb dX6_write_12 (by decide) ?_
    refine hret hP hD hS dX6_write_13 rfl rfl ?_
    refine ⟨wrA_e hv_q, ?_⟩
    rw [wrZ_0 (wr_3 hv_q), wrT_0 (wr_3 hv_q)]
  · -- 3 to 6
    have hlo_q := c_1
    refine lv_iload_n hx hb dX6_write_6 rfl (lv_at hl 1 rfl) ?_
    refine lv_bipush (v := nI 126) hx hb dX6_write_7 (by decide) ?_
    refine lv_icmp_le (tgt := 14) hx hb dX6_write_9 (by decide) (fun c_2 => ?_) (fun c_2 => ?_)
    · -- 9 to 14
      have hv_q := inR_mj (a := 32) (b := 126) (by decide) (by decide) hlo_q c_2
      obtain ⟨j, hj1, hj2, rfl⟩ := inR_e (by omega) hv_q
      refine lv_aload_n hx hb dX6_write_14 rfl (lv_at hl 0 rfl) ?_
      refine gf_6_12 hx hb hts hown hK hP 0 rfl rfl dX6_write_15 ?_
      refine lv_iload_n hx hb dX6_write_18 rfl (lv_at hl 1 rfl) ?_
      refine lv_i2c (v := nI (j)) hx hb dX6_write_19 (i2c_e (by omega)) ?_
      refine cl_6_74 (As := [.int (nI (j))]) (rest := []) hx hb hml hts hown (k_X5_add (by first | assumption | omega) (by first | assumption | omega)) (by decide) ⟨Nat.zero_le _, Nat.zero_le _⟩ hK hP hD hS hA 1 rfl [1, 2] rfl (by decide) rfl hl.1 rfl (Nat.le_of_ble_eq_true rfl) dX6_write_20 (fun r_3 u H locs hp_4 hP hD hS => ?_)
      rcases hp_4 with ⟨hq_5, rfl, rfl⟩ | ⟨hq_6, rfl, rfl⟩
      · -- case 0 of k_X5_add
        have hP : va_P D vwCl [(o, .inr (6, [.ref xt, .ref xg, .ref xu, .ref xk, .ref b, .ref xd, .ref xe, .ref a, .ref xf])), tO xt tq zl zp, (tq 0, .inl (cC, 200, .inl (fun z_ => nI (tc z_))))] _ := hP
        have hD : va_D A [(o, .inr (6, [.ref xt, .ref xg, .ref xu, .ref xk, .ref b, .ref xd, .ref xe, .ref a, .ref xf])), tO xt tq zl zp, (tq 0, .inl (cC, 200, .inl (fun z_ => nI (tc z_))))] := hD
        have ho_q : wrOk (nI j) zl = false := wr_2 hq_5
        refine n_if_eq (tgt := 36) hx hb dX6_write_23 (by decide) (by decide) (fun c_7 => ?_) (fun c_7 => ?_)
        · -- 23 to 36
          refine lv_bipush (v := (-3)) hx hb dX6_write_36 (by decide) ?_
          refine hret hP hD hS dX6_write_38 rfl rfl ?_
          refine ⟨wrA_f hv_q ho_q, ?_⟩
          rw [wrZ_0 ho_q, wrT_0 ho_q]
        · omega
      · -- case 1 of k_X5_add
        have hP : va_P D vwCl [(o, .inr (6, [.ref xt, .ref xg, .ref xu, .ref xk, .ref b, .ref xd, .ref xe, .ref a, .ref xf])), tO xt tq (zl + 1) zp, (tq 0, .inl (cC, 200, .inl (fun z_ => nI ((up1 tc zl j) z_))))] _ := hP
        have hD : va_D A [(o, .inr (6, [.ref xt, .ref xg, .ref xu, .ref xk, .ref b, .ref xd, .ref xe, .ref a, .ref xf])), tO xt tq (zl + 1) zp, (tq 0, .inl (cC, 200, .inl (fun z_ => nI ((up1 tc zl j) z_))))] := hD
        have ho_q : wrOk (nI j) zl = true := wr_1 hv_q hq_6
        refine n_if_eq (tgt := 36) hx hb dX6_write_23 (by decide) (by decide) (fun c_8 => ?_) (fun c_8 => ?_)
        · omega
        · -- 23 to 26
          refine lv_aload_n hx hb dX6_write_26 rfl (lv_at hl 0 rfl) ?_
          refine gf_6_12 hx hb hts hown hK hP 0 rfl rfl dX6_write_27 ?_
          refine gf_6_89 hx hb hts hown hK hP 1 rfl rfl dX6_write_30 ?_
          refine lv_goto (tgt := 38) hx hb dX6_write_33 (by decide) ?_
          refine hret hP hD hS dX6_write_38 rfl rfl ?_
          refine ⟨wrA_t hv_q ho_q, ?_⟩
          rw [wrZ_1 ho_q, wrT_1 (by omega) ho_q]
    · -- 9 to 12
      have hv_q := inR_hj 32 (b := 126) (by decide) c_2
      refine lv_iconst (v := (-1)) hx hb dX6_write_12 (by decide) ?_
      refine hret hP hD hS dX6_write_13 rfl rfl ?_
      refine ⟨wrA_e hv_q, ?_⟩
      rw [wrZ_0 (wr_3 hv_q), wrT_0 (wr_3 hv_q)]
set_option maxHeartbeats 4000000 in
set_option maxRecDepth 100000 in
theorem k_X6_wipe {l : Launch} {D : va_G} {cI cC cB : ClassId} {o xg xu xk xd xe xf : Nat} {a b : Nat} {xt zl zp : Nat} {tq : Nat → Nat}  : MI l yX6_wipe cX6_wipe 2 (some .int) 1 D (Ty3 cI cC cB) [.ref o] [(o, .inr (6, [.ref xt, .ref xg, .ref xu, .ref xk, .ref b, .ref xd, .ref xe, .ref a, .ref xf])), tO xt tq zl zp] (fun r u => (r = nI (zl) ∧ u = [(o, .inr (6, [.ref xt, .ref xg, .ref xu, .ref xk, .ref b, .ref xd, .ref xe, .ref a, .ref xf])), tO xt tq 0 zp])) := by
  intro sz
  refine MI.walk (by decide +kernel) (Nat.le_of_ble_eq_true rfl) ?_
  intro p e s m args below meth c A Qf hx hb hml hts hown hret hK hP hD hS hA ls hl
  have hown : s.vm.findClass RX6 = some m.cls := hown
  have hl : lv_has ls 2 [(0, .ref o)] := hl
  have hP : va_P D vwCl [(o, .inr (6, [.ref xt, .ref xg, .ref xu, .ref xk, .ref b, .ref xd, .ref xe, .ref a, .ref xf])), tO xt tq zl zp] s.heap := hP
  have hD : va_D A [(o, .inr (6, [.ref xt, .ref xg, .ref xu, .ref xk, .ref b, .ref xd, .ref xe, .ref a, .ref xf])), tO xt tq zl zp] := hD
  refine lv_aload_n hx hb dX6_wipe_0 rfl (lv_at hl 0 rfl) ?_
  refine gf_6_12 hx hb hts hown hK hP 0 rfl rfl dX6_wipe_1 ?_
  refine gf_6_89 hx hb hts hown hK hP 1 rfl rfl dX6_wipe_4 ?_
  refine lv_istore_n (lv' := [(1, .int (nI (zl))), (0, .ref o)]) hx hb dX6_wipe_7 rfl hl (by decide) rfl (fun ls hl => ?_)
  refine lv_aload_n hx hb dX6_wipe_8 rfl (lv_at hl 1 rfl) ?_
  refine gf_6_12 hx hb hts hown hK hP 0 rfl rfl dX6_wipe_9 ?_
  refine cl_6_86 (As := []) (rest := []) hx hb hml hts hown (k_X5_empty ) (by decide) ⟨Nat.zero_le _, Nat.zero_le _⟩ hK hP hD hS hA 1 rfl [1] rfl (by decide) rfl hl.1 rfl (Nat.le_of_ble_eq_true rfl) dX6_wipe_12 (fun  u H locs hp_1 hP hD hS => ?_)
  subst hp_1
  have hP : va_P D vwCl [(o, .inr (6, [.ref xt, .ref xg, .ref xu, .ref xk, .ref b, .ref xd, .ref xe, .ref a, .ref xf])), tO xt tq 0 zp] _ := hP
  have hD : va_D A [(o, .inr (6, [.ref xt, .ref xg, .ref xu, .ref xk, .ref b, .ref xd, .ref xe, .ref a, .ref xf])), tO xt tq 0 zp] := hD
  refine lv_iload_n hx hb dX6_wipe_15 rfl (lv_at hl 0 rfl) ?_
  refine hret hP hD hS dX6_wipe_16 rfl rfl ?_
  exact ⟨rfl, rfl⟩
set_option maxHeartbeats 4000000 in
set_option maxRecDepth 100000 in
theorem k_X6_fault {l : Launch} {D : va_G} {cI cC cB : ClassId} {o xg xu xk xd xe xf : Nat} {a b : Nat} {xt zl zp : Nat} {tq : Nat → Nat} {tc : Nat → Nat} {nu : Nat → Nat} {f0 f1 f2 f3 f4 f5 : Nat} {fq : Nat → Nat} {fa fb fc fd fe ff : Nat → Nat}  (hzl : zl ≤ 200) (htc : ∀ j, tc j < 128) : MI l yX6_fault cX6_fault 1 (some .int) 6 D (Ty3 cI cC cB) [.ref o] [(o, .inr (6, [.ref xt, .ref xg, .ref xu, .ref xk, .ref b, .ref xd, .ref xe, .ref a, .ref xf])), tO xt tq zl zp, (tq 0, .inl (cC, 200, .inl (fun z_ => nI (tc z_)))), (tq 1, .inl (cI, 4, .inl (fun z_ => nI (nu z_)))), pO xf fq f0 f1 f2 f3 f4 f5, (fq 0, .inl (cI, 4, .inl (fun z_ => nI (fa z_)))), (fq 1, .inl (cI, 4, .inl (fun z_ => nI (fb z_)))), (fq 2, .inl (cI, 4, .inl (fun z_ => nI (fc z_)))), (fq 3, .inl (cI, 4, .inl (fun z_ => nI (fd z_)))), (fq 4, .inl (cI, 8, .inl (fun z_ => nI (fe z_)))), (fq 5, .inl (cI, 5, .inl (fun z_ => nI (ff z_))))] (fun r u => (∃ p2 : Nat, ∃ t2 : Nat → Nat, ∃ te2 : Nat → Nat, ∃ ps2 : Nat → Nat, ∃ pu2 : Nat → Nat, ∃ sd2 : Nat → Nat, ∃ cj2 : Nat → Nat, ∃ ta2 : Nat → Nat, r = (fxN tc zl 201 0 clN).1 ∧ u = [(o, .inr (6, [.ref xt, .ref xg, .ref xu, .ref xk, .ref b, .ref xd, .ref xe, .ref a, .ref xf])), tO xt tq zl p2, (tq 0, .inl (cC, 200, .inl (fun z_ => nI (tc z_)))), (tq 1, .inl (cI, 4, .inl (fun z_ => nI (t2 z_)))), pO xf fq (((fxN tc zl 201 0 clN).2) 0) (((fxN tc zl 201 0 clN).2) 2) (((fxN tc zl 201 0 clN).2) 1) (szN ((fxN tc zl 201 0 clN).2) (((fxN tc zl 201 0 clN).2) 0)) (((fxN tc zl 201 0 clN).2) 3) (((fxN tc zl 201 0 clN).2) 4), (fq 0, .inl (cI, 4, .inl (fun z_ => nI (te2 z_)))), (fq 1, .inl (cI, 4, .inl (fun z_ => nI (ps2 z_)))), (fq 2, .inl (cI, 4, .inl (fun z_ => nI (pu2 z_)))), (fq 3, .inl (cI, 4, .inl (fun z_ => nI (sd2 z_)))), (fq 4, .inl (cI, 8, .inl (fun z_ => nI (cj2 z_)))), (fq 5, .inl (cI, 5, .inl (fun z_ => nI (ta2 z_))))])) := by
  intro sz
  refine MI.walk (by decide +kernel) (Nat.le_of_ble_eq_true rfl) ?_
  intro p e s m args below meth c A Qf hx hb hml hts hown hret hK hP hD hS hA ls hl
  have hown : s.vm.findClass RX6 = some m.cls := hown
  have hl : lv_has ls 1 [(0, .ref o)] := hl
  have hP : va_P D vwCl [(o, .inr (6, [.ref xt, .ref xg, .ref xu, .ref xk, .ref b, .ref xd, .ref xe, .ref a, .ref xf])), tO xt tq zl zp, (tq 0, .inl (cC, 200, .inl (fun z_ => nI (tc z_)))), (tq 1, .inl (cI, 4, .inl (fun z_ => nI (nu z_)))), pO xf fq f0 f1 f2 f3 f4 f5, (fq 0, .inl (cI, 4, .inl (fun z_ => nI (fa z_)))), (fq 1, .inl (cI, 4, .inl (fun z_ => nI (fb z_)))), (fq 2, .inl (cI, 4, .inl (fun z_ => nI (fc z_)))), (fq 3, .inl (cI, 4, .inl (fun z_ => nI (fd z_)))), (fq 4, .inl (cI, 8, .inl (fun z_ => nI (fe z_)))), (fq 5, .inl (cI, 5, .inl (fun z_ => nI (ff z_))))] s.heap := hP
  have hD : va_D A [(o, .inr (6, [.ref xt, .ref xg, .ref xu, .ref xk, .ref b, .ref xd, .ref xe, .ref a, .ref xf])), tO xt tq zl zp, (tq 0, .inl (cC, 200, .inl (fun z_ => nI (tc z_)))), (tq 1, .inl (cI, 4, .inl (fun z_ => nI (nu z_)))), pO xf fq f0 f1 f2 f3 f4 f5, (fq 0, .inl (cI, 4, .inl (fun z_ => nI (fa z_)))), (fq 1, .inl (cI, 4, .inl (fun z_ => nI (fb z_)))), (fq 2, .inl (cI, 4, .inl (fun z_ => nI (fc z_)))), (fq 3, .inl (cI, 4, .inl (fun z_ => nI (fd z_)))), (fq 4, .inl (cI, 8, .inl (fun z_ => nI (fe z_)))), (fq 5, .inl (cI, 5, .inl (fun z_ => nI (ff z_))))] := hD
  refine lv_aload_n hx hb dX6_fault_0 rfl (lv_at hl 0 rfl) ?_
  refine gf_6_12 hx hb hts hown hK hP 0 rfl rfl dX6_fault_1 ?_
  refine lv_aload_n hx hb dX6_fault_4 rfl (lv_at hl 0 rfl) ?_
  refine gf_6_59 hx hb hts hown hK hP 0 rfl rfl dX6_fault_5 ?_
  refine cl_6_78 (As := [.ref xf]) (rest := []) hx hb hml hts hown (k_X5_readInto (by first | assumption | omega) (by first | assumption | omega)) (by decide) ⟨Nat.zero_le _, Nat.zero_le _⟩ hK hP hD hS hA 1 rfl [1, 2, 3, 4, 5, 6, 7, 8, 9, 10] rfl (by decide) rfl hl.1 rfl (Nat.le_of_ble_eq_true rfl) dX6_fault_8 (fun r_1 u H locs hp_2 hP hD hS => ?_)
  obtain ⟨z_3, z_4, z_5, z_6, z_7, z_8, z_9, z_10, hq_11, rfl, rfl⟩ := hp_2
  have hP : va_P D vwCl [(o, .inr (6, [.ref xt, .ref xg, .ref xu, .ref xk, .ref b, .ref xd, .ref xe, .ref a, .ref xf])), tO xt tq zl z_3, (tq 0, .inl (cC, 200, .inl (fun z_ => nI (tc z_)))), (tq 1, .inl (cI, 4, .inl (fun z_ => nI (z_4 z_)))), pO xf fq (((fxN tc zl 201 0 clN).2) 0) (((fxN tc zl 201 0 clN).2) 2) (((fxN tc zl 201 0 clN).2) 1) (szN ((fxN tc zl 201 0 clN).2) (((fxN tc zl 201 0 clN).2) 0)) (((fxN tc zl 201 0 clN).2) 3) (((fxN tc zl 201 0 clN).2) 4), (fq 0, .inl (cI, 4, .inl (fun z_ => nI (z_5 z_)))), (fq 1, .inl (cI, 4, .inl (fun z_ => nI (z_6 z_)))), (fq 2, .inl (cI, 4, .inl (fun z_ => nI (z_7 z_)))), (fq 3, .inl (cI, 4, .inl (fun z_ => nI (z_8 z_)))), (fq 4, .inl (cI, 8, .inl (fun z_ => nI (z_9 z_)))), (fq 5, .inl (cI, 5, .inl (fun z_ => nI (z_10 z_))))] _ := hP
  have hD : va_D A [(o, .inr (6, [.ref xt, .ref xg, .ref xu, .ref xk, .ref b, .ref xd, .ref xe, .ref a, .ref xf])), tO xt tq zl z_3, (tq 0, .inl (cC, 200, .inl (fun z_ => nI (tc z_)))), (tq 1, .inl (cI, 4, .inl (fun z_ => nI (z_4 z_)))), pO xf fq (((fxN tc zl 201 0 clN).2) 0) (((fxN tc zl 201 0 clN).2) 2) (((fxN tc zl 201 0 clN).2) 1) (szN ((fxN tc zl 201 0 clN).2) (((fxN tc zl 201 0 clN).2) 0)) (((fxN tc zl 201 0 clN).2) 3) (((fxN tc zl 201 0 clN).2) 4), (fq 0, .inl (cI, 4, .inl (fun z_ => nI (z_5 z_)))), (fq 1, .inl (cI, 4, .inl (fun z_ => nI (z_6 z_)))), (fq 2, .inl (cI, 4, .inl (fun z_ => nI (z_7 z_)))), (fq 3, .inl (cI, 4, .inl (fun z_ => nI (z_8 z_)))), (fq 4, .inl (cI, 8, .inl (fun z_ => nI (z_9 z_)))), (fq 5, .inl (cI, 5, .inl (fun z_ => nI (z_10 z_))))] := hD
  refine hret hP hD hS dX6_fault_11 rfl rfl ?_
  exact ⟨_, _, z_5, z_6, z_7, z_8, z_9, z_10, rfl, rfl⟩
set_option maxHeartbeats 4000000 in
set_option maxRecDepth 100000 in
theorem k_X6_lay {l : Launch} {D : va_G} {cI cC cB : ClassId} {o xg xu xk xd xe xf : Nat} {a : Nat} {xt zl zp : Nat} {tq : Nat → Nat} {tc : Nat → Nat} {nu : Nat → Nat} {f0 f1 f2 f3 f4 f5 : Nat} {fq : Nat → Nat} {fa fb fc fd fe ff : Nat → Nat} {b : Nat} {bq : Nat → Nat} {up st ex tl he dy se : Nat → Nat} {fi hd td tn : Nat} {zms : Nat} {gq : Nat → Nat} {zn zc kn kc : Nat} {uq kq : Nat → Nat} (hzl : zl ≤ 200) (htc : ∀ j, tc j < 128) : MI l yX6_lay cX6_lay 2 (some .int) 6 D (Ty3 cI cC cB) [.ref o] [(o, .inr (6, [.ref xt, .ref xg, .ref xu, .ref xk, .ref b, .ref xd, .ref xe, .ref a, .ref xf])), tO xt tq zl zp, (tq 0, .inl (cC, 200, .inl (fun z_ => nI (tc z_)))), (tq 1, .inl (cI, 4, .inl (fun z_ => nI (nu z_)))), pO xf fq f0 f1 f2 f3 f4 f5, (fq 0, .inl (cI, 4, .inl (fun z_ => nI (fa z_)))), (fq 1, .inl (cI, 4, .inl (fun z_ => nI (fb z_)))), (fq 2, .inl (cI, 4, .inl (fun z_ => nI (fc z_)))), (fq 3, .inl (cI, 4, .inl (fun z_ => nI (fd z_)))), (fq 4, .inl (cI, 8, .inl (fun z_ => nI (fe z_)))), (fq 5, .inl (cI, 5, .inl (fun z_ => nI (ff z_)))), bO b bq fi hd td tn, (bq 0, .inl (cI, 4, .inl (fun z_ => nI (up z_)))), (bq 1, .inl (cI, 4, .inl (fun z_ => nI (st z_)))), (bq 2, .inl (cI, 12, .inl (fun z_ => nI (ex z_)))), (bq 3, .inl (cI, 12, .inl (fun z_ => nI (tl z_)))), (bq 4, .inl (cI, 12, .inl (fun z_ => nI (he z_)))), (bq 5, .inl (cI, 12, .inl (fun z_ => nI (dy z_)))), (bq 6, .inl (cI, 12, .inl (fun z_ => nI (se z_)))), gO xg gq zms, sO xu uq zn zc, sO xk kq kn kc] (fun r u => (∃ p2 : Nat, ∃ t2 : Nat → Nat, ∃ te2 : Nat → Nat, ∃ ps2 : Nat → Nat, ∃ pu2 : Nat → Nat, ∃ sd2 : Nat → Nat, ∃ cj2 : Nat → Nat, ∃ ta2 : Nat → Nat, (lyB (fxN tc zl 201 0 clN) = false) ∧ r = (-2 : Int32) ∧ u = [(o, .inr (6, [.ref xt, .ref xg, .ref xu, .ref xk, .ref b, .ref xd, .ref xe, .ref a, .ref xf])), tO xt tq zl p2, (tq 0, .inl (cC, 200, .inl (fun z_ => nI (tc z_)))), (tq 1, .inl (cI, 4, .inl (fun z_ => nI (t2 z_)))), pO xf fq (((fxN tc zl 201 0 clN).2) 0) (((fxN tc zl 201 0 clN).2) 2) (((fxN tc zl 201 0 clN).2) 1) (szN ((fxN tc zl 201 0 clN).2) (((fxN tc zl 201 0 clN).2) 0)) (((fxN tc zl 201 0 clN).2) 3) (((fxN tc zl 201 0 clN).2) 4), (fq 0, .inl (cI, 4, .inl (fun z_ => nI (te2 z_)))), (fq 1, .inl (cI, 4, .inl (fun z_ => nI (ps2 z_)))), (fq 2, .inl (cI, 4, .inl (fun z_ => nI (pu2 z_)))), (fq 3, .inl (cI, 4, .inl (fun z_ => nI (sd2 z_)))), (fq 4, .inl (cI, 8, .inl (fun z_ => nI (cj2 z_)))), (fq 5, .inl (cI, 5, .inl (fun z_ => nI (ta2 z_)))), bO b bq fi hd td tn, (bq 0, .inl (cI, 4, .inl (fun z_ => nI (up z_)))), (bq 1, .inl (cI, 4, .inl (fun z_ => nI (st z_)))), (bq 2, .inl (cI, 12, .inl (fun z_ => nI (ex z_)))), (bq 3, .inl (cI, 12, .inl (fun z_ => nI (tl z_)))), (bq 4, .inl (cI, 12, .inl (fun z_ => nI (he z_)))), (bq 5, .inl (cI, 12, .inl (fun z_ => nI (dy z_)))), (bq 6, .inl (cI, 12, .inl (fun z_ => nI (se z_)))), gO xg gq zms, sO xu uq zn zc, sO xk kq kn kc]) ∨ (∃ p2 : Nat, ∃ t2 : Nat → Nat, ∃ te2 : Nat → Nat, ∃ ps2 : Nat → Nat, ∃ pu2 : Nat → Nat, ∃ sd2 : Nat → Nat, ∃ cj2 : Nat → Nat, ∃ ta2 : Nat → Nat, (lyB (fxN tc zl 201 0 clN) = true) ∧ (PlR (fxN tc zl 201 0 clN).2 te2 ps2 pu2 sd2 cj2 ta2) ∧ (BoR (fxN tc zl 201 0 clN).2 (stN (fxN tc zl 201 0 clN).2) pu2 ps2 ex tl he dy se 0) ∧ r = nI ((fxN tc zl 201 0 clN).2 0) ∧ u = [(o, .inr (6, [.ref xt, .ref xg, .ref xu, .ref xk, .ref b, .ref xd, .ref xe, .ref xf, .ref a])), tO xt tq zl p2, (tq 0, .inl (cC, 200, .inl (fun z_ => nI (tc z_)))), (tq 1, .inl (cI, 4, .inl (fun z_ => nI (t2 z_)))), pO xf fq (((fxN tc zl 201 0 clN).2) 0) (((fxN tc zl 201 0 clN).2) 2) (((fxN tc zl 201 0 clN).2) 1) (szN ((fxN tc zl 201 0 clN).2) (((fxN tc zl 201 0 clN).2) 0)) (((fxN tc zl 201 0 clN).2) 3) (((fxN tc zl 201 0 clN).2) 4), (fq 0, .inl (cI, 4, .inl (fun z_ => nI (te2 z_)))), (fq 1, .inl (cI, 4, .inl (fun z_ => nI (ps2 z_)))), (fq 2, .inl (cI, 4, .inl (fun z_ => nI (pu2 z_)))), (fq 3, .inl (cI, 4, .inl (fun z_ => nI (sd2 z_)))), (fq 4, .inl (cI, 8, .inl (fun z_ => nI (cj2 z_)))), (fq 5, .inl (cI, 5, .inl (fun z_ => nI (ta2 z_)))), bO b bq 0 0 0 0, (bq 0, .inl (cI, 4, .inl (fun z_ => nI (pu2 z_)))), (bq 1, .inl (cI, 4, .inl (fun z_ => nI (ps2 z_)))), (bq 2, .inl (cI, 12, .inl (fun z_ => nI (ex z_)))), (bq 3, .inl (cI, 12, .inl (fun z_ => nI (tl z_)))), (bq 4, .inl (cI, 12, .inl (fun z_ => nI (he z_)))), (bq 5, .inl (cI, 12, .inl (fun z_ => nI (dy z_)))), (bq 6, .inl (cI, 12, .inl (fun z_ => nI (se z_)))), gO xg gq 0, sO xu uq zn 0, sO xk kq kn 0])) := by
  intro sz
  refine MI.walk (by decide +kernel) (Nat.le_of_ble_eq_true rfl) ?_
  intro p e s m args below meth c A Qf hx hb hml hts hown hret hK hP hD hS hA ls hl
  have hown : s.vm.findClass RX6 = some m.cls := hown
  have hl : lv_has ls 2 [(0, .ref o)] := hl
  have hP : va_P D vwCl [(o, .inr (6, [.ref xt, .ref xg, .ref xu, .ref xk, .ref b, .ref xd, .ref xe, .ref a, .ref xf])), tO xt tq zl zp, (tq 0, .inl (cC, 200, .inl (fun z_ => nI (tc z_)))), (tq 1, .inl (cI, 4, .inl (fun z_ => nI (nu z_)))), pO xf fq f0 f1 f2 f3 f4 f5, (fq 0, .inl (cI, 4, .inl (fun z_ => nI (fa z_)))), (fq 1, .inl (cI, 4, .inl (fun z_ => nI (fb z_)))), (fq 2, .inl (cI, 4, .inl (fun z_ => nI (fc z_)))), (fq 3, .inl (cI, 4, .inl (fun z_ => nI (fd z_)))), (fq 4, .inl (cI, 8, .inl (fun z_ => nI (fe z_)))), (fq 5, .inl (cI, 5, .inl (fun z_ => nI (ff z_)))), bO b bq fi hd td tn, (bq 0, .inl (cI, 4, .inl (fun z_ => nI (up z_)))), (bq 1, .inl (cI, 4, .inl (fun z_ => nI (st z_)))), (bq 2, .inl (cI, 12, .inl (fun z_ => nI (ex z_)))), (bq 3, .inl (cI, 12, .inl (fun z_ => nI (tl z_)))), (bq 4, .inl (cI, 12, .inl (fun z_ => nI (he z_)))), (bq 5, .inl (cI, 12, .inl (fun z_ => nI (dy z_)))), (bq 6, .inl (cI, 12, .inl (fun z_ => nI (se z_)))), gO xg gq zms, sO xu uq zn zc, sO xk kq kn kc] s.heap := hP
  have hD : va_D A [(o, .inr (6, [.ref xt, .ref xg, .ref xu, .ref xk, .ref b, .ref xd, .ref xe, .ref a, .ref xf])), tO xt tq zl zp, (tq 0, .inl (cC, 200, .inl (fun z_ => nI (tc z_)))), (tq 1, .inl (cI, 4, .inl (fun z_ => nI (nu z_)))), pO xf fq f0 f1 f2 f3 f4 f5, (fq 0, .inl (cI, 4, .inl (fun z_ => nI (fa z_)))), (fq 1, .inl (cI, 4, .inl (fun z_ => nI (fb z_)))), (fq 2, .inl (cI, 4, .inl (fun z_ => nI (fc z_)))), (fq 3, .inl (cI, 4, .inl (fun z_ => nI (fd z_)))), (fq 4, .inl (cI, 8, .inl (fun z_ => nI (fe z_)))), (fq 5, .inl (cI, 5, .inl (fun z_ => nI (ff z_)))), bO b bq fi hd td tn, (bq 0, .inl (cI, 4, .inl (fun z_ => nI (up z_)))), (bq 1, .inl (cI, 4, .inl (fun z_ => nI (st z_)))), (bq 2, .inl (cI, 12, .inl (fun z_ => nI (ex z_)))), (bq 3, .inl (cI, 12, .inl (fun z_ => nI (tl z_)))), (bq 4, .inl (cI, 12, .inl (fun z_ => nI (he z_)))), (bq 5, .inl (cI, 12, .inl (fun z_ => nI (dy z_)))), (bq 6, .inl (cI, 12, .inl (fun z_ => nI (se z_)))), gO xg gq zms, sO xu uq zn zc, sO xk kq kn kc] := hD
  refine lv_aload_n hx hb dX6_lay_0 rfl (lv_at hl 0 rfl) ?_
  refine gf_6_12 hx hb hts hown hK hP 0 rfl rfl dX6_lay_1 ?_
  refine lv_aload_n hx hb dX6_lay_4 rfl (lv_at hl 0 rfl) ?_
  refine gf_6_59 hx hb hts hown hK hP 0 rfl rfl dX6_lay_5 ?_
  refine cl_6_78 (As := [.ref xf]) (rest := []) hx hb hml hts hown (k_X5_readInto (by first | assumption | omega) (by first | assumption | omega)) (by decide) ⟨Nat.zero_le _, Nat.zero_le _⟩ hK hP hD hS hA 1 rfl [1, 2, 3, 4, 5, 6, 7, 8, 9, 10] rfl (by decide) rfl hl.1 rfl (Nat.le_of_ble_eq_true rfl) dX6_lay_8 (fun r_1 u H locs hp_2 hP hD hS => ?_)
  obtain ⟨z_3, z_4, z_5, z_6, z_7, z_8, z_9, z_10, hq_11, rfl, rfl⟩ := hp_2
  dsimp only [putAll, List.set] at hP hD
  have hP : va_P D vwCl [(o, .inr (6, [.ref xt, .ref xg, .ref xu, .ref xk, .ref b, .ref xd, .ref xe, .ref a, .ref xf])), tO xt tq zl z_3, (tq 0, .inl (cC, 200, .inl (fun z_ => nI (tc z_)))), (tq 1, .inl (cI, 4, .inl (fun z_ => nI (z_4 z_)))), pO xf fq (((fxN tc zl 201 0 clN).2) 0) (((fxN tc zl 201 0 clN).2) 2) (((fxN tc zl 201 0 clN).2) 1) (szN ((fxN tc zl 201 0 clN).2) (((fxN tc zl 201 0 clN).2) 0)) (((fxN tc zl 201 0 clN).2) 3) (((fxN tc zl 201 0 clN).2) 4), (fq 0, .inl (cI, 4, .inl (fun z_ => nI (z_5 z_)))), (fq 1, .inl (cI, 4, .inl (fun z_ => nI (z_6 z_)))), (fq 2, .inl (cI, 4, .inl (fun z_ => nI (z_7 z_)))), (fq 3, .inl (cI, 4, .inl (fun z_ => nI (z_8 z_)))), (fq 4, .inl (cI, 8, .inl (fun z_ => nI (z_9 z_)))), (fq 5, .inl (cI, 5, .inl (fun z_ => nI (z_10 z_)))), bO b bq fi hd td tn, (bq 0, .inl (cI, 4, .inl (fun z_ => nI (up z_)))), (bq 1, .inl (cI, 4, .inl (fun z_ => nI (st z_)))), (bq 2, .inl (cI, 12, .inl (fun z_ => nI (ex z_)))), (bq 3, .inl (cI, 12, .inl (fun z_ => nI (tl z_)))), (bq 4, .inl (cI, 12, .inl (fun z_ => nI (he z_)))), (bq 5, .inl (cI, 12, .inl (fun z_ => nI (dy z_)))), (bq 6, .inl (cI, 12, .inl (fun z_ => nI (se z_)))), gO xg gq zms, sO xu uq zn zc, sO xk kq kn kc] _ := hP
  have hD : va_D A [(o, .inr (6, [.ref xt, .ref xg, .ref xu, .ref xk, .ref b, .ref xd, .ref xe, .ref a, .ref xf])), tO xt tq zl z_3, (tq 0, .inl (cC, 200, .inl (fun z_ => nI (tc z_)))), (tq 1, .inl (cI, 4, .inl (fun z_ => nI (z_4 z_)))), pO xf fq (((fxN tc zl 201 0 clN).2) 0) (((fxN tc zl 201 0 clN).2) 2) (((fxN tc zl 201 0 clN).2) 1) (szN ((fxN tc zl 201 0 clN).2) (((fxN tc zl 201 0 clN).2) 0)) (((fxN tc zl 201 0 clN).2) 3) (((fxN tc zl 201 0 clN).2) 4), (fq 0, .inl (cI, 4, .inl (fun z_ => nI (z_5 z_)))), (fq 1, .inl (cI, 4, .inl (fun z_ => nI (z_6 z_)))), (fq 2, .inl (cI, 4, .inl (fun z_ => nI (z_7 z_)))), (fq 3, .inl (cI, 4, .inl (fun z_ => nI (z_8 z_)))), (fq 4, .inl (cI, 8, .inl (fun z_ => nI (z_9 z_)))), (fq 5, .inl (cI, 5, .inl (fun z_ => nI (z_10 z_)))), bO b bq fi hd td tn, (bq 0, .inl (cI, 4, .inl (fun z_ => nI (up z_)))), (bq 1, .inl (cI, 4, .inl (fun z_ => nI (st z_)))), (bq 2, .inl (cI, 12, .inl (fun z_ => nI (ex z_)))), (bq 3, .inl (cI, 12, .inl (fun z_ => nI (tl z_)))), (bq 4, .inl (cI, 12, .inl (fun z_ => nI (he z_)))), (bq 5, .inl (cI, 12, .inl (fun z_ => nI (dy z_)))), (bq 6, .inl (cI, 12, .inl (fun z_ => nI (se z_)))), gO xg gq zms, sO xu uq zn zc, sO xk kq kn kc] := hD
  have hpw_q := hq_11
  have hbd_q := hpw_q.1.bd 0
  refine lv_bipush (v := (-4)) hx hb dX6_lay_11 (by decide) ?_
  refine lv_icmp_ne (tgt := 26) hx hb dX6_lay_13 (by decide) (fun c_12 => ?_) (fun c_12 => ?_)
  · -- 13 to 26
    refine lv_bipush (v := (-2)) hx hb dX6_lay_26 (by decide) ?_
    refine hret hP hD hS dX6_lay_28 rfl rfl ?_
    exact Or.inl ⟨_, _, z_5, z_6, z_7, z_8, z_9, z_10, by simp [lyB, c_12], rfl, rfl⟩
  · -- 13 to 16
    refine lv_aload_n hx hb dX6_lay_16 rfl (lv_at hl 0 rfl) ?_
    refine gf_6_59 hx hb hts hown hK hP 0 rfl rfl dX6_lay_17 ?_
    refine gf_6_92 hx hb hts hown hK hP 4 rfl rfl dX6_lay_20 ?_
    refine n_if_ne (tgt := 29) hx hb dX6_lay_23 (by decide) (by omega) (fun c_13 => ?_) (fun c_13 => ?_)
    · -- 23 to 29
      refine lv_aload_n hx hb dX6_lay_29 rfl (lv_at hl 0 rfl) ?_
      refine gf_6_55 hx hb hts hown hK hP 0 rfl rfl dX6_lay_30 ?_
      refine lv_astore_n (lv' := [(1, .ref a), (0, .ref o)]) hx hb dX6_lay_33 rfl hl (by decide) rfl (fun ls hl => ?_)
      refine lv_aload_n hx hb dX6_lay_34 rfl (lv_at hl 1 rfl) ?_
      refine lv_aload_n hx hb dX6_lay_35 rfl (lv_at hl 1 rfl) ?_
      refine gf_6_59 hx hb hts hown hK hP 0 rfl rfl dX6_lay_36 ?_
      refine pf_6_55 hx hb hts hown hK hP hD hS 0 rfl (Nat.le_of_ble_eq_true rfl) dX6_lay_39 (fun H locs hP hD hS => ?_)
      have hP : va_P D vwCl [(o, .inr (6, [.ref xt, .ref xg, .ref xu, .ref xk, .ref b, .ref xd, .ref xe, .ref xf, .ref xf])), tO xt tq zl z_3, (tq 0, .inl (cC, 200, .inl (fun z_ => nI (tc z_)))), (tq 1, .inl (cI, 4, .inl (fun z_ => nI (z_4 z_)))), pO xf fq (((fxN tc zl 201 0 clN).2) 0) (((fxN tc zl 201 0 clN).2) 2) (((fxN tc zl 201 0 clN).2) 1) (szN ((fxN tc zl 201 0 clN).2) (((fxN tc zl 201 0 clN).2) 0)) (((fxN tc zl 201 0 clN).2) 3) (((fxN tc zl 201 0 clN).2) 4), (fq 0, .inl (cI, 4, .inl (fun z_ => nI (z_5 z_)))), (fq 1, .inl (cI, 4, .inl (fun z_ => nI (z_6 z_)))), (fq 2, .inl (cI, 4, .inl (fun z_ => nI (z_7 z_)))), (fq 3, .inl (cI, 4, .inl (fun z_ => nI (z_8 z_)))), (fq 4, .inl (cI, 8, .inl (fun z_ => nI (z_9 z_)))), (fq 5, .inl (cI, 5, .inl (fun z_ => nI (z_10 z_)))), bO b bq fi hd td tn, (bq 0, .inl (cI, 4, .inl (fun z_ => nI (up z_)))), (bq 1, .inl (cI, 4, .inl (fun z_ => nI (st z_)))), (bq 2, .inl (cI, 12, .inl (fun z_ => nI (ex z_)))), (bq 3, .inl (cI, 12, .inl (fun z_ => nI (tl z_)))), (bq 4, .inl (cI, 12, .inl (fun z_ => nI (he z_)))), (bq 5, .inl (cI, 12, .inl (fun z_ => nI (dy z_)))), (bq 6, .inl (cI, 12, .inl (fun z_ => nI (se z_)))), gO xg gq zms, sO xu uq zn zc, sO xk kq kn kc] _ := hP
      have hD : va_D A [(o, .inr (6, [.ref xt, .ref xg, .ref xu, .ref xk, .ref b, .ref xd, .ref xe, .ref xf, .ref xf])), tO xt tq zl z_3, (tq 0, .inl (cC, 200, .inl (fun z_ => nI (tc z_)))), (tq 1, .inl (cI, 4, .inl (fun z_ => nI (z_4 z_)))), pO xf fq (((fxN tc zl 201 0 clN).2) 0) (((fxN tc zl 201 0 clN).2) 2) (((fxN tc zl 201 0 clN).2) 1) (szN ((fxN tc zl 201 0 clN).2) (((fxN tc zl 201 0 clN).2) 0)) (((fxN tc zl 201 0 clN).2) 3) (((fxN tc zl 201 0 clN).2) 4), (fq 0, .inl (cI, 4, .inl (fun z_ => nI (z_5 z_)))), (fq 1, .inl (cI, 4, .inl (fun z_ => nI (z_6 z_)))), (fq 2, .inl (cI, 4, .inl (fun z_ => nI (z_7 z_)))), (fq 3, .inl (cI, 4, .inl (fun z_ => nI (z_8 z_)))), (fq 4, .inl (cI, 8, .inl (fun z_ => nI (z_9 z_)))), (fq 5, .inl (cI, 5, .inl (fun z_ => nI (z_10 z_)))), bO b bq fi hd td tn, (bq 0, .inl (cI, 4, .inl (fun z_ => nI (up z_)))), (bq 1, .inl (cI, 4, .inl (fun z_ => nI (st z_)))), (bq 2, .inl (cI, 12, .inl (fun z_ => nI (ex z_)))), (bq 3, .inl (cI, 12, .inl (fun z_ => nI (tl z_)))), (bq 4, .inl (cI, 12, .inl (fun z_ => nI (he z_)))), (bq 5, .inl (cI, 12, .inl (fun z_ => nI (dy z_)))), (bq 6, .inl (cI, 12, .inl (fun z_ => nI (se z_)))), gO xg gq zms, sO xu uq zn zc, sO xk kq kn kc] := hD
      refine lv_aload_n hx hb dX6_lay_42 rfl (lv_at hl 1 rfl) ?_
      refine lv_aload_n hx hb dX6_lay_43 rfl (lv_at hl 0 rfl) ?_
      refine pf_6_59 hx hb hts hown hK hP hD hS 0 rfl (Nat.le_of_ble_eq_true rfl) dX6_lay_44 (fun H locs hP hD hS => ?_)
      have hP : va_P D vwCl [(o, .inr (6, [.ref xt, .ref xg, .ref xu, .ref xk, .ref b, .ref xd, .ref xe, .ref xf, .ref a])), tO xt tq zl z_3, (tq 0, .inl (cC, 200, .inl (fun z_ => nI (tc z_)))), (tq 1, .inl (cI, 4, .inl (fun z_ => nI (z_4 z_)))), pO xf fq (((fxN tc zl 201 0 clN).2) 0) (((fxN tc zl 201 0 clN).2) 2) (((fxN tc zl 201 0 clN).2) 1) (szN ((fxN tc zl 201 0 clN).2) (((fxN tc zl 201 0 clN).2) 0)) (((fxN tc zl 201 0 clN).2) 3) (((fxN tc zl 201 0 clN).2) 4), (fq 0, .inl (cI, 4, .inl (fun z_ => nI (z_5 z_)))), (fq 1, .inl (cI, 4, .inl (fun z_ => nI (z_6 z_)))), (fq 2, .inl (cI, 4, .inl (fun z_ => nI (z_7 z_)))), (fq 3, .inl (cI, 4, .inl (fun z_ => nI (z_8 z_)))), (fq 4, .inl (cI, 8, .inl (fun z_ => nI (z_9 z_)))), (fq 5, .inl (cI, 5, .inl (fun z_ => nI (z_10 z_)))), bO b bq fi hd td tn, (bq 0, .inl (cI, 4, .inl (fun z_ => nI (up z_)))), (bq 1, .inl (cI, 4, .inl (fun z_ => nI (st z_)))), (bq 2, .inl (cI, 12, .inl (fun z_ => nI (ex z_)))), (bq 3, .inl (cI, 12, .inl (fun z_ => nI (tl z_)))), (bq 4, .inl (cI, 12, .inl (fun z_ => nI (he z_)))), (bq 5, .inl (cI, 12, .inl (fun z_ => nI (dy z_)))), (bq 6, .inl (cI, 12, .inl (fun z_ => nI (se z_)))), gO xg gq zms, sO xu uq zn zc, sO xk kq kn kc] _ := hP
      have hD : va_D A [(o, .inr (6, [.ref xt, .ref xg, .ref xu, .ref xk, .ref b, .ref xd, .ref xe, .ref xf, .ref a])), tO xt tq zl z_3, (tq 0, .inl (cC, 200, .inl (fun z_ => nI (tc z_)))), (tq 1, .inl (cI, 4, .inl (fun z_ => nI (z_4 z_)))), pO xf fq (((fxN tc zl 201 0 clN).2) 0) (((fxN tc zl 201 0 clN).2) 2) (((fxN tc zl 201 0 clN).2) 1) (szN ((fxN tc zl 201 0 clN).2) (((fxN tc zl 201 0 clN).2) 0)) (((fxN tc zl 201 0 clN).2) 3) (((fxN tc zl 201 0 clN).2) 4), (fq 0, .inl (cI, 4, .inl (fun z_ => nI (z_5 z_)))), (fq 1, .inl (cI, 4, .inl (fun z_ => nI (z_6 z_)))), (fq 2, .inl (cI, 4, .inl (fun z_ => nI (z_7 z_)))), (fq 3, .inl (cI, 4, .inl (fun z_ => nI (z_8 z_)))), (fq 4, .inl (cI, 8, .inl (fun z_ => nI (z_9 z_)))), (fq 5, .inl (cI, 5, .inl (fun z_ => nI (z_10 z_)))), bO b bq fi hd td tn, (bq 0, .inl (cI, 4, .inl (fun z_ => nI (up z_)))), (bq 1, .inl (cI, 4, .inl (fun z_ => nI (st z_)))), (bq 2, .inl (cI, 12, .inl (fun z_ => nI (ex z_)))), (bq 3, .inl (cI, 12, .inl (fun z_ => nI (tl z_)))), (bq 4, .inl (cI, 12, .inl (fun z_ => nI (he z_)))), (bq 5, .inl (cI, 12, .inl (fun z_ => nI (dy z_)))), (bq 6, .inl (cI, 12, .inl (fun z_ => nI (se z_)))), gO xg gq zms, sO xu uq zn zc, sO xk kq kn kc] := hD
      refine lv_aload_n hx hb dX6_lay_47 rfl (lv_at hl 1 rfl) ?_
      refine gf_6_38 hx hb hts hown hK hP 0 rfl rfl dX6_lay_48 ?_
      refine lv_aload_n hx hb dX6_lay_51 rfl (lv_at hl 1 rfl) ?_
      refine gf_6_55 hx hb hts hown hK hP 0 rfl rfl dX6_lay_52 ?_
      refine cl_6_82 (As := [.ref xf]) (rest := []) hx hb hml hts hown (k_X0_begin ) (by decide) ⟨Nat.zero_le _, Nat.zero_le _⟩ hK hP hD hS hA 11 rfl [11, 12, 13, 14, 15, 16, 17, 18, 4, 5, 6, 7, 8, 9, 10] rfl (by decide) rfl hl.1 rfl (Nat.le_of_ble_eq_true rfl) dX6_lay_55 (fun  u H locs hp_14 hP hD hS => ?_)
      subst hp_14
      dsimp only [putAll, List.set] at hP hD
      have hP : va_P D vwCl [(o, .inr (6, [.ref xt, .ref xg, .ref xu, .ref xk, .ref b, .ref xd, .ref xe, .ref xf, .ref a])), tO xt tq zl z_3, (tq 0, .inl (cC, 200, .inl (fun z_ => nI (tc z_)))), (tq 1, .inl (cI, 4, .inl (fun z_ => nI (z_4 z_)))), pO xf fq ((fxN tc zl 201 0 clN).2 0) ((fxN tc zl 201 0 clN).2 2) ((fxN tc zl 201 0 clN).2 1) (szN (fxN tc zl 201 0 clN).2 ((fxN tc zl 201 0 clN).2 0)) ((fxN tc zl 201 0 clN).2 3) ((fxN tc zl 201 0 clN).2 4), (fq 0, .inl (cI, 4, .inl (fun z_ => nI (z_5 z_)))), (fq 1, .inl (cI, 4, .inl (fun z_ => nI (z_6 z_)))), (fq 2, .inl (cI, 4, .inl (fun z_ => nI (z_7 z_)))), (fq 3, .inl (cI, 4, .inl (fun z_ => nI (z_8 z_)))), (fq 4, .inl (cI, 8, .inl (fun z_ => nI (z_9 z_)))), (fq 5, .inl (cI, 5, .inl (fun z_ => nI (z_10 z_)))), bO b bq 0 0 0 0, (bq 0, .inl (cI, 4, .inl (fun z_ => nI (z_7 z_)))), (bq 1, .inl (cI, 4, .inl (fun z_ => nI (z_6 z_)))), (bq 2, .inl (cI, 12, .inl (fun z_ => nI (ex z_)))), (bq 3, .inl (cI, 12, .inl (fun z_ => nI (tl z_)))), (bq 4, .inl (cI, 12, .inl (fun z_ => nI (he z_)))), (bq 5, .inl (cI, 12, .inl (fun z_ => nI (dy z_)))), (bq 6, .inl (cI, 12, .inl (fun z_ => nI (se z_)))), gO xg gq zms, sO xu uq zn zc, sO xk kq kn kc] _ := hP
      have hD : va_D A [(o, .inr (6, [.ref xt, .ref xg, .ref xu, .ref xk, .ref b, .ref xd, .ref xe, .ref xf, .ref a])), tO xt tq zl z_3, (tq 0, .inl (cC, 200, .inl (fun z_ => nI (tc z_)))), (tq 1, .inl (cI, 4, .inl (fun z_ => nI (z_4 z_)))), pO xf fq ((fxN tc zl 201 0 clN).2 0) ((fxN tc zl 201 0 clN).2 2) ((fxN tc zl 201 0 clN).2 1) (szN (fxN tc zl 201 0 clN).2 ((fxN tc zl 201 0 clN).2 0)) ((fxN tc zl 201 0 clN).2 3) ((fxN tc zl 201 0 clN).2 4), (fq 0, .inl (cI, 4, .inl (fun z_ => nI (z_5 z_)))), (fq 1, .inl (cI, 4, .inl (fun z_ => nI (z_6 z_)))), (fq 2, .inl (cI, 4, .inl (fun z_ => nI (z_7 z_)))), (fq 3, .inl (cI, 4, .inl (fun z_ => nI (z_8 z_)))), (fq 4, .inl (cI, 8, .inl (fun z_ => nI (z_9 z_)))), (fq 5, .inl (cI, 5, .inl (fun z_ => nI (z_10 z_)))), bO b bq 0 0 0 0, (bq 0, .inl (cI, 4, .inl (fun z_ => nI (z_7 z_)))), (bq 1, .inl (cI, 4, .inl (fun z_ => nI (z_6 z_)))), (bq 2, .inl (cI, 12, .inl (fun z_ => nI (ex z_)))), (bq 3, .inl (cI, 12, .inl (fun z_ => nI (tl z_)))), (bq 4, .inl (cI, 12, .inl (fun z_ => nI (he z_)))), (bq 5, .inl (cI, 12, .inl (fun z_ => nI (dy z_)))), (bq 6, .inl (cI, 12, .inl (fun z_ => nI (se z_)))), gO xg gq zms, sO xu uq zn zc, sO xk kq kn kc] := hD
      refine lv_aload_n hx hb dX6_lay_58 rfl (lv_at hl 1 rfl) ?_
      refine gf_6_19 hx hb hts hown hK hP 0 rfl rfl dX6_lay_59 ?_
      refine lv_iconst (v := nI 0) hx hb dX6_lay_62 (by decide) ?_
      refine pf_6_95 hx hb hts hown hK hP hD hS 19 rfl (Nat.le_of_ble_eq_true rfl) dX6_lay_63 (fun H locs hP hD hS => ?_)
      have hP : va_P D vwCl [(o, .inr (6, [.ref xt, .ref xg, .ref xu, .ref xk, .ref b, .ref xd, .ref xe, .ref xf, .ref a])), tO xt tq zl z_3, (tq 0, .inl (cC, 200, .inl (fun z_ => nI (tc z_)))), (tq 1, .inl (cI, 4, .inl (fun z_ => nI (z_4 z_)))), pO xf fq ((fxN tc zl 201 0 clN).2 0) ((fxN tc zl 201 0 clN).2 2) ((fxN tc zl 201 0 clN).2 1) (szN (fxN tc zl 201 0 clN).2 ((fxN tc zl 201 0 clN).2 0)) ((fxN tc zl 201 0 clN).2 3) ((fxN tc zl 201 0 clN).2 4), (fq 0, .inl (cI, 4, .inl (fun z_ => nI (z_5 z_)))), (fq 1, .inl (cI, 4, .inl (fun z_ => nI (z_6 z_)))), (fq 2, .inl (cI, 4, .inl (fun z_ => nI (z_7 z_)))), (fq 3, .inl (cI, 4, .inl (fun z_ => nI (z_8 z_)))), (fq 4, .inl (cI, 8, .inl (fun z_ => nI (z_9 z_)))), (fq 5, .inl (cI, 5, .inl (fun z_ => nI (z_10 z_)))), bO b bq 0 0 0 0, (bq 0, .inl (cI, 4, .inl (fun z_ => nI (z_7 z_)))), (bq 1, .inl (cI, 4, .inl (fun z_ => nI (z_6 z_)))), (bq 2, .inl (cI, 12, .inl (fun z_ => nI (ex z_)))), (bq 3, .inl (cI, 12, .inl (fun z_ => nI (tl z_)))), (bq 4, .inl (cI, 12, .inl (fun z_ => nI (he z_)))), (bq 5, .inl (cI, 12, .inl (fun z_ => nI (dy z_)))), (bq 6, .inl (cI, 12, .inl (fun z_ => nI (se z_)))), gO xg gq 0, sO xu uq zn zc, sO xk kq kn kc] _ := hP
      have hD : va_D A [(o, .inr (6, [.ref xt, .ref xg, .ref xu, .ref xk, .ref b, .ref xd, .ref xe, .ref xf, .ref a])), tO xt tq zl z_3, (tq 0, .inl (cC, 200, .inl (fun z_ => nI (tc z_)))), (tq 1, .inl (cI, 4, .inl (fun z_ => nI (z_4 z_)))), pO xf fq ((fxN tc zl 201 0 clN).2 0) ((fxN tc zl 201 0 clN).2 2) ((fxN tc zl 201 0 clN).2 1) (szN (fxN tc zl 201 0 clN).2 ((fxN tc zl 201 0 clN).2 0)) ((fxN tc zl 201 0 clN).2 3) ((fxN tc zl 201 0 clN).2 4), (fq 0, .inl (cI, 4, .inl (fun z_ => nI (z_5 z_)))), (fq 1, .inl (cI, 4, .inl (fun z_ => nI (z_6 z_)))), (fq 2, .inl (cI, 4, .inl (fun z_ => nI (z_7 z_)))), (fq 3, .inl (cI, 4, .inl (fun z_ => nI (z_8 z_)))), (fq 4, .inl (cI, 8, .inl (fun z_ => nI (z_9 z_)))), (fq 5, .inl (cI, 5, .inl (fun z_ => nI (z_10 z_)))), bO b bq 0 0 0 0, (bq 0, .inl (cI, 4, .inl (fun z_ => nI (z_7 z_)))), (bq 1, .inl (cI, 4, .inl (fun z_ => nI (z_6 z_)))), (bq 2, .inl (cI, 12, .inl (fun z_ => nI (ex z_)))), (bq 3, .inl (cI, 12, .inl (fun z_ => nI (tl z_)))), (bq 4, .inl (cI, 12, .inl (fun z_ => nI (he z_)))), (bq 5, .inl (cI, 12, .inl (fun z_ => nI (dy z_)))), (bq 6, .inl (cI, 12, .inl (fun z_ => nI (se z_)))), gO xg gq 0, sO xu uq zn zc, sO xk kq kn kc] := hD
      refine lv_aload_n hx hb dX6_lay_66 rfl (lv_at hl 1 rfl) ?_
      refine gf_6_28 hx hb hts hown hK hP 0 rfl rfl dX6_lay_67 ?_
      refine lv_iconst (v := nI 0) hx hb dX6_lay_70 (by decide) ?_
      refine pf_6_98 hx hb hts hown hK hP hD hS 20 rfl (Nat.le_of_ble_eq_true rfl) dX6_lay_71 (fun H locs hP hD hS => ?_)
      have hP : va_P D vwCl [(o, .inr (6, [.ref xt, .ref xg, .ref xu, .ref xk, .ref b, .ref xd, .ref xe, .ref xf, .ref a])), tO xt tq zl z_3, (tq 0, .inl (cC, 200, .inl (fun z_ => nI (tc z_)))), (tq 1, .inl (cI, 4, .inl (fun z_ => nI (z_4 z_)))), pO xf fq ((fxN tc zl 201 0 clN).2 0) ((fxN tc zl 201 0 clN).2 2) ((fxN tc zl 201 0 clN).2 1) (szN (fxN tc zl 201 0 clN).2 ((fxN tc zl 201 0 clN).2 0)) ((fxN tc zl 201 0 clN).2 3) ((fxN tc zl 201 0 clN).2 4), (fq 0, .inl (cI, 4, .inl (fun z_ => nI (z_5 z_)))), (fq 1, .inl (cI, 4, .inl (fun z_ => nI (z_6 z_)))), (fq 2, .inl (cI, 4, .inl (fun z_ => nI (z_7 z_)))), (fq 3, .inl (cI, 4, .inl (fun z_ => nI (z_8 z_)))), (fq 4, .inl (cI, 8, .inl (fun z_ => nI (z_9 z_)))), (fq 5, .inl (cI, 5, .inl (fun z_ => nI (z_10 z_)))), bO b bq 0 0 0 0, (bq 0, .inl (cI, 4, .inl (fun z_ => nI (z_7 z_)))), (bq 1, .inl (cI, 4, .inl (fun z_ => nI (z_6 z_)))), (bq 2, .inl (cI, 12, .inl (fun z_ => nI (ex z_)))), (bq 3, .inl (cI, 12, .inl (fun z_ => nI (tl z_)))), (bq 4, .inl (cI, 12, .inl (fun z_ => nI (he z_)))), (bq 5, .inl (cI, 12, .inl (fun z_ => nI (dy z_)))), (bq 6, .inl (cI, 12, .inl (fun z_ => nI (se z_)))), gO xg gq 0, sO xu uq zn 0, sO xk kq kn kc] _ := hP
      have hD : va_D A [(o, .inr (6, [.ref xt, .ref xg, .ref xu, .ref xk, .ref b, .ref xd, .ref xe, .ref xf, .ref a])), tO xt tq zl z_3, (tq 0, .inl (cC, 200, .inl (fun z_ => nI (tc z_)))), (tq 1, .inl (cI, 4, .inl (fun z_ => nI (z_4 z_)))), pO xf fq ((fxN tc zl 201 0 clN).2 0) ((fxN tc zl 201 0 clN).2 2) ((fxN tc zl 201 0 clN).2 1) (szN (fxN tc zl 201 0 clN).2 ((fxN tc zl 201 0 clN).2 0)) ((fxN tc zl 201 0 clN).2 3) ((fxN tc zl 201 0 clN).2 4), (fq 0, .inl (cI, 4, .inl (fun z_ => nI (z_5 z_)))), (fq 1, .inl (cI, 4, .inl (fun z_ => nI (z_6 z_)))), (fq 2, .inl (cI, 4, .inl (fun z_ => nI (z_7 z_)))), (fq 3, .inl (cI, 4, .inl (fun z_ => nI (z_8 z_)))), (fq 4, .inl (cI, 8, .inl (fun z_ => nI (z_9 z_)))), (fq 5, .inl (cI, 5, .inl (fun z_ => nI (z_10 z_)))), bO b bq 0 0 0 0, (bq 0, .inl (cI, 4, .inl (fun z_ => nI (z_7 z_)))), (bq 1, .inl (cI, 4, .inl (fun z_ => nI (z_6 z_)))), (bq 2, .inl (cI, 12, .inl (fun z_ => nI (ex z_)))), (bq 3, .inl (cI, 12, .inl (fun z_ => nI (tl z_)))), (bq 4, .inl (cI, 12, .inl (fun z_ => nI (he z_)))), (bq 5, .inl (cI, 12, .inl (fun z_ => nI (dy z_)))), (bq 6, .inl (cI, 12, .inl (fun z_ => nI (se z_)))), gO xg gq 0, sO xu uq zn 0, sO xk kq kn kc] := hD
      refine lv_aload_n hx hb dX6_lay_74 rfl (lv_at hl 1 rfl) ?_
      refine gf_6_32 hx hb hts hown hK hP 0 rfl rfl dX6_lay_75 ?_
      refine lv_iconst (v := nI 0) hx hb dX6_lay_78 (by decide) ?_
      refine pf_6_98 hx hb hts hown hK hP hD hS 21 rfl (Nat.le_of_ble_eq_true rfl) dX6_lay_79 (fun H locs hP hD hS => ?_)
      have hP : va_P D vwCl [(o, .inr (6, [.ref xt, .ref xg, .ref xu, .ref xk, .ref b, .ref xd, .ref xe, .ref xf, .ref a])), tO xt tq zl z_3, (tq 0, .inl (cC, 200, .inl (fun z_ => nI (tc z_)))), (tq 1, .inl (cI, 4, .inl (fun z_ => nI (z_4 z_)))), pO xf fq ((fxN tc zl 201 0 clN).2 0) ((fxN tc zl 201 0 clN).2 2) ((fxN tc zl 201 0 clN).2 1) (szN (fxN tc zl 201 0 clN).2 ((fxN tc zl 201 0 clN).2 0)) ((fxN tc zl 201 0 clN).2 3) ((fxN tc zl 201 0 clN).2 4), (fq 0, .inl (cI, 4, .inl (fun z_ => nI (z_5 z_)))), (fq 1, .inl (cI, 4, .inl (fun z_ => nI (z_6 z_)))), (fq 2, .inl (cI, 4, .inl (fun z_ => nI (z_7 z_)))), (fq 3, .inl (cI, 4, .inl (fun z_ => nI (z_8 z_)))), (fq 4, .inl (cI, 8, .inl (fun z_ => nI (z_9 z_)))), (fq 5, .inl (cI, 5, .inl (fun z_ => nI (z_10 z_)))), bO b bq 0 0 0 0, (bq 0, .inl (cI, 4, .inl (fun z_ => nI (z_7 z_)))), (bq 1, .inl (cI, 4, .inl (fun z_ => nI (z_6 z_)))), (bq 2, .inl (cI, 12, .inl (fun z_ => nI (ex z_)))), (bq 3, .inl (cI, 12, .inl (fun z_ => nI (tl z_)))), (bq 4, .inl (cI, 12, .inl (fun z_ => nI (he z_)))), (bq 5, .inl (cI, 12, .inl (fun z_ => nI (dy z_)))), (bq 6, .inl (cI, 12, .inl (fun z_ => nI (se z_)))), gO xg gq 0, sO xu uq zn 0, sO xk kq kn 0] _ := hP
      have hD : va_D A [(o, .inr (6, [.ref xt, .ref xg, .ref xu, .ref xk, .ref b, .ref xd, .ref xe, .ref xf, .ref a])), tO xt tq zl z_3, (tq 0, .inl (cC, 200, .inl (fun z_ => nI (tc z_)))), (tq 1, .inl (cI, 4, .inl (fun z_ => nI (z_4 z_)))), pO xf fq ((fxN tc zl 201 0 clN).2 0) ((fxN tc zl 201 0 clN).2 2) ((fxN tc zl 201 0 clN).2 1) (szN (fxN tc zl 201 0 clN).2 ((fxN tc zl 201 0 clN).2 0)) ((fxN tc zl 201 0 clN).2 3) ((fxN tc zl 201 0 clN).2 4), (fq 0, .inl (cI, 4, .inl (fun z_ => nI (z_5 z_)))), (fq 1, .inl (cI, 4, .inl (fun z_ => nI (z_6 z_)))), (fq 2, .inl (cI, 4, .inl (fun z_ => nI (z_7 z_)))), (fq 3, .inl (cI, 4, .inl (fun z_ => nI (z_8 z_)))), (fq 4, .inl (cI, 8, .inl (fun z_ => nI (z_9 z_)))), (fq 5, .inl (cI, 5, .inl (fun z_ => nI (z_10 z_)))), bO b bq 0 0 0 0, (bq 0, .inl (cI, 4, .inl (fun z_ => nI (z_7 z_)))), (bq 1, .inl (cI, 4, .inl (fun z_ => nI (z_6 z_)))), (bq 2, .inl (cI, 12, .inl (fun z_ => nI (ex z_)))), (bq 3, .inl (cI, 12, .inl (fun z_ => nI (tl z_)))), (bq 4, .inl (cI, 12, .inl (fun z_ => nI (he z_)))), (bq 5, .inl (cI, 12, .inl (fun z_ => nI (dy z_)))), (bq 6, .inl (cI, 12, .inl (fun z_ => nI (se z_)))), gO xg gq 0, sO xu uq zn 0, sO xk kq kn 0] := hD
      refine lv_aload_n hx hb dX6_lay_82 rfl (lv_at hl 1 rfl) ?_
      refine gf_6_55 hx hb hts hown hK hP 0 rfl rfl dX6_lay_83 ?_
      refine gf_6_92 hx hb hts hown hK hP 4 rfl rfl dX6_lay_86 ?_
      refine hret hP hD hS dX6_lay_89 rfl rfl ?_
      have hpr_q := plw_r hpw_q (by omega)
      exact Or.inr ⟨_, _, z_5, z_6, z_7, z_8, z_9, z_10, by simp [lyB, c_12, c_13], hpr_q, bo_st hpr_q, rfl, rfl⟩
    · -- 23 to 26
      refine lv_bipush (v := (-2)) hx hb dX6_lay_26 (by decide) ?_
      refine hret hP hD hS dX6_lay_28 rfl rfl ?_
      exact Or.inl ⟨_, _, z_5, z_6, z_7, z_8, z_9, z_10, by simp [lyB, c_12, c_13], rfl, rfl⟩

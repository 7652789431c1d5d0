
theorem MC.walk {l : Launch} {y : MethodName} {b : ByteArray} {n k mc ms : Nat} {D : va_G} {TY : List (ClassId × FieldType)} {av : List Value} {ws : va_W} {E : EnvT} {post : va_W → Prop}
    (hy : plainName y.cls = true) (hs : (lg_sl av).length ≤ n)
    (body : ∀ (p : Program) (e : Env) (s : State) (m : MethodId) (args : Array Value) (below : List Frame) (meth : Method) (c : Code) (A : Nat → Prop) (Qf : State → Prop), p.tables.exec = Jvm.exec → c.code = b → c.maxLocals = n → (∀ w ∈ WALL, w.before args s = true) → s.vm.findClass y.cls = some m.cls → meth.name = y.name →
      (∀ {H : Heap} {locs : List Loc} {pc : Nat} {ls : Array Slot} {u : va_W}, va_P D vwCl u H → va_D A u → va_S A s.heap H locs → decode b pc = .ok (.return_, 1) → post u → W p l e (rmC k mc ms) s m args below meth c H locs mc ms Qf (F0 m pc ls [])) →
      va_K D vwCl TY s → va_P D vwCl ws s.heap → va_D A ws → va_S A s.heap s.heap [] → (∀ q : Nat, s.heap.size ≤ q → A q) → E A s s.heap →
      ∀ ls : Array Slot, lv_has ls n (lv_args 0 av) → W p l e (rmC k mc ms) s m args below meth c s.heap [] 0 0 Qf (F0 m 0 ls [])) :
    MC l y b n k mc ms D TY av ws E post := by
  refine MG.walk hy hs ?_
  intro p e s m below meth c A F hin hK hP hD hS hA hE ls hl
  obtain ⟨hx, hb, hr, hml, hts, hown, hlocks⟩ := F
  exact body p e s m av.toArray below meth c A _ hx hb hml hts hown hin (fun hP hD hS hdg hp => ret_c hx hb hr hlocks hK hP hD hS hdg hp) hK hP hD hS hA hE ls hl

set_option maxHeartbeats 8000000 in
set_option maxRecDepth 100000 in
theorem k_X5_init {l : Launch} {D : va_G} {cI cC cB : ClassId} {a_ : Nat} : MC l yX5_init cX5_init 1 1 2 204 D (Ty3 cI cC cB) [.ref a_] [(a_, .inr (5, [.null, .null, .int (nI (0)), .int (nI (0))]))] noE (fun u => ∃ q : Nat → Nat, u = [tO a_ q 0 0, (q 0, .inl (cC, 200, .inl (fun z_ => nI (zeF z_)))), (q 1, .inl (cI, 4, .inl (fun z_ => nI (zeF z_))))]) := by
  refine MC.walk (by decide +kernel) (Nat.le_of_ble_eq_true rfl) ?_
  intro p e s m args below meth c A Qf hx hb hml hts hown hin hret hK hP hD hS hA hE ls hl
  have hown : s.vm.findClass RX5 = some m.cls := hown
  have hl : lv_has ls 1 [(0, .ref a_)] := hl
  have hP : va_P D vwCl [(a_, .inr (5, [.null, .null, .int (nI (0)), .int (nI (0))]))] s.heap := hP
  have hD : va_D A [(a_, .inr (5, [.null, .null, .int (nI (0)), .int (nI (0))]))] := hD
  refine lv_aload_n hx hb dX5_init_0 rfl (lv_at hl 0 rfl) ?_
  refine W.objInit hx hb hown (hts _ tw_29) (hts _ tw_22) (hts _ tw_23) rfl (hl.1.trans hml.symm) rfl dX5_init_1 (Nat.le_of_ble_eq_true rfl) (Nat.le_of_ble_eq_true rfl) ?_
  refine W.eq (g2 := F0 m 4 ls []) rfl ?_
  refine lv_aload_n hx hb dX5_init_4 rfl (lv_at hl 0 rfl) ?_
  refine lv_sipush (v := nI 200) hx hb dX5_init_5 (by decide) ?_
  refine n_newc hx hb (hts _ tw_44) hK 1 rfl hP hD hS hA (by decide) (Nat.le_of_ble_eq_true rfl) (Nat.le_of_ble_eq_true rfl) dX5_init_8 (fun qa_1 H hP hD hS => ?_)
  have hP : va_P D vwCl [(a_, .inr (5, [.null, .null, .int (nI (0)), .int (nI (0))])), (qa_1, .inl (cC, 200, .inl (fun z_ => nI (zeF z_))))] _ := hP
  have hD : va_D A [(a_, .inr (5, [.null, .null, .int (nI (0)), .int (nI (0))])), (qa_1, .inl (cC, 200, .inl (fun z_ => nI (zeF z_))))] := hD
  refine va_putF (D := D) (ci := 5) (v := .ref qa_1) (ty := tyX5 0) (C := RX5) (T := TX5) (N := 4) hx hb hts lay_5 tyX5 tyX5_ok nmX5 hown hK hP hD hS 0 rfl rfl 0 (by decide) (hts _ tw_30) (fun _ h9 => h9) rfl hin rfl (tyX5_ok 0 (by decide)) rfl rfl (Nat.le_of_ble_eq_true rfl) dX5_init_10 (fun H locs hP hD hS => ?_)
  have hP : va_P D vwCl [(a_, .inr (5, [.ref qa_1, .null, .int (nI (0)), .int (nI (0))])), (qa_1, .inl (cC, 200, .inl (fun z_ => nI (zeF z_))))] _ := hP
  have hD : va_D A [(a_, .inr (5, [.ref qa_1, .null, .int (nI (0)), .int (nI (0))])), (qa_1, .inl (cC, 200, .inl (fun z_ => nI (zeF z_))))] := hD
  refine lv_aload_n hx hb dX5_init_13 rfl (lv_at hl 0 rfl) ?_
  refine lv_iconst (v := nI 4) hx hb dX5_init_14 (by decide) ?_
  refine n_newi hx hb (hts _ tw_45) hK 0 rfl hP hD hS hA (by decide) (Nat.le_of_ble_eq_true rfl) (Nat.le_of_ble_eq_true rfl) dX5_init_15 (fun qa_2 H hP hD hS => ?_)
  have hP : va_P D vwCl [(a_, .inr (5, [.ref qa_1, .null, .int (nI (0)), .int (nI (0))])), (qa_1, .inl (cC, 200, .inl (fun z_ => nI (zeF z_)))), (qa_2, .inl (cI, 4, .inl (fun z_ => nI (zeF z_))))] _ := hP
  have hD : va_D A [(a_, .inr (5, [.ref qa_1, .null, .int (nI (0)), .int (nI (0))])), (qa_1, .inl (cC, 200, .inl (fun z_ => nI (zeF z_)))), (qa_2, .inl (cI, 4, .inl (fun z_ => nI (zeF z_))))] := hD
  refine va_putF (D := D) (ci := 5) (v := .ref qa_2) (ty := tyX5 1) (C := RX5) (T := TX5) (N := 4) hx hb hts lay_5 tyX5 tyX5_ok nmX5 hown hK hP hD hS 0 rfl rfl 1 (by decide) (hts _ tw_31) (fun _ h9 => h9) rfl hin rfl (tyX5_ok 1 (by decide)) rfl rfl (Nat.le_of_ble_eq_true rfl) dX5_init_17 (fun H locs hP hD hS => ?_)
  have hP : va_P D vwCl [(a_, .inr (5, [.ref qa_1, .ref qa_2, .int (nI (0)), .int (nI (0))])), (qa_1, .inl (cC, 200, .inl (fun z_ => nI (zeF z_)))), (qa_2, .inl (cI, 4, .inl (fun z_ => nI (zeF z_))))] _ := hP
  have hD : va_D A [(a_, .inr (5, [.ref qa_1, .ref qa_2, .int (nI (0)), .int (nI (0))])), (qa_1, .inl (cC, 200, .inl (fun z_ => nI (zeF z_)))), (qa_2, .inl (cI, 4, .inl (fun z_ => nI (zeF z_))))] := hD
  refine W.widen (k := 2) (n := 204) (Nat.le_of_ble_eq_true rfl) (Nat.le_of_ble_eq_true rfl) ?_
  refine hret hP hD hS dX5_init_20 ?_
  exact ⟨fun i_ => [qa_1, qa_2].getD i_ 0, rfl⟩
set_option maxHeartbeats 8000000 in
set_option maxRecDepth 100000 in
theorem k_X4_init {l : Launch} {D : va_G} {cI cC cB : ClassId} {a_ : Nat} : MC l yX4_init cX4_init 1 1 3 24 D (Ty3 cI cC cB) [.ref a_] [(a_, .inr (4, [.null, .null, .null, .int (nI (0))]))] noE (fun u => ∃ q : Nat → Nat, u = [gO a_ q 0, (q 0, .inl (cI, 8, .inl (fun z_ => nI (zeF z_)))), (q 1, .inl (cI, 8, .inl (fun z_ => nI (zeF z_)))), (q 2, .inl (cI, 8, .inl (fun z_ => nI (zeF z_))))]) := by
  refine MC.walk (by decide +kernel) (Nat.le_of_ble_eq_true rfl) ?_
  intro p e s m args below meth c A Qf hx hb hml hts hown hin hret hK hP hD hS hA hE ls hl
  have hown : s.vm.findClass RX4 = some m.cls := hown
  have hl : lv_has ls 1 [(0, .ref a_)] := hl
  have hP : va_P D vwCl [(a_, .inr (4, [.null, .null, .null, .int (nI (0))]))] s.heap := hP
  have hD : va_D A [(a_, .inr (4, [.null, .null, .null, .int (nI (0))]))] := hD
  refine lv_aload_n hx hb dX4_init_0 rfl (lv_at hl 0 rfl) ?_
  refine W.objInit hx hb hown (hts _ tw_51) (hts _ tw_22) (hts _ tw_23) rfl (hl.1.trans hml.symm) rfl dX4_init_1 (Nat.le_of_ble_eq_true rfl) (Nat.le_of_ble_eq_true rfl) ?_
  refine W.eq (g2 := F0 m 4 ls []) rfl ?_
  refine lv_aload_n hx hb dX4_init_4 rfl (lv_at hl 0 rfl) ?_
  refine lv_bipush (v := nI 8) hx hb dX4_init_5 (by decide) ?_
  refine n_newi hx hb (hts _ tw_45) hK 0 rfl hP hD hS hA (by decide) (Nat.le_of_ble_eq_true rfl) (Nat.le_of_ble_eq_true rfl) dX4_init_7 (fun qa_1 H hP hD hS => ?_)
  have hP : va_P D vwCl [(a_, .inr (4, [.null, .null, .null, .int (nI (0))])), (qa_1, .inl (cI, 8, .inl (fun z_ => nI (zeF z_))))] _ := hP
  have hD : va_D A [(a_, .inr (4, [.null, .null, .null, .int (nI (0))])), (qa_1, .inl (cI, 8, .inl (fun z_ => nI (zeF z_))))] := hD
  refine va_putF (D := D) (ci := 4) (v := .ref qa_1) (ty := tyX4 0) (C := RX4) (T := TX4) (N := 4) hx hb hts lay_4 tyX4 tyX4_ok nmX4 hown hK hP hD hS 0 rfl rfl 0 (by decide) (hts _ tw_52) (fun _ h9 => h9) rfl hin rfl (tyX4_ok 0 (by decide)) rfl rfl (Nat.le_of_ble_eq_true rfl) dX4_init_9 (fun H locs hP hD hS => ?_)
  have hP : va_P D vwCl [(a_, .inr (4, [.ref qa_1, .null, .null, .int (nI (0))])), (qa_1, .inl (cI, 8, .inl (fun z_ => nI (zeF z_))))] _ := hP
  have hD : va_D A [(a_, .inr (4, [.ref qa_1, .null, .null, .int (nI (0))])), (qa_1, .inl (cI, 8, .inl (fun z_ => nI (zeF z_))))] := hD
  refine lv_aload_n hx hb dX4_init_12 rfl (lv_at hl 0 rfl) ?_
  refine lv_bipush (v := nI 8) hx hb dX4_init_13 (by decide) ?_
  refine n_newi hx hb (hts _ tw_45) hK 0 rfl hP hD hS hA (by decide) (Nat.le_of_ble_eq_true rfl) (Nat.le_of_ble_eq_true rfl) dX4_init_15 (fun qa_2 H hP hD hS => ?_)
  have hP : va_P D vwCl [(a_, .inr (4, [.ref qa_1, .null, .null, .int (nI (0))])), (qa_1, .inl (cI, 8, .inl (fun z_ => nI (zeF z_)))), (qa_2, .inl (cI, 8, .inl (fun z_ => nI (zeF z_))))] _ := hP
  have hD : va_D A [(a_, .inr (4, [.ref qa_1, .null, .null, .int (nI (0))])), (qa_1, .inl (cI, 8, .inl (fun z_ => nI (zeF z_)))), (qa_2, .inl (cI, 8, .inl (fun z_ => nI (zeF z_))))] := hD
  refine va_putF (D := D) (ci := 4) (v := .ref qa_2) (ty := tyX4 1) (C := RX4) (T := TX4) (N := 4) hx hb hts lay_4 tyX4 tyX4_ok nmX4 hown hK hP hD hS 0 rfl rfl 1 (by decide) (hts _ tw_53) (fun _ h9 => h9) rfl hin rfl (tyX4_ok 1 (by decide)) rfl rfl (Nat.le_of_ble_eq_true rfl) dX4_init_17 (fun H locs hP hD hS => ?_)
  have hP : va_P D vwCl [(a_, .inr (4, [.ref qa_1, .ref qa_2, .null, .int (nI (0))])), (qa_1, .inl (cI, 8, .inl (fun z_ => nI (zeF z_)))), (qa_2, .inl (cI, 8, .inl (fun z_ => nI (zeF z_))))] _ := hP
  have hD : va_D A [(a_, .inr (4, [.ref qa_1, .ref qa_2, .null, .int (nI (0))])), (qa_1, .inl (cI, 8, .inl (fun z_ => nI (zeF z_)))), (qa_2, .inl (cI, 8, .inl (fun z_ => nI (zeF z_))))] := hD
  refine lv_aload_n hx hb dX4_init_20 rfl (lv_at hl 0 rfl) ?_
  refine lv_bipush (v := nI 8) hx hb dX4_init_21 (by decide) ?_
  refine n_newi hx hb (hts _ tw_45) hK 0 rfl hP hD hS hA (by decide) (Nat.le_of_ble_eq_true rfl) (Nat.le_of_ble_eq_true rfl) dX4_init_23 (fun qa_3 H hP hD hS => ?_)
  have hP : va_P D vwCl [(a_, .inr (4, [.ref qa_1, .ref qa_2, .null, .int (nI (0))])), (qa_1, .inl (cI, 8, .inl (fun z_ => nI (zeF z_)))), (qa_2, .inl (cI, 8, .inl (fun z_ => nI (zeF z_)))), (qa_3, .inl (cI, 8, .inl (fun z_ => nI (zeF z_))))] _ := hP
  have hD : va_D A [(a_, .inr (4, [.ref qa_1, .ref qa_2, .null, .int (nI (0))])), (qa_1, .inl (cI, 8, .inl (fun z_ => nI (zeF z_)))), (qa_2, .inl (cI, 8, .inl (fun z_ => nI (zeF z_)))), (qa_3, .inl (cI, 8, .inl (fun z_ => nI (zeF z_))))] := hD
  refine va_putF (D := D) (ci := 4) (v := .ref qa_3) (ty := tyX4 2) (C := RX4) (T := TX4) (N := 4) hx hb hts lay_4 tyX4 tyX4_ok nmX4 hown hK hP hD hS 0 rfl rfl 2 (by decide) (hts _ tw_54) (fun _ h9 => h9) rfl hin rfl (tyX4_ok 2 (by decide)) rfl rfl (Nat.le_of_ble_eq_true rfl) dX4_init_25 (fun H locs hP hD hS => ?_)
  have hP : va_P D vwCl [(a_, .inr (4, [.ref qa_1, .ref qa_2, .ref qa_3, .int (nI (0))])), (qa_1, .inl (cI, 8, .inl (fun z_ => nI (zeF z_)))), (qa_2, .inl (cI, 8, .inl (fun z_ => nI (zeF z_)))), (qa_3, .inl (cI, 8, .inl (fun z_ => nI (zeF z_))))] _ := hP
  have hD : va_D A [(a_, .inr (4, [.ref qa_1, .ref qa_2, .ref qa_3, .int (nI (0))])), (qa_1, .inl (cI, 8, .inl (fun z_ => nI (zeF z_)))), (qa_2, .inl (cI, 8, .inl (fun z_ => nI (zeF z_)))), (qa_3, .inl (cI, 8, .inl (fun z_ => nI (zeF z_))))] := hD
  refine W.widen (k := 3) (n := 24) (Nat.le_of_ble_eq_true rfl) (Nat.le_of_ble_eq_true rfl) ?_
  refine hret hP hD hS dX4_init_28 ?_
  exact ⟨fun i_ => [qa_1, qa_2, qa_3].getD i_ 0, rfl⟩
set_option maxHeartbeats 8000000 in
set_option maxRecDepth 100000 in
theorem k_X2_init {l : Launch} {D : va_G} {cI cC cB : ClassId} {a_ : Nat} : MC l yX2_init cX2_init 1 1 6 29 D (Ty3 cI cC cB) [.ref a_] [(a_, .inr (2, [.null, .null, .null, .null, .null, .null, .int (nI (0)), .int (nI (0)), .int (nI (0)), .int (nI (0)), .int (nI (0)), .int (nI (0))]))] noE (fun u => ∃ q : Nat → Nat, u = [pO a_ q 0 0 0 0 0 0, (q 0, .inl (cI, 4, .inl (fun z_ => nI (zeF z_)))), (q 1, .inl (cI, 4, .inl (fun z_ => nI (zeF z_)))), (q 2, .inl (cI, 4, .inl (fun z_ => nI (zeF z_)))), (q 3, .inl (cI, 4, .inl (fun z_ => nI (zeF z_)))), (q 4, .inl (cI, 8, .inl (fun z_ => nI (zeF z_)))), (q 5, .inl (cI, 5, .inl (fun z_ => nI (zeF z_))))]) := by
  refine MC.walk (by decide +kernel) (Nat.le_of_ble_eq_true rfl) ?_
  intro p e s m args below meth c A Qf hx hb hml hts hown hin hret hK hP hD hS hA hE ls hl
  have hown : s.vm.findClass RX2 = some m.cls := hown
  have hl : lv_has ls 1 [(0, .ref a_)] := hl
  have hP : va_P D vwCl [(a_, .inr (2, [.null, .null, .null, .null, .null, .null, .int (nI (0)), .int (nI (0)), .int (nI (0)), .int (nI (0)), .int (nI (0)), .int (nI (0))]))] s.heap := hP
  have hD : va_D A [(a_, .inr (2, [.null, .null, .null, .null, .null, .null, .int (nI (0)), .int (nI (0)), .int (nI (0)), .int (nI (0)), .int (nI (0)), .int (nI (0))]))] := hD
  refine lv_aload_n hx hb dX2_init_0 rfl (lv_at hl 0 rfl) ?_
  refine W.objInit hx hb hown (hts _ tw_164) (hts _ tw_22) (hts _ tw_23) rfl (hl.1.trans hml.symm) rfl dX2_init_1 (Nat.le_of_ble_eq_true rfl) (Nat.le_of_ble_eq_true rfl) ?_
  refine W.eq (g2 := F0 m 4 ls []) rfl ?_
  refine lv_aload_n hx hb dX2_init_4 rfl (lv_at hl 0 rfl) ?_
  refine lv_iconst (v := nI 4) hx hb dX2_init_5 (by decide) ?_
  refine n_newi hx hb (hts _ tw_45) hK 0 rfl hP hD hS hA (by decide) (Nat.le_of_ble_eq_true rfl) (Nat.le_of_ble_eq_true rfl) dX2_init_6 (fun qa_1 H hP hD hS => ?_)
  have hP : va_P D vwCl [(a_, .inr (2, [.null, .null, .null, .null, .null, .null, .int (nI (0)), .int (nI (0)), .int (nI (0)), .int (nI (0)), .int (nI (0)), .int (nI (0))])), (qa_1, .inl (cI, 4, .inl (fun z_ => nI (zeF z_))))] _ := hP
  have hD : va_D A [(a_, .inr (2, [.null, .null, .null, .null, .null, .null, .int (nI (0)), .int (nI (0)), .int (nI (0)), .int (nI (0)), .int (nI (0)), .int (nI (0))])), (qa_1, .inl (cI, 4, .inl (fun z_ => nI (zeF z_))))] := hD
  refine va_putF (D := D) (ci := 2) (v := .ref qa_1) (ty := tyX2 0) (C := RX2) (T := TX2) (N := 12) hx hb hts lay_2 tyX2 tyX2_ok nmX2 hown hK hP hD hS 0 rfl rfl 0 (by decide) (hts _ tw_165) (fun _ h9 => h9) rfl hin rfl (tyX2_ok 0 (by decide)) rfl rfl (Nat.le_of_ble_eq_true rfl) dX2_init_8 (fun H locs hP hD hS => ?_)
  have hP : va_P D vwCl [(a_, .inr (2, [.ref qa_1, .null, .null, .null, .null, .null, .int (nI (0)), .int (nI (0)), .int (nI (0)), .int (nI (0)), .int (nI (0)), .int (nI (0))])), (qa_1, .inl (cI, 4, .inl (fun z_ => nI (zeF z_))))] _ := hP
  have hD : va_D A [(a_, .inr (2, [.ref qa_1, .null, .null, .null, .null, .null, .int (nI (0)), .int (nI (0)), .int (nI (0)), .int (nI (0)), .int (nI (0)), .int (nI (0))])), (qa_1, .inl (cI, 4, .inl (fun z_ => nI (zeF z_))))] := hD
  refine lv_aload_n hx hb dX2_init_11 rfl (lv_at hl 0 rfl) ?_
  refine lv_iconst (v := nI 4) hx hb dX2_init_12 (by decide) ?_
  refine n_newi hx hb (hts _ tw_45) hK 0 rfl hP hD hS hA (by decide) (Nat.le_of_ble_eq_true rfl) (Nat.le_of_ble_eq_true rfl) dX2_init_13 (fun qa_2 H hP hD hS => ?_)
  have hP : va_P D vwCl [(a_, .inr (2, [.ref qa_1, .null, .null, .null, .null, .null, .int (nI (0)), .int (nI (0)), .int (nI (0)), .int (nI (0)), .int (nI (0)), .int (nI (0))])), (qa_1, .inl (cI, 4, .inl (fun z_ => nI (zeF z_)))), (qa_2, .inl (cI, 4, .inl (fun z_ => nI (zeF z_))))] _ := hP
  have hD : va_D A [(a_, .inr (2, [.ref qa_1, .null, .null, .null, .null, .null, .int (nI (0)), .int (nI (0)), .int (nI (0)), .int (nI (0)), .int (nI (0)), .int (nI (0))])), (qa_1, .inl (cI, 4, .inl (fun z_ => nI (zeF z_)))), (qa_2, .inl (cI, 4, .inl (fun z_ => nI (zeF z_))))] := hD
  refine va_putF (D := D) (ci := 2) (v := .ref qa_2) (ty := tyX2 1) (C := RX2) (T := TX2) (N := 12) hx hb hts lay_2 tyX2 tyX2_ok nmX2 hown hK hP hD hS 0 rfl rfl 1 (by decide) (hts _ tw_169) (fun _ h9 => h9) rfl hin rfl (tyX2_ok 1 (by decide)) rfl rfl (Nat.le_of_ble_eq_true rfl) dX2_init_15 (fun H locs hP hD hS => ?_)
  have hP : va_P D vwCl [(a_, .inr (2, [.ref qa_1, .ref qa_2, .null, .null, .null, .null, .int (nI (0)), .int (nI (0)), .int (nI (0)), .int (nI (0)), .int (nI (0)), .int (nI (0))])), (qa_1, .inl (cI, 4, .inl (fun z_ => nI (zeF z_)))), (qa_2, .inl (cI, 4, .inl (fun z_ => nI (zeF z_))))] _ := hP
  have hD : va_D A [(a_, .inr (2, [.ref qa_1, .ref qa_2, .null, .null, .null, .null, .int (nI (0)), .int (nI (0)), .int (nI (0)), .int (nI (0)), .int (nI (0)), .int (nI (0))])), (qa_1, .inl (cI, 4, .inl (fun z_ => nI (zeF z_)))), (qa_2, .inl (cI, 4, .inl (fun z_ => nI (zeF z_))))] := hD
  refine lv_aload_n hx hb dX2_init_18 rfl (lv_at hl 0 rfl) ?_
  refine lv_iconst (v := nI 4) hx hb dX2_init_19 (by decide) ?_
  refine n_newi hx hb (hts _ tw_45) hK 0 rfl hP hD hS hA (by decide) (Nat.le_of_ble_eq_true rfl) (Nat.le_of_ble_eq_true rfl) dX2_init_20 (fun qa_3 H hP hD hS => ?_)
  have hP : va_P D vwCl [(a_, .inr (2, [.ref qa_1, .ref qa_2, .null, .null, .null, .null, .int (nI (0)), .int (nI (0)), .int (nI (0)), .int (nI (0)), .int (nI (0)), .int (nI (0))])), (qa_1, .inl (cI, 4, .inl (fun z_ => nI (zeF z_)))), (qa_2, .inl (cI, 4, .inl (fun z_ => nI (zeF z_)))), (qa_3, .inl (cI, 4, .inl (fun z_ => nI (zeF z_))))] _ := hP
  have hD : va_D A [(a_, .inr (2, [.ref qa_1, .ref qa_2, .null, .null, .null, .null, .int (nI (0)), .int (nI (0)), .int (nI (0)), .int (nI (0)), .int (nI (0)), .int (nI (0))])), (qa_1, .inl (cI, 4, .inl (fun z_ => nI (zeF z_)))), (qa_2, .inl (cI, 4, .inl (fun z_ => nI (zeF z_)))), (qa_3, .inl (cI, 4, .inl (fun z_ => nI (zeF z_))))] := hD
  refine va_putF (D := D) (ci := 2) (v := .ref qa_3) (ty := tyX2 2) (C := RX2) (T := TX2) (N := 12) hx hb hts lay_2 tyX2 tyX2_ok nmX2 hown hK hP hD hS 0 rfl rfl 2 (by decide) (hts _ tw_171) (fun _ h9 => h9) rfl hin rfl (tyX2_ok 2 (by decide)) rfl rfl (Nat.le_of_ble_eq_true rfl) dX2_init_22 (fun H locs hP hD hS => ?_)
  have hP : va_P D vwCl [(a_, .inr (2, [.ref qa_1, .ref qa_2, .ref qa_3, .null, .null, .null, .int (nI (0)), .int (nI (0)), .int (nI (0)), .int (nI (0)), .int (nI (0)), .int (nI (0))])), (qa_1, .inl (cI, 4, .inl (fun z_ => nI (zeF z_)))), (qa_2, .inl (cI, 4, .inl (fun z_ => nI (zeF z_)))), (qa_3, .inl (cI, 4, .inl (fun z_ => nI (zeF z_))))] _ := hP
  have hD : va_D A [(a_, .inr (2, [.ref qa_1, .ref qa_2, .ref qa_3, .null, .null, .null, .int (nI (0)), .int (nI (0)), .int (nI (0)), .int (nI (0)), .int (nI (0)), .int (nI (0))])), (qa_1, .inl (cI, 4, .inl (fun z_ => nI (zeF z_)))), (qa_2, .inl (cI, 4, .inl (fun z_ => nI (zeF z_)))), (qa_3, .inl (cI, 4, .inl (fun z_ => nI (zeF z_))))] := hD
  refine lv_aload_n hx hb dX2_init_25 rfl (lv_at hl 0 rfl) ?_
  refine lv_iconst (v := nI 4) hx hb dX2_init_26 (by decide) ?_
  refine n_newi hx hb (hts _ tw_45) hK 0 rfl hP hD hS hA (by decide) (Nat.le_of_ble_eq_true rfl) (Nat.le_of_ble_eq_true rfl) dX2_init_27 (fun qa_4 H hP hD hS => ?_)
  have hP : va_P D vwCl [(a_, .inr (2, [.ref qa_1, .ref qa_2, .ref qa_3, .null, .null, .null, .int (nI (0)), .int (nI (0)), .int (nI (0)), .int (nI (0)), .int (nI (0)), .int (nI (0))])), (qa_1, .inl (cI, 4, .inl (fun z_ => nI (zeF z_)))), (qa_2, .inl (cI, 4, .inl (fun z_ => nI (zeF z_)))), (qa_3, .inl (cI, 4, .inl (fun z_ => nI (zeF z_)))), (qa_4, .inl (cI, 4, .inl (fun z_ => nI (zeF z_))))] _ := hP
  have hD : va_D A [(a_, .inr (2, [.ref qa_1, .ref qa_2, .ref qa_3, .null, .null, .null, .int (nI (0)), .int (nI (0)), .int (nI (0)), .int (nI (0)), .int (nI (0)), .int (nI (0))])), (qa_1, .inl (cI, 4, .inl (fun z_ => nI (zeF z_)))), (qa_2, .inl (cI, 4, .inl (fun z_ => nI (zeF z_)))), (qa_3, .inl (cI, 4, .inl (fun z_ => nI (zeF z_)))), (qa_4, .inl (cI, 4, .inl (fun z_ => nI (zeF z_))))] := hD
  refine va_putF (D := D) (ci := 2) (v := .ref qa_4) (ty := tyX2 3) (C := RX2) (T := TX2) (N := 12) hx hb hts lay_2 tyX2 tyX2_ok nmX2 hown hK hP hD hS 0 rfl rfl 3 (by decide) (hts _ tw_174) (fun _ h9 => h9) rfl hin rfl (tyX2_ok 3 (by decide)) rfl rfl (Nat.le_of_ble_eq_true rfl) dX2_init_29 (fun H locs hP hD hS => ?_)
  have hP : va_P D vwCl [(a_, .inr (2, [.ref qa_1, .ref qa_2, .ref qa_3, .ref qa_4, .null, .null, .int (nI (0)), .int (nI (0)), .int (nI (0)), .int (nI (0)), .int (nI (0)), .int (nI (0))])), (qa_1, .inl (cI, 4, .inl (fun z_ => nI (zeF z_)))), (qa_2, .inl (cI, 4, .inl (fun z_ => nI (zeF z_)))), (qa_3, .inl (cI, 4, .inl (fun z_ => nI (zeF z_)))), (qa_4, .inl (cI, 4, .inl (fun z_ => nI (zeF z_))))] _ := hP
  have hD : va_D A [(a_, .inr (2, [.ref qa_1, .ref qa_2, .ref qa_3, .ref qa_4, .null, .null, .int (nI (0)), .int (nI (0)), .int (nI (0)), .int (nI (0)), .int (nI (0)), .int (nI (0))])), (qa_1, .inl (cI, 4, .inl (fun z_ => nI (zeF z_)))), (qa_2, .inl (cI, 4, .inl (fun z_ => nI (zeF z_)))), (qa_3, .inl (cI, 4, .inl (fun z_ => nI (zeF z_)))), (qa_4, .inl (cI, 4, .inl (fun z_ => nI (zeF z_))))] := hD
  refine lv_aload_n hx hb dX2_init_32 rfl (lv_at hl 0 rfl) ?_
  refine lv_bipush (v := nI 8) hx hb dX2_init_33 (by decide) ?_
  refine n_newi hx hb (hts _ tw_45) hK 0 rfl hP hD hS hA (by decide) (Nat.le_of_ble_eq_true rfl) (Nat.le_of_ble_eq_true rfl) dX2_init_35 (fun qa_5 H hP hD hS => ?_)
  have hP : va_P D vwCl [(a_, .inr (2, [.ref qa_1, .ref qa_2, .ref qa_3, .ref qa_4, .null, .null, .int (nI (0)), .int (nI (0)), .int (nI (0)), .int (nI (0)), .int (nI (0)), .int (nI (0))])), (qa_1, .inl (cI, 4, .inl (fun z_ => nI (zeF z_)))), (qa_2, .inl (cI, 4, .inl (fun z_ => nI (zeF z_)))), (qa_3, .inl (cI, 4, .inl (fun z_ => nI (zeF z_)))), (qa_4, .inl (cI, 4, .inl (fun z_ => nI (zeF z_)))), (qa_5, .inl (cI, 8, .inl (fun z_ => nI (zeF z_))))] _ := hP
  have hD : va_D A [(a_, .inr (2, [.ref qa_1, .ref qa_2, .ref qa_3, .ref qa_4, .null, .null, .int (nI (0)), .int (nI (0)), .int (nI (0)), .int (nI (0)), .int (nI (0)), .int (nI (0))])), (qa_1, .inl (cI, 4, .inl (fun z_ => nI (zeF z_)))), (qa_2, .inl (cI, 4, .inl (fun z_ => nI (zeF z_)))), (qa_3, .inl (cI, 4, .inl (fun z_ => nI (zeF z_)))), (qa_4, .inl (cI, 4, .inl (fun z_ => nI (zeF z_)))), (qa_5, .inl (cI, 8, .inl (fun z_ => nI (zeF z_))))] := hD
  refine va_putF (D := D) (ci := 2) (v := .ref qa_5) (ty := tyX2 4) (C := RX2) (T := TX2) (N := 12) hx hb hts lay_2 tyX2 tyX2_ok nmX2 hown hK hP hD hS 0 rfl rfl 4 (by decide) (hts _ tw_176) (fun _ h9 => h9) rfl hin rfl (tyX2_ok 4 (by decide)) rfl rfl (Nat.le_of_ble_eq_true rfl) dX2_init_37 (fun H locs hP hD hS => ?_)
  have hP : va_P D vwCl [(a_, .inr (2, [.ref qa_1, .ref qa_2, .ref qa_3, .ref qa_4, .ref qa_5, .null, .int (nI (0)), .int (nI (0)), .int (nI (0)), .int (nI (0)), .int (nI (0)), .int (nI (0))])), (qa_1, .inl (cI, 4, .inl (fun z_ => nI (zeF z_)))), (qa_2, .inl (cI, 4, .inl (fun z_ => nI (zeF z_)))), (qa_3, .inl (cI, 4, .inl (fun z_ => nI (zeF z_)))), (qa_4, .inl (cI, 4, .inl (fun z_ => nI (zeF z_)))), (qa_5, .inl (cI, 8, .inl (fun z_ => nI (zeF z_))))] _ := hP
  have hD : va_D A [(a_, .inr (2, [.ref qa_1, .ref qa_2, .ref qa_3, .ref qa_4, .ref qa_5, .null, .int (nI (0)), .int (nI (0)), .int (nI (0)), .int (nI (0)), .int (nI (0)), .int (nI (0))])), (qa_1, .inl (cI, 4, .inl (fun z_ => nI (zeF z_)))), (qa_2, .inl (cI, 4, .inl (fun z_ => nI (zeF z_)))), (qa_3, .inl (cI, 4, .inl (fun z_ => nI (zeF z_)))), (qa_4, .inl (cI, 4, .inl (fun z_ => nI (zeF z_)))), (qa_5, .inl (cI, 8, .inl (fun z_ => nI (zeF z_))))] := hD
  refine lv_aload_n hx hb dX2_init_40 rfl (lv_at hl 0 rfl) ?_
  refine lv_iconst (v := nI 5) hx hb dX2_init_41 (by decide) ?_
  refine n_newi hx hb (hts _ tw_45) hK 0 rfl hP hD hS hA (by decide) (Nat.le_of_ble_eq_true rfl) (Nat.le_of_ble_eq_true rfl) dX2_init_42 (fun qa_6 H hP hD hS => ?_)
  have hP : va_P D vwCl [(a_, .inr (2, [.ref qa_1, .ref qa_2, .ref qa_3, .ref qa_4, .ref qa_5, .null, .int (nI (0)), .int (nI (0)), .int (nI (0)), .int (nI (0)), .int (nI (0)), .int (nI (0))])), (qa_1, .inl (cI, 4, .inl (fun z_ => nI (zeF z_)))), (qa_2, .inl (cI, 4, .inl (fun z_ => nI (zeF z_)))), (qa_3, .inl (cI, 4, .inl (fun z_ => nI (zeF z_)))), (qa_4, .inl (cI, 4, .inl (fun z_ => nI (zeF z_)))), (qa_5, .inl (cI, 8, .inl (fun z_ => nI (zeF z_)))), (qa_6, .inl (cI, 5, .inl (fun z_ => nI (zeF z_))))] _ := hP
  have hD : va_D A [(a_, .inr (2, [.ref qa_1, .ref qa_2, .ref qa_3, .ref qa_4, .ref qa_5, .null, .int (nI (0)), .int (nI (0)), .int (nI (0)), .int (nI (0)), .int (nI (0)), .int (nI (0))])), (qa_1, .inl (cI, 4, .inl (fun z_ => nI (zeF z_)))), (qa_2, .inl (cI, 4, .inl (fun z_ => nI (zeF z_)))), (qa_3, .inl (cI, 4, .inl (fun z_ => nI (zeF z_)))), (qa_4, .inl (cI, 4, .inl (fun z_ => nI (zeF z_)))), (qa_5, .inl (cI, 8, .inl (fun z_ => nI (zeF z_)))), (qa_6, .inl (cI, 5, .inl (fun z_ => nI (zeF z_))))] := hD
  refine va_putF (D := D) (ci := 2) (v := .ref qa_6) (ty := tyX2 5) (C := RX2) (T := TX2) (N := 12) hx hb hts lay_2 tyX2 tyX2_ok nmX2 hown hK hP hD hS 0 rfl rfl 5 (by decide) (hts _ tw_177) (fun _ h9 => h9) rfl hin rfl (tyX2_ok 5 (by decide)) rfl rfl (Nat.le_of_ble_eq_true rfl) dX2_init_44 (fun H locs hP hD hS => ?_)
  have hP : va_P D vwCl [(a_, .inr (2, [.ref qa_1, .ref qa_2, .ref qa_3, .ref qa_4, .ref qa_5, .ref qa_6, .int (nI (0)), .int (nI (0)), .int (nI (0)), .int (nI (0)), .int (nI (0)), .int (nI (0))])), (qa_1, .inl (cI, 4, .inl (fun z_ => nI (zeF z_)))), (qa_2, .inl (cI, 4, .inl (fun z_ => nI (zeF z_)))), (qa_3, .inl (cI, 4, .inl (fun z_ => nI (zeF z_)))), (qa_4, .inl (cI, 4, .inl (fun z_ => nI (zeF z_)))), (qa_5, .inl (cI, 8, .inl (fun z_ => nI (zeF z_)))), (qa_6, .inl (cI, 5, .inl (fun z_ => nI (zeF z_))))] _ := hP
  have hD : va_D A [(a_, .inr (2, [.ref qa_1, .ref qa_2, .ref qa_3, .ref qa_4, .ref qa_5, .ref qa_6, .int (nI (0)), .int (nI (0)), .int (nI (0)), .int (nI (0)), .int (nI (0)), .int (nI (0))])), (qa_1, .inl (cI, 4, .inl (fun z_ => nI (zeF z_)))), (qa_2, .inl (cI, 4, .inl (fun z_ => nI (zeF z_)))), (qa_3, .inl (cI, 4, .inl (fun z_ => nI (zeF z_)))), (qa_4, .inl (cI, 4, .inl (fun z_ => nI (zeF z_)))), (qa_5, .inl (cI, 8, .inl (fun z_ => nI (zeF z_)))), (qa_6, .inl (cI, 5, .inl (fun z_ => nI (zeF z_))))] := hD
  refine W.widen (k := 6) (n := 29) (Nat.le_of_ble_eq_true rfl) (Nat.le_of_ble_eq_true rfl) ?_
  refine hret hP hD hS dX2_init_47 ?_
  exact ⟨fun i_ => [qa_1, qa_2, qa_3, qa_4, qa_5, qa_6].getD i_ 0, rfl⟩
set_option maxHeartbeats 8000000 in
set_option maxRecDepth 100000 in
theorem k_X1_init {l : Launch} {D : va_G} {cI cC cB : ClassId} {a_ : Nat} : MC l yX1_init cX1_init 1 1 3 48 D (Ty3 cI cC cB) [.ref a_] [(a_, .inr (1, [.null, .null, .null, .int (nI (0))]))] noE (fun u => ∃ q : Nat → Nat, u = [eO a_ q 0, (q 0, .inl (cI, 12, .inl (fun z_ => nI (zeF z_)))), (q 1, .inl (cI, 24, .inl (fun z_ => nI (zeF z_)))), (q 2, .inl (cI, 12, .inl (fun z_ => nI (zeF z_))))]) := by
  refine MC.walk (by decide +kernel) (Nat.le_of_ble_eq_true rfl) ?_
  intro p e s m args below meth c A Qf hx hb hml hts hown hin hret hK hP hD hS hA hE ls hl
  have hown : s.vm.findClass RX1 = some m.cls := hown
  have hl : lv_has ls 1 [(0, .ref a_)] := hl
  have hP : va_P D vwCl [(a_, .inr (1, [.null, .null, .null, .int (nI (0))]))] s.heap := hP
  have hD : va_D A [(a_, .inr (1, [.null, .null, .null, .int (nI (0))]))] := hD
  refine lv_aload_n hx hb dX1_init_0 rfl (lv_at hl 0 rfl) ?_
  refine W.objInit hx hb hown (hts _ tw_145) (hts _ tw_22) (hts _ tw_23) rfl (hl.1.trans hml.symm) rfl dX1_init_1 (Nat.le_of_ble_eq_true rfl) (Nat.le_of_ble_eq_true rfl) ?_
  refine W.eq (g2 := F0 m 4 ls []) rfl ?_
  refine lv_aload_n hx hb dX1_init_4 rfl (lv_at hl 0 rfl) ?_
  refine lv_bipush (v := nI 12) hx hb dX1_init_5 (by decide) ?_
  refine n_newi hx hb (hts _ tw_45) hK 0 rfl hP hD hS hA (by decide) (Nat.le_of_ble_eq_true rfl) (Nat.le_of_ble_eq_true rfl) dX1_init_7 (fun qa_1 H hP hD hS => ?_)
  have hP : va_P D vwCl [(a_, .inr (1, [.null, .null, .null, .int (nI (0))])), (qa_1, .inl (cI, 12, .inl (fun z_ => nI (zeF z_))))] _ := hP
  have hD : va_D A [(a_, .inr (1, [.null, .null, .null, .int (nI (0))])), (qa_1, .inl (cI, 12, .inl (fun z_ => nI (zeF z_))))] := hD
  refine va_putF (D := D) (ci := 1) (v := .ref qa_1) (ty := tyX1 0) (C := RX1) (T := TX1) (N := 4) hx hb hts lay_1 tyX1 tyX1_ok nmX1 hown hK hP hD hS 0 rfl rfl 0 (by decide) (hts _ tw_146) (fun _ h9 => h9) rfl hin rfl (tyX1_ok 0 (by decide)) rfl rfl (Nat.le_of_ble_eq_true rfl) dX1_init_9 (fun H locs hP hD hS => ?_)
  have hP : va_P D vwCl [(a_, .inr (1, [.ref qa_1, .null, .null, .int (nI (0))])), (qa_1, .inl (cI, 12, .inl (fun z_ => nI (zeF z_))))] _ := hP
  have hD : va_D A [(a_, .inr (1, [.ref qa_1, .null, .null, .int (nI (0))])), (qa_1, .inl (cI, 12, .inl (fun z_ => nI (zeF z_))))] := hD
  refine lv_aload_n hx hb dX1_init_12 rfl (lv_at hl 0 rfl) ?_
  refine lv_bipush (v := nI 24) hx hb dX1_init_13 (by decide) ?_
  refine n_newi hx hb (hts _ tw_45) hK 0 rfl hP hD hS hA (by decide) (Nat.le_of_ble_eq_true rfl) (Nat.le_of_ble_eq_true rfl) dX1_init_15 (fun qa_2 H hP hD hS => ?_)
  have hP : va_P D vwCl [(a_, .inr (1, [.ref qa_1, .null, .null, .int (nI (0))])), (qa_1, .inl (cI, 12, .inl (fun z_ => nI (zeF z_)))), (qa_2, .inl (cI, 24, .inl (fun z_ => nI (zeF z_))))] _ := hP
  have hD : va_D A [(a_, .inr (1, [.ref qa_1, .null, .null, .int (nI (0))])), (qa_1, .inl (cI, 12, .inl (fun z_ => nI (zeF z_)))), (qa_2, .inl (cI, 24, .inl (fun z_ => nI (zeF z_))))] := hD
  refine va_putF (D := D) (ci := 1) (v := .ref qa_2) (ty := tyX1 1) (C := RX1) (T := TX1) (N := 4) hx hb hts lay_1 tyX1 tyX1_ok nmX1 hown hK hP hD hS 0 rfl rfl 1 (by decide) (hts _ tw_147) (fun _ h9 => h9) rfl hin rfl (tyX1_ok 1 (by decide)) rfl rfl (Nat.le_of_ble_eq_true rfl) dX1_init_17 (fun H locs hP hD hS => ?_)
  have hP : va_P D vwCl [(a_, .inr (1, [.ref qa_1, .ref qa_2, .null, .int (nI (0))])), (qa_1, .inl (cI, 12, .inl (fun z_ => nI (zeF z_)))), (qa_2, .inl (cI, 24, .inl (fun z_ => nI (zeF z_))))] _ := hP
  have hD : va_D A [(a_, .inr (1, [.ref qa_1, .ref qa_2, .null, .int (nI (0))])), (qa_1, .inl (cI, 12, .inl (fun z_ => nI (zeF z_)))), (qa_2, .inl (cI, 24, .inl (fun z_ => nI (zeF z_))))] := hD
  refine lv_aload_n hx hb dX1_init_20 rfl (lv_at hl 0 rfl) ?_
  refine lv_bipush (v := nI 12) hx hb dX1_init_21 (by decide) ?_
  refine n_newi hx hb (hts _ tw_45) hK 0 rfl hP hD hS hA (by decide) (Nat.le_of_ble_eq_true rfl) (Nat.le_of_ble_eq_true rfl) dX1_init_23 (fun qa_3 H hP hD hS => ?_)
  have hP : va_P D vwCl [(a_, .inr (1, [.ref qa_1, .ref qa_2, .null, .int (nI (0))])), (qa_1, .inl (cI, 12, .inl (fun z_ => nI (zeF z_)))), (qa_2, .inl (cI, 24, .inl (fun z_ => nI (zeF z_)))), (qa_3, .inl (cI, 12, .inl (fun z_ => nI (zeF z_))))] _ := hP
  have hD : va_D A [(a_, .inr (1, [.ref qa_1, .ref qa_2, .null, .int (nI (0))])), (qa_1, .inl (cI, 12, .inl (fun z_ => nI (zeF z_)))), (qa_2, .inl (cI, 24, .inl (fun z_ => nI (zeF z_)))), (qa_3, .inl (cI, 12, .inl (fun z_ => nI (zeF z_))))] := hD
  refine va_putF (D := D) (ci := 1) (v := .ref qa_3) (ty := tyX1 2) (C := RX1) (T := TX1) (N := 4) hx hb hts lay_1 tyX1 tyX1_ok nmX1 hown hK hP hD hS 0 rfl rfl 2 (by decide) (hts _ tw_148) (fun _ h9 => h9) rfl hin rfl (tyX1_ok 2 (by decide)) rfl rfl (Nat.le_of_ble_eq_true rfl) dX1_init_25 (fun H locs hP hD hS => ?_)
  have hP : va_P D vwCl [(a_, .inr (1, [.ref qa_1, .ref qa_2, .ref qa_3, .int (nI (0))])), (qa_1, .inl (cI, 12, .inl (fun z_ => nI (zeF z_)))), (qa_2, .inl (cI, 24, .inl (fun z_ => nI (zeF z_)))), (qa_3, .inl (cI, 12, .inl (fun z_ => nI (zeF z_))))] _ := hP
  have hD : va_D A [(a_, .inr (1, [.ref qa_1, .ref qa_2, .ref qa_3, .int (nI (0))])), (qa_1, .inl (cI, 12, .inl (fun z_ => nI (zeF z_)))), (qa_2, .inl (cI, 24, .inl (fun z_ => nI (zeF z_)))), (qa_3, .inl (cI, 12, .inl (fun z_ => nI (zeF z_))))] := hD
  refine W.widen (k := 3) (n := 48) (Nat.le_of_ble_eq_true rfl) (Nat.le_of_ble_eq_true rfl) ?_
  refine hret hP hD hS dX1_init_28 ?_
  exact ⟨fun i_ => [qa_1, qa_2, qa_3].getD i_ 0, rfl⟩
set_option maxHeartbeats 8000000 in
set_option maxRecDepth 100000 in
theorem k_X0_init {l : Launch} {D : va_G} {cI cC cB : ClassId} {a_ : Nat} : MC l yX0_init cX0_init 1 1 7 68 D (Ty3 cI cC cB) [.ref a_] [(a_, .inr (0, [.null, .null, .null, .null, .null, .null, .null, .int (nI (0)), .int (nI (0)), .int (nI (0)), .int (nI (0))]))] noE (fun u => ∃ q : Nat → Nat, u = [bO a_ q 0 0 0 0, (q 0, .inl (cI, 4, .inl (fun z_ => nI (zeF z_)))), (q 1, .inl (cI, 4, .inl (fun z_ => nI (zeF z_)))), (q 2, .inl (cI, 12, .inl (fun z_ => nI (zeF z_)))), (q 3, .inl (cI, 12, .inl (fun z_ => nI (zeF z_)))), (q 4, .inl (cI, 12, .inl (fun z_ => nI (zeF z_)))), (q 5, .inl (cI, 12, .inl (fun z_ => nI (zeF z_)))), (q 6, .inl (cI, 12, .inl (fun z_ => nI (zeF z_))))]) := by
  refine MC.walk (by decide +kernel) (Nat.le_of_ble_eq_true rfl) ?_
  intro p e s m args below meth c A Qf hx hb hml hts hown hin hret hK hP hD hS hA hE ls hl
  have hown : s.vm.findClass RX0 = some m.cls := hown
  have hl : lv_has ls 1 [(0, .ref a_)] := hl
  have hP : va_P D vwCl [(a_, .inr (0, [.null, .null, .null, .null, .null, .null, .null, .int (nI (0)), .int (nI (0)), .int (nI (0)), .int (nI (0))]))] s.heap := hP
  have hD : va_D A [(a_, .inr (0, [.null, .null, .null, .null, .null, .null, .null, .int (nI (0)), .int (nI (0)), .int (nI (0)), .int (nI (0))]))] := hD
  refine lv_aload_n hx hb dX0_init_0 rfl (lv_at hl 0 rfl) ?_
  refine W.objInit hx hb hown (hts _ tw_78) (hts _ tw_22) (hts _ tw_23) rfl (hl.1.trans hml.symm) rfl dX0_init_1 (Nat.le_of_ble_eq_true rfl) (Nat.le_of_ble_eq_true rfl) ?_
  refine W.eq (g2 := F0 m 4 ls []) rfl ?_
  refine lv_aload_n hx hb dX0_init_4 rfl (lv_at hl 0 rfl) ?_
  refine lv_iconst (v := nI 4) hx hb dX0_init_5 (by decide) ?_
  refine n_newi hx hb (hts _ tw_45) hK 0 rfl hP hD hS hA (by decide) (Nat.le_of_ble_eq_true rfl) (Nat.le_of_ble_eq_true rfl) dX0_init_6 (fun qa_1 H hP hD hS => ?_)
  have hP : va_P D vwCl [(a_, .inr (0, [.null, .null, .null, .null, .null, .null, .null, .int (nI (0)), .int (nI (0)), .int (nI (0)), .int (nI (0))])), (qa_1, .inl (cI, 4, .inl (fun z_ => nI (zeF z_))))] _ := hP
  have hD : va_D A [(a_, .inr (0, [.null, .null, .null, .null, .null, .null, .null, .int (nI (0)), .int (nI (0)), .int (nI (0)), .int (nI (0))])), (qa_1, .inl (cI, 4, .inl (fun z_ => nI (zeF z_))))] := hD
  refine va_putF (D := D) (ci := 0) (v := .ref qa_1) (ty := tyX0 0) (C := RX0) (T := TX0) (N := 11) hx hb hts lay_0 tyX0 tyX0_ok nmX0 hown hK hP hD hS 0 rfl rfl 0 (by decide) (hts _ tw_79) (fun _ h9 => h9) rfl hin rfl (tyX0_ok 0 (by decide)) rfl rfl (Nat.le_of_ble_eq_true rfl) dX0_init_8 (fun H locs hP hD hS => ?_)
  have hP : va_P D vwCl [(a_, .inr (0, [.ref qa_1, .null, .null, .null, .null, .null, .null, .int (nI (0)), .int (nI (0)), .int (nI (0)), .int (nI (0))])), (qa_1, .inl (cI, 4, .inl (fun z_ => nI (zeF z_))))] _ := hP
  have hD : va_D A [(a_, .inr (0, [.ref qa_1, .null, .null, .null, .null, .null, .null, .int (nI (0)), .int (nI (0)), .int (nI (0)), .int (nI (0))])), (qa_1, .inl (cI, 4, .inl (fun z_ => nI (zeF z_))))] := hD
  refine lv_aload_n hx hb dX0_init_11 rfl (lv_at hl 0 rfl) ?_
  refine lv_iconst (v := nI 4) hx hb dX0_init_12 (by decide) ?_
  refine n_newi hx hb (hts _ tw_45) hK 0 rfl hP hD hS hA (by decide) (Nat.le_of_ble_eq_true rfl) (Nat.le_of_ble_eq_true rfl) dX0_init_13 (fun qa_2 H hP hD hS => ?_)
  have hP : va_P D vwCl [(a_, .inr (0, [.ref qa_1, .null, .null, .null, .null, .null, .null, .int (nI (0)), .int (nI (0)), .int (nI (0)), .int (nI (0))])), (qa_1, .inl (cI, 4, .inl (fun z_ => nI (zeF z_)))), (qa_2, .inl (cI, 4, .inl (fun z_ => nI (zeF z_))))] _ := hP
  have hD : va_D A [(a_, .inr (0, [.ref qa_1, .null, .null, .null, .null, .null, .null, .int (nI (0)), .int (nI (0)), .int (nI (0)), .int (nI (0))])), (qa_1, .inl (cI, 4, .inl (fun z_ => nI (zeF z_)))), (qa_2, .inl (cI, 4, .inl (fun z_ => nI (zeF z_))))] := hD
  refine va_putF (D := D) (ci := 0) (v := .ref qa_2) (ty := tyX0 1) (C := RX0) (T := TX0) (N := 11) hx hb hts lay_0 tyX0 tyX0_ok nmX0 hown hK hP hD hS 0 rfl rfl 1 (by decide) (hts _ tw_81) (fun _ h9 => h9) rfl hin rfl (tyX0_ok 1 (by decide)) rfl rfl (Nat.le_of_ble_eq_true rfl) dX0_init_15 (fun H locs hP hD hS => ?_)
  have hP : va_P D vwCl [(a_, .inr (0, [.ref qa_1, .ref qa_2, .null, .null, .null, .null, .null, .int (nI (0)), .int (nI (0)), .int (nI (0)), .int (nI (0))])), (qa_1, .inl (cI, 4, .inl (fun z_ => nI (zeF z_)))), (qa_2, .inl (cI, 4, .inl (fun z_ => nI (zeF z_))))] _ := hP
  have hD : va_D A [(a_, .inr (0, [.ref qa_1, .ref qa_2, .null, .null, .null, .null, .null, .int (nI (0)), .int (nI (0)), .int (nI (0)), .int (nI (0))])), (qa_1, .inl (cI, 4, .inl (fun z_ => nI (zeF z_)))), (qa_2, .inl (cI, 4, .inl (fun z_ => nI (zeF z_))))] := hD
  refine lv_aload_n hx hb dX0_init_18 rfl (lv_at hl 0 rfl) ?_
  refine lv_bipush (v := nI 12) hx hb dX0_init_19 (by decide) ?_
  refine n_newi hx hb (hts _ tw_45) hK 0 rfl hP hD hS hA (by decide) (Nat.le_of_ble_eq_true rfl) (Nat.le_of_ble_eq_true rfl) dX0_init_21 (fun qa_3 H hP hD hS => ?_)
  have hP : va_P D vwCl [(a_, .inr (0, [.ref qa_1, .ref qa_2, .null, .null, .null, .null, .null, .int (nI (0)), .int (nI (0)), .int (nI (0)), .int (nI (0))])), (qa_1, .inl (cI, 4, .inl (fun z_ => nI (zeF z_)))), (qa_2, .inl (cI, 4, .inl (fun z_ => nI (zeF z_)))), (qa_3, .inl (cI, 12, .inl (fun z_ => nI (zeF z_))))] _ := hP
  have hD : va_D A [(a_, .inr (0, [.ref qa_1, .ref qa_2, .null, .null, .null, .null, .null, .int (nI (0)), .int (nI (0)), .int (nI (0)), .int (nI (0))])), (qa_1, .inl (cI, 4, .inl (fun z_ => nI (zeF z_)))), (qa_2, .inl (cI, 4, .inl (fun z_ => nI (zeF z_)))), (qa_3, .inl (cI, 12, .inl (fun z_ => nI (zeF z_))))] := hD
  refine va_putF (D := D) (ci := 0) (v := .ref qa_3) (ty := tyX0 2) (C := RX0) (T := TX0) (N := 11) hx hb hts lay_0 tyX0 tyX0_ok nmX0 hown hK hP hD hS 0 rfl rfl 2 (by decide) (hts _ tw_83) (fun _ h9 => h9) rfl hin rfl (tyX0_ok 2 (by decide)) rfl rfl (Nat.le_of_ble_eq_true rfl) dX0_init_23 (fun H locs hP hD hS => ?_)
  have hP : va_P D vwCl [(a_, .inr (0, [.ref qa_1, .ref qa_2, .ref qa_3, .null, .null, .null, .null, .int (nI (0)), .int (nI (0)), .int (nI (0)), .int (nI (0))])), (qa_1, .inl (cI, 4, .inl (fun z_ => nI (zeF z_)))), (qa_2, .inl (cI, 4, .inl (fun z_ => nI (zeF z_)))), (qa_3, .inl (cI, 12, .inl (fun z_ => nI (zeF z_))))] _ := hP
  have hD : va_D A [(a_, .inr (0, [.ref qa_1, .ref qa_2, .ref qa_3, .null, .null, .null, .null, .int (nI (0)), .int (nI (0)), .int (nI (0)), .int (nI (0))])), (qa_1, .inl (cI, 4, .inl (fun z_ => nI (zeF z_)))), (qa_2, .inl (cI, 4, .inl (fun z_ => nI (zeF z_)))), (qa_3, .inl (cI, 12, .inl (fun z_ => nI (zeF z_))))] := hD
  refine lv_aload_n hx hb dX0_init_26 rfl (lv_at hl 0 rfl) ?_
  refine lv_bipush (v := nI 12) hx hb dX0_init_27 (by decide) ?_
  refine n_newi hx hb (hts _ tw_45) hK 0 rfl hP hD hS hA (by decide) (Nat.le_of_ble_eq_true rfl) (Nat.le_of_ble_eq_true rfl) dX0_init_29 (fun qa_4 H hP hD hS => ?_)
  have hP : va_P D vwCl [(a_, .inr (0, [.ref qa_1, .ref qa_2, .ref qa_3, .null, .null, .null, .null, .int (nI (0)), .int (nI (0)), .int (nI (0)), .int (nI (0))])), (qa_1, .inl (cI, 4, .inl (fun z_ => nI (zeF z_)))), (qa_2, .inl (cI, 4, .inl (fun z_ => nI (zeF z_)))), (qa_3, .inl (cI, 12, .inl (fun z_ => nI (zeF z_)))), (qa_4, .inl (cI, 12, .inl (fun z_ => nI (zeF z_))))] _ := hP
  have hD : va_D A [(a_, .inr (0, [.ref qa_1, .ref qa_2, .ref qa_3, .null, .null, .null, .null, .int (nI (0)), .int (nI (0)), .int (nI (0)), .int (nI (0))])), (qa_1, .inl (cI, 4, .inl (fun z_ => nI (zeF z_)))), (qa_2, .inl (cI, 4, .inl (fun z_ => nI (zeF z_)))), (qa_3, .inl (cI, 12, .inl (fun z_ => nI (zeF z_)))), (qa_4, .inl (cI, 12, .inl (fun z_ => nI (zeF z_))))] := hD
  refine va_putF (D := D) (ci := 0) (v := .ref qa_4) (ty := tyX0 3) (C := RX0) (T := TX0) (N := 11) hx hb hts lay_0 tyX0 tyX0_ok nmX0 hown hK hP hD hS 0 rfl rfl 3 (by decide) (hts _ tw_86) (fun _ h9 => h9) rfl hin rfl (tyX0_ok 3 (by decide)) rfl rfl (Nat.le_of_ble_eq_true rfl) dX0_init_31 (fun H locs hP hD hS => ?_)
  have hP : va_P D vwCl [(a_, .inr (0, [.ref qa_1, .ref qa_2, .ref qa_3, .ref qa_4, .null, .null, .null, .int (nI (0)), .int (nI (0)), .int (nI (0)), .int (nI (0))])), (qa_1, .inl (cI, 4, .inl (fun z_ => nI (zeF z_)))), (qa_2, .inl (cI, 4, .inl (fun z_ => nI (zeF z_)))), (qa_3, .inl (cI, 12, .inl (fun z_ => nI (zeF z_)))), (qa_4, .inl (cI, 12, .inl (fun z_ => nI (zeF z_))))] _ := hP
  have hD : va_D A [(a_, .inr (0, [.ref qa_1, .ref qa_2, .ref qa_3, .ref qa_4, .null, .null, .null, .int (nI (0)), .int (nI (0)), .int (nI (0)), .int (nI (0))])), (qa_1, .inl (cI, 4, .inl (fun z_ => nI (zeF z_)))), (qa_2, .inl (cI, 4, .inl (fun z_ => nI (zeF z_)))), (qa_3, .inl (cI, 12, .inl (fun z_ => nI (zeF z_)))), (qa_4, .inl (cI, 12, .inl (fun z_ => nI (zeF z_))))] := hD
  refine lv_aload_n hx hb dX0_init_34 rfl (lv_at hl 0 rfl) ?_
  refine lv_bipush (v := nI 12) hx hb dX0_init_35 (by decide) ?_
  refine n_newi hx hb (hts _ tw_45) hK 0 rfl hP hD hS hA (by decide) (Nat.le_of_ble_eq_true rfl) (Nat.le_of_ble_eq_true rfl) dX0_init_37 (fun qa_5 H hP hD hS => ?_)
  have hP : va_P D vwCl [(a_, .inr (0, [.ref qa_1, .ref qa_2, .ref qa_3, .ref qa_4, .null, .null, .null, .int (nI (0)), .int (nI (0)), .int (nI (0)), .int (nI (0))])), (qa_1, .inl (cI, 4, .inl (fun z_ => nI (zeF z_)))), (qa_2, .inl (cI, 4, .inl (fun z_ => nI (zeF z_)))), (qa_3, .inl (cI, 12, .inl (fun z_ => nI (zeF z_)))), (qa_4, .inl (cI, 12, .inl (fun z_ => nI (zeF z_)))), (qa_5, .inl (cI, 12, .inl (fun z_ => nI (zeF z_))))] _ := hP
  have hD : va_D A [(a_, .inr (0, [.ref qa_1, .ref qa_2, .ref qa_3, .ref qa_4, .null, .null, .null, .int (nI (0)), .int (nI (0)), .int (nI (0)), .int (nI (0))])), (qa_1, .inl (cI, 4, .inl (fun z_ => nI (zeF z_)))), (qa_2, .inl (cI, 4, .inl (fun z_ => nI (zeF z_)))), (qa_3, .inl (cI, 12, .inl (fun z_ => nI (zeF z_)))), (qa_4, .inl (cI, 12, .inl (fun z_ => nI (zeF z_)))), (qa_5, .inl (cI, 12, .inl (fun z_ => nI (zeF z_))))] := hD
  refine va_putF (D := D) (ci := 0) (v := .ref qa_5) (ty := tyX0 4) (C := RX0) (T := TX0) (N := 11) hx hb hts lay_0 tyX0 tyX0_ok nmX0 hown hK hP hD hS 0 rfl rfl 4 (by decide) (hts _ tw_88) (fun _ h9 => h9) rfl hin rfl (tyX0_ok 4 (by decide)) rfl rfl (Nat.le_of_ble_eq_true rfl) dX0_init_39 (fun H locs hP hD hS => ?_)
  have hP : va_P D vwCl [(a_, .inr (0, [.ref qa_1, .ref qa_2, .ref qa_3, .ref qa_4, .ref qa_5, .null, .null, .int (nI (0)), .int (nI (0)), .int (nI (0)), .int (nI (0))])), (qa_1, .inl (cI, 4, .inl (fun z_ => nI (zeF z_)))), (qa_2, .inl (cI, 4, .inl (fun z_ => nI (zeF z_)))), (qa_3, .inl (cI, 12, .inl (fun z_ => nI (zeF z_)))), (qa_4, .inl (cI, 12, .inl (fun z_ => nI (zeF z_)))), (qa_5, .inl (cI, 12, .inl (fun z_ => nI (zeF z_))))] _ := hP
  have hD : va_D A [(a_, .inr (0, [.ref qa_1, .ref qa_2, .ref qa_3, .ref qa_4, .ref qa_5, .null, .null, .int (nI (0)), .int (nI (0)), .int (nI (0)), .int (nI (0))])), (qa_1, .inl (cI, 4, .inl (fun z_ => nI (zeF z_)))), (qa_2, .inl (cI, 4, .inl (fun z_ => nI (zeF z_)))), (qa_3, .inl (cI, 12, .inl (fun z_ => nI (zeF z_)))), (qa_4, .inl (cI, 12, .inl (fun z_ => nI (zeF z_)))), (qa_5, .inl (cI, 12, .inl (fun z_ => nI (zeF z_))))] := hD
  refine lv_aload_n hx hb dX0_init_42 rfl (lv_at hl 0 rfl) ?_
  refine lv_bipush (v := nI 12) hx hb dX0_init_43 (by decide) ?_
  refine n_newi hx hb (hts _ tw_45) hK 0 rfl hP hD hS hA (by decide) (Nat.le_of_ble_eq_true rfl) (Nat.le_of_ble_eq_true rfl) dX0_init_45 (fun qa_6 H hP hD hS => ?_)
  have hP : va_P D vwCl [(a_, .inr (0, [.ref qa_1, .ref qa_2, .ref qa_3, .ref qa_4, .ref qa_5, .null, .null, .int (nI (0)), .int (nI (0)), .int (nI (0)), .int (nI (0))])), (qa_1, .inl (cI, 4, .inl (fun z_ => nI (zeF z_)))), (qa_2, .inl (cI, 4, .inl (fun z_ => nI (zeF z_)))), (qa_3, .inl (cI, 12, .inl (fun z_ => nI (zeF z_)))), (qa_4, .inl (cI, 12, .inl (fun z_ => nI (zeF z_)))), (qa_5, .inl (cI, 12, .inl (fun z_ => nI (zeF z_)))), (qa_6, .inl (cI, 12, .inl (fun z_ => nI (zeF z_))))] _ := hP
  have hD : va_D A [(a_, .inr (0, [.ref qa_1, .ref qa_2, .ref qa_3, .ref qa_4, .ref qa_5, .null, .null, .int (nI (0)), .int (nI (0)), .int (nI (0)), .int (nI (0))])), (qa_1, .inl (cI, 4, .inl (fun z_ => nI (zeF z_)))), (qa_2, .inl (cI, 4, .inl (fun z_ => nI (zeF z_)))), (qa_3, .inl (cI, 12, .inl (fun z_ => nI (zeF z_)))), (qa_4, .inl (cI, 12, .inl (fun z_ => nI (zeF z_)))), (qa_5, .inl (cI, 12, .inl (fun z_ => nI (zeF z_)))), (qa_6, .inl (cI, 12, .inl (fun z_ => nI (zeF z_))))] := hD
  refine va_putF (D := D) (ci := 0) (v := .ref qa_6) (ty := tyX0 5) (C := RX0) (T := TX0) (N := 11) hx hb hts lay_0 tyX0 tyX0_ok nmX0 hown hK hP hD hS 0 rfl rfl 5 (by decide) (hts _ tw_91) (fun _ h9 => h9) rfl hin rfl (tyX0_ok 5 (by decide)) rfl rfl (Nat.le_of_ble_eq_true rfl) dX0_init_47 (fun H locs hP hD hS => ?_)
  have hP : va_P D vwCl [(a_, .inr (0, [.ref qa_1, .ref qa_2, .ref qa_3, .ref qa_4, .ref qa_5, .ref qa_6, .null, .int (nI (0)), .int (nI (0)), .int (nI (0)), .int (nI (0))])), (qa_1, .inl (cI, 4, .inl (fun z_ => nI (zeF z_)))), (qa_2, .inl (cI, 4, .inl (fun z_ => nI (zeF z_)))), (qa_3, .inl (cI, 12, .inl (fun z_ => nI (zeF z_)))), (qa_4, .inl (cI, 12, .inl (fun z_ => nI (zeF z_)))), (qa_5, .inl (cI, 12, .inl (fun z_ => nI (zeF z_)))), (qa_6, .inl (cI, 12, .inl (fun z_ => nI (zeF z_))))] _ := hP
  have hD : va_D A [(a_, .inr (0, [.ref qa_1, .ref qa_2, .ref qa_3, .ref qa_4, .ref qa_5, .ref qa_6, .null, .int (nI (0)), .int (nI (0)), .int (nI (0)), .int (nI (0))])), (qa_1, .inl (cI, 4, .inl (fun z_ => nI (zeF z_)))), (qa_2, .inl (cI, 4, .inl (fun z_ => nI (zeF z_)))), (qa_3, .inl (cI, 12, .inl (fun z_ => nI (zeF z_)))), (qa_4, .inl (cI, 12, .inl (fun z_ => nI (zeF z_)))), (qa_5, .inl (cI, 12, .inl (fun z_ => nI (zeF z_)))), (qa_6, .inl (cI, 12, .inl (fun z_ => nI (zeF z_))))] := hD
  refine lv_aload_n hx hb dX0_init_50 rfl (lv_at hl 0 rfl) ?_
  refine lv_bipush (v := nI 12) hx hb dX0_init_51 (by decide) ?_
  refine n_newi hx hb (hts _ tw_45) hK 0 rfl hP hD hS hA (by decide) (Nat.le_of_ble_eq_true rfl) (Nat.le_of_ble_eq_true rfl) dX0_init_53 (fun qa_7 H hP hD hS => ?_)
  have hP : va_P D vwCl [(a_, .inr (0, [.ref qa_1, .ref qa_2, .ref qa_3, .ref qa_4, .ref qa_5, .ref qa_6, .null, .int (nI (0)), .int (nI (0)), .int (nI (0)), .int (nI (0))])), (qa_1, .inl (cI, 4, .inl (fun z_ => nI (zeF z_)))), (qa_2, .inl (cI, 4, .inl (fun z_ => nI (zeF z_)))), (qa_3, .inl (cI, 12, .inl (fun z_ => nI (zeF z_)))), (qa_4, .inl (cI, 12, .inl (fun z_ => nI (zeF z_)))), (qa_5, .inl (cI, 12, .inl (fun z_ => nI (zeF z_)))), (qa_6, .inl (cI, 12, .inl (fun z_ => nI (zeF z_)))), (qa_7, .inl (cI, 12, .inl (fun z_ => nI (zeF z_))))] _ := hP
  have hD : va_D A [(a_, .inr (0, [.ref qa_1, .ref qa_2, .ref qa_3, .ref qa_4, .ref qa_5, .ref qa_6, .null, .int (nI (0)), .int (nI (0)), .int (nI (0)), .int (nI (0))])), (qa_1, .inl (cI, 4, .inl (fun z_ => nI (zeF z_)))), (qa_2, .inl (cI, 4, .inl (fun z_ => nI (zeF z_)))), (qa_3, .inl (cI, 12, .inl (fun z_ => nI (zeF z_)))), (qa_4, .inl (cI, 12, .inl (fun z_ => nI (zeF z_)))), (qa_5, .inl (cI, 12, .inl (fun z_ => nI (zeF z_)))), (qa_6, .inl (cI, 12, .inl (fun z_ => nI (zeF z_)))), (qa_7, .inl (cI, 12, .inl (fun z_ => nI (zeF z_))))] := hD
  refine va_putF (D := D) (ci := 0) (v := .ref qa_7) (ty := tyX0 6) (C := RX0) (T := TX0) (N := 11) hx hb hts lay_0 tyX0 tyX0_ok nmX0 hown hK hP hD hS 0 rfl rfl 6 (by decide) (hts _ tw_93) (fun _ h9 => h9) rfl hin rfl (tyX0_ok 6 (by decide)) rfl rfl (Nat.le_of_ble_eq_true rfl) dX0_init_55 (fun H locs hP hD hS => ?_)
  have hP : va_P D vwCl [(a_, .inr (0, [.ref qa_1, .ref qa_2, .ref qa_3, .ref qa_4, .ref qa_5, .ref qa_6, .ref qa_7, .int (nI (0)), .int (nI (0)), .int (nI (0)), .int (nI (0))])), (qa_1, .inl (cI, 4, .inl (fun z_ => nI (zeF z_)))), (qa_2, .inl (cI, 4, .inl (fun z_ => nI (zeF z_)))), (qa_3, .inl (cI, 12, .inl (fun z_ => nI (zeF z_)))), (qa_4, .inl (cI, 12, .inl (fun z_ => nI (zeF z_)))), (qa_5, .inl (cI, 12, .inl (fun z_ => nI (zeF z_)))), (qa_6, .inl (cI, 12, .inl (fun z_ => nI (zeF z_)))), (qa_7, .inl (cI, 12, .inl (fun z_ => nI (zeF z_))))] _ := hP
  have hD : va_D A [(a_, .inr (0, [.ref qa_1, .ref qa_2, .ref qa_3, .ref qa_4, .ref qa_5, .ref qa_6, .ref qa_7, .int (nI (0)), .int (nI (0)), .int (nI (0)), .int (nI (0))])), (qa_1, .inl (cI, 4, .inl (fun z_ => nI (zeF z_)))), (qa_2, .inl (cI, 4, .inl (fun z_ => nI (zeF z_)))), (qa_3, .inl (cI, 12, .inl (fun z_ => nI (zeF z_)))), (qa_4, .inl (cI, 12, .inl (fun z_ => nI (zeF z_)))), (qa_5, .inl (cI, 12, .inl (fun z_ => nI (zeF z_)))), (qa_6, .inl (cI, 12, .inl (fun z_ => nI (zeF z_)))), (qa_7, .inl (cI, 12, .inl (fun z_ => nI (zeF z_))))] := hD
  refine W.widen (k := 7) (n := 68) (Nat.le_of_ble_eq_true rfl) (Nat.le_of_ble_eq_true rfl) ?_
  refine hret hP hD hS dX0_init_58 ?_
  exact ⟨fun i_ => [qa_1, qa_2, qa_3, qa_4, qa_5, qa_6, qa_7].getD i_ 0, rfl⟩

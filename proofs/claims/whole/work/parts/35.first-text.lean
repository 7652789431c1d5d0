theorem tw_8 : (Jvm.Cond.initialized "java/lang/String") ∈ WALL := wall_at 8 (by decide +kernel) (by decide +kernel)
theorem tw_9 : (Jvm.Cond.initialized "java/lang/StringLatin1") ∈ WALL := wall_at 9 (by decide +kernel) (by decide +kernel)
theorem tw_10 : (Jvm.Cond.initialized "jdk/internal/util/Preconditions") ∈ WALL := wall_at 10 (by decide +kernel) (by decide +kernel)
theorem tw_217 : (Jvm.Cond.instanceMethod ({ cls := "java/lang/String", name := "length", desc := "()I" } : Jvm.MethodName)) ∈ WALL := wall_at 217 (by decide +kernel) (by decide +kernel)
theorem tw_218 : (Jvm.Cond.selects "java/lang/String" ({ cls := "java/lang/String", name := "length", desc := "()I" } : Jvm.MethodName) ({ cls := "java/lang/String", name := "length", desc := "()I" } : Jvm.MethodName)) ∈ WALL := wall_at 218 (by decide +kernel) (by decide +kernel)
theorem tw_219 : (Jvm.Cond.code ({ cls := "java/lang/String", name := "length", desc := "()I" } : Jvm.MethodName) prog_12_method_54_code (1 : Nat) (Option.some Jvm.ClassFile.FieldType.int)) ∈ WALL := wall_at 219 (by decide +kernel) (by decide +kernel)
theorem tw_220 : (Jvm.Cond.methodLink "java/lang/String" (335 : Nat) ({ cls := "java/lang/String", name := "coder", desc := "()B" } : Jvm.MethodName)) ∈ WALL := wall_at 220 (by decide +kernel) (by decide +kernel)
theorem tw_221 : (Jvm.Cond.instanceMethod ({ cls := "java/lang/String", name := "coder", desc := "()B" } : Jvm.MethodName)) ∈ WALL := wall_at 221 (by decide +kernel) (by decide +kernel)
theorem tw_222 : (Jvm.Cond.selects "java/lang/String" ({ cls := "java/lang/String", name := "coder", desc := "()B" } : Jvm.MethodName) ({ cls := "java/lang/String", name := "coder", desc := "()B" } : Jvm.MethodName)) ∈ WALL := wall_at 222 (by decide +kernel) (by decide +kernel)
theorem tw_223 : (Jvm.Cond.code ({ cls := "java/lang/String", name := "coder", desc := "()B" } : Jvm.MethodName) prog_12_method_152_code (1 : Nat) (Option.some Jvm.ClassFile.FieldType.byte)) ∈ WALL := wall_at 223 (by decide +kernel) (by decide +kernel)
theorem tw_224 : (Jvm.Cond.fieldLink "java/lang/String" (38 : Nat) "java/lang/String" "COMPACT_STRINGS" "Z") ∈ WALL := wall_at 224 (by decide +kernel) (by decide +kernel)
theorem tw_227 : (Jvm.Cond.instanceMethod ({ cls := "java/lang/String", name := "charAt", desc := "(I)C" } : Jvm.MethodName)) ∈ WALL := wall_at 227 (by decide +kernel) (by decide +kernel)
theorem tw_228 : (Jvm.Cond.selects "java/lang/String" ({ cls := "java/lang/String", name := "charAt", desc := "(I)C" } : Jvm.MethodName) ({ cls := "java/lang/String", name := "charAt", desc := "(I)C" } : Jvm.MethodName)) ∈ WALL := wall_at 228 (by decide +kernel) (by decide +kernel)
theorem tw_229 : (Jvm.Cond.code ({ cls := "java/lang/String", name := "charAt", desc := "(I)C" } : Jvm.MethodName) prog_12_method_56_code (2 : Nat) (Option.some Jvm.ClassFile.FieldType.char)) ∈ WALL := wall_at 229 (by decide +kernel) (by decide +kernel)
theorem tw_230 : (Jvm.Cond.methodLink "java/lang/String" (492 : Nat) ({ cls := "java/lang/String", name := "isLatin1", desc := "()Z" } : Jvm.MethodName)) ∈ WALL := wall_at 230 (by decide +kernel) (by decide +kernel)
theorem tw_231 : (Jvm.Cond.instanceMethod ({ cls := "java/lang/String", name := "isLatin1", desc := "()Z" } : Jvm.MethodName)) ∈ WALL := wall_at 231 (by decide +kernel) (by decide +kernel)
theorem tw_232 : (Jvm.Cond.selects "java/lang/String" ({ cls := "java/lang/String", name := "isLatin1", desc := "()Z" } : Jvm.MethodName) ({ cls := "java/lang/String", name := "isLatin1", desc := "()Z" } : Jvm.MethodName)) ∈ WALL := wall_at 232 (by decide +kernel) (by decide +kernel)
theorem tw_233 : (Jvm.Cond.code ({ cls := "java/lang/String", name := "isLatin1", desc := "()Z" } : Jvm.MethodName) prog_12_method_154_code (1 : Nat) (Option.some Jvm.ClassFile.FieldType.boolean)) ∈ WALL := wall_at 233 (by decide +kernel) (by decide +kernel)
theorem tw_234 : (Jvm.Cond.methodLink "java/lang/String" (495 : Nat) ({ cls := "java/lang/StringLatin1", name := "charAt", desc := "([BI)C" } : Jvm.MethodName)) ∈ WALL := wall_at 234 (by decide +kernel) (by decide +kernel)
theorem tw_235 : (Jvm.Cond.static ({ cls := "java/lang/StringLatin1", name := "charAt", desc := "([BI)C" } : Jvm.MethodName)) ∈ WALL := wall_at 235 (by decide +kernel) (by decide +kernel)
theorem tw_236 : (Jvm.Cond.code ({ cls := "java/lang/StringLatin1", name := "charAt", desc := "([BI)C" } : Jvm.MethodName) prog_13_method_2_code (2 : Nat) (Option.some Jvm.ClassFile.FieldType.char)) ∈ WALL := wall_at 236 (by decide +kernel) (by decide +kernel)
theorem tw_237 : (Jvm.Cond.methodLink "java/lang/StringLatin1" (9 : Nat) ({ cls := "java/lang/String", name := "checkIndex", desc := "(II)V" } : Jvm.MethodName)) ∈ WALL := wall_at 237 (by decide +kernel) (by decide +kernel)
theorem tw_238 : (Jvm.Cond.static ({ cls := "java/lang/String", name := "checkIndex", desc := "(II)V" } : Jvm.MethodName)) ∈ WALL := wall_at 238 (by decide +kernel) (by decide +kernel)
theorem tw_239 : (Jvm.Cond.code ({ cls := "java/lang/String", name := "checkIndex", desc := "(II)V" } : Jvm.MethodName) prog_12_method_155_code (2 : Nat) (Option.none : Option Jvm.ClassFile.FieldType)) ∈ WALL := wall_at 239 (by decide +kernel) (by decide +kernel)
theorem tw_240 : (Jvm.Cond.fieldLink "java/lang/String" (1053 : Nat) "jdk/internal/util/Preconditions" "SIOOBE_FORMATTER" "Ljava/util/function/BiFunction;") ∈ WALL := wall_at 240 (by decide +kernel) (by decide +kernel)
theorem tw_242 : (Jvm.Cond.methodLink "java/lang/String" (1059 : Nat) ({ cls := "jdk/internal/util/Preconditions", name := "checkIndex", desc := "(IILjava/util/function/BiFunction;)I" } : Jvm.MethodName)) ∈ WALL := wall_at 242 (by decide +kernel) (by decide +kernel)
theorem tw_243 : (Jvm.Cond.static ({ cls := "jdk/internal/util/Preconditions", name := "checkIndex", desc := "(IILjava/util/function/BiFunction;)I" } : Jvm.MethodName)) ∈ WALL := wall_at 243 (by decide +kernel) (by decide +kernel)
theorem tw_244 : (Jvm.Cond.code ({ cls := "jdk/internal/util/Preconditions", name := "checkIndex", desc := "(IILjava/util/function/BiFunction;)I" } : Jvm.MethodName) prog_16_method_11_code (3 : Nat) (Option.some Jvm.ClassFile.FieldType.int)) ∈ WALL := wall_at 244 (by decide +kernel) (by decide +kernel)
theorem tw_1094 : (Jvm.Cond.fieldLink "java/lang/String" (9 : Nat) "java/lang/String" "value" "[B") ∈ WALL := wall_at 1094 (by decide +kernel) (by decide +kernel)
theorem tw_1095 : (Jvm.Cond.fieldLink "java/lang/String" (15 : Nat) "java/lang/String" "coder" "B") ∈ WALL := wall_at 1095 (by decide +kernel) (by decide +kernel)
theorem dJ0_coder_7d493_0 : decode cJ0_coder_7d493 0 = .ok (.getstatic 38, 3) := by decide +kernel
theorem dJ0_coder_7d493_3 : decode cJ0_coder_7d493 3 = .ok (.ifCond .eq 10, 3) := by decide +kernel
theorem dJ0_coder_7d493_6 : decode cJ0_coder_7d493 6 = .ok (.aload_n 0, 1) := by decide +kernel
theorem dJ0_coder_7d493_7 : decode cJ0_coder_7d493 7 = .ok (.getfield 15, 3) := by decide +kernel
theorem dJ0_coder_7d493_10 : decode cJ0_coder_7d493 10 = .ok (.goto 4, 3) := by decide +kernel
theorem dJ0_coder_7d493_13 : decode cJ0_coder_7d493 13 = .ok (.iconst 1, 1) := by decide +kernel
theorem dJ0_coder_7d493_14 : decode cJ0_coder_7d493 14 = .ok (.ireturn, 1) := by decide +kernel
theorem dJ0_length_8abf5_0 : decode cJ0_length_8abf5 0 = .ok (.aload_n 0, 1) := by decide +kernel
theorem dJ0_length_8abf5_1 : decode cJ0_length_8abf5 1 = .ok (.getfield 9, 3) := by decide +kernel
theorem dJ0_length_8abf5_4 : decode cJ0_length_8abf5 4 = .ok (.arraylength, 1) := by decide +kernel
theorem dJ0_length_8abf5_5 : decode cJ0_length_8abf5 5 = .ok (.aload_n 0, 1) := by decide +kernel
theorem dJ0_length_8abf5_6 : decode cJ0_length_8abf5 6 = .ok (.invokevirtual 335, 3) := by decide +kernel
theorem dJ0_length_8abf5_9 : decode cJ0_length_8abf5 9 = .ok (.ishr, 1) := by decide +kernel
theorem dJ0_length_8abf5_10 : decode cJ0_length_8abf5 10 = .ok (.ireturn, 1) := by decide +kernel
theorem dJ0_isLatin1_aae02_0 : decode cJ0_isLatin1_aae02 0 = .ok (.getstatic 38, 3) := by decide +kernel
theorem dJ0_isLatin1_aae02_3 : decode cJ0_isLatin1_aae02 3 = .ok (.ifCond .eq 14, 3) := by decide +kernel
theorem dJ0_isLatin1_aae02_6 : decode cJ0_isLatin1_aae02 6 = .ok (.aload_n 0, 1) := by decide +kernel
theorem dJ0_isLatin1_aae02_7 : decode cJ0_isLatin1_aae02 7 = .ok (.getfield 15, 3) := by decide +kernel
theorem dJ0_isLatin1_aae02_10 : decode cJ0_isLatin1_aae02 10 = .ok (.ifCond .ne 7, 3) := by decide +kernel
theorem dJ0_isLatin1_aae02_13 : decode cJ0_isLatin1_aae02 13 = .ok (.iconst 1, 1) := by decide +kernel
theorem dJ0_isLatin1_aae02_14 : decode cJ0_isLatin1_aae02 14 = .ok (.goto 4, 3) := by decide +kernel
theorem dJ0_isLatin1_aae02_17 : decode cJ0_isLatin1_aae02 17 = .ok (.iconst 0, 1) := by decide +kernel
theorem dJ0_isLatin1_aae02_18 : decode cJ0_isLatin1_aae02 18 = .ok (.ireturn, 1) := by decide +kernel
theorem dJ0_checkIndex_df160_0 : decode cJ0_checkIndex_df160 0 = .ok (.iload_n 0, 1) := by decide +kernel
theorem dJ0_checkIndex_df160_1 : decode cJ0_checkIndex_df160 1 = .ok (.iload_n 1, 1) := by decide +kernel
theorem dJ0_checkIndex_df160_2 : decode cJ0_checkIndex_df160 2 = .ok (.getstatic 1053, 3) := by decide +kernel
theorem dJ0_checkIndex_df160_5 : decode cJ0_checkIndex_df160 5 = .ok (.invokestatic 1059, 3) := by decide +kernel
theorem dJ0_checkIndex_df160_8 : decode cJ0_checkIndex_df160 8 = .ok (.pop, 1) := by decide +kernel
theorem dJ0_checkIndex_df160_9 : decode cJ0_checkIndex_df160 9 = .ok (.return_, 1) := by decide +kernel
theorem dJ1_charAt_3b067_0 : decode cJ1_charAt_3b067 0 = .ok (.iload_n 1, 1) := by decide +kernel
theorem dJ1_charAt_3b067_1 : decode cJ1_charAt_3b067 1 = .ok (.aload_n 0, 1) := by decide +kernel
theorem dJ1_charAt_3b067_2 : decode cJ1_charAt_3b067 2 = .ok (.arraylength, 1) := by decide +kernel
theorem dJ1_charAt_3b067_3 : decode cJ1_charAt_3b067 3 = .ok (.invokestatic 9, 3) := by decide +kernel
theorem dJ1_charAt_3b067_6 : decode cJ1_charAt_3b067 6 = .ok (.aload_n 0, 1) := by decide +kernel
theorem dJ1_charAt_3b067_7 : decode cJ1_charAt_3b067 7 = .ok (.iload_n 1, 1) := by decide +kernel
theorem dJ1_charAt_3b067_8 : decode cJ1_charAt_3b067 8 = .ok (.baload, 1) := by decide +kernel
theorem dJ1_charAt_3b067_9 : decode cJ1_charAt_3b067 9 = .ok (.sipush 255, 3) := by decide +kernel
theorem dJ1_charAt_3b067_12 : decode cJ1_charAt_3b067 12 = .ok (.iand, 1) := by decide +kernel
theorem dJ1_charAt_3b067_13 : decode cJ1_charAt_3b067 13 = .ok (.i2c, 1) := by decide +kernel
theorem dJ1_charAt_3b067_14 : decode cJ1_charAt_3b067 14 = .ok (.ireturn, 1) := by decide +kernel
theorem dJ3_checkIndex_8e157_0 : decode cJ3_checkIndex_8e157 0 = .ok (.iload_n 0, 1) := by decide +kernel
theorem dJ3_checkIndex_8e157_1 : decode cJ3_checkIndex_8e157 1 = .ok (.ifCond .lt 8, 3) := by decide +kernel
theorem dJ3_checkIndex_8e157_4 : decode cJ3_checkIndex_8e157 4 = .ok (.iload_n 0, 1) := by decide +kernel
theorem dJ3_checkIndex_8e157_5 : decode cJ3_checkIndex_8e157 5 = .ok (.iload_n 1, 1) := by decide +kernel
theorem dJ3_checkIndex_8e157_6 : decode cJ3_checkIndex_8e157 6 = .ok (.if_icmp .lt 10, 3) := by decide +kernel
theorem dJ3_checkIndex_8e157_9 : decode cJ3_checkIndex_8e157 9 = .ok (.aload_n 2, 1) := by decide +kernel
theorem dJ3_checkIndex_8e157_10 : decode cJ3_checkIndex_8e157 10 = .ok (.iload_n 0, 1) := by decide +kernel
theorem dJ3_checkIndex_8e157_11 : decode cJ3_checkIndex_8e157 11 = .ok (.iload_n 1, 1) := by decide +kernel
theorem dJ3_checkIndex_8e157_12 : decode cJ3_checkIndex_8e157 12 = .ok (.invokestatic 95, 3) := by decide +kernel
theorem dJ3_checkIndex_8e157_15 : decode cJ3_checkIndex_8e157 15 = .ok (.athrow, 1) := by decide +kernel
theorem dJ3_checkIndex_8e157_16 : decode cJ3_checkIndex_8e157 16 = .ok (.iload_n 0, 1) := by decide +kernel
theorem dJ3_checkIndex_8e157_17 : decode cJ3_checkIndex_8e157 17 = .ok (.ireturn, 1) := by decide +kernel
theorem dJ0_charAt_5068e_0 : decode cJ0_charAt_5068e 0 = .ok (.aload_n 0, 1) := by decide +kernel
theorem dJ0_charAt_5068e_1 : decode cJ0_charAt_5068e 1 = .ok (.invokevirtual 492, 3) := by decide +kernel
theorem dJ0_charAt_5068e_4 : decode cJ0_charAt_5068e 4 = .ok (.ifCond .eq 12, 3) := by decide +kernel
theorem dJ0_charAt_5068e_7 : decode cJ0_charAt_5068e 7 = .ok (.aload_n 0, 1) := by decide +kernel
theorem dJ0_charAt_5068e_8 : decode cJ0_charAt_5068e 8 = .ok (.getfield 9, 3) := by decide +kernel
theorem dJ0_charAt_5068e_11 : decode cJ0_charAt_5068e 11 = .ok (.iload_n 1, 1) := by decide +kernel
theorem dJ0_charAt_5068e_12 : decode cJ0_charAt_5068e 12 = .ok (.invokestatic 495, 3) := by decide +kernel
theorem dJ0_charAt_5068e_15 : decode cJ0_charAt_5068e 15 = .ok (.ireturn, 1) := by decide +kernel
theorem dJ0_charAt_5068e_16 : decode cJ0_charAt_5068e 16 = .ok (.aload_n 0, 1) := by decide +kernel
theorem dJ0_charAt_5068e_17 : decode cJ0_charAt_5068e 17 = .ok (.getfield 9, 3) := by decide +kernel
theorem dJ0_charAt_5068e_20 : decode cJ0_charAt_5068e 20 = .ok (.iload_n 1, 1) := by decide +kernel
theorem dJ0_charAt_5068e_21 : decode cJ0_charAt_5068e 21 = .ok (.invokestatic 498, 3) := by decide +kernel
theorem dJ0_charAt_5068e_24 : decode cJ0_charAt_5068e 24 = .ok (.ireturn, 1) := by decide +kernel

/-- the letters of the first text -/
def ftL : List Nat := [119, 52, 44, 49, 44, 48, 59, 119, 51, 44, 49, 44, 50, 59, 119, 53, 44, 50, 44, 48, 59, 120, 48, 44, 49, 44, 49, 44, 49, 59, 120, 49, 44, 50, 44, 50, 44, 48, 59, 112, 50, 59, 112, 49, 59, 112, 48, 59, 111, 50, 44, 53, 48, 59]
def ftX (i : Nat) : Nat := ftL.getD i 0
theorem ft_all : ∀ i, i < 54 → ftX i &&& 255 = ftX i ∧ ftX i < 128 := by decide +kernel
theorem pa_0 {ws u : va_W} : putAll ws [] u = ws := by simp only [putAll]
def stE (kA vA : Nat) (fA : Option Nat) : EnvT := fun A U H => va_AO "CrankedExcuse$Box" U ∧ vk_R "CrankedExcuse" 62 "w4,1,0;w3,1,2;w5,2,0;x0,1,1,1;x1,2,2,0;p2;p1;p0;o2,50;" kA U ∧ va_O "java/lang/String" kA A U H ∧ va_OF "java/lang/String" "coder" "B" (.int 0) kA A U H ∧ va_OF "java/lang/String" "value" "[B" (.ref vA) kA A U H ∧ va_T .byte vA 54 (fun j => .int (nI (ftX j))) A U H ∧ va_Z "java/lang/String" "COMPACT_STRINGS" "Z" (.int 1) A U H ∧ va_Z "jdk/internal/util/Preconditions" "SIOOBE_FORMATTER" "Ljava/util/function/BiFunction;" (va_rf fA) A U H
theorem stE_ok {kA vA : Nat} {fA : Option Nat} : EOk (stE kA vA fA) := by
  refine ⟨fun A U g mk a H h => ?_, fun A B s U H H1 hW hk hn h => ?_⟩
  · obtain ⟨h0, h1, h2, h3, h4, h5, h6, h7⟩ := h
    have hv : U.vm.Alike (U.calling g mk a).vm := Vm.Alike.refl U.vm
    exact ⟨va_AO.moved hv h0, vk_R.same rfl h1, va_O.moved hv h2, va_OF.moved hv h3, va_OF.moved hv h4, va_T.moved hv h5, va_Z.moved hv h6, va_Z.moved hv h7⟩
  · obtain ⟨h0, h1, h2, h3, h4, h5, h6, h7⟩ := h
    have hv := hW.alike
    exact ⟨va_AO.moved hv h0, vk_R.warm hW h1, ((va_O.moved hv h2).kept hk).narrow hn, ((va_OF.moved hv h3).kept hk).narrow hn, ((va_OF.moved hv h4).kept hk).narrow hn, ((va_T.moved hv h5).kept hk).narrow hn, ((va_Z.moved hv h6).kept hk).narrow hn, ((va_Z.moved hv h7).kept hk).narrow hn⟩

set_option maxHeartbeats 4000000 in
set_option maxRecDepth 100000 in
theorem k_J0_coder {l : Launch} {D : va_G} {cI cC cB : ClassId} {kA vA : Nat} {fA : Option Nat}  : MSi l yJ0_coder_7d493 cJ0_coder_7d493 1 (some .byte) 0 D (Ty3 cI cC cB) [.ref kA] (stE kA vA fA) (0) := by
  refine MG.walk (by decide +kernel) (Nat.le_of_ble_eq_true rfl) ?_
  intro p e s m below meth c A F hin hK hP hD hS hA hE ls hl
  obtain ⟨hx, hb, hr, hml, hts, hown, hlocks⟩ := F
  have hown : s.vm.findClass "java/lang/String" = some m.cls := hown
  have hl : lv_has ls 1 [(0, .ref kA)] := hl
  obtain ⟨hE0, hE1, hE2, hE3, hE4, hE5, hE6, hE7⟩ := id hE
  refine va_gets (C := "java/lang/String") (n := "COMPACT_STRINGS") (d := "Z") hx hb hE6 hS hown (hts _ tw_224) (fun _ h => h) dJ0_coder_7d493_0 ?_
  refine lv_if_eq (tgt := 13) hx hb dJ0_coder_7d493_3 (by decide) (fun h1 => ?_) (fun h1 => ?_)
  · exact absurd h1 (by decide)
  refine lv_aload_n hx hb dJ0_coder_7d493_6 rfl (lv_at hl 0 rfl) ?_
  refine vk_getf hx hb hE3 hS hown (hts _ tw_1095) (fun _ h => h) dJ0_coder_7d493_7 ?_
  refine lv_goto (tgt := 14) hx hb dJ0_coder_7d493_10 (by decide) ?_
  exact ret_z hx hb hr hlocks (post := fun r _ => r = 0) rfl hK hP hD hS dJ0_coder_7d493_14 rfl rfl
set_option maxHeartbeats 4000000 in
set_option maxRecDepth 100000 in
theorem k_J0_isLatin1 {l : Launch} {D : va_G} {cI cC cB : ClassId} {kA vA : Nat} {fA : Option Nat}  : MSi l yJ0_isLatin1_aae02 cJ0_isLatin1_aae02 1 (some .boolean) 0 D (Ty3 cI cC cB) [.ref kA] (stE kA vA fA) (1) := by
  refine MG.walk (by decide +kernel) (Nat.le_of_ble_eq_true rfl) ?_
  intro p e s m below meth c A F hin hK hP hD hS hA hE ls hl
  obtain ⟨hx, hb, hr, hml, hts, hown, hlocks⟩ := F
  have hown : s.vm.findClass "java/lang/String" = some m.cls := hown
  have hl : lv_has ls 1 [(0, .ref kA)] := hl
  obtain ⟨hE0, hE1, hE2, hE3, hE4, hE5, hE6, hE7⟩ := id hE
  refine va_gets (C := "java/lang/String") (n := "COMPACT_STRINGS") (d := "Z") hx hb hE6 hS hown (hts _ tw_224) (fun _ h => h) dJ0_isLatin1_aae02_0 ?_
  refine lv_if_eq (tgt := 17) hx hb dJ0_isLatin1_aae02_3 (by decide) (fun h1 => ?_) (fun h1 => ?_)
  · exact absurd h1 (by decide)
  refine lv_aload_n hx hb dJ0_isLatin1_aae02_6 rfl (lv_at hl 0 rfl) ?_
  refine vk_getf hx hb hE3 hS hown (hts _ tw_1095) (fun _ h => h) dJ0_isLatin1_aae02_7 ?_
  refine lv_if_ne (tgt := 17) hx hb dJ0_isLatin1_aae02_10 (by decide) (fun h1 => ?_) (fun h1 => ?_)
  · exact absurd rfl h1
  refine lv_iconst (v := 1) hx hb dJ0_isLatin1_aae02_13 (by decide) ?_
  refine lv_goto (tgt := 18) hx hb dJ0_isLatin1_aae02_14 (by decide) ?_
  exact ret_z hx hb hr hlocks (post := fun r _ => r = 1) rfl hK hP hD hS dJ0_isLatin1_aae02_18 rfl rfl
set_option maxHeartbeats 4000000 in
set_option maxRecDepth 100000 in
theorem k_J0_length {l : Launch} {D : va_G} {cI cC cB : ClassId} {kA vA : Nat} {fA : Option Nat}  : MSi l yJ0_length_8abf5 cJ0_length_8abf5 1 (some .int) 1 D (Ty3 cI cC cB) [.ref kA] (stE kA vA fA) (nI 54) := by
  refine MG.walk (by decide +kernel) (Nat.le_of_ble_eq_true rfl) ?_
  intro p e s m below meth c A F hin hK hP hD hS hA hE ls hl
  obtain ⟨hx, hb, hr, hml, hts, hown, hlocks⟩ := F
  have hown : s.vm.findClass "java/lang/String" = some m.cls := hown
  have hl : lv_has ls 1 [(0, .ref kA)] := hl
  obtain ⟨hE0, hE1, hE2, hE3, hE4, hE5, hE6, hE7⟩ := id hE
  refine lv_aload_n hx hb dJ0_length_8abf5_0 rfl (lv_at hl 0 rfl) ?_
  refine vk_getf hx hb hE4 hS hown (hts _ tw_1094) (fun _ h => h) dJ0_length_8abf5_1 ?_
  refine va_tlen hx hb hE5 hS (v := nI 54) rfl dJ0_length_8abf5_4 ?_
  refine lv_aload_n hx hb dJ0_length_8abf5_5 rfl (lv_at hl 0 rfl) ?_
  obtain ⟨cellk, k1, k2, k3, k4⟩ := hE2.kept hS.2.1
  refine go_i (post := fun r _ => r = (0)) (va_runV (As := []) (rest := [.int (nI 54)]) ⟨hx, hb, hml, hown, hts⟩ (k_J0_coder _) ⟨callC_w (n := 0) hts  tw_223 tw_8 tw_220 ⟨⟨by decide +kernel, by decide +kernel⟩, by decide +kernel⟩ ⟨Nat.le_of_ble_eq_true rfl, Nat.le_of_ble_eq_true rfl⟩, hts _ tw_221, hts _ tw_222⟩ ⟨blindG stE_ok, ⟨cellk, k1, k2, k3⟩, (preG_of (As := [.ref kA]) stE_ok hE hK hP hD hS hA [] rfl rfl).2⟩ rfl rfl hl.1 rfl (lv_room (Nat.le_of_ble_eq_true rfl)) dJ0_length_8abf5_6 ⟨Nat.zero_le _, Nat.zero_le _⟩) hP hD hS hA [] rfl (fun r u H locs hq hP hD hS => ?_)
  subst hq
  rw [pa_0] at hP hD
  refine lv_ishr hx hb dJ0_length_8abf5_9 ?_
  exact ret_i hx hb hr hlocks (post := fun r _ => r = nI 54) hK hP hD hS dJ0_length_8abf5_10 rfl (by decide)
set_option maxHeartbeats 4000000 in
set_option maxRecDepth 100000 in
theorem k_J3_check {l : Launch} {D : va_G} {cI cC cB : ClassId} {kA vA : Nat} {fA : Option Nat} {i n : Nat} (hi : i < n) (hn : n < 1000) : MSi l yJ3_checkIndex_8e157 cJ3_checkIndex_8e157 3 (some .int) 0 D (Ty3 cI cC cB) [.int (nI i), .int (nI n), va_rf fA] (stE kA vA fA) (nI i) := by
  cases fA with
  | none =>
    refine MG.walk (by decide +kernel) (Nat.le_of_ble_eq_true rfl) ?_
    intro p e s m below meth c A F hin hK hP hD hS hA hE ls hl
    obtain ⟨hx, hb, hr, hml, hts, hown, hlocks⟩ := F
    have hown : s.vm.findClass "jdk/internal/util/Preconditions" = some m.cls := hown
    have hl : lv_has ls 3 [(0, .int (nI i)), (1, .int (nI n)), (2, .null)] := hl
    obtain ⟨hE0, hE1, hE2, hE3, hE4, hE5, hE6, hE7⟩ := id hE
    refine lv_iload_n hx hb dJ3_checkIndex_8e157_0 rfl (lv_at hl 0 rfl) ?_
    refine n_if_lt (tgt := 9) hx hb dJ3_checkIndex_8e157_1 (by decide) (by omega) ?_
    refine lv_iload_n hx hb dJ3_checkIndex_8e157_4 rfl (lv_at hl 0 rfl) ?_
    refine lv_iload_n hx hb dJ3_checkIndex_8e157_5 rfl (lv_at hl 1 rfl) ?_
    refine n_icmp_lt (tgt := 16) hx hb dJ3_checkIndex_8e157_6 (by decide) (by omega) (by omega) (fun h1 => ?_) (fun h1 => ?_)
    rotate_left
    · exact absurd hi (by omega)
    refine lv_iload_n hx hb dJ3_checkIndex_8e157_16 rfl (lv_at hl 0 rfl) ?_
    exact ret_i hx hb hr hlocks (post := fun r _ => r = nI i) hK hP hD hS dJ3_checkIndex_8e157_17 rfl rfl
  | some t =>
    refine MG.walk (by decide +kernel) (Nat.le_of_ble_eq_true rfl) ?_
    intro p e s m below meth c A F hin hK hP hD hS hA hE ls hl
    obtain ⟨hx, hb, hr, hml, hts, hown, hlocks⟩ := F
    have hown : s.vm.findClass "jdk/internal/util/Preconditions" = some m.cls := hown
    have hl : lv_has ls 3 [(0, .int (nI i)), (1, .int (nI n)), (2, .ref t)] := hl
    obtain ⟨hE0, hE1, hE2, hE3, hE4, hE5, hE6, hE7⟩ := id hE
    refine lv_iload_n hx hb dJ3_checkIndex_8e157_0 rfl (lv_at hl 0 rfl) ?_
    refine n_if_lt (tgt := 9) hx hb dJ3_checkIndex_8e157_1 (by decide) (by omega) ?_
    refine lv_iload_n hx hb dJ3_checkIndex_8e157_4 rfl (lv_at hl 0 rfl) ?_
    refine lv_iload_n hx hb dJ3_checkIndex_8e157_5 rfl (lv_at hl 1 rfl) ?_
    refine n_icmp_lt (tgt := 16) hx hb dJ3_checkIndex_8e157_6 (by decide) (by omega) (by omega) (fun h1 => ?_) (fun h1 => ?_)
    rotate_left
    · exact absurd hi (by omega)
    refine lv_iload_n hx hb dJ3_checkIndex_8e157_16 rfl (lv_at hl 0 rfl) ?_
    exact ret_i hx hb hr hlocks (post := fun r _ => r = nI i) hK hP hD hS dJ3_checkIndex_8e157_17 rfl rfl
set_option maxHeartbeats 4000000 in
set_option maxRecDepth 100000 in
theorem k_J0_check {l : Launch} {D : va_G} {cI cC cB : ClassId} {kA vA : Nat} {fA : Option Nat} {i n : Nat} (hi : i < n) (hn : n < 1000) : MSv l yJ0_checkIndex_df160 cJ0_checkIndex_df160 2 1 D (Ty3 cI cC cB) [.int (nI i), .int (nI n)] (stE kA vA fA) := by
  refine MG.walk (by decide +kernel) (Nat.le_of_ble_eq_true rfl) ?_
  intro p e s m below meth c A F hin hK hP hD hS hA hE ls hl
  obtain ⟨hx, hb, hr, hml, hts, hown, hlocks⟩ := F
  have hown : s.vm.findClass "java/lang/String" = some m.cls := hown
  have hl : lv_has ls 2 [(0, .int (nI i)), (1, .int (nI n))] := hl
  obtain ⟨hE0, hE1, hE2, hE3, hE4, hE5, hE6, hE7⟩ := id hE
  refine lv_iload_n hx hb dJ0_checkIndex_df160_0 rfl (lv_at hl 0 rfl) ?_
  refine lv_iload_n hx hb dJ0_checkIndex_df160_1 rfl (lv_at hl 1 rfl) ?_
  refine va_gets (C := "jdk/internal/util/Preconditions") (n := "SIOOBE_FORMATTER") (d := "Ljava/util/function/BiFunction;") hx hb hE7 hS hown (hts _ tw_240) (fun _ h => h) dJ0_checkIndex_df160_2 ?_
  refine go_i (post := fun r _ => r = (nI i)) (va_runS (As := [.int (nI i), .int (nI n), va_rf fA]) (rest := []) ⟨hx, hb, hml, hown, hts⟩ (k_J3_check hi hn _) ⟨callC_w (n := 3) hts  tw_244 tw_10 tw_242 ⟨⟨by decide +kernel, by decide +kernel⟩, by decide +kernel⟩ ⟨Nat.le_of_ble_eq_true rfl, Nat.le_of_ble_eq_true rfl⟩, hts _ tw_243⟩ (preG_of stE_ok hE hK hP hD hS hA [] rfl rfl) rfl rfl hl.1 rfl (lv_room (Nat.le_of_ble_eq_true rfl)) dJ0_checkIndex_df160_5 ⟨Nat.zero_le _, Nat.zero_le _⟩) hP hD hS hA [] rfl (fun r u H locs hq hP hD hS => ?_)
  subst hq
  rw [pa_0] at hP hD
  refine lv_pop hx hb dJ0_checkIndex_df160_8 rfl ?_
  exact ret_v hx hb hr hlocks (post := fun _ => True) hK hP hD hS dJ0_checkIndex_df160_9 rfl trivial
set_option maxHeartbeats 4000000 in
set_option maxRecDepth 100000 in
theorem k_J1_charAt {l : Launch} {D : va_G} {cI cC cB : ClassId} {kA vA : Nat} {fA : Option Nat} {i : Nat} (hi : i < 54) : MSi l yJ1_charAt_3b067 cJ1_charAt_3b067 2 (some .char) 2 D (Ty3 cI cC cB) [.ref vA, .int (nI i)] (stE kA vA fA) (nI (ftX i)) := by
  refine MG.walk (by decide +kernel) (Nat.le_of_ble_eq_true rfl) ?_
  intro p e s m below meth c A F hin hK hP hD hS hA hE ls hl
  obtain ⟨hx, hb, hr, hml, hts, hown, hlocks⟩ := F
  have hown : s.vm.findClass "java/lang/StringLatin1" = some m.cls := hown
  have hl : lv_has ls 2 [(0, .ref vA), (1, .int (nI i))] := hl
  obtain ⟨hE0, hE1, hE2, hE3, hE4, hE5, hE6, hE7⟩ := id hE
  refine lv_iload_n hx hb dJ1_charAt_3b067_0 rfl (lv_at hl 1 rfl) ?_
  refine lv_aload_n hx hb dJ1_charAt_3b067_1 rfl (lv_at hl 0 rfl) ?_
  refine va_tlen hx hb hE5 hS (v := nI 54) rfl dJ1_charAt_3b067_2 ?_
  refine go_v (post := fun _ => True) (va_runS (As := [.int (nI i), .int (nI 54)]) (rest := []) ⟨hx, hb, hml, hown, hts⟩ (k_J0_check hi (by decide) _) ⟨callC_w (n := 2) hts  tw_239 tw_8 tw_237 ⟨⟨by decide +kernel, by decide +kernel⟩, by decide +kernel⟩ ⟨Nat.le_of_ble_eq_true rfl, Nat.le_of_ble_eq_true rfl⟩, hts _ tw_238⟩ (preG_of stE_ok hE hK hP hD hS hA [] rfl rfl) rfl rfl hl.1 rfl (lv_room (Nat.le_of_ble_eq_true rfl)) dJ1_charAt_3b067_3 ⟨Nat.zero_le _, Nat.zero_le _⟩) hP hD hS hA [] rfl (fun u H locs hq hP hD hS => ?_)
  rw [pa_0] at hP hD
  refine lv_aload_n hx hb dJ1_charAt_3b067_6 rfl (lv_at hl 0 rfl) ?_
  refine lv_iload_n hx hb dJ1_charAt_3b067_7 rfl (lv_at hl 1 rfl) ?_
  refine va_tb hx hb hE5 hS (i := nI i) (vp_in_nI hi (by omega)) (v := .int (nI (ftX i))) (by rw [nI_clamp (by omega)]) dJ1_charAt_3b067_8 ?_
  refine lv_sipush (v := nI 255) hx hb dJ1_charAt_3b067_9 (by decide) ?_
  refine lv_iand hx hb dJ1_charAt_3b067_12 ?_
  have h9 := ft_all i hi
  rw [nx_and, h9.1]
  refine lv_i2c (v := nI (ftX i)) hx hb dJ1_charAt_3b067_13 (i2c_e (by omega)) ?_
  exact ret_z hx hb hr hlocks (post := fun r _ => r = nI (ftX i)) (congrArg Value.int (i2c_e (by omega))) hK hP hD hS dJ1_charAt_3b067_14 rfl rfl
set_option maxHeartbeats 4000000 in
set_option maxRecDepth 100000 in
theorem k_J0_charAt {l : Launch} {D : va_G} {cI cC cB : ClassId} {kA vA : Nat} {fA : Option Nat} {i : Nat} (hi : i < 54) : MSi l yJ0_charAt_5068e cJ0_charAt_5068e 2 (some .char) 3 D (Ty3 cI cC cB) [.ref kA, .int (nI i)] (stE kA vA fA) (nI (ftX i)) := by
  refine MG.walk (by decide +kernel) (Nat.le_of_ble_eq_true rfl) ?_
  intro p e s m below meth c A F hin hK hP hD hS hA hE ls hl
  obtain ⟨hx, hb, hr, hml, hts, hown, hlocks⟩ := F
  have hown : s.vm.findClass "java/lang/String" = some m.cls := hown
  have hl : lv_has ls 2 [(0, .ref kA), (1, .int (nI i))] := hl
  obtain ⟨hE0, hE1, hE2, hE3, hE4, hE5, hE6, hE7⟩ := id hE
  refine lv_aload_n hx hb dJ0_charAt_5068e_0 rfl (lv_at hl 0 rfl) ?_
  obtain ⟨cellk, k1, k2, k3, k4⟩ := hE2.kept hS.2.1
  refine go_i (post := fun r _ => r = (1)) (va_runV (As := []) (rest := []) ⟨hx, hb, hml, hown, hts⟩ (k_J0_isLatin1 _) ⟨callC_w (n := 0) hts  tw_233 tw_8 tw_230 ⟨⟨by decide +kernel, by decide +kernel⟩, by decide +kernel⟩ ⟨Nat.le_of_ble_eq_true rfl, Nat.le_of_ble_eq_true rfl⟩, hts _ tw_231, hts _ tw_232⟩ ⟨blindG stE_ok, ⟨cellk, k1, k2, k3⟩, (preG_of (As := [.ref kA]) stE_ok hE hK hP hD hS hA [] rfl rfl).2⟩ rfl rfl hl.1 rfl (lv_room (Nat.le_of_ble_eq_true rfl)) dJ0_charAt_5068e_1 ⟨Nat.zero_le _, Nat.zero_le _⟩) hP hD hS hA [] rfl (fun r u H locs hq hP hD hS => ?_)
  subst hq
  rw [pa_0] at hP hD
  refine lv_if_eq (tgt := 16) hx hb dJ0_charAt_5068e_4 (by decide) (fun h1 => ?_) (fun h1 => ?_)
  · exact absurd h1 (by decide)
  refine lv_aload_n hx hb dJ0_charAt_5068e_7 rfl (lv_at hl 0 rfl) ?_
  refine vk_getf hx hb hE4 hS hown (hts _ tw_1094) (fun _ h => h) dJ0_charAt_5068e_8 ?_
  refine lv_iload_n hx hb dJ0_charAt_5068e_11 rfl (lv_at hl 1 rfl) ?_
  refine go_i (post := fun r _ => r = (nI (ftX i))) (va_runS (As := [.ref vA, .int (nI i)]) (rest := []) ⟨hx, hb, hml, hown, hts⟩ (k_J1_charAt hi _) ⟨callC_w (n := 2) hts  tw_236 tw_9 tw_234 ⟨⟨by decide +kernel, by decide +kernel⟩, by decide +kernel⟩ ⟨Nat.le_of_ble_eq_true rfl, Nat.le_of_ble_eq_true rfl⟩, hts _ tw_235⟩ (preG_of stE_ok hE hK hP hD hS hA [] rfl rfl) rfl rfl hl.1 rfl (lv_room (Nat.le_of_ble_eq_true rfl)) dJ0_charAt_5068e_12 ⟨Nat.zero_le _, Nat.zero_le _⟩) hP hD hS hA [] rfl (fun r u H locs hq hP hD hS => ?_)
  subst hq
  rw [pa_0] at hP hD
  have h9 := ft_all i hi
  exact ret_z hx hb hr hlocks (post := fun r _ => r = nI (ftX i)) (congrArg Value.int (i2c_e (by omega))) hK hP hD hS dJ0_charAt_5068e_15 rfl rfl

/-! contracts of what makes cells: so many cells of so many slots; an environment that stays -/
def rmC (k mc ms : Nat) : Room := { frames := k, cells := mc, slots := ms, locals := 40 * k }
abbrev EnvT : Type := (Nat → Prop) → State → Heap → Prop
def EOk (E : EnvT) : Prop := (∀ (A : Nat → Prop) (U : State) (g : JFrame) (mk : MethodId) (a : Array Value) (H : Heap), E A U H → E A (U.calling g mk a) H) ∧ ∀ (A B : Nat → Prop) (s U : State) (H H1 : Heap), s.WarmedH U.vm → (∀ q : Nat, q < H.size → ¬ A q → H1[q]? = H[q]?) → (∀ q, B q → A q) → E A s H → E B U H1
def noE : EnvT := fun _ _ _ => True
theorem noE_ok : EOk noE := ⟨fun _ _ _ _ _ _ _ => trivial, fun _ _ _ _ _ _ _ _ _ _ => trivial⟩
def MG (l : Launch) (y : MethodName) (b : ByteArray) (n : Nat) (ret : Option FieldType) (k mc ms : Nat) (D : va_G) (TY : List (ClassId × FieldType)) (av : List Value) (ws : va_W) (E : EnvT) (Q : (Nat → Prop) → Array Value → State → Outcome → State → Prop) : Prop :=
  ∀ sz : Nat, Met l y (.code y b n ret :: WALL) (rmC k mc ms) (va_Pc av (fun U => preW D TY ws sz U ∧ E (va_A ws sz) U U.heap)) (Q (va_A ws sz)) mc ms (va_A ws sz)
theorem MG.walk {l : Launch} {y : MethodName} {b : ByteArray} {n : Nat} {ret : Option FieldType} {k mc ms : Nat} {D : va_G} {TY : List (ClassId × FieldType)} {av : List Value} {ws : va_W} {E : EnvT} {Q : (Nat → Prop) → Array Value → State → Outcome → State → Prop}
    (hy : plainName y.cls = true) (hs : (lg_sl av).length ≤ n)
    (body : ∀ (p : Program) (e : Env) (s : State) (m : MethodId) (below : List Frame) (meth : Method) (c : Code) (A : Nat → Prop), Fix p s m meth c y b n ret av → meth.name = y.name → va_K D vwCl TY s → va_P D vwCl ws s.heap → va_D A ws → va_S A s.heap s.heap [] → (∀ q : Nat, s.heap.size ≤ q → A q) → E A s s.heap →
      ∀ ls : Array Slot, lv_has ls n (lv_args 0 av) → W p l e (rmC k mc ms) s m av.toArray below meth c s.heap [] 0 0 (MQ below (Q A) av.toArray s mc ms A) (F0 m 0 ls [])) :
    MG l y b n ret k mc ms D TY av ws E Q := by
  intro sz
  refine Met.ofW (cc := b) (maxL := n) (ret := ret) hy rfl ?_
  intro p e s m args below meth c s₁ B hml hv
  obtain ⟨rfl, ⟨hsz, hP, hK, hD0⟩, hE⟩ := hv
  have hts := atoms_spec (ws := .code y b n ret :: WALL) B.pre
  subst hsz
  rw [lg_entry_eq]
  exact body p e s m below meth c (va_A ws s.heap.size) ⟨B.exec, B.bytes, B.returns, hml, fun w h => hts w (List.mem_cons_of_mem _ h), findClass_of_methodNamed B.named, B.notSynchronized⟩ (name_of_methodNamed B.named B.method).1 hK hP hD0.self va_S.rf (fun q h => Or.inr h) hE _ (lv_entry av hs)
def MC (l : Launch) (y : MethodName) (b : ByteArray) (n k mc ms : Nat) (D : va_G) (TY : List (ClassId × FieldType)) (av : List Value) (ws : va_W) (E : EnvT) (post : va_W → Prop) : Prop :=
  MG l y b n none k mc ms D TY av ws E (fun A => va_Qv post (posW D TY A) A)
def MSi (l : Launch) (y : MethodName) (b : ByteArray) (n : Nat) (ret : Option FieldType) (k : Nat) (D : va_G) (TY : List (ClassId × FieldType)) (av : List Value) (E : EnvT) (r0 : Int32) : Prop :=
  MG l y b n ret k 0 0 D TY av [] E (fun A => va_Qi (fun r u => r = r0 ∧ sameA [] u) (posW D TY A) A)
def MSv (l : Launch) (y : MethodName) (b : ByteArray) (n : Nat) (k : Nat) (D : va_G) (TY : List (ClassId × FieldType)) (av : List Value) (E : EnvT) : Prop :=
  MG l y b n none k 0 0 D TY av [] E (fun A => va_Qv (fun u => True ∧ sameA [] u) (posW D TY A) A)
section KIB
variable {p : Program} {l : Launch} {e : Env} {R : Room} {s : State} {m : MethodId} {args : Array Value} {below : List Frame} {meth : Method} {c : Code} {H : Heap} {locs : List Loc} {cells slots : Nat} {Q : State → Prop}
variable {cc : ByteArray} {pc : Nat} {ls : Array Slot} {rest : List Value} {D : va_G} {TY : List (ClassId × FieldType)} {A : Nat → Prop} {ws u wc wr : va_W} {H0 : Heap} {st0 : List Value} {a : Array Value} {A0 : Nat → Prop} {E : EnvT}
theorem ret_c (hx : p.tables.exec = Jvm.exec) (hb : c.code = cc) (hr : meth.sig.returnType = none) (hlocks : meth.locks = false) {post : va_W → Prop} (hK : va_K D vwCl TY s) (hP : va_P D vwCl u H) (hD : va_D A u) (hS : va_S A s.heap H locs) (hdg : decode cc pc = .ok (.return_, 1)) (hp : post u) :
    W p l e R s m args below meth c H locs cells slots (MQ below (va_Qv post (posW D TY A) A) args s cells slots A) (F0 m pc ls []) :=
  W.vret hx hb hr (fun t ht hW => ⟨⟨u, rfl, hp, by rw [ht]; exact hP, va_K.moved hW.alike hK, hD⟩, hS.F ht⟩) hS.2.2 hdg
theorem blindG (hE : EOk E) {av : List Value} {sz : Nat} : FrameBlind (va_Pc av (fun U => preW D TY wc sz U ∧ E (va_A wc sz) U U.heap)) := fun a U g mk q => by
  obtain ⟨q0, ⟨q1, qP, qK, qD⟩, qE⟩ := q
  exact ⟨q0, ⟨q1, qP, va_K.moved (u := U) (U := U.calling g mk a) (Vm.Alike.refl U.vm) qK, qD⟩, hE.1 _ U g mk a _ qE⟩
theorem preG_of (hEk : EOk E) (hE : E A0 s s.heap) {As : List Value} (hK : va_K D vwCl TY s) (hP : va_P D vwCl ws H) (hD : va_D A0 ws) (hS : va_S A0 s.heap H locs) (hA : ∀ q : Nat, s.heap.size ≤ q → A0 q) (isC : List Nat) (hC : isC.map (fun i => ws[i]?) = wc.map some) (hn : va_nd isC = true) : PreS s H (va_Pc As (fun U => preW D TY wc H.size U ∧ E (va_A wc H.size) U U.heap)) As := by
  refine ⟨blindG hEk, fun U hU hW => ⟨rfl, ((preS_of (As := As) hK hP hD isC hC hn).2 U hU hW).2, ?_⟩⟩
  exact hEk.2 A0 _ s U s.heap U.heap hW (fun q h1 h2 => by rw [hU]; exact hS.2.1 q h1 h2) (va_free hD hS hA isC hC) hE
theorem callC_w {own : String} {index k mc ms n maxL : Nat} {y : MethodName} {bytes : ByteArray} {ret : Option FieldType} (hts : ∀ w ∈ WALL, w.before args s = true) (hcode : Cond.code y bytes maxL ret ∈ WALL) (hini : Cond.initialized y.cls ∈ WALL) (hl : Cond.methodLink own index y ∈ WALL)
    (hd : (y.cls ≠ "java/lang/invoke/MethodHandle" ∧ y.cls ≠ "java/lang/invoke/VarHandle") ∧ (parseMethodDescriptor y.desc).map (fun d => d.parameters.length) = some n) (hR : k + 1 ≤ R.frames ∧ 8 + (maxL + 11) + 40 * k ≤ R.locals) :
    CallB R s args own index y bytes maxL ret (.code y bytes maxL ret :: WALL) (rmC k mc ms) mc ms n := by
  refine ⟨rfl, rfl, hR.1, hR.2, fun w hw => ?_, List.mem_cons_self, hts _ hcode, hts _ hini, hd.1, fun sig h => ?_, hts _ hl⟩
  · rcases List.mem_cons.mp hw with rfl | hw
    · exact wall_pay hts _ hcode
    · exact wall_pay hts _ hw
  · have h2 := hd.2
    rw [h] at h2
    exact (Option.some.inj h2).symm
theorem callCN_w {own host : String} {index k mc ms n maxL : Nat} {y : MethodName} {bytes : ByteArray} {ret : Option FieldType} (hts : ∀ w ∈ WALL, w.before args s = true) (hcode : Cond.code y bytes maxL ret ∈ WALL) (hini : Cond.initialized y.cls ∈ WALL) (hl : Cond.methodLinkNest own index y host ∈ WALL)
    (hd : (y.cls ≠ "java/lang/invoke/MethodHandle" ∧ y.cls ≠ "java/lang/invoke/VarHandle") ∧ (parseMethodDescriptor y.desc).map (fun d => d.parameters.length) = some n) (hR : k + 1 ≤ R.frames ∧ 8 + (maxL + 11) + 40 * k ≤ R.locals) :
    va_CN R s args own index y host bytes maxL ret (.code y bytes maxL ret :: WALL) (rmC k mc ms) mc ms n := by
  refine ⟨⟨rfl, rfl, hR.1, hR.2, fun w hw => ?_, List.mem_cons_self⟩, hts _ hcode, hts _ hini, hd.1, fun sig h => ?_, hts _ hl⟩
  · rcases List.mem_cons.mp hw with rfl | hw
    · exact wall_pay hts _ hcode
    · exact wall_pay hts _ hw
  · have h2 := hd.2
    rw [h] at h2
    exact (Option.some.inj h2).symm
/-- the last cells are the callee's: the others stay ahead of what comes back -/
theorem put_last (wr : va_W) : ∀ (w : va_W), (List.range' wr.length w.length).map (fun i => (wr ++ w)[i]?) = w.map some ∧ (List.range wr.length).map (fun i => (wr ++ w)[i]?) = wr.map some := by
  intro w
  constructor
  · refine List.ext_getElem? (fun i => ?_)
    rw [List.getElem?_map, List.getElem?_map]
    by_cases h : i < w.length
    · rw [List.getElem?_range' h]
      simp [List.getElem?_append_right, h]
    · rw [List.getElem?_eq_none (by simpa using h)]
      simp [h]
  · refine List.ext_getElem? (fun i => ?_)
    rw [List.getElem?_map, List.getElem?_map]
    by_cases h : i < wr.length
    · rw [List.getElem?_range h]
      simp [List.getElem?_append_left, h]
    · rw [List.getElem?_eq_none (by simpa using h)]
      simp [h]
theorem nd_of {is : List Nat} (h : is.Nodup) : va_nd is = true := by
  induction is with
  | nil => rfl
  | cons i is ih =>
    rw [List.nodup_cons] at h
    simp [va_nd, ih h.2, h.1]
theorem nd_range' (k : Nat) : ∀ n, va_nd (List.range' k n) = true := fun n => nd_of List.nodup_range'
theorem nd_range (n : Nat) : va_nd (List.range n) = true := nd_of List.nodup_range
theorem go_c {post : va_W → Prop} {mc ms : Nat} (hP : va_P D vwCl (wr ++ wc) H) (hD : va_D A0 (wr ++ wc)) (hS : va_S A0 H0 H locs) (hA : ∀ q : Nat, H0.size ≤ q → A0 q)
    (hr : va_Run p l e R s m args below meth c H locs cells slots mc ms (F0 m pc ls st0) rest (va_Qv post (posW D TY (va_A wc H.size)) (va_A wc H.size) a) (va_A wc H.size))
    (kk : ∀ (u : va_W) (H1 : Heap) (locs1 : List Loc), post u → va_P D vwCl (wr ++ u) H1 → va_D A0 (wr ++ u) → va_S A0 H0 H1 locs1 → W p l e R s m args below meth c H1 locs1 (cells + mc) (slots + ms) Q (F0 m (pc + 3) ls rest)) :
    W p l e R s m args below meth c H locs cells slots Q (F0 m pc ls st0) := by
  have hF := va_free (wc := wc) hD hS hA _ (put_last wr wc).1
  refine va_callv hr hS (fun q _ h => hF q h) hF (fun u t H1 locs1 ht hvm hw hB hz hk hS1 => ?_)
  obtain ⟨hP1, -, hD1⟩ := hB
  rw [ht] at hP1
  obtain ⟨g1, g2⟩ := va_join hP hD _ _ (put_last wr wc).1 (put_last wr wc).2 (nd_range _) (fun i h1 h2 => by
    rw [List.mem_range] at h1
    rw [List.mem_range'_1] at h2
    omega) hk hF hP1 hD1
  exact kk u H1 locs1 hw g1 g2 hS1
/-! new rows -/
def zeF : Nat → Nat := fun _ => 0
theorem n_newi (hx : p.tables.exec = Jvm.exec) (hb : c.code = cc) (harr : (Cond.arrayClass .int).before args s = true) (hK : va_K D vwCl TY s) {cA : ClassId} (t0 : Nat) (ht : TY[t0]? = some (cA, .int)) (hP : va_P D vwCl ws H) (hD : va_D A ws) (hS : va_S A H0 H locs) (hA : ∀ q : Nat, H0.size ≤ q → A q) {n : Nat} (hn : n < 100000) (hcells : cells + 1 ≤ R.cells) (hslots : slots + n ≤ R.slots) (hdg : decode cc pc = .ok (.newarray .int, 2))
    (kk : ∀ (q : Nat) (H1 : Heap), va_P D vwCl (ws ++ [(q, .inl (cA, n, .inl (fun z_ => nI (zeF z_))))]) H1 → va_D A (ws ++ [(q, .inl (cA, n, .inl (fun z_ => nI (zeF z_))))]) → va_S A H0 H1 locs → W p l e R s m args below meth c H1 locs (cells + 1) (slots + n) Q (F0 m (pc + 2) ls (.ref q :: rest))) :
    W p l e R s m args below meth c H locs cells slots Q (F0 m pc ls (.int (nI n) :: rest)) := by
  refine va_newa (atype := .int) (ty := .int) hx hb harr rfl hK hP hD hS hA (N' := n) (a0 := (n, .inl (fun z_ => nI (zeF z_)))) (fun cB => by rw [vp_cell_i]; rfl) (nI_pos (by omega)) (nI_clamp (by omega)) (by show n * 4 ≤ 536870912; omega) hcells hslots hdg (fun q c2 H1 hK2 hP2 hD2 hS2 => ?_)
  have h1 : va_RA s c2 .int := (hK2.2 TY.length (c2, .int) (by simp)).2
  have h2 : va_RA s cA .int := (hK.2 t0 _ ht).2
  have h3 : c2 = cA := Option.some.inj ((show _ = some c2 from h1).symm.trans (show _ = some cA from h2))
  subst h3
  exact kk q H1 hP2 hD2 hS2
theorem n_newc (hx : p.tables.exec = Jvm.exec) (hb : c.code = cc) (harr : (Cond.arrayClass .char).before args s = true) (hK : va_K D vwCl TY s) {cA : ClassId} (t0 : Nat) (ht : TY[t0]? = some (cA, .char)) (hP : va_P D vwCl ws H) (hD : va_D A ws) (hS : va_S A H0 H locs) (hA : ∀ q : Nat, H0.size ≤ q → A q) {n : Nat} (hn : n < 100000) (hcells : cells + 1 ≤ R.cells) (hslots : slots + n ≤ R.slots) (hdg : decode cc pc = .ok (.newarray .char, 2))
    (kk : ∀ (q : Nat) (H1 : Heap), va_P D vwCl (ws ++ [(q, .inl (cA, n, .inl (fun z_ => nI (zeF z_))))]) H1 → va_D A (ws ++ [(q, .inl (cA, n, .inl (fun z_ => nI (zeF z_))))]) → va_S A H0 H1 locs → W p l e R s m args below meth c H1 locs (cells + 1) (slots + n) Q (F0 m (pc + 2) ls (.ref q :: rest))) :
    W p l e R s m args below meth c H locs cells slots Q (F0 m pc ls (.int (nI n) :: rest)) := by
  refine va_newa (atype := .char) (ty := .char) hx hb harr rfl hK hP hD hS hA (N' := n) (a0 := (n, .inl (fun z_ => nI (zeF z_)))) (fun cB => by rw [vp_cell_i]; rfl) (nI_pos (by omega)) (nI_clamp (by omega)) (by show n * 2 ≤ 536870912; omega) hcells hslots hdg (fun q c2 H1 hK2 hP2 hD2 hS2 => ?_)
  have h1 : va_RA s c2 .char := (hK2.2 TY.length (c2, .char) (by simp)).2
  have h2 : va_RA s cA .char := (hK.2 t0 _ ht).2
  have h3 : c2 = cA := Option.some.inj ((show _ = some c2 from h1).symm.trans (show _ = some cA from h2))
  subst h3
  exact kk q H1 hP2 hD2 hS2
theorem n_newq (hx : p.tables.exec = Jvm.exec) (hb : c.code = cc) {own C : String} {index : Nat} (hown : s.vm.findClass own = some m.cls) (hlink : (Cond.classLink own index C).before args s = true) (hover : va_AO C s) (hK : va_K D vwCl TY s) {cA : ClassId} (t0 : Nat) (ht : TY[t0]? = some (cA, .object C)) (hP : va_P D vwCl ws H) (hD : va_D A ws) (hS : va_S A H0 H locs) (hA : ∀ q : Nat, H0.size ≤ q → A q) {n : Nat} (hn : n < 100000) (hcells : cells + 1 ≤ R.cells) (hslots : slots + n ≤ R.slots) (hdg : decode cc pc = .ok (.anewarray index, 3))
    (kk : ∀ (q : Nat) (H1 : Heap), va_P D vwCl (ws ++ [(q, .inl (cA, n, .inr (.inr (.inr (.inr (fun _ => none))))))]) H1 → va_D A (ws ++ [(q, .inl (cA, n, .inr (.inr (.inr (.inr (fun _ => none))))))]) → va_S A H0 H1 locs → W p l e R s m args below meth c H1 locs (cells + 1) (slots + n) Q (F0 m (pc + 3) ls (.ref q :: rest))) :
    W p l e R s m args below meth c H locs cells slots Q (F0 m pc ls (.int (nI n) :: rest)) := by
  refine va_newq hx hb hown hlink hover hK hP hD hS hA (N' := n) (nI_pos (by omega)) (nI_clamp (by omega)) (by omega) hcells hslots hdg (fun q c2 H1 hK2 hP2 hD2 hS2 => ?_)
  obtain ⟨_, _, _, _, _, h1⟩ : va_RA s c2 (.object C) := (hK2.2 TY.length (c2, .object C) (by simp)).2
  obtain ⟨_, _, _, _, _, h2⟩ : va_RA s cA (.object C) := (hK.2 t0 _ ht).2
  have h3 : c2 = cA := Option.some.inj (h1.symm.trans h2)
  subst h3
  exact kk q H1 hP2 hD2 hS2
end KIB

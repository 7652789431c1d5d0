/-! the kit of this proof: one shape of contract, rows over numbers -/
abbrev Ty3 (cI cC cB : ClassId) : List (ClassId × FieldType) := [(cI, .int), (cC, .char), (cB, .object "CrankedExcuse$Box")]
def rmL (k : Nat) : Room := { frames := k, cells := 0, slots := 0, locals := 40 * k }
/-- the cells at the places 'is' become 'es' -/
def putAll : va_W → List Nat → va_W → va_W
  | ws, [], _ => ws
  | ws, _ :: _, [] => ws
  | ws, i :: is, e :: es => putAll (ws.set i e) is es
theorem putAll_spec : ∀ (is : List Nat) (es ws : va_W) (k : Nat) (q : Nat × va_E), es.length = is.length → (putAll ws is es)[k]? = some q →
    (∃ j : Nat, is[j]? = some k ∧ es[j]? = some q) ∨ (k ∉ is ∧ ws[k]? = some q)
  | [], _, ws, k, q, _, h => Or.inr ⟨List.not_mem_nil, by simpa only [putAll] using h⟩
  | i :: is, [], ws, k, q, hl, h => by cases hl
  | i :: is, e :: es, ws, k, q, hl, h => by
    have hl' : es.length = is.length := by simpa using hl
    rcases putAll_spec is es (ws.set i e) k q hl' h with ⟨j, h1, h2⟩ | ⟨h1, h2⟩
    · exact Or.inl ⟨j + 1, by simpa using h1, by simpa using h2⟩
    · by_cases hk : i = k
      · subst hk
        have hi : i < ws.length := by
          have := (List.getElem?_eq_some_iff.mp h2).1
          simpa using this
        rw [List.getElem?_set_self hi] at h2
        exact Or.inl ⟨0, rfl, by simpa using h2⟩
      · rw [List.getElem?_set_ne hk] at h2
        exact Or.inr ⟨by simp [h1, Ne.symm hk], h2⟩
/-- behind a call: the callee's cells stand at their places, the others are as they were -/
theorem put_join {A0 : Nat → Prop} {D : va_G} {cl : List vw_C} {ws wc w1 : va_W} {H H1 : Heap} (hP : va_P D cl ws H) (hD : va_D A0 ws) (isC : List Nat) (hC : isC.map (fun i => ws[i]?) = wc.map some)
    (hk : ∀ q : Nat, q < H.size → ¬ va_A wc H.size q → H1[q]? = H[q]?) (hF : ∀ q, va_A wc H.size q → A0 q) (hP1 : va_P D cl w1 H1) (ha : w1.map Prod.fst = wc.map Prod.fst) : va_P D cl (putAll ws isC w1) H1 ∧ va_D A0 (putAll ws isC w1) := by
  have hlen : w1.length = isC.length := by
    have h1 := congrArg List.length ha
    have h2 := congrArg List.length hC
    simp at h1 h2
    omega
  have atC : ∀ (j k : Nat) (q : Nat × va_E), isC[j]? = some k → w1[j]? = some q → ∃ q' : Nat × va_E, ws[k]? = some q' ∧ wc[j]? = some q' ∧ q'.1 = q.1 := by
    intro j k q h1 h2
    have e1 : (isC.map (fun i => ws[i]?))[j]? = some (ws[k]?) := by rw [List.getElem?_map, h1]; rfl
    rw [hC, List.getElem?_map] at e1
    cases hw : wc[j]? with
    | none => rw [hw] at e1; cases e1
    | some q' =>
      rw [hw] at e1
      have e2 : (w1.map Prod.fst)[j]? = some q.1 := by rw [List.getElem?_map, h2]; rfl
      rw [ha, List.getElem?_map, hw] at e2
      exact ⟨q', (Option.some.inj e1).symm, rfl, Option.some.inj e2⟩
  have adr : ∀ (k : Nat) (q : Nat × va_E), (putAll ws isC w1)[k]? = some q → ∃ q' : Nat × va_E, ws[k]? = some q' ∧ q'.1 = q.1 := by
    intro k q h
    rcases putAll_spec isC w1 ws k q hlen h with ⟨j, h1, h2⟩ | ⟨-, h2⟩
    · obtain ⟨q', a, -, b⟩ := atC j k q h1 h2
      exact ⟨q', a, b⟩
    · exact ⟨q, h2, rfl⟩
  refine ⟨fun k q h => ?_, fun i j p q hi hj hpq => ?_, fun k q h => ?_⟩
  · rcases putAll_spec isC w1 ws k q hlen h with ⟨j, h1, h2⟩ | ⟨h1, h2⟩
    · exact hP1 j q h2
    · refine (hP k q h2).kept (hk q.1 (hP k q h2).lt fun hz => ?_)
      rcases hz with ⟨k2, e, hz⟩ | hz
      · have e1 : (wc.map some)[k2]? = some (some (q.1, e)) := by rw [List.getElem?_map, hz]; rfl
        rw [← hC, List.getElem?_map] at e1
        cases hi : isC[k2]? with
        | none => rw [hi] at e1; cases e1
        | some i =>
          rw [hi] at e1
          have hik := hD.1 i k (q.1, e) q (Option.some.inj e1) h2 rfl
          subst hik
          exact h1 (List.mem_of_getElem? hi)
      · exact absurd (hP k q h2).lt (Nat.not_lt.mpr hz)
  · obtain ⟨p', a1, b1⟩ := adr i p hi
    obtain ⟨q', a2, b2⟩ := adr j q hj
    exact hD.1 i j p' q' a1 a2 (by rw [b1, b2, hpq])
  · obtain ⟨q', a1, b1⟩ := adr k q h
    rw [← b1]
    exact hD.2 k q' a1
abbrev preW (D : va_G) (TY : List (ClassId × FieldType)) (ws : va_W) (sz : Nat) : State → Prop := fun U => U.heap.size = sz ∧ va_P D vwCl ws U.heap ∧ va_K D vwCl TY U ∧ va_D (fun _ => True) ws
abbrev posW (D : va_G) (TY : List (ClassId × FieldType)) (A : Nat → Prop) : va_W → State → Prop := fun u t => va_P D vwCl u t.heap ∧ va_K D vwCl TY t ∧ va_D A u
abbrev sameA (ws u : va_W) : Prop := u.map Prod.fst = ws.map Prod.fst
/-- contracts: the cells ws when it begins; what it answers (an int, none, a long, a reference), and its cells then; nothing else changes, nothing is made -/
def MI (l : Launch) (y : MethodName) (b : ByteArray) (n : Nat) (ret : Option FieldType) (k : Nat) (D : va_G) (TY : List (ClassId × FieldType)) (av : List Value) (ws : va_W) (post : Int32 → va_W → Prop) : Prop :=
  ∀ sz : Nat, Met l y (.code y b n ret :: WALL) (rmL k) (va_Pc av (preW D TY ws sz)) (va_Qi (fun r u => post r u ∧ sameA ws u) (posW D TY (va_A ws sz)) (va_A ws sz)) 0 0 (va_A ws sz)
def ML (l : Launch) (y : MethodName) (b : ByteArray) (n : Nat) (ret : Option FieldType) (k : Nat) (D : va_G) (TY : List (ClassId × FieldType)) (av : List Value) (ws : va_W) (post : Int64 → va_W → Prop) : Prop :=
  ∀ sz : Nat, Met l y (.code y b n ret :: WALL) (rmL k) (va_Pc av (preW D TY ws sz)) (va_Ql (fun r u => post r u ∧ sameA ws u) (posW D TY (va_A ws sz)) (va_A ws sz)) 0 0 (va_A ws sz)
def MV (l : Launch) (y : MethodName) (b : ByteArray) (n : Nat) (ret : Option FieldType) (k : Nat) (D : va_G) (TY : List (ClassId × FieldType)) (av : List Value) (ws : va_W) (post : va_W → Prop) : Prop :=
  ∀ sz : Nat, Met l y (.code y b n ret :: WALL) (rmL k) (va_Pc av (preW D TY ws sz)) (va_Qv (fun u => post u ∧ sameA ws u) (posW D TY (va_A ws sz)) (va_A ws sz)) 0 0 (va_A ws sz)
def MQr (l : Launch) (y : MethodName) (b : ByteArray) (n : Nat) (ret : Option FieldType) (k : Nat) (D : va_G) (TY : List (ClassId × FieldType)) (av : List Value) (ws : va_W) (post : Option Nat → va_W → Prop) : Prop :=
  ∀ sz : Nat, Met l y (.code y b n ret :: WALL) (rmL k) (va_Pc av (preW D TY ws sz)) (va_Qq (fun r u => post r u ∧ sameA ws u) (posW D TY (va_A ws sz)) (va_A ws sz)) 0 0 (va_A ws sz)
/-- what stands throughout a method's walk -/
abbrev Fix (p : Program) (s : State) (m : MethodId) (meth : Method) (c : Code) (y : MethodName) (b : ByteArray) (n : Nat) (ret : Option FieldType) (av : List Value) : Prop :=
  p.tables.exec = Jvm.exec ∧ c.code = b ∧ meth.sig.returnType = ret ∧ c.maxLocals = n ∧ (∀ w ∈ WALL, w.before av.toArray s = true) ∧ s.vm.findClass y.cls = some m.cls ∧ meth.locks = false
theorem Met.walk {l : Launch} {y : MethodName} {b : ByteArray} {n : Nat} {ret : Option FieldType} {k : Nat} {D : va_G} {TY : List (ClassId × FieldType)} {av : List Value} {ws : va_W} {sz : Nat} {Q : (Nat → Prop) → Array Value → State → Outcome → State → Prop}
    (hy : plainName y.cls = true) (hs : (lg_sl av).length ≤ n)
    (body : ∀ (p : Program) (e : Env) (s : State) (m : MethodId) (below : List Frame) (meth : Method) (c : Code) (A : Nat → Prop), Fix p s m meth c y b n ret av → va_K D vwCl TY s → va_P D vwCl ws s.heap → va_D A ws → va_S A s.heap s.heap [] → (∀ q : Nat, s.heap.size ≤ q → A q) →
      ∀ ls : Array Slot, lv_has ls n (lv_args 0 av) → W p l e (rmL k) s m av.toArray below meth c s.heap [] 0 0 (MQ below (Q A) av.toArray s 0 0 A) (F0 m 0 ls [])) :
    Met l y (.code y b n ret :: WALL) (rmL k) (va_Pc av (preW D TY ws sz)) (Q (va_A ws sz)) 0 0 (va_A ws sz) := by
  refine Met.ofW (cc := b) (maxL := n) (ret := ret) hy rfl ?_
  intro p e s m args below meth c s₁ B hml hv
  obtain ⟨rfl, hsz, hP, hK, hD0⟩ := hv
  have hts := atoms_spec (ws := .code y b n ret :: WALL) B.pre
  subst hsz
  rw [lg_entry_eq]
  exact body p e s m below meth c (va_A ws s.heap.size) ⟨B.exec, B.bytes, B.returns, hml, fun w h => hts w (List.mem_cons_of_mem _ h), findClass_of_methodNamed B.named, B.notSynchronized⟩ hK hP hD0.self va_S.rf (fun q h => Or.inr h) _ (lv_entry av hs)
section KIT
variable {p : Program} {l : Launch} {e : Env} {R : Room} {s : State} {m : MethodId} {args : Array Value} {below : List Frame} {meth : Method} {c : Code} {H : Heap} {locs : List Loc} {cells slots : Nat} {Q : State → Prop}
variable {cc : ByteArray} {pc : Nat} {ls : Array Slot} {rest : List Value} {D : va_G} {TY : List (ClassId × FieldType)} {A : Nat → Prop} {ws u : va_W} {H0 : Heap}
theorem ret_i (hx : p.tables.exec = Jvm.exec) (hb : c.code = cc) (hr : meth.sig.returnType = some .int) (hlocks : meth.locks = false) {v : Int32} {post : Int32 → va_W → Prop} (hK : va_K D vwCl TY s) (hP : va_P D vwCl u H) (hD : va_D A u) (hS : va_S A s.heap H locs) (hdg : decode cc pc = .ok (.ireturn, 1)) (ha : sameA ws u) (hp : post v u) :
    W p l e R s m args below meth c H locs 0 0 (MQ below (va_Qi (fun r u => post r u ∧ sameA ws u) (posW D TY A) A) args s 0 0 A) (F0 m pc ls [.int v]) :=
  W.iret hx hb hr (fun t ht hW => ⟨⟨v, u, rfl, ⟨hp, ha⟩, by rw [ht]; exact hP, va_K.moved hW.alike hK, hD⟩, hS.F ht⟩) hS.2.2 hdg
theorem ret_z (hx : p.tables.exec = Jvm.exec) (hb : c.code = cc) {ty : FieldType} (hr : meth.sig.returnType = some ty) (hlocks : meth.locks = false) {v : Int32} {post : Int32 → va_W → Prop} (hn : narrow ty (.int v) = .int v) (hK : va_K D vwCl TY s) (hP : va_P D vwCl u H) (hD : va_D A u) (hS : va_S A s.heap H locs) (hdg : decode cc pc = .ok (.ireturn, 1)) (ha : sameA ws u) (hp : post v u) :
    W p l e R s m args below meth c H locs 0 0 (MQ below (va_Qi (fun r u => post r u ∧ sameA ws u) (posW D TY A) A) args s 0 0 A) (F0 m pc ls [.int v]) :=
  W.zret hx hb hr hn (fun t ht hW => ⟨⟨v, u, rfl, ⟨hp, ha⟩, by rw [ht]; exact hP, va_K.moved hW.alike hK, hD⟩, hS.F ht⟩) hS.2.2 hdg
theorem ret_v (hx : p.tables.exec = Jvm.exec) (hb : c.code = cc) (hr : meth.sig.returnType = none) (hlocks : meth.locks = false) {post : va_W → Prop} (hK : va_K D vwCl TY s) (hP : va_P D vwCl u H) (hD : va_D A u) (hS : va_S A s.heap H locs) (hdg : decode cc pc = .ok (.return_, 1)) (ha : sameA ws u) (hp : post u) :
    W p l e R s m args below meth c H locs 0 0 (MQ below (va_Qv (fun u => post u ∧ sameA ws u) (posW D TY A) A) args s 0 0 A) (F0 m pc ls []) :=
  W.vret hx hb hr (fun t ht hW => ⟨⟨u, rfl, ⟨hp, ha⟩, by rw [ht]; exact hP, va_K.moved hW.alike hK, hD⟩, hS.F ht⟩) hS.2.2 hdg
theorem ret_l (hx : p.tables.exec = Jvm.exec) (hb : c.code = cc) (hr : meth.sig.returnType = some .long) (hlocks : meth.locks = false) {v : Int64} {post : Int64 → va_W → Prop} (hK : va_K D vwCl TY s) (hP : va_P D vwCl u H) (hD : va_D A u) (hS : va_S A s.heap H locs) (hdg : decode cc pc = .ok (.lreturn, 1)) (ha : sameA ws u) (hp : post v u) :
    W p l e R s m args below meth c H locs 0 0 (MQ below (va_Ql (fun r u => post r u ∧ sameA ws u) (posW D TY A) A) args s 0 0 A) (F0 m pc ls [.long v]) :=
  W.lret hx hb hr (fun t ht hW => ⟨⟨v, u, rfl, ⟨hp, ha⟩, by rw [ht]; exact hP, va_K.moved hW.alike hK, hD⟩, hS.F ht⟩) hS.2.2 hdg
theorem ret_q (hx : p.tables.exec = Jvm.exec) (hb : c.code = cc) {cn : String} (hr : meth.sig.returnType = some (.object cn)) (hlocks : meth.locks = false) {r : Option Nat} {post : Option Nat → va_W → Prop} (hK : va_K D vwCl TY s) (hP : va_P D vwCl u H) (hD : va_D A u) (hS : va_S A s.heap H locs) (hdg : decode cc pc = .ok (.areturn, 1)) (ha : sameA ws u) (hp : post r u) :
    W p l e R s m args below meth c H locs 0 0 (MQ below (va_Qq (fun r u => post r u ∧ sameA ws u) (posW D TY A) A) args s 0 0 A) (F0 m pc ls [va_rf r]) :=
  W.aret hx hb hr (Or.inl ⟨_, rfl⟩) (va_rf_or r) (fun t ht hW => ⟨⟨r, u, rfl, ⟨hp, ha⟩, by rw [ht]; exact hP, va_K.moved hW.alike hK, hD⟩, hS.F ht⟩) hS.2.2 hdg
/-! calls -/
variable {wc : va_W} {st0 : List Value} {a : Array Value} {A0 : Nat → Prop}
theorem go_i {post : Int32 → va_W → Prop} (hr : va_Run p l e R s m args below meth c H locs cells slots 0 0 (F0 m pc ls st0) rest (va_Qi (fun r u => post r u ∧ sameA wc u) (posW D TY (va_A wc H.size)) (va_A wc H.size) a) (va_A wc H.size))
    (hP : va_P D vwCl ws H) (hD : va_D A0 ws) (hS : va_S A0 H0 H locs) (hA : ∀ q : Nat, H0.size ≤ q → A0 q) (isC : List Nat) (hC : isC.map (fun i => ws[i]?) = wc.map some)
    (kk : ∀ (r : Int32) (u : va_W) (H1 : Heap) (locs1 : List Loc), post r u → va_P D vwCl (putAll ws isC u) H1 → va_D A0 (putAll ws isC u) → va_S A0 H0 H1 locs1 → W p l e R s m args below meth c H1 locs1 cells slots Q (F0 m (pc + 3) ls (.int r :: rest))) :
    W p l e R s m args below meth c H locs cells slots Q (F0 m pc ls st0) := by
  have hF := va_free (wc := wc) hD hS hA isC hC
  refine va_calli hr hS (fun q _ h => hF q h) hF (fun r u t H1 locs1 ht hvm hw hB hz hk hS1 => ?_)
  obtain ⟨hP1, -, -⟩ := hB
  rw [ht] at hP1
  obtain ⟨g1, g2⟩ := put_join hP hD isC hC hk hF hP1 hw.2
  exact kk r u H1 locs1 hw.1 g1 g2 hS1
theorem go_l {post : Int64 → va_W → Prop} (hr : va_Run p l e R s m args below meth c H locs cells slots 0 0 (F0 m pc ls st0) rest (va_Ql (fun r u => post r u ∧ sameA wc u) (posW D TY (va_A wc H.size)) (va_A wc H.size) a) (va_A wc H.size))
    (hP : va_P D vwCl ws H) (hD : va_D A0 ws) (hS : va_S A0 H0 H locs) (hA : ∀ q : Nat, H0.size ≤ q → A0 q) (isC : List Nat) (hC : isC.map (fun i => ws[i]?) = wc.map some)
    (kk : ∀ (r : Int64) (u : va_W) (H1 : Heap) (locs1 : List Loc), post r u → va_P D vwCl (putAll ws isC u) H1 → va_D A0 (putAll ws isC u) → va_S A0 H0 H1 locs1 → W p l e R s m args below meth c H1 locs1 cells slots Q (F0 m (pc + 3) ls (.long r :: rest))) :
    W p l e R s m args below meth c H locs cells slots Q (F0 m pc ls st0) := by
  have hF := va_free (wc := wc) hD hS hA isC hC
  refine va_calll hr hS (fun q _ h => hF q h) hF (fun r u t H1 locs1 ht hvm hw hB hz hk hS1 => ?_)
  obtain ⟨hP1, -, -⟩ := hB
  rw [ht] at hP1
  obtain ⟨g1, g2⟩ := put_join hP hD isC hC hk hF hP1 hw.2
  exact kk r u H1 locs1 hw.1 g1 g2 hS1
theorem go_v {post : va_W → Prop} (hr : va_Run p l e R s m args below meth c H locs cells slots 0 0 (F0 m pc ls st0) rest (va_Qv (fun u => post u ∧ sameA wc u) (posW D TY (va_A wc H.size)) (va_A wc H.size) a) (va_A wc H.size))
    (hP : va_P D vwCl ws H) (hD : va_D A0 ws) (hS : va_S A0 H0 H locs) (hA : ∀ q : Nat, H0.size ≤ q → A0 q) (isC : List Nat) (hC : isC.map (fun i => ws[i]?) = wc.map some)
    (kk : ∀ (u : va_W) (H1 : Heap) (locs1 : List Loc), post u → va_P D vwCl (putAll ws isC u) H1 → va_D A0 (putAll ws isC u) → va_S A0 H0 H1 locs1 → W p l e R s m args below meth c H1 locs1 cells slots Q (F0 m (pc + 3) ls rest)) :
    W p l e R s m args below meth c H locs cells slots Q (F0 m pc ls st0) := by
  have hF := va_free (wc := wc) hD hS hA isC hC
  refine va_callv hr hS (fun q _ h => hF q h) hF (fun u t H1 locs1 ht hvm hw hB hz hk hS1 => ?_)
  obtain ⟨hP1, -, -⟩ := hB
  rw [ht] at hP1
  obtain ⟨g1, g2⟩ := put_join hP hD isC hC hk hF hP1 hw.2
  exact kk u H1 locs1 hw.1 g1 g2 hS1
theorem go_q {post : Option Nat → va_W → Prop} (hr : va_Run p l e R s m args below meth c H locs cells slots 0 0 (F0 m pc ls st0) rest (va_Qq (fun r u => post r u ∧ sameA wc u) (posW D TY (va_A wc H.size)) (va_A wc H.size) a) (va_A wc H.size))
    (hP : va_P D vwCl ws H) (hD : va_D A0 ws) (hS : va_S A0 H0 H locs) (hA : ∀ q : Nat, H0.size ≤ q → A0 q) (isC : List Nat) (hC : isC.map (fun i => ws[i]?) = wc.map some)
    (kk : ∀ (r : Option Nat) (u : va_W) (H1 : Heap) (locs1 : List Loc), post r u → va_P D vwCl (putAll ws isC u) H1 → va_D A0 (putAll ws isC u) → va_S A0 H0 H1 locs1 → W p l e R s m args below meth c H1 locs1 cells slots Q (F0 m (pc + 3) ls (va_rf r :: rest))) :
    W p l e R s m args below meth c H locs cells slots Q (F0 m pc ls st0) := by
  have hF := va_free (wc := wc) hD hS hA isC hC
  refine va_callq hr hS (fun q _ h => hF q h) hF (fun r u t H1 locs1 ht hvm hw hB hz hk hS1 => ?_)
  obtain ⟨hP1, -, -⟩ := hB
  rw [ht] at hP1
  obtain ⟨g1, g2⟩ := put_join hP hD isC hC hk hF hP1 hw.2
  exact kk r u H1 locs1 hw.1 g1 g2 hS1
/-- the start of a callee's contract -/
theorem blindW {av : List Value} {wc : va_W} {sz : Nat} : FrameBlind (va_Pc av (preW D TY wc sz)) := fun a U g mk q => by
  obtain ⟨q0, q1, qP, qK, qD⟩ := q
  exact ⟨q0, q1, qP, va_K.moved (u := U) (U := U.calling g mk a) (Vm.Alike.refl U.vm) qK, qD⟩
theorem preS_of {As : List Value} (hK : va_K D vwCl TY s) (hP : va_P D vwCl ws H) (hD : va_D A0 ws) (isC : List Nat) (hC : isC.map (fun i => ws[i]?) = wc.map some) (hn : va_nd isC = true) : PreS s H (va_Pc As (preW D TY wc H.size)) As := by
  refine ⟨blindW, fun U hU hW => ⟨rfl, by rw [hU], ?_, va_K.moved hW.alike hK, (hD.sub isC hn hC).weaken (fun _ _ _ _ => trivial)⟩⟩
  rw [hU]
  refine fun k q hk => ?_
  have e1 : (wc.map some)[k]? = some (some q) := by rw [List.getElem?_map, hk]; rfl
  rw [← hC, List.getElem?_map] at e1
  cases hi : isC[k]? with
  | none => rw [hi] at e1; cases e1
  | some i => rw [hi] at e1; exact hP i q (Option.some.inj e1)
theorem preV_of {As : List Value} {b ci q0 : Nat} {fs : List Value} {C : String} {T : u_T} {N : Nat} (hc : vwCl[ci]? = some (C, T, N)) (hK : va_K D vwCl TY s) (hP : va_P D vwCl ws H) (hD : va_D A0 ws) (he : ws[q0]? = some (b, .inr (ci, fs))) (isC : List Nat) (hC : isC.map (fun i => ws[i]?) = wc.map some) (hn : va_nd isC = true) : PreV s H C b (va_Pc (.ref b :: As) (preW D TY wc H.size)) As :=
  ⟨blindW, va_recv hK hP hc he, (preS_of (As := .ref b :: As) hK hP hD isC hC hn).2⟩
theorem callB_w {own : String} {index k n maxL : Nat} {y : MethodName} {bytes : ByteArray} {ret : Option FieldType} (hts : ∀ w ∈ WALL, w.before args s = true) (hcode : Cond.code y bytes maxL ret ∈ WALL) (hini : Cond.initialized y.cls ∈ WALL) (hl : Cond.methodLink own index y ∈ WALL)
    (hd : (y.cls ≠ "java/lang/invoke/MethodHandle" ∧ y.cls ≠ "java/lang/invoke/VarHandle") ∧ (parseMethodDescriptor y.desc).map (fun d => d.parameters.length) = some n) (hR : k + 1 ≤ R.frames ∧ 8 + (maxL + 11) + 40 * k ≤ R.locals) :
    CallB R s args own index y bytes maxL ret (.code y bytes maxL ret :: WALL) (rmL k) 0 0 n := by
  refine ⟨rfl, rfl, hR.1, hR.2, fun w hw => ?_, List.mem_cons_self, hts _ hcode, hts _ hini, hd.1, fun sig h => ?_, hts _ hl⟩
  · rcases List.mem_cons.mp hw with rfl | hw
    · exact wall_pay hts _ hcode
    · exact wall_pay hts _ hw
  · have h2 := hd.2
    rw [h] at h2
    exact (Option.some.inj h2).symm
theorem callN_w {own host : String} {index k n maxL : Nat} {y : MethodName} {bytes : ByteArray} {ret : Option FieldType} (hts : ∀ w ∈ WALL, w.before args s = true) (hcode : Cond.code y bytes maxL ret ∈ WALL) (hini : Cond.initialized y.cls ∈ WALL) (hl : Cond.methodLinkNest own index y host ∈ WALL)
    (hd : (y.cls ≠ "java/lang/invoke/MethodHandle" ∧ y.cls ≠ "java/lang/invoke/VarHandle") ∧ (parseMethodDescriptor y.desc).map (fun d => d.parameters.length) = some n) (hR : k + 1 ≤ R.frames ∧ 8 + (maxL + 11) + 40 * k ≤ R.locals) :
    va_CN R s args own index y host bytes maxL ret (.code y bytes maxL ret :: WALL) (rmL k) 0 0 n := by
  refine ⟨⟨rfl, rfl, hR.1, hR.2, fun w hw => ?_, List.mem_cons_self⟩, hts _ hcode, hts _ hini, hd.1, fun sig h => ?_, hts _ hl⟩
  · rcases List.mem_cons.mp hw with rfl | hw
    · exact wall_pay hts _ hcode
    · exact wall_pay hts _ hw
  · have h2 := hd.2
    rw [h] at h2
    exact (Option.some.inj h2).symm
end KIT
theorem tw_341 : (Jvm.Cond.native ({ cls := "java/lang/System", name := "arraycopy", desc := "(Ljava/lang/Object;ILjava/lang/Object;II)V" } : Jvm.MethodName)) ∈ WALL := wall_at 341 (by decide +kernel) (by decide +kernel)
/-! rows over numbers: an int is nI of a Nat -/
theorem nx_and (a b : Nat) : nI a &&& nI b = nI (a &&& b) := by
  apply Int32.toBitVec_inj.mp
  show BitVec.ofNat 32 a &&& BitVec.ofNat 32 b = BitVec.ofNat 32 (a &&& b)
  exact (BitVec.ofNat_and).symm
theorem nx_or (a b : Nat) : nI a ||| nI b = nI (a ||| b) := by
  apply Int32.toBitVec_inj.mp
  show BitVec.ofNat 32 a ||| BitVec.ofNat 32 b = BitVec.ofNat 32 (a ||| b)
  exact (BitVec.ofNat_or).symm
theorem nx_amt : ∀ k, k < 32 → ((nI k &&& 31).toBitVec.smod 32).toNat = k := by decide +kernel
theorem nx_shl (a : Nat) {k : Nat} (hk : k < 32) : nI a <<< (nI k &&& 31) = nI (a * 2 ^ k) := by
  apply Int32.toBitVec_inj.mp
  apply BitVec.eq_of_toNat_eq
  rw [pk_shl _ _ k (nx_amt k hk)]
  show (BitVec.ofNat 32 a).toNat * 2 ^ k % 2 ^ 32 = (BitVec.ofNat 32 (a * 2 ^ k)).toNat
  rw [BitVec.toNat_ofNat, BitVec.toNat_ofNat, Nat.mod_mul_mod]
theorem nx_shr {a k : Nat} (ha : a < 2147483648) (hk : k < 32) : nI a >>> (nI k &&& 31) = nI (a / 2 ^ k) := pk_shrN (by omega) _ k (nx_amt k hk)
def up1 (f : Nat → Nat) (k v : Nat) : Nat → Nat := fun j => if j = k then v else f j
theorem up1_s (f : Nat → Nat) (k v : Nat) : up1 f k v k = v := by simp [up1]
theorem up1_n {f : Nat → Nat} {k v j : Nat} (h : j ≠ k) : up1 f k v j = f j := by simp [up1, h]
theorem up1_upd (g : Nat → Nat) (i v : Nat) (hi : i < 2147483648) : upd (fun j => nI (g j)) (nI i).toNatClampNeg (nI v) = fun j => nI (up1 g i v j) := by
  funext j
  rw [nI_clamp (by omega)]
  by_cases h : j = i
  · subst h; simp [upd, up1]
  · simp [upd, up1, h]
section NR
variable {p : Program} {l : Launch} {e : Env} {R : Room} {s : State} {m : MethodId} {args : Array Value} {below : List Frame} {meth : Method} {c : Code} {H : Heap} {locs : List Loc} {cells slots : Nat} {Q : State → Prop}
variable {cc : ByteArray} {pc : Nat} {ls : Array Slot} {rest : List Value} {D : va_G} {cl : List vw_C} {TY : List (ClassId × FieldType)} {A : Nat → Prop} {ws : va_W} {H0 : Heap} {adr : Nat}
theorem n_iadd (hx : p.tables.exec = Jvm.exec) (hb : c.code = cc) {a b : Nat} (hdg : decode cc pc = .ok (.iadd, 1)) (k : W p l e R s m args below meth c H locs cells slots Q (F0 m (pc + 1) ls (.int (nI (a + b)) :: rest))) : W p l e R s m args below meth c H locs cells slots Q (F0 m pc ls (.int (nI b) :: .int (nI a) :: rest)) :=
  lv_iadd hx hb hdg (by rw [nI_add]; exact k)
theorem n_isub (hx : p.tables.exec = Jvm.exec) (hb : c.code = cc) {a b : Nat} (hdg : decode cc pc = .ok (.isub, 1)) (h : b ≤ a) (k : W p l e R s m args below meth c H locs cells slots Q (F0 m (pc + 1) ls (.int (nI (a - b)) :: rest))) : W p l e R s m args below meth c H locs cells slots Q (F0 m pc ls (.int (nI b) :: .int (nI a) :: rest)) :=
  lv_isub hx hb hdg (by rw [pk_sub h]; exact k)
theorem n_imul (hx : p.tables.exec = Jvm.exec) (hb : c.code = cc) {a b : Nat} (hdg : decode cc pc = .ok (.imul, 1)) (k : W p l e R s m args below meth c H locs cells slots Q (F0 m (pc + 1) ls (.int (nI (a * b)) :: rest))) : W p l e R s m args below meth c H locs cells slots Q (F0 m pc ls (.int (nI b) :: .int (nI a) :: rest)) :=
  lv_imul hx hb hdg (by rw [pk_mul]; exact k)
theorem n_idiv (hx : p.tables.exec = Jvm.exec) (hb : c.code = cc) {a b : Nat} (hdg : decode cc pc = .ok (.idiv, 1)) (ha : a < 2147483648) (h0 : 0 < b) (hb2 : b < 2147483648) (k : W p l e R s m args below meth c H locs cells slots Q (F0 m (pc + 1) ls (.int (nI (a / b)) :: rest))) : W p l e R s m args below meth c H locs cells slots Q (F0 m pc ls (.int (nI b) :: .int (nI a) :: rest)) :=
  lv_idiv hx hb hdg (nI_ne0 h0 (by omega)) (by rw [pk_div (by omega) h0 (by omega)]; exact k)
theorem n_irem (hx : p.tables.exec = Jvm.exec) (hb : c.code = cc) {a b : Nat} (hdg : decode cc pc = .ok (.irem, 1)) (ha : a < 2147483648) (h0 : 0 < b) (hb2 : b < 2147483648) (k : W p l e R s m args below meth c H locs cells slots Q (F0 m (pc + 1) ls (.int (nI (a % b)) :: rest))) : W p l e R s m args below meth c H locs cells slots Q (F0 m pc ls (.int (nI b) :: .int (nI a) :: rest)) :=
  lv_irem hx hb hdg (nI_ne0 h0 (by omega)) (by rw [pk_rem (by omega) h0 (by omega)]; exact k)
theorem n_iand (hx : p.tables.exec = Jvm.exec) (hb : c.code = cc) {a b : Nat} (hdg : decode cc pc = .ok (.iand, 1)) (k : W p l e R s m args below meth c H locs cells slots Q (F0 m (pc + 1) ls (.int (nI (a &&& b)) :: rest))) : W p l e R s m args below meth c H locs cells slots Q (F0 m pc ls (.int (nI b) :: .int (nI a) :: rest)) :=
  lv_iand hx hb hdg (by rw [nx_and]; exact k)
theorem n_ior (hx : p.tables.exec = Jvm.exec) (hb : c.code = cc) {a b : Nat} (hdg : decode cc pc = .ok (.ior, 1)) (k : W p l e R s m args below meth c H locs cells slots Q (F0 m (pc + 1) ls (.int (nI (a ||| b)) :: rest))) : W p l e R s m args below meth c H locs cells slots Q (F0 m pc ls (.int (nI b) :: .int (nI a) :: rest)) :=
  lv_ior hx hb hdg (by rw [nx_or]; exact k)
theorem n_ishl (hx : p.tables.exec = Jvm.exec) (hb : c.code = cc) {a b : Nat} (hdg : decode cc pc = .ok (.ishl, 1)) (h : b < 32) (k : W p l e R s m args below meth c H locs cells slots Q (F0 m (pc + 1) ls (.int (nI (a * 2 ^ b)) :: rest))) : W p l e R s m args below meth c H locs cells slots Q (F0 m pc ls (.int (nI b) :: .int (nI a) :: rest)) :=
  lv_ishl hx hb hdg (by rw [nx_shl a h]; exact k)
theorem n_ishr (hx : p.tables.exec = Jvm.exec) (hb : c.code = cc) {a b : Nat} (hdg : decode cc pc = .ok (.ishr, 1)) (ha : a < 2147483648) (h : b < 32) (k : W p l e R s m args below meth c H locs cells slots Q (F0 m (pc + 1) ls (.int (nI (a / 2 ^ b)) :: rest))) : W p l e R s m args below meth c H locs cells slots Q (F0 m pc ls (.int (nI b) :: .int (nI a) :: rest)) :=
  lv_ishr hx hb hdg (by rw [nx_shr ha h]; exact k)
theorem n_icmp_lt (hx : p.tables.exec = Jvm.exec) (hb : c.code = cc) {a b : Nat} {off : Int} {tgt : Nat} (hdg : decode cc pc = .ok (.if_icmp .lt off, 3)) (ht : (pc : Int) + off = (tgt : Int)) (ha : a < 2147483648) (hb2 : b < 2147483648) (kt : a < b → W p l e R s m args below meth c H locs cells slots Q (F0 m tgt ls (rest))) (kf : b ≤ a → W p l e R s m args below meth c H locs cells slots Q (F0 m (pc + 3) ls (rest))) : W p l e R s m args below meth c H locs cells slots Q (F0 m pc ls (.int (nI b) :: .int (nI a) :: rest)) := by
  have e1 := nI_ltI (a := a) (b := b) (by omega) (by omega)
  have e2 := nI_leI (a := a) (b := b) (by omega) (by omega)
  have e3 := nI_eq (a := a) (b := b) (by omega) (by omega)
  have e4 := nI_ltI (a := b) (b := a) (by omega) (by omega)
  have e5 := nI_leI (a := b) (b := a) (by omega) (by omega)
  refine lv_icmp_lt (tgt := tgt) hx hb hdg ht (fun z => kt ?_) (fun z => kf ?_)
  all_goals (simp only [e1, e2, e3, e4, e5, ne_eq, Decidable.not_not] at z; omega)
theorem n_icmp_ge (hx : p.tables.exec = Jvm.exec) (hb : c.code = cc) {a b : Nat} {off : Int} {tgt : Nat} (hdg : decode cc pc = .ok (.if_icmp .ge off, 3)) (ht : (pc : Int) + off = (tgt : Int)) (ha : a < 2147483648) (hb2 : b < 2147483648) (kt : b ≤ a → W p l e R s m args below meth c H locs cells slots Q (F0 m tgt ls (rest))) (kf : a < b → W p l e R s m args below meth c H locs cells slots Q (F0 m (pc + 3) ls (rest))) : W p l e R s m args below meth c H locs cells slots Q (F0 m pc ls (.int (nI b) :: .int (nI a) :: rest)) := by
  have e1 := nI_ltI (a := a) (b := b) (by omega) (by omega)
  have e2 := nI_leI (a := a) (b := b) (by omega) (by omega)
  have e3 := nI_eq (a := a) (b := b) (by omega) (by omega)
  have e4 := nI_ltI (a := b) (b := a) (by omega) (by omega)
  have e5 := nI_leI (a := b) (b := a) (by omega) (by omega)
  refine lv_icmp_ge (tgt := tgt) hx hb hdg ht (fun z => kt ?_) (fun z => kf ?_)
  all_goals (simp only [e1, e2, e3, e4, e5, ne_eq, Decidable.not_not] at z; omega)
theorem n_icmp_gt (hx : p.tables.exec = Jvm.exec) (hb : c.code = cc) {a b : Nat} {off : Int} {tgt : Nat} (hdg : decode cc pc = .ok (.if_icmp .gt off, 3)) (ht : (pc : Int) + off = (tgt : Int)) (ha : a < 2147483648) (hb2 : b < 2147483648) (kt : b < a → W p l e R s m args below meth c H locs cells slots Q (F0 m tgt ls (rest))) (kf : a ≤ b → W p l e R s m args below meth c H locs cells slots Q (F0 m (pc + 3) ls (rest))) : W p l e R s m args below meth c H locs cells slots Q (F0 m pc ls (.int (nI b) :: .int (nI a) :: rest)) := by
  have e1 := nI_ltI (a := a) (b := b) (by omega) (by omega)
  have e2 := nI_leI (a := a) (b := b) (by omega) (by omega)
  have e3 := nI_eq (a := a) (b := b) (by omega) (by omega)
  have e4 := nI_ltI (a := b) (b := a) (by omega) (by omega)
  have e5 := nI_leI (a := b) (b := a) (by omega) (by omega)
  refine lv_icmp_gt (tgt := tgt) hx hb hdg ht (fun z => kt ?_) (fun z => kf ?_)
  all_goals (simp only [e1, e2, e3, e4, e5, ne_eq, Decidable.not_not] at z; omega)
theorem n_icmp_le (hx : p.tables.exec = Jvm.exec) (hb : c.code = cc) {a b : Nat} {off : Int} {tgt : Nat} (hdg : decode cc pc = .ok (.if_icmp .le off, 3)) (ht : (pc : Int) + off = (tgt : Int)) (ha : a < 2147483648) (hb2 : b < 2147483648) (kt : a ≤ b → W p l e R s m args below meth c H locs cells slots Q (F0 m tgt ls (rest))) (kf : b < a → W p l e R s m args below meth c H locs cells slots Q (F0 m (pc + 3) ls (rest))) : W p l e R s m args below meth c H locs cells slots Q (F0 m pc ls (.int (nI b) :: .int (nI a) :: rest)) := by
  have e1 := nI_ltI (a := a) (b := b) (by omega) (by omega)
  have e2 := nI_leI (a := a) (b := b) (by omega) (by omega)
  have e3 := nI_eq (a := a) (b := b) (by omega) (by omega)
  have e4 := nI_ltI (a := b) (b := a) (by omega) (by omega)
  have e5 := nI_leI (a := b) (b := a) (by omega) (by omega)
  refine lv_icmp_le (tgt := tgt) hx hb hdg ht (fun z => kt ?_) (fun z => kf ?_)
  all_goals (simp only [e1, e2, e3, e4, e5, ne_eq, Decidable.not_not] at z; omega)
theorem n_icmp_eq (hx : p.tables.exec = Jvm.exec) (hb : c.code = cc) {a b : Nat} {off : Int} {tgt : Nat} (hdg : decode cc pc = .ok (.if_icmp .eq off, 3)) (ht : (pc : Int) + off = (tgt : Int)) (ha : a < 2147483648) (hb2 : b < 2147483648) (kt : a = b → W p l e R s m args below meth c H locs cells slots Q (F0 m tgt ls (rest))) (kf : a ≠ b → W p l e R s m args below meth c H locs cells slots Q (F0 m (pc + 3) ls (rest))) : W p l e R s m args below meth c H locs cells slots Q (F0 m pc ls (.int (nI b) :: .int (nI a) :: rest)) := by
  have e1 := nI_ltI (a := a) (b := b) (by omega) (by omega)
  have e2 := nI_leI (a := a) (b := b) (by omega) (by omega)
  have e3 := nI_eq (a := a) (b := b) (by omega) (by omega)
  have e4 := nI_ltI (a := b) (b := a) (by omega) (by omega)
  have e5 := nI_leI (a := b) (b := a) (by omega) (by omega)
  refine lv_icmp_eq (tgt := tgt) hx hb hdg ht (fun z => kt ?_) (fun z => kf ?_)
  all_goals (simp only [e1, e2, e3, e4, e5, ne_eq, Decidable.not_not] at z; omega)
theorem n_icmp_ne (hx : p.tables.exec = Jvm.exec) (hb : c.code = cc) {a b : Nat} {off : Int} {tgt : Nat} (hdg : decode cc pc = .ok (.if_icmp .ne off, 3)) (ht : (pc : Int) + off = (tgt : Int)) (ha : a < 2147483648) (hb2 : b < 2147483648) (kt : a ≠ b → W p l e R s m args below meth c H locs cells slots Q (F0 m tgt ls (rest))) (kf : a = b → W p l e R s m args below meth c H locs cells slots Q (F0 m (pc + 3) ls (rest))) : W p l e R s m args below meth c H locs cells slots Q (F0 m pc ls (.int (nI b) :: .int (nI a) :: rest)) := by
  have e1 := nI_ltI (a := a) (b := b) (by omega) (by omega)
  have e2 := nI_leI (a := a) (b := b) (by omega) (by omega)
  have e3 := nI_eq (a := a) (b := b) (by omega) (by omega)
  have e4 := nI_ltI (a := b) (b := a) (by omega) (by omega)
  have e5 := nI_leI (a := b) (b := a) (by omega) (by omega)
  refine lv_icmp_ne (tgt := tgt) hx hb hdg ht (fun z => kt ?_) (fun z => kf ?_)
  all_goals (simp only [e1, e2, e3, e4, e5, ne_eq, Decidable.not_not] at z; omega)
theorem n_if_gt (hx : p.tables.exec = Jvm.exec) (hb : c.code = cc) {a : Nat} {off : Int} {tgt : Nat} (hdg : decode cc pc = .ok (.ifCond .gt off, 3)) (ht : (pc : Int) + off = (tgt : Int)) (ha : a < 2147483648) (kt : 0 < a → W p l e R s m args below meth c H locs cells slots Q (F0 m tgt ls (rest))) (kf : a = 0 → W p l e R s m args below meth c H locs cells slots Q (F0 m (pc + 3) ls (rest))) : W p l e R s m args below meth c H locs cells slots Q (F0 m pc ls (.int (nI a) :: rest)) := by
  have e1 := nI_ltI (a := 0) (b := a) (by omega) (by omega)
  have e2 := nI_leI (a := a) (b := 0) (by omega) (by omega)
  have e3 := nI_eq (a := a) (b := 0) (by omega) (by omega)
  rw [nI_0] at e1 e2 e3
  refine lv_if_gt (tgt := tgt) hx hb hdg ht (fun z => kt ?_) (fun z => kf ?_)
  all_goals (first | (simp only [e1, e2, e3, ne_eq, Decidable.not_not] at z; omega) | (simp only [gt_iff_lt, e1, e2, e3, ne_eq, Decidable.not_not] at z; omega))
theorem n_if_le (hx : p.tables.exec = Jvm.exec) (hb : c.code = cc) {a : Nat} {off : Int} {tgt : Nat} (hdg : decode cc pc = .ok (.ifCond .le off, 3)) (ht : (pc : Int) + off = (tgt : Int)) (ha : a < 2147483648) (kt : a = 0 → W p l e R s m args below meth c H locs cells slots Q (F0 m tgt ls (rest))) (kf : 0 < a → W p l e R s m args below meth c H locs cells slots Q (F0 m (pc + 3) ls (rest))) : W p l e R s m args below meth c H locs cells slots Q (F0 m pc ls (.int (nI a) :: rest)) := by
  have e1 := nI_ltI (a := 0) (b := a) (by omega) (by omega)
  have e2 := nI_leI (a := a) (b := 0) (by omega) (by omega)
  have e3 := nI_eq (a := a) (b := 0) (by omega) (by omega)
  rw [nI_0] at e1 e2 e3
  refine lv_if_le (tgt := tgt) hx hb hdg ht (fun z => kt ?_) (fun z => kf ?_)
  all_goals (first | (simp only [e1, e2, e3, ne_eq, Decidable.not_not] at z; omega) | (simp only [gt_iff_lt, e1, e2, e3, ne_eq, Decidable.not_not] at z; omega))
theorem n_if_eq (hx : p.tables.exec = Jvm.exec) (hb : c.code = cc) {a : Nat} {off : Int} {tgt : Nat} (hdg : decode cc pc = .ok (.ifCond .eq off, 3)) (ht : (pc : Int) + off = (tgt : Int)) (ha : a < 2147483648) (kt : a = 0 → W p l e R s m args below meth c H locs cells slots Q (F0 m tgt ls (rest))) (kf : a ≠ 0 → W p l e R s m args below meth c H locs cells slots Q (F0 m (pc + 3) ls (rest))) : W p l e R s m args below meth c H locs cells slots Q (F0 m pc ls (.int (nI a) :: rest)) := by
  have e1 := nI_ltI (a := 0) (b := a) (by omega) (by omega)
  have e2 := nI_leI (a := a) (b := 0) (by omega) (by omega)
  have e3 := nI_eq (a := a) (b := 0) (by omega) (by omega)
  rw [nI_0] at e1 e2 e3
  refine lv_if_eq (tgt := tgt) hx hb hdg ht (fun z => kt ?_) (fun z => kf ?_)
  all_goals (first | (simp only [e1, e2, e3, ne_eq, Decidable.not_not] at z; omega) | (simp only [gt_iff_lt, e1, e2, e3, ne_eq, Decidable.not_not] at z; omega))
theorem n_if_ne (hx : p.tables.exec = Jvm.exec) (hb : c.code = cc) {a : Nat} {off : Int} {tgt : Nat} (hdg : decode cc pc = .ok (.ifCond .ne off, 3)) (ht : (pc : Int) + off = (tgt : Int)) (ha : a < 2147483648) (kt : a ≠ 0 → W p l e R s m args below meth c H locs cells slots Q (F0 m tgt ls (rest))) (kf : a = 0 → W p l e R s m args below meth c H locs cells slots Q (F0 m (pc + 3) ls (rest))) : W p l e R s m args below meth c H locs cells slots Q (F0 m pc ls (.int (nI a) :: rest)) := by
  have e1 := nI_ltI (a := 0) (b := a) (by omega) (by omega)
  have e2 := nI_leI (a := a) (b := 0) (by omega) (by omega)
  have e3 := nI_eq (a := a) (b := 0) (by omega) (by omega)
  rw [nI_0] at e1 e2 e3
  refine lv_if_ne (tgt := tgt) hx hb hdg ht (fun z => kt ?_) (fun z => kf ?_)
  all_goals (first | (simp only [e1, e2, e3, ne_eq, Decidable.not_not] at z; omega) | (simp only [gt_iff_lt, e1, e2, e3, ne_eq, Decidable.not_not] at z; omega))
theorem n_if_lt (hx : p.tables.exec = Jvm.exec) (hb : c.code = cc) {a : Nat} {off : Int} (hdg : decode cc pc = .ok (.ifCond .lt off, 3)) {tgt : Nat} (ht : (pc : Int) + off = (tgt : Int)) (ha : a < 2147483648) (kf : W p l e R s m args below meth c H locs cells slots Q (F0 m (pc + 3) ls (rest))) : W p l e R s m args below meth c H locs cells slots Q (F0 m pc ls (.int (nI a) :: rest)) := lv_if_lt (tgt := tgt) hx hb hdg ht (fun z => absurd z (nI_pos (by omega))) (fun _ => kf)
theorem n_if_ge (hx : p.tables.exec = Jvm.exec) (hb : c.code = cc) {a : Nat} {off : Int} {tgt : Nat} (hdg : decode cc pc = .ok (.ifCond .ge off, 3)) (ht : (pc : Int) + off = (tgt : Int)) (ha : a < 2147483648) (kt : W p l e R s m args below meth c H locs cells slots Q (F0 m tgt ls (rest))) : W p l e R s m args below meth c H locs cells slots Q (F0 m pc ls (.int (nI a) :: rest)) := lv_if_ge (tgt := tgt) hx hb hdg ht (fun _ => kt) (fun z => absurd (nI_pos' (by omega)) z)
theorem n_iald (hx : p.tables.exec = Jvm.exec) (hb : c.code = cc) (hK : va_K D cl TY s) (hP : va_P D cl ws H) (q0 t0 : Nat) {cA : ClassId} {n : Nat} {g : Nat → Nat} (ha : ws[q0]? = some (adr, .inl (cA, n, .inl (fun j => nI (g j))))) (ht : TY[t0]? = some (cA, .int)) {i : Nat} (hdg : decode cc pc = .ok (.iaload, 1)) (hn : n < 2147483648) (hi : i < n) (k : W p l e R s m args below meth c H locs cells slots Q (F0 m (pc + 1) ls (.int (nI (g i)) :: rest))) : W p l e R s m args below meth c H locs cells slots Q (F0 m pc ls (.int (nI i) :: .ref adr :: rest)) := by
  refine va_iald hx hb hK hP q0 t0 ha ht (vp_in_nI hi (by omega)) hdg ?_
  rw [nI_clamp (by omega)]
  exact k
theorem n_cald (hx : p.tables.exec = Jvm.exec) (hb : c.code = cc) (hK : va_K D cl TY s) (hP : va_P D cl ws H) (q0 t0 : Nat) {cA : ClassId} {n : Nat} {g : Nat → Nat} (ha : ws[q0]? = some (adr, .inl (cA, n, .inl (fun j => nI (g j))))) (ht : TY[t0]? = some (cA, .char)) {i : Nat} (hdg : decode cc pc = .ok (.caload, 1)) (hn : n < 2147483648) (hi : i < n) (k : W p l e R s m args below meth c H locs cells slots Q (F0 m (pc + 1) ls (.int (nI (g i)) :: rest))) : W p l e R s m args below meth c H locs cells slots Q (F0 m pc ls (.int (nI i) :: .ref adr :: rest)) := by
  refine va_cald hx hb hK hP q0 t0 ha ht (vp_in_nI hi (by omega)) hdg ?_
  rw [nI_clamp (by omega)]
  exact k
theorem n_iast (hx : p.tables.exec = Jvm.exec) (hb : c.code = cc) (hK : va_K D cl TY s) (hP : va_P D cl ws H) (hD : va_D A ws) (hS : va_S A H0 H locs) (q0 t0 : Nat) {cA : ClassId} {n : Nat} {g : Nat → Nat} (ha : ws[q0]? = some (adr, .inl (cA, n, .inl (fun j => nI (g j))))) (ht : TY[t0]? = some (cA, .int)) {i v : Nat} (hdg : decode cc pc = .ok (.iastore, 1)) (hn : n < 2147483648) (hi : i < n)
    (k : ∀ (H : Heap) (locs : List Loc), va_P D cl (ws.set q0 (adr, .inl (cA, n, .inl (fun j => nI (up1 g i v j))))) H → va_D A (ws.set q0 (adr, .inl (cA, n, .inl (fun j => nI (up1 g i v j))))) → va_S A H0 H locs → W p l e R s m args below meth c H locs cells slots Q (F0 m (pc + 1) ls (rest))) : W p l e R s m args below meth c H locs cells slots Q (F0 m pc ls (.int (nI v) :: .int (nI i) :: .ref adr :: rest)) := by
  refine va_iast hx hb hK hP hD hS q0 t0 ha ht (vp_in_nI hi (by omega)) hdg (fun H1 locs1 hP1 hD1 hS1 => ?_)
  rw [up1_upd g i v (by omega)] at hP1 hD1
  exact k H1 locs1 hP1 hD1 hS1
theorem n_alen (hx : p.tables.exec = Jvm.exec) (hb : c.code = cc) (hK : va_K D cl TY s) (hP : va_P D cl ws H) (q0 t0 : Nat) {cA : ClassId} {x : vp_A} (ha : ws[q0]? = some (adr, .inl (cA, x))) {ty : FieldType} (ht : TY[t0]? = some (cA, ty)) (hdg : decode cc pc = .ok (.arraylength, 1)) (k : W p l e R s m args below meth c H locs cells slots Q (F0 m (pc + 1) ls (.int (nI x.1) :: rest))) : W p l e R s m args below meth c H locs cells slots Q (F0 m pc ls (.ref adr :: rest)) := va_alen hx hb hK hP q0 t0 ha ht rfl hdg k
end NR
theorem n_inc (i k : Nat) : nI i + Int32.ofInt (k : Int) = nI (i + k) := by
  rw [← nI_add]; rfl
theorem n_dec {i : Nat} (h : 0 < i) : nI i + Int32.ofInt (-1) = nI (i - 1) := by
  obtain ⟨j, rfl⟩ : ∃ j, i = j + 1 := ⟨i - 1, by omega⟩
  exact pk_m1 j
def b2n (b : Bool) : Nat := if b then 1 else 0
theorem b2n_t : b2n true = 1 := rfl
theorem b2n_f : b2n false = 0 := rfl
theorem b2n_lt (b : Bool) : b2n b < 2147483648 := by cases b <;> decide
theorem b2n_nar (b : Bool) : narrow .boolean (.int (nI (b2n b))) = .int (nI (b2n b)) := by cases b <;> decide
section NR2
variable {p : Program} {l : Launch} {e : Env} {R : Room} {s : State} {m : MethodId} {args : Array Value} {below : List Frame} {meth : Method} {c : Code} {H : Heap} {locs : List Loc} {cells slots : Nat} {Q : State → Prop}
variable {cc : ByteArray} {pc : Nat} {ls : Array Slot} {rest : List Value}
theorem n_ifb_eq (hx : p.tables.exec = Jvm.exec) (hb : c.code = cc) {a : Bool} {off : Int} {tgt : Nat} (hdg : decode cc pc = .ok (.ifCond .eq off, 3)) (ht : (pc : Int) + off = (tgt : Int)) (kt : a = false → W p l e R s m args below meth c H locs cells slots Q (F0 m tgt ls rest)) (kf : a = true → W p l e R s m args below meth c H locs cells slots Q (F0 m (pc + 3) ls rest)) : W p l e R s m args below meth c H locs cells slots Q (F0 m pc ls (.int (nI (b2n a)) :: rest)) :=
  n_if_eq hx hb hdg ht (b2n_lt a) (fun h => kt (by cases a; rfl; exact absurd h (by decide))) (fun h => kf (by cases a; exact absurd rfl h; rfl))
theorem n_ifb_ne (hx : p.tables.exec = Jvm.exec) (hb : c.code = cc) {a : Bool} {off : Int} {tgt : Nat} (hdg : decode cc pc = .ok (.ifCond .ne off, 3)) (ht : (pc : Int) + off = (tgt : Int)) (kt : a = true → W p l e R s m args below meth c H locs cells slots Q (F0 m tgt ls rest)) (kf : a = false → W p l e R s m args below meth c H locs cells slots Q (F0 m (pc + 3) ls rest)) : W p l e R s m args below meth c H locs cells slots Q (F0 m pc ls (.int (nI (b2n a)) :: rest)) :=
  n_if_ne hx hb hdg ht (b2n_lt a) (fun h => kt (by cases a; exact absurd rfl h; rfl)) (fun h => kf (by cases a; rfl; exact absurd h (by decide)))
theorem n_ladd (hx : p.tables.exec = Jvm.exec) (hb : c.code = cc) {a b : Nat} (hdg : decode cc pc = .ok (.ladd, 1)) (k : W p l e R s m args below meth c H locs cells slots Q (F0 m (pc + 1) ls (.long (lN (a + b)) :: rest))) : W p l e R s m args below meth c H locs cells slots Q (F0 m pc ls (.long (lN b) :: .long (lN a) :: rest)) :=
  lv_ladd hx hb hdg (by rw [lN_add]; exact k)
theorem n_lsub (hx : p.tables.exec = Jvm.exec) (hb : c.code = cc) {a b : Nat} (hdg : decode cc pc = .ok (.lsub, 1)) (h : b ≤ a) (k : W p l e R s m args below meth c H locs cells slots Q (F0 m (pc + 1) ls (.long (lN (a - b)) :: rest))) : W p l e R s m args below meth c H locs cells slots Q (F0 m pc ls (.long (lN b) :: .long (lN a) :: rest)) :=
  lv_lsub hx hb hdg (by rw [lN_sub h]; exact k)
theorem n_lmul (hx : p.tables.exec = Jvm.exec) (hb : c.code = cc) {a b : Nat} (hdg : decode cc pc = .ok (.lmul, 1)) (k : W p l e R s m args below meth c H locs cells slots Q (F0 m (pc + 1) ls (.long (lN (a * b)) :: rest))) : W p l e R s m args below meth c H locs cells slots Q (F0 m pc ls (.long (lN b) :: .long (lN a) :: rest)) :=
  lv_lmul hx hb hdg (by rw [lN_mul]; exact k)
theorem lN_ne0 {b : Nat} (h0 : 0 < b) (hb : b < 9223372036854775808) : ¬ lN b = 0 := by
  intro h
  have := (pk_lEQ (a := b) (b := 0) (by omega) (by omega)).mp h
  omega
theorem n_ldiv (hx : p.tables.exec = Jvm.exec) (hb : c.code = cc) {a b : Nat} (hdg : decode cc pc = .ok (.ldiv, 1)) (ha : a < 9223372036854775808) (h0 : 0 < b) (hb2 : b < 9223372036854775808) (k : W p l e R s m args below meth c H locs cells slots Q (F0 m (pc + 1) ls (.long (lN (a / b)) :: rest))) : W p l e R s m args below meth c H locs cells slots Q (F0 m pc ls (.long (lN b) :: .long (lN a) :: rest)) :=
  lv_ldiv hx hb hdg (lN_ne0 h0 hb2) (by rw [pk_lDiv (by omega) h0 (by omega)]; exact k)
theorem n_lrem (hx : p.tables.exec = Jvm.exec) (hb : c.code = cc) {a b : Nat} (hdg : decode cc pc = .ok (.lrem, 1)) (ha : a < 9223372036854775808) (h0 : 0 < b) (hb2 : b < 9223372036854775808) (k : W p l e R s m args below meth c H locs cells slots Q (F0 m (pc + 1) ls (.long (lN (a % b)) :: rest))) : W p l e R s m args below meth c H locs cells slots Q (F0 m pc ls (.long (lN b) :: .long (lN a) :: rest)) :=
  lv_lrem hx hb hdg (lN_ne0 h0 hb2) (by rw [pk_lRem (by omega) h0 (by omega)]; exact k)
end NR2
theorem MI.walk {l : Launch} {y : MethodName} {b : ByteArray} {n : Nat} {ty : FieldType} {k : Nat} {D : va_G} {TY : List (ClassId × FieldType)} {av : List Value} {ws : va_W} {sz : Nat} {post : Int32 → va_W → Prop}
    (hy : plainName y.cls = true) (hs : (lg_sl av).length ≤ n)
    (body : ∀ (p : Program) (e : Env) (s : State) (m : MethodId) (args : Array Value) (below : List Frame) (meth : Method) (c : Code) (A : Nat → Prop) (Qf : State → Prop), p.tables.exec = Jvm.exec → c.code = b → c.maxLocals = n → (∀ w ∈ WALL, w.before args s = true) → s.vm.findClass y.cls = some m.cls →
      (∀ {H : Heap} {locs : List Loc} {pc : Nat} {ls : Array Slot} {v : Int32} {u : va_W}, va_P D vwCl u H → va_D A u → va_S A s.heap H locs → decode b pc = .ok (.ireturn, 1) → narrow ty (.int v) = .int v → sameA ws u → post v u → W p l e (rmL k) s m args below meth c H locs 0 0 Qf (F0 m pc ls [.int v])) →
      va_K D vwCl TY s → va_P D vwCl ws s.heap → va_D A ws → va_S A s.heap s.heap [] → (∀ q : Nat, s.heap.size ≤ q → A q) →
      ∀ ls : Array Slot, lv_has ls n (lv_args 0 av) → W p l e (rmL k) s m args below meth c s.heap [] 0 0 Qf (F0 m 0 ls [])) :
    Met l y (.code y b n (some ty) :: WALL) (rmL k) (va_Pc av (preW D TY ws sz)) (va_Qi (fun r u => post r u ∧ sameA ws u) (posW D TY (va_A ws sz)) (va_A ws sz)) 0 0 (va_A ws sz) := by
  refine Met.walk (Q := fun A => va_Qi (fun r u => post r u ∧ sameA ws u) (posW D TY A) A) hy hs ?_
  intro p e s m below meth c A F hK hP hD hS hA ls hl
  obtain ⟨hx, hb, hr, hml, hts, hown, hlocks⟩ := F
  exact body p e s m av.toArray below meth c A _ hx hb hml hts hown (fun hP hD hS hdg hn ha hp => ret_z hx hb hr hlocks hn hK hP hD hS hdg ha hp) hK hP hD hS hA ls hl
theorem ML.walk {l : Launch} {y : MethodName} {b : ByteArray} {n : Nat} {k : Nat} {D : va_G} {TY : List (ClassId × FieldType)} {av : List Value} {ws : va_W} {sz : Nat} {post : Int64 → va_W → Prop}
    (hy : plainName y.cls = true) (hs : (lg_sl av).length ≤ n)
    (body : ∀ (p : Program) (e : Env) (s : State) (m : MethodId) (args : Array Value) (below : List Frame) (meth : Method) (c : Code) (A : Nat → Prop) (Qf : State → Prop), p.tables.exec = Jvm.exec → c.code = b → c.maxLocals = n → (∀ w ∈ WALL, w.before args s = true) → s.vm.findClass y.cls = some m.cls →
      (∀ {H : Heap} {locs : List Loc} {pc : Nat} {ls : Array Slot} {v : Int64} {u : va_W}, va_P D vwCl u H → va_D A u → va_S A s.heap H locs → decode b pc = .ok (.lreturn, 1) → sameA ws u → post v u → W p l e (rmL k) s m args below meth c H locs 0 0 Qf (F0 m pc ls [.long v])) →
      va_K D vwCl TY s → va_P D vwCl ws s.heap → va_D A ws → va_S A s.heap s.heap [] → (∀ q : Nat, s.heap.size ≤ q → A q) →
      ∀ ls : Array Slot, lv_has ls n (lv_args 0 av) → W p l e (rmL k) s m args below meth c s.heap [] 0 0 Qf (F0 m 0 ls [])) :
    Met l y (.code y b n (some .long) :: WALL) (rmL k) (va_Pc av (preW D TY ws sz)) (va_Ql (fun r u => post r u ∧ sameA ws u) (posW D TY (va_A ws sz)) (va_A ws sz)) 0 0 (va_A ws sz) := by
  refine Met.walk (Q := fun A => va_Ql (fun r u => post r u ∧ sameA ws u) (posW D TY A) A) hy hs ?_
  intro p e s m below meth c A F hK hP hD hS hA ls hl
  obtain ⟨hx, hb, hr, hml, hts, hown, hlocks⟩ := F
  exact body p e s m av.toArray below meth c A _ hx hb hml hts hown (fun hP hD hS hdg  ha hp => ret_l hx hb hr hlocks hK hP hD hS hdg ha hp) hK hP hD hS hA ls hl
theorem MV.walk {l : Launch} {y : MethodName} {b : ByteArray} {n : Nat} {k : Nat} {D : va_G} {TY : List (ClassId × FieldType)} {av : List Value} {ws : va_W} {sz : Nat} {post : va_W → Prop}
    (hy : plainName y.cls = true) (hs : (lg_sl av).length ≤ n)
    (body : ∀ (p : Program) (e : Env) (s : State) (m : MethodId) (args : Array Value) (below : List Frame) (meth : Method) (c : Code) (A : Nat → Prop) (Qf : State → Prop), p.tables.exec = Jvm.exec → c.code = b → c.maxLocals = n → (∀ w ∈ WALL, w.before args s = true) → s.vm.findClass y.cls = some m.cls →
      (∀ {H : Heap} {locs : List Loc} {pc : Nat} {ls : Array Slot} {u : va_W}, va_P D vwCl u H → va_D A u → va_S A s.heap H locs → decode b pc = .ok (.return_, 1) → sameA ws u → post u → W p l e (rmL k) s m args below meth c H locs 0 0 Qf (F0 m pc ls [])) →
      va_K D vwCl TY s → va_P D vwCl ws s.heap → va_D A ws → va_S A s.heap s.heap [] → (∀ q : Nat, s.heap.size ≤ q → A q) →
      ∀ ls : Array Slot, lv_has ls n (lv_args 0 av) → W p l e (rmL k) s m args below meth c s.heap [] 0 0 Qf (F0 m 0 ls [])) :
    Met l y (.code y b n none :: WALL) (rmL k) (va_Pc av (preW D TY ws sz)) (va_Qv (fun u => post u ∧ sameA ws u) (posW D TY (va_A ws sz)) (va_A ws sz)) 0 0 (va_A ws sz) := by
  refine Met.walk (Q := fun A => va_Qv (fun u => post u ∧ sameA ws u) (posW D TY A) A) hy hs ?_
  intro p e s m below meth c A F hK hP hD hS hA ls hl
  obtain ⟨hx, hb, hr, hml, hts, hown, hlocks⟩ := F
  exact body p e s m av.toArray below meth c A _ hx hb hml hts hown (fun hP hD hS hdg  ha hp => ret_v hx hb hr hlocks hK hP hD hS hdg ha hp) hK hP hD hS hA ls hl
theorem MQr.walk {l : Launch} {y : MethodName} {b : ByteArray} {n : Nat} {cn : String} {k : Nat} {D : va_G} {TY : List (ClassId × FieldType)} {av : List Value} {ws : va_W} {sz : Nat} {post : Option Nat → va_W → Prop}
    (hy : plainName y.cls = true) (hs : (lg_sl av).length ≤ n)
    (body : ∀ (p : Program) (e : Env) (s : State) (m : MethodId) (args : Array Value) (below : List Frame) (meth : Method) (c : Code) (A : Nat → Prop) (Qf : State → Prop), p.tables.exec = Jvm.exec → c.code = b → c.maxLocals = n → (∀ w ∈ WALL, w.before args s = true) → s.vm.findClass y.cls = some m.cls →
      (∀ {H : Heap} {locs : List Loc} {pc : Nat} {ls : Array Slot} {v : Option Nat} {u : va_W}, va_P D vwCl u H → va_D A u → va_S A s.heap H locs → decode b pc = .ok (.areturn, 1) → sameA ws u → post v u → W p l e (rmL k) s m args below meth c H locs 0 0 Qf (F0 m pc ls [va_rf v])) →
      va_K D vwCl TY s → va_P D vwCl ws s.heap → va_D A ws → va_S A s.heap s.heap [] → (∀ q : Nat, s.heap.size ≤ q → A q) →
      ∀ ls : Array Slot, lv_has ls n (lv_args 0 av) → W p l e (rmL k) s m args below meth c s.heap [] 0 0 Qf (F0 m 0 ls [])) :
    Met l y (.code y b n (some (.object cn)) :: WALL) (rmL k) (va_Pc av (preW D TY ws sz)) (va_Qq (fun r u => post r u ∧ sameA ws u) (posW D TY (va_A ws sz)) (va_A ws sz)) 0 0 (va_A ws sz) := by
  refine Met.walk (Q := fun A => va_Qq (fun r u => post r u ∧ sameA ws u) (posW D TY A) A) hy hs ?_
  intro p e s m below meth c A F hK hP hD hS hA ls hl
  obtain ⟨hx, hb, hr, hml, hts, hown, hlocks⟩ := F
  exact body p e s m av.toArray below meth c A _ hx hb hml hts hown (fun hP hD hS hdg  ha hp => ret_q hx hb hr hlocks hK hP hD hS hdg ha hp) hK hP hD hS hA ls hl

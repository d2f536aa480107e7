/-! contracts, the context of a method's body, and the rows -/
abbrev ZO : Type := Option Value ⊕ String
/-- a method: name, code, locals, what it returns, its frames, its units of room (a unit: one cell, 64 slots) -/
abbrev ZY : Type := MethodName × ByteArray × Nat × Option FieldType × Nat × Nat
abbrev zyn (t : ZY) : MethodName := t.1
abbrev zyc (t : ZY) : ByteArray := t.2.1
abbrev zyl (t : ZY) : Nat := t.2.2.1
abbrev zyr (t : ZY) : Option FieldType := t.2.2.2.1
abbrev zyh (t : ZY) : Nat := t.2.2.2.2.1
abbrev zyu (t : ZY) : Nat := t.2.2.2.2.2
def zTs : List Cond := lw_tbl.filter goodWord
theorem zt (i : Nat) {w : Cond} (h : lw_tbl[i]? = some w) (g : goodWord w = true) : w ∈ zTs := List.mem_filter.mpr ⟨List.mem_of_getElem? h, g⟩
theorem zgood {ws : List Cond} (h : ∀ w ∈ ws, w ∈ zTs) : GoodIn zTs ws := fun w hw => ⟨h w hw, good_of_word (List.mem_filter.mp (h w hw)).2⟩
abbrev zcd (t : ZY) : Cond := Cond.code (zyn t) (zyc t) (zyl t) (zyr t)
abbrev zcdW (t : ZY) (hh : List (Nat × Nat × Nat × Nat)) : Cond := Cond.codeWith (zyn t) (zyc t) (zyl t) (zyr t) hh
def zrm (h u : Nat) : Room := { frames := h, cells := u, slots := 64 * u, locals := 36 * h }
abbrev zfr (G : ZG) : Nat → Prop := fun q => G.2.2.2.size ≤ q
/-- arrays of int[] can be made -/
def zAOA (U : State) : Prop := (Cond.arrayOver (.array .int)).before #[] U = true
theorem zAOA.moved {u U : State} (hvm : u.vm.Alike U.vm) (h : zAOA u) : zAOA U := by
  obtain ⟨comp, c, k, h1, h2, h3, h4, h5⟩ := arrayOverA_spec h
  obtain ⟨k', hk', he⟩ := hvm.2.2 _ _ h3
  have hi : (U.vm.classes.findIdx? fun (x : Class) => match x.kind with | .array component _ => component == comp | _ => false) = some c := by
    rw [hvm.findIdx?_eq _ (fun _ => rfl)]
    exact h2
  have hkind : k'.kind = .array comp (.array .int) := by rw [he]; exact h4
  have f1 : U.vm.findClass (FieldType.array .int).toString = some comp := by rw [hvm.findClass]; exact h1
  have f2 : U.vm.findClass ("[" ++ (FieldType.array .int).toString) = some c := by rw [hvm.findClass]; exact h5
  unfold zAOA Cond.before Cond.holds
  simp only [Cond.value]
  rw [f1, Option.bind_some]
  refine (congrArg (fun o : Option Nat => (o.bind (fun c => (U.vm.classes[c]?).map fun (k : Class) => match k.kind with | .array _ ty => decide (ty = FieldType.array .int) && decide (U.vm.findClass ("[" ++ (FieldType.array .int).toString) = some c) | _ => false) == some true)) hi).trans ?_
  simp [hk', hkind, f2]
def zExc : List String := ["java/lang/IllegalArgumentException", "java/lang/IndexOutOfBoundsException", "java/lang/IllegalStateException"]
def zDecl : List String := ["java/lang/RuntimeException", "java/lang/Exception", "java/lang/Throwable"]
def zSt (G : ZG) (U : State) : Prop := va_K G.2.1 vwCl (zTy G.2.2.1) U ∧ vx_Zq Bundle.tN "UNASSIGNED_STACK" Bundle.steD (zfr G) U G.2.2.2 ∧ vx_Zq Bundle.tN "SUPPRESSED_SENTINEL" Bundle.listD (zfr G) U G.2.2.2 ∧ (∀ q ∈ zTx, ∃ sa, vk_R q.1 q.2.1 q.2.2 sa U) ∧ (∀ E ∈ zExc, va_Nw (.castable E E) U) ∧ True ∧ va_AO RX0 U ∧ va_AO RX1 U ∧ zAOA U ∧ G.1.stackTraces = false ∧ (∀ F ∈ zDecl, va_Nw (.declares ⟨F, "<init>", "(Ljava/lang/String;)V"⟩) U) ∧ ∀ scr, G.2.2.2[G.2.2.1 6]? = some scr → U.isArrayOf scr .int
theorem zSt.warm {G : ZG} {s U : State} (hW : s.WarmedH U.vm) (h : zSt G s) : zSt G U := by
  obtain ⟨h1, h2, h3, h4, h5, h6, h7, h8, h9, h10, h11, h12⟩ := h
  exact ⟨h1.moved hW.alike, h2.moved hW.alike, h3.moved hW.alike, fun q hq => by obtain ⟨sa, z⟩ := h4 q hq; exact ⟨sa, vk_R.warm hW z⟩, fun E hE => (h5 E hE).warmC hW, h6, h7.moved hW.alike, h8.moved hW.alike, h9.moved hW.alike, h10, fun F hF => (h11 F hF).warmD hW, fun scr hs => State.isArrayOf_alike hW.alike (h12 scr hs)⟩
def zPc (G : ZG) (As : List Value) (M : ZM) : Array Value → State → Prop := fun v U => v = As.toArray ∧ zRel G M U.heap ∧ zSt G U
theorem zPc.blind {G : ZG} {As : List Value} {M : ZM} : FrameBlind (zPc G As M) := fun a U g mk h => ⟨h.1, h.2.1, zSt.warm (s := U) (U := U.calling g mk a) (State.WarmedH.refl U) h.2.2⟩
def zQc (G : ZG) (P : ZO → ZM → Prop) : Array Value → State → Outcome → State → Prop := fun _ st o t => ∃ (v : Option Value) (M' : ZM), o = .returned v ∧ P (.inl v) M' ∧ zRel G M' t.heap ∧ st.heap.size ≤ t.heap.size
def zXC (G : ZG) (P : ZO → ZM → Prop) : String → State → State → Prop := fun E st t => ∃ M' : ZM, P (.inr E) M' ∧ zRel G M' t.heap ∧ st.heap.size ≤ t.heap.size
def zMetC (G : ZG) (cd : Cond) (t : ZY) (As : List Value) (M : ZM) (P : ZO → ZM → Prop) : Prop :=
  vx_Met G.1 (zyn t) (cd :: zTs) (zrm (zyh t) (zyu t)) (zPc G As M) (zQc G P) (zXC G P) (zyu t) (64 * zyu t) (zfr G)
abbrev zMet (G : ZG) (t : ZY) (As : List Value) (M : ZM) (P : ZO → ZM → Prop) : Prop := zMetC G (zcd t) t As M P
/-- the call returns v, the memory is M' -/
def zone (v : Option Value) (M' : ZM) : ZO → ZM → Prop := fun o M => o = .inl v ∧ M = M'
/-- the call throws E, the memory is M' -/
def zthr (E : String) (M' : ZM) : ZO → ZM → Prop := fun o M => o = .inr E ∧ M = M'
abbrev ZE : Type := Program × Env × Room × State × MethodId × Array Value × List Frame × Method × Code
def zOK (t : ZY) (tb : List ExceptionTableEntry) (G : ZG) (E : ZE) : Prop :=
  match E with
  | (p, e, R, s, m, args, below, meth, c) => p.tables.exec = Jvm.exec ∧ c.code = zyc t ∧ meth.sig.returnType = zyr t ∧ c.maxLocals = zyl t ∧ s.vm.findClass (zyn t).cls = some m.cls ∧ meth.locks = false ∧ (∀ w ∈ zTs, w.before args s = true) ∧ zSt G s ∧ (G.2.2.2.size ≤ s.heap.size ∧ ∀ q, q < G.2.2.2.size → s.heap[q]? = G.2.2.2[q]?) ∧ c.exceptionTable.toList = tb ∧ meth.name = (zyn t).name ∧ zyh t ≤ R.frames ∧ 36 * zyh t ≤ R.locals ∧ zyu t ≤ R.cells ∧ 64 * zyu t ≤ R.slots
/-- what a method's frame owes: from here, with b units left, it comes to Q -/
def WW (E : ZE) (G : ZG) (u : Nat) (Q : State → Prop) (M : ZM) (b pc : Nat) (L : List (Option Value)) (S : List Value) : Prop :=
  match E with
  | (p, e, R, s, m, args, below, meth, c) => ∀ (H : Heap) (locs : List Loc) (ls : Array Slot) (cells slots : Nat), zRel G M H → s.heap.size ≤ H.size → (∀ q ∈ locs, zfr G q.base) → zL ls c.maxLocals L → cells + b ≤ u → slots + 64 * b ≤ 64 * u → W p G.1 e R s m args below meth c H locs cells slots Q (F0 m pc ls S)
/-- .. with En thrown at pc -/
def XX (E : ZE) (G : ZG) (u : Nat) (Q : State → Prop) (M : ZM) (b pc : Nat) (L : List (Option Value)) (En : String) : Prop :=
  match E with
  | (p, e, R, s, m, args, below, meth, c) => ∀ (H : Heap) (locs : List Loc) (ls : Array Slot) (cells slots : Nat) (rest : List Value) (q : Addr) (ce : Cell), zRel G M H → s.heap.size ≤ H.size → (∀ q ∈ locs, zfr G q.base) → zL ls c.maxLocals L → cells + b ≤ u → slots + 64 * b ≤ 64 * u → H[q]? = some ce → ce.vm = .none → s.vm.findClass En = some ce.cls → vx_W p G.1 e R s m args below meth c H locs cells slots Q (F0 m pc ls rest) q
/-- the end that a method's contract names -/
def zQ (E : ZE) (G : ZG) (t : ZY) (P : ZO → ZM → Prop) : State → Prop :=
  match E with
  | (_, _, _, s, _, args, below, _, _) => vx_MQ below (zQc G P) (zXC G P) args s (zyu t) (64 * zyu t) (zfr G)
/-- what a callee's name needs, n its arguments -/
def zY (t : ZY) (n : Nat) : Prop := zcd t ∈ zTs ∧ Cond.initialized (zyn t).cls ∈ zTs ∧ ((zyn t).cls ≠ "java/lang/invoke/MethodHandle" ∧ (zyn t).cls ≠ "java/lang/invoke/VarHandle") ∧ (parseMethodDescriptor (zyn t).desc).map (fun d => d.parameters.length) = some n ∧ plainName (zyn t).cls = true ∧ zyl t + 19 ≤ 36
theorem zbody {G : ZG} {t : ZY} {n : Nat} {As : List Value} {M : ZM} {P : ZO → ZM → Prop} (hy : zY t n) (L : List (Option Value)) (hL : As.map some ++ List.replicate (zyl t - As.length) none = L) (hlen : As.length ≤ zyl t) (hc : ∀ v ∈ As, v.category = 1)
    (body : ∀ E : ZE, zOK t [] G E → WW E G (zyu t) (zQ E G t P) M (zyu t) 0 L []) : zMet G t As M P := by
  refine vx_ofW (cc := zyc t) (maxL := zyl t) (ret := zyr t) hy.2.2.2.2.1 rfl ?_
  intro p e s m args below meth c s₁ B hml htab hv
  obtain ⟨rfl, hrel, hst⟩ := hv
  have hts := atoms_spec (ws := zcd t :: zTs) B.pre
  have hown : s.vm.findClass (zyn t).cls = some m.cls := findClass_of_methodNamed B.named
  have htb : c.exceptionTable.toList = [] := List.eq_nil_iff_forall_not_mem.mpr fun x hx => htab x hx
  have K := body (p, e, zrm (zyh t) (zyu t), s, m, As.toArray, below, meth, c) ⟨B.exec, B.bytes, B.returns, hml, hown, B.notSynchronized, fun w hw => hts w (List.mem_cons_of_mem _ hw), hst, ⟨hrel.1, hrel.2.1⟩, htb, (name_of_methodNamed B.named B.method).1, Nat.le_refl _, Nat.le_refl _, Nat.le_refl _, Nat.le_refl _⟩
  rw [lg_entry_eq]
  exact K s.heap [] _ 0 0 hrel (Nat.le_refl _) (fun q hq => nomatch hq) (by rw [← hL, hml]; exact zL_entry hc hlen) (by omega) (by omega)
section ZROW
variable {t : ZY} {tb : List ExceptionTableEntry} {E : ZE} {G : ZG} {u : Nat} {Q : State → Prop} {M : ZM} {b pc : Nat} {L : List (Option Value)} {S : List Value}
theorem zq_iconst (K : zOK t tb G E) {n : Int} {v : Int32} (hd : decode (zyc t) pc = .ok (.iconst n, 1)) (hv : Int32.ofInt n = v) (k : WW E G u Q M b (pc + 1) L (.int v :: S)) : WW E G u Q M b pc L S := by
  obtain ⟨p, e, R, s, m, args, below, meth, c⟩ := E
  exact fun H locs ls cells slots h1 h2 h3 h4 h5 h6 => lv_iconst K.1 K.2.1 hd hv (k H locs ls cells slots h1 h2 h3 h4 h5 h6)
theorem zq_bipush (K : zOK t tb G E) {n : Int} {v : Int32} (hd : decode (zyc t) pc = .ok (.bipush n, 2)) (hv : (Int8.ofInt n).toInt32 = v) (k : WW E G u Q M b (pc + 2) L (.int v :: S)) : WW E G u Q M b pc L S := by
  obtain ⟨p, e, R, s, m, args, below, meth, c⟩ := E
  exact fun H locs ls cells slots h1 h2 h3 h4 h5 h6 => lv_bipush K.1 K.2.1 hd hv (k H locs ls cells slots h1 h2 h3 h4 h5 h6)
theorem zq_sipush (K : zOK t tb G E) {n : Int} {v : Int32} (hd : decode (zyc t) pc = .ok (.sipush n, 3)) (hv : (Int16.ofInt n).toInt32 = v) (k : WW E G u Q M b (pc + 3) L (.int v :: S)) : WW E G u Q M b pc L S := by
  obtain ⟨p, e, R, s, m, args, below, meth, c⟩ := E
  exact fun H locs ls cells slots h1 h2 h3 h4 h5 h6 => lv_sipush K.1 K.2.1 hd hv (k H locs ls cells slots h1 h2 h3 h4 h5 h6)
theorem zq_lconst (K : zOK t tb G E) {n : Fin 2} {v : Int64} (hd : decode (zyc t) pc = .ok (.lconst n, 1)) (hv : Int64.ofNat (n : Nat) = v) (k : WW E G u Q M b (pc + 1) L (.long v :: S)) : WW E G u Q M b pc L S := by
  obtain ⟨p, e, R, s, m, args, below, meth, c⟩ := E
  exact fun H locs ls cells slots h1 h2 h3 h4 h5 h6 => lv_lconst K.1 K.2.1 hd hv (k H locs ls cells slots h1 h2 h3 h4 h5 h6)
theorem zq_null (K : zOK t tb G E) (hd : decode (zyc t) pc = .ok (.aconst_null, 1)) (k : WW E G u Q M b (pc + 1) L (.null :: S)) : WW E G u Q M b pc L S := by
  obtain ⟨p, e, R, s, m, args, below, meth, c⟩ := E
  exact fun H locs ls cells slots h1 h2 h3 h4 h5 h6 => lv_null K.1 K.2.1 hd (k H locs ls cells slots h1 h2 h3 h4 h5 h6)
theorem zq_iload_n (K : zOK t tb G E) {k : Fin 4} {i : Nat} {x : Int32} (hd : decode (zyc t) pc = .ok (.iload_n k, 1)) (hi : (k : Nat) = i) (hl : L[i]? = some (some (.int x))) (kk : WW E G u Q M b (pc + 1) L (.int x :: S)) : WW E G u Q M b pc L S := by
  obtain ⟨p, e, R, s, m, args, below, meth, c⟩ := E
  exact fun H locs ls cells slots h1 h2 h3 h4 h5 h6 => lv_iload_n K.1 K.2.1 hd hi (h4.2.2 i _ hl).2 (kk H locs ls cells slots h1 h2 h3 h4 h5 h6)
theorem zq_iload (K : zOK t tb G E) {i : Nat} {x : Int32} (hd : decode (zyc t) pc = .ok (.iload i, 2)) (hl : L[i]? = some (some (.int x))) (kk : WW E G u Q M b (pc + 2) L (.int x :: S)) : WW E G u Q M b pc L S := by
  obtain ⟨p, e, R, s, m, args, below, meth, c⟩ := E
  exact fun H locs ls cells slots h1 h2 h3 h4 h5 h6 => lv_iload K.1 K.2.1 hd (h4.2.2 i _ hl).2 (kk H locs ls cells slots h1 h2 h3 h4 h5 h6)
theorem zq_aload_n (K : zOK t tb G E) {k : Fin 4} {i : Nat} {x : Nat} (hd : decode (zyc t) pc = .ok (.aload_n k, 1)) (hi : (k : Nat) = i) (hl : L[i]? = some (some (.ref x))) (kk : WW E G u Q M b (pc + 1) L (.ref x :: S)) : WW E G u Q M b pc L S := by
  obtain ⟨p, e, R, s, m, args, below, meth, c⟩ := E
  exact fun H locs ls cells slots h1 h2 h3 h4 h5 h6 => lv_aload_n K.1 K.2.1 hd hi (h4.2.2 i _ hl).2 (kk H locs ls cells slots h1 h2 h3 h4 h5 h6)
theorem zq_aload (K : zOK t tb G E) {i : Nat} {x : Nat} (hd : decode (zyc t) pc = .ok (.aload i, 2)) (hl : L[i]? = some (some (.ref x))) (kk : WW E G u Q M b (pc + 2) L (.ref x :: S)) : WW E G u Q M b pc L S := by
  obtain ⟨p, e, R, s, m, args, below, meth, c⟩ := E
  exact fun H locs ls cells slots h1 h2 h3 h4 h5 h6 => lv_aload K.1 K.2.1 hd (h4.2.2 i _ hl).2 (kk H locs ls cells slots h1 h2 h3 h4 h5 h6)
theorem zq_aload_nN (K : zOK t tb G E) {k : Fin 4} {i : Nat} (hd : decode (zyc t) pc = .ok (.aload_n k, 1)) (hi : (k : Nat) = i) (hl : L[i]? = some (some .null)) (kk : WW E G u Q M b (pc + 1) L (.null :: S)) : WW E G u Q M b pc L S := by
  obtain ⟨p, e, R, s, m, args, below, meth, c⟩ := E
  exact fun H locs ls cells slots h1 h2 h3 h4 h5 h6 => lv_aload_nN K.1 K.2.1 hd hi (h4.2.2 i _ hl).2 (kk H locs ls cells slots h1 h2 h3 h4 h5 h6)
theorem zq_aloadN (K : zOK t tb G E) {i : Nat} (hd : decode (zyc t) pc = .ok (.aload i, 2)) (hl : L[i]? = some (some .null)) (kk : WW E G u Q M b (pc + 2) L (.null :: S)) : WW E G u Q M b pc L S := by
  obtain ⟨p, e, R, s, m, args, below, meth, c⟩ := E
  exact fun H locs ls cells slots h1 h2 h3 h4 h5 h6 => lv_aloadN K.1 K.2.1 hd (h4.2.2 i _ hl).2 (kk H locs ls cells slots h1 h2 h3 h4 h5 h6)
theorem zq_istore_n (K : zOK t tb G E) {k : Fin 4} {i : Nat} {x : Int32} (hd : decode (zyc t) pc = .ok (.istore_n k, 1)) (hi : (k : Nat) = i) (hn : i < zyl t) (kk : WW E G u Q M b (pc + 1) (L.set i (some (.int x))) S) : WW E G u Q M b pc L (.int x :: S) := by
  obtain ⟨p, e, R, s, m, args, below, meth, c⟩ := E
  exact fun H locs ls cells slots h1 h2 h3 h4 h5 h6 => lv_istore_n K.1 K.2.1 hd hi h4.has (by rw [K.2.2.2.1]; exact hn) rfl (fun ls' h' => kk H locs ls' cells slots h1 h2 h3 (h4.of rfl rfl h') h5 h6)
theorem zq_istore (K : zOK t tb G E) {i : Nat} {x : Int32} (hd : decode (zyc t) pc = .ok (.istore i, 2)) (hn : i < zyl t) (kk : WW E G u Q M b (pc + 2) (L.set i (some (.int x))) S) : WW E G u Q M b pc L (.int x :: S) := by
  obtain ⟨p, e, R, s, m, args, below, meth, c⟩ := E
  exact fun H locs ls cells slots h1 h2 h3 h4 h5 h6 => lv_istore K.1 K.2.1 hd h4.has (by rw [K.2.2.2.1]; exact hn) rfl (fun ls' h' => kk H locs ls' cells slots h1 h2 h3 (h4.of rfl rfl h') h5 h6)
theorem zq_astore_n (K : zOK t tb G E) {k : Fin 4} {i : Nat} {x : Nat} (hd : decode (zyc t) pc = .ok (.astore_n k, 1)) (hi : (k : Nat) = i) (hn : i < zyl t) (kk : WW E G u Q M b (pc + 1) (L.set i (some (.ref x))) S) : WW E G u Q M b pc L (.ref x :: S) := by
  obtain ⟨p, e, R, s, m, args, below, meth, c⟩ := E
  exact fun H locs ls cells slots h1 h2 h3 h4 h5 h6 => lv_astore_n K.1 K.2.1 hd hi h4.has (by rw [K.2.2.2.1]; exact hn) rfl (fun ls' h' => kk H locs ls' cells slots h1 h2 h3 (h4.of rfl rfl h') h5 h6)
theorem zq_astore (K : zOK t tb G E) {i : Nat} {x : Nat} (hd : decode (zyc t) pc = .ok (.astore i, 2)) (hn : i < zyl t) (kk : WW E G u Q M b (pc + 2) (L.set i (some (.ref x))) S) : WW E G u Q M b pc L (.ref x :: S) := by
  obtain ⟨p, e, R, s, m, args, below, meth, c⟩ := E
  exact fun H locs ls cells slots h1 h2 h3 h4 h5 h6 => lv_astore K.1 K.2.1 hd h4.has (by rw [K.2.2.2.1]; exact hn) rfl (fun ls' h' => kk H locs ls' cells slots h1 h2 h3 (h4.of rfl rfl h') h5 h6)
theorem zq_astore_nN (K : zOK t tb G E) {k : Fin 4} {i : Nat} (hd : decode (zyc t) pc = .ok (.astore_n k, 1)) (hi : (k : Nat) = i) (hn : i < zyl t) (kk : WW E G u Q M b (pc + 1) (L.set i (some .null)) S) : WW E G u Q M b pc L (.null :: S) := by
  obtain ⟨p, e, R, s, m, args, below, meth, c⟩ := E
  exact fun H locs ls cells slots h1 h2 h3 h4 h5 h6 => lv_astore_nN K.1 K.2.1 hd hi h4.has (by rw [K.2.2.2.1]; exact hn) rfl (fun ls' h' => kk H locs ls' cells slots h1 h2 h3 (h4.of rfl rfl h') h5 h6)
theorem zq_astoreN (K : zOK t tb G E) {i : Nat} (hd : decode (zyc t) pc = .ok (.astore i, 2)) (hn : i < zyl t) (kk : WW E G u Q M b (pc + 2) (L.set i (some .null)) S) : WW E G u Q M b pc L (.null :: S) := by
  obtain ⟨p, e, R, s, m, args, below, meth, c⟩ := E
  exact fun H locs ls cells slots h1 h2 h3 h4 h5 h6 => lv_astoreN K.1 K.2.1 hd h4.has (by rw [K.2.2.2.1]; exact hn) rfl (fun ls' h' => kk H locs ls' cells slots h1 h2 h3 (h4.of rfl rfl h') h5 h6)
theorem zq_iinc (K : zOK t tb G E) {i : Nat} {n : Int} {x v : Int32} (hd : decode (zyc t) pc = .ok (.iinc i n, 3)) (hl : L[i]? = some (some (.int x))) (hv : x + Int32.ofInt n = v) (hn : i < zyl t) (kk : WW E G u Q M b (pc + 3) (L.set i (some (.int v))) S) : WW E G u Q M b pc L S := by
  obtain ⟨p, e, R, s, m, args, below, meth, c⟩ := E
  intro H locs ls cells slots h1 h2 h3 h4 h5 h6
  obtain ⟨k, hk⟩ := List.getElem?_of_mem (zA_mem.mpr (show L[(i, Value.int x).1]? = some (some (i, Value.int x).2) from hl))
  exact lv_iinc K.1 K.2.1 hd h4.has hk hv (by rw [K.2.2.2.1]; exact hn) rfl (fun ls' h' => kk H locs ls' cells slots h1 h2 h3 (h4.of rfl rfl h') h5 h6)
theorem zq_iadd (K : zOK t tb G E) {x y : Int32} (hd : decode (zyc t) pc = .ok (.iadd, 1)) (k : WW E G u Q M b (pc + 1) L (.int (x + y) :: S)) : WW E G u Q M b pc L (.int y :: .int x :: S) := by
  obtain ⟨p, e, R, s, m, args, below, meth, c⟩ := E
  exact fun H locs ls cells slots h1 h2 h3 h4 h5 h6 => lv_iadd K.1 K.2.1 hd (k H locs ls cells slots h1 h2 h3 h4 h5 h6)
theorem zq_isub (K : zOK t tb G E) {x y : Int32} (hd : decode (zyc t) pc = .ok (.isub, 1)) (k : WW E G u Q M b (pc + 1) L (.int (x - y) :: S)) : WW E G u Q M b pc L (.int y :: .int x :: S) := by
  obtain ⟨p, e, R, s, m, args, below, meth, c⟩ := E
  exact fun H locs ls cells slots h1 h2 h3 h4 h5 h6 => lv_isub K.1 K.2.1 hd (k H locs ls cells slots h1 h2 h3 h4 h5 h6)
theorem zq_imul (K : zOK t tb G E) {x y : Int32} (hd : decode (zyc t) pc = .ok (.imul, 1)) (k : WW E G u Q M b (pc + 1) L (.int (x * y) :: S)) : WW E G u Q M b pc L (.int y :: .int x :: S) := by
  obtain ⟨p, e, R, s, m, args, below, meth, c⟩ := E
  exact fun H locs ls cells slots h1 h2 h3 h4 h5 h6 => lv_imul K.1 K.2.1 hd (k H locs ls cells slots h1 h2 h3 h4 h5 h6)
theorem zq_iand (K : zOK t tb G E) {x y : Int32} (hd : decode (zyc t) pc = .ok (.iand, 1)) (k : WW E G u Q M b (pc + 1) L (.int (x &&& y) :: S)) : WW E G u Q M b pc L (.int y :: .int x :: S) := by
  obtain ⟨p, e, R, s, m, args, below, meth, c⟩ := E
  exact fun H locs ls cells slots h1 h2 h3 h4 h5 h6 => lv_iand K.1 K.2.1 hd (k H locs ls cells slots h1 h2 h3 h4 h5 h6)
theorem zq_ixor (K : zOK t tb G E) {x y : Int32} (hd : decode (zyc t) pc = .ok (.ixor, 1)) (k : WW E G u Q M b (pc + 1) L (.int (x ^^^ y) :: S)) : WW E G u Q M b pc L (.int y :: .int x :: S) := by
  obtain ⟨p, e, R, s, m, args, below, meth, c⟩ := E
  exact fun H locs ls cells slots h1 h2 h3 h4 h5 h6 => lv_ixor K.1 K.2.1 hd (k H locs ls cells slots h1 h2 h3 h4 h5 h6)
theorem zq_idiv (K : zOK t tb G E) {x y : Int32} (hd : decode (zyc t) pc = .ok (.idiv, 1)) (hne : ¬ y = 0) (k : WW E G u Q M b (pc + 1) L (.int (x / y) :: S)) : WW E G u Q M b pc L (.int y :: .int x :: S) := by
  obtain ⟨p, e, R, s, m, args, below, meth, c⟩ := E
  exact fun H locs ls cells slots h1 h2 h3 h4 h5 h6 => lv_idiv K.1 K.2.1 hd hne (k H locs ls cells slots h1 h2 h3 h4 h5 h6)
theorem zq_irem (K : zOK t tb G E) {x y : Int32} (hd : decode (zyc t) pc = .ok (.irem, 1)) (hne : ¬ y = 0) (k : WW E G u Q M b (pc + 1) L (.int (x - x / y * y) :: S)) : WW E G u Q M b pc L (.int y :: .int x :: S) := by
  obtain ⟨p, e, R, s, m, args, below, meth, c⟩ := E
  exact fun H locs ls cells slots h1 h2 h3 h4 h5 h6 => lv_irem K.1 K.2.1 hd hne (k H locs ls cells slots h1 h2 h3 h4 h5 h6)
theorem zq_i2l (K : zOK t tb G E) {x : Int32} (hd : decode (zyc t) pc = .ok (.i2l, 1)) (k : WW E G u Q M b (pc + 1) L (.long x.toInt64 :: S)) : WW E G u Q M b pc L (.int x :: S) := by
  obtain ⟨p, e, R, s, m, args, below, meth, c⟩ := E
  exact fun H locs ls cells slots h1 h2 h3 h4 h5 h6 => lv_i2l K.1 K.2.1 hd rfl (k H locs ls cells slots h1 h2 h3 h4 h5 h6)
theorem zq_lcmp (K : zOK t tb G E) {x y : Int64} (hd : decode (zyc t) pc = .ok (.lcmp, 1)) (k : WW E G u Q M b (pc + 1) L (.int (lg_cmp x y) :: S)) : WW E G u Q M b pc L (.long y :: .long x :: S) := by
  obtain ⟨p, e, R, s, m, args, below, meth, c⟩ := E
  exact fun H locs ls cells slots h1 h2 h3 h4 h5 h6 => W.lcmp K.1 K.2.1 hd (k H locs ls cells slots h1 h2 h3 h4 h5 h6)
theorem zq_dup (K : zOK t tb G E) {v : Value} (hd : decode (zyc t) pc = .ok (.dup, 1)) (hv : v.category = 1) (k : WW E G u Q M b (pc + 1) L (v :: v :: S)) : WW E G u Q M b pc L (v :: S) := by
  obtain ⟨p, e, R, s, m, args, below, meth, c⟩ := E
  exact fun H locs ls cells slots h1 h2 h3 h4 h5 h6 => lv_dup K.1 K.2.1 hd hv (k H locs ls cells slots h1 h2 h3 h4 h5 h6)
theorem zq_pop (K : zOK t tb G E) {v : Value} (hd : decode (zyc t) pc = .ok (.pop, 1)) (hv : v.category = 1) (k : WW E G u Q M b (pc + 1) L (S)) : WW E G u Q M b pc L (v :: S) := by
  obtain ⟨p, e, R, s, m, args, below, meth, c⟩ := E
  exact fun H locs ls cells slots h1 h2 h3 h4 h5 h6 => lv_pop K.1 K.2.1 hd hv (k H locs ls cells slots h1 h2 h3 h4 h5 h6)
theorem zq_dup2 (K : zOK t tb G E) {v w : Value} (hd : decode (zyc t) pc = .ok (.dup2, 1)) (hv : v.category = 1) (hw : w.category = 1) (k : WW E G u Q M b (pc + 1) L (v :: w :: v :: w :: S)) : WW E G u Q M b pc L (v :: w :: S) := by
  obtain ⟨p, e, R, s, m, args, below, meth, c⟩ := E
  exact fun H locs ls cells slots h1 h2 h3 h4 h5 h6 => lv_dup2_11 K.1 K.2.1 hd hv hw (k H locs ls cells slots h1 h2 h3 h4 h5 h6)
theorem zq_goto (K : zOK t tb G E) {off : Int} (tgt : Nat) (hd : decode (zyc t) pc = .ok (.goto off, 3)) (ht : (pc : Int) + off = (tgt : Int)) (k : WW E G u Q M b tgt L S) : WW E G u Q M b pc L S := by
  obtain ⟨p, e, R, s, m, args, below, meth, c⟩ := E
  exact fun H locs ls cells slots h1 h2 h3 h4 h5 h6 => lv_goto K.1 K.2.1 hd ht (k H locs ls cells slots h1 h2 h3 h4 h5 h6)
theorem zq_if_eq (K : zOK t tb G E) {x : Int32} {off : Int} (tgt : Nat) (hd : decode (zyc t) pc = .ok (.ifCond .eq off, 3)) (ht : (pc : Int) + off = (tgt : Int)) (kt : x = 0 → WW E G u Q M b tgt L S) (kf : ¬ x = 0 → WW E G u Q M b (pc + 3) L S) : WW E G u Q M b pc L (.int x :: S) := by
  obtain ⟨p, e, R, s, m, args, below, meth, c⟩ := E
  exact fun H locs ls cells slots h1 h2 h3 h4 h5 h6 => lv_if_eq K.1 K.2.1 hd ht (fun q => kt q H locs ls cells slots h1 h2 h3 h4 h5 h6) (fun q => kf q H locs ls cells slots h1 h2 h3 h4 h5 h6)
theorem zq_icmp_eq (K : zOK t tb G E) {x y : Int32} {off : Int} (tgt : Nat) (hd : decode (zyc t) pc = .ok (.if_icmp .eq off, 3)) (ht : (pc : Int) + off = (tgt : Int)) (kt : x = y → WW E G u Q M b tgt L S) (kf : ¬ x = y → WW E G u Q M b (pc + 3) L S) : WW E G u Q M b pc L (.int y :: .int x :: S) := by
  obtain ⟨p, e, R, s, m, args, below, meth, c⟩ := E
  exact fun H locs ls cells slots h1 h2 h3 h4 h5 h6 => lv_icmp_eq K.1 K.2.1 hd ht (fun q => kt q H locs ls cells slots h1 h2 h3 h4 h5 h6) (fun q => kf q H locs ls cells slots h1 h2 h3 h4 h5 h6)
theorem zq_if_ne (K : zOK t tb G E) {x : Int32} {off : Int} (tgt : Nat) (hd : decode (zyc t) pc = .ok (.ifCond .ne off, 3)) (ht : (pc : Int) + off = (tgt : Int)) (kt : ¬ x = 0 → WW E G u Q M b tgt L S) (kf : x = 0 → WW E G u Q M b (pc + 3) L S) : WW E G u Q M b pc L (.int x :: S) := by
  obtain ⟨p, e, R, s, m, args, below, meth, c⟩ := E
  exact fun H locs ls cells slots h1 h2 h3 h4 h5 h6 => lv_if_ne K.1 K.2.1 hd ht (fun q => kt q H locs ls cells slots h1 h2 h3 h4 h5 h6) (fun q => kf q H locs ls cells slots h1 h2 h3 h4 h5 h6)
theorem zq_icmp_ne (K : zOK t tb G E) {x y : Int32} {off : Int} (tgt : Nat) (hd : decode (zyc t) pc = .ok (.if_icmp .ne off, 3)) (ht : (pc : Int) + off = (tgt : Int)) (kt : ¬ x = y → WW E G u Q M b tgt L S) (kf : x = y → WW E G u Q M b (pc + 3) L S) : WW E G u Q M b pc L (.int y :: .int x :: S) := by
  obtain ⟨p, e, R, s, m, args, below, meth, c⟩ := E
  exact fun H locs ls cells slots h1 h2 h3 h4 h5 h6 => lv_icmp_ne K.1 K.2.1 hd ht (fun q => kt q H locs ls cells slots h1 h2 h3 h4 h5 h6) (fun q => kf q H locs ls cells slots h1 h2 h3 h4 h5 h6)
theorem zq_if_lt (K : zOK t tb G E) {x : Int32} {off : Int} (tgt : Nat) (hd : decode (zyc t) pc = .ok (.ifCond .lt off, 3)) (ht : (pc : Int) + off = (tgt : Int)) (kt : x < 0 → WW E G u Q M b tgt L S) (kf : ¬ x < 0 → WW E G u Q M b (pc + 3) L S) : WW E G u Q M b pc L (.int x :: S) := by
  obtain ⟨p, e, R, s, m, args, below, meth, c⟩ := E
  exact fun H locs ls cells slots h1 h2 h3 h4 h5 h6 => lv_if_lt K.1 K.2.1 hd ht (fun q => kt q H locs ls cells slots h1 h2 h3 h4 h5 h6) (fun q => kf q H locs ls cells slots h1 h2 h3 h4 h5 h6)
theorem zq_icmp_lt (K : zOK t tb G E) {x y : Int32} {off : Int} (tgt : Nat) (hd : decode (zyc t) pc = .ok (.if_icmp .lt off, 3)) (ht : (pc : Int) + off = (tgt : Int)) (kt : x < y → WW E G u Q M b tgt L S) (kf : ¬ x < y → WW E G u Q M b (pc + 3) L S) : WW E G u Q M b pc L (.int y :: .int x :: S) := by
  obtain ⟨p, e, R, s, m, args, below, meth, c⟩ := E
  exact fun H locs ls cells slots h1 h2 h3 h4 h5 h6 => lv_icmp_lt K.1 K.2.1 hd ht (fun q => kt q H locs ls cells slots h1 h2 h3 h4 h5 h6) (fun q => kf q H locs ls cells slots h1 h2 h3 h4 h5 h6)
theorem zq_if_ge (K : zOK t tb G E) {x : Int32} {off : Int} (tgt : Nat) (hd : decode (zyc t) pc = .ok (.ifCond .ge off, 3)) (ht : (pc : Int) + off = (tgt : Int)) (kt : 0 ≤ x → WW E G u Q M b tgt L S) (kf : ¬ 0 ≤ x → WW E G u Q M b (pc + 3) L S) : WW E G u Q M b pc L (.int x :: S) := by
  obtain ⟨p, e, R, s, m, args, below, meth, c⟩ := E
  exact fun H locs ls cells slots h1 h2 h3 h4 h5 h6 => lv_if_ge K.1 K.2.1 hd ht (fun q => kt q H locs ls cells slots h1 h2 h3 h4 h5 h6) (fun q => kf q H locs ls cells slots h1 h2 h3 h4 h5 h6)
theorem zq_icmp_ge (K : zOK t tb G E) {x y : Int32} {off : Int} (tgt : Nat) (hd : decode (zyc t) pc = .ok (.if_icmp .ge off, 3)) (ht : (pc : Int) + off = (tgt : Int)) (kt : y ≤ x → WW E G u Q M b tgt L S) (kf : ¬ y ≤ x → WW E G u Q M b (pc + 3) L S) : WW E G u Q M b pc L (.int y :: .int x :: S) := by
  obtain ⟨p, e, R, s, m, args, below, meth, c⟩ := E
  exact fun H locs ls cells slots h1 h2 h3 h4 h5 h6 => lv_icmp_ge K.1 K.2.1 hd ht (fun q => kt q H locs ls cells slots h1 h2 h3 h4 h5 h6) (fun q => kf q H locs ls cells slots h1 h2 h3 h4 h5 h6)
theorem zq_if_gt (K : zOK t tb G E) {x : Int32} {off : Int} (tgt : Nat) (hd : decode (zyc t) pc = .ok (.ifCond .gt off, 3)) (ht : (pc : Int) + off = (tgt : Int)) (kt : 0 < x → WW E G u Q M b tgt L S) (kf : ¬ 0 < x → WW E G u Q M b (pc + 3) L S) : WW E G u Q M b pc L (.int x :: S) := by
  obtain ⟨p, e, R, s, m, args, below, meth, c⟩ := E
  exact fun H locs ls cells slots h1 h2 h3 h4 h5 h6 => lv_if_gt K.1 K.2.1 hd ht (fun q => kt q H locs ls cells slots h1 h2 h3 h4 h5 h6) (fun q => kf q H locs ls cells slots h1 h2 h3 h4 h5 h6)
theorem zq_icmp_gt (K : zOK t tb G E) {x y : Int32} {off : Int} (tgt : Nat) (hd : decode (zyc t) pc = .ok (.if_icmp .gt off, 3)) (ht : (pc : Int) + off = (tgt : Int)) (kt : y < x → WW E G u Q M b tgt L S) (kf : ¬ y < x → WW E G u Q M b (pc + 3) L S) : WW E G u Q M b pc L (.int y :: .int x :: S) := by
  obtain ⟨p, e, R, s, m, args, below, meth, c⟩ := E
  exact fun H locs ls cells slots h1 h2 h3 h4 h5 h6 => lv_icmp_gt K.1 K.2.1 hd ht (fun q => kt q H locs ls cells slots h1 h2 h3 h4 h5 h6) (fun q => kf q H locs ls cells slots h1 h2 h3 h4 h5 h6)
theorem zq_if_le (K : zOK t tb G E) {x : Int32} {off : Int} (tgt : Nat) (hd : decode (zyc t) pc = .ok (.ifCond .le off, 3)) (ht : (pc : Int) + off = (tgt : Int)) (kt : x ≤ 0 → WW E G u Q M b tgt L S) (kf : ¬ x ≤ 0 → WW E G u Q M b (pc + 3) L S) : WW E G u Q M b pc L (.int x :: S) := by
  obtain ⟨p, e, R, s, m, args, below, meth, c⟩ := E
  exact fun H locs ls cells slots h1 h2 h3 h4 h5 h6 => lv_if_le K.1 K.2.1 hd ht (fun q => kt q H locs ls cells slots h1 h2 h3 h4 h5 h6) (fun q => kf q H locs ls cells slots h1 h2 h3 h4 h5 h6)
theorem zq_icmp_le (K : zOK t tb G E) {x y : Int32} {off : Int} (tgt : Nat) (hd : decode (zyc t) pc = .ok (.if_icmp .le off, 3)) (ht : (pc : Int) + off = (tgt : Int)) (kt : x ≤ y → WW E G u Q M b tgt L S) (kf : ¬ x ≤ y → WW E G u Q M b (pc + 3) L S) : WW E G u Q M b pc L (.int y :: .int x :: S) := by
  obtain ⟨p, e, R, s, m, args, below, meth, c⟩ := E
  exact fun H locs ls cells slots h1 h2 h3 h4 h5 h6 => lv_icmp_le K.1 K.2.1 hd ht (fun q => kt q H locs ls cells slots h1 h2 h3 h4 h5 h6) (fun q => kf q H locs ls cells slots h1 h2 h3 h4 h5 h6)
theorem zq_acmp_ne (K : zOK t tb G E) {rx ry : Option Nat} {off : Int} (tgt : Nat) (hd : decode (zyc t) pc = .ok (.if_acmp .ne off, 3)) (ht : (pc : Int) + off = (tgt : Int)) (kt : ¬ rx = ry → WW E G u Q M b tgt L S) (kf : rx = ry → WW E G u Q M b (pc + 3) L S) : WW E G u Q M b pc L (va_rf ry :: va_rf rx :: S) := by
  obtain ⟨p, e, R, s, m, args, below, meth, c⟩ := E
  exact fun H locs ls cells slots h1 h2 h3 h4 h5 h6 => lv_acmp_ne K.1 K.2.1 hd ht (fun q => kt q H locs ls cells slots h1 h2 h3 h4 h5 h6) (fun q => kf q H locs ls cells slots h1 h2 h3 h4 h5 h6)
theorem zq_ifnull_r (K : zOK t tb G E) {x : Nat} {off : Int} (hd : decode (zyc t) pc = .ok (.ifnull off, 3)) (k : WW E G u Q M b (pc + 3) L S) : WW E G u Q M b pc L (.ref x :: S) := by
  obtain ⟨p, e, R, s, m, args, below, meth, c⟩ := E
  exact fun H locs ls cells slots h1 h2 h3 h4 h5 h6 => lv_ifnull K.1 K.2.1 hd (k H locs ls cells slots h1 h2 h3 h4 h5 h6)
theorem zq_ifnonnull_r (K : zOK t tb G E) {x : Nat} {off : Int} (tgt : Nat) (hd : decode (zyc t) pc = .ok (.ifnonnull off, 3)) (ht : (pc : Int) + off = (tgt : Int)) (k : WW E G u Q M b tgt L S) : WW E G u Q M b pc L (.ref x :: S) := by
  obtain ⟨p, e, R, s, m, args, below, meth, c⟩ := E
  exact fun H locs ls cells slots h1 h2 h3 h4 h5 h6 => lv_ifnonnull K.1 K.2.1 hd ht (k H locs ls cells slots h1 h2 h3 h4 h5 h6)
theorem zq_ifnull_n (K : zOK t tb G E) {off : Int} (tgt : Nat) (hd : decode (zyc t) pc = .ok (.ifnull off, 3)) (ht : (pc : Int) + off = (tgt : Int)) (k : WW E G u Q M b tgt L S) : WW E G u Q M b pc L (.null :: S) := by
  obtain ⟨p, e, R, s, m, args, below, meth, c⟩ := E
  exact fun H locs ls cells slots h1 h2 h3 h4 h5 h6 => lv_ifnullN K.1 K.2.1 hd ht (k H locs ls cells slots h1 h2 h3 h4 h5 h6)
theorem zq_ifnonnull_n (K : zOK t tb G E) {off : Int} (hd : decode (zyc t) pc = .ok (.ifnonnull off, 3)) (k : WW E G u Q M b (pc + 3) L S) : WW E G u Q M b pc L (.null :: S) := by
  obtain ⟨p, e, R, s, m, args, below, meth, c⟩ := E
  exact fun H locs ls cells slots h1 h2 h3 h4 h5 h6 => lv_ifnonnullN K.1 K.2.1 hd (k H locs ls cells slots h1 h2 h3 h4 h5 h6)
/-! fields -/
def zcl (ci : Nat) (C : String) (T : u_T) (N : Nat) (ty : Nat → FieldType) : Prop := vwCl[ci]? = some (C, T, N) ∧ ci < 4 ∧ zsz ci = N ∧ (∀ w ∈ u_ws C T N, w ∈ zTs) ∧ (∀ k, k < N → parseFieldDescriptor (T k).2.2.1 = some (ty k)) ∧ (∀ a, a < N → ∀ b, b < N → a ≠ b → (T a).2.1 ≠ (T b).2.1) ∧ Cond.instantiable C N ∈ zTs ∧ Cond.initialized C ∈ zTs
theorem zat {M : ZM} {H : Heap} (h : zRel G M H) {a ci : Nat} {C : String} {T : u_T} {N : Nat} {ty : Nat → FieldType} (hC : zcl ci C T N ty) (ha : zk M a = ci + 1) : va_P G.2.1 vwCl [(a, .inr (ci, zfs M a ci N))] H := by
  intro k q hq
  match k, hq with
  | 0, hq =>
    cases hq
    have h1 := (h.2.2 a (by omega)).2
    rw [zE_o ha hC.2.1, hC.2.2.1] at h1
    exact h1
theorem zq_getI (K : zOK t tb G E) {index ci N k : Nat} {C : String} {T : u_T} {ty : Nat → FieldType} (hd : decode (zyc t) pc = .ok (.getfield index, 3)) (hC : zcl ci C T N ty) (hk : k < N) (hw : Cond.fieldLink (zyn t).cls index (T k).1 (T k).2.1 (T k).2.2.1 ∈ zTs) (hi : zfi ci k = true) {a : Nat} (ha : zk M a = ci + 1) (kk : WW E G u Q M b (pc + 3) L (.int (zi M a k) :: S)) : WW E G u Q M b pc L (.ref a :: S) := by
  obtain ⟨p, e, R, s, m, args, below, meth, c⟩ := E
  intro H locs ls cells slots h1 h2 h3 h4 h5 h6
  exact va_get K.1 K.2.1 K.2.2.2.2.2.2.1 hC.2.2.2.1 K.2.2.2.2.1 K.2.2.2.2.2.2.2.1.1 (zat h1 hC ha) 0 rfl hC.1 k hk (K.2.2.2.2.2.2.1 _ hw) (fun _ z => z) (by rw [zfs_get hk, zfv, if_pos hi]) hd (kk H locs ls cells slots h1 h2 h3 h4 h5 h6)
theorem zq_getR (K : zOK t tb G E) {index ci N k : Nat} {C : String} {T : u_T} {ty : Nat → FieldType} (hd : decode (zyc t) pc = .ok (.getfield index, 3)) (hC : zcl ci C T N ty) (hk : k < N) (hw : Cond.fieldLink (zyn t).cls index (T k).1 (T k).2.1 (T k).2.2.1 ∈ zTs) (hi : zfi ci k = false) {a : Nat} (ha : zk M a = ci + 1) {v : Option Nat} (hv : zr M a k = v) (kk : WW E G u Q M b (pc + 3) L (va_rf v :: S)) : WW E G u Q M b pc L (.ref a :: S) := by
  subst hv
  obtain ⟨p, e, R, s, m, args, below, meth, c⟩ := E
  intro H locs ls cells slots h1 h2 h3 h4 h5 h6
  exact va_get K.1 K.2.1 K.2.2.2.2.2.2.1 hC.2.2.2.1 K.2.2.2.2.1 K.2.2.2.2.2.2.2.1.1 (zat h1 hC ha) 0 rfl hC.1 k hk (K.2.2.2.2.2.2.1 _ hw) (fun _ z => z) (by rw [zfs_get hk, zfv, if_neg (by rw [hi]; decide)]) hd (kk H locs ls cells slots h1 h2 h3 h4 h5 h6)
/-- the machine's part of a putfield: one cell is written -/
theorem zputK (K : zOK t tb G E) {index ci N k : Nat} {C : String} {T : u_T} {ty : Nat → FieldType} (hd : decode (zyc t) pc = .ok (.putfield index, 3)) (hC : zcl ci C T N ty) (hk : k < N) (hw : Cond.fieldLink (zyn t).cls index (T k).1 (T k).2.1 (T k).2.2.1 ∈ zTs) (hfin : (T k).2.2.2 = false ∨ ((T k).1 = (zyn t).cls ∧ (zyn t).name = "<init>")) {a : Nat} (ha : zk M a = ci + 1) {v : Value} (hn : narrow (ty k) v = v) (hfit : fits (ty k) v = true) {M' : ZM} (hM : ∀ c0, (∀ b, zk M' b = zk M b) ∧ (∀ b, b ≠ a → zE c0 M' b = zE c0 M b)) (hset : (zfs M a ci N).set k v = zfs M' a ci N) (kk : WW E G u Q M' b (pc + 3) L S) : WW E G u Q M b pc L (v :: .ref a :: S) := by
  obtain ⟨p, e, R, s, m, args, below, meth, c⟩ := E
  intro H locs ls cells slots h1 h2 h3 h4 h5 h6
  have hK := K.2.2.2.2.2.2.2.1.1
  have hts := K.2.2.2.2.2.2.1
  have hown := K.2.2.2.2.1
  have hap := va_apart (own := (zyn t).cls) hts hC.2.2.2.1 ty hC.2.2.2.2.1 hC.2.2.2.2.2.1 hK hC.1
  obtain ⟨r, hr0, cell, q1, q2, q3, q4⟩ := (zat h1 hC ha) 0 _ rfl
  have hr : r = (C, T, N) := Option.some.inj (hr0.symm.trans hC.1)
  subst hr
  obtain ⟨hS, hfc, kC, hkC, hkind⟩ := hK.1 ci _ hC.1
  obtain ⟨cf, kf, fi, f, hi, hsl⟩ := hS k hk
  have hlay := hts _ (hC.2.2.2.1 _ (u_in_lay hk))
  have hst := (u_facts hfc hkC (u_lays hts hC.2.2.2.1 hk) hi).1
  have hl : k < (zfs M a ci N).length := by rw [zfs_len]; exact hk
  have ha0 : zk M a ≠ 0 := by omega
  have fin : ∀ H' : Heap, H'[a]? = some (cell.setSlot f.slot v) → H'.size = H.size → (∀ q, q ≠ a → H'[q]? = H[q]?) → W p G.1 e R s m args below meth c H' (locs ++ [⟨a, f.slot⟩]) cells slots Q (F0 m (pc + 3) ls S) := by
    intro H' e1 e2 e3
    rw [hsl] at e1
    refine kk H' _ ls cells slots (h1.put ha0 e2 e3 (hM G.2.2.1).1 (hM G.2.2.1).2 ?_) (by omega) (fun q hq => ?_) h4 h5 h6
    · rw [zE_o (by rw [(hM G.2.2.1).1]; exact ha) hC.2.1, hC.2.2.1, ← hset]
      exact ⟨_, hC.1, t_OB.to (V := updV (vp_V (zfs M a ci N)) k v) ⟨_, e1, q2, q3, t_set q4 hap hk v⟩ (fun j _ => vp_updV_set hl v j)⟩
    · rcases List.mem_append.mp hq with h | h
      · exact h3 q h
      · rw [List.mem_singleton.mp h]
        exact (h1.2.2 a ha0).1
  by_cases hf : (T k).2.2.2 = false
  · unfold u_lay at hlay
    rw [if_neg (by rw [hf]; decide)] at hlay
    have h6' := u_store hfc hkC hkind hlay hi (hC.2.2.2.2.1 k hk) hn hfit
    exact W.putK K.1 K.2.1 (f := f) ⟨hown, hts _ hw, ⟨_, _, _, hi⟩, hst⟩ (by rw [q2]; exact h6') q1 q3 (by rw [hsl]; exact k2_hasslot (q4 k hk)) rfl rfl hd fin
  · have hf1 : (T k).2.2.2 = true := by cases h9 : (T k).2.2.2 with
      | true => rfl
      | false => exact absurd h9 hf
    obtain ⟨hdecl, hnm⟩ := hfin.resolve_left hf
    unfold u_lay at hlay
    rw [if_pos hf1] at hlay
    have hcf : m.cls = cf := by
      obtain ⟨_, _, c', _, _, _, -, -, hf', -, -, -, hown2, -⟩ := Cond.laysFinal_spec hlay
      have e1 : c' = cf := by have := hi.symm.trans hf'; simp at this; exact this.1.symm
      rw [hdecl] at hown2
      rw [← e1]; exact Option.some.inj (hown.symm.trans hown2)
    have h6' := u_fits hfc hkC hkind (Or.inr hlay) hi (hC.2.2.2.2.1 k hk) hn hfit
    exact W.putFinK K.1 K.2.1 hown (hts _ hw) hi hst hcf (K.2.2.2.2.2.2.2.2.2.2.1.trans hnm) (by rw [q2]; exact h6') q1 q3 (by rw [hsl]; exact k2_hasslot (q4 k hk)) rfl rfl hd fin
theorem zE_i {c : Nat → ClassId} {a k b : Nat} {v : Int32} (e : b ≠ a) : zE c (zsi M a k v) b = zE c M b := by
  have h3 : zi (zsi M a k v) b = zi M b := funext fun j => by rw [zi_i, if_neg (fun q => e q.1)]
  unfold zE zct zfs zfv
  rw [h3]
  rfl
theorem zE_r {c : Nat → ClassId} {a k b : Nat} {v : Option Nat} (e : b ≠ a) : zE c (zsr M a k v) b = zE c M b := by
  have h3 : zr (zsr M a k v) b = zr M b := funext fun j => by rw [zr_r, if_neg (fun q => e q.1)]
  unfold zE zct zfs zfv
  rw [h3]
  rfl
theorem zE_j {c : Nat → ClassId} {a k b : Nat} {v : Int64} (e : b ≠ a) : zE c (zsj M a k v) b = zE c M b := by
  have h3 : zj (zsj M a k v) b = zj M b := funext fun j => by rw [zj_j, if_neg (fun q => e q.1)]
  unfold zE zct zfs zfv
  rw [h3]
  rfl
theorem zq_putI (K : zOK t tb G E) {index ci N k : Nat} {C : String} {T : u_T} {ty : Nat → FieldType} (hd : decode (zyc t) pc = .ok (.putfield index, 3)) (hC : zcl ci C T N ty) (hk : k < N) (hw : Cond.fieldLink (zyn t).cls index (T k).1 (T k).2.1 (T k).2.2.1 ∈ zTs) (hfin : (T k).2.2.2 = false ∨ ((T k).1 = (zyn t).cls ∧ (zyn t).name = "<init>")) (hty : ty k = .int) (hi : zfi ci k = true) {a : Nat} {x : Int32} (ha : zk M a = ci + 1) (kk : WW E G u Q (zsi M a k x) b (pc + 3) L S) : WW E G u Q M b pc L (.int x :: .ref a :: S) :=
  zputK (M' := zsi M a k x) K hd hC hk hw hfin ha (by rw [hty]; rfl) (by rw [hty]; rfl) (fun _ => ⟨fun _ => rfl, fun _ e => zE_i e⟩) (zfs_set (by rw [zfv, if_pos hi, zi_i, if_pos ⟨rfl, rfl⟩]) (fun j hj => by unfold zfv; rw [show zi (zsi M a k x) a j = zi M a j from by rw [zi_i, if_neg (fun q => hj q.2)]]; rfl)) kk
theorem zq_putR (K : zOK t tb G E) {index ci N k : Nat} {C : String} {T : u_T} {ty : Nat → FieldType} (hd : decode (zyc t) pc = .ok (.putfield index, 3)) (hC : zcl ci C T N ty) (hk : k < N) (hw : Cond.fieldLink (zyn t).cls index (T k).1 (T k).2.1 (T k).2.2.1 ∈ zTs) (hfin : (T k).2.2.2 = false ∨ ((T k).1 = (zyn t).cls ∧ (zyn t).name = "<init>")) (hty : ∀ r : Option Nat, narrow (ty k) (va_rf r) = va_rf r ∧ fits (ty k) (va_rf r) = true) (hi : zfi ci k = false) {a : Nat} {r : Option Nat} (ha : zk M a = ci + 1) (kk : WW E G u Q (zsr M a k r) b (pc + 3) L S) : WW E G u Q M b pc L (va_rf r :: .ref a :: S) :=
  zputK (M' := zsr M a k r) K hd hC hk hw hfin ha (hty r).1 (hty r).2 (fun _ => ⟨fun _ => rfl, fun _ e => zE_r e⟩) (zfs_set (by rw [zfv, if_neg (by rw [hi]; decide), zr_r, if_pos ⟨rfl, rfl⟩]) (fun j hj => by unfold zfv; rw [show zr (zsr M a k r) a j = zr M a j from by rw [zr_r, if_neg (fun q => hj q.2)]]; rfl)) kk
/-! arrays -/
theorem zarr {M : ZM} {H : Heap} (h : zRel G M H) {a k : Nat} (ha : zk M a = k) (hk : 5 ≤ k) : H[a]? = some (vp_cell (G.2.2.1 (k - 5)) (zct M a k)) := by
  have h1 := (h.2.2 a (by omega)).2
  rw [zE_a ha hk] at h1
  exact h1
theorem zct_i {a k : Nat} (hk : k = 5 ∨ k = 6) (c : ClassId) : vp_cell c (zct M a k) = arrV c (zn M a) (fun j => .int (zi M a j)) := by
  unfold zct
  rw [if_pos hk]
  rfl
theorem zct_j {a : Nat} (c : ClassId) : vp_cell c (zct M a 7) = arrV c (zn M a) (fun j => .long (zj M a j)) := by
  unfold zct
  rw [if_neg (by omega), if_pos rfl]
  rfl
theorem zct_r {a k : Nat} (hk : 8 ≤ k) (c : ClassId) : vp_cell c (zct M a k) = arrV c (zn M a) (fun j => va_rf (zr M a j)) := by
  unfold zct
  rw [if_neg (by omega), if_neg (by omega)]
  rfl
theorem zq_alen (K : zOK t tb G E) {a k : Nat} (hd : decode (zyc t) pc = .ok (.arraylength, 1)) (ha : zk M a = k) (hk : 5 ≤ k ∧ k ≤ 10) (kk : WW E G u Q M b (pc + 1) L (.int (nI (zn M a)) :: S)) : WW E G u Q M b pc L (.ref a :: S) := by
  obtain ⟨p, e, R, s, m, args, below, meth, c⟩ := E
  intro H locs ls cells slots h1 h2 h3 h4 h5 h6
  have hT := K.2.2.2.2.2.2.2.1.1.2
  have hc := zarr h1 ha hk.1
  have z : ∃ f : Nat → Value, vp_cell (G.2.2.1 (k - 5)) (zct M a k) = arrV (G.2.2.1 (k - 5)) (zn M a) f := by
    by_cases q : k = 5 ∨ k = 6
    · exact ⟨_, zct_i q _⟩
    · by_cases q7 : k = 7
      · subst q7; exact ⟨_, zct_j _⟩
      · exact ⟨_, zct_r (by omega) _⟩
  obtain ⟨f, hf⟩ := z
  rw [hf] at hc
  have hty : ∃ ty, (zTy G.2.2.1)[k - 5]? = some (G.2.2.1 (k - 5), ty) := by
    obtain ⟨q1, q2⟩ := hk
    match k, q1, q2 with
    | 5, _, _ => exact ⟨_, rfl⟩
    | 6, _, _ => exact ⟨_, rfl⟩
    | 7, _, _ => exact ⟨_, rfl⟩
    | 8, _, _ => exact ⟨_, rfl⟩
    | 9, _, _ => exact ⟨_, rfl⟩
    | 10, _, _ => exact ⟨_, rfl⟩
  obtain ⟨ty, hty⟩ := hty
  exact W.alen (n := nI (zn M a)) K.1 K.2.1 hc ((hT _ _ hty).1 _ _) (by rw [arrV_size]; rfl) rfl rfl hd (kk H locs ls cells slots h1 h2 h3 h4 h5 h6)
theorem zq_iald (K : zOK t tb G E) {a : Nat} {i : Int32} (j : Nat) (hd : decode (zyc t) pc = .ok (.iaload, 1)) (ha : zk M a = 5) (hi : i = nI j) (hj : j < zn M a) (hn : zn M a < 2 ^ 31) (kk : WW E G u Q M b (pc + 1) L (.int (zi M a j) :: S)) : WW E G u Q M b pc L (.int i :: .ref a :: S) := by
  subst hi
  obtain ⟨p, e, R, s, m, args, below, meth, c⟩ := E
  intro H locs ls cells slots h1 h2 h3 h4 h5 h6
  have hT := K.2.2.2.2.2.2.2.1.1.2
  have hc := zarr h1 ha (by omega)
  rw [zct_i (Or.inl rfl)] at hc
  have e1 : (nI j).toNatClampNeg = j := nI_clamp (by omega)
  exact W.iald (v := .int (zi M a j)) K.1 K.2.1 hc ((hT 0 _ rfl).1 _ _) (fun q => by cases q) (by rw [arrV_size]; exact vp_in_nI hj hn) (by rw [e1, arrV_read _ _ hj]) rfl rfl hd (kk H locs ls cells slots h1 h2 h3 h4 h5 h6)
theorem zq_aald (K : zOK t tb G E) {a k : Nat} {i : Int32} (j : Nat) {v : Option Nat} (hd : decode (zyc t) pc = .ok (.aaload, 1)) (ha : zk M a = k) (hk : 8 ≤ k ∧ k ≤ 10) (hi : i = nI j) (hj : j < zn M a) (hn : zn M a < 2 ^ 31) (hv : zr M a j = v) (kk : WW E G u Q M b (pc + 1) L (va_rf v :: S)) : WW E G u Q M b pc L (.int i :: .ref a :: S) := by
  subst hi; subst hv
  obtain ⟨p, e, R, s, m, args, below, meth, c⟩ := E
  intro H locs ls cells slots h1 h2 h3 h4 h5 h6
  have hT := K.2.2.2.2.2.2.2.1.1.2
  have hc := zarr h1 ha (by omega)
  rw [zct_r hk.1] at hc
  have e1 : (nI j).toNatClampNeg = j := nI_clamp (by omega)
  have hty : ∃ ty : FieldType, ty.isReference = true ∧ (zTy G.2.2.1)[k - 5]? = some (G.2.2.1 (k - 5), ty) := by
    obtain ⟨q1, q2⟩ := hk
    match k, q1, q2 with
    | 8, _, _ => exact ⟨_, by rfl, rfl⟩
    | 9, _, _ => exact ⟨_, by rfl, rfl⟩
    | 10, _, _ => exact ⟨_, by rfl, rfl⟩
  obtain ⟨ty, hr, hty⟩ := hty
  exact W.aald (v := va_rf (zr M a j)) (ty := ty) K.1 K.2.1 hc ((hT _ _ hty).1 _ _) hr (fun q => by cases q) (by rw [arrV_size]; exact vp_in_nI hj hn) (by rw [e1, arrV_read _ _ hj]) rfl rfl hd (kk H locs ls cells slots h1 h2 h3 h4 h5 h6)
theorem zq_iast (K : zOK t tb G E) {a : Nat} {i x : Int32} (j : Nat) (hd : decode (zyc t) pc = .ok (.iastore, 1)) (ha : zk M a = 5) (hi : i = nI j) (hj : j < zn M a) (hn : zn M a < 2 ^ 31) (kk : WW E G u Q (zsi M a j x) b (pc + 1) L S) : WW E G u Q M b pc L (.int x :: .int i :: .ref a :: S) := by
  subst hi
  obtain ⟨p, e, R, s, m, args, below, meth, c⟩ := E
  intro H locs ls cells slots h1 h2 h3 h4 h5 h6
  have hT := K.2.2.2.2.2.2.2.1.1.2
  have hc := zarr h1 ha (by omega)
  rw [zct_i (Or.inl rfl)] at hc
  have e1 : (nI j).toNatClampNeg = j := nI_clamp (by omega)
  refine W.iast K.1 K.2.1 hc ((hT 0 _ rfl).1 _ _) (fun q => by cases q) (by rw [arrV_size]; exact vp_in_nI hj hn) rfl rfl hd fun H1 g1 g2 g3 => ?_
  refine kk H1 _ ls cells slots (h1.put (by omega) g2 g3 (fun _ => rfl) (fun _ e => zE_i e) ?_) (by omega) (fun q hq => ?_) h4 h5 h6
  · rw [zE_a (M := zsi M a j x) (k := 5) ha (by omega)]
    show H1[a]? = some (vp_cell _ _)
    rw [g1, zct_i (Or.inl rfl), arrV_store, e1]
    congr 2
    funext q
    by_cases hq : q = j
    · subst hq
      simp [updV, zi_i]
    · simp [updV, zi_i, hq]
  · rcases List.mem_append.mp hq with h | h
    · exact h3 q h
    · rw [List.mem_singleton.mp h]
      exact (h1.2.2 a (by omega)).1
/-- the reference y of class ci goes into an array of kind k -/
theorem zq_aast (K : zOK t tb G E) {a k y ci N : Nat} {C : String} {T : u_T} {ty : Nat → FieldType} {i : Int32} (j : Nat) (hd : decode (zyc t) pc = .ok (.aastore, 1)) (hC : zcl ci C T N ty) (ha : zk M a = k) (hk : (zTy G.2.2.1)[k - 5]? = some (G.2.2.1 (k - 5), .object C) ∧ 8 ≤ k) (hy : zk M y = ci + 1) (hi : i = nI j) (hj : j < zn M a) (hn : zn M a < 2 ^ 31) (kk : WW E G u Q (zsr M a j (some y)) b (pc + 1) L S) : WW E G u Q M b pc L (.ref y :: .int i :: .ref a :: S) := by
  subst hi
  obtain ⟨p, e, R, s, m, args, below, meth, c⟩ := E
  intro H locs ls cells slots h1 h2 h3 h4 h5 h6
  have hK := K.2.2.2.2.2.2.2.1.1
  have hc := zarr h1 ha (by omega)
  rw [zct_r hk.2] at hc
  have e1 : (nI j).toNatClampNeg = j := nI_clamp (by omega)
  obtain ⟨r', hr', cellV, v1, v2, v3, -⟩ := (zat h1 hC hy) 0 _ rfl
  have hcls := (hK.1 ci _ hC.1).2
  obtain ⟨kA, comp, k1, k2, k3, -⟩ := (hK.2 _ _ hk.1).2
  have hcomp : comp = G.2.1.1 ci := Option.some.inj (k3.symm.trans hcls.1)
  subst hcomp
  obtain ⟨kC, hkC, -⟩ := hcls.2
  refine W.aast K.1 K.2.1 hc (fun q h => by cases h) (fun h => by cases h) k1 k2 rfl hkC ⟨nI_pos (by omega), by rw [arrV_size, e1]; exact hj⟩ v1 (fun q h => by rw [v3] at h; cases h) (by rw [v2]; exact hkC) (by rw [v2]; exact va_assign hcls) rfl rfl hd fun H1 g1 g2 g3 => ?_
  refine kk H1 _ ls cells slots (h1.put (by omega) g2 g3 (fun _ => rfl) (fun _ e => zE_r e) ?_) (by omega) (fun q hq => ?_) h4 h5 h6
  · rw [zE_a (M := zsr M a j (some y)) (k := k) ha (by omega)]
    show H1[a]? = some (vp_cell _ _)
    rw [g1, zct_r hk.2, arrV_store, e1]
    congr 2
    funext q
    by_cases hq : q = j
    · subst hq
      simp [updV, zr_r, va_rf]
    · simp [updV, zr_r, hq]
  · rcases List.mem_append.mp hq with h | h
    · exact h3 q h
    · rw [List.mem_singleton.mp h]
      exact (h1.2.2 a (by omega)).1
/-- null goes into an array of directories -/
theorem zq_aastN (K : zOK t tb G E) {a k : Nat} {C : String} {i : Int32} (j : Nat) (hd : decode (zyc t) pc = .ok (.aastore, 1)) (ha : zk M a = k) (hk : (zTy G.2.2.1)[k - 5]? = some (G.2.2.1 (k - 5), .object C) ∧ 8 ≤ k) (hi : i = nI j) (hj : j < zn M a) (hn : zn M a < 2 ^ 31) (kk : WW E G u Q (zsr M a j none) b (pc + 1) L S) : WW E G u Q M b pc L (.null :: .int i :: .ref a :: S) := by
  subst hi
  obtain ⟨p, e, R, s, m, args, below, meth, c⟩ := E
  intro H locs ls cells slots h1 h2 h3 h4 h5 h6
  have hK := K.2.2.2.2.2.2.2.1.1
  have hc := zarr h1 ha (by omega)
  rw [zct_r hk.2] at hc
  have e1 : (nI j).toNatClampNeg = j := nI_clamp (by omega)
  refine va_WaastN (C := C) K.1 K.2.1 hc ((hK.2 _ _ hk.1).1 _ _) (fun h => by cases h) (by rw [arrV_size]; exact vp_in_nI hj hn) rfl rfl hd fun H1 g1 g2 g3 => ?_
  refine kk H1 _ ls cells slots (h1.put (by omega) g2 g3 (fun _ => rfl) (fun _ e => zE_r e) ?_) (by omega) (fun q hq => ?_) h4 h5 h6
  · rw [zE_a (M := zsr M a j none) (k := k) ha (by omega)]
    show H1[a]? = some (vp_cell _ _)
    rw [g1, zct_r hk.2, arrV_store, e1]
    congr 2
    funext q
    by_cases hq : q = j
    · subst hq
      simp [updV, zr_r, va_rf]
    · simp [updV, zr_r, hq]
  · rcases List.mem_append.mp hq with h | h
    · exact h3 q h
    · rw [List.mem_singleton.mp h]
      exact (h1.2.2 a (by omega)).1
end ZROW

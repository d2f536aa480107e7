/-! ===== BEGIN a constructor that throws (launches without stack traces) ===== -/
section VXIA
variable {p : Program} {l : Launch} {e : Env} {R : Room} {s : State} {m : MethodId} {args : Array Value} {below : List Frame} {meth : Method} {c : Code} {T : State} {locs : List Loc} {cells slots : Nat}
theorem vx_callI (X : Stand p l e R s m args below meth c T locs cells slots) (hexec : p.tables.exec = Jvm.exec) {own : String} {index : Nat} {y : MethodName} {bytes : ByteArray} {maxL : Nat}
    (hown : s.vm.findClass own = some m.cls) (hy1 : y.name = "<init>") (hlink : (Cond.methodLink own index y).before args s = true) (hinst : (Cond.instanceMethod y).before args s = true)
    (hcode : (Cond.code y bytes maxL none).before args s = true) (hy : y.cls ≠ "java/lang/invoke/MethodHandle" ∧ y.cls ≠ "java/lang/invoke/VarHandle")
    {W9 : Nat} {Pre : Pt → Array Value → Prop} {Post : Pt → Array Value → Option Value → Pt → Prop} {PostX : Pt → Array Value → Addr → Pt → Prop} (hK : vx_Back l R p e below s args y 3 W9 Pre Post PostX)
    {g : JFrame} (hg : g.method = m) (hsize : g.locals.size = c.maxLocals) {a : Addr} {argsL rest : List Value} (hlen : ∀ sig, parseMethodDescriptor y.desc = some sig → argsL.length = sig.parameters.length)
    (hstack : g.stack = argsL.reverse ++ .ref a :: rest) (hW : 2 * g.monitorRoom + (rest.map fun v => v.category).sum ≤ W9) (hdg : decode c.code g.pc = .ok (.invokespecial index, 3))
    (hpre : ∀ vm₁, s.WarmedH vm₁ → Pre ⟨T.setVm vm₁, locs, cells, slots⟩ (Value.ref a :: argsL).toArray) :
    (∃ (v : Option Value) (vm₁ : Vm) (B : Pt), s.WarmedH vm₁ ∧ Stand p l e R s m args below meth c B.U B.locs B.cells B.slots ∧ Post ⟨T.setVm vm₁, locs, cells, slots⟩ (Value.ref a :: argsL).toArray v B ∧
      ∀ target, Steps p.tables e below (B.U.setTop { g with pc := g.pc + 3, stack := v.toList ++ rest }) target → Steps p.tables e below (T.setTop g) target) ∨
    (∃ (q : Addr) (vm₁ : Vm) (B : Pt), s.WarmedH vm₁ ∧ Stand p l e R s m args below meth c B.U B.locs B.cells B.slots ∧ PostX ⟨T.setVm vm₁, locs, cells, slots⟩ (Value.ref a :: argsL).toArray q B ∧
      Steps p.tables e below (T.setTop g) ((B.U.setTop { g with stack := rest }).pushFrame (.throwing q))) := by
  subst hg
  have hpl : e.platform.magicAccessors = ({} : Platform).magicAccessors := by rw [X.admits.platform]
  obtain ⟨mk, methM, cM, kP, vm₁, hnamed, hmethM, hcodeM, -, hlocalsM, -, hkP, -, hW₁, hstep₁⟩ := Steps.initColdArgs (e := e) X.here hexec X.warmed hpl hown hy1 hy hlink hinst hcode (f := g) rfl hlen hstack hdg
  have X₁ := X.noted hW₁
  rcases hK g.method meth c ⟨T.setVm vm₁, locs, cells, slots⟩ { g with stack := rest } (.invokespecial index) mk (Value.ref a :: argsL).toArray X₁ rfl hsize hdg hW (X₁.named hnamed) (hpre vm₁ X₁.warmed) with ⟨v, B, X', hpost, hsteps⟩ | ⟨q, B, X', hpost, hsteps⟩
  · exact Or.inl ⟨v, vm₁, B, X₁.warmed, X', hpost, fun target h => hstep₁ _ fun acts => by rw [doInvoke_state]; exact hsteps.trans h⟩
  · exact Or.inr ⟨q, vm₁, B, X₁.warmed, X', hpost, hstep₁ _ fun acts => by rw [doInvoke_state]; exact hsteps⟩
end VXIA
section VXIB
variable {p : Program} {l : Launch} {e : Env} {R : Room} {s : State} {m : MethodId} {args : Array Value} {below : List Frame} {meth : Method} {c : Code} {H : Heap} {locs : List Loc} {cells slots : Nat}
variable {y : MethodName} {bytes cc : ByteArray} {maxL nL mc ms n index : Nat} {ret : Option FieldType} {ws : List Cond} {rm : Room} {Pc : Array Value → State → Prop} {Qc : Array Value → State → Outcome → State → Prop} {XC : String → State → State → Prop} {free : Addr → Prop} {Ts : List Cond} {own C : String} {b : Addr} {As rest : List Value} {g : JFrame}
theorem vx_runI (S : CallFix p m c cc nL s args Ts own) (hM : vx_Met l y ws rm Pc Qc XC mc ms free) (cw : CallB R s args own index y bytes maxL none ws rm mc ms n ∧ y.name = "<init>" ∧ (Cond.instanceMethod y).before args s = true) (hp : PreS s H Pc (.ref b :: As))
    (hg : g.method = m) (hn : As.length = n) (hsize : g.locals.size = nL) (hstack : g.stack = As.reverse ++ .ref b :: rest) (hW : 2 * g.monitorRoom + (rest.map fun v => v.category).sum ≤ 8) (hdg : decode cc g.pc = .ok (.invokespecial index, 3)) (hf : cells + mc ≤ R.cells ∧ slots + ms ≤ R.slots) :
    vx_Run p l e R s m args below meth c H locs cells slots mc ms g rest (Qc (Value.ref b :: As).toArray) XC free := by
  have hK : vx_Back l R p e below s args y 3 8 (PreOf R mc ms Pc) (PostOf Qc mc ms free) (vx_Post XC mc ms free) := vx_callBack cw.1 hM hp.1
  obtain ⟨⟨-, -, -, -, -, -, hcode, -, hy, hlen, hl⟩, hy1, hin⟩ := cw
  obtain ⟨hx, hb, hml, ho, -⟩ := S
  have hPc := hp.2
  intro T hT X
  rcases vx_callI X hx (bytes := bytes) (maxL := maxL) ho hy1 hl hin hcode hy hK hg (hsize.trans hml.symm) (a := b) (argsL := As) (rest := rest) (fun sig h => hn.trans (hlen sig h)) hstack hW (by rw [hb]; exact hdg)
    (fun vm₁ hW₁ => ⟨hf.1, hf.2, hPc (T.setVm vm₁) hT hW₁⟩) with ⟨v, vm₁, ⟨U', l2, c2, s2⟩, hW₁, X', ⟨g', mk, t, L, e1, e2, hq, h1, hL, h2, h3⟩, st⟩ | ⟨q, vm₁, ⟨U', l2, c2, s2⟩, hW₁, X', ⟨g', mk, t, L, E, ce, e1, e2, hq, hce, hcv, hcl, h1, hL, h2, h3⟩, st⟩
  · dsimp only [Pt.U, Pt.locs, Pt.cells, Pt.slots] at X' e1 e2 h1 h2 h3 st
    subst h1; subst h2; subst h3
    exact Or.inl ⟨v, (T.setVm vm₁).calling g' mk (Value.ref b :: As).toArray, t, U', L, hT, X', hL, e1, e2, hq, st⟩
  · dsimp only [Pt.U, Pt.locs, Pt.cells, Pt.slots] at X' e1 e2 h1 h2 h3 st hcl
    subst h1; subst h2; subst h3
    exact Or.inr ⟨q, (T.setVm vm₁).calling g' mk (Value.ref b :: As).toArray, t, U', L, E, ce, hT, X', hL, e1, e2, hq, hce, hcv, vx_cls hW₁ hcl, st⟩
end VXIB
/-! ===== END ===== -/
section ZROW2
variable {t : ZY} {tb : List ExceptionTableEntry} {E : ZE} {G : ZG} {u : Nat} {Q : State → Prop} {M : ZM} {b pc : Nat} {L : List (Option Value)} {S : List Value} {P P' : ZO → ZM → Prop}
/-! ends -/
theorem zq_iret (K : zOK t tb G E) {v : Int32} (hd : decode (zyc t) pc = .ok (.ireturn, 1)) (hr : zyr t = some .int) (h : P (.inl (some (.int v))) M) : WW E G (zyu t) (zQ E G t P) M b pc L [.int v] := by
  obtain ⟨p, e, R, s, m, args, below, meth, c⟩ := E
  intro H locs ls cells slots h1 h2 h3 h4 h5 h6
  refine W.widen (k := zyu t) (n := 64 * zyu t) (by omega) (by omega) ?_
  exact vx_ret (W.iret K.1 K.2.1 (K.2.2.1.trans hr) (fun z hz _ => ⟨_, M, rfl, h, by rw [hz]; exact h1, by rw [hz]; exact h2⟩) h3 hd K.2.2.2.2.2.1)
theorem zq_zret (K : zOK t tb G E) {v : Int32} (hd : decode (zyc t) pc = .ok (.ireturn, 1)) (hr : zyr t = some .boolean) (hv : narrow .boolean (.int v) = .int v) (h : P (.inl (some (.int v))) M) : WW E G (zyu t) (zQ E G t P) M b pc L [.int v] := by
  obtain ⟨p, e, R, s, m, args, below, meth, c⟩ := E
  intro H locs ls cells slots h1 h2 h3 h4 h5 h6
  refine W.widen (k := zyu t) (n := 64 * zyu t) (by omega) (by omega) ?_
  exact vx_ret (W.zret K.1 K.2.1 (K.2.2.1.trans hr) hv (fun z hz _ => ⟨_, M, rfl, h, by rw [hz]; exact h1, by rw [hz]; exact h2⟩) h3 hd K.2.2.2.2.2.1)
theorem zq_aret (K : zOK t tb G E) {v : Value} {C : String} (hd : decode (zyc t) pc = .ok (.areturn, 1)) (hr : zyr t = some (.object C)) (hv : v = .null ∨ ∃ a, v = .ref a) (h : P (.inl (some v)) M) : WW E G (zyu t) (zQ E G t P) M b pc L [v] := by
  obtain ⟨p, e, R, s, m, args, below, meth, c⟩ := E
  intro H locs ls cells slots h1 h2 h3 h4 h5 h6
  refine W.widen (k := zyu t) (n := 64 * zyu t) (by omega) (by omega) ?_
  exact vx_ret (W.aret K.1 K.2.1 (K.2.2.1.trans hr) (Or.inl ⟨C, rfl⟩) hv (fun z hz _ => ⟨_, M, rfl, h, by rw [hz]; exact h1, by rw [hz]; exact h2⟩) h3 hd K.2.2.2.2.2.1)
theorem zq_ret (K : zOK t tb G E) (hd : decode (zyc t) pc = .ok (.return_, 1)) (hr : zyr t = none) (h : P (.inl none) M) : WW E G (zyu t) (zQ E G t P) M b pc L [] := by
  obtain ⟨p, e, R, s, m, args, below, meth, c⟩ := E
  intro H locs ls cells slots h1 h2 h3 h4 h5 h6
  refine W.widen (k := zyu t) (n := 64 * zyu t) (by omega) (by omega) ?_
  exact vx_ret (W.vret K.1 K.2.1 (K.2.2.1.trans hr) (fun z hz _ => ⟨_, M, rfl, h, by rw [hz]; exact h1, by rw [hz]; exact h2⟩) h3 hd K.2.2.2.2.2.1)
theorem zq_objInit (K : zOK t tb G E) {idx a : Nat} (hd : decode (zyc t) pc = .ok (.invokespecial idx, 3)) (hl : Cond.methodLink (zyn t).cls idx Lib.objectInit ∈ zTs) (hi : Cond.instanceMethod Lib.objectInit ∈ zTs) (hc : Cond.code Lib.objectInit ⟨#[0xb1]⟩ 1 none ∈ zTs) (hS : (S.map fun v => v.category).sum ≤ 20) (hh : 1 ≤ zyh t) (k : WW E G u Q M b (pc + 3) L S) : WW E G u Q M b pc L (.ref a :: S) := by
  obtain ⟨p, e, R, s, m, args, below, meth, c⟩ := E
  obtain ⟨k1, k2, k3, k4, k5, k6, k7, k8, k9, k10, k11, k12, k13, -⟩ := K
  exact fun H locs ls cells slots h1 h2 h3 h4 h5 h6 => W.objInit k1 k2 k5 (k7 _ hl) (k7 _ hi) (k7 _ hc) rfl h4.1 rfl hd (by omega) (by show 2 * 0 + _ + 12 ≤ _; omega) (k H locs ls cells slots h1 h2 h3 h4 h5 h6)
/-! a call, seen from behind -/
theorem zrun {p : Program} {e : Env} {R : Room} {s : State} {m : MethodId} {args : Array Value} {below : List Frame} {meth : Method} {c : Code} {H : Heap} {locs : List Loc} {ls : Array Slot} {cells slots n : Nat} {a : Array Value} {st0 : List Value}
    (hr : vx_Run p G.1 e R s m args below meth c H locs cells slots n (64 * n) (F0 m pc ls st0) S (zQc G P' a) (zXC G P') (zfr G)) (h2 : s.heap.size ≤ H.size) (h3 : ∀ q ∈ locs, zfr G q.base) (h4 : zL ls c.maxLocals L) (h5 : cells + b ≤ u) (h6 : slots + 64 * b ≤ 64 * u) (hn : n ≤ b)
    (kr : ∀ (v : Option Value) (M' : ZM), P' (.inl v) M' → WW (p, e, R, s, m, args, below, meth, c) G u Q M' (b - n) (pc + 3) L (v.toList ++ S))
    (kx : ∀ (En : String) (M' : ZM), P' (.inr En) M' → XX (p, e, R, s, m, args, below, meth, c) G u Q M' (b - n) pc L En) :
    W p G.1 e R s m args below meth c H locs cells slots Q (F0 m pc ls st0) := by
  intro T hT X
  have hl : ∀ L9 : List Loc, (∀ q ∈ L9, zfr G q.base) → ∀ q ∈ locs ++ L9, zfr G q.base := fun L9 h9 q hq => by
    rcases List.mem_append.mp hq with h | h
    · exact h3 q h
    · exact h9 q h
  rcases hr T hT X with ⟨v, st₀, t9, T', L9, h0, X', hL, e1, e2, ⟨v', M', hv, hP, hR, hz⟩, st⟩ | ⟨q, st₀, t9, T', L9, En, ce, h0, X', hL, e1, e2, ⟨M', hP, hR, hz⟩, hce, hcv, hcl, st⟩
  · cases hv
    rw [h0] at hz
    obtain ⟨t2, a1, b1⟩ := kr v M' hP T'.heap (locs ++ L9) ls (cells + n) (slots + 64 * n) (by rw [e1]; exact hR) (by rw [e1]; omega) (hl L9 hL) h4 (by omega) (by omega) T' rfl X'
    exact ⟨t2, st t2 a1, b1⟩
  · rw [h0] at hz
    obtain ⟨t2, a1, b1⟩ := kx En M' hP T'.heap (locs ++ L9) ls (cells + n) (slots + 64 * n) S q ce (by rw [e1]; exact hR) (by rw [e1]; omega) (hl L9 hL) h4 (by omega) (by omega) (by rw [e1]; exact hce) hcv hcl T' rfl X'
    exact ⟨t2, st.trans a1, b1⟩
theorem zRel.warmU {M : ZM} {H : Heap} {U : State} (h : zRel G M H) (hU : U.heap = H) : zRel G M U.heap := by rw [hU]; exact h
/-- room and words for a callee -/
theorem zroom {y : ZY} {R : Room} (hh : zyh y + 1 ≤ zyh t) (hl : zyl y + 19 ≤ 36) (h1 : zyh t ≤ R.frames) (h2 : 36 * zyh t ≤ R.locals) : (zrm (zyh y) (zyu y)).frames + 1 ≤ R.frames ∧ 8 + (zyl y + 11) + (zrm (zyh y) (zyu y)).locals ≤ R.locals := by
  unfold zrm
  dsimp only
  omega
theorem zq_callV (K : zOK t tb G E) {y : ZY} {idx ci N n a : Nat} {C : String} {T : u_T} {ty : Nat → FieldType} {As : List Value} {S0 : List Value} (hd : decode (zyc t) pc = .ok (.invokevirtual idx, 3)) (hy : zY y n) (hl : Cond.methodLink (zyn t).cls idx (zyn y) ∈ zTs) (hi : Cond.instanceMethod (zyn y) ∈ zTs) (hs : Cond.selects (zyn y).cls (zyn y) (zyn y) ∈ zTs) (hC : zcl ci C T N ty) (hcy : (zyn y).cls = C) (hh : zyh y + 1 ≤ zyh t) (hn : As.length = n) (hS0 : S0 = As.reverse ++ .ref a :: S) (hSc : (S.map fun v => v.category).sum ≤ 8) (hb : zyu y ≤ b) (ha : zk M a = ci + 1) (hM : zMet G y (.ref a :: As) M P')
    (kr : ∀ (v : Option Value) (M' : ZM), P' (.inl v) M' → WW E G u Q M' (b - zyu y) (pc + 3) L (v.toList ++ S)) (kx : ∀ (En : String) (M' : ZM), P' (.inr En) M' → XX E G u Q M' (b - zyu y) pc L En) (hub : u ≤ zyu t) : WW E G u Q M b pc L S0 := by
  subst hS0
  obtain ⟨p, e, R, s, m, args, below, meth, c⟩ := E
  obtain ⟨k1, k2, k3, k4, k5, k6, k7, k8, k9, k10, k11, k12, k13, k14, k15⟩ := K
  intro H locs ls cells slots h1 h2 h3 h4 h5 h6
  have hG : GoodIn zTs (wsV (zyn t).cls idx C (zyn y) (zcd y :: zTs)) := zgood (fun w hw => by
    rcases List.mem_append.mp hw with h | h
    · simp only [List.mem_cons, List.not_mem_nil, or_false] at h
      rcases h with rfl | rfl | rfl | rfl
      · exact hl
      · exact hi
      · rw [← hcy]; exact hs
      · rw [← hcy]; exact hy.2.1
    · rcases List.mem_cons.mp h with rfl | h
      · exact hy.1
      · exact h)
  exact zrun (vx_runV (b := a) (As := As) (rest := S) ⟨k1, k2, k4, k5, k7⟩ hM (cwV n k7 hG rfl rfl rfl ⟨hcy, hy.2.2.1.1, hy.2.2.1.2, hy.2.2.2.1⟩ (zroom hh hy.2.2.2.2.2 k12 k13))
    ⟨zPc.blind, va_recv k8.1 (zat h1 hC ha) hC.1 (q0 := 0) rfl, fun U hU hW => ⟨rfl, h1.warmU hU, zSt.warm hW k8⟩⟩ rfl hn (h4.1.trans k4) rfl (lv_room hSc) hd ⟨by omega, by omega⟩) h2 h3 h4 h5 h6 hb kr kx
theorem zq_callS (K : zOK t tb G E) {y : ZY} {idx n : Nat} {As : List Value} {S0 : List Value} (hd : decode (zyc t) pc = .ok (.invokestatic idx, 3)) (hy : zY y n) (hl : Cond.methodLink (zyn t).cls idx (zyn y) ∈ zTs) (hs : Cond.static (zyn y) ∈ zTs) (hcy : (zyn y).cls = (zyn t).cls) (hh : zyh y + 1 ≤ zyh t) (hn : As.length = n) (hS0 : S0 = As.reverse ++ S) (hSc : (S.map fun v => v.category).sum ≤ 8) (hb : zyu y ≤ b) (hM : zMet G y As M P')
    (kr : ∀ (v : Option Value) (M' : ZM), P' (.inl v) M' → WW E G u Q M' (b - zyu y) (pc + 3) L (v.toList ++ S)) (kx : ∀ (En : String) (M' : ZM), P' (.inr En) M' → XX E G u Q M' (b - zyu y) pc L En) (hub : u ≤ zyu t) : WW E G u Q M b pc L S0 := by
  subst hS0
  obtain ⟨p, e, R, s, m, args, below, meth, c⟩ := E
  obtain ⟨k1, k2, k3, k4, k5, k6, k7, k8, k9, k10, k11, k12, k13, k14, k15⟩ := K
  intro H locs ls cells slots h1 h2 h3 h4 h5 h6
  have hG : GoodIn zTs (wsS (zyn t).cls idx (zyn y) (zcd y :: zTs)) := zgood (fun w hw => by
    rcases List.mem_append.mp hw with h | h
    · simp only [List.mem_cons, List.not_mem_nil, or_false] at h
      rcases h with rfl | rfl | rfl
      · exact hl
      · exact hs
      · rw [← hcy]; exact hy.2.1
    · rcases List.mem_cons.mp h with rfl | h
      · exact hy.1
      · exact h)
  exact zrun (vx_runS (As := As) (rest := S) ⟨k1, k2, k4, k5, k7⟩ hM (cwS n k7 hG rfl rfl rfl ⟨hcy, hy.2.2.1.1, hy.2.2.1.2, hy.2.2.2.1⟩ (zroom hh hy.2.2.2.2.2 k12 k13))
    ⟨zPc.blind, fun U hU hW => ⟨rfl, h1.warmU hU, zSt.warm hW k8⟩⟩ rfl hn (h4.1.trans k4) rfl (lv_room hSc) hd ⟨by omega, by omega⟩) h2 h3 h4 h5 h6 hb kr kx
theorem zq_callI (K : zOK t tb G E) {y : ZY} {idx n a : Nat} {As : List Value} {S0 : List Value} (hd : decode (zyc t) pc = .ok (.invokespecial idx, 3)) (hy : zY y n) (hr : zyr y = none) (hnm : (zyn y).name = "<init>") (hl : Cond.methodLink (zyn t).cls idx (zyn y) ∈ zTs) (hi : Cond.instanceMethod (zyn y) ∈ zTs) (hh : zyh y + 1 ≤ zyh t) (hn : As.length = n) (hS0 : S0 = As.reverse ++ .ref a :: S) (hSc : (S.map fun v => v.category).sum ≤ 8) (hb : zyu y ≤ b) (hM : zMet G y (.ref a :: As) M P')
    (kr : ∀ (v : Option Value) (M' : ZM), P' (.inl v) M' → WW E G u Q M' (b - zyu y) (pc + 3) L (v.toList ++ S)) (kx : ∀ (En : String) (M' : ZM), P' (.inr En) M' → XX E G u Q M' (b - zyu y) pc L En) (hub : u ≤ zyu t) : WW E G u Q M b pc L S0 := by
  subst hS0
  obtain ⟨p, e, R, s, m, args, below, meth, c⟩ := E
  obtain ⟨k1, k2, k3, k4, k5, k6, k7, k8, k9, k10, k11, k12, k13, k14, k15⟩ := K
  intro H locs ls cells slots h1 h2 h3 h4 h5 h6
  have hG : GoodIn zTs (zcd y :: zTs) := zgood (fun w hw => by
    rcases List.mem_cons.mp hw with rfl | h
    · exact hy.1
    · exact h)
  have hcd : zcd y = Cond.code (zyn y) (zyc y) (zyl y) none := by rw [← hr]
  exact zrun (vx_runI (b := a) (As := As) (rest := S) ⟨k1, k2, k4, k5, k7⟩ hM (cwI n k7 hG (by rw [hcd]) rfl rfl (k7 _ hy.2.1) (k7 _ hl) (k7 _ hi) hnm ⟨hy.2.2.1.1, hy.2.2.1.2, hy.2.2.2.1⟩ (zroom hh hy.2.2.2.2.2 k12 k13))
    ⟨zPc.blind, fun U hU hW => ⟨rfl, h1.warmU hU, zSt.warm hW k8⟩⟩ rfl hn (h4.1.trans k4) rfl (lv_room hSc) hd ⟨by omega, by omega⟩) h2 h3 h4 h5 h6 hb kr kx
/-- not caught here -/
theorem zx_out (K : zOK t [] G E) {En : String} (h : P (.inr En) M) : XX E G (zyu t) (zQ E G t P) M b pc L En := by
  obtain ⟨p, e, R, s, m, args, below, meth, c⟩ := E
  obtain ⟨k1, k2, k3, k4, k5, k6, k7, k8, k9, k10, k11, k12, k13, k14, k15⟩ := K
  intro H locs ls cells slots rest q ce h1 h2 h3 h4 h5 h6 h7 h8 h9
  exact vx_out (fun x hx => by rw [k10] at hx; cases hx) k6 h7 h8 h9 (fun z hz _ => ⟨M, h, by rw [hz]; exact h1, by rw [hz]; exact h2⟩) h3 (by omega) (by omega)
/-! calls with a definite end -/
theorem zone_r {v : Option Value} {M1 : ZM} {n : Nat} (k : WW E G u Q M1 n (pc + 3) L (v.toList ++ S)) : ∀ (v' : Option Value) (M' : ZM), zone v M1 (.inl v') M' → WW E G u Q M' n (pc + 3) L (v'.toList ++ S) := by
  rintro v' M' ⟨h1, rfl⟩
  cases h1
  exact k
theorem zone_x {v : Option Value} {M1 : ZM} {n : Nat} : ∀ (En : String) (M' : ZM), zone v M1 (.inr En) M' → XX E G u Q M' n pc L En := by
  rintro En M' ⟨h1, -⟩
  cases h1
theorem zthr_r {X : String} {M1 : ZM} {n : Nat} : ∀ (v' : Option Value) (M' : ZM), zthr X M1 (.inl v') M' → WW E G u Q M' n (pc + 3) L (v'.toList ++ S) := by
  rintro v' M' ⟨h1, -⟩
  cases h1
theorem zthr_x {X : String} {M1 : ZM} {n : Nat} (k : XX E G u Q M1 n pc L X) : ∀ (En : String) (M' : ZM), zthr X M1 (.inr En) M' → XX E G u Q M' n pc L En := by
  rintro En M' ⟨h1, rfl⟩
  cases h1
  exact k
/-- it may use less room than it has -/
theorem WW.less {b' : Nat} (h : b' ≤ b) (k : WW E G u Q M b' pc L S) : WW E G u Q M b pc L S := by
  obtain ⟨p, e, R, s, m, args, below, meth, c⟩ := E
  exact fun H locs ls cells slots h1 h2 h3 h4 h5 h6 => k H locs ls cells slots h1 h2 h3 h4 (by omega) (by omega)
end ZROW2

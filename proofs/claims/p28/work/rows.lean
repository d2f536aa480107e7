section
-- ===== PART A: goes FIRST, ahead of the names: the tables' words, and 'selects' of the private methods out of them =====
/-- a private method of a class that the tables say can be made, by its rows of tables_1 -/
def lw_okq (q : MethodName × Nat) : Prop := (q.1.cls ≠ "java/lang/invoke/MethodHandle" ∧ q.1.cls ≠ "java/lang/invoke/VarHandle") ∧ Cond.instantiable q.1.cls q.2 ∈ tables_1 ∧ Cond.privateMethod q.1 ∈ tables_1 ∧ Cond.instanceMethod q.1 ∈ tables_1
theorem lw_p0 : lw_okq (⟨"java/lang/Throwable", "fillInStackTrace", "(I)Ljava/lang/Throwable;"⟩, 6) := ⟨⟨by decide +kernel, by decide +kernel⟩, List.mem_of_getElem? (i := 154) (by decide +kernel), List.mem_of_getElem? (i := 152) (by decide +kernel), List.mem_of_getElem? (i := 153) (by decide +kernel)⟩
theorem lw_p1 : lw_okq (⟨"DirectoryServers", "needDirectory", "(I)LDirectoryServers$Directory;"⟩, 10) := ⟨⟨by decide +kernel, by decide +kernel⟩, List.mem_of_getElem? (i := 11) (by decide +kernel), List.mem_of_getElem? (i := 188) (by decide +kernel), List.mem_of_getElem? (i := 189) (by decide +kernel)⟩
theorem lw_p2 : lw_okq (⟨"DirectoryServers", "directoryNumbered", "(I)LDirectoryServers$Directory;"⟩, 10) := ⟨⟨by decide +kernel, by decide +kernel⟩, List.mem_of_getElem? (i := 11) (by decide +kernel), List.mem_of_getElem? (i := 192) (by decide +kernel), List.mem_of_getElem? (i := 193) (by decide +kernel)⟩
theorem lw_p3 : lw_okq (⟨"DirectoryServers", "needFree", "(LDirectoryServers$Directory;I)V"⟩, 10) := ⟨⟨by decide +kernel, by decide +kernel⟩, List.mem_of_getElem? (i := 11) (by decide +kernel), List.mem_of_getElem? (i := 212) (by decide +kernel), List.mem_of_getElem? (i := 213) (by decide +kernel)⟩
theorem lw_p4 : lw_okq (⟨"DirectoryServers", "frozen", "(LDirectoryServers$Fragment;)Z"⟩, 10) := ⟨⟨by decide +kernel, by decide +kernel⟩, List.mem_of_getElem? (i := 11) (by decide +kernel), List.mem_of_getElem? (i := 231) (by decide +kernel), List.mem_of_getElem? (i := 232) (by decide +kernel)⟩
theorem lw_p5 : lw_okq (⟨"DirectoryServers", "fragmentAbove", "(LDirectoryServers$Fragment;)LDirectoryServers$Fragment;"⟩, 10) := ⟨⟨by decide +kernel, by decide +kernel⟩, List.mem_of_getElem? (i := 11) (by decide +kernel), List.mem_of_getElem? (i := 235) (by decide +kernel), List.mem_of_getElem? (i := 236) (by decide +kernel)⟩
theorem lw_p6 : lw_okq (⟨"DirectoryServers", "changeName", "(ILDirectoryServers$Directory;III)V"⟩, 10) := ⟨⟨by decide +kernel, by decide +kernel⟩, List.mem_of_getElem? (i := 11) (by decide +kernel), List.mem_of_getElem? (i := 256) (by decide +kernel), List.mem_of_getElem? (i := 257) (by decide +kernel)⟩
theorem lw_p7 : lw_okq (⟨"DirectoryServers", "endLeases", "(LDirectoryServers$Directory;II)V"⟩, 10) := ⟨⟨by decide +kernel, by decide +kernel⟩, List.mem_of_getElem? (i := 11) (by decide +kernel), List.mem_of_getElem? (i := 264) (by decide +kernel), List.mem_of_getElem? (i := 265) (by decide +kernel)⟩
theorem lw_p8 : lw_okq (⟨"DirectoryServers", "makeLink", "(ILDirectoryServers$Directory;II)V"⟩, 10) := ⟨⟨by decide +kernel, by decide +kernel⟩, List.mem_of_getElem? (i := 11) (by decide +kernel), List.mem_of_getElem? (i := 284) (by decide +kernel), List.mem_of_getElem? (i := 285) (by decide +kernel)⟩
theorem lw_p9 : lw_okq (⟨"DirectoryServers", "needFile", "(I)V"⟩, 10) := ⟨⟨by decide +kernel, by decide +kernel⟩, List.mem_of_getElem? (i := 11) (by decide +kernel), List.mem_of_getElem? (i := 292) (by decide +kernel), List.mem_of_getElem? (i := 293) (by decide +kernel)⟩
theorem lw_p10 : lw_okq (⟨"DirectoryServers", "countLinks", "(I)I"⟩, 10) := ⟨⟨by decide +kernel, by decide +kernel⟩, List.mem_of_getElem? (i := 11) (by decide +kernel), List.mem_of_getElem? (i := 297) (by decide +kernel), List.mem_of_getElem? (i := 298) (by decide +kernel)⟩
theorem lw_p11 : lw_okq (⟨"DirectoryServers", "needTaken", "(LDirectoryServers$Directory;I)V"⟩, 10) := ⟨⟨by decide +kernel, by decide +kernel⟩, List.mem_of_getElem? (i := 11) (by decide +kernel), List.mem_of_getElem? (i := 310) (by decide +kernel), List.mem_of_getElem? (i := 311) (by decide +kernel)⟩
theorem lw_p12 : lw_okq (⟨"DirectoryServers", "directoryMeant", "(I)LDirectoryServers$Directory;"⟩, 10) := ⟨⟨by decide +kernel, by decide +kernel⟩, List.mem_of_getElem? (i := 11) (by decide +kernel), List.mem_of_getElem? (i := 315) (by decide +kernel), List.mem_of_getElem? (i := 316) (by decide +kernel)⟩
theorem lw_p13 : lw_okq (⟨"DirectoryServers", "needRemovable", "(LDirectoryServers$Directory;)V"⟩, 10) := ⟨⟨by decide +kernel, by decide +kernel⟩, List.mem_of_getElem? (i := 11) (by decide +kernel), List.mem_of_getElem? (i := 319) (by decide +kernel), List.mem_of_getElem? (i := 320) (by decide +kernel)⟩
theorem lw_p14 : lw_okq (⟨"DirectoryServers", "dropDirectory", "(I)V"⟩, 10) := ⟨⟨by decide +kernel, by decide +kernel⟩, List.mem_of_getElem? (i := 11) (by decide +kernel), List.mem_of_getElem? (i := 329) (by decide +kernel), List.mem_of_getElem? (i := 330) (by decide +kernel)⟩
def lw_privs_1 : List (MethodName × Nat) := [(⟨"java/lang/Throwable", "fillInStackTrace", "(I)Ljava/lang/Throwable;"⟩, 6), (⟨"DirectoryServers", "needDirectory", "(I)LDirectoryServers$Directory;"⟩, 10), (⟨"DirectoryServers", "directoryNumbered", "(I)LDirectoryServers$Directory;"⟩, 10), (⟨"DirectoryServers", "needFree", "(LDirectoryServers$Directory;I)V"⟩, 10), (⟨"DirectoryServers", "frozen", "(LDirectoryServers$Fragment;)Z"⟩, 10), (⟨"DirectoryServers", "fragmentAbove", "(LDirectoryServers$Fragment;)LDirectoryServers$Fragment;"⟩, 10), (⟨"DirectoryServers", "changeName", "(ILDirectoryServers$Directory;III)V"⟩, 10), (⟨"DirectoryServers", "endLeases", "(LDirectoryServers$Directory;II)V"⟩, 10), (⟨"DirectoryServers", "makeLink", "(ILDirectoryServers$Directory;II)V"⟩, 10), (⟨"DirectoryServers", "needFile", "(I)V"⟩, 10), (⟨"DirectoryServers", "countLinks", "(I)I"⟩, 10), (⟨"DirectoryServers", "needTaken", "(LDirectoryServers$Directory;I)V"⟩, 10), (⟨"DirectoryServers", "directoryMeant", "(I)LDirectoryServers$Directory;"⟩, 10), (⟨"DirectoryServers", "needRemovable", "(LDirectoryServers$Directory;)V"⟩, 10), (⟨"DirectoryServers", "dropDirectory", "(I)V"⟩, 10)]
theorem lw_r1 : ∀ q ∈ lw_privs_1, lw_okq q := List.forall_mem_cons.mpr ⟨lw_p0, List.forall_mem_cons.mpr ⟨lw_p1, List.forall_mem_cons.mpr ⟨lw_p2, List.forall_mem_cons.mpr ⟨lw_p3, List.forall_mem_cons.mpr ⟨lw_p4, List.forall_mem_cons.mpr ⟨lw_p5, List.forall_mem_cons.mpr ⟨lw_p6, List.forall_mem_cons.mpr ⟨lw_p7, List.forall_mem_cons.mpr ⟨lw_p8, List.forall_mem_cons.mpr ⟨lw_p9, List.forall_mem_cons.mpr ⟨lw_p10, List.forall_mem_cons.mpr ⟨lw_p11, List.forall_mem_cons.mpr ⟨lw_p12, List.forall_mem_cons.mpr ⟨lw_p13, List.forall_mem_cons.mpr ⟨lw_p14, fun _ h => absurd h List.not_mem_nil⟩⟩⟩⟩⟩⟩⟩⟩⟩⟩⟩⟩⟩⟩⟩
def lw_privs : List (MethodName × Nat) := lw_privs_1
def lw_tbl : List Cond := k2_sels lw_privs ++ tables_1
theorem lw_privs_ok : ∀ q ∈ lw_privs, lw_okq q := lw_r1

/-! ===== BEGIN words of one list among another's, by their places ===== -/
theorem goodIn_r {big : List Cond} (ws : List Cond) (ps : List Nat) (hp : ws = ps.filterMap (fun i => big[i]?)) (h : ws.all goodWord = true) : GoodIn big ws := by
  intro w hw
  have h1 := List.all_eq_true.mp h w hw
  rw [hp] at hw
  obtain ⟨i, -, hi⟩ := List.mem_filterMap.mp hw
  have hm : w ∈ big := by first | exact List.mem_of_getElem? hi | exact List.getElem?_mem hi
  exact ⟨hm, good_of_word h1⟩
theorem goodIn_app {big a b : List Cond} (ha : GoodIn big a) (hb : GoodIn big b) : GoodIn big (a ++ b) := fun w h => (List.mem_append.mp h).elim (ha w) (hb w)
theorem goodIn_ca {big a b : List Cond} {c : Cond} (ha : GoodIn big (c :: a)) (hb : GoodIn big b) : GoodIn big (c :: (a ++ b)) := fun w h => (List.mem_cons.mp h).elim (fun e => ha w (List.mem_cons.mpr (Or.inl e))) (fun h => (List.mem_append.mp h).elim (fun h => ha w (List.mem_cons.mpr (Or.inr h))) (hb w))
theorem goodIn_sub {big ws : List Cond} (hm : ∀ w ∈ ws, w ∈ big) (h : ws.all goodWord = true) : GoodIn big ws := fun w hw => ⟨hm w hw, good_of_word (List.all_eq_true.mp h w hw)⟩
/-! ===== END ===== -/

/-! ===== BEGIN new T[n][m]: the outer array a place, the inner ones among the pooled ===== -/
/-- f, but v at every address of l -/
def vr_up {α : Type} (f : Nat → α) (l : List Nat) (v : α) : Nat → α := fun a => if a ∈ l then v else f a
theorem vr_up_in {α : Type} {f : Nat → α} {l : List Nat} {v : α} {a : Nat} (h : a ∈ l) : vr_up f l v a = v := if_pos h
theorem vr_up_ne {α : Type} {f : Nat → α} {l : List Nat} {v : α} {a : Nat} (h : a ∉ l) : vr_up f l v a = f a := if_neg h
theorem vr_rows {L l : List Nat} {f : Nat → va_E} {e : va_E} (h : ∀ a, a ∈ l → a ∉ L) : va_pl L f ++ l.map (fun a => (a, e)) = va_pl (L ++ l) (vr_up f l e) := by
  unfold va_pl
  rw [List.map_append]
  congr 1
  · apply List.map_congr_left
    intro a ha
    rw [vr_up_ne (fun q => h a q ha)]
  · apply List.map_congr_left
    intro a ha
    rw [vr_up_in ha]
theorem vr_lay {X rows : va_W} {x : Nat × va_E} {pl : va_W} {D : va_G} {cl : List vw_C} {H : Heap} (hP : va_P D cl (((X ++ pl) ++ [x]) ++ rows) H) : va_P D cl ((X ++ [x]) ++ (pl ++ rows)) H := by
  rw [List.append_assoc (X ++ pl)] at hP
  have h := va_P.swap hP
  rw [← List.append_assoc X] at h
  have h2 := va_P.swap h
  rw [List.append_assoc (X ++ [x])] at h2
  exact h2
theorem vr_layD {X rows : va_W} {x : Nat × va_E} {pl : va_W} {A : Nat → Prop} (hD : va_D A (((X ++ pl) ++ [x]) ++ rows)) : va_D A ((X ++ [x]) ++ (pl ++ rows)) := by
  rw [List.append_assoc (X ++ pl)] at hD
  have h := va_D.swap hD
  rw [← List.append_assoc X] at h
  have h2 := va_D.swap h
  rw [List.append_assoc (X ++ [x])] at h2
  exact h2
theorem vr_outer (c : ClassId) (N h0 : Nat) : ∀ i : Nat, Jvm.Free.Multi.outerC c N h0 i = arrV c N (fun j => va_rf (if j < i then some (h0 + 1 + j) else none))
  | 0 => by
    show ({ cls := c, slots := Array.replicate N .null, vm := .none } : Cell) = _
    rw [arrV_new]
    refine congrArg (arrV c N) (funext fun j => ?_)
    simp [va_rf]
  | i + 1 => by
    show (Jvm.Free.Multi.outerC c N h0 i).setSlot i (.ref (h0 + 1 + i)) = _
    rw [vr_outer c N h0 i, arrV_store]
    refine congrArg (arrV c N) (funext fun j => ?_)
    by_cases e : j = i
    · subst e
      simp [updV, va_rf]
    · by_cases h : j < i
      · simp [updV, e, h, Nat.lt_succ_of_lt h]
      · simp [updV, e, h, show ¬ j < i + 1 by omega]
section VGM
variable {p : Program} {l : Launch} {e : Env} {R : Room} {s : State} {m : MethodId} {args : Array Value} {below : List Frame} {meth : Method} {c : Code} {H : Heap} {locs : List Loc} {cells slots : Nat} {Q : State → Prop}
variable {cc : ByteArray} {pc : Nat} {ls : Array Slot} {rest : List Value} {D : va_G} {cl : List vw_C} {A : Nat → Prop} {a : Nat} {tys : List (ClassId × FieldType)} {ws : va_W} {H0 : Heap}
end VGM
/-! ===== END ===== -/

/-! ===== BEGIN exceptions that leave a method, and their catching by the caller (launches without stack traces) ===== -/
section VXA
/-! The laws vx_back, vx_callV, vx_callS, vx_callSW, vx_throw0, vx_throwS follow proofs of the library, with one case more: JvmDerived/Free/Laws.lean (Back.of_free), Shelf42/LK1.lean (callV, callS), Shelf/KitTraced.lean (throwNew0V, throwNewS). -/
/-- where a method has thrown q: the class by its name, the cell, what was written, the world -/
def vx_T (XC : String → State → State → Prop) (st : State) (q : Addr) (t : State) (mc ms : Nat) (free : Addr → Prop) : Prop :=
  ∃ (E : String) (ce : Cell) (L : List Loc), XC E st t ∧ t.heap[q]? = some ce ∧ ce.vm = .none ∧ st.vm.findClass E = some ce.cls ∧ st.WarmedH t.vm ∧ st.sameButNew ({ t with vm := st.vm } : State) L mc ms ∧ ∀ z ∈ L, free z.base
def vx_Q (Qc : Array Value → State → Outcome → State → Prop) (XC : String → State → State → Prop) (mc ms : Nat) (free : Addr → Prop) : Array Value → State → Outcome → State → Prop := fun a st o t =>
  (Qc a st o t ∧ ∃ L, FrameEnd st o t L mc ms ∧ ∀ q ∈ L, free q.base) ∨ ∃ q, o = .threw q ∧ vx_T XC st q t mc ms free
/-- a callee that returns or throws -/
def vx_Met (l : Launch) (y : MethodName) (ws : List Cond) (rm : Room) (Pc : Array Value → State → Prop) (Qc : Array Value → State → Outcome → State → Prop) (XC : String → State → State → Prop) (mc ms : Nat) (free : Addr → Prop) : Prop :=
  MetFree l y (headSpec ws rm) Pc (fun _ _ _ _ _ => True) (vx_Q Qc XC mc ms free)
def vx_Post (XC : String → State → State → Prop) (mc ms : Nat) (free : Addr → Prop) : Pt → Array Value → Addr → Pt → Prop := fun A a q B =>
  ∃ (g : JFrame) (mk : MethodId) (t : State) (L : List Loc) (E : String) (ce : Cell), B.U.heap = t.heap ∧ B.U.vm = t.vm ∧ XC E (A.U.calling g mk a) t ∧ t.heap[q]? = some ce ∧ ce.vm = .none ∧ A.U.vm.findClass E = some ce.cls ∧ B.locs = A.locs ++ L ∧ (∀ z ∈ L, free z.base) ∧ B.cells = A.cells + mc ∧ B.slots = A.slots + ms
def vx_Back (l : Launch) (R : Room) (p : Program) (e : Env) (below : List Frame) (s : State) (sargs : Array Value) (y : MethodName) (len W9 : Nat)
    (Pre : Pt → Array Value → Prop) (Post : Pt → Array Value → Option Value → Pt → Prop) (PostX : Pt → Array Value → Addr → Pt → Prop) : Prop :=
  ∀ (m : MethodId) (meth : Method) (c : Code) (A : Pt) (g : JFrame) (ig : Instr) (mk : MethodId) (a : Array Value),
    Stand p l e R s m sargs below meth c A.U A.locs A.cells A.slots → g.method = m → g.locals.size = c.maxLocals → decode c.code g.pc = .ok (ig, len) →
    2 * g.monitorRoom + (g.stack.map fun v => v.category).sum ≤ W9 → A.U.methodNamed? y = some mk → Pre A a →
    (∃ (v : Option Value) (B : Pt), Stand p l e R s m sargs below meth c B.U B.locs B.cells B.slots ∧ Post A a v B ∧
      Steps p.tables e below (doInvoke e (A.U.setTop g) [] mk a).1 (B.U.setTop { g with pc := g.pc + len, stack := v.toList ++ g.stack })) ∨
    (∃ (q : Addr) (B : Pt), Stand p l e R s m sargs below meth c B.U B.locs B.cells B.slots ∧ PostX A a q B ∧
      Steps p.tables e below (doInvoke e (A.U.setTop g) [] mk a).1 ((B.U.setTop g).pushFrame (.throwing q)))
section Payer
variable {l : Launch} {R : Room} {p : Program} {e : Env} {below : List Frame} {s : State} {sargs : Array Value} {y : MethodName} {len W9 : Nat}
theorem vx_back {ws : List Cond} {rm : Room} {Pc : Array Value → State → Prop} {Qc : Array Value → State → Outcome → State → Prop} {XC : String → State → State → Prop} {mc ms : Nat} {free : Addr → Prop} {bytes : ByteArray} {maxL : Nat} {ret : Option FieldType}
    (hM : vx_Met l y ws rm Pc Qc XC mc ms free) (hblind : FrameBlind Pc) (hrc : rm.cells = mc) (hrs : rm.slots = ms)
    (hframes : rm.frames + 1 ≤ R.frames) (hlocals : W9 + (maxL + 11) + rm.locals ≤ R.locals)
    (hws : ∀ w ∈ ws, ∀ a' U, s.WarmedH U.vm → w.before a' U = true) (hcode : Cond.code y bytes maxL ret ∈ ws) (hinit : ∀ a' U, s.WarmedH U.vm → (Cond.initialized y.cls).before a' U = true) :
    vx_Back l R p e below s sargs y len W9 (PreOf R mc ms Pc) (PostOf Qc mc ms free) (vx_Post XC mc ms free) := by
  intro m meth c A g ig mk a X hg hsize hdg hW hn hp
  have h1 : (headSpec ws rm).pre.before a A.U = true := atoms_intro fun w hw => hws w hw _ _ X.warmed
  have h2 : (Cond.code y bytes maxL ret).before a A.U = true := hws _ hcode _ _ X.warmed
  have h3 : (Cond.initialized y.cls).before a A.U = true := hinit _ _ X.warmed
  have h4 : A.cells + (headSpec ws rm).room.cells ≤ R.cells := by rw [show (headSpec ws rm).room.cells = mc from hrc]; exact hp.1
  have h5 : A.slots + (headSpec ws rm).room.slots ≤ R.slots := by rw [show (headSpec ws rm).room.slots = ms from hrs]; exact hp.2.1
  have hPc : Pc a (A.U.calling g mk a) := hblind _ _ _ _ hp.2.2
  obtain ⟨U, Ls, c0, s0⟩ := A
  dsimp only [Pt.U, Pt.locs, Pt.cells, Pt.slots] at h1 h2 h3 h4 h5 X hn hPc ⊢
  obtain ⟨methY, cY, hmY, hcY, -, hlY, -, -, -, -⟩ := Cond.code_spec hn h2
  obtain ⟨kY, hkY, -⟩ := className_of_methodNamed hn
  have hinitY : kY.init = .initialized := Cond.initialized_spec (findClass_of_methodNamed hn) hkY h3
  have h : At U g.method c below := by rw [hg]; exact X.here
  have hlocals9 : W9 + (maxL + 11) + (headSpec ws rm).room.locals ≤ R.locals := hlocals
  have happ : (headSpec ws rm).appliesLoose y e.platform (U.calling g mk a) = true :=
    Spec.appliesLoose_calling (g := g) h hdg hn hkY hinitY
      (X.room_calling (g := g) (R' := (headSpec ws rm).room) hsize hmY hcY hframes (by rw [hlY]; omega) h4 h5) h1
  obtain ⟨mid, hmid⟩ := h.above
  have hfr : (U.setTop g).frames = (.java g :: mid) ++ below := by rw [State.frames_setTop' g h.top, hmid]; rfl
  obtain ⟨o, s₂, hsteps, -, hend, hq⟩ := Steps.callFree hM p X.admits X.cas X.clock (acts := []) hfr happ hPc trivial
  have hq' : vx_Q Qc XC mc ms free a (U.calling g mk a) o s₂ := hq
  rw [State.frames_setTop' g h.top] at hend
  obtain ⟨g₀, hg0⟩ := Option.isSome_iff_exists.mp h.top
  obtain ⟨r, hr⟩ := State.topJava?_eq_some.mp hg0
  have hr' : (({ U with heap := s₂.heap, slotsUsed := s₂.slotsUsed } : State).setVm s₂.vm).frames = .java g₀ :: r := hr
  rcases hq' with ⟨hqc, L, hfe, hL⟩ | ⟨q, rfl, E, ce, L, hx, hce, hcv, hcl, hW₂, hsm, hL⟩
  · obtain ⟨⟨v, rfl⟩, hW₂, e2, q2, q3, q4, q5, q6⟩ := id hfe
    have e3 : s₂ = ({ (U.calling g mk a).setFrames s₂.frames with heap := s₂.heap, slotsUsed := s₂.slotsUsed } : State).setVm s₂.vm := by
      have : s₂ = ({ s₂ with vm := (U.calling g mk a).vm } : State).setVm s₂.vm := rfl
      rw [e2] at this
      exact this
    obtain ⟨c₂, i₂, len₂, hc₂, hd₂, hf₂⟩ := hend
    have hW' : U.WarmedH s₂.vm := hW₂
    have hcc : c₂ = c := by
      have h1 : s₂.code? g.method = U.code? g.method := by
        rw [State.code?_eq, State.code?_eq, hW'.alike.method?]
      exact Option.some.inj (hc₂.symm.trans (h1.trans h.code))
    subst hcc
    have hlen : len₂ = len := by rw [hdg] at hd₂; cases hd₂; rfl
    subst hlen
    have hs₂ : s₂ = (({ U with heap := s₂.heap, slotsUsed := s₂.slotsUsed } : State).setVm s₂.vm).setTop { g with pc := g.pc + len₂, stack := v.toList ++ g.stack } := by
      refine e3.trans ?_
      rw [hf₂, State.calling_eq h.top, State.setFrames_setFrames, State.setTop_of_frames _ hr', hr]
      rfl
    have hsame : U.sameButNew ({ U with heap := s₂.heap, slotsUsed := s₂.slotsUsed } : State) L mc ms := by
      refine ⟨?_, q2, q3, q4, q5, q6⟩
      obtain ⟨t, ht, -⟩ := State.frames_cons hr
      show ({ U with heap := s₂.heap, slotsUsed := s₂.slotsUsed } : State) = { U.setFrames U.frames with heap := s₂.heap, slotsUsed := s₂.slotsUsed }
      rw [State.setFrames_self ht]
    subst hg
    refine Or.inl ⟨v, ⟨(({ U with heap := s₂.heap, slotsUsed := s₂.slotsUsed } : State).setVm s₂.vm), Ls ++ L, c0 + mc, s0 + ms⟩,
      ⟨X.admits, X.cas, X.clock, X.frames, X.room, X.hears, X.method, X.code, (X.here.setHeapUsed s₂.heap s₂.slotsUsed).setVm hW'.alike, X.tail, State.WarmedH.trans X.warmed hW', X.limits, X.bytes, X.same.trans (hsame.setVm s.vm)⟩,
      ⟨g, mk, s₂, L, rfl, rfl, hqc, rfl, hL, rfl, rfl⟩, ?_⟩
    show Steps p.tables e below _ ((({ U with heap := s₂.heap, slotsUsed := s₂.slotsUsed } : State).setVm s₂.vm).setTop { g with pc := g.pc + len₂, stack := v.toList ++ g.stack })
    rw [← hs₂]
    exact hsteps
  · obtain ⟨e2, q2, q3, q4, q5, q6⟩ := id hsm
    have e3 : s₂ = ({ (U.calling g mk a).setFrames s₂.frames with heap := s₂.heap, slotsUsed := s₂.slotsUsed } : State).setVm s₂.vm := by
      have : s₂ = ({ s₂ with vm := (U.calling g mk a).vm } : State).setVm s₂.vm := rfl
      rw [e2] at this
      exact this
    have hf₂ : s₂.frames = .throwing q :: .java g :: U.frames.tail := hend
    have hW' : U.WarmedH s₂.vm := hW₂
    have hs₂ : s₂ = ((({ U with heap := s₂.heap, slotsUsed := s₂.slotsUsed } : State).setVm s₂.vm).setTop g).pushFrame (.throwing q) := by
      refine e3.trans ?_
      rw [hf₂, State.calling_eq h.top, State.setFrames_setFrames, State.pushFrame, State.frames_setTop _ hr', State.setTop_of_frames _ hr', State.setFrames_setFrames, hr]
      rfl
    have hsame : U.sameButNew ({ U with heap := s₂.heap, slotsUsed := s₂.slotsUsed } : State) L mc ms := by
      refine ⟨?_, q2, q3, q4, q5, q6⟩
      obtain ⟨t, ht, -⟩ := State.frames_cons hr
      show ({ U with heap := s₂.heap, slotsUsed := s₂.slotsUsed } : State) = { U.setFrames U.frames with heap := s₂.heap, slotsUsed := s₂.slotsUsed }
      rw [State.setFrames_self ht]
    subst hg
    refine Or.inr ⟨q, ⟨(({ U with heap := s₂.heap, slotsUsed := s₂.slotsUsed } : State).setVm s₂.vm), Ls ++ L, c0 + mc, s0 + ms⟩,
      ⟨X.admits, X.cas, X.clock, X.frames, X.room, X.hears, X.method, X.code, (X.here.setHeapUsed s₂.heap s₂.slotsUsed).setVm hW'.alike, X.tail, State.WarmedH.trans X.warmed hW', X.limits, X.bytes, X.same.trans (hsame.setVm s.vm)⟩,
      ⟨g, mk, s₂, L, E, ce, rfl, rfl, hx, hce, hcv, hcl, rfl, hL, rfl, rfl⟩, ?_⟩
    show Steps p.tables e below _ (((({ U with heap := s₂.heap, slotsUsed := s₂.slotsUsed } : State).setVm s₂.vm).setTop g).pushFrame (.throwing q))
    rw [← hs₂]
    exact hsteps
end Payer
section Calls
variable {p : Program} {l : Launch} {e : Env} {R : Room} {s : State} {m : MethodId} {args : Array Value} {below : List Frame} {meth : Method} {c : Code} {T : State} {locs : List Loc} {cells slots : Nat}
theorem vx_callV (X : Stand p l e R s m args below meth c T locs cells slots) (hexec : p.tables.exec = Jvm.exec) {own C : String} {index : Nat} {y : MethodName} {bytes : ByteArray} {maxL : Nat} {ret : Option FieldType}
    (hown : s.vm.findClass own = some m.cls) (hlink : (Cond.methodLink own index y).before args s = true) (hinst : (Cond.instanceMethod y).before args s = true) (hsel : (Cond.selects C y y).before args s = true)
    (hcode : (Cond.code y bytes maxL ret).before args s = true) (hy : y.cls ≠ "java/lang/invoke/MethodHandle" ∧ y.cls ≠ "java/lang/invoke/VarHandle")
    {W9 : Nat} {Pre : Pt → Array Value → Prop} {Post : Pt → Array Value → Option Value → Pt → Prop} {PostX : Pt → Array Value → Addr → Pt → Prop} (hK : vx_Back l R p e below s args y 3 W9 Pre Post PostX)
    {b : Addr} {cellB : Cell} (hcell : T.heap[b]? = some cellB) (hobj : cellB.vm.isStatics = false) (hcls : s.vm.findClass C = some cellB.cls)
    {g : JFrame} (hg : g.method = m) (hsize : g.locals.size = c.maxLocals) {argsL rest : List Value} (hlen : ∀ sig, parseMethodDescriptor y.desc = some sig → argsL.length = sig.parameters.length)
    (hstack : g.stack = argsL.reverse ++ .ref b :: rest) (hW : 2 * g.monitorRoom + (rest.map fun v => v.category).sum ≤ W9) (hdg : decode c.code g.pc = .ok (.invokevirtual index, 3))
    (hpre : ∀ vm₁, s.WarmedH vm₁ → Pre ⟨T.setVm vm₁, locs, cells, slots⟩ (Value.ref b :: argsL).toArray) :
    (∃ (v : Option Value) (vm₁ : Vm) (B : Pt), s.WarmedH vm₁ ∧ Stand p l e R s m args below meth c B.U B.locs B.cells B.slots ∧ Post ⟨T.setVm vm₁, locs, cells, slots⟩ (Value.ref b :: argsL).toArray v B ∧
      ∀ target, Steps p.tables e below (B.U.setTop { g with pc := g.pc + 3, stack := v.toList ++ rest }) target → Steps p.tables e below (T.setTop g) target) ∨
    (∃ (q : Addr) (vm₁ : Vm) (B : Pt), s.WarmedH vm₁ ∧ Stand p l e R s m args below meth c B.U B.locs B.cells B.slots ∧ PostX ⟨T.setVm vm₁, locs, cells, slots⟩ (Value.ref b :: argsL).toArray q B ∧
      Steps p.tables e below (T.setTop g) ((B.U.setTop { g with stack := rest }).pushFrame (.throwing q))) := by
  obtain ⟨mk, methM, hnamed, hmethM, hstM, habM⟩ := Cond.instanceMethod_spec hinst
  obtain ⟨methM', cM, hmethM', -, -, -, -, -, -, hsigM⟩ := Cond.code_spec hnamed hcode
  cases hmethM.symm.trans hmethM'
  obtain ⟨c2, r2, m2, q1, q2, q3, q4, kP, hkP, hkPi⟩ := Cond.selects_spec hsel
  cases hcls.symm.trans q1
  cases (State.methodFound?_of_named hnamed hy).symm.trans q2
  cases hnamed.symm.trans q3
  have hselP : selectMethod e.platform s.vm cellB.cls mk = .method mk := by rw [Launch.admits_selectMethod X.admits]; exact q4
  obtain ⟨vm₁, X₁, hstep₁⟩ := X.invokevirtual hexec hown hlink hnamed hmethM hstM hkP hkPi hy (a := b) (cell := cellB) hcell
    (fun z h => by rw [h] at hobj; cases hobj) hselP hmethM habM hkP hkPi (g := g) hg (argsL := argsL) (rest := rest) (hlen _ hsigM) hstack hdg
  rcases hK m meth c ⟨T.setVm vm₁, locs, cells, slots⟩ { g with stack := rest } (.invokevirtual index) mk (Value.ref b :: argsL).toArray X₁ hg hsize hdg hW (X₁.named hnamed) (hpre vm₁ X₁.warmed) with ⟨v, B, X', hpost, hsteps⟩ | ⟨q, B, X', hpost, hsteps⟩
  · exact Or.inl ⟨v, vm₁, B, X₁.warmed, X', hpost, fun target h => hstep₁ _ fun acts => by rw [doInvoke_state]; exact hsteps.trans h⟩
  · exact Or.inr ⟨q, vm₁, B, X₁.warmed, X', hpost, hstep₁ _ fun acts => by rw [doInvoke_state]; exact hsteps⟩
theorem vx_callS (X : Stand p l e R s m args below meth c T locs cells slots) (hexec : p.tables.exec = Jvm.exec) {own : String} {index : Nat} {y : MethodName} {bytes : ByteArray} {maxL : Nat} {ret : Option FieldType}
    (hown : s.vm.findClass own = some m.cls) (hlink : (Cond.methodLink own index y).before args s = true) (hstat : (Cond.static y).before args s = true) (hinit : (Cond.initialized y.cls).before args s = true)
    (hcode : (Cond.code y bytes maxL ret).before args s = true) (hy : y.cls ≠ "java/lang/invoke/MethodHandle" ∧ y.cls ≠ "java/lang/invoke/VarHandle")
    {W9 : Nat} {Pre : Pt → Array Value → Prop} {Post : Pt → Array Value → Option Value → Pt → Prop} {PostX : Pt → Array Value → Addr → Pt → Prop} (hK : vx_Back l R p e below s args y 3 W9 Pre Post PostX)
    {g : JFrame} (hg : g.method = m) (hsize : g.locals.size = c.maxLocals) {argsL rest : List Value} (hlen : ∀ sig, parseMethodDescriptor y.desc = some sig → argsL.length = sig.parameters.length)
    (hstack : g.stack = argsL.reverse ++ rest) (hW : 2 * g.monitorRoom + (rest.map fun v => v.category).sum ≤ W9) (hdg : decode c.code g.pc = .ok (.invokestatic index, 3))
    (hpre : ∀ vm₁, s.WarmedH vm₁ → Pre ⟨T.setVm vm₁, locs, cells, slots⟩ argsL.toArray) :
    (∃ (v : Option Value) (vm₁ : Vm) (B : Pt), s.WarmedH vm₁ ∧ Stand p l e R s m args below meth c B.U B.locs B.cells B.slots ∧ Post ⟨T.setVm vm₁, locs, cells, slots⟩ argsL.toArray v B ∧
      ∀ target, Steps p.tables e below (B.U.setTop { g with pc := g.pc + 3, stack := v.toList ++ rest }) target → Steps p.tables e below (T.setTop g) target) ∨
    (∃ (q : Addr) (vm₁ : Vm) (B : Pt), s.WarmedH vm₁ ∧ Stand p l e R s m args below meth c B.U B.locs B.cells B.slots ∧ PostX ⟨T.setVm vm₁, locs, cells, slots⟩ argsL.toArray q B ∧
      Steps p.tables e below (T.setTop g) ((B.U.setTop { g with stack := rest }).pushFrame (.throwing q))) := by
  obtain ⟨mk, hnamed⟩ := Cond.code_named hcode
  obtain ⟨methM, cM, hmethM, -, -, -, -, -, -, hsigM⟩ := Cond.code_spec hnamed hcode
  have hstatic : methM.isStatic = true := Cond.static_spec hnamed hmethM hstat
  obtain ⟨kP, hkP, -⟩ := className_of_methodNamed hnamed
  have hinitP : kP.init = .initialized := Cond.initialized_spec (findClass_of_methodNamed hnamed) hkP hinit
  obtain ⟨vm₁, X₁, hstep₁⟩ := X.invokestatic hexec hown hlink hnamed hmethM hstatic hkP hinitP hy (g := g) hg (argsL := argsL) (rest := rest) (hlen _ hsigM) hstack hdg
  rcases hK m meth c ⟨T.setVm vm₁, locs, cells, slots⟩ { g with stack := rest } (.invokestatic index) mk argsL.toArray X₁ hg hsize hdg hW (X₁.named hnamed) (hpre vm₁ X₁.warmed) with ⟨v, B, X', hpost, hsteps⟩ | ⟨q, B, X', hpost, hsteps⟩
  · exact Or.inl ⟨v, vm₁, B, X₁.warmed, X', hpost, fun target h => hstep₁ _ fun acts => by rw [doInvoke_state]; exact hsteps.trans h⟩
  · exact Or.inr ⟨q, vm₁, B, X₁.warmed, X', hpost, hstep₁ _ fun acts => by rw [doInvoke_state]; exact hsteps⟩
end Calls
theorem vx_cls {s : State} {T : State} {vm₁ : Vm} {E : String} {k : ClassId} (hW : s.WarmedH vm₁) (h : (T.setVm vm₁).vm.findClass E = some k) : s.vm.findClass E = some k := by
  have h1 : vm₁.findClass E = some k := h
  rw [hW.alike.findClass] at h1
  exact h1
/-- the method's frame g, with q thrown over it -/
def vx_W (p : Program) (l : Launch) (e : Env) (R : Room) (s : State) (m : MethodId) (args : Array Value) (below : List Frame) (meth : Method) (c : Code) (H : Heap) (locs : List Loc) (cells slots : Nat) (Q : State → Prop) (g : JFrame) (q : Addr) : Prop :=
  ∀ T : State, T.heap = H → Stand p l e R s m args below meth c T locs cells slots → ∃ t, Steps p.tables e below ((T.setTop g).pushFrame (.throwing q)) t ∧ Q t
def vx_Run (p : Program) (l : Launch) (e : Env) (R : Room) (s : State) (m : MethodId) (args : Array Value) (below : List Frame) (meth : Method) (c : Code) (H : Heap) (locs : List Loc) (cells slots mc ms : Nat) (g : JFrame) (rest : List Value) (Qa : State → Outcome → State → Prop) (XC : String → State → State → Prop) (free : Addr → Prop) : Prop :=
  ∀ T : State, T.heap = H → Stand p l e R s m args below meth c T locs cells slots →
    (∃ (v : Option Value) (st₀ t T' : State) (L : List Loc), st₀.heap = H ∧ Stand p l e R s m args below meth c T' (locs ++ L) (cells + mc) (slots + ms) ∧ (∀ q ∈ L, free q.base) ∧ T'.heap = t.heap ∧ T'.vm = t.vm ∧ Qa st₀ (.returned v) t ∧
      Goes p e below T g T' { g with pc := g.pc + 3, stack := v.toList ++ rest }) ∨
    (∃ (q : Addr) (st₀ t T' : State) (L : List Loc) (E : String) (ce : Cell), st₀.heap = H ∧ Stand p l e R s m args below meth c T' (locs ++ L) (cells + mc) (slots + ms) ∧ (∀ z ∈ L, free z.base) ∧ T'.heap = t.heap ∧ T'.vm = t.vm ∧ XC E st₀ t ∧ t.heap[q]? = some ce ∧ ce.vm = .none ∧ s.vm.findClass E = some ce.cls ∧
      Steps p.tables e below (T.setTop g) ((T'.setTop { g with stack := rest }).pushFrame (.throwing q)))
def vx_X {S : Type} (px : S → Prop) (B : String → S → State → Prop) (A : Nat → Prop) : String → State → State → Prop := fun E st t => ∃ u : S, px u ∧ B E u t ∧ va_F A st t
section Runs
variable {p : Program} {l : Launch} {e : Env} {R : Room} {s : State} {m : MethodId} {args : Array Value} {below : List Frame} {meth : Method} {c : Code} {H : Heap} {locs : List Loc} {cells slots : Nat}
variable {y : MethodName} {bytes cc : ByteArray} {maxL nL mc ms n index : Nat} {ret : Option FieldType} {ws : List Cond} {rm : Room} {Pc : Array Value → State → Prop} {Qc : Array Value → State → Outcome → State → Prop} {XC : String → State → State → Prop} {free : Addr → Prop} {Ts : List Cond} {own C : String} {b : Addr} {As rest : List Value} {g : JFrame}
theorem vx_callBack (cb : CallB R s args own index y bytes maxL ret ws rm mc ms n) (hM : vx_Met l y ws rm Pc Qc XC mc ms free) (hbl : FrameBlind Pc) : vx_Back l R p e below s args y 3 8 (PreOf R mc ms Pc) (PostOf Qc mc ms free) (vx_Post XC mc ms free) := by
  obtain ⟨hrc, hrs, hfr, hlo, hws, hcw, -, hini, -⟩ := cb
  exact vx_back (bytes := bytes) (maxL := maxL) (ret := ret) hM hbl hrc hrs hfr hlo hws hcw (fun a' U hW => word_at hW (Or.inl (by first | rfl | simp [Cond.onTables, Cond.keeps, Cond.steady])) hini)
theorem vx_runV (S : CallFix p m c cc nL s args Ts own) (hM : vx_Met l y ws rm Pc Qc XC mc ms free) (cw : CallW R s args own C index y bytes maxL ret ws rm mc ms n) (hp : PreV s H C b Pc As)
    (hg : g.method = m) (hn : As.length = n) (hsize : g.locals.size = nL) (hstack : g.stack = As.reverse ++ .ref b :: rest) (hW : 2 * g.monitorRoom + (rest.map fun v => v.category).sum ≤ 8) (hdg : decode cc g.pc = .ok (.invokevirtual index, 3)) (hf : cells + mc ≤ R.cells ∧ slots + ms ≤ R.slots) :
    vx_Run p l e R s m args below meth c H locs cells slots mc ms g rest (Qc (Value.ref b :: As).toArray) XC free := by
  have hK : vx_Back l R p e below s args y 3 8 (PreOf R mc ms Pc) (PostOf Qc mc ms free) (vx_Post XC mc ms free) := vx_callBack cw.1 hM hp.1
  obtain ⟨⟨-, -, -, -, -, -, hcode, -, hy, hlen, hl⟩, hin, hse⟩ := cw
  obtain ⟨hx, hb, hml, ho, -⟩ := S
  obtain ⟨-, ⟨cellB, hcB, hoB, hclB⟩, hPc⟩ := hp
  intro T hT X
  rcases vx_callV X hx (C := C) (bytes := bytes) (maxL := maxL) (ret := ret) ho hl hin hse hcode hy hK (by rw [hT]; exact hcB) hoB hclB hg (hsize.trans hml.symm) (argsL := As) (rest := rest) (fun sig h => hn.trans (hlen sig h)) hstack hW (by rw [hb]; exact hdg)
    (fun vm₁ hW₁ => ⟨hf.1, hf.2, hPc (T.setVm vm₁) hT hW₁⟩) with ⟨v, vm₁, ⟨U', l2, c2, s2⟩, hW₁, X', ⟨g', mk, t, L, e1, e2, hq, h1, hL, h2, h3⟩, st⟩ | ⟨q, vm₁, ⟨U', l2, c2, s2⟩, hW₁, X', ⟨g', mk, t, L, E, ce, e1, e2, hq, hce, hcv, hcl, h1, hL, h2, h3⟩, st⟩
  · dsimp only [Pt.U, Pt.locs, Pt.cells, Pt.slots] at X' e1 e2 h1 h2 h3 st
    subst h1; subst h2; subst h3
    exact Or.inl ⟨v, (T.setVm vm₁).calling g' mk (Value.ref b :: As).toArray, t, U', L, hT, X', hL, e1, e2, hq, st⟩
  · dsimp only [Pt.U, Pt.locs, Pt.cells, Pt.slots] at X' e1 e2 h1 h2 h3 st hcl
    subst h1; subst h2; subst h3
    exact Or.inr ⟨q, (T.setVm vm₁).calling g' mk (Value.ref b :: As).toArray, t, U', L, E, ce, hT, X', hL, e1, e2, hq, hce, hcv, vx_cls hW₁ hcl, st⟩
theorem vx_runS (S : CallFix p m c cc nL s args Ts own) (hM : vx_Met l y ws rm Pc Qc XC mc ms free) (cw : CallB R s args own index y bytes maxL ret ws rm mc ms n ∧ (Cond.static y).before args s = true) (hp : PreS s H Pc As)
    (hg : g.method = m) (hn : As.length = n) (hsize : g.locals.size = nL) (hstack : g.stack = As.reverse ++ rest) (hW : 2 * g.monitorRoom + (rest.map fun v => v.category).sum ≤ 8) (hdg : decode cc g.pc = .ok (.invokestatic index, 3)) (hf : cells + mc ≤ R.cells ∧ slots + ms ≤ R.slots) :
    vx_Run p l e R s m args below meth c H locs cells slots mc ms g rest (Qc As.toArray) XC free := by
  have hK : vx_Back l R p e below s args y 3 8 (PreOf R mc ms Pc) (PostOf Qc mc ms free) (vx_Post XC mc ms free) := vx_callBack cw.1 hM hp.1
  obtain ⟨⟨-, -, -, -, -, -, hcode, hini, hy, hlen, hl⟩, hstt⟩ := cw
  obtain ⟨hx, hb, hml, ho, -⟩ := S
  intro T hT X
  rcases vx_callS X hx (bytes := bytes) (maxL := maxL) (ret := ret) ho hl hstt hini hcode hy hK hg (hsize.trans hml.symm) (argsL := As) (rest := rest) (fun sig h => hn.trans (hlen sig h)) hstack hW (by rw [hb]; exact hdg)
    (fun vm₁ hW₁ => ⟨hf.1, hf.2, hp.2 (T.setVm vm₁) hT hW₁⟩) with ⟨v, vm₁, ⟨U', l2, c2, s2⟩, hW₁, X', ⟨g', mk, t, L, e1, e2, hq, h1, hL, h2, h3⟩, st⟩ | ⟨q, vm₁, ⟨U', l2, c2, s2⟩, hW₁, X', ⟨g', mk, t, L, E, ce, e1, e2, hq, hce, hcv, hcl, h1, hL, h2, h3⟩, st⟩
  · dsimp only [Pt.U, Pt.locs, Pt.cells, Pt.slots] at X' e1 e2 h1 h2 h3 st
    subst h1; subst h2; subst h3
    exact Or.inl ⟨v, (T.setVm vm₁).calling g' mk As.toArray, t, U', L, hT, X', hL, e1, e2, hq, st⟩
  · dsimp only [Pt.U, Pt.locs, Pt.cells, Pt.slots] at X' e1 e2 h1 h2 h3 st hcl
    subst h1; subst h2; subst h3
    exact Or.inr ⟨q, (T.setVm vm₁).calling g' mk As.toArray, t, U', L, E, ce, hT, X', hL, e1, e2, hq, hce, hcv, vx_cls hW₁ hcl, st⟩
end Runs
section Rows
variable {p : Program} {l : Launch} {e : Env} {R : Room} {s : State} {m : MethodId} {args : Array Value} {below : List Frame} {meth : Method} {c : Code} {H : Heap} {locs : List Loc} {cells slots : Nat} {Q : State → Prop}
variable {mc ms : Nat} {free : Addr → Prop} {A0 A1 : Nat → Prop} {H0 : Heap} {a : Array Value} {pc : Nat} {ls : Array Slot} {st0 rest : List Value}
theorem vx_keep {st₀ t T' : State} {L : List Loc} (h0 : st₀.heap = H) (e1 : T'.heap = t.heap) (hS : va_S A0 H0 H locs) (hA : ∀ q, q < H.size → A1 q → A0 q) (hf : ∀ q, free q → A0 q) (hL : ∀ q ∈ L, free q.base) (hF : va_F A1 st₀ t) :
    H.size ≤ T'.heap.size ∧ (∀ q : Nat, q < H.size → ¬ A1 q → T'.heap[q]? = H[q]?) ∧ va_S A0 H0 T'.heap (locs ++ L) := by
  obtain ⟨hz, hk⟩ := hF
  rw [h0] at hz hk
  exact ⟨by rw [e1]; exact hz, fun q h1 h2 => by rw [e1]; exact hk q h1 h2,
    ⟨Nat.le_trans hS.1 (by rw [e1]; exact hz), fun q h1 h2 => by rw [e1, hk q (Nat.lt_of_lt_of_le h1 hS.1) (fun z => h2 (hA q (Nat.lt_of_lt_of_le h1 hS.1) z))]; exact hS.2.1 q h1 h2, fun q hq => by
      rcases List.mem_append.mp hq with h | h
      · exact hS.2.2 q h
      · exact hf _ (hL q h)⟩⟩
theorem vx_calli {S SX : Type} {post : Int32 → S → Prop} {px : SX → Prop} {B : S → State → Prop} {BX : String → SX → State → Prop} {AX : Nat → Prop} (hr : vx_Run p l e R s m args below meth c H locs cells slots mc ms (F0 m pc ls st0) rest (va_Qi post B A1 a) (vx_X px BX AX) free) (hS : va_S A0 H0 H locs) (hA : ∀ q, q < H.size → A1 q → A0 q) (hf : ∀ q, free q → A0 q) (hAX : ∀ q, q < H.size → AX q → A0 q)
    (kx : ∀ (E : String) (ce : Cell) (q9 : Addr) (u : SX) (t : State) (H1 : Heap) (locs1 : List Loc), t.heap = H1 → s.vm.Alike t.vm → px u → BX E u t → H.size ≤ H1.size → (∀ q : Nat, q < H.size → ¬ AX q → H1[q]? = H[q]?) → va_S A0 H0 H1 locs1 → H1[q9]? = some ce → ce.vm = .none → s.vm.findClass E = some ce.cls → vx_W p l e R s m args below meth c H1 locs1 (cells + mc) (slots + ms) Q (F0 m pc ls rest) q9)
    (kk : ∀ (r : Int32) (u : S) (t : State) (H1 : Heap) (locs1 : List Loc), t.heap = H1 → s.vm.Alike t.vm → post r u → B u t → H.size ≤ H1.size → (∀ q : Nat, q < H.size → ¬ A1 q → H1[q]? = H[q]?) → va_S A0 H0 H1 locs1 → W p l e R s m args below meth c H1 locs1 (cells + mc) (slots + ms) Q (F0 m (pc + 3) ls (.int r :: rest))) : W p l e R s m args below meth c H locs cells slots Q (F0 m pc ls st0) := by
  intro T hT X
  rcases hr T hT X with ⟨v, st₀, t, T', L, h0, X', hL, e1, e2, ⟨⟨r, u, hv, hp, hb⟩, hF⟩, st⟩ | ⟨q, st₀, t, T', L, E, ce, h0, X', hL, e1, e2, ⟨u, hp, hb, hF⟩, hce, hcv, hcl, st⟩
  · cases hv
    obtain ⟨k1, k2, k3⟩ := vx_keep h0 e1 hS hA hf hL hF
    obtain ⟨t2, a1, b1⟩ := kk r u t T'.heap (locs ++ L) e1.symm (by rw [← e2]; exact X'.warmed.alike) hp hb k1 k2 k3 T' rfl X'
    exact ⟨t2, st t2 a1, b1⟩
  · obtain ⟨k1, k2, k3⟩ := vx_keep h0 e1 hS hAX hf hL hF
    obtain ⟨t2, a1, b1⟩ := kx E ce q u t T'.heap (locs ++ L) e1.symm (by rw [← e2]; exact X'.warmed.alike) hp hb k1 k2 k3 (by rw [e1]; exact hce) hcv hcl T' rfl X'
    exact ⟨t2, st.trans a1, b1⟩
theorem vx_calll {S SX : Type} {post : Int64 → S → Prop} {px : SX → Prop} {B : S → State → Prop} {BX : String → SX → State → Prop} {AX : Nat → Prop} (hr : vx_Run p l e R s m args below meth c H locs cells slots mc ms (F0 m pc ls st0) rest (va_Ql post B A1 a) (vx_X px BX AX) free) (hS : va_S A0 H0 H locs) (hA : ∀ q, q < H.size → A1 q → A0 q) (hf : ∀ q, free q → A0 q) (hAX : ∀ q, q < H.size → AX q → A0 q)
    (kx : ∀ (E : String) (ce : Cell) (q9 : Addr) (u : SX) (t : State) (H1 : Heap) (locs1 : List Loc), t.heap = H1 → s.vm.Alike t.vm → px u → BX E u t → H.size ≤ H1.size → (∀ q : Nat, q < H.size → ¬ AX q → H1[q]? = H[q]?) → va_S A0 H0 H1 locs1 → H1[q9]? = some ce → ce.vm = .none → s.vm.findClass E = some ce.cls → vx_W p l e R s m args below meth c H1 locs1 (cells + mc) (slots + ms) Q (F0 m pc ls rest) q9)
    (kk : ∀ (r : Int64) (u : S) (t : State) (H1 : Heap) (locs1 : List Loc), t.heap = H1 → s.vm.Alike t.vm → post r u → B u t → H.size ≤ H1.size → (∀ q : Nat, q < H.size → ¬ A1 q → H1[q]? = H[q]?) → va_S A0 H0 H1 locs1 → W p l e R s m args below meth c H1 locs1 (cells + mc) (slots + ms) Q (F0 m (pc + 3) ls (.long r :: rest))) : W p l e R s m args below meth c H locs cells slots Q (F0 m pc ls st0) := by
  intro T hT X
  rcases hr T hT X with ⟨v, st₀, t, T', L, h0, X', hL, e1, e2, ⟨⟨r, u, hv, hp, hb⟩, hF⟩, st⟩ | ⟨q, st₀, t, T', L, E, ce, h0, X', hL, e1, e2, ⟨u, hp, hb, hF⟩, hce, hcv, hcl, st⟩
  · cases hv
    obtain ⟨k1, k2, k3⟩ := vx_keep h0 e1 hS hA hf hL hF
    obtain ⟨t2, a1, b1⟩ := kk r u t T'.heap (locs ++ L) e1.symm (by rw [← e2]; exact X'.warmed.alike) hp hb k1 k2 k3 T' rfl X'
    exact ⟨t2, st t2 a1, b1⟩
  · obtain ⟨k1, k2, k3⟩ := vx_keep h0 e1 hS hAX hf hL hF
    obtain ⟨t2, a1, b1⟩ := kx E ce q u t T'.heap (locs ++ L) e1.symm (by rw [← e2]; exact X'.warmed.alike) hp hb k1 k2 k3 (by rw [e1]; exact hce) hcv hcl T' rfl X'
    exact ⟨t2, st.trans a1, b1⟩
theorem vx_callf {S SX : Type} {post : UInt32 → S → Prop} {px : SX → Prop} {B : S → State → Prop} {BX : String → SX → State → Prop} {AX : Nat → Prop} (hr : vx_Run p l e R s m args below meth c H locs cells slots mc ms (F0 m pc ls st0) rest (va_Qf post B A1 a) (vx_X px BX AX) free) (hS : va_S A0 H0 H locs) (hA : ∀ q, q < H.size → A1 q → A0 q) (hf : ∀ q, free q → A0 q) (hAX : ∀ q, q < H.size → AX q → A0 q)
    (kx : ∀ (E : String) (ce : Cell) (q9 : Addr) (u : SX) (t : State) (H1 : Heap) (locs1 : List Loc), t.heap = H1 → s.vm.Alike t.vm → px u → BX E u t → H.size ≤ H1.size → (∀ q : Nat, q < H.size → ¬ AX q → H1[q]? = H[q]?) → va_S A0 H0 H1 locs1 → H1[q9]? = some ce → ce.vm = .none → s.vm.findClass E = some ce.cls → vx_W p l e R s m args below meth c H1 locs1 (cells + mc) (slots + ms) Q (F0 m pc ls rest) q9)
    (kk : ∀ (r : UInt32) (u : S) (t : State) (H1 : Heap) (locs1 : List Loc), t.heap = H1 → s.vm.Alike t.vm → post r u → B u t → H.size ≤ H1.size → (∀ q : Nat, q < H.size → ¬ A1 q → H1[q]? = H[q]?) → va_S A0 H0 H1 locs1 → W p l e R s m args below meth c H1 locs1 (cells + mc) (slots + ms) Q (F0 m (pc + 3) ls (.float r :: rest))) : W p l e R s m args below meth c H locs cells slots Q (F0 m pc ls st0) := by
  intro T hT X
  rcases hr T hT X with ⟨v, st₀, t, T', L, h0, X', hL, e1, e2, ⟨⟨r, u, hv, hp, hb⟩, hF⟩, st⟩ | ⟨q, st₀, t, T', L, E, ce, h0, X', hL, e1, e2, ⟨u, hp, hb, hF⟩, hce, hcv, hcl, st⟩
  · cases hv
    obtain ⟨k1, k2, k3⟩ := vx_keep h0 e1 hS hA hf hL hF
    obtain ⟨t2, a1, b1⟩ := kk r u t T'.heap (locs ++ L) e1.symm (by rw [← e2]; exact X'.warmed.alike) hp hb k1 k2 k3 T' rfl X'
    exact ⟨t2, st t2 a1, b1⟩
  · obtain ⟨k1, k2, k3⟩ := vx_keep h0 e1 hS hAX hf hL hF
    obtain ⟨t2, a1, b1⟩ := kx E ce q u t T'.heap (locs ++ L) e1.symm (by rw [← e2]; exact X'.warmed.alike) hp hb k1 k2 k3 (by rw [e1]; exact hce) hcv hcl T' rfl X'
    exact ⟨t2, st.trans a1, b1⟩
theorem vx_calld {S SX : Type} {post : UInt64 → S → Prop} {px : SX → Prop} {B : S → State → Prop} {BX : String → SX → State → Prop} {AX : Nat → Prop} (hr : vx_Run p l e R s m args below meth c H locs cells slots mc ms (F0 m pc ls st0) rest (va_Qd post B A1 a) (vx_X px BX AX) free) (hS : va_S A0 H0 H locs) (hA : ∀ q, q < H.size → A1 q → A0 q) (hf : ∀ q, free q → A0 q) (hAX : ∀ q, q < H.size → AX q → A0 q)
    (kx : ∀ (E : String) (ce : Cell) (q9 : Addr) (u : SX) (t : State) (H1 : Heap) (locs1 : List Loc), t.heap = H1 → s.vm.Alike t.vm → px u → BX E u t → H.size ≤ H1.size → (∀ q : Nat, q < H.size → ¬ AX q → H1[q]? = H[q]?) → va_S A0 H0 H1 locs1 → H1[q9]? = some ce → ce.vm = .none → s.vm.findClass E = some ce.cls → vx_W p l e R s m args below meth c H1 locs1 (cells + mc) (slots + ms) Q (F0 m pc ls rest) q9)
    (kk : ∀ (r : UInt64) (u : S) (t : State) (H1 : Heap) (locs1 : List Loc), t.heap = H1 → s.vm.Alike t.vm → post r u → B u t → H.size ≤ H1.size → (∀ q : Nat, q < H.size → ¬ A1 q → H1[q]? = H[q]?) → va_S A0 H0 H1 locs1 → W p l e R s m args below meth c H1 locs1 (cells + mc) (slots + ms) Q (F0 m (pc + 3) ls (.double r :: rest))) : W p l e R s m args below meth c H locs cells slots Q (F0 m pc ls st0) := by
  intro T hT X
  rcases hr T hT X with ⟨v, st₀, t, T', L, h0, X', hL, e1, e2, ⟨⟨r, u, hv, hp, hb⟩, hF⟩, st⟩ | ⟨q, st₀, t, T', L, E, ce, h0, X', hL, e1, e2, ⟨u, hp, hb, hF⟩, hce, hcv, hcl, st⟩
  · cases hv
    obtain ⟨k1, k2, k3⟩ := vx_keep h0 e1 hS hA hf hL hF
    obtain ⟨t2, a1, b1⟩ := kk r u t T'.heap (locs ++ L) e1.symm (by rw [← e2]; exact X'.warmed.alike) hp hb k1 k2 k3 T' rfl X'
    exact ⟨t2, st t2 a1, b1⟩
  · obtain ⟨k1, k2, k3⟩ := vx_keep h0 e1 hS hAX hf hL hF
    obtain ⟨t2, a1, b1⟩ := kx E ce q u t T'.heap (locs ++ L) e1.symm (by rw [← e2]; exact X'.warmed.alike) hp hb k1 k2 k3 (by rw [e1]; exact hce) hcv hcl T' rfl X'
    exact ⟨t2, st.trans a1, b1⟩
theorem vx_callv {S SX : Type} {post : S → Prop} {px : SX → Prop} {B : S → State → Prop} {BX : String → SX → State → Prop} {AX : Nat → Prop} (hr : vx_Run p l e R s m args below meth c H locs cells slots mc ms (F0 m pc ls st0) rest (va_Qv post B A1 a) (vx_X px BX AX) free) (hS : va_S A0 H0 H locs) (hA : ∀ q, q < H.size → A1 q → A0 q) (hf : ∀ q, free q → A0 q) (hAX : ∀ q, q < H.size → AX q → A0 q)
    (kx : ∀ (E : String) (ce : Cell) (q9 : Addr) (u : SX) (t : State) (H1 : Heap) (locs1 : List Loc), t.heap = H1 → s.vm.Alike t.vm → px u → BX E u t → H.size ≤ H1.size → (∀ q : Nat, q < H.size → ¬ AX q → H1[q]? = H[q]?) → va_S A0 H0 H1 locs1 → H1[q9]? = some ce → ce.vm = .none → s.vm.findClass E = some ce.cls → vx_W p l e R s m args below meth c H1 locs1 (cells + mc) (slots + ms) Q (F0 m pc ls rest) q9)
    (kk : ∀ (u : S) (t : State) (H1 : Heap) (locs1 : List Loc), t.heap = H1 → s.vm.Alike t.vm → post u → B u t → H.size ≤ H1.size → (∀ q : Nat, q < H.size → ¬ A1 q → H1[q]? = H[q]?) → va_S A0 H0 H1 locs1 → W p l e R s m args below meth c H1 locs1 (cells + mc) (slots + ms) Q (F0 m (pc + 3) ls (rest))) : W p l e R s m args below meth c H locs cells slots Q (F0 m pc ls st0) := by
  intro T hT X
  rcases hr T hT X with ⟨v, st₀, t, T', L, h0, X', hL, e1, e2, ⟨⟨u, hv, hp, hb⟩, hF⟩, st⟩ | ⟨q, st₀, t, T', L, E, ce, h0, X', hL, e1, e2, ⟨u, hp, hb, hF⟩, hce, hcv, hcl, st⟩
  · cases hv
    obtain ⟨k1, k2, k3⟩ := vx_keep h0 e1 hS hA hf hL hF
    obtain ⟨t2, a1, b1⟩ := kk u t T'.heap (locs ++ L) e1.symm (by rw [← e2]; exact X'.warmed.alike) hp hb k1 k2 k3 T' rfl X'
    exact ⟨t2, st t2 a1, b1⟩
  · obtain ⟨k1, k2, k3⟩ := vx_keep h0 e1 hS hAX hf hL hF
    obtain ⟨t2, a1, b1⟩ := kx E ce q u t T'.heap (locs ++ L) e1.symm (by rw [← e2]; exact X'.warmed.alike) hp hb k1 k2 k3 (by rw [e1]; exact hce) hcv hcl T' rfl X'
    exact ⟨t2, st.trans a1, b1⟩
/-- caught by the row x of this method's table; the rows ahead don't take it -/
theorem vx_catch {own name : String} {E : String} {ce : Cell} {q : Addr} (hown : s.vm.findClass own = some m.cls) (pre : List ExceptionTableEntry) (x : ExceptionTableEntry) (suf : List ExceptionTableEntry) (hsplit : c.exceptionTable.toList = pre ++ x :: suf)
    (hpass : ∀ z ∈ pre, covers z pc = false ∨ (z.catchType ≠ 0 ∧ ∃ nm : String, (Cond.classLink own z.catchType nm).before args s = true ∧ va_Nc E nm s)) (hx : covers x pc = true) (h0 : x.catchType ≠ 0)
    (hlink : (Cond.classLink own x.catchType name).before args s = true) (hcast : (Cond.castable E name).before args s = true) (hcell : H[q]? = some ce) (hv : ce.vm = .none) (hcl : s.vm.findClass E = some ce.cls)
    (kk : W p l e R s m args below meth c H locs cells slots Q (F0 m x.handlerPc ls [.ref q])) : vx_W p l e R s m args below meth c H locs cells slots Q (F0 m pc ls rest) q := by
  intro T hT X
  have hpl : e.platform.magicAccessors = ({} : Platform).magicAccessors := by rw [X.admits.platform]
  obtain ⟨c3, c4, hc3, hc4, hasg⟩ := Cond.castable_spec hcast
  cases Option.some.inj (hc3.symm.trans hcl)
  obtain ⟨c5, hc5, hcl5⟩ := Cond.classLink_spec hown hlink e.platform hpl
  cases Option.some.inj (hc4.symm.trans hc5)
  obtain ⟨vm', X', st⟩ := X.thenCaughtThrough q (g := F0 m pc ls rest) rfl (Steps.refl _) (by rw [hT]; exact hcell) (by rw [hv]; rfl) (by obtain ⟨k9, h9, -⟩ := Vm.findClass_spec hcl; exact ⟨k9, h9⟩) pre x suf hsplit
    (fun z hz => by
      rcases hpass z hz with h | ⟨hz0, nm, hl1, hn1⟩
      · exact Or.inl h
      · obtain ⟨c6, hc6, hcl6⟩ := Cond.classLink_spec hown hl1 e.platform hpl
        obtain ⟨a8, b8, h1, h2, h3⟩ := hn1
        cases Option.some.inj (h1.symm.trans hcl)
        cases Option.some.inj (h2.symm.trans hc6)
        exact Or.inr ⟨hz0, _, hcl6, h3⟩) hx (Or.inr ⟨h0, c4, hcl5, hasg⟩)
  obtain ⟨t, a1, b1⟩ := kk (T.setVm vm') hT X'
  exact ⟨t, st.trans a1, b1⟩
end Rows
section Ends
variable {p : Program} {l : Launch} {e : Env} {R : Room} {s : State} {m : MethodId} {args : Array Value} {below : List Frame} {meth : Method} {c : Code} {H : Heap} {locs : List Loc} {cells slots : Nat} {Q : State → Prop}
variable {mc ms : Nat} {free : Addr → Prop} {A0 A1 : Nat → Prop} {H0 : Heap} {a : Array Value} {ls : Array Slot} {st0 rest : List Value}
variable {Qc : Array Value → State → Outcome → State → Prop} {XC : String → State → State → Prop}
/-- what a body that may throw owes at its end -/
def vx_MQ (below : List Frame) (Qc : Array Value → State → Outcome → State → Prop) (XC : String → State → State → Prop) (a : Array Value) (s : State) (mc ms : Nat) (free : Addr → Prop) : State → Prop := fun t =>
  ∃ o, t.status = .running ∧ Ended t below o ∧ vx_Q Qc XC mc ms free a s o t
theorem vx_ret {g : JFrame} {mc ms : Nat} (k : W p l e R s m args below meth c H locs cells slots (MQ below Qc args s mc ms free) g) : W p l e R s m args below meth c H locs cells slots (vx_MQ below Qc XC args s mc ms free) g := by
  intro T hT X
  obtain ⟨t, a1, o, b1, b2, b3, b4⟩ := k T hT X
  exact ⟨t, a1, o, b1, b2, Or.inl ⟨b3, b4⟩⟩
/-- not caught here: it goes on to the caller -/
theorem vx_widen {g : JFrame} {q : Addr} {k n : Nat} (h1 : cells ≤ k) (h2 : slots ≤ n) (kk : vx_W p l e R s m args below meth c H locs k n Q g q) : vx_W p l e R s m args below meth c H locs cells slots Q g q := fun T hT X => kk T hT (stand_widen X h1 h2)
theorem vx_out {pc : Nat} {E : String} {ce : Cell} {q : Addr} {mc ms : Nat} (hout : ∀ x ∈ c.exceptionTable.toList, covers x pc = false) (hlocks : meth.locks = false) (hcell : H[q]? = some ce) (hv : ce.vm = .none) (hcl : s.vm.findClass E = some ce.cls)
    (hx : ∀ t : State, t.heap = H → s.vm.Alike t.vm → XC E s t) (hf : ∀ z ∈ locs, free z.base) (hc : cells ≤ mc) (hs : slots ≤ ms) :
    vx_W p l e R s m args below meth c H locs cells slots (vx_MQ below Qc XC args s mc ms free) (F0 m pc ls rest) q := by
  intro T hT X
  obtain ⟨st1, hrun, hend, hW, hsm⟩ := X.leaveThrown q (g := F0 m pc ls rest) rfl rfl rfl hout hlocks
  have hcell9 : (T.setFrames (.throwing q :: below)).heap[q]? = some ce := by
    show T.heap[q]? = some ce
    rw [hT]; exact hcell
  exact ⟨_, st1, .threw q, hrun, hend, Or.inr ⟨q, rfl, E, ce, locs, hx _ hT hW.alike, hcell9, hv, hcl, hW, hsm.mono hc hs, hf⟩⟩
theorem vx_frame {U : State} {k n : Nat} (h : s.sameButNew ({ U with vm := s.vm } : State) locs k n) : s.heap.size ≤ U.heap.size ∧ ∀ q : Nat, q < s.heap.size → (∀ z ∈ locs, z.base ≠ q) → U.heap[q]? = s.heap[q]? := by
  obtain ⟨-, h2, -, -, -, h6⟩ := h
  refine ⟨h2, fun q hq hz => ?_⟩
  obtain ⟨c9, e1, e2, e3, e4⟩ := h6 q _ (Array.getElem?_eq_getElem hq)
  have hs : c9.slots = (s.heap[q]).slots := Array.ext_getElem? fun i => e4 i fun hm => hz _ hm rfl
  have h9 : c9 = s.heap[q] := by
    rw [hs] at e2
    exact e2
  have e5 : U.heap[q]? = some c9 := e1
  rw [e5, h9, Array.getElem?_eq_getElem hq]
/-- the words of a throw but the four that speak of the heap -/
def vx_no (w : Cond) : Bool := decide (w ≠ .isRef (.static Bundle.tN "UNASSIGNED_STACK" Bundle.steD)) && decide (w ≠ .isRef (.static Bundle.tN "SUPPRESSED_SENTINEL" Bundle.listD)) && decide (w ≠ .laysStatic Bundle.tN "UNASSIGNED_STACK" Bundle.steD) && decide (w ≠ .laysStatic Bundle.tN "SUPPRESSED_SENTINEL" Bundle.listD)
def vx_at0 (own : String) (ic : Nat) (X : String) (names : List String) : List Cond := (Bundle.ownAtoms0 own ic X names).filter vx_no
def vx_atS (own : String) (ic : Nat) (X : String) (names : List String) : List Cond := (Bundle.ownAtoms own ic X names).filter vx_no
/-- a word that the tables alone decide, or a good one -/
def vx_ot (w : Cond) : Bool := w.onTables || goodWord w
theorem vx_ot_at {args a' : Array Value} {s U : State} {w : Cond} (hW : s.WarmedH U.vm) (hvm : s.vm = U.vm) (hg : vx_ot w = true) (h : w.before args s = true) : w.before a' U = true := by
  simp only [vx_ot, Bool.or_eq_true] at hg
  rcases hg with hg | hg
  · exact va_tabs hg hvm h
  · exact word_at hW (good_of_word hg) h
/-- a list's words: the good ones out of the method's own list, the others by premises of their own -/
theorem vx_hat {args : Array Value} {s : State} {L B : List Cond} (h1 : ∀ w ∈ L.filter goodWord, w.before args s = true) (h2 : ∀ w ∈ L.filter (fun w => !goodWord w), w ∈ B) (h3 : ∀ w ∈ B, w.before args s = true) : ∀ w ∈ L, w.before args s = true := by
  intro w hw
  by_cases g : goodWord w = true
  · exact h1 w (List.mem_filter.mpr ⟨hw, g⟩)
  · refine h3 w (h2 w (List.mem_filter.mpr ⟨hw, ?_⟩))
    show (!goodWord w) = true
    cases hgw : goodWord w
    · rfl
    · exact absurd hgw g
theorem vx_c {args : Array Value} {s : State} {w : Cond} {B : List Cond} (h : w.before args s = true) (t : ∀ w ∈ B, w.before args s = true) : ∀ w' ∈ w :: B, w'.before args s = true := fun w' h' => (List.mem_cons.mp h').elim (fun e => by rw [e]; exact h) (t w')
theorem vx_n {args : Array Value} {s : State} : ∀ w ∈ ([] : List Cond), w.before args s = true := fun _ h => nomatch h
theorem vx_own {args : Array Value} {s : State} {L : List Cond} (h1 : ∀ w ∈ L.filter vx_no, w.before args s = true)
    (hU : (Cond.isRef (.static Bundle.tN "UNASSIGNED_STACK" Bundle.steD)).before args s = true) (hN : (Cond.isRef (.static Bundle.tN "SUPPRESSED_SENTINEL" Bundle.listD)).before args s = true)
    (lU : (Cond.laysStatic Bundle.tN "UNASSIGNED_STACK" Bundle.steD).before args s = true) (lN : (Cond.laysStatic Bundle.tN "SUPPRESSED_SENTINEL" Bundle.listD).before args s = true) : ∀ w ∈ L, w.before args s = true := by
  intro w hw
  by_cases e1 : w = .isRef (.static Bundle.tN "UNASSIGNED_STACK" Bundle.steD)
  · rw [e1]; exact hU
  · by_cases e2 : w = .isRef (.static Bundle.tN "SUPPRESSED_SENTINEL" Bundle.listD)
    · rw [e2]; exact hN
    · by_cases e3 : w = .laysStatic Bundle.tN "UNASSIGNED_STACK" Bundle.steD
      · rw [e3]; exact lU
      · by_cases e4 : w = .laysStatic Bundle.tN "SUPPRESSED_SENTINEL" Bundle.listD
        · rw [e4]; exact lN
        · exact h1 w (List.mem_filter.mpr ⟨hw, by unfold vx_no; rw [decide_eq_true e1, decide_eq_true e2, decide_eq_true e3, decide_eq_true e4]; rfl⟩)
/-- where a static field lies, its class's statics cell in H -/
def vx_L (C n d : String) (A : Nat → Prop) (U : State) (H : Heap) : Prop := ∃ (c : ClassId) (k : Class) (i : Nat) (f : Field) (a : Nat) (cell : Cell), U.vm.findClass C = some c ∧ U.fieldFound? C n d = some (c, k, i, f) ∧ f.isStatic = true ∧ k.statics = some a ∧ H[a]? = some cell ∧ cell.vm.isStatics = true ∧ cell.cls = c ∧ f.slot < cell.slots.size ∧ k.staticTypes[f.slot]? = some f.type ∧ ¬ A a
theorem vx_L.moved {C n d : String} {A : Nat → Prop} {u U : State} {H : Heap} (hvm : u.vm.Alike U.vm) (h : vx_L C n d A u H) : vx_L C n d A U H := by
  obtain ⟨c, k, i, f, a, cell, h1, h2, h3, h4, h5, h6, h7, h8, h9, h10⟩ := h
  obtain ⟨k', hi', he⟩ := State.fieldFound?_setVm hvm h2
  exact ⟨c, k', i, f, a, cell, by rw [hvm.findClass]; exact h1, hi', h3, by rw [he]; exact h4, h5, h6, h7, h8, by rw [he]; exact h9, h10⟩
theorem vx_L.kept {C n d : String} {A : Nat → Prop} {U : State} {H H1 : Heap} (h : vx_L C n d A U H) (hq : ∀ a : Nat, a < H.size → ¬ A a → H1[a]? = H[a]?) : vx_L C n d A U H1 := by
  obtain ⟨c, k, i, f, a, cell, h1, h2, h3, h4, h5, h6, h7, h8, h9, h10⟩ := h
  exact ⟨c, k, i, f, a, cell, h1, h2, h3, h4, by rw [hq a (Array.getElem?_eq_some_iff.mp h5).1 h10]; exact h5, h6, h7, h8, h9, h10⟩
theorem vx_L.narrow {C n d : String} {A B : Nat → Prop} {U : State} {H : Heap} (h : vx_L C n d A U H) (hAB : ∀ q, B q → A q) : vx_L C n d B U H := by
  obtain ⟨c, k, i, f, a, cell, h1, h2, h3, h4, h5, h6, h7, h8, h9, h10⟩ := h
  exact ⟨c, k, i, f, a, cell, h1, h2, h3, h4, h5, h6, h7, h8, h9, fun z => h10 (hAB _ z)⟩
theorem vx_L.word {C n d : String} {A : Nat → Prop} {s : State} {args : Array Value} (h : vx_L C n d A s s.heap) : (Cond.laysStatic C n d).before args s = true := by
  obtain ⟨c, k, i, f, a, cell, h1, h2, h3, h4, h5, h6, h7, h8, h9, -⟩ := h
  show (Cond.laysStatic C n d).holds args s none s [] = true
  exact Cond.laysStatic_of h1 h2 h3 h4 h5 h6 h7 h8 h9
/-- .. and what it holds: null or some reference -/
def vx_Zq (C n d : String) (A : Nat → Prop) (U : State) (H : Heap) : Prop := va_Zq C n d A U H ∧ vx_L C n d A U H
theorem vx_Zq.moved {C n d : String} {A : Nat → Prop} {u U : State} {H : Heap} (hvm : u.vm.Alike U.vm) (h : vx_Zq C n d A u H) : vx_Zq C n d A U H := ⟨va_Zq.moved hvm h.1, vx_L.moved hvm h.2⟩
theorem vx_Zq.kept {C n d : String} {A : Nat → Prop} {U : State} {H H1 : Heap} (h : vx_Zq C n d A U H) (hq : ∀ a : Nat, a < H.size → ¬ A a → H1[a]? = H[a]?) : vx_Zq C n d A U H1 := ⟨va_Zq.kept h.1 hq, vx_L.kept h.2 hq⟩
theorem vx_Zq.narrow {C n d : String} {A B : Nat → Prop} {U : State} {H : Heap} (h : vx_Zq C n d A U H) (hAB : ∀ q, B q → A q) : vx_Zq C n d B U H := ⟨va_Zq.narrow h.1 hAB, vx_L.narrow h.2 hAB⟩
theorem vx_Zqof {args : Array Value} {s : State} {C n d : String} {A : Nat → Prop} (hl : (Cond.laysStatic C n d).before args s = true) (hini : (Cond.initialized C).before args s = true) (h : (Cond.isRef (.static C n d)).before args s = true) (hA : ∀ a : Nat, a < s.heap.size → ¬ A a) : vx_Zq C n d A s s.heap := by
  refine ⟨va_Zqof hl hini h hA, ?_⟩
  obtain ⟨c, k, i, f, a, cell, h1, h2, h3, h4, h5, h6, h7, h8, h9⟩ := Cond.laysStatic_spec hl
  exact ⟨c, k, i, f, a, cell, h1, h2, h3, h4, h5, h6, h7, h8, h9, hA a (Array.getElem?_eq_some_iff.mp h5).1⟩
theorem vx_isRef {C n d : String} {v : Value} {A : Nat → Prop} {s : State} {args : Array Value} (h : va_Z C n d v A s s.heap) (hv : v.isRef = true) : (Cond.isRef (.static C n d)).before args s = true := by
  obtain ⟨cf, kf, fi, f, a, cell, h1, h2, h3, h4, h5, h6, h7, -⟩ := h
  have he : (Term.static C n d).eval args s none [] s = some v := by
    simp [Term.eval, State.fieldNamed?, h1, h2, h4, h5, h6, h7]
  simp only [Cond.before, Cond.holds, Cond.value, he]
  cases v <;> simp_all [Value.isRef]
theorem vx_isRefq {C n d : String} {A : Nat → Prop} {s : State} {args : Array Value} (h : va_Zq C n d A s s.heap) : (Cond.isRef (.static C n d)).before args s = true := by
  rcases h with h | ⟨t, h⟩
  · exact vx_isRef h rfl
  · exact vx_isRef h rfl
/-- the same frame, seen from here: as if the method were called anew in this heap -/
theorem vx_rebase {T : State} (X : Stand p l e R s m args below meth c T locs cells slots) {R' : Room} (hf : R'.frames ≤ R.frames) (hl : R'.locals ≤ R.locals) (hc : cells + R'.cells ≤ R.cells) (hs : slots + R'.slots ≤ R.slots) :
    Stand p l e R' ((T.setVm s.vm).setFrames (.invoking m args :: below)) m args below meth c T [] 0 0 := by
  have htop : (T.setVm s.vm).topJava?.isSome := X.here.top
  have hF : ((T.setVm s.vm).setFrames (.invoking m args :: below)).frames = .invoking m args :: below := State.frames_setFrames _ (State.cur_lt_of_top htop)
  obtain ⟨g₀, hg0⟩ := Option.isSome_iff_exists.mp htop
  obtain ⟨r, hr⟩ := State.topJava?_eq_some.mp hg0
  have hl9 : e.platform.stackLimits (T.setVm s.vm).me = e.platform.stackLimits s.me := X.limits
  have hb9 : (T.setVm s.vm).me.stackBytes = s.me.stackBytes := X.bytes
  refine ⟨X.admits, X.cas, X.clock, hF, ?_, X.hears, X.method, X.code, X.here, X.tail, X.warmed, ?_, ?_, ?_⟩
  · have h := X.room
    have hU : ((T.setVm s.vm).setFrames (.invoking m args :: below)).localsInUse = s.localsInUse := by
      rw [State.localsInUse_invoking hF (meth := meth) (c := c) X.method X.code, State.localsInUse_invoking X.frames X.method X.code]
    simp only [State.hasRoom, Bool.and_eq_true, decide_eq_true_eq] at h ⊢
    obtain ⟨⟨⟨⟨h1, h2, h3, h4, h5, h6⟩, h7⟩, h8⟩, h9⟩ := h
    rw [X.frames, List.length_cons] at h2 h3
    have q1 := X.heapSize
    have q2 := X.used
    simp only [hF, hU, List.length_cons, State.stackLimits_setFrames, State.stackBytes_setFrames, hl9, hb9]
    refine ⟨⟨⟨⟨by omega, by omega, by omega, by omega, by omega, h6⟩, ?_⟩, ?_⟩, X.book⟩
    · show T.heap.size + R'.cells ≤ e.platform.maxCells
      omega
    · show T.slotsUsed + R'.slots ≤ e.platform.maxSlots
      omega
  · rw [State.stackLimits_setFrames]; rfl
  · rw [State.stackBytes_setFrames]; rfl
  · refine ⟨?_, Nat.le_refl _, Nat.le_refl _, ?_, ?_, fun a c9 h9 => ⟨c9, h9, rfl, rfl, fun _ _ => rfl⟩⟩
    · obtain ⟨t, ht, -⟩ := State.frames_cons hr
      show T.setVm s.vm = { ((T.setVm s.vm).setFrames (.invoking m args :: below)).setFrames (T.setVm s.vm).frames with heap := T.heap, slotsUsed := T.slotsUsed }
      rw [State.setFrames_setFrames, State.setFrames_self ht]
      rfl
    · show T.slotsUsed = T.slotsUsed + ((T.heap.toList.drop T.heap.size).map (·.slots.size)).sum
      rw [List.drop_eq_nil_of_le (Nat.le_of_eq Array.length_toList)]
      rfl
    · show ((T.heap.toList.drop T.heap.size).map (·.slots.size)).sum ≤ 0
      rw [List.drop_eq_nil_of_le (Nat.le_of_eq Array.length_toList)]
      exact Nat.le_refl _
/-- 'throw new E()': new; dup; invokespecial; athrow -/
theorem vx_throw0 {cc : ByteArray} {pc : Nat} (hexec : p.tables.exec = Jvm.exec) (hb : c.code = cc) (hl : l.stackTraces = false) {own cls : String} {names : List String} {ik ic mc ms : Nat} {A : Nat → Prop}
    (hown : s.vm.findClass own = some m.cls) (hcls : Bundle.fit cls = true) (hnames : ∀ n ∈ names, Bundle.fit n = true)
    (hk : (Cond.classLink own ik cls).before args s = true) (hini : (Cond.initialized cls).before args s = true) (hat : ∀ w ∈ vx_at0 own ic cls names, w.before args s = true)
    (hgood : ∀ w ∈ Cond.classLink own ik cls :: Cond.initialized cls :: vx_at0 own ic cls names, vx_ot w = true)
    (hU : vx_Zq Bundle.tN "UNASSIGNED_STACK" Bundle.steD A s s.heap) (hN : vx_Zq Bundle.tN "SUPPRESSED_SENTINEL" Bundle.listD A s s.heap) (hS : va_S A s.heap H locs) (hsize : ls.size = c.maxLocals)
    (d0 : decode cc pc = .ok (.new ik, 3)) (d3 : decode cc (pc + 3) = .ok (.dup, 1)) (d4 : decode cc (pc + 4) = .ok (.invokespecial ic, 3)) (d7 : decode cc (pc + 7) = .ok (.athrow, 1))
    (hout : ∀ x ∈ c.exceptionTable.toList, covers x (pc + 7) = false)
    (hRframes : names.length + 3 < R.frames) (hRlocals : (rest.map fun v => v.category).sum + (13 * (names.length + 1) + 42) ≤ R.locals) (hRcells : cells + 1 ≤ R.cells) (hRslots : slots + 6 ≤ R.slots) (hlocks : meth.locks = false)
    (hx : ∀ t : State, s.vm.Alike t.vm → H.size ≤ t.heap.size → (∀ q : Nat, q < H.size → t.heap[q]? = H[q]?) → XC cls s t)
    (hf : ∀ z ∈ locs, free z.base) (hc : cells + 1 ≤ mc) (hs : slots + 6 ≤ ms) :
    W p l e R s m args below meth c H locs cells slots (vx_MQ below Qc XC args s mc ms free) (F0 m pc ls rest) := by
  intro T hT X
  have htr : e.platform.stackTraces = false := (show e.platform.stackTraces = l.stackTraces by rw [X.admits.platform]).trans hl
  have Y := vx_rebase X (R' := { frames := R.frames, locals := R.locals, cells := 1, slots := 6 }) (Nat.le_refl _) (Nat.le_refl _) hRcells hRslots
  obtain ⟨s', hA⟩ : ∃ z, z = (T.setVm s.vm).setFrames (.invoking m args :: below) := ⟨_, rfl⟩
  rw [← hA] at Y
  have hvm : s'.vm = s.vm := by rw [hA]; rfl
  have hhp : s'.heap = H := by rw [hA]; exact hT
  have hW0 : s.WarmedH s'.vm := by rw [hvm]; exact State.WarmedH.refl s
  have hat' : ∀ w ∈ vx_at0 own ic cls names, w.before args s' = true := fun w hw => vx_ot_at hW0 hvm.symm (hgood w (List.mem_cons_of_mem _ (List.mem_cons_of_mem _ hw))) (hat w hw)
  have hk' : (Cond.classLink own ik cls).before args s' = true := vx_ot_at hW0 hvm.symm (hgood _ List.mem_cons_self) hk
  have hini' : (Cond.initialized cls).before args s' = true := vx_ot_at hW0 hvm.symm (hgood _ (List.mem_cons_of_mem _ List.mem_cons_self)) hini
  have hU' : vx_Zq Bundle.tN "UNASSIGNED_STACK" Bundle.steD A s' s'.heap := by rw [hhp]; exact vx_Zq.moved hW0.alike (hU.kept hS.2.1)
  have hN' : vx_Zq Bundle.tN "SUPPRESSED_SENTINEL" Bundle.listD A s' s'.heap := by rw [hhp]; exact vx_Zq.moved hW0.alike (hN.kept hS.2.1)
  have h : ∀ w ∈ Bundle.ownAtoms0 own ic cls names, w.before args s' = true := vx_own hat' (vx_isRefq hU'.1) (vx_isRefq hN'.1) hU'.2.word hN'.2.word
  have hown' : s'.vm.findClass own = some m.cls := by rw [hvm]; exact hown
  have hins : (Cond.instantiable cls 6).before args s' = true := h _ (by simp [Bundle.ownAtoms0])
  obtain ⟨vm₁, cX, kX, hfX, hkX, -, -, X₁, st1⟩ := Y.newCold hexec (own := own) (C := cls) (index := ik) (n := 6) hown' hk' hins hini'
    (g := F0 m pc ls rest) rfl (by rw [hb]; exact d0) (Nat.le_refl _) (Nat.le_refl _)
  generalize hT1 : (T.setVm vm₁).pushCell { cls := cX, slots := kX.instanceTypes.map defaultValue, vm := .none } = T1 at X₁ st1
  have hcat : (Value.ref T.heap.size).category = 1 := rfl
  have hcellA : T1.heap[T.heap.size]? = some (freshCell cX kX) := by rw [← hT1]; exact State.heap_pushCell_size _ _
  have d3' : decode c.code (pc + 3) = .ok (.dup, 1) := by rw [hb]; exact d3
  obtain ⟨U, hsteps, hrun, hend, hW, hsame, ce, hce, hO⟩ := X₁.ctorThrow0 hexec htr (own := own) (cls := cls) (names := names) (ic := ic) hown' hcls hnames h (fun x hx => nomatch hx) hfX hkX hcellA (by rw [hhp, hT]; exact Nat.le_refl _)
    (g := { method := m, pc := pc + 4, locals := ls, stack := .ref T.heap.size :: .ref T.heap.size :: rest, locked := none }) rfl hsize rfl rfl (rest := rest) rfl
    (by rw [hb]; exact d4) (by rw [hb]; exact d7) hout hRframes (by simp only [List.map_cons, List.sum_cons, hcat]; omega) hlocks
  obtain ⟨f1, f2⟩ := vx_frame hsame
  rw [hhp] at f1 f2
  have hWs : s.WarmedH U.vm := State.WarmedH.trans hW0 hW
  have hcl : s.vm.findClass cls = some ce.cls := by
    have h9 := hO.cls
    rw [hvm] at h9
    exact h9
  have hall : s.sameButNew ({ U with vm := s.vm } : State) locs mc ms := by
    subst hA
    obtain ⟨e1, e2⟩ := hsame
    rw [State.setFrames_setFrames] at e1
    have h2 : (T.setVm s.vm).sameButNew ({ U with vm := s.vm } : State) [] (0 + 1) (0 + 6) := ⟨e1, e2⟩
    have h3 := X.same.trans h2
    rw [List.append_nil] at h3
    exact h3.mono hc hs
  refine ⟨U, ?_, .threw T.heap.size, hrun, hend, Or.inr ⟨T.heap.size, rfl, cls, ce, locs, hx U hWs.alike f1 (fun q hq => f2 q hq (fun z hz => nomatch hz)), hce, hO.vm, hcl, hWs, hall, hf⟩⟩
  refine st1 _ ?_
  show Steps p.tables e below (T1.setTop { method := m, pc := pc + 3, locals := ls, stack := .ref T.heap.size :: rest, locked := none }) _
  jvm_step X₁.here [X₁.here.top, hexec, d3', Value.category]
  exact hsteps
/-- 'throw new E("text")': new; dup; ldc; invokespecial; athrow -/
theorem vx_throwS {cc : ByteArray} {pc : Nat} (hexec : p.tables.exec = Jvm.exec) (hb : c.code = cc) (hl : l.stackTraces = false) {own cls text : String} {names : List String} {ik is ic mc ms sa : Nat} {A : Nat → Prop}
    (hown : s.vm.findClass own = some m.cls) (hcls : Bundle.fit cls = true) (hnames : ∀ n ∈ names, Bundle.fit n = true)
    (hk : (Cond.classLink own ik cls).before args s = true) (hini : (Cond.initialized cls).before args s = true) (hstr : vk_R own is text sa s) (hat : ∀ w ∈ vx_atS own ic cls names, w.before args s = true)
    (hgood : ∀ w ∈ Cond.classLink own ik cls :: Cond.initialized cls :: vx_atS own ic cls names, vx_ot w = true)
    (hU : vx_Zq Bundle.tN "UNASSIGNED_STACK" Bundle.steD A s s.heap) (hN : vx_Zq Bundle.tN "SUPPRESSED_SENTINEL" Bundle.listD A s s.heap) (hS : va_S A s.heap H locs) (hsize : ls.size = c.maxLocals)
    (d0 : decode cc pc = .ok (.new ik, 3)) (d3 : decode cc (pc + 3) = .ok (.dup, 1)) (d4 : decode cc (pc + 4) = .ok (.ldc is, 2)) (d6 : decode cc (pc + 6) = .ok (.invokespecial ic, 3)) (d9 : decode cc (pc + 9) = .ok (.athrow, 1))
    (hout : ∀ x ∈ c.exceptionTable.toList, covers x (pc + 9) = false)
    (hRframes : names.length + 3 < R.frames) (hRlocals : (rest.map fun v => v.category).sum + (13 * (names.length + 1) + 43) ≤ R.locals) (hRcells : cells + 1 ≤ R.cells) (hRslots : slots + 6 ≤ R.slots) (hlocks : meth.locks = false)
    (hx : ∀ t : State, s.vm.Alike t.vm → H.size ≤ t.heap.size → (∀ q : Nat, q < H.size → t.heap[q]? = H[q]?) → XC cls s t)
    (hf : ∀ z ∈ locs, free z.base) (hc : cells + 1 ≤ mc) (hs : slots + 6 ≤ ms) :
    W p l e R s m args below meth c H locs cells slots (vx_MQ below Qc XC args s mc ms free) (F0 m pc ls rest) := by
  intro T hT X
  have htr : e.platform.stackTraces = false := (show e.platform.stackTraces = l.stackTraces by rw [X.admits.platform]).trans hl
  have Y := vx_rebase X (R' := { frames := R.frames, locals := R.locals, cells := 1, slots := 6 }) (Nat.le_refl _) (Nat.le_refl _) hRcells hRslots
  obtain ⟨s', hA⟩ : ∃ z, z = (T.setVm s.vm).setFrames (.invoking m args :: below) := ⟨_, rfl⟩
  rw [← hA] at Y
  have hvm : s'.vm = s.vm := by rw [hA]; rfl
  have hhp : s'.heap = H := by rw [hA]; exact hT
  have hW0 : s.WarmedH s'.vm := by rw [hvm]; exact State.WarmedH.refl s
  have hat' : ∀ w ∈ vx_atS own ic cls names, w.before args s' = true := fun w hw => vx_ot_at hW0 hvm.symm (hgood w (List.mem_cons_of_mem _ (List.mem_cons_of_mem _ hw))) (hat w hw)
  have hk' : (Cond.classLink own ik cls).before args s' = true := vx_ot_at hW0 hvm.symm (hgood _ List.mem_cons_self) hk
  have hini' : (Cond.initialized cls).before args s' = true := vx_ot_at hW0 hvm.symm (hgood _ (List.mem_cons_of_mem _ List.mem_cons_self)) hini
  have hU' : vx_Zq Bundle.tN "UNASSIGNED_STACK" Bundle.steD A s' s'.heap := by rw [hhp]; exact vx_Zq.moved hW0.alike (hU.kept hS.2.1)
  have hN' : vx_Zq Bundle.tN "SUPPRESSED_SENTINEL" Bundle.listD A s' s'.heap := by rw [hhp]; exact vx_Zq.moved hW0.alike (hN.kept hS.2.1)
  have h : ∀ w ∈ Bundle.ownAtoms own ic cls names, w.before args s' = true := vx_own hat' (vx_isRefq hU'.1) (vx_isRefq hN'.1) hU'.2.word hN'.2.word
  have hown' : s'.vm.findClass own = some m.cls := by rw [hvm]; exact hown
  have hins : (Cond.instantiable cls 6).before args s' = true := h _ (by simp [Bundle.ownAtoms])
  obtain ⟨vm₁, cX, kX, hfX, hkX, -, -, X₁, st1⟩ := Y.newCold hexec (own := own) (C := cls) (index := ik) (n := 6) hown' hk' hins hini'
    (g := F0 m pc ls rest) rfl (by rw [hb]; exact d0) (Nat.le_refl _) (Nat.le_refl _)
  generalize hT1 : (T.setVm vm₁).pushCell { cls := cX, slots := kX.instanceTypes.map defaultValue, vm := .none } = T1 at X₁ st1
  have hcat : (Value.ref T.heap.size).category = 1 := rfl
  have hcellA : T1.heap[T.heap.size]? = some (freshCell cX kX) := by rw [← hT1]; exact State.heap_pushCell_size _ _
  have d3' : decode c.code (pc + 3) = .ok (.dup, 1) := by rw [hb]; exact d3
  have d4' : decode c.code (pc + 4) = .ok (.ldc is, 2) := by rw [hb]; exact d4
  have hstr' : vk_R own is text sa s' := vk_R.warm hW0 hstr
  obtain ⟨U, hsteps, hrun, hend, hW, hsame, ce, hce, hO⟩ := X₁.ctorThrowS hexec htr (own := own) (cls := cls) (names := names) (ic := ic) hown' hcls hnames h (fun x hx => nomatch hx) hfX hkX hcellA (by rw [hhp, hT]; exact Nat.le_refl _) (msg := .ref sa) rfl
    (g := { method := m, pc := pc + 6, locals := ls, stack := .ref sa :: .ref T.heap.size :: .ref T.heap.size :: rest, locked := none }) rfl hsize rfl rfl (rest := rest) rfl
    (by rw [hb]; exact d6) (by rw [hb]; exact d9) hout hRframes (by simp only [List.map_cons, List.sum_cons, hcat]; omega) hlocks
  obtain ⟨f1, f2⟩ := vx_frame hsame
  rw [hhp] at f1 f2
  have hWs : s.WarmedH U.vm := State.WarmedH.trans hW0 hW
  have hcl : s.vm.findClass cls = some ce.cls := by
    have h9 := hO.cls
    rw [hvm] at h9
    exact h9
  have hall : s.sameButNew ({ U with vm := s.vm } : State) locs mc ms := by
    subst hA
    obtain ⟨e1, e2⟩ := hsame
    rw [State.setFrames_setFrames] at e1
    have h2 : (T.setVm s.vm).sameButNew ({ U with vm := s.vm } : State) [] (0 + 1) (0 + 6) := ⟨e1, e2⟩
    have h3 := X.same.trans h2
    rw [List.append_nil] at h3
    exact h3.mono hc hs
  refine ⟨U, ?_, .threw T.heap.size, hrun, hend, Or.inr ⟨T.heap.size, rfl, cls, ce, locs, hx U hWs.alike f1 (fun q hq => f2 q hq (fun z hz => nomatch hz)), hce, hO.vm, hcl, hWs, hall, hf⟩⟩
  refine st1 _ ?_
  show Steps p.tables e below (T1.setTop { method := m, pc := pc + 3, locals := ls, stack := .ref T.heap.size :: rest, locked := none }) _
  jvm_step X₁.here [X₁.here.top, hexec, d3', Value.category]
  exact X₁.ldcString hexec (own := own) (text := text) (index := is) (a := sa) hown' hstr'.1 hstr'.2
    (g := { method := m, pc := pc + 4, locals := ls, stack := .ref T.heap.size :: .ref T.heap.size :: rest, locked := none }) rfl d4' _ hsteps
/-- 'throw new E("text")', the text by a wide index -/
theorem vx_throwSW {cc : ByteArray} {pc : Nat} (hexec : p.tables.exec = Jvm.exec) (hb : c.code = cc) (hl : l.stackTraces = false) {own cls text : String} {names : List String} {ik is ic mc ms sa : Nat} {A : Nat → Prop}
    (hown : s.vm.findClass own = some m.cls) (hcls : Bundle.fit cls = true) (hnames : ∀ n ∈ names, Bundle.fit n = true)
    (hk : (Cond.classLink own ik cls).before args s = true) (hini : (Cond.initialized cls).before args s = true) (hstr : vk_R own is text sa s) (hat : ∀ w ∈ vx_atS own ic cls names, w.before args s = true)
    (hgood : ∀ w ∈ Cond.classLink own ik cls :: Cond.initialized cls :: vx_atS own ic cls names, vx_ot w = true)
    (hU : vx_Zq Bundle.tN "UNASSIGNED_STACK" Bundle.steD A s s.heap) (hN : vx_Zq Bundle.tN "SUPPRESSED_SENTINEL" Bundle.listD A s s.heap) (hS : va_S A s.heap H locs) (hsize : ls.size = c.maxLocals)
    (d0 : decode cc pc = .ok (.new ik, 3)) (d3 : decode cc (pc + 3) = .ok (.dup, 1)) (d4 : decode cc (pc + 4) = .ok (.ldc_w is, 3)) (d7 : decode cc (pc + 7) = .ok (.invokespecial ic, 3)) (d10 : decode cc (pc + 10) = .ok (.athrow, 1))
    (hout : ∀ x ∈ c.exceptionTable.toList, covers x (pc + 10) = false)
    (hRframes : names.length + 3 < R.frames) (hRlocals : (rest.map fun v => v.category).sum + (13 * (names.length + 1) + 43) ≤ R.locals) (hRcells : cells + 1 ≤ R.cells) (hRslots : slots + 6 ≤ R.slots) (hlocks : meth.locks = false)
    (hx : ∀ t : State, s.vm.Alike t.vm → H.size ≤ t.heap.size → (∀ q : Nat, q < H.size → t.heap[q]? = H[q]?) → XC cls s t)
    (hf : ∀ z ∈ locs, free z.base) (hc : cells + 1 ≤ mc) (hs : slots + 6 ≤ ms) :
    W p l e R s m args below meth c H locs cells slots (vx_MQ below Qc XC args s mc ms free) (F0 m pc ls rest) := by
  intro T hT X
  have htr : e.platform.stackTraces = false := (show e.platform.stackTraces = l.stackTraces by rw [X.admits.platform]).trans hl
  have Y := vx_rebase X (R' := { frames := R.frames, locals := R.locals, cells := 1, slots := 6 }) (Nat.le_refl _) (Nat.le_refl _) hRcells hRslots
  obtain ⟨s', hA⟩ : ∃ z, z = (T.setVm s.vm).setFrames (.invoking m args :: below) := ⟨_, rfl⟩
  rw [← hA] at Y
  have hvm : s'.vm = s.vm := by rw [hA]; rfl
  have hhp : s'.heap = H := by rw [hA]; exact hT
  have hW0 : s.WarmedH s'.vm := by rw [hvm]; exact State.WarmedH.refl s
  have hat' : ∀ w ∈ vx_atS own ic cls names, w.before args s' = true := fun w hw => vx_ot_at hW0 hvm.symm (hgood w (List.mem_cons_of_mem _ (List.mem_cons_of_mem _ hw))) (hat w hw)
  have hk' : (Cond.classLink own ik cls).before args s' = true := vx_ot_at hW0 hvm.symm (hgood _ List.mem_cons_self) hk
  have hini' : (Cond.initialized cls).before args s' = true := vx_ot_at hW0 hvm.symm (hgood _ (List.mem_cons_of_mem _ List.mem_cons_self)) hini
  have hU' : vx_Zq Bundle.tN "UNASSIGNED_STACK" Bundle.steD A s' s'.heap := by rw [hhp]; exact vx_Zq.moved hW0.alike (hU.kept hS.2.1)
  have hN' : vx_Zq Bundle.tN "SUPPRESSED_SENTINEL" Bundle.listD A s' s'.heap := by rw [hhp]; exact vx_Zq.moved hW0.alike (hN.kept hS.2.1)
  have h : ∀ w ∈ Bundle.ownAtoms own ic cls names, w.before args s' = true := vx_own hat' (vx_isRefq hU'.1) (vx_isRefq hN'.1) hU'.2.word hN'.2.word
  have hown' : s'.vm.findClass own = some m.cls := by rw [hvm]; exact hown
  have hins : (Cond.instantiable cls 6).before args s' = true := h _ (by simp [Bundle.ownAtoms])
  obtain ⟨vm₁, cX, kX, hfX, hkX, -, -, X₁, st1⟩ := Y.newCold hexec (own := own) (C := cls) (index := ik) (n := 6) hown' hk' hins hini'
    (g := F0 m pc ls rest) rfl (by rw [hb]; exact d0) (Nat.le_refl _) (Nat.le_refl _)
  generalize hT1 : (T.setVm vm₁).pushCell { cls := cX, slots := kX.instanceTypes.map defaultValue, vm := .none } = T1 at X₁ st1
  have hcat : (Value.ref T.heap.size).category = 1 := rfl
  have hcellA : T1.heap[T.heap.size]? = some (freshCell cX kX) := by rw [← hT1]; exact State.heap_pushCell_size _ _
  have d3' : decode c.code (pc + 3) = .ok (.dup, 1) := by rw [hb]; exact d3
  have d4' : decode c.code (pc + 4) = .ok (.ldc_w is, 3) := by rw [hb]; exact d4
  have hstr' : vk_R own is text sa s' := vk_R.warm hW0 hstr
  obtain ⟨U, hsteps, hrun, hend, hW, hsame, ce, hce, hO⟩ := X₁.ctorThrowS hexec htr (own := own) (cls := cls) (names := names) (ic := ic) hown' hcls hnames h (fun x hx => nomatch hx) hfX hkX hcellA (by rw [hhp, hT]; exact Nat.le_refl _) (msg := .ref sa) rfl
    (g := { method := m, pc := pc + 7, locals := ls, stack := .ref sa :: .ref T.heap.size :: .ref T.heap.size :: rest, locked := none }) rfl hsize rfl rfl (rest := rest) rfl
    (by rw [hb]; exact d7) (by rw [hb]; exact d10) hout hRframes (by simp only [List.map_cons, List.sum_cons, hcat]; omega) hlocks
  obtain ⟨f1, f2⟩ := vx_frame hsame
  rw [hhp] at f1 f2
  have hWs : s.WarmedH U.vm := State.WarmedH.trans hW0 hW
  have hcl : s.vm.findClass cls = some ce.cls := by
    have h9 := hO.cls
    rw [hvm] at h9
    exact h9
  have hall : s.sameButNew ({ U with vm := s.vm } : State) locs mc ms := by
    subst hA
    obtain ⟨e1, e2⟩ := hsame
    rw [State.setFrames_setFrames] at e1
    have h2 : (T.setVm s.vm).sameButNew ({ U with vm := s.vm } : State) [] (0 + 1) (0 + 6) := ⟨e1, e2⟩
    have h3 := X.same.trans h2
    rw [List.append_nil] at h3
    exact h3.mono hc hs
  refine ⟨U, ?_, .threw T.heap.size, hrun, hend, Or.inr ⟨T.heap.size, rfl, cls, ce, locs, hx U hWs.alike f1 (fun q hq => f2 q hq (fun z hz => nomatch hz)), hce, hO.vm, hcl, hWs, hall, hf⟩⟩
  refine st1 _ ?_
  show Steps p.tables e below (T1.setTop { method := m, pc := pc + 3, locals := ls, stack := .ref T.heap.size :: rest, locked := none }) _
  jvm_step X₁.here [X₁.here.top, hexec, d3', Value.category]
  exact X₁.ldcStringW hexec (own := own) (text := text) (index := is) (a := sa) hown' hstr'.1 hstr'.2
    (g := { method := m, pc := pc + 4, locals := ls, stack := .ref T.heap.size :: .ref T.heap.size :: rest, locked := none }) rfl d4' _ hsteps
end Ends
section Bodies
variable {l : Launch}
theorem vx_ofW {y : MethodName} {ws ws' : List Cond} {rm : Room} {Pc : Array Value → State → Prop} {Qc : Array Value → State → Outcome → State → Prop} {XC : String → State → State → Prop} {mc ms : Nat} {free : Addr → Prop} {cc : ByteArray} {maxL : Nat} {ret : Option FieldType}
    (hy : plainName y.cls = true) (hw : ws = Cond.code y cc maxL ret :: ws')
    (body : ∀ p e s m args below meth c s₁, BodyLoose p l y (headSpec ws rm) cc maxL ret e s m args below meth c s₁ → c.maxLocals = maxL → (∀ x ∈ c.exceptionTable.toList, False) → Pc args s →
      W p l e (headSpec ws rm).room s m args below meth c s.heap [] 0 0 (vx_MQ below Qc XC args s mc ms free) (entryFrame m args maxL)) : vx_Met l y ws rm Pc Qc XC mc ms free := by
  refine MetFree.of_bodyS (code := cc) (maxLocals := maxL) (ret := ret) hy ?_ ?_
  · intro args s m h hn
    obtain ⟨meth, c, h1, h2, h3, h4, h5, h6, -, -⟩ := Cond.code_spec hn (atoms_spec (ws := ws) h _ (by rw [hw]; exact List.mem_cons_self))
    exact ⟨meth, c, h1, h2, h3, h4, h5, h6⟩
  · intro p e s m args below meth c s₁ B hml hP _
    have hh0 : s₁.heap = s.heap := by rw [B.state]; rfl
    have ht : ∀ x ∈ c.exceptionTable.toList, False := by
      obtain ⟨meth9, c9, h1, h2, -, -, -, -, h7, -⟩ := Cond.code_spec B.named (atoms_spec (ws := ws) B.pre _ (by rw [hw]; exact List.mem_cons_self))
      cases Option.some.inj (h1.symm.trans B.method)
      cases Option.some.inj (h2.symm.trans (Stand.of_body B).code)
      intro x hx
      rw [Array.isEmpty_iff.mp h7] at hx
      cases hx
    obtain ⟨t, a1, o, b1, b2, b3⟩ := body p e s m args below meth c s₁ B hml ht hP s₁ hh0 (Stand.of_body B)
    exact ⟨t, o, a1, b1, b2, b3⟩
/-- the table of a body with handlers -/
theorem vx_table {p : Program} {x y : MethodName} {S : Spec} {cc bytes : ByteArray} {maxL maxL' : Nat} {ret ret' : Option FieldType} {e : Env} {s s₁ : State} {m : MethodId} {args : Array Value} {below : List Frame} {meth : Method} {c : Code} {hh : List (Nat × Nat × Nat × Nat)}
    (B : BodyLoose p l y S cc maxL ret e s m args below meth c s₁) (h : (Cond.codeWith y bytes maxL' ret' hh).before args s = true) : c.exceptionTable.toList = tableOf hh := by
  obtain ⟨m9, meth9, c9, hn9, h1, h2, -, -, h6, -⟩ := Cond.codeWith_spec h
  cases Option.some.inj (hn9.symm.trans B.named)
  cases Option.some.inj (h1.symm.trans B.method)
  cases Option.some.inj (h2.symm.trans (Stand.of_body B).code)
  rw [← h6, table_eq]
end Bodies
end VXA
/-! ===== END ===== -/
/-! ===== BEGIN a static call of a method with an exception table ===== -/
section VXS
variable {p : Program} {l : Launch} {e : Env} {R : Room} {s : State} {m : MethodId} {args : Array Value} {below : List Frame} {meth : Method} {c : Code} {T : State} {H : Heap} {locs : List Loc} {cells slots : Nat}
abbrev vx_CSW (R : Room) (s : State) (args : Array Value) (own : String) (index : Nat) (y : MethodName) (bytes : ByteArray) (maxL : Nat) (ret : Option FieldType) (hh : List (Nat × Nat × Nat × Nat)) (ws : List Cond) (rm : Room) (mc ms n : Nat) : Prop :=
  (rm.cells = mc ∧ rm.slots = ms ∧ rm.frames + 1 ≤ R.frames ∧ 8 + (maxL + 11) + rm.locals ≤ R.locals ∧ (∀ w ∈ ws, ∀ (a' : Array Value) (U : State), s.WarmedH U.vm → w.before a' U = true) ∧ Cond.codeWith y bytes maxL ret hh ∈ ws) ∧
  (Cond.codeWith y bytes maxL ret hh).before args s = true ∧ (Cond.initialized y.cls).before args s = true ∧ (y.cls ≠ "java/lang/invoke/MethodHandle" ∧ y.cls ≠ "java/lang/invoke/VarHandle") ∧
  (∀ sig, parseMethodDescriptor y.desc = some sig → n = sig.parameters.length) ∧ (Cond.methodLink own index y).before args s = true ∧ (Cond.static y).before args s = true
theorem vx_cwSW {own : String} {index maxL mc ms : Nat} {y : MethodName} {bytes : ByteArray} {ret : Option FieldType} {hh : List (Nat × Nat × Nat × Nat)} {Ts ws ws' : List Cond} {rm : Room} (n : Nat) (ht : ∀ w ∈ Ts, w.before args s = true) (hT : GoodIn Ts (va_wsS own index y ws)) (hw : ws = Cond.codeWith y bytes maxL ret hh :: ws') (hrc : rm.cells = mc) (hrs : rm.slots = ms)
    (hd : y.cls ≠ "java/lang/invoke/MethodHandle" ∧ y.cls ≠ "java/lang/invoke/VarHandle" ∧ (parseMethodDescriptor y.desc).map (fun d => d.parameters.length) = some n) (hR : rm.frames + 1 ≤ R.frames ∧ 8 + (maxL + 11) + rm.locals ≤ R.locals) :
    vx_CSW R s args own index y bytes maxL ret hh ws rm mc ms n := by
  have ok : ∀ w ∈ va_wsS own index y ws, w.before args s = true := fun w h => ht w (hT w h).1
  have hG : GoodIn Ts ws := fun w h => hT w (by unfold va_wsS; exact List.mem_append_right _ h)
  have hc : Cond.codeWith y bytes maxL ret hh ∈ ws := by rw [hw]; exact List.mem_cons_self
  refine ⟨⟨hrc, hrs, hR.1, hR.2, pay_in ht hG, hc⟩, ht _ (hG _ hc).1, ok _ (by simp [va_wsS]), ⟨hd.1, hd.2.1⟩, fun sig h => ?_, ok _ (by simp [va_wsS]), ok _ (by simp [va_wsS])⟩
  have h2 := hd.2.2
  rw [h] at h2
  exact (Option.some.inj h2).symm
theorem vx_callSW (X : Stand p l e R s m args below meth c T locs cells slots) (hexec : p.tables.exec = Jvm.exec) {own : String} {index : Nat} {y : MethodName} {bytes : ByteArray} {maxL : Nat} {ret : Option FieldType} {hh : List (Nat × Nat × Nat × Nat)}
    (hown : s.vm.findClass own = some m.cls) (hlink : (Cond.methodLink own index y).before args s = true) (hstat : (Cond.static y).before args s = true) (hinit : (Cond.initialized y.cls).before args s = true)
    (hcode : (Cond.codeWith y bytes maxL ret hh).before args s = true) (hy : y.cls ≠ "java/lang/invoke/MethodHandle" ∧ y.cls ≠ "java/lang/invoke/VarHandle")
    {W9 : Nat} {Pre : Pt → Array Value → Prop} {Post : Pt → Array Value → Option Value → Pt → Prop} (hK : Back l R p e below s args y 3 W9 Pre Post)
    {g : JFrame} (hg : g.method = m) (hsize : g.locals.size = c.maxLocals) {argsL rest : List Value} (hlen : ∀ sig, parseMethodDescriptor y.desc = some sig → argsL.length = sig.parameters.length)
    (hstack : g.stack = argsL.reverse ++ rest) (hW : 2 * g.monitorRoom + (rest.map fun v => v.category).sum ≤ W9) (hdg : decode c.code g.pc = .ok (.invokestatic index, 3))
    (hpre : ∀ vm₁, s.WarmedH vm₁ → Pre ⟨T.setVm vm₁, locs, cells, slots⟩ argsL.toArray) :
    ∃ (v : Option Value) (vm₁ : Vm) (B : Pt), s.WarmedH vm₁ ∧ Stand p l e R s m args below meth c B.U B.locs B.cells B.slots ∧ Post ⟨T.setVm vm₁, locs, cells, slots⟩ argsL.toArray v B ∧
      ∀ target, Steps p.tables e below (B.U.setTop { g with pc := g.pc + 3, stack := v.toList ++ rest }) target → Steps p.tables e below (T.setTop g) target := by
  obtain ⟨mk, methM, cM, hnamed, hmethM, -, -, -, -, -, -, hsigM⟩ := Cond.codeWith_spec hcode
  have hstatic : methM.isStatic = true := Cond.static_spec hnamed hmethM hstat
  obtain ⟨kP, hkP, -⟩ := className_of_methodNamed hnamed
  have hinitP : kP.init = .initialized := Cond.initialized_spec (findClass_of_methodNamed hnamed) hkP hinit
  obtain ⟨vm₁, X₁, hstep₁⟩ := X.invokestatic hexec hown hlink hnamed hmethM hstatic hkP hinitP hy (g := g) hg (argsL := argsL) (rest := rest) (hlen _ hsigM) hstack hdg
  obtain ⟨v, B, X', hpost, hsteps⟩ := hK m meth c ⟨T.setVm vm₁, locs, cells, slots⟩ { g with stack := rest } (.invokestatic index) mk argsL.toArray X₁ hg hsize hdg hW (X₁.named hnamed) (hpre vm₁ X₁.warmed)
  exact ⟨v, vm₁, B, X₁.warmed, X', hpost, fun target h => hstep₁ _ fun acts => by rw [doInvoke_state]; exact hsteps.trans h⟩
theorem vx_runSW {y : MethodName} {bytes cc : ByteArray} {maxL nL mc ms n index : Nat} {ret : Option FieldType} {hh : List (Nat × Nat × Nat × Nat)} {ws : List Cond} {rm : Room} {Pc : Array Value → State → Prop} {Qc : Array Value → State → Outcome → State → Prop} {free : Addr → Prop} {Ts : List Cond} {own : String} {As rest : List Value} {g : JFrame}
    (S : CallFix p m c cc nL s args Ts own) (hM : Met l y ws rm Pc Qc mc ms free) (cw : vx_CSW R s args own index y bytes maxL ret hh ws rm mc ms n) (hp : PreS s H Pc As)
    (hg : g.method = m) (hn : As.length = n) (hsize : g.locals.size = nL) (hstack : g.stack = As.reverse ++ rest) (hW : 2 * g.monitorRoom + (rest.map fun v => v.category).sum ≤ 8) (hdg : decode cc g.pc = .ok (.invokestatic index, 3)) (hf : cells + mc ≤ R.cells ∧ slots + ms ≤ R.slots) :
    va_Run p l e R s m args below meth c H locs cells slots mc ms g rest (Qc As.toArray) (free) := by
  obtain ⟨⟨hrc, hrs, hfr, hlo, hws, hcw⟩, hcode, hini, hy, hlen, hl, hstt⟩ := cw
  have hK : Back l R p e below s args y 3 8 (PreOf R mc ms Pc) (PostOf Qc mc ms free) := va_backW (hh := hh) (bytes := bytes) (maxL := maxL) (ret := ret) hM hp.1 hrc hrs hfr hlo hws hcw (fun a' U hW => word_at hW (Or.inl (by first | rfl | simp [Cond.onTables, Cond.keeps, Cond.steady])) hini)
  obtain ⟨hx, hb, hml, ho, -⟩ := S
  intro T hT X
  obtain ⟨v, vm₁, ⟨U', l2, c2, s2⟩, hW₁, X', ⟨g', mk, t, L, e1, e2, hq, h1, hL, h2, h3⟩, st⟩ := vx_callSW X hx (hh := hh) (bytes := bytes) (maxL := maxL) (ret := ret) ho hl hstt hini hcode hy hK hg (hsize.trans hml.symm) (argsL := As) (rest := rest) (fun sig h => hn.trans (hlen sig h)) hstack hW (by rw [hb]; exact hdg)
    (fun vm₁ hW₁ => ⟨hf.1, hf.2, hp.2 (T.setVm vm₁) hT hW₁⟩)
  dsimp only [Pt.U, Pt.locs, Pt.cells, Pt.slots] at X' e1 e2 h1 h2 h3 st
  subst h1; subst h2; subst h3
  exact ⟨v, (T.setVm vm₁).calling g' mk As.toArray, t, U', L, hT, X', hL, e1, e2, hq, st⟩
/-- not caught here, past rows that name other classes: it goes on to the caller -/
theorem vx_outP {p : Program} {l : Launch} {e : Env} {R : Room} {s : State} {m : MethodId} {args : Array Value} {below : List Frame} {meth : Method} {c : Code} {H : Heap} {locs : List Loc} {cells slots : Nat} {free : Addr → Prop} {ls : Array Slot} {rest : List Value} {Qc : Array Value → State → Outcome → State → Prop} {XC : String → State → State → Prop}
    {pc : Nat} {own E : String} {ce : Cell} {q : Addr} {mc ms : Nat} (hown : s.vm.findClass own = some m.cls) (hlocks : meth.locks = false)
    (hpass : ∀ z ∈ c.exceptionTable.toList, covers z pc = false ∨ (z.catchType ≠ 0 ∧ ∃ nm : String, (Cond.classLink own z.catchType nm).before args s = true ∧ va_Nc E nm s)) (hcell : H[q]? = some ce) (hv : ce.vm = .none) (hcl : s.vm.findClass E = some ce.cls)
    (hx : ∀ t : State, t.heap = H → s.vm.Alike t.vm → XC E s t) (hf : ∀ z ∈ locs, free z.base) (hc : cells ≤ mc) (hs : slots ≤ ms) :
    vx_W p l e R s m args below meth c H locs cells slots (vx_MQ below Qc XC args s mc ms free) (F0 m pc ls rest) q := by
  intro T hT X
  have hpl : e.platform.magicAccessors = ({} : Platform).magicAccessors := by rw [X.admits.platform]
  obtain ⟨vm', hW', X', st⟩ := X.outThrough hlocks q (g := F0 m pc ls rest) rfl rfl rfl (cell := ce) (by rw [hT]; exact hcell) (by rw [hv]; rfl)
    (by obtain ⟨k9, h9, -⟩ := Vm.findClass_spec hcl; exact ⟨k9, h9⟩) (fun z hz => by
      rcases hpass z hz with h | ⟨hz0, nm, hl1, hn1⟩
      · exact Or.inl h
      · obtain ⟨c6, hc6, hcl6⟩ := Cond.classLink_spec hown hl1 e.platform hpl
        obtain ⟨a8, b8, h1, h2, h3⟩ := hn1
        cases Option.some.inj (h1.symm.trans hcl)
        cases Option.some.inj (h2.symm.trans hc6)
        exact Or.inr ⟨hz0, _, hcl6, h3⟩)
  obtain ⟨g₀, hfr⟩ := X'.frames_eq
  have hcell9 : ((T.setVm vm').setFrames (.throwing q :: below)).heap[q]? = some ce := by
    show T.heap[q]? = some ce
    rw [hT]; exact hcell
  have hend : Ended ((T.setVm vm').setFrames (.throwing q :: below)) below (.threw q) := State.frames_setFrames _ (State.cur_lt_of_frames hfr)
  refine ⟨(T.setVm vm').setFrames (.throwing q :: below), ?_, .threw q, X'.here.running, hend, Or.inr ⟨q, rfl, E, ce, locs, hx _ hT (X'.ends _).1.alike, hcell9, hv, hcl, (X'.ends _).1, (X'.ends _).2.mono hc hs, hf⟩⟩
  rw [X.pushThrowing_eq]
  exact st
/-- a thing of a world lies in the heap -/
theorem vx_lt {D : va_G} {cl : List vw_C} {ws : va_W} {H1 : Heap} (h : va_P D cl ws H1) {k : Nat} {q : Nat × va_E} (hk : ws[k]? = some q) : q.1 < H1.size := (h k q hk).lt
end VXS
/-! ===== END ===== -/
/-! ===== BEGIN methods with a table of their own: called by a name, returning or throwing ===== -/
section VXH
/-! vx_backW, vx_callVX, vx_callSX, vx_callVW, vx_runVW, vx_runVX, vx_runSX, vx_ofWH follow the same proofs as their sisters above (Free/Laws.lean, Shelf42/LK1.lean); vx_outP calls Shelf42/NT130.lean (outThrough). -/
section
variable {l : Launch} {R : Room} {p : Program} {e : Env} {below : List Frame} {s : State} {sargs : Array Value} {y : MethodName} {len W9 : Nat}
theorem vx_backW {ws : List Cond} {rm : Room} {Pc : Array Value → State → Prop} {Qc : Array Value → State → Outcome → State → Prop} {XC : String → State → State → Prop} {mc ms : Nat} {free : Addr → Prop} {bytes : ByteArray} {maxL : Nat} {ret : Option FieldType} {hh : List (Nat × Nat × Nat × Nat)}
    (hM : vx_Met l y ws rm Pc Qc XC mc ms free) (hblind : FrameBlind Pc) (hrc : rm.cells = mc) (hrs : rm.slots = ms)
    (hframes : rm.frames + 1 ≤ R.frames) (hlocals : W9 + (maxL + 11) + rm.locals ≤ R.locals)
    (hws : ∀ w ∈ ws, ∀ a' U, s.WarmedH U.vm → w.before a' U = true) (hcode : Cond.codeWith y bytes maxL ret hh ∈ ws) (hinit : ∀ a' U, s.WarmedH U.vm → (Cond.initialized y.cls).before a' U = true) :
    vx_Back l R p e below s sargs y len W9 (PreOf R mc ms Pc) (PostOf Qc mc ms free) (vx_Post XC mc ms free) := by
  intro m meth c A g ig mk a X hg hsize hdg hW hn hp
  have h1 : (headSpec ws rm).pre.before a A.U = true := atoms_intro fun w hw => hws w hw _ _ X.warmed
  have h2 : (Cond.codeWith y bytes maxL ret hh).before a A.U = true := hws _ hcode _ _ X.warmed
  have h3 : (Cond.initialized y.cls).before a A.U = true := hinit _ _ X.warmed
  have h4 : A.cells + (headSpec ws rm).room.cells ≤ R.cells := by rw [show (headSpec ws rm).room.cells = mc from hrc]; exact hp.1
  have h5 : A.slots + (headSpec ws rm).room.slots ≤ R.slots := by rw [show (headSpec ws rm).room.slots = ms from hrs]; exact hp.2.1
  have hPc : Pc a (A.U.calling g mk a) := hblind _ _ _ _ hp.2.2
  obtain ⟨U, Ls, c0, s0⟩ := A
  dsimp only [Pt.U, Pt.locs, Pt.cells, Pt.slots] at h1 h2 h3 h4 h5 X hn hPc ⊢
  obtain ⟨m9, methY, cY, hn9, hmY, hcY, -, hlY, -⟩ := Cond.codeWith_spec h2
  cases Option.some.inj (hn9.symm.trans hn)
  obtain ⟨kY, hkY, -⟩ := className_of_methodNamed hn
  have hinitY : kY.init = .initialized := Cond.initialized_spec (findClass_of_methodNamed hn) hkY h3
  have h : At U g.method c below := by rw [hg]; exact X.here
  have hlocals9 : W9 + (maxL + 11) + (headSpec ws rm).room.locals ≤ R.locals := hlocals
  have happ : (headSpec ws rm).appliesLoose y e.platform (U.calling g mk a) = true :=
    Spec.appliesLoose_calling (g := g) h hdg hn hkY hinitY
      (X.room_calling (g := g) (R' := (headSpec ws rm).room) hsize hmY hcY hframes (by rw [hlY]; omega) h4 h5) h1
  obtain ⟨mid, hmid⟩ := h.above
  have hfr : (U.setTop g).frames = (.java g :: mid) ++ below := by rw [State.frames_setTop' g h.top, hmid]; rfl
  obtain ⟨o, s₂, hsteps, -, hend, hq⟩ := Steps.callFree hM p X.admits X.cas X.clock (acts := []) hfr happ hPc trivial
  have hq' : vx_Q Qc XC mc ms free a (U.calling g mk a) o s₂ := hq
  rw [State.frames_setTop' g h.top] at hend
  obtain ⟨g₀, hg0⟩ := Option.isSome_iff_exists.mp h.top
  obtain ⟨r, hr⟩ := State.topJava?_eq_some.mp hg0
  have hr' : (({ U with heap := s₂.heap, slotsUsed := s₂.slotsUsed } : State).setVm s₂.vm).frames = .java g₀ :: r := hr
  rcases hq' with ⟨hqc, L, hfe, hL⟩ | ⟨q, rfl, E, ce, L, hx, hce, hcv, hcl, hW₂, hsm, hL⟩
  · obtain ⟨⟨v, rfl⟩, hW₂, e2, q2, q3, q4, q5, q6⟩ := id hfe
    have e3 : s₂ = ({ (U.calling g mk a).setFrames s₂.frames with heap := s₂.heap, slotsUsed := s₂.slotsUsed } : State).setVm s₂.vm := by
      have : s₂ = ({ s₂ with vm := (U.calling g mk a).vm } : State).setVm s₂.vm := rfl
      rw [e2] at this
      exact this
    obtain ⟨c₂, i₂, len₂, hc₂, hd₂, hf₂⟩ := hend
    have hW' : U.WarmedH s₂.vm := hW₂
    have hcc : c₂ = c := by
      have h1 : s₂.code? g.method = U.code? g.method := by
        rw [State.code?_eq, State.code?_eq, hW'.alike.method?]
      exact Option.some.inj (hc₂.symm.trans (h1.trans h.code))
    subst hcc
    have hlen : len₂ = len := by rw [hdg] at hd₂; cases hd₂; rfl
    subst hlen
    have hs₂ : s₂ = (({ U with heap := s₂.heap, slotsUsed := s₂.slotsUsed } : State).setVm s₂.vm).setTop { g with pc := g.pc + len₂, stack := v.toList ++ g.stack } := by
      refine e3.trans ?_
      rw [hf₂, State.calling_eq h.top, State.setFrames_setFrames, State.setTop_of_frames _ hr', hr]
      rfl
    have hsame : U.sameButNew ({ U with heap := s₂.heap, slotsUsed := s₂.slotsUsed } : State) L mc ms := by
      refine ⟨?_, q2, q3, q4, q5, q6⟩
      obtain ⟨t, ht, -⟩ := State.frames_cons hr
      show ({ U with heap := s₂.heap, slotsUsed := s₂.slotsUsed } : State) = { U.setFrames U.frames with heap := s₂.heap, slotsUsed := s₂.slotsUsed }
      rw [State.setFrames_self ht]
    subst hg
    refine Or.inl ⟨v, ⟨(({ U with heap := s₂.heap, slotsUsed := s₂.slotsUsed } : State).setVm s₂.vm), Ls ++ L, c0 + mc, s0 + ms⟩,
      ⟨X.admits, X.cas, X.clock, X.frames, X.room, X.hears, X.method, X.code, (X.here.setHeapUsed s₂.heap s₂.slotsUsed).setVm hW'.alike, X.tail, State.WarmedH.trans X.warmed hW', X.limits, X.bytes, X.same.trans (hsame.setVm s.vm)⟩,
      ⟨g, mk, s₂, L, rfl, rfl, hqc, rfl, hL, rfl, rfl⟩, ?_⟩
    show Steps p.tables e below _ ((({ U with heap := s₂.heap, slotsUsed := s₂.slotsUsed } : State).setVm s₂.vm).setTop { g with pc := g.pc + len₂, stack := v.toList ++ g.stack })
    rw [← hs₂]
    exact hsteps
  · obtain ⟨e2, q2, q3, q4, q5, q6⟩ := id hsm
    have e3 : s₂ = ({ (U.calling g mk a).setFrames s₂.frames with heap := s₂.heap, slotsUsed := s₂.slotsUsed } : State).setVm s₂.vm := by
      have : s₂ = ({ s₂ with vm := (U.calling g mk a).vm } : State).setVm s₂.vm := rfl
      rw [e2] at this
      exact this
    have hf₂ : s₂.frames = .throwing q :: .java g :: U.frames.tail := hend
    have hW' : U.WarmedH s₂.vm := hW₂
    have hs₂ : s₂ = ((({ U with heap := s₂.heap, slotsUsed := s₂.slotsUsed } : State).setVm s₂.vm).setTop g).pushFrame (.throwing q) := by
      refine e3.trans ?_
      rw [hf₂, State.calling_eq h.top, State.setFrames_setFrames, State.pushFrame, State.frames_setTop _ hr', State.setTop_of_frames _ hr', State.setFrames_setFrames, hr]
      rfl
    have hsame : U.sameButNew ({ U with heap := s₂.heap, slotsUsed := s₂.slotsUsed } : State) L mc ms := by
      refine ⟨?_, q2, q3, q4, q5, q6⟩
      obtain ⟨t, ht, -⟩ := State.frames_cons hr
      show ({ U with heap := s₂.heap, slotsUsed := s₂.slotsUsed } : State) = { U.setFrames U.frames with heap := s₂.heap, slotsUsed := s₂.slotsUsed }
      rw [State.setFrames_self ht]
    subst hg
    refine Or.inr ⟨q, ⟨(({ U with heap := s₂.heap, slotsUsed := s₂.slotsUsed } : State).setVm s₂.vm), Ls ++ L, c0 + mc, s0 + ms⟩,
      ⟨X.admits, X.cas, X.clock, X.frames, X.room, X.hears, X.method, X.code, (X.here.setHeapUsed s₂.heap s₂.slotsUsed).setVm hW'.alike, X.tail, State.WarmedH.trans X.warmed hW', X.limits, X.bytes, X.same.trans (hsame.setVm s.vm)⟩,
      ⟨g, mk, s₂, L, E, ce, rfl, rfl, hx, hce, hcv, hcl, rfl, hL, rfl, rfl⟩, ?_⟩
    show Steps p.tables e below _ (((({ U with heap := s₂.heap, slotsUsed := s₂.slotsUsed } : State).setVm s₂.vm).setTop g).pushFrame (.throwing q))
    rw [← hs₂]
    exact hsteps
end
variable {p : Program} {l : Launch} {e : Env} {R : Room} {s : State} {m : MethodId} {args : Array Value} {below : List Frame} {meth : Method} {c : Code} {T : State} {H : Heap} {locs : List Loc} {cells slots : Nat}
theorem vx_callVX (X : Stand p l e R s m args below meth c T locs cells slots) (hexec : p.tables.exec = Jvm.exec) {own C : String} {index : Nat} {y : MethodName} {bytes : ByteArray} {maxL : Nat} {ret : Option FieldType} {hh : List (Nat × Nat × Nat × Nat)}
    (hown : s.vm.findClass own = some m.cls) (hlink : (Cond.methodLink own index y).before args s = true) (hinst : (Cond.instanceMethod y).before args s = true) (hsel : (Cond.selects C y y).before args s = true)
    (hcode : (Cond.codeWith y bytes maxL ret hh).before args s = true) (hy : y.cls ≠ "java/lang/invoke/MethodHandle" ∧ y.cls ≠ "java/lang/invoke/VarHandle")
    {W9 : Nat} {Pre : Pt → Array Value → Prop} {Post : Pt → Array Value → Option Value → Pt → Prop} {PostX : Pt → Array Value → Addr → Pt → Prop} (hK : vx_Back l R p e below s args y 3 W9 Pre Post PostX)
    {b : Addr} {cellB : Cell} (hcell : T.heap[b]? = some cellB) (hobj : cellB.vm.isStatics = false) (hcls : s.vm.findClass C = some cellB.cls)
    {g : JFrame} (hg : g.method = m) (hsize : g.locals.size = c.maxLocals) {argsL rest : List Value} (hlen : ∀ sig, parseMethodDescriptor y.desc = some sig → argsL.length = sig.parameters.length)
    (hstack : g.stack = argsL.reverse ++ .ref b :: rest) (hW : 2 * g.monitorRoom + (rest.map fun v => v.category).sum ≤ W9) (hdg : decode c.code g.pc = .ok (.invokevirtual index, 3))
    (hpre : ∀ vm₁, s.WarmedH vm₁ → Pre ⟨T.setVm vm₁, locs, cells, slots⟩ (Value.ref b :: argsL).toArray) :
    (∃ (v : Option Value) (vm₁ : Vm) (B : Pt), s.WarmedH vm₁ ∧ Stand p l e R s m args below meth c B.U B.locs B.cells B.slots ∧ Post ⟨T.setVm vm₁, locs, cells, slots⟩ (Value.ref b :: argsL).toArray v B ∧
      ∀ target, Steps p.tables e below (B.U.setTop { g with pc := g.pc + 3, stack := v.toList ++ rest }) target → Steps p.tables e below (T.setTop g) target) ∨
    (∃ (q : Addr) (vm₁ : Vm) (B : Pt), s.WarmedH vm₁ ∧ Stand p l e R s m args below meth c B.U B.locs B.cells B.slots ∧ PostX ⟨T.setVm vm₁, locs, cells, slots⟩ (Value.ref b :: argsL).toArray q B ∧
      Steps p.tables e below (T.setTop g) ((B.U.setTop { g with stack := rest }).pushFrame (.throwing q))) := by
  obtain ⟨mk, methM, hnamed, hmethM, hstM, habM⟩ := Cond.instanceMethod_spec hinst
  obtain ⟨m8, methM', cM, hn8, hmethM', -, -, -, -, -, -, hsigM⟩ := Cond.codeWith_spec hcode
  cases Option.some.inj (hn8.symm.trans hnamed)
  cases hmethM.symm.trans hmethM'
  obtain ⟨c2, r2, m2, q1, q2, q3, q4, kP, hkP, hkPi⟩ := Cond.selects_spec hsel
  cases hcls.symm.trans q1
  cases (State.methodFound?_of_named hnamed hy).symm.trans q2
  cases hnamed.symm.trans q3
  have hselP : selectMethod e.platform s.vm cellB.cls mk = .method mk := by rw [Launch.admits_selectMethod X.admits]; exact q4
  obtain ⟨vm₁, X₁, hstep₁⟩ := X.invokevirtual hexec hown hlink hnamed hmethM hstM hkP hkPi hy (a := b) (cell := cellB) hcell
    (fun z h => by rw [h] at hobj; cases hobj) hselP hmethM habM hkP hkPi (g := g) hg (argsL := argsL) (rest := rest) (hlen _ hsigM) hstack hdg
  rcases hK m meth c ⟨T.setVm vm₁, locs, cells, slots⟩ { g with stack := rest } (.invokevirtual index) mk (Value.ref b :: argsL).toArray X₁ hg hsize hdg hW (X₁.named hnamed) (hpre vm₁ X₁.warmed) with ⟨v, B, X', hpost, hsteps⟩ | ⟨q, B, X', hpost, hsteps⟩
  · exact Or.inl ⟨v, vm₁, B, X₁.warmed, X', hpost, fun target h => hstep₁ _ fun acts => by rw [doInvoke_state]; exact hsteps.trans h⟩
  · exact Or.inr ⟨q, vm₁, B, X₁.warmed, X', hpost, hstep₁ _ fun acts => by rw [doInvoke_state]; exact hsteps⟩
theorem vx_callSX (X : Stand p l e R s m args below meth c T locs cells slots) (hexec : p.tables.exec = Jvm.exec) {own : String} {index : Nat} {y : MethodName} {bytes : ByteArray} {maxL : Nat} {ret : Option FieldType} {hh : List (Nat × Nat × Nat × Nat)}
    (hown : s.vm.findClass own = some m.cls) (hlink : (Cond.methodLink own index y).before args s = true) (hstat : (Cond.static y).before args s = true) (hinit : (Cond.initialized y.cls).before args s = true)
    (hcode : (Cond.codeWith y bytes maxL ret hh).before args s = true) (hy : y.cls ≠ "java/lang/invoke/MethodHandle" ∧ y.cls ≠ "java/lang/invoke/VarHandle")
    {W9 : Nat} {Pre : Pt → Array Value → Prop} {Post : Pt → Array Value → Option Value → Pt → Prop} {PostX : Pt → Array Value → Addr → Pt → Prop} (hK : vx_Back l R p e below s args y 3 W9 Pre Post PostX)
    {g : JFrame} (hg : g.method = m) (hsize : g.locals.size = c.maxLocals) {argsL rest : List Value} (hlen : ∀ sig, parseMethodDescriptor y.desc = some sig → argsL.length = sig.parameters.length)
    (hstack : g.stack = argsL.reverse ++ rest) (hW : 2 * g.monitorRoom + (rest.map fun v => v.category).sum ≤ W9) (hdg : decode c.code g.pc = .ok (.invokestatic index, 3))
    (hpre : ∀ vm₁, s.WarmedH vm₁ → Pre ⟨T.setVm vm₁, locs, cells, slots⟩ argsL.toArray) :
    (∃ (v : Option Value) (vm₁ : Vm) (B : Pt), s.WarmedH vm₁ ∧ Stand p l e R s m args below meth c B.U B.locs B.cells B.slots ∧ Post ⟨T.setVm vm₁, locs, cells, slots⟩ argsL.toArray v B ∧
      ∀ target, Steps p.tables e below (B.U.setTop { g with pc := g.pc + 3, stack := v.toList ++ rest }) target → Steps p.tables e below (T.setTop g) target) ∨
    (∃ (q : Addr) (vm₁ : Vm) (B : Pt), s.WarmedH vm₁ ∧ Stand p l e R s m args below meth c B.U B.locs B.cells B.slots ∧ PostX ⟨T.setVm vm₁, locs, cells, slots⟩ argsL.toArray q B ∧
      Steps p.tables e below (T.setTop g) ((B.U.setTop { g with stack := rest }).pushFrame (.throwing q))) := by
  obtain ⟨mk, methM, cM, hnamed, hmethM, -, -, -, -, -, -, hsigM⟩ := Cond.codeWith_spec hcode
  have hstatic : methM.isStatic = true := Cond.static_spec hnamed hmethM hstat
  obtain ⟨kP, hkP, -⟩ := className_of_methodNamed hnamed
  have hinitP : kP.init = .initialized := Cond.initialized_spec (findClass_of_methodNamed hnamed) hkP hinit
  obtain ⟨vm₁, X₁, hstep₁⟩ := X.invokestatic hexec hown hlink hnamed hmethM hstatic hkP hinitP hy (g := g) hg (argsL := argsL) (rest := rest) (hlen _ hsigM) hstack hdg
  rcases hK m meth c ⟨T.setVm vm₁, locs, cells, slots⟩ { g with stack := rest } (.invokestatic index) mk argsL.toArray X₁ hg hsize hdg hW (X₁.named hnamed) (hpre vm₁ X₁.warmed) with ⟨v, B, X', hpost, hsteps⟩ | ⟨q, B, X', hpost, hsteps⟩
  · exact Or.inl ⟨v, vm₁, B, X₁.warmed, X', hpost, fun target h => hstep₁ _ fun acts => by rw [doInvoke_state]; exact hsteps.trans h⟩
  · exact Or.inr ⟨q, vm₁, B, X₁.warmed, X', hpost, hstep₁ _ fun acts => by rw [doInvoke_state]; exact hsteps⟩
theorem vx_callVW (X : Stand p l e R s m args below meth c T locs cells slots) (hexec : p.tables.exec = Jvm.exec) {own C : String} {index : Nat} {y : MethodName} {bytes : ByteArray} {maxL : Nat} {ret : Option FieldType} {hh : List (Nat × Nat × Nat × Nat)}
    (hown : s.vm.findClass own = some m.cls) (hlink : (Cond.methodLink own index y).before args s = true) (hinst : (Cond.instanceMethod y).before args s = true) (hsel : (Cond.selects C y y).before args s = true)
    (hcode : (Cond.codeWith y bytes maxL ret hh).before args s = true) (hy : y.cls ≠ "java/lang/invoke/MethodHandle" ∧ y.cls ≠ "java/lang/invoke/VarHandle")
    {W9 : Nat} {Pre : Pt → Array Value → Prop} {Post : Pt → Array Value → Option Value → Pt → Prop} (hK : Back l R p e below s args y 3 W9 Pre Post)
    {b : Addr} {cellB : Cell} (hcell : T.heap[b]? = some cellB) (hobj : cellB.vm.isStatics = false) (hcls : s.vm.findClass C = some cellB.cls)
    {g : JFrame} (hg : g.method = m) (hsize : g.locals.size = c.maxLocals) {argsL rest : List Value} (hlen : ∀ sig, parseMethodDescriptor y.desc = some sig → argsL.length = sig.parameters.length)
    (hstack : g.stack = argsL.reverse ++ .ref b :: rest) (hW : 2 * g.monitorRoom + (rest.map fun v => v.category).sum ≤ W9) (hdg : decode c.code g.pc = .ok (.invokevirtual index, 3))
    (hpre : ∀ vm₁, s.WarmedH vm₁ → Pre ⟨T.setVm vm₁, locs, cells, slots⟩ (Value.ref b :: argsL).toArray) :
    ∃ (v : Option Value) (vm₁ : Vm) (B : Pt), s.WarmedH vm₁ ∧ Stand p l e R s m args below meth c B.U B.locs B.cells B.slots ∧ Post ⟨T.setVm vm₁, locs, cells, slots⟩ (Value.ref b :: argsL).toArray v B ∧
      ∀ target, Steps p.tables e below (B.U.setTop { g with pc := g.pc + 3, stack := v.toList ++ rest }) target → Steps p.tables e below (T.setTop g) target := by
  obtain ⟨mk, methM, hnamed, hmethM, hstM, habM⟩ := Cond.instanceMethod_spec hinst
  obtain ⟨m8, methM', cM, hn8, hmethM', -, -, -, -, -, -, hsigM⟩ := Cond.codeWith_spec hcode
  cases Option.some.inj (hn8.symm.trans hnamed)
  cases hmethM.symm.trans hmethM'
  obtain ⟨c2, r2, m2, q1, q2, q3, q4, kP, hkP, hkPi⟩ := Cond.selects_spec hsel
  cases hcls.symm.trans q1
  cases (State.methodFound?_of_named hnamed hy).symm.trans q2
  cases hnamed.symm.trans q3
  have hselP : selectMethod e.platform s.vm cellB.cls mk = .method mk := by rw [Launch.admits_selectMethod X.admits]; exact q4
  obtain ⟨vm₁, X₁, hstep₁⟩ := X.invokevirtual hexec hown hlink hnamed hmethM hstM hkP hkPi hy (a := b) (cell := cellB) hcell
    (fun z h => by rw [h] at hobj; cases hobj) hselP hmethM habM hkP hkPi (g := g) hg (argsL := argsL) (rest := rest) (hlen _ hsigM) hstack hdg
  obtain ⟨v, B, X', hpost, hsteps⟩ := hK m meth c ⟨T.setVm vm₁, locs, cells, slots⟩ { g with stack := rest } (.invokevirtual index) mk (Value.ref b :: argsL).toArray X₁ hg hsize hdg hW (X₁.named hnamed) (hpre vm₁ X₁.warmed)
  exact ⟨v, vm₁, B, X₁.warmed, X', hpost, fun target h => hstep₁ _ fun acts => by rw [doInvoke_state]; exact hsteps.trans h⟩
abbrev vx_CVW (R : Room) (s : State) (args : Array Value) (own C : String) (index : Nat) (y : MethodName) (bytes : ByteArray) (maxL : Nat) (ret : Option FieldType) (hh : List (Nat × Nat × Nat × Nat)) (ws : List Cond) (rm : Room) (mc ms n : Nat) : Prop :=
  (rm.cells = mc ∧ rm.slots = ms ∧ rm.frames + 1 ≤ R.frames ∧ 8 + (maxL + 11) + rm.locals ≤ R.locals ∧ (∀ w ∈ ws, ∀ (a' : Array Value) (U : State), s.WarmedH U.vm → w.before a' U = true) ∧ Cond.codeWith y bytes maxL ret hh ∈ ws) ∧
  (Cond.codeWith y bytes maxL ret hh).before args s = true ∧ (Cond.initialized y.cls).before args s = true ∧ (y.cls ≠ "java/lang/invoke/MethodHandle" ∧ y.cls ≠ "java/lang/invoke/VarHandle") ∧
  (∀ sig, parseMethodDescriptor y.desc = some sig → n = sig.parameters.length) ∧ (Cond.methodLink own index y).before args s = true ∧ (Cond.instanceMethod y).before args s = true ∧ (Cond.selects C y y).before args s = true
theorem vx_cwVW {own C : String} {index maxL mc ms : Nat} {y : MethodName} {bytes : ByteArray} {ret : Option FieldType} {hh : List (Nat × Nat × Nat × Nat)} {Ts ws ws' : List Cond} {rm : Room} (n : Nat) (ht : ∀ w ∈ Ts, w.before args s = true) (hT : GoodIn Ts (wsV own index C y ws)) (hw : ws = Cond.codeWith y bytes maxL ret hh :: ws') (hrc : rm.cells = mc) (hrs : rm.slots = ms)
    (hd : y.cls = C ∧ y.cls ≠ "java/lang/invoke/MethodHandle" ∧ y.cls ≠ "java/lang/invoke/VarHandle" ∧ (parseMethodDescriptor y.desc).map (fun d => d.parameters.length) = some n) (hR : rm.frames + 1 ≤ R.frames ∧ 8 + (maxL + 11) + rm.locals ≤ R.locals) :
    vx_CVW R s args own C index y bytes maxL ret hh ws rm mc ms n := by
  obtain ⟨hC, hd⟩ := hd
  subst hC
  have ok : ∀ w ∈ wsV own index y.cls y ws, w.before args s = true := fun w h => ht w (hT w h).1
  have hG : GoodIn Ts ws := fun w h => hT w (by unfold wsV; exact List.mem_append_right _ h)
  have hc : Cond.codeWith y bytes maxL ret hh ∈ ws := by rw [hw]; exact List.mem_cons_self
  refine ⟨⟨hrc, hrs, hR.1, hR.2, pay_in ht hG, hc⟩, ht _ (hG _ hc).1, ok _ (by simp [wsV]), ⟨hd.1, hd.2.1⟩, fun sig h => ?_, ok _ (by simp [wsV]), ok _ (by simp [wsV]), ok _ (by simp [wsV])⟩
  have h2 := hd.2.2
  rw [h] at h2
  exact (Option.some.inj h2).symm
theorem vx_runVW {y : MethodName} {bytes cc : ByteArray} {maxL nL mc ms n index : Nat} {ret : Option FieldType} {hh : List (Nat × Nat × Nat × Nat)} {ws : List Cond} {rm : Room} {Pc : Array Value → State → Prop} {Qc : Array Value → State → Outcome → State → Prop} {free : Addr → Prop} {Ts : List Cond} {own C : String} {b : Addr} {As rest : List Value} {g : JFrame}
    (S : CallFix p m c cc nL s args Ts own) (hM : Met l y ws rm Pc Qc mc ms free) (cw : vx_CVW R s args own C index y bytes maxL ret hh ws rm mc ms n) (hp : PreV s H C b Pc As)
    (hg : g.method = m) (hn : As.length = n) (hsize : g.locals.size = nL) (hstack : g.stack = As.reverse ++ .ref b :: rest) (hW : 2 * g.monitorRoom + (rest.map fun v => v.category).sum ≤ 8) (hdg : decode cc g.pc = .ok (.invokevirtual index, 3)) (hf : cells + mc ≤ R.cells ∧ slots + ms ≤ R.slots) :
    va_Run p l e R s m args below meth c H locs cells slots mc ms g rest (Qc (Value.ref b :: As).toArray) free := by
  obtain ⟨⟨hrc, hrs, hfr, hlo, hws, hcw⟩, hcode, hini, hy, hlen, hl, hin, hse⟩ := cw
  have hK : Back l R p e below s args y 3 8 (PreOf R mc ms Pc) (PostOf Qc mc ms free) := va_backW (hh := hh) (bytes := bytes) (maxL := maxL) (ret := ret) hM hp.1 hrc hrs hfr hlo hws hcw (fun a' U hW => word_at hW (Or.inl (by first | rfl | simp [Cond.onTables, Cond.keeps, Cond.steady])) hini)
  obtain ⟨hx, hb, hml, ho, -⟩ := S
  obtain ⟨-, ⟨cellB, hcB, hoB, hclB⟩, hPc⟩ := hp
  intro T hT X
  obtain ⟨v, vm₁, ⟨U', l2, c2, s2⟩, hW₁, X', ⟨g', mk, t, L, e1, e2, hq, h1, hL, h2, h3⟩, st⟩ := vx_callVW X hx (C := C) (hh := hh) (bytes := bytes) (maxL := maxL) (ret := ret) ho hl hin hse hcode hy hK (by rw [hT]; exact hcB) hoB hclB hg (hsize.trans hml.symm) (argsL := As) (rest := rest) (fun sig h => hn.trans (hlen sig h)) hstack hW (by rw [hb]; exact hdg)
    (fun vm₁ hW₁ => ⟨hf.1, hf.2, hPc (T.setVm vm₁) hT hW₁⟩)
  dsimp only [Pt.U, Pt.locs, Pt.cells, Pt.slots] at X' e1 e2 h1 h2 h3 st
  subst h1; subst h2; subst h3
  exact ⟨v, (T.setVm vm₁).calling g' mk (Value.ref b :: As).toArray, t, U', L, hT, X', hL, e1, e2, hq, st⟩
section
variable {y : MethodName} {bytes cc : ByteArray} {maxL nL mc ms n index : Nat} {ret : Option FieldType} {ws : List Cond} {rm : Room} {Pc : Array Value → State → Prop} {Qc : Array Value → State → Outcome → State → Prop} {XC : String → State → State → Prop} {free : Addr → Prop} {Ts : List Cond} {own C : String} {b : Addr} {As rest : List Value} {g : JFrame}
theorem vx_runVX {hh : List (Nat × Nat × Nat × Nat)} (S : CallFix p m c cc nL s args Ts own) (hM : vx_Met l y ws rm Pc Qc XC mc ms free) (cw : vx_CVW R s args own C index y bytes maxL ret hh ws rm mc ms n) (hp : PreV s H C b Pc As)
    (hg : g.method = m) (hn : As.length = n) (hsize : g.locals.size = nL) (hstack : g.stack = As.reverse ++ .ref b :: rest) (hW : 2 * g.monitorRoom + (rest.map fun v => v.category).sum ≤ 8) (hdg : decode cc g.pc = .ok (.invokevirtual index, 3)) (hf : cells + mc ≤ R.cells ∧ slots + ms ≤ R.slots) :
    vx_Run p l e R s m args below meth c H locs cells slots mc ms g rest (Qc (Value.ref b :: As).toArray) XC free := by
  obtain ⟨⟨hrc, hrs, hfr, hlo, hws, hcw⟩, hcode, hini, hy, hlen, hl, hin, hse⟩ := cw
  have hK : vx_Back l R p e below s args y 3 8 (PreOf R mc ms Pc) (PostOf Qc mc ms free) (vx_Post XC mc ms free) := vx_backW (hh := hh) (bytes := bytes) (maxL := maxL) (ret := ret) hM hp.1 hrc hrs hfr hlo hws hcw (fun a' U hW => word_at hW (Or.inl (by first | rfl | simp [Cond.onTables, Cond.keeps, Cond.steady])) hini)
  obtain ⟨hx, hb, hml, ho, -⟩ := S
  obtain ⟨-, ⟨cellB, hcB, hoB, hclB⟩, hPc⟩ := hp
  intro T hT X
  rcases vx_callVX X hx (C := C) (hh := hh) (bytes := bytes) (maxL := maxL) (ret := ret) ho hl hin hse hcode hy hK (by rw [hT]; exact hcB) hoB hclB hg (hsize.trans hml.symm) (argsL := As) (rest := rest) (fun sig h => hn.trans (hlen sig h)) hstack hW (by rw [hb]; exact hdg)
    (fun vm₁ hW₁ => ⟨hf.1, hf.2, hPc (T.setVm vm₁) hT hW₁⟩) with ⟨v, vm₁, ⟨U', l2, c2, s2⟩, hW₁, X', ⟨g', mk, t, L, e1, e2, hq, h1, hL, h2, h3⟩, st⟩ | ⟨q, vm₁, ⟨U', l2, c2, s2⟩, hW₁, X', ⟨g', mk, t, L, E, ce, e1, e2, hq, hce, hcv, hcl, h1, hL, h2, h3⟩, st⟩
  · dsimp only [Pt.U, Pt.locs, Pt.cells, Pt.slots] at X' e1 e2 h1 h2 h3 st
    subst h1; subst h2; subst h3
    exact Or.inl ⟨v, (T.setVm vm₁).calling g' mk (Value.ref b :: As).toArray, t, U', L, hT, X', hL, e1, e2, hq, st⟩
  · dsimp only [Pt.U, Pt.locs, Pt.cells, Pt.slots] at X' e1 e2 h1 h2 h3 st hcl
    subst h1; subst h2; subst h3
    exact Or.inr ⟨q, (T.setVm vm₁).calling g' mk (Value.ref b :: As).toArray, t, U', L, E, ce, hT, X', hL, e1, e2, hq, hce, hcv, vx_cls hW₁ hcl, st⟩
theorem vx_runSX {hh : List (Nat × Nat × Nat × Nat)} (S : CallFix p m c cc nL s args Ts own) (hM : vx_Met l y ws rm Pc Qc XC mc ms free) (cw : vx_CSW R s args own index y bytes maxL ret hh ws rm mc ms n) (hp : PreS s H Pc As)
    (hg : g.method = m) (hn : As.length = n) (hsize : g.locals.size = nL) (hstack : g.stack = As.reverse ++ rest) (hW : 2 * g.monitorRoom + (rest.map fun v => v.category).sum ≤ 8) (hdg : decode cc g.pc = .ok (.invokestatic index, 3)) (hf : cells + mc ≤ R.cells ∧ slots + ms ≤ R.slots) :
    vx_Run p l e R s m args below meth c H locs cells slots mc ms g rest (Qc As.toArray) XC free := by
  obtain ⟨⟨hrc, hrs, hfr, hlo, hws, hcw⟩, hcode, hini, hy, hlen, hl, hstt⟩ := cw
  have hK : vx_Back l R p e below s args y 3 8 (PreOf R mc ms Pc) (PostOf Qc mc ms free) (vx_Post XC mc ms free) := vx_backW (hh := hh) (bytes := bytes) (maxL := maxL) (ret := ret) hM hp.1 hrc hrs hfr hlo hws hcw (fun a' U hW => word_at hW (Or.inl (by first | rfl | simp [Cond.onTables, Cond.keeps, Cond.steady])) hini)
  obtain ⟨hx, hb, hml, ho, -⟩ := S
  intro T hT X
  rcases vx_callSX X hx (hh := hh) (bytes := bytes) (maxL := maxL) (ret := ret) ho hl hstt hini hcode hy hK hg (hsize.trans hml.symm) (argsL := As) (rest := rest) (fun sig h => hn.trans (hlen sig h)) hstack hW (by rw [hb]; exact hdg)
    (fun vm₁ hW₁ => ⟨hf.1, hf.2, hp.2 (T.setVm vm₁) hT hW₁⟩) with ⟨v, vm₁, ⟨U', l2, c2, s2⟩, hW₁, X', ⟨g', mk, t, L, e1, e2, hq, h1, hL, h2, h3⟩, st⟩ | ⟨q, vm₁, ⟨U', l2, c2, s2⟩, hW₁, X', ⟨g', mk, t, L, E, ce, e1, e2, hq, hce, hcv, hcl, h1, hL, h2, h3⟩, st⟩
  · dsimp only [Pt.U, Pt.locs, Pt.cells, Pt.slots] at X' e1 e2 h1 h2 h3 st
    subst h1; subst h2; subst h3
    exact Or.inl ⟨v, (T.setVm vm₁).calling g' mk As.toArray, t, U', L, hT, X', hL, e1, e2, hq, st⟩
  · dsimp only [Pt.U, Pt.locs, Pt.cells, Pt.slots] at X' e1 e2 h1 h2 h3 st hcl
    subst h1; subst h2; subst h3
    exact Or.inr ⟨q, (T.setVm vm₁).calling g' mk As.toArray, t, U', L, E, ce, hT, X', hL, e1, e2, hq, hce, hcv, vx_cls hW₁ hcl, st⟩
end
end VXH
theorem vx_ofWH {l : Launch} {y : MethodName} {ws ws' : List Cond} {rm : Room} {Pc : Array Value → State → Prop} {Qc : Array Value → State → Outcome → State → Prop} {XC : String → State → State → Prop} {mc ms : Nat} {free : Addr → Prop} {cc : ByteArray} {maxL : Nat} {ret : Option FieldType} {hh : List (Nat × Nat × Nat × Nat)}
    (hy : plainName y.cls = true) (hw : ws = Cond.codeWith y cc maxL ret hh :: ws')
    (body : ∀ p e s m args below meth c s₁, BodyLoose p l y (headSpec ws rm) cc maxL ret e s m args below meth c s₁ → c.maxLocals = maxL → Pc args s →
      W p l e (headSpec ws rm).room s m args below meth c s.heap [] 0 0 (vx_MQ below Qc XC args s mc ms free) (entryFrame m args maxL)) : vx_Met l y ws rm Pc Qc XC mc ms free := by
  refine MetFree.of_bodyS (code := cc) (maxLocals := maxL) (ret := ret) hy ?_ ?_
  · intro args s m h hn
    obtain ⟨m9, meth, c, hn9, h1, h2, h3, h4, -, h5, h6, -⟩ := Cond.codeWith_spec (atoms_spec (ws := ws) h _ (by rw [hw]; exact List.mem_cons_self))
    cases hn.symm.trans hn9
    exact ⟨meth, c, h1, h2, h3, h4, h5, h6⟩
  · intro p e s m args below meth c s₁ B hml hP _
    have hh0 : s₁.heap = s.heap := by rw [B.state]; rfl
    obtain ⟨t, a1, o, b1, b2, b3⟩ := body p e s m args below meth c s₁ B hml hP s₁ hh0 (Stand.of_body B)
    exact ⟨t, o, a1, b1, b2, b3⟩
/-! ===== END ===== -/

def RX0 : String := "DirectoryServers$Directory"
def TX0 : u_T := fun k => match k with
  | 0 => ("DirectoryServers$Directory", "number", "I", true)
  | 1 => ("DirectoryServers$Directory", "parent", "LDirectoryServers$Directory;", false)
  | 2 => ("DirectoryServers$Directory", "nameInParent", "I", false)
  | 3 => ("DirectoryServers$Directory", "meanings", "[I", true)
  | 4 => ("DirectoryServers$Directory", "ages", "[I", true)
  | 5 => ("DirectoryServers$Directory", "leaseEnds", "[[I", true)
  | _ => ("DirectoryServers$Directory", "byHash", "[LDirectoryServers$Fragment;", true)
def tyX0 : Nat → FieldType := fun k => match k with
  | 0 => .int
  | 1 => .object "DirectoryServers$Directory"
  | 2 => .int
  | 3 => .array .int
  | 4 => .array .int
  | 5 => .array (.array .int)
  | _ => .array (.object "DirectoryServers$Fragment")
theorem nmX0 : ∀ a, a < 7 → ∀ b, b < 7 → a ≠ b → (TX0 a).2.1 ≠ (TX0 b).2.1 := by decide +kernel
theorem tyX0_ok : ∀ k, k < 7 → parseFieldDescriptor (TX0 k).2.2.1 = some (tyX0 k) := by decide +kernel
abbrev cX0_init : ByteArray := prog_2_method_1_code
def yX0_init : MethodName := ⟨RX0, "<init>", "(ILDirectoryServers$Directory;II)V"⟩
abbrev cX0_isName : ByteArray := prog_2_method_2_code
def yX0_isName : MethodName := ⟨RX0, "isName", "(I)Z"⟩
abbrev cX0_meaningOf : ByteArray := prog_2_method_3_code
def yX0_meaningOf : MethodName := ⟨RX0, "meaningOf", "(I)I"⟩
abbrev cX0_ageOf : ByteArray := prog_2_method_4_code
def yX0_ageOf : MethodName := ⟨RX0, "ageOf", "(I)I"⟩
abbrev cX0_setMeaning : ByteArray := prog_2_method_5_code
def yX0_setMeaning : MethodName := ⟨RX0, "setMeaning", "(III)V"⟩
abbrev cX0_countTaken : ByteArray := prog_2_method_6_code
def yX0_countTaken : MethodName := ⟨RX0, "countTaken", "()I"⟩
abbrev cX0_countLinksTo : ByteArray := prog_2_method_7_code
def yX0_countLinksTo : MethodName := ⟨RX0, "countLinksTo", "(I)I"⟩
abbrev cX0_oldestLink : ByteArray := prog_2_method_8_code
def yX0_oldestLink : MethodName := ⟨RX0, "oldestLink", "(I)I"⟩
abbrev cX0_isWithin : ByteArray := prog_2_method_9_code
def yX0_isWithin : MethodName := ⟨RX0, "isWithin", "(LDirectoryServers$Directory;)Z"⟩
abbrev cX0_isClient : ByteArray := prog_2_method_10_code
def yX0_isClient : MethodName := ⟨RX0, "isClient", "(I)Z"⟩
abbrev cX0_leaseRuns : ByteArray := prog_2_method_11_code
def yX0_leaseRuns : MethodName := ⟨RX0, "leaseRuns", "(III)Z"⟩
abbrev cX0_setLeaseEnd : ByteArray := prog_2_method_12_code
def yX0_setLeaseEnd : MethodName := ⟨RX0, "setLeaseEnd", "(III)V"⟩
abbrev cX0_fragmentAt : ByteArray := prog_2_method_14_code
def yX0_fragmentAt : MethodName := ⟨RX0, "fragmentAt", "(I)LDirectoryServers$Fragment;"⟩
abbrev cX0_fragmentOfName : ByteArray := prog_2_method_15_code
def yX0_fragmentOfName : MethodName := ⟨RX0, "fragmentOfName", "(I)LDirectoryServers$Fragment;"⟩
def RX1 : String := "DirectoryServers$Fragment"
def TX1 : u_T := fun k => match k with
  | 0 => ("DirectoryServers$Fragment", "directory", "I", true)
  | 1 => ("DirectoryServers$Fragment", "begin", "I", true)
  | 2 => ("DirectoryServers$Fragment", "size", "I", false)
  | 3 => ("DirectoryServers$Fragment", "owner", "I", false)
  | _ => ("DirectoryServers$Fragment", "load", "I", false)
def tyX1 : Nat → FieldType := fun k => match k with
  | 0 => .int
  | 1 => .int
  | 2 => .int
  | 3 => .int
  | _ => .int
theorem nmX1 : ∀ a, a < 5 → ∀ b, b < 5 → a ≠ b → (TX1 a).2.1 ≠ (TX1 b).2.1 := by decide +kernel
theorem tyX1_ok : ∀ k, k < 5 → parseFieldDescriptor (TX1 k).2.2.1 = some (tyX1 k) := by decide +kernel
abbrev cX1_init : ByteArray := prog_3_method_1_code
def yX1_init : MethodName := ⟨RX1, "<init>", "(IIIII)V"⟩
def RX2 : String := "DirectoryServers"
def TX2 : u_T := fun k => match k with
  | 0 => ("DirectoryServers", "directories", "[LDirectoryServers$Directory;", true)
  | 1 => ("DirectoryServers", "directoriesMade", "I", false)
  | 2 => ("DirectoryServers", "filesMade", "I", false)
  | 3 => ("DirectoryServers", "linksMade", "I", false)
  | 4 => ("DirectoryServers", "time", "I", false)
  | 5 => ("DirectoryServers", "recallCounts", "[I", true)
  | 6 => ("DirectoryServers", "knownCounts", "[I", true)
  | 7 => ("DirectoryServers", "moving", "LDirectoryServers$Fragment;", false)
  | 8 => ("DirectoryServers", "moveServer", "I", false)
  | _ => ("DirectoryServers", "moveSteps", "I", false)
def tyX2 : Nat → FieldType := fun k => match k with
  | 0 => .array (.object "DirectoryServers$Directory")
  | 1 => .int
  | 2 => .int
  | 3 => .int
  | 4 => .int
  | 5 => .array .int
  | 6 => .array .int
  | 7 => .object "DirectoryServers$Fragment"
  | 8 => .int
  | _ => .int
theorem nmX2 : ∀ a, a < 10 → ∀ b, b < 10 → a ≠ b → (TX2 a).2.1 ≠ (TX2 b).2.1 := by decide +kernel
theorem tyX2_ok : ∀ k, k < 10 → parseFieldDescriptor (TX2 k).2.2.1 = some (tyX2 k) := by decide +kernel
abbrev cX2_init : ByteArray := prog_1_method_1_code
def yX2_init : MethodName := ⟨RX2, "<init>", "()V"⟩
abbrev cX2_lookup : ByteArray := prog_1_method_2_code
def yX2_lookup : MethodName := ⟨RX2, "lookup", "(III)I"⟩
abbrev cX2_makeDirectory : ByteArray := prog_1_method_3_code
def yX2_makeDirectory : MethodName := ⟨RX2, "makeDirectory", "(III)I"⟩
abbrev cX2_makeFile : ByteArray := prog_1_method_4_code
def yX2_makeFile : MethodName := ⟨RX2, "makeFile", "(III)I"⟩
abbrev cX2_link : ByteArray := prog_1_method_5_code
def yX2_link : MethodName := ⟨RX2, "link", "(IIII)I"⟩
abbrev cX2_remove : ByteArray := prog_1_method_6_code
def yX2_remove : MethodName := ⟨RX2, "remove", "(III)I"⟩
abbrev cX2_rename : ByteArray := prog_1_method_7_code
def yX2_rename : MethodName := ⟨RX2, "rename", "(IIIII)V"⟩
abbrev cX2_pass : ByteArray := prog_1_method_8_code
def yX2_pass : MethodName := ⟨RX2, "pass", "(I)I"⟩
abbrev cX2_links : ByteArray := prog_1_method_23_code
def yX2_links : MethodName := ⟨RX2, "links", "(I)I"⟩
abbrev cX2_anchor : ByteArray := prog_1_method_24_code
def yX2_anchor : MethodName := ⟨RX2, "anchor", "(I)I"⟩
abbrev cX2_byTree : ByteArray := prog_1_method_25_code
def yX2_byTree : MethodName := ⟨RX2, "byTree", "(II)I"⟩
abbrev cX2_size : ByteArray := prog_1_method_26_code
def yX2_size : MethodName := ⟨RX2, "size", "(I)I"⟩
abbrev cX2_needClient : ByteArray := prog_1_method_27_code
def yX2_needClient : MethodName := ⟨RX2, "needClient", "(I)V"⟩
abbrev cX2_needName : ByteArray := prog_1_method_29_code
def yX2_needName : MethodName := ⟨RX2, "needName", "(I)V"⟩
abbrev cX2_needDirectory : ByteArray := prog_1_method_31_code
def yX2_needDirectory : MethodName := ⟨RX2, "needDirectory", "(I)LDirectoryServers$Directory;"⟩
abbrev cX2_needFile : ByteArray := prog_1_method_32_code
def yX2_needFile : MethodName := ⟨RX2, "needFile", "(I)V"⟩
abbrev cX2_needFree : ByteArray := prog_1_method_33_code
def yX2_needFree : MethodName := ⟨RX2, "needFree", "(LDirectoryServers$Directory;I)V"⟩
abbrev cX2_needTaken : ByteArray := prog_1_method_34_code
def yX2_needTaken : MethodName := ⟨RX2, "needTaken", "(LDirectoryServers$Directory;I)V"⟩
abbrev cX2_needRemovable : ByteArray := prog_1_method_35_code
def yX2_needRemovable : MethodName := ⟨RX2, "needRemovable", "(LDirectoryServers$Directory;)V"⟩
abbrev cX2_directoryNumbered : ByteArray := prog_1_method_37_code
def yX2_directoryNumbered : MethodName := ⟨RX2, "directoryNumbered", "(I)LDirectoryServers$Directory;"⟩
abbrev cX2_directoryMeant : ByteArray := prog_1_method_38_code
def yX2_directoryMeant : MethodName := ⟨RX2, "directoryMeant", "(I)LDirectoryServers$Directory;"⟩
abbrev cX2_dropDirectory : ByteArray := prog_1_method_39_code
def yX2_dropDirectory : MethodName := ⟨RX2, "dropDirectory", "(I)V"⟩
abbrev cX2_makeLink : ByteArray := prog_1_method_40_code
def yX2_makeLink : MethodName := ⟨RX2, "makeLink", "(ILDirectoryServers$Directory;II)V"⟩
abbrev cX2_changeName : ByteArray := prog_1_method_41_code
def yX2_changeName : MethodName := ⟨RX2, "changeName", "(ILDirectoryServers$Directory;III)V"⟩
abbrev cX2_endLeases : ByteArray := prog_1_method_42_code
def yX2_endLeases : MethodName := ⟨RX2, "endLeases", "(LDirectoryServers$Directory;II)V"⟩
abbrev cX2_countLinks : ByteArray := prog_1_method_45_code
def yX2_countLinks : MethodName := ⟨RX2, "countLinks", "(I)I"⟩
abbrev cX2_fragmentAbove : ByteArray := prog_1_method_47_code
def yX2_fragmentAbove : MethodName := ⟨RX2, "fragmentAbove", "(LDirectoryServers$Fragment;)LDirectoryServers$Fragment;"⟩
abbrev cX2_frozen : ByteArray := prog_1_method_48_code
def yX2_frozen : MethodName := ⟨RX2, "frozen", "(LDirectoryServers$Fragment;)Z"⟩
def RX3 : String := "DirectoryServersModel"
def TX3 : u_T := fun k => match k with
  | _ => ("", "", "", false)
def tyX3 : Nat → FieldType := fun k => match k with
  | _ => .int
theorem nmX3 : ∀ a, a < 0 → ∀ b, b < 0 → a ≠ b → (TX3 a).2.1 ≠ (TX3 b).2.1 := by decide +kernel
theorem tyX3_ok : ∀ k, k < 0 → parseFieldDescriptor (TX3 k).2.2.1 = some (tyX3 k) := by decide +kernel
def RL : String := "DirectoryServersLaw"
abbrev cL_cell : ByteArray := method_2_code
def yL_cell : MethodName := ⟨RL, "cell", "([II)I"⟩
abbrev cL_low : ByteArray := method_3_code
def yL_low : MethodName := ⟨RL, "low", "(II)I"⟩
abbrev cL_isThere : ByteArray := method_4_code
def yL_isThere : MethodName := ⟨RL, "isThere", "([II)Z"⟩
abbrev cL_isBelow : ByteArray := method_5_code
def yL_isBelow : MethodName := ⟨RL, "isBelow", "([III)Z"⟩
abbrev cL_used : ByteArray := method_6_code
def yL_used : MethodName := ⟨RL, "used", "([II)I"⟩
abbrev cL_count : ByteArray := method_7_code
def yL_count : MethodName := ⟨RL, "count", "([II)I"⟩
abbrev cL_isAsBeside : ByteArray := method_8_code
def yL_isAsBeside : MethodName := ⟨RL, "isAsBeside", "(LDirectoryServers;[I[I[III)Z"⟩
abbrev cL_law : ByteArray := code
def yL_law : MethodName := ⟨RL, "law", "([I)Z"⟩
abbrev vwCl : List vw_C := [(RX0, TX0, 7), (RX1, TX1, 5), (RX2, TX2, 10)]
end
section
theorem dX0_init_0 : decode cX0_init 0 = .ok (.aload_n 0, 1) := by decide +kernel
theorem dX0_init_1 : decode cX0_init 1 = .ok (.invokespecial 3, 3) := by decide +kernel
theorem dX0_init_4 : decode cX0_init 4 = .ok (.aload_n 0, 1) := by decide +kernel
theorem dX0_init_5 : decode cX0_init 5 = .ok (.bipush 50, 2) := by decide +kernel
theorem dX0_init_7 : decode cX0_init 7 = .ok (.newarray .int, 2) := by decide +kernel
theorem dX0_init_9 : decode cX0_init 9 = .ok (.putfield 9, 3) := by decide +kernel
theorem dX0_init_12 : decode cX0_init 12 = .ok (.aload_n 0, 1) := by decide +kernel
theorem dX0_init_13 : decode cX0_init 13 = .ok (.bipush 50, 2) := by decide +kernel
theorem dX0_init_15 : decode cX0_init 15 = .ok (.newarray .int, 2) := by decide +kernel
theorem dX0_init_17 : decode cX0_init 17 = .ok (.putfield 15, 3) := by decide +kernel
theorem dX0_init_20 : decode cX0_init 20 = .ok (.aload_n 0, 1) := by decide +kernel
theorem dX0_init_21 : decode cX0_init 21 = .ok (.iconst 4, 1) := by decide +kernel
theorem dX0_init_22 : decode cX0_init 22 = .ok (.bipush 50, 2) := by decide +kernel
theorem dX0_init_24 : decode cX0_init 24 = .ok (.multianewarray 18 2, 4) := by decide +kernel
theorem dX0_init_28 : decode cX0_init 28 = .ok (.putfield 20, 3) := by decide +kernel
theorem dX0_init_31 : decode cX0_init 31 = .ok (.aload_n 0, 1) := by decide +kernel
theorem dX0_init_32 : decode cX0_init 32 = .ok (.bipush 8, 2) := by decide +kernel
theorem dX0_init_34 : decode cX0_init 34 = .ok (.anewarray 23, 3) := by decide +kernel
theorem dX0_init_37 : decode cX0_init 37 = .ok (.putfield 25, 3) := by decide +kernel
theorem dX0_init_40 : decode cX0_init 40 = .ok (.aload_n 0, 1) := by decide +kernel
theorem dX0_init_41 : decode cX0_init 41 = .ok (.iload_n 1, 1) := by decide +kernel
theorem dX0_init_42 : decode cX0_init 42 = .ok (.putfield 29, 3) := by decide +kernel
theorem dX0_init_45 : decode cX0_init 45 = .ok (.aload_n 0, 1) := by decide +kernel
theorem dX0_init_46 : decode cX0_init 46 = .ok (.aload_n 2, 1) := by decide +kernel
theorem dX0_init_47 : decode cX0_init 47 = .ok (.putfield 33, 3) := by decide +kernel
theorem dX0_init_50 : decode cX0_init 50 = .ok (.aload_n 0, 1) := by decide +kernel
theorem dX0_init_51 : decode cX0_init 51 = .ok (.iload_n 3, 1) := by decide +kernel
theorem dX0_init_52 : decode cX0_init 52 = .ok (.putfield 37, 3) := by decide +kernel
theorem dX0_init_55 : decode cX0_init 55 = .ok (.iconst 0, 1) := by decide +kernel
theorem dX0_init_56 : decode cX0_init 56 = .ok (.istore 5, 2) := by decide +kernel
theorem dX0_init_58 : decode cX0_init 58 = .ok (.iload 5, 2) := by decide +kernel
theorem dX0_init_60 : decode cX0_init 60 = .ok (.bipush 50, 2) := by decide +kernel
theorem dX0_init_62 : decode cX0_init 62 = .ok (.if_icmp .ge 17, 3) := by decide +kernel
theorem dX0_init_65 : decode cX0_init 65 = .ok (.aload_n 0, 1) := by decide +kernel
theorem dX0_init_66 : decode cX0_init 66 = .ok (.getfield 9, 3) := by decide +kernel
theorem dX0_init_69 : decode cX0_init 69 = .ok (.iload 5, 2) := by decide +kernel
theorem dX0_init_71 : decode cX0_init 71 = .ok (.iconst (-1), 1) := by decide +kernel
theorem dX0_init_72 : decode cX0_init 72 = .ok (.iastore, 1) := by decide +kernel
theorem dX0_init_73 : decode cX0_init 73 = .ok (.iinc 5 1, 3) := by decide +kernel
theorem dX0_init_76 : decode cX0_init 76 = .ok (.goto (-18), 3) := by decide +kernel
theorem dX0_init_79 : decode cX0_init 79 = .ok (.new 23, 3) := by decide +kernel
theorem dX0_init_82 : decode cX0_init 82 = .ok (.dup, 1) := by decide +kernel
theorem dX0_init_83 : decode cX0_init 83 = .ok (.iload_n 1, 1) := by decide +kernel
theorem dX0_init_84 : decode cX0_init 84 = .ok (.iconst 0, 1) := by decide +kernel
theorem dX0_init_85 : decode cX0_init 85 = .ok (.bipush 8, 2) := by decide +kernel
theorem dX0_init_87 : decode cX0_init 87 = .ok (.iload 4, 2) := by decide +kernel
theorem dX0_init_89 : decode cX0_init 89 = .ok (.iconst 0, 1) := by decide +kernel
theorem dX0_init_90 : decode cX0_init 90 = .ok (.invokespecial 40, 3) := by decide +kernel
theorem dX0_init_93 : decode cX0_init 93 = .ok (.astore 5, 2) := by decide +kernel
theorem dX0_init_95 : decode cX0_init 95 = .ok (.iconst 0, 1) := by decide +kernel
theorem dX0_init_96 : decode cX0_init 96 = .ok (.istore 6, 2) := by decide +kernel
theorem dX0_init_98 : decode cX0_init 98 = .ok (.iload 6, 2) := by decide +kernel
theorem dX0_init_100 : decode cX0_init 100 = .ok (.bipush 8, 2) := by decide +kernel
theorem dX0_init_102 : decode cX0_init 102 = .ok (.if_icmp .ge 18, 3) := by decide +kernel
theorem dX0_init_105 : decode cX0_init 105 = .ok (.aload_n 0, 1) := by decide +kernel
theorem dX0_init_106 : decode cX0_init 106 = .ok (.getfield 25, 3) := by decide +kernel
theorem dX0_init_109 : decode cX0_init 109 = .ok (.iload 6, 2) := by decide +kernel
theorem dX0_init_111 : decode cX0_init 111 = .ok (.aload 5, 2) := by decide +kernel
theorem dX0_init_113 : decode cX0_init 113 = .ok (.aastore, 1) := by decide +kernel
theorem dX0_init_114 : decode cX0_init 114 = .ok (.iinc 6 1, 3) := by decide +kernel
theorem dX0_init_117 : decode cX0_init 117 = .ok (.goto (-19), 3) := by decide +kernel
theorem dX0_init_120 : decode cX0_init 120 = .ok (.return_, 1) := by decide +kernel
theorem dX0_isName_0 : decode cX0_isName 0 = .ok (.iload_n 0, 1) := by decide +kernel
theorem dX0_isName_1 : decode cX0_isName 1 = .ok (.ifCond .lt 13, 3) := by decide +kernel
theorem dX0_isName_4 : decode cX0_isName 4 = .ok (.iload_n 0, 1) := by decide +kernel
theorem dX0_isName_5 : decode cX0_isName 5 = .ok (.bipush 50, 2) := by decide +kernel
theorem dX0_isName_7 : decode cX0_isName 7 = .ok (.if_icmp .ge 7, 3) := by decide +kernel
theorem dX0_isName_10 : decode cX0_isName 10 = .ok (.iconst 1, 1) := by decide +kernel
theorem dX0_isName_11 : decode cX0_isName 11 = .ok (.goto 4, 3) := by decide +kernel
theorem dX0_isName_14 : decode cX0_isName 14 = .ok (.iconst 0, 1) := by decide +kernel
theorem dX0_isName_15 : decode cX0_isName 15 = .ok (.ireturn, 1) := by decide +kernel
theorem dX0_meaningOf_0 : decode cX0_meaningOf 0 = .ok (.iload_n 1, 1) := by decide +kernel
theorem dX0_meaningOf_1 : decode cX0_meaningOf 1 = .ok (.invokestatic 43, 3) := by decide +kernel
theorem dX0_meaningOf_4 : decode cX0_meaningOf 4 = .ok (.ifCond .eq 12, 3) := by decide +kernel
theorem dX0_meaningOf_7 : decode cX0_meaningOf 7 = .ok (.aload_n 0, 1) := by decide +kernel
theorem dX0_meaningOf_8 : decode cX0_meaningOf 8 = .ok (.getfield 9, 3) := by decide +kernel
theorem dX0_meaningOf_11 : decode cX0_meaningOf 11 = .ok (.iload_n 1, 1) := by decide +kernel
theorem dX0_meaningOf_12 : decode cX0_meaningOf 12 = .ok (.iaload, 1) := by decide +kernel
theorem dX0_meaningOf_13 : decode cX0_meaningOf 13 = .ok (.goto 4, 3) := by decide +kernel
theorem dX0_meaningOf_16 : decode cX0_meaningOf 16 = .ok (.iconst (-1), 1) := by decide +kernel
theorem dX0_meaningOf_17 : decode cX0_meaningOf 17 = .ok (.ireturn, 1) := by decide +kernel
theorem dX0_ageOf_0 : decode cX0_ageOf 0 = .ok (.iload_n 1, 1) := by decide +kernel
theorem dX0_ageOf_1 : decode cX0_ageOf 1 = .ok (.invokestatic 43, 3) := by decide +kernel
theorem dX0_ageOf_4 : decode cX0_ageOf 4 = .ok (.ifCond .eq 12, 3) := by decide +kernel
theorem dX0_ageOf_7 : decode cX0_ageOf 7 = .ok (.aload_n 0, 1) := by decide +kernel
theorem dX0_ageOf_8 : decode cX0_ageOf 8 = .ok (.getfield 15, 3) := by decide +kernel
theorem dX0_ageOf_11 : decode cX0_ageOf 11 = .ok (.iload_n 1, 1) := by decide +kernel
theorem dX0_ageOf_12 : decode cX0_ageOf 12 = .ok (.iaload, 1) := by decide +kernel
theorem dX0_ageOf_13 : decode cX0_ageOf 13 = .ok (.goto 4, 3) := by decide +kernel
theorem dX0_ageOf_16 : decode cX0_ageOf 16 = .ok (.iconst 0, 1) := by decide +kernel
theorem dX0_ageOf_17 : decode cX0_ageOf 17 = .ok (.ireturn, 1) := by decide +kernel
theorem dX0_setMeaning_0 : decode cX0_setMeaning 0 = .ok (.iload_n 1, 1) := by decide +kernel
theorem dX0_setMeaning_1 : decode cX0_setMeaning 1 = .ok (.invokestatic 43, 3) := by decide +kernel
theorem dX0_setMeaning_4 : decode cX0_setMeaning 4 = .ok (.ifCond .eq 17, 3) := by decide +kernel
theorem dX0_setMeaning_7 : decode cX0_setMeaning 7 = .ok (.aload_n 0, 1) := by decide +kernel
theorem dX0_setMeaning_8 : decode cX0_setMeaning 8 = .ok (.getfield 9, 3) := by decide +kernel
theorem dX0_setMeaning_11 : decode cX0_setMeaning 11 = .ok (.iload_n 1, 1) := by decide +kernel
theorem dX0_setMeaning_12 : decode cX0_setMeaning 12 = .ok (.iload_n 2, 1) := by decide +kernel
theorem dX0_setMeaning_13 : decode cX0_setMeaning 13 = .ok (.iastore, 1) := by decide +kernel
theorem dX0_setMeaning_14 : decode cX0_setMeaning 14 = .ok (.aload_n 0, 1) := by decide +kernel
theorem dX0_setMeaning_15 : decode cX0_setMeaning 15 = .ok (.getfield 15, 3) := by decide +kernel
theorem dX0_setMeaning_18 : decode cX0_setMeaning 18 = .ok (.iload_n 1, 1) := by decide +kernel
theorem dX0_setMeaning_19 : decode cX0_setMeaning 19 = .ok (.iload_n 3, 1) := by decide +kernel
theorem dX0_setMeaning_20 : decode cX0_setMeaning 20 = .ok (.iastore, 1) := by decide +kernel
theorem dX0_setMeaning_21 : decode cX0_setMeaning 21 = .ok (.return_, 1) := by decide +kernel
theorem dX0_countTaken_0 : decode cX0_countTaken 0 = .ok (.iconst 0, 1) := by decide +kernel
theorem dX0_countTaken_1 : decode cX0_countTaken 1 = .ok (.istore_n 1, 1) := by decide +kernel
theorem dX0_countTaken_2 : decode cX0_countTaken 2 = .ok (.iconst 0, 1) := by decide +kernel
theorem dX0_countTaken_3 : decode cX0_countTaken 3 = .ok (.istore_n 2, 1) := by decide +kernel
theorem dX0_countTaken_4 : decode cX0_countTaken 4 = .ok (.iload_n 2, 1) := by decide +kernel
theorem dX0_countTaken_5 : decode cX0_countTaken 5 = .ok (.bipush 50, 2) := by decide +kernel
theorem dX0_countTaken_7 : decode cX0_countTaken 7 = .ok (.if_icmp .ge 22, 3) := by decide +kernel
theorem dX0_countTaken_10 : decode cX0_countTaken 10 = .ok (.aload_n 0, 1) := by decide +kernel
theorem dX0_countTaken_11 : decode cX0_countTaken 11 = .ok (.getfield 9, 3) := by decide +kernel
theorem dX0_countTaken_14 : decode cX0_countTaken 14 = .ok (.iload_n 2, 1) := by decide +kernel
theorem dX0_countTaken_15 : decode cX0_countTaken 15 = .ok (.iaload, 1) := by decide +kernel
theorem dX0_countTaken_16 : decode cX0_countTaken 16 = .ok (.iconst (-1), 1) := by decide +kernel
theorem dX0_countTaken_17 : decode cX0_countTaken 17 = .ok (.if_icmp .eq 6, 3) := by decide +kernel
theorem dX0_countTaken_20 : decode cX0_countTaken 20 = .ok (.iinc 1 1, 3) := by decide +kernel
theorem dX0_countTaken_23 : decode cX0_countTaken 23 = .ok (.iinc 2 1, 3) := by decide +kernel
theorem dX0_countTaken_26 : decode cX0_countTaken 26 = .ok (.goto (-22), 3) := by decide +kernel
theorem dX0_countTaken_29 : decode cX0_countTaken 29 = .ok (.iload_n 1, 1) := by decide +kernel
theorem dX0_countTaken_30 : decode cX0_countTaken 30 = .ok (.ireturn, 1) := by decide +kernel
theorem dX0_countLinksTo_0 : decode cX0_countLinksTo 0 = .ok (.iconst 0, 1) := by decide +kernel
theorem dX0_countLinksTo_1 : decode cX0_countLinksTo 1 = .ok (.istore_n 2, 1) := by decide +kernel
theorem dX0_countLinksTo_2 : decode cX0_countLinksTo 2 = .ok (.iconst 0, 1) := by decide +kernel
theorem dX0_countLinksTo_3 : decode cX0_countLinksTo 3 = .ok (.istore_n 3, 1) := by decide +kernel
theorem dX0_countLinksTo_4 : decode cX0_countLinksTo 4 = .ok (.iload_n 3, 1) := by decide +kernel
theorem dX0_countLinksTo_5 : decode cX0_countLinksTo 5 = .ok (.bipush 50, 2) := by decide +kernel
theorem dX0_countLinksTo_7 : decode cX0_countLinksTo 7 = .ok (.if_icmp .ge 22, 3) := by decide +kernel
theorem dX0_countLinksTo_10 : decode cX0_countLinksTo 10 = .ok (.aload_n 0, 1) := by decide +kernel
theorem dX0_countLinksTo_11 : decode cX0_countLinksTo 11 = .ok (.getfield 9, 3) := by decide +kernel
theorem dX0_countLinksTo_14 : decode cX0_countLinksTo 14 = .ok (.iload_n 3, 1) := by decide +kernel
theorem dX0_countLinksTo_15 : decode cX0_countLinksTo 15 = .ok (.iaload, 1) := by decide +kernel
theorem dX0_countLinksTo_16 : decode cX0_countLinksTo 16 = .ok (.iload_n 1, 1) := by decide +kernel
theorem dX0_countLinksTo_17 : decode cX0_countLinksTo 17 = .ok (.if_icmp .ne 6, 3) := by decide +kernel
theorem dX0_countLinksTo_20 : decode cX0_countLinksTo 20 = .ok (.iinc 2 1, 3) := by decide +kernel
theorem dX0_countLinksTo_23 : decode cX0_countLinksTo 23 = .ok (.iinc 3 1, 3) := by decide +kernel
theorem dX0_countLinksTo_26 : decode cX0_countLinksTo 26 = .ok (.goto (-22), 3) := by decide +kernel
theorem dX0_countLinksTo_29 : decode cX0_countLinksTo 29 = .ok (.iload_n 2, 1) := by decide +kernel
theorem dX0_countLinksTo_30 : decode cX0_countLinksTo 30 = .ok (.ireturn, 1) := by decide +kernel
theorem dX0_oldestLink_0 : decode cX0_oldestLink 0 = .ok (.bipush 50, 2) := by decide +kernel
theorem dX0_oldestLink_2 : decode cX0_oldestLink 2 = .ok (.istore_n 2, 1) := by decide +kernel
theorem dX0_oldestLink_3 : decode cX0_oldestLink 3 = .ok (.iconst 0, 1) := by decide +kernel
theorem dX0_oldestLink_4 : decode cX0_oldestLink 4 = .ok (.istore_n 3, 1) := by decide +kernel
theorem dX0_oldestLink_5 : decode cX0_oldestLink 5 = .ok (.iload_n 3, 1) := by decide +kernel
theorem dX0_oldestLink_6 : decode cX0_oldestLink 6 = .ok (.bipush 50, 2) := by decide +kernel
theorem dX0_oldestLink_8 : decode cX0_oldestLink 8 = .ok (.if_icmp .ge 42, 3) := by decide +kernel
theorem dX0_oldestLink_11 : decode cX0_oldestLink 11 = .ok (.aload_n 0, 1) := by decide +kernel
theorem dX0_oldestLink_12 : decode cX0_oldestLink 12 = .ok (.getfield 9, 3) := by decide +kernel
theorem dX0_oldestLink_15 : decode cX0_oldestLink 15 = .ok (.iload_n 3, 1) := by decide +kernel
theorem dX0_oldestLink_16 : decode cX0_oldestLink 16 = .ok (.iaload, 1) := by decide +kernel
theorem dX0_oldestLink_17 : decode cX0_oldestLink 17 = .ok (.iload_n 1, 1) := by decide +kernel
theorem dX0_oldestLink_18 : decode cX0_oldestLink 18 = .ok (.if_icmp .ne 26, 3) := by decide +kernel
theorem dX0_oldestLink_21 : decode cX0_oldestLink 21 = .ok (.iload_n 2, 1) := by decide +kernel
theorem dX0_oldestLink_22 : decode cX0_oldestLink 22 = .ok (.bipush 50, 2) := by decide +kernel
theorem dX0_oldestLink_24 : decode cX0_oldestLink 24 = .ok (.if_icmp .eq 18, 3) := by decide +kernel
theorem dX0_oldestLink_27 : decode cX0_oldestLink 27 = .ok (.aload_n 0, 1) := by decide +kernel
theorem dX0_oldestLink_28 : decode cX0_oldestLink 28 = .ok (.getfield 15, 3) := by decide +kernel
theorem dX0_oldestLink_31 : decode cX0_oldestLink 31 = .ok (.iload_n 3, 1) := by decide +kernel
theorem dX0_oldestLink_32 : decode cX0_oldestLink 32 = .ok (.iaload, 1) := by decide +kernel
theorem dX0_oldestLink_33 : decode cX0_oldestLink 33 = .ok (.aload_n 0, 1) := by decide +kernel
theorem dX0_oldestLink_34 : decode cX0_oldestLink 34 = .ok (.getfield 15, 3) := by decide +kernel
theorem dX0_oldestLink_37 : decode cX0_oldestLink 37 = .ok (.iload_n 2, 1) := by decide +kernel
theorem dX0_oldestLink_38 : decode cX0_oldestLink 38 = .ok (.iaload, 1) := by decide +kernel
theorem dX0_oldestLink_39 : decode cX0_oldestLink 39 = .ok (.if_icmp .ge 5, 3) := by decide +kernel
theorem dX0_oldestLink_42 : decode cX0_oldestLink 42 = .ok (.iload_n 3, 1) := by decide +kernel
theorem dX0_oldestLink_43 : decode cX0_oldestLink 43 = .ok (.istore_n 2, 1) := by decide +kernel
theorem dX0_oldestLink_44 : decode cX0_oldestLink 44 = .ok (.iinc 3 1, 3) := by decide +kernel
theorem dX0_oldestLink_47 : decode cX0_oldestLink 47 = .ok (.goto (-42), 3) := by decide +kernel
theorem dX0_oldestLink_50 : decode cX0_oldestLink 50 = .ok (.iload_n 2, 1) := by decide +kernel
theorem dX0_oldestLink_51 : decode cX0_oldestLink 51 = .ok (.ireturn, 1) := by decide +kernel
theorem dX0_isWithin_0 : decode cX0_isWithin 0 = .ok (.aload_n 0, 1) := by decide +kernel
theorem dX0_isWithin_1 : decode cX0_isWithin 1 = .ok (.astore_n 2, 1) := by decide +kernel
theorem dX0_isWithin_2 : decode cX0_isWithin 2 = .ok (.iconst 0, 1) := by decide +kernel
theorem dX0_isWithin_3 : decode cX0_isWithin 3 = .ok (.istore_n 3, 1) := by decide +kernel
theorem dX0_isWithin_4 : decode cX0_isWithin 4 = .ok (.aload_n 2, 1) := by decide +kernel
theorem dX0_isWithin_5 : decode cX0_isWithin 5 = .ok (.ifnull 27, 3) := by decide +kernel
theorem dX0_isWithin_8 : decode cX0_isWithin 8 = .ok (.iload_n 3, 1) := by decide +kernel
theorem dX0_isWithin_9 : decode cX0_isWithin 9 = .ok (.bipush 12, 2) := by decide +kernel
theorem dX0_isWithin_11 : decode cX0_isWithin 11 = .ok (.if_icmp .ge 21, 3) := by decide +kernel
theorem dX0_isWithin_14 : decode cX0_isWithin 14 = .ok (.aload_n 2, 1) := by decide +kernel
theorem dX0_isWithin_15 : decode cX0_isWithin 15 = .ok (.aload_n 1, 1) := by decide +kernel
theorem dX0_isWithin_16 : decode cX0_isWithin 16 = .ok (.if_acmp .ne 5, 3) := by decide +kernel
theorem dX0_isWithin_19 : decode cX0_isWithin 19 = .ok (.iconst 1, 1) := by decide +kernel
theorem dX0_isWithin_20 : decode cX0_isWithin 20 = .ok (.ireturn, 1) := by decide +kernel
theorem dX0_isWithin_21 : decode cX0_isWithin 21 = .ok (.aload_n 2, 1) := by decide +kernel
theorem dX0_isWithin_22 : decode cX0_isWithin 22 = .ok (.getfield 33, 3) := by decide +kernel
theorem dX0_isWithin_25 : decode cX0_isWithin 25 = .ok (.astore_n 2, 1) := by decide +kernel
theorem dX0_isWithin_26 : decode cX0_isWithin 26 = .ok (.iinc 3 1, 3) := by decide +kernel
theorem dX0_isWithin_29 : decode cX0_isWithin 29 = .ok (.goto (-25), 3) := by decide +kernel
theorem dX0_isWithin_32 : decode cX0_isWithin 32 = .ok (.iconst 0, 1) := by decide +kernel
theorem dX0_isWithin_33 : decode cX0_isWithin 33 = .ok (.ireturn, 1) := by decide +kernel
theorem dX0_isClient_0 : decode cX0_isClient 0 = .ok (.iload_n 0, 1) := by decide +kernel
theorem dX0_isClient_1 : decode cX0_isClient 1 = .ok (.ifCond .lt 12, 3) := by decide +kernel
theorem dX0_isClient_4 : decode cX0_isClient 4 = .ok (.iload_n 0, 1) := by decide +kernel
theorem dX0_isClient_5 : decode cX0_isClient 5 = .ok (.iconst 4, 1) := by decide +kernel
theorem dX0_isClient_6 : decode cX0_isClient 6 = .ok (.if_icmp .ge 7, 3) := by decide +kernel
theorem dX0_isClient_9 : decode cX0_isClient 9 = .ok (.iconst 1, 1) := by decide +kernel
theorem dX0_isClient_10 : decode cX0_isClient 10 = .ok (.goto 4, 3) := by decide +kernel
theorem dX0_isClient_13 : decode cX0_isClient 13 = .ok (.iconst 0, 1) := by decide +kernel
theorem dX0_isClient_14 : decode cX0_isClient 14 = .ok (.ireturn, 1) := by decide +kernel
theorem dX0_leaseRuns_0 : decode cX0_leaseRuns 0 = .ok (.iload_n 1, 1) := by decide +kernel
theorem dX0_leaseRuns_1 : decode cX0_leaseRuns 1 = .ok (.invokestatic 47, 3) := by decide +kernel
theorem dX0_leaseRuns_4 : decode cX0_leaseRuns 4 = .ok (.ifCond .eq 26, 3) := by decide +kernel
theorem dX0_leaseRuns_7 : decode cX0_leaseRuns 7 = .ok (.iload_n 2, 1) := by decide +kernel
theorem dX0_leaseRuns_8 : decode cX0_leaseRuns 8 = .ok (.invokestatic 43, 3) := by decide +kernel
theorem dX0_leaseRuns_11 : decode cX0_leaseRuns 11 = .ok (.ifCond .eq 19, 3) := by decide +kernel
theorem dX0_leaseRuns_14 : decode cX0_leaseRuns 14 = .ok (.aload_n 0, 1) := by decide +kernel
theorem dX0_leaseRuns_15 : decode cX0_leaseRuns 15 = .ok (.getfield 20, 3) := by decide +kernel
theorem dX0_leaseRuns_18 : decode cX0_leaseRuns 18 = .ok (.iload_n 1, 1) := by decide +kernel
theorem dX0_leaseRuns_19 : decode cX0_leaseRuns 19 = .ok (.aaload, 1) := by decide +kernel
theorem dX0_leaseRuns_20 : decode cX0_leaseRuns 20 = .ok (.iload_n 2, 1) := by decide +kernel
theorem dX0_leaseRuns_21 : decode cX0_leaseRuns 21 = .ok (.iaload, 1) := by decide +kernel
theorem dX0_leaseRuns_22 : decode cX0_leaseRuns 22 = .ok (.iload_n 3, 1) := by decide +kernel
theorem dX0_leaseRuns_23 : decode cX0_leaseRuns 23 = .ok (.if_icmp .le 7, 3) := by decide +kernel
theorem dX0_leaseRuns_26 : decode cX0_leaseRuns 26 = .ok (.iconst 1, 1) := by decide +kernel
theorem dX0_leaseRuns_27 : decode cX0_leaseRuns 27 = .ok (.goto 4, 3) := by decide +kernel
theorem dX0_leaseRuns_30 : decode cX0_leaseRuns 30 = .ok (.iconst 0, 1) := by decide +kernel
theorem dX0_leaseRuns_31 : decode cX0_leaseRuns 31 = .ok (.ireturn, 1) := by decide +kernel
theorem dX0_setLeaseEnd_0 : decode cX0_setLeaseEnd 0 = .ok (.iload_n 1, 1) := by decide +kernel
theorem dX0_setLeaseEnd_1 : decode cX0_setLeaseEnd 1 = .ok (.invokestatic 47, 3) := by decide +kernel
theorem dX0_setLeaseEnd_4 : decode cX0_setLeaseEnd 4 = .ok (.ifCond .eq 19, 3) := by decide +kernel
theorem dX0_setLeaseEnd_7 : decode cX0_setLeaseEnd 7 = .ok (.iload_n 2, 1) := by decide +kernel
theorem dX0_setLeaseEnd_8 : decode cX0_setLeaseEnd 8 = .ok (.invokestatic 43, 3) := by decide +kernel
theorem dX0_setLeaseEnd_11 : decode cX0_setLeaseEnd 11 = .ok (.ifCond .eq 12, 3) := by decide +kernel
theorem dX0_setLeaseEnd_14 : decode cX0_setLeaseEnd 14 = .ok (.aload_n 0, 1) := by decide +kernel
theorem dX0_setLeaseEnd_15 : decode cX0_setLeaseEnd 15 = .ok (.getfield 20, 3) := by decide +kernel
theorem dX0_setLeaseEnd_18 : decode cX0_setLeaseEnd 18 = .ok (.iload_n 1, 1) := by decide +kernel
theorem dX0_setLeaseEnd_19 : decode cX0_setLeaseEnd 19 = .ok (.aaload, 1) := by decide +kernel
theorem dX0_setLeaseEnd_20 : decode cX0_setLeaseEnd 20 = .ok (.iload_n 2, 1) := by decide +kernel
theorem dX0_setLeaseEnd_21 : decode cX0_setLeaseEnd 21 = .ok (.iload_n 3, 1) := by decide +kernel
theorem dX0_setLeaseEnd_22 : decode cX0_setLeaseEnd 22 = .ok (.iastore, 1) := by decide +kernel
theorem dX0_setLeaseEnd_23 : decode cX0_setLeaseEnd 23 = .ok (.return_, 1) := by decide +kernel
theorem dX0_fragmentAt_0 : decode cX0_fragmentAt 0 = .ok (.aload_n 0, 1) := by decide +kernel
theorem dX0_fragmentAt_1 : decode cX0_fragmentAt 1 = .ok (.getfield 25, 3) := by decide +kernel
theorem dX0_fragmentAt_4 : decode cX0_fragmentAt 4 = .ok (.iload_n 1, 1) := by decide +kernel
theorem dX0_fragmentAt_5 : decode cX0_fragmentAt 5 = .ok (.bipush 7, 2) := by decide +kernel
theorem dX0_fragmentAt_7 : decode cX0_fragmentAt 7 = .ok (.iand, 1) := by decide +kernel
theorem dX0_fragmentAt_8 : decode cX0_fragmentAt 8 = .ok (.aaload, 1) := by decide +kernel
theorem dX0_fragmentAt_9 : decode cX0_fragmentAt 9 = .ok (.areturn, 1) := by decide +kernel
theorem dX0_fragmentOfName_0 : decode cX0_fragmentOfName 0 = .ok (.aload_n 0, 1) := by decide +kernel
theorem dX0_fragmentOfName_1 : decode cX0_fragmentOfName 1 = .ok (.iconst 5, 1) := by decide +kernel
theorem dX0_fragmentOfName_2 : decode cX0_fragmentOfName 2 = .ok (.iload_n 1, 1) := by decide +kernel
theorem dX0_fragmentOfName_3 : decode cX0_fragmentOfName 3 = .ok (.imul, 1) := by decide +kernel
theorem dX0_fragmentOfName_4 : decode cX0_fragmentOfName 4 = .ok (.iconst 3, 1) := by decide +kernel
theorem dX0_fragmentOfName_5 : decode cX0_fragmentOfName 5 = .ok (.iadd, 1) := by decide +kernel
theorem dX0_fragmentOfName_6 : decode cX0_fragmentOfName 6 = .ok (.invokevirtual 54, 3) := by decide +kernel
theorem dX0_fragmentOfName_9 : decode cX0_fragmentOfName 9 = .ok (.areturn, 1) := by decide +kernel
theorem dX1_init_0 : decode cX1_init 0 = .ok (.aload_n 0, 1) := by decide +kernel
theorem dX1_init_1 : decode cX1_init 1 = .ok (.invokespecial 1, 3) := by decide +kernel
theorem dX1_init_4 : decode cX1_init 4 = .ok (.aload_n 0, 1) := by decide +kernel
theorem dX1_init_5 : decode cX1_init 5 = .ok (.iload_n 1, 1) := by decide +kernel
theorem dX1_init_6 : decode cX1_init 6 = .ok (.putfield 7, 3) := by decide +kernel
theorem dX1_init_9 : decode cX1_init 9 = .ok (.aload_n 0, 1) := by decide +kernel
theorem dX1_init_10 : decode cX1_init 10 = .ok (.iload_n 2, 1) := by decide +kernel
theorem dX1_init_11 : decode cX1_init 11 = .ok (.putfield 13, 3) := by decide +kernel
theorem dX1_init_14 : decode cX1_init 14 = .ok (.aload_n 0, 1) := by decide +kernel
theorem dX1_init_15 : decode cX1_init 15 = .ok (.iload_n 3, 1) := by decide +kernel
theorem dX1_init_16 : decode cX1_init 16 = .ok (.putfield 16, 3) := by decide +kernel
theorem dX1_init_19 : decode cX1_init 19 = .ok (.aload_n 0, 1) := by decide +kernel
theorem dX1_init_20 : decode cX1_init 20 = .ok (.iload 4, 2) := by decide +kernel
theorem dX1_init_22 : decode cX1_init 22 = .ok (.putfield 19, 3) := by decide +kernel
theorem dX1_init_25 : decode cX1_init 25 = .ok (.aload_n 0, 1) := by decide +kernel
theorem dX1_init_26 : decode cX1_init 26 = .ok (.iload 5, 2) := by decide +kernel
theorem dX1_init_28 : decode cX1_init 28 = .ok (.putfield 22, 3) := by decide +kernel
theorem dX1_init_31 : decode cX1_init 31 = .ok (.return_, 1) := by decide +kernel
theorem dX2_init_0 : decode cX2_init 0 = .ok (.aload_n 0, 1) := by decide +kernel
theorem dX2_init_1 : decode cX2_init 1 = .ok (.invokespecial 1, 3) := by decide +kernel
theorem dX2_init_4 : decode cX2_init 4 = .ok (.aload_n 0, 1) := by decide +kernel
theorem dX2_init_5 : decode cX2_init 5 = .ok (.bipush 12, 2) := by decide +kernel
theorem dX2_init_7 : decode cX2_init 7 = .ok (.anewarray 9, 3) := by decide +kernel
theorem dX2_init_10 : decode cX2_init 10 = .ok (.putfield 11, 3) := by decide +kernel
theorem dX2_init_13 : decode cX2_init 13 = .ok (.aload_n 0, 1) := by decide +kernel
theorem dX2_init_14 : decode cX2_init 14 = .ok (.iconst 4, 1) := by decide +kernel
theorem dX2_init_15 : decode cX2_init 15 = .ok (.newarray .int, 2) := by decide +kernel
theorem dX2_init_17 : decode cX2_init 17 = .ok (.putfield 15, 3) := by decide +kernel
theorem dX2_init_20 : decode cX2_init 20 = .ok (.aload_n 0, 1) := by decide +kernel
theorem dX2_init_21 : decode cX2_init 21 = .ok (.iconst 4, 1) := by decide +kernel
theorem dX2_init_22 : decode cX2_init 22 = .ok (.newarray .int, 2) := by decide +kernel
theorem dX2_init_24 : decode cX2_init 24 = .ok (.putfield 19, 3) := by decide +kernel
theorem dX2_init_27 : decode cX2_init 27 = .ok (.aload_n 0, 1) := by decide +kernel
theorem dX2_init_28 : decode cX2_init 28 = .ok (.getfield 11, 3) := by decide +kernel
theorem dX2_init_31 : decode cX2_init 31 = .ok (.iconst 0, 1) := by decide +kernel
theorem dX2_init_32 : decode cX2_init 32 = .ok (.new 9, 3) := by decide +kernel
theorem dX2_init_35 : decode cX2_init 35 = .ok (.dup, 1) := by decide +kernel
theorem dX2_init_36 : decode cX2_init 36 = .ok (.iconst 0, 1) := by decide +kernel
theorem dX2_init_37 : decode cX2_init 37 = .ok (.aconst_null, 1) := by decide +kernel
theorem dX2_init_38 : decode cX2_init 38 = .ok (.iconst 0, 1) := by decide +kernel
theorem dX2_init_39 : decode cX2_init 39 = .ok (.iconst 0, 1) := by decide +kernel
theorem dX2_init_40 : decode cX2_init 40 = .ok (.invokespecial 22, 3) := by decide +kernel
theorem dX2_init_43 : decode cX2_init 43 = .ok (.aastore, 1) := by decide +kernel
theorem dX2_init_44 : decode cX2_init 44 = .ok (.aload_n 0, 1) := by decide +kernel
theorem dX2_init_45 : decode cX2_init 45 = .ok (.iconst 1, 1) := by decide +kernel
theorem dX2_init_46 : decode cX2_init 46 = .ok (.putfield 25, 3) := by decide +kernel
theorem dX2_init_49 : decode cX2_init 49 = .ok (.return_, 1) := by decide +kernel
theorem dX2_lookup_0 : decode cX2_lookup 0 = .ok (.iload_n 1, 1) := by decide +kernel
theorem dX2_lookup_1 : decode cX2_lookup 1 = .ok (.invokestatic 29, 3) := by decide +kernel
theorem dX2_lookup_4 : decode cX2_lookup 4 = .ok (.iload_n 3, 1) := by decide +kernel
theorem dX2_lookup_5 : decode cX2_lookup 5 = .ok (.invokestatic 33, 3) := by decide +kernel
theorem dX2_lookup_8 : decode cX2_lookup 8 = .ok (.aload_n 0, 1) := by decide +kernel
theorem dX2_lookup_9 : decode cX2_lookup 9 = .ok (.iload_n 2, 1) := by decide +kernel
theorem dX2_lookup_10 : decode cX2_lookup 10 = .ok (.invokevirtual 36, 3) := by decide +kernel
theorem dX2_lookup_13 : decode cX2_lookup 13 = .ok (.astore 4, 2) := by decide +kernel
theorem dX2_lookup_15 : decode cX2_lookup 15 = .ok (.aload 4, 2) := by decide +kernel
theorem dX2_lookup_17 : decode cX2_lookup 17 = .ok (.iload_n 1, 1) := by decide +kernel
theorem dX2_lookup_18 : decode cX2_lookup 18 = .ok (.iload_n 3, 1) := by decide +kernel
theorem dX2_lookup_19 : decode cX2_lookup 19 = .ok (.aload_n 0, 1) := by decide +kernel
theorem dX2_lookup_20 : decode cX2_lookup 20 = .ok (.getfield 40, 3) := by decide +kernel
theorem dX2_lookup_23 : decode cX2_lookup 23 = .ok (.invokevirtual 43, 3) := by decide +kernel
theorem dX2_lookup_26 : decode cX2_lookup 26 = .ok (.ifCond .eq 16, 3) := by decide +kernel
theorem dX2_lookup_29 : decode cX2_lookup 29 = .ok (.aload_n 0, 1) := by decide +kernel
theorem dX2_lookup_30 : decode cX2_lookup 30 = .ok (.getfield 19, 3) := by decide +kernel
theorem dX2_lookup_33 : decode cX2_lookup 33 = .ok (.iload_n 1, 1) := by decide +kernel
theorem dX2_lookup_34 : decode cX2_lookup 34 = .ok (.dup2, 1) := by decide +kernel
theorem dX2_lookup_35 : decode cX2_lookup 35 = .ok (.iaload, 1) := by decide +kernel
theorem dX2_lookup_36 : decode cX2_lookup 36 = .ok (.iconst 1, 1) := by decide +kernel
theorem dX2_lookup_37 : decode cX2_lookup 37 = .ok (.iadd, 1) := by decide +kernel
theorem dX2_lookup_38 : decode cX2_lookup 38 = .ok (.iastore, 1) := by decide +kernel
theorem dX2_lookup_39 : decode cX2_lookup 39 = .ok (.goto 32, 3) := by decide +kernel
theorem dX2_lookup_42 : decode cX2_lookup 42 = .ok (.aload 4, 2) := by decide +kernel
theorem dX2_lookup_44 : decode cX2_lookup 44 = .ok (.iload_n 3, 1) := by decide +kernel
theorem dX2_lookup_45 : decode cX2_lookup 45 = .ok (.invokevirtual 47, 3) := by decide +kernel
theorem dX2_lookup_48 : decode cX2_lookup 48 = .ok (.dup, 1) := by decide +kernel
theorem dX2_lookup_49 : decode cX2_lookup 49 = .ok (.getfield 51, 3) := by decide +kernel
theorem dX2_lookup_52 : decode cX2_lookup 52 = .ok (.iconst 1, 1) := by decide +kernel
theorem dX2_lookup_53 : decode cX2_lookup 53 = .ok (.iadd, 1) := by decide +kernel
theorem dX2_lookup_54 : decode cX2_lookup 54 = .ok (.putfield 51, 3) := by decide +kernel
theorem dX2_lookup_57 : decode cX2_lookup 57 = .ok (.aload 4, 2) := by decide +kernel
theorem dX2_lookup_59 : decode cX2_lookup 59 = .ok (.iload_n 1, 1) := by decide +kernel
theorem dX2_lookup_60 : decode cX2_lookup 60 = .ok (.iload_n 3, 1) := by decide +kernel
theorem dX2_lookup_61 : decode cX2_lookup 61 = .ok (.aload_n 0, 1) := by decide +kernel
theorem dX2_lookup_62 : decode cX2_lookup 62 = .ok (.getfield 40, 3) := by decide +kernel
theorem dX2_lookup_65 : decode cX2_lookup 65 = .ok (.bipush 10, 2) := by decide +kernel
theorem dX2_lookup_67 : decode cX2_lookup 67 = .ok (.iadd, 1) := by decide +kernel
theorem dX2_lookup_68 : decode cX2_lookup 68 = .ok (.invokevirtual 56, 3) := by decide +kernel
theorem dX2_lookup_71 : decode cX2_lookup 71 = .ok (.aload 4, 2) := by decide +kernel
theorem dX2_lookup_73 : decode cX2_lookup 73 = .ok (.iload_n 3, 1) := by decide +kernel
theorem dX2_lookup_74 : decode cX2_lookup 74 = .ok (.invokevirtual 60, 3) := by decide +kernel
theorem dX2_lookup_77 : decode cX2_lookup 77 = .ok (.ireturn, 1) := by decide +kernel
theorem dX2_makeDirectory_0 : decode cX2_makeDirectory 0 = .ok (.iload_n 1, 1) := by decide +kernel
theorem dX2_makeDirectory_1 : decode cX2_makeDirectory 1 = .ok (.invokestatic 29, 3) := by decide +kernel
theorem dX2_makeDirectory_4 : decode cX2_makeDirectory 4 = .ok (.iload_n 3, 1) := by decide +kernel
theorem dX2_makeDirectory_5 : decode cX2_makeDirectory 5 = .ok (.invokestatic 33, 3) := by decide +kernel
theorem dX2_makeDirectory_8 : decode cX2_makeDirectory 8 = .ok (.aload_n 0, 1) := by decide +kernel
theorem dX2_makeDirectory_9 : decode cX2_makeDirectory 9 = .ok (.iload_n 2, 1) := by decide +kernel
theorem dX2_makeDirectory_10 : decode cX2_makeDirectory 10 = .ok (.invokevirtual 36, 3) := by decide +kernel
theorem dX2_makeDirectory_13 : decode cX2_makeDirectory 13 = .ok (.astore 4, 2) := by decide +kernel
theorem dX2_makeDirectory_15 : decode cX2_makeDirectory 15 = .ok (.aload_n 0, 1) := by decide +kernel
theorem dX2_makeDirectory_16 : decode cX2_makeDirectory 16 = .ok (.aload 4, 2) := by decide +kernel
theorem dX2_makeDirectory_18 : decode cX2_makeDirectory 18 = .ok (.iload_n 3, 1) := by decide +kernel
theorem dX2_makeDirectory_19 : decode cX2_makeDirectory 19 = .ok (.invokevirtual 64, 3) := by decide +kernel
theorem dX2_makeDirectory_22 : decode cX2_makeDirectory 22 = .ok (.aload_n 0, 1) := by decide +kernel
theorem dX2_makeDirectory_23 : decode cX2_makeDirectory 23 = .ok (.getfield 25, 3) := by decide +kernel
theorem dX2_makeDirectory_26 : decode cX2_makeDirectory 26 = .ok (.istore 5, 2) := by decide +kernel
theorem dX2_makeDirectory_28 : decode cX2_makeDirectory 28 = .ok (.iload 5, 2) := by decide +kernel
theorem dX2_makeDirectory_30 : decode cX2_makeDirectory 30 = .ok (.bipush 12, 2) := by decide +kernel
theorem dX2_makeDirectory_32 : decode cX2_makeDirectory 32 = .ok (.if_icmp .lt 13, 3) := by decide +kernel
theorem dX2_makeDirectory_35 : decode cX2_makeDirectory 35 = .ok (.new 68, 3) := by decide +kernel
theorem dX2_makeDirectory_38 : decode cX2_makeDirectory 38 = .ok (.dup, 1) := by decide +kernel
theorem dX2_makeDirectory_39 : decode cX2_makeDirectory 39 = .ok (.ldc 70, 2) := by decide +kernel
theorem dX2_makeDirectory_41 : decode cX2_makeDirectory 41 = .ok (.invokespecial 72, 3) := by decide +kernel
theorem dX2_makeDirectory_44 : decode cX2_makeDirectory 44 = .ok (.athrow, 1) := by decide +kernel
theorem dX2_makeDirectory_45 : decode cX2_makeDirectory 45 = .ok (.aload_n 0, 1) := by decide +kernel
theorem dX2_makeDirectory_46 : decode cX2_makeDirectory 46 = .ok (.getfield 11, 3) := by decide +kernel
theorem dX2_makeDirectory_49 : decode cX2_makeDirectory 49 = .ok (.iload 5, 2) := by decide +kernel
theorem dX2_makeDirectory_51 : decode cX2_makeDirectory 51 = .ok (.new 9, 3) := by decide +kernel
theorem dX2_makeDirectory_54 : decode cX2_makeDirectory 54 = .ok (.dup, 1) := by decide +kernel
theorem dX2_makeDirectory_55 : decode cX2_makeDirectory 55 = .ok (.iload 5, 2) := by decide +kernel
theorem dX2_makeDirectory_57 : decode cX2_makeDirectory 57 = .ok (.aload 4, 2) := by decide +kernel
theorem dX2_makeDirectory_59 : decode cX2_makeDirectory 59 = .ok (.iload_n 3, 1) := by decide +kernel
theorem dX2_makeDirectory_60 : decode cX2_makeDirectory 60 = .ok (.iconst (-1), 1) := by decide +kernel
theorem dX2_makeDirectory_61 : decode cX2_makeDirectory 61 = .ok (.invokespecial 22, 3) := by decide +kernel
theorem dX2_makeDirectory_64 : decode cX2_makeDirectory 64 = .ok (.aastore, 1) := by decide +kernel
theorem dX2_makeDirectory_65 : decode cX2_makeDirectory 65 = .ok (.aload_n 0, 1) := by decide +kernel
theorem dX2_makeDirectory_66 : decode cX2_makeDirectory 66 = .ok (.dup, 1) := by decide +kernel
theorem dX2_makeDirectory_67 : decode cX2_makeDirectory 67 = .ok (.getfield 25, 3) := by decide +kernel
theorem dX2_makeDirectory_70 : decode cX2_makeDirectory 70 = .ok (.iconst 1, 1) := by decide +kernel
theorem dX2_makeDirectory_71 : decode cX2_makeDirectory 71 = .ok (.iadd, 1) := by decide +kernel
theorem dX2_makeDirectory_72 : decode cX2_makeDirectory 72 = .ok (.putfield 25, 3) := by decide +kernel
theorem dX2_makeDirectory_75 : decode cX2_makeDirectory 75 = .ok (.aload_n 0, 1) := by decide +kernel
theorem dX2_makeDirectory_76 : decode cX2_makeDirectory 76 = .ok (.iload_n 1, 1) := by decide +kernel
theorem dX2_makeDirectory_77 : decode cX2_makeDirectory 77 = .ok (.aload 4, 2) := by decide +kernel
theorem dX2_makeDirectory_79 : decode cX2_makeDirectory 79 = .ok (.iload_n 3, 1) := by decide +kernel
theorem dX2_makeDirectory_80 : decode cX2_makeDirectory 80 = .ok (.bipush (-2), 2) := by decide +kernel
theorem dX2_makeDirectory_82 : decode cX2_makeDirectory 82 = .ok (.iload 5, 2) := by decide +kernel
theorem dX2_makeDirectory_84 : decode cX2_makeDirectory 84 = .ok (.isub, 1) := by decide +kernel
theorem dX2_makeDirectory_85 : decode cX2_makeDirectory 85 = .ok (.iconst 0, 1) := by decide +kernel
theorem dX2_makeDirectory_86 : decode cX2_makeDirectory 86 = .ok (.invokevirtual 75, 3) := by decide +kernel
theorem dX2_makeDirectory_89 : decode cX2_makeDirectory 89 = .ok (.iload 5, 2) := by decide +kernel
theorem dX2_makeDirectory_91 : decode cX2_makeDirectory 91 = .ok (.ireturn, 1) := by decide +kernel
theorem dX2_makeFile_0 : decode cX2_makeFile 0 = .ok (.iload_n 1, 1) := by decide +kernel
theorem dX2_makeFile_1 : decode cX2_makeFile 1 = .ok (.invokestatic 29, 3) := by decide +kernel
theorem dX2_makeFile_4 : decode cX2_makeFile 4 = .ok (.iload_n 3, 1) := by decide +kernel
theorem dX2_makeFile_5 : decode cX2_makeFile 5 = .ok (.invokestatic 33, 3) := by decide +kernel
theorem dX2_makeFile_8 : decode cX2_makeFile 8 = .ok (.aload_n 0, 1) := by decide +kernel
theorem dX2_makeFile_9 : decode cX2_makeFile 9 = .ok (.iload_n 2, 1) := by decide +kernel
theorem dX2_makeFile_10 : decode cX2_makeFile 10 = .ok (.invokevirtual 36, 3) := by decide +kernel
theorem dX2_makeFile_13 : decode cX2_makeFile 13 = .ok (.astore 4, 2) := by decide +kernel
theorem dX2_makeFile_15 : decode cX2_makeFile 15 = .ok (.aload_n 0, 1) := by decide +kernel
theorem dX2_makeFile_16 : decode cX2_makeFile 16 = .ok (.aload 4, 2) := by decide +kernel
theorem dX2_makeFile_18 : decode cX2_makeFile 18 = .ok (.iload_n 3, 1) := by decide +kernel
theorem dX2_makeFile_19 : decode cX2_makeFile 19 = .ok (.invokevirtual 64, 3) := by decide +kernel
theorem dX2_makeFile_22 : decode cX2_makeFile 22 = .ok (.aload_n 0, 1) := by decide +kernel
theorem dX2_makeFile_23 : decode cX2_makeFile 23 = .ok (.getfield 79, 3) := by decide +kernel
theorem dX2_makeFile_26 : decode cX2_makeFile 26 = .ok (.bipush 30, 2) := by decide +kernel
theorem dX2_makeFile_28 : decode cX2_makeFile 28 = .ok (.if_icmp .lt 13, 3) := by decide +kernel
theorem dX2_makeFile_31 : decode cX2_makeFile 31 = .ok (.new 68, 3) := by decide +kernel
theorem dX2_makeFile_34 : decode cX2_makeFile 34 = .ok (.dup, 1) := by decide +kernel
theorem dX2_makeFile_35 : decode cX2_makeFile 35 = .ok (.ldc 82, 2) := by decide +kernel
theorem dX2_makeFile_37 : decode cX2_makeFile 37 = .ok (.invokespecial 72, 3) := by decide +kernel
theorem dX2_makeFile_40 : decode cX2_makeFile 40 = .ok (.athrow, 1) := by decide +kernel
theorem dX2_makeFile_41 : decode cX2_makeFile 41 = .ok (.aload_n 0, 1) := by decide +kernel
theorem dX2_makeFile_42 : decode cX2_makeFile 42 = .ok (.getfield 79, 3) := by decide +kernel
theorem dX2_makeFile_45 : decode cX2_makeFile 45 = .ok (.istore 5, 2) := by decide +kernel
theorem dX2_makeFile_47 : decode cX2_makeFile 47 = .ok (.aload_n 0, 1) := by decide +kernel
theorem dX2_makeFile_48 : decode cX2_makeFile 48 = .ok (.dup, 1) := by decide +kernel
theorem dX2_makeFile_49 : decode cX2_makeFile 49 = .ok (.getfield 79, 3) := by decide +kernel
theorem dX2_makeFile_52 : decode cX2_makeFile 52 = .ok (.iconst 1, 1) := by decide +kernel
theorem dX2_makeFile_53 : decode cX2_makeFile 53 = .ok (.iadd, 1) := by decide +kernel
theorem dX2_makeFile_54 : decode cX2_makeFile 54 = .ok (.putfield 79, 3) := by decide +kernel
theorem dX2_makeFile_57 : decode cX2_makeFile 57 = .ok (.aload_n 0, 1) := by decide +kernel
theorem dX2_makeFile_58 : decode cX2_makeFile 58 = .ok (.iload_n 1, 1) := by decide +kernel
theorem dX2_makeFile_59 : decode cX2_makeFile 59 = .ok (.aload 4, 2) := by decide +kernel
theorem dX2_makeFile_61 : decode cX2_makeFile 61 = .ok (.iload_n 3, 1) := by decide +kernel
theorem dX2_makeFile_62 : decode cX2_makeFile 62 = .ok (.iload 5, 2) := by decide +kernel
theorem dX2_makeFile_64 : decode cX2_makeFile 64 = .ok (.invokevirtual 84, 3) := by decide +kernel
theorem dX2_makeFile_67 : decode cX2_makeFile 67 = .ok (.iload 5, 2) := by decide +kernel
theorem dX2_makeFile_69 : decode cX2_makeFile 69 = .ok (.ireturn, 1) := by decide +kernel
theorem dX2_link_0 : decode cX2_link 0 = .ok (.iload_n 1, 1) := by decide +kernel
theorem dX2_link_1 : decode cX2_link 1 = .ok (.invokestatic 29, 3) := by decide +kernel
theorem dX2_link_4 : decode cX2_link 4 = .ok (.iload_n 3, 1) := by decide +kernel
theorem dX2_link_5 : decode cX2_link 5 = .ok (.invokestatic 33, 3) := by decide +kernel
theorem dX2_link_8 : decode cX2_link 8 = .ok (.aload_n 0, 1) := by decide +kernel
theorem dX2_link_9 : decode cX2_link 9 = .ok (.iload_n 2, 1) := by decide +kernel
theorem dX2_link_10 : decode cX2_link 10 = .ok (.invokevirtual 36, 3) := by decide +kernel
theorem dX2_link_13 : decode cX2_link 13 = .ok (.astore 5, 2) := by decide +kernel
theorem dX2_link_15 : decode cX2_link 15 = .ok (.aload_n 0, 1) := by decide +kernel
theorem dX2_link_16 : decode cX2_link 16 = .ok (.iload 4, 2) := by decide +kernel
theorem dX2_link_18 : decode cX2_link 18 = .ok (.invokevirtual 87, 3) := by decide +kernel
theorem dX2_link_21 : decode cX2_link 21 = .ok (.aload_n 0, 1) := by decide +kernel
theorem dX2_link_22 : decode cX2_link 22 = .ok (.iload 4, 2) := by decide +kernel
theorem dX2_link_24 : decode cX2_link 24 = .ok (.invokevirtual 90, 3) := by decide +kernel
theorem dX2_link_27 : decode cX2_link 27 = .ok (.istore 6, 2) := by decide +kernel
theorem dX2_link_29 : decode cX2_link 29 = .ok (.iload 6, 2) := by decide +kernel
theorem dX2_link_31 : decode cX2_link 31 = .ok (.ifCond .ne 13, 3) := by decide +kernel
theorem dX2_link_34 : decode cX2_link 34 = .ok (.new 93, 3) := by decide +kernel
theorem dX2_link_37 : decode cX2_link 37 = .ok (.dup, 1) := by decide +kernel
theorem dX2_link_38 : decode cX2_link 38 = .ok (.ldc 95, 2) := by decide +kernel
theorem dX2_link_40 : decode cX2_link 40 = .ok (.invokespecial 97, 3) := by decide +kernel
theorem dX2_link_43 : decode cX2_link 43 = .ok (.athrow, 1) := by decide +kernel
theorem dX2_link_44 : decode cX2_link 44 = .ok (.aload_n 0, 1) := by decide +kernel
theorem dX2_link_45 : decode cX2_link 45 = .ok (.aload 5, 2) := by decide +kernel
theorem dX2_link_47 : decode cX2_link 47 = .ok (.iload_n 3, 1) := by decide +kernel
theorem dX2_link_48 : decode cX2_link 48 = .ok (.invokevirtual 64, 3) := by decide +kernel
theorem dX2_link_51 : decode cX2_link 51 = .ok (.aload_n 0, 1) := by decide +kernel
theorem dX2_link_52 : decode cX2_link 52 = .ok (.iload_n 1, 1) := by decide +kernel
theorem dX2_link_53 : decode cX2_link 53 = .ok (.aload 5, 2) := by decide +kernel
theorem dX2_link_55 : decode cX2_link 55 = .ok (.iload_n 3, 1) := by decide +kernel
theorem dX2_link_56 : decode cX2_link 56 = .ok (.iload 4, 2) := by decide +kernel
theorem dX2_link_58 : decode cX2_link 58 = .ok (.invokevirtual 84, 3) := by decide +kernel
theorem dX2_link_61 : decode cX2_link 61 = .ok (.iload 6, 2) := by decide +kernel
theorem dX2_link_63 : decode cX2_link 63 = .ok (.iconst 1, 1) := by decide +kernel
theorem dX2_link_64 : decode cX2_link 64 = .ok (.iadd, 1) := by decide +kernel
theorem dX2_link_65 : decode cX2_link 65 = .ok (.ireturn, 1) := by decide +kernel
theorem dX2_remove_0 : decode cX2_remove 0 = .ok (.iload_n 1, 1) := by decide +kernel
theorem dX2_remove_1 : decode cX2_remove 1 = .ok (.invokestatic 29, 3) := by decide +kernel
theorem dX2_remove_4 : decode cX2_remove 4 = .ok (.iload_n 3, 1) := by decide +kernel
theorem dX2_remove_5 : decode cX2_remove 5 = .ok (.invokestatic 33, 3) := by decide +kernel
theorem dX2_remove_8 : decode cX2_remove 8 = .ok (.aload_n 0, 1) := by decide +kernel
theorem dX2_remove_9 : decode cX2_remove 9 = .ok (.iload_n 2, 1) := by decide +kernel
theorem dX2_remove_10 : decode cX2_remove 10 = .ok (.invokevirtual 36, 3) := by decide +kernel
theorem dX2_remove_13 : decode cX2_remove 13 = .ok (.astore 4, 2) := by decide +kernel
theorem dX2_remove_15 : decode cX2_remove 15 = .ok (.aload_n 0, 1) := by decide +kernel
theorem dX2_remove_16 : decode cX2_remove 16 = .ok (.aload 4, 2) := by decide +kernel
theorem dX2_remove_18 : decode cX2_remove 18 = .ok (.iload_n 3, 1) := by decide +kernel
theorem dX2_remove_19 : decode cX2_remove 19 = .ok (.invokevirtual 98, 3) := by decide +kernel
theorem dX2_remove_22 : decode cX2_remove 22 = .ok (.aload 4, 2) := by decide +kernel
theorem dX2_remove_24 : decode cX2_remove 24 = .ok (.iload_n 3, 1) := by decide +kernel
theorem dX2_remove_25 : decode cX2_remove 25 = .ok (.invokevirtual 60, 3) := by decide +kernel
theorem dX2_remove_28 : decode cX2_remove 28 = .ok (.istore 5, 2) := by decide +kernel
theorem dX2_remove_30 : decode cX2_remove 30 = .ok (.aload_n 0, 1) := by decide +kernel
theorem dX2_remove_31 : decode cX2_remove 31 = .ok (.iload 5, 2) := by decide +kernel
theorem dX2_remove_33 : decode cX2_remove 33 = .ok (.invokevirtual 101, 3) := by decide +kernel
theorem dX2_remove_36 : decode cX2_remove 36 = .ok (.astore 6, 2) := by decide +kernel
theorem dX2_remove_38 : decode cX2_remove 38 = .ok (.aload 6, 2) := by decide +kernel
theorem dX2_remove_40 : decode cX2_remove 40 = .ok (.ifnull 18, 3) := by decide +kernel
theorem dX2_remove_43 : decode cX2_remove 43 = .ok (.aload_n 0, 1) := by decide +kernel
theorem dX2_remove_44 : decode cX2_remove 44 = .ok (.aload 6, 2) := by decide +kernel
theorem dX2_remove_46 : decode cX2_remove 46 = .ok (.invokevirtual 104, 3) := by decide +kernel
theorem dX2_remove_49 : decode cX2_remove 49 = .ok (.aload_n 0, 1) := by decide +kernel
theorem dX2_remove_50 : decode cX2_remove 50 = .ok (.aload 6, 2) := by decide +kernel
theorem dX2_remove_52 : decode cX2_remove 52 = .ok (.getfield 108, 3) := by decide +kernel
theorem dX2_remove_55 : decode cX2_remove 55 = .ok (.invokevirtual 111, 3) := by decide +kernel
theorem dX2_remove_58 : decode cX2_remove 58 = .ok (.aload_n 0, 1) := by decide +kernel
theorem dX2_remove_59 : decode cX2_remove 59 = .ok (.iload_n 1, 1) := by decide +kernel
theorem dX2_remove_60 : decode cX2_remove 60 = .ok (.aload 4, 2) := by decide +kernel
theorem dX2_remove_62 : decode cX2_remove 62 = .ok (.iload_n 3, 1) := by decide +kernel
theorem dX2_remove_63 : decode cX2_remove 63 = .ok (.iconst (-1), 1) := by decide +kernel
theorem dX2_remove_64 : decode cX2_remove 64 = .ok (.iconst 0, 1) := by decide +kernel
theorem dX2_remove_65 : decode cX2_remove 65 = .ok (.invokevirtual 75, 3) := by decide +kernel
theorem dX2_remove_68 : decode cX2_remove 68 = .ok (.iload 5, 2) := by decide +kernel
theorem dX2_remove_70 : decode cX2_remove 70 = .ok (.ireturn, 1) := by decide +kernel
theorem dX2_rename_0 : decode cX2_rename 0 = .ok (.iload_n 1, 1) := by decide +kernel
theorem dX2_rename_1 : decode cX2_rename 1 = .ok (.invokestatic 29, 3) := by decide +kernel
theorem dX2_rename_4 : decode cX2_rename 4 = .ok (.iload_n 3, 1) := by decide +kernel
theorem dX2_rename_5 : decode cX2_rename 5 = .ok (.invokestatic 33, 3) := by decide +kernel
theorem dX2_rename_8 : decode cX2_rename 8 = .ok (.iload 5, 2) := by decide +kernel
theorem dX2_rename_10 : decode cX2_rename 10 = .ok (.invokestatic 33, 3) := by decide +kernel
theorem dX2_rename_13 : decode cX2_rename 13 = .ok (.aload_n 0, 1) := by decide +kernel
theorem dX2_rename_14 : decode cX2_rename 14 = .ok (.iload_n 2, 1) := by decide +kernel
theorem dX2_rename_15 : decode cX2_rename 15 = .ok (.invokevirtual 36, 3) := by decide +kernel
theorem dX2_rename_18 : decode cX2_rename 18 = .ok (.astore 6, 2) := by decide +kernel
theorem dX2_rename_20 : decode cX2_rename 20 = .ok (.aload_n 0, 1) := by decide +kernel
theorem dX2_rename_21 : decode cX2_rename 21 = .ok (.iload 4, 2) := by decide +kernel
theorem dX2_rename_23 : decode cX2_rename 23 = .ok (.invokevirtual 36, 3) := by decide +kernel
theorem dX2_rename_26 : decode cX2_rename 26 = .ok (.astore 7, 2) := by decide +kernel
theorem dX2_rename_28 : decode cX2_rename 28 = .ok (.aload_n 0, 1) := by decide +kernel
theorem dX2_rename_29 : decode cX2_rename 29 = .ok (.aload 6, 2) := by decide +kernel
theorem dX2_rename_31 : decode cX2_rename 31 = .ok (.iload_n 3, 1) := by decide +kernel
theorem dX2_rename_32 : decode cX2_rename 32 = .ok (.invokevirtual 98, 3) := by decide +kernel
theorem dX2_rename_35 : decode cX2_rename 35 = .ok (.aload_n 0, 1) := by decide +kernel
theorem dX2_rename_36 : decode cX2_rename 36 = .ok (.aload 7, 2) := by decide +kernel
theorem dX2_rename_38 : decode cX2_rename 38 = .ok (.iload 5, 2) := by decide +kernel
theorem dX2_rename_40 : decode cX2_rename 40 = .ok (.invokevirtual 64, 3) := by decide +kernel
theorem dX2_rename_43 : decode cX2_rename 43 = .ok (.aload 6, 2) := by decide +kernel
theorem dX2_rename_45 : decode cX2_rename 45 = .ok (.iload_n 3, 1) := by decide +kernel
theorem dX2_rename_46 : decode cX2_rename 46 = .ok (.invokevirtual 60, 3) := by decide +kernel
theorem dX2_rename_49 : decode cX2_rename 49 = .ok (.istore 8, 2) := by decide +kernel
theorem dX2_rename_51 : decode cX2_rename 51 = .ok (.aload_n 0, 1) := by decide +kernel
theorem dX2_rename_52 : decode cX2_rename 52 = .ok (.iload 8, 2) := by decide +kernel
theorem dX2_rename_54 : decode cX2_rename 54 = .ok (.invokevirtual 101, 3) := by decide +kernel
theorem dX2_rename_57 : decode cX2_rename 57 = .ok (.astore 9, 2) := by decide +kernel
theorem dX2_rename_59 : decode cX2_rename 59 = .ok (.aload 9, 2) := by decide +kernel
theorem dX2_rename_61 : decode cX2_rename 61 = .ok (.ifnull 23, 3) := by decide +kernel
theorem dX2_rename_64 : decode cX2_rename 64 = .ok (.aload 7, 2) := by decide +kernel
theorem dX2_rename_66 : decode cX2_rename 66 = .ok (.aload 9, 2) := by decide +kernel
theorem dX2_rename_68 : decode cX2_rename 68 = .ok (.invokevirtual 114, 3) := by decide +kernel
theorem dX2_rename_71 : decode cX2_rename 71 = .ok (.ifCond .eq 13, 3) := by decide +kernel
theorem dX2_rename_74 : decode cX2_rename 74 = .ok (.new 68, 3) := by decide +kernel
theorem dX2_rename_77 : decode cX2_rename 77 = .ok (.dup, 1) := by decide +kernel
theorem dX2_rename_78 : decode cX2_rename 78 = .ok (.ldc 118, 2) := by decide +kernel
theorem dX2_rename_80 : decode cX2_rename 80 = .ok (.invokespecial 72, 3) := by decide +kernel
theorem dX2_rename_83 : decode cX2_rename 83 = .ok (.athrow, 1) := by decide +kernel
theorem dX2_rename_84 : decode cX2_rename 84 = .ok (.aload 6, 2) := by decide +kernel
theorem dX2_rename_86 : decode cX2_rename 86 = .ok (.iload_n 3, 1) := by decide +kernel
theorem dX2_rename_87 : decode cX2_rename 87 = .ok (.invokevirtual 120, 3) := by decide +kernel
theorem dX2_rename_90 : decode cX2_rename 90 = .ok (.istore 10, 2) := by decide +kernel
theorem dX2_rename_92 : decode cX2_rename 92 = .ok (.aload_n 0, 1) := by decide +kernel
theorem dX2_rename_93 : decode cX2_rename 93 = .ok (.iload_n 1, 1) := by decide +kernel
theorem dX2_rename_94 : decode cX2_rename 94 = .ok (.aload 6, 2) := by decide +kernel
theorem dX2_rename_96 : decode cX2_rename 96 = .ok (.iload_n 3, 1) := by decide +kernel
theorem dX2_rename_97 : decode cX2_rename 97 = .ok (.iconst (-1), 1) := by decide +kernel
theorem dX2_rename_98 : decode cX2_rename 98 = .ok (.iconst 0, 1) := by decide +kernel
theorem dX2_rename_99 : decode cX2_rename 99 = .ok (.invokevirtual 75, 3) := by decide +kernel
theorem dX2_rename_102 : decode cX2_rename 102 = .ok (.aload_n 0, 1) := by decide +kernel
theorem dX2_rename_103 : decode cX2_rename 103 = .ok (.iload_n 1, 1) := by decide +kernel
theorem dX2_rename_104 : decode cX2_rename 104 = .ok (.aload 7, 2) := by decide +kernel
theorem dX2_rename_106 : decode cX2_rename 106 = .ok (.iload 5, 2) := by decide +kernel
theorem dX2_rename_108 : decode cX2_rename 108 = .ok (.iload 8, 2) := by decide +kernel
theorem dX2_rename_110 : decode cX2_rename 110 = .ok (.iload 10, 2) := by decide +kernel
theorem dX2_rename_112 : decode cX2_rename 112 = .ok (.invokevirtual 75, 3) := by decide +kernel
theorem dX2_rename_115 : decode cX2_rename 115 = .ok (.aload 9, 2) := by decide +kernel
theorem dX2_rename_117 : decode cX2_rename 117 = .ok (.ifnull 17, 3) := by decide +kernel
theorem dX2_rename_120 : decode cX2_rename 120 = .ok (.aload 9, 2) := by decide +kernel
theorem dX2_rename_122 : decode cX2_rename 122 = .ok (.aload 7, 2) := by decide +kernel
theorem dX2_rename_124 : decode cX2_rename 124 = .ok (.putfield 123, 3) := by decide +kernel
theorem dX2_rename_127 : decode cX2_rename 127 = .ok (.aload 9, 2) := by decide +kernel
theorem dX2_rename_129 : decode cX2_rename 129 = .ok (.iload 5, 2) := by decide +kernel
theorem dX2_rename_131 : decode cX2_rename 131 = .ok (.putfield 127, 3) := by decide +kernel
theorem dX2_rename_134 : decode cX2_rename 134 = .ok (.return_, 1) := by decide +kernel
theorem dX2_pass_0 : decode cX2_pass 0 = .ok (.iload_n 1, 1) := by decide +kernel
theorem dX2_pass_1 : decode cX2_pass 1 = .ok (.iconst 1, 1) := by decide +kernel
theorem dX2_pass_2 : decode cX2_pass 2 = .ok (.if_icmp .lt 9, 3) := by decide +kernel
theorem dX2_pass_5 : decode cX2_pass 5 = .ok (.iload_n 1, 1) := by decide +kernel
theorem dX2_pass_6 : decode cX2_pass 6 = .ok (.bipush 100, 2) := by decide +kernel
theorem dX2_pass_8 : decode cX2_pass 8 = .ok (.if_icmp .le 13, 3) := by decide +kernel
theorem dX2_pass_11 : decode cX2_pass 11 = .ok (.new 130, 3) := by decide +kernel
theorem dX2_pass_14 : decode cX2_pass 14 = .ok (.dup, 1) := by decide +kernel
theorem dX2_pass_15 : decode cX2_pass 15 = .ok (.ldc 132, 2) := by decide +kernel
theorem dX2_pass_17 : decode cX2_pass 17 = .ok (.invokespecial 134, 3) := by decide +kernel
theorem dX2_pass_20 : decode cX2_pass 20 = .ok (.athrow, 1) := by decide +kernel
theorem dX2_pass_21 : decode cX2_pass 21 = .ok (.aload_n 0, 1) := by decide +kernel
theorem dX2_pass_22 : decode cX2_pass 22 = .ok (.dup, 1) := by decide +kernel
theorem dX2_pass_23 : decode cX2_pass 23 = .ok (.getfield 40, 3) := by decide +kernel
theorem dX2_pass_26 : decode cX2_pass 26 = .ok (.iload_n 1, 1) := by decide +kernel
theorem dX2_pass_27 : decode cX2_pass 27 = .ok (.iadd, 1) := by decide +kernel
theorem dX2_pass_28 : decode cX2_pass 28 = .ok (.putfield 40, 3) := by decide +kernel
theorem dX2_pass_31 : decode cX2_pass 31 = .ok (.aload_n 0, 1) := by decide +kernel
theorem dX2_pass_32 : decode cX2_pass 32 = .ok (.getfield 40, 3) := by decide +kernel
theorem dX2_pass_35 : decode cX2_pass 35 = .ok (.ireturn, 1) := by decide +kernel
theorem dX2_links_0 : decode cX2_links 0 = .ok (.aload_n 0, 1) := by decide +kernel
theorem dX2_links_1 : decode cX2_links 1 = .ok (.iload_n 1, 1) := by decide +kernel
theorem dX2_links_2 : decode cX2_links 2 = .ok (.invokevirtual 87, 3) := by decide +kernel
theorem dX2_links_5 : decode cX2_links 5 = .ok (.aload_n 0, 1) := by decide +kernel
theorem dX2_links_6 : decode cX2_links 6 = .ok (.iload_n 1, 1) := by decide +kernel
theorem dX2_links_7 : decode cX2_links 7 = .ok (.invokevirtual 90, 3) := by decide +kernel
theorem dX2_links_10 : decode cX2_links 10 = .ok (.ireturn, 1) := by decide +kernel
theorem dX2_anchor_0 : decode cX2_anchor 0 = .ok (.aload_n 0, 1) := by decide +kernel
theorem dX2_anchor_1 : decode cX2_anchor 1 = .ok (.iload_n 1, 1) := by decide +kernel
theorem dX2_anchor_2 : decode cX2_anchor 2 = .ok (.invokevirtual 87, 3) := by decide +kernel
theorem dX2_anchor_5 : decode cX2_anchor 5 = .ok (.iconst (-1), 1) := by decide +kernel
theorem dX2_anchor_6 : decode cX2_anchor 6 = .ok (.istore_n 2, 1) := by decide +kernel
theorem dX2_anchor_7 : decode cX2_anchor 7 = .ok (.iconst 0, 1) := by decide +kernel
theorem dX2_anchor_8 : decode cX2_anchor 8 = .ok (.istore_n 3, 1) := by decide +kernel
theorem dX2_anchor_9 : decode cX2_anchor 9 = .ok (.iconst 0, 1) := by decide +kernel
theorem dX2_anchor_10 : decode cX2_anchor 10 = .ok (.istore 4, 2) := by decide +kernel
theorem dX2_anchor_12 : decode cX2_anchor 12 = .ok (.iload 4, 2) := by decide +kernel
theorem dX2_anchor_14 : decode cX2_anchor 14 = .ok (.aload_n 0, 1) := by decide +kernel
theorem dX2_anchor_15 : decode cX2_anchor 15 = .ok (.getfield 11, 3) := by decide +kernel
theorem dX2_anchor_18 : decode cX2_anchor 18 = .ok (.arraylength, 1) := by decide +kernel
theorem dX2_anchor_19 : decode cX2_anchor 19 = .ok (.if_icmp .ge 71, 3) := by decide +kernel
theorem dX2_anchor_22 : decode cX2_anchor 22 = .ok (.aload_n 0, 1) := by decide +kernel
theorem dX2_anchor_23 : decode cX2_anchor 23 = .ok (.getfield 11, 3) := by decide +kernel
theorem dX2_anchor_26 : decode cX2_anchor 26 = .ok (.iload 4, 2) := by decide +kernel
theorem dX2_anchor_28 : decode cX2_anchor 28 = .ok (.aaload, 1) := by decide +kernel
theorem dX2_anchor_29 : decode cX2_anchor 29 = .ok (.astore 5, 2) := by decide +kernel
theorem dX2_anchor_31 : decode cX2_anchor 31 = .ok (.aload 5, 2) := by decide +kernel
theorem dX2_anchor_33 : decode cX2_anchor 33 = .ok (.ifnull 51, 3) := by decide +kernel
theorem dX2_anchor_36 : decode cX2_anchor 36 = .ok (.aload 5, 2) := by decide +kernel
theorem dX2_anchor_38 : decode cX2_anchor 38 = .ok (.iload_n 1, 1) := by decide +kernel
theorem dX2_anchor_39 : decode cX2_anchor 39 = .ok (.invokevirtual 222, 3) := by decide +kernel
theorem dX2_anchor_42 : decode cX2_anchor 42 = .ok (.istore 6, 2) := by decide +kernel
theorem dX2_anchor_44 : decode cX2_anchor 44 = .ok (.iload 6, 2) := by decide +kernel
theorem dX2_anchor_46 : decode cX2_anchor 46 = .ok (.bipush 50, 2) := by decide +kernel
theorem dX2_anchor_48 : decode cX2_anchor 48 = .ok (.if_icmp .ge 36, 3) := by decide +kernel
theorem dX2_anchor_51 : decode cX2_anchor 51 = .ok (.iload_n 2, 1) := by decide +kernel
theorem dX2_anchor_52 : decode cX2_anchor 52 = .ok (.iconst (-1), 1) := by decide +kernel
theorem dX2_anchor_53 : decode cX2_anchor 53 = .ok (.if_icmp .eq 14, 3) := by decide +kernel
theorem dX2_anchor_56 : decode cX2_anchor 56 = .ok (.aload 5, 2) := by decide +kernel
theorem dX2_anchor_58 : decode cX2_anchor 58 = .ok (.iload 6, 2) := by decide +kernel
theorem dX2_anchor_60 : decode cX2_anchor 60 = .ok (.invokevirtual 120, 3) := by decide +kernel
theorem dX2_anchor_63 : decode cX2_anchor 63 = .ok (.iload_n 3, 1) := by decide +kernel
theorem dX2_anchor_64 : decode cX2_anchor 64 = .ok (.if_icmp .ge 20, 3) := by decide +kernel
theorem dX2_anchor_67 : decode cX2_anchor 67 = .ok (.bipush 100, 2) := by decide +kernel
theorem dX2_anchor_69 : decode cX2_anchor 69 = .ok (.iload 4, 2) := by decide +kernel
theorem dX2_anchor_71 : decode cX2_anchor 71 = .ok (.imul, 1) := by decide +kernel
theorem dX2_anchor_72 : decode cX2_anchor 72 = .ok (.iload 6, 2) := by decide +kernel
theorem dX2_anchor_74 : decode cX2_anchor 74 = .ok (.iadd, 1) := by decide +kernel
theorem dX2_anchor_75 : decode cX2_anchor 75 = .ok (.istore_n 2, 1) := by decide +kernel
theorem dX2_anchor_76 : decode cX2_anchor 76 = .ok (.aload 5, 2) := by decide +kernel
theorem dX2_anchor_78 : decode cX2_anchor 78 = .ok (.iload 6, 2) := by decide +kernel
theorem dX2_anchor_80 : decode cX2_anchor 80 = .ok (.invokevirtual 120, 3) := by decide +kernel
theorem dX2_anchor_83 : decode cX2_anchor 83 = .ok (.istore_n 3, 1) := by decide +kernel
theorem dX2_anchor_84 : decode cX2_anchor 84 = .ok (.iinc 4 1, 3) := by decide +kernel
theorem dX2_anchor_87 : decode cX2_anchor 87 = .ok (.goto (-75), 3) := by decide +kernel
theorem dX2_anchor_90 : decode cX2_anchor 90 = .ok (.iload_n 2, 1) := by decide +kernel
theorem dX2_anchor_91 : decode cX2_anchor 91 = .ok (.ireturn, 1) := by decide +kernel
theorem dX2_byTree_0 : decode cX2_byTree 0 = .ok (.iload_n 2, 1) := by decide +kernel
theorem dX2_byTree_1 : decode cX2_byTree 1 = .ok (.invokestatic 33, 3) := by decide +kernel
theorem dX2_byTree_4 : decode cX2_byTree 4 = .ok (.aload_n 0, 1) := by decide +kernel
theorem dX2_byTree_5 : decode cX2_byTree 5 = .ok (.iload_n 1, 1) := by decide +kernel
theorem dX2_byTree_6 : decode cX2_byTree 6 = .ok (.invokevirtual 36, 3) := by decide +kernel
theorem dX2_byTree_9 : decode cX2_byTree 9 = .ok (.iload_n 2, 1) := by decide +kernel
theorem dX2_byTree_10 : decode cX2_byTree 10 = .ok (.invokevirtual 60, 3) := by decide +kernel
theorem dX2_byTree_13 : decode cX2_byTree 13 = .ok (.ireturn, 1) := by decide +kernel
theorem dX2_size_0 : decode cX2_size 0 = .ok (.aload_n 0, 1) := by decide +kernel
theorem dX2_size_1 : decode cX2_size 1 = .ok (.iload_n 1, 1) := by decide +kernel
theorem dX2_size_2 : decode cX2_size 2 = .ok (.invokevirtual 36, 3) := by decide +kernel
theorem dX2_size_5 : decode cX2_size 5 = .ok (.invokevirtual 225, 3) := by decide +kernel
theorem dX2_size_8 : decode cX2_size 8 = .ok (.ireturn, 1) := by decide +kernel
theorem dX2_needClient_0 : decode cX2_needClient 0 = .ok (.iload_n 0, 1) := by decide +kernel
theorem dX2_needClient_1 : decode cX2_needClient 1 = .ok (.ifCond .lt 8, 3) := by decide +kernel
theorem dX2_needClient_4 : decode cX2_needClient 4 = .ok (.iload_n 0, 1) := by decide +kernel
theorem dX2_needClient_5 : decode cX2_needClient 5 = .ok (.iconst 4, 1) := by decide +kernel
theorem dX2_needClient_6 : decode cX2_needClient 6 = .ok (.if_icmp .lt 13, 3) := by decide +kernel
theorem dX2_needClient_9 : decode cX2_needClient 9 = .ok (.new 130, 3) := by decide +kernel
theorem dX2_needClient_12 : decode cX2_needClient 12 = .ok (.dup, 1) := by decide +kernel
theorem dX2_needClient_13 : decode cX2_needClient 13 = .ok (.ldc 228, 2) := by decide +kernel
theorem dX2_needClient_15 : decode cX2_needClient 15 = .ok (.invokespecial 134, 3) := by decide +kernel
theorem dX2_needClient_18 : decode cX2_needClient 18 = .ok (.athrow, 1) := by decide +kernel
theorem dX2_needClient_19 : decode cX2_needClient 19 = .ok (.return_, 1) := by decide +kernel
theorem dX2_needName_0 : decode cX2_needName 0 = .ok (.iload_n 0, 1) := by decide +kernel
theorem dX2_needName_1 : decode cX2_needName 1 = .ok (.ifCond .lt 9, 3) := by decide +kernel
theorem dX2_needName_4 : decode cX2_needName 4 = .ok (.iload_n 0, 1) := by decide +kernel
theorem dX2_needName_5 : decode cX2_needName 5 = .ok (.bipush 50, 2) := by decide +kernel
theorem dX2_needName_7 : decode cX2_needName 7 = .ok (.if_icmp .lt 13, 3) := by decide +kernel
theorem dX2_needName_10 : decode cX2_needName 10 = .ok (.new 130, 3) := by decide +kernel
theorem dX2_needName_13 : decode cX2_needName 13 = .ok (.dup, 1) := by decide +kernel
theorem dX2_needName_14 : decode cX2_needName 14 = .ok (.ldc 232, 2) := by decide +kernel
theorem dX2_needName_16 : decode cX2_needName 16 = .ok (.invokespecial 134, 3) := by decide +kernel
theorem dX2_needName_19 : decode cX2_needName 19 = .ok (.athrow, 1) := by decide +kernel
theorem dX2_needName_20 : decode cX2_needName 20 = .ok (.return_, 1) := by decide +kernel
theorem dX2_needDirectory_0 : decode cX2_needDirectory 0 = .ok (.aload_n 0, 1) := by decide +kernel
theorem dX2_needDirectory_1 : decode cX2_needDirectory 1 = .ok (.iload_n 1, 1) := by decide +kernel
theorem dX2_needDirectory_2 : decode cX2_needDirectory 2 = .ok (.invokevirtual 236, 3) := by decide +kernel
theorem dX2_needDirectory_5 : decode cX2_needDirectory 5 = .ok (.astore_n 2, 1) := by decide +kernel
theorem dX2_needDirectory_6 : decode cX2_needDirectory 6 = .ok (.aload_n 2, 1) := by decide +kernel
theorem dX2_needDirectory_7 : decode cX2_needDirectory 7 = .ok (.ifnonnull 13, 3) := by decide +kernel
theorem dX2_needDirectory_10 : decode cX2_needDirectory 10 = .ok (.new 93, 3) := by decide +kernel
theorem dX2_needDirectory_13 : decode cX2_needDirectory 13 = .ok (.dup, 1) := by decide +kernel
theorem dX2_needDirectory_14 : decode cX2_needDirectory 14 = .ok (.ldc 239, 2) := by decide +kernel
theorem dX2_needDirectory_16 : decode cX2_needDirectory 16 = .ok (.invokespecial 97, 3) := by decide +kernel
theorem dX2_needDirectory_19 : decode cX2_needDirectory 19 = .ok (.athrow, 1) := by decide +kernel
theorem dX2_needDirectory_20 : decode cX2_needDirectory 20 = .ok (.aload_n 2, 1) := by decide +kernel
theorem dX2_needDirectory_21 : decode cX2_needDirectory 21 = .ok (.areturn, 1) := by decide +kernel
theorem dX2_needFile_0 : decode cX2_needFile 0 = .ok (.iload_n 1, 1) := by decide +kernel
theorem dX2_needFile_1 : decode cX2_needFile 1 = .ok (.ifCond .lt 11, 3) := by decide +kernel
theorem dX2_needFile_4 : decode cX2_needFile 4 = .ok (.iload_n 1, 1) := by decide +kernel
theorem dX2_needFile_5 : decode cX2_needFile 5 = .ok (.aload_n 0, 1) := by decide +kernel
theorem dX2_needFile_6 : decode cX2_needFile 6 = .ok (.getfield 79, 3) := by decide +kernel
theorem dX2_needFile_9 : decode cX2_needFile 9 = .ok (.if_icmp .lt 13, 3) := by decide +kernel
theorem dX2_needFile_12 : decode cX2_needFile 12 = .ok (.new 93, 3) := by decide +kernel
theorem dX2_needFile_15 : decode cX2_needFile 15 = .ok (.dup, 1) := by decide +kernel
theorem dX2_needFile_16 : decode cX2_needFile 16 = .ok (.ldc 241, 2) := by decide +kernel
theorem dX2_needFile_18 : decode cX2_needFile 18 = .ok (.invokespecial 97, 3) := by decide +kernel
theorem dX2_needFile_21 : decode cX2_needFile 21 = .ok (.athrow, 1) := by decide +kernel
theorem dX2_needFile_22 : decode cX2_needFile 22 = .ok (.return_, 1) := by decide +kernel
theorem dX2_needFree_0 : decode cX2_needFree 0 = .ok (.aload_n 1, 1) := by decide +kernel
theorem dX2_needFree_1 : decode cX2_needFree 1 = .ok (.iload_n 2, 1) := by decide +kernel
theorem dX2_needFree_2 : decode cX2_needFree 2 = .ok (.invokevirtual 60, 3) := by decide +kernel
theorem dX2_needFree_5 : decode cX2_needFree 5 = .ok (.iconst (-1), 1) := by decide +kernel
theorem dX2_needFree_6 : decode cX2_needFree 6 = .ok (.if_icmp .ne 15, 3) := by decide +kernel
theorem dX2_needFree_9 : decode cX2_needFree 9 = .ok (.aload_n 0, 1) := by decide +kernel
theorem dX2_needFree_10 : decode cX2_needFree 10 = .ok (.aload_n 1, 1) := by decide +kernel
theorem dX2_needFree_11 : decode cX2_needFree 11 = .ok (.iload_n 2, 1) := by decide +kernel
theorem dX2_needFree_12 : decode cX2_needFree 12 = .ok (.invokevirtual 47, 3) := by decide +kernel
theorem dX2_needFree_15 : decode cX2_needFree 15 = .ok (.invokevirtual 148, 3) := by decide +kernel
theorem dX2_needFree_18 : decode cX2_needFree 18 = .ok (.ifCond .eq 13, 3) := by decide +kernel
theorem dX2_needFree_21 : decode cX2_needFree 21 = .ok (.new 68, 3) := by decide +kernel
theorem dX2_needFree_24 : decode cX2_needFree 24 = .ok (.dup, 1) := by decide +kernel
theorem dX2_needFree_25 : decode cX2_needFree 25 = .ok (.ldc 243, 2) := by decide +kernel
theorem dX2_needFree_27 : decode cX2_needFree 27 = .ok (.invokespecial 72, 3) := by decide +kernel
theorem dX2_needFree_30 : decode cX2_needFree 30 = .ok (.athrow, 1) := by decide +kernel
theorem dX2_needFree_31 : decode cX2_needFree 31 = .ok (.return_, 1) := by decide +kernel
theorem dX2_needTaken_0 : decode cX2_needTaken 0 = .ok (.aload_n 1, 1) := by decide +kernel
theorem dX2_needTaken_1 : decode cX2_needTaken 1 = .ok (.iload_n 2, 1) := by decide +kernel
theorem dX2_needTaken_2 : decode cX2_needTaken 2 = .ok (.invokevirtual 60, 3) := by decide +kernel
theorem dX2_needTaken_5 : decode cX2_needTaken 5 = .ok (.iconst (-1), 1) := by decide +kernel
theorem dX2_needTaken_6 : decode cX2_needTaken 6 = .ok (.if_icmp .eq 15, 3) := by decide +kernel
theorem dX2_needTaken_9 : decode cX2_needTaken 9 = .ok (.aload_n 0, 1) := by decide +kernel
theorem dX2_needTaken_10 : decode cX2_needTaken 10 = .ok (.aload_n 1, 1) := by decide +kernel
theorem dX2_needTaken_11 : decode cX2_needTaken 11 = .ok (.iload_n 2, 1) := by decide +kernel
theorem dX2_needTaken_12 : decode cX2_needTaken 12 = .ok (.invokevirtual 47, 3) := by decide +kernel
theorem dX2_needTaken_15 : decode cX2_needTaken 15 = .ok (.invokevirtual 148, 3) := by decide +kernel
theorem dX2_needTaken_18 : decode cX2_needTaken 18 = .ok (.ifCond .eq 13, 3) := by decide +kernel
theorem dX2_needTaken_21 : decode cX2_needTaken 21 = .ok (.new 68, 3) := by decide +kernel
theorem dX2_needTaken_24 : decode cX2_needTaken 24 = .ok (.dup, 1) := by decide +kernel
theorem dX2_needTaken_25 : decode cX2_needTaken 25 = .ok (.ldc 245, 2) := by decide +kernel
theorem dX2_needTaken_27 : decode cX2_needTaken 27 = .ok (.invokespecial 72, 3) := by decide +kernel
theorem dX2_needTaken_30 : decode cX2_needTaken 30 = .ok (.athrow, 1) := by decide +kernel
theorem dX2_needTaken_31 : decode cX2_needTaken 31 = .ok (.return_, 1) := by decide +kernel
theorem dX2_needRemovable_0 : decode cX2_needRemovable 0 = .ok (.aload_n 1, 1) := by decide +kernel
theorem dX2_needRemovable_1 : decode cX2_needRemovable 1 = .ok (.invokevirtual 225, 3) := by decide +kernel
theorem dX2_needRemovable_4 : decode cX2_needRemovable 4 = .ok (.ifCond .le 13, 3) := by decide +kernel
theorem dX2_needRemovable_7 : decode cX2_needRemovable 7 = .ok (.new 68, 3) := by decide +kernel
theorem dX2_needRemovable_10 : decode cX2_needRemovable 10 = .ok (.dup, 1) := by decide +kernel
theorem dX2_needRemovable_11 : decode cX2_needRemovable 11 = .ok (.ldc 247, 2) := by decide +kernel
theorem dX2_needRemovable_13 : decode cX2_needRemovable 13 = .ok (.invokespecial 72, 3) := by decide +kernel
theorem dX2_needRemovable_16 : decode cX2_needRemovable 16 = .ok (.athrow, 1) := by decide +kernel
theorem dX2_needRemovable_17 : decode cX2_needRemovable 17 = .ok (.aload_n 0, 1) := by decide +kernel
theorem dX2_needRemovable_18 : decode cX2_needRemovable 18 = .ok (.getfield 197, 3) := by decide +kernel
theorem dX2_needRemovable_21 : decode cX2_needRemovable 21 = .ok (.ifnull 27, 3) := by decide +kernel
theorem dX2_needRemovable_24 : decode cX2_needRemovable 24 = .ok (.aload_n 0, 1) := by decide +kernel
theorem dX2_needRemovable_25 : decode cX2_needRemovable 25 = .ok (.getfield 197, 3) := by decide +kernel
theorem dX2_needRemovable_28 : decode cX2_needRemovable 28 = .ok (.getfield 219, 3) := by decide +kernel
theorem dX2_needRemovable_31 : decode cX2_needRemovable 31 = .ok (.aload_n 1, 1) := by decide +kernel
theorem dX2_needRemovable_32 : decode cX2_needRemovable 32 = .ok (.getfield 108, 3) := by decide +kernel
theorem dX2_needRemovable_35 : decode cX2_needRemovable 35 = .ok (.if_icmp .ne 13, 3) := by decide +kernel
theorem dX2_needRemovable_38 : decode cX2_needRemovable 38 = .ok (.new 68, 3) := by decide +kernel
theorem dX2_needRemovable_41 : decode cX2_needRemovable 41 = .ok (.dup, 1) := by decide +kernel
theorem dX2_needRemovable_42 : decode cX2_needRemovable 42 = .ok (.ldc 249, 2) := by decide +kernel
theorem dX2_needRemovable_44 : decode cX2_needRemovable 44 = .ok (.invokespecial 72, 3) := by decide +kernel
theorem dX2_needRemovable_47 : decode cX2_needRemovable 47 = .ok (.athrow, 1) := by decide +kernel
theorem dX2_needRemovable_48 : decode cX2_needRemovable 48 = .ok (.return_, 1) := by decide +kernel
theorem dX2_directoryNumbered_0 : decode cX2_directoryNumbered 0 = .ok (.iload_n 1, 1) := by decide +kernel
theorem dX2_directoryNumbered_1 : decode cX2_directoryNumbered 1 = .ok (.ifCond .lt 12, 3) := by decide +kernel
theorem dX2_directoryNumbered_4 : decode cX2_directoryNumbered 4 = .ok (.iload_n 1, 1) := by decide +kernel
theorem dX2_directoryNumbered_5 : decode cX2_directoryNumbered 5 = .ok (.aload_n 0, 1) := by decide +kernel
theorem dX2_directoryNumbered_6 : decode cX2_directoryNumbered 6 = .ok (.getfield 11, 3) := by decide +kernel
theorem dX2_directoryNumbered_9 : decode cX2_directoryNumbered 9 = .ok (.arraylength, 1) := by decide +kernel
theorem dX2_directoryNumbered_10 : decode cX2_directoryNumbered 10 = .ok (.if_icmp .lt 5, 3) := by decide +kernel
theorem dX2_directoryNumbered_13 : decode cX2_directoryNumbered 13 = .ok (.aconst_null, 1) := by decide +kernel
theorem dX2_directoryNumbered_14 : decode cX2_directoryNumbered 14 = .ok (.areturn, 1) := by decide +kernel
theorem dX2_directoryNumbered_15 : decode cX2_directoryNumbered 15 = .ok (.aload_n 0, 1) := by decide +kernel
theorem dX2_directoryNumbered_16 : decode cX2_directoryNumbered 16 = .ok (.getfield 11, 3) := by decide +kernel
theorem dX2_directoryNumbered_19 : decode cX2_directoryNumbered 19 = .ok (.iload_n 1, 1) := by decide +kernel
theorem dX2_directoryNumbered_20 : decode cX2_directoryNumbered 20 = .ok (.aaload, 1) := by decide +kernel
theorem dX2_directoryNumbered_21 : decode cX2_directoryNumbered 21 = .ok (.areturn, 1) := by decide +kernel
theorem dX2_directoryMeant_0 : decode cX2_directoryMeant 0 = .ok (.iload_n 1, 1) := by decide +kernel
theorem dX2_directoryMeant_1 : decode cX2_directoryMeant 1 = .ok (.bipush (-2), 2) := by decide +kernel
theorem dX2_directoryMeant_3 : decode cX2_directoryMeant 3 = .ok (.if_icmp .gt 14, 3) := by decide +kernel
theorem dX2_directoryMeant_6 : decode cX2_directoryMeant 6 = .ok (.aload_n 0, 1) := by decide +kernel
theorem dX2_directoryMeant_7 : decode cX2_directoryMeant 7 = .ok (.bipush (-2), 2) := by decide +kernel
theorem dX2_directoryMeant_9 : decode cX2_directoryMeant 9 = .ok (.iload_n 1, 1) := by decide +kernel
theorem dX2_directoryMeant_10 : decode cX2_directoryMeant 10 = .ok (.isub, 1) := by decide +kernel
theorem dX2_directoryMeant_11 : decode cX2_directoryMeant 11 = .ok (.invokevirtual 236, 3) := by decide +kernel
theorem dX2_directoryMeant_14 : decode cX2_directoryMeant 14 = .ok (.goto 4, 3) := by decide +kernel
theorem dX2_directoryMeant_17 : decode cX2_directoryMeant 17 = .ok (.aconst_null, 1) := by decide +kernel
theorem dX2_directoryMeant_18 : decode cX2_directoryMeant 18 = .ok (.areturn, 1) := by decide +kernel
theorem dX2_dropDirectory_0 : decode cX2_dropDirectory 0 = .ok (.iload_n 1, 1) := by decide +kernel
theorem dX2_dropDirectory_1 : decode cX2_dropDirectory 1 = .ok (.ifCond .lt 19, 3) := by decide +kernel
theorem dX2_dropDirectory_4 : decode cX2_dropDirectory 4 = .ok (.iload_n 1, 1) := by decide +kernel
theorem dX2_dropDirectory_5 : decode cX2_dropDirectory 5 = .ok (.aload_n 0, 1) := by decide +kernel
theorem dX2_dropDirectory_6 : decode cX2_dropDirectory 6 = .ok (.getfield 11, 3) := by decide +kernel
theorem dX2_dropDirectory_9 : decode cX2_dropDirectory 9 = .ok (.arraylength, 1) := by decide +kernel
theorem dX2_dropDirectory_10 : decode cX2_dropDirectory 10 = .ok (.if_icmp .ge 10, 3) := by decide +kernel
theorem dX2_dropDirectory_13 : decode cX2_dropDirectory 13 = .ok (.aload_n 0, 1) := by decide +kernel
theorem dX2_dropDirectory_14 : decode cX2_dropDirectory 14 = .ok (.getfield 11, 3) := by decide +kernel
theorem dX2_dropDirectory_17 : decode cX2_dropDirectory 17 = .ok (.iload_n 1, 1) := by decide +kernel
theorem dX2_dropDirectory_18 : decode cX2_dropDirectory 18 = .ok (.aconst_null, 1) := by decide +kernel
theorem dX2_dropDirectory_19 : decode cX2_dropDirectory 19 = .ok (.aastore, 1) := by decide +kernel
theorem dX2_dropDirectory_20 : decode cX2_dropDirectory 20 = .ok (.return_, 1) := by decide +kernel
theorem dX2_makeLink_0 : decode cX2_makeLink 0 = .ok (.aload_n 0, 1) := by decide +kernel
theorem dX2_makeLink_1 : decode cX2_makeLink 1 = .ok (.dup, 1) := by decide +kernel
theorem dX2_makeLink_2 : decode cX2_makeLink 2 = .ok (.getfield 253, 3) := by decide +kernel
theorem dX2_makeLink_5 : decode cX2_makeLink 5 = .ok (.iconst 1, 1) := by decide +kernel
theorem dX2_makeLink_6 : decode cX2_makeLink 6 = .ok (.iadd, 1) := by decide +kernel
theorem dX2_makeLink_7 : decode cX2_makeLink 7 = .ok (.putfield 253, 3) := by decide +kernel
theorem dX2_makeLink_10 : decode cX2_makeLink 10 = .ok (.aload_n 0, 1) := by decide +kernel
theorem dX2_makeLink_11 : decode cX2_makeLink 11 = .ok (.iload_n 1, 1) := by decide +kernel
theorem dX2_makeLink_12 : decode cX2_makeLink 12 = .ok (.aload_n 2, 1) := by decide +kernel
theorem dX2_makeLink_13 : decode cX2_makeLink 13 = .ok (.iload_n 3, 1) := by decide +kernel
theorem dX2_makeLink_14 : decode cX2_makeLink 14 = .ok (.iload 4, 2) := by decide +kernel
theorem dX2_makeLink_16 : decode cX2_makeLink 16 = .ok (.aload_n 0, 1) := by decide +kernel
theorem dX2_makeLink_17 : decode cX2_makeLink 17 = .ok (.getfield 253, 3) := by decide +kernel
theorem dX2_makeLink_20 : decode cX2_makeLink 20 = .ok (.invokevirtual 75, 3) := by decide +kernel
theorem dX2_makeLink_23 : decode cX2_makeLink 23 = .ok (.return_, 1) := by decide +kernel
theorem dX2_changeName_0 : decode cX2_changeName 0 = .ok (.aload_n 2, 1) := by decide +kernel
theorem dX2_changeName_1 : decode cX2_changeName 1 = .ok (.iload_n 3, 1) := by decide +kernel
theorem dX2_changeName_2 : decode cX2_changeName 2 = .ok (.iload 4, 2) := by decide +kernel
theorem dX2_changeName_4 : decode cX2_changeName 4 = .ok (.iload 5, 2) := by decide +kernel
theorem dX2_changeName_6 : decode cX2_changeName 6 = .ok (.invokevirtual 256, 3) := by decide +kernel
theorem dX2_changeName_9 : decode cX2_changeName 9 = .ok (.aload_n 2, 1) := by decide +kernel
theorem dX2_changeName_10 : decode cX2_changeName 10 = .ok (.iload_n 3, 1) := by decide +kernel
theorem dX2_changeName_11 : decode cX2_changeName 11 = .ok (.invokevirtual 47, 3) := by decide +kernel
theorem dX2_changeName_14 : decode cX2_changeName 14 = .ok (.dup, 1) := by decide +kernel
theorem dX2_changeName_15 : decode cX2_changeName 15 = .ok (.getfield 51, 3) := by decide +kernel
theorem dX2_changeName_18 : decode cX2_changeName 18 = .ok (.iconst 1, 1) := by decide +kernel
theorem dX2_changeName_19 : decode cX2_changeName 19 = .ok (.iadd, 1) := by decide +kernel
theorem dX2_changeName_20 : decode cX2_changeName 20 = .ok (.putfield 51, 3) := by decide +kernel
theorem dX2_changeName_23 : decode cX2_changeName 23 = .ok (.aload_n 0, 1) := by decide +kernel
theorem dX2_changeName_24 : decode cX2_changeName 24 = .ok (.aload_n 2, 1) := by decide +kernel
theorem dX2_changeName_25 : decode cX2_changeName 25 = .ok (.iload_n 3, 1) := by decide +kernel
theorem dX2_changeName_26 : decode cX2_changeName 26 = .ok (.iload_n 1, 1) := by decide +kernel
theorem dX2_changeName_27 : decode cX2_changeName 27 = .ok (.invokevirtual 259, 3) := by decide +kernel
theorem dX2_changeName_30 : decode cX2_changeName 30 = .ok (.return_, 1) := by decide +kernel
theorem dX2_endLeases_0 : decode cX2_endLeases 0 = .ok (.iconst 0, 1) := by decide +kernel
theorem dX2_endLeases_1 : decode cX2_endLeases 1 = .ok (.istore 4, 2) := by decide +kernel
theorem dX2_endLeases_3 : decode cX2_endLeases 3 = .ok (.iload 4, 2) := by decide +kernel
theorem dX2_endLeases_5 : decode cX2_endLeases 5 = .ok (.iconst 4, 1) := by decide +kernel
theorem dX2_endLeases_6 : decode cX2_endLeases 6 = .ok (.if_icmp .ge 51, 3) := by decide +kernel
theorem dX2_endLeases_9 : decode cX2_endLeases 9 = .ok (.aload_n 1, 1) := by decide +kernel
theorem dX2_endLeases_10 : decode cX2_endLeases 10 = .ok (.iload 4, 2) := by decide +kernel
theorem dX2_endLeases_12 : decode cX2_endLeases 12 = .ok (.iload_n 2, 1) := by decide +kernel
theorem dX2_endLeases_13 : decode cX2_endLeases 13 = .ok (.aload_n 0, 1) := by decide +kernel
theorem dX2_endLeases_14 : decode cX2_endLeases 14 = .ok (.getfield 40, 3) := by decide +kernel
theorem dX2_endLeases_17 : decode cX2_endLeases 17 = .ok (.invokevirtual 43, 3) := by decide +kernel
theorem dX2_endLeases_20 : decode cX2_endLeases 20 = .ok (.ifCond .eq 31, 3) := by decide +kernel
theorem dX2_endLeases_23 : decode cX2_endLeases 23 = .ok (.aload_n 1, 1) := by decide +kernel
theorem dX2_endLeases_24 : decode cX2_endLeases 24 = .ok (.iload 4, 2) := by decide +kernel
theorem dX2_endLeases_26 : decode cX2_endLeases 26 = .ok (.iload_n 2, 1) := by decide +kernel
theorem dX2_endLeases_27 : decode cX2_endLeases 27 = .ok (.aload_n 0, 1) := by decide +kernel
theorem dX2_endLeases_28 : decode cX2_endLeases 28 = .ok (.getfield 40, 3) := by decide +kernel
theorem dX2_endLeases_31 : decode cX2_endLeases 31 = .ok (.invokevirtual 56, 3) := by decide +kernel
theorem dX2_endLeases_34 : decode cX2_endLeases 34 = .ok (.iload 4, 2) := by decide +kernel
theorem dX2_endLeases_36 : decode cX2_endLeases 36 = .ok (.iload_n 3, 1) := by decide +kernel
theorem dX2_endLeases_37 : decode cX2_endLeases 37 = .ok (.if_icmp .eq 14, 3) := by decide +kernel
theorem dX2_endLeases_40 : decode cX2_endLeases 40 = .ok (.aload_n 0, 1) := by decide +kernel
theorem dX2_endLeases_41 : decode cX2_endLeases 41 = .ok (.getfield 15, 3) := by decide +kernel
theorem dX2_endLeases_44 : decode cX2_endLeases 44 = .ok (.iload 4, 2) := by decide +kernel
theorem dX2_endLeases_46 : decode cX2_endLeases 46 = .ok (.dup2, 1) := by decide +kernel
theorem dX2_endLeases_47 : decode cX2_endLeases 47 = .ok (.iaload, 1) := by decide +kernel
theorem dX2_endLeases_48 : decode cX2_endLeases 48 = .ok (.iconst 1, 1) := by decide +kernel
theorem dX2_endLeases_49 : decode cX2_endLeases 49 = .ok (.iadd, 1) := by decide +kernel
theorem dX2_endLeases_50 : decode cX2_endLeases 50 = .ok (.iastore, 1) := by decide +kernel
theorem dX2_endLeases_51 : decode cX2_endLeases 51 = .ok (.iinc 4 1, 3) := by decide +kernel
theorem dX2_endLeases_54 : decode cX2_endLeases 54 = .ok (.goto (-51), 3) := by decide +kernel
theorem dX2_endLeases_57 : decode cX2_endLeases 57 = .ok (.return_, 1) := by decide +kernel
theorem dX2_countLinks_0 : decode cX2_countLinks 0 = .ok (.iconst 0, 1) := by decide +kernel
theorem dX2_countLinks_1 : decode cX2_countLinks 1 = .ok (.istore_n 2, 1) := by decide +kernel
theorem dX2_countLinks_2 : decode cX2_countLinks 2 = .ok (.iconst 0, 1) := by decide +kernel
theorem dX2_countLinks_3 : decode cX2_countLinks 3 = .ok (.istore_n 3, 1) := by decide +kernel
theorem dX2_countLinks_4 : decode cX2_countLinks 4 = .ok (.iload_n 3, 1) := by decide +kernel
theorem dX2_countLinks_5 : decode cX2_countLinks 5 = .ok (.aload_n 0, 1) := by decide +kernel
theorem dX2_countLinks_6 : decode cX2_countLinks 6 = .ok (.getfield 11, 3) := by decide +kernel
theorem dX2_countLinks_9 : decode cX2_countLinks 9 = .ok (.arraylength, 1) := by decide +kernel
theorem dX2_countLinks_10 : decode cX2_countLinks 10 = .ok (.if_icmp .ge 31, 3) := by decide +kernel
theorem dX2_countLinks_13 : decode cX2_countLinks 13 = .ok (.aload_n 0, 1) := by decide +kernel
theorem dX2_countLinks_14 : decode cX2_countLinks 14 = .ok (.getfield 11, 3) := by decide +kernel
theorem dX2_countLinks_17 : decode cX2_countLinks 17 = .ok (.iload_n 3, 1) := by decide +kernel
theorem dX2_countLinks_18 : decode cX2_countLinks 18 = .ok (.aaload, 1) := by decide +kernel
theorem dX2_countLinks_19 : decode cX2_countLinks 19 = .ok (.astore 4, 2) := by decide +kernel
theorem dX2_countLinks_21 : decode cX2_countLinks 21 = .ok (.aload 4, 2) := by decide +kernel
theorem dX2_countLinks_23 : decode cX2_countLinks 23 = .ok (.ifnull 12, 3) := by decide +kernel
theorem dX2_countLinks_26 : decode cX2_countLinks 26 = .ok (.iload_n 2, 1) := by decide +kernel
theorem dX2_countLinks_27 : decode cX2_countLinks 27 = .ok (.aload 4, 2) := by decide +kernel
theorem dX2_countLinks_29 : decode cX2_countLinks 29 = .ok (.iload_n 1, 1) := by decide +kernel
theorem dX2_countLinks_30 : decode cX2_countLinks 30 = .ok (.invokevirtual 266, 3) := by decide +kernel
theorem dX2_countLinks_33 : decode cX2_countLinks 33 = .ok (.iadd, 1) := by decide +kernel
theorem dX2_countLinks_34 : decode cX2_countLinks 34 = .ok (.istore_n 2, 1) := by decide +kernel
theorem dX2_countLinks_35 : decode cX2_countLinks 35 = .ok (.iinc 3 1, 3) := by decide +kernel
theorem dX2_countLinks_38 : decode cX2_countLinks 38 = .ok (.goto (-34), 3) := by decide +kernel
theorem dX2_countLinks_41 : decode cX2_countLinks 41 = .ok (.iload_n 2, 1) := by decide +kernel
theorem dX2_countLinks_42 : decode cX2_countLinks 42 = .ok (.ireturn, 1) := by decide +kernel
theorem dX2_fragmentAbove_0 : decode cX2_fragmentAbove 0 = .ok (.aload_n 0, 1) := by decide +kernel
theorem dX2_fragmentAbove_1 : decode cX2_fragmentAbove 1 = .ok (.aload_n 1, 1) := by decide +kernel
theorem dX2_fragmentAbove_2 : decode cX2_fragmentAbove 2 = .ok (.getfield 219, 3) := by decide +kernel
theorem dX2_fragmentAbove_5 : decode cX2_fragmentAbove 5 = .ok (.invokevirtual 236, 3) := by decide +kernel
theorem dX2_fragmentAbove_8 : decode cX2_fragmentAbove 8 = .ok (.astore_n 2, 1) := by decide +kernel
theorem dX2_fragmentAbove_9 : decode cX2_fragmentAbove 9 = .ok (.aload_n 2, 1) := by decide +kernel
theorem dX2_fragmentAbove_10 : decode cX2_fragmentAbove 10 = .ok (.ifnull 10, 3) := by decide +kernel
theorem dX2_fragmentAbove_13 : decode cX2_fragmentAbove 13 = .ok (.aload_n 2, 1) := by decide +kernel
theorem dX2_fragmentAbove_14 : decode cX2_fragmentAbove 14 = .ok (.getfield 123, 3) := by decide +kernel
theorem dX2_fragmentAbove_17 : decode cX2_fragmentAbove 17 = .ok (.ifnonnull 5, 3) := by decide +kernel
theorem dX2_fragmentAbove_20 : decode cX2_fragmentAbove 20 = .ok (.aconst_null, 1) := by decide +kernel
theorem dX2_fragmentAbove_21 : decode cX2_fragmentAbove 21 = .ok (.areturn, 1) := by decide +kernel
theorem dX2_fragmentAbove_22 : decode cX2_fragmentAbove 22 = .ok (.aload_n 2, 1) := by decide +kernel
theorem dX2_fragmentAbove_23 : decode cX2_fragmentAbove 23 = .ok (.getfield 123, 3) := by decide +kernel
theorem dX2_fragmentAbove_26 : decode cX2_fragmentAbove 26 = .ok (.aload_n 2, 1) := by decide +kernel
theorem dX2_fragmentAbove_27 : decode cX2_fragmentAbove 27 = .ok (.getfield 127, 3) := by decide +kernel
theorem dX2_fragmentAbove_30 : decode cX2_fragmentAbove 30 = .ok (.invokevirtual 47, 3) := by decide +kernel
theorem dX2_fragmentAbove_33 : decode cX2_fragmentAbove 33 = .ok (.areturn, 1) := by decide +kernel
theorem dX2_frozen_0 : decode cX2_frozen 0 = .ok (.aload_n 1, 1) := by decide +kernel
theorem dX2_frozen_1 : decode cX2_frozen 1 = .ok (.astore_n 2, 1) := by decide +kernel
theorem dX2_frozen_2 : decode cX2_frozen 2 = .ok (.iconst 0, 1) := by decide +kernel
theorem dX2_frozen_3 : decode cX2_frozen 3 = .ok (.istore_n 3, 1) := by decide +kernel
theorem dX2_frozen_4 : decode cX2_frozen 4 = .ok (.aload_n 2, 1) := by decide +kernel
theorem dX2_frozen_5 : decode cX2_frozen 5 = .ok (.ifnull 41, 3) := by decide +kernel
theorem dX2_frozen_8 : decode cX2_frozen 8 = .ok (.iload_n 3, 1) := by decide +kernel
theorem dX2_frozen_9 : decode cX2_frozen 9 = .ok (.bipush 12, 2) := by decide +kernel
theorem dX2_frozen_11 : decode cX2_frozen 11 = .ok (.if_icmp .ge 35, 3) := by decide +kernel
theorem dX2_frozen_14 : decode cX2_frozen 14 = .ok (.aload_n 2, 1) := by decide +kernel
theorem dX2_frozen_15 : decode cX2_frozen 15 = .ok (.aload_n 0, 1) := by decide +kernel
theorem dX2_frozen_16 : decode cX2_frozen 16 = .ok (.getfield 197, 3) := by decide +kernel
theorem dX2_frozen_19 : decode cX2_frozen 19 = .ok (.if_acmp .ne 5, 3) := by decide +kernel
theorem dX2_frozen_22 : decode cX2_frozen 22 = .ok (.iconst 1, 1) := by decide +kernel
theorem dX2_frozen_23 : decode cX2_frozen 23 = .ok (.ireturn, 1) := by decide +kernel
theorem dX2_frozen_24 : decode cX2_frozen 24 = .ok (.aload_n 2, 1) := by decide +kernel
theorem dX2_frozen_25 : decode cX2_frozen 25 = .ok (.getfield 167, 3) := by decide +kernel
theorem dX2_frozen_28 : decode cX2_frozen 28 = .ok (.iconst (-1), 1) := by decide +kernel
theorem dX2_frozen_29 : decode cX2_frozen 29 = .ok (.if_icmp .eq 5, 3) := by decide +kernel
theorem dX2_frozen_32 : decode cX2_frozen 32 = .ok (.iconst 0, 1) := by decide +kernel
theorem dX2_frozen_33 : decode cX2_frozen 33 = .ok (.ireturn, 1) := by decide +kernel
theorem dX2_frozen_34 : decode cX2_frozen 34 = .ok (.aload_n 0, 1) := by decide +kernel
theorem dX2_frozen_35 : decode cX2_frozen 35 = .ok (.aload_n 2, 1) := by decide +kernel
theorem dX2_frozen_36 : decode cX2_frozen 36 = .ok (.invokevirtual 269, 3) := by decide +kernel
theorem dX2_frozen_39 : decode cX2_frozen 39 = .ok (.astore_n 2, 1) := by decide +kernel
theorem dX2_frozen_40 : decode cX2_frozen 40 = .ok (.iinc 3 1, 3) := by decide +kernel
theorem dX2_frozen_43 : decode cX2_frozen 43 = .ok (.goto (-39), 3) := by decide +kernel
theorem dX2_frozen_46 : decode cX2_frozen 46 = .ok (.iconst 0, 1) := by decide +kernel
theorem dX2_frozen_47 : decode cX2_frozen 47 = .ok (.ireturn, 1) := by decide +kernel
theorem dL_cell_0 : decode cL_cell 0 = .ok (.iload_n 1, 1) := by decide +kernel
theorem dL_cell_1 : decode cL_cell 1 = .ok (.aload_n 0, 1) := by decide +kernel
theorem dL_cell_2 : decode cL_cell 2 = .ok (.arraylength, 1) := by decide +kernel
theorem dL_cell_3 : decode cL_cell 3 = .ok (.if_icmp .ge 9, 3) := by decide +kernel
theorem dL_cell_6 : decode cL_cell 6 = .ok (.aload_n 0, 1) := by decide +kernel
theorem dL_cell_7 : decode cL_cell 7 = .ok (.iload_n 1, 1) := by decide +kernel
theorem dL_cell_8 : decode cL_cell 8 = .ok (.iaload, 1) := by decide +kernel
theorem dL_cell_9 : decode cL_cell 9 = .ok (.goto 15, 3) := by decide +kernel
theorem dL_cell_12 : decode cL_cell 12 = .ok (.sipush 7919, 3) := by decide +kernel
theorem dL_cell_15 : decode cL_cell 15 = .ok (.iload_n 1, 1) := by decide +kernel
theorem dL_cell_16 : decode cL_cell 16 = .ok (.iconst 3, 1) := by decide +kernel
theorem dL_cell_17 : decode cL_cell 17 = .ok (.iadd, 1) := by decide +kernel
theorem dL_cell_18 : decode cL_cell 18 = .ok (.imul, 1) := by decide +kernel
theorem dL_cell_19 : decode cL_cell 19 = .ok (.iload_n 1, 1) := by decide +kernel
theorem dL_cell_20 : decode cL_cell 20 = .ok (.bipush 11, 2) := by decide +kernel
theorem dL_cell_22 : decode cL_cell 22 = .ok (.iadd, 1) := by decide +kernel
theorem dL_cell_23 : decode cL_cell 23 = .ok (.imul, 1) := by decide +kernel
theorem dL_cell_24 : decode cL_cell 24 = .ok (.ireturn, 1) := by decide +kernel
theorem dL_low_0 : decode cL_low 0 = .ok (.iload_n 0, 1) := by decide +kernel
theorem dL_low_1 : decode cL_low 1 = .ok (.ldc 7, 2) := by decide +kernel
theorem dL_low_3 : decode cL_low 3 = .ok (.iand, 1) := by decide +kernel
theorem dL_low_4 : decode cL_low 4 = .ok (.iload_n 1, 1) := by decide +kernel
theorem dL_low_5 : decode cL_low 5 = .ok (.irem, 1) := by decide +kernel
theorem dL_low_6 : decode cL_low 6 = .ok (.ireturn, 1) := by decide +kernel
theorem dL_isThere_0 : decode cL_isThere 0 = .ok (.iload_n 1, 1) := by decide +kernel
theorem dL_isThere_1 : decode cL_isThere 1 = .ok (.ifCond .ne 7, 3) := by decide +kernel
theorem dL_isThere_4 : decode cL_isThere 4 = .ok (.iconst 1, 1) := by decide +kernel
theorem dL_isThere_5 : decode cL_isThere 5 = .ok (.goto 4, 3) := by decide +kernel
theorem dL_isThere_8 : decode cL_isThere 8 = .ok (.iconst 0, 1) := by decide +kernel
theorem dL_isThere_9 : decode cL_isThere 9 = .ok (.istore_n 2, 1) := by decide +kernel
theorem dL_isThere_10 : decode cL_isThere 10 = .ok (.iconst 0, 1) := by decide +kernel
theorem dL_isThere_11 : decode cL_isThere 11 = .ok (.istore_n 3, 1) := by decide +kernel
theorem dL_isThere_12 : decode cL_isThere 12 = .ok (.iload_n 3, 1) := by decide +kernel
theorem dL_isThere_13 : decode cL_isThere 13 = .ok (.bipush 60, 2) := by decide +kernel
theorem dL_isThere_15 : decode cL_isThere 15 = .ok (.if_icmp .ge 29, 3) := by decide +kernel
theorem dL_isThere_18 : decode cL_isThere 18 = .ok (.iload_n 2, 1) := by decide +kernel
theorem dL_isThere_19 : decode cL_isThere 19 = .ok (.ifCond .ne 13, 3) := by decide +kernel
theorem dL_isThere_22 : decode cL_isThere 22 = .ok (.aload_n 0, 1) := by decide +kernel
theorem dL_isThere_23 : decode cL_isThere 23 = .ok (.iload_n 3, 1) := by decide +kernel
theorem dL_isThere_24 : decode cL_isThere 24 = .ok (.iaload, 1) := by decide +kernel
theorem dL_isThere_25 : decode cL_isThere 25 = .ok (.bipush (-2), 2) := by decide +kernel
theorem dL_isThere_27 : decode cL_isThere 27 = .ok (.iload_n 1, 1) := by decide +kernel
theorem dL_isThere_28 : decode cL_isThere 28 = .ok (.isub, 1) := by decide +kernel
theorem dL_isThere_29 : decode cL_isThere 29 = .ok (.if_icmp .ne 7, 3) := by decide +kernel
theorem dL_isThere_32 : decode cL_isThere 32 = .ok (.iconst 1, 1) := by decide +kernel
theorem dL_isThere_33 : decode cL_isThere 33 = .ok (.goto 4, 3) := by decide +kernel
theorem dL_isThere_36 : decode cL_isThere 36 = .ok (.iconst 0, 1) := by decide +kernel
theorem dL_isThere_37 : decode cL_isThere 37 = .ok (.istore_n 2, 1) := by decide +kernel
theorem dL_isThere_38 : decode cL_isThere 38 = .ok (.iinc 3 1, 3) := by decide +kernel
theorem dL_isThere_41 : decode cL_isThere 41 = .ok (.goto (-29), 3) := by decide +kernel
theorem dL_isThere_44 : decode cL_isThere 44 = .ok (.iload_n 2, 1) := by decide +kernel
theorem dL_isThere_45 : decode cL_isThere 45 = .ok (.ireturn, 1) := by decide +kernel
theorem dL_isBelow_0 : decode cL_isBelow 0 = .ok (.iload_n 1, 1) := by decide +kernel
theorem dL_isBelow_1 : decode cL_isBelow 1 = .ok (.istore_n 3, 1) := by decide +kernel
theorem dL_isBelow_2 : decode cL_isBelow 2 = .ok (.iload_n 3, 1) := by decide +kernel
theorem dL_isBelow_3 : decode cL_isBelow 3 = .ok (.ifCond .eq 55, 3) := by decide +kernel
theorem dL_isBelow_6 : decode cL_isBelow 6 = .ok (.iload_n 3, 1) := by decide +kernel
theorem dL_isBelow_7 : decode cL_isBelow 7 = .ok (.iload_n 2, 1) := by decide +kernel
theorem dL_isBelow_8 : decode cL_isBelow 8 = .ok (.if_icmp .eq 50, 3) := by decide +kernel
theorem dL_isBelow_11 : decode cL_isBelow 11 = .ok (.iconst 0, 1) := by decide +kernel
theorem dL_isBelow_12 : decode cL_isBelow 12 = .ok (.istore 4, 2) := by decide +kernel
theorem dL_isBelow_14 : decode cL_isBelow 14 = .ok (.iconst 0, 1) := by decide +kernel
theorem dL_isBelow_15 : decode cL_isBelow 15 = .ok (.istore 5, 2) := by decide +kernel
theorem dL_isBelow_17 : decode cL_isBelow 17 = .ok (.iload 5, 2) := by decide +kernel
theorem dL_isBelow_19 : decode cL_isBelow 19 = .ok (.bipush 60, 2) := by decide +kernel
theorem dL_isBelow_21 : decode cL_isBelow 21 = .ok (.if_icmp .ge 31, 3) := by decide +kernel
theorem dL_isBelow_24 : decode cL_isBelow 24 = .ok (.aload_n 0, 1) := by decide +kernel
theorem dL_isBelow_25 : decode cL_isBelow 25 = .ok (.iload 5, 2) := by decide +kernel
theorem dL_isBelow_27 : decode cL_isBelow 27 = .ok (.iaload, 1) := by decide +kernel
theorem dL_isBelow_28 : decode cL_isBelow 28 = .ok (.bipush (-2), 2) := by decide +kernel
theorem dL_isBelow_30 : decode cL_isBelow 30 = .ok (.iload_n 3, 1) := by decide +kernel
theorem dL_isBelow_31 : decode cL_isBelow 31 = .ok (.isub, 1) := by decide +kernel
theorem dL_isBelow_32 : decode cL_isBelow 32 = .ok (.if_icmp .ne 10, 3) := by decide +kernel
theorem dL_isBelow_35 : decode cL_isBelow 35 = .ok (.iload 5, 2) := by decide +kernel
theorem dL_isBelow_37 : decode cL_isBelow 37 = .ok (.iconst 5, 1) := by decide +kernel
theorem dL_isBelow_38 : decode cL_isBelow 38 = .ok (.idiv, 1) := by decide +kernel
theorem dL_isBelow_39 : decode cL_isBelow 39 = .ok (.goto 5, 3) := by decide +kernel
theorem dL_isBelow_42 : decode cL_isBelow 42 = .ok (.iload 4, 2) := by decide +kernel
theorem dL_isBelow_44 : decode cL_isBelow 44 = .ok (.istore 4, 2) := by decide +kernel
theorem dL_isBelow_46 : decode cL_isBelow 46 = .ok (.iinc 5 1, 3) := by decide +kernel
theorem dL_isBelow_49 : decode cL_isBelow 49 = .ok (.goto (-32), 3) := by decide +kernel
theorem dL_isBelow_52 : decode cL_isBelow 52 = .ok (.iload 4, 2) := by decide +kernel
theorem dL_isBelow_54 : decode cL_isBelow 54 = .ok (.istore_n 3, 1) := by decide +kernel
theorem dL_isBelow_55 : decode cL_isBelow 55 = .ok (.goto (-53), 3) := by decide +kernel
theorem dL_isBelow_58 : decode cL_isBelow 58 = .ok (.iload_n 3, 1) := by decide +kernel
theorem dL_isBelow_59 : decode cL_isBelow 59 = .ok (.iload_n 2, 1) := by decide +kernel
theorem dL_isBelow_60 : decode cL_isBelow 60 = .ok (.if_icmp .ne 7, 3) := by decide +kernel
theorem dL_isBelow_63 : decode cL_isBelow 63 = .ok (.iconst 1, 1) := by decide +kernel
theorem dL_isBelow_64 : decode cL_isBelow 64 = .ok (.goto 4, 3) := by decide +kernel
theorem dL_isBelow_67 : decode cL_isBelow 67 = .ok (.iconst 0, 1) := by decide +kernel
theorem dL_isBelow_68 : decode cL_isBelow 68 = .ok (.ireturn, 1) := by decide +kernel
theorem dL_used_0 : decode cL_used 0 = .ok (.iconst 0, 1) := by decide +kernel
theorem dL_used_1 : decode cL_used 1 = .ok (.istore_n 2, 1) := by decide +kernel
theorem dL_used_2 : decode cL_used 2 = .ok (.iconst 0, 1) := by decide +kernel
theorem dL_used_3 : decode cL_used 3 = .ok (.istore_n 3, 1) := by decide +kernel
theorem dL_used_4 : decode cL_used 4 = .ok (.iload_n 3, 1) := by decide +kernel
theorem dL_used_5 : decode cL_used 5 = .ok (.iconst 5, 1) := by decide +kernel
theorem dL_used_6 : decode cL_used 6 = .ok (.if_icmp .ge 28, 3) := by decide +kernel
theorem dL_used_9 : decode cL_used 9 = .ok (.iload_n 2, 1) := by decide +kernel
theorem dL_used_10 : decode cL_used 10 = .ok (.aload_n 0, 1) := by decide +kernel
theorem dL_used_11 : decode cL_used 11 = .ok (.iconst 5, 1) := by decide +kernel
theorem dL_used_12 : decode cL_used 12 = .ok (.iload_n 1, 1) := by decide +kernel
theorem dL_used_13 : decode cL_used 13 = .ok (.imul, 1) := by decide +kernel
theorem dL_used_14 : decode cL_used 14 = .ok (.iload_n 3, 1) := by decide +kernel
theorem dL_used_15 : decode cL_used 15 = .ok (.iadd, 1) := by decide +kernel
theorem dL_used_16 : decode cL_used 16 = .ok (.iaload, 1) := by decide +kernel
theorem dL_used_17 : decode cL_used 17 = .ok (.iconst (-1), 1) := by decide +kernel
theorem dL_used_18 : decode cL_used 18 = .ok (.if_icmp .ne 7, 3) := by decide +kernel
theorem dL_used_21 : decode cL_used 21 = .ok (.iconst 0, 1) := by decide +kernel
theorem dL_used_22 : decode cL_used 22 = .ok (.goto 4, 3) := by decide +kernel
theorem dL_used_25 : decode cL_used 25 = .ok (.iconst 1, 1) := by decide +kernel
theorem dL_used_26 : decode cL_used 26 = .ok (.iadd, 1) := by decide +kernel
theorem dL_used_27 : decode cL_used 27 = .ok (.istore_n 2, 1) := by decide +kernel
theorem dL_used_28 : decode cL_used 28 = .ok (.iinc 3 1, 3) := by decide +kernel
theorem dL_used_31 : decode cL_used 31 = .ok (.goto (-27), 3) := by decide +kernel
theorem dL_used_34 : decode cL_used 34 = .ok (.iload_n 2, 1) := by decide +kernel
theorem dL_used_35 : decode cL_used 35 = .ok (.ireturn, 1) := by decide +kernel
theorem dL_count_0 : decode cL_count 0 = .ok (.iconst 0, 1) := by decide +kernel
theorem dL_count_1 : decode cL_count 1 = .ok (.istore_n 2, 1) := by decide +kernel
theorem dL_count_2 : decode cL_count 2 = .ok (.iconst 0, 1) := by decide +kernel
theorem dL_count_3 : decode cL_count 3 = .ok (.istore_n 3, 1) := by decide +kernel
theorem dL_count_4 : decode cL_count 4 = .ok (.iload_n 3, 1) := by decide +kernel
theorem dL_count_5 : decode cL_count 5 = .ok (.bipush 60, 2) := by decide +kernel
theorem dL_count_7 : decode cL_count 7 = .ok (.if_icmp .ge 24, 3) := by decide +kernel
theorem dL_count_10 : decode cL_count 10 = .ok (.iload_n 2, 1) := by decide +kernel
theorem dL_count_11 : decode cL_count 11 = .ok (.aload_n 0, 1) := by decide +kernel
theorem dL_count_12 : decode cL_count 12 = .ok (.iload_n 3, 1) := by decide +kernel
theorem dL_count_13 : decode cL_count 13 = .ok (.iaload, 1) := by decide +kernel
theorem dL_count_14 : decode cL_count 14 = .ok (.iload_n 1, 1) := by decide +kernel
theorem dL_count_15 : decode cL_count 15 = .ok (.if_icmp .ne 7, 3) := by decide +kernel
theorem dL_count_18 : decode cL_count 18 = .ok (.iconst 1, 1) := by decide +kernel
theorem dL_count_19 : decode cL_count 19 = .ok (.goto 4, 3) := by decide +kernel
theorem dL_count_22 : decode cL_count 22 = .ok (.iconst 0, 1) := by decide +kernel
theorem dL_count_23 : decode cL_count 23 = .ok (.iadd, 1) := by decide +kernel
theorem dL_count_24 : decode cL_count 24 = .ok (.istore_n 2, 1) := by decide +kernel
theorem dL_count_25 : decode cL_count 25 = .ok (.iinc 3 1, 3) := by decide +kernel
theorem dL_count_28 : decode cL_count 28 = .ok (.goto (-24), 3) := by decide +kernel
theorem dL_count_31 : decode cL_count 31 = .ok (.iload_n 2, 1) := by decide +kernel
theorem dL_count_32 : decode cL_count 32 = .ok (.ireturn, 1) := by decide +kernel
theorem dL_isAsBeside_0 : decode cL_isAsBeside 0 = .ok (.aload_n 0, 1) := by decide +kernel
theorem dL_isAsBeside_1 : decode cL_isAsBeside 1 = .ok (.iload 4, 2) := by decide +kernel
theorem dL_isAsBeside_3 : decode cL_isAsBeside 3 = .ok (.invokevirtual 8, 3) := by decide +kernel
theorem dL_isAsBeside_6 : decode cL_isAsBeside 6 = .ok (.aload_n 1, 1) := by decide +kernel
theorem dL_isAsBeside_7 : decode cL_isAsBeside 7 = .ok (.iload 4, 2) := by decide +kernel
theorem dL_isAsBeside_9 : decode cL_isAsBeside 9 = .ok (.invokestatic 14, 3) := by decide +kernel
theorem dL_isAsBeside_12 : decode cL_isAsBeside 12 = .ok (.if_icmp .ne 7, 3) := by decide +kernel
theorem dL_isAsBeside_15 : decode cL_isAsBeside 15 = .ok (.iconst 1, 1) := by decide +kernel
theorem dL_isAsBeside_16 : decode cL_isAsBeside 16 = .ok (.goto 4, 3) := by decide +kernel
theorem dL_isAsBeside_19 : decode cL_isAsBeside 19 = .ok (.iconst 0, 1) := by decide +kernel
theorem dL_isAsBeside_20 : decode cL_isAsBeside 20 = .ok (.istore 6, 2) := by decide +kernel
theorem dL_isAsBeside_22 : decode cL_isAsBeside 22 = .ok (.iconst 0, 1) := by decide +kernel
theorem dL_isAsBeside_23 : decode cL_isAsBeside 23 = .ok (.istore 7, 2) := by decide +kernel
theorem dL_isAsBeside_25 : decode cL_isAsBeside 25 = .ok (.iload 7, 2) := by decide +kernel
theorem dL_isAsBeside_27 : decode cL_isAsBeside 27 = .ok (.iconst 5, 1) := by decide +kernel
theorem dL_isAsBeside_28 : decode cL_isAsBeside 28 = .ok (.if_icmp .ge 60, 3) := by decide +kernel
theorem dL_isAsBeside_31 : decode cL_isAsBeside 31 = .ok (.iload 6, 2) := by decide +kernel
theorem dL_isAsBeside_33 : decode cL_isAsBeside 33 = .ok (.ifCond .eq 55, 3) := by decide +kernel
theorem dL_isAsBeside_36 : decode cL_isAsBeside 36 = .ok (.aload_n 1, 1) := by decide +kernel
theorem dL_isAsBeside_37 : decode cL_isAsBeside 37 = .ok (.iconst 5, 1) := by decide +kernel
theorem dL_isAsBeside_38 : decode cL_isAsBeside 38 = .ok (.iload 4, 2) := by decide +kernel
theorem dL_isAsBeside_40 : decode cL_isAsBeside 40 = .ok (.imul, 1) := by decide +kernel
theorem dL_isAsBeside_41 : decode cL_isAsBeside 41 = .ok (.iload 7, 2) := by decide +kernel
theorem dL_isAsBeside_43 : decode cL_isAsBeside 43 = .ok (.iadd, 1) := by decide +kernel
theorem dL_isAsBeside_44 : decode cL_isAsBeside 44 = .ok (.iaload, 1) := by decide +kernel
theorem dL_isAsBeside_45 : decode cL_isAsBeside 45 = .ok (.istore 8, 2) := by decide +kernel
theorem dL_isAsBeside_47 : decode cL_isAsBeside 47 = .ok (.aload_n 0, 1) := by decide +kernel
theorem dL_isAsBeside_48 : decode cL_isAsBeside 48 = .ok (.iload 4, 2) := by decide +kernel
theorem dL_isAsBeside_50 : decode cL_isAsBeside 50 = .ok (.iload 7, 2) := by decide +kernel
theorem dL_isAsBeside_52 : decode cL_isAsBeside 52 = .ok (.invokevirtual 20, 3) := by decide +kernel
theorem dL_isAsBeside_55 : decode cL_isAsBeside 55 = .ok (.iload 8, 2) := by decide +kernel
theorem dL_isAsBeside_57 : decode cL_isAsBeside 57 = .ok (.if_icmp .ne 22, 3) := by decide +kernel
theorem dL_isAsBeside_60 : decode cL_isAsBeside 60 = .ok (.aload_n 0, 1) := by decide +kernel
theorem dL_isAsBeside_61 : decode cL_isAsBeside 61 = .ok (.iload 5, 2) := by decide +kernel
theorem dL_isAsBeside_63 : decode cL_isAsBeside 63 = .ok (.iload 4, 2) := by decide +kernel
theorem dL_isAsBeside_65 : decode cL_isAsBeside 65 = .ok (.iload 7, 2) := by decide +kernel
theorem dL_isAsBeside_67 : decode cL_isAsBeside 67 = .ok (.invokevirtual 24, 3) := by decide +kernel
theorem dL_isAsBeside_70 : decode cL_isAsBeside 70 = .ok (.iload 8, 2) := by decide +kernel
theorem dL_isAsBeside_72 : decode cL_isAsBeside 72 = .ok (.if_icmp .ne 7, 3) := by decide +kernel
theorem dL_isAsBeside_75 : decode cL_isAsBeside 75 = .ok (.iconst 1, 1) := by decide +kernel
theorem dL_isAsBeside_76 : decode cL_isAsBeside 76 = .ok (.goto 4, 3) := by decide +kernel
theorem dL_isAsBeside_79 : decode cL_isAsBeside 79 = .ok (.iconst 0, 1) := by decide +kernel
theorem dL_isAsBeside_80 : decode cL_isAsBeside 80 = .ok (.istore 6, 2) := by decide +kernel
theorem dL_isAsBeside_82 : decode cL_isAsBeside 82 = .ok (.iinc 7 1, 3) := by decide +kernel
theorem dL_isAsBeside_85 : decode cL_isAsBeside 85 = .ok (.goto (-60), 3) := by decide +kernel
theorem dL_isAsBeside_88 : decode cL_isAsBeside 88 = .ok (.iconst 0, 1) := by decide +kernel
theorem dL_isAsBeside_89 : decode cL_isAsBeside 89 = .ok (.istore 7, 2) := by decide +kernel
theorem dL_isAsBeside_91 : decode cL_isAsBeside 91 = .ok (.iload 7, 2) := by decide +kernel
theorem dL_isAsBeside_93 : decode cL_isAsBeside 93 = .ok (.aload_n 3, 1) := by decide +kernel
theorem dL_isAsBeside_94 : decode cL_isAsBeside 94 = .ok (.iconst 1, 1) := by decide +kernel
theorem dL_isAsBeside_95 : decode cL_isAsBeside 95 = .ok (.iaload, 1) := by decide +kernel
theorem dL_isAsBeside_96 : decode cL_isAsBeside 96 = .ok (.if_icmp .ge 119, 3) := by decide +kernel
theorem dL_isAsBeside_99 : decode cL_isAsBeside 99 = .ok (.iload 6, 2) := by decide +kernel
theorem dL_isAsBeside_101 : decode cL_isAsBeside 101 = .ok (.ifCond .eq 114, 3) := by decide +kernel
theorem dL_isAsBeside_104 : decode cL_isAsBeside 104 = .ok (.iconst (-1), 1) := by decide +kernel
theorem dL_isAsBeside_105 : decode cL_isAsBeside 105 = .ok (.istore 8, 2) := by decide +kernel
theorem dL_isAsBeside_107 : decode cL_isAsBeside 107 = .ok (.iconst 0, 1) := by decide +kernel
theorem dL_isAsBeside_108 : decode cL_isAsBeside 108 = .ok (.istore 9, 2) := by decide +kernel
theorem dL_isAsBeside_110 : decode cL_isAsBeside 110 = .ok (.iload 9, 2) := by decide +kernel
theorem dL_isAsBeside_112 : decode cL_isAsBeside 112 = .ok (.bipush 60, 2) := by decide +kernel
theorem dL_isAsBeside_114 : decode cL_isAsBeside 114 = .ok (.if_icmp .ge 43, 3) := by decide +kernel
theorem dL_isAsBeside_117 : decode cL_isAsBeside 117 = .ok (.aload_n 1, 1) := by decide +kernel
theorem dL_isAsBeside_118 : decode cL_isAsBeside 118 = .ok (.iload 9, 2) := by decide +kernel
theorem dL_isAsBeside_120 : decode cL_isAsBeside 120 = .ok (.iaload, 1) := by decide +kernel
theorem dL_isAsBeside_121 : decode cL_isAsBeside 121 = .ok (.iload 7, 2) := by decide +kernel
theorem dL_isAsBeside_123 : decode cL_isAsBeside 123 = .ok (.if_icmp .ne 24, 3) := by decide +kernel
theorem dL_isAsBeside_126 : decode cL_isAsBeside 126 = .ok (.iload 8, 2) := by decide +kernel
theorem dL_isAsBeside_128 : decode cL_isAsBeside 128 = .ok (.ifCond .lt 14, 3) := by decide +kernel
theorem dL_isAsBeside_131 : decode cL_isAsBeside 131 = .ok (.aload_n 2, 1) := by decide +kernel
theorem dL_isAsBeside_132 : decode cL_isAsBeside 132 = .ok (.iload 9, 2) := by decide +kernel
theorem dL_isAsBeside_134 : decode cL_isAsBeside 134 = .ok (.iaload, 1) := by decide +kernel
theorem dL_isAsBeside_135 : decode cL_isAsBeside 135 = .ok (.aload_n 2, 1) := by decide +kernel
theorem dL_isAsBeside_136 : decode cL_isAsBeside 136 = .ok (.iload 8, 2) := by decide +kernel
theorem dL_isAsBeside_138 : decode cL_isAsBeside 138 = .ok (.iaload, 1) := by decide +kernel
theorem dL_isAsBeside_139 : decode cL_isAsBeside 139 = .ok (.if_icmp .ge 8, 3) := by decide +kernel
theorem dL_isAsBeside_142 : decode cL_isAsBeside 142 = .ok (.iload 9, 2) := by decide +kernel
theorem dL_isAsBeside_144 : decode cL_isAsBeside 144 = .ok (.goto 5, 3) := by decide +kernel
theorem dL_isAsBeside_147 : decode cL_isAsBeside 147 = .ok (.iload 8, 2) := by decide +kernel
theorem dL_isAsBeside_149 : decode cL_isAsBeside 149 = .ok (.istore 8, 2) := by decide +kernel
theorem dL_isAsBeside_151 : decode cL_isAsBeside 151 = .ok (.iinc 9 1, 3) := by decide +kernel
theorem dL_isAsBeside_154 : decode cL_isAsBeside 154 = .ok (.goto (-44), 3) := by decide +kernel
theorem dL_isAsBeside_157 : decode cL_isAsBeside 157 = .ok (.aload_n 0, 1) := by decide +kernel
theorem dL_isAsBeside_158 : decode cL_isAsBeside 158 = .ok (.iload 7, 2) := by decide +kernel
theorem dL_isAsBeside_160 : decode cL_isAsBeside 160 = .ok (.invokevirtual 28, 3) := by decide +kernel
theorem dL_isAsBeside_163 : decode cL_isAsBeside 163 = .ok (.aload_n 1, 1) := by decide +kernel
theorem dL_isAsBeside_164 : decode cL_isAsBeside 164 = .ok (.iload 7, 2) := by decide +kernel
theorem dL_isAsBeside_166 : decode cL_isAsBeside 166 = .ok (.invokestatic 31, 3) := by decide +kernel
theorem dL_isAsBeside_169 : decode cL_isAsBeside 169 = .ok (.if_icmp .ne 37, 3) := by decide +kernel
theorem dL_isAsBeside_172 : decode cL_isAsBeside 172 = .ok (.aload_n 0, 1) := by decide +kernel
theorem dL_isAsBeside_173 : decode cL_isAsBeside 173 = .ok (.iload 7, 2) := by decide +kernel
theorem dL_isAsBeside_175 : decode cL_isAsBeside 175 = .ok (.invokevirtual 34, 3) := by decide +kernel
theorem dL_isAsBeside_178 : decode cL_isAsBeside 178 = .ok (.iload 8, 2) := by decide +kernel
theorem dL_isAsBeside_180 : decode cL_isAsBeside 180 = .ok (.ifCond .ge 7, 3) := by decide +kernel
theorem dL_isAsBeside_183 : decode cL_isAsBeside 183 = .ok (.iconst (-1), 1) := by decide +kernel
theorem dL_isAsBeside_184 : decode cL_isAsBeside 184 = .ok (.goto 15, 3) := by decide +kernel
theorem dL_isAsBeside_187 : decode cL_isAsBeside 187 = .ok (.bipush 100, 2) := by decide +kernel
theorem dL_isAsBeside_189 : decode cL_isAsBeside 189 = .ok (.iload 8, 2) := by decide +kernel
theorem dL_isAsBeside_191 : decode cL_isAsBeside 191 = .ok (.iconst 5, 1) := by decide +kernel
theorem dL_isAsBeside_192 : decode cL_isAsBeside 192 = .ok (.idiv, 1) := by decide +kernel
theorem dL_isAsBeside_193 : decode cL_isAsBeside 193 = .ok (.imul, 1) := by decide +kernel
theorem dL_isAsBeside_194 : decode cL_isAsBeside 194 = .ok (.iload 8, 2) := by decide +kernel
theorem dL_isAsBeside_196 : decode cL_isAsBeside 196 = .ok (.iconst 5, 1) := by decide +kernel
theorem dL_isAsBeside_197 : decode cL_isAsBeside 197 = .ok (.irem, 1) := by decide +kernel
theorem dL_isAsBeside_198 : decode cL_isAsBeside 198 = .ok (.iadd, 1) := by decide +kernel
theorem dL_isAsBeside_199 : decode cL_isAsBeside 199 = .ok (.if_icmp .ne 7, 3) := by decide +kernel
theorem dL_isAsBeside_202 : decode cL_isAsBeside 202 = .ok (.iconst 1, 1) := by decide +kernel
theorem dL_isAsBeside_203 : decode cL_isAsBeside 203 = .ok (.goto 4, 3) := by decide +kernel
theorem dL_isAsBeside_206 : decode cL_isAsBeside 206 = .ok (.iconst 0, 1) := by decide +kernel
theorem dL_isAsBeside_207 : decode cL_isAsBeside 207 = .ok (.istore 6, 2) := by decide +kernel
theorem dL_isAsBeside_209 : decode cL_isAsBeside 209 = .ok (.iinc 7 1, 3) := by decide +kernel
theorem dL_isAsBeside_212 : decode cL_isAsBeside 212 = .ok (.goto (-121), 3) := by decide +kernel
theorem dL_isAsBeside_215 : decode cL_isAsBeside 215 = .ok (.iload 6, 2) := by decide +kernel
theorem dL_isAsBeside_217 : decode cL_isAsBeside 217 = .ok (.ireturn, 1) := by decide +kernel
theorem dL_law_0 : decode cL_law 0 = .ok (.new 9, 3) := by decide +kernel
theorem dL_law_3 : decode cL_law 3 = .ok (.dup, 1) := by decide +kernel
theorem dL_law_4 : decode cL_law 4 = .ok (.invokespecial 37, 3) := by decide +kernel
theorem dL_law_7 : decode cL_law 7 = .ok (.astore_n 1, 1) := by decide +kernel
theorem dL_law_8 : decode cL_law 8 = .ok (.bipush 60, 2) := by decide +kernel
theorem dL_law_10 : decode cL_law 10 = .ok (.newarray .int, 2) := by decide +kernel
theorem dL_law_12 : decode cL_law 12 = .ok (.astore_n 2, 1) := by decide +kernel
theorem dL_law_13 : decode cL_law 13 = .ok (.bipush 60, 2) := by decide +kernel
theorem dL_law_15 : decode cL_law 15 = .ok (.newarray .int, 2) := by decide +kernel
theorem dL_law_17 : decode cL_law 17 = .ok (.astore_n 3, 1) := by decide +kernel
theorem dL_law_18 : decode cL_law 18 = .ok (.iconst 3, 1) := by decide +kernel
theorem dL_law_19 : decode cL_law 19 = .ok (.newarray .int, 2) := by decide +kernel
theorem dL_law_21 : decode cL_law 21 = .ok (.astore 4, 2) := by decide +kernel
theorem dL_law_23 : decode cL_law 23 = .ok (.iconst 0, 1) := by decide +kernel
theorem dL_law_24 : decode cL_law 24 = .ok (.istore 5, 2) := by decide +kernel
theorem dL_law_26 : decode cL_law 26 = .ok (.iload 5, 2) := by decide +kernel
theorem dL_law_28 : decode cL_law 28 = .ok (.bipush 60, 2) := by decide +kernel
theorem dL_law_30 : decode cL_law 30 = .ok (.if_icmp .ge 14, 3) := by decide +kernel
theorem dL_law_33 : decode cL_law 33 = .ok (.aload_n 2, 1) := by decide +kernel
theorem dL_law_34 : decode cL_law 34 = .ok (.iload 5, 2) := by decide +kernel
theorem dL_law_36 : decode cL_law 36 = .ok (.iconst (-1), 1) := by decide +kernel
theorem dL_law_37 : decode cL_law 37 = .ok (.iastore, 1) := by decide +kernel
theorem dL_law_38 : decode cL_law 38 = .ok (.iinc 5 1, 3) := by decide +kernel
theorem dL_law_41 : decode cL_law 41 = .ok (.goto (-15), 3) := by decide +kernel
theorem dL_law_44 : decode cL_law 44 = .ok (.aload 4, 2) := by decide +kernel
theorem dL_law_46 : decode cL_law 46 = .ok (.iconst 0, 1) := by decide +kernel
theorem dL_law_47 : decode cL_law 47 = .ok (.iconst 1, 1) := by decide +kernel
theorem dL_law_48 : decode cL_law 48 = .ok (.iastore, 1) := by decide +kernel
theorem dL_law_49 : decode cL_law 49 = .ok (.iconst 0, 1) := by decide +kernel
theorem dL_law_50 : decode cL_law 50 = .ok (.istore 5, 2) := by decide +kernel
theorem dL_law_52 : decode cL_law 52 = .ok (.iload 5, 2) := by decide +kernel
theorem dL_law_54 : decode cL_law 54 = .ok (.bipush 70, 2) := by decide +kernel
theorem dL_law_56 : decode cL_law 56 = .ok (.if_icmp .ge 628, 3) := by decide +kernel
theorem dL_law_59 : decode cL_law 59 = .ok (.aload_n 0, 1) := by decide +kernel
theorem dL_law_60 : decode cL_law 60 = .ok (.iconst 2, 1) := by decide +kernel
theorem dL_law_61 : decode cL_law 61 = .ok (.iload 5, 2) := by decide +kernel
theorem dL_law_63 : decode cL_law 63 = .ok (.imul, 1) := by decide +kernel
theorem dL_law_64 : decode cL_law 64 = .ok (.invokestatic 38, 3) := by decide +kernel
theorem dL_law_67 : decode cL_law 67 = .ok (.istore 6, 2) := by decide +kernel
theorem dL_law_69 : decode cL_law 69 = .ok (.aload_n 0, 1) := by decide +kernel
theorem dL_law_70 : decode cL_law 70 = .ok (.iconst 2, 1) := by decide +kernel
theorem dL_law_71 : decode cL_law 71 = .ok (.iload 5, 2) := by decide +kernel
theorem dL_law_73 : decode cL_law 73 = .ok (.imul, 1) := by decide +kernel
theorem dL_law_74 : decode cL_law 74 = .ok (.iconst 1, 1) := by decide +kernel
theorem dL_law_75 : decode cL_law 75 = .ok (.iadd, 1) := by decide +kernel
theorem dL_law_76 : decode cL_law 76 = .ok (.invokestatic 38, 3) := by decide +kernel
theorem dL_law_79 : decode cL_law 79 = .ok (.istore 7, 2) := by decide +kernel
theorem dL_law_81 : decode cL_law 81 = .ok (.iload 6, 2) := by decide +kernel
theorem dL_law_83 : decode cL_law 83 = .ok (.bipush 10, 2) := by decide +kernel
theorem dL_law_85 : decode cL_law 85 = .ok (.invokestatic 41, 3) := by decide +kernel
theorem dL_law_88 : decode cL_law 88 = .ok (.istore 8, 2) := by decide +kernel
theorem dL_law_90 : decode cL_law 90 = .ok (.iload 6, 2) := by decide +kernel
theorem dL_law_92 : decode cL_law 92 = .ok (.iconst 4, 1) := by decide +kernel
theorem dL_law_93 : decode cL_law 93 = .ok (.ishr, 1) := by decide +kernel
theorem dL_law_94 : decode cL_law 94 = .ok (.iconst 4, 1) := by decide +kernel
theorem dL_law_95 : decode cL_law 95 = .ok (.invokestatic 41, 3) := by decide +kernel
theorem dL_law_98 : decode cL_law 98 = .ok (.istore 9, 2) := by decide +kernel
theorem dL_law_100 : decode cL_law 100 = .ok (.iload 7, 2) := by decide +kernel
theorem dL_law_102 : decode cL_law 102 = .ok (.aload 4, 2) := by decide +kernel
theorem dL_law_104 : decode cL_law 104 = .ok (.iconst 0, 1) := by decide +kernel
theorem dL_law_105 : decode cL_law 105 = .ok (.iaload, 1) := by decide +kernel
theorem dL_law_106 : decode cL_law 106 = .ok (.invokestatic 41, 3) := by decide +kernel
theorem dL_law_109 : decode cL_law 109 = .ok (.istore 10, 2) := by decide +kernel
theorem dL_law_111 : decode cL_law 111 = .ok (.aload_n 2, 1) := by decide +kernel
theorem dL_law_112 : decode cL_law 112 = .ok (.iload 10, 2) := by decide +kernel
theorem dL_law_114 : decode cL_law 114 = .ok (.invokestatic 44, 3) := by decide +kernel
theorem dL_law_117 : decode cL_law 117 = .ok (.ifCond .eq 8, 3) := by decide +kernel
theorem dL_law_120 : decode cL_law 120 = .ok (.iload 10, 2) := by decide +kernel
theorem dL_law_122 : decode cL_law 122 = .ok (.goto 4, 3) := by decide +kernel
theorem dL_law_125 : decode cL_law 125 = .ok (.iconst 0, 1) := by decide +kernel
theorem dL_law_126 : decode cL_law 126 = .ok (.istore 10, 2) := by decide +kernel
theorem dL_law_128 : decode cL_law 128 = .ok (.iload 7, 2) := by decide +kernel
theorem dL_law_130 : decode cL_law 130 = .ok (.iconst 5, 1) := by decide +kernel
theorem dL_law_131 : decode cL_law 131 = .ok (.ishr, 1) := by decide +kernel
theorem dL_law_132 : decode cL_law 132 = .ok (.iconst 5, 1) := by decide +kernel
theorem dL_law_133 : decode cL_law 133 = .ok (.invokestatic 41, 3) := by decide +kernel
theorem dL_law_136 : decode cL_law 136 = .ok (.istore 11, 2) := by decide +kernel
theorem dL_law_138 : decode cL_law 138 = .ok (.iconst 5, 1) := by decide +kernel
theorem dL_law_139 : decode cL_law 139 = .ok (.iload 10, 2) := by decide +kernel
theorem dL_law_141 : decode cL_law 141 = .ok (.imul, 1) := by decide +kernel
theorem dL_law_142 : decode cL_law 142 = .ok (.iload 11, 2) := by decide +kernel
theorem dL_law_144 : decode cL_law 144 = .ok (.iadd, 1) := by decide +kernel
theorem dL_law_145 : decode cL_law 145 = .ok (.istore 12, 2) := by decide +kernel
theorem dL_law_147 : decode cL_law 147 = .ok (.iconst 1, 1) := by decide +kernel
theorem dL_law_148 : decode cL_law 148 = .ok (.istore 13, 2) := by decide +kernel
theorem dL_law_150 : decode cL_law 150 = .ok (.iload 8, 2) := by decide +kernel
theorem dL_law_152 : decode cL_law 152 = .ok (.iconst 2, 1) := by decide +kernel
theorem dL_law_153 : decode cL_law 153 = .ok (.if_icmp .ge 66, 3) := by decide +kernel
theorem dL_law_156 : decode cL_law 156 = .ok (.aload 4, 2) := by decide +kernel
theorem dL_law_158 : decode cL_law 158 = .ok (.iconst 0, 1) := by decide +kernel
theorem dL_law_159 : decode cL_law 159 = .ok (.iaload, 1) := by decide +kernel
theorem dL_law_160 : decode cL_law 160 = .ok (.bipush 12, 2) := by decide +kernel
theorem dL_law_162 : decode cL_law 162 = .ok (.if_icmp .ge 57, 3) := by decide +kernel
theorem dL_law_165 : decode cL_law 165 = .ok (.aload_n 2, 1) := by decide +kernel
theorem dL_law_166 : decode cL_law 166 = .ok (.iload 12, 2) := by decide +kernel
theorem dL_law_168 : decode cL_law 168 = .ok (.iaload, 1) := by decide +kernel
theorem dL_law_169 : decode cL_law 169 = .ok (.iconst (-1), 1) := by decide +kernel
theorem dL_law_170 : decode cL_law 170 = .ok (.if_icmp .ne 49, 3) := by decide +kernel
theorem dL_law_173 : decode cL_law 173 = .ok (.aload_n 1, 1) := by decide +kernel
theorem dL_law_174 : decode cL_law 174 = .ok (.iload 9, 2) := by decide +kernel
theorem dL_law_176 : decode cL_law 176 = .ok (.iload 10, 2) := by decide +kernel
theorem dL_law_178 : decode cL_law 178 = .ok (.iload 11, 2) := by decide +kernel
theorem dL_law_180 : decode cL_law 180 = .ok (.invokevirtual 48, 3) := by decide +kernel
theorem dL_law_183 : decode cL_law 183 = .ok (.aload 4, 2) := by decide +kernel
theorem dL_law_185 : decode cL_law 185 = .ok (.iconst 0, 1) := by decide +kernel
theorem dL_law_186 : decode cL_law 186 = .ok (.iaload, 1) := by decide +kernel
theorem dL_law_187 : decode cL_law 187 = .ok (.if_icmp .ne 7, 3) := by decide +kernel
theorem dL_law_190 : decode cL_law 190 = .ok (.iconst 1, 1) := by decide +kernel
theorem dL_law_191 : decode cL_law 191 = .ok (.goto 4, 3) := by decide +kernel
theorem dL_law_194 : decode cL_law 194 = .ok (.iconst 0, 1) := by decide +kernel
theorem dL_law_195 : decode cL_law 195 = .ok (.istore 13, 2) := by decide +kernel
theorem dL_law_197 : decode cL_law 197 = .ok (.aload_n 2, 1) := by decide +kernel
theorem dL_law_198 : decode cL_law 198 = .ok (.iload 12, 2) := by decide +kernel
theorem dL_law_200 : decode cL_law 200 = .ok (.bipush (-2), 2) := by decide +kernel
theorem dL_law_202 : decode cL_law 202 = .ok (.aload 4, 2) := by decide +kernel
theorem dL_law_204 : decode cL_law 204 = .ok (.iconst 0, 1) := by decide +kernel
theorem dL_law_205 : decode cL_law 205 = .ok (.iaload, 1) := by decide +kernel
theorem dL_law_206 : decode cL_law 206 = .ok (.isub, 1) := by decide +kernel
theorem dL_law_207 : decode cL_law 207 = .ok (.iastore, 1) := by decide +kernel
theorem dL_law_208 : decode cL_law 208 = .ok (.aload 4, 2) := by decide +kernel
theorem dL_law_210 : decode cL_law 210 = .ok (.iconst 0, 1) := by decide +kernel
theorem dL_law_211 : decode cL_law 211 = .ok (.dup2, 1) := by decide +kernel
theorem dL_law_212 : decode cL_law 212 = .ok (.iaload, 1) := by decide +kernel
theorem dL_law_213 : decode cL_law 213 = .ok (.iconst 1, 1) := by decide +kernel
theorem dL_law_214 : decode cL_law 214 = .ok (.iadd, 1) := by decide +kernel
theorem dL_law_215 : decode cL_law 215 = .ok (.iastore, 1) := by decide +kernel
theorem dL_law_216 : decode cL_law 216 = .ok (.goto 413, 3) := by decide +kernel
theorem dL_law_219 : decode cL_law 219 = .ok (.iload 8, 2) := by decide +kernel
theorem dL_law_221 : decode cL_law 221 = .ok (.iconst 4, 1) := by decide +kernel
theorem dL_law_222 : decode cL_law 222 = .ok (.if_icmp .ge 79, 3) := by decide +kernel
theorem dL_law_225 : decode cL_law 225 = .ok (.aload 4, 2) := by decide +kernel
theorem dL_law_227 : decode cL_law 227 = .ok (.iconst 1, 1) := by decide +kernel
theorem dL_law_228 : decode cL_law 228 = .ok (.iaload, 1) := by decide +kernel
theorem dL_law_229 : decode cL_law 229 = .ok (.bipush 30, 2) := by decide +kernel
theorem dL_law_231 : decode cL_law 231 = .ok (.if_icmp .ge 70, 3) := by decide +kernel
theorem dL_law_234 : decode cL_law 234 = .ok (.aload_n 2, 1) := by decide +kernel
theorem dL_law_235 : decode cL_law 235 = .ok (.iload 12, 2) := by decide +kernel
theorem dL_law_237 : decode cL_law 237 = .ok (.iaload, 1) := by decide +kernel
theorem dL_law_238 : decode cL_law 238 = .ok (.iconst (-1), 1) := by decide +kernel
theorem dL_law_239 : decode cL_law 239 = .ok (.if_icmp .ne 62, 3) := by decide +kernel
theorem dL_law_242 : decode cL_law 242 = .ok (.aload_n 1, 1) := by decide +kernel
theorem dL_law_243 : decode cL_law 243 = .ok (.iload 9, 2) := by decide +kernel
theorem dL_law_245 : decode cL_law 245 = .ok (.iload 10, 2) := by decide +kernel
theorem dL_law_247 : decode cL_law 247 = .ok (.iload 11, 2) := by decide +kernel
theorem dL_law_249 : decode cL_law 249 = .ok (.invokevirtual 51, 3) := by decide +kernel
theorem dL_law_252 : decode cL_law 252 = .ok (.aload 4, 2) := by decide +kernel
theorem dL_law_254 : decode cL_law 254 = .ok (.iconst 1, 1) := by decide +kernel
theorem dL_law_255 : decode cL_law 255 = .ok (.iaload, 1) := by decide +kernel
theorem dL_law_256 : decode cL_law 256 = .ok (.if_icmp .ne 7, 3) := by decide +kernel
theorem dL_law_259 : decode cL_law 259 = .ok (.iconst 1, 1) := by decide +kernel
theorem dL_law_260 : decode cL_law 260 = .ok (.goto 4, 3) := by decide +kernel
theorem dL_law_263 : decode cL_law 263 = .ok (.iconst 0, 1) := by decide +kernel
theorem dL_law_264 : decode cL_law 264 = .ok (.istore 13, 2) := by decide +kernel
theorem dL_law_266 : decode cL_law 266 = .ok (.aload_n 2, 1) := by decide +kernel
theorem dL_law_267 : decode cL_law 267 = .ok (.iload 12, 2) := by decide +kernel
theorem dL_law_269 : decode cL_law 269 = .ok (.aload 4, 2) := by decide +kernel
theorem dL_law_271 : decode cL_law 271 = .ok (.iconst 1, 1) := by decide +kernel
theorem dL_law_272 : decode cL_law 272 = .ok (.iaload, 1) := by decide +kernel
theorem dL_law_273 : decode cL_law 273 = .ok (.iastore, 1) := by decide +kernel
theorem dL_law_274 : decode cL_law 274 = .ok (.aload_n 3, 1) := by decide +kernel
theorem dL_law_275 : decode cL_law 275 = .ok (.iload 12, 2) := by decide +kernel
theorem dL_law_277 : decode cL_law 277 = .ok (.aload 4, 2) := by decide +kernel
theorem dL_law_279 : decode cL_law 279 = .ok (.iconst 2, 1) := by decide +kernel
theorem dL_law_280 : decode cL_law 280 = .ok (.iaload, 1) := by decide +kernel
theorem dL_law_281 : decode cL_law 281 = .ok (.iastore, 1) := by decide +kernel
theorem dL_law_282 : decode cL_law 282 = .ok (.aload 4, 2) := by decide +kernel
theorem dL_law_284 : decode cL_law 284 = .ok (.iconst 1, 1) := by decide +kernel
theorem dL_law_285 : decode cL_law 285 = .ok (.dup2, 1) := by decide +kernel
theorem dL_law_286 : decode cL_law 286 = .ok (.iaload, 1) := by decide +kernel
theorem dL_law_287 : decode cL_law 287 = .ok (.iconst 1, 1) := by decide +kernel
theorem dL_law_288 : decode cL_law 288 = .ok (.iadd, 1) := by decide +kernel
theorem dL_law_289 : decode cL_law 289 = .ok (.iastore, 1) := by decide +kernel
theorem dL_law_290 : decode cL_law 290 = .ok (.aload 4, 2) := by decide +kernel
theorem dL_law_292 : decode cL_law 292 = .ok (.iconst 2, 1) := by decide +kernel
theorem dL_law_293 : decode cL_law 293 = .ok (.dup2, 1) := by decide +kernel
theorem dL_law_294 : decode cL_law 294 = .ok (.iaload, 1) := by decide +kernel
theorem dL_law_295 : decode cL_law 295 = .ok (.iconst 1, 1) := by decide +kernel
theorem dL_law_296 : decode cL_law 296 = .ok (.iadd, 1) := by decide +kernel
theorem dL_law_297 : decode cL_law 297 = .ok (.iastore, 1) := by decide +kernel
theorem dL_law_298 : decode cL_law 298 = .ok (.goto 331, 3) := by decide +kernel
theorem dL_law_301 : decode cL_law 301 = .ok (.iload 8, 2) := by decide +kernel
theorem dL_law_303 : decode cL_law 303 = .ok (.iconst 4, 1) := by decide +kernel
theorem dL_law_304 : decode cL_law 304 = .ok (.if_icmp .ne 104, 3) := by decide +kernel
theorem dL_law_307 : decode cL_law 307 = .ok (.aload 4, 2) := by decide +kernel
theorem dL_law_309 : decode cL_law 309 = .ok (.iconst 1, 1) := by decide +kernel
theorem dL_law_310 : decode cL_law 310 = .ok (.iaload, 1) := by decide +kernel
theorem dL_law_311 : decode cL_law 311 = .ok (.ifCond .le 97, 3) := by decide +kernel
theorem dL_law_314 : decode cL_law 314 = .ok (.aload_n 2, 1) := by decide +kernel
theorem dL_law_315 : decode cL_law 315 = .ok (.iload 12, 2) := by decide +kernel
theorem dL_law_317 : decode cL_law 317 = .ok (.iaload, 1) := by decide +kernel
theorem dL_law_318 : decode cL_law 318 = .ok (.iconst (-1), 1) := by decide +kernel
theorem dL_law_319 : decode cL_law 319 = .ok (.if_icmp .ne 89, 3) := by decide +kernel
theorem dL_law_322 : decode cL_law 322 = .ok (.aload_n 2, 1) := by decide +kernel
theorem dL_law_323 : decode cL_law 323 = .ok (.iload 7, 2) := by decide +kernel
theorem dL_law_325 : decode cL_law 325 = .ok (.bipush 9, 2) := by decide +kernel
theorem dL_law_327 : decode cL_law 327 = .ok (.ishr, 1) := by decide +kernel
theorem dL_law_328 : decode cL_law 328 = .ok (.aload 4, 2) := by decide +kernel
theorem dL_law_330 : decode cL_law 330 = .ok (.iconst 1, 1) := by decide +kernel
theorem dL_law_331 : decode cL_law 331 = .ok (.iaload, 1) := by decide +kernel
theorem dL_law_332 : decode cL_law 332 = .ok (.invokestatic 41, 3) := by decide +kernel
theorem dL_law_335 : decode cL_law 335 = .ok (.invokestatic 31, 3) := by decide +kernel
theorem dL_law_338 : decode cL_law 338 = .ok (.ifCond .le 70, 3) := by decide +kernel
theorem dL_law_341 : decode cL_law 341 = .ok (.iload 7, 2) := by decide +kernel
theorem dL_law_343 : decode cL_law 343 = .ok (.bipush 9, 2) := by decide +kernel
theorem dL_law_345 : decode cL_law 345 = .ok (.ishr, 1) := by decide +kernel
theorem dL_law_346 : decode cL_law 346 = .ok (.aload 4, 2) := by decide +kernel
theorem dL_law_348 : decode cL_law 348 = .ok (.iconst 1, 1) := by decide +kernel
theorem dL_law_349 : decode cL_law 349 = .ok (.iaload, 1) := by decide +kernel
theorem dL_law_350 : decode cL_law 350 = .ok (.invokestatic 41, 3) := by decide +kernel
theorem dL_law_353 : decode cL_law 353 = .ok (.istore 14, 2) := by decide +kernel
theorem dL_law_355 : decode cL_law 355 = .ok (.aload_n 2, 1) := by decide +kernel
theorem dL_law_356 : decode cL_law 356 = .ok (.iload 12, 2) := by decide +kernel
theorem dL_law_358 : decode cL_law 358 = .ok (.iload 14, 2) := by decide +kernel
theorem dL_law_360 : decode cL_law 360 = .ok (.iastore, 1) := by decide +kernel
theorem dL_law_361 : decode cL_law 361 = .ok (.aload_n 3, 1) := by decide +kernel
theorem dL_law_362 : decode cL_law 362 = .ok (.iload 12, 2) := by decide +kernel
theorem dL_law_364 : decode cL_law 364 = .ok (.aload 4, 2) := by decide +kernel
theorem dL_law_366 : decode cL_law 366 = .ok (.iconst 2, 1) := by decide +kernel
theorem dL_law_367 : decode cL_law 367 = .ok (.iaload, 1) := by decide +kernel
theorem dL_law_368 : decode cL_law 368 = .ok (.iastore, 1) := by decide +kernel
theorem dL_law_369 : decode cL_law 369 = .ok (.aload 4, 2) := by decide +kernel
theorem dL_law_371 : decode cL_law 371 = .ok (.iconst 2, 1) := by decide +kernel
theorem dL_law_372 : decode cL_law 372 = .ok (.dup2, 1) := by decide +kernel
theorem dL_law_373 : decode cL_law 373 = .ok (.iaload, 1) := by decide +kernel
theorem dL_law_374 : decode cL_law 374 = .ok (.iconst 1, 1) := by decide +kernel
theorem dL_law_375 : decode cL_law 375 = .ok (.iadd, 1) := by decide +kernel
theorem dL_law_376 : decode cL_law 376 = .ok (.iastore, 1) := by decide +kernel
theorem dL_law_377 : decode cL_law 377 = .ok (.aload_n 1, 1) := by decide +kernel
theorem dL_law_378 : decode cL_law 378 = .ok (.iload 9, 2) := by decide +kernel
theorem dL_law_380 : decode cL_law 380 = .ok (.iload 10, 2) := by decide +kernel
theorem dL_law_382 : decode cL_law 382 = .ok (.iload 11, 2) := by decide +kernel
theorem dL_law_384 : decode cL_law 384 = .ok (.iload 14, 2) := by decide +kernel
theorem dL_law_386 : decode cL_law 386 = .ok (.invokevirtual 54, 3) := by decide +kernel
theorem dL_law_389 : decode cL_law 389 = .ok (.aload_n 2, 1) := by decide +kernel
theorem dL_law_390 : decode cL_law 390 = .ok (.iload 14, 2) := by decide +kernel
theorem dL_law_392 : decode cL_law 392 = .ok (.invokestatic 31, 3) := by decide +kernel
theorem dL_law_395 : decode cL_law 395 = .ok (.if_icmp .ne 7, 3) := by decide +kernel
theorem dL_law_398 : decode cL_law 398 = .ok (.iconst 1, 1) := by decide +kernel
theorem dL_law_399 : decode cL_law 399 = .ok (.goto 4, 3) := by decide +kernel
theorem dL_law_402 : decode cL_law 402 = .ok (.iconst 0, 1) := by decide +kernel
theorem dL_law_403 : decode cL_law 403 = .ok (.istore 13, 2) := by decide +kernel
theorem dL_law_405 : decode cL_law 405 = .ok (.goto 224, 3) := by decide +kernel
theorem dL_law_408 : decode cL_law 408 = .ok (.iload 8, 2) := by decide +kernel
theorem dL_law_410 : decode cL_law 410 = .ok (.iconst 5, 1) := by decide +kernel
theorem dL_law_411 : decode cL_law 411 = .ok (.if_icmp .ne 64, 3) := by decide +kernel
theorem dL_law_414 : decode cL_law 414 = .ok (.aload_n 2, 1) := by decide +kernel
theorem dL_law_415 : decode cL_law 415 = .ok (.iload 12, 2) := by decide +kernel
theorem dL_law_417 : decode cL_law 417 = .ok (.iaload, 1) := by decide +kernel
theorem dL_law_418 : decode cL_law 418 = .ok (.iconst (-1), 1) := by decide +kernel
theorem dL_law_419 : decode cL_law 419 = .ok (.if_icmp .eq 56, 3) := by decide +kernel
theorem dL_law_422 : decode cL_law 422 = .ok (.aload_n 2, 1) := by decide +kernel
theorem dL_law_423 : decode cL_law 423 = .ok (.iload 12, 2) := by decide +kernel
theorem dL_law_425 : decode cL_law 425 = .ok (.iaload, 1) := by decide +kernel
theorem dL_law_426 : decode cL_law 426 = .ok (.ifCond .ge 17, 3) := by decide +kernel
theorem dL_law_429 : decode cL_law 429 = .ok (.aload_n 2, 1) := by decide +kernel
theorem dL_law_430 : decode cL_law 430 = .ok (.bipush (-2), 2) := by decide +kernel
theorem dL_law_432 : decode cL_law 432 = .ok (.aload_n 2, 1) := by decide +kernel
theorem dL_law_433 : decode cL_law 433 = .ok (.iload 12, 2) := by decide +kernel
theorem dL_law_435 : decode cL_law 435 = .ok (.iaload, 1) := by decide +kernel
theorem dL_law_436 : decode cL_law 436 = .ok (.isub, 1) := by decide +kernel
theorem dL_law_437 : decode cL_law 437 = .ok (.invokestatic 14, 3) := by decide +kernel
theorem dL_law_440 : decode cL_law 440 = .ok (.ifCond .ne 35, 3) := by decide +kernel
theorem dL_law_443 : decode cL_law 443 = .ok (.aload_n 1, 1) := by decide +kernel
theorem dL_law_444 : decode cL_law 444 = .ok (.iload 9, 2) := by decide +kernel
theorem dL_law_446 : decode cL_law 446 = .ok (.iload 10, 2) := by decide +kernel
theorem dL_law_448 : decode cL_law 448 = .ok (.iload 11, 2) := by decide +kernel
theorem dL_law_450 : decode cL_law 450 = .ok (.invokevirtual 58, 3) := by decide +kernel
theorem dL_law_453 : decode cL_law 453 = .ok (.aload_n 2, 1) := by decide +kernel
theorem dL_law_454 : decode cL_law 454 = .ok (.iload 12, 2) := by decide +kernel
theorem dL_law_456 : decode cL_law 456 = .ok (.iaload, 1) := by decide +kernel
theorem dL_law_457 : decode cL_law 457 = .ok (.if_icmp .ne 7, 3) := by decide +kernel
theorem dL_law_460 : decode cL_law 460 = .ok (.iconst 1, 1) := by decide +kernel
theorem dL_law_461 : decode cL_law 461 = .ok (.goto 4, 3) := by decide +kernel
theorem dL_law_464 : decode cL_law 464 = .ok (.iconst 0, 1) := by decide +kernel
theorem dL_law_465 : decode cL_law 465 = .ok (.istore 13, 2) := by decide +kernel
theorem dL_law_467 : decode cL_law 467 = .ok (.aload_n 2, 1) := by decide +kernel
theorem dL_law_468 : decode cL_law 468 = .ok (.iload 12, 2) := by decide +kernel
theorem dL_law_470 : decode cL_law 470 = .ok (.iconst (-1), 1) := by decide +kernel
theorem dL_law_471 : decode cL_law 471 = .ok (.iastore, 1) := by decide +kernel
theorem dL_law_472 : decode cL_law 472 = .ok (.goto 157, 3) := by decide +kernel
theorem dL_law_475 : decode cL_law 475 = .ok (.iload 8, 2) := by decide +kernel
theorem dL_law_477 : decode cL_law 477 = .ok (.bipush 8, 2) := by decide +kernel
theorem dL_law_479 : decode cL_law 479 = .ok (.if_icmp .ge 129, 3) := by decide +kernel
theorem dL_law_482 : decode cL_law 482 = .ok (.aload_n 2, 1) := by decide +kernel
theorem dL_law_483 : decode cL_law 483 = .ok (.iload 12, 2) := by decide +kernel
theorem dL_law_485 : decode cL_law 485 = .ok (.iaload, 1) := by decide +kernel
theorem dL_law_486 : decode cL_law 486 = .ok (.iconst (-1), 1) := by decide +kernel
theorem dL_law_487 : decode cL_law 487 = .ok (.if_icmp .eq 121, 3) := by decide +kernel
theorem dL_law_490 : decode cL_law 490 = .ok (.iload 7, 2) := by decide +kernel
theorem dL_law_492 : decode cL_law 492 = .ok (.bipush 9, 2) := by decide +kernel
theorem dL_law_494 : decode cL_law 494 = .ok (.ishr, 1) := by decide +kernel
theorem dL_law_495 : decode cL_law 495 = .ok (.aload 4, 2) := by decide +kernel
theorem dL_law_497 : decode cL_law 497 = .ok (.iconst 0, 1) := by decide +kernel
theorem dL_law_498 : decode cL_law 498 = .ok (.iaload, 1) := by decide +kernel
theorem dL_law_499 : decode cL_law 499 = .ok (.invokestatic 41, 3) := by decide +kernel
theorem dL_law_502 : decode cL_law 502 = .ok (.istore 14, 2) := by decide +kernel
theorem dL_law_504 : decode cL_law 504 = .ok (.aload_n 2, 1) := by decide +kernel
theorem dL_law_505 : decode cL_law 505 = .ok (.iload 14, 2) := by decide +kernel
theorem dL_law_507 : decode cL_law 507 = .ok (.invokestatic 44, 3) := by decide +kernel
theorem dL_law_510 : decode cL_law 510 = .ok (.ifCond .eq 8, 3) := by decide +kernel
theorem dL_law_513 : decode cL_law 513 = .ok (.iload 14, 2) := by decide +kernel
theorem dL_law_515 : decode cL_law 515 = .ok (.goto 4, 3) := by decide +kernel
theorem dL_law_518 : decode cL_law 518 = .ok (.iconst 0, 1) := by decide +kernel
theorem dL_law_519 : decode cL_law 519 = .ok (.istore 14, 2) := by decide +kernel
theorem dL_law_521 : decode cL_law 521 = .ok (.iconst 5, 1) := by decide +kernel
theorem dL_law_522 : decode cL_law 522 = .ok (.iload 14, 2) := by decide +kernel
theorem dL_law_524 : decode cL_law 524 = .ok (.imul, 1) := by decide +kernel
theorem dL_law_525 : decode cL_law 525 = .ok (.iload 7, 2) := by decide +kernel
theorem dL_law_527 : decode cL_law 527 = .ok (.bipush 14, 2) := by decide +kernel
theorem dL_law_529 : decode cL_law 529 = .ok (.ishr, 1) := by decide +kernel
theorem dL_law_530 : decode cL_law 530 = .ok (.iconst 5, 1) := by decide +kernel
theorem dL_law_531 : decode cL_law 531 = .ok (.invokestatic 41, 3) := by decide +kernel
theorem dL_law_534 : decode cL_law 534 = .ok (.iadd, 1) := by decide +kernel
theorem dL_law_535 : decode cL_law 535 = .ok (.istore 15, 2) := by decide +kernel
theorem dL_law_537 : decode cL_law 537 = .ok (.aload_n 2, 1) := by decide +kernel
theorem dL_law_538 : decode cL_law 538 = .ok (.iload 15, 2) := by decide +kernel
theorem dL_law_540 : decode cL_law 540 = .ok (.iaload, 1) := by decide +kernel
theorem dL_law_541 : decode cL_law 541 = .ok (.iconst (-1), 1) := by decide +kernel
theorem dL_law_542 : decode cL_law 542 = .ok (.if_icmp .ne 63, 3) := by decide +kernel
theorem dL_law_545 : decode cL_law 545 = .ok (.aload_n 2, 1) := by decide +kernel
theorem dL_law_546 : decode cL_law 546 = .ok (.iload 12, 2) := by decide +kernel
theorem dL_law_548 : decode cL_law 548 = .ok (.iaload, 1) := by decide +kernel
theorem dL_law_549 : decode cL_law 549 = .ok (.ifCond .ge 19, 3) := by decide +kernel
theorem dL_law_552 : decode cL_law 552 = .ok (.aload_n 2, 1) := by decide +kernel
theorem dL_law_553 : decode cL_law 553 = .ok (.iload 14, 2) := by decide +kernel
theorem dL_law_555 : decode cL_law 555 = .ok (.bipush (-2), 2) := by decide +kernel
theorem dL_law_557 : decode cL_law 557 = .ok (.aload_n 2, 1) := by decide +kernel
theorem dL_law_558 : decode cL_law 558 = .ok (.iload 12, 2) := by decide +kernel
theorem dL_law_560 : decode cL_law 560 = .ok (.iaload, 1) := by decide +kernel
theorem dL_law_561 : decode cL_law 561 = .ok (.isub, 1) := by decide +kernel
theorem dL_law_562 : decode cL_law 562 = .ok (.invokestatic 61, 3) := by decide +kernel
theorem dL_law_565 : decode cL_law 565 = .ok (.ifCond .ne 40, 3) := by decide +kernel
theorem dL_law_568 : decode cL_law 568 = .ok (.aload_n 1, 1) := by decide +kernel
theorem dL_law_569 : decode cL_law 569 = .ok (.iload 9, 2) := by decide +kernel
theorem dL_law_571 : decode cL_law 571 = .ok (.iload 10, 2) := by decide +kernel
theorem dL_law_573 : decode cL_law 573 = .ok (.iload 11, 2) := by decide +kernel
theorem dL_law_575 : decode cL_law 575 = .ok (.iload 14, 2) := by decide +kernel
theorem dL_law_577 : decode cL_law 577 = .ok (.iload 15, 2) := by decide +kernel
theorem dL_law_579 : decode cL_law 579 = .ok (.iconst 5, 1) := by decide +kernel
theorem dL_law_580 : decode cL_law 580 = .ok (.irem, 1) := by decide +kernel
theorem dL_law_581 : decode cL_law 581 = .ok (.invokevirtual 65, 3) := by decide +kernel
theorem dL_law_584 : decode cL_law 584 = .ok (.aload_n 2, 1) := by decide +kernel
theorem dL_law_585 : decode cL_law 585 = .ok (.iload 15, 2) := by decide +kernel
theorem dL_law_587 : decode cL_law 587 = .ok (.aload_n 2, 1) := by decide +kernel
theorem dL_law_588 : decode cL_law 588 = .ok (.iload 12, 2) := by decide +kernel
theorem dL_law_590 : decode cL_law 590 = .ok (.iaload, 1) := by decide +kernel
theorem dL_law_591 : decode cL_law 591 = .ok (.iastore, 1) := by decide +kernel
theorem dL_law_592 : decode cL_law 592 = .ok (.aload_n 3, 1) := by decide +kernel
theorem dL_law_593 : decode cL_law 593 = .ok (.iload 15, 2) := by decide +kernel
theorem dL_law_595 : decode cL_law 595 = .ok (.aload_n 3, 1) := by decide +kernel
theorem dL_law_596 : decode cL_law 596 = .ok (.iload 12, 2) := by decide +kernel
theorem dL_law_598 : decode cL_law 598 = .ok (.iaload, 1) := by decide +kernel
theorem dL_law_599 : decode cL_law 599 = .ok (.iastore, 1) := by decide +kernel
theorem dL_law_600 : decode cL_law 600 = .ok (.aload_n 2, 1) := by decide +kernel
theorem dL_law_601 : decode cL_law 601 = .ok (.iload 12, 2) := by decide +kernel
theorem dL_law_603 : decode cL_law 603 = .ok (.iconst (-1), 1) := by decide +kernel
theorem dL_law_604 : decode cL_law 604 = .ok (.iastore, 1) := by decide +kernel
theorem dL_law_605 : decode cL_law 605 = .ok (.goto 24, 3) := by decide +kernel
theorem dL_law_608 : decode cL_law 608 = .ok (.iload 8, 2) := by decide +kernel
theorem dL_law_610 : decode cL_law 610 = .ok (.bipush 8, 2) := by decide +kernel
theorem dL_law_612 : decode cL_law 612 = .ok (.if_icmp .ne 17, 3) := by decide +kernel
theorem dL_law_615 : decode cL_law 615 = .ok (.aload_n 1, 1) := by decide +kernel
theorem dL_law_616 : decode cL_law 616 = .ok (.iconst 1, 1) := by decide +kernel
theorem dL_law_617 : decode cL_law 617 = .ok (.iload 7, 2) := by decide +kernel
theorem dL_law_619 : decode cL_law 619 = .ok (.bipush 8, 2) := by decide +kernel
theorem dL_law_621 : decode cL_law 621 = .ok (.invokestatic 41, 3) := by decide +kernel
theorem dL_law_624 : decode cL_law 624 = .ok (.iadd, 1) := by decide +kernel
theorem dL_law_625 : decode cL_law 625 = .ok (.invokevirtual 69, 3) := by decide +kernel
theorem dL_law_628 : decode cL_law 628 = .ok (.pop, 1) := by decide +kernel
theorem dL_law_629 : decode cL_law 629 = .ok (.iload 7, 2) := by decide +kernel
theorem dL_law_631 : decode cL_law 631 = .ok (.bipush 18, 2) := by decide +kernel
theorem dL_law_633 : decode cL_law 633 = .ok (.ishr, 1) := by decide +kernel
theorem dL_law_634 : decode cL_law 634 = .ok (.aload 4, 2) := by decide +kernel
theorem dL_law_636 : decode cL_law 636 = .ok (.iconst 0, 1) := by decide +kernel
theorem dL_law_637 : decode cL_law 637 = .ok (.iaload, 1) := by decide +kernel
theorem dL_law_638 : decode cL_law 638 = .ok (.invokestatic 41, 3) := by decide +kernel
theorem dL_law_641 : decode cL_law 641 = .ok (.istore 14, 2) := by decide +kernel
theorem dL_law_643 : decode cL_law 643 = .ok (.iload 13, 2) := by decide +kernel
theorem dL_law_645 : decode cL_law 645 = .ok (.ifCond .eq 31, 3) := by decide +kernel
theorem dL_law_648 : decode cL_law 648 = .ok (.aload_n 1, 1) := by decide +kernel
theorem dL_law_649 : decode cL_law 649 = .ok (.aload_n 2, 1) := by decide +kernel
theorem dL_law_650 : decode cL_law 650 = .ok (.aload_n 3, 1) := by decide +kernel
theorem dL_law_651 : decode cL_law 651 = .ok (.aload 4, 2) := by decide +kernel
theorem dL_law_653 : decode cL_law 653 = .ok (.aload_n 2, 1) := by decide +kernel
theorem dL_law_654 : decode cL_law 654 = .ok (.iload 14, 2) := by decide +kernel
theorem dL_law_656 : decode cL_law 656 = .ok (.invokestatic 44, 3) := by decide +kernel
theorem dL_law_659 : decode cL_law 659 = .ok (.ifCond .eq 8, 3) := by decide +kernel
theorem dL_law_662 : decode cL_law 662 = .ok (.iload 14, 2) := by decide +kernel
theorem dL_law_664 : decode cL_law 664 = .ok (.goto 4, 3) := by decide +kernel
theorem dL_law_667 : decode cL_law 667 = .ok (.iconst 0, 1) := by decide +kernel
theorem dL_law_668 : decode cL_law 668 = .ok (.iload 9, 2) := by decide +kernel
theorem dL_law_670 : decode cL_law 670 = .ok (.invokestatic 72, 3) := by decide +kernel
theorem dL_law_673 : decode cL_law 673 = .ok (.ifCond .ne 5, 3) := by decide +kernel
theorem dL_law_676 : decode cL_law 676 = .ok (.iconst 0, 1) := by decide +kernel
theorem dL_law_677 : decode cL_law 677 = .ok (.ireturn, 1) := by decide +kernel
theorem dL_law_678 : decode cL_law 678 = .ok (.iinc 5 1, 3) := by decide +kernel
theorem dL_law_681 : decode cL_law 681 = .ok (.goto (-629), 3) := by decide +kernel
theorem dL_law_684 : decode cL_law 684 = .ok (.iconst 1, 1) := by decide +kernel
theorem dL_law_685 : decode cL_law 685 = .ok (.ireturn, 1) := by decide +kernel
end
section
def zTx : List (String × Nat × String) := [(RX2, 228, "client is out of range"), (RX2, 232, "name is out of range"), (RX2, 239, "there is no such directory"), (RX2, 243, "the name is not free or its fragment is frozen"), (RX2, 70, "there were 12 directories"), (RX2, 82, "there were 30 files"), (RX2, 241, "there never was such a file"), (RX2, 95, "the file is gone"), (RX2, 245, "the name is free or its fragment is frozen"), (RX2, 247, "the directory is not empty"), (RX2, 249, "a fragment of the directory moves"), (RX2, 118, "the target is the directory or below it"), (RX2, 132, "minutes is out of range")]
end
section
/-! THE ENGINE: a memory of functions (zk: kinds, zn: lengths, zi: numbers, zr: references, zj: longs), what it says of the heap, and a row an instruction over it.
Kinds: 0 nothing, 1 to 4 the four classes in the order of vwCl, 5 int[], 6 boolean[], 7 long[], 8 Directory[], 9 Fragment[], 10 int[][]. -/
abbrev ZM : Type := (Nat → Nat) × (Nat → Nat) × (Nat → Nat → Int32) × (Nat → Nat → Option Nat) × (Nat → Nat → Int64)
def zk (M : ZM) (a : Nat) : Nat := M.1 a
def zn (M : ZM) (a : Nat) : Nat := M.2.1 a
def zi (M : ZM) (a k : Nat) : Int32 := M.2.2.1 a k
def zr (M : ZM) (a k : Nat) : Option Nat := M.2.2.2.1 a k
def zj (M : ZM) (a k : Nat) : Int64 := M.2.2.2.2 a k
def zu {α : Type} (f : Nat → Nat → α) (a k : Nat) (v : α) : Nat → Nat → α := fun b j => if b = a ∧ j = k then v else f b j
def zo {α : Type} (f : Nat → α) (a : Nat) (v : α) : Nat → α := fun b => if b = a then v else f b
def zsi (M : ZM) (a k : Nat) (v : Int32) : ZM := (M.1, M.2.1, zu M.2.2.1 a k v, M.2.2.2.1, M.2.2.2.2)
def zsr (M : ZM) (a k : Nat) (v : Option Nat) : ZM := (M.1, M.2.1, M.2.2.1, zu M.2.2.2.1 a k v, M.2.2.2.2)
def zsj (M : ZM) (a k : Nat) (v : Int64) : ZM := (M.1, M.2.1, M.2.2.1, M.2.2.2.1, zu M.2.2.2.2 a k v)
def zw (M : ZM) (a kd n : Nat) : ZM := (zo M.1 a kd, zo M.2.1 a n, zo M.2.2.1 a (fun _ => 0), zo M.2.2.2.1 a (fun _ => none), zo M.2.2.2.2 a (fun _ => 0))
theorem zk_i (M : ZM) (a k : Nat) (v : Int32) (b : Nat) : zk (zsi M a k v) b = zk M b := rfl
theorem zk_r (M : ZM) (a k : Nat) (v : Option Nat) (b : Nat) : zk (zsr M a k v) b = zk M b := rfl
theorem zk_j (M : ZM) (a k : Nat) (v : Int64) (b : Nat) : zk (zsj M a k v) b = zk M b := rfl
theorem zk_w (M : ZM) (a kd n : Nat) (b : Nat) : zk (zw M a kd n) b = if b = a then kd else zk M b := rfl
theorem zn_i (M : ZM) (a k : Nat) (v : Int32) (b : Nat) : zn (zsi M a k v) b = zn M b := rfl
theorem zn_r (M : ZM) (a k : Nat) (v : Option Nat) (b : Nat) : zn (zsr M a k v) b = zn M b := rfl
theorem zn_j (M : ZM) (a k : Nat) (v : Int64) (b : Nat) : zn (zsj M a k v) b = zn M b := rfl
theorem zn_w (M : ZM) (a kd n : Nat) (b : Nat) : zn (zw M a kd n) b = if b = a then n else zn M b := rfl
theorem zi_i (M : ZM) (a k : Nat) (v : Int32) (b j : Nat) : zi (zsi M a k v) b j = if b = a ∧ j = k then v else zi M b j := rfl
theorem zi_r (M : ZM) (a k : Nat) (v : Option Nat) (b j : Nat) : zi (zsr M a k v) b j = zi M b j := rfl
theorem zi_j (M : ZM) (a k : Nat) (v : Int64) (b j : Nat) : zi (zsj M a k v) b j = zi M b j := rfl
theorem zi_w (M : ZM) (a kd n : Nat) (b j : Nat) : zi (zw M a kd n) b j = if b = a then 0 else zi M b j := by
  show (if b = a then fun _ => 0 else M.2.2.1 b) j = _
  split <;> rfl
theorem zr_i (M : ZM) (a k : Nat) (v : Int32) (b j : Nat) : zr (zsi M a k v) b j = zr M b j := rfl
theorem zr_r (M : ZM) (a k : Nat) (v : Option Nat) (b j : Nat) : zr (zsr M a k v) b j = if b = a ∧ j = k then v else zr M b j := rfl
theorem zr_j (M : ZM) (a k : Nat) (v : Int64) (b j : Nat) : zr (zsj M a k v) b j = zr M b j := rfl
theorem zr_w (M : ZM) (a kd n : Nat) (b j : Nat) : zr (zw M a kd n) b j = if b = a then none else zr M b j := by
  show (if b = a then fun _ => none else M.2.2.2.1 b) j = _
  split <;> rfl
theorem zj_i (M : ZM) (a k : Nat) (v : Int32) (b j : Nat) : zj (zsi M a k v) b j = zj M b j := rfl
theorem zj_r (M : ZM) (a k : Nat) (v : Option Nat) (b j : Nat) : zj (zsr M a k v) b j = zj M b j := rfl
theorem zj_j (M : ZM) (a k : Nat) (v : Int64) (b j : Nat) : zj (zsj M a k v) b j = if b = a ∧ j = k then v else zj M b j := rfl
theorem zj_w (M : ZM) (a kd n : Nat) (b j : Nat) : zj (zw M a kd n) b j = if b = a then 0 else zj M b j := by
  show (if b = a then fun _ => 0 else M.2.2.2.2 b) j = _
  split <;> rfl
/-- which fields are numbers: class by class -/
def zfi : Nat → Nat → Bool
  | 0, k => k == 0 || k == 2
  | 1, _ => true
  | 2, k => !(k == 0 || k == 5 || k == 6 || k == 7)
  | _, k => k == 0 || k == 1 || k == 2 || k == 8 || k == 9 || k == 16 || k == 17 || k == 18
def zfv (M : ZM) (a ci k : Nat) : Value := if zfi ci k = true then .int (zi M a k) else va_rf (zr M a k)
def zfs (M : ZM) (a ci N : Nat) : List Value := (List.range N).map (zfv M a ci)
abbrev ZG : Type := Launch × va_G × (Nat → ClassId) × Heap
def zTy (c : Nat → ClassId) : List (ClassId × FieldType) := [(c 0, .int), (c 1, .int), (c 2, .int), (c 3, .object RX0), (c 4, .object RX1), (c 5, .array .int)]
/-- the contents of an array, by its kind -/
def zct (M : ZM) (a k : Nat) : vp_A := (zn M a, if k = 5 ∨ k = 6 then .inl (zi M a) else if k = 7 then .inr (.inl (zj M a)) else .inr (.inr (.inr (.inr (zr M a)))))
def zsz : Nat → Nat
  | 0 => 7
  | 1 => 5
  | 2 => 10
  | _ => 19
def zE (c : Nat → ClassId) (M : ZM) (a : Nat) : va_E := if zk M a ≤ 4 then .inr (zk M a - 1, zfs M a (zk M a - 1) (zsz (zk M a - 1))) else .inl (c (zk M a - 5), zct M a (zk M a))
theorem zE_o {c : Nat → ClassId} {M : ZM} {a ci : Nat} (h : zk M a = ci + 1) (hc : ci < 4) : zE c M a = .inr (ci, zfs M a ci (zsz ci)) := by
  unfold zE
  rw [h, if_pos (by omega), Nat.add_sub_cancel]
theorem zE_a {c : Nat → ClassId} {M : ZM} {a k : Nat} (h : zk M a = k) (hc : 5 ≤ k) : zE c M a = .inl (c (k - 5), zct M a k) := by
  unfold zE
  rw [h, if_neg (by omega)]
def zRel (G : ZG) (M : ZM) (H : Heap) : Prop := G.2.2.2.size ≤ H.size ∧ (∀ q, q < G.2.2.2.size → H[q]? = G.2.2.2[q]?) ∧ ∀ a, zk M a ≠ 0 → G.2.2.2.size ≤ a ∧ va_at G.2.1 vwCl (a, zE G.2.2.1 M a) H
theorem zRel.lt {G : ZG} {M : ZM} {H : Heap} (h : zRel G M H) {a : Nat} (ha : zk M a ≠ 0) : a < H.size := (h.2.2 a ha).2.lt
theorem zRel.fresh {G : ZG} {M : ZM} {H : Heap} (h : zRel G M H) {a : Nat} (ha : H.size ≤ a) : zk M a = 0 := by
  by_cases e : zk M a = 0
  · exact e
  · exact absurd (h.lt e) (by omega)
/-- one cell changes -/
theorem zRel.put {G : ZG} {M M' : ZM} {H H' : Heap} (h : zRel G M H) {a : Nat} (ha : zk M a ≠ 0) (hz : H'.size = H.size) (ho : ∀ q, q ≠ a → H'[q]? = H[q]?) (hkd : ∀ b, zk M' b = zk M b) (hE : ∀ b, b ≠ a → zE G.2.2.1 M' b = zE G.2.2.1 M b) (hn : va_at G.2.1 vwCl (a, zE G.2.2.1 M' a) H') : zRel G M' H' := by
  have hA := (h.2.2 a ha).1
  refine ⟨by rw [hz]; exact h.1, fun q hq => ?_, fun b hb => ?_⟩
  · rw [ho q (by omega)]
    exact h.2.1 q hq
  · rw [hkd] at hb
    refine ⟨(h.2.2 b hb).1, ?_⟩
    by_cases e : b = a
    · subst e
      exact hn
    · rw [hE b e]
      exact (h.2.2 b hb).2.kept (ho b e)
/-- the heap has grown -/
theorem zRel.grow {G : ZG} {M : ZM} {H H' : Heap} (h : zRel G M H) (hz : H.size ≤ H'.size) (ho : ∀ q, q < H.size → H'[q]? = H[q]?) : zRel G M H' :=
  ⟨Nat.le_trans h.1 hz, fun q hq => by rw [ho q (Nat.lt_of_lt_of_le hq h.1)]; exact h.2.1 q hq, fun b hb => ⟨(h.2.2 b hb).1, (h.2.2 b hb).2.kept (ho b (h.lt hb))⟩⟩
theorem zE_w {c : Nat → ClassId} {M : ZM} {a kd n b : Nat} (e : b ≠ a) : zE c (zw M a kd n) b = zE c M b := by
  have h1 : zk (zw M a kd n) b = zk M b := by rw [zk_w, if_neg e]
  have h2 : zn (zw M a kd n) b = zn M b := by rw [zn_w, if_neg e]
  have h3 : zi (zw M a kd n) b = zi M b := funext fun j => by rw [zi_w, if_neg e]
  have h4 : zr (zw M a kd n) b = zr M b := funext fun j => by rw [zr_w, if_neg e]
  have h5 : zj (zw M a kd n) b = zj M b := funext fun j => by rw [zj_w, if_neg e]
  unfold zE zct zfs zfv
  rw [h1, h2, h3, h4, h5]
theorem zRel.new {G : ZG} {M : ZM} {H H' : Heap} (h : zRel G M H) {a kd n : Nat} (hz : H'.size = a + 1) (haz : a = H.size) (ho : ∀ q, q < H.size → H'[q]? = H[q]?) (hn : va_at G.2.1 vwCl (a, zE G.2.2.1 (zw M a kd n) a) H') : zRel G (zw M a kd n) H' := by
  have g := h.grow (H' := H') (by omega) ho
  refine ⟨g.1, g.2.1, fun b hb => ?_⟩
  by_cases e : b = a
  · subst e
    exact ⟨by rw [haz]; exact h.1, hn⟩
  · have h1 : zk (zw M a kd n) b = zk M b := by rw [zk_w, if_neg e]
    rw [h1] at hb
    rw [zE_w e]
    exact g.2.2 b hb
theorem zfs_get {M : ZM} {a ci N k : Nat} (hk : k < N) : (zfs M a ci N)[k]? = some (zfv M a ci k) := by
  unfold zfs
  rw [List.getElem?_map, List.getElem?_range hk]
  rfl
theorem zfs_len {M : ZM} {a ci N : Nat} : (zfs M a ci N).length = N := by simp [zfs]
theorem zfs_set {M M' : ZM} {a ci N k : Nat} {v : Value} (hk : zfv M' a ci k = v) (ho : ∀ j, j ≠ k → zfv M' a ci j = zfv M a ci j) : (zfs M a ci N).set k v = zfs M' a ci N := by
  apply List.ext_getElem?
  intro j
  rw [List.getElem?_set]
  by_cases e : k = j
  · subst e
    rw [if_pos rfl, zfs_len]
    by_cases h : k < N
    · rw [if_pos h, zfs_get h, hk]
    · rw [if_neg h, List.getElem?_eq_none (by rw [zfs_len]; omega)]
  · rw [if_neg e]
    by_cases h : j < N
    · rw [zfs_get h, zfs_get h, ho j (fun q => e q.symm)]
    · rw [List.getElem?_eq_none (by rw [zfs_len]; omega), List.getElem?_eq_none (by rw [zfs_len]; omega)]
/-! the locals -/
def zL (ls : Array Slot) (n : Nat) (L : List (Option Value)) : Prop := ls.size = n ∧ lv_wf ls ∧ ∀ (i : Nat) (v : Value), L[i]? = some (some v) → v.category = 1 ∧ ls[i]? = some (Slot.val v)
def zA (L : List (Option Value)) : List (Nat × Value) := (List.range L.length).filterMap (fun i => (L[i]?.join).map (fun v => (i, v)))
theorem zA_mem {L : List (Option Value)} {q : Nat × Value} : q ∈ zA L ↔ L[q.1]? = some (some q.2) := by
  unfold zA
  rw [List.mem_filterMap]
  constructor
  · rintro ⟨i, -, h⟩
    obtain ⟨v, h1, h2⟩ := Option.map_eq_some_iff.mp h
    subst h2
    cases h3 : L[i]? with
    | none => rw [h3] at h1; cases h1
    | some x => rw [h3] at h1; have : x = some v := h1; rw [this]
  · intro h
    refine ⟨q.1, List.mem_range.mpr (List.getElem?_eq_some_iff.mp h).1, ?_⟩
    rw [h]
    rfl
theorem zL.has {ls : Array Slot} {n : Nat} {L : List (Option Value)} (h : zL ls n L) : lv_has ls n (zA L) := ⟨h.1, h.2.1, fun q hq => (h.2.2 q.1 q.2 (zA_mem.mp hq)).2⟩
theorem zL.of {ls ls' : Array Slot} {n i : Nat} {L : List (Option Value)} {x : Value} {lv : List (Nat × Value)} (h : zL ls n L) (hx : x.category = 1) (hl : (i, x) :: (zA L).filter (fun q => !(q.1 == i) && !(q.1 + 1 == i && q.2.category == 2)) = lv) (h' : lv_has ls' n lv) : zL ls' n (L.set i (some x)) := by
  subst hl
  refine ⟨h'.1, h'.2.1, fun j v hj => ?_⟩
  rw [List.getElem?_set] at hj
  by_cases e : i = j
  · subst e
    rw [if_pos rfl] at hj
    by_cases hl : i < L.length
    · rw [if_pos hl] at hj
      cases hj
      exact ⟨hx, h'.2.2 (i, x) List.mem_cons_self⟩
    · rw [if_neg hl] at hj
      cases hj
  · rw [if_neg e] at hj
    have hc := (h.2.2 j v hj).1
    refine ⟨hc, h'.2.2 (j, v) (List.mem_cons_of_mem _ (List.mem_filter.mpr ⟨zA_mem.mpr hj, ?_⟩))⟩
    have e' : ¬ j = i := fun q => e q.symm
    simp [hc, e']
theorem zL_entry {vs : List Value} {n : Nat} (hc : ∀ v ∈ vs, v.category = 1) (hn : vs.length ≤ n) : zL ((lg_sl vs ++ List.replicate (n - (lg_sl vs).length) Slot.unset).toArray) n (vs.map some ++ List.replicate (n - vs.length) none) := by
  have hl : ∀ l : List Value, (∀ v ∈ l, v.category = 1) → lg_sl l = l.map Slot.val := by
    intro l
    induction l with
    | nil => intro _; rfl
    | cons a l ih =>
      intro h
      have h1 := h a List.mem_cons_self
      have h2 := ih (fun v hv => h v (List.mem_cons_of_mem _ hv))
      show (if a.category = 2 then [Slot.val a, Slot.second] else [Slot.val a]) ++ lg_sl l = _
      rw [h2, if_neg (by omega)]
      rfl
  have e := hl vs hc
  have hlen : (lg_sl vs).length = vs.length := by rw [e, List.length_map]
  have h0 := lv_entry vs (n := n) (by rw [hlen]; exact hn)
  refine ⟨h0.1, h0.2.1, fun i v hi => ?_⟩
  by_cases hlt : i < vs.length
  · rw [List.getElem?_append_left (by rw [List.length_map]; exact hlt), List.getElem?_map] at hi
    obtain ⟨w, hw, hv⟩ := Option.map_eq_some_iff.mp hi
    have e2 : w = v := Option.some.inj hv
    subst e2
    refine ⟨hc w (List.mem_of_getElem? hw), ?_⟩
    rw [e, List.getElem?_toArray, List.getElem?_append_left (by rw [List.length_map]; exact hlt), List.getElem?_map, hw]
    rfl
  · rw [List.getElem?_append_right (by rw [List.length_map]; omega)] at hi
    exact absurd (List.eq_of_mem_replicate (List.mem_of_getElem? hi)) (by simp)
end
section
/-! contracts, the context of a method's body, and the rows -/
abbrev ZO : Type := Option Value ⊕ String
/-- a method: name, code, locals, what it returns, its frames, its units of room (a unit: one cell, 64 slots) -/
abbrev ZY : Type := MethodName × ByteArray × Nat × Option FieldType × Nat × Nat
abbrev zyn (t : ZY) : MethodName := t.1
abbrev zyc (t : ZY) : ByteArray := t.2.1
abbrev zyl (t : ZY) : Nat := t.2.2.1
abbrev zyr (t : ZY) : Option FieldType := t.2.2.2.1
abbrev zyh (t : ZY) : Nat := t.2.2.2.2.1
abbrev zyu (t : ZY) : Nat := t.2.2.2.2.2
def zTs : List Cond := lw_tbl.filter goodWord
theorem zt (i : Nat) {w : Cond} (h : lw_tbl[i]? = some w) (g : goodWord w = true) : w ∈ zTs := List.mem_filter.mpr ⟨List.mem_of_getElem? h, g⟩
theorem zgood {ws : List Cond} (h : ∀ w ∈ ws, w ∈ zTs) : GoodIn zTs ws := fun w hw => ⟨h w hw, good_of_word (List.mem_filter.mp (h w hw)).2⟩
abbrev zcd (t : ZY) : Cond := Cond.code (zyn t) (zyc t) (zyl t) (zyr t)
abbrev zcdW (t : ZY) (hh : List (Nat × Nat × Nat × Nat)) : Cond := Cond.codeWith (zyn t) (zyc t) (zyl t) (zyr t) hh
def zrm (h u : Nat) : Room := { frames := h, cells := u, slots := 64 * u, locals := 36 * h }
abbrev zfr (G : ZG) : Nat → Prop := fun q => G.2.2.2.size ≤ q
/-- arrays of int[] can be made -/
def zAOA (U : State) : Prop := (Cond.arrayOver (.array .int)).before #[] U = true
theorem zAOA.moved {u U : State} (hvm : u.vm.Alike U.vm) (h : zAOA u) : zAOA U := by
  obtain ⟨comp, c, k, h1, h2, h3, h4, h5⟩ := arrayOverA_spec h
  obtain ⟨k', hk', he⟩ := hvm.2.2 _ _ h3
  have hi : (U.vm.classes.findIdx? fun (x : Class) => match x.kind with | .array component _ => component == comp | _ => false) = some c := by
    rw [hvm.findIdx?_eq _ (fun _ => rfl)]
    exact h2
  have hkind : k'.kind = .array comp (.array .int) := by rw [he]; exact h4
  have f1 : U.vm.findClass (FieldType.array .int).toString = some comp := by rw [hvm.findClass]; exact h1
  have f2 : U.vm.findClass ("[" ++ (FieldType.array .int).toString) = some c := by rw [hvm.findClass]; exact h5
  unfold zAOA Cond.before Cond.holds
  simp only [Cond.value]
  rw [f1, Option.bind_some]
  refine (congrArg (fun o : Option Nat => (o.bind (fun c => (U.vm.classes[c]?).map fun (k : Class) => match k.kind with | .array _ ty => decide (ty = FieldType.array .int) && decide (U.vm.findClass ("[" ++ (FieldType.array .int).toString) = some c) | _ => false) == some true)) hi).trans ?_
  simp [hk', hkind, f2]
def zExc : List String := ["java/lang/IllegalArgumentException", "java/lang/IndexOutOfBoundsException", "java/lang/IllegalStateException"]
def zDecl : List String := ["java/lang/RuntimeException", "java/lang/Exception", "java/lang/Throwable"]
def zSt (G : ZG) (U : State) : Prop := va_K G.2.1 vwCl (zTy G.2.2.1) U ∧ vx_Zq Bundle.tN "UNASSIGNED_STACK" Bundle.steD (zfr G) U G.2.2.2 ∧ vx_Zq Bundle.tN "SUPPRESSED_SENTINEL" Bundle.listD (zfr G) U G.2.2.2 ∧ (∀ q ∈ zTx, ∃ sa, vk_R q.1 q.2.1 q.2.2 sa U) ∧ (∀ E ∈ zExc, va_Nw (.castable E E) U) ∧ (∀ E ∈ zExc, ∀ F ∈ zExc, E ≠ F → va_Nc E F U) ∧ va_AO RX0 U ∧ va_AO RX1 U ∧ zAOA U ∧ G.1.stackTraces = false ∧ (∀ F ∈ zDecl, va_Nw (.declares ⟨F, "<init>", "(Ljava/lang/String;)V"⟩) U) ∧ ∀ scr, G.2.2.2[G.2.2.1 6]? = some scr → U.isArrayOf scr .int
theorem zSt.warm {G : ZG} {s U : State} (hW : s.WarmedH U.vm) (h : zSt G s) : zSt G U := by
  obtain ⟨h1, h2, h3, h4, h5, h6, h7, h8, h9, h10, h11, h12⟩ := h
  exact ⟨h1.moved hW.alike, h2.moved hW.alike, h3.moved hW.alike, fun q hq => by obtain ⟨sa, z⟩ := h4 q hq; exact ⟨sa, vk_R.warm hW z⟩, fun E hE => (h5 E hE).warmC hW, fun E hE F hF e => (h6 E hE F hF e).moved hW.alike, h7.moved hW.alike, h8.moved hW.alike, h9.moved hW.alike, h10, fun F hF => (h11 F hF).warmD hW, fun scr hs => State.isArrayOf_alike hW.alike (h12 scr hs)⟩
def zPc (G : ZG) (As : List Value) (M : ZM) : Array Value → State → Prop := fun v U => v = As.toArray ∧ zRel G M U.heap ∧ zSt G U
theorem zPc.blind {G : ZG} {As : List Value} {M : ZM} : FrameBlind (zPc G As M) := fun a U g mk h => ⟨h.1, h.2.1, zSt.warm (s := U) (U := U.calling g mk a) (State.WarmedH.refl U) h.2.2⟩
def zQc (G : ZG) (P : ZO → ZM → Prop) : Array Value → State → Outcome → State → Prop := fun _ st o t => ∃ (v : Option Value) (M' : ZM), o = .returned v ∧ P (.inl v) M' ∧ zRel G M' t.heap ∧ st.heap.size ≤ t.heap.size
def zXC (G : ZG) (P : ZO → ZM → Prop) : String → State → State → Prop := fun E st t => ∃ M' : ZM, P (.inr E) M' ∧ zRel G M' t.heap ∧ st.heap.size ≤ t.heap.size
def zMetC (G : ZG) (cd : Cond) (t : ZY) (As : List Value) (M : ZM) (P : ZO → ZM → Prop) : Prop :=
  vx_Met G.1 (zyn t) (cd :: zTs) (zrm (zyh t) (zyu t)) (zPc G As M) (zQc G P) (zXC G P) (zyu t) (64 * zyu t) (zfr G)
abbrev zMet (G : ZG) (t : ZY) (As : List Value) (M : ZM) (P : ZO → ZM → Prop) : Prop := zMetC G (zcd t) t As M P
/-- the call returns v, the memory is M' -/
def zone (v : Option Value) (M' : ZM) : ZO → ZM → Prop := fun o M => o = .inl v ∧ M = M'
/-- the call throws E, the memory is M' -/
def zthr (E : String) (M' : ZM) : ZO → ZM → Prop := fun o M => o = .inr E ∧ M = M'
abbrev ZE : Type := Program × Env × Room × State × MethodId × Array Value × List Frame × Method × Code
def zOK (t : ZY) (tb : List ExceptionTableEntry) (G : ZG) (E : ZE) : Prop :=
  match E with
  | (p, e, R, s, m, args, below, meth, c) => p.tables.exec = Jvm.exec ∧ c.code = zyc t ∧ meth.sig.returnType = zyr t ∧ c.maxLocals = zyl t ∧ s.vm.findClass (zyn t).cls = some m.cls ∧ meth.locks = false ∧ (∀ w ∈ zTs, w.before args s = true) ∧ zSt G s ∧ (G.2.2.2.size ≤ s.heap.size ∧ ∀ q, q < G.2.2.2.size → s.heap[q]? = G.2.2.2[q]?) ∧ c.exceptionTable.toList = tb ∧ meth.name = (zyn t).name ∧ zyh t ≤ R.frames ∧ 36 * zyh t ≤ R.locals ∧ zyu t ≤ R.cells ∧ 64 * zyu t ≤ R.slots
/-- what a method's frame owes: from here, with b units left, it comes to Q -/
def WW (E : ZE) (G : ZG) (u : Nat) (Q : State → Prop) (M : ZM) (b pc : Nat) (L : List (Option Value)) (S : List Value) : Prop :=
  match E with
  | (p, e, R, s, m, args, below, meth, c) => ∀ (H : Heap) (locs : List Loc) (ls : Array Slot) (cells slots : Nat), zRel G M H → s.heap.size ≤ H.size → (∀ q ∈ locs, zfr G q.base) → zL ls c.maxLocals L → cells + b ≤ u → slots + 64 * b ≤ 64 * u → W p G.1 e R s m args below meth c H locs cells slots Q (F0 m pc ls S)
/-- .. with En thrown at pc -/
def XX (E : ZE) (G : ZG) (u : Nat) (Q : State → Prop) (M : ZM) (b pc : Nat) (L : List (Option Value)) (En : String) : Prop :=
  match E with
  | (p, e, R, s, m, args, below, meth, c) => ∀ (H : Heap) (locs : List Loc) (ls : Array Slot) (cells slots : Nat) (rest : List Value) (q : Addr) (ce : Cell), zRel G M H → s.heap.size ≤ H.size → (∀ q ∈ locs, zfr G q.base) → zL ls c.maxLocals L → cells + b ≤ u → slots + 64 * b ≤ 64 * u → H[q]? = some ce → ce.vm = .none → s.vm.findClass En = some ce.cls → vx_W p G.1 e R s m args below meth c H locs cells slots Q (F0 m pc ls rest) q
/-- the end that a method's contract names -/
def zQ (E : ZE) (G : ZG) (t : ZY) (P : ZO → ZM → Prop) : State → Prop :=
  match E with
  | (_, _, _, s, _, args, below, _, _) => vx_MQ below (zQc G P) (zXC G P) args s (zyu t) (64 * zyu t) (zfr G)
/-- what a callee's name needs, n its arguments -/
def zY (t : ZY) (n : Nat) : Prop := zcd t ∈ zTs ∧ Cond.initialized (zyn t).cls ∈ zTs ∧ ((zyn t).cls ≠ "java/lang/invoke/MethodHandle" ∧ (zyn t).cls ≠ "java/lang/invoke/VarHandle") ∧ (parseMethodDescriptor (zyn t).desc).map (fun d => d.parameters.length) = some n ∧ plainName (zyn t).cls = true ∧ zyl t + 19 ≤ 36
theorem zbody {G : ZG} {t : ZY} {n : Nat} {As : List Value} {M : ZM} {P : ZO → ZM → Prop} (hy : zY t n) (L : List (Option Value)) (hL : As.map some ++ List.replicate (zyl t - As.length) none = L) (hlen : As.length ≤ zyl t) (hc : ∀ v ∈ As, v.category = 1)
    (body : ∀ E : ZE, zOK t [] G E → WW E G (zyu t) (zQ E G t P) M (zyu t) 0 L []) : zMet G t As M P := by
  refine vx_ofW (cc := zyc t) (maxL := zyl t) (ret := zyr t) hy.2.2.2.2.1 rfl ?_
  intro p e s m args below meth c s₁ B hml htab hv
  obtain ⟨rfl, hrel, hst⟩ := hv
  have hts := atoms_spec (ws := zcd t :: zTs) B.pre
  have hown : s.vm.findClass (zyn t).cls = some m.cls := findClass_of_methodNamed B.named
  have htb : c.exceptionTable.toList = [] := List.eq_nil_iff_forall_not_mem.mpr fun x hx => htab x hx
  have K := body (p, e, zrm (zyh t) (zyu t), s, m, As.toArray, below, meth, c) ⟨B.exec, B.bytes, B.returns, hml, hown, B.notSynchronized, fun w hw => hts w (List.mem_cons_of_mem _ hw), hst, ⟨hrel.1, hrel.2.1⟩, htb, (name_of_methodNamed B.named B.method).1, Nat.le_refl _, Nat.le_refl _, Nat.le_refl _, Nat.le_refl _⟩
  rw [lg_entry_eq]
  exact K s.heap [] _ 0 0 hrel (Nat.le_refl _) (fun q hq => nomatch hq) (by rw [← hL, hml]; exact zL_entry hc hlen) (by omega) (by omega)
section ZROW
variable {t : ZY} {tb : List ExceptionTableEntry} {E : ZE} {G : ZG} {u : Nat} {Q : State → Prop} {M : ZM} {b pc : Nat} {L : List (Option Value)} {S : List Value}
theorem zq_iconst (K : zOK t tb G E) {n : Int} {v : Int32} (hd : decode (zyc t) pc = .ok (.iconst n, 1)) (hv : Int32.ofInt n = v) (k : WW E G u Q M b (pc + 1) L (.int v :: S)) : WW E G u Q M b pc L S := by
  obtain ⟨p, e, R, s, m, args, below, meth, c⟩ := E
  exact fun H locs ls cells slots h1 h2 h3 h4 h5 h6 => lv_iconst K.1 K.2.1 hd hv (k H locs ls cells slots h1 h2 h3 h4 h5 h6)
theorem zq_bipush (K : zOK t tb G E) {n : Int} {v : Int32} (hd : decode (zyc t) pc = .ok (.bipush n, 2)) (hv : (Int8.ofInt n).toInt32 = v) (k : WW E G u Q M b (pc + 2) L (.int v :: S)) : WW E G u Q M b pc L S := by
  obtain ⟨p, e, R, s, m, args, below, meth, c⟩ := E
  exact fun H locs ls cells slots h1 h2 h3 h4 h5 h6 => lv_bipush K.1 K.2.1 hd hv (k H locs ls cells slots h1 h2 h3 h4 h5 h6)
theorem zq_sipush (K : zOK t tb G E) {n : Int} {v : Int32} (hd : decode (zyc t) pc = .ok (.sipush n, 3)) (hv : (Int16.ofInt n).toInt32 = v) (k : WW E G u Q M b (pc + 3) L (.int v :: S)) : WW E G u Q M b pc L S := by
  obtain ⟨p, e, R, s, m, args, below, meth, c⟩ := E
  exact fun H locs ls cells slots h1 h2 h3 h4 h5 h6 => lv_sipush K.1 K.2.1 hd hv (k H locs ls cells slots h1 h2 h3 h4 h5 h6)
theorem zq_lconst (K : zOK t tb G E) {n : Fin 2} {v : Int64} (hd : decode (zyc t) pc = .ok (.lconst n, 1)) (hv : Int64.ofNat (n : Nat) = v) (k : WW E G u Q M b (pc + 1) L (.long v :: S)) : WW E G u Q M b pc L S := by
  obtain ⟨p, e, R, s, m, args, below, meth, c⟩ := E
  exact fun H locs ls cells slots h1 h2 h3 h4 h5 h6 => lv_lconst K.1 K.2.1 hd hv (k H locs ls cells slots h1 h2 h3 h4 h5 h6)
theorem zq_null (K : zOK t tb G E) (hd : decode (zyc t) pc = .ok (.aconst_null, 1)) (k : WW E G u Q M b (pc + 1) L (.null :: S)) : WW E G u Q M b pc L S := by
  obtain ⟨p, e, R, s, m, args, below, meth, c⟩ := E
  exact fun H locs ls cells slots h1 h2 h3 h4 h5 h6 => lv_null K.1 K.2.1 hd (k H locs ls cells slots h1 h2 h3 h4 h5 h6)
theorem zq_iload_n (K : zOK t tb G E) {k : Fin 4} {i : Nat} {x : Int32} (hd : decode (zyc t) pc = .ok (.iload_n k, 1)) (hi : (k : Nat) = i) (hl : L[i]? = some (some (.int x))) (kk : WW E G u Q M b (pc + 1) L (.int x :: S)) : WW E G u Q M b pc L S := by
  obtain ⟨p, e, R, s, m, args, below, meth, c⟩ := E
  exact fun H locs ls cells slots h1 h2 h3 h4 h5 h6 => lv_iload_n K.1 K.2.1 hd hi (h4.2.2 i _ hl).2 (kk H locs ls cells slots h1 h2 h3 h4 h5 h6)
theorem zq_iload (K : zOK t tb G E) {i : Nat} {x : Int32} (hd : decode (zyc t) pc = .ok (.iload i, 2)) (hl : L[i]? = some (some (.int x))) (kk : WW E G u Q M b (pc + 2) L (.int x :: S)) : WW E G u Q M b pc L S := by
  obtain ⟨p, e, R, s, m, args, below, meth, c⟩ := E
  exact fun H locs ls cells slots h1 h2 h3 h4 h5 h6 => lv_iload K.1 K.2.1 hd (h4.2.2 i _ hl).2 (kk H locs ls cells slots h1 h2 h3 h4 h5 h6)
theorem zq_aload_n (K : zOK t tb G E) {k : Fin 4} {i : Nat} {x : Nat} (hd : decode (zyc t) pc = .ok (.aload_n k, 1)) (hi : (k : Nat) = i) (hl : L[i]? = some (some (.ref x))) (kk : WW E G u Q M b (pc + 1) L (.ref x :: S)) : WW E G u Q M b pc L S := by
  obtain ⟨p, e, R, s, m, args, below, meth, c⟩ := E
  exact fun H locs ls cells slots h1 h2 h3 h4 h5 h6 => lv_aload_n K.1 K.2.1 hd hi (h4.2.2 i _ hl).2 (kk H locs ls cells slots h1 h2 h3 h4 h5 h6)
theorem zq_aload (K : zOK t tb G E) {i : Nat} {x : Nat} (hd : decode (zyc t) pc = .ok (.aload i, 2)) (hl : L[i]? = some (some (.ref x))) (kk : WW E G u Q M b (pc + 2) L (.ref x :: S)) : WW E G u Q M b pc L S := by
  obtain ⟨p, e, R, s, m, args, below, meth, c⟩ := E
  exact fun H locs ls cells slots h1 h2 h3 h4 h5 h6 => lv_aload K.1 K.2.1 hd (h4.2.2 i _ hl).2 (kk H locs ls cells slots h1 h2 h3 h4 h5 h6)
theorem zq_aload_nN (K : zOK t tb G E) {k : Fin 4} {i : Nat} (hd : decode (zyc t) pc = .ok (.aload_n k, 1)) (hi : (k : Nat) = i) (hl : L[i]? = some (some .null)) (kk : WW E G u Q M b (pc + 1) L (.null :: S)) : WW E G u Q M b pc L S := by
  obtain ⟨p, e, R, s, m, args, below, meth, c⟩ := E
  exact fun H locs ls cells slots h1 h2 h3 h4 h5 h6 => lv_aload_nN K.1 K.2.1 hd hi (h4.2.2 i _ hl).2 (kk H locs ls cells slots h1 h2 h3 h4 h5 h6)
theorem zq_aloadN (K : zOK t tb G E) {i : Nat} (hd : decode (zyc t) pc = .ok (.aload i, 2)) (hl : L[i]? = some (some .null)) (kk : WW E G u Q M b (pc + 2) L (.null :: S)) : WW E G u Q M b pc L S := by
  obtain ⟨p, e, R, s, m, args, below, meth, c⟩ := E
  exact fun H locs ls cells slots h1 h2 h3 h4 h5 h6 => lv_aloadN K.1 K.2.1 hd (h4.2.2 i _ hl).2 (kk H locs ls cells slots h1 h2 h3 h4 h5 h6)
theorem zq_istore_n (K : zOK t tb G E) {k : Fin 4} {i : Nat} {x : Int32} (hd : decode (zyc t) pc = .ok (.istore_n k, 1)) (hi : (k : Nat) = i) (hn : i < zyl t) (kk : WW E G u Q M b (pc + 1) (L.set i (some (.int x))) S) : WW E G u Q M b pc L (.int x :: S) := by
  obtain ⟨p, e, R, s, m, args, below, meth, c⟩ := E
  exact fun H locs ls cells slots h1 h2 h3 h4 h5 h6 => lv_istore_n K.1 K.2.1 hd hi h4.has (by rw [K.2.2.2.1]; exact hn) rfl (fun ls' h' => kk H locs ls' cells slots h1 h2 h3 (h4.of rfl rfl h') h5 h6)
theorem zq_istore (K : zOK t tb G E) {i : Nat} {x : Int32} (hd : decode (zyc t) pc = .ok (.istore i, 2)) (hn : i < zyl t) (kk : WW E G u Q M b (pc + 2) (L.set i (some (.int x))) S) : WW E G u Q M b pc L (.int x :: S) := by
  obtain ⟨p, e, R, s, m, args, below, meth, c⟩ := E
  exact fun H locs ls cells slots h1 h2 h3 h4 h5 h6 => lv_istore K.1 K.2.1 hd h4.has (by rw [K.2.2.2.1]; exact hn) rfl (fun ls' h' => kk H locs ls' cells slots h1 h2 h3 (h4.of rfl rfl h') h5 h6)
theorem zq_astore_n (K : zOK t tb G E) {k : Fin 4} {i : Nat} {x : Nat} (hd : decode (zyc t) pc = .ok (.astore_n k, 1)) (hi : (k : Nat) = i) (hn : i < zyl t) (kk : WW E G u Q M b (pc + 1) (L.set i (some (.ref x))) S) : WW E G u Q M b pc L (.ref x :: S) := by
  obtain ⟨p, e, R, s, m, args, below, meth, c⟩ := E
  exact fun H locs ls cells slots h1 h2 h3 h4 h5 h6 => lv_astore_n K.1 K.2.1 hd hi h4.has (by rw [K.2.2.2.1]; exact hn) rfl (fun ls' h' => kk H locs ls' cells slots h1 h2 h3 (h4.of rfl rfl h') h5 h6)
theorem zq_astore (K : zOK t tb G E) {i : Nat} {x : Nat} (hd : decode (zyc t) pc = .ok (.astore i, 2)) (hn : i < zyl t) (kk : WW E G u Q M b (pc + 2) (L.set i (some (.ref x))) S) : WW E G u Q M b pc L (.ref x :: S) := by
  obtain ⟨p, e, R, s, m, args, below, meth, c⟩ := E
  exact fun H locs ls cells slots h1 h2 h3 h4 h5 h6 => lv_astore K.1 K.2.1 hd h4.has (by rw [K.2.2.2.1]; exact hn) rfl (fun ls' h' => kk H locs ls' cells slots h1 h2 h3 (h4.of rfl rfl h') h5 h6)
theorem zq_astore_nN (K : zOK t tb G E) {k : Fin 4} {i : Nat} (hd : decode (zyc t) pc = .ok (.astore_n k, 1)) (hi : (k : Nat) = i) (hn : i < zyl t) (kk : WW E G u Q M b (pc + 1) (L.set i (some .null)) S) : WW E G u Q M b pc L (.null :: S) := by
  obtain ⟨p, e, R, s, m, args, below, meth, c⟩ := E
  exact fun H locs ls cells slots h1 h2 h3 h4 h5 h6 => lv_astore_nN K.1 K.2.1 hd hi h4.has (by rw [K.2.2.2.1]; exact hn) rfl (fun ls' h' => kk H locs ls' cells slots h1 h2 h3 (h4.of rfl rfl h') h5 h6)
theorem zq_astoreN (K : zOK t tb G E) {i : Nat} (hd : decode (zyc t) pc = .ok (.astore i, 2)) (hn : i < zyl t) (kk : WW E G u Q M b (pc + 2) (L.set i (some .null)) S) : WW E G u Q M b pc L (.null :: S) := by
  obtain ⟨p, e, R, s, m, args, below, meth, c⟩ := E
  exact fun H locs ls cells slots h1 h2 h3 h4 h5 h6 => lv_astoreN K.1 K.2.1 hd h4.has (by rw [K.2.2.2.1]; exact hn) rfl (fun ls' h' => kk H locs ls' cells slots h1 h2 h3 (h4.of rfl rfl h') h5 h6)
theorem zq_iinc (K : zOK t tb G E) {i : Nat} {n : Int} {x v : Int32} (hd : decode (zyc t) pc = .ok (.iinc i n, 3)) (hl : L[i]? = some (some (.int x))) (hv : x + Int32.ofInt n = v) (hn : i < zyl t) (kk : WW E G u Q M b (pc + 3) (L.set i (some (.int v))) S) : WW E G u Q M b pc L S := by
  obtain ⟨p, e, R, s, m, args, below, meth, c⟩ := E
  intro H locs ls cells slots h1 h2 h3 h4 h5 h6
  obtain ⟨k, hk⟩ := List.getElem?_of_mem (zA_mem.mpr (show L[(i, Value.int x).1]? = some (some (i, Value.int x).2) from hl))
  exact lv_iinc K.1 K.2.1 hd h4.has hk hv (by rw [K.2.2.2.1]; exact hn) rfl (fun ls' h' => kk H locs ls' cells slots h1 h2 h3 (h4.of rfl rfl h') h5 h6)
theorem zq_iadd (K : zOK t tb G E) {x y : Int32} (hd : decode (zyc t) pc = .ok (.iadd, 1)) (k : WW E G u Q M b (pc + 1) L (.int (x + y) :: S)) : WW E G u Q M b pc L (.int y :: .int x :: S) := by
  obtain ⟨p, e, R, s, m, args, below, meth, c⟩ := E
  exact fun H locs ls cells slots h1 h2 h3 h4 h5 h6 => lv_iadd K.1 K.2.1 hd (k H locs ls cells slots h1 h2 h3 h4 h5 h6)
theorem zq_isub (K : zOK t tb G E) {x y : Int32} (hd : decode (zyc t) pc = .ok (.isub, 1)) (k : WW E G u Q M b (pc + 1) L (.int (x - y) :: S)) : WW E G u Q M b pc L (.int y :: .int x :: S) := by
  obtain ⟨p, e, R, s, m, args, below, meth, c⟩ := E
  exact fun H locs ls cells slots h1 h2 h3 h4 h5 h6 => lv_isub K.1 K.2.1 hd (k H locs ls cells slots h1 h2 h3 h4 h5 h6)
theorem zq_imul (K : zOK t tb G E) {x y : Int32} (hd : decode (zyc t) pc = .ok (.imul, 1)) (k : WW E G u Q M b (pc + 1) L (.int (x * y) :: S)) : WW E G u Q M b pc L (.int y :: .int x :: S) := by
  obtain ⟨p, e, R, s, m, args, below, meth, c⟩ := E
  exact fun H locs ls cells slots h1 h2 h3 h4 h5 h6 => lv_imul K.1 K.2.1 hd (k H locs ls cells slots h1 h2 h3 h4 h5 h6)
theorem zq_iand (K : zOK t tb G E) {x y : Int32} (hd : decode (zyc t) pc = .ok (.iand, 1)) (k : WW E G u Q M b (pc + 1) L (.int (x &&& y) :: S)) : WW E G u Q M b pc L (.int y :: .int x :: S) := by
  obtain ⟨p, e, R, s, m, args, below, meth, c⟩ := E
  exact fun H locs ls cells slots h1 h2 h3 h4 h5 h6 => lv_iand K.1 K.2.1 hd (k H locs ls cells slots h1 h2 h3 h4 h5 h6)
theorem zq_ixor (K : zOK t tb G E) {x y : Int32} (hd : decode (zyc t) pc = .ok (.ixor, 1)) (k : WW E G u Q M b (pc + 1) L (.int (x ^^^ y) :: S)) : WW E G u Q M b pc L (.int y :: .int x :: S) := by
  obtain ⟨p, e, R, s, m, args, below, meth, c⟩ := E
  exact fun H locs ls cells slots h1 h2 h3 h4 h5 h6 => lv_ixor K.1 K.2.1 hd (k H locs ls cells slots h1 h2 h3 h4 h5 h6)
theorem zq_idiv (K : zOK t tb G E) {x y : Int32} (hd : decode (zyc t) pc = .ok (.idiv, 1)) (hne : ¬ y = 0) (k : WW E G u Q M b (pc + 1) L (.int (x / y) :: S)) : WW E G u Q M b pc L (.int y :: .int x :: S) := by
  obtain ⟨p, e, R, s, m, args, below, meth, c⟩ := E
  exact fun H locs ls cells slots h1 h2 h3 h4 h5 h6 => lv_idiv K.1 K.2.1 hd hne (k H locs ls cells slots h1 h2 h3 h4 h5 h6)
theorem zq_irem (K : zOK t tb G E) {x y : Int32} (hd : decode (zyc t) pc = .ok (.irem, 1)) (hne : ¬ y = 0) (k : WW E G u Q M b (pc + 1) L (.int (x - x / y * y) :: S)) : WW E G u Q M b pc L (.int y :: .int x :: S) := by
  obtain ⟨p, e, R, s, m, args, below, meth, c⟩ := E
  exact fun H locs ls cells slots h1 h2 h3 h4 h5 h6 => lv_irem K.1 K.2.1 hd hne (k H locs ls cells slots h1 h2 h3 h4 h5 h6)
theorem zq_i2l (K : zOK t tb G E) {x : Int32} (hd : decode (zyc t) pc = .ok (.i2l, 1)) (k : WW E G u Q M b (pc + 1) L (.long x.toInt64 :: S)) : WW E G u Q M b pc L (.int x :: S) := by
  obtain ⟨p, e, R, s, m, args, below, meth, c⟩ := E
  exact fun H locs ls cells slots h1 h2 h3 h4 h5 h6 => lv_i2l K.1 K.2.1 hd rfl (k H locs ls cells slots h1 h2 h3 h4 h5 h6)
theorem zq_lcmp (K : zOK t tb G E) {x y : Int64} (hd : decode (zyc t) pc = .ok (.lcmp, 1)) (k : WW E G u Q M b (pc + 1) L (.int (lg_cmp x y) :: S)) : WW E G u Q M b pc L (.long y :: .long x :: S) := by
  obtain ⟨p, e, R, s, m, args, below, meth, c⟩ := E
  exact fun H locs ls cells slots h1 h2 h3 h4 h5 h6 => W.lcmp K.1 K.2.1 hd (k H locs ls cells slots h1 h2 h3 h4 h5 h6)
theorem zq_dup (K : zOK t tb G E) {v : Value} (hd : decode (zyc t) pc = .ok (.dup, 1)) (hv : v.category = 1) (k : WW E G u Q M b (pc + 1) L (v :: v :: S)) : WW E G u Q M b pc L (v :: S) := by
  obtain ⟨p, e, R, s, m, args, below, meth, c⟩ := E
  exact fun H locs ls cells slots h1 h2 h3 h4 h5 h6 => lv_dup K.1 K.2.1 hd hv (k H locs ls cells slots h1 h2 h3 h4 h5 h6)
theorem zq_pop (K : zOK t tb G E) {v : Value} (hd : decode (zyc t) pc = .ok (.pop, 1)) (hv : v.category = 1) (k : WW E G u Q M b (pc + 1) L (S)) : WW E G u Q M b pc L (v :: S) := by
  obtain ⟨p, e, R, s, m, args, below, meth, c⟩ := E
  exact fun H locs ls cells slots h1 h2 h3 h4 h5 h6 => lv_pop K.1 K.2.1 hd hv (k H locs ls cells slots h1 h2 h3 h4 h5 h6)
theorem zq_dup2 (K : zOK t tb G E) {v w : Value} (hd : decode (zyc t) pc = .ok (.dup2, 1)) (hv : v.category = 1) (hw : w.category = 1) (k : WW E G u Q M b (pc + 1) L (v :: w :: v :: w :: S)) : WW E G u Q M b pc L (v :: w :: S) := by
  obtain ⟨p, e, R, s, m, args, below, meth, c⟩ := E
  exact fun H locs ls cells slots h1 h2 h3 h4 h5 h6 => lv_dup2_11 K.1 K.2.1 hd hv hw (k H locs ls cells slots h1 h2 h3 h4 h5 h6)
theorem zq_goto (K : zOK t tb G E) {off : Int} (tgt : Nat) (hd : decode (zyc t) pc = .ok (.goto off, 3)) (ht : (pc : Int) + off = (tgt : Int)) (k : WW E G u Q M b tgt L S) : WW E G u Q M b pc L S := by
  obtain ⟨p, e, R, s, m, args, below, meth, c⟩ := E
  exact fun H locs ls cells slots h1 h2 h3 h4 h5 h6 => lv_goto K.1 K.2.1 hd ht (k H locs ls cells slots h1 h2 h3 h4 h5 h6)
theorem zq_if_eq (K : zOK t tb G E) {x : Int32} {off : Int} (tgt : Nat) (hd : decode (zyc t) pc = .ok (.ifCond .eq off, 3)) (ht : (pc : Int) + off = (tgt : Int)) (kt : x = 0 → WW E G u Q M b tgt L S) (kf : ¬ x = 0 → WW E G u Q M b (pc + 3) L S) : WW E G u Q M b pc L (.int x :: S) := by
  obtain ⟨p, e, R, s, m, args, below, meth, c⟩ := E
  exact fun H locs ls cells slots h1 h2 h3 h4 h5 h6 => lv_if_eq K.1 K.2.1 hd ht (fun q => kt q H locs ls cells slots h1 h2 h3 h4 h5 h6) (fun q => kf q H locs ls cells slots h1 h2 h3 h4 h5 h6)
theorem zq_icmp_eq (K : zOK t tb G E) {x y : Int32} {off : Int} (tgt : Nat) (hd : decode (zyc t) pc = .ok (.if_icmp .eq off, 3)) (ht : (pc : Int) + off = (tgt : Int)) (kt : x = y → WW E G u Q M b tgt L S) (kf : ¬ x = y → WW E G u Q M b (pc + 3) L S) : WW E G u Q M b pc L (.int y :: .int x :: S) := by
  obtain ⟨p, e, R, s, m, args, below, meth, c⟩ := E
  exact fun H locs ls cells slots h1 h2 h3 h4 h5 h6 => lv_icmp_eq K.1 K.2.1 hd ht (fun q => kt q H locs ls cells slots h1 h2 h3 h4 h5 h6) (fun q => kf q H locs ls cells slots h1 h2 h3 h4 h5 h6)
theorem zq_if_ne (K : zOK t tb G E) {x : Int32} {off : Int} (tgt : Nat) (hd : decode (zyc t) pc = .ok (.ifCond .ne off, 3)) (ht : (pc : Int) + off = (tgt : Int)) (kt : ¬ x = 0 → WW E G u Q M b tgt L S) (kf : x = 0 → WW E G u Q M b (pc + 3) L S) : WW E G u Q M b pc L (.int x :: S) := by
  obtain ⟨p, e, R, s, m, args, below, meth, c⟩ := E
  exact fun H locs ls cells slots h1 h2 h3 h4 h5 h6 => lv_if_ne K.1 K.2.1 hd ht (fun q => kt q H locs ls cells slots h1 h2 h3 h4 h5 h6) (fun q => kf q H locs ls cells slots h1 h2 h3 h4 h5 h6)
theorem zq_icmp_ne (K : zOK t tb G E) {x y : Int32} {off : Int} (tgt : Nat) (hd : decode (zyc t) pc = .ok (.if_icmp .ne off, 3)) (ht : (pc : Int) + off = (tgt : Int)) (kt : ¬ x = y → WW E G u Q M b tgt L S) (kf : x = y → WW E G u Q M b (pc + 3) L S) : WW E G u Q M b pc L (.int y :: .int x :: S) := by
  obtain ⟨p, e, R, s, m, args, below, meth, c⟩ := E
  exact fun H locs ls cells slots h1 h2 h3 h4 h5 h6 => lv_icmp_ne K.1 K.2.1 hd ht (fun q => kt q H locs ls cells slots h1 h2 h3 h4 h5 h6) (fun q => kf q H locs ls cells slots h1 h2 h3 h4 h5 h6)
theorem zq_if_lt (K : zOK t tb G E) {x : Int32} {off : Int} (tgt : Nat) (hd : decode (zyc t) pc = .ok (.ifCond .lt off, 3)) (ht : (pc : Int) + off = (tgt : Int)) (kt : x < 0 → WW E G u Q M b tgt L S) (kf : ¬ x < 0 → WW E G u Q M b (pc + 3) L S) : WW E G u Q M b pc L (.int x :: S) := by
  obtain ⟨p, e, R, s, m, args, below, meth, c⟩ := E
  exact fun H locs ls cells slots h1 h2 h3 h4 h5 h6 => lv_if_lt K.1 K.2.1 hd ht (fun q => kt q H locs ls cells slots h1 h2 h3 h4 h5 h6) (fun q => kf q H locs ls cells slots h1 h2 h3 h4 h5 h6)
theorem zq_icmp_lt (K : zOK t tb G E) {x y : Int32} {off : Int} (tgt : Nat) (hd : decode (zyc t) pc = .ok (.if_icmp .lt off, 3)) (ht : (pc : Int) + off = (tgt : Int)) (kt : x < y → WW E G u Q M b tgt L S) (kf : ¬ x < y → WW E G u Q M b (pc + 3) L S) : WW E G u Q M b pc L (.int y :: .int x :: S) := by
  obtain ⟨p, e, R, s, m, args, below, meth, c⟩ := E
  exact fun H locs ls cells slots h1 h2 h3 h4 h5 h6 => lv_icmp_lt K.1 K.2.1 hd ht (fun q => kt q H locs ls cells slots h1 h2 h3 h4 h5 h6) (fun q => kf q H locs ls cells slots h1 h2 h3 h4 h5 h6)
theorem zq_if_ge (K : zOK t tb G E) {x : Int32} {off : Int} (tgt : Nat) (hd : decode (zyc t) pc = .ok (.ifCond .ge off, 3)) (ht : (pc : Int) + off = (tgt : Int)) (kt : 0 ≤ x → WW E G u Q M b tgt L S) (kf : ¬ 0 ≤ x → WW E G u Q M b (pc + 3) L S) : WW E G u Q M b pc L (.int x :: S) := by
  obtain ⟨p, e, R, s, m, args, below, meth, c⟩ := E
  exact fun H locs ls cells slots h1 h2 h3 h4 h5 h6 => lv_if_ge K.1 K.2.1 hd ht (fun q => kt q H locs ls cells slots h1 h2 h3 h4 h5 h6) (fun q => kf q H locs ls cells slots h1 h2 h3 h4 h5 h6)
theorem zq_icmp_ge (K : zOK t tb G E) {x y : Int32} {off : Int} (tgt : Nat) (hd : decode (zyc t) pc = .ok (.if_icmp .ge off, 3)) (ht : (pc : Int) + off = (tgt : Int)) (kt : y ≤ x → WW E G u Q M b tgt L S) (kf : ¬ y ≤ x → WW E G u Q M b (pc + 3) L S) : WW E G u Q M b pc L (.int y :: .int x :: S) := by
  obtain ⟨p, e, R, s, m, args, below, meth, c⟩ := E
  exact fun H locs ls cells slots h1 h2 h3 h4 h5 h6 => lv_icmp_ge K.1 K.2.1 hd ht (fun q => kt q H locs ls cells slots h1 h2 h3 h4 h5 h6) (fun q => kf q H locs ls cells slots h1 h2 h3 h4 h5 h6)
theorem zq_if_gt (K : zOK t tb G E) {x : Int32} {off : Int} (tgt : Nat) (hd : decode (zyc t) pc = .ok (.ifCond .gt off, 3)) (ht : (pc : Int) + off = (tgt : Int)) (kt : 0 < x → WW E G u Q M b tgt L S) (kf : ¬ 0 < x → WW E G u Q M b (pc + 3) L S) : WW E G u Q M b pc L (.int x :: S) := by
  obtain ⟨p, e, R, s, m, args, below, meth, c⟩ := E
  exact fun H locs ls cells slots h1 h2 h3 h4 h5 h6 => lv_if_gt K.1 K.2.1 hd ht (fun q => kt q H locs ls cells slots h1 h2 h3 h4 h5 h6) (fun q => kf q H locs ls cells slots h1 h2 h3 h4 h5 h6)
theorem zq_icmp_gt (K : zOK t tb G E) {x y : Int32} {off : Int} (tgt : Nat) (hd : decode (zyc t) pc = .ok (.if_icmp .gt off, 3)) (ht : (pc : Int) + off = (tgt : Int)) (kt : y < x → WW E G u Q M b tgt L S) (kf : ¬ y < x → WW E G u Q M b (pc + 3) L S) : WW E G u Q M b pc L (.int y :: .int x :: S) := by
  obtain ⟨p, e, R, s, m, args, below, meth, c⟩ := E
  exact fun H locs ls cells slots h1 h2 h3 h4 h5 h6 => lv_icmp_gt K.1 K.2.1 hd ht (fun q => kt q H locs ls cells slots h1 h2 h3 h4 h5 h6) (fun q => kf q H locs ls cells slots h1 h2 h3 h4 h5 h6)
theorem zq_if_le (K : zOK t tb G E) {x : Int32} {off : Int} (tgt : Nat) (hd : decode (zyc t) pc = .ok (.ifCond .le off, 3)) (ht : (pc : Int) + off = (tgt : Int)) (kt : x ≤ 0 → WW E G u Q M b tgt L S) (kf : ¬ x ≤ 0 → WW E G u Q M b (pc + 3) L S) : WW E G u Q M b pc L (.int x :: S) := by
  obtain ⟨p, e, R, s, m, args, below, meth, c⟩ := E
  exact fun H locs ls cells slots h1 h2 h3 h4 h5 h6 => lv_if_le K.1 K.2.1 hd ht (fun q => kt q H locs ls cells slots h1 h2 h3 h4 h5 h6) (fun q => kf q H locs ls cells slots h1 h2 h3 h4 h5 h6)
theorem zq_icmp_le (K : zOK t tb G E) {x y : Int32} {off : Int} (tgt : Nat) (hd : decode (zyc t) pc = .ok (.if_icmp .le off, 3)) (ht : (pc : Int) + off = (tgt : Int)) (kt : x ≤ y → WW E G u Q M b tgt L S) (kf : ¬ x ≤ y → WW E G u Q M b (pc + 3) L S) : WW E G u Q M b pc L (.int y :: .int x :: S) := by
  obtain ⟨p, e, R, s, m, args, below, meth, c⟩ := E
  exact fun H locs ls cells slots h1 h2 h3 h4 h5 h6 => lv_icmp_le K.1 K.2.1 hd ht (fun q => kt q H locs ls cells slots h1 h2 h3 h4 h5 h6) (fun q => kf q H locs ls cells slots h1 h2 h3 h4 h5 h6)
theorem zq_acmp_ne (K : zOK t tb G E) {rx ry : Option Nat} {off : Int} (tgt : Nat) (hd : decode (zyc t) pc = .ok (.if_acmp .ne off, 3)) (ht : (pc : Int) + off = (tgt : Int)) (kt : ¬ rx = ry → WW E G u Q M b tgt L S) (kf : rx = ry → WW E G u Q M b (pc + 3) L S) : WW E G u Q M b pc L (va_rf ry :: va_rf rx :: S) := by
  obtain ⟨p, e, R, s, m, args, below, meth, c⟩ := E
  exact fun H locs ls cells slots h1 h2 h3 h4 h5 h6 => lv_acmp_ne K.1 K.2.1 hd ht (fun q => kt q H locs ls cells slots h1 h2 h3 h4 h5 h6) (fun q => kf q H locs ls cells slots h1 h2 h3 h4 h5 h6)
theorem zq_ifnull_r (K : zOK t tb G E) {x : Nat} {off : Int} (hd : decode (zyc t) pc = .ok (.ifnull off, 3)) (k : WW E G u Q M b (pc + 3) L S) : WW E G u Q M b pc L (.ref x :: S) := by
  obtain ⟨p, e, R, s, m, args, below, meth, c⟩ := E
  exact fun H locs ls cells slots h1 h2 h3 h4 h5 h6 => lv_ifnull K.1 K.2.1 hd (k H locs ls cells slots h1 h2 h3 h4 h5 h6)
theorem zq_ifnonnull_r (K : zOK t tb G E) {x : Nat} {off : Int} (tgt : Nat) (hd : decode (zyc t) pc = .ok (.ifnonnull off, 3)) (ht : (pc : Int) + off = (tgt : Int)) (k : WW E G u Q M b tgt L S) : WW E G u Q M b pc L (.ref x :: S) := by
  obtain ⟨p, e, R, s, m, args, below, meth, c⟩ := E
  exact fun H locs ls cells slots h1 h2 h3 h4 h5 h6 => lv_ifnonnull K.1 K.2.1 hd ht (k H locs ls cells slots h1 h2 h3 h4 h5 h6)
theorem zq_ifnull_n (K : zOK t tb G E) {off : Int} (tgt : Nat) (hd : decode (zyc t) pc = .ok (.ifnull off, 3)) (ht : (pc : Int) + off = (tgt : Int)) (k : WW E G u Q M b tgt L S) : WW E G u Q M b pc L (.null :: S) := by
  obtain ⟨p, e, R, s, m, args, below, meth, c⟩ := E
  exact fun H locs ls cells slots h1 h2 h3 h4 h5 h6 => lv_ifnullN K.1 K.2.1 hd ht (k H locs ls cells slots h1 h2 h3 h4 h5 h6)
theorem zq_ifnonnull_n (K : zOK t tb G E) {off : Int} (hd : decode (zyc t) pc = .ok (.ifnonnull off, 3)) (k : WW E G u Q M b (pc + 3) L S) : WW E G u Q M b pc L (.null :: S) := by
  obtain ⟨p, e, R, s, m, args, below, meth, c⟩ := E
  exact fun H locs ls cells slots h1 h2 h3 h4 h5 h6 => lv_ifnonnullN K.1 K.2.1 hd (k H locs ls cells slots h1 h2 h3 h4 h5 h6)
/-! fields -/
def zcl (ci : Nat) (C : String) (T : u_T) (N : Nat) (ty : Nat → FieldType) : Prop := vwCl[ci]? = some (C, T, N) ∧ ci < 4 ∧ zsz ci = N ∧ (∀ w ∈ u_ws C T N, w ∈ zTs) ∧ (∀ k, k < N → parseFieldDescriptor (T k).2.2.1 = some (ty k)) ∧ (∀ a, a < N → ∀ b, b < N → a ≠ b → (T a).2.1 ≠ (T b).2.1) ∧ Cond.instantiable C N ∈ zTs ∧ Cond.initialized C ∈ zTs
theorem zat {M : ZM} {H : Heap} (h : zRel G M H) {a ci : Nat} {C : String} {T : u_T} {N : Nat} {ty : Nat → FieldType} (hC : zcl ci C T N ty) (ha : zk M a = ci + 1) : va_P G.2.1 vwCl [(a, .inr (ci, zfs M a ci N))] H := by
  intro k q hq
  match k, hq with
  | 0, hq =>
    cases hq
    have h1 := (h.2.2 a (by omega)).2
    rw [zE_o ha hC.2.1, hC.2.2.1] at h1
    exact h1
theorem zq_getI (K : zOK t tb G E) {index ci N k : Nat} {C : String} {T : u_T} {ty : Nat → FieldType} (hd : decode (zyc t) pc = .ok (.getfield index, 3)) (hC : zcl ci C T N ty) (hk : k < N) (hw : Cond.fieldLink (zyn t).cls index (T k).1 (T k).2.1 (T k).2.2.1 ∈ zTs) (hi : zfi ci k = true) {a : Nat} (ha : zk M a = ci + 1) (kk : WW E G u Q M b (pc + 3) L (.int (zi M a k) :: S)) : WW E G u Q M b pc L (.ref a :: S) := by
  obtain ⟨p, e, R, s, m, args, below, meth, c⟩ := E
  intro H locs ls cells slots h1 h2 h3 h4 h5 h6
  exact va_get K.1 K.2.1 K.2.2.2.2.2.2.1 hC.2.2.2.1 K.2.2.2.2.1 K.2.2.2.2.2.2.2.1.1 (zat h1 hC ha) 0 rfl hC.1 k hk (K.2.2.2.2.2.2.1 _ hw) (fun _ z => z) (by rw [zfs_get hk, zfv, if_pos hi]) hd (kk H locs ls cells slots h1 h2 h3 h4 h5 h6)
theorem zq_getR (K : zOK t tb G E) {index ci N k : Nat} {C : String} {T : u_T} {ty : Nat → FieldType} (hd : decode (zyc t) pc = .ok (.getfield index, 3)) (hC : zcl ci C T N ty) (hk : k < N) (hw : Cond.fieldLink (zyn t).cls index (T k).1 (T k).2.1 (T k).2.2.1 ∈ zTs) (hi : zfi ci k = false) {a : Nat} (ha : zk M a = ci + 1) {v : Option Nat} (hv : zr M a k = v) (kk : WW E G u Q M b (pc + 3) L (va_rf v :: S)) : WW E G u Q M b pc L (.ref a :: S) := by
  subst hv
  obtain ⟨p, e, R, s, m, args, below, meth, c⟩ := E
  intro H locs ls cells slots h1 h2 h3 h4 h5 h6
  exact va_get K.1 K.2.1 K.2.2.2.2.2.2.1 hC.2.2.2.1 K.2.2.2.2.1 K.2.2.2.2.2.2.2.1.1 (zat h1 hC ha) 0 rfl hC.1 k hk (K.2.2.2.2.2.2.1 _ hw) (fun _ z => z) (by rw [zfs_get hk, zfv, if_neg (by rw [hi]; decide)]) hd (kk H locs ls cells slots h1 h2 h3 h4 h5 h6)
/-- the machine's part of a putfield: one cell is written -/
theorem zputK (K : zOK t tb G E) {index ci N k : Nat} {C : String} {T : u_T} {ty : Nat → FieldType} (hd : decode (zyc t) pc = .ok (.putfield index, 3)) (hC : zcl ci C T N ty) (hk : k < N) (hw : Cond.fieldLink (zyn t).cls index (T k).1 (T k).2.1 (T k).2.2.1 ∈ zTs) (hfin : (T k).2.2.2 = false ∨ ((T k).1 = (zyn t).cls ∧ (zyn t).name = "<init>")) {a : Nat} (ha : zk M a = ci + 1) {v : Value} (hn : narrow (ty k) v = v) (hfit : fits (ty k) v = true) {M' : ZM} (hM : ∀ c0, (∀ b, zk M' b = zk M b) ∧ (∀ b, b ≠ a → zE c0 M' b = zE c0 M b)) (hset : (zfs M a ci N).set k v = zfs M' a ci N) (kk : WW E G u Q M' b (pc + 3) L S) : WW E G u Q M b pc L (v :: .ref a :: S) := by
  obtain ⟨p, e, R, s, m, args, below, meth, c⟩ := E
  intro H locs ls cells slots h1 h2 h3 h4 h5 h6
  have hK := K.2.2.2.2.2.2.2.1.1
  have hts := K.2.2.2.2.2.2.1
  have hown := K.2.2.2.2.1
  have hap := va_apart (own := (zyn t).cls) hts hC.2.2.2.1 ty hC.2.2.2.2.1 hC.2.2.2.2.2.1 hK hC.1
  obtain ⟨r, hr0, cell, q1, q2, q3, q4⟩ := (zat h1 hC ha) 0 _ rfl
  have hr : r = (C, T, N) := Option.some.inj (hr0.symm.trans hC.1)
  subst hr
  obtain ⟨hS, hfc, kC, hkC, hkind⟩ := hK.1 ci _ hC.1
  obtain ⟨cf, kf, fi, f, hi, hsl⟩ := hS k hk
  have hlay := hts _ (hC.2.2.2.1 _ (u_in_lay hk))
  have hst := (u_facts hfc hkC (u_lays hts hC.2.2.2.1 hk) hi).1
  have hl : k < (zfs M a ci N).length := by rw [zfs_len]; exact hk
  have ha0 : zk M a ≠ 0 := by omega
  have fin : ∀ H' : Heap, H'[a]? = some (cell.setSlot f.slot v) → H'.size = H.size → (∀ q, q ≠ a → H'[q]? = H[q]?) → W p G.1 e R s m args below meth c H' (locs ++ [⟨a, f.slot⟩]) cells slots Q (F0 m (pc + 3) ls S) := by
    intro H' e1 e2 e3
    rw [hsl] at e1
    refine kk H' _ ls cells slots (h1.put ha0 e2 e3 (hM G.2.2.1).1 (hM G.2.2.1).2 ?_) (by omega) (fun q hq => ?_) h4 h5 h6
    · rw [zE_o (by rw [(hM G.2.2.1).1]; exact ha) hC.2.1, hC.2.2.1, ← hset]
      exact ⟨_, hC.1, t_OB.to (V := updV (vp_V (zfs M a ci N)) k v) ⟨_, e1, q2, q3, t_set q4 hap hk v⟩ (fun j _ => vp_updV_set hl v j)⟩
    · rcases List.mem_append.mp hq with h | h
      · exact h3 q h
      · rw [List.mem_singleton.mp h]
        exact (h1.2.2 a ha0).1
  by_cases hf : (T k).2.2.2 = false
  · unfold u_lay at hlay
    rw [if_neg (by rw [hf]; decide)] at hlay
    have h6' := u_store hfc hkC hkind hlay hi (hC.2.2.2.2.1 k hk) hn hfit
    exact W.putK K.1 K.2.1 (f := f) ⟨hown, hts _ hw, ⟨_, _, _, hi⟩, hst⟩ (by rw [q2]; exact h6') q1 q3 (by rw [hsl]; exact k2_hasslot (q4 k hk)) rfl rfl hd fin
  · have hf1 : (T k).2.2.2 = true := by cases h9 : (T k).2.2.2 with
      | true => rfl
      | false => exact absurd h9 hf
    obtain ⟨hdecl, hnm⟩ := hfin.resolve_left hf
    unfold u_lay at hlay
    rw [if_pos hf1] at hlay
    have hcf : m.cls = cf := by
      obtain ⟨_, _, c', _, _, _, -, -, hf', -, -, -, hown2, -⟩ := Cond.laysFinal_spec hlay
      have e1 : c' = cf := by have := hi.symm.trans hf'; simp at this; exact this.1.symm
      rw [hdecl] at hown2
      rw [← e1]; exact Option.some.inj (hown.symm.trans hown2)
    have h6' := u_fits hfc hkC hkind (Or.inr hlay) hi (hC.2.2.2.2.1 k hk) hn hfit
    exact W.putFinK K.1 K.2.1 hown (hts _ hw) hi hst hcf (K.2.2.2.2.2.2.2.2.2.2.1.trans hnm) (by rw [q2]; exact h6') q1 q3 (by rw [hsl]; exact k2_hasslot (q4 k hk)) rfl rfl hd fin
theorem zE_i {c : Nat → ClassId} {a k b : Nat} {v : Int32} (e : b ≠ a) : zE c (zsi M a k v) b = zE c M b := by
  have h3 : zi (zsi M a k v) b = zi M b := funext fun j => by rw [zi_i, if_neg (fun q => e q.1)]
  unfold zE zct zfs zfv
  rw [h3]
  rfl
theorem zE_r {c : Nat → ClassId} {a k b : Nat} {v : Option Nat} (e : b ≠ a) : zE c (zsr M a k v) b = zE c M b := by
  have h3 : zr (zsr M a k v) b = zr M b := funext fun j => by rw [zr_r, if_neg (fun q => e q.1)]
  unfold zE zct zfs zfv
  rw [h3]
  rfl
theorem zE_j {c : Nat → ClassId} {a k b : Nat} {v : Int64} (e : b ≠ a) : zE c (zsj M a k v) b = zE c M b := by
  have h3 : zj (zsj M a k v) b = zj M b := funext fun j => by rw [zj_j, if_neg (fun q => e q.1)]
  unfold zE zct zfs zfv
  rw [h3]
  rfl
theorem zq_putI (K : zOK t tb G E) {index ci N k : Nat} {C : String} {T : u_T} {ty : Nat → FieldType} (hd : decode (zyc t) pc = .ok (.putfield index, 3)) (hC : zcl ci C T N ty) (hk : k < N) (hw : Cond.fieldLink (zyn t).cls index (T k).1 (T k).2.1 (T k).2.2.1 ∈ zTs) (hfin : (T k).2.2.2 = false ∨ ((T k).1 = (zyn t).cls ∧ (zyn t).name = "<init>")) (hty : ty k = .int) (hi : zfi ci k = true) {a : Nat} {x : Int32} (ha : zk M a = ci + 1) (kk : WW E G u Q (zsi M a k x) b (pc + 3) L S) : WW E G u Q M b pc L (.int x :: .ref a :: S) :=
  zputK (M' := zsi M a k x) K hd hC hk hw hfin ha (by rw [hty]; rfl) (by rw [hty]; rfl) (fun _ => ⟨fun _ => rfl, fun _ e => zE_i e⟩) (zfs_set (by rw [zfv, if_pos hi, zi_i, if_pos ⟨rfl, rfl⟩]) (fun j hj => by unfold zfv; rw [show zi (zsi M a k x) a j = zi M a j from by rw [zi_i, if_neg (fun q => hj q.2)]]; rfl)) kk
theorem zq_putR (K : zOK t tb G E) {index ci N k : Nat} {C : String} {T : u_T} {ty : Nat → FieldType} (hd : decode (zyc t) pc = .ok (.putfield index, 3)) (hC : zcl ci C T N ty) (hk : k < N) (hw : Cond.fieldLink (zyn t).cls index (T k).1 (T k).2.1 (T k).2.2.1 ∈ zTs) (hfin : (T k).2.2.2 = false ∨ ((T k).1 = (zyn t).cls ∧ (zyn t).name = "<init>")) (hty : ∀ r : Option Nat, narrow (ty k) (va_rf r) = va_rf r ∧ fits (ty k) (va_rf r) = true) (hi : zfi ci k = false) {a : Nat} {r : Option Nat} (ha : zk M a = ci + 1) (kk : WW E G u Q (zsr M a k r) b (pc + 3) L S) : WW E G u Q M b pc L (va_rf r :: .ref a :: S) :=
  zputK (M' := zsr M a k r) K hd hC hk hw hfin ha (hty r).1 (hty r).2 (fun _ => ⟨fun _ => rfl, fun _ e => zE_r e⟩) (zfs_set (by rw [zfv, if_neg (by rw [hi]; decide), zr_r, if_pos ⟨rfl, rfl⟩]) (fun j hj => by unfold zfv; rw [show zr (zsr M a k r) a j = zr M a j from by rw [zr_r, if_neg (fun q => hj q.2)]]; rfl)) kk
/-! arrays -/
theorem zarr {M : ZM} {H : Heap} (h : zRel G M H) {a k : Nat} (ha : zk M a = k) (hk : 5 ≤ k) : H[a]? = some (vp_cell (G.2.2.1 (k - 5)) (zct M a k)) := by
  have h1 := (h.2.2 a (by omega)).2
  rw [zE_a ha hk] at h1
  exact h1
theorem zct_i {a k : Nat} (hk : k = 5 ∨ k = 6) (c : ClassId) : vp_cell c (zct M a k) = arrV c (zn M a) (fun j => .int (zi M a j)) := by
  unfold zct
  rw [if_pos hk]
  rfl
theorem zct_j {a : Nat} (c : ClassId) : vp_cell c (zct M a 7) = arrV c (zn M a) (fun j => .long (zj M a j)) := by
  unfold zct
  rw [if_neg (by omega), if_pos rfl]
  rfl
theorem zct_r {a k : Nat} (hk : 8 ≤ k) (c : ClassId) : vp_cell c (zct M a k) = arrV c (zn M a) (fun j => va_rf (zr M a j)) := by
  unfold zct
  rw [if_neg (by omega), if_neg (by omega)]
  rfl
theorem zq_alen (K : zOK t tb G E) {a k : Nat} (hd : decode (zyc t) pc = .ok (.arraylength, 1)) (ha : zk M a = k) (hk : 5 ≤ k ∧ k ≤ 10) (kk : WW E G u Q M b (pc + 1) L (.int (nI (zn M a)) :: S)) : WW E G u Q M b pc L (.ref a :: S) := by
  obtain ⟨p, e, R, s, m, args, below, meth, c⟩ := E
  intro H locs ls cells slots h1 h2 h3 h4 h5 h6
  have hT := K.2.2.2.2.2.2.2.1.1.2
  have hc := zarr h1 ha hk.1
  have z : ∃ f : Nat → Value, vp_cell (G.2.2.1 (k - 5)) (zct M a k) = arrV (G.2.2.1 (k - 5)) (zn M a) f := by
    by_cases q : k = 5 ∨ k = 6
    · exact ⟨_, zct_i q _⟩
    · by_cases q7 : k = 7
      · subst q7; exact ⟨_, zct_j _⟩
      · exact ⟨_, zct_r (by omega) _⟩
  obtain ⟨f, hf⟩ := z
  rw [hf] at hc
  have hty : ∃ ty, (zTy G.2.2.1)[k - 5]? = some (G.2.2.1 (k - 5), ty) := by
    obtain ⟨q1, q2⟩ := hk
    match k, q1, q2 with
    | 5, _, _ => exact ⟨_, rfl⟩
    | 6, _, _ => exact ⟨_, rfl⟩
    | 7, _, _ => exact ⟨_, rfl⟩
    | 8, _, _ => exact ⟨_, rfl⟩
    | 9, _, _ => exact ⟨_, rfl⟩
    | 10, _, _ => exact ⟨_, rfl⟩
  obtain ⟨ty, hty⟩ := hty
  exact W.alen (n := nI (zn M a)) K.1 K.2.1 hc ((hT _ _ hty).1 _ _) (by rw [arrV_size]; rfl) rfl rfl hd (kk H locs ls cells slots h1 h2 h3 h4 h5 h6)
theorem zq_iald (K : zOK t tb G E) {a : Nat} {i : Int32} (j : Nat) (hd : decode (zyc t) pc = .ok (.iaload, 1)) (ha : zk M a = 5) (hi : i = nI j) (hj : j < zn M a) (hn : zn M a < 2 ^ 31) (kk : WW E G u Q M b (pc + 1) L (.int (zi M a j) :: S)) : WW E G u Q M b pc L (.int i :: .ref a :: S) := by
  subst hi
  obtain ⟨p, e, R, s, m, args, below, meth, c⟩ := E
  intro H locs ls cells slots h1 h2 h3 h4 h5 h6
  have hT := K.2.2.2.2.2.2.2.1.1.2
  have hc := zarr h1 ha (by omega)
  rw [zct_i (Or.inl rfl)] at hc
  have e1 : (nI j).toNatClampNeg = j := nI_clamp (by omega)
  exact W.iald (v := .int (zi M a j)) K.1 K.2.1 hc ((hT 0 _ rfl).1 _ _) (fun q => by cases q) (by rw [arrV_size]; exact vp_in_nI hj hn) (by rw [e1, arrV_read _ _ hj]) rfl rfl hd (kk H locs ls cells slots h1 h2 h3 h4 h5 h6)
theorem zq_aald (K : zOK t tb G E) {a k : Nat} {i : Int32} (j : Nat) {v : Option Nat} (hd : decode (zyc t) pc = .ok (.aaload, 1)) (ha : zk M a = k) (hk : 8 ≤ k ∧ k ≤ 10) (hi : i = nI j) (hj : j < zn M a) (hn : zn M a < 2 ^ 31) (hv : zr M a j = v) (kk : WW E G u Q M b (pc + 1) L (va_rf v :: S)) : WW E G u Q M b pc L (.int i :: .ref a :: S) := by
  subst hi; subst hv
  obtain ⟨p, e, R, s, m, args, below, meth, c⟩ := E
  intro H locs ls cells slots h1 h2 h3 h4 h5 h6
  have hT := K.2.2.2.2.2.2.2.1.1.2
  have hc := zarr h1 ha (by omega)
  rw [zct_r hk.1] at hc
  have e1 : (nI j).toNatClampNeg = j := nI_clamp (by omega)
  have hty : ∃ ty : FieldType, ty.isReference = true ∧ (zTy G.2.2.1)[k - 5]? = some (G.2.2.1 (k - 5), ty) := by
    obtain ⟨q1, q2⟩ := hk
    match k, q1, q2 with
    | 8, _, _ => exact ⟨_, by rfl, rfl⟩
    | 9, _, _ => exact ⟨_, by rfl, rfl⟩
    | 10, _, _ => exact ⟨_, by rfl, rfl⟩
  obtain ⟨ty, hr, hty⟩ := hty
  exact W.aald (v := va_rf (zr M a j)) (ty := ty) K.1 K.2.1 hc ((hT _ _ hty).1 _ _) hr (fun q => by cases q) (by rw [arrV_size]; exact vp_in_nI hj hn) (by rw [e1, arrV_read _ _ hj]) rfl rfl hd (kk H locs ls cells slots h1 h2 h3 h4 h5 h6)
theorem zq_iast (K : zOK t tb G E) {a : Nat} {i x : Int32} (j : Nat) (hd : decode (zyc t) pc = .ok (.iastore, 1)) (ha : zk M a = 5) (hi : i = nI j) (hj : j < zn M a) (hn : zn M a < 2 ^ 31) (kk : WW E G u Q (zsi M a j x) b (pc + 1) L S) : WW E G u Q M b pc L (.int x :: .int i :: .ref a :: S) := by
  subst hi
  obtain ⟨p, e, R, s, m, args, below, meth, c⟩ := E
  intro H locs ls cells slots h1 h2 h3 h4 h5 h6
  have hT := K.2.2.2.2.2.2.2.1.1.2
  have hc := zarr h1 ha (by omega)
  rw [zct_i (Or.inl rfl)] at hc
  have e1 : (nI j).toNatClampNeg = j := nI_clamp (by omega)
  refine W.iast K.1 K.2.1 hc ((hT 0 _ rfl).1 _ _) (fun q => by cases q) (by rw [arrV_size]; exact vp_in_nI hj hn) rfl rfl hd fun H1 g1 g2 g3 => ?_
  refine kk H1 _ ls cells slots (h1.put (by omega) g2 g3 (fun _ => rfl) (fun _ e => zE_i e) ?_) (by omega) (fun q hq => ?_) h4 h5 h6
  · rw [zE_a (M := zsi M a j x) (k := 5) ha (by omega)]
    show H1[a]? = some (vp_cell _ _)
    rw [g1, zct_i (Or.inl rfl), arrV_store, e1]
    congr 2
    funext q
    by_cases hq : q = j
    · subst hq
      simp [updV, zi_i]
    · simp [updV, zi_i, hq]
  · rcases List.mem_append.mp hq with h | h
    · exact h3 q h
    · rw [List.mem_singleton.mp h]
      exact (h1.2.2 a (by omega)).1
/-- the reference y of class ci goes into an array of kind k -/
theorem zq_aast (K : zOK t tb G E) {a k y ci N : Nat} {C : String} {T : u_T} {ty : Nat → FieldType} {i : Int32} (j : Nat) (hd : decode (zyc t) pc = .ok (.aastore, 1)) (hC : zcl ci C T N ty) (ha : zk M a = k) (hk : (zTy G.2.2.1)[k - 5]? = some (G.2.2.1 (k - 5), .object C) ∧ 8 ≤ k) (hy : zk M y = ci + 1) (hi : i = nI j) (hj : j < zn M a) (hn : zn M a < 2 ^ 31) (kk : WW E G u Q (zsr M a j (some y)) b (pc + 1) L S) : WW E G u Q M b pc L (.ref y :: .int i :: .ref a :: S) := by
  subst hi
  obtain ⟨p, e, R, s, m, args, below, meth, c⟩ := E
  intro H locs ls cells slots h1 h2 h3 h4 h5 h6
  have hK := K.2.2.2.2.2.2.2.1.1
  have hc := zarr h1 ha (by omega)
  rw [zct_r hk.2] at hc
  have e1 : (nI j).toNatClampNeg = j := nI_clamp (by omega)
  obtain ⟨r', hr', cellV, v1, v2, v3, -⟩ := (zat h1 hC hy) 0 _ rfl
  have hcls := (hK.1 ci _ hC.1).2
  obtain ⟨kA, comp, k1, k2, k3, -⟩ := (hK.2 _ _ hk.1).2
  have hcomp : comp = G.2.1.1 ci := Option.some.inj (k3.symm.trans hcls.1)
  subst hcomp
  obtain ⟨kC, hkC, -⟩ := hcls.2
  refine W.aast K.1 K.2.1 hc (fun q h => by cases h) (fun h => by cases h) k1 k2 rfl hkC ⟨nI_pos (by omega), by rw [arrV_size, e1]; exact hj⟩ v1 (fun q h => by rw [v3] at h; cases h) (by rw [v2]; exact hkC) (by rw [v2]; exact va_assign hcls) rfl rfl hd fun H1 g1 g2 g3 => ?_
  refine kk H1 _ ls cells slots (h1.put (by omega) g2 g3 (fun _ => rfl) (fun _ e => zE_r e) ?_) (by omega) (fun q hq => ?_) h4 h5 h6
  · rw [zE_a (M := zsr M a j (some y)) (k := k) ha (by omega)]
    show H1[a]? = some (vp_cell _ _)
    rw [g1, zct_r hk.2, arrV_store, e1]
    congr 2
    funext q
    by_cases hq : q = j
    · subst hq
      simp [updV, zr_r, va_rf]
    · simp [updV, zr_r, hq]
  · rcases List.mem_append.mp hq with h | h
    · exact h3 q h
    · rw [List.mem_singleton.mp h]
      exact (h1.2.2 a (by omega)).1
/-- null goes into an array of directories -/
theorem zq_aastN (K : zOK t tb G E) {a k : Nat} {C : String} {i : Int32} (j : Nat) (hd : decode (zyc t) pc = .ok (.aastore, 1)) (ha : zk M a = k) (hk : (zTy G.2.2.1)[k - 5]? = some (G.2.2.1 (k - 5), .object C) ∧ 8 ≤ k) (hi : i = nI j) (hj : j < zn M a) (hn : zn M a < 2 ^ 31) (kk : WW E G u Q (zsr M a j none) b (pc + 1) L S) : WW E G u Q M b pc L (.null :: .int i :: .ref a :: S) := by
  subst hi
  obtain ⟨p, e, R, s, m, args, below, meth, c⟩ := E
  intro H locs ls cells slots h1 h2 h3 h4 h5 h6
  have hK := K.2.2.2.2.2.2.2.1.1
  have hc := zarr h1 ha (by omega)
  rw [zct_r hk.2] at hc
  have e1 : (nI j).toNatClampNeg = j := nI_clamp (by omega)
  refine va_WaastN (C := C) K.1 K.2.1 hc ((hK.2 _ _ hk.1).1 _ _) (fun h => by cases h) (by rw [arrV_size]; exact vp_in_nI hj hn) rfl rfl hd fun H1 g1 g2 g3 => ?_
  refine kk H1 _ ls cells slots (h1.put (by omega) g2 g3 (fun _ => rfl) (fun _ e => zE_r e) ?_) (by omega) (fun q hq => ?_) h4 h5 h6
  · rw [zE_a (M := zsr M a j none) (k := k) ha (by omega)]
    show H1[a]? = some (vp_cell _ _)
    rw [g1, zct_r hk.2, arrV_store, e1]
    congr 2
    funext q
    by_cases hq : q = j
    · subst hq
      simp [updV, zr_r, va_rf]
    · simp [updV, zr_r, hq]
  · rcases List.mem_append.mp hq with h | h
    · exact h3 q h
    · rw [List.mem_singleton.mp h]
      exact (h1.2.2 a (by omega)).1
end ZROW
end
section
/-! ===== BEGIN a constructor that throws (launches without stack traces) ===== -/
section VXIA
variable {p : Program} {l : Launch} {e : Env} {R : Room} {s : State} {m : MethodId} {args : Array Value} {below : List Frame} {meth : Method} {c : Code} {T : State} {locs : List Loc} {cells slots : Nat}
theorem vx_callI (X : Stand p l e R s m args below meth c T locs cells slots) (hexec : p.tables.exec = Jvm.exec) {own : String} {index : Nat} {y : MethodName} {bytes : ByteArray} {maxL : Nat}
    (hown : s.vm.findClass own = some m.cls) (hy1 : y.name = "<init>") (hlink : (Cond.methodLink own index y).before args s = true) (hinst : (Cond.instanceMethod y).before args s = true)
    (hcode : (Cond.code y bytes maxL none).before args s = true) (hy : y.cls ≠ "java/lang/invoke/MethodHandle" ∧ y.cls ≠ "java/lang/invoke/VarHandle")
    {W9 : Nat} {Pre : Pt → Array Value → Prop} {Post : Pt → Array Value → Option Value → Pt → Prop} {PostX : Pt → Array Value → Addr → Pt → Prop} (hK : vx_Back l R p e below s args y 3 W9 Pre Post PostX)
    {g : JFrame} (hg : g.method = m) (hsize : g.locals.size = c.maxLocals) {a : Addr} {argsL rest : List Value} (hlen : ∀ sig, parseMethodDescriptor y.desc = some sig → argsL.length = sig.parameters.length)
    (hstack : g.stack = argsL.reverse ++ .ref a :: rest) (hW : 2 * g.monitorRoom + (rest.map fun v => v.category).sum ≤ W9) (hdg : decode c.code g.pc = .ok (.invokespecial index, 3))
    (hpre : ∀ vm₁, s.WarmedH vm₁ → Pre ⟨T.setVm vm₁, locs, cells, slots⟩ (Value.ref a :: argsL).toArray) :
    (∃ (v : Option Value) (vm₁ : Vm) (B : Pt), s.WarmedH vm₁ ∧ Stand p l e R s m args below meth c B.U B.locs B.cells B.slots ∧ Post ⟨T.setVm vm₁, locs, cells, slots⟩ (Value.ref a :: argsL).toArray v B ∧
      ∀ target, Steps p.tables e below (B.U.setTop { g with pc := g.pc + 3, stack := v.toList ++ rest }) target → Steps p.tables e below (T.setTop g) target) ∨
    (∃ (q : Addr) (vm₁ : Vm) (B : Pt), s.WarmedH vm₁ ∧ Stand p l e R s m args below meth c B.U B.locs B.cells B.slots ∧ PostX ⟨T.setVm vm₁, locs, cells, slots⟩ (Value.ref a :: argsL).toArray q B ∧
      Steps p.tables e below (T.setTop g) ((B.U.setTop { g with stack := rest }).pushFrame (.throwing q))) := by
  subst hg
  have hpl : e.platform.magicAccessors = ({} : Platform).magicAccessors := by rw [X.admits.platform]
  obtain ⟨mk, methM, cM, kP, vm₁, hnamed, hmethM, hcodeM, -, hlocalsM, -, hkP, -, hW₁, hstep₁⟩ := Steps.initColdArgs (e := e) X.here hexec X.warmed hpl hown hy1 hy hlink hinst hcode (f := g) rfl hlen hstack hdg
  have X₁ := X.noted hW₁
  rcases hK g.method meth c ⟨T.setVm vm₁, locs, cells, slots⟩ { g with stack := rest } (.invokespecial index) mk (Value.ref a :: argsL).toArray X₁ rfl hsize hdg hW (X₁.named hnamed) (hpre vm₁ X₁.warmed) with ⟨v, B, X', hpost, hsteps⟩ | ⟨q, B, X', hpost, hsteps⟩
  · exact Or.inl ⟨v, vm₁, B, X₁.warmed, X', hpost, fun target h => hstep₁ _ fun acts => by rw [doInvoke_state]; exact hsteps.trans h⟩
  · exact Or.inr ⟨q, vm₁, B, X₁.warmed, X', hpost, hstep₁ _ fun acts => by rw [doInvoke_state]; exact hsteps⟩
end VXIA
section VXIB
variable {p : Program} {l : Launch} {e : Env} {R : Room} {s : State} {m : MethodId} {args : Array Value} {below : List Frame} {meth : Method} {c : Code} {H : Heap} {locs : List Loc} {cells slots : Nat}
variable {y : MethodName} {bytes cc : ByteArray} {maxL nL mc ms n index : Nat} {ret : Option FieldType} {ws : List Cond} {rm : Room} {Pc : Array Value → State → Prop} {Qc : Array Value → State → Outcome → State → Prop} {XC : String → State → State → Prop} {free : Addr → Prop} {Ts : List Cond} {own C : String} {b : Addr} {As rest : List Value} {g : JFrame}
theorem vx_runI (S : CallFix p m c cc nL s args Ts own) (hM : vx_Met l y ws rm Pc Qc XC mc ms free) (cw : CallB R s args own index y bytes maxL none ws rm mc ms n ∧ y.name = "<init>" ∧ (Cond.instanceMethod y).before args s = true) (hp : PreS s H Pc (.ref b :: As))
    (hg : g.method = m) (hn : As.length = n) (hsize : g.locals.size = nL) (hstack : g.stack = As.reverse ++ .ref b :: rest) (hW : 2 * g.monitorRoom + (rest.map fun v => v.category).sum ≤ 8) (hdg : decode cc g.pc = .ok (.invokespecial index, 3)) (hf : cells + mc ≤ R.cells ∧ slots + ms ≤ R.slots) :
    vx_Run p l e R s m args below meth c H locs cells slots mc ms g rest (Qc (Value.ref b :: As).toArray) XC free := by
  have hK : vx_Back l R p e below s args y 3 8 (PreOf R mc ms Pc) (PostOf Qc mc ms free) (vx_Post XC mc ms free) := vx_callBack cw.1 hM hp.1
  obtain ⟨⟨-, -, -, -, -, -, hcode, -, hy, hlen, hl⟩, hy1, hin⟩ := cw
  obtain ⟨hx, hb, hml, ho, -⟩ := S
  have hPc := hp.2
  intro T hT X
  rcases vx_callI X hx (bytes := bytes) (maxL := maxL) ho hy1 hl hin hcode hy hK hg (hsize.trans hml.symm) (a := b) (argsL := As) (rest := rest) (fun sig h => hn.trans (hlen sig h)) hstack hW (by rw [hb]; exact hdg)
    (fun vm₁ hW₁ => ⟨hf.1, hf.2, hPc (T.setVm vm₁) hT hW₁⟩) with ⟨v, vm₁, ⟨U', l2, c2, s2⟩, hW₁, X', ⟨g', mk, t, L, e1, e2, hq, h1, hL, h2, h3⟩, st⟩ | ⟨q, vm₁, ⟨U', l2, c2, s2⟩, hW₁, X', ⟨g', mk, t, L, E, ce, e1, e2, hq, hce, hcv, hcl, h1, hL, h2, h3⟩, st⟩
  · dsimp only [Pt.U, Pt.locs, Pt.cells, Pt.slots] at X' e1 e2 h1 h2 h3 st
    subst h1; subst h2; subst h3
    exact Or.inl ⟨v, (T.setVm vm₁).calling g' mk (Value.ref b :: As).toArray, t, U', L, hT, X', hL, e1, e2, hq, st⟩
  · dsimp only [Pt.U, Pt.locs, Pt.cells, Pt.slots] at X' e1 e2 h1 h2 h3 st hcl
    subst h1; subst h2; subst h3
    exact Or.inr ⟨q, (T.setVm vm₁).calling g' mk (Value.ref b :: As).toArray, t, U', L, E, ce, hT, X', hL, e1, e2, hq, hce, hcv, vx_cls hW₁ hcl, st⟩
end VXIB
/-! ===== END ===== -/
section ZROW2
variable {t : ZY} {tb : List ExceptionTableEntry} {E : ZE} {G : ZG} {u : Nat} {Q : State → Prop} {M : ZM} {b pc : Nat} {L : List (Option Value)} {S : List Value} {P P' : ZO → ZM → Prop}
/-! ends -/
theorem zq_iret (K : zOK t tb G E) {v : Int32} (hd : decode (zyc t) pc = .ok (.ireturn, 1)) (hr : zyr t = some .int) (h : P (.inl (some (.int v))) M) : WW E G (zyu t) (zQ E G t P) M b pc L [.int v] := by
  obtain ⟨p, e, R, s, m, args, below, meth, c⟩ := E
  intro H locs ls cells slots h1 h2 h3 h4 h5 h6
  refine W.widen (k := zyu t) (n := 64 * zyu t) (by omega) (by omega) ?_
  exact vx_ret (W.iret K.1 K.2.1 (K.2.2.1.trans hr) (fun z hz _ => ⟨_, M, rfl, h, by rw [hz]; exact h1, by rw [hz]; exact h2⟩) h3 hd K.2.2.2.2.2.1)
theorem zq_zret (K : zOK t tb G E) {v : Int32} (hd : decode (zyc t) pc = .ok (.ireturn, 1)) (hr : zyr t = some .boolean) (hv : narrow .boolean (.int v) = .int v) (h : P (.inl (some (.int v))) M) : WW E G (zyu t) (zQ E G t P) M b pc L [.int v] := by
  obtain ⟨p, e, R, s, m, args, below, meth, c⟩ := E
  intro H locs ls cells slots h1 h2 h3 h4 h5 h6
  refine W.widen (k := zyu t) (n := 64 * zyu t) (by omega) (by omega) ?_
  exact vx_ret (W.zret K.1 K.2.1 (K.2.2.1.trans hr) hv (fun z hz _ => ⟨_, M, rfl, h, by rw [hz]; exact h1, by rw [hz]; exact h2⟩) h3 hd K.2.2.2.2.2.1)
theorem zq_aret (K : zOK t tb G E) {v : Value} {C : String} (hd : decode (zyc t) pc = .ok (.areturn, 1)) (hr : zyr t = some (.object C)) (hv : v = .null ∨ ∃ a, v = .ref a) (h : P (.inl (some v)) M) : WW E G (zyu t) (zQ E G t P) M b pc L [v] := by
  obtain ⟨p, e, R, s, m, args, below, meth, c⟩ := E
  intro H locs ls cells slots h1 h2 h3 h4 h5 h6
  refine W.widen (k := zyu t) (n := 64 * zyu t) (by omega) (by omega) ?_
  exact vx_ret (W.aret K.1 K.2.1 (K.2.2.1.trans hr) (Or.inl ⟨C, rfl⟩) hv (fun z hz _ => ⟨_, M, rfl, h, by rw [hz]; exact h1, by rw [hz]; exact h2⟩) h3 hd K.2.2.2.2.2.1)
theorem zq_ret (K : zOK t tb G E) (hd : decode (zyc t) pc = .ok (.return_, 1)) (hr : zyr t = none) (h : P (.inl none) M) : WW E G (zyu t) (zQ E G t P) M b pc L [] := by
  obtain ⟨p, e, R, s, m, args, below, meth, c⟩ := E
  intro H locs ls cells slots h1 h2 h3 h4 h5 h6
  refine W.widen (k := zyu t) (n := 64 * zyu t) (by omega) (by omega) ?_
  exact vx_ret (W.vret K.1 K.2.1 (K.2.2.1.trans hr) (fun z hz _ => ⟨_, M, rfl, h, by rw [hz]; exact h1, by rw [hz]; exact h2⟩) h3 hd K.2.2.2.2.2.1)
theorem zq_objInit (K : zOK t tb G E) {idx a : Nat} (hd : decode (zyc t) pc = .ok (.invokespecial idx, 3)) (hl : Cond.methodLink (zyn t).cls idx Lib.objectInit ∈ zTs) (hi : Cond.instanceMethod Lib.objectInit ∈ zTs) (hc : Cond.code Lib.objectInit ⟨#[0xb1]⟩ 1 none ∈ zTs) (hS : (S.map fun v => v.category).sum ≤ 20) (hh : 1 ≤ zyh t) (k : WW E G u Q M b (pc + 3) L S) : WW E G u Q M b pc L (.ref a :: S) := by
  obtain ⟨p, e, R, s, m, args, below, meth, c⟩ := E
  obtain ⟨k1, k2, k3, k4, k5, k6, k7, k8, k9, k10, k11, k12, k13, -⟩ := K
  exact fun H locs ls cells slots h1 h2 h3 h4 h5 h6 => W.objInit k1 k2 k5 (k7 _ hl) (k7 _ hi) (k7 _ hc) rfl h4.1 rfl hd (by omega) (by show 2 * 0 + _ + 12 ≤ _; omega) (k H locs ls cells slots h1 h2 h3 h4 h5 h6)
/-! a call, seen from behind -/
theorem zrun {p : Program} {e : Env} {R : Room} {s : State} {m : MethodId} {args : Array Value} {below : List Frame} {meth : Method} {c : Code} {H : Heap} {locs : List Loc} {ls : Array Slot} {cells slots n : Nat} {a : Array Value} {st0 : List Value}
    (hr : vx_Run p G.1 e R s m args below meth c H locs cells slots n (64 * n) (F0 m pc ls st0) S (zQc G P' a) (zXC G P') (zfr G)) (h2 : s.heap.size ≤ H.size) (h3 : ∀ q ∈ locs, zfr G q.base) (h4 : zL ls c.maxLocals L) (h5 : cells + b ≤ u) (h6 : slots + 64 * b ≤ 64 * u) (hn : n ≤ b)
    (kr : ∀ (v : Option Value) (M' : ZM), P' (.inl v) M' → WW (p, e, R, s, m, args, below, meth, c) G u Q M' (b - n) (pc + 3) L (v.toList ++ S))
    (kx : ∀ (En : String) (M' : ZM), P' (.inr En) M' → XX (p, e, R, s, m, args, below, meth, c) G u Q M' (b - n) pc L En) :
    W p G.1 e R s m args below meth c H locs cells slots Q (F0 m pc ls st0) := by
  intro T hT X
  have hl : ∀ L9 : List Loc, (∀ q ∈ L9, zfr G q.base) → ∀ q ∈ locs ++ L9, zfr G q.base := fun L9 h9 q hq => by
    rcases List.mem_append.mp hq with h | h
    · exact h3 q h
    · exact h9 q h
  rcases hr T hT X with ⟨v, st₀, t9, T', L9, h0, X', hL, e1, e2, ⟨v', M', hv, hP, hR, hz⟩, st⟩ | ⟨q, st₀, t9, T', L9, En, ce, h0, X', hL, e1, e2, ⟨M', hP, hR, hz⟩, hce, hcv, hcl, st⟩
  · cases hv
    rw [h0] at hz
    obtain ⟨t2, a1, b1⟩ := kr v M' hP T'.heap (locs ++ L9) ls (cells + n) (slots + 64 * n) (by rw [e1]; exact hR) (by rw [e1]; omega) (hl L9 hL) h4 (by omega) (by omega) T' rfl X'
    exact ⟨t2, st t2 a1, b1⟩
  · rw [h0] at hz
    obtain ⟨t2, a1, b1⟩ := kx En M' hP T'.heap (locs ++ L9) ls (cells + n) (slots + 64 * n) S q ce (by rw [e1]; exact hR) (by rw [e1]; omega) (hl L9 hL) h4 (by omega) (by omega) (by rw [e1]; exact hce) hcv hcl T' rfl X'
    exact ⟨t2, st.trans a1, b1⟩
theorem zRel.warmU {M : ZM} {H : Heap} {U : State} (h : zRel G M H) (hU : U.heap = H) : zRel G M U.heap := by rw [hU]; exact h
/-- room and words for a callee -/
theorem zroom {y : ZY} {R : Room} (hh : zyh y + 1 ≤ zyh t) (hl : zyl y + 19 ≤ 36) (h1 : zyh t ≤ R.frames) (h2 : 36 * zyh t ≤ R.locals) : (zrm (zyh y) (zyu y)).frames + 1 ≤ R.frames ∧ 8 + (zyl y + 11) + (zrm (zyh y) (zyu y)).locals ≤ R.locals := by
  unfold zrm
  dsimp only
  omega
theorem zq_callV (K : zOK t tb G E) {y : ZY} {idx ci N n a : Nat} {C : String} {T : u_T} {ty : Nat → FieldType} {As : List Value} {S0 : List Value} (hd : decode (zyc t) pc = .ok (.invokevirtual idx, 3)) (hy : zY y n) (hl : Cond.methodLink (zyn t).cls idx (zyn y) ∈ zTs) (hi : Cond.instanceMethod (zyn y) ∈ zTs) (hs : Cond.selects (zyn y).cls (zyn y) (zyn y) ∈ zTs) (hC : zcl ci C T N ty) (hcy : (zyn y).cls = C) (hh : zyh y + 1 ≤ zyh t) (hn : As.length = n) (hS0 : S0 = As.reverse ++ .ref a :: S) (hSc : (S.map fun v => v.category).sum ≤ 8) (hb : zyu y ≤ b) (ha : zk M a = ci + 1) (hM : zMet G y (.ref a :: As) M P')
    (kr : ∀ (v : Option Value) (M' : ZM), P' (.inl v) M' → WW E G u Q M' (b - zyu y) (pc + 3) L (v.toList ++ S)) (kx : ∀ (En : String) (M' : ZM), P' (.inr En) M' → XX E G u Q M' (b - zyu y) pc L En) (hub : u ≤ zyu t) : WW E G u Q M b pc L S0 := by
  subst hS0
  obtain ⟨p, e, R, s, m, args, below, meth, c⟩ := E
  obtain ⟨k1, k2, k3, k4, k5, k6, k7, k8, k9, k10, k11, k12, k13, k14, k15⟩ := K
  intro H locs ls cells slots h1 h2 h3 h4 h5 h6
  have hG : GoodIn zTs (wsV (zyn t).cls idx C (zyn y) (zcd y :: zTs)) := zgood (fun w hw => by
    rcases List.mem_append.mp hw with h | h
    · simp only [List.mem_cons, List.not_mem_nil, or_false] at h
      rcases h with rfl | rfl | rfl | rfl
      · exact hl
      · exact hi
      · rw [← hcy]; exact hs
      · rw [← hcy]; exact hy.2.1
    · rcases List.mem_cons.mp h with rfl | h
      · exact hy.1
      · exact h)
  exact zrun (vx_runV (b := a) (As := As) (rest := S) ⟨k1, k2, k4, k5, k7⟩ hM (cwV n k7 hG rfl rfl rfl ⟨hcy, hy.2.2.1.1, hy.2.2.1.2, hy.2.2.2.1⟩ (zroom hh hy.2.2.2.2.2 k12 k13))
    ⟨zPc.blind, va_recv k8.1 (zat h1 hC ha) hC.1 (q0 := 0) rfl, fun U hU hW => ⟨rfl, h1.warmU hU, zSt.warm hW k8⟩⟩ rfl hn (h4.1.trans k4) rfl (lv_room hSc) hd ⟨by omega, by omega⟩) h2 h3 h4 h5 h6 hb kr kx
theorem zq_callS (K : zOK t tb G E) {y : ZY} {idx n : Nat} {As : List Value} {S0 : List Value} (hd : decode (zyc t) pc = .ok (.invokestatic idx, 3)) (hy : zY y n) (hl : Cond.methodLink (zyn t).cls idx (zyn y) ∈ zTs) (hs : Cond.static (zyn y) ∈ zTs) (hcy : (zyn y).cls = (zyn t).cls) (hh : zyh y + 1 ≤ zyh t) (hn : As.length = n) (hS0 : S0 = As.reverse ++ S) (hSc : (S.map fun v => v.category).sum ≤ 8) (hb : zyu y ≤ b) (hM : zMet G y As M P')
    (kr : ∀ (v : Option Value) (M' : ZM), P' (.inl v) M' → WW E G u Q M' (b - zyu y) (pc + 3) L (v.toList ++ S)) (kx : ∀ (En : String) (M' : ZM), P' (.inr En) M' → XX E G u Q M' (b - zyu y) pc L En) (hub : u ≤ zyu t) : WW E G u Q M b pc L S0 := by
  subst hS0
  obtain ⟨p, e, R, s, m, args, below, meth, c⟩ := E
  obtain ⟨k1, k2, k3, k4, k5, k6, k7, k8, k9, k10, k11, k12, k13, k14, k15⟩ := K
  intro H locs ls cells slots h1 h2 h3 h4 h5 h6
  have hG : GoodIn zTs (wsS (zyn t).cls idx (zyn y) (zcd y :: zTs)) := zgood (fun w hw => by
    rcases List.mem_append.mp hw with h | h
    · simp only [List.mem_cons, List.not_mem_nil, or_false] at h
      rcases h with rfl | rfl | rfl
      · exact hl
      · exact hs
      · rw [← hcy]; exact hy.2.1
    · rcases List.mem_cons.mp h with rfl | h
      · exact hy.1
      · exact h)
  exact zrun (vx_runS (As := As) (rest := S) ⟨k1, k2, k4, k5, k7⟩ hM (cwS n k7 hG rfl rfl rfl ⟨hcy, hy.2.2.1.1, hy.2.2.1.2, hy.2.2.2.1⟩ (zroom hh hy.2.2.2.2.2 k12 k13))
    ⟨zPc.blind, fun U hU hW => ⟨rfl, h1.warmU hU, zSt.warm hW k8⟩⟩ rfl hn (h4.1.trans k4) rfl (lv_room hSc) hd ⟨by omega, by omega⟩) h2 h3 h4 h5 h6 hb kr kx
theorem zq_callI (K : zOK t tb G E) {y : ZY} {idx n a : Nat} {As : List Value} {S0 : List Value} (hd : decode (zyc t) pc = .ok (.invokespecial idx, 3)) (hy : zY y n) (hr : zyr y = none) (hnm : (zyn y).name = "<init>") (hl : Cond.methodLink (zyn t).cls idx (zyn y) ∈ zTs) (hi : Cond.instanceMethod (zyn y) ∈ zTs) (hh : zyh y + 1 ≤ zyh t) (hn : As.length = n) (hS0 : S0 = As.reverse ++ .ref a :: S) (hSc : (S.map fun v => v.category).sum ≤ 8) (hb : zyu y ≤ b) (hM : zMet G y (.ref a :: As) M P')
    (kr : ∀ (v : Option Value) (M' : ZM), P' (.inl v) M' → WW E G u Q M' (b - zyu y) (pc + 3) L (v.toList ++ S)) (kx : ∀ (En : String) (M' : ZM), P' (.inr En) M' → XX E G u Q M' (b - zyu y) pc L En) (hub : u ≤ zyu t) : WW E G u Q M b pc L S0 := by
  subst hS0
  obtain ⟨p, e, R, s, m, args, below, meth, c⟩ := E
  obtain ⟨k1, k2, k3, k4, k5, k6, k7, k8, k9, k10, k11, k12, k13, k14, k15⟩ := K
  intro H locs ls cells slots h1 h2 h3 h4 h5 h6
  have hG : GoodIn zTs (zcd y :: zTs) := zgood (fun w hw => by
    rcases List.mem_cons.mp hw with rfl | h
    · exact hy.1
    · exact h)
  have hcd : zcd y = Cond.code (zyn y) (zyc y) (zyl y) none := by rw [← hr]
  exact zrun (vx_runI (b := a) (As := As) (rest := S) ⟨k1, k2, k4, k5, k7⟩ hM (cwI n k7 hG (by rw [hcd]) rfl rfl (k7 _ hy.2.1) (k7 _ hl) (k7 _ hi) hnm ⟨hy.2.2.1.1, hy.2.2.1.2, hy.2.2.2.1⟩ (zroom hh hy.2.2.2.2.2 k12 k13))
    ⟨zPc.blind, fun U hU hW => ⟨rfl, h1.warmU hU, zSt.warm hW k8⟩⟩ rfl hn (h4.1.trans k4) rfl (lv_room hSc) hd ⟨by omega, by omega⟩) h2 h3 h4 h5 h6 hb kr kx
/-- not caught here -/
theorem zx_out (K : zOK t [] G E) {En : String} (h : P (.inr En) M) : XX E G (zyu t) (zQ E G t P) M b pc L En := by
  obtain ⟨p, e, R, s, m, args, below, meth, c⟩ := E
  obtain ⟨k1, k2, k3, k4, k5, k6, k7, k8, k9, k10, k11, k12, k13, k14, k15⟩ := K
  intro H locs ls cells slots rest q ce h1 h2 h3 h4 h5 h6 h7 h8 h9
  exact vx_out (fun x hx => by rw [k10] at hx; cases hx) k6 h7 h8 h9 (fun z hz _ => ⟨M, h, by rw [hz]; exact h1, by rw [hz]; exact h2⟩) h3 (by omega) (by omega)
/-! calls with a definite end -/
theorem zone_r {v : Option Value} {M1 : ZM} {n : Nat} (k : WW E G u Q M1 n (pc + 3) L (v.toList ++ S)) : ∀ (v' : Option Value) (M' : ZM), zone v M1 (.inl v') M' → WW E G u Q M' n (pc + 3) L (v'.toList ++ S) := by
  rintro v' M' ⟨h1, rfl⟩
  cases h1
  exact k
theorem zone_x {v : Option Value} {M1 : ZM} {n : Nat} : ∀ (En : String) (M' : ZM), zone v M1 (.inr En) M' → XX E G u Q M' n pc L En := by
  rintro En M' ⟨h1, -⟩
  cases h1
theorem zthr_r {X : String} {M1 : ZM} {n : Nat} : ∀ (v' : Option Value) (M' : ZM), zthr X M1 (.inl v') M' → WW E G u Q M' n (pc + 3) L (v'.toList ++ S) := by
  rintro v' M' ⟨h1, -⟩
  cases h1
theorem zthr_x {X : String} {M1 : ZM} {n : Nat} (k : XX E G u Q M1 n pc L X) : ∀ (En : String) (M' : ZM), zthr X M1 (.inr En) M' → XX E G u Q M' n pc L En := by
  rintro En M' ⟨h1, rfl⟩
  cases h1
  exact k
/-- it may use less room than it has -/
theorem WW.less {b' : Nat} (h : b' ≤ b) (k : WW E G u Q M b' pc L S) : WW E G u Q M b pc L S := by
  obtain ⟨p, e, R, s, m, args, below, meth, c⟩ := E
  exact fun H locs ls cells slots h1 h2 h3 h4 h5 h6 => k H locs ls cells slots h1 h2 h3 h4 (by omega) (by omega)
end ZROW2
end
section
section ZROW3
variable {t : ZY} {tb : List ExceptionTableEntry} {E : ZE} {G : ZG} {u : Nat} {Q : State → Prop} {M : ZM} {b pc : Nat} {L : List (Option Value)} {S : List Value} {P P' : ZO → ZM → Prop}
/-! throw new X("text") -/
def zNm : List String := ["java/lang/RuntimeException", "java/lang/Exception"]
/-- the words of a throw of X by the constructor's number ic: in the tables, or the one that says X of X -/
def zTh (own : String) (ik ic : Nat) (X : String) : Prop := X ∈ zExc ∧ Cond.classLink own ik X ∈ zTs ∧ Cond.initialized X ∈ zTs ∧ (∀ w ∈ vx_atS own ic X zNm, w ∈ zTs ∨ w = .castable X X ∨ ∃ F ∈ zDecl, w = .declares ⟨F, "<init>", "(Ljava/lang/String;)V"⟩) ∧ Bundle.fit X = true ∧ (∀ w ∈ Cond.classLink own ik X :: Cond.initialized X :: vx_atS own ic X zNm, vx_ot w = true)
theorem zq_throw (K : zOK t [] G E) {ik is ic : Nat} {X text : String} (hT : zTh (zyn t).cls ik ic X) (hx : ((zyn t).cls, is, text) ∈ zTx) (d0 : decode (zyc t) pc = .ok (.new ik, 3)) (d3 : decode (zyc t) (pc + 3) = .ok (.dup, 1)) (d4 : decode (zyc t) (pc + 4) = .ok (.ldc is, 2)) (d6 : decode (zyc t) (pc + 6) = .ok (.invokespecial ic, 3)) (d9 : decode (zyc t) (pc + 9) = .ok (.athrow, 1)) (hh : 6 ≤ zyh t) (hS : (S.map fun v => v.category).sum ≤ 8) (hb : 1 ≤ b) (h : P (.inr X) M) : WW E G (zyu t) (zQ E G t P) M b pc L S := by
  obtain ⟨p, e, R, s, m, args, below, meth, c⟩ := E
  obtain ⟨k1, k2, k3, k4, k5, k6, k7, k8, k9, k10, k11, k12, k13, k14, k15⟩ := K
  obtain ⟨t1, t2, t3, t4, t5, t6⟩ := hT
  intro H locs ls cells slots h1 h2 h3 h4 h5 h6
  obtain ⟨sa, hsa⟩ := k8.2.2.2.1 _ hx
  have hB : ∀ q : Nat, q < s.heap.size → ¬ zfr G q → H[q]? = s.heap[q]? := fun q _ hq => by
    have hq' : q < G.2.2.2.size := Nat.not_le.mp hq
    rw [h1.2.1 q hq', k9.2 q hq']
  have hk : ∀ q : Nat, q < G.2.2.2.size → ¬ zfr G q → s.heap[q]? = G.2.2.2[q]? := fun q h _ => k9.2 q h
  refine vx_throwS (A := zfr G) (names := zNm) (sa := sa) k1 k2 k8.2.2.2.2.2.2.2.2.2.1 k5 t5 (by decide +kernel) (k7 _ t2) (k7 _ t3) hsa (fun w hw => ?_) t6 (k8.2.1.kept hk) (k8.2.2.1.kept hk) ⟨h2, hB, h3⟩ h4.1 d0 d3 d4 d6 d9 (fun x hx => by rw [k10] at hx; cases hx) (by show 5 < _; omega) (by show _ + (13 * 3 + 43) ≤ _; omega) (by omega) (by omega) k6 (fun z _ hz ho => ⟨M, h, h1.grow hz ho, by omega⟩) h3 (by omega) (by omega)
  rcases t4 w hw with h | h | ⟨F, hF, h⟩
  · exact k7 _ h
  · rw [h]
    exact (k8.2.2.2.2.1 X t1).use rfl
  · rw [h]
    exact (k8.2.2.2.2.2.2.2.2.2.2.1 F hF).use rfl
/-! caught here -/
theorem zx_catch (K : zOK t tb G E) {En : String} (pre : List ExceptionTableEntry) (x : ExceptionTableEntry) (suf : List ExceptionTableEntry) (hsplit : tb = pre ++ x :: suf) (hE : En ∈ zExc) (hpass : ∀ z ∈ pre, z.catchType ≠ 0 ∧ ∃ nm : String, nm ∈ zExc ∧ En ≠ nm ∧ Cond.classLink (zyn t).cls z.catchType nm ∈ zTs) (hx : covers x pc = true) (h0 : x.catchType ≠ 0) (hl : Cond.classLink (zyn t).cls x.catchType En ∈ zTs) (kk : ∀ q, WW E G u Q M b x.handlerPc L [.ref q]) : XX E G u Q M b pc L En := by
  obtain ⟨p, e, R, s, m, args, below, meth, c⟩ := E
  obtain ⟨k1, k2, k3, k4, k5, k6, k7, k8, k9, k10, k11, k12, k13, k14, k15⟩ := K
  intro H locs ls cells slots rest q ce h1 h2 h3 h4 h5 h6 h7 h8 h9
  exact vx_catch k5 pre x suf (k10.trans hsplit) (fun z hz => by
    obtain ⟨z1, nm, z2, z3, z4⟩ := hpass z hz
    exact Or.inr ⟨z1, nm, k7 _ z4, k8.2.2.2.2.2.1 En hE nm z2 z3⟩) hx h0 (k7 _ hl) ((k8.2.2.2.2.1 En hE).use rfl) h7 h8 h9 (kk q H locs ls cells slots h1 h2 h3 h4 h5 h6)
/-! a new object -/
theorem zq_new (K : zOK t tb G E) {idx ci N : Nat} {C : String} {T : u_T} {ty : Nat → FieldType} (hd : decode (zyc t) pc = .ok (.new idx, 3)) (hC : zcl ci C T N ty) (hl : Cond.classLink (zyn t).cls idx C ∈ zTs) (hty : ∀ k, k < N → defaultValue (ty k) = if zfi ci k = true then .int 0 else .null) (hN : N ≤ 64) (hb : 1 ≤ b) (hu : u ≤ zyu t) (kk : ∀ a, zk M a = 0 → WW E G u Q (zw M a (ci + 1) 0) (b - 1) (pc + 3) L (.ref a :: S)) : WW E G u Q M b pc L S := by
  obtain ⟨p, e, R, s, m, args, below, meth, c⟩ := E
  obtain ⟨k1, k2, k3, k4, k5, k6, k7, k8, k9, k10, k11, k12, k13, k14, k15⟩ := K
  intro H locs ls cells slots h1 h2 h3 h4 h5 h6
  have hKn := k8.1.1 ci _ hC.1
  refine W.newcK k1 k2 k5 (k7 _ hl) (k7 _ hC.2.2.2.2.2.2.1) (k7 _ hC.2.2.2.2.2.2.2) rfl hd (by omega) (by omega) hKn.2.1 rfl fun H1 kC hkC e1 z1 o1 => ?_
  refine W.widen (k := cells + 1) (n := slots + 64) (by omega) (by omega) ?_
  refine kk H.size (h1.fresh (Nat.le_refl _)) H1 locs ls (cells + 1) (slots + 64) (h1.new z1 rfl o1 ?_) (by omega) h3 h4 (by omega) (by omega)
  rw [zE_o (ci := ci) (by rw [zk_w, if_pos rfl]) hC.2.1, hC.2.2.1]
  refine ⟨_, hC.1, (u_born ty k7 hC.2.2.2.1 hKn hkC e1 hC.2.2.2.2.1).to (fun j hj => ?_)⟩
  show defaultValue (ty j) = vp_V _ j
  unfold vp_V
  rw [List.getD_eq_getElem?_getD, zfs_get hj, hty j hj, Option.getD_some]
  unfold zfv
  rw [zi_w, if_pos rfl, zr_w, if_pos rfl]
  rfl
/-! new rows of numbers -/
theorem zty_name {c0 : Nat → ClassId} {s : State} {D : va_G} {j : Nat} {ty : FieldType} (h : va_K D vwCl (zTy c0) s) (hj : (zTy c0)[j]? = some (c0 j, ty)) (ho : ∀ C, ty ≠ .object C) : s.vm.findClass ("[" ++ ty.toString) = some (c0 j) := by
  have h1 := (h.2 j _ hj).2
  cases ty <;> first | exact h1 | exact absurd rfl (ho _)
theorem zq_newarr (K : zOK t tb G E) {atype : ArrayType} {ty : FieldType} {x : Int32} (j n : Nat) (hd : decode (zyc t) pc = .ok (.newarray atype, 2)) (hty : newarray.typeOf atype = ty) (hj : (zTy G.2.2.1)[j]? = some (G.2.2.1 j, ty)) (h3j : j < 3) (ho : ∀ C, ty ≠ .object C) (hw : Cond.arrayClass ty ∈ zTs) (hx : x = nI n) (hn : n ≤ 65536) (hdv : ∀ (c0 : ClassId) (M : ZM) (a : Nat), vp_cell c0 (zct (zw M a (j + 5) n) a (j + 5)) = arrV c0 n (fun _ => defaultValue ty)) (k : Nat) (hb : 1 ≤ k ∧ n ≤ 64 * k ∧ k ≤ b) (hu : u ≤ zyu t) (hcb : componentBytes ty ≤ 8) (kk : ∀ a, zk M a = 0 → WW E G u Q (zw M a (j + 5) n) (b - k) (pc + 2) L (.ref a :: S)) : WW E G u Q M b pc L (.int x :: S) := by
  subst hx; subst hty
  obtain ⟨p, e, R, s, m, args, below, meth, c⟩ := E
  obtain ⟨k1, k2, k3, k4, k5, k6, k7, k8, k9, k10, k11, k12, k13, k14, k15⟩ := K
  intro H locs ls cells slots h1 h2 h3 h4 h5 h6
  have e0 : (nI n).toNatClampNeg = n := nI_clamp (by omega)
  refine va_newaK k1 k2 (k7 _ hw) rfl hd rfl (nI_pos (by omega)) e0 (by have := Nat.mul_le_mul hn hcb; omega) (by omega) (by omega) rfl fun H1 cA e1 z1 o1 hAr hNm => ?_
  have hcA : cA = G.2.2.1 j := Option.some.inj (hNm.symm.trans (zty_name k8.1 hj ho))
  subst hcA
  refine W.widen (k := cells + k) (n := slots + 64 * k) (by omega) (by omega) ?_
  refine kk H.size (h1.fresh (Nat.le_refl _)) H1 locs ls (cells + k) (slots + 64 * k) (h1.new z1 rfl o1 ?_) (by omega) h3 h4 (by omega) (by omega)
  rw [zE_a (k := j + 5) (by rw [zk_w, if_pos rfl]) (by omega)]
  show H1[H.size]? = some (vp_cell _ _)
  rw [hdv, Nat.add_sub_cancel]
  exact e1
/-! a new row of objects -/
theorem zq_anew (K : zOK t tb G E) {idx : Nat} {C : String} {x : Int32} (j n : Nat) (hd : decode (zyc t) pc = .ok (.anewarray idx, 3)) (hj : (zTy G.2.2.1)[j]? = some (G.2.2.1 j, .object C)) (h3j : 3 ≤ j) (hao : ∀ s, zSt G s → va_AO C s) (hl : Cond.classLink (zyn t).cls idx C ∈ zTs) (hx : x = nI n) (hn : n ≤ 64) (hb : 1 ≤ b) (hu : u ≤ zyu t) (kk : ∀ a, zk M a = 0 → WW E G u Q (zw M a (j + 5) n) (b - 1) (pc + 3) L (.ref a :: S)) : WW E G u Q M b pc L (.int x :: S) := by
  subst hx
  obtain ⟨p, e, R, s, m, args, below, meth, c⟩ := E
  obtain ⟨k1, k2, k3, k4, k5, k6, k7, k8, k9, k10, k11, k12, k13, k14, k15⟩ := K
  intro H locs ls cells slots h1 h2 h3 h4 h5 h6
  have e0 : (nI n).toNatClampNeg = n := nI_clamp (by omega)
  refine W.anew k1 k2 k5 (k7 _ hl) (va_AO.use (hao s k8)) rfl hd rfl (nI_pos (by omega)) (by omega) (by omega) (by omega) fun cA kA comp f1 f2 f3 f4 => ?_
  obtain ⟨kA2, comp2, g1, g2, g3, g4⟩ := (k8.1.2 j _ hj).2
  have hcA : cA = G.2.2.1 j := Option.some.inj (f1.symm.trans g4)
  subst hcA
  rw [e0]
  generalize hH1 : H.push ({ cls := G.2.2.1 j, slots := Array.replicate n .null, vm := .none } : Cell) = H1
  have z1 : H1.size = H.size + 1 := by rw [← hH1, Array.size_push]
  have e1 : H1[H.size]? = some (arrV (G.2.2.1 j) n (fun _ => .null)) := by rw [← hH1, Array.getElem?_push_size, ← arrV_new]
  have o1 : ∀ q : Nat, q < H.size → H1[q]? = H[q]? := fun q hq => by rw [← hH1, Array.getElem?_push, if_neg (Nat.ne_of_lt hq)]
  refine W.widen (k := cells + 1) (n := slots + 64) (by omega) (by omega) ?_
  refine kk H.size (h1.fresh (Nat.le_refl _)) H1 locs ls (cells + 1) (slots + 64) (h1.new z1 rfl o1 ?_) (by omega) h3 h4 (by omega) (by omega)
  rw [zE_a (k := j + 5) (by rw [zk_w, if_pos rfl]) (by omega)]
  show H1[H.size]? = some (vp_cell _ _)
  rw [zct_r (by omega), Nat.add_sub_cancel, zn_w, if_pos rfl, e1]
  congr 2
  funext q
  rw [zr_w, if_pos rfl]
  rfl
/-- the memory with new int[4][k] at q, its rows at r -/
def zmn (M : ZM) (q : Nat) (r : Nat → Nat) (k : Nat) : ZM := zsr (zsr (zsr (zsr (zw (zw (zw (zw (zw M q 10 4) (r 0) 5 k) (r 1) 5 k) (r 2) 5 k) (r 3) 5 k) q 0 (some (r 0))) q 1 (some (r 1))) q 2 (some (r 2))) q 3 (some (r 3))
end ZROW3
end
section
section ZROW4
variable {t : ZY} {tb : List ExceptionTableEntry} {E : ZE} {G : ZG} {u : Nat} {Q : State → Prop} {M : ZM} {b pc : Nat} {L : List (Option Value)} {S : List Value} {P P' : ZO → ZM → Prop}
theorem zRel.more {M' : ZM} {H H' : Heap} (h : zRel G M H) (hz : H.size ≤ H'.size) (ho : ∀ q, q < H.size → H'[q]? = H[q]?) (hc : ∀ a, zk M' a ≠ 0 → (zk M a ≠ 0 ∧ zE G.2.2.1 M' a = zE G.2.2.1 M a) ∨ (H.size ≤ a ∧ va_at G.2.1 vwCl (a, zE G.2.2.1 M' a) H')) : zRel G M' H' := by
  have g := h.grow hz ho
  refine ⟨g.1, g.2.1, fun a ha => ?_⟩
  rcases hc a ha with ⟨h1, h2⟩ | ⟨h1, h2⟩
  · rw [h2]
    exact g.2.2 a h1
  · exact ⟨Nat.le_trans h.1 h1, h2⟩
theorem zmn_k {q : Nat} {r : Nat → Nat} {k : Nat} (b : Nat) : zk (zmn M q r k) b = if b = r 3 then 5 else if b = r 2 then 5 else if b = r 1 then 5 else if b = r 0 then 5 else if b = q then 10 else zk M b := by
  unfold zmn
  simp only [zk_r, zk_w]
theorem zmn_n {q : Nat} {r : Nat → Nat} {k : Nat} (b : Nat) : zn (zmn M q r k) b = if b = r 3 then k else if b = r 2 then k else if b = r 1 then k else if b = r 0 then k else if b = q then 4 else zn M b := by
  unfold zmn
  simp only [zn_r, zn_w]
theorem zmn_i {q : Nat} {r : Nat → Nat} {k : Nat} (b j : Nat) : zi (zmn M q r k) b j = if b = r 3 then 0 else if b = r 2 then 0 else if b = r 1 then 0 else if b = r 0 then 0 else if b = q then 0 else zi M b j := by
  unfold zmn
  simp only [zi_r, zi_w]
theorem zmn_j {q : Nat} {r : Nat → Nat} {k : Nat} (b j : Nat) : zj (zmn M q r k) b j = if b = r 3 then 0 else if b = r 2 then 0 else if b = r 1 then 0 else if b = r 0 then 0 else if b = q then 0 else zj M b j := by
  unfold zmn
  simp only [zj_r, zj_w]
theorem zmn_r {q : Nat} {r : Nat → Nat} {k : Nat} (b j : Nat) : zr (zmn M q r k) b j = if b = q ∧ j = 3 then some (r 3) else if b = q ∧ j = 2 then some (r 2) else if b = q ∧ j = 1 then some (r 1) else if b = q ∧ j = 0 then some (r 0) else if b = r 3 then none else if b = r 2 then none else if b = r 1 then none else if b = r 0 then none else if b = q then none else zr M b j := by
  unfold zmn
  simp only [zr_r, zr_w]
theorem zmn_o {c0 : Nat → ClassId} {q : Nat} {r : Nat → Nat} {k b : Nat} (hq : b ≠ q) (hr : ∀ i, i < 4 → b ≠ r i) : zE c0 (zmn M q r k) b = zE c0 M b := by
  have r0 := hr 0 (by omega)
  have r1 := hr 1 (by omega)
  have r2 := hr 2 (by omega)
  have r3 := hr 3 (by omega)
  have h1 : zk (zmn M q r k) b = zk M b := by rw [zmn_k]; simp only [r0, r1, r2, r3, hq, if_false]
  have h2 : zn (zmn M q r k) b = zn M b := by rw [zmn_n]; simp only [r0, r1, r2, r3, hq, if_false]
  have h3 : zi (zmn M q r k) b = zi M b := funext fun j => by rw [zmn_i]; simp only [r0, r1, r2, r3, hq, if_false]
  have h4 : zr (zmn M q r k) b = zr M b := funext fun j => by rw [zmn_r]; simp only [r0, r1, r2, r3, hq, false_and, if_false]
  have h5 : zj (zmn M q r k) b = zj M b := funext fun j => by rw [zmn_j]; simp only [r0, r1, r2, r3, hq, if_false]
  unfold zE zct zfs zfv
  rw [h1, h2, h3, h4, h5]
theorem zq_mna (K : zOK t tb G E) {idx : Nat} {x y : Int32} (n : Nat) (hd : decode (zyc t) pc = .ok (.multianewarray idx 2, 4)) (hl : Cond.classLink (zyn t).cls idx ("[" ++ (FieldType.array .int).toString) ∈ zTs) (hw : Cond.arrayClass .int ∈ zTs) (hx : x = nI n) (hy : y = nI 4) (hn : n ≤ 64) (hb : 5 ≤ b) (hu : u ≤ zyu t)
    (kk : ∀ (q : Nat) (r : Nat → Nat), zk M q = 0 → (∀ i, i < 4 → zk M (r i) = 0 ∧ r i ≠ q) → (∀ i j, i < 4 → j < 4 → r i = r j → i = j) → WW E G u Q (zmn M q r n) (b - 5) (pc + 4) L (.ref q :: S)) : WW E G u Q M b pc L (.int x :: .int y :: S) := by
  subst hx; subst hy
  obtain ⟨p, e, R, s, m, args, below, meth, c⟩ := E
  obtain ⟨k1, k2, k3, k4, k5, k6, k7, k8, k9, k10, k11, k12, k13, k14, k15⟩ := K
  intro H locs ls cells slots h1 h2 h3 h4 h5 h6
  have e0 : (nI n).toNatClampNeg = n := nI_clamp (by omega)
  have e4 : (nI 4).toNatClampNeg = 4 := nI_clamp (by omega)
  intro T hT Xs
  obtain ⟨vm₁, cA, comp, -, fA, fC, hO, -, X', step⟩ := Xs.multianewarray2F k1 k5 (k7 _ hl) (show (Cond.arrayOver (.array .int)).before args s = true from k8.2.2.2.2.2.2.2.2.1) (k7 _ hw) (g := F0 m pc ls (.int (nI n) :: .int (nI 4) :: S)) rfl (by rw [k2]; exact hd) rfl (nI_pos (by omega)) (nI_pos (by omega)) (by rw [e4]; decide) (by rw [e0]; show n * 4 ≤ _; omega) (by rw [e0]; omega) rfl rfl (by rw [e4]; omega) (by rw [e0, e4]; omega)
  have hcA : cA = G.2.2.1 5 := Option.some.inj (fA.symm.trans (zty_name k8.1 (j := 5) rfl (fun C h => by cases h)))
  have hcI : comp = G.2.2.1 0 := Option.some.inj (fC.symm.trans (zty_name k8.1 (j := 0) rfl (fun C h => by cases h)))
  subst hcA; subst hcI
  rw [e0, e4] at X' step
  generalize hF : Jvm.Free.Multi.fill (T.setVm vm₁) (G.2.2.1 5) (G.2.2.1 0) 4 n (defaultValue .int) 4 = F at X' step
  have hTh : (T.setVm vm₁).heap = H := hT
  obtain ⟨f1, f2, -, -⟩ := Jvm.Free.Multi.fill_facts (T.setVm vm₁) (G.2.2.1 5) (G.2.2.1 0) 4 n (defaultValue .int) 4
  rw [hF, hTh] at f1 f2
  have hold : ∀ x : Nat, x < H.size → F.heap[x]? = H[x]? := fun x hx => by
    have := Jvm.Free.Multi.fill_old (T.setVm vm₁) (G.2.2.1 5) (G.2.2.1 0) 4 n (defaultValue .int) (a := x) (by rw [hTh]; exact hx) 4
    rw [hF, hTh] at this
    exact this
  have hrow : ∀ j : Nat, j < 4 → F.heap[H.size + 1 + j]? = some (Jvm.Free.Multi.innerC (G.2.2.1 0) n (defaultValue .int)) := fun j hj => by
    have := Jvm.Free.Multi.fill_inner (T.setVm vm₁) (G.2.2.1 5) (G.2.2.1 0) 4 n (defaultValue .int) 4 j hj
    rw [hF, hTh] at this
    exact this
  rw [vr_outer] at f2
  have hfr : ∀ a, H.size ≤ a → zk M a = 0 := fun a ha => h1.fresh ha
  have hkq : zk (zmn M H.size (fun i => H.size + 1 + i) n) H.size = 10 := by
    rw [zmn_k]
    simp only [if_pos]
    rw [if_neg (by omega), if_neg (by omega), if_neg (by omega), if_neg (by omega)]
  have hkr : ∀ i, i < 4 → zk (zmn M H.size (fun i => H.size + 1 + i) n) (H.size + 1 + i) = 5 := fun i hi => by
    rw [zmn_k]
    have : i = 0 ∨ i = 1 ∨ i = 2 ∨ i = 3 := by omega
    rcases this with rfl | rfl | rfl | rfl <;> simp
  have hR : zRel G (zmn M H.size (fun i => H.size + 1 + i) n) F.heap := by
    refine h1.more (by rw [f1]; omega) hold (fun a ha => ?_)
    by_cases hq : a = H.size
    · subst hq
      refine Or.inr ⟨Nat.le_refl _, ?_⟩
      rw [zE_a (k := 10) hkq (by omega)]
      show F.heap[H.size]? = some (vp_cell _ _)
      rw [zct_r (by omega), f2]
      congr 1
      have hn4 : zn (zmn M H.size (fun i => H.size + 1 + i) n) H.size = 4 := by
        rw [zmn_n]
        rw [if_neg (by omega), if_neg (by omega), if_neg (by omega), if_neg (by omega), if_pos rfl]
      rw [hn4]
      refine congrArg (arrV _ 4) (funext fun j => ?_)
      rw [zmn_r]
      by_cases j3 : j = 3
      · subst j3; simp
      · by_cases j2 : j = 2
        · subst j2; simp
        · by_cases j1 : j = 1
          · subst j1; simp
          · by_cases j0 : j = 0
            · subst j0; simp
            · rw [if_neg (by omega), if_neg (fun z => j3 z.2), if_neg (fun z => j2 z.2), if_neg (fun z => j1 z.2), if_neg (fun z => j0 z.2)]
              simp
    · by_cases hr : H.size + 1 ≤ a ∧ a < H.size + 5
      · refine Or.inr ⟨by omega, ?_⟩
        obtain ⟨i, hi, rfl⟩ : ∃ i, i < 4 ∧ a = H.size + 1 + i := ⟨a - (H.size + 1), by omega, by omega⟩
        rw [zE_a (k := 5) (hkr i hi) (by omega)]
        show F.heap[H.size + 1 + i]? = some (vp_cell _ _)
        rw [zct_i (Or.inl rfl), hrow i hi]
        have hnn : zn (zmn M H.size (fun i => H.size + 1 + i) n) (H.size + 1 + i) = n := by
          rw [zmn_n]
          have : i = 0 ∨ i = 1 ∨ i = 2 ∨ i = 3 := by omega
          rcases this with rfl | rfl | rfl | rfl <;> simp
        have hii : ∀ j, zi (zmn M H.size (fun i => H.size + 1 + i) n) (H.size + 1 + i) j = 0 := fun j => by
          rw [zmn_i]
          have : i = 0 ∨ i = 1 ∨ i = 2 ∨ i = 3 := by omega
          rcases this with rfl | rfl | rfl | rfl <;> simp
        rw [hnn]
        simp only [hii]
        unfold Jvm.Free.Multi.innerC
        rw [arrV_new]
        rfl
      · have hne : ∀ i, i < 4 → a ≠ (fun i => H.size + 1 + i) i := fun i hi h => by
          have h9 : a = H.size + 1 + i := h
          omega
        have hE := zmn_o (M := M) (c0 := G.2.2.1) (k := n) hq hne
        refine Or.inl ⟨?_, hE⟩
        rw [zmn_k, if_neg (hne 3 (by omega)), if_neg (hne 2 (by omega)), if_neg (hne 1 (by omega)), if_neg (hne 0 (by omega)), if_neg hq] at ha
        exact ha
  have X2 := stand_widen (k := cells + 5) (n := slots + 320) X' (by omega) (by omega)
  obtain ⟨t2, a1, b1⟩ := kk H.size (fun i => H.size + 1 + i) (hfr _ (Nat.le_refl _)) (fun i _ => ⟨hfr _ (by omega), by omega⟩) (fun i j _ _ h => by have h9 : H.size + 1 + i = H.size + 1 + j := h; omega) F.heap locs ls (cells + 5) (slots + 320) hR (by rw [f1]; omega) h3 h4 (by omega) (by omega) F rfl X2
  refine ⟨t2, step t2 ?_, b1⟩
  have e : T.heap.size = H.size := by rw [hT]
  rw [e]
  exact a1
/-! methods with a table of handlers: bodies, calls -/
abbrev zMetW (G : ZG) (hh : List (Nat × Nat × Nat × Nat)) (t : ZY) (As : List Value) (M : ZM) (P : ZO → ZM → Prop) : Prop := zMetC G (zcdW t hh) t As M P
def zYW (t : ZY) (hh : List (Nat × Nat × Nat × Nat)) (n : Nat) : Prop := zcdW t hh ∈ zTs ∧ Cond.initialized (zyn t).cls ∈ zTs ∧ ((zyn t).cls ≠ "java/lang/invoke/MethodHandle" ∧ (zyn t).cls ≠ "java/lang/invoke/VarHandle") ∧ (parseMethodDescriptor (zyn t).desc).map (fun d => d.parameters.length) = some n ∧ plainName (zyn t).cls = true ∧ zyl t + 19 ≤ 36
theorem zbodyW {hh : List (Nat × Nat × Nat × Nat)} {n : Nat} {As : List Value} (hy : zYW t hh n) (L : List (Option Value)) (hL : As.map some ++ List.replicate (zyl t - As.length) none = L) (hlen : As.length ≤ zyl t) (hc : ∀ v ∈ As, v.category = 1)
    (body : ∀ E : ZE, zOK t (tableOf hh) G E → WW E G (zyu t) (zQ E G t P) M (zyu t) 0 L []) : zMetW G hh t As M P := by
  refine vx_ofWH (cc := zyc t) (maxL := zyl t) (ret := zyr t) (hh := hh) hy.2.2.2.2.1 rfl ?_
  intro p e s m args below meth c s₁ B hml hv
  obtain ⟨rfl, hrel, hst⟩ := hv
  have hts := atoms_spec (ws := zcdW t hh :: zTs) B.pre
  have hown : s.vm.findClass (zyn t).cls = some m.cls := findClass_of_methodNamed B.named
  have htb : c.exceptionTable.toList = tableOf hh := vx_table (x := zyn t) B (hts _ List.mem_cons_self)
  have K := body (p, e, zrm (zyh t) (zyu t), s, m, As.toArray, below, meth, c) ⟨B.exec, B.bytes, B.returns, hml, hown, B.notSynchronized, fun w hw => hts w (List.mem_cons_of_mem _ hw), hst, ⟨hrel.1, hrel.2.1⟩, htb, (name_of_methodNamed B.named B.method).1, Nat.le_refl _, Nat.le_refl _, Nat.le_refl _, Nat.le_refl _⟩
  rw [lg_entry_eq]
  exact K s.heap [] _ 0 0 hrel (Nat.le_refl _) (fun q hq => nomatch hq) (by rw [← hL, hml]; exact zL_entry hc hlen) (by omega) (by omega)
theorem zq_callW (K : zOK t tb G E) {hh : List (Nat × Nat × Nat × Nat)} {y : ZY} {idx n : Nat} {As : List Value} {S0 : List Value} (hd : decode (zyc t) pc = .ok (.invokestatic idx, 3)) (hy : zYW y hh n) (hl : Cond.methodLink (zyn t).cls idx (zyn y) ∈ zTs) (hs : Cond.static (zyn y) ∈ zTs) (hcy : (zyn y).cls = (zyn t).cls) (hh' : zyh y + 1 ≤ zyh t) (hn : As.length = n) (hS0 : S0 = As.reverse ++ S) (hSc : (S.map fun v => v.category).sum ≤ 8) (hb : zyu y ≤ b) (hM : zMetW G hh y As M P')
    (kr : ∀ (v : Option Value) (M' : ZM), P' (.inl v) M' → WW E G u Q M' (b - zyu y) (pc + 3) L (v.toList ++ S)) (kx : ∀ (En : String) (M' : ZM), P' (.inr En) M' → XX E G u Q M' (b - zyu y) pc L En) (hub : u ≤ zyu t) : WW E G u Q M b pc L S0 := by
  subst hS0
  obtain ⟨p, e, R, s, m, args, below, meth, c⟩ := E
  obtain ⟨k1, k2, k3, k4, k5, k6, k7, k8, k9, k10, k11, k12, k13, k14, k15⟩ := K
  intro H locs ls cells slots h1 h2 h3 h4 h5 h6
  have hG : GoodIn zTs (va_wsS (zyn t).cls idx (zyn y) (zcdW y hh :: zTs)) := zgood (fun w hw => by
    unfold va_wsS at hw
    simp only [List.mem_cons, List.cons_append, List.nil_append] at hw
    rcases hw with rfl | rfl | rfl | rfl | h
    · exact hl
    · exact hs
    · exact hy.2.1
    · exact hy.1
    · exact h)
  exact zrun (vx_runSX (As := As) (rest := S) ⟨k1, k2, k4, k5, k7⟩ hM (vx_cwSW n k7 hG rfl rfl rfl ⟨hy.2.2.1.1, hy.2.2.1.2, hy.2.2.2.1⟩ (zroom hh' hy.2.2.2.2.2 k12 k13))
    ⟨zPc.blind, fun U hU hW => ⟨rfl, h1.warmU hU, zSt.warm hW k8⟩⟩ rfl hn (h4.1.trans k4) rfl (lv_room hSc) hd ⟨by omega, by omega⟩) h2 h3 h4 h5 h6 hb kr kx
end ZROW4
end
section
theorem zclX0 : zcl 0 RX0 TX0 7 tyX0 := ⟨rfl, by decide, rfl, by
  have h : ∀ k, k < 7 → u_lay RX0 TX0 k ∈ zTs := by
    intro k hk
    match k, hk with
    | 0, _ => exact zt 79 (by decide +kernel) rfl
    | 1, _ => exact zt 81 (by decide +kernel) rfl
    | 2, _ => exact zt 83 (by decide +kernel) rfl
    | 3, _ => exact zt 85 (by decide +kernel) rfl
    | 4, _ => exact zt 87 (by decide +kernel) rfl
    | 5, _ => exact zt 89 (by decide +kernel) rfl
    | 6, _ => exact zt 91 (by decide +kernel) rfl
    | k + 7, hk => exact absurd hk (by omega)
  intro w hw
  obtain ⟨k, hk, rfl⟩ := List.mem_map.mp hw
  exact h k (List.mem_range.mp hk), tyX0_ok, nmX0, zt 35 (by decide +kernel) rfl, zt 17 (by decide +kernel) rfl⟩
theorem zclX1 : zcl 1 RX1 TX1 5 tyX1 := ⟨rfl, by decide, rfl, by
  have h : ∀ k, k < 5 → u_lay RX1 TX1 k ∈ zTs := by
    intro k hk
    match k, hk with
    | 0, _ => exact zt 57 (by decide +kernel) rfl
    | 1, _ => exact zt 59 (by decide +kernel) rfl
    | 2, _ => exact zt 61 (by decide +kernel) rfl
    | 3, _ => exact zt 63 (by decide +kernel) rfl
    | 4, _ => exact zt 65 (by decide +kernel) rfl
    | k + 5, hk => exact absurd hk (by omega)
  intro w hw
  obtain ⟨k, hk, rfl⟩ := List.mem_map.mp hw
  exact h k (List.mem_range.mp hk), tyX1_ok, nmX1, zt 44 (by decide +kernel) rfl, zt 18 (by decide +kernel) rfl⟩
theorem zclX2 : zcl 2 RX2 TX2 10 tyX2 := ⟨rfl, by decide, rfl, by
  have h : ∀ k, k < 10 → u_lay RX2 TX2 k ∈ zTs := by
    intro k hk
    match k, hk with
    | 0, _ => exact zt 102 (by decide +kernel) rfl
    | 1, _ => exact zt 104 (by decide +kernel) rfl
    | 2, _ => exact zt 106 (by decide +kernel) rfl
    | 3, _ => exact zt 108 (by decide +kernel) rfl
    | 4, _ => exact zt 110 (by decide +kernel) rfl
    | 5, _ => exact zt 112 (by decide +kernel) rfl
    | 6, _ => exact zt 114 (by decide +kernel) rfl
    | 7, _ => exact zt 116 (by decide +kernel) rfl
    | 8, _ => exact zt 118 (by decide +kernel) rfl
    | 9, _ => exact zt 120 (by decide +kernel) rfl
    | k + 10, hk => exact absurd hk (by omega)
  intro w hw
  obtain ⟨k, hk, rfl⟩ := List.mem_map.mp hw
  exact h k (List.mem_range.mp hk), tyX2_ok, nmX2, zt 26 (by decide +kernel) rfl, zt 16 (by decide +kernel) rfl⟩
abbrev mX0_init : ZY := (yX0_init, cX0_init, 7, none, 3, 9)
theorem zyX0_init : zY mX0_init 4 := ⟨zt 38 (by decide +kernel) rfl, zt 17 (by decide +kernel) rfl, by decide +kernel, by decide +kernel, by decide +kernel, by decide⟩
theorem ziX0_init : Cond.instanceMethod yX0_init ∈ zTs := zt 37 (by decide +kernel) rfl
abbrev mX0_isName : ZY := (yX0_isName, cX0_isName, 1, (some .boolean), 1, 0)
theorem zyX0_isName : zY mX0_isName 1 := ⟨zt 236 (by decide +kernel) rfl, zt 17 (by decide +kernel) rfl, by decide +kernel, by decide +kernel, by decide +kernel, by decide⟩
theorem zsX0_isName : Cond.static yX0_isName ∈ zTs := zt 235 (by decide +kernel) rfl
abbrev mX0_meaningOf : ZY := (yX0_meaningOf, cX0_meaningOf, 2, (some .int), 2, 0)
theorem zyX0_meaningOf : zY mX0_meaningOf 1 := ⟨zt 233 (by decide +kernel) rfl, zt 17 (by decide +kernel) rfl, by decide +kernel, by decide +kernel, by decide +kernel, by decide⟩
theorem ziX0_meaningOf : Cond.instanceMethod yX0_meaningOf ∈ zTs := zt 231 (by decide +kernel) rfl
theorem zvX0_meaningOf : Cond.selects (zyn mX0_meaningOf).cls (zyn mX0_meaningOf) (zyn mX0_meaningOf) ∈ zTs := zt 232 (by decide +kernel) rfl
abbrev mX0_ageOf : ZY := (yX0_ageOf, cX0_ageOf, 2, (some .int), 2, 0)
theorem zyX0_ageOf : zY mX0_ageOf 1 := ⟨zt 359 (by decide +kernel) rfl, zt 17 (by decide +kernel) rfl, by decide +kernel, by decide +kernel, by decide +kernel, by decide⟩
theorem ziX0_ageOf : Cond.instanceMethod yX0_ageOf ∈ zTs := zt 357 (by decide +kernel) rfl
theorem zvX0_ageOf : Cond.selects (zyn mX0_ageOf).cls (zyn mX0_ageOf) (zyn mX0_ageOf) ∈ zTs := zt 358 (by decide +kernel) rfl
abbrev mX0_setMeaning : ZY := (yX0_setMeaning, cX0_setMeaning, 4, none, 2, 0)
theorem zyX0_setMeaning : zY mX0_setMeaning 3 := ⟨zt 277 (by decide +kernel) rfl, zt 17 (by decide +kernel) rfl, by decide +kernel, by decide +kernel, by decide +kernel, by decide⟩
theorem ziX0_setMeaning : Cond.instanceMethod yX0_setMeaning ∈ zTs := zt 275 (by decide +kernel) rfl
theorem zvX0_setMeaning : Cond.selects (zyn mX0_setMeaning).cls (zyn mX0_setMeaning) (zyn mX0_setMeaning) ∈ zTs := zt 276 (by decide +kernel) rfl
abbrev mX0_countTaken : ZY := (yX0_countTaken, cX0_countTaken, 3, (some .int), 1, 0)
theorem zyX0_countTaken : zY mX0_countTaken 0 := ⟨zt 340 (by decide +kernel) rfl, zt 17 (by decide +kernel) rfl, by decide +kernel, by decide +kernel, by decide +kernel, by decide⟩
theorem ziX0_countTaken : Cond.instanceMethod yX0_countTaken ∈ zTs := zt 338 (by decide +kernel) rfl
theorem zvX0_countTaken : Cond.selects (zyn mX0_countTaken).cls (zyn mX0_countTaken) (zyn mX0_countTaken) ∈ zTs := zt 339 (by decide +kernel) rfl
abbrev mX0_countLinksTo : ZY := (yX0_countLinksTo, cX0_countLinksTo, 4, (some .int), 1, 0)
theorem zyX0_countLinksTo : zY mX0_countLinksTo 1 := ⟨zt 318 (by decide +kernel) rfl, zt 17 (by decide +kernel) rfl, by decide +kernel, by decide +kernel, by decide +kernel, by decide⟩
theorem ziX0_countLinksTo : Cond.instanceMethod yX0_countLinksTo ∈ zTs := zt 316 (by decide +kernel) rfl
theorem zvX0_countLinksTo : Cond.selects (zyn mX0_countLinksTo).cls (zyn mX0_countLinksTo) (zyn mX0_countLinksTo) ∈ zTs := zt 317 (by decide +kernel) rfl
abbrev mX0_oldestLink : ZY := (yX0_oldestLink, cX0_oldestLink, 4, (some .int), 1, 0)
theorem zyX0_oldestLink : zY mX0_oldestLink 1 := ⟨zt 410 (by decide +kernel) rfl, zt 17 (by decide +kernel) rfl, by decide +kernel, by decide +kernel, by decide +kernel, by decide⟩
theorem ziX0_oldestLink : Cond.instanceMethod yX0_oldestLink ∈ zTs := zt 408 (by decide +kernel) rfl
theorem zvX0_oldestLink : Cond.selects (zyn mX0_oldestLink).cls (zyn mX0_oldestLink) (zyn mX0_oldestLink) ∈ zTs := zt 409 (by decide +kernel) rfl
abbrev mX0_isWithin : ZY := (yX0_isWithin, cX0_isWithin, 4, (some .boolean), 1, 0)
theorem zyX0_isWithin : zY mX0_isWithin 1 := ⟨zt 354 (by decide +kernel) rfl, zt 17 (by decide +kernel) rfl, by decide +kernel, by decide +kernel, by decide +kernel, by decide⟩
theorem ziX0_isWithin : Cond.instanceMethod yX0_isWithin ∈ zTs := zt 352 (by decide +kernel) rfl
theorem zvX0_isWithin : Cond.selects (zyn mX0_isWithin).cls (zyn mX0_isWithin) (zyn mX0_isWithin) ∈ zTs := zt 353 (by decide +kernel) rfl
abbrev mX0_isClient : ZY := (yX0_isClient, cX0_isClient, 1, (some .boolean), 1, 0)
theorem zyX0_isClient : zY mX0_isClient 1 := ⟨zt 288 (by decide +kernel) rfl, zt 17 (by decide +kernel) rfl, by decide +kernel, by decide +kernel, by decide +kernel, by decide⟩
theorem zsX0_isClient : Cond.static yX0_isClient ∈ zTs := zt 287 (by decide +kernel) rfl
abbrev mX0_leaseRuns : ZY := (yX0_leaseRuns, cX0_leaseRuns, 4, (some .boolean), 2, 0)
theorem zyX0_leaseRuns : zY mX0_leaseRuns 3 := ⟨zt 285 (by decide +kernel) rfl, zt 17 (by decide +kernel) rfl, by decide +kernel, by decide +kernel, by decide +kernel, by decide⟩
theorem ziX0_leaseRuns : Cond.instanceMethod yX0_leaseRuns ∈ zTs := zt 283 (by decide +kernel) rfl
theorem zvX0_leaseRuns : Cond.selects (zyn mX0_leaseRuns).cls (zyn mX0_leaseRuns) (zyn mX0_leaseRuns) ∈ zTs := zt 284 (by decide +kernel) rfl
abbrev mX0_setLeaseEnd : ZY := (yX0_setLeaseEnd, cX0_setLeaseEnd, 4, none, 2, 0)
theorem zyX0_setLeaseEnd : zY mX0_setLeaseEnd 3 := ⟨zt 292 (by decide +kernel) rfl, zt 17 (by decide +kernel) rfl, by decide +kernel, by decide +kernel, by decide +kernel, by decide⟩
theorem ziX0_setLeaseEnd : Cond.instanceMethod yX0_setLeaseEnd ∈ zTs := zt 290 (by decide +kernel) rfl
theorem zvX0_setLeaseEnd : Cond.selects (zyn mX0_setLeaseEnd).cls (zyn mX0_setLeaseEnd) (zyn mX0_setLeaseEnd) ∈ zTs := zt 291 (by decide +kernel) rfl
abbrev mX0_fragmentAt : ZY := (yX0_fragmentAt, cX0_fragmentAt, 2, (some (.object "DirectoryServers$Fragment")), 1, 0)
theorem zyX0_fragmentAt : zY mX0_fragmentAt 1 := ⟨zt 244 (by decide +kernel) rfl, zt 17 (by decide +kernel) rfl, by decide +kernel, by decide +kernel, by decide +kernel, by decide⟩
theorem ziX0_fragmentAt : Cond.instanceMethod yX0_fragmentAt ∈ zTs := zt 242 (by decide +kernel) rfl
theorem zvX0_fragmentAt : Cond.selects (zyn mX0_fragmentAt).cls (zyn mX0_fragmentAt) (zyn mX0_fragmentAt) ∈ zTs := zt 243 (by decide +kernel) rfl
abbrev mX0_fragmentOfName : ZY := (yX0_fragmentOfName, cX0_fragmentOfName, 2, (some (.object "DirectoryServers$Fragment")), 2, 0)
theorem zyX0_fragmentOfName : zY mX0_fragmentOfName 1 := ⟨zt 240 (by decide +kernel) rfl, zt 17 (by decide +kernel) rfl, by decide +kernel, by decide +kernel, by decide +kernel, by decide⟩
theorem ziX0_fragmentOfName : Cond.instanceMethod yX0_fragmentOfName ∈ zTs := zt 238 (by decide +kernel) rfl
theorem zvX0_fragmentOfName : Cond.selects (zyn mX0_fragmentOfName).cls (zyn mX0_fragmentOfName) (zyn mX0_fragmentOfName) ∈ zTs := zt 239 (by decide +kernel) rfl
abbrev mX1_init : ZY := (yX1_init, cX1_init, 6, none, 2, 0)
theorem zyX1_init : zY mX1_init 5 := ⟨zt 47 (by decide +kernel) rfl, zt 18 (by decide +kernel) rfl, by decide +kernel, by decide +kernel, by decide +kernel, by decide⟩
theorem ziX1_init : Cond.instanceMethod yX1_init ∈ zTs := zt 46 (by decide +kernel) rfl
abbrev mX2_init : ZY := (yX2_init, cX2_init, 1, none, 4, 13)
theorem zyX2_init : zY mX2_init 0 := ⟨zt 29 (by decide +kernel) rfl, zt 16 (by decide +kernel) rfl, by decide +kernel, by decide +kernel, by decide +kernel, by decide⟩
theorem ziX2_init : Cond.instanceMethod yX2_init ∈ zTs := zt 28 (by decide +kernel) rfl
abbrev mX2_lookup : ZY := (yX2_lookup, cX2_lookup, 5, (some .int), 7, 3)
theorem zyX2_lookup : zY mX2_lookup 3 := ⟨zt 398 (by decide +kernel) rfl, zt 16 (by decide +kernel) rfl, by decide +kernel, by decide +kernel, by decide +kernel, by decide⟩
theorem ziX2_lookup : Cond.instanceMethod yX2_lookup ∈ zTs := zt 396 (by decide +kernel) rfl
theorem zvX2_lookup : Cond.selects (zyn mX2_lookup).cls (zyn mX2_lookup) (zyn mX2_lookup) ∈ zTs := zt 397 (by decide +kernel) rfl
abbrev mX2_makeDirectory : ZY := (yX2_makeDirectory, cX2_makeDirectory, 6, (some .int), 7, 15)
theorem zyX2_makeDirectory : zY mX2_makeDirectory 3 := ⟨zt 126 (by decide +kernel) rfl, zt 16 (by decide +kernel) rfl, by decide +kernel, by decide +kernel, by decide +kernel, by decide⟩
theorem ziX2_makeDirectory : Cond.instanceMethod yX2_makeDirectory ∈ zTs := zt 124 (by decide +kernel) rfl
theorem zvX2_makeDirectory : Cond.selects (zyn mX2_makeDirectory).cls (zyn mX2_makeDirectory) (zyn mX2_makeDirectory) ∈ zTs := zt 125 (by decide +kernel) rfl
abbrev mX2_makeFile : ZY := (yX2_makeFile, cX2_makeFile, 6, (some .int), 7, 5)
theorem zyX2_makeFile : zY mX2_makeFile 3 := ⟨zt 296 (by decide +kernel) rfl, zt 16 (by decide +kernel) rfl, by decide +kernel, by decide +kernel, by decide +kernel, by decide⟩
theorem ziX2_makeFile : Cond.instanceMethod yX2_makeFile ∈ zTs := zt 294 (by decide +kernel) rfl
theorem zvX2_makeFile : Cond.selects (zyn mX2_makeFile).cls (zyn mX2_makeFile) (zyn mX2_makeFile) ∈ zTs := zt 295 (by decide +kernel) rfl
abbrev mX2_link : ZY := (yX2_link, cX2_link, 7, (some .int), 7, 6)
theorem zyX2_link : zY mX2_link 4 := ⟨zt 305 (by decide +kernel) rfl, zt 16 (by decide +kernel) rfl, by decide +kernel, by decide +kernel, by decide +kernel, by decide⟩
theorem ziX2_link : Cond.instanceMethod yX2_link ∈ zTs := zt 303 (by decide +kernel) rfl
theorem zvX2_link : Cond.selects (zyn mX2_link).cls (zyn mX2_link) (zyn mX2_link) ∈ zTs := zt 304 (by decide +kernel) rfl
abbrev mX2_remove : ZY := (yX2_remove, cX2_remove, 7, (some .int), 7, 6)
theorem zyX2_remove : zY mX2_remove 3 := ⟨zt 323 (by decide +kernel) rfl, zt 16 (by decide +kernel) rfl, by decide +kernel, by decide +kernel, by decide +kernel, by decide⟩
theorem ziX2_remove : Cond.instanceMethod yX2_remove ∈ zTs := zt 321 (by decide +kernel) rfl
theorem zvX2_remove : Cond.selects (zyn mX2_remove).cls (zyn mX2_remove) (zyn mX2_remove) ∈ zTs := zt 322 (by decide +kernel) rfl
abbrev mX2_rename : ZY := (yX2_rename, cX2_rename, 11, none, 7, 8)
theorem zyX2_rename : zY mX2_rename 5 := ⟨zt 350 (by decide +kernel) rfl, zt 16 (by decide +kernel) rfl, by decide +kernel, by decide +kernel, by decide +kernel, by decide⟩
theorem ziX2_rename : Cond.instanceMethod yX2_rename ∈ zTs := zt 348 (by decide +kernel) rfl
theorem zvX2_rename : Cond.selects (zyn mX2_rename).cls (zyn mX2_rename) (zyn mX2_rename) ∈ zTs := zt 349 (by decide +kernel) rfl
abbrev mX2_pass : ZY := (yX2_pass, cX2_pass, 2, (some .int), 6, 1)
theorem zyX2_pass : zY mX2_pass 1 := ⟨zt 363 (by decide +kernel) rfl, zt 16 (by decide +kernel) rfl, by decide +kernel, by decide +kernel, by decide +kernel, by decide⟩
theorem ziX2_pass : Cond.instanceMethod yX2_pass ∈ zTs := zt 361 (by decide +kernel) rfl
theorem zvX2_pass : Cond.selects (zyn mX2_pass).cls (zyn mX2_pass) (zyn mX2_pass) ∈ zTs := zt 362 (by decide +kernel) rfl
abbrev mX2_links : ZY := (yX2_links, cX2_links, 2, (some .int), 7, 1)
theorem zyX2_links : zY mX2_links 1 := ⟨zt 402 (by decide +kernel) rfl, zt 16 (by decide +kernel) rfl, by decide +kernel, by decide +kernel, by decide +kernel, by decide⟩
theorem ziX2_links : Cond.instanceMethod yX2_links ∈ zTs := zt 400 (by decide +kernel) rfl
theorem zvX2_links : Cond.selects (zyn mX2_links).cls (zyn mX2_links) (zyn mX2_links) ∈ zTs := zt 401 (by decide +kernel) rfl
abbrev mX2_anchor : ZY := (yX2_anchor, cX2_anchor, 7, (some .int), 7, 1)
theorem zyX2_anchor : zY mX2_anchor 1 := ⟨zt 406 (by decide +kernel) rfl, zt 16 (by decide +kernel) rfl, by decide +kernel, by decide +kernel, by decide +kernel, by decide⟩
theorem ziX2_anchor : Cond.instanceMethod yX2_anchor ∈ zTs := zt 404 (by decide +kernel) rfl
theorem zvX2_anchor : Cond.selects (zyn mX2_anchor).cls (zyn mX2_anchor) (zyn mX2_anchor) ∈ zTs := zt 405 (by decide +kernel) rfl
abbrev mX2_byTree : ZY := (yX2_byTree, cX2_byTree, 3, (some .int), 7, 2)
theorem zyX2_byTree : zY mX2_byTree 2 := ⟨zt 394 (by decide +kernel) rfl, zt 16 (by decide +kernel) rfl, by decide +kernel, by decide +kernel, by decide +kernel, by decide⟩
theorem ziX2_byTree : Cond.instanceMethod yX2_byTree ∈ zTs := zt 392 (by decide +kernel) rfl
theorem zvX2_byTree : Cond.selects (zyn mX2_byTree).cls (zyn mX2_byTree) (zyn mX2_byTree) ∈ zTs := zt 393 (by decide +kernel) rfl
abbrev mX2_size : ZY := (yX2_size, cX2_size, 2, (some .int), 7, 1)
theorem zyX2_size : zY mX2_size 1 := ⟨zt 390 (by decide +kernel) rfl, zt 16 (by decide +kernel) rfl, by decide +kernel, by decide +kernel, by decide +kernel, by decide⟩
theorem ziX2_size : Cond.instanceMethod yX2_size ∈ zTs := zt 388 (by decide +kernel) rfl
theorem zvX2_size : Cond.selects (zyn mX2_size).cls (zyn mX2_size) (zyn mX2_size) ∈ zTs := zt 389 (by decide +kernel) rfl
abbrev mX2_needClient : ZY := (yX2_needClient, cX2_needClient, 1, none, 6, 1)
theorem zyX2_needClient : zY mX2_needClient 1 := ⟨zt 129 (by decide +kernel) rfl, zt 16 (by decide +kernel) rfl, by decide +kernel, by decide +kernel, by decide +kernel, by decide⟩
theorem zsX2_needClient : Cond.static yX2_needClient ∈ zTs := zt 128 (by decide +kernel) rfl
abbrev mX2_needName : ZY := (yX2_needName, cX2_needName, 1, none, 6, 1)
theorem zyX2_needName : zY mX2_needName 1 := ⟨zt 200 (by decide +kernel) rfl, zt 16 (by decide +kernel) rfl, by decide +kernel, by decide +kernel, by decide +kernel, by decide⟩
theorem zsX2_needName : Cond.static yX2_needName ∈ zTs := zt 199 (by decide +kernel) rfl
abbrev mX2_needDirectory : ZY := (yX2_needDirectory, cX2_needDirectory, 3, (some (.object "DirectoryServers$Directory")), 6, 1)
theorem zyX2_needDirectory : zY mX2_needDirectory 1 := ⟨zt 205 (by decide +kernel) rfl, zt 16 (by decide +kernel) rfl, by decide +kernel, by decide +kernel, by decide +kernel, by decide⟩
theorem ziX2_needDirectory : Cond.instanceMethod yX2_needDirectory ∈ zTs := zt 204 (by decide +kernel) rfl
theorem zvX2_needDirectory : Cond.selects (zyn mX2_needDirectory).cls (zyn mX2_needDirectory) (zyn mX2_needDirectory) ∈ zTs := zt 1 (by decide +kernel) rfl
abbrev mX2_needFile : ZY := (yX2_needFile, cX2_needFile, 2, none, 6, 1)
theorem zyX2_needFile : zY mX2_needFile 1 := ⟨zt 309 (by decide +kernel) rfl, zt 16 (by decide +kernel) rfl, by decide +kernel, by decide +kernel, by decide +kernel, by decide⟩
theorem ziX2_needFile : Cond.instanceMethod yX2_needFile ∈ zTs := zt 308 (by decide +kernel) rfl
theorem zvX2_needFile : Cond.selects (zyn mX2_needFile).cls (zyn mX2_needFile) (zyn mX2_needFile) ∈ zTs := zt 9 (by decide +kernel) rfl
abbrev mX2_needFree : ZY := (yX2_needFree, cX2_needFree, 3, none, 6, 1)
theorem zyX2_needFree : zY mX2_needFree 2 := ⟨zt 229 (by decide +kernel) rfl, zt 16 (by decide +kernel) rfl, by decide +kernel, by decide +kernel, by decide +kernel, by decide⟩
theorem ziX2_needFree : Cond.instanceMethod yX2_needFree ∈ zTs := zt 228 (by decide +kernel) rfl
theorem zvX2_needFree : Cond.selects (zyn mX2_needFree).cls (zyn mX2_needFree) (zyn mX2_needFree) ∈ zTs := zt 3 (by decide +kernel) rfl
abbrev mX2_needTaken : ZY := (yX2_needTaken, cX2_needTaken, 3, none, 6, 1)
theorem zyX2_needTaken : zY mX2_needTaken 2 := ⟨zt 327 (by decide +kernel) rfl, zt 16 (by decide +kernel) rfl, by decide +kernel, by decide +kernel, by decide +kernel, by decide⟩
theorem ziX2_needTaken : Cond.instanceMethod yX2_needTaken ∈ zTs := zt 326 (by decide +kernel) rfl
theorem zvX2_needTaken : Cond.selects (zyn mX2_needTaken).cls (zyn mX2_needTaken) (zyn mX2_needTaken) ∈ zTs := zt 11 (by decide +kernel) rfl
abbrev mX2_needRemovable : ZY := (yX2_needRemovable, cX2_needRemovable, 2, none, 6, 2)
theorem zyX2_needRemovable : zY mX2_needRemovable 1 := ⟨zt 336 (by decide +kernel) rfl, zt 16 (by decide +kernel) rfl, by decide +kernel, by decide +kernel, by decide +kernel, by decide⟩
theorem ziX2_needRemovable : Cond.instanceMethod yX2_needRemovable ∈ zTs := zt 335 (by decide +kernel) rfl
theorem zvX2_needRemovable : Cond.selects (zyn mX2_needRemovable).cls (zyn mX2_needRemovable) (zyn mX2_needRemovable) ∈ zTs := zt 13 (by decide +kernel) rfl
abbrev mX2_directoryNumbered : ZY := (yX2_directoryNumbered, cX2_directoryNumbered, 2, (some (.object "DirectoryServers$Directory")), 1, 0)
theorem zyX2_directoryNumbered : zY mX2_directoryNumbered 1 := ⟨zt 209 (by decide +kernel) rfl, zt 16 (by decide +kernel) rfl, by decide +kernel, by decide +kernel, by decide +kernel, by decide⟩
theorem ziX2_directoryNumbered : Cond.instanceMethod yX2_directoryNumbered ∈ zTs := zt 208 (by decide +kernel) rfl
theorem zvX2_directoryNumbered : Cond.selects (zyn mX2_directoryNumbered).cls (zyn mX2_directoryNumbered) (zyn mX2_directoryNumbered) ∈ zTs := zt 2 (by decide +kernel) rfl
abbrev mX2_directoryMeant : ZY := (yX2_directoryMeant, cX2_directoryMeant, 2, (some (.object "DirectoryServers$Directory")), 2, 0)
theorem zyX2_directoryMeant : zY mX2_directoryMeant 1 := ⟨zt 332 (by decide +kernel) rfl, zt 16 (by decide +kernel) rfl, by decide +kernel, by decide +kernel, by decide +kernel, by decide⟩
theorem ziX2_directoryMeant : Cond.instanceMethod yX2_directoryMeant ∈ zTs := zt 331 (by decide +kernel) rfl
theorem zvX2_directoryMeant : Cond.selects (zyn mX2_directoryMeant).cls (zyn mX2_directoryMeant) (zyn mX2_directoryMeant) ∈ zTs := zt 12 (by decide +kernel) rfl
abbrev mX2_dropDirectory : ZY := (yX2_dropDirectory, cX2_dropDirectory, 2, none, 1, 0)
theorem zyX2_dropDirectory : zY mX2_dropDirectory 1 := ⟨zt 346 (by decide +kernel) rfl, zt 16 (by decide +kernel) rfl, by decide +kernel, by decide +kernel, by decide +kernel, by decide⟩
theorem ziX2_dropDirectory : Cond.instanceMethod yX2_dropDirectory ∈ zTs := zt 345 (by decide +kernel) rfl
theorem zvX2_dropDirectory : Cond.selects (zyn mX2_dropDirectory).cls (zyn mX2_dropDirectory) (zyn mX2_dropDirectory) ∈ zTs := zt 14 (by decide +kernel) rfl
abbrev mX2_makeLink : ZY := (yX2_makeLink, cX2_makeLink, 5, none, 5, 0)
theorem zyX2_makeLink : zY mX2_makeLink 4 := ⟨zt 301 (by decide +kernel) rfl, zt 16 (by decide +kernel) rfl, by decide +kernel, by decide +kernel, by decide +kernel, by decide⟩
theorem ziX2_makeLink : Cond.instanceMethod yX2_makeLink ∈ zTs := zt 300 (by decide +kernel) rfl
theorem zvX2_makeLink : Cond.selects (zyn mX2_makeLink).cls (zyn mX2_makeLink) (zyn mX2_makeLink) ∈ zTs := zt 8 (by decide +kernel) rfl
abbrev mX2_changeName : ZY := (yX2_changeName, cX2_changeName, 6, none, 4, 0)
theorem zyX2_changeName : zY mX2_changeName 5 := ⟨zt 273 (by decide +kernel) rfl, zt 16 (by decide +kernel) rfl, by decide +kernel, by decide +kernel, by decide +kernel, by decide⟩
theorem ziX2_changeName : Cond.instanceMethod yX2_changeName ∈ zTs := zt 272 (by decide +kernel) rfl
theorem zvX2_changeName : Cond.selects (zyn mX2_changeName).cls (zyn mX2_changeName) (zyn mX2_changeName) ∈ zTs := zt 6 (by decide +kernel) rfl
abbrev mX2_endLeases : ZY := (yX2_endLeases, cX2_endLeases, 5, none, 3, 0)
theorem zyX2_endLeases : zY mX2_endLeases 3 := ⟨zt 281 (by decide +kernel) rfl, zt 16 (by decide +kernel) rfl, by decide +kernel, by decide +kernel, by decide +kernel, by decide⟩
theorem ziX2_endLeases : Cond.instanceMethod yX2_endLeases ∈ zTs := zt 280 (by decide +kernel) rfl
theorem zvX2_endLeases : Cond.selects (zyn mX2_endLeases).cls (zyn mX2_endLeases) (zyn mX2_endLeases) ∈ zTs := zt 7 (by decide +kernel) rfl
abbrev mX2_countLinks : ZY := (yX2_countLinks, cX2_countLinks, 5, (some .int), 2, 0)
theorem zyX2_countLinks : zY mX2_countLinks 1 := ⟨zt 314 (by decide +kernel) rfl, zt 16 (by decide +kernel) rfl, by decide +kernel, by decide +kernel, by decide +kernel, by decide⟩
theorem ziX2_countLinks : Cond.instanceMethod yX2_countLinks ∈ zTs := zt 313 (by decide +kernel) rfl
theorem zvX2_countLinks : Cond.selects (zyn mX2_countLinks).cls (zyn mX2_countLinks) (zyn mX2_countLinks) ∈ zTs := zt 10 (by decide +kernel) rfl
abbrev mX2_fragmentAbove : ZY := (yX2_fragmentAbove, cX2_fragmentAbove, 3, (some (.object "DirectoryServers$Fragment")), 3, 0)
theorem zyX2_fragmentAbove : zY mX2_fragmentAbove 1 := ⟨zt 252 (by decide +kernel) rfl, zt 16 (by decide +kernel) rfl, by decide +kernel, by decide +kernel, by decide +kernel, by decide⟩
theorem ziX2_fragmentAbove : Cond.instanceMethod yX2_fragmentAbove ∈ zTs := zt 251 (by decide +kernel) rfl
theorem zvX2_fragmentAbove : Cond.selects (zyn mX2_fragmentAbove).cls (zyn mX2_fragmentAbove) (zyn mX2_fragmentAbove) ∈ zTs := zt 5 (by decide +kernel) rfl
abbrev mX2_frozen : ZY := (yX2_frozen, cX2_frozen, 4, (some .boolean), 4, 0)
theorem zyX2_frozen : zY mX2_frozen 1 := ⟨zt 248 (by decide +kernel) rfl, zt 16 (by decide +kernel) rfl, by decide +kernel, by decide +kernel, by decide +kernel, by decide⟩
theorem ziX2_frozen : Cond.instanceMethod yX2_frozen ∈ zTs := zt 247 (by decide +kernel) rfl
theorem zvX2_frozen : Cond.selects (zyn mX2_frozen).cls (zyn mX2_frozen) (zyn mX2_frozen) ∈ zTs := zt 4 (by decide +kernel) rfl
abbrev mL_cell : ZY := (yL_cell, cL_cell, 2, (some .int), 1, 0)
theorem zyL_cell : zY mL_cell 2 := ⟨zt 367 (by decide +kernel) rfl, zt 15 (by decide +kernel) rfl, by decide +kernel, by decide +kernel, by decide +kernel, by decide⟩
theorem zsL_cell : Cond.static yL_cell ∈ zTs := zt 366 (by decide +kernel) rfl
abbrev mL_low : ZY := (yL_low, cL_low, 2, (some .int), 1, 0)
theorem zyL_low : zY mL_low 2 := ⟨zt 370 (by decide +kernel) rfl, zt 15 (by decide +kernel) rfl, by decide +kernel, by decide +kernel, by decide +kernel, by decide⟩
theorem zsL_low : Cond.static yL_low ∈ zTs := zt 369 (by decide +kernel) rfl
abbrev mL_isThere : ZY := (yL_isThere, cL_isThere, 4, (some .boolean), 1, 0)
theorem zyL_isThere : zY mL_isThere 2 := ⟨zt 374 (by decide +kernel) rfl, zt 15 (by decide +kernel) rfl, by decide +kernel, by decide +kernel, by decide +kernel, by decide⟩
theorem zsL_isThere : Cond.static yL_isThere ∈ zTs := zt 373 (by decide +kernel) rfl
abbrev mL_isBelow : ZY := (yL_isBelow, cL_isBelow, 6, (some .boolean), 1, 0)
theorem zyL_isBelow : zY mL_isBelow 3 := ⟨zt 377 (by decide +kernel) rfl, zt 15 (by decide +kernel) rfl, by decide +kernel, by decide +kernel, by decide +kernel, by decide⟩
theorem zsL_isBelow : Cond.static yL_isBelow ∈ zTs := zt 376 (by decide +kernel) rfl
abbrev mL_used : ZY := (yL_used, cL_used, 4, (some .int), 1, 0)
theorem zyL_used : zY mL_used 2 := ⟨zt 380 (by decide +kernel) rfl, zt 15 (by decide +kernel) rfl, by decide +kernel, by decide +kernel, by decide +kernel, by decide⟩
theorem zsL_used : Cond.static yL_used ∈ zTs := zt 379 (by decide +kernel) rfl
abbrev mL_count : ZY := (yL_count, cL_count, 4, (some .int), 1, 0)
theorem zyL_count : zY mL_count 2 := ⟨zt 383 (by decide +kernel) rfl, zt 15 (by decide +kernel) rfl, by decide +kernel, by decide +kernel, by decide +kernel, by decide⟩
theorem zsL_count : Cond.static yL_count ∈ zTs := zt 382 (by decide +kernel) rfl
abbrev mL_isAsBeside : ZY := (yL_isAsBeside, cL_isAsBeside, 10, (some .boolean), 8, 200)
theorem zyL_isAsBeside : zY mL_isAsBeside 6 := ⟨zt 386 (by decide +kernel) rfl, zt 15 (by decide +kernel) rfl, by decide +kernel, by decide +kernel, by decide +kernel, by decide⟩
theorem zsL_isAsBeside : Cond.static yL_isAsBeside ∈ zTs := zt 385 (by decide +kernel) rfl
theorem zf_X1_7 : Cond.fieldLink RX1 7 (TX1 0).1 (TX1 0).2.1 (TX1 0).2.2.1 ∈ zTs := zt 49 (by decide +kernel) rfl
theorem zf_X2_219 : Cond.fieldLink RX2 219 (TX1 0).1 (TX1 0).2.1 (TX1 0).2.2.1 ∈ zTs := zt 50 (by decide +kernel) rfl
theorem zf_X1_13 : Cond.fieldLink RX1 13 (TX1 1).1 (TX1 1).2.1 (TX1 1).2.2.1 ∈ zTs := zt 51 (by decide +kernel) rfl
theorem zf_X1_16 : Cond.fieldLink RX1 16 (TX1 2).1 (TX1 2).2.1 (TX1 2).2.2.1 ∈ zTs := zt 52 (by decide +kernel) rfl
theorem zf_X1_19 : Cond.fieldLink RX1 19 (TX1 3).1 (TX1 3).2.1 (TX1 3).2.2.1 ∈ zTs := zt 53 (by decide +kernel) rfl
theorem zf_X2_167 : Cond.fieldLink RX2 167 (TX1 3).1 (TX1 3).2.1 (TX1 3).2.2.1 ∈ zTs := zt 54 (by decide +kernel) rfl
theorem zf_X1_22 : Cond.fieldLink RX1 22 (TX1 4).1 (TX1 4).2.1 (TX1 4).2.2.1 ∈ zTs := zt 55 (by decide +kernel) rfl
theorem zf_X2_51 : Cond.fieldLink RX2 51 (TX1 4).1 (TX1 4).2.1 (TX1 4).2.2.1 ∈ zTs := zt 56 (by decide +kernel) rfl
theorem zf_X0_29 : Cond.fieldLink RX0 29 (TX0 0).1 (TX0 0).2.1 (TX0 0).2.2.1 ∈ zTs := zt 69 (by decide +kernel) rfl
theorem zf_X2_108 : Cond.fieldLink RX2 108 (TX0 0).1 (TX0 0).2.1 (TX0 0).2.2.1 ∈ zTs := zt 70 (by decide +kernel) rfl
theorem zf_X0_33 : Cond.fieldLink RX0 33 (TX0 1).1 (TX0 1).2.1 (TX0 1).2.2.1 ∈ zTs := zt 71 (by decide +kernel) rfl
theorem zf_X2_123 : Cond.fieldLink RX2 123 (TX0 1).1 (TX0 1).2.1 (TX0 1).2.2.1 ∈ zTs := zt 72 (by decide +kernel) rfl
theorem zf_X0_37 : Cond.fieldLink RX0 37 (TX0 2).1 (TX0 2).2.1 (TX0 2).2.2.1 ∈ zTs := zt 73 (by decide +kernel) rfl
theorem zf_X2_127 : Cond.fieldLink RX2 127 (TX0 2).1 (TX0 2).2.1 (TX0 2).2.2.1 ∈ zTs := zt 74 (by decide +kernel) rfl
theorem zf_X0_9 : Cond.fieldLink RX0 9 (TX0 3).1 (TX0 3).2.1 (TX0 3).2.2.1 ∈ zTs := zt 75 (by decide +kernel) rfl
theorem zf_X0_15 : Cond.fieldLink RX0 15 (TX0 4).1 (TX0 4).2.1 (TX0 4).2.2.1 ∈ zTs := zt 76 (by decide +kernel) rfl
theorem zf_X0_20 : Cond.fieldLink RX0 20 (TX0 5).1 (TX0 5).2.1 (TX0 5).2.2.1 ∈ zTs := zt 77 (by decide +kernel) rfl
theorem zf_X0_25 : Cond.fieldLink RX0 25 (TX0 6).1 (TX0 6).2.1 (TX0 6).2.2.1 ∈ zTs := zt 78 (by decide +kernel) rfl
theorem zf_X2_11 : Cond.fieldLink RX2 11 (TX2 0).1 (TX2 0).2.1 (TX2 0).2.2.1 ∈ zTs := zt 94 (by decide +kernel) rfl
theorem zf_X2_25 : Cond.fieldLink RX2 25 (TX2 1).1 (TX2 1).2.1 (TX2 1).2.2.1 ∈ zTs := zt 95 (by decide +kernel) rfl
theorem zf_X2_79 : Cond.fieldLink RX2 79 (TX2 2).1 (TX2 2).2.1 (TX2 2).2.2.1 ∈ zTs := zt 96 (by decide +kernel) rfl
theorem zf_X2_253 : Cond.fieldLink RX2 253 (TX2 3).1 (TX2 3).2.1 (TX2 3).2.2.1 ∈ zTs := zt 97 (by decide +kernel) rfl
theorem zf_X2_40 : Cond.fieldLink RX2 40 (TX2 4).1 (TX2 4).2.1 (TX2 4).2.2.1 ∈ zTs := zt 98 (by decide +kernel) rfl
theorem zf_X2_15 : Cond.fieldLink RX2 15 (TX2 5).1 (TX2 5).2.1 (TX2 5).2.2.1 ∈ zTs := zt 99 (by decide +kernel) rfl
theorem zf_X2_19 : Cond.fieldLink RX2 19 (TX2 6).1 (TX2 6).2.1 (TX2 6).2.2.1 ∈ zTs := zt 100 (by decide +kernel) rfl
theorem zf_X2_197 : Cond.fieldLink RX2 197 (TX2 7).1 (TX2 7).2.1 (TX2 7).2.2.1 ∈ zTs := zt 101 (by decide +kernel) rfl
theorem zm_L_37 : Cond.methodLink RL 37 yX2_init ∈ zTs := zt 27 (by decide +kernel) rfl
theorem zm_X2_1 : Cond.methodLink RX2 1 Lib.objectInit ∈ zTs := zt 30 (by decide +kernel) rfl
theorem zm_X2_22 : Cond.methodLink RX2 22 yX0_init ∈ zTs := zt 36 (by decide +kernel) rfl
theorem zm_X0_3 : Cond.methodLink RX0 3 Lib.objectInit ∈ zTs := zt 39 (by decide +kernel) rfl
theorem zm_X0_40 : Cond.methodLink RX0 40 yX1_init ∈ zTs := zt 45 (by decide +kernel) rfl
theorem zm_X1_1 : Cond.methodLink RX1 1 Lib.objectInit ∈ zTs := zt 48 (by decide +kernel) rfl
theorem zm_L_48 : Cond.methodLink RL 48 yX2_makeDirectory ∈ zTs := zt 123 (by decide +kernel) rfl
theorem zm_X2_29 : Cond.methodLink RX2 29 yX2_needClient ∈ zTs := zt 127 (by decide +kernel) rfl
theorem zm_X2_33 : Cond.methodLink RX2 33 yX2_needName ∈ zTs := zt 198 (by decide +kernel) rfl
theorem zm_X2_36 : Cond.methodLink RX2 36 yX2_needDirectory ∈ zTs := zt 202 (by decide +kernel) rfl
theorem zm_X2_236 : Cond.methodLink RX2 236 yX2_directoryNumbered ∈ zTs := zt 206 (by decide +kernel) rfl
theorem zm_X2_64 : Cond.methodLink RX2 64 yX2_needFree ∈ zTs := zt 226 (by decide +kernel) rfl
theorem zm_X2_60 : Cond.methodLink RX2 60 yX0_meaningOf ∈ zTs := zt 230 (by decide +kernel) rfl
theorem zm_X0_43 : Cond.methodLink RX0 43 yX0_isName ∈ zTs := zt 234 (by decide +kernel) rfl
theorem zm_X2_47 : Cond.methodLink RX2 47 yX0_fragmentOfName ∈ zTs := zt 237 (by decide +kernel) rfl
theorem zm_X0_54 : Cond.methodLink RX0 54 yX0_fragmentAt ∈ zTs := zt 241 (by decide +kernel) rfl
theorem zm_X2_148 : Cond.methodLink RX2 148 yX2_frozen ∈ zTs := zt 245 (by decide +kernel) rfl
theorem zm_X2_269 : Cond.methodLink RX2 269 yX2_fragmentAbove ∈ zTs := zt 249 (by decide +kernel) rfl
theorem zm_X2_75 : Cond.methodLink RX2 75 yX2_changeName ∈ zTs := zt 270 (by decide +kernel) rfl
theorem zm_X2_256 : Cond.methodLink RX2 256 yX0_setMeaning ∈ zTs := zt 274 (by decide +kernel) rfl
theorem zm_X2_259 : Cond.methodLink RX2 259 yX2_endLeases ∈ zTs := zt 278 (by decide +kernel) rfl
theorem zm_X2_43 : Cond.methodLink RX2 43 yX0_leaseRuns ∈ zTs := zt 282 (by decide +kernel) rfl
theorem zm_X0_47 : Cond.methodLink RX0 47 yX0_isClient ∈ zTs := zt 286 (by decide +kernel) rfl
theorem zm_X2_56 : Cond.methodLink RX2 56 yX0_setLeaseEnd ∈ zTs := zt 289 (by decide +kernel) rfl
theorem zm_L_51 : Cond.methodLink RL 51 yX2_makeFile ∈ zTs := zt 293 (by decide +kernel) rfl
theorem zm_X2_84 : Cond.methodLink RX2 84 yX2_makeLink ∈ zTs := zt 298 (by decide +kernel) rfl
theorem zm_L_54 : Cond.methodLink RL 54 yX2_link ∈ zTs := zt 302 (by decide +kernel) rfl
theorem zm_X2_87 : Cond.methodLink RX2 87 yX2_needFile ∈ zTs := zt 306 (by decide +kernel) rfl
theorem zm_X2_90 : Cond.methodLink RX2 90 yX2_countLinks ∈ zTs := zt 311 (by decide +kernel) rfl
theorem zm_X2_266 : Cond.methodLink RX2 266 yX0_countLinksTo ∈ zTs := zt 315 (by decide +kernel) rfl
theorem zm_L_58 : Cond.methodLink RL 58 yX2_remove ∈ zTs := zt 320 (by decide +kernel) rfl
theorem zm_X2_98 : Cond.methodLink RX2 98 yX2_needTaken ∈ zTs := zt 324 (by decide +kernel) rfl
theorem zm_X2_101 : Cond.methodLink RX2 101 yX2_directoryMeant ∈ zTs := zt 329 (by decide +kernel) rfl
theorem zm_X2_104 : Cond.methodLink RX2 104 yX2_needRemovable ∈ zTs := zt 333 (by decide +kernel) rfl
theorem zm_X2_225 : Cond.methodLink RX2 225 yX0_countTaken ∈ zTs := zt 337 (by decide +kernel) rfl
theorem zm_X2_111 : Cond.methodLink RX2 111 yX2_dropDirectory ∈ zTs := zt 343 (by decide +kernel) rfl
theorem zm_L_65 : Cond.methodLink RL 65 yX2_rename ∈ zTs := zt 347 (by decide +kernel) rfl
theorem zm_X2_114 : Cond.methodLink RX2 114 yX0_isWithin ∈ zTs := zt 351 (by decide +kernel) rfl
theorem zm_X2_120 : Cond.methodLink RX2 120 yX0_ageOf ∈ zTs := zt 356 (by decide +kernel) rfl
theorem zm_L_69 : Cond.methodLink RL 69 yX2_pass ∈ zTs := zt 360 (by decide +kernel) rfl
theorem zm_L_38 : Cond.methodLink RL 38 yL_cell ∈ zTs := zt 365 (by decide +kernel) rfl
theorem zm_L_41 : Cond.methodLink RL 41 yL_low ∈ zTs := zt 368 (by decide +kernel) rfl
theorem zm_L_44 : Cond.methodLink RL 44 yL_isThere ∈ zTs := zt 372 (by decide +kernel) rfl
theorem zm_L_61 : Cond.methodLink RL 61 yL_isBelow ∈ zTs := zt 375 (by decide +kernel) rfl
theorem zm_L_14 : Cond.methodLink RL 14 yL_used ∈ zTs := zt 378 (by decide +kernel) rfl
theorem zm_L_31 : Cond.methodLink RL 31 yL_count ∈ zTs := zt 381 (by decide +kernel) rfl
theorem zm_L_72 : Cond.methodLink RL 72 yL_isAsBeside ∈ zTs := zt 384 (by decide +kernel) rfl
theorem zm_L_8 : Cond.methodLink RL 8 yX2_size ∈ zTs := zt 387 (by decide +kernel) rfl
theorem zm_L_20 : Cond.methodLink RL 20 yX2_byTree ∈ zTs := zt 391 (by decide +kernel) rfl
theorem zm_L_24 : Cond.methodLink RL 24 yX2_lookup ∈ zTs := zt 395 (by decide +kernel) rfl
theorem zm_L_28 : Cond.methodLink RL 28 yX2_links ∈ zTs := zt 399 (by decide +kernel) rfl
theorem zm_L_34 : Cond.methodLink RL 34 yX2_anchor ∈ zTs := zt 403 (by decide +kernel) rfl
theorem zm_X2_222 : Cond.methodLink RX2 222 yX0_oldestLink ∈ zTs := zt 407 (by decide +kernel) rfl
theorem zc_L_9 : Cond.classLink RL 9 "DirectoryServers" ∈ zTs := zt 25 (by decide +kernel) rfl
theorem zc_X2_9 : Cond.classLink RX2 9 "DirectoryServers$Directory" ∈ zTs := zt 33 (by decide +kernel) rfl
theorem zc_X0_18 : Cond.classLink RX0 18 "[[I" ∈ zTs := zt 40 (by decide +kernel) rfl
theorem zc_X0_23 : Cond.classLink RX0 23 "DirectoryServers$Fragment" ∈ zTs := zt 42 (by decide +kernel) rfl
theorem zc_X2_130 : Cond.classLink RX2 130 "java/lang/IllegalArgumentException" ∈ zTs := zt 130 (by decide +kernel) rfl
theorem zc_X2_93 : Cond.classLink RX2 93 "java/lang/IndexOutOfBoundsException" ∈ zTs := zt 210 (by decide +kernel) rfl
theorem zc_X2_68 : Cond.classLink RX2 68 "java/lang/IllegalStateException" ∈ zTs := zt 253 (by decide +kernel) rfl
end
section
theorem zthw {own : String} {ic : Nat} {X : String} (h : (vx_atS own ic X zNm).all (fun w => (decide (w ∈ lw_tbl) && goodWord w) || (decide (w = .castable X X) || zDecl.any (fun F => decide (w = .declares ⟨F, "<init>", "(Ljava/lang/String;)V"⟩)))) = true) : ∀ w ∈ vx_atS own ic X zNm, w ∈ zTs ∨ w = .castable X X ∨ ∃ F ∈ zDecl, w = .declares ⟨F, "<init>", "(Ljava/lang/String;)V"⟩ := by
  intro w hw
  have h1 := List.all_eq_true.mp h w hw
  simp only [Bool.or_eq_true, Bool.and_eq_true, decide_eq_true_eq, List.any_eq_true] at h1
  rcases h1 with h1 | h1 | h1
  · exact Or.inl (List.mem_filter.mpr h1)
  · exact Or.inr (Or.inl h1)
  · exact Or.inr (Or.inr h1)
theorem zthIAE : zTh RX2 130 134 "java/lang/IllegalArgumentException" := ⟨by decide +kernel, zt 130 (by decide +kernel) rfl, zt 22 (by decide +kernel) rfl, zthw (by decide +kernel), by decide +kernel, by decide +kernel⟩
theorem zthIOB : zTh RX2 93 97 "java/lang/IndexOutOfBoundsException" := ⟨by decide +kernel, zt 210 (by decide +kernel) rfl, zt 23 (by decide +kernel) rfl, zthw (by decide +kernel), by decide +kernel, by decide +kernel⟩
theorem zthISE : zTh RX2 68 72 "java/lang/IllegalStateException" := ⟨by decide +kernel, zt 253 (by decide +kernel) rfl, zt 24 (by decide +kernel) rfl, zthw (by decide +kernel), by decide +kernel, by decide +kernel⟩
end
section
section ZMOD
variable {t : ZY} {tb : List ExceptionTableEntry} {E : ZE} {G : ZG} {u : Nat} {Q : State → Prop} {M M0 : ZM} {b pc : Nat} {L : List (Option Value)} {S : List Value} {P P' : ZO → ZM → Prop}
theorem zq_getRs (K : zOK t tb G E) {index ci N k : Nat} {C : String} {T : u_T} {ty : Nat → FieldType} (hd : decode (zyc t) pc = .ok (.getfield index, 3)) (hC : zcl ci C T N ty) (hk : k < N) (hw : Cond.fieldLink (zyn t).cls index (T k).1 (T k).2.1 (T k).2.2.1 ∈ zTs) (hi : zfi ci k = false) {a y : Nat} (ha : zk M a = ci + 1) (hv : zr M a k = some y) (kk : WW E G u Q M b (pc + 3) L (.ref y :: S)) : WW E G u Q M b pc L (.ref a :: S) := zq_getR K hd hC hk hw hi ha hv kk
theorem zq_getRn (K : zOK t tb G E) {index ci N k : Nat} {C : String} {T : u_T} {ty : Nat → FieldType} (hd : decode (zyc t) pc = .ok (.getfield index, 3)) (hC : zcl ci C T N ty) (hk : k < N) (hw : Cond.fieldLink (zyn t).cls index (T k).1 (T k).2.1 (T k).2.2.1 ∈ zTs) (hi : zfi ci k = false) {a : Nat} (ha : zk M a = ci + 1) (hv : zr M a k = none) (kk : WW E G u Q M b (pc + 3) L (.null :: S)) : WW E G u Q M b pc L (.ref a :: S) := zq_getR K hd hC hk hw hi ha hv kk
theorem zq_putRs (K : zOK t tb G E) {index ci N k : Nat} {C : String} {T : u_T} {ty : Nat → FieldType} (hd : decode (zyc t) pc = .ok (.putfield index, 3)) (hC : zcl ci C T N ty) (hk : k < N) (hw : Cond.fieldLink (zyn t).cls index (T k).1 (T k).2.1 (T k).2.2.1 ∈ zTs) (hfin : (T k).2.2.2 = false ∨ ((T k).1 = (zyn t).cls ∧ (zyn t).name = "<init>")) (hty : ∀ r : Option Nat, narrow (ty k) (va_rf r) = va_rf r ∧ fits (ty k) (va_rf r) = true) (hi : zfi ci k = false) {a y : Nat} (ha : zk M a = ci + 1) (kk : WW E G u Q (zsr M a k (some y)) b (pc + 3) L S) : WW E G u Q M b pc L (.ref y :: .ref a :: S) := zq_putR (r := some y) K hd hC hk hw hfin hty hi ha kk
theorem zq_putRn (K : zOK t tb G E) {index ci N k : Nat} {C : String} {T : u_T} {ty : Nat → FieldType} (hd : decode (zyc t) pc = .ok (.putfield index, 3)) (hC : zcl ci C T N ty) (hk : k < N) (hw : Cond.fieldLink (zyn t).cls index (T k).1 (T k).2.1 (T k).2.2.1 ∈ zTs) (hfin : (T k).2.2.2 = false ∨ ((T k).1 = (zyn t).cls ∧ (zyn t).name = "<init>")) (hty : ∀ r : Option Nat, narrow (ty k) (va_rf r) = va_rf r ∧ fits (ty k) (va_rf r) = true) (hi : zfi ci k = false) {a : Nat} (ha : zk M a = ci + 1) (kk : WW E G u Q (zsr M a k none) b (pc + 3) L S) : WW E G u Q M b pc L (.null :: .ref a :: S) := zq_putR (r := none) K hd hC hk hw hfin hty hi ha kk
theorem zq_aalds (K : zOK t tb G E) {a k y : Nat} {i : Int32} (j : Nat) (hd : decode (zyc t) pc = .ok (.aaload, 1)) (ha : zk M a = k) (hk : 8 ≤ k ∧ k ≤ 10) (hi : i = nI j) (hj : j < zn M a) (hn : zn M a < 2 ^ 31) (hv : zr M a j = some y) (kk : WW E G u Q M b (pc + 1) L (.ref y :: S)) : WW E G u Q M b pc L (.int i :: .ref a :: S) := zq_aald K j hd ha hk hi hj hn hv kk
theorem zq_aaldn (K : zOK t tb G E) {a k : Nat} {i : Int32} (j : Nat) (hd : decode (zyc t) pc = .ok (.aaload, 1)) (ha : zk M a = k) (hk : 8 ≤ k ∧ k ≤ 10) (hi : i = nI j) (hj : j < zn M a) (hn : zn M a < 2 ^ 31) (hv : zr M a j = none) (kk : WW E G u Q M b (pc + 1) L (.null :: S)) : WW E G u Q M b pc L (.int i :: .ref a :: S) := zq_aald K j hd ha hk hi hj hn hv kk
/-- a method that answers yes or no and changes nothing -/
def zdec (p : Prop) (M : ZM) : ZO → ZM → Prop := fun o M' => M' = M ∧ ((p ∧ o = .inl (some (.int 1))) ∨ (¬ p ∧ o = .inl (some (.int 0))))
theorem zdec_r {p : Prop} {n : Nat} (k1 : p → WW E G u Q M n (pc + 3) L (.int 1 :: S)) (k0 : ¬ p → WW E G u Q M n (pc + 3) L (.int 0 :: S)) : ∀ (v' : Option Value) (M' : ZM), zdec p M (.inl v') M' → WW E G u Q M' n (pc + 3) L (v'.toList ++ S) := by
  rintro v' M' ⟨rfl, ⟨hp, h⟩ | ⟨hp, h⟩⟩
  · cases h
    exact k1 hp
  · cases h
    exact k0 hp
theorem zdec_x {p : Prop} {n : Nat} : ∀ (En : String) (M' : ZM), zdec p M (.inr En) M' → XX E G u Q M' n pc L En := by
  rintro En M' ⟨-, ⟨-, h⟩ | ⟨-, h⟩⟩ <;> cases h
theorem zdec_1 {p : Prop} (h : p) : zdec p M (.inl (some (.int 1))) M := ⟨rfl, Or.inl ⟨h, rfl⟩⟩
theorem zdec_0 {p : Prop} (h : ¬ p) : zdec p M (.inl (some (.int 0))) M := ⟨rfl, Or.inr ⟨h, rfl⟩⟩
theorem zdec_i {p q : Prop} (h : p ↔ q) {o : ZO} {M' : ZM} (k : zdec p M o M') : zdec q M o M' := by
  rwa [show p = q from propext h] at k
/-- a choice by any proposition -/
noncomputable def zit {α : Type} (p : Prop) (a b : α) : α := @ite α p (Classical.propDecidable p) a b
theorem zit_t {α : Type} {p : Prop} {a b : α} (h : p) : zit p a b = a := if_pos h
theorem zit_f {α : Type} {p : Prop} {a b : α} (h : ¬ p) : zit p a b = b := if_neg h
/-! the reference's object: at x, its rows at q, its state A -/
abbrev ZA : Type := (Nat → Int32) × (Nat → Nat → Int32)
def zar (k : Nat) : Bool := (3 ≤ k && k ≤ 7) || (10 ≤ k && k ≤ 15)
def zln (k : Nat) : Nat := if k ≤ 5 then 12 else if k ≤ 7 then 600 else if k ≤ 12 then 96 else if k = 13 then 2400 else 4
theorem zln_lt (k : Nat) : zln k < 2 ^ 31 := by
  unfold zln
  repeat' split
  all_goals omega
/-- .. w: what it calls thrown, which A leaves out -/
def zR (M : ZM) (x : Nat) (q : Nat → Nat) (w : Int32) (A : ZA) : Prop := zk M x = 4 ∧ (∀ k, zar k = true → zr M x k = some (q k) ∧ zk M (q k) = (if k = 3 then 6 else 5) ∧ zn M (q k) = zln k ∧ ∀ j, zi M (q k) j = A.2 k j) ∧ (zi M x 0 = w ∧ ∀ k, zar k = false → k ≠ 0 → zi M x k = A.1 k) ∧ (∀ j k, zar j = true → zar k = true → q j = q k → j = k)
def zsame (M M' : ZM) (a : Nat) : Prop := zk M' a = zk M a ∧ zn M' a = zn M a ∧ (∀ j, zi M' a j = zi M a j) ∧ (∀ j, zr M' a j = zr M a j) ∧ ∀ j, zj M' a j = zj M a j
theorem zsame.rf {a : Nat} : zsame M M a := ⟨rfl, rfl, fun _ => rfl, fun _ => rfl, fun _ => rfl⟩
theorem zsame.tr {M1 M2 M3 : ZM} {a : Nat} (h : zsame M1 M2 a) (g : zsame M2 M3 a) : zsame M1 M3 a := ⟨g.1.trans h.1, g.2.1.trans h.2.1, fun j => (g.2.2.1 j).trans (h.2.2.1 j), fun j => (g.2.2.2.1 j).trans (h.2.2.2.1 j), fun j => (g.2.2.2.2 j).trans (h.2.2.2.2 j)⟩
theorem zsame.i {a b k : Nat} {v : Int32} (h : b ≠ a) : zsame M (zsi M a k v) b := ⟨rfl, rfl, fun j => by rw [zi_i, if_neg (fun q => h q.1)], fun _ => rfl, fun _ => rfl⟩
theorem zsame.r {a b k : Nat} {v : Option Nat} (h : b ≠ a) : zsame M (zsr M a k v) b := ⟨rfl, rfl, fun _ => rfl, fun j => by rw [zr_r, if_neg (fun q => h q.1)], fun _ => rfl⟩
theorem zsame.j {a b k : Nat} {v : Int64} (h : b ≠ a) : zsame M (zsj M a k v) b := ⟨rfl, rfl, fun _ => rfl, fun _ => rfl, fun j => by rw [zj_j, if_neg (fun q => h q.1)]⟩
theorem zsame.w {a b kd n : Nat} (h : b ≠ a) : zsame M (zw M a kd n) b := ⟨by rw [zk_w, if_neg h], by rw [zn_w, if_neg h], fun j => by rw [zi_w, if_neg h], fun j => by rw [zr_w, if_neg h], fun j => by rw [zj_w, if_neg h]⟩
/-- nothing changes but the reference's cells -/
def zSm (x : Nat) (q : Nat → Nat) (M M' : ZM) : Prop := ∀ a, a ≠ x → (∀ k, zar k = true → a ≠ q k) → zsame M M' a
theorem zSm.rf {x : Nat} {q : Nat → Nat} : zSm x q M M := fun _ _ _ => zsame.rf
theorem zSm.tr {x : Nat} {q : Nat → Nat} {M1 M2 M3 : ZM} (h : zSm x q M1 M2) (g : zSm x q M2 M3) : zSm x q M1 M3 := fun a h1 h2 => (h a h1 h2).tr (g a h1 h2)
def zsc (A : ZA) (k : Nat) (v : Int32) : ZA := (zo A.1 k v, A.2)
def zsa (A : ZA) (k j : Nat) (v : Int32) : ZA := (A.1, zu A.2 k j v)
theorem zsc_1 (A : ZA) (k : Nat) (v : Int32) (j : Nat) : (zsc A k v).1 j = if j = k then v else A.1 j := rfl
theorem zsc_2 (A : ZA) (k : Nat) (v : Int32) : (zsc A k v).2 = A.2 := rfl
theorem zsa_1 (A : ZA) (k j : Nat) (v : Int32) : (zsa A k j v).1 = A.1 := rfl
theorem zsa_2 (A : ZA) (k j : Nat) (v : Int32) (k' i : Nat) : (zsa A k j v).2 k' i = if k' = k ∧ i = j then v else A.2 k' i := rfl
theorem zsa_n (A : ZA) (k j : Nat) (v : Int32) (k' : Nat) (h : k' ≠ k) : (zsa A k j v).2 k' = A.2 k' := funext fun i => by rw [zsa_2, if_neg (fun q => h q.1)]
section ZRS
variable {x : Nat} {q : Nat → Nat} {w : Int32} {A : ZA}
theorem zR.ne (h : zR M x q w A) {k : Nat} (hk : zar k = true) : q k ≠ x := fun e => by
  have h1 := (h.2.1 k hk).2.1
  rw [e, h.1] at h1
  split at h1 <;> omega
theorem zR.sc (h : zR M x q w A) {k : Nat} (hk : zar k = false) (h0 : k ≠ 0) {v : Int32} : zR (zsi M x k v) x q w (zsc A k v) := by
  refine ⟨h.1, fun j hj => ?_, ⟨?_, fun j hj hj0 => ?_⟩, h.2.2.2⟩
  · obtain ⟨h1, h2, h3, h4⟩ := h.2.1 j hj
    exact ⟨h1, h2, h3, fun i => by rw [zi_i, if_neg (fun z => h.ne hj z.1)]; exact h4 i⟩
  · rw [zi_i, if_neg (fun z => h0 z.2.symm)]
    exact h.2.2.1.1
  · rw [zi_i, zsc_1]
    by_cases e : j = k
    · rw [if_pos ⟨rfl, e⟩, if_pos e]
    · rw [if_neg (fun z => e z.2), if_neg e]
      exact h.2.2.1.2 j hj hj0
theorem zR.th (h : zR M x q w A) {v : Int32} : zR (zsi M x 0 v) x q v A := by
  refine ⟨h.1, fun j hj => ?_, ⟨?_, fun j hj hj0 => ?_⟩, h.2.2.2⟩
  · obtain ⟨h1, h2, h3, h4⟩ := h.2.1 j hj
    exact ⟨h1, h2, h3, fun i => by rw [zi_i, if_neg (fun z => h.ne hj z.1)]; exact h4 i⟩
  · rw [zi_i, if_pos ⟨rfl, rfl⟩]
  · rw [zi_i, if_neg (fun z => hj0 z.2)]
    exact h.2.2.1.2 j hj hj0
theorem zR.ar (h : zR M x q w A) {k j : Nat} (hk : zar k = true) {v : Int32} : zR (zsi M (q k) j v) x q w (zsa A k j v) := by
  refine ⟨h.1, fun k' hk' => ?_, ⟨?_, fun k' hk' hk0 => ?_⟩, h.2.2.2⟩
  · obtain ⟨h1, h2, h3, h4⟩ := h.2.1 k' hk'
    refine ⟨h1, h2, h3, fun i => ?_⟩
    rw [zi_i, zsa_2]
    by_cases e : k' = k
    · subst e
      by_cases ei : i = j
      · rw [if_pos ⟨rfl, ei⟩, if_pos ⟨rfl, ei⟩]
      · rw [if_neg (fun z => ei z.2), if_neg (fun z => ei z.2)]
        exact h4 i
    · rw [if_neg (fun z => e (h.2.2.2 k' k hk' hk z.1)), if_neg (fun z => e z.1)]
      exact h4 i
  · rw [zi_i, if_neg (fun z => h.ne hk z.1.symm)]
    exact h.2.2.1.1
  · rw [zi_i, if_neg (fun z => h.ne hk z.1.symm), zsa_1]
    exact h.2.2.1.2 k' hk' hk0
theorem zm_ld (K : zOK t tb G E) {k : Nat} {i : Int32} (j : Nat) (hd : decode (zyc t) pc = .ok (.iaload, 1)) (hk : zar k = true ∧ k ≠ 3) (hR : zR M x q w A) (hi : i = nI j) (hj : j < zln k) (kk : WW E G u Q M b (pc + 1) L (.int (A.2 k j) :: S)) : WW E G u Q M b pc L (.int i :: .ref (q k) :: S) := by
  obtain ⟨h1, h2, h3, h4⟩ := hR.2.1 k hk.1
  rw [if_neg hk.2] at h2
  refine zq_iald K j hd h2 hi (by rw [h3]; exact hj) (by rw [h3]; exact zln_lt k) ?_
  rw [h4]
  exact kk
theorem zm_st (K : zOK t tb G E) {k : Nat} {i v : Int32} (j : Nat) (hd : decode (zyc t) pc = .ok (.iastore, 1)) (hk : zar k = true ∧ k ≠ 3) (hR : zR M x q w A) (hS : zSm x q M0 M) (hi : i = nI j) (hj : j < zln k) (kk : ∀ M', zR M' x q w (zsa A k j v) → zSm x q M0 M' → WW E G u Q M' b (pc + 1) L S) : WW E G u Q M b pc L (.int v :: .int i :: .ref (q k) :: S) := by
  obtain ⟨h1, h2, h3, h4⟩ := hR.2.1 k hk.1
  rw [if_neg hk.2] at h2
  refine zq_iast K j hd h2 hi (by rw [h3]; exact hj) (by rw [h3]; exact zln_lt k) ?_
  exact kk _ (hR.ar hk.1) (hS.tr (fun a _ h2 => zsame.i (h2 k hk.1)))
/-- what a call of the reference's may have done -/
def zRP (x : Nat) (q : Nat → Nat) (M : ZM) (v : Option Value) (w : Int32) (A' : ZA) : ZO → ZM → Prop := fun o M' => o = .inl v ∧ zR M' x q w A' ∧ zSm x q M M'
theorem zRP_r {v : Option Value} {n : Nat} {A' : ZA} (hS : zSm x q M0 M) (k : ∀ M', zR M' x q w A' → zSm x q M0 M' → WW E G u Q M' n (pc + 3) L (v.toList ++ S)) : ∀ (v' : Option Value) (M' : ZM), zRP x q M v w A' (.inl v') M' → WW E G u Q M' n (pc + 3) L (v'.toList ++ S) := by
  rintro v' M' ⟨h1, h2, h3⟩
  cases h1
  exact k M' h2 (hS.tr h3)
theorem zRP_x {v : Option Value} {n : Nat} {A' : ZA} : ∀ (En : String) (M' : ZM), zRP x q M v w A' (.inr En) M' → XX E G u Q M' n pc L En := by
  rintro En M' ⟨h1, -⟩
  cases h1
end ZRS
end ZMOD
end
section
section ZNUM
variable {t : ZY} {tb : List ExceptionTableEntry} {E : ZE} {G : ZG} {u : Nat} {Q : State → Prop} {M M0 : ZM} {b pc : Nat} {L : List (Option Value)} {S : List Value} {P P' : ZO → ZM → Prop}
theorem zq_top {y v : Int32} (hv : y = v) (k : WW E G u Q M b pc L (.int v :: S)) : WW E G u Q M b pc L (.int y :: S) := by rw [hv]; exact k
/-! arithmetic on numbers of Nat -/
theorem zq_iaddN (K : zOK t tb G E) {x y : Nat} (hd : decode (zyc t) pc = .ok (.iadd, 1)) (k : WW E G u Q M b (pc + 1) L (.int (nI (x + y)) :: S)) : WW E G u Q M b pc L (.int (nI y) :: .int (nI x) :: S) := zq_iadd K hd (by rw [nI_add]; exact k)
theorem zq_imulN (K : zOK t tb G E) {x y : Nat} (hd : decode (zyc t) pc = .ok (.imul, 1)) (k : WW E G u Q M b (pc + 1) L (.int (nI (x * y)) :: S)) : WW E G u Q M b pc L (.int (nI y) :: .int (nI x) :: S) := zq_imul K hd (by rw [pk_mul]; exact k)
theorem zq_isubN (K : zOK t tb G E) {x y : Nat} (hd : decode (zyc t) pc = .ok (.isub, 1)) (h : y ≤ x) (k : WW E G u Q M b (pc + 1) L (.int (nI (x - y)) :: S)) : WW E G u Q M b pc L (.int (nI y) :: .int (nI x) :: S) := zq_isub K hd (by rw [pk_sub h]; exact k)
theorem zq_idivN (K : zOK t tb G E) {x y : Nat} (hd : decode (zyc t) pc = .ok (.idiv, 1)) (h : x < 2 ^ 31 ∧ 0 < y ∧ y < 2 ^ 31) (k : WW E G u Q M b (pc + 1) L (.int (nI (x / y)) :: S)) : WW E G u Q M b pc L (.int (nI y) :: .int (nI x) :: S) := zq_idiv K hd (nI_ne0 h.2.1 h.2.2) (by rw [pk_div h.1 h.2.1 h.2.2]; exact k)
theorem zq_iremN (K : zOK t tb G E) {x y : Nat} (hd : decode (zyc t) pc = .ok (.irem, 1)) (h : x < 2 ^ 31 ∧ 0 < y ∧ y < 2 ^ 31) (k : WW E G u Q M b (pc + 1) L (.int (nI (x % y)) :: S)) : WW E G u Q M b pc L (.int (nI y) :: .int (nI x) :: S) := zq_irem K hd (nI_ne0 h.2.1 h.2.2) (by rw [pk_rem h.1 h.2.1 h.2.2]; exact k)
theorem zq_iincN (K : zOK t tb G E) {i x : Nat} (hd : decode (zyc t) pc = .ok (.iinc i 1, 3)) (hl : L[i]? = some (some (.int (nI x)))) (hn : i < zyl t) (kk : WW E G u Q M b (pc + 3) (L.set i (some (.int (nI (x + 1))))) S) : WW E G u Q M b pc L S := zq_iinc K hd hl (by rw [← nI_1]; rfl) hn kk
/-! comparisons of numbers of Nat -/
theorem zq_icmp_eqN (K : zOK t tb G E) {x y : Nat} {off : Int} (tgt : Nat) (hd : decode (zyc t) pc = .ok (.if_icmp .eq off, 3)) (ht : (pc : Int) + off = (tgt : Int)) (hh : x < 2 ^ 31 ∧ y < 2 ^ 31) (kt : x = y → WW E G u Q M b tgt L S) (kf : x ≠ y → WW E G u Q M b (pc + 3) L S) : WW E G u Q M b pc L (.int (nI y) :: .int (nI x) :: S) := zq_icmp_eq K tgt hd ht (fun h => kt ((nI_eq hh.1 hh.2).mp h)) (fun h => kf (fun e => h ((nI_eq hh.1 hh.2).mpr e)))
theorem zq_if_eqN (K : zOK t tb G E) {x : Nat} {off : Int} (tgt : Nat) (hd : decode (zyc t) pc = .ok (.ifCond .eq off, 3)) (ht : (pc : Int) + off = (tgt : Int)) (hh : x < 2 ^ 31) (kt : x = 0 → WW E G u Q M b tgt L S) (kf : x ≠ 0 → WW E G u Q M b (pc + 3) L S) : WW E G u Q M b pc L (.int (nI x) :: S) := zq_if_eq K tgt hd ht (fun h => kt ((nI_eq hh (show (0 : Nat) < 2 ^ 31 by decide)).mp h)) (fun h => kf (fun e => h ((nI_eq hh (show (0 : Nat) < 2 ^ 31 by decide)).mpr e)))
theorem zq_icmp_neN (K : zOK t tb G E) {x y : Nat} {off : Int} (tgt : Nat) (hd : decode (zyc t) pc = .ok (.if_icmp .ne off, 3)) (ht : (pc : Int) + off = (tgt : Int)) (hh : x < 2 ^ 31 ∧ y < 2 ^ 31) (kt : x ≠ y → WW E G u Q M b tgt L S) (kf : x = y → WW E G u Q M b (pc + 3) L S) : WW E G u Q M b pc L (.int (nI y) :: .int (nI x) :: S) := zq_icmp_ne K tgt hd ht (fun h => kt (fun e => h ((nI_eq hh.1 hh.2).mpr e))) (fun h => kf ((nI_eq hh.1 hh.2).mp h))
theorem zq_if_neN (K : zOK t tb G E) {x : Nat} {off : Int} (tgt : Nat) (hd : decode (zyc t) pc = .ok (.ifCond .ne off, 3)) (ht : (pc : Int) + off = (tgt : Int)) (hh : x < 2 ^ 31) (kt : x ≠ 0 → WW E G u Q M b tgt L S) (kf : x = 0 → WW E G u Q M b (pc + 3) L S) : WW E G u Q M b pc L (.int (nI x) :: S) := zq_if_ne K tgt hd ht (fun h => kt (fun e => h ((nI_eq hh (show (0 : Nat) < 2 ^ 31 by decide)).mpr e))) (fun h => kf ((nI_eq hh (show (0 : Nat) < 2 ^ 31 by decide)).mp h))
theorem zq_icmp_ltN (K : zOK t tb G E) {x y : Nat} {off : Int} (tgt : Nat) (hd : decode (zyc t) pc = .ok (.if_icmp .lt off, 3)) (ht : (pc : Int) + off = (tgt : Int)) (hh : x < 2 ^ 31 ∧ y < 2 ^ 31) (kt : x < y → WW E G u Q M b tgt L S) (kf : y ≤ x → WW E G u Q M b (pc + 3) L S) : WW E G u Q M b pc L (.int (nI y) :: .int (nI x) :: S) := zq_icmp_lt K tgt hd ht (fun h => kt ((nI_ltI hh.1 hh.2).mp h)) (fun h => kf (Nat.not_lt.mp (fun e => h ((nI_ltI hh.1 hh.2).mpr e))))
theorem zq_if_ltN (K : zOK t tb G E) {x : Nat} {off : Int} (tgt : Nat) (hd : decode (zyc t) pc = .ok (.ifCond .lt off, 3)) (ht : (pc : Int) + off = (tgt : Int)) (hh : x < 2 ^ 31) (kt : x < 0 → WW E G u Q M b tgt L S) (kf : 0 ≤ x → WW E G u Q M b (pc + 3) L S) : WW E G u Q M b pc L (.int (nI x) :: S) := zq_if_lt K tgt hd ht (fun h => kt ((nI_ltI hh (show (0 : Nat) < 2 ^ 31 by decide)).mp h)) (fun h => kf (Nat.not_lt.mp (fun e => h ((nI_ltI hh (show (0 : Nat) < 2 ^ 31 by decide)).mpr e))))
theorem zq_icmp_geN (K : zOK t tb G E) {x y : Nat} {off : Int} (tgt : Nat) (hd : decode (zyc t) pc = .ok (.if_icmp .ge off, 3)) (ht : (pc : Int) + off = (tgt : Int)) (hh : x < 2 ^ 31 ∧ y < 2 ^ 31) (kt : y ≤ x → WW E G u Q M b tgt L S) (kf : x < y → WW E G u Q M b (pc + 3) L S) : WW E G u Q M b pc L (.int (nI y) :: .int (nI x) :: S) := zq_icmp_ge K tgt hd ht (fun h => kt ((nI_leI hh.2 hh.1).mp h)) (fun h => kf (Nat.not_le.mp (fun e => h ((nI_leI hh.2 hh.1).mpr e))))
theorem zq_if_geN (K : zOK t tb G E) {x : Nat} {off : Int} (tgt : Nat) (hd : decode (zyc t) pc = .ok (.ifCond .ge off, 3)) (ht : (pc : Int) + off = (tgt : Int)) (hh : x < 2 ^ 31) (kt : 0 ≤ x → WW E G u Q M b tgt L S) (kf : x < 0 → WW E G u Q M b (pc + 3) L S) : WW E G u Q M b pc L (.int (nI x) :: S) := zq_if_ge K tgt hd ht (fun h => kt ((nI_leI (show (0 : Nat) < 2 ^ 31 by decide) hh).mp h)) (fun h => kf (Nat.not_le.mp (fun e => h ((nI_leI (show (0 : Nat) < 2 ^ 31 by decide) hh).mpr e))))
theorem zq_icmp_gtN (K : zOK t tb G E) {x y : Nat} {off : Int} (tgt : Nat) (hd : decode (zyc t) pc = .ok (.if_icmp .gt off, 3)) (ht : (pc : Int) + off = (tgt : Int)) (hh : x < 2 ^ 31 ∧ y < 2 ^ 31) (kt : y < x → WW E G u Q M b tgt L S) (kf : x ≤ y → WW E G u Q M b (pc + 3) L S) : WW E G u Q M b pc L (.int (nI y) :: .int (nI x) :: S) := zq_icmp_gt K tgt hd ht (fun h => kt ((nI_ltI hh.2 hh.1).mp h)) (fun h => kf (Nat.not_lt.mp (fun e => h ((nI_ltI hh.2 hh.1).mpr e))))
theorem zq_if_gtN (K : zOK t tb G E) {x : Nat} {off : Int} (tgt : Nat) (hd : decode (zyc t) pc = .ok (.ifCond .gt off, 3)) (ht : (pc : Int) + off = (tgt : Int)) (hh : x < 2 ^ 31) (kt : 0 < x → WW E G u Q M b tgt L S) (kf : x ≤ 0 → WW E G u Q M b (pc + 3) L S) : WW E G u Q M b pc L (.int (nI x) :: S) := zq_if_gt K tgt hd ht (fun h => kt ((nI_ltI (show (0 : Nat) < 2 ^ 31 by decide) hh).mp h)) (fun h => kf (Nat.not_lt.mp (fun e => h ((nI_ltI (show (0 : Nat) < 2 ^ 31 by decide) hh).mpr e))))
theorem zq_icmp_leN (K : zOK t tb G E) {x y : Nat} {off : Int} (tgt : Nat) (hd : decode (zyc t) pc = .ok (.if_icmp .le off, 3)) (ht : (pc : Int) + off = (tgt : Int)) (hh : x < 2 ^ 31 ∧ y < 2 ^ 31) (kt : x ≤ y → WW E G u Q M b tgt L S) (kf : y < x → WW E G u Q M b (pc + 3) L S) : WW E G u Q M b pc L (.int (nI y) :: .int (nI x) :: S) := zq_icmp_le K tgt hd ht (fun h => kt ((nI_leI hh.1 hh.2).mp h)) (fun h => kf (Nat.not_le.mp (fun e => h ((nI_leI hh.1 hh.2).mpr e))))
theorem zq_if_leN (K : zOK t tb G E) {x : Nat} {off : Int} (tgt : Nat) (hd : decode (zyc t) pc = .ok (.ifCond .le off, 3)) (ht : (pc : Int) + off = (tgt : Int)) (hh : x < 2 ^ 31) (kt : x ≤ 0 → WW E G u Q M b tgt L S) (kf : 0 < x → WW E G u Q M b (pc + 3) L S) : WW E G u Q M b pc L (.int (nI x) :: S) := zq_if_le K tgt hd ht (fun h => kt ((nI_leI hh (show (0 : Nat) < 2 ^ 31 by decide)).mp h)) (fun h => kf (Nat.not_le.mp (fun e => h ((nI_leI hh (show (0 : Nat) < 2 ^ 31 by decide)).mpr e))))
end ZNUM
end
section
/-! the reference: small questions -/
/-- n is one of 0 to k -/
def zOn (n : Int32) (k : Nat) : Prop := ∃ j : Nat, j ≤ k ∧ n = nI j
theorem zOn_iff {n : Int32} {k : Nat} (hk : k < 2 ^ 31) : (nI 0 ≤ n ∧ n ≤ nI k) ↔ zOn n k := by
  constructor
  · rintro ⟨h1, h2⟩
    obtain ⟨j, hj, rfl⟩ := nI_of (x := n) (Int32.not_lt.mpr (by rw [← nI_0]; exact h1))
    exact ⟨j, (nI_leI hj hk).mp h2, rfl⟩
  · rintro ⟨j, hj, rfl⟩
    exact ⟨(nI_leI (by decide) (by omega)).mpr (Nat.zero_le _), (nI_leI (by omega) hk).mpr hj⟩
/-- how many directories there were, which are there -/
def zBas (A : ZA) (D : Nat) : Prop := A.1 2 = nI D ∧ 1 ≤ D ∧ D ≤ 12 ∧ ∀ j, j < 12 → (A.2 3 j = 1 ∧ j < D) ∨ A.2 3 j = 0
/-- d is a directory -/
def zIsD (A : ZA) (d : Int32) : Prop := ∃ j : Nat, j < 12 ∧ d = nI j ∧ A.2 3 j = 1
theorem one_ne0 : ¬ (1 : Int32) = 0 := by decide

/-- where the fragment begins that has the hash h: the last place up to h with a size -/
def zfg (s : Nat → Int32) (d : Nat) : Nat → Nat
  | 0 => 0
  | h + 1 => if s (8 * d + (h + 1)) = 0 then zfg s d h else h + 1
theorem zfg_le (s : Nat → Int32) (d : Nat) : ∀ h, zfg s d h ≤ h
  | 0 => Nat.le_refl _
  | h + 1 => by
    unfold zfg
    split
    · exact Nat.le_succ_of_le (zfg_le s d h)
    · exact Nat.le_refl _
/-- the hash of a name -/
def zhs (n : Nat) : Nat := (5 * n + 3) % 8
theorem zhs_lt (n : Nat) : zhs n < 8 := Nat.mod_lt _ (by decide)
/-- the fragment of a name: 8 times the directory, and the beginning -/
def zfn (A : ZA) (d n : Nat) : Nat := 8 * d + zfg (A.2 10) d (zhs n)
theorem zfn_lt (A : ZA) {d n : Nat} (hd : d < 12) : zfn A d n < 96 := by
  have h1 := zfg_le (A.2 10) d (zhs n)
  have h2 := zhs_lt n
  unfold zfn
  omega
theorem zfn_div (A : ZA) (d n : Nat) : zfn A d n / 8 = d := by
  have h1 := zfg_le (A.2 10) d (zhs n)
  have h2 := zhs_lt n
  unfold zfn
  omega
end
section
/-! the reference: ends, changes, who serves, what is frozen -/
/-- the parent's number, and the name there -/
def zpar (A : ZA) (d : Nat) : Nat := (A.2 4 d).toNatClampNeg
def znam (A : ZA) (d : Nat) : Nat := (A.2 5 d).toNatClampNeg
def zinh (A : ZA) (f : Nat) : Nat := zfn A (zpar A (f / 8)) (znam A (f / 8))
/-- the directory d hangs at a name of a directory that is there -/
def zUp (A : ZA) (d : Nat) : Prop := A.2 4 d = nI (zpar A d) ∧ zpar A d < 12 ∧ A.2 3 (zpar A d) = 1 ∧ A.2 5 d = nI (znam A d) ∧ znam A d < 50
/-- from d it goes up to the root in at most k steps -/
def zDp (A : ZA) : Nat → Nat → Prop
  | 0, d => d = 0
  | k + 1, d => d = 0 ∨ (zUp A d ∧ zDp A k (zpar A d))
/-- directories that are there have their first fragment; fragments of the root have owners -/
def zFr (A : ZA) : Prop := (∀ d, d < 12 → A.2 3 d = 1 → ¬ A.2 10 (8 * d) = 0) ∧ ∀ h, h < 8 → ¬ A.2 10 h = 0 → ¬ A.2 11 h = -1
def zsvN (A : ZA) : Nat → Nat → Int32
  | 0, _ => nI 0
  | k + 1, f => if A.2 11 f = -1 then zsvN A k (zinh A f) else A.2 11 f
def zfzN (A : ZA) : Nat → Nat → Bool
  | 0, _ => false
  | k + 1, f => if ¬ A.1 16 = -1 ∧ nI f = A.1 16 then true else if A.2 11 f = -1 then zfzN A k (zinh A f) else false
def zsv (A : ZA) (f : Nat) : Int32 := zsvN A 12 f
def zfz (A : ZA) (f : Nat) : Bool := zfzN A 12 f
theorem zfg_ne {s : Nat → Int32} {d : Nat} (h0 : ¬ s (8 * d) = 0) : ∀ h, ¬ s (8 * d + zfg s d h) = 0
  | 0 => h0
  | h + 1 => by
    unfold zfg
    split
    · exact zfg_ne h0 h
    · assumption
theorem zinh_ok {A : ZA} (hF : zFr A) {f : Nat} (hu : zUp A (f / 8)) : zinh A f < 96 ∧ zinh A f / 8 = zpar A (f / 8) ∧ ¬ A.2 10 (zinh A f) = 0 ∧ A.2 3 (zinh A f / 8) = 1 := by
  have h1 := zfn_div A (zpar A (f / 8)) (znam A (f / 8))
  refine ⟨zfn_lt A hu.2.1, h1, zfg_ne (hF.1 _ hu.2.1 hu.2.2.1) _, ?_⟩
  rw [show zinh A f / 8 = zpar A (f / 8) from h1]
  exact hu.2.2.1
theorem zDp_up {A : ZA} {k f : Nat} (hF : zFr A) (hx : zDp A (k + 1) (f / 8)) (h3 : f < 96) (h4 : ¬ A.2 10 f = 0) (h9 : A.2 11 f = -1) : zUp A (f / 8) ∧ zDp A k (zpar A (f / 8)) :=
  hx.resolve_left (fun e => hF.2 f (by omega) h4 h9)
theorem zDp_0 {A : ZA} {f : Nat} (hF : zFr A) (hx : zDp A 0 (f / 8)) (h3 : f < 96) (h4 : ¬ A.2 10 f = 0) : ¬ A.2 11 f = -1 :=
  hF.2 f (by have h : f / 8 = 0 := hx; omega) h4
theorem zfzN_no {A : ZA} (h : A.1 16 = -1) : ∀ k f, zfzN A k f = false
  | 0, _ => rfl
  | k + 1, f => by
    unfold zfzN
    rw [if_neg (fun z => z.1 h)]
    split
    · exact zfzN_no h k _
    · rfl
theorem zfzN_at {A : ZA} {f : Nat} (h : ¬ A.1 16 = -1) (e : nI f = A.1 16) (k : Nat) : zfzN A (k + 1) f = true := by
  unfold zfzN
  rw [if_pos ⟨h, e⟩]
theorem zfzN_own {A : ZA} {f : Nat} (e : ¬ nI f = A.1 16) (h : ¬ A.2 11 f = -1) (k : Nat) : zfzN A (k + 1) f = false := by
  unfold zfzN
  rw [if_neg (fun z => e z.2), if_neg h]
theorem zfzN_up {A : ZA} {f : Nat} (e : ¬ nI f = A.1 16) (h : A.2 11 f = -1) (k : Nat) : zfzN A (k + 1) f = zfzN A k (zinh A f) := by
  rw [zfzN, if_neg (fun z => e z.2), if_pos h]
/-- all leases on a name end; those of others than ex are recalled: for the first k clients -/
def zEn (A : ZA) (a : Nat) (ex : Int32) : Nat → ZA
  | 0 => A
  | k + 1 => zsa (zsa (zEn A a ex k) 14 k ((zEn A a ex k).2 14 k + (if ¬ nI k = ex ∧ (zEn A a ex k).1 1 < (zEn A a ex k).2 13 (600 * k + a) then nI 1 else nI 0))) 13 (600 * k + a) (nI 0)
/-- a client changes a name -/
def zCh (A : ZA) (c : Int32) (d n : Nat) : ZA := zEn (zsa A 12 (zfn A d n) (A.2 12 (zfn A d n) + nI 1)) (50 * d + n) c 4
end
section
/-! the reference: names are looked up, made -/
theorem zOn_N {n : Int32} {k : Nat} (h : zOn n k) : ∃ j, j < k + 1 ∧ n = nI j := h.elim fun j hj => ⟨j, by omega, hj.2⟩
/-- client, directory and name are good: c', d', n' -/
def zGd (A : ZA) (c d n : Int32) (c' d' n' : Nat) : Prop := c = nI c' ∧ c' < 4 ∧ d = nI d' ∧ d' < 12 ∧ A.2 3 d' = 1 ∧ n = nI n' ∧ n' < 50
/-- they are not: 1 or 2 -/
def zBad (A : ZA) (c d n : Int32) (k : Nat) : Prop := (k = 1 ∧ ¬ (zOn c 3 ∧ zOn n 49)) ∨ (k = 2 ∧ zOn c 3 ∧ zOn n 49 ∧ ¬ zIsD A d)
theorem zGd_or (A : ZA) (c d n : Int32) : (∃ k, zBad A c d n k) ∨ ∃ c' d' n', zGd A c d n c' d' n' := by
  by_cases h1 : zOn c 3 ∧ zOn n 49
  · by_cases h2 : zIsD A d
    · obtain ⟨⟨c', hc, ec⟩, ⟨n', hn, en⟩⟩ := h1
      obtain ⟨d', hd, ed, hl⟩ := h2
      exact Or.inr ⟨c', d', n', ec, by omega, ed, hd, hl, en, by omega⟩
    · exact Or.inl ⟨2, Or.inr ⟨rfl, h1.1, h1.2, h2⟩⟩
  · exact Or.inl ⟨1, Or.inl ⟨rfl, h1⟩⟩
theorem zBad_k {A : ZA} {c d n : Int32} {k : Nat} (h : zBad A c d n k) : 0 < k ∧ k < 3 := by
  rcases h with ⟨rfl, -⟩ | ⟨rfl, -⟩ <;> omega
theorem zGd_i {A : ZA} {c d n : Int32} {c' d' n' : Nat} (h : zGd A c d n c' d' n') : zOn c 3 ∧ zOn n 49 ∧ zIsD A d :=
  ⟨⟨c', by have := h.2.1; omega, h.1⟩, ⟨n', by have := h.2.2.2.2.2.2; omega, h.2.2.2.2.2.1⟩, ⟨d', h.2.2.2.1, h.2.2.1, h.2.2.2.2.1⟩⟩
/-- what the reference rests on -/
def zWf (A : ZA) : Prop := (∃ D, zBas A D) ∧ zFr A ∧ ∀ d, d < 12 → A.2 3 d = 1 → zDp A 11 d
/-- the name is taken, or its fragment frozen -/
def zBz (A : ZA) (d n : Nat) : Prop := ¬ A.2 6 (50 * d + n) = -1 ∨ zfz A (zfn A d n) = true
/-- .. whether a name can be made: 0, or why not -/
def zNw (A : ZA) (c d n : Int32) (k : Nat) : Prop := zBad A c d n k ∨ ∃ c' d' n', zGd A c d n c' d' n' ∧ ((k = 3 ∧ zBz A d' n') ∨ (k = 0 ∧ ¬ zBz A d' n'))
def zLk (A : ZA) (c d n : Nat) : ZA := if A.1 1 < A.2 13 (600 * c + (50 * d + n)) then zsa A 15 c (A.2 15 c + nI 1) else zsa (zsa A 12 (zfn A d n) (A.2 12 (zfn A d n) + nI 1)) 13 (600 * c + (50 * d + n)) (A.1 1 + nI 10)
/-- the directory d begins, its fragment with the owner o: the first k hashes -/
def zBg (A : ZA) (d : Nat) (o : Int32) : Nat → ZA
  | 0 => zsa A 3 d (nI 1)
  | k + 1 => zsa (zsa (zsa (zBg A d o k) 10 (8 * d + k) (if k = 0 then nI 8 else nI 0)) 11 (8 * d + k) (if k = 0 then o else -1)) 12 (8 * d + k) (nI 0)
/-- a directory D is made -/
def zMk (A : ZA) (c d n D : Nat) : ZA := zBg (zsa (zsa (zsa (zCh (zsc A 2 (nI (D + 1))) (nI c) d n) 6 (50 * d + n) (-2 - nI D)) 4 D (nI d)) 5 D (nI n)) D (-1) 8
theorem zFr_sc {A : ZA} {k : Nat} {v : Int32} (h : zFr A) : zFr (zsc A k v) := h
def zLn (A : ZA) (a : Nat) (f : Int32) : ZA := zsc (zsa (zsa A 6 a f) 7 a (A.1 8)) 8 (A.1 8 + nI 1)
def zMf (A : ZA) (c d n F : Nat) : ZA := zsc (zLn (zCh A (nI c) d n) (50 * d + n) (nI F)) 9 (nI (F + 1))
theorem zEn_1 (A : ZA) (a : Nat) (ex : Int32) : ∀ k, (zEn A a ex k).1 = A.1
  | 0 => rfl
  | k + 1 => zEn_1 A a ex k
theorem zCh_1 (A : ZA) (c : Int32) (d n : Nat) : (zCh A c d n).1 = A.1 := zEn_1 _ _ _ _
end
section
/-! the reference: links, remove, rename -/
/-- how many of the first k -/
def zcN (p : Nat → Bool) : Nat → Nat
  | 0 => 0
  | k + 1 => zcN p k + (if p k = true then 1 else 0)
theorem zcN_t {p : Nat → Bool} {k : Nat} (h : p k = true) : zcN p (k + 1) = zcN p k + 1 := by rw [zcN, if_pos h]
theorem zcN_f {p : Nat → Bool} {k : Nat} (h : ¬ p k = true) : zcN p (k + 1) = zcN p k + 0 := by rw [zcN, if_neg h]
theorem zcN_le (p : Nat → Bool) : ∀ k, zcN p k ≤ k
  | 0 => Nat.le_refl _
  | k + 1 => by
    have := zcN_le p k
    unfold zcN
    split <;> omega
def zpl (A : ZA) (f : Int32) : Nat → Bool := fun k => decide (A.2 6 k = f)
def zpu (A : ZA) (d : Nat) : Nat → Bool := fun k => !decide (A.2 6 (50 * d + k) = -1)
/-- a file's number, of F -/
def zFn (F : Nat) (f : Int32) : Prop := ∃ j, j < F ∧ f = nI j
theorem zFn_iff {F : Nat} (hF : F ≤ 30) {f : Int32} : (nI 0 ≤ f ∧ f ≤ nI F - nI 1) ↔ zFn F f := by
  match F, hF with
  | 0, _ =>
    constructor
    · rintro ⟨h1, h2⟩
      have h3 : nI 0 ≤ nI 0 - nI 1 := Int32.le_trans h1 h2
      exact absurd h3 (by decide)
    · rintro ⟨j, hj, -⟩
      exact absurd hj (Nat.not_lt_zero j)
  | F + 1, hF =>
    rw [pk_sub (by omega), Nat.add_sub_cancel, zOn_iff (by omega)]
    constructor
    · rintro ⟨j, hj, e⟩
      exact ⟨j, by omega, e⟩
    · rintro ⟨j, hj, e⟩
      exact ⟨j, by omega, e⟩
/-- a further link -/
def zLi (A : ZA) (c d n : Nat) (f : Int32) : ZA := zLn (zCh A (nI c) d n) (50 * d + n) f
theorem zdv : ∀ e : Nat, e < 12 → (¬ (-1 : Int32) ≤ -2 - nI e) ∧ -2 - (-2 - nI e) = nI e ∧ ¬ (-2 - nI e : Int32) = -1 := by decide +kernel
theorem zfv' : ∀ f : Nat, f < 30 → ((-1 : Int32) ≤ nI f) ∧ ¬ nI f = -1 := by decide +kernel
/-- held: names in it stand for something, or one of its fragments moves -/
def zHd (A : ZA) (d : Nat) : Prop := 0 < zcN (zpu A d) 50 ∨ (¬ A.1 16 = -1 ∧ A.1 16 = nI (A.1 16).toNatClampNeg ∧ (A.1 16).toNatClampNeg / 8 = d)
def zMv (A : ZA) : Prop := A.1 16 = -1 ∨ ∃ m, m < 96 ∧ A.1 16 = nI m
def zZ8 (A : ZA) (e : Nat) : Nat → ZA
  | 0 => A
  | k + 1 => zsa (zZ8 A e k) 10 (8 * e + k) (nI 0)
def zZu (A : ZA) (e c : Nat) : Nat → ZA
  | 0 => A
  | n + 1 => zsa (zZu A e c n) 13 (600 * c + (50 * e + n)) (nI 0)
def zZv (A : ZA) (e : Nat) : Nat → ZA
  | 0 => A
  | c + 1 => zZu (zZv A e c) e c 50
/-- a link is removed -/
def zRf (A : ZA) (c d n : Nat) : ZA := zsa (zCh A (nI c) d n) 6 (50 * d + n) (-1)
/-- the directory e is removed -/
def zRd (A : ZA) (c d n e : Nat) : ZA := zZv (zZ8 (zsa (zRf A c d n) 3 e (nI 0)) e 8) e 4
/-- does the way up from d meet top -/
def zblN (A : ZA) : Nat → Nat → Nat → Bool
  | 0, d, e => decide (d = e)
  | k + 1, d, e => if d = 0 ∨ d = e then decide (d = e) else zblN A k (zpar A d) e
/-- a link is renamed; a directory e is -/
def zRn (A : ZA) (c d n d2 n2 : Nat) : ZA := zsa (zsa (zsa (zCh (zCh A (nI c) d n) (nI c) d2 n2) 6 (50 * d + n) (-1)) 6 (50 * d2 + n2) (A.2 6 (50 * d + n))) 7 (50 * d2 + n2) (A.2 7 (50 * d + n))
def zRe (A : ZA) (c d n d2 n2 e : Nat) : ZA := zsa (zsa (zRn A c d n d2 n2) 4 e (nI d2)) 5 e (nI n2)
end
section
theorem zEn_2 (A : ZA) (a : Nat) (ex : Int32) {i : Nat} (h1 : i ≠ 13) (h2 : i ≠ 14) : ∀ k, (zEn A a ex k).2 i = A.2 i
  | 0 => rfl
  | k + 1 => by
    show (zsa (zsa _ 14 k _) 13 _ _).2 i = _
    rw [zsa_n _ _ _ _ _ h1, zsa_n _ _ _ _ _ h2]
    exact zEn_2 A a ex h1 h2 k
theorem zCh_2 (A : ZA) (c : Int32) (d n : Nat) {i : Nat} (h0 : i ≠ 12) (h1 : i ≠ 13) (h2 : i ≠ 14) : (zCh A c d n).2 i = A.2 i := by
  unfold zCh
  rw [zEn_2 _ _ _ h1 h2, zsa_n _ _ _ _ _ h0]
theorem zCh_f0 {A : ZA} {c : Int32} {d n e : Nat} (hF : zFr A) (he : e < 12) (hl : A.2 3 e = 1) : ¬ (zCh A c d n).2 10 (8 * e) = 0 := by
  rw [zCh_2 _ _ _ _ (by decide) (by decide) (by decide)]
  exact hF.1 e he hl
end
section
/-! the reference: time, leases, fragments, servers -/
theorem zsc_id (A : ZA) (k : Nat) : zsc A k (A.1 k) = A := by
  unfold zsc
  refine Prod.ext (funext fun j => ?_) rfl
  show (if j = k then A.1 k else A.1 j) = A.1 j
  split
  · rename_i e
    rw [e]
  · rfl
theorem zadd0 (v : Int32) : v + nI 0 = v := by rw [nI_0]; exact Int32.add_zero v
def zpr (A : ZA) (c : Nat) : Nat → Bool := fun k => decide (A.1 1 < A.2 13 (600 * c + k))
/-- a directory and a hash, or a name (up to l): not good, 1 or 2 -/
def zBh (A : ZA) (l : Nat) (d h : Int32) (k : Nat) : Prop := (k = 1 ∧ ¬ zOn h l) ∨ (k = 2 ∧ zOn h l ∧ ¬ zIsD A d)
theorem zBh_k {A : ZA} {l : Nat} {d n : Int32} {k : Nat} (h : zBh A l d n k) : 0 < k ∧ k < 3 := by
  rcases h with ⟨rfl, -⟩ | ⟨rfl, -⟩ <;> omega
theorem zBh_or (A : ZA) (l : Nat) (d h : Int32) : (∃ k, zBh A l d h k) ∨ ∃ d' h', d = nI d' ∧ d' < 12 ∧ A.2 3 d' = 1 ∧ h = nI h' ∧ h' ≤ l := by
  by_cases h1 : zOn h l
  · by_cases h2 : zIsD A d
    · obtain ⟨n', hn, en⟩ := h1
      obtain ⟨d', hd, ed, hl⟩ := h2
      exact Or.inr ⟨d', n', ed, hd, hl, en, hn⟩
    · exact Or.inl ⟨2, Or.inr ⟨rfl, h1, h2⟩⟩
  · exact Or.inl ⟨1, Or.inl ⟨rfl, h1⟩⟩
def zps (A : ZA) (d : Nat) : Nat → Bool := fun h => !decide (A.2 10 (8 * d + h) ≤ 0)
/-- the fragment f of the size s is split -/
def zSp (A : ZA) (f s : Nat) : ZA := zsa (zsa (zsa (zsa (zsa A 10 f (nI (s / 2))) 10 (f + s / 2) (nI (s / 2))) 11 (f + s / 2) (A.2 11 f)) 12 (f + s / 2) (A.2 12 f / nI 2)) 12 f (A.2 12 f - A.2 12 f / nI 2)
/-- two fragments at f, f + s, both of size s, are merged -/
def zMg (A : ZA) (f s : Nat) : ZA := zsa (zsa (zsa A 10 f (nI (2 * s))) 10 (f + s) (nI 0)) 12 f (A.2 12 f + A.2 12 (f + s))
/-- where the first of the two begins -/
def zb1 (b s : Nat) : Nat := if b % (2 * s) = 0 then b else b - s
end
section
/-! the reference: loads, moves -/
/-- what is not there has no fragments -/
def zDz (A : ZA) : Prop := ∀ f, f < 96 → ¬ A.2 10 f = 0 → A.2 3 (f / 8) = 1
/-- the load of the server s in the first k places -/
def zlS (A : ZA) (s : Int32) : Nat → Int32
  | 0 => nI 0
  | k + 1 => zlS A s k + (if ¬ A.2 10 k ≤ 0 ∧ zsv A k = s then A.2 12 k else nI 0)
theorem zle0 {v : Int32} (h : ¬ v ≤ 0) : ¬ v = 0 := fun e => h (by rw [e]; exact Int32.le_refl 0)
/-- a move of the fragment f to s begins -/
def zMo (A : ZA) (f s : Int32) : ZA := zsc (zsc (zsc A 16 f) 17 s) 18 (nI 0)
/-- alike but for leases -/
def zSme (A B : ZA) : Prop := B.1 = A.1 ∧ ∀ i, i ≠ 13 → i ≠ 14 → B.2 i = A.2 i
theorem zSme.rf {A : ZA} : zSme A A := ⟨rfl, fun _ _ _ => rfl⟩
theorem zSme.tr {A B C : ZA} (h : zSme A B) (g : zSme B C) : zSme A C := ⟨g.1.trans h.1, fun i h1 h2 => (g.2 i h1 h2).trans (h.2 i h1 h2)⟩
theorem zSme.en (A : ZA) (a : Nat) (ex : Int32) (k : Nat) : zSme A (zEn A a ex k) := ⟨zEn_1 A a ex k, fun _ h1 h2 => zEn_2 A a ex h1 h2 k⟩
theorem zSme.fn {A B : ZA} (h : zSme A B) (d n : Nat) : zfn B d n = zfn A d n := by unfold zfn; rw [h.2 10 (by decide) (by decide)]
theorem zSme.par {A B : ZA} (h : zSme A B) (d : Nat) : zpar B d = zpar A d := by unfold zpar; rw [h.2 4 (by decide) (by decide)]
theorem zSme.nam {A B : ZA} (h : zSme A B) (d : Nat) : znam B d = znam A d := by unfold znam; rw [h.2 5 (by decide) (by decide)]
theorem zSme.inh {A B : ZA} (h : zSme A B) (f : Nat) : zinh B f = zinh A f := by unfold zinh; rw [h.fn, h.par, h.nam]
theorem zSme.fz {A B : ZA} (h : zSme A B) : ∀ (k f : Nat), zfzN B k f = zfzN A k f
  | 0, _ => rfl
  | k + 1, f => by
    rw [zfzN, zfzN, h.1, h.2 11 (by decide) (by decide), h.inh, h.fz k]
theorem zSme.up {A B : ZA} (h : zSme A B) (d : Nat) : zUp B d ↔ zUp A d := by
  unfold zUp
  rw [h.par, h.nam, h.2 3 (by decide) (by decide), h.2 4 (by decide) (by decide), h.2 5 (by decide) (by decide)]
theorem zSme.dp {A B : ZA} (h : zSme A B) : ∀ (k d : Nat), zDp B k d ↔ zDp A k d
  | 0, _ => Iff.rfl
  | k + 1, d => by
    rw [zDp, zDp, h.up, h.par, h.dp k]
theorem zSme.fr {A B : ZA} (h : zSme A B) (g : zFr A) : zFr B := by
  unfold zFr
  rw [h.2 3 (by decide) (by decide), h.2 10 (by decide) (by decide), h.2 11 (by decide) (by decide)]
  exact g
theorem zSme.wf {A B : ZA} (h : zSme A B) (g : zWf A) : zWf B := by
  refine ⟨?_, h.fr g.2.1, fun d h1 h2 => ?_⟩
  · obtain ⟨D, g1⟩ := g.1
    refine ⟨D, ?_⟩
    unfold zBas
    rw [h.1, h.2 3 (by decide) (by decide)]
    exact g1
  · rw [h.2 3 (by decide) (by decide)] at h2
    exact (h.dp 11 d).mpr (g.2.2 d h1 h2)
/-- all leases on frozen names are recalled: the first k places -/
def zRc (A : ZA) : Nat → ZA
  | 0 => A
  | k + 1 => if A.2 3 (k / 50) = 1 ∧ zfz A (zfn A (k / 50) (k % 50)) = true then zEn (zRc A k) k (-1) 4 else zRc A k
theorem zRc_sme (A : ZA) : ∀ k, zSme A (zRc A k)
  | 0 => zSme.rf
  | k + 1 => by
    unfold zRc
    split
    · exact (zRc_sme A k).tr (zSme.en _ _ _ _)
    · exact zRc_sme A k
end
section
/-! the reference: the steps of a move, balance, anchor, a new one -/
theorem nI_ne1 {n : Nat} (h : n < 2 ^ 31) : ¬ nI n = -1 := fun e => nI_pos h (by rw [e]; decide)
/-- one more step -/
def zSt1 (A : ZA) : ZA := zsc A 18 (A.1 18 + nI 1)
/-- the last of the largest, the first of the least, of 0 .. k, as the reference goes -/
def zMx (g : Nat → Int32) : Nat → Nat
  | 0 => 0
  | k + 1 => if g (k + 1) ≤ g (zMx g k) then zMx g k else k + 1
def zMn (g : Nat → Int32) : Nat → Nat
  | 0 => 0
  | k + 1 => if g (zMn g k) ≤ g (k + 1) then zMn g k else k + 1
theorem zMx_le (g : Nat → Int32) : ∀ k, zMx g k ≤ k
  | 0 => Nat.le_refl _
  | k + 1 => by
    have := zMx_le g k
    unfold zMx
    split <;> omega
theorem zMn_le (g : Nat → Int32) : ∀ k, zMn g k ≤ k
  | 0 => Nat.le_refl _
  | k + 1 => by
    have := zMn_le g k
    unfold zMn
    split <;> omega
def zlo (A : ZA) (D : Nat) : Nat → Int32 := fun s => zlS A (nI s) (8 * D)
/-- whether the fragment k fits -/
abbrev zFt (A : ZA) (a m : Int32) (k : Nat) : Prop := ¬ A.2 10 k ≤ 0 ∧ zsv A k = a ∧ ¬ A.2 12 k < 1 ∧ ¬ m / nI 2 < A.2 12 k
/-- the best of the first k -/
def zBst (A : ZA) (a m : Int32) : Nat → Option Nat
  | 0 => none
  | k + 1 => if zFt A a m k then (match zBst A a m k with
      | none => some k
      | some j => if A.2 12 k ≤ A.2 12 j then some j else some k) else zBst A a m k
theorem zBst_lt {A : ZA} {a m : Int32} : ∀ {k j : Nat}, zBst A a m k = some j → j < k
  | 0, j, h => nomatch h
  | k + 1, j, h => by
    unfold zBst at h
    split at h
    · split at h
      · cases h
        omega
      · rename_i j' e
        have h9 := zBst_lt e
        split at h <;> cases h <;> omega
    · have := zBst_lt h
      omega
def zo1 : Option Nat → Int32
  | none => -1
  | some j => nI j
/-- the loads halved -/
def zHl (A : ZA) : Nat → ZA
  | 0 => A
  | k + 1 => zsa (zHl A k) 12 k ((zHl A k).2 12 k / nI 2)
theorem zHl_1 (A : ZA) : ∀ k, (zHl A k).1 = A.1
  | 0 => rfl
  | k + 1 => zHl_1 A k
/-- what balance chooses -/
def zba (A : ZA) (D : Nat) : Nat := zMx (zlo A D) 3
def zbb (A : ZA) (D : Nat) : Nat := zMn (zlo A D) 3
def zbm (A : ZA) (D : Nat) : Int32 := zlo A D (zba A D) - zlo A D (zbb A D)
def zbo (A : ZA) (D : Nat) : Option Nat := if zbm A D < nI 4 then none else zBst A (nI (zba A D)) (zbm A D) (8 * D)
end
section
/-! the reference: anchor, a new one -/
theorem zdvI (n : Nat) (c0 : ClassId) (M : ZM) (a : Nat) : vp_cell c0 (zct (zw M a (0 + 5) n) a (0 + 5)) = arrV c0 n (fun _ => defaultValue .int) := by
  have e : zct (zw M a 5 n) a 5 = (n, .inl fun _ => 0) := by
    unfold zct
    rw [zn_w, if_pos rfl, if_pos (Or.inl rfl), show zi (zw M a 5 n) a = fun _ => 0 from funext fun j => by rw [zi_w, if_pos rfl]]
  rw [e]
  rfl
theorem zq_newI {t : ZY} {tb : List ExceptionTableEntry} {E : ZE} {G : ZG} {u : Nat} {Q : State → Prop} {M : ZM} {b pc : Nat} {L : List (Option Value)} {S : List Value} (K : zOK t tb G E) (n k : Nat) (hd : decode (zyc t) pc = .ok (.newarray .int, 2)) (hn : n ≤ 65536) (hb : 1 ≤ k ∧ n ≤ 64 * k ∧ k ≤ b) (hu : u ≤ zyu t) (kk : ∀ a, zk M a = 0 → WW E G u Q (zw M a 5 n) (b - k) (pc + 2) L (.ref a :: S)) : WW E G u Q M b pc L (.int (nI n) :: S) :=
  zq_newarr K 0 n hd rfl rfl (by decide) (fun C h => nomatch h) (zt 68 (by decide +kernel) rfl) rfl hn (zdvI n) k hb hu (by decide) kk
theorem zdvZ (n : Nat) (c0 : ClassId) (M : ZM) (a : Nat) : vp_cell c0 (zct (zw M a (1 + 5) n) a (1 + 5)) = arrV c0 n (fun _ => defaultValue .boolean) := by
  have e : zct (zw M a 6 n) a 6 = (n, .inl fun _ => 0) := by
    unfold zct
    rw [zn_w, if_pos rfl, if_pos (Or.inr rfl), show zi (zw M a 6 n) a = fun _ => 0 from funext fun j => by rw [zi_w, if_pos rfl]]
  rw [e]
  rfl
theorem zdvJ (n : Nat) (c0 : ClassId) (M : ZM) (a : Nat) : vp_cell c0 (zct (zw M a (2 + 5) n) a (2 + 5)) = arrV c0 n (fun _ => defaultValue .long) := by
  have e : zct (zw M a 7 n) a 7 = (n, .inr (.inl fun _ => 0)) := by
    unfold zct
    rw [zn_w, if_pos rfl, if_neg (by decide), if_pos rfl, show zj (zw M a 7 n) a = fun _ => 0 from funext fun j => by rw [zj_w, if_pos rfl]]
  rw [e]
  rfl
/-- the youngest place of f among the first k -/
def zAn (A : ZA) (f : Int32) : Nat → Option Nat
  | 0 => none
  | k + 1 => if A.2 6 k = f then (match zAn A f k with
      | none => some k
      | some j => if A.2 7 j ≤ A.2 7 k then some j else some k) else zAn A f k
theorem zAn_lt {A : ZA} {f : Int32} : ∀ {k j : Nat}, zAn A f k = some j → j < k
  | 0, j, h => nomatch h
  | k + 1, j, h => by
    unfold zAn at h
    split at h
    · split at h
      · cases h
        omega
      · rename_i j' e
        have h9 := zAn_lt e
        split at h <;> cases h <;> omega
    · have := zAn_lt h
      omega
def zAv : Option Nat → Int32
  | none => -1
  | some i => nI (100 * (i / 50) + i % 50)
/-- a new reference with its rows up to n -/
def zNx (M0 M : ZM) (x : Nat) (q : Nat → Nat) (n : Nat) : Prop := zk M x = 4 ∧ (∀ k, zar k = true → k < n → zr M x k = some (q k) ∧ zk M (q k) = (if k = 3 then 6 else 5) ∧ zn M (q k) = zln k ∧ (∀ j, zi M (q k) j = 0) ∧ zk M0 (q k) = 0) ∧ (∀ k, zi M x k = if k = 2 then 1 else 0) ∧ (∀ j k, zar j = true → zar k = true → j < n → k < n → q j = q k → j = k) ∧ ∀ a, ¬ zk M0 a = 0 → a ≠ x → zsame M0 M a
theorem zNx.gap {M0 M : ZM} {x : Nat} {q : Nat → Nat} {n m : Nat} (h : zNx M0 M x q n) (g : ∀ k, k < 19 → zar k = true → k < m → k < n) (hm : m < 19) : zNx M0 M x q m :=
  ⟨h.1, fun k h1 h2 => h.2.1 k h1 (g k (by omega) h1 h2), h.2.2.1, fun j k h1 h2 h3 h4 => h.2.2.2.1 j k h1 h2 (g j (by omega) h1 h3) (g k (by omega) h2 h4), h.2.2.2.2⟩
theorem zNx.kw {M0 M : ZM} {x : Nat} {q : Nat → Nat} {n a kd l : Nat} (h : zNx M0 M x q n) (ha : zk M a = 0) : zk (zw M a kd l) x = 4 := by
  rw [zk_w, if_neg (fun e => by rw [← e, h.1] at ha; exact absurd ha (by decide))]
  exact h.1
theorem zNx.go {M0 M : ZM} {x : Nat} {q : Nat → Nat} {n a kd l : Nat} (h : zNx M0 M x q n) (ha : zk M a = 0) (hn : zar n = true) (hk : kd = if n = 3 then 6 else 5) (hl : l = zln n) : zNx M0 (zsr (zw M a kd l) x n (some a)) x (zo q n a) (n + 1) := by
  have hax : a ≠ x := fun e => by rw [e, h.1] at ha; exact absurd ha (by decide)
  have h0 : zk M0 a = 0 := by
    by_cases e : zk M0 a = 0
    · exact e
    · have := (h.2.2.2.2 a e hax).1
      omega
  have hq : ∀ k, zar k = true → k < n → q k ≠ a := fun k h1 h2 e => by
    have h3 := (h.2.1 k h1 h2).2.1
    rw [e, ha] at h3
    split at h3 <;> omega
  refine ⟨h.kw (l := l) ha, fun k h1 h2 => ?_, fun k => ?_, fun j k h1 h2 h3 h4 e => ?_, fun b h1 h2 => ?_⟩
  · by_cases e : k = n
    · subst e
      rw [show zo q k a k = a from if_pos rfl]
      exact ⟨by rw [zr_r, if_pos ⟨rfl, rfl⟩], by rw [zk_r, zk_w, if_pos rfl, hk], by rw [zn_r, zn_w, if_pos rfl, hl], fun j => by rw [zi_r, zi_w, if_pos rfl], h0⟩
    · obtain ⟨g1, g2, g3, g4, g5⟩ := h.2.1 k h1 (by omega)
      have hne := hq k h1 (by omega)
      rw [show zo q n a k = q k from if_neg e]
      exact ⟨by rw [zr_r, if_neg (fun z => e z.2), zr_w, if_neg (fun z => hax z.symm)]; exact g1, by rw [zk_r, zk_w, if_neg hne]; exact g2, by rw [zn_r, zn_w, if_neg hne]; exact g3, fun j => by rw [zi_r, zi_w, if_neg hne]; exact g4 j, g5⟩
  · rw [zi_r, zi_w, if_neg (fun z => hax z.symm)]
    exact h.2.2.1 k
  · by_cases e1 : j = n
    · by_cases e2 : k = n
      · rw [e1, e2]
      · rw [e1, show zo q n a n = a from if_pos rfl, show zo q n a k = q k from if_neg e2] at e
        exact absurd e.symm (hq k h2 (by omega))
    · by_cases e2 : k = n
      · rw [e2, show zo q n a n = a from if_pos rfl, show zo q n a j = q j from if_neg e1] at e
        exact absurd e (hq j h1 (by omega))
      · rw [show zo q n a j = q j from if_neg e1, show zo q n a k = q k from if_neg e2] at e
        exact h.2.2.2.1 j k h1 h2 (by omega) (by omega) e
  · have g := h.2.2.2.2 b h1 h2
    have hba : b ≠ a := fun e => h1 (e ▸ h0)
    exact g.tr ((zsame.w hba).tr (zsame.r h2))
theorem zNx_r {E : ZE} {G : ZG} {u : Nat} {Q : State → Prop} {M0 M : ZM} {b pc : Nat} {L : List (Option Value)} {S : List Value} {x : Nat} {q : Nat → Nat} {a kd l : Nat} (n m : Nat) (h : zNx M0 M x q n) (ha : zk M a = 0) (hn : zar n = true ∧ (kd = if n = 3 then 6 else 5) ∧ l = zln n) (g : (∀ k, k < 19 → zar k = true → k < m → k < n + 1) ∧ m < 19) (kk : ∀ M' q', zNx M0 M' x q' m → WW E G u Q M' b pc L S) : WW E G u Q (zsr (zw M a kd l) x n (some a)) b pc L S := kk _ _ ((h.go ha hn.1 hn.2.1 hn.2.2).gap g.1 g.2)
def zA1 : ZA := (fun k => if k = 2 then 1 else 0, fun _ _ => 0)
theorem zNx.R {M0 M : ZM} {x : Nat} {q : Nat → Nat} (h : zNx M0 M x q 16) : zR M x q (nI 0) zA1 := by
  have hz : ∀ k, zar k = true → k < 16 := fun k hk => by
    unfold zar at hk
    simp only [Bool.or_eq_true, Bool.and_eq_true, decide_eq_true_eq] at hk
    omega
  exact ⟨h.1, fun k hk => ⟨(h.2.1 k hk (hz k hk)).1, (h.2.1 k hk (hz k hk)).2.1, (h.2.1 k hk (hz k hk)).2.2.1, (h.2.1 k hk (hz k hk)).2.2.2.1⟩, ⟨by rw [h.2.2.1]; rfl, fun k _ _ => h.2.2.1 k⟩, fun j k h1 h2 => h.2.2.2.1 j k h1 h2 (hz j h1) (hz k h2)⟩
theorem zNx.b {M : ZM} {x : Nat} (hx : zk M x = 4) (hz : ∀ k, zi M x k = 0) : zNx M (zsi M x 2 (nI 1)) x id 3 := by
  have h3 : ∀ k, zar k = true → ¬ k < 3 := fun k h1 h2 => by
    unfold zar at h1
    simp only [Bool.or_eq_true, Bool.and_eq_true, decide_eq_true_eq] at h1
    omega
  refine ⟨hx, fun k h1 h2 => absurd h2 (h3 k h1), fun k => ?_, fun j k h1 _ h4 => absurd h4 (h3 j h1), fun a _ h2 => zsame.i h2⟩
  rw [zi_i]
  by_cases e : k = 2
  · rw [if_pos ⟨rfl, e⟩, if_pos e]
    rfl
  · rw [if_neg (fun z => e z.2), if_neg e]
    exact hz k
def zNs : Nat → ZA
  | 0 => zsc zA1 16 (-1)
  | k + 1 => zsa (zNs k) 6 k (-1)
/-- the reference at its beginning -/
def zA0 : ZA := zBg (zNs 600) 0 (nI 0) 8
def zNR (x : Nat) (M : ZM) : ZO → ZM → Prop := fun o M' => o = .inl none ∧ ∃ q, zR M' x q (nI 0) zA0 ∧ (∀ k, zar k = true → zk M (q k) = 0) ∧ ∀ a, ¬ zk M a = 0 → a ≠ x → zsame M M' a
end
section
/-! the class's objects: the object itself, its rows, directories and fragments, at the addresses W -/
def zVal (B : ZA) (i j : Nat) : Prop := match i with
  | 3 => j < 12 ∧ B.2 3 j = 1
  | 4 => j < 12 ∧ B.2 3 j = 1
  | 5 => j < 12 ∧ B.2 3 j = 1
  | 6 => j < 12 ∧ B.2 3 j = 1
  | 7 => j < 48 ∧ B.2 3 (j / 4) = 1
  | 8 => j < 12 ∧ B.2 3 j = 1
  | 9 => j < 96 ∧ B.2 3 (j / 8) = 1 ∧ ¬ B.2 10 j = 0
  | i => i < 11 ∧ j = 0
def zOb (M : ZM) (W : Nat → Nat → Nat) (B : ZA) (i j : Nat) : Prop := match i with
  | 0 => zk M (W 0 j) = 8 ∧ zn M (W 0 j) = 12 ∧ ∀ d, d < 12 → zr M (W 0 j) d = if B.2 3 d = 1 then some (W 3 d) else none
  | 1 => zk M (W 1 j) = 5 ∧ zn M (W 1 j) = 4 ∧ ∀ c, c < 4 → zi M (W 1 j) c = B.2 14 c
  | 2 => zk M (W 2 j) = 5 ∧ zn M (W 2 j) = 4 ∧ ∀ c, c < 4 → zi M (W 2 j) c = B.2 15 c
  | 3 => zk M (W 3 j) = 1 ∧ zi M (W 3 j) 0 = nI j ∧ (zr M (W 3 j) 1 = if j = 0 then none else some (W 3 (zpar B j))) ∧ zi M (W 3 j) 2 = B.2 5 j ∧ zr M (W 3 j) 3 = some (W 4 j) ∧ zr M (W 3 j) 4 = some (W 5 j) ∧ zr M (W 3 j) 5 = some (W 6 j) ∧ zr M (W 3 j) 6 = some (W 8 j)
  | 4 => zk M (W 4 j) = 5 ∧ zn M (W 4 j) = 50 ∧ ∀ n, n < 50 → zi M (W 4 j) n = B.2 6 (50 * j + n)
  | 5 => zk M (W 5 j) = 5 ∧ zn M (W 5 j) = 50 ∧ ∀ n, n < 50 → zi M (W 5 j) n = B.2 7 (50 * j + n)
  | 6 => zk M (W 6 j) = 10 ∧ zn M (W 6 j) = 4 ∧ ∀ c, c < 4 → zr M (W 6 j) c = some (W 7 (4 * j + c))
  | 7 => zk M (W 7 j) = 5 ∧ zn M (W 7 j) = 50 ∧ ∀ n, n < 50 → zi M (W 7 j) n = B.2 13 (600 * (j % 4) + (50 * (j / 4) + n))
  | 8 => zk M (W 8 j) = 9 ∧ zn M (W 8 j) = 8 ∧ ∀ h, h < 8 → zr M (W 8 j) h = some (W 9 (8 * j + zfg (B.2 10) j h))
  | 9 => zk M (W 9 j) = 2 ∧ zi M (W 9 j) 0 = nI (j / 8) ∧ zi M (W 9 j) 1 = nI (j % 8) ∧ zi M (W 9 j) 2 = B.2 10 j ∧ zi M (W 9 j) 3 = B.2 11 j ∧ zi M (W 9 j) 4 = B.2 12 j
  | _ => zk M (W 10 j) = 3 ∧ (zr M (W 10 j) 0 = some (W 0 0) ∧ zr M (W 10 j) 5 = some (W 1 0) ∧ zr M (W 10 j) 6 = some (W 2 0)) ∧ (zi M (W 10 j) 1 = B.1 2 ∧ zi M (W 10 j) 2 = B.1 9 ∧ zi M (W 10 j) 3 = B.1 8 ∧ zi M (W 10 j) 4 = B.1 1 ∧ zi M (W 10 j) 8 = B.1 17 ∧ zi M (W 10 j) 9 = B.1 18) ∧ (zr M (W 10 j) 7 = if B.1 16 = -1 then none else some (W 9 (B.1 16).toNatClampNeg))
def zC (M : ZM) (W : Nat → Nat → Nat) (B : ZA) : Prop := (∀ i j, zVal B i j → zOb M W B i j) ∧ ∀ i j i' j', zVal B i j → zVal B i' j' → W i j = W i' j' → i = i' ∧ j = j'
section ZCLS
variable {M M' M0 : ZM} {W : Nat → Nat → Nat} {B B' B0 : ZA}
theorem zVal.lt {i j : Nat} (h : zVal B i j) : i < 11 := by
  unfold zVal at h
  split at h
  all_goals first | omega | exact h.1
theorem zOb.same : ∀ {i j : Nat}, zVal B i j → zsame M M' (W i j) → zOb M W B i j → zOb M' W B i j
  | 0, j, _, ⟨s1, s2, s3, s4, _⟩, h => ⟨s1.trans h.1, s2.trans h.2.1, fun d hd => (s4 d).trans (h.2.2 d hd)⟩
  | 1, j, _, ⟨s1, s2, s3, s4, _⟩, h => ⟨s1.trans h.1, s2.trans h.2.1, fun d hd => (s3 d).trans (h.2.2 d hd)⟩
  | 2, j, _, ⟨s1, s2, s3, s4, _⟩, h => ⟨s1.trans h.1, s2.trans h.2.1, fun d hd => (s3 d).trans (h.2.2 d hd)⟩
  | 3, j, _, ⟨s1, s2, s3, s4, _⟩, h => ⟨s1.trans h.1, (s3 _).trans h.2.1, (s4 _).trans h.2.2.1, (s3 _).trans h.2.2.2.1, (s4 _).trans h.2.2.2.2.1, (s4 _).trans h.2.2.2.2.2.1, (s4 _).trans h.2.2.2.2.2.2.1, (s4 _).trans h.2.2.2.2.2.2.2⟩
  | 4, j, _, ⟨s1, s2, s3, s4, _⟩, h => ⟨s1.trans h.1, s2.trans h.2.1, fun d hd => (s3 d).trans (h.2.2 d hd)⟩
  | 5, j, _, ⟨s1, s2, s3, s4, _⟩, h => ⟨s1.trans h.1, s2.trans h.2.1, fun d hd => (s3 d).trans (h.2.2 d hd)⟩
  | 6, j, _, ⟨s1, s2, s3, s4, _⟩, h => ⟨s1.trans h.1, s2.trans h.2.1, fun d hd => (s4 d).trans (h.2.2 d hd)⟩
  | 7, j, _, ⟨s1, s2, s3, s4, _⟩, h => ⟨s1.trans h.1, s2.trans h.2.1, fun d hd => (s3 d).trans (h.2.2 d hd)⟩
  | 8, j, _, ⟨s1, s2, s3, s4, _⟩, h => ⟨s1.trans h.1, s2.trans h.2.1, fun d hd => (s4 d).trans (h.2.2 d hd)⟩
  | 9, j, _, ⟨s1, s2, s3, s4, _⟩, h => ⟨s1.trans h.1, (s3 _).trans h.2.1, (s3 _).trans h.2.2.1, (s3 _).trans h.2.2.2.1, (s3 _).trans h.2.2.2.2.1, (s3 _).trans h.2.2.2.2.2⟩
  | 10, j, _, ⟨s1, s2, s3, s4, _⟩, h => ⟨s1.trans h.1, ⟨(s4 _).trans h.2.1.1, (s4 _).trans h.2.1.2.1, (s4 _).trans h.2.1.2.2⟩, ⟨(s3 _).trans h.2.2.1.1, (s3 _).trans h.2.2.1.2.1, (s3 _).trans h.2.2.1.2.2.1, (s3 _).trans h.2.2.1.2.2.2.1, (s3 _).trans h.2.2.1.2.2.2.2.1, (s3 _).trans h.2.2.1.2.2.2.2.2⟩, (s4 _).trans h.2.2.2⟩
  | i + 11, j, hv, _, _ => absurd hv.lt (by omega)
theorem zC.upd (h : zC M W B) (i0 j0 : Nat) (hv0 : zVal B i0 j0) (hsm : ∀ a, a ≠ W i0 j0 → zsame M M' a) (hval : ∀ i j, zVal B' i j → zVal B i j) (ho : ∀ i j, ¬ (i = i0 ∧ j = j0) → zVal B i j → zOb M W B i j → zOb M W B' i j) (h0 : zOb M W B i0 j0 → zOb M' W B' i0 j0) : zC M' W B' := by
  refine ⟨fun i j hv => ?_, fun i j i' j' h1 h2 => h.2 i j i' j' (hval i j h1) (hval i' j' h2)⟩
  have hv' := hval i j hv
  by_cases e : i = i0 ∧ j = j0
  · obtain ⟨rfl, rfl⟩ := e
    exact h0 (h.1 i j hv')
  · exact zOb.same hv (hsm _ (fun z => e (h.2 i j i0 j0 hv' hv0 z))) (ho i j e hv' (h.1 i j hv'))
/-- nothing else changes -/
def zFm (M : ZM) (W : Nat → Nat → Nat) (B : ZA) (M' : ZM) : Prop := ∀ a, ¬ zk M a = 0 → (∀ i j, zVal B i j → a ≠ W i j) → zsame M M' a
theorem zFm.rf : zFm M W B M := fun _ _ _ => zsame.rf
theorem zFm.one (h : zFm M0 W B0 M) {i j : Nat} (hv : zVal B0 i j) (hsm : ∀ a, a ≠ W i j → zsame M M' a) : zFm M0 W B0 M' := fun a h1 h2 => (h a h1 h2).tr (hsm a (h2 i j hv))
theorem zFm.tr (h : zFm M0 W B0 M) (g : zFm M W B M') (hv : ∀ i j, zVal B i j → zVal B0 i j) : zFm M0 W B0 M' := fun a h1 h2 => (h a h1 h2).tr (g a (by rw [(h a h1 h2).1]; exact h1) (fun i j z => h2 i j (hv i j z)))
end ZCLS
end
section
section ZCR
variable {t : ZY} {tb : List ExceptionTableEntry} {E : ZE} {G : ZG} {u : Nat} {Q : State → Prop} {M M0 : ZM} {b pc : Nat} {L : List (Option Value)} {S : List Value} {W : Nat → Nat → Nat} {B B0 : ZA}
theorem zC.x (h : zC M W B) : zk M (W 10 0) = 3 ∧ (zr M (W 10 0) 0 = some (W 0 0) ∧ zr M (W 10 0) 5 = some (W 1 0) ∧ zr M (W 10 0) 6 = some (W 2 0)) ∧ (zi M (W 10 0) 1 = B.1 2 ∧ zi M (W 10 0) 2 = B.1 9 ∧ zi M (W 10 0) 3 = B.1 8 ∧ zi M (W 10 0) 4 = B.1 1 ∧ zi M (W 10 0) 8 = B.1 17 ∧ zi M (W 10 0) 9 = B.1 18) ∧ (zr M (W 10 0) 7 = if B.1 16 = -1 then none else some (W 9 (B.1 16).toNatClampNeg)) := h.1 10 0 ⟨by decide, rfl⟩
theorem zC.dirs (h : zC M W B) : zk M (W 0 0) = 8 ∧ zn M (W 0 0) = 12 ∧ ∀ d, d < 12 → zr M (W 0 0) d = if B.2 3 d = 1 then some (W 3 d) else none := h.1 0 0 ⟨by decide, rfl⟩
theorem zC.cnt (h : zC M W B) {i : Nat} (hi : i = 1 ∨ i = 2) : zk M (W i 0) = 5 ∧ zn M (W i 0) = 4 ∧ ∀ c, c < 4 → zi M (W i 0) c = B.2 (13 + i) c := by
  rcases hi with rfl | rfl
  · exact h.1 1 0 ⟨by decide, rfl⟩
  · exact h.1 2 0 ⟨by decide, rfl⟩
theorem zC.d (h : zC M W B) {j : Nat} (hv : zVal B 3 j) : zk M (W 3 j) = 1 ∧ zi M (W 3 j) 0 = nI j ∧ (zr M (W 3 j) 1 = if j = 0 then none else some (W 3 (zpar B j))) ∧ zi M (W 3 j) 2 = B.2 5 j ∧ zr M (W 3 j) 3 = some (W 4 j) ∧ zr M (W 3 j) 4 = some (W 5 j) ∧ zr M (W 3 j) 5 = some (W 6 j) ∧ zr M (W 3 j) 6 = some (W 8 j) := h.1 3 j hv
theorem zC.mea (h : zC M W B) {j : Nat} (hv : zVal B 3 j) : zk M (W 4 j) = 5 ∧ zn M (W 4 j) = 50 ∧ ∀ n, n < 50 → zi M (W 4 j) n = B.2 6 (50 * j + n) := h.1 4 j hv
theorem zC.age (h : zC M W B) {j : Nat} (hv : zVal B 3 j) : zk M (W 5 j) = 5 ∧ zn M (W 5 j) = 50 ∧ ∀ n, n < 50 → zi M (W 5 j) n = B.2 7 (50 * j + n) := h.1 5 j hv
theorem zC.lea (h : zC M W B) {j : Nat} (hv : zVal B 3 j) : zk M (W 6 j) = 10 ∧ zn M (W 6 j) = 4 ∧ ∀ c, c < 4 → zr M (W 6 j) c = some (W 7 (4 * j + c)) := h.1 6 j hv
theorem zC.row (h : zC M W B) {j : Nat} (hv : zVal B 7 j) : zk M (W 7 j) = 5 ∧ zn M (W 7 j) = 50 ∧ ∀ n, n < 50 → zi M (W 7 j) n = B.2 13 (600 * (j % 4) + (50 * (j / 4) + n)) := h.1 7 j hv
theorem zC.has (h : zC M W B) {j : Nat} (hv : zVal B 3 j) : zk M (W 8 j) = 9 ∧ zn M (W 8 j) = 8 ∧ ∀ i, i < 8 → zr M (W 8 j) i = some (W 9 (8 * j + zfg (B.2 10) j i)) := h.1 8 j hv
theorem zC.f (h : zC M W B) {j : Nat} (hv : zVal B 9 j) : zk M (W 9 j) = 2 ∧ zi M (W 9 j) 0 = nI (j / 8) ∧ zi M (W 9 j) 1 = nI (j % 8) ∧ zi M (W 9 j) 2 = B.2 10 j ∧ zi M (W 9 j) 3 = B.2 11 j ∧ zi M (W 9 j) 4 = B.2 12 j := h.1 9 j hv
theorem zVal.r {d c : Nat} (h : zVal B 3 d) (hc : c < 4) : zVal B 7 (4 * d + c) := ⟨by have := h.1; omega, by rw [show (4 * d + c) / 4 = d by omega]; exact h.2⟩
theorem zC.m0 (h : zC M W B) (hm : B.1 16 = -1) : zr M (W 10 0) 7 = none := by rw [h.x.2.2.2, if_pos hm]
theorem zC.m1 (h : zC M W B) {f : Nat} (hm : B.1 16 = nI f) (hf : f < 96) : zr M (W 10 0) 7 = some (W 9 f) := by rw [h.x.2.2.2, hm, if_neg (nI_ne1 (by omega)), nI_clamp (by omega)]
theorem zC.p0 (h : zC M W B) (hv : zVal B 3 0) : zr M (W 3 0) 1 = none := by rw [(h.d hv).2.2.1, if_pos rfl]
theorem zC.p1 (h : zC M W B) {d : Nat} (hv : zVal B 3 d) (hd : ¬ d = 0) : zr M (W 3 d) 1 = some (W 3 (zpar B d)) := by rw [(h.d hv).2.2.1, if_neg hd]
theorem zC.a1 (h : zC M W B) {d : Nat} (hv : zVal B 3 d) : zr M (W 0 0) d = some (W 3 d) := by rw [h.dirs.2.2 d hv.1, if_pos hv.2]
theorem zC.a0 (h : zC M W B) {d : Nat} (hd : d < 12) (hv : ¬ B.2 3 d = 1) : zr M (W 0 0) d = none := by rw [h.dirs.2.2 d hd, if_neg hv]
theorem zc_ldmea (K : zOK t tb G E) {i : Int32} (hd : decode (zyc t) pc = .ok (.iaload, 1)) (hC : zC M W B) {d n : Nat} (hv : zVal B 3 d) (hi : i = nI n) (hn : n < 50) (kk : WW E G u Q M b (pc + 1) L (.int (B.2 6 (50 * d + n)) :: S)) : WW E G u Q M b pc L (.int i :: .ref (W 4 d) :: S) :=
  zq_iald K n hd (hC.mea hv).1 hi (by rw [(hC.mea hv).2.1]; exact hn) (by rw [(hC.mea hv).2.1]; decide) (by rw [(hC.mea hv).2.2 n hn]; exact kk)
theorem zc_ldage (K : zOK t tb G E) {i : Int32} (hd : decode (zyc t) pc = .ok (.iaload, 1)) (hC : zC M W B) {d n : Nat} (hv : zVal B 3 d) (hi : i = nI n) (hn : n < 50) (kk : WW E G u Q M b (pc + 1) L (.int (B.2 7 (50 * d + n)) :: S)) : WW E G u Q M b pc L (.int i :: .ref (W 5 d) :: S) :=
  zq_iald K n hd (hC.age hv).1 hi (by rw [(hC.age hv).2.1]; exact hn) (by rw [(hC.age hv).2.1]; decide) (by rw [(hC.age hv).2.2 n hn]; exact kk)
theorem zc_ldrow (K : zOK t tb G E) {i : Int32} (hd : decode (zyc t) pc = .ok (.iaload, 1)) (hC : zC M W B) {d c n : Nat} (hv : zVal B 3 d) (hc : c < 4) (hi : i = nI n) (hn : n < 50) (kk : WW E G u Q M b (pc + 1) L (.int (B.2 13 (600 * c + (50 * d + n))) :: S)) : WW E G u Q M b pc L (.int i :: .ref (W 7 (4 * d + c)) :: S) := by
  obtain ⟨h1, h2, h3⟩ := hC.row (hv.r hc)
  refine zq_iald K n hd h1 hi (by rw [h2]; exact hn) (by rw [h2]; decide) ?_
  rw [h3 n hn, show (4 * d + c) % 4 = c by omega, show (4 * d + c) / 4 = d by omega]
  exact kk
theorem zc_ldcnt (K : zOK t tb G E) {i : Int32} (hd : decode (zyc t) pc = .ok (.iaload, 1)) (hC : zC M W B) {z c : Nat} (hz : z = 1 ∨ z = 2) (hi : i = nI c) (hc : c < 4) (kk : WW E G u Q M b (pc + 1) L (.int (B.2 (13 + z) c) :: S)) : WW E G u Q M b pc L (.int i :: .ref (W z 0) :: S) := by
  obtain ⟨h1, h2, h3⟩ := hC.cnt hz
  refine zq_iald K c hd h1 hi (by rw [h2]; exact hc) (by rw [h2]; decide) ?_
  rw [h3 c hc]
  exact kk
theorem zc_ad1 (K : zOK t tb G E) {i : Int32} (hd : decode (zyc t) pc = .ok (.aaload, 1)) (hC : zC M W B) {d : Nat} (hv : zVal B 3 d) (hi : i = nI d) (kk : WW E G u Q M b (pc + 1) L (.ref (W 3 d) :: S)) : WW E G u Q M b pc L (.int i :: .ref (W 0 0) :: S) :=
  zq_aalds K d hd hC.dirs.1 (by decide) hi (by rw [hC.dirs.2.1]; exact hv.1) (by rw [hC.dirs.2.1]; decide) (hC.a1 hv) kk
theorem zc_ad0 (K : zOK t tb G E) {i : Int32} (hd : decode (zyc t) pc = .ok (.aaload, 1)) (hC : zC M W B) {d : Nat} (h12 : d < 12) (hv : ¬ B.2 3 d = 1) (hi : i = nI d) (kk : WW E G u Q M b (pc + 1) L (.null :: S)) : WW E G u Q M b pc L (.int i :: .ref (W 0 0) :: S) :=
  zq_aaldn K d hd hC.dirs.1 (by decide) hi (by rw [hC.dirs.2.1]; exact h12) (by rw [hC.dirs.2.1]; decide) (hC.a0 h12 hv) kk
theorem zc_al (K : zOK t tb G E) {i : Int32} (hd : decode (zyc t) pc = .ok (.aaload, 1)) (hC : zC M W B) {d c : Nat} (hv : zVal B 3 d) (hc : c < 4) (hi : i = nI c) (kk : WW E G u Q M b (pc + 1) L (.ref (W 7 (4 * d + c)) :: S)) : WW E G u Q M b pc L (.int i :: .ref (W 6 d) :: S) :=
  zq_aalds K c hd (hC.lea hv).1 (by decide) hi (by rw [(hC.lea hv).2.1]; exact hc) (by rw [(hC.lea hv).2.1]; decide) ((hC.lea hv).2.2 c hc) kk
theorem zc_ah (K : zOK t tb G E) {i : Int32} (hd : decode (zyc t) pc = .ok (.aaload, 1)) (hC : zC M W B) {d h : Nat} (hv : zVal B 3 d) (hh : h < 8) (hi : i = nI h) (kk : WW E G u Q M b (pc + 1) L (.ref (W 9 (8 * d + zfg (B.2 10) d h)) :: S)) : WW E G u Q M b pc L (.int i :: .ref (W 8 d) :: S) :=
  zq_aalds K h hd (hC.has hv).1 (by decide) hi (by rw [(hC.has hv).2.1]; exact hh) (by rw [(hC.has hv).2.1]; decide) ((hC.has hv).2.2 h hh) kk
theorem zOb.sc {s s' : Nat → Int32} {z : Nat → Nat → Int32} : ∀ {i j : Nat}, i < 10 → zOb M W (s, z) i j → zOb M W (s', z) i j
  | 0, _, _, h => h
  | 1, _, _, h => h
  | 2, _, _, h => h
  | 3, _, _, h => h
  | 4, _, _, h => h
  | 5, _, _, h => h
  | 6, _, _, h => h
  | 7, _, _, h => h
  | 8, _, _, h => h
  | 9, _, _, h => h
  | i + 10, _, h, _ => absurd h (by omega)
theorem zOb.scx {k : Nat} {v : Int32} {i j : Nat} (hne : ¬ (i = 10 ∧ j = 0)) (hv : zVal B i j) (h : zOb M W B i j) : zOb M W (zsc B k v) i j := by
  refine zOb.sc (s := B.1) ?_ h
  have h1 := hv.lt
  by_cases e : i = 10
  · subst e
    exact absurd ⟨rfl, hv.2⟩ hne
  · omega
theorem zVal.sc {k : Nat} {v : Int32} {i j : Nat} (h : zVal (zsc B k v) i j) : zVal B i j := h
theorem zc_p2_1 (K : zOK t tb G E) {index : Nat} {v : Int32} (hd : decode (zyc t) pc = .ok (.putfield index, 3)) (hw : Cond.fieldLink (zyn t).cls index (TX2 1).1 (TX2 1).2.1 (TX2 1).2.2.1 ∈ zTs) (hC : zC M W B) (hS : zFm M0 W B0 M) (kk : ∀ M', zC M' W (zsc B 2 v) → zFm M0 W B0 M' → WW E G u Q M' b (pc + 3) L S) : WW E G u Q M b pc L (.int v :: .ref (W 10 0) :: S) :=
  zq_putI K hd zclX2 (by decide) hw (Or.inl rfl) rfl rfl hC.x.1 (kk _ (hC.upd 10 0 ⟨by decide, rfl⟩ (fun a h => zsame.i h) (fun _ _ h => h) (fun i j hne hv h => zOb.scx hne hv h) (fun h => ⟨h.1, h.2.1, ⟨by rw [zi_i, if_pos ⟨rfl, rfl⟩]; rfl, by rw [zi_i, if_neg (fun z => absurd z.2 (by decide))]; exact h.2.2.1.2.1, by rw [zi_i, if_neg (fun z => absurd z.2 (by decide))]; exact h.2.2.1.2.2.1, by rw [zi_i, if_neg (fun z => absurd z.2 (by decide))]; exact h.2.2.1.2.2.2.1, by rw [zi_i, if_neg (fun z => absurd z.2 (by decide))]; exact h.2.2.1.2.2.2.2.1, by rw [zi_i, if_neg (fun z => absurd z.2 (by decide))]; exact h.2.2.1.2.2.2.2.2⟩, h.2.2.2⟩)) (hS.one (i := 10) (j := 0) ⟨by decide, rfl⟩ (fun a h => zsame.i h)))
theorem zc_p2_2 (K : zOK t tb G E) {index : Nat} {v : Int32} (hd : decode (zyc t) pc = .ok (.putfield index, 3)) (hw : Cond.fieldLink (zyn t).cls index (TX2 2).1 (TX2 2).2.1 (TX2 2).2.2.1 ∈ zTs) (hC : zC M W B) (hS : zFm M0 W B0 M) (kk : ∀ M', zC M' W (zsc B 9 v) → zFm M0 W B0 M' → WW E G u Q M' b (pc + 3) L S) : WW E G u Q M b pc L (.int v :: .ref (W 10 0) :: S) :=
  zq_putI K hd zclX2 (by decide) hw (Or.inl rfl) rfl rfl hC.x.1 (kk _ (hC.upd 10 0 ⟨by decide, rfl⟩ (fun a h => zsame.i h) (fun _ _ h => h) (fun i j hne hv h => zOb.scx hne hv h) (fun h => ⟨h.1, h.2.1, ⟨by rw [zi_i, if_neg (fun z => absurd z.2 (by decide))]; exact h.2.2.1.1, by rw [zi_i, if_pos ⟨rfl, rfl⟩]; rfl, by rw [zi_i, if_neg (fun z => absurd z.2 (by decide))]; exact h.2.2.1.2.2.1, by rw [zi_i, if_neg (fun z => absurd z.2 (by decide))]; exact h.2.2.1.2.2.2.1, by rw [zi_i, if_neg (fun z => absurd z.2 (by decide))]; exact h.2.2.1.2.2.2.2.1, by rw [zi_i, if_neg (fun z => absurd z.2 (by decide))]; exact h.2.2.1.2.2.2.2.2⟩, h.2.2.2⟩)) (hS.one (i := 10) (j := 0) ⟨by decide, rfl⟩ (fun a h => zsame.i h)))
theorem zc_p2_3 (K : zOK t tb G E) {index : Nat} {v : Int32} (hd : decode (zyc t) pc = .ok (.putfield index, 3)) (hw : Cond.fieldLink (zyn t).cls index (TX2 3).1 (TX2 3).2.1 (TX2 3).2.2.1 ∈ zTs) (hC : zC M W B) (hS : zFm M0 W B0 M) (kk : ∀ M', zC M' W (zsc B 8 v) → zFm M0 W B0 M' → WW E G u Q M' b (pc + 3) L S) : WW E G u Q M b pc L (.int v :: .ref (W 10 0) :: S) :=
  zq_putI K hd zclX2 (by decide) hw (Or.inl rfl) rfl rfl hC.x.1 (kk _ (hC.upd 10 0 ⟨by decide, rfl⟩ (fun a h => zsame.i h) (fun _ _ h => h) (fun i j hne hv h => zOb.scx hne hv h) (fun h => ⟨h.1, h.2.1, ⟨by rw [zi_i, if_neg (fun z => absurd z.2 (by decide))]; exact h.2.2.1.1, by rw [zi_i, if_neg (fun z => absurd z.2 (by decide))]; exact h.2.2.1.2.1, by rw [zi_i, if_pos ⟨rfl, rfl⟩]; rfl, by rw [zi_i, if_neg (fun z => absurd z.2 (by decide))]; exact h.2.2.1.2.2.2.1, by rw [zi_i, if_neg (fun z => absurd z.2 (by decide))]; exact h.2.2.1.2.2.2.2.1, by rw [zi_i, if_neg (fun z => absurd z.2 (by decide))]; exact h.2.2.1.2.2.2.2.2⟩, h.2.2.2⟩)) (hS.one (i := 10) (j := 0) ⟨by decide, rfl⟩ (fun a h => zsame.i h)))
theorem zc_p2_4 (K : zOK t tb G E) {index : Nat} {v : Int32} (hd : decode (zyc t) pc = .ok (.putfield index, 3)) (hw : Cond.fieldLink (zyn t).cls index (TX2 4).1 (TX2 4).2.1 (TX2 4).2.2.1 ∈ zTs) (hC : zC M W B) (hS : zFm M0 W B0 M) (kk : ∀ M', zC M' W (zsc B 1 v) → zFm M0 W B0 M' → WW E G u Q M' b (pc + 3) L S) : WW E G u Q M b pc L (.int v :: .ref (W 10 0) :: S) :=
  zq_putI K hd zclX2 (by decide) hw (Or.inl rfl) rfl rfl hC.x.1 (kk _ (hC.upd 10 0 ⟨by decide, rfl⟩ (fun a h => zsame.i h) (fun _ _ h => h) (fun i j hne hv h => zOb.scx hne hv h) (fun h => ⟨h.1, h.2.1, ⟨by rw [zi_i, if_neg (fun z => absurd z.2 (by decide))]; exact h.2.2.1.1, by rw [zi_i, if_neg (fun z => absurd z.2 (by decide))]; exact h.2.2.1.2.1, by rw [zi_i, if_neg (fun z => absurd z.2 (by decide))]; exact h.2.2.1.2.2.1, by rw [zi_i, if_pos ⟨rfl, rfl⟩]; rfl, by rw [zi_i, if_neg (fun z => absurd z.2 (by decide))]; exact h.2.2.1.2.2.2.2.1, by rw [zi_i, if_neg (fun z => absurd z.2 (by decide))]; exact h.2.2.1.2.2.2.2.2⟩, h.2.2.2⟩)) (hS.one (i := 10) (j := 0) ⟨by decide, rfl⟩ (fun a h => zsame.i h)))
theorem zc_p2_8 (K : zOK t tb G E) {index : Nat} {v : Int32} (hd : decode (zyc t) pc = .ok (.putfield index, 3)) (hw : Cond.fieldLink (zyn t).cls index (TX2 8).1 (TX2 8).2.1 (TX2 8).2.2.1 ∈ zTs) (hC : zC M W B) (hS : zFm M0 W B0 M) (kk : ∀ M', zC M' W (zsc B 17 v) → zFm M0 W B0 M' → WW E G u Q M' b (pc + 3) L S) : WW E G u Q M b pc L (.int v :: .ref (W 10 0) :: S) :=
  zq_putI K hd zclX2 (by decide) hw (Or.inl rfl) rfl rfl hC.x.1 (kk _ (hC.upd 10 0 ⟨by decide, rfl⟩ (fun a h => zsame.i h) (fun _ _ h => h) (fun i j hne hv h => zOb.scx hne hv h) (fun h => ⟨h.1, h.2.1, ⟨by rw [zi_i, if_neg (fun z => absurd z.2 (by decide))]; exact h.2.2.1.1, by rw [zi_i, if_neg (fun z => absurd z.2 (by decide))]; exact h.2.2.1.2.1, by rw [zi_i, if_neg (fun z => absurd z.2 (by decide))]; exact h.2.2.1.2.2.1, by rw [zi_i, if_neg (fun z => absurd z.2 (by decide))]; exact h.2.2.1.2.2.2.1, by rw [zi_i, if_pos ⟨rfl, rfl⟩]; rfl, by rw [zi_i, if_neg (fun z => absurd z.2 (by decide))]; exact h.2.2.1.2.2.2.2.2⟩, h.2.2.2⟩)) (hS.one (i := 10) (j := 0) ⟨by decide, rfl⟩ (fun a h => zsame.i h)))
theorem zc_p2_9 (K : zOK t tb G E) {index : Nat} {v : Int32} (hd : decode (zyc t) pc = .ok (.putfield index, 3)) (hw : Cond.fieldLink (zyn t).cls index (TX2 9).1 (TX2 9).2.1 (TX2 9).2.2.1 ∈ zTs) (hC : zC M W B) (hS : zFm M0 W B0 M) (kk : ∀ M', zC M' W (zsc B 18 v) → zFm M0 W B0 M' → WW E G u Q M' b (pc + 3) L S) : WW E G u Q M b pc L (.int v :: .ref (W 10 0) :: S) :=
  zq_putI K hd zclX2 (by decide) hw (Or.inl rfl) rfl rfl hC.x.1 (kk _ (hC.upd 10 0 ⟨by decide, rfl⟩ (fun a h => zsame.i h) (fun _ _ h => h) (fun i j hne hv h => zOb.scx hne hv h) (fun h => ⟨h.1, h.2.1, ⟨by rw [zi_i, if_neg (fun z => absurd z.2 (by decide))]; exact h.2.2.1.1, by rw [zi_i, if_neg (fun z => absurd z.2 (by decide))]; exact h.2.2.1.2.1, by rw [zi_i, if_neg (fun z => absurd z.2 (by decide))]; exact h.2.2.1.2.2.1, by rw [zi_i, if_neg (fun z => absurd z.2 (by decide))]; exact h.2.2.1.2.2.2.1, by rw [zi_i, if_neg (fun z => absurd z.2 (by decide))]; exact h.2.2.1.2.2.2.2.1, by rw [zi_i, if_pos ⟨rfl, rfl⟩]; rfl⟩, h.2.2.2⟩)) (hS.one (i := 10) (j := 0) ⟨by decide, rfl⟩ (fun a h => zsame.i h)))
theorem zc_pm0 (K : zOK t tb G E) {index : Nat} (hd : decode (zyc t) pc = .ok (.putfield index, 3)) (hw : Cond.fieldLink (zyn t).cls index (TX2 7).1 (TX2 7).2.1 (TX2 7).2.2.1 ∈ zTs) (hC : zC M W B) (hS : zFm M0 W B0 M) (kk : ∀ M', zC M' W (zsc B 16 (-1)) → zFm M0 W B0 M' → WW E G u Q M' b (pc + 3) L S) : WW E G u Q M b pc L (.null :: .ref (W 10 0) :: S) :=
  zq_putRn K hd zclX2 (k := 7) (by decide) hw (Or.inl rfl) (fun r => by cases r <;> exact ⟨rfl, rfl⟩) rfl hC.x.1 (kk _ (hC.upd 10 0 ⟨by decide, rfl⟩ (fun a h => zsame.r h) (fun _ _ h => h) (fun i j hne hv h => zOb.scx hne hv h) (fun h => ⟨h.1, ⟨by rw [zr_r, if_neg (fun z => absurd z.2 (by decide))]; exact h.2.1.1, by rw [zr_r, if_neg (fun z => absurd z.2 (by decide))]; exact h.2.1.2.1, by rw [zr_r, if_neg (fun z => absurd z.2 (by decide))]; exact h.2.1.2.2⟩, h.2.2.1, by rw [zr_r, if_pos ⟨rfl, rfl⟩]; rfl⟩)) (hS.one (i := 10) (j := 0) ⟨by decide, rfl⟩ (fun a h => zsame.r h)))
theorem zc_pm1 (K : zOK t tb G E) {index f : Nat} (hd : decode (zyc t) pc = .ok (.putfield index, 3)) (hw : Cond.fieldLink (zyn t).cls index (TX2 7).1 (TX2 7).2.1 (TX2 7).2.2.1 ∈ zTs) (hC : zC M W B) (hS : zFm M0 W B0 M) (hf : f < 96) (kk : ∀ M', zC M' W (zsc B 16 (nI f)) → zFm M0 W B0 M' → WW E G u Q M' b (pc + 3) L S) : WW E G u Q M b pc L (.ref (W 9 f) :: .ref (W 10 0) :: S) :=
  zq_putRs K hd zclX2 (k := 7) (by decide) hw (Or.inl rfl) (fun r => by cases r <;> exact ⟨rfl, rfl⟩) rfl hC.x.1 (kk _ (hC.upd 10 0 ⟨by decide, rfl⟩ (fun a h => zsame.r h) (fun _ _ h => h) (fun i j hne hv h => zOb.scx hne hv h) (fun h => ⟨h.1, ⟨by rw [zr_r, if_neg (fun z => absurd z.2 (by decide))]; exact h.2.1.1, by rw [zr_r, if_neg (fun z => absurd z.2 (by decide))]; exact h.2.1.2.1, by rw [zr_r, if_neg (fun z => absurd z.2 (by decide))]; exact h.2.1.2.2⟩, h.2.2.1, by rw [zr_r, if_pos ⟨rfl, rfl⟩, show (zsc B 16 (nI f)).1 16 = nI f from rfl, if_neg (nI_ne1 (by omega)), nI_clamp (by omega)]⟩)) (hS.one (i := 10) (j := 0) ⟨by decide, rfl⟩ (fun a h => zsame.r h)))
theorem zC.u_mea {v : Int32} {d n : Nat} (hv : zVal B 3 d) (hn : n < 50) (hC : zC M W B) : zC (zsi M (W 4 d) n v) W (zsa B 6 (50 * d + n) v) := by
  refine hC.upd (4) (d) hv (fun a h => zsame.i h) (fun _ _ h => h) ?_ (fun h => (by
    refine ⟨h.1, h.2.1, fun k hk => ?_⟩
    rw [zi_i, zsa_2]
    by_cases e : k = n
    · rw [if_pos ⟨rfl, e⟩, if_pos ⟨rfl, by rw [e]⟩]
    · rw [if_neg (fun z => e z.2), if_neg (fun z => e (by have := z.2; omega))]
      exact h.2.2 k hk))
  exact fun i j => match i, j with
    | 0, j => fun hne hv h => h
    | 1, j => fun hne hv h => h
    | 2, j => fun hne hv h => h
    | 3, j => fun hne hv h => h
    | 4, j => fun hne hv h => (by
      refine ⟨h.1, h.2.1, fun k hk => ?_⟩
      rw [zsa_2, if_neg (fun z => hne ⟨rfl, by have := z.2; omega⟩)]
      exact h.2.2 k hk)
    | 5, j => fun hne hv h => h
    | 6, j => fun hne hv h => h
    | 7, j => fun hne hv h => h
    | 8, j => fun hne hv h => h
    | 9, j => fun hne hv h => h
    | 10, j => fun hne hv h => h
    | i + 11, j => fun hne hv h => absurd hv.lt (by omega)
theorem zC.u_age {v : Int32} {d n : Nat} (hv : zVal B 3 d) (hn : n < 50) (hC : zC M W B) : zC (zsi M (W 5 d) n v) W (zsa B 7 (50 * d + n) v) := by
  refine hC.upd (5) (d) hv (fun a h => zsame.i h) (fun _ _ h => h) ?_ (fun h => (by
    refine ⟨h.1, h.2.1, fun k hk => ?_⟩
    rw [zi_i, zsa_2]
    by_cases e : k = n
    · rw [if_pos ⟨rfl, e⟩, if_pos ⟨rfl, by rw [e]⟩]
    · rw [if_neg (fun z => e z.2), if_neg (fun z => e (by have := z.2; omega))]
      exact h.2.2 k hk))
  exact fun i j => match i, j with
    | 0, j => fun hne hv h => h
    | 1, j => fun hne hv h => h
    | 2, j => fun hne hv h => h
    | 3, j => fun hne hv h => h
    | 4, j => fun hne hv h => h
    | 5, j => fun hne hv h => (by
      refine ⟨h.1, h.2.1, fun k hk => ?_⟩
      rw [zsa_2, if_neg (fun z => hne ⟨rfl, by have := z.2; omega⟩)]
      exact h.2.2 k hk)
    | 6, j => fun hne hv h => h
    | 7, j => fun hne hv h => h
    | 8, j => fun hne hv h => h
    | 9, j => fun hne hv h => h
    | 10, j => fun hne hv h => h
    | i + 11, j => fun hne hv h => absurd hv.lt (by omega)
theorem zC.u_rec {v : Int32} {c : Nat} (hc : c < 4) (hC : zC M W B) : zC (zsi M (W 1 0) c v) W (zsa B 14 c v) := by
  refine hC.upd (1) (0) ⟨by decide, rfl⟩ (fun a h => zsame.i h) (fun _ _ h => h) ?_ (fun h => (by
    refine ⟨h.1, h.2.1, fun k hk => ?_⟩
    rw [zi_i, zsa_2]
    by_cases e : k = c
    · rw [if_pos ⟨rfl, e⟩, if_pos ⟨rfl, by rw [e]⟩]
    · rw [if_neg (fun z => e z.2), if_neg (fun z => e (by have := z.2; omega))]
      exact h.2.2 k hk))
  exact fun i j => match i, j with
    | 0, j => fun hne hv h => h
    | 1, j => fun hne hv h => absurd ⟨rfl, hv.2⟩ hne
    | 2, j => fun hne hv h => h
    | 3, j => fun hne hv h => h
    | 4, j => fun hne hv h => h
    | 5, j => fun hne hv h => h
    | 6, j => fun hne hv h => h
    | 7, j => fun hne hv h => h
    | 8, j => fun hne hv h => h
    | 9, j => fun hne hv h => h
    | 10, j => fun hne hv h => h
    | i + 11, j => fun hne hv h => absurd hv.lt (by omega)
theorem zC.u_kno {v : Int32} {c : Nat} (hc : c < 4) (hC : zC M W B) : zC (zsi M (W 2 0) c v) W (zsa B 15 c v) := by
  refine hC.upd (2) (0) ⟨by decide, rfl⟩ (fun a h => zsame.i h) (fun _ _ h => h) ?_ (fun h => (by
    refine ⟨h.1, h.2.1, fun k hk => ?_⟩
    rw [zi_i, zsa_2]
    by_cases e : k = c
    · rw [if_pos ⟨rfl, e⟩, if_pos ⟨rfl, by rw [e]⟩]
    · rw [if_neg (fun z => e z.2), if_neg (fun z => e (by have := z.2; omega))]
      exact h.2.2 k hk))
  exact fun i j => match i, j with
    | 0, j => fun hne hv h => h
    | 1, j => fun hne hv h => h
    | 2, j => fun hne hv h => absurd ⟨rfl, hv.2⟩ hne
    | 3, j => fun hne hv h => h
    | 4, j => fun hne hv h => h
    | 5, j => fun hne hv h => h
    | 6, j => fun hne hv h => h
    | 7, j => fun hne hv h => h
    | 8, j => fun hne hv h => h
    | 9, j => fun hne hv h => h
    | 10, j => fun hne hv h => h
    | i + 11, j => fun hne hv h => absurd hv.lt (by omega)
theorem zC.u_row {v : Int32} {d c n : Nat} (hv : zVal B 3 d) (hc : c < 4) (hn : n < 50) (hC : zC M W B) : zC (zsi M (W 7 (4 * d + c)) n v) W (zsa B 13 (600 * c + (50 * d + n)) v) := by
  obtain ⟨hd12, hl12⟩ := id hv
  refine hC.upd (7) (4 * d + c) (hv.r hc) (fun a h => zsame.i h) (fun _ _ h => h) ?_ (fun h => (by
    obtain ⟨h1, h2, h3⟩ := h
    refine ⟨h1, h2, fun k hk => ?_⟩
    rw [zi_i, zsa_2]
    by_cases e : k = n
    · rw [if_pos ⟨rfl, e⟩, if_pos ⟨rfl, by rw [e, show (4 * d + c) % 4 = c by omega, show (4 * d + c) / 4 = d by omega]⟩]
    · rw [if_neg (fun z => e z.2), if_neg (fun z => e (by have := z.2; omega))]
      exact h3 k hk))
  exact fun i j => match i, j with
    | 0, j => fun hne hv h => h
    | 1, j => fun hne hv h => h
    | 2, j => fun hne hv h => h
    | 3, j => fun hne hv h => h
    | 4, j => fun hne hv h => h
    | 5, j => fun hne hv h => h
    | 6, j => fun hne hv h => h
    | 7, j => fun hne hv h => (by
      obtain ⟨h1, h2, h3⟩ := h
      obtain ⟨v1, v2⟩ := hv
      refine ⟨h1, h2, fun k hk => ?_⟩
      rw [zsa_2, if_neg (fun z => hne ⟨rfl, by have := z.2; omega⟩)]
      exact h3 k hk)
    | 8, j => fun hne hv h => h
    | 9, j => fun hne hv h => h
    | 10, j => fun hne hv h => h
    | i + 11, j => fun hne hv h => absurd hv.lt (by omega)
theorem zC.u_own {v : Int32} {f : Nat} (hv : zVal B 9 f) (hC : zC M W B) : zC (zsi M (W 9 f) 3 v) W (zsa B 11 f v) := by
  refine hC.upd (9) (f) hv (fun a h => zsame.i h) (fun _ _ h => h) ?_ (fun h => ⟨h.1, (by rw [zi_i, if_neg (fun z => absurd z.2 (by decide))]; exact h.2.1), (by rw [zi_i, if_neg (fun z => absurd z.2 (by decide))]; exact h.2.2.1), (by rw [zi_i, if_neg (fun z => absurd z.2 (by decide))]; exact h.2.2.2.1), (by rw [zi_i, if_pos ⟨rfl, rfl⟩, zsa_2, if_pos ⟨rfl, rfl⟩]), (by rw [zi_i, if_neg (fun z => absurd z.2 (by decide))]; exact h.2.2.2.2.2)⟩)
  exact fun i j => match i, j with
    | 0, j => fun hne hv h => h
    | 1, j => fun hne hv h => h
    | 2, j => fun hne hv h => h
    | 3, j => fun hne hv h => h
    | 4, j => fun hne hv h => h
    | 5, j => fun hne hv h => h
    | 6, j => fun hne hv h => h
    | 7, j => fun hne hv h => h
    | 8, j => fun hne hv h => h
    | 9, j => fun hne hv h => ⟨h.1, h.2.1, h.2.2.1, h.2.2.2.1, (by rw [zsa_2, if_neg (fun z => hne ⟨rfl, z.2⟩)]; exact h.2.2.2.2.1), h.2.2.2.2.2⟩
    | 10, j => fun hne hv h => h
    | i + 11, j => fun hne hv h => absurd hv.lt (by omega)
theorem zC.u_load {v : Int32} {f : Nat} (hv : zVal B 9 f) (hC : zC M W B) : zC (zsi M (W 9 f) 4 v) W (zsa B 12 f v) := by
  refine hC.upd (9) (f) hv (fun a h => zsame.i h) (fun _ _ h => h) ?_ (fun h => ⟨h.1, (by rw [zi_i, if_neg (fun z => absurd z.2 (by decide))]; exact h.2.1), (by rw [zi_i, if_neg (fun z => absurd z.2 (by decide))]; exact h.2.2.1), (by rw [zi_i, if_neg (fun z => absurd z.2 (by decide))]; exact h.2.2.2.1), (by rw [zi_i, if_neg (fun z => absurd z.2 (by decide))]; exact h.2.2.2.2.1), (by rw [zi_i, if_pos ⟨rfl, rfl⟩, zsa_2, if_pos ⟨rfl, rfl⟩])⟩)
  exact fun i j => match i, j with
    | 0, j => fun hne hv h => h
    | 1, j => fun hne hv h => h
    | 2, j => fun hne hv h => h
    | 3, j => fun hne hv h => h
    | 4, j => fun hne hv h => h
    | 5, j => fun hne hv h => h
    | 6, j => fun hne hv h => h
    | 7, j => fun hne hv h => h
    | 8, j => fun hne hv h => h
    | 9, j => fun hne hv h => ⟨h.1, h.2.1, h.2.2.1, h.2.2.2.1, h.2.2.2.2.1, (by rw [zsa_2, if_neg (fun z => hne ⟨rfl, z.2⟩)]; exact h.2.2.2.2.2)⟩
    | 10, j => fun hne hv h => h
    | i + 11, j => fun hne hv h => absurd hv.lt (by omega)
theorem zC.u_nam {v : Int32} {d : Nat} (hv : zVal B 3 d) (hC : zC M W B) : zC (zsi M (W 3 d) 2 v) W (zsa B 5 d v) := by
  refine hC.upd (3) (d) hv (fun a h => zsame.i h) (fun _ _ h => h) ?_ (fun h => ⟨h.1, (by rw [zi_i, if_neg (fun z => absurd z.2 (by decide))]; exact h.2.1), h.2.2.1, (by rw [zi_i, if_pos ⟨rfl, rfl⟩, zsa_2, if_pos ⟨rfl, rfl⟩]), h.2.2.2.2.1, h.2.2.2.2.2.1, h.2.2.2.2.2.2.1, h.2.2.2.2.2.2.2⟩)
  exact fun i j => match i, j with
    | 0, j => fun hne hv h => h
    | 1, j => fun hne hv h => h
    | 2, j => fun hne hv h => h
    | 3, j => fun hne hv h => ⟨h.1, h.2.1, h.2.2.1, (by rw [zsa_2, if_neg (fun z => hne ⟨rfl, z.2⟩)]; exact h.2.2.2.1), h.2.2.2.2.1, h.2.2.2.2.2.1, h.2.2.2.2.2.2.1, h.2.2.2.2.2.2.2⟩
    | 4, j => fun hne hv h => h
    | 5, j => fun hne hv h => h
    | 6, j => fun hne hv h => h
    | 7, j => fun hne hv h => h
    | 8, j => fun hne hv h => h
    | 9, j => fun hne hv h => h
    | 10, j => fun hne hv h => h
    | i + 11, j => fun hne hv h => absurd hv.lt (by omega)
theorem zOb.par {s : Nat → Int32} {z z' : Nat → Nat → Int32} {d : Nat} (hk : ∀ k, k ≠ 4 → z' k = z k) (h4 : ∀ j, j ≠ d → z' 4 j = z 4 j) : ∀ {i j : Nat}, zVal (s, z) i j → ¬ (i = 3 ∧ j = d) → zOb M W (s, z) i j → zOb M W (s, z') i j
  | 0, j, _, _, h => ⟨h.1, h.2.1, fun c hc => by rw [h.2.2 c hc]; show (if z 3 c = 1 then _ else _) = (if z' 3 c = 1 then _ else _); rw [hk 3 (by decide)]⟩
  | 1, j, _, _, h => ⟨h.1, h.2.1, fun c hc => by rw [h.2.2 c hc]; exact (congrFun (hk 14 (by decide)) c).symm⟩
  | 2, j, _, _, h => ⟨h.1, h.2.1, fun c hc => by rw [h.2.2 c hc]; exact (congrFun (hk 15 (by decide)) c).symm⟩
  | 3, j, _, hne, h => by
    have e5 := hk 5 (by decide)
    have e6 : zpar (s, z') j = zpar (s, z) j := by unfold zpar; exact congrArg Int32.toNatClampNeg (h4 j (fun z => hne ⟨rfl, z⟩))
    exact ⟨h.1, h.2.1, by rw [e6]; exact h.2.2.1, by rw [h.2.2.2.1]; exact (congrFun e5 j).symm, h.2.2.2.2⟩
  | 4, j, _, _, h => ⟨h.1, h.2.1, fun c hc => by rw [h.2.2 c hc]; exact (congrFun (hk 6 (by decide)) _).symm⟩
  | 5, j, _, _, h => ⟨h.1, h.2.1, fun c hc => by rw [h.2.2 c hc]; exact (congrFun (hk 7 (by decide)) _).symm⟩
  | 6, j, _, _, h => ⟨h.1, h.2.1, h.2.2⟩
  | 7, j, _, _, h => ⟨h.1, h.2.1, fun c hc => by rw [h.2.2 c hc]; exact (congrFun (hk 13 (by decide)) _).symm⟩
  | 8, j, _, _, h => ⟨h.1, h.2.1, fun c hc => by rw [h.2.2 c hc]; show some (W 9 (8 * j + zfg (z 10) j c)) = some (W 9 (8 * j + zfg (z' 10) j c)); rw [hk 10 (by decide)]⟩
  | 9, j, _, _, h => ⟨h.1, h.2.1, h.2.2.1, h.2.2.2.1.trans (congrFun (hk 10 (by decide)) j).symm, h.2.2.2.2.1.trans (congrFun (hk 11 (by decide)) j).symm, h.2.2.2.2.2.trans (congrFun (hk 12 (by decide)) j).symm⟩
  | 10, j, _, _, h => ⟨h.1, h.2.1, h.2.2.1, h.2.2.2⟩
  | i + 11, _, hv, _, _ => absurd hv.lt (by omega)
theorem zOb.par1 {v : Int32} {d e : Nat} (hd0 : ¬ d = 0) (he : e < 12) (ev : v = nI e) (h : zOb M W B 3 d) : zOb (zsr M (W 3 d) 1 (some (W 3 e))) W (zsa B 4 d v) 3 d := by
  have e1 : zpar (zsa B 4 d v) d = e := by unfold zpar; rw [zsa_2, if_pos ⟨rfl, rfl⟩, ev, nI_clamp (by omega)]
  obtain ⟨h1, h2, h3, h4, h5, h6, h7, h8⟩ := h
  refine ⟨h1, h2, ?_, h4, ?_, ?_, ?_, ?_⟩
  · rw [zr_r, if_pos ⟨rfl, rfl⟩, if_neg hd0, e1]
  all_goals rw [zr_r, if_neg (fun z => absurd z.2 (by decide))]; assumption
theorem zC.u_par {v : Int32} {d e : Nat} (hv : zVal B 3 d) (hd0 : ¬ d = 0) (he : e < 12) (ev : v = nI e) (hC : zC M W B) : zC (zsr M (W 3 d) 1 (some (W 3 e))) W (zsa B 4 d v) :=
  hC.upd 3 d hv (fun a h => zsame.r h) (fun _ _ h => h) (fun i j hne hv h => zOb.par (s := B.1) (z := B.2) (z' := (zsa B 4 d v).2) (d := d) (fun k hk => zsa_n B 4 d v k hk) (fun j hj => by rw [zsa_2, if_neg (fun z => hj z.2)]) hv hne h) (fun h => zOb.par1 hd0 he ev h)
end ZCR
end
section
section ZCS
variable {t : ZY} {tb : List ExceptionTableEntry} {E : ZE} {G : ZG} {u : Nat} {Q : State → Prop} {M M0 : ZM} {b pc : Nat} {L : List (Option Value)} {S : List Value} {W : Nat → Nat → Nat} {B B0 : ZA} {P P' : ZO → ZM → Prop}
theorem zc_stmea (K : zOK t tb G E) {d n : Nat} {i v : Int32} (hd : decode (zyc t) pc = .ok (.iastore, 1)) (hC : zC M W B) (hS : zFm M0 W B0 M) (hv : zVal B 3 d) (hv0 : zVal B0 3 d) (hi : i = nI n) (hn : n < 50) (kk : ∀ M', zC M' W (zsa B 6 (50 * d + n) v) → zFm M0 W B0 M' → WW E G u Q M' b (pc + 1) L S) : WW E G u Q M b pc L (.int v :: .int i :: .ref (W 4 d) :: S) :=
  zq_iast K n hd (hC.mea hv).1 hi (by rw [(hC.mea hv).2.1]; exact hn) (by rw [(hC.mea hv).2.1]; decide) (kk _ (hC.u_mea hv hn) (hS.one (i := 4) (j := d) hv0 (fun a h => zsame.i h)))
theorem zc_stage (K : zOK t tb G E) {d n : Nat} {i v : Int32} (hd : decode (zyc t) pc = .ok (.iastore, 1)) (hC : zC M W B) (hS : zFm M0 W B0 M) (hv : zVal B 3 d) (hv0 : zVal B0 3 d) (hi : i = nI n) (hn : n < 50) (kk : ∀ M', zC M' W (zsa B 7 (50 * d + n) v) → zFm M0 W B0 M' → WW E G u Q M' b (pc + 1) L S) : WW E G u Q M b pc L (.int v :: .int i :: .ref (W 5 d) :: S) :=
  zq_iast K n hd (hC.age hv).1 hi (by rw [(hC.age hv).2.1]; exact hn) (by rw [(hC.age hv).2.1]; decide) (kk _ (hC.u_age hv hn) (hS.one (i := 5) (j := d) hv0 (fun a h => zsame.i h)))
theorem zc_strow (K : zOK t tb G E) {d c n : Nat} {i v : Int32} (hd : decode (zyc t) pc = .ok (.iastore, 1)) (hC : zC M W B) (hS : zFm M0 W B0 M) (hv : zVal B 3 d) (hv0 : zVal B0 3 d) (hc : c < 4) (hi : i = nI n) (hn : n < 50) (kk : ∀ M', zC M' W (zsa B 13 (600 * c + (50 * d + n)) v) → zFm M0 W B0 M' → WW E G u Q M' b (pc + 1) L S) : WW E G u Q M b pc L (.int v :: .int i :: .ref (W 7 (4 * d + c)) :: S) :=
  zq_iast K n hd (hC.row (hv.r hc)).1 hi (by rw [(hC.row (hv.r hc)).2.1]; exact hn) (by rw [(hC.row (hv.r hc)).2.1]; decide) (kk _ (hC.u_row hv hc hn) (hS.one (i := 7) (j := 4 * d + c) (hv0.r hc) (fun a h => zsame.i h)))
theorem zc_strec (K : zOK t tb G E) {c : Nat} {i v : Int32} (hd : decode (zyc t) pc = .ok (.iastore, 1)) (hC : zC M W B) (hS : zFm M0 W B0 M) (hi : i = nI c) (hc : c < 4) (kk : ∀ M', zC M' W (zsa B 14 c v) → zFm M0 W B0 M' → WW E G u Q M' b (pc + 1) L S) : WW E G u Q M b pc L (.int v :: .int i :: .ref (W 1 0) :: S) := by
  have h := hC.cnt (i := 1) (by decide)
  exact zq_iast K c hd h.1 hi (by rw [h.2.1]; exact hc) (by rw [h.2.1]; decide) (kk _ (hC.u_rec hc) (hS.one (i := 1) (j := 0) ⟨by decide, rfl⟩ (fun a h => zsame.i h)))
theorem zc_stkno (K : zOK t tb G E) {c : Nat} {i v : Int32} (hd : decode (zyc t) pc = .ok (.iastore, 1)) (hC : zC M W B) (hS : zFm M0 W B0 M) (hi : i = nI c) (hc : c < 4) (kk : ∀ M', zC M' W (zsa B 15 c v) → zFm M0 W B0 M' → WW E G u Q M' b (pc + 1) L S) : WW E G u Q M b pc L (.int v :: .int i :: .ref (W 2 0) :: S) := by
  have h := hC.cnt (i := 2) (by decide)
  exact zq_iast K c hd h.1 hi (by rw [h.2.1]; exact hc) (by rw [h.2.1]; decide) (kk _ (hC.u_kno hc) (hS.one (i := 2) (j := 0) ⟨by decide, rfl⟩ (fun a h => zsame.i h)))
theorem zc_ppar (K : zOK t tb G E) {index d e : Nat} (hd : decode (zyc t) pc = .ok (.putfield index, 3)) (hw : Cond.fieldLink (zyn t).cls index (TX0 1).1 (TX0 1).2.1 (TX0 1).2.2.1 ∈ zTs) (hC : zC M W B) (hS : zFm M0 W B0 M) (hv : zVal B 3 d) (hv0 : zVal B0 3 d) (hd0 : ¬ d = 0) (he : e < 12) (kk : ∀ M', zC M' W (zsa B 4 d (nI e)) → zFm M0 W B0 M' → WW E G u Q M' b (pc + 3) L S) : WW E G u Q M b pc L (.ref (W 3 e) :: .ref (W 3 d) :: S) :=
  zq_putRs K hd zclX0 (k := 1) (by decide) hw (Or.inl rfl) (fun r => by cases r <;> exact ⟨rfl, rfl⟩) rfl (hC.d hv).1 (kk _ (hC.u_par hv hd0 he rfl) (hS.one (i := 3) (j := d) hv0 (fun a h => zsame.r h)))
theorem zc_pnam (K : zOK t tb G E) {index d : Nat} {v : Int32} (hd : decode (zyc t) pc = .ok (.putfield index, 3)) (hw : Cond.fieldLink (zyn t).cls index (TX0 2).1 (TX0 2).2.1 (TX0 2).2.2.1 ∈ zTs) (hC : zC M W B) (hS : zFm M0 W B0 M) (hv : zVal B 3 d) (hv0 : zVal B0 3 d) (kk : ∀ M', zC M' W (zsa B 5 d v) → zFm M0 W B0 M' → WW E G u Q M' b (pc + 3) L S) : WW E G u Q M b pc L (.int v :: .ref (W 3 d) :: S) :=
  zq_putI K hd zclX0 (k := 2) (by decide) hw (Or.inl rfl) rfl rfl (hC.d hv).1 (kk _ (hC.u_nam hv) (hS.one (i := 3) (j := d) hv0 (fun a h => zsame.i h)))
theorem zc_pown (K : zOK t tb G E) {index f : Nat} {v : Int32} (hd : decode (zyc t) pc = .ok (.putfield index, 3)) (hw : Cond.fieldLink (zyn t).cls index (TX1 3).1 (TX1 3).2.1 (TX1 3).2.2.1 ∈ zTs) (hC : zC M W B) (hS : zFm M0 W B0 M) (hv : zVal B 9 f) (hv0 : zVal B0 9 f) (kk : ∀ M', zC M' W (zsa B 11 f v) → zFm M0 W B0 M' → WW E G u Q M' b (pc + 3) L S) : WW E G u Q M b pc L (.int v :: .ref (W 9 f) :: S) :=
  zq_putI K hd zclX1 (k := 3) (by decide) hw (Or.inl rfl) rfl rfl (hC.f hv).1 (kk _ (hC.u_own hv) (hS.one (i := 9) (j := f) hv0 (fun a h => zsame.i h)))
theorem zc_pload (K : zOK t tb G E) {index f : Nat} {v : Int32} (hd : decode (zyc t) pc = .ok (.putfield index, 3)) (hw : Cond.fieldLink (zyn t).cls index (TX1 4).1 (TX1 4).2.1 (TX1 4).2.2.1 ∈ zTs) (hC : zC M W B) (hS : zFm M0 W B0 M) (hv : zVal B 9 f) (hv0 : zVal B0 9 f) (kk : ∀ M', zC M' W (zsa B 12 f v) → zFm M0 W B0 M' → WW E G u Q M' b (pc + 3) L S) : WW E G u Q M b pc L (.int v :: .ref (W 9 f) :: S) :=
  zq_putI K hd zclX1 (k := 4) (by decide) hw (Or.inl rfl) rfl rfl (hC.f hv).1 (kk _ (hC.u_load hv) (hS.one (i := 9) (j := f) hv0 (fun a h => zsame.i h)))
theorem zVal.fg {d h : Nat} (hv : zVal B 3 d) (hF : zFr B) (hh : h < 8) : zVal B 9 (8 * d + zfg (B.2 10) d h) := by
  have h1 := zfg_le (B.2 10) d h
  have h2 := hF.1 d hv.1 hv.2
  have h3 := hv.1
  exact ⟨by omega, by rw [show (8 * d + zfg (B.2 10) d h) / 8 = d by omega]; exact hv.2, zfg_ne h2 h⟩
/-- a call that changes the class's objects -/
def zCP (W : Nat → Nat → Nat) (M : ZM) (B : ZA) (v : Option Value) (B' : ZA) : ZO → ZM → Prop := fun o M' => o = .inl v ∧ zC M' W B' ∧ zFm M W B M'
theorem zCP_r {v : Option Value} {n : Nat} {B' : ZA} (hS : zFm M0 W B0 M) (hs : ∀ i j, zVal B i j → zVal B0 i j) (k : ∀ M', zC M' W B' → zFm M0 W B0 M' → WW E G u Q M' n (pc + 3) L (v.toList ++ S)) : ∀ (v' : Option Value) (M' : ZM), zCP W M B v B' (.inl v') M' → WW E G u Q M' n (pc + 3) L (v'.toList ++ S) := by
  rintro v' M' ⟨h1, h2, h3⟩
  cases h1
  exact k M' h2 (hS.tr h3 hs)
theorem zCP_x {v : Option Value} {n : Nat} {B' : ZA} : ∀ (En : String) (M' : ZM), zCP W M B v B' (.inr En) M' → XX E G u Q M' n pc L En := by
  rintro En M' ⟨h1, -⟩
  cases h1
/-- a call that comes back where p, and throws X else -/
def znd (p : Prop) (v : Option Value) (X : String) (M : ZM) : ZO → ZM → Prop := fun o M' => M' = M ∧ ((p ∧ o = .inl v) ∨ (¬ p ∧ o = .inr X))
theorem znd_r {p : Prop} {v : Option Value} {X : String} {n : Nat} (k : p → WW E G u Q M n (pc + 3) L (v.toList ++ S)) : ∀ (v' : Option Value) (M' : ZM), znd p v X M (.inl v') M' → WW E G u Q M' n (pc + 3) L (v'.toList ++ S) := by
  rintro v' M' ⟨rfl, ⟨h, e⟩ | ⟨-, e⟩⟩
  · cases e
    exact k h
  · cases e
theorem znd_x {p : Prop} {v : Option Value} {X : String} {n : Nat} (k : ¬ p → XX E G u Q M n pc L X) : ∀ (En : String) (M' : ZM), znd p v X M (.inr En) M' → XX E G u Q M' n pc L En := by
  rintro En M' ⟨rfl, ⟨-, e⟩ | ⟨h, e⟩⟩
  · cases e
  · cases e
    exact k h
abbrev zIAE : String := "java/lang/IllegalArgumentException"
abbrev zIOB : String := "java/lang/IndexOutOfBoundsException"
abbrev zISE : String := "java/lang/IllegalStateException"
end ZCS
end
section
/-! the class: directories -/
theorem zOn_p {n : Int32} {k : Nat} (hk : k < 2 ^ 30) (h0 : ¬ n < 0) (h1 : n < nI (k + 1)) : zOn n k := by
  obtain ⟨j, hj, rfl⟩ := nI_of h0
  exact ⟨j, by have := (nI_ltI hj (by omega)).mp h1; omega, rfl⟩
theorem zOn_n0 {n : Int32} {k : Nat} (hk : k < 2 ^ 30) (h0 : n < 0) : ¬ zOn n k := by
  rintro ⟨j, hj, rfl⟩
  exact nI_pos (by omega) h0
theorem zOn_n1 {n : Int32} {k : Nat} (hk : k < 2 ^ 30) (h1 : ¬ n < nI (k + 1)) : ¬ zOn n k := by
  rintro ⟨j, hj, rfl⟩
  exact h1 (nI_lt (by omega) (by omega))
theorem zltge {a b : Int32} (h : b ≤ a) : ¬ a < b := Int32.not_lt.mpr h
theorem zgelt {a b : Int32} (h : ¬ b ≤ a) : a < b := Int32.not_le.mp h
theorem ct_X0_isName {G : ZG} (n : Int32) (M : ZM) : zMet G mX0_isName [.int (n)] M (zdec (zOn n 49) M) := by
  refine zbody zyX0_isName [some (.int (n))] rfl (Nat.le_of_ble_eq_true rfl) (by intro v hv; simp only [List.mem_cons, List.not_mem_nil, or_false] at hv; rcases hv with rfl <;> rfl) (fun E K => ?_)
  refine zq_iload_n K dX0_isName_0 rfl rfl ?_
  refine zq_if_lt K 14 dX0_isName_1 (by decide) (fun h1 => ?_) (fun h1 => ?_)
  · refine zq_iconst K dX0_isName_14 (v := nI 0) (by decide) ?_
    exact zq_zret K dX0_isName_15 rfl (by decide) (zdec_0 (zOn_n0 (by decide) h1))
  · refine zq_iload_n K dX0_isName_4 rfl rfl ?_
    refine zq_bipush K dX0_isName_5 (v := nI 50) (by decide) ?_
    refine zq_icmp_ge K 14 dX0_isName_7 (by decide) (fun h7 => ?_) (fun h7 => ?_)
    · refine zq_iconst K dX0_isName_14 (v := nI 0) (by decide) ?_
      exact zq_zret K dX0_isName_15 rfl (by decide) (zdec_0 (zOn_n1 (by decide) (zltge h7)))
    · refine zq_iconst K dX0_isName_10 (v := nI 1) (by decide) ?_
      refine zq_goto K 15 dX0_isName_11 (by decide) ?_
      exact zq_zret K dX0_isName_15 rfl (by decide) (zdec_1 (zOn_p (by decide) h1 (zgelt h7)))
theorem ct_X0_isClient {G : ZG} (n : Int32) (M : ZM) : zMet G mX0_isClient [.int (n)] M (zdec (zOn n 3) M) := by
  refine zbody zyX0_isClient [some (.int (n))] rfl (Nat.le_of_ble_eq_true rfl) (by intro v hv; simp only [List.mem_cons, List.not_mem_nil, or_false] at hv; rcases hv with rfl <;> rfl) (fun E K => ?_)
  refine zq_iload_n K dX0_isClient_0 rfl rfl ?_
  refine zq_if_lt K 13 dX0_isClient_1 (by decide) (fun h1 => ?_) (fun h1 => ?_)
  · refine zq_iconst K dX0_isClient_13 (v := nI 0) (by decide) ?_
    exact zq_zret K dX0_isClient_14 rfl (by decide) (zdec_0 (zOn_n0 (by decide) h1))
  · refine zq_iload_n K dX0_isClient_4 rfl rfl ?_
    refine zq_iconst K dX0_isClient_5 (v := nI 4) (by decide) ?_
    refine zq_icmp_ge K 13 dX0_isClient_6 (by decide) (fun h6 => ?_) (fun h6 => ?_)
    · refine zq_iconst K dX0_isClient_13 (v := nI 0) (by decide) ?_
      exact zq_zret K dX0_isClient_14 rfl (by decide) (zdec_0 (zOn_n1 (by decide) (zltge h6)))
    · refine zq_iconst K dX0_isClient_9 (v := nI 1) (by decide) ?_
      refine zq_goto K 14 dX0_isClient_10 (by decide) ?_
      exact zq_zret K dX0_isClient_14 rfl (by decide) (zdec_1 (zOn_p (by decide) h1 (zgelt h6)))
theorem ct_X0_meaningOf {G : ZG} {M : ZM} {W : Nat → Nat → Nat} {B : ZA} (hC : zC M W B) {d : Nat} (hv : zVal B 3 d) {n : Nat} (hn : n < 50) : zMet G mX0_meaningOf [.ref (W 3 (d)), .int (nI (n))] M (zone (some (.int (B.2 6 (50 * d + n)))) M) := by
  refine zbody zyX0_meaningOf [some (.ref (W 3 (d))), some (.int (nI (n)))] rfl (Nat.le_of_ble_eq_true rfl) (by intro v hv; simp only [List.mem_cons, List.not_mem_nil, or_false] at hv; rcases hv with rfl | rfl <;> rfl) (fun E K => ?_)
  refine zq_iload_n K dX0_meaningOf_0 rfl rfl ?_
  refine zq_callS (As := [.int (nI (n))]) K dX0_meaningOf_1 zyX0_isName zm_X0_43 zsX0_isName rfl (by decide) rfl rfl (Nat.le_of_ble_eq_true rfl) (Nat.le_of_ble_eq_true rfl) (ct_X0_isName (nI n) M) (zdec_r (fun yn => ?_) (fun yn => ?_)) zdec_x (Nat.le_refl _)
  · refine zq_if_eqN K (x := 1) 16 dX0_meaningOf_4 (by decide) (by omega) (fun h4 => by omega) (fun h4 => ?_)
    refine zq_aload_n K dX0_meaningOf_7 rfl rfl ?_
    refine zq_getRs K dX0_meaningOf_8 zclX0 (k := 3) (by decide) zf_X0_9 rfl (hC.d hv).1 (hC.d hv).2.2.2.2.1 ?_
    refine zq_iload_n K dX0_meaningOf_11 rfl rfl ?_
    refine zc_ldmea K (n := n) dX0_meaningOf_12 hC hv rfl (by omega) ?_
    refine zq_goto K 17 dX0_meaningOf_13 (by decide) ?_
    exact zq_iret K dX0_meaningOf_17 rfl ⟨rfl, rfl⟩
  · refine zq_if_eqN K (x := 0) 16 dX0_meaningOf_4 (by decide) (by omega) (fun h4 => ?_) (fun h4 => by omega)
    exact absurd ⟨n, by omega, rfl⟩ yn
theorem ct_X0_ageOf {G : ZG} {M : ZM} {W : Nat → Nat → Nat} {B : ZA} (hC : zC M W B) {d : Nat} (hv : zVal B 3 d) {n : Nat} (hn : n < 50) : zMet G mX0_ageOf [.ref (W 3 (d)), .int (nI (n))] M (zone (some (.int (B.2 7 (50 * d + n)))) M) := by
  refine zbody zyX0_ageOf [some (.ref (W 3 (d))), some (.int (nI (n)))] rfl (Nat.le_of_ble_eq_true rfl) (by intro v hv; simp only [List.mem_cons, List.not_mem_nil, or_false] at hv; rcases hv with rfl | rfl <;> rfl) (fun E K => ?_)
  refine zq_iload_n K dX0_ageOf_0 rfl rfl ?_
  refine zq_callS (As := [.int (nI (n))]) K dX0_ageOf_1 zyX0_isName zm_X0_43 zsX0_isName rfl (by decide) rfl rfl (Nat.le_of_ble_eq_true rfl) (Nat.le_of_ble_eq_true rfl) (ct_X0_isName (nI n) M) (zdec_r (fun yn => ?_) (fun yn => ?_)) zdec_x (Nat.le_refl _)
  · refine zq_if_eqN K (x := 1) 16 dX0_ageOf_4 (by decide) (by omega) (fun h4 => by omega) (fun h4 => ?_)
    refine zq_aload_n K dX0_ageOf_7 rfl rfl ?_
    refine zq_getRs K dX0_ageOf_8 zclX0 (k := 4) (by decide) zf_X0_15 rfl (hC.d hv).1 (hC.d hv).2.2.2.2.2.1 ?_
    refine zq_iload_n K dX0_ageOf_11 rfl rfl ?_
    refine zc_ldage K (n := n) dX0_ageOf_12 hC hv rfl (by omega) ?_
    refine zq_goto K 17 dX0_ageOf_13 (by decide) ?_
    exact zq_iret K dX0_ageOf_17 rfl ⟨rfl, rfl⟩
  · refine zq_if_eqN K (x := 0) 16 dX0_ageOf_4 (by decide) (by omega) (fun h4 => ?_) (fun h4 => by omega)
    exact absurd ⟨n, by omega, rfl⟩ yn
theorem ct_X0_setMeaning {G : ZG} {M : ZM} {W : Nat → Nat → Nat} {B : ZA} (hC : zC M W B) {d : Nat} (hv : zVal B 3 d) {n : Nat} (hn : n < 50) (m g : Int32) : zMet G mX0_setMeaning [.ref (W 3 (d)), .int (nI (n)), .int (m), .int (g)] M (zCP W M B none (zsa (zsa B 6 (50 * d + n) m) 7 (50 * d + n) g)) := by
  refine zbody zyX0_setMeaning [some (.ref (W 3 (d))), some (.int (nI (n))), some (.int (m)), some (.int (g))] rfl (Nat.le_of_ble_eq_true rfl) (by intro v hv; simp only [List.mem_cons, List.not_mem_nil, or_false] at hv; rcases hv with rfl | rfl | rfl | rfl <;> rfl) (fun E K => ?_)
  have hS : zFm M W B M := zFm.rf
  refine zq_iload_n K dX0_setMeaning_0 rfl rfl ?_
  refine zq_callS (As := [.int (nI (n))]) K dX0_setMeaning_1 zyX0_isName zm_X0_43 zsX0_isName rfl (by decide) rfl rfl (Nat.le_of_ble_eq_true rfl) (Nat.le_of_ble_eq_true rfl) (ct_X0_isName (nI n) M) (zdec_r (fun yn => ?_) (fun yn => ?_)) zdec_x (Nat.le_refl _)
  · refine zq_if_eqN K (x := 1) 21 dX0_setMeaning_4 (by decide) (by omega) (fun h4 => by omega) (fun h4 => ?_)
    refine zq_aload_n K dX0_setMeaning_7 rfl rfl ?_
    refine zq_getRs K dX0_setMeaning_8 zclX0 (k := 3) (by decide) zf_X0_9 rfl (hC.d hv).1 (hC.d hv).2.2.2.2.1 ?_
    refine zq_iload_n K dX0_setMeaning_11 rfl rfl ?_
    refine zq_iload_n K dX0_setMeaning_12 rfl rfl ?_
    refine zc_stmea K (n := n) dX0_setMeaning_13 hC hS hv hv rfl (by omega) (fun M hC hS => ?_)
    refine zq_aload_n K dX0_setMeaning_14 rfl rfl ?_
    refine zq_getRs K dX0_setMeaning_15 zclX0 (k := 4) (by decide) zf_X0_15 rfl (hC.d hv).1 (hC.d hv).2.2.2.2.2.1 ?_
    refine zq_iload_n K dX0_setMeaning_18 rfl rfl ?_
    refine zq_iload_n K dX0_setMeaning_19 rfl rfl ?_
    refine zc_stage K (n := n) dX0_setMeaning_20 hC hS hv hv rfl (by omega) (fun M hC hS => ?_)
    exact zq_ret K dX0_setMeaning_21 rfl ⟨rfl, hC, hS⟩
  · refine zq_if_eqN K (x := 0) 21 dX0_setMeaning_4 (by decide) (by omega) (fun h4 => ?_) (fun h4 => by omega)
    exact absurd ⟨n, by omega, rfl⟩ yn
theorem lp_X0_countTaken {G : ZG} {E : ZE} (K : zOK mX0_countTaken [] G E) {M : ZM} {W : Nat → Nat → Nat} {B : ZA} (hC : zC M W B) {d : Nat} (hv : zVal B 3 d) {P : ZO → ZM → Prop} (hP : P (.inl (some (.int (nI (zcN (zpu B d) 50))))) M) : ∀ (n k : Nat), k + n = 50 → WW E G (zyu mX0_countTaken) (zQ E G mX0_countTaken P) M 0 4 [some (.ref (W 3 (d))), some (.int (nI (zcN (zpu B d) k))), some (.int (nI (k)))] [] := by
  intro n
  induction n with
  | zero =>
    intro k hk
    have hk4 : k = 50 := by omega
    subst hk4
    refine zq_iload_n K dX0_countTaken_4 rfl rfl ?_
    refine zq_bipush K dX0_countTaken_5 (v := nI 50) (by decide) ?_
    refine zq_icmp_geN K (x := 50) (y := 50) 29 dX0_countTaken_7 (by decide) ⟨by omega, by omega⟩ (fun h7 => ?_) (fun h7 => by omega)
    refine zq_iload_n K dX0_countTaken_29 rfl rfl ?_
    exact zq_iret K dX0_countTaken_30 rfl hP
  | succ n ih =>
    intro k hk
    have hz := zcN_le (zpu B d) k
    refine zq_iload_n K dX0_countTaken_4 rfl rfl ?_
    refine zq_bipush K dX0_countTaken_5 (v := nI 50) (by decide) ?_
    refine zq_icmp_geN K (x := k) (y := 50) 29 dX0_countTaken_7 (by decide) ⟨by omega, by omega⟩ (fun h7 => by omega) (fun h7 => ?_)
    refine zq_aload_n K dX0_countTaken_10 rfl rfl ?_
    refine zq_getRs K dX0_countTaken_11 zclX0 (k := 3) (by decide) zf_X0_9 rfl (hC.d hv).1 (hC.d hv).2.2.2.2.1 ?_
    refine zq_iload_n K dX0_countTaken_14 rfl rfl ?_
    refine zc_ldmea K (n := k) dX0_countTaken_15 hC hv rfl (by omega) ?_
    refine zq_iconst K dX0_countTaken_16 (v := -1) (by decide) ?_
    refine zq_icmp_eq K 23 dX0_countTaken_17 (by decide) (fun h17 => ?_) (fun h17 => ?_)
    · refine zq_iincN K dX0_countTaken_23 rfl (by decide) ?_
      refine zq_goto K 4 dX0_countTaken_26 (by decide) ?_
      rw [show zcN (zpu B d) k = zcN (zpu B d) (k + 1) from (zcN_f (by unfold zpu; rw [decide_eq_true h17]; exact Bool.false_ne_true)).symm]
      exact ih (k + 1) (by omega)
    · refine zq_iincN K dX0_countTaken_20 rfl (by decide) ?_
      refine zq_iincN K dX0_countTaken_23 rfl (by decide) ?_
      refine zq_goto K 4 dX0_countTaken_26 (by decide) ?_
      rw [show zcN (zpu B d) k + 1 = zcN (zpu B d) (k + 1) from (zcN_t (by unfold zpu; rw [decide_eq_false h17]; rfl)).symm]
      exact ih (k + 1) (by omega)
theorem ct_X0_countTaken {G : ZG} {M : ZM} {W : Nat → Nat → Nat} {B : ZA} (hC : zC M W B) {d : Nat} (hv : zVal B 3 d) : zMet G mX0_countTaken [.ref (W 3 (d))] M (zone (some (.int (nI (zcN (zpu B d) 50)))) M) := by
  refine zbody zyX0_countTaken [some (.ref (W 3 (d))), none, none] rfl (Nat.le_of_ble_eq_true rfl) (by intro v hv; simp only [List.mem_cons, List.not_mem_nil, or_false] at hv; rcases hv with rfl <;> rfl) (fun E K => ?_)
  refine zq_iconst K dX0_countTaken_0 (v := nI 0) (by decide) ?_
  refine zq_istore_n K dX0_countTaken_1 rfl (by decide) ?_
  refine zq_iconst K dX0_countTaken_2 (v := nI 0) (by decide) ?_
  refine zq_istore_n K dX0_countTaken_3 rfl (by decide) ?_
  exact lp_X0_countTaken K hC hv ⟨rfl, rfl⟩ 50 0 rfl
def zpf (B : ZA) (d : Nat) (f : Int32) : Nat → Bool := fun n => decide (B.2 6 (50 * d + n) = f)
theorem lp_X0_countLinksTo {G : ZG} {E : ZE} (K : zOK mX0_countLinksTo [] G E) {M : ZM} {W : Nat → Nat → Nat} {B : ZA} (hC : zC M W B) {d : Nat} (hv : zVal B 3 d) {f : Int32} {P : ZO → ZM → Prop} (hP : P (.inl (some (.int (nI (zcN (zpf B d f) 50))))) M) : ∀ (n k : Nat), k + n = 50 → WW E G (zyu mX0_countLinksTo) (zQ E G mX0_countLinksTo P) M 0 4 [some (.ref (W 3 (d))), some (.int (f)), some (.int (nI (zcN (zpf B d f) k))), some (.int (nI (k)))] [] := by
  intro n
  induction n with
  | zero =>
    intro k hk
    have hk4 : k = 50 := by omega
    subst hk4
    refine zq_iload_n K dX0_countLinksTo_4 rfl rfl ?_
    refine zq_bipush K dX0_countLinksTo_5 (v := nI 50) (by decide) ?_
    refine zq_icmp_geN K (x := 50) (y := 50) 29 dX0_countLinksTo_7 (by decide) ⟨by omega, by omega⟩ (fun h7 => ?_) (fun h7 => by omega)
    refine zq_iload_n K dX0_countLinksTo_29 rfl rfl ?_
    exact zq_iret K dX0_countLinksTo_30 rfl hP
  | succ n ih =>
    intro k hk
    have hz := zcN_le (zpf B d f) k
    refine zq_iload_n K dX0_countLinksTo_4 rfl rfl ?_
    refine zq_bipush K dX0_countLinksTo_5 (v := nI 50) (by decide) ?_
    refine zq_icmp_geN K (x := k) (y := 50) 29 dX0_countLinksTo_7 (by decide) ⟨by omega, by omega⟩ (fun h7 => by omega) (fun h7 => ?_)
    refine zq_aload_n K dX0_countLinksTo_10 rfl rfl ?_
    refine zq_getRs K dX0_countLinksTo_11 zclX0 (k := 3) (by decide) zf_X0_9 rfl (hC.d hv).1 (hC.d hv).2.2.2.2.1 ?_
    refine zq_iload_n K dX0_countLinksTo_14 rfl rfl ?_
    refine zc_ldmea K (n := k) dX0_countLinksTo_15 hC hv rfl (by omega) ?_
    refine zq_iload_n K dX0_countLinksTo_16 rfl rfl ?_
    refine zq_icmp_ne K 23 dX0_countLinksTo_17 (by decide) (fun h17 => ?_) (fun h17 => ?_)
    · refine zq_iincN K dX0_countLinksTo_23 rfl (by decide) ?_
      refine zq_goto K 4 dX0_countLinksTo_26 (by decide) ?_
      rw [show zcN (zpf B d f) k = zcN (zpf B d f) (k + 1) from (zcN_f (fun z => h17 (of_decide_eq_true z))).symm]
      exact ih (k + 1) (by omega)
    · refine zq_iincN K dX0_countLinksTo_20 rfl (by decide) ?_
      refine zq_iincN K dX0_countLinksTo_23 rfl (by decide) ?_
      refine zq_goto K 4 dX0_countLinksTo_26 (by decide) ?_
      rw [show zcN (zpf B d f) k + 1 = zcN (zpf B d f) (k + 1) from (zcN_t (decide_eq_true h17)).symm]
      exact ih (k + 1) (by omega)
theorem ct_X0_countLinksTo {G : ZG} {M : ZM} {W : Nat → Nat → Nat} {B : ZA} (hC : zC M W B) {d : Nat} (hv : zVal B 3 d) (f : Int32) : zMet G mX0_countLinksTo [.ref (W 3 (d)), .int (f)] M (zone (some (.int (nI (zcN (zpf B d f) 50)))) M) := by
  refine zbody zyX0_countLinksTo [some (.ref (W 3 (d))), some (.int (f)), none, none] rfl (Nat.le_of_ble_eq_true rfl) (by intro v hv; simp only [List.mem_cons, List.not_mem_nil, or_false] at hv; rcases hv with rfl | rfl <;> rfl) (fun E K => ?_)
  refine zq_iconst K dX0_countLinksTo_0 (v := nI 0) (by decide) ?_
  refine zq_istore_n K dX0_countLinksTo_1 rfl (by decide) ?_
  refine zq_iconst K dX0_countLinksTo_2 (v := nI 0) (by decide) ?_
  refine zq_istore_n K dX0_countLinksTo_3 rfl (by decide) ?_
  exact lp_X0_countLinksTo K hC hv ⟨rfl, rfl⟩ 50 0 rfl
/-- the oldest link to f among the first k names -/
def zOl (B : ZA) (d : Nat) (f : Int32) : Nat → Option Nat
  | 0 => none
  | k + 1 => if B.2 6 (50 * d + k) = f then (match zOl B d f k with
      | none => some k
      | some j => if B.2 7 (50 * d + j) ≤ B.2 7 (50 * d + k) then some j else some k) else zOl B d f k
theorem zOl_lt {A : ZA} {d : Nat} {f : Int32} : ∀ {k j : Nat}, zOl A d f k = some j → j < k
  | 0, j, h => nomatch h
  | k + 1, j, h => by
    unfold zOl at h
    split at h
    · split at h
      · cases h
        omega
      · rename_i j' e
        have h9 := zOl_lt e
        split at h <;> cases h <;> omega
    · have := zOl_lt h
      omega
/-- its name, 50 for none -/
def zo5 : Option Nat → Nat
  | none => 50
  | some j => j
theorem lp_X0_oldestLink {G : ZG} {E : ZE} (K : zOK mX0_oldestLink [] G E) {M : ZM} {W : Nat → Nat → Nat} {B : ZA} (hC : zC M W B) {d : Nat} (hv : zVal B 3 d) {f : Int32} {P : ZO → ZM → Prop} (hP : P (.inl (some (.int (nI (zo5 (zOl B d f 50)))))) M) : ∀ (n k : Nat), k + n = 50 → WW E G (zyu mX0_oldestLink) (zQ E G mX0_oldestLink P) M 0 5 [some (.ref (W 3 (d))), some (.int (f)), some (.int (nI (zo5 (zOl B d f k)))), some (.int (nI (k)))] [] := by
  intro n
  induction n with
  | zero =>
    intro k hk
    have hk4 : k = 50 := by omega
    subst hk4
    refine zq_iload_n K dX0_oldestLink_5 rfl rfl ?_
    refine zq_bipush K dX0_oldestLink_6 (v := nI 50) (by decide) ?_
    refine zq_icmp_geN K (x := 50) (y := 50) 50 dX0_oldestLink_8 (by decide) ⟨by omega, by omega⟩ (fun h8 => ?_) (fun h8 => by omega)
    refine zq_iload_n K dX0_oldestLink_50 rfl rfl ?_
    exact zq_iret K dX0_oldestLink_51 rfl hP
  | succ n ih =>
    intro k hk
    have h99 : ∀ (z : Nat), zo5 (zOl B d f (k + 1)) = z → WW E G (zyu mX0_oldestLink) (zQ E G mX0_oldestLink P) M 0 5 [some (.ref (W 3 (d))), some (.int (f)), some (.int (nI (z))), some (.int (nI (k + 1)))] [] := by
      intro z e
      subst e
      exact ih (k + 1) (by omega)
    rcases e9 : zOl B d f k with _ | j
    · refine zq_iload_n K dX0_oldestLink_5 rfl rfl ?_
      refine zq_bipush K dX0_oldestLink_6 (v := nI 50) (by decide) ?_
      refine zq_icmp_geN K (x := k) (y := 50) 50 dX0_oldestLink_8 (by decide) ⟨by omega, by omega⟩ (fun h8 => by omega) (fun h8 => ?_)
      refine zq_aload_n K dX0_oldestLink_11 rfl rfl ?_
      refine zq_getRs K dX0_oldestLink_12 zclX0 (k := 3) (by decide) zf_X0_9 rfl (hC.d hv).1 (hC.d hv).2.2.2.2.1 ?_
      refine zq_iload_n K dX0_oldestLink_15 rfl rfl ?_
      refine zc_ldmea K (n := k) dX0_oldestLink_16 hC hv rfl (by omega) ?_
      refine zq_iload_n K dX0_oldestLink_17 rfl rfl ?_
      refine zq_icmp_ne K 44 dX0_oldestLink_18 (by decide) (fun h18 => ?_) (fun h18 => ?_)
      · refine zq_iincN K dX0_oldestLink_44 rfl (by decide) ?_
        refine zq_goto K 5 dX0_oldestLink_47 (by decide) ?_
        exact h99 _ (by rw [zOl, if_neg h18, e9])
      · refine zq_iload_n K dX0_oldestLink_21 rfl rfl ?_
        refine zq_bipush K dX0_oldestLink_22 (v := nI 50) (by decide) ?_
        refine zq_icmp_eqN K (x := 50) (y := 50) 42 dX0_oldestLink_24 (by decide) ⟨by omega, by omega⟩ (fun h24 => ?_) (fun h24 => by omega)
        refine zq_iload_n K dX0_oldestLink_42 rfl rfl ?_
        refine zq_istore_n K dX0_oldestLink_43 rfl (by decide) ?_
        refine zq_iincN K dX0_oldestLink_44 rfl (by decide) ?_
        refine zq_goto K 5 dX0_oldestLink_47 (by decide) ?_
        exact h99 _ (by rw [zOl, if_pos h18, e9]; rfl)
    · have hj9 := zOl_lt e9
      refine zq_iload_n K dX0_oldestLink_5 rfl rfl ?_
      refine zq_bipush K dX0_oldestLink_6 (v := nI 50) (by decide) ?_
      refine zq_icmp_geN K (x := k) (y := 50) 50 dX0_oldestLink_8 (by decide) ⟨by omega, by omega⟩ (fun h8 => by omega) (fun h8 => ?_)
      refine zq_aload_n K dX0_oldestLink_11 rfl rfl ?_
      refine zq_getRs K dX0_oldestLink_12 zclX0 (k := 3) (by decide) zf_X0_9 rfl (hC.d hv).1 (hC.d hv).2.2.2.2.1 ?_
      refine zq_iload_n K dX0_oldestLink_15 rfl rfl ?_
      refine zc_ldmea K (n := k) dX0_oldestLink_16 hC hv rfl (by omega) ?_
      refine zq_iload_n K dX0_oldestLink_17 rfl rfl ?_
      refine zq_icmp_ne K 44 dX0_oldestLink_18 (by decide) (fun h18 => ?_) (fun h18 => ?_)
      · refine zq_iincN K dX0_oldestLink_44 rfl (by decide) ?_
        refine zq_goto K 5 dX0_oldestLink_47 (by decide) ?_
        exact h99 _ (by rw [zOl, if_neg h18, e9])
      · refine zq_iload_n K dX0_oldestLink_21 rfl rfl ?_
        refine zq_bipush K dX0_oldestLink_22 (v := nI 50) (by decide) ?_
        refine zq_icmp_eqN K (x := j) (y := 50) 42 dX0_oldestLink_24 (by decide) ⟨by omega, by omega⟩ (fun h24 => by omega) (fun h24 => ?_)
        refine zq_aload_n K dX0_oldestLink_27 rfl rfl ?_
        refine zq_getRs K dX0_oldestLink_28 zclX0 (k := 4) (by decide) zf_X0_15 rfl (hC.d hv).1 (hC.d hv).2.2.2.2.2.1 ?_
        refine zq_iload_n K dX0_oldestLink_31 rfl rfl ?_
        refine zc_ldage K (n := k) dX0_oldestLink_32 hC hv rfl (by omega) ?_
        refine zq_aload_n K dX0_oldestLink_33 rfl rfl ?_
        refine zq_getRs K dX0_oldestLink_34 zclX0 (k := 4) (by decide) zf_X0_15 rfl (hC.d hv).1 (hC.d hv).2.2.2.2.2.1 ?_
        refine zq_iload_n K dX0_oldestLink_37 rfl rfl ?_
        refine zc_ldage K (n := j) dX0_oldestLink_38 hC hv rfl (by omega) ?_
        refine zq_icmp_ge K 44 dX0_oldestLink_39 (by decide) (fun h39 => ?_) (fun h39 => ?_)
        · refine zq_iincN K dX0_oldestLink_44 rfl (by decide) ?_
          refine zq_goto K 5 dX0_oldestLink_47 (by decide) ?_
          exact h99 _ (by rw [zOl, if_pos h18, e9]; dsimp only; rw [if_pos h39])
        · refine zq_iload_n K dX0_oldestLink_42 rfl rfl ?_
          refine zq_istore_n K dX0_oldestLink_43 rfl (by decide) ?_
          refine zq_iincN K dX0_oldestLink_44 rfl (by decide) ?_
          refine zq_goto K 5 dX0_oldestLink_47 (by decide) ?_
          exact h99 _ (by rw [zOl, if_pos h18, e9]; dsimp only; rw [if_neg h39]; rfl)
theorem ct_X0_oldestLink {G : ZG} {M : ZM} {W : Nat → Nat → Nat} {B : ZA} (hC : zC M W B) {d : Nat} (hv : zVal B 3 d) (f : Int32) : zMet G mX0_oldestLink [.ref (W 3 (d)), .int (f)] M (zone (some (.int (nI (zo5 (zOl B d f 50))))) M) := by
  refine zbody zyX0_oldestLink [some (.ref (W 3 (d))), some (.int (f)), none, none] rfl (Nat.le_of_ble_eq_true rfl) (by intro v hv; simp only [List.mem_cons, List.not_mem_nil, or_false] at hv; rcases hv with rfl | rfl <;> rfl) (fun E K => ?_)
  refine zq_bipush K dX0_oldestLink_0 (v := nI 50) (by decide) ?_
  refine zq_istore_n K dX0_oldestLink_2 rfl (by decide) ?_
  refine zq_iconst K dX0_oldestLink_3 (v := nI 0) (by decide) ?_
  refine zq_istore_n K dX0_oldestLink_4 rfl (by decide) ?_
  exact lp_X0_oldestLink K hC hv ⟨rfl, rfl⟩ 50 0 rfl
theorem ct_X0_leaseRuns {G : ZG} {M : ZM} {W : Nat → Nat → Nat} {B : ZA} (hC : zC M W B) {d : Nat} (hv : zVal B 3 d) {c n : Nat} (hc : c < 4) (hn : n < 50) (t : Int32) : zMet G mX0_leaseRuns [.ref (W 3 (d)), .int (nI (c)), .int (nI (n)), .int (t)] M (zdec (t < B.2 13 (600 * c + (50 * d + n))) M) := by
  refine zbody zyX0_leaseRuns [some (.ref (W 3 (d))), some (.int (nI (c))), some (.int (nI (n))), some (.int (t))] rfl (Nat.le_of_ble_eq_true rfl) (by intro v hv; simp only [List.mem_cons, List.not_mem_nil, or_false] at hv; rcases hv with rfl | rfl | rfl | rfl <;> rfl) (fun E K => ?_)
  refine zq_iload_n K dX0_leaseRuns_0 rfl rfl ?_
  refine zq_callS (As := [.int (nI (c))]) K dX0_leaseRuns_1 zyX0_isClient zm_X0_47 zsX0_isClient rfl (by decide) rfl rfl (Nat.le_of_ble_eq_true rfl) (Nat.le_of_ble_eq_true rfl) (ct_X0_isClient (nI c) M) (zdec_r (fun yc => ?_) (fun yc => ?_)) zdec_x (Nat.le_refl _)
  · refine zq_if_eqN K (x := 1) 30 dX0_leaseRuns_4 (by decide) (by omega) (fun h4 => by omega) (fun h4 => ?_)
    refine zq_iload_n K dX0_leaseRuns_7 rfl rfl ?_
    refine zq_callS (As := [.int (nI (n))]) K dX0_leaseRuns_8 zyX0_isName zm_X0_43 zsX0_isName rfl (by decide) rfl rfl (Nat.le_of_ble_eq_true rfl) (Nat.le_of_ble_eq_true rfl) (ct_X0_isName (nI n) M) (zdec_r (fun yn => ?_) (fun yn => ?_)) zdec_x (Nat.le_refl _)
    · refine zq_if_eqN K (x := 1) 30 dX0_leaseRuns_11 (by decide) (by omega) (fun h11 => by omega) (fun h11 => ?_)
      refine zq_aload_n K dX0_leaseRuns_14 rfl rfl ?_
      refine zq_getRs K dX0_leaseRuns_15 zclX0 (k := 5) (by decide) zf_X0_20 rfl (hC.d hv).1 (hC.d hv).2.2.2.2.2.2.1 ?_
      refine zq_iload_n K dX0_leaseRuns_18 rfl rfl ?_
      refine zc_al K (d := d) (c := c) dX0_leaseRuns_19 hC hv (by omega) rfl ?_
      refine zq_iload_n K dX0_leaseRuns_20 rfl rfl ?_
      refine zc_ldrow K (d := d) (c := c) (n := n) dX0_leaseRuns_21 hC hv (by omega) rfl (by omega) ?_
      refine zq_iload_n K dX0_leaseRuns_22 rfl rfl ?_
      refine zq_icmp_le K 30 dX0_leaseRuns_23 (by decide) (fun h23 => ?_) (fun h23 => ?_)
      · refine zq_iconst K dX0_leaseRuns_30 (v := nI 0) (by decide) ?_
        exact zq_zret K dX0_leaseRuns_31 rfl (by decide) (zdec_0 (fun z => Int32.not_le.mpr z h23))
      · refine zq_iconst K dX0_leaseRuns_26 (v := nI 1) (by decide) ?_
        refine zq_goto K 31 dX0_leaseRuns_27 (by decide) ?_
        exact zq_zret K dX0_leaseRuns_31 rfl (by decide) (zdec_1 (Int32.not_le.mp h23))
    · refine zq_if_eqN K (x := 0) 30 dX0_leaseRuns_11 (by decide) (by omega) (fun h11 => ?_) (fun h11 => by omega)
      exact absurd ⟨n, by omega, rfl⟩ yn
  · refine zq_if_eqN K (x := 0) 30 dX0_leaseRuns_4 (by decide) (by omega) (fun h4 => ?_) (fun h4 => by omega)
    exact absurd ⟨c, by omega, rfl⟩ yc
theorem ct_X0_setLeaseEnd {G : ZG} {M : ZM} {W : Nat → Nat → Nat} {B : ZA} (hC : zC M W B) {d : Nat} (hv : zVal B 3 d) {c n : Nat} (hc : c < 4) (hn : n < 50) (v : Int32) : zMet G mX0_setLeaseEnd [.ref (W 3 (d)), .int (nI (c)), .int (nI (n)), .int (v)] M (zCP W M B none (zsa B 13 (600 * c + (50 * d + n)) v)) := by
  refine zbody zyX0_setLeaseEnd [some (.ref (W 3 (d))), some (.int (nI (c))), some (.int (nI (n))), some (.int (v))] rfl (Nat.le_of_ble_eq_true rfl) (by intro v hv; simp only [List.mem_cons, List.not_mem_nil, or_false] at hv; rcases hv with rfl | rfl | rfl | rfl <;> rfl) (fun E K => ?_)
  have hS : zFm M W B M := zFm.rf
  refine zq_iload_n K dX0_setLeaseEnd_0 rfl rfl ?_
  refine zq_callS (As := [.int (nI (c))]) K dX0_setLeaseEnd_1 zyX0_isClient zm_X0_47 zsX0_isClient rfl (by decide) rfl rfl (Nat.le_of_ble_eq_true rfl) (Nat.le_of_ble_eq_true rfl) (ct_X0_isClient (nI c) M) (zdec_r (fun yc => ?_) (fun yc => ?_)) zdec_x (Nat.le_refl _)
  · refine zq_if_eqN K (x := 1) 23 dX0_setLeaseEnd_4 (by decide) (by omega) (fun h4 => by omega) (fun h4 => ?_)
    refine zq_iload_n K dX0_setLeaseEnd_7 rfl rfl ?_
    refine zq_callS (As := [.int (nI (n))]) K dX0_setLeaseEnd_8 zyX0_isName zm_X0_43 zsX0_isName rfl (by decide) rfl rfl (Nat.le_of_ble_eq_true rfl) (Nat.le_of_ble_eq_true rfl) (ct_X0_isName (nI n) M) (zdec_r (fun yn => ?_) (fun yn => ?_)) zdec_x (Nat.le_refl _)
    · refine zq_if_eqN K (x := 1) 23 dX0_setLeaseEnd_11 (by decide) (by omega) (fun h11 => by omega) (fun h11 => ?_)
      refine zq_aload_n K dX0_setLeaseEnd_14 rfl rfl ?_
      refine zq_getRs K dX0_setLeaseEnd_15 zclX0 (k := 5) (by decide) zf_X0_20 rfl (hC.d hv).1 (hC.d hv).2.2.2.2.2.2.1 ?_
      refine zq_iload_n K dX0_setLeaseEnd_18 rfl rfl ?_
      refine zc_al K (d := d) (c := c) dX0_setLeaseEnd_19 hC hv (by omega) rfl ?_
      refine zq_iload_n K dX0_setLeaseEnd_20 rfl rfl ?_
      refine zq_iload_n K dX0_setLeaseEnd_21 rfl rfl ?_
      refine zc_strow K (d := d) (c := c) (n := n) dX0_setLeaseEnd_22 hC hS hv hv (by omega) rfl (by omega) (fun M hC hS => ?_)
      exact zq_ret K dX0_setLeaseEnd_23 rfl ⟨rfl, hC, hS⟩
    · refine zq_if_eqN K (x := 0) 23 dX0_setLeaseEnd_11 (by decide) (by omega) (fun h11 => ?_) (fun h11 => by omega)
      exact absurd ⟨n, by omega, rfl⟩ yn
  · refine zq_if_eqN K (x := 0) 23 dX0_setLeaseEnd_4 (by decide) (by omega) (fun h4 => ?_) (fun h4 => by omega)
    exact absurd ⟨c, by omega, rfl⟩ yc
def zpt (B : ZA) (c d : Nat) (t : Int32) : Nat → Bool := fun n => decide (t < B.2 13 (600 * c + (50 * d + n)))
theorem ct_X0_fragmentAt {G : ZG} {M : ZM} {W : Nat → Nat → Nat} {B : ZA} (hC : zC M W B) {d : Nat} (hv : zVal B 3 d) {h : Nat} (hh : h < 2 ^ 31) : zMet G mX0_fragmentAt [.ref (W 3 (d)), .int (nI (h))] M (zone (some (.ref (W 9 (8 * d + zfg (B.2 10) d (h % 8))))) M) := by
  refine zbody zyX0_fragmentAt [some (.ref (W 3 (d))), some (.int (nI (h)))] rfl (Nat.le_of_ble_eq_true rfl) (by intro v hv; simp only [List.mem_cons, List.not_mem_nil, or_false] at hv; rcases hv with rfl | rfl <;> rfl) (fun E K => ?_)
  refine zq_aload_n K dX0_fragmentAt_0 rfl rfl ?_
  refine zq_getRs K dX0_fragmentAt_1 zclX0 (k := 6) (by decide) zf_X0_25 rfl (hC.d hv).1 (hC.d hv).2.2.2.2.2.2.2 ?_
  refine zq_iload_n K dX0_fragmentAt_4 rfl rfl ?_
  refine zq_bipush K dX0_fragmentAt_5 (v := nI 7) (by decide) ?_
  refine zq_iand K dX0_fragmentAt_7 ?_
  refine zq_top (v := nI (h % 8)) (pk_andN (by omega) 3 (by decide)) ?_
  refine zc_ah K (d := d) (h := h % 8) dX0_fragmentAt_8 hC hv (Nat.mod_lt _ (by decide)) rfl ?_
  exact zq_aret K dX0_fragmentAt_9 rfl (Or.inr ⟨_, rfl⟩) ⟨rfl, rfl⟩
theorem ct_X0_fragmentAt8 {G : ZG} {M : ZM} {W : Nat → Nat → Nat} {B : ZA} (hC : zC M W B) {d : Nat} (hv : zVal B 3 d) {h : Nat} (hh : h < 8) : zMet G mX0_fragmentAt [.ref (W 3 (d)), .int (nI (h))] M (zone (some (.ref (W 9 (8 * d + zfg (B.2 10) d h)))) M) := by
  have h1 := ct_X0_fragmentAt (G := G) hC hv (h := h) (by omega)
  rwa [Nat.mod_eq_of_lt hh] at h1
theorem ct_X0_fragmentOfName {G : ZG} {M : ZM} {W : Nat → Nat → Nat} {B : ZA} (hC : zC M W B) {d : Nat} (hv : zVal B 3 d) {n : Nat} (hn : n < 50) : zMet G mX0_fragmentOfName [.ref (W 3 (d)), .int (nI (n))] M (zone (some (.ref (W 9 (zfn B d n)))) M) := by
  refine zbody zyX0_fragmentOfName [some (.ref (W 3 (d))), some (.int (nI (n)))] rfl (Nat.le_of_ble_eq_true rfl) (by intro v hv; simp only [List.mem_cons, List.not_mem_nil, or_false] at hv; rcases hv with rfl | rfl <;> rfl) (fun E K => ?_)
  refine zq_aload_n K dX0_fragmentOfName_0 rfl rfl ?_
  refine zq_iconst K dX0_fragmentOfName_1 (v := nI 5) (by decide) ?_
  refine zq_iload_n K dX0_fragmentOfName_2 rfl rfl ?_
  refine zq_imulN K (x := 5) (y := n) dX0_fragmentOfName_3 ?_
  refine zq_iconst K dX0_fragmentOfName_4 (v := nI 3) (by decide) ?_
  refine zq_iaddN K (x := (5) * (n)) (y := 3) dX0_fragmentOfName_5 ?_
  refine zq_callV (As := [.int (nI (((5) * (n)) + (3)))]) K dX0_fragmentOfName_6 zyX0_fragmentAt zm_X0_54 ziX0_fragmentAt zvX0_fragmentAt zclX0 rfl (by decide) rfl rfl (Nat.le_of_ble_eq_true rfl) (Nat.le_of_ble_eq_true rfl) (hC.d hv).1 (ct_X0_fragmentAt hC hv (show 5 * n + 3 < 2 ^ 31 by omega)) (zone_r ?_) zone_x (Nat.le_refl _)
  exact zq_aret K dX0_fragmentOfName_9 rfl (Or.inr ⟨_, rfl⟩) ⟨rfl, rfl⟩
theorem zfg_self {s : Nat → Int32} {d h : Nat} (h1 : ¬ s (8 * d + h) = 0) : zfg s d h = h := by
  cases h with
  | zero => rfl
  | succ h => unfold zfg; rw [if_neg h1]
theorem zfg_lt {s : Nat → Int32} {d h : Nat} (h1 : s (8 * d + h) = 0) (h0 : ¬ h = 0) : zfg s d h < h := by
  cases h with
  | zero => exact absurd rfl h0
  | succ h =>
    unfold zfg
    rw [if_pos h1]
    have := zfg_le s d h
    omega
def zpz (B : ZA) (d : Nat) : Nat → Bool := fun h => !decide (B.2 10 (8 * d + h) = 0)
end
section
/-! the class: what its calls need -/
theorem lp_X0_isWithin {G : ZG} {E : ZE} (K : zOK mX0_isWithin [] G E) {M : ZM} {W : Nat → Nat → Nat} {B : ZA} (hC : zC M W B) {x0 : Value} {e : Nat} (he : zVal B 3 e) {P : ZO → ZM → Prop} : ∀ (k d : Nat), k < 12 → zDp B k d → zVal B 3 d → (zblN B k d e = true → P (.inl (some (.int (nI 1)))) M) → (¬ zblN B k d e = true → P (.inl (some (.int (nI 0)))) M) → ∀ l, l + k < 12 → WW E G (zyu mX0_isWithin) (zQ E G mX0_isWithin P) M 0 4 [some x0, some (.ref (W 3 e)), some (.ref (W 3 d)), some (.int (nI l))] [] := by
  intro k
  induction k with
  | zero =>
    intro d hk hx hv k1 k0 l hl
    have hd0 : d = 0 := hx
    subst hd0
    refine zq_aload_n K dX0_isWithin_4 rfl rfl ?_
    refine zq_ifnull_r K dX0_isWithin_5 ?_
    refine zq_iload_n K dX0_isWithin_8 rfl rfl ?_
    refine zq_bipush K dX0_isWithin_9 (v := nI 12) (by decide) ?_
    refine zq_icmp_geN K (x := l) (y := 12) 32 dX0_isWithin_11 (by decide) ⟨by omega, by omega⟩ (fun h11 => by omega) (fun h11 => ?_)
    refine zq_aload_n K dX0_isWithin_14 rfl rfl ?_
    refine zq_aload_n K dX0_isWithin_15 rfl rfl ?_
    refine zq_acmp_ne K (rx := some (W 3 (0))) (ry := some (W 3 (e))) 21 dX0_isWithin_16 (by decide) (fun ha => ?_) (fun ha => ?_)
    · refine zq_aload_n K dX0_isWithin_21 rfl rfl ?_
      refine zq_getRn K dX0_isWithin_22 zclX0 (k := 1) (by decide) zf_X0_33 rfl (hC.d hv).1 (hC.p0 hv) ?_
      refine zq_astore_nN K dX0_isWithin_25 rfl (by decide) ?_
      refine zq_iincN K dX0_isWithin_26 rfl (by decide) ?_
      refine zq_goto K 4 dX0_isWithin_29 (by decide) ?_
      refine zq_aload_nN K dX0_isWithin_4 rfl rfl ?_
      refine zq_ifnull_n K 32 dX0_isWithin_5 (by decide) ?_
      refine zq_iconst K dX0_isWithin_32 (v := nI 0) (by decide) ?_
      exact zq_zret K dX0_isWithin_33 rfl (by decide) (k0 (fun z => ha (by rw [zblN] at z; rw [of_decide_eq_true z])))
    · refine zq_iconst K dX0_isWithin_19 (v := nI 1) (by decide) ?_
      exact zq_zret K dX0_isWithin_20 rfl (by decide) (k1 (by rw [zblN]; exact decide_eq_true (hC.2 3 0 3 e hv he (Option.some.inj ha)).2))
  | succ k ih =>
    intro d hk hx hv k1 k0 l hl
    by_cases hd0 : d = 0
    · subst hd0
      refine zq_aload_n K dX0_isWithin_4 rfl rfl ?_
      refine zq_ifnull_r K dX0_isWithin_5 ?_
      refine zq_iload_n K dX0_isWithin_8 rfl rfl ?_
      refine zq_bipush K dX0_isWithin_9 (v := nI 12) (by decide) ?_
      refine zq_icmp_geN K (x := l) (y := 12) 32 dX0_isWithin_11 (by decide) ⟨by omega, by omega⟩ (fun h11 => by omega) (fun h11 => ?_)
      refine zq_aload_n K dX0_isWithin_14 rfl rfl ?_
      refine zq_aload_n K dX0_isWithin_15 rfl rfl ?_
      refine zq_acmp_ne K (rx := some (W 3 (0))) (ry := some (W 3 (e))) 21 dX0_isWithin_16 (by decide) (fun ha => ?_) (fun ha => ?_)
      · refine zq_aload_n K dX0_isWithin_21 rfl rfl ?_
        refine zq_getRn K dX0_isWithin_22 zclX0 (k := 1) (by decide) zf_X0_33 rfl (hC.d hv).1 (hC.p0 hv) ?_
        refine zq_astore_nN K dX0_isWithin_25 rfl (by decide) ?_
        refine zq_iincN K dX0_isWithin_26 rfl (by decide) ?_
        refine zq_goto K 4 dX0_isWithin_29 (by decide) ?_
        refine zq_aload_nN K dX0_isWithin_4 rfl rfl ?_
        refine zq_ifnull_n K 32 dX0_isWithin_5 (by decide) ?_
        refine zq_iconst K dX0_isWithin_32 (v := nI 0) (by decide) ?_
        exact zq_zret K dX0_isWithin_33 rfl (by decide) (k0 (fun z => ha (by rw [zblN, if_pos (Or.inl rfl)] at z; rw [of_decide_eq_true z])))
      · refine zq_iconst K dX0_isWithin_19 (v := nI 1) (by decide) ?_
        exact zq_zret K dX0_isWithin_20 rfl (by decide) (k1 (by rw [zblN, if_pos (Or.inl rfl)]; exact decide_eq_true (hC.2 3 0 3 e hv he (Option.some.inj ha)).2))
    · obtain ⟨hu, hx1⟩ := hx.resolve_left hd0
      refine zq_aload_n K dX0_isWithin_4 rfl rfl ?_
      refine zq_ifnull_r K dX0_isWithin_5 ?_
      refine zq_iload_n K dX0_isWithin_8 rfl rfl ?_
      refine zq_bipush K dX0_isWithin_9 (v := nI 12) (by decide) ?_
      refine zq_icmp_geN K (x := l) (y := 12) 32 dX0_isWithin_11 (by decide) ⟨by omega, by omega⟩ (fun h11 => by omega) (fun h11 => ?_)
      refine zq_aload_n K dX0_isWithin_14 rfl rfl ?_
      refine zq_aload_n K dX0_isWithin_15 rfl rfl ?_
      refine zq_acmp_ne K (rx := some (W 3 (d))) (ry := some (W 3 (e))) 21 dX0_isWithin_16 (by decide) (fun ha => ?_) (fun ha => ?_)
      · refine zq_aload_n K dX0_isWithin_21 rfl rfl ?_
        refine zq_getRs K dX0_isWithin_22 zclX0 (k := 1) (by decide) zf_X0_33 rfl (hC.d hv).1 (hC.p1 hv hd0) ?_
        refine zq_astore_n K dX0_isWithin_25 rfl (by decide) ?_
        refine zq_iincN K dX0_isWithin_26 rfl (by decide) ?_
        refine zq_goto K 4 dX0_isWithin_29 (by decide) ?_
        have hne : ¬ (d = 0 ∨ d = e) := fun z => z.elim hd0 (fun z => ha (by rw [z]))
        exact ih (zpar B d) (by omega) hx1 ⟨hu.2.1, hu.2.2.1⟩ (fun z => k1 (by rw [zblN, if_neg hne]; exact z)) (fun z => k0 (by rw [zblN, if_neg hne]; exact z)) (l + 1) (by omega)
      · refine zq_iconst K dX0_isWithin_19 (v := nI 1) (by decide) ?_
        exact zq_zret K dX0_isWithin_20 rfl (by decide) (k1 (by have e9 := (hC.2 3 d 3 e hv he (Option.some.inj ha)).2; rw [zblN, if_pos (Or.inr e9)]; exact decide_eq_true e9))
theorem ct_X0_isWithin {G : ZG} {M : ZM} {W : Nat → Nat → Nat} {B : ZA} (hC : zC M W B) {d : Nat} (hv : zVal B 3 d) {e : Nat} (he : zVal B 3 e) (hx : zDp B 11 d) : zMet G mX0_isWithin [.ref (W 3 (d)), .ref (W 3 (e))] M (zdec (zblN B 11 d e = true) M) := by
  refine zbody zyX0_isWithin [some (.ref (W 3 (d))), some (.ref (W 3 (e))), none, none] rfl (Nat.le_of_ble_eq_true rfl) (by intro v hv; simp only [List.mem_cons, List.not_mem_nil, or_false] at hv; rcases hv with rfl | rfl <;> rfl) (fun E K => ?_)
  refine zq_aload_n K dX0_isWithin_0 rfl rfl ?_
  refine zq_astore_n K dX0_isWithin_1 rfl (by decide) ?_
  refine zq_iconst K dX0_isWithin_2 (v := nI 0) (by decide) ?_
  refine zq_istore_n K dX0_isWithin_3 rfl (by decide) ?_
  exact lp_X0_isWithin K hC he 11 d (by omega) hx hv (fun z => zdec_1 z) (fun z => zdec_0 z) 0 (by omega)
theorem ct_X2_needClient {G : ZG} (n : Int32) (M : ZM) : zMet G mX2_needClient [.int (n)] M (znd (zOn n 3) none zIAE M) := by
  refine zbody zyX2_needClient [some (.int (n))] rfl (Nat.le_of_ble_eq_true rfl) (by intro v hv; simp only [List.mem_cons, List.not_mem_nil, or_false] at hv; rcases hv with rfl <;> rfl) (fun E K => ?_)
  refine zq_iload_n K dX2_needClient_0 rfl rfl ?_
  refine zq_if_lt K 9 dX2_needClient_1 (by decide) (fun h1 => ?_) (fun h1 => ?_)
  · exact zq_throw K (text := "client is out of range") zthIAE (by decide +kernel) dX2_needClient_9 dX2_needClient_12 dX2_needClient_13 dX2_needClient_15 dX2_needClient_18 (by decide) (Nat.le_of_ble_eq_true rfl) (Nat.le_of_ble_eq_true rfl) ⟨rfl, Or.inr ⟨zOn_n0 (by decide) h1, rfl⟩⟩
  · refine zq_iload_n K dX2_needClient_4 rfl rfl ?_
    refine zq_iconst K dX2_needClient_5 (v := nI 4) (by decide) ?_
    refine zq_icmp_lt K 19 dX2_needClient_6 (by decide) (fun h6 => ?_) (fun h6 => ?_)
    · exact zq_ret K dX2_needClient_19 rfl ⟨rfl, Or.inl ⟨zOn_p (by decide) h1 h6, rfl⟩⟩
    · exact zq_throw K (text := "client is out of range") zthIAE (by decide +kernel) dX2_needClient_9 dX2_needClient_12 dX2_needClient_13 dX2_needClient_15 dX2_needClient_18 (by decide) (Nat.le_of_ble_eq_true rfl) (Nat.le_of_ble_eq_true rfl) ⟨rfl, Or.inr ⟨zOn_n1 (by decide) h6, rfl⟩⟩
theorem ct_X2_needName {G : ZG} (n : Int32) (M : ZM) : zMet G mX2_needName [.int (n)] M (znd (zOn n 49) none zIAE M) := by
  refine zbody zyX2_needName [some (.int (n))] rfl (Nat.le_of_ble_eq_true rfl) (by intro v hv; simp only [List.mem_cons, List.not_mem_nil, or_false] at hv; rcases hv with rfl <;> rfl) (fun E K => ?_)
  refine zq_iload_n K dX2_needName_0 rfl rfl ?_
  refine zq_if_lt K 10 dX2_needName_1 (by decide) (fun h1 => ?_) (fun h1 => ?_)
  · exact zq_throw K (text := "name is out of range") zthIAE (by decide +kernel) dX2_needName_10 dX2_needName_13 dX2_needName_14 dX2_needName_16 dX2_needName_19 (by decide) (Nat.le_of_ble_eq_true rfl) (Nat.le_of_ble_eq_true rfl) ⟨rfl, Or.inr ⟨zOn_n0 (by decide) h1, rfl⟩⟩
  · refine zq_iload_n K dX2_needName_4 rfl rfl ?_
    refine zq_bipush K dX2_needName_5 (v := nI 50) (by decide) ?_
    refine zq_icmp_lt K 20 dX2_needName_7 (by decide) (fun h7 => ?_) (fun h7 => ?_)
    · exact zq_ret K dX2_needName_20 rfl ⟨rfl, Or.inl ⟨zOn_p (by decide) h1 h7, rfl⟩⟩
    · exact zq_throw K (text := "name is out of range") zthIAE (by decide +kernel) dX2_needName_10 dX2_needName_13 dX2_needName_14 dX2_needName_16 dX2_needName_19 (by decide) (Nat.le_of_ble_eq_true rfl) (Nat.le_of_ble_eq_true rfl) ⟨rfl, Or.inr ⟨zOn_n1 (by decide) h7, rfl⟩⟩
theorem zFn_n0 {F : Nat} (hF : F ≤ 30) {f : Int32} (h : f < 0) : ¬ zFn F f := by
  rintro ⟨j, hj, rfl⟩
  exact nI_pos (by omega) h
theorem zFn_n1 {F : Nat} (hF : F ≤ 30) {f : Int32} (h : ¬ f < nI F) : ¬ zFn F f := by
  rintro ⟨j, hj, rfl⟩
  exact h (nI_lt hj (by omega))
theorem zFn_p {F : Nat} (hF : F ≤ 30) {f : Int32} (h0 : ¬ f < 0) (h1 : f < nI F) : zFn F f := by
  obtain ⟨j, hj, rfl⟩ := nI_of h0
  exact ⟨j, (nI_ltI hj (by omega)).mp h1, rfl⟩
theorem ct_X2_needFile {G : ZG} {M : ZM} {W : Nat → Nat → Nat} {B : ZA} (hC : zC M W B) {F : Nat} (hf : B.1 9 = nI F) (hF : F ≤ 30) (f : Int32) : zMet G mX2_needFile [.ref (W 10 0), .int (f)] M (znd (zFn F f) none zIOB M) := by
  refine zbody zyX2_needFile [some (.ref (W 10 0)), some (.int (f))] rfl (Nat.le_of_ble_eq_true rfl) (by intro v hv; simp only [List.mem_cons, List.not_mem_nil, or_false] at hv; rcases hv with rfl | rfl <;> rfl) (fun E K => ?_)
  refine zq_iload_n K dX2_needFile_0 rfl rfl ?_
  refine zq_if_lt K 12 dX2_needFile_1 (by decide) (fun h1 => ?_) (fun h1 => ?_)
  · exact zq_throw K (text := "there never was such a file") zthIOB (by decide +kernel) dX2_needFile_12 dX2_needFile_15 dX2_needFile_16 dX2_needFile_18 dX2_needFile_21 (by decide) (Nat.le_of_ble_eq_true rfl) (Nat.le_of_ble_eq_true rfl) ⟨rfl, Or.inr ⟨zFn_n0 hF h1, rfl⟩⟩
  · refine zq_iload_n K dX2_needFile_4 rfl rfl ?_
    refine zq_aload_n K dX2_needFile_5 rfl rfl ?_
    refine zq_getI K dX2_needFile_6 zclX2 (k := 2) (by decide) zf_X2_79 rfl hC.x.1 ?_
    refine zq_top hC.x.2.2.1.2.1 ?_
    refine zq_top (v := nI (F)) hf ?_
    refine zq_icmp_lt K 22 dX2_needFile_9 (by decide) (fun h9 => ?_) (fun h9 => ?_)
    · exact zq_ret K dX2_needFile_22 rfl ⟨rfl, Or.inl ⟨zFn_p hF h1 h9, rfl⟩⟩
    · exact zq_throw K (text := "there never was such a file") zthIOB (by decide +kernel) dX2_needFile_12 dX2_needFile_15 dX2_needFile_16 dX2_needFile_18 dX2_needFile_21 (by decide) (Nat.le_of_ble_eq_true rfl) (Nat.le_of_ble_eq_true rfl) ⟨rfl, Or.inr ⟨zFn_n1 hF h9, rfl⟩⟩
/-- the move is of a fragment that is there -/
def zMw (B : ZA) : Prop := B.1 16 = -1 ∨ ∃ m, B.1 16 = nI m ∧ zVal B 9 m
theorem ct_X2_directoryNumbered_1 {G : ZG} {M : ZM} {W : Nat → Nat → Nat} {B : ZA} (hC : zC M W B) {d : Nat} (hv : zVal B 3 d) : zMet G mX2_directoryNumbered [.ref (W 10 0), .int (nI (d))] M (zone (some (.ref (W 3 d))) M) := by
  refine zbody zyX2_directoryNumbered [some (.ref (W 10 0)), some (.int (nI (d)))] rfl (Nat.le_of_ble_eq_true rfl) (by intro v hv; simp only [List.mem_cons, List.not_mem_nil, or_false] at hv; rcases hv with rfl | rfl <;> rfl) (fun E K => ?_)
  refine zq_iload_n K dX2_directoryNumbered_0 rfl rfl ?_
  refine zq_if_ltN K (x := d) 13 dX2_directoryNumbered_1 (by decide) (by have := hv.1; omega) (fun h1 => by omega) (fun h1 => ?_)
  refine zq_iload_n K dX2_directoryNumbered_4 rfl rfl ?_
  refine zq_aload_n K dX2_directoryNumbered_5 rfl rfl ?_
  refine zq_getRs K dX2_directoryNumbered_6 zclX2 (k := 0) (by decide) zf_X2_11 rfl hC.x.1 hC.x.2.1.1 ?_
  refine zq_alen K dX2_directoryNumbered_9 hC.dirs.1 (by decide) ?_
  refine zq_top (v := nI 12) (congrArg nI hC.dirs.2.1) ?_
  refine zq_icmp_ltN K (x := d) (y := 12) 15 dX2_directoryNumbered_10 (by decide) ⟨by have := hv.1; omega, by omega⟩ (fun h10 => ?_) (fun h10 => ?_)
  · refine zq_aload_n K dX2_directoryNumbered_15 rfl rfl ?_
    refine zq_getRs K dX2_directoryNumbered_16 zclX2 (k := 0) (by decide) zf_X2_11 rfl hC.x.1 hC.x.2.1.1 ?_
    refine zq_iload_n K dX2_directoryNumbered_19 rfl rfl ?_
    refine zc_ad1 K (d := d) dX2_directoryNumbered_20 hC hv rfl ?_
    exact zq_aret K dX2_directoryNumbered_21 rfl (Or.inr ⟨_, rfl⟩) ⟨rfl, rfl⟩
  · exact absurd hv.1 (by omega)
theorem ct_X2_directoryNumbered_0 {G : ZG} {M : ZM} {W : Nat → Nat → Nat} {B : ZA} (hC : zC M W B) {n : Int32} (hn : ¬ zIsD B n) : zMet G mX2_directoryNumbered [.ref (W 10 0), .int (n)] M (zone (some .null) M) := by
  refine zbody zyX2_directoryNumbered [some (.ref (W 10 0)), some (.int (n))] rfl (Nat.le_of_ble_eq_true rfl) (by intro v hv; simp only [List.mem_cons, List.not_mem_nil, or_false] at hv; rcases hv with rfl | rfl <;> rfl) (fun E K => ?_)
  refine zq_iload_n K dX2_directoryNumbered_0 rfl rfl ?_
  refine zq_if_lt K 13 dX2_directoryNumbered_1 (by decide) (fun h1 => ?_) (fun h1 => ?_)
  · refine zq_null K dX2_directoryNumbered_13 ?_
    exact zq_aret K dX2_directoryNumbered_14 rfl (Or.inl rfl) ⟨rfl, rfl⟩
  · refine zq_iload_n K dX2_directoryNumbered_4 rfl rfl ?_
    refine zq_aload_n K dX2_directoryNumbered_5 rfl rfl ?_
    refine zq_getRs K dX2_directoryNumbered_6 zclX2 (k := 0) (by decide) zf_X2_11 rfl hC.x.1 hC.x.2.1.1 ?_
    refine zq_alen K dX2_directoryNumbered_9 hC.dirs.1 (by decide) ?_
    refine zq_top (v := nI 12) (congrArg nI hC.dirs.2.1) ?_
    refine zq_icmp_lt K 15 dX2_directoryNumbered_10 (by decide) (fun h10 => ?_) (fun h10 => ?_)
    · refine zq_aload_n K dX2_directoryNumbered_15 rfl rfl ?_
      refine zq_getRs K dX2_directoryNumbered_16 zclX2 (k := 0) (by decide) zf_X2_11 rfl hC.x.1 hC.x.2.1.1 ?_
      refine zq_iload_n K dX2_directoryNumbered_19 rfl rfl ?_
      obtain ⟨j, hj, rfl⟩ := nI_of h1
      have hj12 : j < 12 := (nI_ltI hj (by decide)).mp h10
      refine zc_ad0 K (d := j) dX2_directoryNumbered_20 hC hj12 (fun z => hn ⟨j, hj12, rfl, z⟩) rfl ?_
      exact zq_aret K dX2_directoryNumbered_21 rfl (Or.inl rfl) ⟨rfl, rfl⟩
    · refine zq_null K dX2_directoryNumbered_13 ?_
      exact zq_aret K dX2_directoryNumbered_14 rfl (Or.inl rfl) ⟨rfl, rfl⟩
theorem ct_X2_needDirectory_1 {G : ZG} {M : ZM} {W : Nat → Nat → Nat} {B : ZA} (hC : zC M W B) {d : Nat} (hv : zVal B 3 d) : zMet G mX2_needDirectory [.ref (W 10 0), .int (nI (d))] M (zone (some (.ref (W 3 d))) M) := by
  refine zbody zyX2_needDirectory [some (.ref (W 10 0)), some (.int (nI (d))), none] rfl (Nat.le_of_ble_eq_true rfl) (by intro v hv; simp only [List.mem_cons, List.not_mem_nil, or_false] at hv; rcases hv with rfl | rfl <;> rfl) (fun E K => ?_)
  refine zq_aload_n K dX2_needDirectory_0 rfl rfl ?_
  refine zq_iload_n K dX2_needDirectory_1 rfl rfl ?_
  refine zq_callV (As := [.int (nI (d))]) K dX2_needDirectory_2 zyX2_directoryNumbered zm_X2_236 ziX2_directoryNumbered zvX2_directoryNumbered zclX2 rfl (by decide) rfl rfl (Nat.le_of_ble_eq_true rfl) (Nat.le_of_ble_eq_true rfl) hC.x.1 (ct_X2_directoryNumbered_1 hC hv) (zone_r ?_) zone_x (Nat.le_refl _)
  refine zq_astore_n K dX2_needDirectory_5 rfl (by decide) ?_
  refine zq_aload_n K dX2_needDirectory_6 rfl rfl ?_
  refine zq_ifnonnull_r K 20 dX2_needDirectory_7 (by decide) ?_
  refine zq_aload_n K dX2_needDirectory_20 rfl rfl ?_
  exact zq_aret K dX2_needDirectory_21 rfl (Or.inr ⟨_, rfl⟩) ⟨rfl, rfl⟩
theorem ct_X2_needDirectory_0 {G : ZG} {M : ZM} {W : Nat → Nat → Nat} {B : ZA} (hC : zC M W B) {n : Int32} (hn : ¬ zIsD B n) : zMet G mX2_needDirectory [.ref (W 10 0), .int (n)] M (zthr zIOB M) := by
  refine zbody zyX2_needDirectory [some (.ref (W 10 0)), some (.int (n)), none] rfl (Nat.le_of_ble_eq_true rfl) (by intro v hv; simp only [List.mem_cons, List.not_mem_nil, or_false] at hv; rcases hv with rfl | rfl <;> rfl) (fun E K => ?_)
  refine zq_aload_n K dX2_needDirectory_0 rfl rfl ?_
  refine zq_iload_n K dX2_needDirectory_1 rfl rfl ?_
  refine zq_callV (As := [.int (n)]) K dX2_needDirectory_2 zyX2_directoryNumbered zm_X2_236 ziX2_directoryNumbered zvX2_directoryNumbered zclX2 rfl (by decide) rfl rfl (Nat.le_of_ble_eq_true rfl) (Nat.le_of_ble_eq_true rfl) hC.x.1 (ct_X2_directoryNumbered_0 hC hn) (zone_r ?_) zone_x (Nat.le_refl _)
  refine zq_astore_nN K dX2_needDirectory_5 rfl (by decide) ?_
  refine zq_aload_nN K dX2_needDirectory_6 rfl rfl ?_
  refine zq_ifnonnull_n K dX2_needDirectory_7 ?_
  exact zq_throw K (text := "there is no such directory") zthIOB (by decide +kernel) dX2_needDirectory_10 dX2_needDirectory_13 dX2_needDirectory_14 dX2_needDirectory_16 dX2_needDirectory_19 (by decide) (Nat.le_of_ble_eq_true rfl) (Nat.le_of_ble_eq_true rfl) ⟨rfl, rfl⟩
theorem zmi2 : ∀ e, e < 12 → -2 - (-2 - nI e) = nI e ∧ ¬ (-2 : Int32) < -2 - nI e := by decide
theorem ct_X2_directoryMeant_1 {G : ZG} {M : ZM} {W : Nat → Nat → Nat} {B : ZA} (hC : zC M W B) {e : Nat} (hv : zVal B 3 e) : zMet G mX2_directoryMeant [.ref (W 10 0), .int (-2 - nI e)] M (zone (some (.ref (W 3 e))) M) := by
  refine zbody zyX2_directoryMeant [some (.ref (W 10 0)), some (.int (-2 - nI e))] rfl (Nat.le_of_ble_eq_true rfl) (by intro v hv; simp only [List.mem_cons, List.not_mem_nil, or_false] at hv; rcases hv with rfl | rfl <;> rfl) (fun E K => ?_)
  refine zq_iload_n K dX2_directoryMeant_0 rfl rfl ?_
  refine zq_bipush K dX2_directoryMeant_1 (v := -2) (by decide) ?_
  refine zq_icmp_gt K 17 dX2_directoryMeant_3 (by decide) (fun h3 => absurd h3 (zmi2 e hv.1).2) (fun h3 => ?_)
  refine zq_aload_n K dX2_directoryMeant_6 rfl rfl ?_
  refine zq_bipush K dX2_directoryMeant_7 (v := -2) (by decide) ?_
  refine zq_iload_n K dX2_directoryMeant_9 rfl rfl ?_
  refine zq_isub K dX2_directoryMeant_10 ?_
  refine zq_top (v := nI (e)) (zmi2 e hv.1).1 ?_
  refine zq_callV (As := [.int (nI (e))]) K dX2_directoryMeant_11 zyX2_directoryNumbered zm_X2_236 ziX2_directoryNumbered zvX2_directoryNumbered zclX2 rfl (by decide) rfl rfl (Nat.le_of_ble_eq_true rfl) (Nat.le_of_ble_eq_true rfl) hC.x.1 (ct_X2_directoryNumbered_1 hC hv) (zone_r ?_) zone_x (Nat.le_refl _)
  refine zq_goto K 18 dX2_directoryMeant_14 (by decide) ?_
  exact zq_aret K dX2_directoryMeant_18 rfl (Or.inr ⟨_, rfl⟩) ⟨rfl, rfl⟩
theorem ct_X2_directoryMeant_0 {G : ZG} {M : ZM} {W : Nat → Nat → Nat} {B : ZA} (hC : zC M W B) {m : Int32} (hm : -2 < m) : zMet G mX2_directoryMeant [.ref (W 10 0), .int (m)] M (zone (some .null) M) := by
  refine zbody zyX2_directoryMeant [some (.ref (W 10 0)), some (.int (m))] rfl (Nat.le_of_ble_eq_true rfl) (by intro v hv; simp only [List.mem_cons, List.not_mem_nil, or_false] at hv; rcases hv with rfl | rfl <;> rfl) (fun E K => ?_)
  refine zq_iload_n K dX2_directoryMeant_0 rfl rfl ?_
  refine zq_bipush K dX2_directoryMeant_1 (v := -2) (by decide) ?_
  refine zq_icmp_gt K 17 dX2_directoryMeant_3 (by decide) (fun h3 => ?_) (fun h3 => absurd hm h3)
  refine zq_null K dX2_directoryMeant_17 ?_
  exact zq_aret K dX2_directoryMeant_18 rfl (Or.inl rfl) ⟨rfl, rfl⟩
theorem zC.root {d : Nat} {M : ZM} {W : Nat → Nat → Nat} {B : ZA} (hC : zC M W B) (hv : zVal B 3 d) (hd : d = 0) : zr M (W 3 d) 1 = none := by
  subst hd
  exact hC.p0 hv
theorem zVal.d {B : ZA} {f : Nat} (h : zVal B 9 f) : zVal B 3 (f / 8) := ⟨by have := h.1; omega, h.2.1⟩
theorem zVal.u {B : ZA} {d : Nat} (h : zUp B d) : zVal B 3 (zpar B d) := ⟨h.2.1, h.2.2.1⟩
theorem zVal.n {B : ZA} {f : Nat} (hF : zFr B) (h : zVal B 9 f) (hu : zUp B (f / 8)) : zVal B 9 (zinh B f) := by
  obtain ⟨h1, h2, h3, h4⟩ := zinh_ok hF hu
  exact ⟨h1, h4, h3⟩
theorem zVal.nm {B : ZA} {d n : Nat} (hF : zFr B) (h : zVal B 3 d) (hn : n < 50) : zVal B 9 (zfn B d n) := h.fg hF (zhs_lt n)
theorem ct_X2_fragmentAbove {G : ZG} {M : ZM} {W : Nat → Nat → Nat} {B : ZA} (hC : zC M W B) {f : Nat} (hv9 : zVal B 9 f) (hF : zFr B) (h0 : ¬ f / 8 = 0) (hu : zUp B (f / 8)) : zMet G mX2_fragmentAbove [.ref (W 10 0), .ref (W 9 (f))] M (zone (some (.ref (W 9 (zinh B f)))) M) := by
  refine zbody zyX2_fragmentAbove [some (.ref (W 10 0)), some (.ref (W 9 (f))), none] rfl (Nat.le_of_ble_eq_true rfl) (by intro v hv; simp only [List.mem_cons, List.not_mem_nil, or_false] at hv; rcases hv with rfl | rfl <;> rfl) (fun E K => ?_)
  refine zq_aload_n K dX2_fragmentAbove_0 rfl rfl ?_
  refine zq_aload_n K dX2_fragmentAbove_1 rfl rfl ?_
  refine zq_getI K dX2_fragmentAbove_2 zclX1 (k := 0) (by decide) zf_X2_219 rfl (hC.f hv9).1 ?_
  refine zq_top (hC.f hv9).2.1 ?_
  refine zq_callV (As := [.int (nI ((f) / 8))]) K dX2_fragmentAbove_5 zyX2_directoryNumbered zm_X2_236 ziX2_directoryNumbered zvX2_directoryNumbered zclX2 rfl (by decide) rfl rfl (Nat.le_of_ble_eq_true rfl) (Nat.le_of_ble_eq_true rfl) hC.x.1 (ct_X2_directoryNumbered_1 hC hv9.d) (zone_r ?_) zone_x (Nat.le_refl _)
  refine zq_astore_n K dX2_fragmentAbove_8 rfl (by decide) ?_
  refine zq_aload_n K dX2_fragmentAbove_9 rfl rfl ?_
  refine zq_ifnull_r K dX2_fragmentAbove_10 ?_
  refine zq_aload_n K dX2_fragmentAbove_13 rfl rfl ?_
  refine zq_getRs K dX2_fragmentAbove_14 zclX0 (k := 1) (by decide) zf_X2_123 rfl (hC.d hv9.d).1 (hC.p1 hv9.d h0) ?_
  refine zq_ifnonnull_r K 22 dX2_fragmentAbove_17 (by decide) ?_
  refine zq_aload_n K dX2_fragmentAbove_22 rfl rfl ?_
  refine zq_getRs K dX2_fragmentAbove_23 zclX0 (k := 1) (by decide) zf_X2_123 rfl (hC.d hv9.d).1 (hC.p1 hv9.d h0) ?_
  refine zq_aload_n K dX2_fragmentAbove_26 rfl rfl ?_
  refine zq_getI K dX2_fragmentAbove_27 zclX0 (k := 2) (by decide) zf_X2_127 rfl (hC.d hv9.d).1 ?_
  refine zq_top (hC.d hv9.d).2.2.2.1 ?_
  refine zq_top (v := nI (znam B (f / 8))) hu.2.2.2.1 ?_
  refine zq_callV (As := [.int (nI (znam B (f / 8)))]) K dX2_fragmentAbove_30 zyX0_fragmentOfName zm_X2_47 ziX0_fragmentOfName zvX0_fragmentOfName zclX0 rfl (by decide) rfl rfl (Nat.le_of_ble_eq_true rfl) (Nat.le_of_ble_eq_true rfl) (hC.d (zVal.u hu)).1 (ct_X0_fragmentOfName hC (zVal.u hu) hu.2.2.2.2) (zone_r ?_) zone_x (Nat.le_refl _)
  exact zq_aret K dX2_fragmentAbove_33 rfl (Or.inr ⟨_, rfl⟩) ⟨rfl, rfl⟩
theorem zDp.u {B : ZA} {k d : Nat} (h : zDp B k d) (h0 : ¬ d = 0) : zUp B d := by
  cases k with
  | zero => exact absurd h h0
  | succ k => exact (h.resolve_left h0).1
theorem lp_X2_frozena {G : ZG} {E : ZE} (K : zOK mX2_frozen [] G E) {M : ZM} {W : Nat → Nat → Nat} {B : ZA} (hC : zC M W B) (hF : zFr B) (hU : ∀ d, d < 12 → B.2 3 d = 1 → zDp B 11 d) (hm : B.1 16 = -1) {y : Value} {P : ZO → ZM → Prop} : ∀ (n f : Nat), zVal B 9 f → (zfzN B n f = true → P (.inl (some (.int (nI 1)))) M) → (¬ zfzN B n f = true → P (.inl (some (.int (nI 0)))) M) → ∀ l, l + n = 12 → WW E G (zyu mX2_frozen) (zQ E G mX2_frozen P) M 0 4 [some (.ref (W 10 0)), some y, some (.ref (W 9 f)), some (.int (nI l))] [] := by
  intro n
  induction n with
  | zero =>
    intro f hv9 k1 k0 l hl
    have hk4 : l = 12 := by omega
    subst hk4
    refine zq_aload_n K dX2_frozen_4 rfl rfl ?_
    refine zq_ifnull_r K dX2_frozen_5 ?_
    refine zq_iload_n K dX2_frozen_8 rfl rfl ?_
    refine zq_bipush K dX2_frozen_9 (v := nI 12) (by decide) ?_
    refine zq_icmp_geN K (x := 12) (y := 12) 46 dX2_frozen_11 (by decide) ⟨by omega, by omega⟩ (fun h11 => ?_) (fun h11 => by omega)
    refine zq_iconst K dX2_frozen_46 (v := nI 0) (by decide) ?_
    exact zq_zret K dX2_frozen_47 rfl (by decide) (k0 Bool.false_ne_true)
  | succ n ih =>
    intro f hv9 k1 k0 l hl
    refine zq_aload_n K dX2_frozen_4 rfl rfl ?_
    refine zq_ifnull_r K dX2_frozen_5 ?_
    refine zq_iload_n K dX2_frozen_8 rfl rfl ?_
    refine zq_bipush K dX2_frozen_9 (v := nI 12) (by decide) ?_
    refine zq_icmp_geN K (x := l) (y := 12) 46 dX2_frozen_11 (by decide) ⟨by omega, by omega⟩ (fun h11 => by omega) (fun h11 => ?_)
    refine zq_aload_n K dX2_frozen_14 rfl rfl ?_
    refine zq_aload_n K dX2_frozen_15 rfl rfl ?_
    refine zq_getRn K dX2_frozen_16 zclX2 (k := 7) (by decide) zf_X2_197 rfl hC.x.1 (hC.m0 hm) ?_
    refine zq_acmp_ne K (rx := some (W 9 (f))) (ry := none) 24 dX2_frozen_19 (by decide) (fun hfm => ?_) (fun hfm => ?_)
    · refine zq_aload_n K dX2_frozen_24 rfl rfl ?_
      refine zq_getI K dX2_frozen_25 zclX1 (k := 3) (by decide) zf_X2_167 rfl (hC.f hv9).1 ?_
      refine zq_top (hC.f hv9).2.2.2.2.1 ?_
      refine zq_iconst K dX2_frozen_28 (v := -1) (by decide) ?_
      refine zq_icmp_eq K 34 dX2_frozen_29 (by decide) (fun hOW => ?_) (fun hOW => ?_)
      · have hu0 : ¬ f / 8 = 0 := fun z => hF.2 f (by omega) hv9.2.2 hOW
        have hu := (hU (f / 8) hv9.d.1 hv9.d.2).u hu0
        refine zq_aload_n K dX2_frozen_34 rfl rfl ?_
        refine zq_aload_n K dX2_frozen_35 rfl rfl ?_
        refine zq_callV (As := [.ref (W 9 (f))]) K dX2_frozen_36 zyX2_fragmentAbove zm_X2_269 ziX2_fragmentAbove zvX2_fragmentAbove zclX2 rfl (by decide) rfl rfl (Nat.le_of_ble_eq_true rfl) (Nat.le_of_ble_eq_true rfl) hC.x.1 (ct_X2_fragmentAbove hC hv9 hF hu0 hu) (zone_r ?_) zone_x (Nat.le_refl _)
        refine zq_astore_n K dX2_frozen_39 rfl (by decide) ?_
        refine zq_iincN K dX2_frozen_40 rfl (by decide) ?_
        refine zq_goto K 4 dX2_frozen_43 (by decide) ?_
        exact ih (zinh B f) (zVal.n hF hv9 hu) (fun z => k1 (by rw [zfzN, if_neg (fun z => z.1 hm), if_pos hOW]; exact z)) (fun z => k0 (by rw [zfzN, if_neg (fun z => z.1 hm), if_pos hOW]; exact z)) (l + 1) (by omega)
      · refine zq_iconst K dX2_frozen_32 (v := nI 0) (by decide) ?_
        exact zq_zret K dX2_frozen_33 rfl (by decide) (k0 (by rw [zfzN, if_neg (fun z => z.1 hm), if_neg hOW]; exact Bool.false_ne_true))
    · exact absurd hfm (by simp)
theorem lp_X2_frozenb {G : ZG} {E : ZE} (K : zOK mX2_frozen [] G E) {M : ZM} {W : Nat → Nat → Nat} {B : ZA} (hC : zC M W B) (hF : zFr B) (hU : ∀ d, d < 12 → B.2 3 d = 1 → zDp B 11 d) {m : Nat} (hm : B.1 16 = nI m) (hm9 : zVal B 9 m) {y : Value} {P : ZO → ZM → Prop} : ∀ (n f : Nat), zVal B 9 f → (zfzN B n f = true → P (.inl (some (.int (nI 1)))) M) → (¬ zfzN B n f = true → P (.inl (some (.int (nI 0)))) M) → ∀ l, l + n = 12 → WW E G (zyu mX2_frozen) (zQ E G mX2_frozen P) M 0 4 [some (.ref (W 10 0)), some y, some (.ref (W 9 f)), some (.int (nI l))] [] := by
  intro n
  induction n with
  | zero =>
    intro f hv9 k1 k0 l hl
    have hk4 : l = 12 := by omega
    subst hk4
    refine zq_aload_n K dX2_frozen_4 rfl rfl ?_
    refine zq_ifnull_r K dX2_frozen_5 ?_
    refine zq_iload_n K dX2_frozen_8 rfl rfl ?_
    refine zq_bipush K dX2_frozen_9 (v := nI 12) (by decide) ?_
    refine zq_icmp_geN K (x := 12) (y := 12) 46 dX2_frozen_11 (by decide) ⟨by omega, by omega⟩ (fun h11 => ?_) (fun h11 => by omega)
    refine zq_iconst K dX2_frozen_46 (v := nI 0) (by decide) ?_
    exact zq_zret K dX2_frozen_47 rfl (by decide) (k0 Bool.false_ne_true)
  | succ n ih =>
    intro f hv9 k1 k0 l hl
    refine zq_aload_n K dX2_frozen_4 rfl rfl ?_
    refine zq_ifnull_r K dX2_frozen_5 ?_
    refine zq_iload_n K dX2_frozen_8 rfl rfl ?_
    refine zq_bipush K dX2_frozen_9 (v := nI 12) (by decide) ?_
    refine zq_icmp_geN K (x := l) (y := 12) 46 dX2_frozen_11 (by decide) ⟨by omega, by omega⟩ (fun h11 => by omega) (fun h11 => ?_)
    refine zq_aload_n K dX2_frozen_14 rfl rfl ?_
    refine zq_aload_n K dX2_frozen_15 rfl rfl ?_
    refine zq_getRs K dX2_frozen_16 zclX2 (k := 7) (by decide) zf_X2_197 rfl hC.x.1 (hC.m1 hm hm9.1) ?_
    refine zq_acmp_ne K (rx := some (W 9 (f))) (ry := some (W 9 (m))) 24 dX2_frozen_19 (by decide) (fun hfm => ?_) (fun hfm => ?_)
    · refine zq_aload_n K dX2_frozen_24 rfl rfl ?_
      refine zq_getI K dX2_frozen_25 zclX1 (k := 3) (by decide) zf_X2_167 rfl (hC.f hv9).1 ?_
      refine zq_top (hC.f hv9).2.2.2.2.1 ?_
      refine zq_iconst K dX2_frozen_28 (v := -1) (by decide) ?_
      refine zq_icmp_eq K 34 dX2_frozen_29 (by decide) (fun hOW => ?_) (fun hOW => ?_)
      · have hu0 : ¬ f / 8 = 0 := fun z => hF.2 f (by omega) hv9.2.2 hOW
        have hu := (hU (f / 8) hv9.d.1 hv9.d.2).u hu0
        refine zq_aload_n K dX2_frozen_34 rfl rfl ?_
        refine zq_aload_n K dX2_frozen_35 rfl rfl ?_
        refine zq_callV (As := [.ref (W 9 (f))]) K dX2_frozen_36 zyX2_fragmentAbove zm_X2_269 ziX2_fragmentAbove zvX2_fragmentAbove zclX2 rfl (by decide) rfl rfl (Nat.le_of_ble_eq_true rfl) (Nat.le_of_ble_eq_true rfl) hC.x.1 (ct_X2_fragmentAbove hC hv9 hF hu0 hu) (zone_r ?_) zone_x (Nat.le_refl _)
        refine zq_astore_n K dX2_frozen_39 rfl (by decide) ?_
        refine zq_iincN K dX2_frozen_40 rfl (by decide) ?_
        refine zq_goto K 4 dX2_frozen_43 (by decide) ?_
        exact ih (zinh B f) (zVal.n hF hv9 hu) (fun z => k1 (by rw [zfzN, if_neg (fun z => hfm (by rw [(nI_eq (by have := hv9.1; omega) (by have := hm9.1; omega)).mp (z.2.trans hm)])), if_pos hOW]; exact z)) (fun z => k0 (by rw [zfzN, if_neg (fun z => hfm (by rw [(nI_eq (by have := hv9.1; omega) (by have := hm9.1; omega)).mp (z.2.trans hm)])), if_pos hOW]; exact z)) (l + 1) (by omega)
      · refine zq_iconst K dX2_frozen_32 (v := nI 0) (by decide) ?_
        exact zq_zret K dX2_frozen_33 rfl (by decide) (k0 (by rw [zfzN, if_neg (fun z => hfm (by rw [(nI_eq (by have := hv9.1; omega) (by have := hm9.1; omega)).mp (z.2.trans hm)])), if_neg hOW]; exact Bool.false_ne_true))
    · refine zq_iconst K dX2_frozen_22 (v := nI 1) (by decide) ?_
      exact zq_zret K dX2_frozen_23 rfl (by decide) (k1 (by rw [zfzN, if_pos ⟨by rw [hm]; exact nI_ne1 (by have := hm9.1; omega), by rw [hm, (hC.2 9 f 9 m hv9 hm9 (Option.some.inj hfm)).2]⟩]))
theorem ct_X2_frozen {G : ZG} {M : ZM} {W : Nat → Nat → Nat} {B : ZA} (hC : zC M W B) {f : Nat} (hv9 : zVal B 9 f) (hF : zFr B) (hU : ∀ d, d < 12 → B.2 3 d = 1 → zDp B 11 d) (hM : zMw B) : zMet G mX2_frozen [.ref (W 10 0), .ref (W 9 (f))] M (zdec (zfz B f = true) M) := by
  refine zbody zyX2_frozen [some (.ref (W 10 0)), some (.ref (W 9 (f))), none, none] rfl (Nat.le_of_ble_eq_true rfl) (by intro v hv; simp only [List.mem_cons, List.not_mem_nil, or_false] at hv; rcases hv with rfl | rfl <;> rfl) (fun E K => ?_)
  refine zq_aload_n K dX2_frozen_0 rfl rfl ?_
  refine zq_astore_n K dX2_frozen_1 rfl (by decide) ?_
  refine zq_iconst K dX2_frozen_2 (v := nI 0) (by decide) ?_
  refine zq_istore_n K dX2_frozen_3 rfl (by decide) ?_
  rcases hM with hm | ⟨m, hm, hm9⟩
  · exact lp_X2_frozena K hC hF hU hm 12 f hv9 (fun z => zdec_1 z) (fun z => zdec_0 z) 0 rfl
  · exact lp_X2_frozenb K hC hF hU hm hm9 12 f hv9 (fun z => zdec_1 z) (fun z => zdec_0 z) 0 rfl
theorem ct_X2_needFree {G : ZG} {M : ZM} {W : Nat → Nat → Nat} {B : ZA} (hC : zC M W B) {d : Nat} (hv : zVal B 3 d) {n : Nat} (hn : n < 50) (hF : zFr B) (hU : ∀ d, d < 12 → B.2 3 d = 1 → zDp B 11 d) (hM : zMw B) : zMet G mX2_needFree [.ref (W 10 0), .ref (W 3 (d)), .int (nI (n))] M (znd (¬ zBz B d n) none zISE M) := by
  refine zbody zyX2_needFree [some (.ref (W 10 0)), some (.ref (W 3 (d))), some (.int (nI (n)))] rfl (Nat.le_of_ble_eq_true rfl) (by intro v hv; simp only [List.mem_cons, List.not_mem_nil, or_false] at hv; rcases hv with rfl | rfl | rfl <;> rfl) (fun E K => ?_)
  refine zq_aload_n K dX2_needFree_0 rfl rfl ?_
  refine zq_iload_n K dX2_needFree_1 rfl rfl ?_
  refine zq_callV (As := [.int (nI (n))]) K dX2_needFree_2 zyX0_meaningOf zm_X2_60 ziX0_meaningOf zvX0_meaningOf zclX0 rfl (by decide) rfl rfl (Nat.le_of_ble_eq_true rfl) (Nat.le_of_ble_eq_true rfl) (hC.d hv).1 (ct_X0_meaningOf hC hv hn) (zone_r ?_) zone_x (Nat.le_refl _)
  refine zq_iconst K dX2_needFree_5 (v := -1) (by decide) ?_
  refine zq_icmp_ne K 21 dX2_needFree_6 (by decide) (fun h6 => ?_) (fun h6 => ?_)
  · exact zq_throw K (text := "the name is not free or its fragment is frozen") zthISE (by decide +kernel) dX2_needFree_21 dX2_needFree_24 dX2_needFree_25 dX2_needFree_27 dX2_needFree_30 (by decide) (Nat.le_of_ble_eq_true rfl) (Nat.le_of_ble_eq_true rfl) ⟨rfl, Or.inr ⟨fun z => z (Or.inl h6), rfl⟩⟩
  · refine zq_aload_n K dX2_needFree_9 rfl rfl ?_
    refine zq_aload_n K dX2_needFree_10 rfl rfl ?_
    refine zq_iload_n K dX2_needFree_11 rfl rfl ?_
    refine zq_callV (As := [.int (nI (n))]) K dX2_needFree_12 zyX0_fragmentOfName zm_X2_47 ziX0_fragmentOfName zvX0_fragmentOfName zclX0 rfl (by decide) rfl rfl (Nat.le_of_ble_eq_true rfl) (Nat.le_of_ble_eq_true rfl) (hC.d hv).1 (ct_X0_fragmentOfName hC hv hn) (zone_r ?_) zone_x (Nat.le_refl _)
    refine zq_callV (As := [.ref (W 9 (zfn B d n))]) K dX2_needFree_15 zyX2_frozen zm_X2_148 ziX2_frozen zvX2_frozen zclX2 rfl (by decide) rfl rfl (Nat.le_of_ble_eq_true rfl) (Nat.le_of_ble_eq_true rfl) hC.x.1 (ct_X2_frozen hC (zVal.nm hF hv hn) hF hU hM) (zdec_r (fun hz => ?_) (fun hz => ?_)) zdec_x (Nat.le_refl _)
    · refine zq_if_eqN K (x := 1) 31 dX2_needFree_18 (by decide) (by omega) (fun h18 => by omega) (fun h18 => ?_)
      exact zq_throw K (text := "the name is not free or its fragment is frozen") zthISE (by decide +kernel) dX2_needFree_21 dX2_needFree_24 dX2_needFree_25 dX2_needFree_27 dX2_needFree_30 (by decide) (Nat.le_of_ble_eq_true rfl) (Nat.le_of_ble_eq_true rfl) ⟨rfl, Or.inr ⟨fun z => z (Or.inr hz), rfl⟩⟩
    · refine zq_if_eqN K (x := 0) 31 dX2_needFree_18 (by decide) (by omega) (fun h18 => ?_) (fun h18 => by omega)
      exact zq_ret K dX2_needFree_31 rfl ⟨rfl, Or.inl ⟨fun z => z.elim (fun y => y h6) hz, rfl⟩⟩
theorem ct_X2_needTaken {G : ZG} {M : ZM} {W : Nat → Nat → Nat} {B : ZA} (hC : zC M W B) {d : Nat} (hv : zVal B 3 d) {n : Nat} (hn : n < 50) (hF : zFr B) (hU : ∀ d, d < 12 → B.2 3 d = 1 → zDp B 11 d) (hM : zMw B) : zMet G mX2_needTaken [.ref (W 10 0), .ref (W 3 (d)), .int (nI (n))] M (znd (¬ B.2 6 (50 * d + n) = -1 ∧ ¬ zfz B (zfn B d n) = true) none zISE M) := by
  refine zbody zyX2_needTaken [some (.ref (W 10 0)), some (.ref (W 3 (d))), some (.int (nI (n)))] rfl (Nat.le_of_ble_eq_true rfl) (by intro v hv; simp only [List.mem_cons, List.not_mem_nil, or_false] at hv; rcases hv with rfl | rfl | rfl <;> rfl) (fun E K => ?_)
  refine zq_aload_n K dX2_needTaken_0 rfl rfl ?_
  refine zq_iload_n K dX2_needTaken_1 rfl rfl ?_
  refine zq_callV (As := [.int (nI (n))]) K dX2_needTaken_2 zyX0_meaningOf zm_X2_60 ziX0_meaningOf zvX0_meaningOf zclX0 rfl (by decide) rfl rfl (Nat.le_of_ble_eq_true rfl) (Nat.le_of_ble_eq_true rfl) (hC.d hv).1 (ct_X0_meaningOf hC hv hn) (zone_r ?_) zone_x (Nat.le_refl _)
  refine zq_iconst K dX2_needTaken_5 (v := -1) (by decide) ?_
  refine zq_icmp_eq K 21 dX2_needTaken_6 (by decide) (fun h6 => ?_) (fun h6 => ?_)
  · exact zq_throw K (text := "the name is free or its fragment is frozen") zthISE (by decide +kernel) dX2_needTaken_21 dX2_needTaken_24 dX2_needTaken_25 dX2_needTaken_27 dX2_needTaken_30 (by decide) (Nat.le_of_ble_eq_true rfl) (Nat.le_of_ble_eq_true rfl) ⟨rfl, Or.inr ⟨fun z => z.1 h6, rfl⟩⟩
  · refine zq_aload_n K dX2_needTaken_9 rfl rfl ?_
    refine zq_aload_n K dX2_needTaken_10 rfl rfl ?_
    refine zq_iload_n K dX2_needTaken_11 rfl rfl ?_
    refine zq_callV (As := [.int (nI (n))]) K dX2_needTaken_12 zyX0_fragmentOfName zm_X2_47 ziX0_fragmentOfName zvX0_fragmentOfName zclX0 rfl (by decide) rfl rfl (Nat.le_of_ble_eq_true rfl) (Nat.le_of_ble_eq_true rfl) (hC.d hv).1 (ct_X0_fragmentOfName hC hv hn) (zone_r ?_) zone_x (Nat.le_refl _)
    refine zq_callV (As := [.ref (W 9 (zfn B d n))]) K dX2_needTaken_15 zyX2_frozen zm_X2_148 ziX2_frozen zvX2_frozen zclX2 rfl (by decide) rfl rfl (Nat.le_of_ble_eq_true rfl) (Nat.le_of_ble_eq_true rfl) hC.x.1 (ct_X2_frozen hC (zVal.nm hF hv hn) hF hU hM) (zdec_r (fun hz => ?_) (fun hz => ?_)) zdec_x (Nat.le_refl _)
    · refine zq_if_eqN K (x := 1) 31 dX2_needTaken_18 (by decide) (by omega) (fun h18 => by omega) (fun h18 => ?_)
      exact zq_throw K (text := "the name is free or its fragment is frozen") zthISE (by decide +kernel) dX2_needTaken_21 dX2_needTaken_24 dX2_needTaken_25 dX2_needTaken_27 dX2_needTaken_30 (by decide) (Nat.le_of_ble_eq_true rfl) (Nat.le_of_ble_eq_true rfl) ⟨rfl, Or.inr ⟨fun z => z.2 hz, rfl⟩⟩
    · refine zq_if_eqN K (x := 0) 31 dX2_needTaken_18 (by decide) (by omega) (fun h18 => ?_) (fun h18 => by omega)
      exact zq_ret K dX2_needTaken_31 rfl ⟨rfl, Or.inl ⟨⟨h6, hz⟩, rfl⟩⟩
end
section
/-! the class: changes, sums over directories and slots -/
theorem zVal.cg {B B' : ZA} (h3 : B'.2 3 = B.2 3) (h10 : B'.2 10 = B.2 10) {i j : Nat} : zVal B' i j ↔ zVal B i j := by
  unfold zVal
  rw [h3, h10]
theorem zVal.dr {B : ZA} {d : Nat} : ∀ {i j : Nat}, zVal (zsa B 3 d (nI 0)) i j → zVal B i j := by
  have h : ∀ x, (zsa B 3 d (nI 0)).2 3 x = 1 → B.2 3 x = 1 := fun x hx => by
    rw [zsa_2] at hx
    split at hx
    · exact absurd hx (by decide)
    · exact hx
  intro i j hv
  unfold zVal at hv ⊢
  split at hv
  · exact ⟨hv.1, h _ hv.2⟩
  · exact ⟨hv.1, h _ hv.2⟩
  · exact ⟨hv.1, h _ hv.2⟩
  · exact ⟨hv.1, h _ hv.2⟩
  · exact ⟨hv.1, h _ hv.2⟩
  · exact ⟨hv.1, h _ hv.2⟩
  · exact ⟨hv.1, h _ hv.2.1, hv.2.2⟩
  · exact hv
theorem zOb.dr {M : ZM} {W : Nat → Nat → Nat} {B : ZA} {d : Nat} : ∀ {i j : Nat}, ¬ (i = 0 ∧ j = 0) → zVal B i j → zOb M W B i j → zOb M W (zsa B 3 d (nI 0)) i j
  | 0, j, hne, hv, _ => absurd ⟨rfl, hv.2⟩ hne
  | 1, _, _, _, h => h
  | 2, _, _, _, h => h
  | 3, _, _, _, h => h
  | 4, _, _, _, h => h
  | 5, _, _, _, h => h
  | 6, _, _, _, h => h
  | 7, _, _, _, h => h
  | 8, _, _, _, h => h
  | 9, _, _, _, h => h
  | 10, _, _, _, h => h
  | i + 11, _, _, hv, _ => absurd hv.lt (by omega)
theorem zC.u_drop {M : ZM} {W : Nat → Nat → Nat} {B : ZA} {d : Nat} (hC : zC M W B) : zC (zsr M (W 0 0) d none) W (zsa B 3 d (nI 0)) := by
  refine hC.upd 0 0 ⟨by decide, rfl⟩ (fun a h => zsame.r h) (fun _ _ h => h.dr) (fun i j hne hv h => zOb.dr hne hv h) (fun h => ⟨h.1, h.2.1, fun x hx => ?_⟩)
  rw [zr_r]
  by_cases e : x = d
  · rw [if_pos ⟨rfl, e⟩, show (zsa B 3 d (nI 0)).2 3 x = nI 0 from by rw [zsa_2, if_pos ⟨rfl, e⟩], if_neg (by decide)]
  · rw [if_neg (fun z => e z.2), show (zsa B 3 d (nI 0)).2 3 x = B.2 3 x from by rw [zsa_2, if_neg (fun z => e z.2)]]
    exact h.2.2 x hx
theorem zc_drop {t : ZY} {tb : List ExceptionTableEntry} {E : ZE} {G : ZG} {u : Nat} {Q : State → Prop} {M M0 : ZM} {b pc : Nat} {L : List (Option Value)} {S : List Value} {W : Nat → Nat → Nat} {B B0 : ZA} (K : zOK t tb G E) {d : Nat} {i : Int32} (hd : decode (zyc t) pc = .ok (.aastore, 1)) (hC : zC M W B) (hS : zFm M0 W B0 M) (hv : zVal B 3 d) (hv0 : zVal B0 3 d) (hi : i = nI d) (kk : ∀ M', zC M' W (zsa B 3 d (nI 0)) → zFm M0 W B0 M' → WW E G u Q M' b (pc + 1) L S) : WW E G u Q M b pc L (.null :: .int i :: .ref (W 0 0) :: S) :=
  zq_aastN K d hd hC.dirs.1 ⟨rfl, by decide⟩ hi (by rw [hC.dirs.2.1]; exact hv.1) (by rw [hC.dirs.2.1]; decide) (kk _ hC.u_drop (hS.one (i := 0) (j := 0) ⟨by decide, rfl⟩ (fun a h => zsame.r h)))
theorem ct_X2_dropDirectory {G : ZG} {M : ZM} {W : Nat → Nat → Nat} {B : ZA} (hC : zC M W B) {d : Nat} (hv : zVal B 3 d) : zMet G mX2_dropDirectory [.ref (W 10 0), .int (nI (d))] M (zCP W M B none (zsa B 3 d (nI 0))) := by
  refine zbody zyX2_dropDirectory [some (.ref (W 10 0)), some (.int (nI (d)))] rfl (Nat.le_of_ble_eq_true rfl) (by intro v hv; simp only [List.mem_cons, List.not_mem_nil, or_false] at hv; rcases hv with rfl | rfl <;> rfl) (fun E K => ?_)
  have hS : zFm M W B M := zFm.rf
  refine zq_iload_n K dX2_dropDirectory_0 rfl rfl ?_
  refine zq_if_ltN K (x := d) 20 dX2_dropDirectory_1 (by decide) (by have := hv.1; omega) (fun h1 => by omega) (fun h1 => ?_)
  refine zq_iload_n K dX2_dropDirectory_4 rfl rfl ?_
  refine zq_aload_n K dX2_dropDirectory_5 rfl rfl ?_
  refine zq_getRs K dX2_dropDirectory_6 zclX2 (k := 0) (by decide) zf_X2_11 rfl hC.x.1 hC.x.2.1.1 ?_
  refine zq_alen K dX2_dropDirectory_9 hC.dirs.1 (by decide) ?_
  refine zq_top (v := nI 12) (congrArg nI hC.dirs.2.1) ?_
  refine zq_icmp_geN K (x := d) (y := 12) 20 dX2_dropDirectory_10 (by decide) ⟨by have := hv.1; omega, by omega⟩ (fun h10 => ?_) (fun h10 => ?_)
  · exact absurd hv.1 (by omega)
  · refine zq_aload_n K dX2_dropDirectory_13 rfl rfl ?_
    refine zq_getRs K dX2_dropDirectory_14 zclX2 (k := 0) (by decide) zf_X2_11 rfl hC.x.1 hC.x.2.1.1 ?_
    refine zq_iload_n K dX2_dropDirectory_17 rfl rfl ?_
    refine zq_null K dX2_dropDirectory_18 ?_
    refine zc_drop K (d := d) dX2_dropDirectory_19 hC hS hv hv rfl (fun M hC hS => ?_)
    exact zq_ret K dX2_dropDirectory_20 rfl ⟨rfl, hC, hS⟩
/-- the leases on the name at a end: of the first k clients -/
def zel (B : ZA) (a : Nat) (ex : Int32) : Nat → ZA
  | 0 => B
  | k + 1 => if B.1 1 < (zel B a ex k).2 13 (600 * k + a) then (if nI k = ex then zsa (zel B a ex k) 13 (600 * k + a) (B.1 1) else zsa (zsa (zel B a ex k) 13 (600 * k + a) (B.1 1)) 14 k ((zel B a ex k).2 14 k + nI 1)) else zel B a ex k
theorem zel_sme (B : ZA) (a : Nat) (ex : Int32) : ∀ k, zSme B (zel B a ex k)
  | 0 => zSme.rf
  | k + 1 => by
    have h := zel_sme B a ex k
    unfold zel
    split
    · split
      · exact ⟨h.1, fun i h1 h2 => by rw [zsa_n _ _ _ _ _ h1]; exact h.2 i h1 h2⟩
      · exact ⟨h.1, fun i h1 h2 => by rw [zsa_n _ _ _ _ _ h2, zsa_n _ _ _ _ _ h1]; exact h.2 i h1 h2⟩
    · exact h
theorem zSme.val {A B : ZA} (h : zSme A B) {i j : Nat} : zVal B i j ↔ zVal A i j := zVal.cg (h.2 3 (by decide) (by decide)) (h.2 10 (by decide) (by decide))
theorem lp_X2_endLeases {G : ZG} {E : ZE} (K : zOK mX2_endLeases [] G E) {M0 : ZM} {W : Nat → Nat → Nat} {B : ZA} {d n : Nat} (hv : zVal B 3 d) (hn : n < 50) {ex : Int32} {P : ZO → ZM → Prop} (hP : ∀ M, zC M W (zel B (50 * d + n) ex 4) → zFm M0 W B M → P (.inl none) M) : ∀ (m k : Nat), k + m = 4 → ∀ M, zC M W (zel B (50 * d + n) ex k) → zFm M0 W B M → WW E G (zyu mX2_endLeases) (zQ E G mX2_endLeases P) M 0 3 [some (.ref (W 10 0)), some (.ref (W 3 d)), some (.int (nI n)), some (.int ex), some (.int (nI (k)))] [] := by
  intro m
  induction m with
  | zero =>
    intro k hk M hC hS
    have hk4 : k = 4 := by omega
    subst hk4
    refine zq_iload K dX2_endLeases_3 rfl ?_
    refine zq_iconst K dX2_endLeases_5 (v := nI 4) (by decide) ?_
    refine zq_icmp_geN K (x := 4) (y := 4) 57 dX2_endLeases_6 (by decide) ⟨by omega, by omega⟩ (fun h6 => ?_) (fun h6 => by omega)
    exact zq_ret K dX2_endLeases_57 rfl (hP M hC hS)
  | succ m ih =>
    intro k hk M hC hS
    have hk4 : k < 4 := by omega
    have hsm := zel_sme B (50 * d + n) ex k
    have hv' : zVal (zel B (50 * d + n) ex k) 3 d := hsm.val.mpr hv
    have ht : (zel B (50 * d + n) ex k).1 1 = B.1 1 := congrFun hsm.1 1
    refine zq_iload K dX2_endLeases_3 rfl ?_
    refine zq_iconst K dX2_endLeases_5 (v := nI 4) (by decide) ?_
    refine zq_icmp_geN K (x := k) (y := 4) 57 dX2_endLeases_6 (by decide) ⟨by omega, by omega⟩ (fun h6 => by omega) (fun h6 => ?_)
    refine zq_aload_n K dX2_endLeases_9 rfl rfl ?_
    refine zq_iload K dX2_endLeases_10 rfl ?_
    refine zq_iload_n K dX2_endLeases_12 rfl rfl ?_
    refine zq_aload_n K dX2_endLeases_13 rfl rfl ?_
    refine zq_getI K dX2_endLeases_14 zclX2 (k := 4) (by decide) zf_X2_40 rfl hC.x.1 ?_
    refine zq_top hC.x.2.2.1.2.2.2.1 ?_
    refine zq_top (v := B.1 1) ht ?_
    refine zq_callV (As := [.int (nI (k)), .int (nI (n)), .int (B.1 1)]) K dX2_endLeases_17 zyX0_leaseRuns zm_X2_43 ziX0_leaseRuns zvX0_leaseRuns zclX0 rfl (by decide) rfl rfl (Nat.le_of_ble_eq_true rfl) (Nat.le_of_ble_eq_true rfl) (hC.d hv').1 (ct_X0_leaseRuns hC hv' hk4 hn (B.1 1)) (zdec_r (fun hr => ?_) (fun hr => ?_)) zdec_x (Nat.le_refl _)
    · refine zq_if_eqN K (x := 1) 51 dX2_endLeases_20 (by decide) (by omega) (fun h20 => by omega) (fun h20 => ?_)
      refine zq_aload_n K dX2_endLeases_23 rfl rfl ?_
      refine zq_iload K dX2_endLeases_24 rfl ?_
      refine zq_iload_n K dX2_endLeases_26 rfl rfl ?_
      refine zq_aload_n K dX2_endLeases_27 rfl rfl ?_
      refine zq_getI K dX2_endLeases_28 zclX2 (k := 4) (by decide) zf_X2_40 rfl hC.x.1 ?_
      refine zq_top hC.x.2.2.1.2.2.2.1 ?_
      refine zq_top (v := B.1 1) ht ?_
      refine zq_callV (As := [.int (nI (k)), .int (nI (n)), .int (B.1 1)]) K dX2_endLeases_31 zyX0_setLeaseEnd zm_X2_56 ziX0_setLeaseEnd zvX0_setLeaseEnd zclX0 rfl (by decide) rfl rfl (Nat.le_of_ble_eq_true rfl) (Nat.le_of_ble_eq_true rfl) (hC.d hv').1 (ct_X0_setLeaseEnd hC hv' hk4 hn (B.1 1)) (zCP_r hS (fun _ _ h => hsm.val.mp h) (fun M hC hS => ?_)) zCP_x (Nat.le_refl _)
      refine zq_iload K dX2_endLeases_34 rfl ?_
      refine zq_iload_n K dX2_endLeases_36 rfl rfl ?_
      refine zq_icmp_eq K 51 dX2_endLeases_37 (by decide) (fun he => ?_) (fun he => ?_)
      · refine zq_iincN K dX2_endLeases_51 rfl (by decide) ?_
        refine zq_goto K 3 dX2_endLeases_54 (by decide) ?_
        exact ih (k + 1) (by omega) M (by rw [zel, if_pos hr, if_pos he]; exact hC) hS
      · refine zq_aload_n K dX2_endLeases_40 rfl rfl ?_
        refine zq_getRs K dX2_endLeases_41 zclX2 (k := 5) (by decide) zf_X2_15 rfl hC.x.1 hC.x.2.1.2.1 ?_
        refine zq_iload K dX2_endLeases_44 rfl ?_
        refine zq_dup2 K dX2_endLeases_46 rfl rfl ?_
        refine zc_ldcnt K (z := 1) (c := k) dX2_endLeases_47 hC (by decide) rfl (by omega) ?_
        refine zq_top (v := (zel B (50 * d + n) ex k).2 14 k) rfl ?_
        refine zq_iconst K dX2_endLeases_48 (v := nI 1) (by decide) ?_
        refine zq_iadd K dX2_endLeases_49 ?_
        refine zc_strec K (c := k) dX2_endLeases_50 hC hS rfl (by omega) (fun M hC hS => ?_)
        refine zq_iincN K dX2_endLeases_51 rfl (by decide) ?_
        refine zq_goto K 3 dX2_endLeases_54 (by decide) ?_
        exact ih (k + 1) (by omega) M (by rw [zel, if_pos hr, if_neg he]; exact hC) hS
    · refine zq_if_eqN K (x := 0) 51 dX2_endLeases_20 (by decide) (by omega) (fun h20 => ?_) (fun h20 => by omega)
      refine zq_iincN K dX2_endLeases_51 rfl (by decide) ?_
      refine zq_goto K 3 dX2_endLeases_54 (by decide) ?_
      exact ih (k + 1) (by omega) M (by rw [zel, if_neg hr]; exact hC) hS
theorem ct_X2_endLeases {G : ZG} {M : ZM} {W : Nat → Nat → Nat} {B : ZA} (hC : zC M W B) {d : Nat} (hv : zVal B 3 d) {n : Nat} (hn : n < 50) (ex : Int32) : zMet G mX2_endLeases [.ref (W 10 0), .ref (W 3 (d)), .int (nI (n)), .int (ex)] M (zCP W M B none (zel B (50 * d + n) ex 4)) := by
  refine zbody zyX2_endLeases [some (.ref (W 10 0)), some (.ref (W 3 (d))), some (.int (nI (n))), some (.int (ex)), none] rfl (Nat.le_of_ble_eq_true rfl) (by intro v hv; simp only [List.mem_cons, List.not_mem_nil, or_false] at hv; rcases hv with rfl | rfl | rfl | rfl <;> rfl) (fun E K => ?_)
  refine zq_iconst K dX2_endLeases_0 (v := nI 0) (by decide) ?_
  refine zq_istore K dX2_endLeases_1 (by decide) ?_
  exact lp_X2_endLeases K hv hn (fun M hC hS => ⟨rfl, hC, hS⟩) 4 0 rfl M hC zFm.rf
/-- the name n of the directory d means m from now on -/
def zcn (B : ZA) (c : Int32) (d n : Nat) (m g : Int32) : ZA := zel (zsa (zsa (zsa B 6 (50 * d + n) m) 7 (50 * d + n) g) 12 (zfn B d n) (B.2 12 (zfn B d n) + nI 1)) (50 * d + n) c 4
theorem ct_X2_changeName {G : ZG} {M : ZM} {W : Nat → Nat → Nat} {B : ZA} (hC : zC M W B) {d : Nat} (hv : zVal B 3 d) (hF : zFr B) {n : Nat} (hn : n < 50) (c m g : Int32) : zMet G mX2_changeName [.ref (W 10 0), .int (c), .ref (W 3 (d)), .int (nI (n)), .int (m), .int (g)] M (zCP W M B none (zcn B c d n m g)) := by
  refine zbody zyX2_changeName [some (.ref (W 10 0)), some (.int (c)), some (.ref (W 3 (d))), some (.int (nI (n))), some (.int (m)), some (.int (g))] rfl (Nat.le_of_ble_eq_true rfl) (by intro v hv; simp only [List.mem_cons, List.not_mem_nil, or_false] at hv; rcases hv with rfl | rfl | rfl | rfl | rfl | rfl <;> rfl) (fun E K => ?_)
  have hS : zFm M W B M := zFm.rf
  refine zq_aload_n K dX2_changeName_0 rfl rfl ?_
  refine zq_iload_n K dX2_changeName_1 rfl rfl ?_
  refine zq_iload K dX2_changeName_2 rfl ?_
  refine zq_iload K dX2_changeName_4 rfl ?_
  refine zq_callV (As := [.int (nI (n)), .int (m), .int (g)]) K dX2_changeName_6 zyX0_setMeaning zm_X2_256 ziX0_setMeaning zvX0_setMeaning zclX0 rfl (by decide) rfl rfl (Nat.le_of_ble_eq_true rfl) (Nat.le_of_ble_eq_true rfl) (hC.d hv).1 (ct_X0_setMeaning hC hv hn m g) (zCP_r hS (fun _ _ h => h) (fun M hC hS => ?_)) zCP_x (Nat.le_refl _)
  refine zq_aload_n K dX2_changeName_9 rfl rfl ?_
  refine zq_iload_n K dX2_changeName_10 rfl rfl ?_
  refine zq_callV (As := [.int (nI (n))]) K dX2_changeName_11 zyX0_fragmentOfName zm_X2_47 ziX0_fragmentOfName zvX0_fragmentOfName zclX0 rfl (by decide) rfl rfl (Nat.le_of_ble_eq_true rfl) (Nat.le_of_ble_eq_true rfl) (hC.d hv).1 (ct_X0_fragmentOfName (B := (zsa (zsa B 6 (50 * d + n) m) 7 (50 * d + n) g)) hC hv hn) (zone_r ?_) zone_x (Nat.le_refl _)
  refine zq_dup K dX2_changeName_14 rfl ?_
  refine zq_getI K dX2_changeName_15 zclX1 (k := 4) (by decide) zf_X2_51 rfl (hC.f (zVal.nm hF hv hn)).1 ?_
  refine zq_top (hC.f (zVal.nm hF hv hn)).2.2.2.2.2 ?_
  refine zq_top (v := B.2 12 (zfn B d n)) rfl ?_
  refine zq_iconst K dX2_changeName_18 (v := nI 1) (by decide) ?_
  refine zq_iadd K dX2_changeName_19 ?_
  refine zc_pload K dX2_changeName_20 zf_X2_51 hC hS (zVal.nm hF hv hn) (zVal.nm hF hv hn) (fun M hC hS => ?_)
  refine zq_aload_n K dX2_changeName_23 rfl rfl ?_
  refine zq_aload_n K dX2_changeName_24 rfl rfl ?_
  refine zq_iload_n K dX2_changeName_25 rfl rfl ?_
  refine zq_iload_n K dX2_changeName_26 rfl rfl ?_
  refine zq_callV (As := [.ref (W 3 (d)), .int (nI (n)), .int (c)]) K dX2_changeName_27 zyX2_endLeases zm_X2_259 ziX2_endLeases zvX2_endLeases zclX2 rfl (by decide) rfl rfl (Nat.le_of_ble_eq_true rfl) (Nat.le_of_ble_eq_true rfl) hC.x.1 (ct_X2_endLeases (B := zsa (zsa (zsa B 6 (50 * d + n) m) 7 (50 * d + n) g) 12 (zfn B d n) (B.2 12 (zfn B d n) + nI 1)) hC hv hn c) (zCP_r hS (fun _ _ h => h) (fun M hC hS => ?_)) zCP_x (Nat.le_refl _)
  exact zq_ret K dX2_changeName_30 rfl ⟨rfl, hC, hS⟩
def zsm (g : Nat → Nat) : Nat → Nat
  | 0 => 0
  | k + 1 => zsm g k + g k
theorem zsm_le {g : Nat → Nat} (h : ∀ k, g k ≤ 50) : ∀ k, zsm g k ≤ 50 * k
  | 0 => Nat.le_refl _
  | k + 1 => by
    have h1 := zsm_le h k
    have h2 := h k
    unfold zsm
    omega
/-- the links to f in the directory d -/
def zkl (B : ZA) (f : Int32) (d : Nat) : Nat := if B.2 3 d = 1 then zcN (zpf B d f) 50 else 0
/-- the leases of c in the directory d -/
def zkt (B : ZA) (c : Nat) (d : Nat) : Nat := if B.2 3 d = 1 then zcN (zpt B c d (B.1 1)) 50 else 0
theorem lp_X2_countLinks {G : ZG} {E : ZE} (K : zOK mX2_countLinks [] G E) {M : ZM} {W : Nat → Nat → Nat} {B : ZA} (hC : zC M W B) {f : Int32} {P : ZO → ZM → Prop} (hP : P (.inl (some (.int (nI (zsm (zkl B f) 12))))) M) : ∀ (m k : Nat) (o : Option Value), k + m = 12 → WW E G (zyu mX2_countLinks) (zQ E G mX2_countLinks P) M 0 4 [some (.ref (W 10 0)), some (.int (f)), some (.int (nI (zsm (zkl B f) k))), some (.int (nI (k))), o] [] := by
  intro m
  induction m with
  | zero =>
    intro k o hk
    have hk4 : k = 12 := by omega
    subst hk4
    refine zq_iload_n K dX2_countLinks_4 rfl rfl ?_
    refine zq_aload_n K dX2_countLinks_5 rfl rfl ?_
    refine zq_getRs K dX2_countLinks_6 zclX2 (k := 0) (by decide) zf_X2_11 rfl hC.x.1 hC.x.2.1.1 ?_
    refine zq_alen K dX2_countLinks_9 hC.dirs.1 (by decide) ?_
    refine zq_top (v := nI 12) (congrArg nI hC.dirs.2.1) ?_
    refine zq_icmp_geN K (x := 12) (y := 12) 41 dX2_countLinks_10 (by decide) ⟨by omega, by omega⟩ (fun h10 => ?_) (fun h10 => by omega)
    refine zq_iload_n K dX2_countLinks_41 rfl rfl ?_
    exact zq_iret K dX2_countLinks_42 rfl hP
  | succ m ih =>
    intro k o hk
    by_cases hl : B.2 3 k = 1
    · refine zq_iload_n K dX2_countLinks_4 rfl rfl ?_
      refine zq_aload_n K dX2_countLinks_5 rfl rfl ?_
      refine zq_getRs K dX2_countLinks_6 zclX2 (k := 0) (by decide) zf_X2_11 rfl hC.x.1 hC.x.2.1.1 ?_
      refine zq_alen K dX2_countLinks_9 hC.dirs.1 (by decide) ?_
      refine zq_top (v := nI 12) (congrArg nI hC.dirs.2.1) ?_
      refine zq_icmp_geN K (x := k) (y := 12) 41 dX2_countLinks_10 (by decide) ⟨by omega, by omega⟩ (fun h10 => by omega) (fun h10 => ?_)
      refine zq_aload_n K dX2_countLinks_13 rfl rfl ?_
      refine zq_getRs K dX2_countLinks_14 zclX2 (k := 0) (by decide) zf_X2_11 rfl hC.x.1 hC.x.2.1.1 ?_
      refine zq_iload_n K dX2_countLinks_17 rfl rfl ?_
      refine zc_ad1 K (d := k) dX2_countLinks_18 hC ⟨by omega, hl⟩ rfl ?_
      refine zq_astore K dX2_countLinks_19 (by decide) ?_
      refine zq_aload K dX2_countLinks_21 rfl ?_
      refine zq_ifnull_r K dX2_countLinks_23 ?_
      refine zq_iload_n K dX2_countLinks_26 rfl rfl ?_
      refine zq_aload K dX2_countLinks_27 rfl ?_
      refine zq_iload_n K dX2_countLinks_29 rfl rfl ?_
      refine zq_callV (As := [.int (f)]) K dX2_countLinks_30 zyX0_countLinksTo zm_X2_266 ziX0_countLinksTo zvX0_countLinksTo zclX0 rfl (by decide) rfl rfl (Nat.le_of_ble_eq_true rfl) (Nat.le_of_ble_eq_true rfl) (hC.d ⟨by omega, hl⟩).1 (ct_X0_countLinksTo hC ⟨by omega, hl⟩ f) (zone_r ?_) zone_x (Nat.le_refl _)
      refine zq_iaddN K (x := zsm (zkl B f) k) (y := zcN (zpf B k f) 50) dX2_countLinks_33 ?_
      refine zq_istore_n K dX2_countLinks_34 rfl (by decide) ?_
      refine zq_iincN K dX2_countLinks_35 rfl (by decide) ?_
      refine zq_goto K 4 dX2_countLinks_38 (by decide) ?_
      have e9 : zsm (zkl B f) k + zcN (zpf B k f) 50 = zsm (zkl B f) (k + 1) := by rw [zsm]; unfold zkl; rw [if_pos hl]
      rw [e9]
      exact ih (k + 1) _ (by omega)
    · refine zq_iload_n K dX2_countLinks_4 rfl rfl ?_
      refine zq_aload_n K dX2_countLinks_5 rfl rfl ?_
      refine zq_getRs K dX2_countLinks_6 zclX2 (k := 0) (by decide) zf_X2_11 rfl hC.x.1 hC.x.2.1.1 ?_
      refine zq_alen K dX2_countLinks_9 hC.dirs.1 (by decide) ?_
      refine zq_top (v := nI 12) (congrArg nI hC.dirs.2.1) ?_
      refine zq_icmp_geN K (x := k) (y := 12) 41 dX2_countLinks_10 (by decide) ⟨by omega, by omega⟩ (fun h10 => by omega) (fun h10 => ?_)
      refine zq_aload_n K dX2_countLinks_13 rfl rfl ?_
      refine zq_getRs K dX2_countLinks_14 zclX2 (k := 0) (by decide) zf_X2_11 rfl hC.x.1 hC.x.2.1.1 ?_
      refine zq_iload_n K dX2_countLinks_17 rfl rfl ?_
      refine zc_ad0 K (d := k) dX2_countLinks_18 hC (show k < 12 by omega) hl rfl ?_
      refine zq_astoreN K dX2_countLinks_19 (by decide) ?_
      refine zq_aloadN K dX2_countLinks_21 rfl ?_
      refine zq_ifnull_n K 35 dX2_countLinks_23 (by decide) ?_
      refine zq_iincN K dX2_countLinks_35 rfl (by decide) ?_
      refine zq_goto K 4 dX2_countLinks_38 (by decide) ?_
      have e9 : zsm (zkl B f) k = zsm (zkl B f) (k + 1) := by rw [zsm]; unfold zkl; rw [if_neg hl]; rfl
      rw [e9]
      exact ih (k + 1) _ (by omega)
theorem ct_X2_countLinks {G : ZG} {M : ZM} {W : Nat → Nat → Nat} {B : ZA} (hC : zC M W B) (f : Int32) : zMet G mX2_countLinks [.ref (W 10 0), .int (f)] M (zone (some (.int (nI (zsm (zkl B f) 12)))) M) := by
  refine zbody zyX2_countLinks [some (.ref (W 10 0)), some (.int (f)), none, none, none] rfl (Nat.le_of_ble_eq_true rfl) (by intro v hv; simp only [List.mem_cons, List.not_mem_nil, or_false] at hv; rcases hv with rfl | rfl <;> rfl) (fun E K => ?_)
  refine zq_iconst K dX2_countLinks_0 (v := nI 0) (by decide) ?_
  refine zq_istore_n K dX2_countLinks_1 rfl (by decide) ?_
  refine zq_iconst K dX2_countLinks_2 (v := nI 0) (by decide) ?_
  refine zq_istore_n K dX2_countLinks_3 rfl (by decide) ?_
  exact lp_X2_countLinks K hC ⟨rfl, rfl⟩ 12 0 none rfl
/-- the leases on frozen names of d are recalled: the first k names -/
def zrf (B : ZA) (d : Nat) : Nat → ZA
  | 0 => B
  | k + 1 => if zfz B (zfn B d k) = true then zel (zrf B d k) (50 * d + k) (-1) 4 else zrf B d k
theorem zrf_sme (B : ZA) (d : Nat) : ∀ k, zSme B (zrf B d k)
  | 0 => zSme.rf
  | k + 1 => by
    unfold zrf
    split
    · exact (zrf_sme B d k).tr (zel_sme _ _ _ _)
    · exact zrf_sme B d k
/-- .. of all directories: the first k -/
def zra (B : ZA) : Nat → ZA
  | 0 => B
  | k + 1 => if B.2 3 k = 1 then zrf (zra B k) k 50 else zra B k
theorem zra_sme (B : ZA) : ∀ k, zSme B (zra B k)
  | 0 => zSme.rf
  | k + 1 => by
    unfold zra
    split
    · exact (zra_sme B k).tr (zrf_sme _ _ _)
    · exact zra_sme B k
theorem zSme.hu {A B : ZA} (h : zSme A B) (hU : ∀ d, d < 12 → A.2 3 d = 1 → zDp A 11 d) : ∀ d, d < 12 → B.2 3 d = 1 → zDp B 11 d := fun d h1 h2 => (h.dp 11 d).mpr (hU d h1 (by rw [← h.2 3 (by decide) (by decide)]; exact h2))
theorem zSme.mw {A B : ZA} (h : zSme A B) (hM : zMw A) : zMw B := by
  unfold zMw at hM ⊢
  rw [h.1]
  rcases hM with h1 | ⟨m, h1, h2⟩
  · exact Or.inl h1
  · exact Or.inr ⟨m, h1, h.val.mpr h2⟩
abbrev zVf (B : ZA) (f : Nat) : Prop := B.2 3 (f / 8) = 1 ∧ ¬ B.2 10 f = 0
end
section
/-! the class: loads -/
/-- the load of the server s in the first k slots -/
def zlc (B : ZA) (s : Int32) : Nat → Int32
  | 0 => nI 0
  | k + 1 => if zVf B k ∧ zsv B k = s then zlc B s k + B.2 12 k else zlc B s k
/-- the heaviest of the first k slots -/
def zh4 (B : ZA) : Option Nat → Int32
  | none => nI 0
  | some j => B.2 12 j
def zhv (B : ZA) (s m : Int32) : Nat → Option Nat
  | 0 => none
  | k + 1 => if zVf B k ∧ ¬ B.2 12 k ≤ zh4 B (zhv B s m k) ∧ ¬ m < B.2 12 k ∧ zsv B k = s then some k else zhv B s m k
theorem zhv_ok {B : ZA} {s m : Int32} : ∀ {k j : Nat}, zhv B s m k = some j → j < k ∧ zVf B j
  | 0, j, h => nomatch h
  | k + 1, j, h => by
    unfold zhv at h
    split at h
    · rename_i h1
      cases h
      exact ⟨by omega, h1.1⟩
    · have := zhv_ok h
      exact ⟨by omega, this.2⟩
def zhL (B : ZA) : Nat → ZA
  | 0 => B
  | k + 1 => if zVf B k then zsa (zhL B k) 12 k ((zhL B k).2 12 k / nI 2) else zhL B k
theorem zhL_1 (B : ZA) : ∀ k, (zhL B k).1 = B.1
  | 0 => rfl
  | k + 1 => by
    unfold zhL
    split
    · exact zhL_1 B k
    · exact zhL_1 B k
theorem zhL_n (B : ZA) {i : Nat} (hi : i ≠ 12) : ∀ k, (zhL B k).2 i = B.2 i
  | 0 => rfl
  | k + 1 => by
    unfold zhL
    split
    · rw [zsa_n _ _ _ _ _ hi]
      exact zhL_n B hi k
    · exact zhL_n B hi k
/-- a fragment, or none, as a value -/
def zvf (W : Nat → Nat → Nat) : Option Nat → Value
  | none => .null
  | some j => .ref (W 9 j)
theorem ct_X2_needRemovable_0 {G : ZG} {M : ZM} {W : Nat → Nat → Nat} {B : ZA} (hC : zC M W B) {d : Nat} (hv : zVal B 3 d) (hm : B.1 16 = -1) : zMet G mX2_needRemovable [.ref (W 10 0), .ref (W 3 (d))] M (znd (¬ 0 < zcN (zpu B d) 50) none zISE M) := by
  refine zbody zyX2_needRemovable [some (.ref (W 10 0)), some (.ref (W 3 (d)))] rfl (Nat.le_of_ble_eq_true rfl) (by intro v hv; simp only [List.mem_cons, List.not_mem_nil, or_false] at hv; rcases hv with rfl | rfl <;> rfl) (fun E K => ?_)
  refine zq_aload_n K dX2_needRemovable_0 rfl rfl ?_
  refine zq_callV (As := []) K dX2_needRemovable_1 zyX0_countTaken zm_X2_225 ziX0_countTaken zvX0_countTaken zclX0 rfl (by decide) rfl rfl (Nat.le_of_ble_eq_true rfl) (Nat.le_of_ble_eq_true rfl) (hC.d hv).1 (ct_X0_countTaken hC hv) (zone_r ?_) zone_x (Nat.le_refl _)
  refine zq_if_leN K (x := zcN (zpu B d) 50) 17 dX2_needRemovable_4 (by decide) (by have := zcN_le (zpu B d) 50; omega) (fun h4 => ?_) (fun h4 => ?_)
  · refine zq_aload_n K dX2_needRemovable_17 rfl rfl ?_
    refine zq_getRn K dX2_needRemovable_18 zclX2 (k := 7) (by decide) zf_X2_197 rfl hC.x.1 (hC.m0 hm) ?_
    refine zq_ifnull_n K 48 dX2_needRemovable_21 (by decide) ?_
    exact zq_ret K dX2_needRemovable_48 rfl ⟨rfl, Or.inl ⟨by omega, rfl⟩⟩
  · exact zq_throw K (text := "the directory is not empty") zthISE (by decide +kernel) dX2_needRemovable_7 dX2_needRemovable_10 dX2_needRemovable_11 dX2_needRemovable_13 dX2_needRemovable_16 (by decide) (Nat.le_of_ble_eq_true rfl) (Nat.le_of_ble_eq_true rfl) ⟨rfl, Or.inr ⟨fun z => z (by omega), rfl⟩⟩
theorem ct_X2_needRemovable_1 {G : ZG} {M : ZM} {W : Nat → Nat → Nat} {B : ZA} (hC : zC M W B) {d : Nat} (hv : zVal B 3 d) {m : Nat} (hm : B.1 16 = nI m) (hv9 : zVal B 9 m) : zMet G mX2_needRemovable [.ref (W 10 0), .ref (W 3 (d))] M (znd (¬ (0 < zcN (zpu B d) 50 ∨ m / 8 = d)) none zISE M) := by
  refine zbody zyX2_needRemovable [some (.ref (W 10 0)), some (.ref (W 3 (d)))] rfl (Nat.le_of_ble_eq_true rfl) (by intro v hv; simp only [List.mem_cons, List.not_mem_nil, or_false] at hv; rcases hv with rfl | rfl <;> rfl) (fun E K => ?_)
  refine zq_aload_n K dX2_needRemovable_0 rfl rfl ?_
  refine zq_callV (As := []) K dX2_needRemovable_1 zyX0_countTaken zm_X2_225 ziX0_countTaken zvX0_countTaken zclX0 rfl (by decide) rfl rfl (Nat.le_of_ble_eq_true rfl) (Nat.le_of_ble_eq_true rfl) (hC.d hv).1 (ct_X0_countTaken hC hv) (zone_r ?_) zone_x (Nat.le_refl _)
  refine zq_if_leN K (x := zcN (zpu B d) 50) 17 dX2_needRemovable_4 (by decide) (by have := zcN_le (zpu B d) 50; omega) (fun h4 => ?_) (fun h4 => ?_)
  · refine zq_aload_n K dX2_needRemovable_17 rfl rfl ?_
    refine zq_getRs K dX2_needRemovable_18 zclX2 (k := 7) (by decide) zf_X2_197 rfl hC.x.1 (hC.m1 hm hv9.1) ?_
    refine zq_ifnull_r K dX2_needRemovable_21 ?_
    refine zq_aload_n K dX2_needRemovable_24 rfl rfl ?_
    refine zq_getRs K dX2_needRemovable_25 zclX2 (k := 7) (by decide) zf_X2_197 rfl hC.x.1 (hC.m1 hm hv9.1) ?_
    refine zq_getI K dX2_needRemovable_28 zclX1 (k := 0) (by decide) zf_X2_219 rfl (hC.f hv9).1 ?_
    refine zq_top (hC.f hv9).2.1 ?_
    refine zq_aload_n K dX2_needRemovable_31 rfl rfl ?_
    refine zq_getI K dX2_needRemovable_32 zclX0 (k := 0) (by decide) zf_X2_108 rfl (hC.d hv).1 ?_
    refine zq_top (hC.d hv).2.1 ?_
    refine zq_icmp_neN K (x := (m) / 8) (y := d) 48 dX2_needRemovable_35 (by decide) ⟨by have := hv9.1; omega, by have := hv.1; omega⟩ (fun h35 => ?_) (fun h35 => ?_)
    · exact zq_ret K dX2_needRemovable_48 rfl ⟨rfl, Or.inl ⟨fun z => z.elim (fun y => by omega) (fun y => by omega), rfl⟩⟩
    · exact zq_throw K (text := "a fragment of the directory moves") zthISE (by decide +kernel) dX2_needRemovable_38 dX2_needRemovable_41 dX2_needRemovable_42 dX2_needRemovable_44 dX2_needRemovable_47 (by decide) (Nat.le_of_ble_eq_true rfl) (Nat.le_of_ble_eq_true rfl) ⟨rfl, Or.inr ⟨fun z => z (Or.inr (by omega)), rfl⟩⟩
  · exact zq_throw K (text := "the directory is not empty") zthISE (by decide +kernel) dX2_needRemovable_7 dX2_needRemovable_10 dX2_needRemovable_11 dX2_needRemovable_13 dX2_needRemovable_16 (by decide) (Nat.le_of_ble_eq_true rfl) (Nat.le_of_ble_eq_true rfl) ⟨rfl, Or.inr ⟨fun z => z (Or.inl (by omega)), rfl⟩⟩
end
section
/-! the class: new fragments -/
theorem ct_X1_init {G : ZG} {M : ZM} {a : Nat} (ha : zk M a = 2) (v0 v1 v2 v3 v4 : Int32) : zMet G mX1_init [.ref (a), .int (v0), .int (v1), .int (v2), .int (v3), .int (v4)] M (zone none (zsi (zsi (zsi (zsi (zsi M a 0 v0) a 1 v1) a 2 v2) a 3 v3) a 4 v4)) := by
  refine zbody zyX1_init [some (.ref (a)), some (.int (v0)), some (.int (v1)), some (.int (v2)), some (.int (v3)), some (.int (v4))] rfl (Nat.le_of_ble_eq_true rfl) (by intro v hv; simp only [List.mem_cons, List.not_mem_nil, or_false] at hv; rcases hv with rfl | rfl | rfl | rfl | rfl | rfl <;> rfl) (fun E K => ?_)
  refine zq_aload_n K dX1_init_0 rfl rfl ?_
  refine zq_objInit K dX1_init_1 zm_X1_1 (zt 31 (by decide +kernel) rfl) (zt 32 (by decide +kernel) rfl) (Nat.le_of_ble_eq_true rfl) (by decide) ?_
  refine zq_aload_n K dX1_init_4 rfl rfl ?_
  refine zq_iload_n K dX1_init_5 rfl rfl ?_
  refine zq_putI K dX1_init_6 zclX1 (k := 0) (by decide) zf_X1_7 (Or.inr ⟨rfl, rfl⟩) rfl rfl ha ?_
  refine zq_aload_n K dX1_init_9 rfl rfl ?_
  refine zq_iload_n K dX1_init_10 rfl rfl ?_
  refine zq_putI K dX1_init_11 zclX1 (k := 1) (by decide) zf_X1_13 (Or.inr ⟨rfl, rfl⟩) rfl rfl ha ?_
  refine zq_aload_n K dX1_init_14 rfl rfl ?_
  refine zq_iload_n K dX1_init_15 rfl rfl ?_
  refine zq_putI K dX1_init_16 zclX1 (k := 2) (by decide) zf_X1_16 (Or.inl rfl) rfl rfl ha ?_
  refine zq_aload_n K dX1_init_19 rfl rfl ?_
  refine zq_iload K dX1_init_20 rfl ?_
  refine zq_putI K dX1_init_22 zclX1 (k := 3) (by decide) zf_X1_19 (Or.inl rfl) rfl rfl ha ?_
  refine zq_aload_n K dX1_init_25 rfl rfl ?_
  refine zq_iload K dX1_init_26 rfl ?_
  refine zq_putI K dX1_init_28 zclX1 (k := 4) (by decide) zf_X1_22 (Or.inl rfl) rfl rfl ha ?_
  exact zq_ret K dX1_init_31 rfl ⟨rfl, rfl⟩
/-- the fragment a, from b to b + s, stands in the first k places of the row r -/
def zPB (M M' : ZM) (r a b s k : Nat) : Prop := (∀ y, y ≠ r → zsame M M' y) ∧ zk M' r = 9 ∧ zn M' r = 8 ∧ ∀ h, zr M' r h = if h < k ∧ b ≤ h ∧ h < b + s then some a else zr M r h
end
section
/-! the class: fragments split and merge -/
def zPP (P0 : ZM → Prop) (v : Option Value) : ZO → ZM → Prop := fun o M' => o = .inl v ∧ P0 M'
section ZPP
variable {E : ZE} {G : ZG} {u : Nat} {Q : State → Prop} {b pc : Nat} {L : List (Option Value)} {S : List Value}
theorem zPP_r {P0 : ZM → Prop} {v : Option Value} {n : Nat} (k : ∀ M', P0 M' → WW E G u Q M' n (pc + 3) L (v.toList ++ S)) : ∀ (v' : Option Value) (M' : ZM), zPP P0 v (.inl v') M' → WW E G u Q M' n (pc + 3) L (v'.toList ++ S) := by
  rintro v' M' ⟨h1, h2⟩
  cases h1
  exact k M' h2
theorem zPP_x {P0 : ZM → Prop} {v : Option Value} {n : Nat} : ∀ (En : String) (M' : ZM), zPP P0 v (.inr En) M' → XX E G u Q M' n pc L En := by
  rintro En M' ⟨h1, -⟩
  cases h1
end ZPP
theorem zfg_cg {S S' : Nat → Int32} {d : Nat} : ∀ {h : Nat}, (∀ x, x ≤ h → S' (8 * d + x) = S (8 * d + x)) → zfg S' d h = zfg S d h
  | 0, _ => rfl
  | h + 1, e => by
    unfold zfg
    rw [e (h + 1) (Nat.le_refl _), zfg_cg (fun x hx => e x (by omega))]
section ZSZ
variable {M M' : ZM} {W W' : Nat → Nat → Nat} {B B' : ZA}
theorem zC.nz (hC : zC M W B) {i j : Nat} (hv : zVal B i j) : ¬ zk M (W i j) = 0 := by
  intro e
  have h := hC.1 i j hv
  have hl := hv.lt
  have hj : (i < 3 ∨ i = 10) → j = 0 := by
    intro h
    rcases h with h | rfl
    · match i, h with
      | 0, _ => exact hv.2
      | 1, _ => exact hv.2
      | 2, _ => exact hv.2
    · exact hv.2
  match i, hl with
  | 0, _ => exact absurd (h.1.symm.trans e) (by decide)
  | 1, _ => exact absurd (h.1.symm.trans e) (by decide)
  | 2, _ => exact absurd (h.1.symm.trans e) (by decide)
  | 3, _ => exact absurd (h.1.symm.trans e) (by decide)
  | 4, _ => exact absurd (h.1.symm.trans e) (by decide)
  | 5, _ => exact absurd (h.1.symm.trans e) (by decide)
  | 6, _ => exact absurd (h.1.symm.trans e) (by decide)
  | 7, _ => exact absurd (h.1.symm.trans e) (by decide)
  | 8, _ => exact absurd (h.1.symm.trans e) (by decide)
  | 9, _ => exact absurd (h.1.symm.trans e) (by decide)
  | 10, _ => exact absurd (h.1.symm.trans e) (by decide)
/-- cells that don't hang on fragments -/
theorem zOb.cg (eW : ∀ i j, i ≠ 9 → W' i j = W i j) (hk : ∀ k, k ≠ 10 → k ≠ 11 → k ≠ 12 → B'.2 k = B.2 k) : ∀ {i j : Nat}, i < 8 → zVal B i j → zOb M W B i j → zOb M W' B' i j
  | 0, j, _, _, h => ⟨by rw [eW 0 j (by decide)]; exact h.1, by rw [eW 0 j (by decide)]; exact h.2.1, fun d hd => by rw [eW 0 j (by decide), eW 3 d (by decide), hk 3 (by decide) (by decide) (by decide)]; exact h.2.2 d hd⟩
  | 1, j, _, _, h => ⟨by rw [eW 1 j (by decide)]; exact h.1, by rw [eW 1 j (by decide)]; exact h.2.1, fun d hd => by rw [eW 1 j (by decide), hk 14 (by decide) (by decide) (by decide)]; exact h.2.2 d hd⟩
  | 2, j, _, _, h => ⟨by rw [eW 2 j (by decide)]; exact h.1, by rw [eW 2 j (by decide)]; exact h.2.1, fun d hd => by rw [eW 2 j (by decide), hk 15 (by decide) (by decide) (by decide)]; exact h.2.2 d hd⟩
  | 3, j, _, _, h => by
    have e4 : zpar B' j = zpar B j := by unfold zpar; rw [hk 4 (by decide) (by decide) (by decide)]
    show zk M (W' 3 j) = 1 ∧ zi M (W' 3 j) 0 = nI j ∧ (zr M (W' 3 j) 1 = if j = 0 then none else some (W' 3 (zpar B' j))) ∧ zi M (W' 3 j) 2 = B'.2 5 j ∧ zr M (W' 3 j) 3 = some (W' 4 j) ∧ zr M (W' 3 j) 4 = some (W' 5 j) ∧ zr M (W' 3 j) 5 = some (W' 6 j) ∧ zr M (W' 3 j) 6 = some (W' 8 j)
    rw [e4, hk 5 (by decide) (by decide) (by decide), eW 3 j (by decide), eW 3 (zpar B j) (by decide), eW 4 j (by decide), eW 5 j (by decide), eW 6 j (by decide), eW 8 j (by decide)]
    exact h
  | 4, j, _, _, h => ⟨by rw [eW 4 j (by decide)]; exact h.1, by rw [eW 4 j (by decide)]; exact h.2.1, fun d hd => by rw [eW 4 j (by decide), hk 6 (by decide) (by decide) (by decide)]; exact h.2.2 d hd⟩
  | 5, j, _, _, h => ⟨by rw [eW 5 j (by decide)]; exact h.1, by rw [eW 5 j (by decide)]; exact h.2.1, fun d hd => by rw [eW 5 j (by decide), hk 7 (by decide) (by decide) (by decide)]; exact h.2.2 d hd⟩
  | 6, j, _, _, h => ⟨by rw [eW 6 j (by decide)]; exact h.1, by rw [eW 6 j (by decide)]; exact h.2.1, fun d hd => by rw [eW 6 j (by decide), eW 7 (4 * j + d) (by decide)]; exact h.2.2 d hd⟩
  | 7, j, _, _, h => ⟨by rw [eW 7 j (by decide)]; exact h.1, by rw [eW 7 j (by decide)]; exact h.2.1, fun d hd => by rw [eW 7 j (by decide), hk 13 (by decide) (by decide) (by decide)]; exact h.2.2 d hd⟩
  | i + 8, _, h, _, _ => absurd h (by omega)
/-- the object itself, where the move stays -/
theorem zOb.cx (eW : ∀ i j, i ≠ 9 → W' i j = W i j) (e1 : B'.1 = B.1) (em : ∀ m, B.1 16 = nI m → m < 96 → W' 9 m = W 9 m) (hM : B.1 16 = -1 ∨ ∃ m, B.1 16 = nI m ∧ m < 96) {j : Nat} (hj : j = 0) (h : zOb M W B 10 j) : zOb M W' B' 10 j := by
  subst hj
  obtain ⟨h1, ⟨h2, h3, h4⟩, h5, h6⟩ := h
  show zk M (W' 10 0) = 3 ∧ (zr M (W' 10 0) 0 = some (W' 0 0) ∧ zr M (W' 10 0) 5 = some (W' 1 0) ∧ zr M (W' 10 0) 6 = some (W' 2 0)) ∧ (zi M (W' 10 0) 1 = B'.1 2 ∧ zi M (W' 10 0) 2 = B'.1 9 ∧ zi M (W' 10 0) 3 = B'.1 8 ∧ zi M (W' 10 0) 4 = B'.1 1 ∧ zi M (W' 10 0) 8 = B'.1 17 ∧ zi M (W' 10 0) 9 = B'.1 18) ∧ (zr M (W' 10 0) 7 = if B'.1 16 = -1 then none else some (W' 9 (B'.1 16).toNatClampNeg))
  rw [e1, eW 10 0 (by decide), eW 0 0 (by decide), eW 1 0 (by decide), eW 2 0 (by decide)]
  refine ⟨h1, ⟨h2, h3, h4⟩, h5, ?_⟩
  rcases hM with e | ⟨m, e, hm⟩
  · rw [if_pos e]
    rw [if_pos e] at h6
    exact h6
  · rw [e, nI_clamp (by omega), em m e hm]
    rw [e, nI_clamp (by omega)] at h6
    exact h6
end ZSZ
theorem zMw.b {B : ZA} (h : zMw B) : B.1 16 = -1 ∨ ∃ m, B.1 16 = nI m ∧ m < 96 := h.imp id (fun ⟨m, h1, h2⟩ => ⟨m, h1, h2.1⟩)
theorem zC.join {M M' : ZM} {W : Nat → Nat → Nat} {B : ZA} (hC : zC M W B) (hM : zMw B) {d g s : Nat} (hv : zVal B 3 d) (hs1 : 1 ≤ s) (hg : g + (s + s) ≤ 8) (e1 : B.2 10 (8 * d + g) = nI s) (e2 : B.2 10 (8 * d + g + s) = nI s) (hT : ∀ h, h < 8 → zfg ((zMg B (8 * d + g) s).2 10) d h = if g ≤ h ∧ h < g + (s + s) then g else zfg (B.2 10) d h) (hPB : zPB (zsi (zsi M (W 9 (8 * d + g)) 2 (nI (s + s))) (W 9 (8 * d + g)) 4 (B.2 12 (8 * d + g) + B.2 12 (8 * d + g + s))) M' (W 8 d) (W 9 (8 * d + g)) g (s + s) 8) : zC M' W (zMg B (8 * d + g) s) ∧ zFm M W B M' := by
  have hd := hv.1
  have hv1 : zVal B 9 (8 * d + g) := ⟨by omega, by rw [show (8 * d + g) / 8 = d by omega]; exact hv.2, by rw [e1]; exact nI_ne0 (by omega) (by omega)⟩
  have hsm : ∀ y, y ≠ W 8 d → y ≠ W 9 (8 * d + g) → zsame M M' y := fun y h1 h2 => ((zsame.i h2).tr (zsame.i h2)).tr (hPB.1 y h1)
  have h10 : ∀ j, (zMg B (8 * d + g) s).2 10 j = if j = 8 * d + g + s then nI 0 else if j = 8 * d + g then nI (2 * s) else B.2 10 j := fun j => by
    unfold zMg
    rw [zsa_n _ _ _ _ _ (by decide), zsa_2, zsa_2]
    by_cases h1 : j = 8 * d + g + s
    · rw [if_pos ⟨rfl, h1⟩, if_pos h1]
    · rw [if_neg (fun z => h1 z.2), if_neg h1]
      by_cases h2 : j = 8 * d + g
      · rw [if_pos ⟨rfl, h2⟩, if_pos h2]
      · rw [if_neg (fun z => h2 z.2), if_neg h2]
  have hk : ∀ k, k ≠ 10 → k ≠ 11 → k ≠ 12 → (zMg B (8 * d + g) s).2 k = B.2 k := fun k h1 _ h3 => by
    unfold zMg
    rw [zsa_n _ _ _ _ _ h3, zsa_n _ _ _ _ _ h1, zsa_n _ _ _ _ _ h1]
  have hval : ∀ i j, zVal (zMg B (8 * d + g) s) i j → zVal B i j := by
    intro i j h
    have h3 : (zMg B (8 * d + g) s).2 3 = B.2 3 := hk 3 (by decide) (by decide) (by decide)
    unfold zVal at h ⊢
    rw [h3] at h
    split at h
    all_goals first
      | exact h
      | (refine ⟨h.1, h.2.1, ?_⟩
         have h4 := h.2.2
         rw [h10] at h4
         split at h4
         · exact absurd rfl h4
         · split at h4
           · rename_i h5
             rw [h5, e1]
             exact nI_ne0 (by omega) (by omega)
           · exact h4)
  refine ⟨⟨fun i j h => ?_, fun i j i' j' h1 h2 => hC.2 i j i' j' (hval i j h1) (hval i' j' h2)⟩, fun a _ h2 => hsm a (h2 8 d hv) (h2 9 _ hv1)⟩
  have hv' := hval i j h
  have hO := hC.1 i j hv'
  have hne8 : ¬ (i = 8 ∧ j = d) → W i j ≠ W 8 d := fun hn e => hn (hC.2 i j 8 d hv' hv e)
  have hne9 : ¬ (i = 9 ∧ j = 8 * d + g) → W i j ≠ W 9 (8 * d + g) := fun hn e => hn (hC.2 i j 9 _ hv' hv1 e)
  by_cases hi : i < 8
  · exact zOb.cg (fun _ _ _ => rfl) hk hi hv' (zOb.same hv' (hsm _ (hne8 (fun z => by omega)) (hne9 (fun z => by omega))) hO)
  have hl := hv'.lt
  match i, hi, hl with
  | 8, _, _ =>
    by_cases hj : j = d
    · subst hj
      refine ⟨hPB.2.1, hPB.2.2.1, fun h hh => ?_⟩
      rw [hPB.2.2.2, hT h hh]
      by_cases hc : g ≤ h ∧ h < g + (s + s)
      · rw [if_pos ⟨hh, hc⟩, if_pos hc]
      · rw [if_neg (fun z => hc z.2), if_neg hc]
        exact hO.2.2 h hh
    · obtain ⟨g1, g2, g3⟩ := zOb.same hv' (hsm _ (hne8 (fun z => hj z.2)) (hne9 (fun z => absurd z.1 (by decide)))) hO
      refine ⟨g1, g2, fun h hh => ?_⟩
      rw [zfg_cg (S := B.2 10) (fun x hx => by rw [h10, if_neg (by omega), if_neg (by omega)])]
      exact g3 h hh
  | 9, _, _ =>
    by_cases hj : j = 8 * d + g
    · subst hj
      have h8 : W 9 (8 * d + g) ≠ W 8 d := fun e => absurd (hC.2 9 _ 8 d hv' hv e).1 (by decide)
      obtain ⟨s1, s2, s3, s4, s5⟩ := hPB.1 _ h8
      obtain ⟨o1, o2, o3, o4, o5, o6⟩ := hO
      refine ⟨s1.trans o1, (s3 0).trans ?_, (s3 1).trans ?_, (s3 2).trans ?_, (s3 3).trans ?_, (s3 4).trans ?_⟩
      · rw [zi_i, if_neg (fun z => absurd z.2 (by decide)), zi_i, if_neg (fun z => absurd z.2 (by decide))]
        exact o2
      · rw [zi_i, if_neg (fun z => absurd z.2 (by decide)), zi_i, if_neg (fun z => absurd z.2 (by decide))]
        exact o3
      · rw [zi_i, if_neg (fun z => absurd z.2 (by decide)), zi_i, if_pos ⟨rfl, rfl⟩, h10, if_neg (by omega), if_pos rfl, Nat.two_mul]
      · rw [zi_i, if_neg (fun z => absurd z.2 (by decide)), zi_i, if_neg (fun z => absurd z.2 (by decide)), o5]
        rfl
      · rw [zi_i, if_pos ⟨rfl, rfl⟩]
        unfold zMg
        rw [zsa_2, if_pos ⟨rfl, rfl⟩]
    · obtain ⟨o1, o2, o3, o4, o5, o6⟩ := zOb.same hv' (hsm _ (hne8 (fun z => absurd z.1 (by decide))) (hne9 (fun z => hj z.2))) hO
      have h99 := h.2.2
      rw [h10] at h99
      refine ⟨o1, o2, o3, ?_, o5, ?_⟩
      · rw [o4, h10]
        split at h99
        · exact absurd rfl h99
        · rename_i h5
          rw [if_neg h5, if_neg hj]
      · rw [o6]
        unfold zMg
        rw [zsa_2, if_neg (fun z => hj z.2)]
        rfl
  | 10, _, _ =>
    exact zOb.cx (fun _ _ _ => rfl) rfl (fun _ _ _ => rfl) hM.b hv'.2 (zOb.same hv' (hsm _ (hne8 (fun z => absurd z.1 (by decide))) (hne9 (fun z => absurd z.1 (by decide)))) hO)
  | i + 11, _, hl => exact absurd hl (by omega)
end
section
def zW1 (W : Nat → Nat → Nat) (i0 j0 a : Nat) : Nat → Nat → Nat := fun i j => if i = i0 ∧ j = j0 then a else W i j
theorem zfg_ne0 (s : Nat → Int32) (d : Nat) : ∀ h, ¬ zfg s d h = 0 → ¬ s (8 * d + zfg s d h) = 0
  | 0, h => absurd rfl h
  | h + 1, h0 => by
    unfold zfg at h0 ⊢
    split
    · rename_i h1
      rw [if_pos h1] at h0
      exact zfg_ne0 s d h h0
    · assumption
theorem zC.halve {M M4 M' : ZM} {W : Nat → Nat → Nat} {B : ZA} (hC : zC M W B) (hM : zMw B) {d g t a : Nat} (hv : zVal B 3 d) (ht : 1 ≤ t) (hg : g + t + t ≤ 8) (e1 : B.2 10 (8 * d + g) = nI (2 * t)) (e2 : B.2 10 (8 * d + g + t) = 0) (hT : ∀ h, h < 8 → zfg ((zSp B (8 * d + g) (2 * t)).2 10) d h = if g + t ≤ h ∧ h < g + t + t then g + t else zfg (B.2 10) d h) (ha : zk M a = 0) (hsm : ∀ y, y ≠ a → y ≠ W 9 (8 * d + g) → zsame M M4 y)
    (fa : zk M4 a = 2 ∧ zi M4 a 0 = nI d ∧ zi M4 a 1 = nI (g + t) ∧ zi M4 a 2 = nI t ∧ zi M4 a 3 = B.2 11 (8 * d + g) ∧ zi M4 a 4 = B.2 12 (8 * d + g) / nI 2) (ff : zk M4 (W 9 (8 * d + g)) = 2 ∧ zi M4 (W 9 (8 * d + g)) 0 = zi M (W 9 (8 * d + g)) 0 ∧ zi M4 (W 9 (8 * d + g)) 1 = zi M (W 9 (8 * d + g)) 1 ∧ zi M4 (W 9 (8 * d + g)) 2 = nI t ∧ zi M4 (W 9 (8 * d + g)) 3 = zi M (W 9 (8 * d + g)) 3 ∧ zi M4 (W 9 (8 * d + g)) 4 = B.2 12 (8 * d + g) - B.2 12 (8 * d + g) / nI 2)
    (hPB : zPB M4 M' (W 8 d) a (g + t) t 8) : zC M' (zW1 W 9 (8 * d + g + t) a) (zSp B (8 * d + g) (2 * t)) ∧ zFm M W B M' := by
  have hd := hv.1
  have h2t : 2 * t / 2 = t := by omega
  have hv1 : zVal B 9 (8 * d + g) := ⟨by omega, by rw [show (8 * d + g) / 8 = d by omega]; exact hv.2, by rw [e1]; exact nI_ne0 (by omega) (by omega)⟩
  have h8a : W 8 d ≠ a := fun e => hC.nz (i := 8) (j := d) hv (e ▸ ha)
  have h9a : W 9 (8 * d + g) ≠ a := fun e => hC.nz hv1 (e ▸ ha)
  have hva : ∀ i j, zVal B i j → W i j ≠ a := fun i j h e => hC.nz h (e ▸ ha)
  have hsm' : ∀ y, y ≠ W 8 d → y ≠ a → y ≠ W 9 (8 * d + g) → zsame M M' y := fun y h0 h1 h2 => (hsm y h1 h2).tr (hPB.1 y h0)
  have h10 : ∀ j, (zSp B (8 * d + g) (2 * t)).2 10 j = if j = 8 * d + g + t then nI t else if j = 8 * d + g then nI t else B.2 10 j := fun j => by
    unfold zSp
    rw [h2t, zsa_n _ _ _ _ _ (by decide), zsa_n _ _ _ _ _ (by decide), zsa_n _ _ _ _ _ (by decide), zsa_2, zsa_2]
    by_cases h1 : j = 8 * d + g + t
    · rw [if_pos ⟨rfl, h1⟩, if_pos h1]
    · rw [if_neg (fun z => h1 z.2), if_neg h1]
      by_cases h2 : j = 8 * d + g
      · rw [if_pos ⟨rfl, h2⟩, if_pos h2]
      · rw [if_neg (fun z => h2 z.2), if_neg h2]
  have h11 : ∀ j, (zSp B (8 * d + g) (2 * t)).2 11 j = if j = 8 * d + g + t then B.2 11 (8 * d + g) else B.2 11 j := fun j => by
    unfold zSp
    rw [h2t, zsa_n _ _ _ _ _ (by decide), zsa_n _ _ _ _ _ (by decide), zsa_2]
    by_cases h1 : j = 8 * d + g + t
    · rw [if_pos ⟨rfl, h1⟩, if_pos h1]
    · rw [if_neg (fun z => h1 z.2), if_neg h1]
      rfl
  have h12 : ∀ j, (zSp B (8 * d + g) (2 * t)).2 12 j = if j = 8 * d + g then B.2 12 (8 * d + g) - B.2 12 (8 * d + g) / nI 2 else if j = 8 * d + g + t then B.2 12 (8 * d + g) / nI 2 else B.2 12 j := fun j => by
    unfold zSp
    rw [h2t, zsa_2, zsa_2]
    by_cases h1 : j = 8 * d + g
    · rw [if_pos ⟨rfl, h1⟩, if_pos h1]
    · rw [if_neg (fun z => h1 z.2), if_neg h1]
      by_cases h2 : j = 8 * d + g + t
      · rw [if_pos ⟨rfl, h2⟩, if_pos h2]
      · rw [if_neg (fun z => h2 z.2), if_neg h2]
        rfl
  have hk : ∀ k, k ≠ 10 → k ≠ 11 → k ≠ 12 → (zSp B (8 * d + g) (2 * t)).2 k = B.2 k := fun k h1 h2 h3 => by
    unfold zSp
    rw [zsa_n _ _ _ _ _ h3, zsa_n _ _ _ _ _ h3, zsa_n _ _ _ _ _ h2, zsa_n _ _ _ _ _ h1, zsa_n _ _ _ _ _ h1]
  have hval : ∀ i j, ¬ (i = 9 ∧ j = 8 * d + g + t) → zVal (zSp B (8 * d + g) (2 * t)) i j → zVal B i j := by
    intro i j hn h
    have h3 : (zSp B (8 * d + g) (2 * t)).2 3 = B.2 3 := hk 3 (by decide) (by decide) (by decide)
    unfold zVal at h ⊢
    rw [h3] at h
    split at h
    all_goals first
      | exact h
      | (refine ⟨h.1, h.2.1, ?_⟩
         have h4 := h.2.2
         rw [h10, if_neg (fun z => hn ⟨rfl, z⟩)] at h4
         split at h4
         · rename_i h5
           rw [h5, e1]
           exact nI_ne0 (by omega) (by omega)
         · exact h4)
  have eW : ∀ i j, i ≠ 9 → zW1 W 9 (8 * d + g + t) a i j = W i j := fun i j h => if_neg (fun z => h z.1)
  have eW9 : ∀ j, j ≠ 8 * d + g + t → zW1 W 9 (8 * d + g + t) a 9 j = W 9 j := fun j h => if_neg (fun z => h z.2)
  have eWn : ∀ i j, ¬ (i = 9 ∧ j = 8 * d + g + t) → zW1 W 9 (8 * d + g + t) a i j = W i j := fun i j h => if_neg h
  have eWa : zW1 W 9 (8 * d + g + t) a 9 (8 * d + g + t) = a := if_pos ⟨rfl, rfl⟩
  refine ⟨⟨fun i j h => ?_, fun i j i' j' h1 h2 e => ?_⟩, fun y hy h2 => hsm' y (h2 8 d hv) (fun e => hy (e ▸ ha)) (h2 9 _ hv1)⟩
  · by_cases hn : i = 9 ∧ j = 8 * d + g + t
    · obtain ⟨rfl, rfl⟩ := hn
      obtain ⟨s1, s2, s3, s4, s5⟩ := hPB.1 a h8a.symm
      obtain ⟨o1, o2, o3, o4, o5, o6⟩ := fa
      show zk M' (zW1 W 9 (8 * d + g + t) a 9 (8 * d + g + t)) = 2 ∧ zi M' (zW1 W 9 (8 * d + g + t) a 9 (8 * d + g + t)) 0 = nI ((8 * d + g + t) / 8) ∧ zi M' (zW1 W 9 (8 * d + g + t) a 9 (8 * d + g + t)) 1 = nI ((8 * d + g + t) % 8) ∧ zi M' (zW1 W 9 (8 * d + g + t) a 9 (8 * d + g + t)) 2 = (zSp B (8 * d + g) (2 * t)).2 10 (8 * d + g + t) ∧ zi M' (zW1 W 9 (8 * d + g + t) a 9 (8 * d + g + t)) 3 = (zSp B (8 * d + g) (2 * t)).2 11 (8 * d + g + t) ∧ zi M' (zW1 W 9 (8 * d + g + t) a 9 (8 * d + g + t)) 4 = (zSp B (8 * d + g) (2 * t)).2 12 (8 * d + g + t)
      rw [eWa, h10, if_pos rfl, h11, if_pos rfl, h12, if_neg (by omega), if_pos rfl, show (8 * d + g + t) / 8 = d by omega, show (8 * d + g + t) % 8 = g + t by omega]
      exact ⟨s1.trans o1, (s3 0).trans o2, (s3 1).trans o3, (s3 2).trans o4, (s3 3).trans o5, (s3 4).trans o6⟩
    have hv' := hval i j hn h
    have hO := hC.1 i j hv'
    have hne8 : ¬ (i = 8 ∧ j = d) → W i j ≠ W 8 d := fun hn e => hn (hC.2 i j 8 d hv' hv e)
    have hne9 : ¬ (i = 9 ∧ j = 8 * d + g) → W i j ≠ W 9 (8 * d + g) := fun hn e => hn (hC.2 i j 9 _ hv' hv1 e)
    have hna := hva i j hv'
    by_cases hi : i < 8
    · exact zOb.cg eW hk hi hv' (zOb.same hv' (hsm' _ (hne8 (fun z => by omega)) hna (hne9 (fun z => by omega))) hO)
    have hl := hv'.lt
    match i, hi, hl with
    | 8, _, _ =>
      by_cases hj : j = d
      · subst hj
        refine ⟨hPB.2.1, hPB.2.2.1, fun h hh => ?_⟩
        rw [eW 8 j (by decide), hPB.2.2.2, hT h hh]
        by_cases hc : g + t ≤ h ∧ h < g + t + t
        · rw [if_pos ⟨hh, hc⟩, if_pos hc, show 8 * j + (g + t) = 8 * j + g + t by omega, eWa]
        · rw [if_neg (fun z => hc z.2), if_neg hc, ((hsm (W 8 j) hna (hne9 (fun z => absurd z.1 (by decide)))).2.2.2.1 h), hO.2.2 h hh, eW9]
          intro e
          have e9 : zfg (B.2 10) j h = g + t := by omega
          have hz := zfg_ne0 (B.2 10) j h (fun z => by rw [z] at e9; omega)
          rw [e9, show 8 * j + (g + t) = 8 * j + g + t by omega] at hz
          exact hz e2
      · obtain ⟨g1, g2, g3⟩ := zOb.same hv' (hsm' _ (hne8 (fun z => hj z.2)) hna (hne9 (fun z => absurd z.1 (by decide)))) hO
        refine ⟨by rw [eW 8 j (by decide)]; exact g1, by rw [eW 8 j (by decide)]; exact g2, fun h hh => ?_⟩
        have h7 := zfg_le (B.2 10) j h
        rw [eW 8 j (by decide), zfg_cg (S := B.2 10) (fun x hx => by rw [h10, if_neg (by omega), if_neg (by omega)]), eW9 _ (by omega)]
        exact g3 h hh
    | 9, _, _ =>
      have hjn : j ≠ 8 * d + g + t := fun z => hn ⟨rfl, z⟩
      show zk M' (zW1 W 9 (8 * d + g + t) a 9 j) = 2 ∧ zi M' (zW1 W 9 (8 * d + g + t) a 9 j) 0 = nI (j / 8) ∧ zi M' (zW1 W 9 (8 * d + g + t) a 9 j) 1 = nI (j % 8) ∧ zi M' (zW1 W 9 (8 * d + g + t) a 9 j) 2 = (zSp B (8 * d + g) (2 * t)).2 10 j ∧ zi M' (zW1 W 9 (8 * d + g + t) a 9 j) 3 = (zSp B (8 * d + g) (2 * t)).2 11 j ∧ zi M' (zW1 W 9 (8 * d + g + t) a 9 j) 4 = (zSp B (8 * d + g) (2 * t)).2 12 j
      rw [eW9 j hjn, h10, if_neg hjn, h11, if_neg hjn, h12]
      by_cases hj : j = 8 * d + g
      · subst hj
        have h8 : W 9 (8 * d + g) ≠ W 8 d := fun e => absurd (hC.2 9 _ 8 d hv' hv e).1 (by decide)
        obtain ⟨s1, s2, s3, s4, s5⟩ := hPB.1 _ h8
        obtain ⟨o1, o2, o3, o4, o5, o6⟩ := hO
        obtain ⟨f1, f2, f3, f4, f5, f6⟩ := ff
        rw [if_pos rfl, if_pos rfl]
        exact ⟨s1.trans f1, (s3 0).trans (f2.trans o2), (s3 1).trans (f3.trans o3), (s3 2).trans f4, (s3 3).trans (f5.trans o5), (s3 4).trans f6⟩
      · rw [if_neg hj, if_neg hj, if_neg hjn]
        exact zOb.same hv' (hsm' _ (hne8 (fun z => absurd z.1 (by decide))) hna (hne9 (fun z => hj z.2))) hO
    | 10, _, _ =>
      refine zOb.cx eW rfl (fun m hm hm9 => eW9 m (fun e => ?_)) hM.b hv'.2 (zOb.same hv' (hsm' _ (hne8 (fun z => absurd z.1 (by decide))) hna (hne9 (fun z => absurd z.1 (by decide)))) hO)
      rcases hM with h0 | ⟨m', h1, h2⟩
      · rw [h0] at hm
        exact nI_ne1 (by omega) hm.symm
      · rw [h1] at hm
        have := (nI_eq (by have := h2.1; omega) (by omega)).mp hm
        subst this
        subst e
        exact h2.2.2 e2
    | i + 11, _, hl => exact absurd hl (by omega)
  · by_cases hn1 : i = 9 ∧ j = 8 * d + g + t
    · by_cases hn2 : i' = 9 ∧ j' = 8 * d + g + t
      · exact ⟨hn1.1.trans hn2.1.symm, hn1.2.trans hn2.2.symm⟩
      · rw [eWn i' j' hn2, hn1.1, hn1.2, eWa] at e
        exact absurd e.symm (hva _ _ (hval i' j' hn2 h2))
    · by_cases hn2 : i' = 9 ∧ j' = 8 * d + g + t
      · rw [eWn i j hn1, hn2.1, hn2.2, eWa] at e
        exact absurd e (hva _ _ (hval i j hn1 h1))
      · rw [eWn i j hn1, eWn i' j' hn2] at e
        exact hC.2 i j i' j' (hval i j hn1 h1) (hval i' j' hn2 h2) e
end
section
/-! the class: new directories -/
section ZANW
variable {t : ZY} {tb : List ExceptionTableEntry} {E : ZE} {G : ZG} {u : Nat} {Q : State → Prop} {M : ZM} {b pc : Nat} {L : List (Option Value)} {S : List Value}
theorem zq_anewF (K : zOK t tb G E) {idx : Nat} (hd : decode (zyc t) pc = .ok (.anewarray idx, 3)) (hl : Cond.classLink (zyn t).cls idx RX1 ∈ zTs) (hb : 1 ≤ b) (hu : u ≤ zyu t) (kk : ∀ a, zk M a = 0 → WW E G u Q (zw M a 9 8) (b - 1) (pc + 3) L (.ref a :: S)) : WW E G u Q M b pc L (.int (nI 8) :: S) :=
  zq_anew K 4 8 hd rfl (by decide) (fun s h => h.2.2.2.2.2.2.2.1) hl rfl (by decide) hb hu kk
theorem zq_anewD (K : zOK t tb G E) {idx : Nat} (hd : decode (zyc t) pc = .ok (.anewarray idx, 3)) (hl : Cond.classLink (zyn t).cls idx RX0 ∈ zTs) (hb : 1 ≤ b) (hu : u ≤ zyu t) (kk : ∀ a, zk M a = 0 → WW E G u Q (zw M a 8 12) (b - 1) (pc + 3) L (.ref a :: S)) : WW E G u Q M b pc L (.int (nI 12) :: S) :=
  zq_anew K 3 12 hd rfl (by decide) (fun s h => h.2.2.2.2.2.2.1) hl rfl (by decide) hb hu kk
theorem zq_mna50 (K : zOK t tb G E) {idx : Nat} (hd : decode (zyc t) pc = .ok (.multianewarray idx 2, 4)) (hl : Cond.classLink (zyn t).cls idx "[[I" ∈ zTs) (hb : 5 ≤ b) (hu : u ≤ zyu t)
    (kk : ∀ (q : Nat) (r : Nat → Nat), zk M q = 0 → (∀ i, i < 4 → zk M (r i) = 0 ∧ r i ≠ q) → (∀ i j, i < 4 → j < 4 → r i = r j → i = j) → WW E G u Q (zmn M q r 50) (b - 5) (pc + 4) L (.ref q :: S)) : WW E G u Q M b pc L (.int (nI 50) :: .int (nI 4) :: S) :=
  zq_mna K 50 hd hl (zt 68 (by decide +kernel) rfl) rfl rfl (by decide) hb hu kk
end ZANW
/-- what a new directory x consists of: at the new addresses nu 0 .. nu 8 -/
def zDi (M0 M : ZM) (x : Nat) (nu : Nat → Nat) (D : Nat) (pr : Option Nat) (n o : Int32) : Prop :=
  ((∀ i, i < 9 → zk M0 (nu i) = 0 ∧ nu i ≠ x) ∧ (∀ i j, i < 9 → j < 9 → nu i = nu j → i = j) ∧ ∀ y, ¬ zk M0 y = 0 → y ≠ x → zsame M0 M y)
  ∧ (zk M x = 1 ∧ zi M x 0 = nI D ∧ zr M x 1 = pr ∧ zi M x 2 = n ∧ zr M x 3 = some (nu 0) ∧ zr M x 4 = some (nu 1) ∧ zr M x 5 = some (nu 2) ∧ zr M x 6 = some (nu 3))
  ∧ (zk M (nu 0) = 5 ∧ zn M (nu 0) = 50 ∧ ∀ k, k < 50 → zi M (nu 0) k = -1) ∧ (zk M (nu 1) = 5 ∧ zn M (nu 1) = 50 ∧ ∀ k, k < 50 → zi M (nu 1) k = 0)
  ∧ (zk M (nu 2) = 10 ∧ zn M (nu 2) = 4 ∧ ∀ c, c < 4 → zr M (nu 2) c = some (nu (5 + c))) ∧ (∀ c, c < 4 → zk M (nu (5 + c)) = 5 ∧ zn M (nu (5 + c)) = 50 ∧ ∀ k, k < 50 → zi M (nu (5 + c)) k = 0)
  ∧ (zk M (nu 3) = 9 ∧ zn M (nu 3) = 8 ∧ ∀ h, h < 8 → zr M (nu 3) h = some (nu 4)) ∧ (zk M (nu 4) = 2 ∧ zi M (nu 4) 0 = nI D ∧ zi M (nu 4) 1 = nI 0 ∧ zi M (nu 4) 2 = nI 8 ∧ zi M (nu 4) 3 = o ∧ zi M (nu 4) 4 = nI 0)
/-- the row a is filled: its first k places -/
def zFi (M M' : ZM) (a k : Nat) (v : Int32) : Prop := (∀ y, y ≠ a → zsame M M' y) ∧ zk M' a = zk M a ∧ zn M' a = zn M a ∧ ∀ j, zi M' a j = if j < k then v else zi M a j
def zFj (M M' : ZM) (a k f : Nat) : Prop := (∀ y, y ≠ a → zsame M M' y) ∧ zk M' a = zk M a ∧ zn M' a = zn M a ∧ ∀ j, zr M' a j = if j < k then some f else zr M a j
theorem zsame.mn {M : ZM} {q : Nat} {r : Nat → Nat} {k y : Nat} (hq : y ≠ q) (hr : ∀ i, i < 4 → y ≠ r i) : zsame M (zmn M q r k) y := by
  have r0 := hr 0 (by omega)
  have r1 := hr 1 (by omega)
  have r2 := hr 2 (by omega)
  have r3 := hr 3 (by omega)
  exact ⟨by rw [zmn_k]; simp only [r0, r1, r2, r3, hq, if_false], by rw [zmn_n]; simp only [r0, r1, r2, r3, hq, if_false], fun j => by rw [zmn_i]; simp only [r0, r1, r2, r3, hq, if_false], fun j => by rw [zmn_r]; simp only [r0, r1, r2, r3, hq, false_and, if_false], fun j => by rw [zmn_j]; simp only [r0, r1, r2, r3, hq, if_false]⟩
theorem lp_X0_f1 {G : ZG} {E : ZE} (K : zOK mX0_init [] G E) {M0 : ZM} {x a u b : Nat} {v1 v2 v3 v4 : Value} (hx : zk M0 x = 1) (hxa : zr M0 x 3 = some a) (ha : zk M0 a = 5) (hn : zn M0 a = 50) {Q : State → Prop} (kk : ∀ M, zFi M0 M a 50 (-1) → WW E G u Q M b 79 [some (.ref x), some v1, some v2, some v3, some v4, some (.int (nI (50))), none] []) : ∀ (m k : Nat), k + m = 50 → ∀ M, zFi M0 M a k (-1) → WW E G u Q M b 58 [some (.ref x), some v1, some v2, some v3, some v4, some (.int (nI (k))), none] [] := by
  intro m
  induction m with
  | zero =>
    intro k hk M hM
    have hk4 : k = 50 := by omega
    subst hk4
    refine zq_iload K dX0_init_58 rfl ?_
    refine zq_bipush K dX0_init_60 (v := nI 50) (by decide) ?_
    refine zq_icmp_geN K (x := 50) (y := 50) 79 dX0_init_62 (by decide) ⟨by omega, by omega⟩ (fun h62 => ?_) (fun h62 => by omega)
    exact kk M hM
  | succ m ih =>
    intro k hk M hM
    have hxa' : x ≠ a := fun e => by rw [e, ha] at hx; exact absurd hx (by decide)
    obtain ⟨g1, g2, g3, g4⟩ := hM
    have hx' : zk M x = 1 := (g1 x hxa').1.trans hx
    have hr' : zr M x 3 = some a := ((g1 x hxa').2.2.2.1 _).trans hxa
    refine zq_iload K dX0_init_58 rfl ?_
    refine zq_bipush K dX0_init_60 (v := nI 50) (by decide) ?_
    refine zq_icmp_geN K (x := k) (y := 50) 79 dX0_init_62 (by decide) ⟨by omega, by omega⟩ (fun h62 => by omega) (fun h62 => ?_)
    refine zq_aload_n K dX0_init_65 rfl rfl ?_
    refine zq_getRs K dX0_init_66 zclX0 (k := 3) (by decide) zf_X0_9 rfl hx' hr' ?_
    refine zq_iload K dX0_init_69 rfl ?_
    refine zq_iconst K dX0_init_71 (v := -1) (by decide) ?_
    refine zq_iast K (k) dX0_init_72 (g2.trans ha) rfl (by rw [g3, hn]; omega) (by rw [g3, hn]; decide) ?_
    refine zq_iincN K dX0_init_73 rfl (by decide) ?_
    refine zq_goto K 58 dX0_init_76 (by decide) ?_
    refine ih (k + 1) (by omega) _ ⟨fun y hy => (g1 y hy).tr (zsame.i hy), g2, g3, fun j => ?_⟩
    rw [zi_i]
    by_cases e : j = k
    · rw [if_pos ⟨rfl, e⟩, if_pos (by omega)]
    · rw [if_neg (fun z => e z.2), g4]
      exact ite_congr (propext (by omega)) (fun _ => rfl) (fun _ => rfl)
theorem lp_X0_f2 {G : ZG} {E : ZE} (K : zOK mX0_init [] G E) {M0 : ZM} {x a u b : Nat} {v1 v2 v3 v4 : Value} {f : Nat} (hx : zk M0 x = 1) (hxa : zr M0 x 6 = some a) (ha : zk M0 a = 9) (hn : zn M0 a = 8) (hf : zk M0 f = 2) {Q : State → Prop} (kk : ∀ M, zFj M0 M a 8 f → WW E G u Q M b 120 [some (.ref x), some v1, some v2, some v3, some v4, some (.ref f), some (.int (nI (8)))] []) : ∀ (m k : Nat), k + m = 8 → ∀ M, zFj M0 M a k f → WW E G u Q M b 98 [some (.ref x), some v1, some v2, some v3, some v4, some (.ref f), some (.int (nI (k)))] [] := by
  intro m
  induction m with
  | zero =>
    intro k hk M hM
    have hk4 : k = 8 := by omega
    subst hk4
    refine zq_iload K dX0_init_98 rfl ?_
    refine zq_bipush K dX0_init_100 (v := nI 8) (by decide) ?_
    refine zq_icmp_geN K (x := 8) (y := 8) 120 dX0_init_102 (by decide) ⟨by omega, by omega⟩ (fun h102 => ?_) (fun h102 => by omega)
    exact kk M hM
  | succ m ih =>
    intro k hk M hM
    have hxa' : x ≠ a := fun e => by rw [e, ha] at hx; exact absurd hx (by decide)
    obtain ⟨g1, g2, g3, g4⟩ := hM
    have hx' : zk M x = 1 := (g1 x hxa').1.trans hx
    have hr' : zr M x 6 = some a := ((g1 x hxa').2.2.2.1 _).trans hxa
    have hfa : f ≠ a := fun e => by rw [e, ha] at hf; exact absurd hf (by decide)
    have hf' : zk M f = 2 := (g1 f hfa).1.trans hf
    refine zq_iload K dX0_init_98 rfl ?_
    refine zq_bipush K dX0_init_100 (v := nI 8) (by decide) ?_
    refine zq_icmp_geN K (x := k) (y := 8) 120 dX0_init_102 (by decide) ⟨by omega, by omega⟩ (fun h102 => by omega) (fun h102 => ?_)
    refine zq_aload_n K dX0_init_105 rfl rfl ?_
    refine zq_getRs K dX0_init_106 zclX0 (k := 6) (by decide) zf_X0_25 rfl hx' hr' ?_
    refine zq_iload K dX0_init_109 rfl ?_
    refine zq_aload K dX0_init_111 rfl ?_
    refine zq_aast K (k) dX0_init_113 zclX1 (g2.trans ha) ⟨rfl, by decide⟩ hf' rfl (by rw [g3, hn]; omega) (by rw [g3, hn]; decide) ?_
    refine zq_iincN K dX0_init_114 rfl (by decide) ?_
    refine zq_goto K 98 dX0_init_117 (by decide) ?_
    refine ih (k + 1) (by omega) _ ⟨fun y hy => (g1 y hy).tr (zsame.r hy), g2, g3, fun j => ?_⟩
    rw [zr_r]
    by_cases e : j = k
    · rw [if_pos ⟨rfl, e⟩, if_pos (by omega)]
    · rw [if_neg (fun z => e z.2), g4]
      exact ite_congr (propext (by omega)) (fun _ => rfl) (fun _ => rfl)
theorem ct_X0_init_0 {G : ZG} {M : ZM} {x : Nat} (hx : zk M x = 1) (D : Nat) (n o : Int32) : zMet G mX0_init [.ref (x), .int (nI (D)), .null, .int (n), .int (o)] M (zPP (fun M' => ∃ nu, zDi M M' x nu D (none) n o) none) := by
  refine zbody zyX0_init [some (.ref (x)), some (.int (nI (D))), some (.null), some (.int (n)), some (.int (o)), none, none] rfl (Nat.le_of_ble_eq_true rfl) (by intro v hv; simp only [List.mem_cons, List.not_mem_nil, or_false] at hv; rcases hv with rfl | rfl | rfl | rfl | rfl <;> rfl) (fun E K => ?_)
  refine zq_aload_n K dX0_init_0 rfl rfl ?_
  refine zq_objInit K dX0_init_1 zm_X0_3 (zt 31 (by decide +kernel) rfl) (zt 32 (by decide +kernel) rfl) (Nat.le_of_ble_eq_true rfl) (by decide) ?_
  refine zq_aload_n K dX0_init_4 rfl rfl ?_
  refine zq_bipush K dX0_init_5 (v := nI 50) (by decide) ?_
  refine zq_newI K (50) 1 dX0_init_7 (by decide) ⟨by decide, by decide, by decide⟩ (Nat.le_refl _) (fun a1 ha1 => ?_)
  have n_a1_x : a1 ≠ x := fun e => by rw [e, hx] at ha1; exact absurd ha1 (by decide)
  have kx : zk (zw M a1 5 50) x = 1 := by rw [zk_w, if_neg n_a1_x.symm]; exact hx
  refine zq_putRs K dX0_init_9 zclX0 (k := 3) (by decide) zf_X0_9 (Or.inr ⟨rfl, rfl⟩) (fun r => by cases r <;> exact ⟨rfl, rfl⟩) rfl kx ?_
  refine zq_aload_n K dX0_init_12 rfl rfl ?_
  refine zq_bipush K dX0_init_13 (v := nI 50) (by decide) ?_
  refine zq_newI K (50) 1 dX0_init_15 (by decide) ⟨by decide, by decide, by decide⟩ (Nat.le_refl _) (fun a2 ha2 => ?_)
  rw [zk_r, zk_w] at ha2
  have n_a2_a1 : a2 ≠ a1 := fun e => by rw [if_pos e] at ha2; exact absurd ha2 (by decide)
  rw [if_neg n_a2_a1] at ha2
  have n_a2_x : a2 ≠ x := fun e => by rw [e, hx] at ha2; exact absurd ha2 (by decide)
  have kx2 : zk (zw (zsr (zw M a1 5 50) x 3 (some a1)) a2 5 50) x = 1 := by rw [zk_w, if_neg n_a2_x.symm]; exact kx
  refine zq_putRs K dX0_init_17 zclX0 (k := 4) (by decide) zf_X0_15 (Or.inr ⟨rfl, rfl⟩) (fun r => by cases r <;> exact ⟨rfl, rfl⟩) rfl kx2 ?_
  refine zq_aload_n K dX0_init_20 rfl rfl ?_
  refine zq_iconst K dX0_init_21 (v := nI 4) (by decide) ?_
  refine zq_bipush K dX0_init_22 (v := nI 50) (by decide) ?_
  refine zq_mna50 K dX0_init_24 zc_X0_18 (by decide) (Nat.le_refl _) (fun q r hq hr hrj => ?_)
  have hq4 : ∀ i, i < 4 → zk M (r i) = 0 ∧ r i ≠ a1 ∧ r i ≠ a2 := fun i hi => by
    have h := (hr i hi).1
    rw [zk_r, zk_w] at h
    have e2 : r i ≠ a2 := fun e => by rw [if_pos e] at h; exact absurd h (by decide)
    rw [if_neg e2, zk_r, zk_w] at h
    have e1 : r i ≠ a1 := fun e => by rw [if_pos e] at h; exact absurd h (by decide)
    rw [if_neg e1] at h
    exact ⟨h, e1, e2⟩
  rw [zk_r, zk_w] at hq
  have n_q_a2 : q ≠ a2 := fun e => by rw [if_pos e] at hq; exact absurd hq (by decide)
  rw [if_neg n_q_a2, zk_r, zk_w] at hq
  have n_q_a1 : q ≠ a1 := fun e => by rw [if_pos e] at hq; exact absurd hq (by decide)
  rw [if_neg n_q_a1] at hq
  have n_q_x : q ≠ x := fun e => by rw [e, hx] at hq; exact absurd hq (by decide)
  have n_r_q : ∀ i, i < 4 → r i ≠ q := fun i hi => (hr i hi).2
  have n_r_a1 : ∀ i, i < 4 → r i ≠ a1 := fun i hi => (hq4 i hi).2.1
  have n_r_a2 : ∀ i, i < 4 → r i ≠ a2 := fun i hi => (hq4 i hi).2.2
  have n_r_x : ∀ i, i < 4 → r i ≠ x := fun i hi e => by have h := (hq4 i hi).1; rw [e, hx] at h; exact absurd h (by decide)
  have kx3 : zk (zmn (zsr (zw (zsr (zw M a1 5 50) x 3 (some a1)) a2 5 50) x 4 (some a2)) q r 50) x = 1 := by rw [zmn_k, if_neg (n_r_x 3 (by decide)).symm, if_neg (n_r_x 2 (by decide)).symm, if_neg (n_r_x 1 (by decide)).symm, if_neg (n_r_x 0 (by decide)).symm, if_neg n_q_x.symm]; exact kx2
  refine zq_putRs K dX0_init_28 zclX0 (k := 5) (by decide) zf_X0_20 (Or.inr ⟨rfl, rfl⟩) (fun r => by cases r <;> exact ⟨rfl, rfl⟩) rfl kx3 ?_
  refine zq_aload_n K dX0_init_31 rfl rfl ?_
  refine zq_bipush K dX0_init_32 (v := nI 8) (by decide) ?_
  refine zq_anewF K dX0_init_34 zc_X0_23 (by decide) (Nat.le_refl _) (fun ah hah => ?_)
  rw [zk_r, zmn_k] at hah
  have n_ah_r3 : ah ≠ r 3 := fun e => by rw [if_pos e] at hah; exact absurd hah (by decide)
  rw [if_neg n_ah_r3] at hah
  have n_ah_r2 : ah ≠ r 2 := fun e => by rw [if_pos e] at hah; exact absurd hah (by decide)
  rw [if_neg n_ah_r2] at hah
  have n_ah_r1 : ah ≠ r 1 := fun e => by rw [if_pos e] at hah; exact absurd hah (by decide)
  rw [if_neg n_ah_r1] at hah
  have n_ah_r0 : ah ≠ r 0 := fun e => by rw [if_pos e] at hah; exact absurd hah (by decide)
  rw [if_neg n_ah_r0] at hah
  have n_ah_q : ah ≠ q := fun e => by rw [if_pos e] at hah; exact absurd hah (by decide)
  rw [if_neg n_ah_q, zk_r, zk_w] at hah
  have n_ah_a2 : ah ≠ a2 := fun e => by rw [if_pos e] at hah; exact absurd hah (by decide)
  rw [if_neg n_ah_a2, zk_r, zk_w] at hah
  have n_ah_a1 : ah ≠ a1 := fun e => by rw [if_pos e] at hah; exact absurd hah (by decide)
  rw [if_neg n_ah_a1] at hah
  have n_ah_x : ah ≠ x := fun e => by rw [e, hx] at hah; exact absurd hah (by decide)
  have kx4 : zk (zw (zsr (zmn (zsr (zw (zsr (zw M a1 5 50) x 3 (some a1)) a2 5 50) x 4 (some a2)) q r 50) x 5 (some q)) ah 9 8) x = 1 := by rw [zk_w, if_neg n_ah_x.symm]; exact kx3
  refine zq_putRs K dX0_init_37 zclX0 (k := 6) (by decide) zf_X0_25 (Or.inr ⟨rfl, rfl⟩) (fun r => by cases r <;> exact ⟨rfl, rfl⟩) rfl kx4 ?_
  refine zq_aload_n K dX0_init_40 rfl rfl ?_
  refine zq_iload_n K dX0_init_41 rfl rfl ?_
  refine zq_putI K dX0_init_42 zclX0 (k := 0) (by decide) zf_X0_29 (Or.inr ⟨rfl, rfl⟩) rfl rfl kx4 ?_
  refine zq_aload_n K dX0_init_45 rfl rfl ?_
  refine zq_aload_nN K dX0_init_46 rfl rfl ?_
  refine zq_putRn K dX0_init_47 zclX0 (k := 1) (by decide) zf_X0_33 (Or.inl rfl) (fun r => by cases r <;> exact ⟨rfl, rfl⟩) rfl kx4 ?_
  refine zq_aload_n K dX0_init_50 rfl rfl ?_
  refine zq_iload_n K dX0_init_51 rfl rfl ?_
  refine zq_putI K dX0_init_52 zclX0 (k := 2) (by decide) zf_X0_37 (Or.inl rfl) rfl rfl kx4 ?_
  refine zq_iconst K dX0_init_55 (v := nI 0) (by decide) ?_
  refine zq_istore K dX0_init_56 (by decide) ?_
  have f1k : zk (zsi (zsr (zsi (zsr (zw (zsr (zmn (zsr (zw (zsr (zw M a1 5 50) x 3 (some a1)) a2 5 50) x 4 (some a2)) q r 50) x 5 (some q)) ah 9 8) x 6 (some ah)) x 0 (nI D)) x 1 (none)) x 2 n) a1 = 5 := by rw [zk_i, zk_r, zk_i, zk_r, zk_w, if_neg (n_ah_a1).symm, zk_r, zmn_k, if_neg (n_r_a1 3 (by decide)).symm, if_neg (n_r_a1 2 (by decide)).symm, if_neg (n_r_a1 1 (by decide)).symm, if_neg (n_r_a1 0 (by decide)).symm, if_neg (n_q_a1).symm, zk_r, zk_w, if_neg (n_a2_a1).symm, zk_r, zk_w, if_pos rfl]
  have f1n : zn (zsi (zsr (zsi (zsr (zw (zsr (zmn (zsr (zw (zsr (zw M a1 5 50) x 3 (some a1)) a2 5 50) x 4 (some a2)) q r 50) x 5 (some q)) ah 9 8) x 6 (some ah)) x 0 (nI D)) x 1 (none)) x 2 n) a1 = 50 := by rw [zn_i, zn_r, zn_i, zn_r, zn_w, if_neg (n_ah_a1).symm, zn_r, zmn_n, if_neg (n_r_a1 3 (by decide)).symm, if_neg (n_r_a1 2 (by decide)).symm, if_neg (n_r_a1 1 (by decide)).symm, if_neg (n_r_a1 0 (by decide)).symm, if_neg (n_q_a1).symm, zn_r, zn_w, if_neg (n_a2_a1).symm, zn_r, zn_w, if_pos rfl]
  have f2k : zk (zsi (zsr (zsi (zsr (zw (zsr (zmn (zsr (zw (zsr (zw M a1 5 50) x 3 (some a1)) a2 5 50) x 4 (some a2)) q r 50) x 5 (some q)) ah 9 8) x 6 (some ah)) x 0 (nI D)) x 1 (none)) x 2 n) a2 = 5 := by rw [zk_i, zk_r, zk_i, zk_r, zk_w, if_neg (n_ah_a2).symm, zk_r, zmn_k, if_neg (n_r_a2 3 (by decide)).symm, if_neg (n_r_a2 2 (by decide)).symm, if_neg (n_r_a2 1 (by decide)).symm, if_neg (n_r_a2 0 (by decide)).symm, if_neg (n_q_a2).symm, zk_r, zk_w, if_pos rfl]
  have f2n : zn (zsi (zsr (zsi (zsr (zw (zsr (zmn (zsr (zw (zsr (zw M a1 5 50) x 3 (some a1)) a2 5 50) x 4 (some a2)) q r 50) x 5 (some q)) ah 9 8) x 6 (some ah)) x 0 (nI D)) x 1 (none)) x 2 n) a2 = 50 := by rw [zn_i, zn_r, zn_i, zn_r, zn_w, if_neg (n_ah_a2).symm, zn_r, zmn_n, if_neg (n_r_a2 3 (by decide)).symm, if_neg (n_r_a2 2 (by decide)).symm, if_neg (n_r_a2 1 (by decide)).symm, if_neg (n_r_a2 0 (by decide)).symm, if_neg (n_q_a2).symm, zn_r, zn_w, if_pos rfl]
  have f2i : ∀ j, zi (zsi (zsr (zsi (zsr (zw (zsr (zmn (zsr (zw (zsr (zw M a1 5 50) x 3 (some a1)) a2 5 50) x 4 (some a2)) q r 50) x 5 (some q)) ah 9 8) x 6 (some ah)) x 0 (nI D)) x 1 (none)) x 2 n) a2 j = 0 := fun j => by rw [zi_i, if_neg (fun z => (n_a2_x) z.1), zi_r, zi_i, if_neg (fun z => (n_a2_x) z.1), zi_r, zi_w, if_neg (n_ah_a2).symm, zi_r, zmn_i, if_neg (n_r_a2 3 (by decide)).symm, if_neg (n_r_a2 2 (by decide)).symm, if_neg (n_r_a2 1 (by decide)).symm, if_neg (n_r_a2 0 (by decide)).symm, if_neg (n_q_a2).symm, zi_r, zi_w, if_pos rfl]
  have fqk : zk (zsi (zsr (zsi (zsr (zw (zsr (zmn (zsr (zw (zsr (zw M a1 5 50) x 3 (some a1)) a2 5 50) x 4 (some a2)) q r 50) x 5 (some q)) ah 9 8) x 6 (some ah)) x 0 (nI D)) x 1 (none)) x 2 n) q = 10 := by rw [zk_i, zk_r, zk_i, zk_r, zk_w, if_neg (n_ah_q).symm, zk_r, zmn_k, if_neg (n_r_q 3 (by decide)).symm, if_neg (n_r_q 2 (by decide)).symm, if_neg (n_r_q 1 (by decide)).symm, if_neg (n_r_q 0 (by decide)).symm, if_pos rfl]
  have fqn : zn (zsi (zsr (zsi (zsr (zw (zsr (zmn (zsr (zw (zsr (zw M a1 5 50) x 3 (some a1)) a2 5 50) x 4 (some a2)) q r 50) x 5 (some q)) ah 9 8) x 6 (some ah)) x 0 (nI D)) x 1 (none)) x 2 n) q = 4 := by rw [zn_i, zn_r, zn_i, zn_r, zn_w, if_neg (n_ah_q).symm, zn_r, zmn_n, if_neg (n_r_q 3 (by decide)).symm, if_neg (n_r_q 2 (by decide)).symm, if_neg (n_r_q 1 (by decide)).symm, if_neg (n_r_q 0 (by decide)).symm, if_pos rfl]
  have fq0 : zr (zsi (zsr (zsi (zsr (zw (zsr (zmn (zsr (zw (zsr (zw M a1 5 50) x 3 (some a1)) a2 5 50) x 4 (some a2)) q r 50) x 5 (some q)) ah 9 8) x 6 (some ah)) x 0 (nI D)) x 1 (none)) x 2 n) q 0 = some (r 0) := by rw [zr_i, zr_r, if_neg (fun z => (n_q_x) z.1), zr_i, zr_r, if_neg (fun z => (n_q_x) z.1), zr_w, if_neg (n_ah_q).symm, zr_r, if_neg (fun z => (n_q_x) z.1), zmn_r, if_neg (fun z => absurd z.2 (by decide)), if_neg (fun z => absurd z.2 (by decide)), if_neg (fun z => absurd z.2 (by decide)), if_pos ⟨rfl, rfl⟩]
  have fq1 : zr (zsi (zsr (zsi (zsr (zw (zsr (zmn (zsr (zw (zsr (zw M a1 5 50) x 3 (some a1)) a2 5 50) x 4 (some a2)) q r 50) x 5 (some q)) ah 9 8) x 6 (some ah)) x 0 (nI D)) x 1 (none)) x 2 n) q 1 = some (r 1) := by rw [zr_i, zr_r, if_neg (fun z => (n_q_x) z.1), zr_i, zr_r, if_neg (fun z => (n_q_x) z.1), zr_w, if_neg (n_ah_q).symm, zr_r, if_neg (fun z => (n_q_x) z.1), zmn_r, if_neg (fun z => absurd z.2 (by decide)), if_neg (fun z => absurd z.2 (by decide)), if_pos ⟨rfl, rfl⟩]
  have fq2 : zr (zsi (zsr (zsi (zsr (zw (zsr (zmn (zsr (zw (zsr (zw M a1 5 50) x 3 (some a1)) a2 5 50) x 4 (some a2)) q r 50) x 5 (some q)) ah 9 8) x 6 (some ah)) x 0 (nI D)) x 1 (none)) x 2 n) q 2 = some (r 2) := by rw [zr_i, zr_r, if_neg (fun z => (n_q_x) z.1), zr_i, zr_r, if_neg (fun z => (n_q_x) z.1), zr_w, if_neg (n_ah_q).symm, zr_r, if_neg (fun z => (n_q_x) z.1), zmn_r, if_neg (fun z => absurd z.2 (by decide)), if_pos ⟨rfl, rfl⟩]
  have fq3 : zr (zsi (zsr (zsi (zsr (zw (zsr (zmn (zsr (zw (zsr (zw M a1 5 50) x 3 (some a1)) a2 5 50) x 4 (some a2)) q r 50) x 5 (some q)) ah 9 8) x 6 (some ah)) x 0 (nI D)) x 1 (none)) x 2 n) q 3 = some (r 3) := by rw [zr_i, zr_r, if_neg (fun z => (n_q_x) z.1), zr_i, zr_r, if_neg (fun z => (n_q_x) z.1), zr_w, if_neg (n_ah_q).symm, zr_r, if_neg (fun z => (n_q_x) z.1), zmn_r, if_pos ⟨rfl, rfl⟩]
  have fr0k : zk (zsi (zsr (zsi (zsr (zw (zsr (zmn (zsr (zw (zsr (zw M a1 5 50) x 3 (some a1)) a2 5 50) x 4 (some a2)) q r 50) x 5 (some q)) ah 9 8) x 6 (some ah)) x 0 (nI D)) x 1 (none)) x 2 n) (r 0) = 5 := by rw [zk_i, zk_r, zk_i, zk_r, zk_w, if_neg n_ah_r0.symm, zk_r, zmn_k, if_neg (fun e => absurd (hrj 0 3 (by decide) (by decide) e) (by decide)), if_neg (fun e => absurd (hrj 0 2 (by decide) (by decide) e) (by decide)), if_neg (fun e => absurd (hrj 0 1 (by decide) (by decide) e) (by decide)), if_pos rfl]
  have fr0n : zn (zsi (zsr (zsi (zsr (zw (zsr (zmn (zsr (zw (zsr (zw M a1 5 50) x 3 (some a1)) a2 5 50) x 4 (some a2)) q r 50) x 5 (some q)) ah 9 8) x 6 (some ah)) x 0 (nI D)) x 1 (none)) x 2 n) (r 0) = 50 := by rw [zn_i, zn_r, zn_i, zn_r, zn_w, if_neg n_ah_r0.symm, zn_r, zmn_n, if_neg (fun e => absurd (hrj 0 3 (by decide) (by decide) e) (by decide)), if_neg (fun e => absurd (hrj 0 2 (by decide) (by decide) e) (by decide)), if_neg (fun e => absurd (hrj 0 1 (by decide) (by decide) e) (by decide)), if_pos rfl]
  have fr0i : ∀ j, zi (zsi (zsr (zsi (zsr (zw (zsr (zmn (zsr (zw (zsr (zw M a1 5 50) x 3 (some a1)) a2 5 50) x 4 (some a2)) q r 50) x 5 (some q)) ah 9 8) x 6 (some ah)) x 0 (nI D)) x 1 (none)) x 2 n) (r 0) j = 0 := fun j => by rw [zi_i, if_neg (fun z => (n_r_x 0 (by decide)) z.1), zi_r, zi_i, if_neg (fun z => (n_r_x 0 (by decide)) z.1), zi_r, zi_w, if_neg n_ah_r0.symm, zi_r, zmn_i, if_neg (fun e => absurd (hrj 0 3 (by decide) (by decide) e) (by decide)), if_neg (fun e => absurd (hrj 0 2 (by decide) (by decide) e) (by decide)), if_neg (fun e => absurd (hrj 0 1 (by decide) (by decide) e) (by decide)), if_pos rfl]
  have fr1k : zk (zsi (zsr (zsi (zsr (zw (zsr (zmn (zsr (zw (zsr (zw M a1 5 50) x 3 (some a1)) a2 5 50) x 4 (some a2)) q r 50) x 5 (some q)) ah 9 8) x 6 (some ah)) x 0 (nI D)) x 1 (none)) x 2 n) (r 1) = 5 := by rw [zk_i, zk_r, zk_i, zk_r, zk_w, if_neg n_ah_r1.symm, zk_r, zmn_k, if_neg (fun e => absurd (hrj 1 3 (by decide) (by decide) e) (by decide)), if_neg (fun e => absurd (hrj 1 2 (by decide) (by decide) e) (by decide)), if_pos rfl]
  have fr1n : zn (zsi (zsr (zsi (zsr (zw (zsr (zmn (zsr (zw (zsr (zw M a1 5 50) x 3 (some a1)) a2 5 50) x 4 (some a2)) q r 50) x 5 (some q)) ah 9 8) x 6 (some ah)) x 0 (nI D)) x 1 (none)) x 2 n) (r 1) = 50 := by rw [zn_i, zn_r, zn_i, zn_r, zn_w, if_neg n_ah_r1.symm, zn_r, zmn_n, if_neg (fun e => absurd (hrj 1 3 (by decide) (by decide) e) (by decide)), if_neg (fun e => absurd (hrj 1 2 (by decide) (by decide) e) (by decide)), if_pos rfl]
  have fr1i : ∀ j, zi (zsi (zsr (zsi (zsr (zw (zsr (zmn (zsr (zw (zsr (zw M a1 5 50) x 3 (some a1)) a2 5 50) x 4 (some a2)) q r 50) x 5 (some q)) ah 9 8) x 6 (some ah)) x 0 (nI D)) x 1 (none)) x 2 n) (r 1) j = 0 := fun j => by rw [zi_i, if_neg (fun z => (n_r_x 1 (by decide)) z.1), zi_r, zi_i, if_neg (fun z => (n_r_x 1 (by decide)) z.1), zi_r, zi_w, if_neg n_ah_r1.symm, zi_r, zmn_i, if_neg (fun e => absurd (hrj 1 3 (by decide) (by decide) e) (by decide)), if_neg (fun e => absurd (hrj 1 2 (by decide) (by decide) e) (by decide)), if_pos rfl]
  have fr2k : zk (zsi (zsr (zsi (zsr (zw (zsr (zmn (zsr (zw (zsr (zw M a1 5 50) x 3 (some a1)) a2 5 50) x 4 (some a2)) q r 50) x 5 (some q)) ah 9 8) x 6 (some ah)) x 0 (nI D)) x 1 (none)) x 2 n) (r 2) = 5 := by rw [zk_i, zk_r, zk_i, zk_r, zk_w, if_neg n_ah_r2.symm, zk_r, zmn_k, if_neg (fun e => absurd (hrj 2 3 (by decide) (by decide) e) (by decide)), if_pos rfl]
  have fr2n : zn (zsi (zsr (zsi (zsr (zw (zsr (zmn (zsr (zw (zsr (zw M a1 5 50) x 3 (some a1)) a2 5 50) x 4 (some a2)) q r 50) x 5 (some q)) ah 9 8) x 6 (some ah)) x 0 (nI D)) x 1 (none)) x 2 n) (r 2) = 50 := by rw [zn_i, zn_r, zn_i, zn_r, zn_w, if_neg n_ah_r2.symm, zn_r, zmn_n, if_neg (fun e => absurd (hrj 2 3 (by decide) (by decide) e) (by decide)), if_pos rfl]
  have fr2i : ∀ j, zi (zsi (zsr (zsi (zsr (zw (zsr (zmn (zsr (zw (zsr (zw M a1 5 50) x 3 (some a1)) a2 5 50) x 4 (some a2)) q r 50) x 5 (some q)) ah 9 8) x 6 (some ah)) x 0 (nI D)) x 1 (none)) x 2 n) (r 2) j = 0 := fun j => by rw [zi_i, if_neg (fun z => (n_r_x 2 (by decide)) z.1), zi_r, zi_i, if_neg (fun z => (n_r_x 2 (by decide)) z.1), zi_r, zi_w, if_neg n_ah_r2.symm, zi_r, zmn_i, if_neg (fun e => absurd (hrj 2 3 (by decide) (by decide) e) (by decide)), if_pos rfl]
  have fr3k : zk (zsi (zsr (zsi (zsr (zw (zsr (zmn (zsr (zw (zsr (zw M a1 5 50) x 3 (some a1)) a2 5 50) x 4 (some a2)) q r 50) x 5 (some q)) ah 9 8) x 6 (some ah)) x 0 (nI D)) x 1 (none)) x 2 n) (r 3) = 5 := by rw [zk_i, zk_r, zk_i, zk_r, zk_w, if_neg n_ah_r3.symm, zk_r, zmn_k, if_pos rfl]
  have fr3n : zn (zsi (zsr (zsi (zsr (zw (zsr (zmn (zsr (zw (zsr (zw M a1 5 50) x 3 (some a1)) a2 5 50) x 4 (some a2)) q r 50) x 5 (some q)) ah 9 8) x 6 (some ah)) x 0 (nI D)) x 1 (none)) x 2 n) (r 3) = 50 := by rw [zn_i, zn_r, zn_i, zn_r, zn_w, if_neg n_ah_r3.symm, zn_r, zmn_n, if_pos rfl]
  have fr3i : ∀ j, zi (zsi (zsr (zsi (zsr (zw (zsr (zmn (zsr (zw (zsr (zw M a1 5 50) x 3 (some a1)) a2 5 50) x 4 (some a2)) q r 50) x 5 (some q)) ah 9 8) x 6 (some ah)) x 0 (nI D)) x 1 (none)) x 2 n) (r 3) j = 0 := fun j => by rw [zi_i, if_neg (fun z => (n_r_x 3 (by decide)) z.1), zi_r, zi_i, if_neg (fun z => (n_r_x 3 (by decide)) z.1), zi_r, zi_w, if_neg n_ah_r3.symm, zi_r, zmn_i, if_pos rfl]
  have fhk : zk (zsi (zsr (zsi (zsr (zw (zsr (zmn (zsr (zw (zsr (zw M a1 5 50) x 3 (some a1)) a2 5 50) x 4 (some a2)) q r 50) x 5 (some q)) ah 9 8) x 6 (some ah)) x 0 (nI D)) x 1 (none)) x 2 n) ah = 9 := by rw [zk_i, zk_r, zk_i, zk_r, zk_w, if_pos rfl]
  have fhn : zn (zsi (zsr (zsi (zsr (zw (zsr (zmn (zsr (zw (zsr (zw M a1 5 50) x 3 (some a1)) a2 5 50) x 4 (some a2)) q r 50) x 5 (some q)) ah 9 8) x 6 (some ah)) x 0 (nI D)) x 1 (none)) x 2 n) ah = 8 := by rw [zn_i, zn_r, zn_i, zn_r, zn_w, if_pos rfl]
  have fxk : zk (zsi (zsr (zsi (zsr (zw (zsr (zmn (zsr (zw (zsr (zw M a1 5 50) x 3 (some a1)) a2 5 50) x 4 (some a2)) q r 50) x 5 (some q)) ah 9 8) x 6 (some ah)) x 0 (nI D)) x 1 (none)) x 2 n) x = 1 := kx4
  have fx0 : zi (zsi (zsr (zsi (zsr (zw (zsr (zmn (zsr (zw (zsr (zw M a1 5 50) x 3 (some a1)) a2 5 50) x 4 (some a2)) q r 50) x 5 (some q)) ah 9 8) x 6 (some ah)) x 0 (nI D)) x 1 (none)) x 2 n) x 0 = nI D := by rw [zi_i, if_neg (fun z => absurd z.2 (by decide)), zi_r, zi_i, if_pos ⟨rfl, rfl⟩]
  have fx1 : zr (zsi (zsr (zsi (zsr (zw (zsr (zmn (zsr (zw (zsr (zw M a1 5 50) x 3 (some a1)) a2 5 50) x 4 (some a2)) q r 50) x 5 (some q)) ah 9 8) x 6 (some ah)) x 0 (nI D)) x 1 (none)) x 2 n) x 1 = none := by rw [zr_i, zr_r, if_pos ⟨rfl, rfl⟩]
  have fx2 : zi (zsi (zsr (zsi (zsr (zw (zsr (zmn (zsr (zw (zsr (zw M a1 5 50) x 3 (some a1)) a2 5 50) x 4 (some a2)) q r 50) x 5 (some q)) ah 9 8) x 6 (some ah)) x 0 (nI D)) x 1 (none)) x 2 n) x 2 = n := by rw [zi_i, if_pos ⟨rfl, rfl⟩]
  have fx3 : zr (zsi (zsr (zsi (zsr (zw (zsr (zmn (zsr (zw (zsr (zw M a1 5 50) x 3 (some a1)) a2 5 50) x 4 (some a2)) q r 50) x 5 (some q)) ah 9 8) x 6 (some ah)) x 0 (nI D)) x 1 (none)) x 2 n) x 3 = some a1 := by rw [zr_i, zr_r, if_neg (fun z => absurd z.2 (by decide)), zr_i, zr_r, if_neg (fun z => absurd z.2 (by decide)), zr_w, if_neg (n_ah_x).symm, zr_r, if_neg (fun z => absurd z.2 (by decide)), zmn_r, if_neg (fun z => (n_q_x).symm z.1), if_neg (fun z => (n_q_x).symm z.1), if_neg (fun z => (n_q_x).symm z.1), if_neg (fun z => (n_q_x).symm z.1), if_neg (n_r_x 3 (by decide)).symm, if_neg (n_r_x 2 (by decide)).symm, if_neg (n_r_x 1 (by decide)).symm, if_neg (n_r_x 0 (by decide)).symm, if_neg (n_q_x).symm, zr_r, if_neg (fun z => absurd z.2 (by decide)), zr_w, if_neg (n_a2_x).symm, zr_r, if_pos ⟨rfl, rfl⟩]
  have fx4 : zr (zsi (zsr (zsi (zsr (zw (zsr (zmn (zsr (zw (zsr (zw M a1 5 50) x 3 (some a1)) a2 5 50) x 4 (some a2)) q r 50) x 5 (some q)) ah 9 8) x 6 (some ah)) x 0 (nI D)) x 1 (none)) x 2 n) x 4 = some a2 := by rw [zr_i, zr_r, if_neg (fun z => absurd z.2 (by decide)), zr_i, zr_r, if_neg (fun z => absurd z.2 (by decide)), zr_w, if_neg (n_ah_x).symm, zr_r, if_neg (fun z => absurd z.2 (by decide)), zmn_r, if_neg (fun z => (n_q_x).symm z.1), if_neg (fun z => (n_q_x).symm z.1), if_neg (fun z => (n_q_x).symm z.1), if_neg (fun z => (n_q_x).symm z.1), if_neg (n_r_x 3 (by decide)).symm, if_neg (n_r_x 2 (by decide)).symm, if_neg (n_r_x 1 (by decide)).symm, if_neg (n_r_x 0 (by decide)).symm, if_neg (n_q_x).symm, zr_r, if_pos ⟨rfl, rfl⟩]
  have fx5 : zr (zsi (zsr (zsi (zsr (zw (zsr (zmn (zsr (zw (zsr (zw M a1 5 50) x 3 (some a1)) a2 5 50) x 4 (some a2)) q r 50) x 5 (some q)) ah 9 8) x 6 (some ah)) x 0 (nI D)) x 1 (none)) x 2 n) x 5 = some q := by rw [zr_i, zr_r, if_neg (fun z => absurd z.2 (by decide)), zr_i, zr_r, if_neg (fun z => absurd z.2 (by decide)), zr_w, if_neg (n_ah_x).symm, zr_r, if_pos ⟨rfl, rfl⟩]
  have fx6 : zr (zsi (zsr (zsi (zsr (zw (zsr (zmn (zsr (zw (zsr (zw M a1 5 50) x 3 (some a1)) a2 5 50) x 4 (some a2)) q r 50) x 5 (some q)) ah 9 8) x 6 (some ah)) x 0 (nI D)) x 1 (none)) x 2 n) x 6 = some ah := by rw [zr_i, zr_r, if_neg (fun z => absurd z.2 (by decide)), zr_i, zr_r, if_pos ⟨rfl, rfl⟩]
  have ffr : ∀ y, ¬ zk M y = 0 → y ≠ x → zsame M (zsi (zsr (zsi (zsr (zw (zsr (zmn (zsr (zw (zsr (zw M a1 5 50) x 3 (some a1)) a2 5 50) x 4 (some a2)) q r 50) x 5 (some q)) ah 9 8) x 6 (some ah)) x 0 (nI D)) x 1 (none)) x 2 n) y := fun y hy hyx => by
    have m1 : y ≠ a1 := fun e => hy (e ▸ ha1)
    have m2 : y ≠ a2 := fun e => hy (e ▸ ha2)
    have m3 : y ≠ q := fun e => hy (e ▸ hq)
    have m4 : y ≠ ah := fun e => hy (e ▸ hah)
    have mr : ∀ i, i < 4 → y ≠ r i := fun i hi e => hy (e ▸ (hq4 i hi).1)
    have s1 : zsame M (zsr (zw (zsr (zw M a1 5 50) x 3 (some a1)) a2 5 50) x 4 (some a2)) y := (((zsame.w m1).tr (zsame.r hyx)).tr (zsame.w m2)).tr (zsame.r hyx)
    have s2 : zsame (zsr (zw (zsr (zw M a1 5 50) x 3 (some a1)) a2 5 50) x 4 (some a2)) (zmn (zsr (zw (zsr (zw M a1 5 50) x 3 (some a1)) a2 5 50) x 4 (some a2)) q r 50) y := zsame.mn m3 mr
    exact s1.tr (s2.tr ((((((zsame.r hyx).tr (zsame.w m4)).tr (zsame.r hyx)).tr (zsame.i hyx)).tr (zsame.r hyx)).tr (zsame.i hyx)))
  generalize (zsi (zsr (zsi (zsr (zw (zsr (zmn (zsr (zw (zsr (zw M a1 5 50) x 3 (some a1)) a2 5 50) x 4 (some a2)) q r 50) x 5 (some q)) ah 9 8) x 6 (some ah)) x 0 (nI D)) x 1 (none)) x 2 n) = M5 at *
  refine lp_X0_f1 K fxk fx3 f1k f1n (fun M6 h6 => ?_) 50 0 rfl M5 ⟨fun _ _ => zsame.rf, rfl, rfl, fun j => by rw [if_neg (by omega)]⟩
  obtain ⟨u1, u2, u3, u4⟩ := h6
  refine zq_new K dX0_init_79 zclX1 zc_X0_23 (by decide) (by decide) (Nat.le_of_ble_eq_true rfl) (Nat.le_refl _) (fun f hf => ?_)
  have hf0 : zk M6 f = 0 := hf
  refine zq_dup K dX0_init_82 rfl ?_
  refine zq_iload_n K dX0_init_83 rfl rfl ?_
  refine zq_iconst K dX0_init_84 (v := nI 0) (by decide) ?_
  refine zq_bipush K dX0_init_85 (v := nI 8) (by decide) ?_
  refine zq_iload K dX0_init_87 rfl ?_
  refine zq_iconst K dX0_init_89 (v := nI 0) (by decide) ?_
  refine zq_callI (As := [.int (nI (D)), .int (nI (0)), .int (nI (8)), .int (o), .int (nI (0))]) K dX0_init_90 zyX1_init rfl rfl zm_X0_40 ziX1_init (by decide) rfl rfl (Nat.le_of_ble_eq_true rfl) (Nat.le_of_ble_eq_true rfl) (ct_X1_init (show zk (zw M6 f 2 0) f = 2 from by rw [zk_w, if_pos rfl]) (nI D) (nI 0) (nI 8) o (nI 0)) (zone_r ?_) zone_x (Nat.le_refl _)
  refine zq_astore K dX0_init_93 (by decide) ?_
  refine zq_iconst K dX0_init_95 (v := nI 0) (by decide) ?_
  refine zq_istore K dX0_init_96 (by decide) ?_
  have nf : ∀ y, ¬ zk M5 y = 0 → f ≠ y := fun y hy e => by
    by_cases e1 : y = a1
    · rw [e, e1, u2, f1k] at hf0; exact absurd hf0 (by decide)
    · rw [e, (u1 y e1).1] at hf0; exact hy hf0
  have s7 : ∀ y, y ≠ f → zsame M6 (zsi (zsi (zsi (zsi (zsi (zw M6 f 2 0) f 0 (nI D)) f 1 (nI 0)) f 2 (nI 8)) f 3 o) f 4 (nI 0)) y := fun y hy => (zsame.w hy).tr ((zsame.i hy).tr ((zsame.i hy).tr ((zsame.i hy).tr ((zsame.i hy).tr (zsame.i hy)))))
  have nxf : x ≠ f := (nf x (by rw [fxk]; decide)).symm
  have nhf : ah ≠ f := (nf ah (by rw [fhk]; decide)).symm
  have nh1 : ah ≠ a1 := n_ah_a1
  have nx1 : x ≠ a1 := n_a1_x.symm
  have q0 : zk (zsi (zsi (zsi (zsi (zsi (zw M6 f 2 0) f 0 (nI D)) f 1 (nI 0)) f 2 (nI 8)) f 3 o) f 4 (nI 0)) f = 2 ∧ zi (zsi (zsi (zsi (zsi (zsi (zw M6 f 2 0) f 0 (nI D)) f 1 (nI 0)) f 2 (nI 8)) f 3 o) f 4 (nI 0)) f 0 = nI D ∧ zi (zsi (zsi (zsi (zsi (zsi (zw M6 f 2 0) f 0 (nI D)) f 1 (nI 0)) f 2 (nI 8)) f 3 o) f 4 (nI 0)) f 1 = nI 0 ∧ zi (zsi (zsi (zsi (zsi (zsi (zw M6 f 2 0) f 0 (nI D)) f 1 (nI 0)) f 2 (nI 8)) f 3 o) f 4 (nI 0)) f 2 = nI 8 ∧ zi (zsi (zsi (zsi (zsi (zsi (zw M6 f 2 0) f 0 (nI D)) f 1 (nI 0)) f 2 (nI 8)) f 3 o) f 4 (nI 0)) f 3 = o ∧ zi (zsi (zsi (zsi (zsi (zsi (zw M6 f 2 0) f 0 (nI D)) f 1 (nI 0)) f 2 (nI 8)) f 3 o) f 4 (nI 0)) f 4 = nI 0 := ⟨by rw [zk_i, zk_i, zk_i, zk_i, zk_i, zk_w, if_pos rfl], by rw [zi_i, if_neg (fun z => absurd z.2 (by decide)), zi_i, if_neg (fun z => absurd z.2 (by decide)), zi_i, if_neg (fun z => absurd z.2 (by decide)), zi_i, if_neg (fun z => absurd z.2 (by decide)), zi_i, if_pos ⟨rfl, rfl⟩], by rw [zi_i, if_neg (fun z => absurd z.2 (by decide)), zi_i, if_neg (fun z => absurd z.2 (by decide)), zi_i, if_neg (fun z => absurd z.2 (by decide)), zi_i, if_pos ⟨rfl, rfl⟩], by rw [zi_i, if_neg (fun z => absurd z.2 (by decide)), zi_i, if_neg (fun z => absurd z.2 (by decide)), zi_i, if_pos ⟨rfl, rfl⟩], by rw [zi_i, if_neg (fun z => absurd z.2 (by decide)), zi_i, if_pos ⟨rfl, rfl⟩], by rw [zi_i, if_pos ⟨rfl, rfl⟩]⟩
  generalize (zsi (zsi (zsi (zsi (zsi (zw M6 f 2 0) f 0 (nI D)) f 1 (nI 0)) f 2 (nI 8)) f 3 o) f 4 (nI 0)) = M7 at *
  have t7 : ∀ y, y ≠ a1 → y ≠ f → zsame M5 M7 y := fun y h1 h2 => (u1 y h1).tr (s7 y h2)
  refine lp_X0_f2 K (((t7 x nx1 nxf).1).trans fxk) (((t7 x nx1 nxf).2.2.2.1 6).trans fx6) (((t7 ah nh1 nhf).1).trans fhk) (((t7 ah nh1 nhf).2.1).trans fhn) q0.1 (fun M8 h8 => ?_) 8 0 rfl M7 ⟨fun _ _ => zsame.rf, rfl, rfl, fun j => by rw [if_neg (by omega)]⟩
  obtain ⟨w1, w2, w3, w4⟩ := h8
  have t8 : ∀ y, y ≠ a1 → y ≠ f → y ≠ ah → zsame M5 M8 y := fun y h1 h2 h3 => (t7 y h1 h2).tr (w1 y h3)
  have nf1 : f ≠ a1 := nf a1 (by rw [f1k]; decide)
  have nf2 : f ≠ a2 := nf a2 (by rw [f2k]; decide)
  have nfq : f ≠ q := nf q (by rw [fqk]; decide)
  have nfr0 : f ≠ r 0 := nf (r 0) (by rw [fr0k]; decide)
  have nfr1 : f ≠ r 1 := nf (r 1) (by rw [fr1k]; decide)
  have nfr2 : f ≠ r 2 := nf (r 2) (by rw [fr2k]; decide)
  have nfr3 : f ≠ r 3 := nf (r 3) (by rw [fr3k]; decide)
  have hfM : zk M f = 0 := by
    by_cases e : zk M f = 0
    · exact e
    · exact absurd rfl (nf f (by rw [(ffr f e nxf.symm).1]; exact e))
  have s1 := (s7 a1 nf1.symm).tr (w1 a1 nh1.symm)
  have sf := w1 f nhf.symm
  have sx := t8 x nx1 nxf n_ah_x.symm
  have s2 := t8 a2 n_a2_a1 nf2.symm n_ah_a2.symm
  have sq := t8 q n_q_a1 nfq.symm n_ah_q.symm
  have sr0 := t8 (r 0) (n_r_a1 0 (by decide)) nfr0.symm n_ah_r0.symm
  have sr1 := t8 (r 1) (n_r_a1 1 (by decide)) nfr1.symm n_ah_r1.symm
  have sr2 := t8 (r 2) (n_r_a1 2 (by decide)) nfr2.symm n_ah_r2.symm
  have sr3 := t8 (r 3) (n_r_a1 3 (by decide)) nfr3.symm n_ah_r3.symm
  have hin : ∀ i j, i < 9 → j < 9 → (fun i => if i = 0 then a1 else if i = 1 then a2 else if i = 2 then q else if i = 3 then ah else if i = 4 then f else r (i - 5)) i = (fun i => if i = 0 then a1 else if i = 1 then a2 else if i = 2 then q else if i = 3 then ah else if i = 4 then f else r (i - 5)) j → i = j := fun i j hi hj e => match i, j, hi, hj, e with
    | 0, 0, _, _, e => rfl
    | 0, 1, _, _, e => absurd e (n_a2_a1).symm
    | 0, 2, _, _, e => absurd e (n_q_a1).symm
    | 0, 3, _, _, e => absurd e (n_ah_a1).symm
    | 0, 4, _, _, e => absurd e nf1.symm
    | 0, 5, _, _, e => absurd e (n_r_a1 0 (by decide)).symm
    | 0, 6, _, _, e => absurd e (n_r_a1 1 (by decide)).symm
    | 0, 7, _, _, e => absurd e (n_r_a1 2 (by decide)).symm
    | 0, 8, _, _, e => absurd e (n_r_a1 3 (by decide)).symm
    | 1, 0, _, _, e => absurd e (n_a2_a1)
    | 1, 1, _, _, e => rfl
    | 1, 2, _, _, e => absurd e (n_q_a2).symm
    | 1, 3, _, _, e => absurd e (n_ah_a2).symm
    | 1, 4, _, _, e => absurd e nf2.symm
    | 1, 5, _, _, e => absurd e (n_r_a2 0 (by decide)).symm
    | 1, 6, _, _, e => absurd e (n_r_a2 1 (by decide)).symm
    | 1, 7, _, _, e => absurd e (n_r_a2 2 (by decide)).symm
    | 1, 8, _, _, e => absurd e (n_r_a2 3 (by decide)).symm
    | 2, 0, _, _, e => absurd e (n_q_a1)
    | 2, 1, _, _, e => absurd e (n_q_a2)
    | 2, 2, _, _, e => rfl
    | 2, 3, _, _, e => absurd e (n_ah_q).symm
    | 2, 4, _, _, e => absurd e nfq.symm
    | 2, 5, _, _, e => absurd e (n_r_q 0 (by decide)).symm
    | 2, 6, _, _, e => absurd e (n_r_q 1 (by decide)).symm
    | 2, 7, _, _, e => absurd e (n_r_q 2 (by decide)).symm
    | 2, 8, _, _, e => absurd e (n_r_q 3 (by decide)).symm
    | 3, 0, _, _, e => absurd e (n_ah_a1)
    | 3, 1, _, _, e => absurd e (n_ah_a2)
    | 3, 2, _, _, e => absurd e (n_ah_q)
    | 3, 3, _, _, e => rfl
    | 3, 4, _, _, e => absurd e nhf
    | 3, 5, _, _, e => absurd e n_ah_r0
    | 3, 6, _, _, e => absurd e n_ah_r1
    | 3, 7, _, _, e => absurd e n_ah_r2
    | 3, 8, _, _, e => absurd e n_ah_r3
    | 4, 0, _, _, e => absurd e nf1
    | 4, 1, _, _, e => absurd e nf2
    | 4, 2, _, _, e => absurd e nfq
    | 4, 3, _, _, e => absurd e nhf.symm
    | 4, 4, _, _, e => rfl
    | 4, 5, _, _, e => absurd e nfr0
    | 4, 6, _, _, e => absurd e nfr1
    | 4, 7, _, _, e => absurd e nfr2
    | 4, 8, _, _, e => absurd e nfr3
    | 5, 0, _, _, e => absurd e (n_r_a1 0 (by decide))
    | 5, 1, _, _, e => absurd e (n_r_a2 0 (by decide))
    | 5, 2, _, _, e => absurd e (n_r_q 0 (by decide))
    | 5, 3, _, _, e => absurd e n_ah_r0.symm
    | 5, 4, _, _, e => absurd e nfr0.symm
    | 5, 5, _, _, e => rfl
    | 5, 6, _, _, e => absurd e (fun e => absurd (hrj 0 1 (by decide) (by decide) e) (by decide))
    | 5, 7, _, _, e => absurd e (fun e => absurd (hrj 0 2 (by decide) (by decide) e) (by decide))
    | 5, 8, _, _, e => absurd e (fun e => absurd (hrj 0 3 (by decide) (by decide) e) (by decide))
    | 6, 0, _, _, e => absurd e (n_r_a1 1 (by decide))
    | 6, 1, _, _, e => absurd e (n_r_a2 1 (by decide))
    | 6, 2, _, _, e => absurd e (n_r_q 1 (by decide))
    | 6, 3, _, _, e => absurd e n_ah_r1.symm
    | 6, 4, _, _, e => absurd e nfr1.symm
    | 6, 5, _, _, e => absurd e (fun e => absurd (hrj 1 0 (by decide) (by decide) e) (by decide))
    | 6, 6, _, _, e => rfl
    | 6, 7, _, _, e => absurd e (fun e => absurd (hrj 1 2 (by decide) (by decide) e) (by decide))
    | 6, 8, _, _, e => absurd e (fun e => absurd (hrj 1 3 (by decide) (by decide) e) (by decide))
    | 7, 0, _, _, e => absurd e (n_r_a1 2 (by decide))
    | 7, 1, _, _, e => absurd e (n_r_a2 2 (by decide))
    | 7, 2, _, _, e => absurd e (n_r_q 2 (by decide))
    | 7, 3, _, _, e => absurd e n_ah_r2.symm
    | 7, 4, _, _, e => absurd e nfr2.symm
    | 7, 5, _, _, e => absurd e (fun e => absurd (hrj 2 0 (by decide) (by decide) e) (by decide))
    | 7, 6, _, _, e => absurd e (fun e => absurd (hrj 2 1 (by decide) (by decide) e) (by decide))
    | 7, 7, _, _, e => rfl
    | 7, 8, _, _, e => absurd e (fun e => absurd (hrj 2 3 (by decide) (by decide) e) (by decide))
    | 8, 0, _, _, e => absurd e (n_r_a1 3 (by decide))
    | 8, 1, _, _, e => absurd e (n_r_a2 3 (by decide))
    | 8, 2, _, _, e => absurd e (n_r_q 3 (by decide))
    | 8, 3, _, _, e => absurd e n_ah_r3.symm
    | 8, 4, _, _, e => absurd e nfr3.symm
    | 8, 5, _, _, e => absurd e (fun e => absurd (hrj 3 0 (by decide) (by decide) e) (by decide))
    | 8, 6, _, _, e => absurd e (fun e => absurd (hrj 3 1 (by decide) (by decide) e) (by decide))
    | 8, 7, _, _, e => absurd e (fun e => absurd (hrj 3 2 (by decide) (by decide) e) (by decide))
    | 8, 8, _, _, e => rfl
    | i + 9, _, hi, _, _ => absurd hi (by omega)
    | _, j + 9, _, hj, _ => absurd hj (by omega)
  have hfre : ∀ i, i < 9 → zk M ((fun i => if i = 0 then a1 else if i = 1 then a2 else if i = 2 then q else if i = 3 then ah else if i = 4 then f else r (i - 5)) i) = 0 ∧ (fun i => if i = 0 then a1 else if i = 1 then a2 else if i = 2 then q else if i = 3 then ah else if i = 4 then f else r (i - 5)) i ≠ x := fun i hi => match i, hi with
    | 0, _ => ⟨ha1, n_a1_x⟩
    | 1, _ => ⟨ha2, n_a2_x⟩
    | 2, _ => ⟨hq, n_q_x⟩
    | 3, _ => ⟨hah, n_ah_x⟩
    | 4, _ => ⟨hfM, nxf.symm⟩
    | 5, _ => ⟨(hq4 0 (by decide)).1, n_r_x 0 (by decide)⟩
    | 6, _ => ⟨(hq4 1 (by decide)).1, n_r_x 1 (by decide)⟩
    | 7, _ => ⟨(hq4 2 (by decide)).1, n_r_x 2 (by decide)⟩
    | 8, _ => ⟨(hq4 3 (by decide)).1, n_r_x 3 (by decide)⟩
    | i + 9, hi => absurd hi (by omega)
  have fin : zDi M M8 x (fun i => if i = 0 then a1 else if i = 1 then a2 else if i = 2 then q else if i = 3 then ah else if i = 4 then f else r (i - 5)) D (none) n o := by
    refine ⟨⟨hfre, hin, fun y hy hyx => (ffr y hy hyx).tr (t8 y (fun e => hy (e ▸ ha1)) (fun e => hy (e ▸ hfM)) (fun e => hy (e ▸ hah)))⟩, ⟨sx.1.trans fxk, (sx.2.2.1 0).trans fx0, (sx.2.2.2.1 1).trans fx1, (sx.2.2.1 2).trans fx2, (sx.2.2.2.1 3).trans fx3, (sx.2.2.2.1 4).trans fx4, (sx.2.2.2.1 5).trans fx5, (sx.2.2.2.1 6).trans fx6⟩, ⟨s1.1.trans (u2.trans f1k), s1.2.1.trans (u3.trans f1n), fun k hk => (s1.2.2.1 k).trans (by rw [u4, if_pos hk])⟩, ⟨s2.1.trans f2k, s2.2.1.trans f2n, fun k _ => (s2.2.2.1 k).trans (f2i k)⟩, ⟨sq.1.trans fqk, sq.2.1.trans fqn, ?_⟩, ?_, ⟨w2.trans ((t7 ah nh1 nhf).1.trans fhk), w3.trans ((t7 ah nh1 nhf).2.1.trans fhn), fun h hh => (w4 h).trans (if_pos hh)⟩, ⟨sf.1.trans q0.1, (sf.2.2.1 0).trans q0.2.1, (sf.2.2.1 1).trans q0.2.2.1, (sf.2.2.1 2).trans q0.2.2.2.1, (sf.2.2.1 3).trans q0.2.2.2.2.1, (sf.2.2.1 4).trans q0.2.2.2.2.2⟩⟩
    · exact fun c hc => match c, hc with
      | 0, _ => (sq.2.2.2.1 0).trans fq0
      | 1, _ => (sq.2.2.2.1 1).trans fq1
      | 2, _ => (sq.2.2.2.1 2).trans fq2
      | 3, _ => (sq.2.2.2.1 3).trans fq3
      | c + 4, hc => absurd hc (by omega)
    · exact fun c hc => match c, hc with
      | 0, _ => ⟨sr0.1.trans fr0k, sr0.2.1.trans fr0n, fun k _ => (sr0.2.2.1 k).trans (fr0i k)⟩
      | 1, _ => ⟨sr1.1.trans fr1k, sr1.2.1.trans fr1n, fun k _ => (sr1.2.2.1 k).trans (fr1i k)⟩
      | 2, _ => ⟨sr2.1.trans fr2k, sr2.2.1.trans fr2n, fun k _ => (sr2.2.2.1 k).trans (fr2i k)⟩
      | 3, _ => ⟨sr3.1.trans fr3k, sr3.2.1.trans fr3n, fun k _ => (sr3.2.2.1 k).trans (fr3i k)⟩
      | c + 4, hc => absurd hc (by omega)
  exact zq_ret K dX0_init_120 rfl ⟨rfl, _, fin⟩
theorem ct_X0_init_1 {G : ZG} {M : ZM} {x : Nat} (hx : zk M x = 1) (D : Nat) (p : Nat) (n o : Int32) : zMet G mX0_init [.ref (x), .int (nI (D)), .ref (p), .int (n), .int (o)] M (zPP (fun M' => ∃ nu, zDi M M' x nu D (some p) n o) none) := by
  refine zbody zyX0_init [some (.ref (x)), some (.int (nI (D))), some (.ref (p)), some (.int (n)), some (.int (o)), none, none] rfl (Nat.le_of_ble_eq_true rfl) (by intro v hv; simp only [List.mem_cons, List.not_mem_nil, or_false] at hv; rcases hv with rfl | rfl | rfl | rfl | rfl <;> rfl) (fun E K => ?_)
  refine zq_aload_n K dX0_init_0 rfl rfl ?_
  refine zq_objInit K dX0_init_1 zm_X0_3 (zt 31 (by decide +kernel) rfl) (zt 32 (by decide +kernel) rfl) (Nat.le_of_ble_eq_true rfl) (by decide) ?_
  refine zq_aload_n K dX0_init_4 rfl rfl ?_
  refine zq_bipush K dX0_init_5 (v := nI 50) (by decide) ?_
  refine zq_newI K (50) 1 dX0_init_7 (by decide) ⟨by decide, by decide, by decide⟩ (Nat.le_refl _) (fun a1 ha1 => ?_)
  have n_a1_x : a1 ≠ x := fun e => by rw [e, hx] at ha1; exact absurd ha1 (by decide)
  have kx : zk (zw M a1 5 50) x = 1 := by rw [zk_w, if_neg n_a1_x.symm]; exact hx
  refine zq_putRs K dX0_init_9 zclX0 (k := 3) (by decide) zf_X0_9 (Or.inr ⟨rfl, rfl⟩) (fun r => by cases r <;> exact ⟨rfl, rfl⟩) rfl kx ?_
  refine zq_aload_n K dX0_init_12 rfl rfl ?_
  refine zq_bipush K dX0_init_13 (v := nI 50) (by decide) ?_
  refine zq_newI K (50) 1 dX0_init_15 (by decide) ⟨by decide, by decide, by decide⟩ (Nat.le_refl _) (fun a2 ha2 => ?_)
  rw [zk_r, zk_w] at ha2
  have n_a2_a1 : a2 ≠ a1 := fun e => by rw [if_pos e] at ha2; exact absurd ha2 (by decide)
  rw [if_neg n_a2_a1] at ha2
  have n_a2_x : a2 ≠ x := fun e => by rw [e, hx] at ha2; exact absurd ha2 (by decide)
  have kx2 : zk (zw (zsr (zw M a1 5 50) x 3 (some a1)) a2 5 50) x = 1 := by rw [zk_w, if_neg n_a2_x.symm]; exact kx
  refine zq_putRs K dX0_init_17 zclX0 (k := 4) (by decide) zf_X0_15 (Or.inr ⟨rfl, rfl⟩) (fun r => by cases r <;> exact ⟨rfl, rfl⟩) rfl kx2 ?_
  refine zq_aload_n K dX0_init_20 rfl rfl ?_
  refine zq_iconst K dX0_init_21 (v := nI 4) (by decide) ?_
  refine zq_bipush K dX0_init_22 (v := nI 50) (by decide) ?_
  refine zq_mna50 K dX0_init_24 zc_X0_18 (by decide) (Nat.le_refl _) (fun q r hq hr hrj => ?_)
  have hq4 : ∀ i, i < 4 → zk M (r i) = 0 ∧ r i ≠ a1 ∧ r i ≠ a2 := fun i hi => by
    have h := (hr i hi).1
    rw [zk_r, zk_w] at h
    have e2 : r i ≠ a2 := fun e => by rw [if_pos e] at h; exact absurd h (by decide)
    rw [if_neg e2, zk_r, zk_w] at h
    have e1 : r i ≠ a1 := fun e => by rw [if_pos e] at h; exact absurd h (by decide)
    rw [if_neg e1] at h
    exact ⟨h, e1, e2⟩
  rw [zk_r, zk_w] at hq
  have n_q_a2 : q ≠ a2 := fun e => by rw [if_pos e] at hq; exact absurd hq (by decide)
  rw [if_neg n_q_a2, zk_r, zk_w] at hq
  have n_q_a1 : q ≠ a1 := fun e => by rw [if_pos e] at hq; exact absurd hq (by decide)
  rw [if_neg n_q_a1] at hq
  have n_q_x : q ≠ x := fun e => by rw [e, hx] at hq; exact absurd hq (by decide)
  have n_r_q : ∀ i, i < 4 → r i ≠ q := fun i hi => (hr i hi).2
  have n_r_a1 : ∀ i, i < 4 → r i ≠ a1 := fun i hi => (hq4 i hi).2.1
  have n_r_a2 : ∀ i, i < 4 → r i ≠ a2 := fun i hi => (hq4 i hi).2.2
  have n_r_x : ∀ i, i < 4 → r i ≠ x := fun i hi e => by have h := (hq4 i hi).1; rw [e, hx] at h; exact absurd h (by decide)
  have kx3 : zk (zmn (zsr (zw (zsr (zw M a1 5 50) x 3 (some a1)) a2 5 50) x 4 (some a2)) q r 50) x = 1 := by rw [zmn_k, if_neg (n_r_x 3 (by decide)).symm, if_neg (n_r_x 2 (by decide)).symm, if_neg (n_r_x 1 (by decide)).symm, if_neg (n_r_x 0 (by decide)).symm, if_neg n_q_x.symm]; exact kx2
  refine zq_putRs K dX0_init_28 zclX0 (k := 5) (by decide) zf_X0_20 (Or.inr ⟨rfl, rfl⟩) (fun r => by cases r <;> exact ⟨rfl, rfl⟩) rfl kx3 ?_
  refine zq_aload_n K dX0_init_31 rfl rfl ?_
  refine zq_bipush K dX0_init_32 (v := nI 8) (by decide) ?_
  refine zq_anewF K dX0_init_34 zc_X0_23 (by decide) (Nat.le_refl _) (fun ah hah => ?_)
  rw [zk_r, zmn_k] at hah
  have n_ah_r3 : ah ≠ r 3 := fun e => by rw [if_pos e] at hah; exact absurd hah (by decide)
  rw [if_neg n_ah_r3] at hah
  have n_ah_r2 : ah ≠ r 2 := fun e => by rw [if_pos e] at hah; exact absurd hah (by decide)
  rw [if_neg n_ah_r2] at hah
  have n_ah_r1 : ah ≠ r 1 := fun e => by rw [if_pos e] at hah; exact absurd hah (by decide)
  rw [if_neg n_ah_r1] at hah
  have n_ah_r0 : ah ≠ r 0 := fun e => by rw [if_pos e] at hah; exact absurd hah (by decide)
  rw [if_neg n_ah_r0] at hah
  have n_ah_q : ah ≠ q := fun e => by rw [if_pos e] at hah; exact absurd hah (by decide)
  rw [if_neg n_ah_q, zk_r, zk_w] at hah
  have n_ah_a2 : ah ≠ a2 := fun e => by rw [if_pos e] at hah; exact absurd hah (by decide)
  rw [if_neg n_ah_a2, zk_r, zk_w] at hah
  have n_ah_a1 : ah ≠ a1 := fun e => by rw [if_pos e] at hah; exact absurd hah (by decide)
  rw [if_neg n_ah_a1] at hah
  have n_ah_x : ah ≠ x := fun e => by rw [e, hx] at hah; exact absurd hah (by decide)
  have kx4 : zk (zw (zsr (zmn (zsr (zw (zsr (zw M a1 5 50) x 3 (some a1)) a2 5 50) x 4 (some a2)) q r 50) x 5 (some q)) ah 9 8) x = 1 := by rw [zk_w, if_neg n_ah_x.symm]; exact kx3
  refine zq_putRs K dX0_init_37 zclX0 (k := 6) (by decide) zf_X0_25 (Or.inr ⟨rfl, rfl⟩) (fun r => by cases r <;> exact ⟨rfl, rfl⟩) rfl kx4 ?_
  refine zq_aload_n K dX0_init_40 rfl rfl ?_
  refine zq_iload_n K dX0_init_41 rfl rfl ?_
  refine zq_putI K dX0_init_42 zclX0 (k := 0) (by decide) zf_X0_29 (Or.inr ⟨rfl, rfl⟩) rfl rfl kx4 ?_
  refine zq_aload_n K dX0_init_45 rfl rfl ?_
  refine zq_aload_n K dX0_init_46 rfl rfl ?_
  refine zq_putRs K dX0_init_47 zclX0 (k := 1) (by decide) zf_X0_33 (Or.inl rfl) (fun r => by cases r <;> exact ⟨rfl, rfl⟩) rfl kx4 ?_
  refine zq_aload_n K dX0_init_50 rfl rfl ?_
  refine zq_iload_n K dX0_init_51 rfl rfl ?_
  refine zq_putI K dX0_init_52 zclX0 (k := 2) (by decide) zf_X0_37 (Or.inl rfl) rfl rfl kx4 ?_
  refine zq_iconst K dX0_init_55 (v := nI 0) (by decide) ?_
  refine zq_istore K dX0_init_56 (by decide) ?_
  have f1k : zk (zsi (zsr (zsi (zsr (zw (zsr (zmn (zsr (zw (zsr (zw M a1 5 50) x 3 (some a1)) a2 5 50) x 4 (some a2)) q r 50) x 5 (some q)) ah 9 8) x 6 (some ah)) x 0 (nI D)) x 1 (some p)) x 2 n) a1 = 5 := by rw [zk_i, zk_r, zk_i, zk_r, zk_w, if_neg (n_ah_a1).symm, zk_r, zmn_k, if_neg (n_r_a1 3 (by decide)).symm, if_neg (n_r_a1 2 (by decide)).symm, if_neg (n_r_a1 1 (by decide)).symm, if_neg (n_r_a1 0 (by decide)).symm, if_neg (n_q_a1).symm, zk_r, zk_w, if_neg (n_a2_a1).symm, zk_r, zk_w, if_pos rfl]
  have f1n : zn (zsi (zsr (zsi (zsr (zw (zsr (zmn (zsr (zw (zsr (zw M a1 5 50) x 3 (some a1)) a2 5 50) x 4 (some a2)) q r 50) x 5 (some q)) ah 9 8) x 6 (some ah)) x 0 (nI D)) x 1 (some p)) x 2 n) a1 = 50 := by rw [zn_i, zn_r, zn_i, zn_r, zn_w, if_neg (n_ah_a1).symm, zn_r, zmn_n, if_neg (n_r_a1 3 (by decide)).symm, if_neg (n_r_a1 2 (by decide)).symm, if_neg (n_r_a1 1 (by decide)).symm, if_neg (n_r_a1 0 (by decide)).symm, if_neg (n_q_a1).symm, zn_r, zn_w, if_neg (n_a2_a1).symm, zn_r, zn_w, if_pos rfl]
  have f2k : zk (zsi (zsr (zsi (zsr (zw (zsr (zmn (zsr (zw (zsr (zw M a1 5 50) x 3 (some a1)) a2 5 50) x 4 (some a2)) q r 50) x 5 (some q)) ah 9 8) x 6 (some ah)) x 0 (nI D)) x 1 (some p)) x 2 n) a2 = 5 := by rw [zk_i, zk_r, zk_i, zk_r, zk_w, if_neg (n_ah_a2).symm, zk_r, zmn_k, if_neg (n_r_a2 3 (by decide)).symm, if_neg (n_r_a2 2 (by decide)).symm, if_neg (n_r_a2 1 (by decide)).symm, if_neg (n_r_a2 0 (by decide)).symm, if_neg (n_q_a2).symm, zk_r, zk_w, if_pos rfl]
  have f2n : zn (zsi (zsr (zsi (zsr (zw (zsr (zmn (zsr (zw (zsr (zw M a1 5 50) x 3 (some a1)) a2 5 50) x 4 (some a2)) q r 50) x 5 (some q)) ah 9 8) x 6 (some ah)) x 0 (nI D)) x 1 (some p)) x 2 n) a2 = 50 := by rw [zn_i, zn_r, zn_i, zn_r, zn_w, if_neg (n_ah_a2).symm, zn_r, zmn_n, if_neg (n_r_a2 3 (by decide)).symm, if_neg (n_r_a2 2 (by decide)).symm, if_neg (n_r_a2 1 (by decide)).symm, if_neg (n_r_a2 0 (by decide)).symm, if_neg (n_q_a2).symm, zn_r, zn_w, if_pos rfl]
  have f2i : ∀ j, zi (zsi (zsr (zsi (zsr (zw (zsr (zmn (zsr (zw (zsr (zw M a1 5 50) x 3 (some a1)) a2 5 50) x 4 (some a2)) q r 50) x 5 (some q)) ah 9 8) x 6 (some ah)) x 0 (nI D)) x 1 (some p)) x 2 n) a2 j = 0 := fun j => by rw [zi_i, if_neg (fun z => (n_a2_x) z.1), zi_r, zi_i, if_neg (fun z => (n_a2_x) z.1), zi_r, zi_w, if_neg (n_ah_a2).symm, zi_r, zmn_i, if_neg (n_r_a2 3 (by decide)).symm, if_neg (n_r_a2 2 (by decide)).symm, if_neg (n_r_a2 1 (by decide)).symm, if_neg (n_r_a2 0 (by decide)).symm, if_neg (n_q_a2).symm, zi_r, zi_w, if_pos rfl]
  have fqk : zk (zsi (zsr (zsi (zsr (zw (zsr (zmn (zsr (zw (zsr (zw M a1 5 50) x 3 (some a1)) a2 5 50) x 4 (some a2)) q r 50) x 5 (some q)) ah 9 8) x 6 (some ah)) x 0 (nI D)) x 1 (some p)) x 2 n) q = 10 := by rw [zk_i, zk_r, zk_i, zk_r, zk_w, if_neg (n_ah_q).symm, zk_r, zmn_k, if_neg (n_r_q 3 (by decide)).symm, if_neg (n_r_q 2 (by decide)).symm, if_neg (n_r_q 1 (by decide)).symm, if_neg (n_r_q 0 (by decide)).symm, if_pos rfl]
  have fqn : zn (zsi (zsr (zsi (zsr (zw (zsr (zmn (zsr (zw (zsr (zw M a1 5 50) x 3 (some a1)) a2 5 50) x 4 (some a2)) q r 50) x 5 (some q)) ah 9 8) x 6 (some ah)) x 0 (nI D)) x 1 (some p)) x 2 n) q = 4 := by rw [zn_i, zn_r, zn_i, zn_r, zn_w, if_neg (n_ah_q).symm, zn_r, zmn_n, if_neg (n_r_q 3 (by decide)).symm, if_neg (n_r_q 2 (by decide)).symm, if_neg (n_r_q 1 (by decide)).symm, if_neg (n_r_q 0 (by decide)).symm, if_pos rfl]
  have fq0 : zr (zsi (zsr (zsi (zsr (zw (zsr (zmn (zsr (zw (zsr (zw M a1 5 50) x 3 (some a1)) a2 5 50) x 4 (some a2)) q r 50) x 5 (some q)) ah 9 8) x 6 (some ah)) x 0 (nI D)) x 1 (some p)) x 2 n) q 0 = some (r 0) := by rw [zr_i, zr_r, if_neg (fun z => (n_q_x) z.1), zr_i, zr_r, if_neg (fun z => (n_q_x) z.1), zr_w, if_neg (n_ah_q).symm, zr_r, if_neg (fun z => (n_q_x) z.1), zmn_r, if_neg (fun z => absurd z.2 (by decide)), if_neg (fun z => absurd z.2 (by decide)), if_neg (fun z => absurd z.2 (by decide)), if_pos ⟨rfl, rfl⟩]
  have fq1 : zr (zsi (zsr (zsi (zsr (zw (zsr (zmn (zsr (zw (zsr (zw M a1 5 50) x 3 (some a1)) a2 5 50) x 4 (some a2)) q r 50) x 5 (some q)) ah 9 8) x 6 (some ah)) x 0 (nI D)) x 1 (some p)) x 2 n) q 1 = some (r 1) := by rw [zr_i, zr_r, if_neg (fun z => (n_q_x) z.1), zr_i, zr_r, if_neg (fun z => (n_q_x) z.1), zr_w, if_neg (n_ah_q).symm, zr_r, if_neg (fun z => (n_q_x) z.1), zmn_r, if_neg (fun z => absurd z.2 (by decide)), if_neg (fun z => absurd z.2 (by decide)), if_pos ⟨rfl, rfl⟩]
  have fq2 : zr (zsi (zsr (zsi (zsr (zw (zsr (zmn (zsr (zw (zsr (zw M a1 5 50) x 3 (some a1)) a2 5 50) x 4 (some a2)) q r 50) x 5 (some q)) ah 9 8) x 6 (some ah)) x 0 (nI D)) x 1 (some p)) x 2 n) q 2 = some (r 2) := by rw [zr_i, zr_r, if_neg (fun z => (n_q_x) z.1), zr_i, zr_r, if_neg (fun z => (n_q_x) z.1), zr_w, if_neg (n_ah_q).symm, zr_r, if_neg (fun z => (n_q_x) z.1), zmn_r, if_neg (fun z => absurd z.2 (by decide)), if_pos ⟨rfl, rfl⟩]
  have fq3 : zr (zsi (zsr (zsi (zsr (zw (zsr (zmn (zsr (zw (zsr (zw M a1 5 50) x 3 (some a1)) a2 5 50) x 4 (some a2)) q r 50) x 5 (some q)) ah 9 8) x 6 (some ah)) x 0 (nI D)) x 1 (some p)) x 2 n) q 3 = some (r 3) := by rw [zr_i, zr_r, if_neg (fun z => (n_q_x) z.1), zr_i, zr_r, if_neg (fun z => (n_q_x) z.1), zr_w, if_neg (n_ah_q).symm, zr_r, if_neg (fun z => (n_q_x) z.1), zmn_r, if_pos ⟨rfl, rfl⟩]
  have fr0k : zk (zsi (zsr (zsi (zsr (zw (zsr (zmn (zsr (zw (zsr (zw M a1 5 50) x 3 (some a1)) a2 5 50) x 4 (some a2)) q r 50) x 5 (some q)) ah 9 8) x 6 (some ah)) x 0 (nI D)) x 1 (some p)) x 2 n) (r 0) = 5 := by rw [zk_i, zk_r, zk_i, zk_r, zk_w, if_neg n_ah_r0.symm, zk_r, zmn_k, if_neg (fun e => absurd (hrj 0 3 (by decide) (by decide) e) (by decide)), if_neg (fun e => absurd (hrj 0 2 (by decide) (by decide) e) (by decide)), if_neg (fun e => absurd (hrj 0 1 (by decide) (by decide) e) (by decide)), if_pos rfl]
  have fr0n : zn (zsi (zsr (zsi (zsr (zw (zsr (zmn (zsr (zw (zsr (zw M a1 5 50) x 3 (some a1)) a2 5 50) x 4 (some a2)) q r 50) x 5 (some q)) ah 9 8) x 6 (some ah)) x 0 (nI D)) x 1 (some p)) x 2 n) (r 0) = 50 := by rw [zn_i, zn_r, zn_i, zn_r, zn_w, if_neg n_ah_r0.symm, zn_r, zmn_n, if_neg (fun e => absurd (hrj 0 3 (by decide) (by decide) e) (by decide)), if_neg (fun e => absurd (hrj 0 2 (by decide) (by decide) e) (by decide)), if_neg (fun e => absurd (hrj 0 1 (by decide) (by decide) e) (by decide)), if_pos rfl]
  have fr0i : ∀ j, zi (zsi (zsr (zsi (zsr (zw (zsr (zmn (zsr (zw (zsr (zw M a1 5 50) x 3 (some a1)) a2 5 50) x 4 (some a2)) q r 50) x 5 (some q)) ah 9 8) x 6 (some ah)) x 0 (nI D)) x 1 (some p)) x 2 n) (r 0) j = 0 := fun j => by rw [zi_i, if_neg (fun z => (n_r_x 0 (by decide)) z.1), zi_r, zi_i, if_neg (fun z => (n_r_x 0 (by decide)) z.1), zi_r, zi_w, if_neg n_ah_r0.symm, zi_r, zmn_i, if_neg (fun e => absurd (hrj 0 3 (by decide) (by decide) e) (by decide)), if_neg (fun e => absurd (hrj 0 2 (by decide) (by decide) e) (by decide)), if_neg (fun e => absurd (hrj 0 1 (by decide) (by decide) e) (by decide)), if_pos rfl]
  have fr1k : zk (zsi (zsr (zsi (zsr (zw (zsr (zmn (zsr (zw (zsr (zw M a1 5 50) x 3 (some a1)) a2 5 50) x 4 (some a2)) q r 50) x 5 (some q)) ah 9 8) x 6 (some ah)) x 0 (nI D)) x 1 (some p)) x 2 n) (r 1) = 5 := by rw [zk_i, zk_r, zk_i, zk_r, zk_w, if_neg n_ah_r1.symm, zk_r, zmn_k, if_neg (fun e => absurd (hrj 1 3 (by decide) (by decide) e) (by decide)), if_neg (fun e => absurd (hrj 1 2 (by decide) (by decide) e) (by decide)), if_pos rfl]
  have fr1n : zn (zsi (zsr (zsi (zsr (zw (zsr (zmn (zsr (zw (zsr (zw M a1 5 50) x 3 (some a1)) a2 5 50) x 4 (some a2)) q r 50) x 5 (some q)) ah 9 8) x 6 (some ah)) x 0 (nI D)) x 1 (some p)) x 2 n) (r 1) = 50 := by rw [zn_i, zn_r, zn_i, zn_r, zn_w, if_neg n_ah_r1.symm, zn_r, zmn_n, if_neg (fun e => absurd (hrj 1 3 (by decide) (by decide) e) (by decide)), if_neg (fun e => absurd (hrj 1 2 (by decide) (by decide) e) (by decide)), if_pos rfl]
  have fr1i : ∀ j, zi (zsi (zsr (zsi (zsr (zw (zsr (zmn (zsr (zw (zsr (zw M a1 5 50) x 3 (some a1)) a2 5 50) x 4 (some a2)) q r 50) x 5 (some q)) ah 9 8) x 6 (some ah)) x 0 (nI D)) x 1 (some p)) x 2 n) (r 1) j = 0 := fun j => by rw [zi_i, if_neg (fun z => (n_r_x 1 (by decide)) z.1), zi_r, zi_i, if_neg (fun z => (n_r_x 1 (by decide)) z.1), zi_r, zi_w, if_neg n_ah_r1.symm, zi_r, zmn_i, if_neg (fun e => absurd (hrj 1 3 (by decide) (by decide) e) (by decide)), if_neg (fun e => absurd (hrj 1 2 (by decide) (by decide) e) (by decide)), if_pos rfl]
  have fr2k : zk (zsi (zsr (zsi (zsr (zw (zsr (zmn (zsr (zw (zsr (zw M a1 5 50) x 3 (some a1)) a2 5 50) x 4 (some a2)) q r 50) x 5 (some q)) ah 9 8) x 6 (some ah)) x 0 (nI D)) x 1 (some p)) x 2 n) (r 2) = 5 := by rw [zk_i, zk_r, zk_i, zk_r, zk_w, if_neg n_ah_r2.symm, zk_r, zmn_k, if_neg (fun e => absurd (hrj 2 3 (by decide) (by decide) e) (by decide)), if_pos rfl]
  have fr2n : zn (zsi (zsr (zsi (zsr (zw (zsr (zmn (zsr (zw (zsr (zw M a1 5 50) x 3 (some a1)) a2 5 50) x 4 (some a2)) q r 50) x 5 (some q)) ah 9 8) x 6 (some ah)) x 0 (nI D)) x 1 (some p)) x 2 n) (r 2) = 50 := by rw [zn_i, zn_r, zn_i, zn_r, zn_w, if_neg n_ah_r2.symm, zn_r, zmn_n, if_neg (fun e => absurd (hrj 2 3 (by decide) (by decide) e) (by decide)), if_pos rfl]
  have fr2i : ∀ j, zi (zsi (zsr (zsi (zsr (zw (zsr (zmn (zsr (zw (zsr (zw M a1 5 50) x 3 (some a1)) a2 5 50) x 4 (some a2)) q r 50) x 5 (some q)) ah 9 8) x 6 (some ah)) x 0 (nI D)) x 1 (some p)) x 2 n) (r 2) j = 0 := fun j => by rw [zi_i, if_neg (fun z => (n_r_x 2 (by decide)) z.1), zi_r, zi_i, if_neg (fun z => (n_r_x 2 (by decide)) z.1), zi_r, zi_w, if_neg n_ah_r2.symm, zi_r, zmn_i, if_neg (fun e => absurd (hrj 2 3 (by decide) (by decide) e) (by decide)), if_pos rfl]
  have fr3k : zk (zsi (zsr (zsi (zsr (zw (zsr (zmn (zsr (zw (zsr (zw M a1 5 50) x 3 (some a1)) a2 5 50) x 4 (some a2)) q r 50) x 5 (some q)) ah 9 8) x 6 (some ah)) x 0 (nI D)) x 1 (some p)) x 2 n) (r 3) = 5 := by rw [zk_i, zk_r, zk_i, zk_r, zk_w, if_neg n_ah_r3.symm, zk_r, zmn_k, if_pos rfl]
  have fr3n : zn (zsi (zsr (zsi (zsr (zw (zsr (zmn (zsr (zw (zsr (zw M a1 5 50) x 3 (some a1)) a2 5 50) x 4 (some a2)) q r 50) x 5 (some q)) ah 9 8) x 6 (some ah)) x 0 (nI D)) x 1 (some p)) x 2 n) (r 3) = 50 := by rw [zn_i, zn_r, zn_i, zn_r, zn_w, if_neg n_ah_r3.symm, zn_r, zmn_n, if_pos rfl]
  have fr3i : ∀ j, zi (zsi (zsr (zsi (zsr (zw (zsr (zmn (zsr (zw (zsr (zw M a1 5 50) x 3 (some a1)) a2 5 50) x 4 (some a2)) q r 50) x 5 (some q)) ah 9 8) x 6 (some ah)) x 0 (nI D)) x 1 (some p)) x 2 n) (r 3) j = 0 := fun j => by rw [zi_i, if_neg (fun z => (n_r_x 3 (by decide)) z.1), zi_r, zi_i, if_neg (fun z => (n_r_x 3 (by decide)) z.1), zi_r, zi_w, if_neg n_ah_r3.symm, zi_r, zmn_i, if_pos rfl]
  have fhk : zk (zsi (zsr (zsi (zsr (zw (zsr (zmn (zsr (zw (zsr (zw M a1 5 50) x 3 (some a1)) a2 5 50) x 4 (some a2)) q r 50) x 5 (some q)) ah 9 8) x 6 (some ah)) x 0 (nI D)) x 1 (some p)) x 2 n) ah = 9 := by rw [zk_i, zk_r, zk_i, zk_r, zk_w, if_pos rfl]
  have fhn : zn (zsi (zsr (zsi (zsr (zw (zsr (zmn (zsr (zw (zsr (zw M a1 5 50) x 3 (some a1)) a2 5 50) x 4 (some a2)) q r 50) x 5 (some q)) ah 9 8) x 6 (some ah)) x 0 (nI D)) x 1 (some p)) x 2 n) ah = 8 := by rw [zn_i, zn_r, zn_i, zn_r, zn_w, if_pos rfl]
  have fxk : zk (zsi (zsr (zsi (zsr (zw (zsr (zmn (zsr (zw (zsr (zw M a1 5 50) x 3 (some a1)) a2 5 50) x 4 (some a2)) q r 50) x 5 (some q)) ah 9 8) x 6 (some ah)) x 0 (nI D)) x 1 (some p)) x 2 n) x = 1 := kx4
  have fx0 : zi (zsi (zsr (zsi (zsr (zw (zsr (zmn (zsr (zw (zsr (zw M a1 5 50) x 3 (some a1)) a2 5 50) x 4 (some a2)) q r 50) x 5 (some q)) ah 9 8) x 6 (some ah)) x 0 (nI D)) x 1 (some p)) x 2 n) x 0 = nI D := by rw [zi_i, if_neg (fun z => absurd z.2 (by decide)), zi_r, zi_i, if_pos ⟨rfl, rfl⟩]
  have fx1 : zr (zsi (zsr (zsi (zsr (zw (zsr (zmn (zsr (zw (zsr (zw M a1 5 50) x 3 (some a1)) a2 5 50) x 4 (some a2)) q r 50) x 5 (some q)) ah 9 8) x 6 (some ah)) x 0 (nI D)) x 1 (some p)) x 2 n) x 1 = some p := by rw [zr_i, zr_r, if_pos ⟨rfl, rfl⟩]
  have fx2 : zi (zsi (zsr (zsi (zsr (zw (zsr (zmn (zsr (zw (zsr (zw M a1 5 50) x 3 (some a1)) a2 5 50) x 4 (some a2)) q r 50) x 5 (some q)) ah 9 8) x 6 (some ah)) x 0 (nI D)) x 1 (some p)) x 2 n) x 2 = n := by rw [zi_i, if_pos ⟨rfl, rfl⟩]
  have fx3 : zr (zsi (zsr (zsi (zsr (zw (zsr (zmn (zsr (zw (zsr (zw M a1 5 50) x 3 (some a1)) a2 5 50) x 4 (some a2)) q r 50) x 5 (some q)) ah 9 8) x 6 (some ah)) x 0 (nI D)) x 1 (some p)) x 2 n) x 3 = some a1 := by rw [zr_i, zr_r, if_neg (fun z => absurd z.2 (by decide)), zr_i, zr_r, if_neg (fun z => absurd z.2 (by decide)), zr_w, if_neg (n_ah_x).symm, zr_r, if_neg (fun z => absurd z.2 (by decide)), zmn_r, if_neg (fun z => (n_q_x).symm z.1), if_neg (fun z => (n_q_x).symm z.1), if_neg (fun z => (n_q_x).symm z.1), if_neg (fun z => (n_q_x).symm z.1), if_neg (n_r_x 3 (by decide)).symm, if_neg (n_r_x 2 (by decide)).symm, if_neg (n_r_x 1 (by decide)).symm, if_neg (n_r_x 0 (by decide)).symm, if_neg (n_q_x).symm, zr_r, if_neg (fun z => absurd z.2 (by decide)), zr_w, if_neg (n_a2_x).symm, zr_r, if_pos ⟨rfl, rfl⟩]
  have fx4 : zr (zsi (zsr (zsi (zsr (zw (zsr (zmn (zsr (zw (zsr (zw M a1 5 50) x 3 (some a1)) a2 5 50) x 4 (some a2)) q r 50) x 5 (some q)) ah 9 8) x 6 (some ah)) x 0 (nI D)) x 1 (some p)) x 2 n) x 4 = some a2 := by rw [zr_i, zr_r, if_neg (fun z => absurd z.2 (by decide)), zr_i, zr_r, if_neg (fun z => absurd z.2 (by decide)), zr_w, if_neg (n_ah_x).symm, zr_r, if_neg (fun z => absurd z.2 (by decide)), zmn_r, if_neg (fun z => (n_q_x).symm z.1), if_neg (fun z => (n_q_x).symm z.1), if_neg (fun z => (n_q_x).symm z.1), if_neg (fun z => (n_q_x).symm z.1), if_neg (n_r_x 3 (by decide)).symm, if_neg (n_r_x 2 (by decide)).symm, if_neg (n_r_x 1 (by decide)).symm, if_neg (n_r_x 0 (by decide)).symm, if_neg (n_q_x).symm, zr_r, if_pos ⟨rfl, rfl⟩]
  have fx5 : zr (zsi (zsr (zsi (zsr (zw (zsr (zmn (zsr (zw (zsr (zw M a1 5 50) x 3 (some a1)) a2 5 50) x 4 (some a2)) q r 50) x 5 (some q)) ah 9 8) x 6 (some ah)) x 0 (nI D)) x 1 (some p)) x 2 n) x 5 = some q := by rw [zr_i, zr_r, if_neg (fun z => absurd z.2 (by decide)), zr_i, zr_r, if_neg (fun z => absurd z.2 (by decide)), zr_w, if_neg (n_ah_x).symm, zr_r, if_pos ⟨rfl, rfl⟩]
  have fx6 : zr (zsi (zsr (zsi (zsr (zw (zsr (zmn (zsr (zw (zsr (zw M a1 5 50) x 3 (some a1)) a2 5 50) x 4 (some a2)) q r 50) x 5 (some q)) ah 9 8) x 6 (some ah)) x 0 (nI D)) x 1 (some p)) x 2 n) x 6 = some ah := by rw [zr_i, zr_r, if_neg (fun z => absurd z.2 (by decide)), zr_i, zr_r, if_pos ⟨rfl, rfl⟩]
  have ffr : ∀ y, ¬ zk M y = 0 → y ≠ x → zsame M (zsi (zsr (zsi (zsr (zw (zsr (zmn (zsr (zw (zsr (zw M a1 5 50) x 3 (some a1)) a2 5 50) x 4 (some a2)) q r 50) x 5 (some q)) ah 9 8) x 6 (some ah)) x 0 (nI D)) x 1 (some p)) x 2 n) y := fun y hy hyx => by
    have m1 : y ≠ a1 := fun e => hy (e ▸ ha1)
    have m2 : y ≠ a2 := fun e => hy (e ▸ ha2)
    have m3 : y ≠ q := fun e => hy (e ▸ hq)
    have m4 : y ≠ ah := fun e => hy (e ▸ hah)
    have mr : ∀ i, i < 4 → y ≠ r i := fun i hi e => hy (e ▸ (hq4 i hi).1)
    have s1 : zsame M (zsr (zw (zsr (zw M a1 5 50) x 3 (some a1)) a2 5 50) x 4 (some a2)) y := (((zsame.w m1).tr (zsame.r hyx)).tr (zsame.w m2)).tr (zsame.r hyx)
    have s2 : zsame (zsr (zw (zsr (zw M a1 5 50) x 3 (some a1)) a2 5 50) x 4 (some a2)) (zmn (zsr (zw (zsr (zw M a1 5 50) x 3 (some a1)) a2 5 50) x 4 (some a2)) q r 50) y := zsame.mn m3 mr
    exact s1.tr (s2.tr ((((((zsame.r hyx).tr (zsame.w m4)).tr (zsame.r hyx)).tr (zsame.i hyx)).tr (zsame.r hyx)).tr (zsame.i hyx)))
  generalize (zsi (zsr (zsi (zsr (zw (zsr (zmn (zsr (zw (zsr (zw M a1 5 50) x 3 (some a1)) a2 5 50) x 4 (some a2)) q r 50) x 5 (some q)) ah 9 8) x 6 (some ah)) x 0 (nI D)) x 1 (some p)) x 2 n) = M5 at *
  refine lp_X0_f1 K fxk fx3 f1k f1n (fun M6 h6 => ?_) 50 0 rfl M5 ⟨fun _ _ => zsame.rf, rfl, rfl, fun j => by rw [if_neg (by omega)]⟩
  obtain ⟨u1, u2, u3, u4⟩ := h6
  refine zq_new K dX0_init_79 zclX1 zc_X0_23 (by decide) (by decide) (Nat.le_of_ble_eq_true rfl) (Nat.le_refl _) (fun f hf => ?_)
  have hf0 : zk M6 f = 0 := hf
  refine zq_dup K dX0_init_82 rfl ?_
  refine zq_iload_n K dX0_init_83 rfl rfl ?_
  refine zq_iconst K dX0_init_84 (v := nI 0) (by decide) ?_
  refine zq_bipush K dX0_init_85 (v := nI 8) (by decide) ?_
  refine zq_iload K dX0_init_87 rfl ?_
  refine zq_iconst K dX0_init_89 (v := nI 0) (by decide) ?_
  refine zq_callI (As := [.int (nI (D)), .int (nI (0)), .int (nI (8)), .int (o), .int (nI (0))]) K dX0_init_90 zyX1_init rfl rfl zm_X0_40 ziX1_init (by decide) rfl rfl (Nat.le_of_ble_eq_true rfl) (Nat.le_of_ble_eq_true rfl) (ct_X1_init (show zk (zw M6 f 2 0) f = 2 from by rw [zk_w, if_pos rfl]) (nI D) (nI 0) (nI 8) o (nI 0)) (zone_r ?_) zone_x (Nat.le_refl _)
  refine zq_astore K dX0_init_93 (by decide) ?_
  refine zq_iconst K dX0_init_95 (v := nI 0) (by decide) ?_
  refine zq_istore K dX0_init_96 (by decide) ?_
  have nf : ∀ y, ¬ zk M5 y = 0 → f ≠ y := fun y hy e => by
    by_cases e1 : y = a1
    · rw [e, e1, u2, f1k] at hf0; exact absurd hf0 (by decide)
    · rw [e, (u1 y e1).1] at hf0; exact hy hf0
  have s7 : ∀ y, y ≠ f → zsame M6 (zsi (zsi (zsi (zsi (zsi (zw M6 f 2 0) f 0 (nI D)) f 1 (nI 0)) f 2 (nI 8)) f 3 o) f 4 (nI 0)) y := fun y hy => (zsame.w hy).tr ((zsame.i hy).tr ((zsame.i hy).tr ((zsame.i hy).tr ((zsame.i hy).tr (zsame.i hy)))))
  have nxf : x ≠ f := (nf x (by rw [fxk]; decide)).symm
  have nhf : ah ≠ f := (nf ah (by rw [fhk]; decide)).symm
  have nh1 : ah ≠ a1 := n_ah_a1
  have nx1 : x ≠ a1 := n_a1_x.symm
  have q0 : zk (zsi (zsi (zsi (zsi (zsi (zw M6 f 2 0) f 0 (nI D)) f 1 (nI 0)) f 2 (nI 8)) f 3 o) f 4 (nI 0)) f = 2 ∧ zi (zsi (zsi (zsi (zsi (zsi (zw M6 f 2 0) f 0 (nI D)) f 1 (nI 0)) f 2 (nI 8)) f 3 o) f 4 (nI 0)) f 0 = nI D ∧ zi (zsi (zsi (zsi (zsi (zsi (zw M6 f 2 0) f 0 (nI D)) f 1 (nI 0)) f 2 (nI 8)) f 3 o) f 4 (nI 0)) f 1 = nI 0 ∧ zi (zsi (zsi (zsi (zsi (zsi (zw M6 f 2 0) f 0 (nI D)) f 1 (nI 0)) f 2 (nI 8)) f 3 o) f 4 (nI 0)) f 2 = nI 8 ∧ zi (zsi (zsi (zsi (zsi (zsi (zw M6 f 2 0) f 0 (nI D)) f 1 (nI 0)) f 2 (nI 8)) f 3 o) f 4 (nI 0)) f 3 = o ∧ zi (zsi (zsi (zsi (zsi (zsi (zw M6 f 2 0) f 0 (nI D)) f 1 (nI 0)) f 2 (nI 8)) f 3 o) f 4 (nI 0)) f 4 = nI 0 := ⟨by rw [zk_i, zk_i, zk_i, zk_i, zk_i, zk_w, if_pos rfl], by rw [zi_i, if_neg (fun z => absurd z.2 (by decide)), zi_i, if_neg (fun z => absurd z.2 (by decide)), zi_i, if_neg (fun z => absurd z.2 (by decide)), zi_i, if_neg (fun z => absurd z.2 (by decide)), zi_i, if_pos ⟨rfl, rfl⟩], by rw [zi_i, if_neg (fun z => absurd z.2 (by decide)), zi_i, if_neg (fun z => absurd z.2 (by decide)), zi_i, if_neg (fun z => absurd z.2 (by decide)), zi_i, if_pos ⟨rfl, rfl⟩], by rw [zi_i, if_neg (fun z => absurd z.2 (by decide)), zi_i, if_neg (fun z => absurd z.2 (by decide)), zi_i, if_pos ⟨rfl, rfl⟩], by rw [zi_i, if_neg (fun z => absurd z.2 (by decide)), zi_i, if_pos ⟨rfl, rfl⟩], by rw [zi_i, if_pos ⟨rfl, rfl⟩]⟩
  generalize (zsi (zsi (zsi (zsi (zsi (zw M6 f 2 0) f 0 (nI D)) f 1 (nI 0)) f 2 (nI 8)) f 3 o) f 4 (nI 0)) = M7 at *
  have t7 : ∀ y, y ≠ a1 → y ≠ f → zsame M5 M7 y := fun y h1 h2 => (u1 y h1).tr (s7 y h2)
  refine lp_X0_f2 K (((t7 x nx1 nxf).1).trans fxk) (((t7 x nx1 nxf).2.2.2.1 6).trans fx6) (((t7 ah nh1 nhf).1).trans fhk) (((t7 ah nh1 nhf).2.1).trans fhn) q0.1 (fun M8 h8 => ?_) 8 0 rfl M7 ⟨fun _ _ => zsame.rf, rfl, rfl, fun j => by rw [if_neg (by omega)]⟩
  obtain ⟨w1, w2, w3, w4⟩ := h8
  have t8 : ∀ y, y ≠ a1 → y ≠ f → y ≠ ah → zsame M5 M8 y := fun y h1 h2 h3 => (t7 y h1 h2).tr (w1 y h3)
  have nf1 : f ≠ a1 := nf a1 (by rw [f1k]; decide)
  have nf2 : f ≠ a2 := nf a2 (by rw [f2k]; decide)
  have nfq : f ≠ q := nf q (by rw [fqk]; decide)
  have nfr0 : f ≠ r 0 := nf (r 0) (by rw [fr0k]; decide)
  have nfr1 : f ≠ r 1 := nf (r 1) (by rw [fr1k]; decide)
  have nfr2 : f ≠ r 2 := nf (r 2) (by rw [fr2k]; decide)
  have nfr3 : f ≠ r 3 := nf (r 3) (by rw [fr3k]; decide)
  have hfM : zk M f = 0 := by
    by_cases e : zk M f = 0
    · exact e
    · exact absurd rfl (nf f (by rw [(ffr f e nxf.symm).1]; exact e))
  have s1 := (s7 a1 nf1.symm).tr (w1 a1 nh1.symm)
  have sf := w1 f nhf.symm
  have sx := t8 x nx1 nxf n_ah_x.symm
  have s2 := t8 a2 n_a2_a1 nf2.symm n_ah_a2.symm
  have sq := t8 q n_q_a1 nfq.symm n_ah_q.symm
  have sr0 := t8 (r 0) (n_r_a1 0 (by decide)) nfr0.symm n_ah_r0.symm
  have sr1 := t8 (r 1) (n_r_a1 1 (by decide)) nfr1.symm n_ah_r1.symm
  have sr2 := t8 (r 2) (n_r_a1 2 (by decide)) nfr2.symm n_ah_r2.symm
  have sr3 := t8 (r 3) (n_r_a1 3 (by decide)) nfr3.symm n_ah_r3.symm
  have hin : ∀ i j, i < 9 → j < 9 → (fun i => if i = 0 then a1 else if i = 1 then a2 else if i = 2 then q else if i = 3 then ah else if i = 4 then f else r (i - 5)) i = (fun i => if i = 0 then a1 else if i = 1 then a2 else if i = 2 then q else if i = 3 then ah else if i = 4 then f else r (i - 5)) j → i = j := fun i j hi hj e => match i, j, hi, hj, e with
    | 0, 0, _, _, e => rfl
    | 0, 1, _, _, e => absurd e (n_a2_a1).symm
    | 0, 2, _, _, e => absurd e (n_q_a1).symm
    | 0, 3, _, _, e => absurd e (n_ah_a1).symm
    | 0, 4, _, _, e => absurd e nf1.symm
    | 0, 5, _, _, e => absurd e (n_r_a1 0 (by decide)).symm
    | 0, 6, _, _, e => absurd e (n_r_a1 1 (by decide)).symm
    | 0, 7, _, _, e => absurd e (n_r_a1 2 (by decide)).symm
    | 0, 8, _, _, e => absurd e (n_r_a1 3 (by decide)).symm
    | 1, 0, _, _, e => absurd e (n_a2_a1)
    | 1, 1, _, _, e => rfl
    | 1, 2, _, _, e => absurd e (n_q_a2).symm
    | 1, 3, _, _, e => absurd e (n_ah_a2).symm
    | 1, 4, _, _, e => absurd e nf2.symm
    | 1, 5, _, _, e => absurd e (n_r_a2 0 (by decide)).symm
    | 1, 6, _, _, e => absurd e (n_r_a2 1 (by decide)).symm
    | 1, 7, _, _, e => absurd e (n_r_a2 2 (by decide)).symm
    | 1, 8, _, _, e => absurd e (n_r_a2 3 (by decide)).symm
    | 2, 0, _, _, e => absurd e (n_q_a1)
    | 2, 1, _, _, e => absurd e (n_q_a2)
    | 2, 2, _, _, e => rfl
    | 2, 3, _, _, e => absurd e (n_ah_q).symm
    | 2, 4, _, _, e => absurd e nfq.symm
    | 2, 5, _, _, e => absurd e (n_r_q 0 (by decide)).symm
    | 2, 6, _, _, e => absurd e (n_r_q 1 (by decide)).symm
    | 2, 7, _, _, e => absurd e (n_r_q 2 (by decide)).symm
    | 2, 8, _, _, e => absurd e (n_r_q 3 (by decide)).symm
    | 3, 0, _, _, e => absurd e (n_ah_a1)
    | 3, 1, _, _, e => absurd e (n_ah_a2)
    | 3, 2, _, _, e => absurd e (n_ah_q)
    | 3, 3, _, _, e => rfl
    | 3, 4, _, _, e => absurd e nhf
    | 3, 5, _, _, e => absurd e n_ah_r0
    | 3, 6, _, _, e => absurd e n_ah_r1
    | 3, 7, _, _, e => absurd e n_ah_r2
    | 3, 8, _, _, e => absurd e n_ah_r3
    | 4, 0, _, _, e => absurd e nf1
    | 4, 1, _, _, e => absurd e nf2
    | 4, 2, _, _, e => absurd e nfq
    | 4, 3, _, _, e => absurd e nhf.symm
    | 4, 4, _, _, e => rfl
    | 4, 5, _, _, e => absurd e nfr0
    | 4, 6, _, _, e => absurd e nfr1
    | 4, 7, _, _, e => absurd e nfr2
    | 4, 8, _, _, e => absurd e nfr3
    | 5, 0, _, _, e => absurd e (n_r_a1 0 (by decide))
    | 5, 1, _, _, e => absurd e (n_r_a2 0 (by decide))
    | 5, 2, _, _, e => absurd e (n_r_q 0 (by decide))
    | 5, 3, _, _, e => absurd e n_ah_r0.symm
    | 5, 4, _, _, e => absurd e nfr0.symm
    | 5, 5, _, _, e => rfl
    | 5, 6, _, _, e => absurd e (fun e => absurd (hrj 0 1 (by decide) (by decide) e) (by decide))
    | 5, 7, _, _, e => absurd e (fun e => absurd (hrj 0 2 (by decide) (by decide) e) (by decide))
    | 5, 8, _, _, e => absurd e (fun e => absurd (hrj 0 3 (by decide) (by decide) e) (by decide))
    | 6, 0, _, _, e => absurd e (n_r_a1 1 (by decide))
    | 6, 1, _, _, e => absurd e (n_r_a2 1 (by decide))
    | 6, 2, _, _, e => absurd e (n_r_q 1 (by decide))
    | 6, 3, _, _, e => absurd e n_ah_r1.symm
    | 6, 4, _, _, e => absurd e nfr1.symm
    | 6, 5, _, _, e => absurd e (fun e => absurd (hrj 1 0 (by decide) (by decide) e) (by decide))
    | 6, 6, _, _, e => rfl
    | 6, 7, _, _, e => absurd e (fun e => absurd (hrj 1 2 (by decide) (by decide) e) (by decide))
    | 6, 8, _, _, e => absurd e (fun e => absurd (hrj 1 3 (by decide) (by decide) e) (by decide))
    | 7, 0, _, _, e => absurd e (n_r_a1 2 (by decide))
    | 7, 1, _, _, e => absurd e (n_r_a2 2 (by decide))
    | 7, 2, _, _, e => absurd e (n_r_q 2 (by decide))
    | 7, 3, _, _, e => absurd e n_ah_r2.symm
    | 7, 4, _, _, e => absurd e nfr2.symm
    | 7, 5, _, _, e => absurd e (fun e => absurd (hrj 2 0 (by decide) (by decide) e) (by decide))
    | 7, 6, _, _, e => absurd e (fun e => absurd (hrj 2 1 (by decide) (by decide) e) (by decide))
    | 7, 7, _, _, e => rfl
    | 7, 8, _, _, e => absurd e (fun e => absurd (hrj 2 3 (by decide) (by decide) e) (by decide))
    | 8, 0, _, _, e => absurd e (n_r_a1 3 (by decide))
    | 8, 1, _, _, e => absurd e (n_r_a2 3 (by decide))
    | 8, 2, _, _, e => absurd e (n_r_q 3 (by decide))
    | 8, 3, _, _, e => absurd e n_ah_r3.symm
    | 8, 4, _, _, e => absurd e nfr3.symm
    | 8, 5, _, _, e => absurd e (fun e => absurd (hrj 3 0 (by decide) (by decide) e) (by decide))
    | 8, 6, _, _, e => absurd e (fun e => absurd (hrj 3 1 (by decide) (by decide) e) (by decide))
    | 8, 7, _, _, e => absurd e (fun e => absurd (hrj 3 2 (by decide) (by decide) e) (by decide))
    | 8, 8, _, _, e => rfl
    | i + 9, _, hi, _, _ => absurd hi (by omega)
    | _, j + 9, _, hj, _ => absurd hj (by omega)
  have hfre : ∀ i, i < 9 → zk M ((fun i => if i = 0 then a1 else if i = 1 then a2 else if i = 2 then q else if i = 3 then ah else if i = 4 then f else r (i - 5)) i) = 0 ∧ (fun i => if i = 0 then a1 else if i = 1 then a2 else if i = 2 then q else if i = 3 then ah else if i = 4 then f else r (i - 5)) i ≠ x := fun i hi => match i, hi with
    | 0, _ => ⟨ha1, n_a1_x⟩
    | 1, _ => ⟨ha2, n_a2_x⟩
    | 2, _ => ⟨hq, n_q_x⟩
    | 3, _ => ⟨hah, n_ah_x⟩
    | 4, _ => ⟨hfM, nxf.symm⟩
    | 5, _ => ⟨(hq4 0 (by decide)).1, n_r_x 0 (by decide)⟩
    | 6, _ => ⟨(hq4 1 (by decide)).1, n_r_x 1 (by decide)⟩
    | 7, _ => ⟨(hq4 2 (by decide)).1, n_r_x 2 (by decide)⟩
    | 8, _ => ⟨(hq4 3 (by decide)).1, n_r_x 3 (by decide)⟩
    | i + 9, hi => absurd hi (by omega)
  have fin : zDi M M8 x (fun i => if i = 0 then a1 else if i = 1 then a2 else if i = 2 then q else if i = 3 then ah else if i = 4 then f else r (i - 5)) D (some p) n o := by
    refine ⟨⟨hfre, hin, fun y hy hyx => (ffr y hy hyx).tr (t8 y (fun e => hy (e ▸ ha1)) (fun e => hy (e ▸ hfM)) (fun e => hy (e ▸ hah)))⟩, ⟨sx.1.trans fxk, (sx.2.2.1 0).trans fx0, (sx.2.2.2.1 1).trans fx1, (sx.2.2.1 2).trans fx2, (sx.2.2.2.1 3).trans fx3, (sx.2.2.2.1 4).trans fx4, (sx.2.2.2.1 5).trans fx5, (sx.2.2.2.1 6).trans fx6⟩, ⟨s1.1.trans (u2.trans f1k), s1.2.1.trans (u3.trans f1n), fun k hk => (s1.2.2.1 k).trans (by rw [u4, if_pos hk])⟩, ⟨s2.1.trans f2k, s2.2.1.trans f2n, fun k _ => (s2.2.2.1 k).trans (f2i k)⟩, ⟨sq.1.trans fqk, sq.2.1.trans fqn, ?_⟩, ?_, ⟨w2.trans ((t7 ah nh1 nhf).1.trans fhk), w3.trans ((t7 ah nh1 nhf).2.1.trans fhn), fun h hh => (w4 h).trans (if_pos hh)⟩, ⟨sf.1.trans q0.1, (sf.2.2.1 0).trans q0.2.1, (sf.2.2.1 1).trans q0.2.2.1, (sf.2.2.1 2).trans q0.2.2.2.1, (sf.2.2.1 3).trans q0.2.2.2.2.1, (sf.2.2.1 4).trans q0.2.2.2.2.2⟩⟩
    · exact fun c hc => match c, hc with
      | 0, _ => (sq.2.2.2.1 0).trans fq0
      | 1, _ => (sq.2.2.2.1 1).trans fq1
      | 2, _ => (sq.2.2.2.1 2).trans fq2
      | 3, _ => (sq.2.2.2.1 3).trans fq3
      | c + 4, hc => absurd hc (by omega)
    · exact fun c hc => match c, hc with
      | 0, _ => ⟨sr0.1.trans fr0k, sr0.2.1.trans fr0n, fun k _ => (sr0.2.2.1 k).trans (fr0i k)⟩
      | 1, _ => ⟨sr1.1.trans fr1k, sr1.2.1.trans fr1n, fun k _ => (sr1.2.2.1 k).trans (fr1i k)⟩
      | 2, _ => ⟨sr2.1.trans fr2k, sr2.2.1.trans fr2n, fun k _ => (sr2.2.2.1 k).trans (fr2i k)⟩
      | 3, _ => ⟨sr3.1.trans fr3k, sr3.2.1.trans fr3n, fun k _ => (sr3.2.2.1 k).trans (fr3i k)⟩
      | c + 4, hc => absurd hc (by omega)
  exact zq_ret K dX0_init_120 rfl ⟨rfl, _, fin⟩
end
section
/-! the class: a new directory among the others -/
theorem zBg_1 (A : ZA) (d : Nat) (o : Int32) : ∀ k, (zBg A d o k).1 = A.1
  | 0 => rfl
  | k + 1 => zBg_1 A d o k
theorem zBg_n (A : ZA) (d : Nat) (o : Int32) {i : Nat} (h3 : i ≠ 3) (h10 : i ≠ 10) (h11 : i ≠ 11) (h12 : i ≠ 12) : ∀ k, (zBg A d o k).2 i = A.2 i
  | 0 => by rw [zBg, zsa_n _ _ _ _ _ h3]
  | k + 1 => by rw [zBg, zsa_n _ _ _ _ _ h12, zsa_n _ _ _ _ _ h11, zsa_n _ _ _ _ _ h10]; exact zBg_n A d o h3 h10 h11 h12 k
theorem zBg_3 (A : ZA) (d : Nat) (o : Int32) (j : Nat) : ∀ k, (zBg A d o k).2 3 j = if j = d then nI 1 else A.2 3 j
  | 0 => by
    rw [zBg, zsa_2]
    exact ite_congr (propext ⟨fun z => z.2, fun z => ⟨rfl, z⟩⟩) (fun _ => rfl) (fun _ => rfl)
  | k + 1 => by rw [zBg, zsa_n _ _ _ _ _ (by decide), zsa_n _ _ _ _ _ (by decide), zsa_n _ _ _ _ _ (by decide)]; exact zBg_3 A d o j k
theorem zBg_10 (A : ZA) (d : Nat) (o : Int32) (j : Nat) : ∀ k, (zBg A d o k).2 10 j = if 8 * d ≤ j ∧ j < 8 * d + k then (if j = 8 * d then nI 8 else nI 0) else A.2 10 j
  | 0 => by rw [zBg, zsa_n _ _ _ _ _ (by decide), if_neg (by omega)]
  | k + 1 => by
    rw [zBg, zsa_n _ _ _ _ _ (by decide), zsa_n _ _ _ _ _ (by decide), zsa_2]
    by_cases e : j = 8 * d + k
    · rw [if_pos ⟨rfl, e⟩, if_pos (show 8 * d ≤ j ∧ j < 8 * d + (k + 1) by omega)]
      exact ite_congr (propext (by omega)) (fun _ => rfl) (fun _ => rfl)
    · rw [if_neg (fun z => e z.2), zBg_10 A d o j k]
      exact ite_congr (propext (by omega)) (fun _ => rfl) (fun _ => rfl)
theorem zBg_11 (A : ZA) (d : Nat) (o : Int32) (j : Nat) : ∀ k, (zBg A d o k).2 11 j = if 8 * d ≤ j ∧ j < 8 * d + k then (if j = 8 * d then o else -1) else A.2 11 j
  | 0 => by rw [zBg, zsa_n _ _ _ _ _ (by decide), if_neg (by omega)]
  | k + 1 => by
    rw [zBg, zsa_n _ _ _ _ _ (by decide), zsa_2]
    by_cases e : j = 8 * d + k
    · rw [if_pos ⟨rfl, e⟩, if_pos (show 8 * d ≤ j ∧ j < 8 * d + (k + 1) by omega)]
      exact ite_congr (propext (by omega)) (fun _ => rfl) (fun _ => rfl)
    · rw [if_neg (fun z => e z.2), zsa_n _ _ _ _ _ (by decide), zBg_11 A d o j k]
      exact ite_congr (propext (by omega)) (fun _ => rfl) (fun _ => rfl)
theorem zBg_12 (A : ZA) (d : Nat) (o : Int32) (j : Nat) : ∀ k, (zBg A d o k).2 12 j = if 8 * d ≤ j ∧ j < 8 * d + k then nI 0 else A.2 12 j
  | 0 => by rw [zBg, zsa_n _ _ _ _ _ (by decide), if_neg (by omega)]
  | k + 1 => by
    rw [zBg, zsa_2]
    by_cases e : j = 8 * d + k
    · rw [if_pos ⟨rfl, e⟩, if_pos (by omega)]
    · rw [if_neg (fun z => e z.2), zsa_n _ _ _ _ _ (by decide), zsa_n _ _ _ _ _ (by decide), zBg_12 A d o j k]
      exact ite_congr (propext (by omega)) (fun _ => rfl) (fun _ => rfl)
/-- the addresses with the new directory's -/
def zWn (W : Nat → Nat → Nat) (x : Nat) (nu : Nat → Nat) (D i j : Nat) : Nat := match i with
  | 3 => if j = D then x else W 3 j
  | 4 => if j = D then nu 0 else W 4 j
  | 5 => if j = D then nu 1 else W 5 j
  | 6 => if j = D then nu 2 else W 6 j
  | 7 => if j / 4 = D then nu (5 + j % 4) else W 7 j
  | 8 => if j = D then nu 3 else W 8 j
  | 9 => if j = 8 * D then nu 4 else W 9 j
  | i => W i j
/-- the state with a new directory D, at p with the name n -/
def zNd (B : ZA) (D p : Nat) (n o : Int32) : ZA := zBg (zsa (zsa B 4 D (nI p)) 5 D n) D o 8
/-- nothing is left of D -/
def zNv (B : ZA) (D : Nat) : Prop := ∀ k, k < 50 → B.2 6 (50 * D + k) = -1 ∧ B.2 7 (50 * D + k) = 0 ∧ ∀ c, c < 4 → B.2 13 (600 * c + (50 * D + k)) = 0
/-- what is of the new directory -/
def zIn (D i j : Nat) : Prop := match i with
  | 3 => j = D
  | 4 => j = D
  | 5 => j = D
  | 6 => j = D
  | 7 => j / 4 = D
  | 8 => j = D
  | 9 => j = 8 * D
  | _ => False
/-- which address it has: 0 the directory -/
def zKp (i j : Nat) : Nat := match i with
  | 3 => 0
  | 4 => 1
  | 5 => 2
  | 6 => 3
  | 7 => 6 + j % 4
  | 8 => 4
  | _ => 5
theorem zIn_k {D i j : Nat} (h : zIn D i j) : (i = 3 ∧ j = D ∧ zKp i j = 0) ∨ (i = 4 ∧ j = D ∧ zKp i j = 1) ∨ (i = 5 ∧ j = D ∧ zKp i j = 2) ∨ (i = 6 ∧ j = D ∧ zKp i j = 3) ∨ (i = 7 ∧ j / 4 = D ∧ zKp i j = 6 + j % 4) ∨ (i = 8 ∧ j = D ∧ zKp i j = 4) ∨ (i = 9 ∧ j = 8 * D ∧ zKp i j = 5) := by
  unfold zIn at h
  split at h
  · exact Or.inl ⟨rfl, h, rfl⟩
  · exact Or.inr (Or.inl ⟨rfl, h, rfl⟩)
  · exact Or.inr (Or.inr (Or.inl ⟨rfl, h, rfl⟩))
  · exact Or.inr (Or.inr (Or.inr (Or.inl ⟨rfl, h, rfl⟩)))
  · exact Or.inr (Or.inr (Or.inr (Or.inr (Or.inl ⟨rfl, h, rfl⟩))))
  · exact Or.inr (Or.inr (Or.inr (Or.inr (Or.inr (Or.inl ⟨rfl, h, rfl⟩)))))
  · exact Or.inr (Or.inr (Or.inr (Or.inr (Or.inr (Or.inr (⟨rfl, h, rfl⟩))))))
  · exact h.elim
theorem zIn_inj {D i j i' j' : Nat} (h1 : zIn D i j) (h2 : zIn D i' j') (e : zKp i j = zKp i' j') : i = i' ∧ j = j' := by
  have g1 := zIn_k h1
  have g2 := zIn_k h2
  omega
theorem zWn_in {W : Nat → Nat → Nat} {x : Nat} {nu : Nat → Nat} {D i j : Nat} (h : zIn D i j) : zWn W x nu D i j = (if zKp i j = 0 then x else nu (zKp i j - 1)) ∧ zKp i j < 10 := by
  unfold zIn at h
  split at h <;> first | exact h.elim | skip
  · exact ⟨(if_pos h).trans rfl, show 0 < 10 by decide⟩
  · exact ⟨(if_pos h).trans rfl, show 1 < 10 by decide⟩
  · exact ⟨(if_pos h).trans rfl, show 2 < 10 by decide⟩
  · exact ⟨(if_pos h).trans rfl, show 3 < 10 by decide⟩
  · exact ⟨(if_pos h).trans (by rw [show zKp 7 j = 6 + j % 4 from rfl, if_neg (by omega)]; exact congrArg nu (by omega)), by rw [show zKp 7 j = 6 + j % 4 from rfl]; omega⟩
  · exact ⟨(if_pos h).trans rfl, show 4 < 10 by decide⟩
  · exact ⟨(if_pos h).trans rfl, show 5 < 10 by decide⟩
theorem zWn_out {W : Nat → Nat → Nat} {x : Nat} {nu : Nat → Nat} {D i j : Nat} (h : ¬ zIn D i j) : zWn W x nu D i j = W i j := by
  unfold zIn at h
  unfold zWn
  split at h <;> first | exact if_neg h | skip
  rfl
theorem zNd_3 (B : ZA) (D p : Nat) (n o : Int32) (j : Nat) : (zNd B D p n o).2 3 j = if j = D then nI 1 else B.2 3 j := zBg_3 _ D o j 8
theorem zNd_10 (B : ZA) (D p : Nat) (n o : Int32) (j : Nat) : (zNd B D p n o).2 10 j = if 8 * D ≤ j ∧ j < 8 * D + 8 then (if j = 8 * D then nI 8 else nI 0) else B.2 10 j := zBg_10 _ D o j 8
theorem zNd_11 (B : ZA) (D p : Nat) (n o : Int32) (j : Nat) : (zNd B D p n o).2 11 j = if 8 * D ≤ j ∧ j < 8 * D + 8 then (if j = 8 * D then o else -1) else B.2 11 j := zBg_11 _ D o j 8
theorem zNd_12 (B : ZA) (D p : Nat) (n o : Int32) (j : Nat) : (zNd B D p n o).2 12 j = if 8 * D ≤ j ∧ j < 8 * D + 8 then nI 0 else B.2 12 j := zBg_12 _ D o j 8
theorem zNd_4 (B : ZA) (D p : Nat) (n o : Int32) (j : Nat) : (zNd B D p n o).2 4 j = if j = D then nI p else B.2 4 j := by
  unfold zNd
  rw [zBg_n _ D o (by decide) (by decide) (by decide) (by decide) 8, zsa_n _ _ _ _ _ (by decide), zsa_2]
  exact ite_congr (propext ⟨fun z => z.2, fun z => ⟨rfl, z⟩⟩) (fun _ => rfl) (fun _ => rfl)
theorem zNd_5 (B : ZA) (D p : Nat) (n o : Int32) (j : Nat) : (zNd B D p n o).2 5 j = if j = D then n else B.2 5 j := by
  unfold zNd
  rw [zBg_n _ D o (by decide) (by decide) (by decide) (by decide) 8, zsa_2]
  exact ite_congr (propext ⟨fun z => z.2, fun z => ⟨rfl, z⟩⟩) (fun _ => rfl) (fun _ => rfl)
theorem zNd_n (B : ZA) (D p : Nat) (n o : Int32) {i : Nat} (h3 : i ≠ 3) (h4 : i ≠ 4) (h5 : i ≠ 5) (h10 : i ≠ 10) (h11 : i ≠ 11) (h12 : i ≠ 12) : (zNd B D p n o).2 i = B.2 i := by
  unfold zNd
  rw [zBg_n _ D o h3 h10 h11 h12 8, zsa_n _ _ _ _ _ h5, zsa_n _ _ _ _ _ h4]
theorem zNd_1 (B : ZA) (D p : Nat) (n o : Int32) : (zNd B D p n o).1 = B.1 := zBg_1 _ D o 8
theorem zNd_val {B : ZA} {D p : Nat} {n o : Int32} {i j : Nat} (hl : ¬ B.2 3 D = 1) (h : zVal (zNd B D p n o) i j) : zIn D i j ∨ (¬ zIn D i j ∧ zVal B i j) := by
  have h3 : ∀ y, (zNd B D p n o).2 3 y = 1 → y ≠ D → B.2 3 y = 1 := fun y hy hn => by rw [zNd_3, if_neg hn] at hy; exact hy
  unfold zVal at h
  split at h
  · by_cases e : j = D
    · exact Or.inl e
    · exact Or.inr ⟨e, h.1, h3 _ h.2 e⟩
  · by_cases e : j = D
    · exact Or.inl e
    · exact Or.inr ⟨e, h.1, h3 _ h.2 e⟩
  · by_cases e : j = D
    · exact Or.inl e
    · exact Or.inr ⟨e, h.1, h3 _ h.2 e⟩
  · by_cases e : j = D
    · exact Or.inl e
    · exact Or.inr ⟨e, h.1, h3 _ h.2 e⟩
  · by_cases e : j / 4 = D
    · exact Or.inl e
    · exact Or.inr ⟨e, h.1, h3 _ h.2 e⟩
  · by_cases e : j = D
    · exact Or.inl e
    · exact Or.inr ⟨e, h.1, h3 _ h.2 e⟩
  · by_cases e : j = 8 * D
    · exact Or.inl e
    · have h4 := h.2.2
      rw [zNd_10] at h4
      by_cases e2 : 8 * D ≤ j ∧ j < 8 * D + 8
      · rw [if_pos e2, if_neg e] at h4
        exact absurd rfl h4
      · rw [if_neg e2] at h4
        exact Or.inr ⟨e, h.1, h3 _ h.2.1 (by omega), h4⟩
  · rename_i g1 g2 g3 g4 g5 g6 g7
    refine Or.inr ⟨?_, ?_⟩
    · unfold zIn
      split <;> first | exact (g1 rfl).elim | exact (g2 rfl).elim | exact (g3 rfl).elim | exact (g4 rfl).elim | exact (g5 rfl).elim | exact (g6 rfl).elim | exact (g7 rfl).elim | exact fun z => z
    · unfold zVal
      split <;> first | exact (g1 rfl).elim | exact (g2 rfl).elim | exact (g3 rfl).elim | exact (g4 rfl).elim | exact (g5 rfl).elim | exact (g6 rfl).elim | exact (g7 rfl).elim | exact h
theorem zC.new {M M2 : ZM} {W : Nat → Nat → Nat} {B : ZA} (hC : zC M W B) (hM : zMw B) {D p x : Nat} {nu : Nat → Nat} {pr : Option Nat} {n o : Int32} (hD : D < 12) (hl : ¬ B.2 3 D = 1) (hx : zk M x = 0) (hdi : zDi (zw M x 1 0) M2 x nu D pr n o) (hpr : (D = 0 ∧ pr = none) ∨ (¬ D = 0 ∧ zVal B 3 p ∧ pr = some (W 3 p))) (hN : zNv B D) (hpu : ∀ j, zVal B 3 j → ¬ j = 0 → zpar B j ≠ D) : zC (zsr M2 (W 0 0) D (some x)) (zWn W x nu D) (zNd B D p n o) ∧ zFm M W B (zsr M2 (W 0 0) D (some x)) ∧ ∀ i j, zVal (zNd B D p n o) i j → (zVal B i j ∧ zWn W x nu D i j = W i j) ∨ zk M (zWn W x nu D i j) = 0 := by
  obtain ⟨⟨d1, d2, d3⟩, d4, d5, d6, d7, d8, d9, d10⟩ := hdi
  have hnu : ∀ i, i < 9 → zk M (nu i) = 0 ∧ nu i ≠ x := fun i hi => by
    obtain ⟨h1, h2⟩ := d1 i hi
    rw [zk_w, if_neg h2] at h1
    exact ⟨h1, h2⟩
  have hv00 : zVal B 0 0 := ⟨by decide, rfl⟩
  have h00 := hC.nz hv00
  have hold : ∀ y, ¬ zk M y = 0 → y ≠ W 0 0 → zsame M (zsr M2 (W 0 0) D (some x)) y := fun y hy hy0 => by
    have hyx : y ≠ x := fun e => hy (e ▸ hx)
    exact (zsame.w hyx).tr ((d3 y (by rw [zk_w, if_neg hyx]; exact hy) hyx).tr (zsame.r hy0))
  have hnew : ∀ y, zk M y = 0 → zsame M2 (zsr M2 (W 0 0) D (some x)) y := fun y hy => zsame.r (fun e => h00 (e ▸ hy))
  have hin0 : ∀ i j, zIn D i j → zk M (zWn W x nu D i j) = 0 := fun i j h => by
    obtain ⟨h1, h2⟩ := zWn_in (W := W) (x := x) (nu := nu) h
    rw [h1]
    split
    · exact hx
    · exact (hnu _ (by omega)).1
  have hpD : ∀ j, zVal B 3 j → j ≠ D := fun j h e => hl (e ▸ h.2)
  refine ⟨⟨fun i j h => ?_, fun i j i' j' h1 h2 e => ?_⟩, fun y hy h2 => hold y hy (h2 0 0 hv00), fun i j h => ?_⟩
  · rcases zNd_val hl h with hin | ⟨hout, hv⟩
    · have hl9 := h.lt
      match i, hin, hl9 with
      | 3, hin, _ =>
        have ej : j = D := hin
        subst ej
        have eW : zWn W x nu j 3 j = x := if_pos rfl
        have e0 : zWn W x nu j 4 j = nu 0 := if_pos rfl
        have e1 : zWn W x nu j 5 j = nu 1 := if_pos rfl
        have e2 : zWn W x nu j 6 j = nu 2 := if_pos rfl
        have e3 : zWn W x nu j 8 j = nu 3 := if_pos rfl
        obtain ⟨s1, s2, s3, s4, s5⟩ := hnew x hx
        obtain ⟨f1, f2, f3, f4, f5, f6, f7, f8⟩ := d4
        show zk _ (zWn W x nu j 3 j) = 1 ∧ zi _ (zWn W x nu j 3 j) 0 = nI j ∧ (zr _ (zWn W x nu j 3 j) 1 = if j = 0 then none else some (zWn W x nu j 3 (zpar (zNd B j p n o) j))) ∧ zi _ (zWn W x nu j 3 j) 2 = (zNd B j p n o).2 5 j ∧ zr _ (zWn W x nu j 3 j) 3 = some (zWn W x nu j 4 j) ∧ zr _ (zWn W x nu j 3 j) 4 = some (zWn W x nu j 5 j) ∧ zr _ (zWn W x nu j 3 j) 5 = some (zWn W x nu j 6 j) ∧ zr _ (zWn W x nu j 3 j) 6 = some (zWn W x nu j 8 j)
        rw [eW, e0, e1, e2, e3, zNd_5, if_pos rfl]
        refine ⟨s1.trans f1, (s3 0).trans f2, (s4 1).trans (f3.trans ?_), (s3 2).trans f4, (s4 3).trans f5, (s4 4).trans f6, (s4 5).trans f7, (s4 6).trans f8⟩
        rcases hpr with ⟨h0, hp⟩ | ⟨h0, hp9, hp⟩
        · rw [hp, if_pos h0]
        · have hp12 := hp9.1
          have ez : zpar (zNd B j p n o) j = p := by unfold zpar; rw [zNd_4, if_pos rfl, nI_clamp (by omega)]
          rw [hp, if_neg h0, ez]
          exact congrArg some (if_neg (hpD p hp9)).symm
      | 4, hin, _ =>
        have ej : j = D := hin
        subst ej
        have eW : zWn W x nu j 4 j = nu 0 := if_pos rfl
        obtain ⟨s1, s2, s3, s4, s5⟩ := hnew (nu 0) (hnu 0 (by decide)).1
        show zk _ (zWn W x nu j 4 j) = 5 ∧ zn _ (zWn W x nu j 4 j) = 50 ∧ ∀ k, k < 50 → zi _ (zWn W x nu j 4 j) k = (zNd B j p n o).2 6 (50 * j + k)
        rw [eW, zNd_n B j p n o (by decide) (by decide) (by decide) (by decide) (by decide) (by decide)]
        exact ⟨s1.trans d5.1, s2.trans d5.2.1, fun k hk => (s3 k).trans ((d5.2.2 k hk).trans (hN k hk).1.symm)⟩
      | 5, hin, _ =>
        have ej : j = D := hin
        subst ej
        have eW : zWn W x nu j 5 j = nu 1 := if_pos rfl
        obtain ⟨s1, s2, s3, s4, s5⟩ := hnew (nu 1) (hnu 1 (by decide)).1
        show zk _ (zWn W x nu j 5 j) = 5 ∧ zn _ (zWn W x nu j 5 j) = 50 ∧ ∀ k, k < 50 → zi _ (zWn W x nu j 5 j) k = (zNd B j p n o).2 7 (50 * j + k)
        rw [eW, zNd_n B j p n o (by decide) (by decide) (by decide) (by decide) (by decide) (by decide)]
        exact ⟨s1.trans d6.1, s2.trans d6.2.1, fun k hk => (s3 k).trans ((d6.2.2 k hk).trans (hN k hk).2.1.symm)⟩
      | 6, hin, _ =>
        have ej : j = D := hin
        subst ej
        have eW : zWn W x nu j 6 j = nu 2 := if_pos rfl
        obtain ⟨s1, s2, s3, s4, s5⟩ := hnew (nu 2) (hnu 2 (by decide)).1
        show zk _ (zWn W x nu j 6 j) = 10 ∧ zn _ (zWn W x nu j 6 j) = 4 ∧ ∀ c, c < 4 → zr _ (zWn W x nu j 6 j) c = some (zWn W x nu j 7 (4 * j + c))
        rw [eW]
        refine ⟨s1.trans d7.1, s2.trans d7.2.1, fun c hc => (s4 c).trans ((d7.2.2 c hc).trans ?_)⟩
        have e7 : zWn W x nu j 7 (4 * j + c) = nu (5 + (4 * j + c) % 4) := if_pos (by omega)
        rw [e7, show (4 * j + c) % 4 = c by omega]
      | 7, hin, _ =>
        have ej : j / 4 = D := hin
        have eW : zWn W x nu D 7 j = nu (5 + j % 4) := if_pos ej
        have h4 : j % 4 < 4 := Nat.mod_lt _ (by decide)
        obtain ⟨s1, s2, s3, s4, s5⟩ := hnew (nu (5 + j % 4)) (hnu _ (by omega)).1
        obtain ⟨g1, g2, g3⟩ := d8 (j % 4) h4
        show zk _ (zWn W x nu D 7 j) = 5 ∧ zn _ (zWn W x nu D 7 j) = 50 ∧ ∀ k, k < 50 → zi _ (zWn W x nu D 7 j) k = (zNd B D p n o).2 13 (600 * (j % 4) + (50 * (j / 4) + k))
        rw [eW, zNd_n B D p n o (by decide) (by decide) (by decide) (by decide) (by decide) (by decide), ej]
        exact ⟨s1.trans g1, s2.trans g2, fun k hk => (s3 k).trans ((g3 k hk).trans ((hN k hk).2.2 _ h4).symm)⟩
      | 8, hin, _ =>
        have ej : j = D := hin
        subst ej
        have eW : zWn W x nu j 8 j = nu 3 := if_pos rfl
        have eF : zWn W x nu j 9 (8 * j) = nu 4 := if_pos rfl
        obtain ⟨s1, s2, s3, s4, s5⟩ := hnew (nu 3) (hnu 3 (by decide)).1
        show zk _ (zWn W x nu j 8 j) = 9 ∧ zn _ (zWn W x nu j 8 j) = 8 ∧ ∀ h, h < 8 → zr _ (zWn W x nu j 8 j) h = some (zWn W x nu j 9 (8 * j + zfg ((zNd B j p n o).2 10) j h))
        rw [eW]
        refine ⟨s1.trans d9.1, s2.trans d9.2.1, fun h hh => (s4 h).trans ((d9.2.2 h hh).trans ?_)⟩
        have ez : ∀ h, h < 8 → zfg ((zNd B j p n o).2 10) j h = 0 := by
          intro h
          induction h with
          | zero => exact fun _ => rfl
          | succ h ih =>
            intro hh
            unfold zfg
            rw [zNd_10, if_pos (show 8 * j ≤ 8 * j + (h + 1) ∧ 8 * j + (h + 1) < 8 * j + 8 by omega), if_neg (show ¬ 8 * j + (h + 1) = 8 * j by omega), if_pos (show nI 0 = 0 from rfl)]
            exact ih (by omega)
        rw [ez h hh, Nat.add_zero, eF]
      | 9, hin, _ =>
        have ej : j = 8 * D := hin
        subst ej
        have eF : zWn W x nu D 9 (8 * D) = nu 4 := if_pos rfl
        obtain ⟨s1, s2, s3, s4, s5⟩ := hnew (nu 4) (hnu 4 (by decide)).1
        obtain ⟨f1, f2, f3, f4, f5, f6⟩ := d10
        show zk _ (zWn W x nu D 9 (8 * D)) = 2 ∧ zi _ (zWn W x nu D 9 (8 * D)) 0 = nI (8 * D / 8) ∧ zi _ (zWn W x nu D 9 (8 * D)) 1 = nI (8 * D % 8) ∧ zi _ (zWn W x nu D 9 (8 * D)) 2 = (zNd B D p n o).2 10 (8 * D) ∧ zi _ (zWn W x nu D 9 (8 * D)) 3 = (zNd B D p n o).2 11 (8 * D) ∧ zi _ (zWn W x nu D 9 (8 * D)) 4 = (zNd B D p n o).2 12 (8 * D)
        rw [eF, zNd_10, if_pos (by omega), if_pos rfl, zNd_11, if_pos (by omega), if_pos rfl, zNd_12, if_pos (by omega), show 8 * D / 8 = D by omega, show 8 * D % 8 = 0 by omega]
        exact ⟨s1.trans f1, (s3 0).trans f2, (s3 1).trans f3, (s3 2).trans f4, (s3 3).trans f5, (s3 4).trans f6⟩
      | 0, hin, _ => exact hin.elim
      | 1, hin, _ => exact hin.elim
      | 2, hin, _ => exact hin.elim
      | 10, hin, _ => exact hin.elim
      | i + 11, _, hl9 => exact absurd hl9 (by omega)
    · have hO := hC.1 i j hv
      have eW := zWn_out (W := W) (x := x) (nu := nu) hout
      have a0 : zWn W x nu D 0 0 = W 0 0 := rfl
      have a1 : zWn W x nu D 1 0 = W 1 0 := rfl
      have a2 : zWn W x nu D 2 0 = W 2 0 := rfl
      have hs : ¬ (i = 0 ∧ j = 0) → zsame M (zsr M2 (W 0 0) D (some x)) (W i j) := fun hn => hold _ (hC.nz hv) (fun e => hn (hC.2 i j 0 0 hv hv00 e))
      have hl9 := hv.lt
      match i, hout, hv, hO, eW, hs, hl9 with
      | 0, hout, hv, hO, eW, hs, _ =>
        have ej : j = 0 := hv.2
        subst ej
        have hyx : W 0 0 ≠ x := fun e => h00 (e ▸ hx)
        obtain ⟨s1, s2, s3, s4, s5⟩ := (zsame.w (kd := 1) (n := 0) hyx).tr (d3 (W 0 0) (by rw [zk_w, if_neg hyx]; exact h00) hyx)
        show zk _ (zWn W x nu D 0 0) = 8 ∧ zn _ (zWn W x nu D 0 0) = 12 ∧ ∀ d, d < 12 → zr _ (zWn W x nu D 0 0) d = if (zNd B D p n o).2 3 d = 1 then some (zWn W x nu D 3 d) else none
        rw [eW]
        refine ⟨s1.trans hO.1, s2.trans hO.2.1, fun d hd => ?_⟩
        rw [zr_r, zNd_3]
        by_cases e : d = D
        · rw [if_pos ⟨rfl, e⟩, if_pos e, if_pos (show nI 1 = 1 from rfl)]
          exact congrArg some (if_pos e).symm
        · rw [if_neg (fun z => e z.2), if_neg e, s4, hO.2.2 d hd]
          exact ite_congr rfl (fun _ => congrArg some (if_neg e).symm) (fun _ => rfl)
      | 1, hout, hv, hO, eW, hs, _ =>
        obtain ⟨g1, g2, g3⟩ := zOb.same hv (hs (fun z => absurd z.1 (by decide))) hO
        show zk _ (zWn W x nu D 1 j) = 5 ∧ zn _ (zWn W x nu D 1 j) = 4 ∧ ∀ c, c < 4 → zi _ (zWn W x nu D 1 j) c = (zNd B D p n o).2 14 c
        rw [eW, zNd_n B D p n o (by decide) (by decide) (by decide) (by decide) (by decide) (by decide)]
        exact ⟨g1, g2, g3⟩
      | 2, hout, hv, hO, eW, hs, _ =>
        obtain ⟨g1, g2, g3⟩ := zOb.same hv (hs (fun z => absurd z.1 (by decide))) hO
        show zk _ (zWn W x nu D 2 j) = 5 ∧ zn _ (zWn W x nu D 2 j) = 4 ∧ ∀ c, c < 4 → zi _ (zWn W x nu D 2 j) c = (zNd B D p n o).2 15 c
        rw [eW, zNd_n B D p n o (by decide) (by decide) (by decide) (by decide) (by decide) (by decide)]
        exact ⟨g1, g2, g3⟩
      | 3, hout, hv, hO, eW, hs, _ =>
        have hjD : j ≠ D := hout
        obtain ⟨f1, f2, f3, f4, f5, f6, f7, f8⟩ := zOb.same hv (hs (fun z => absurd z.1 (by decide))) hO
        have e0 : zWn W x nu D 4 j = W 4 j := if_neg hjD
        have e1 : zWn W x nu D 5 j = W 5 j := if_neg hjD
        have e2 : zWn W x nu D 6 j = W 6 j := if_neg hjD
        have e3 : zWn W x nu D 8 j = W 8 j := if_neg hjD
        have ez : zpar (zNd B D p n o) j = zpar B j := by unfold zpar; rw [zNd_4, if_neg hjD]
        show zk _ (zWn W x nu D 3 j) = 1 ∧ zi _ (zWn W x nu D 3 j) 0 = nI j ∧ (zr _ (zWn W x nu D 3 j) 1 = if j = 0 then none else some (zWn W x nu D 3 (zpar (zNd B D p n o) j))) ∧ zi _ (zWn W x nu D 3 j) 2 = (zNd B D p n o).2 5 j ∧ zr _ (zWn W x nu D 3 j) 3 = some (zWn W x nu D 4 j) ∧ zr _ (zWn W x nu D 3 j) 4 = some (zWn W x nu D 5 j) ∧ zr _ (zWn W x nu D 3 j) 5 = some (zWn W x nu D 6 j) ∧ zr _ (zWn W x nu D 3 j) 6 = some (zWn W x nu D 8 j)
        rw [eW, e0, e1, e2, e3, zNd_5, if_neg hjD, ez]
        refine ⟨f1, f2, ?_, f4, f5, f6, f7, f8⟩
        rw [f3]
        by_cases h0 : j = 0
        · rw [if_pos h0, if_pos h0]
        · rw [if_neg h0, if_neg h0]
          exact congrArg some (if_neg (hpu j hv h0)).symm
      | 4, hout, hv, hO, eW, hs, _ =>
        obtain ⟨g1, g2, g3⟩ := zOb.same hv (hs (fun z => absurd z.1 (by decide))) hO
        show zk _ (zWn W x nu D 4 j) = 5 ∧ zn _ (zWn W x nu D 4 j) = 50 ∧ ∀ k, k < 50 → zi _ (zWn W x nu D 4 j) k = (zNd B D p n o).2 6 (50 * j + k)
        rw [eW, zNd_n B D p n o (by decide) (by decide) (by decide) (by decide) (by decide) (by decide)]
        exact ⟨g1, g2, g3⟩
      | 5, hout, hv, hO, eW, hs, _ =>
        obtain ⟨g1, g2, g3⟩ := zOb.same hv (hs (fun z => absurd z.1 (by decide))) hO
        show zk _ (zWn W x nu D 5 j) = 5 ∧ zn _ (zWn W x nu D 5 j) = 50 ∧ ∀ k, k < 50 → zi _ (zWn W x nu D 5 j) k = (zNd B D p n o).2 7 (50 * j + k)
        rw [eW, zNd_n B D p n o (by decide) (by decide) (by decide) (by decide) (by decide) (by decide)]
        exact ⟨g1, g2, g3⟩
      | 6, hout, hv, hO, eW, hs, _ =>
        have hjD : j ≠ D := hout
        obtain ⟨g1, g2, g3⟩ := zOb.same hv (hs (fun z => absurd z.1 (by decide))) hO
        show zk _ (zWn W x nu D 6 j) = 10 ∧ zn _ (zWn W x nu D 6 j) = 4 ∧ ∀ c, c < 4 → zr _ (zWn W x nu D 6 j) c = some (zWn W x nu D 7 (4 * j + c))
        rw [eW]
        refine ⟨g1, g2, fun c hc => (g3 c hc).trans ?_⟩
        have e7 : zWn W x nu D 7 (4 * j + c) = W 7 (4 * j + c) := if_neg (by omega)
        rw [e7]
      | 7, hout, hv, hO, eW, hs, _ =>
        obtain ⟨g1, g2, g3⟩ := zOb.same hv (hs (fun z => absurd z.1 (by decide))) hO
        show zk _ (zWn W x nu D 7 j) = 5 ∧ zn _ (zWn W x nu D 7 j) = 50 ∧ ∀ k, k < 50 → zi _ (zWn W x nu D 7 j) k = (zNd B D p n o).2 13 (600 * (j % 4) + (50 * (j / 4) + k))
        rw [eW, zNd_n B D p n o (by decide) (by decide) (by decide) (by decide) (by decide) (by decide)]
        exact ⟨g1, g2, g3⟩
      | 8, hout, hv, hO, eW, hs, _ =>
        have hjD : j ≠ D := hout
        obtain ⟨g1, g2, g3⟩ := zOb.same hv (hs (fun z => absurd z.1 (by decide))) hO
        show zk _ (zWn W x nu D 8 j) = 9 ∧ zn _ (zWn W x nu D 8 j) = 8 ∧ ∀ h, h < 8 → zr _ (zWn W x nu D 8 j) h = some (zWn W x nu D 9 (8 * j + zfg ((zNd B D p n o).2 10) j h))
        rw [eW]
        refine ⟨g1, g2, fun h hh => (g3 h hh).trans ?_⟩
        have h7 := zfg_le (B.2 10) j h
        rw [zfg_cg (S := B.2 10) (S' := (zNd B D p n o).2 10) (fun y hy => by rw [zNd_10, if_neg (by omega)])]
        exact congrArg some (if_neg (by omega)).symm
      | 9, hout, hv, hO, eW, hs, _ =>
        obtain ⟨f1, f2, f3, f4, f5, f6⟩ := zOb.same hv (hs (fun z => absurd z.1 (by decide))) hO
        have hjD : ¬ (8 * D ≤ j ∧ j < 8 * D + 8) := fun z => hl (by have := hv.2.1; rwa [show j / 8 = D by omega] at this)
        show zk _ (zWn W x nu D 9 j) = 2 ∧ zi _ (zWn W x nu D 9 j) 0 = nI (j / 8) ∧ zi _ (zWn W x nu D 9 j) 1 = nI (j % 8) ∧ zi _ (zWn W x nu D 9 j) 2 = (zNd B D p n o).2 10 j ∧ zi _ (zWn W x nu D 9 j) 3 = (zNd B D p n o).2 11 j ∧ zi _ (zWn W x nu D 9 j) 4 = (zNd B D p n o).2 12 j
        rw [eW, zNd_10, if_neg hjD, zNd_11, if_neg hjD, zNd_12, if_neg hjD]
        exact ⟨f1, f2, f3, f4, f5, f6⟩
      | 10, hout, hv, hO, eW, hs, _ =>
        have ej : j = 0 := hv.2
        subst ej
        obtain ⟨f1, ⟨f2, f3, f4⟩, f5, f6⟩ := zOb.same hv (hs (fun z => absurd z.1 (by decide))) hO
        show zk _ (zWn W x nu D 10 0) = 3 ∧ (zr _ (zWn W x nu D 10 0) 0 = some (zWn W x nu D 0 0) ∧ zr _ (zWn W x nu D 10 0) 5 = some (zWn W x nu D 1 0) ∧ zr _ (zWn W x nu D 10 0) 6 = some (zWn W x nu D 2 0)) ∧ (zi _ (zWn W x nu D 10 0) 1 = (zNd B D p n o).1 2 ∧ zi _ (zWn W x nu D 10 0) 2 = (zNd B D p n o).1 9 ∧ zi _ (zWn W x nu D 10 0) 3 = (zNd B D p n o).1 8 ∧ zi _ (zWn W x nu D 10 0) 4 = (zNd B D p n o).1 1 ∧ zi _ (zWn W x nu D 10 0) 8 = (zNd B D p n o).1 17 ∧ zi _ (zWn W x nu D 10 0) 9 = (zNd B D p n o).1 18) ∧ (zr _ (zWn W x nu D 10 0) 7 = if (zNd B D p n o).1 16 = -1 then none else some (zWn W x nu D 9 ((zNd B D p n o).1 16).toNatClampNeg))
        rw [eW, a0, a1, a2, zNd_1]
        refine ⟨f1, ⟨f2, f3, f4⟩, f5, f6.trans ?_⟩
        rcases hM with e | ⟨m, e, hm⟩
        · rw [if_pos e, if_pos e]
        · have hm9 := hm.1
          rw [e, nI_clamp (by omega)]
          exact ite_congr rfl (fun _ => rfl) (fun _ => congrArg some (if_neg (fun z => hl (by have := hm.2.1; rwa [z, show 8 * D / 8 = D by omega] at this))).symm)
      | i + 11, _, _, _, _, _, hl9 => exact absurd hl9 (by omega)
  · rcases zNd_val hl h1 with hin1 | ⟨hout1, hv1⟩
    · rcases zNd_val hl h2 with hin2 | ⟨hout2, hv2⟩
      · obtain ⟨e1, l1⟩ := zWn_in (W := W) (x := x) (nu := nu) hin1
        obtain ⟨e2, l2⟩ := zWn_in (W := W) (x := x) (nu := nu) hin2
        rw [e1, e2] at e
        refine zIn_inj hin1 hin2 ?_
        by_cases k1 : zKp i j = 0
        · by_cases k2 : zKp i' j' = 0
          · rw [k1, k2]
          · rw [if_pos k1, if_neg k2] at e
            exact absurd e.symm (hnu _ (by omega)).2
        · by_cases k2 : zKp i' j' = 0
          · rw [if_neg k1, if_pos k2] at e
            exact absurd e (hnu _ (by omega)).2
          · rw [if_neg k1, if_neg k2] at e
            have := d2 _ _ (by omega) (by omega) e
            omega
      · rw [zWn_out hout2] at e
        exact absurd (e ▸ hin0 i j hin1) (hC.nz hv2)
    · rcases zNd_val hl h2 with hin2 | ⟨hout2, hv2⟩
      · rw [zWn_out hout1] at e
        exact absurd (e.symm ▸ hin0 i' j' hin2) (hC.nz hv1)
      · rw [zWn_out hout1, zWn_out hout2] at e
        exact hC.2 i j i' j' hv1 hv2 e
  · rcases zNd_val hl h with hin | ⟨hout, hv⟩
    · exact Or.inr (hin0 i j hin)
    · exact Or.inl ⟨hv, zWn_out hout⟩
end
section
/-! the class: calls of clients -/
def zen : Nat → String
  | 1 => zIAE
  | 2 => zIOB
  | _ => zISE
theorem ct_X2_lookup_bad {G : ZG} {M : ZM} {W : Nat → Nat → Nat} {B : ZA} (hC : zC M W B) {c d n : Int32} {k : Nat} (hk : zBad B c d n k) : zMet G mX2_lookup [.ref (W 10 0), .int (c), .int (d), .int (n)] M (zthr (zen k) M) := by
  refine zbody zyX2_lookup [some (.ref (W 10 0)), some (.int (c)), some (.int (d)), some (.int (n)), none] rfl (Nat.le_of_ble_eq_true rfl) (by intro v hv; simp only [List.mem_cons, List.not_mem_nil, or_false] at hv; rcases hv with rfl | rfl | rfl | rfl <;> rfl) (fun E K => ?_)
  refine zq_iload_n K dX2_lookup_0 rfl rfl ?_
  refine zq_callS (As := [.int (c)]) K dX2_lookup_1 zyX2_needClient zm_X2_29 zsX2_needClient rfl (by decide) rfl rfl (Nat.le_of_ble_eq_true rfl) (Nat.le_of_ble_eq_true rfl) (ct_X2_needClient c M) (znd_r (fun hc => ?_)) (znd_x (fun hc => ?_)) (Nat.le_refl _)
  · refine zq_iload_n K dX2_lookup_4 rfl rfl ?_
    refine zq_callS (As := [.int (n)]) K dX2_lookup_5 zyX2_needName zm_X2_33 zsX2_needName rfl (by decide) rfl rfl (Nat.le_of_ble_eq_true rfl) (Nat.le_of_ble_eq_true rfl) (ct_X2_needName n M) (znd_r (fun hn => ?_)) (znd_x (fun hn => ?_)) (Nat.le_refl _)
    · refine zq_aload_n K dX2_lookup_8 rfl rfl ?_
      refine zq_iload_n K dX2_lookup_9 rfl rfl ?_
      obtain ⟨rfl, hnd⟩ : k = 2 ∧ ¬ zIsD B d := by
        rcases hk with ⟨-, h1⟩ | ⟨e, -, -, h1⟩
        · exact absurd ⟨hc, hn⟩ h1
        · exact ⟨e, h1⟩
      refine zq_callV (As := [.int (d)]) K dX2_lookup_10 zyX2_needDirectory zm_X2_36 ziX2_needDirectory zvX2_needDirectory zclX2 rfl (by decide) rfl rfl (Nat.le_of_ble_eq_true rfl) (Nat.le_of_ble_eq_true rfl) hC.x.1 (ct_X2_needDirectory_0 hC hnd) zthr_r (zthr_x ?_) (Nat.le_refl _)
      exact zx_out K ⟨rfl, rfl⟩
    · rcases hk with ⟨rfl, -⟩ | ⟨-, -, h1, -⟩
      · exact zx_out K ⟨rfl, rfl⟩
      · exact absurd h1 hn
  · rcases hk with ⟨rfl, -⟩ | ⟨-, h1, -⟩
    · exact zx_out K ⟨rfl, rfl⟩
    · exact absurd h1 hc
theorem ct_X2_makeDirectory_bad {G : ZG} {M : ZM} {W : Nat → Nat → Nat} {B : ZA} (hC : zC M W B) {c d n : Int32} {k : Nat} (hk : zBad B c d n k) : zMet G mX2_makeDirectory [.ref (W 10 0), .int (c), .int (d), .int (n)] M (zthr (zen k) M) := by
  refine zbody zyX2_makeDirectory [some (.ref (W 10 0)), some (.int (c)), some (.int (d)), some (.int (n)), none, none] rfl (Nat.le_of_ble_eq_true rfl) (by intro v hv; simp only [List.mem_cons, List.not_mem_nil, or_false] at hv; rcases hv with rfl | rfl | rfl | rfl <;> rfl) (fun E K => ?_)
  refine zq_iload_n K dX2_makeDirectory_0 rfl rfl ?_
  refine zq_callS (As := [.int (c)]) K dX2_makeDirectory_1 zyX2_needClient zm_X2_29 zsX2_needClient rfl (by decide) rfl rfl (Nat.le_of_ble_eq_true rfl) (Nat.le_of_ble_eq_true rfl) (ct_X2_needClient c M) (znd_r (fun hc => ?_)) (znd_x (fun hc => ?_)) (Nat.le_refl _)
  · refine zq_iload_n K dX2_makeDirectory_4 rfl rfl ?_
    refine zq_callS (As := [.int (n)]) K dX2_makeDirectory_5 zyX2_needName zm_X2_33 zsX2_needName rfl (by decide) rfl rfl (Nat.le_of_ble_eq_true rfl) (Nat.le_of_ble_eq_true rfl) (ct_X2_needName n M) (znd_r (fun hn => ?_)) (znd_x (fun hn => ?_)) (Nat.le_refl _)
    · refine zq_aload_n K dX2_makeDirectory_8 rfl rfl ?_
      refine zq_iload_n K dX2_makeDirectory_9 rfl rfl ?_
      obtain ⟨rfl, hnd⟩ : k = 2 ∧ ¬ zIsD B d := by
        rcases hk with ⟨-, h1⟩ | ⟨e, -, -, h1⟩
        · exact absurd ⟨hc, hn⟩ h1
        · exact ⟨e, h1⟩
      refine zq_callV (As := [.int (d)]) K dX2_makeDirectory_10 zyX2_needDirectory zm_X2_36 ziX2_needDirectory zvX2_needDirectory zclX2 rfl (by decide) rfl rfl (Nat.le_of_ble_eq_true rfl) (Nat.le_of_ble_eq_true rfl) hC.x.1 (ct_X2_needDirectory_0 hC hnd) zthr_r (zthr_x ?_) (Nat.le_refl _)
      exact zx_out K ⟨rfl, rfl⟩
    · rcases hk with ⟨rfl, -⟩ | ⟨-, -, h1, -⟩
      · exact zx_out K ⟨rfl, rfl⟩
      · exact absurd h1 hn
  · rcases hk with ⟨rfl, -⟩ | ⟨-, h1, -⟩
    · exact zx_out K ⟨rfl, rfl⟩
    · exact absurd h1 hc
theorem ct_X2_makeFile_bad {G : ZG} {M : ZM} {W : Nat → Nat → Nat} {B : ZA} (hC : zC M W B) {c d n : Int32} {k : Nat} (hk : zBad B c d n k) : zMet G mX2_makeFile [.ref (W 10 0), .int (c), .int (d), .int (n)] M (zthr (zen k) M) := by
  refine zbody zyX2_makeFile [some (.ref (W 10 0)), some (.int (c)), some (.int (d)), some (.int (n)), none, none] rfl (Nat.le_of_ble_eq_true rfl) (by intro v hv; simp only [List.mem_cons, List.not_mem_nil, or_false] at hv; rcases hv with rfl | rfl | rfl | rfl <;> rfl) (fun E K => ?_)
  refine zq_iload_n K dX2_makeFile_0 rfl rfl ?_
  refine zq_callS (As := [.int (c)]) K dX2_makeFile_1 zyX2_needClient zm_X2_29 zsX2_needClient rfl (by decide) rfl rfl (Nat.le_of_ble_eq_true rfl) (Nat.le_of_ble_eq_true rfl) (ct_X2_needClient c M) (znd_r (fun hc => ?_)) (znd_x (fun hc => ?_)) (Nat.le_refl _)
  · refine zq_iload_n K dX2_makeFile_4 rfl rfl ?_
    refine zq_callS (As := [.int (n)]) K dX2_makeFile_5 zyX2_needName zm_X2_33 zsX2_needName rfl (by decide) rfl rfl (Nat.le_of_ble_eq_true rfl) (Nat.le_of_ble_eq_true rfl) (ct_X2_needName n M) (znd_r (fun hn => ?_)) (znd_x (fun hn => ?_)) (Nat.le_refl _)
    · refine zq_aload_n K dX2_makeFile_8 rfl rfl ?_
      refine zq_iload_n K dX2_makeFile_9 rfl rfl ?_
      obtain ⟨rfl, hnd⟩ : k = 2 ∧ ¬ zIsD B d := by
        rcases hk with ⟨-, h1⟩ | ⟨e, -, -, h1⟩
        · exact absurd ⟨hc, hn⟩ h1
        · exact ⟨e, h1⟩
      refine zq_callV (As := [.int (d)]) K dX2_makeFile_10 zyX2_needDirectory zm_X2_36 ziX2_needDirectory zvX2_needDirectory zclX2 rfl (by decide) rfl rfl (Nat.le_of_ble_eq_true rfl) (Nat.le_of_ble_eq_true rfl) hC.x.1 (ct_X2_needDirectory_0 hC hnd) zthr_r (zthr_x ?_) (Nat.le_refl _)
      exact zx_out K ⟨rfl, rfl⟩
    · rcases hk with ⟨rfl, -⟩ | ⟨-, -, h1, -⟩
      · exact zx_out K ⟨rfl, rfl⟩
      · exact absurd h1 hn
  · rcases hk with ⟨rfl, -⟩ | ⟨-, h1, -⟩
    · exact zx_out K ⟨rfl, rfl⟩
    · exact absurd h1 hc
theorem ct_X2_remove_bad {G : ZG} {M : ZM} {W : Nat → Nat → Nat} {B : ZA} (hC : zC M W B) {c d n : Int32} {k : Nat} (hk : zBad B c d n k) : zMet G mX2_remove [.ref (W 10 0), .int (c), .int (d), .int (n)] M (zthr (zen k) M) := by
  refine zbody zyX2_remove [some (.ref (W 10 0)), some (.int (c)), some (.int (d)), some (.int (n)), none, none, none] rfl (Nat.le_of_ble_eq_true rfl) (by intro v hv; simp only [List.mem_cons, List.not_mem_nil, or_false] at hv; rcases hv with rfl | rfl | rfl | rfl <;> rfl) (fun E K => ?_)
  refine zq_iload_n K dX2_remove_0 rfl rfl ?_
  refine zq_callS (As := [.int (c)]) K dX2_remove_1 zyX2_needClient zm_X2_29 zsX2_needClient rfl (by decide) rfl rfl (Nat.le_of_ble_eq_true rfl) (Nat.le_of_ble_eq_true rfl) (ct_X2_needClient c M) (znd_r (fun hc => ?_)) (znd_x (fun hc => ?_)) (Nat.le_refl _)
  · refine zq_iload_n K dX2_remove_4 rfl rfl ?_
    refine zq_callS (As := [.int (n)]) K dX2_remove_5 zyX2_needName zm_X2_33 zsX2_needName rfl (by decide) rfl rfl (Nat.le_of_ble_eq_true rfl) (Nat.le_of_ble_eq_true rfl) (ct_X2_needName n M) (znd_r (fun hn => ?_)) (znd_x (fun hn => ?_)) (Nat.le_refl _)
    · refine zq_aload_n K dX2_remove_8 rfl rfl ?_
      refine zq_iload_n K dX2_remove_9 rfl rfl ?_
      obtain ⟨rfl, hnd⟩ : k = 2 ∧ ¬ zIsD B d := by
        rcases hk with ⟨-, h1⟩ | ⟨e, -, -, h1⟩
        · exact absurd ⟨hc, hn⟩ h1
        · exact ⟨e, h1⟩
      refine zq_callV (As := [.int (d)]) K dX2_remove_10 zyX2_needDirectory zm_X2_36 ziX2_needDirectory zvX2_needDirectory zclX2 rfl (by decide) rfl rfl (Nat.le_of_ble_eq_true rfl) (Nat.le_of_ble_eq_true rfl) hC.x.1 (ct_X2_needDirectory_0 hC hnd) zthr_r (zthr_x ?_) (Nat.le_refl _)
      exact zx_out K ⟨rfl, rfl⟩
    · rcases hk with ⟨rfl, -⟩ | ⟨-, -, h1, -⟩
      · exact zx_out K ⟨rfl, rfl⟩
      · exact absurd h1 hn
  · rcases hk with ⟨rfl, -⟩ | ⟨-, h1, -⟩
    · exact zx_out K ⟨rfl, rfl⟩
    · exact absurd h1 hc
theorem ct_X2_link_bad {G : ZG} {M : ZM} {W : Nat → Nat → Nat} {B : ZA} (hC : zC M W B) {c d n : Int32} {k : Nat} (hk : zBad B c d n k) (f : Int32) : zMet G mX2_link [.ref (W 10 0), .int (c), .int (d), .int (n), .int (f)] M (zthr (zen k) M) := by
  refine zbody zyX2_link [some (.ref (W 10 0)), some (.int (c)), some (.int (d)), some (.int (n)), some (.int (f)), none, none] rfl (Nat.le_of_ble_eq_true rfl) (by intro v hv; simp only [List.mem_cons, List.not_mem_nil, or_false] at hv; rcases hv with rfl | rfl | rfl | rfl | rfl <;> rfl) (fun E K => ?_)
  refine zq_iload_n K dX2_link_0 rfl rfl ?_
  refine zq_callS (As := [.int (c)]) K dX2_link_1 zyX2_needClient zm_X2_29 zsX2_needClient rfl (by decide) rfl rfl (Nat.le_of_ble_eq_true rfl) (Nat.le_of_ble_eq_true rfl) (ct_X2_needClient c M) (znd_r (fun hc => ?_)) (znd_x (fun hc => ?_)) (Nat.le_refl _)
  · refine zq_iload_n K dX2_link_4 rfl rfl ?_
    refine zq_callS (As := [.int (n)]) K dX2_link_5 zyX2_needName zm_X2_33 zsX2_needName rfl (by decide) rfl rfl (Nat.le_of_ble_eq_true rfl) (Nat.le_of_ble_eq_true rfl) (ct_X2_needName n M) (znd_r (fun hn => ?_)) (znd_x (fun hn => ?_)) (Nat.le_refl _)
    · refine zq_aload_n K dX2_link_8 rfl rfl ?_
      refine zq_iload_n K dX2_link_9 rfl rfl ?_
      obtain ⟨rfl, hnd⟩ : k = 2 ∧ ¬ zIsD B d := by
        rcases hk with ⟨-, h1⟩ | ⟨e, -, -, h1⟩
        · exact absurd ⟨hc, hn⟩ h1
        · exact ⟨e, h1⟩
      refine zq_callV (As := [.int (d)]) K dX2_link_10 zyX2_needDirectory zm_X2_36 ziX2_needDirectory zvX2_needDirectory zclX2 rfl (by decide) rfl rfl (Nat.le_of_ble_eq_true rfl) (Nat.le_of_ble_eq_true rfl) hC.x.1 (ct_X2_needDirectory_0 hC hnd) zthr_r (zthr_x ?_) (Nat.le_refl _)
      exact zx_out K ⟨rfl, rfl⟩
    · rcases hk with ⟨rfl, -⟩ | ⟨-, -, h1, -⟩
      · exact zx_out K ⟨rfl, rfl⟩
      · exact absurd h1 hn
  · rcases hk with ⟨rfl, -⟩ | ⟨-, h1, -⟩
    · exact zx_out K ⟨rfl, rfl⟩
    · exact absurd h1 hc
theorem ct_X2_lookup_ok {G : ZG} {M : ZM} {W : Nat → Nat → Nat} {B : ZA} (hC : zC M W B) (hW : zWf B) {c d n : Nat} (hc : c < 4) (hv : zVal B 3 d) (hn : n < 50) : zMet G mX2_lookup [.ref (W 10 0), .int (nI (c)), .int (nI (d)), .int (nI (n))] M (zCP W M B (some (.int (B.2 6 (50 * d + n)))) (zLk B c d n)) := by
  refine zbody zyX2_lookup [some (.ref (W 10 0)), some (.int (nI (c))), some (.int (nI (d))), some (.int (nI (n))), none] rfl (Nat.le_of_ble_eq_true rfl) (by intro v hv; simp only [List.mem_cons, List.not_mem_nil, or_false] at hv; rcases hv with rfl | rfl | rfl | rfl <;> rfl) (fun E K => ?_)
  obtain ⟨⟨D, hB⟩, hF, hU⟩ := id hW
  have hS : zFm M W B M := zFm.rf
  refine zq_iload_n K dX2_lookup_0 rfl rfl ?_
  refine zq_callS (As := [.int (nI (c))]) K dX2_lookup_1 zyX2_needClient zm_X2_29 zsX2_needClient rfl (by decide) rfl rfl (Nat.le_of_ble_eq_true rfl) (Nat.le_of_ble_eq_true rfl) (ct_X2_needClient (nI c) M) (znd_r (fun hc9 => ?_)) (znd_x (fun hc9 => ?_)) (Nat.le_refl _)
  · refine zq_iload_n K dX2_lookup_4 rfl rfl ?_
    refine zq_callS (As := [.int (nI (n))]) K dX2_lookup_5 zyX2_needName zm_X2_33 zsX2_needName rfl (by decide) rfl rfl (Nat.le_of_ble_eq_true rfl) (Nat.le_of_ble_eq_true rfl) (ct_X2_needName (nI n) M) (znd_r (fun hn9 => ?_)) (znd_x (fun hn9 => ?_)) (Nat.le_refl _)
    · refine zq_aload_n K dX2_lookup_8 rfl rfl ?_
      refine zq_iload_n K dX2_lookup_9 rfl rfl ?_
      refine zq_callV (As := [.int (nI (d))]) K dX2_lookup_10 zyX2_needDirectory zm_X2_36 ziX2_needDirectory zvX2_needDirectory zclX2 rfl (by decide) rfl rfl (Nat.le_of_ble_eq_true rfl) (Nat.le_of_ble_eq_true rfl) hC.x.1 (ct_X2_needDirectory_1 hC hv) (zone_r ?_) zone_x (Nat.le_refl _)
      refine zq_astore K dX2_lookup_13 (by decide) ?_
      refine zq_aload K dX2_lookup_15 rfl ?_
      refine zq_iload_n K dX2_lookup_17 rfl rfl ?_
      refine zq_iload_n K dX2_lookup_18 rfl rfl ?_
      refine zq_aload_n K dX2_lookup_19 rfl rfl ?_
      refine zq_getI K dX2_lookup_20 zclX2 (k := 4) (by decide) zf_X2_40 rfl hC.x.1 ?_
      refine zq_top hC.x.2.2.1.2.2.2.1 ?_
      refine zq_callV (As := [.int (nI (c)), .int (nI (n)), .int (B.1 1)]) K dX2_lookup_23 zyX0_leaseRuns zm_X2_43 ziX0_leaseRuns zvX0_leaseRuns zclX0 rfl (by decide) rfl rfl (Nat.le_of_ble_eq_true rfl) (Nat.le_of_ble_eq_true rfl) (hC.d hv).1 (ct_X0_leaseRuns hC hv hc hn (B.1 1)) (zdec_r (fun hr => ?_) (fun hr => ?_)) zdec_x (Nat.le_refl _)
      · refine zq_if_eqN K (x := 1) 42 dX2_lookup_26 (by decide) (by omega) (fun h26 => by omega) (fun h26 => ?_)
        refine zq_aload_n K dX2_lookup_29 rfl rfl ?_
        refine zq_getRs K dX2_lookup_30 zclX2 (k := 6) (by decide) zf_X2_19 rfl hC.x.1 hC.x.2.1.2.2 ?_
        refine zq_iload_n K dX2_lookup_33 rfl rfl ?_
        refine zq_dup2 K dX2_lookup_34 rfl rfl ?_
        refine zc_ldcnt K (z := 2) (c := c) dX2_lookup_35 hC (by decide) rfl (by omega) ?_
        refine zq_top (v := B.2 15 c) rfl ?_
        refine zq_iconst K dX2_lookup_36 (v := nI 1) (by decide) ?_
        refine zq_iadd K dX2_lookup_37 ?_
        refine zc_stkno K (c := c) dX2_lookup_38 hC hS rfl (by omega) (fun M hC hS => ?_)
        refine zq_goto K 71 dX2_lookup_39 (by decide) ?_
        refine zq_aload K dX2_lookup_71 rfl ?_
        refine zq_iload_n K dX2_lookup_73 rfl rfl ?_
        refine zq_callV (As := [.int (nI (n))]) K dX2_lookup_74 zyX0_meaningOf zm_X2_60 ziX0_meaningOf zvX0_meaningOf zclX0 rfl (by decide) rfl rfl (Nat.le_of_ble_eq_true rfl) (Nat.le_of_ble_eq_true rfl) (hC.d hv).1 (ct_X0_meaningOf (B := zsa B 15 c (B.2 15 c + nI 1)) hC hv hn) (zone_r ?_) zone_x (Nat.le_refl _)
        exact zq_iret K dX2_lookup_77 rfl ⟨rfl, by rw [zLk, if_pos hr]; exact hC, hS⟩
      · refine zq_if_eqN K (x := 0) 42 dX2_lookup_26 (by decide) (by omega) (fun h26 => ?_) (fun h26 => by omega)
        refine zq_aload K dX2_lookup_42 rfl ?_
        refine zq_iload_n K dX2_lookup_44 rfl rfl ?_
        refine zq_callV (As := [.int (nI (n))]) K dX2_lookup_45 zyX0_fragmentOfName zm_X2_47 ziX0_fragmentOfName zvX0_fragmentOfName zclX0 rfl (by decide) rfl rfl (Nat.le_of_ble_eq_true rfl) (Nat.le_of_ble_eq_true rfl) (hC.d hv).1 (ct_X0_fragmentOfName (B := B) hC hv hn) (zone_r ?_) zone_x (Nat.le_refl _)
        refine zq_dup K dX2_lookup_48 rfl ?_
        refine zq_getI K dX2_lookup_49 zclX1 (k := 4) (by decide) zf_X2_51 rfl (hC.f (zVal.nm hF hv hn)).1 ?_
        refine zq_top (hC.f (zVal.nm hF hv hn)).2.2.2.2.2 ?_
        refine zq_top (v := B.2 12 (zfn B d n)) rfl ?_
        refine zq_iconst K dX2_lookup_52 (v := nI 1) (by decide) ?_
        refine zq_iadd K dX2_lookup_53 ?_
        refine zc_pload K dX2_lookup_54 zf_X2_51 hC hS (zVal.nm hF hv hn) (zVal.nm hF hv hn) (fun M hC hS => ?_)
        refine zq_aload K dX2_lookup_57 rfl ?_
        refine zq_iload_n K dX2_lookup_59 rfl rfl ?_
        refine zq_iload_n K dX2_lookup_60 rfl rfl ?_
        refine zq_aload_n K dX2_lookup_61 rfl rfl ?_
        refine zq_getI K dX2_lookup_62 zclX2 (k := 4) (by decide) zf_X2_40 rfl hC.x.1 ?_
        refine zq_top hC.x.2.2.1.2.2.2.1 ?_
        refine zq_top (v := B.1 1) rfl ?_
        refine zq_bipush K dX2_lookup_65 (v := nI 10) (by decide) ?_
        refine zq_iadd K dX2_lookup_67 ?_
        refine zq_callV (As := [.int (nI (c)), .int (nI (n)), .int ((B.1 1) + (nI (10)))]) K dX2_lookup_68 zyX0_setLeaseEnd zm_X2_56 ziX0_setLeaseEnd zvX0_setLeaseEnd zclX0 rfl (by decide) rfl rfl (Nat.le_of_ble_eq_true rfl) (Nat.le_of_ble_eq_true rfl) (hC.d hv).1 (ct_X0_setLeaseEnd (B := zsa B 12 (zfn B d n) (B.2 12 (zfn B d n) + nI 1)) hC hv hc hn (B.1 1 + nI 10)) (zCP_r hS (fun _ _ h => h) (fun M hC hS => ?_)) zCP_x (Nat.le_refl _)
        refine zq_aload K dX2_lookup_71 rfl ?_
        refine zq_iload_n K dX2_lookup_73 rfl rfl ?_
        refine zq_callV (As := [.int (nI (n))]) K dX2_lookup_74 zyX0_meaningOf zm_X2_60 ziX0_meaningOf zvX0_meaningOf zclX0 rfl (by decide) rfl rfl (Nat.le_of_ble_eq_true rfl) (Nat.le_of_ble_eq_true rfl) (hC.d hv).1 (ct_X0_meaningOf (B := zsa (zsa B 12 (zfn B d n) (B.2 12 (zfn B d n) + nI 1)) 13 (600 * c + (50 * d + n)) (B.1 1 + nI 10)) hC hv hn) (zone_r ?_) zone_x (Nat.le_refl _)
        exact zq_iret K dX2_lookup_77 rfl ⟨rfl, by rw [zLk, if_neg hr]; exact hC, hS⟩
    · exact absurd ⟨n, by omega, rfl⟩ hn9
  · exact absurd ⟨c, by omega, rfl⟩ hc9
/-- a new link -/
def zcl1 (B : ZA) (c : Int32) (d n : Nat) (f : Int32) : ZA := zcn (zsc B 8 (B.1 8 + nI 1)) c d n f (B.1 8 + nI 1)
theorem ct_X2_makeLink {G : ZG} {M : ZM} {W : Nat → Nat → Nat} {B : ZA} (hC : zC M W B) {d : Nat} (hv : zVal B 3 d) (hF : zFr B) {n : Nat} (hn : n < 50) (c f : Int32) : zMet G mX2_makeLink [.ref (W 10 0), .int (c), .ref (W 3 (d)), .int (nI (n)), .int (f)] M (zCP W M B none (zcl1 B c d n f)) := by
  refine zbody zyX2_makeLink [some (.ref (W 10 0)), some (.int (c)), some (.ref (W 3 (d))), some (.int (nI (n))), some (.int (f))] rfl (Nat.le_of_ble_eq_true rfl) (by intro v hv; simp only [List.mem_cons, List.not_mem_nil, or_false] at hv; rcases hv with rfl | rfl | rfl | rfl | rfl <;> rfl) (fun E K => ?_)
  have hS : zFm M W B M := zFm.rf
  refine zq_aload_n K dX2_makeLink_0 rfl rfl ?_
  refine zq_dup K dX2_makeLink_1 rfl ?_
  refine zq_getI K dX2_makeLink_2 zclX2 (k := 3) (by decide) zf_X2_253 rfl hC.x.1 ?_
  refine zq_top hC.x.2.2.1.2.2.1 ?_
  refine zq_top (v := B.1 8) rfl ?_
  refine zq_iconst K dX2_makeLink_5 (v := nI 1) (by decide) ?_
  refine zq_iadd K dX2_makeLink_6 ?_
  refine zc_p2_3 K dX2_makeLink_7 zf_X2_253 hC hS (fun M hC hS => ?_)
  refine zq_aload_n K dX2_makeLink_10 rfl rfl ?_
  refine zq_iload_n K dX2_makeLink_11 rfl rfl ?_
  refine zq_aload_n K dX2_makeLink_12 rfl rfl ?_
  refine zq_iload_n K dX2_makeLink_13 rfl rfl ?_
  refine zq_iload K dX2_makeLink_14 rfl ?_
  refine zq_aload_n K dX2_makeLink_16 rfl rfl ?_
  refine zq_getI K dX2_makeLink_17 zclX2 (k := 3) (by decide) zf_X2_253 rfl hC.x.1 ?_
  refine zq_top hC.x.2.2.1.2.2.1 ?_
  refine zq_top (v := B.1 8 + nI 1) rfl ?_
  refine zq_callV (As := [.int (c), .ref (W 3 (d)), .int (nI (n)), .int (f), .int (B.1 8 + nI 1)]) K dX2_makeLink_20 zyX2_changeName zm_X2_75 ziX2_changeName zvX2_changeName zclX2 rfl (by decide) rfl rfl (Nat.le_of_ble_eq_true rfl) (Nat.le_of_ble_eq_true rfl) hC.x.1 (ct_X2_changeName (B := zsc B 8 (B.1 8 + nI 1)) hC hv hF hn c f (B.1 8 + nI 1)) (zCP_r hS (fun _ _ h => h) (fun M hC hS => ?_)) zCP_x (Nat.le_refl _)
  exact zq_ret K dX2_makeLink_23 rfl ⟨rfl, hC, hS⟩
theorem ct_X2_makeFile_no {G : ZG} {M : ZM} {W : Nat → Nat → Nat} {B : ZA} (hC : zC M W B) (hW : zWf B) {c d n : Nat} (hc : c < 4) (hv : zVal B 3 d) (hn : n < 50) (hM : zMw B) {F : Nat} (hf : B.1 9 = nI F) (hF30 : F ≤ 30) (h : zBz B d n ∨ F = 30) : zMet G mX2_makeFile [.ref (W 10 0), .int (nI (c)), .int (nI (d)), .int (nI (n))] M (zthr zISE M) := by
  refine zbody zyX2_makeFile [some (.ref (W 10 0)), some (.int (nI (c))), some (.int (nI (d))), some (.int (nI (n))), none, none] rfl (Nat.le_of_ble_eq_true rfl) (by intro v hv; simp only [List.mem_cons, List.not_mem_nil, or_false] at hv; rcases hv with rfl | rfl | rfl | rfl <;> rfl) (fun E K => ?_)
  obtain ⟨⟨D, hB⟩, hF, hU⟩ := id hW
  have hS : zFm M W B M := zFm.rf
  refine zq_iload_n K dX2_makeFile_0 rfl rfl ?_
  refine zq_callS (As := [.int (nI (c))]) K dX2_makeFile_1 zyX2_needClient zm_X2_29 zsX2_needClient rfl (by decide) rfl rfl (Nat.le_of_ble_eq_true rfl) (Nat.le_of_ble_eq_true rfl) (ct_X2_needClient (nI c) M) (znd_r (fun hc9 => ?_)) (znd_x (fun hc9 => ?_)) (Nat.le_refl _)
  · refine zq_iload_n K dX2_makeFile_4 rfl rfl ?_
    refine zq_callS (As := [.int (nI (n))]) K dX2_makeFile_5 zyX2_needName zm_X2_33 zsX2_needName rfl (by decide) rfl rfl (Nat.le_of_ble_eq_true rfl) (Nat.le_of_ble_eq_true rfl) (ct_X2_needName (nI n) M) (znd_r (fun hn9 => ?_)) (znd_x (fun hn9 => ?_)) (Nat.le_refl _)
    · refine zq_aload_n K dX2_makeFile_8 rfl rfl ?_
      refine zq_iload_n K dX2_makeFile_9 rfl rfl ?_
      refine zq_callV (As := [.int (nI (d))]) K dX2_makeFile_10 zyX2_needDirectory zm_X2_36 ziX2_needDirectory zvX2_needDirectory zclX2 rfl (by decide) rfl rfl (Nat.le_of_ble_eq_true rfl) (Nat.le_of_ble_eq_true rfl) hC.x.1 (ct_X2_needDirectory_1 hC hv) (zone_r ?_) zone_x (Nat.le_refl _)
      refine zq_astore K dX2_makeFile_13 (by decide) ?_
      refine zq_aload_n K dX2_makeFile_15 rfl rfl ?_
      refine zq_aload K dX2_makeFile_16 rfl ?_
      refine zq_iload_n K dX2_makeFile_18 rfl rfl ?_
      refine zq_callV (As := [.ref (W 3 d), .int (nI (n))]) K dX2_makeFile_19 zyX2_needFree zm_X2_64 ziX2_needFree zvX2_needFree zclX2 rfl (by decide) rfl rfl (Nat.le_of_ble_eq_true rfl) (Nat.le_of_ble_eq_true rfl) hC.x.1 (ct_X2_needFree hC hv hn hF hU hM) (znd_r (fun hz => ?_)) (znd_x (fun hz => ?_)) (Nat.le_refl _)
      · refine zq_aload_n K dX2_makeFile_22 rfl rfl ?_
        refine zq_getI K dX2_makeFile_23 zclX2 (k := 2) (by decide) zf_X2_79 rfl hC.x.1 ?_
        refine zq_top hC.x.2.2.1.2.1 ?_
        refine zq_top (v := nI (F)) hf ?_
        refine zq_bipush K dX2_makeFile_26 (v := nI 30) (by decide) ?_
        refine zq_icmp_ltN K (x := F) (y := 30) 41 dX2_makeFile_28 (by decide) ⟨by omega, by omega⟩ (fun h28 => ?_) (fun h28 => ?_)
        · rcases h with h | h
          · exact absurd h hz
          · omega
        · exact zq_throw K (text := "there were 30 files") zthISE (by decide +kernel) dX2_makeFile_31 dX2_makeFile_34 dX2_makeFile_35 dX2_makeFile_37 dX2_makeFile_40 (by decide) (Nat.le_of_ble_eq_true rfl) (Nat.le_of_ble_eq_true rfl) ⟨rfl, rfl⟩
      · exact zx_out K ⟨rfl, rfl⟩
    · exact absurd ⟨n, by omega, rfl⟩ hn9
  · exact absurd ⟨c, by omega, rfl⟩ hc9
theorem ct_X2_makeFile_ok {G : ZG} {M : ZM} {W : Nat → Nat → Nat} {B : ZA} (hC : zC M W B) (hW : zWf B) {c d n : Nat} (hc : c < 4) (hv : zVal B 3 d) (hn : n < 50) (hM : zMw B) {F : Nat} (hf : B.1 9 = nI F) (hF30 : F ≤ 30) (h : ¬ zBz B d n) (hlt : F < 30) : zMet G mX2_makeFile [.ref (W 10 0), .int (nI (c)), .int (nI (d)), .int (nI (n))] M (zCP W M B (some (.int (nI F))) (zcl1 (zsc B 9 (nI (F + 1))) (nI c) d n (nI F))) := by
  refine zbody zyX2_makeFile [some (.ref (W 10 0)), some (.int (nI (c))), some (.int (nI (d))), some (.int (nI (n))), none, none] rfl (Nat.le_of_ble_eq_true rfl) (by intro v hv; simp only [List.mem_cons, List.not_mem_nil, or_false] at hv; rcases hv with rfl | rfl | rfl | rfl <;> rfl) (fun E K => ?_)
  obtain ⟨⟨D, hB⟩, hF, hU⟩ := id hW
  have hS : zFm M W B M := zFm.rf
  refine zq_iload_n K dX2_makeFile_0 rfl rfl ?_
  refine zq_callS (As := [.int (nI (c))]) K dX2_makeFile_1 zyX2_needClient zm_X2_29 zsX2_needClient rfl (by decide) rfl rfl (Nat.le_of_ble_eq_true rfl) (Nat.le_of_ble_eq_true rfl) (ct_X2_needClient (nI c) M) (znd_r (fun hc9 => ?_)) (znd_x (fun hc9 => ?_)) (Nat.le_refl _)
  · refine zq_iload_n K dX2_makeFile_4 rfl rfl ?_
    refine zq_callS (As := [.int (nI (n))]) K dX2_makeFile_5 zyX2_needName zm_X2_33 zsX2_needName rfl (by decide) rfl rfl (Nat.le_of_ble_eq_true rfl) (Nat.le_of_ble_eq_true rfl) (ct_X2_needName (nI n) M) (znd_r (fun hn9 => ?_)) (znd_x (fun hn9 => ?_)) (Nat.le_refl _)
    · refine zq_aload_n K dX2_makeFile_8 rfl rfl ?_
      refine zq_iload_n K dX2_makeFile_9 rfl rfl ?_
      refine zq_callV (As := [.int (nI (d))]) K dX2_makeFile_10 zyX2_needDirectory zm_X2_36 ziX2_needDirectory zvX2_needDirectory zclX2 rfl (by decide) rfl rfl (Nat.le_of_ble_eq_true rfl) (Nat.le_of_ble_eq_true rfl) hC.x.1 (ct_X2_needDirectory_1 hC hv) (zone_r ?_) zone_x (Nat.le_refl _)
      refine zq_astore K dX2_makeFile_13 (by decide) ?_
      refine zq_aload_n K dX2_makeFile_15 rfl rfl ?_
      refine zq_aload K dX2_makeFile_16 rfl ?_
      refine zq_iload_n K dX2_makeFile_18 rfl rfl ?_
      refine zq_callV (As := [.ref (W 3 d), .int (nI (n))]) K dX2_makeFile_19 zyX2_needFree zm_X2_64 ziX2_needFree zvX2_needFree zclX2 rfl (by decide) rfl rfl (Nat.le_of_ble_eq_true rfl) (Nat.le_of_ble_eq_true rfl) hC.x.1 (ct_X2_needFree hC hv hn hF hU hM) (znd_r (fun hz => ?_)) (znd_x (fun hz => ?_)) (Nat.le_refl _)
      · refine zq_aload_n K dX2_makeFile_22 rfl rfl ?_
        refine zq_getI K dX2_makeFile_23 zclX2 (k := 2) (by decide) zf_X2_79 rfl hC.x.1 ?_
        refine zq_top hC.x.2.2.1.2.1 ?_
        refine zq_top (v := nI (F)) hf ?_
        refine zq_bipush K dX2_makeFile_26 (v := nI 30) (by decide) ?_
        refine zq_icmp_ltN K (x := F) (y := 30) 41 dX2_makeFile_28 (by decide) ⟨by omega, by omega⟩ (fun h28 => ?_) (fun h28 => by omega)
        refine zq_aload_n K dX2_makeFile_41 rfl rfl ?_
        refine zq_getI K dX2_makeFile_42 zclX2 (k := 2) (by decide) zf_X2_79 rfl hC.x.1 ?_
        refine zq_top hC.x.2.2.1.2.1 ?_
        refine zq_top (v := nI (F)) hf ?_
        refine zq_istore K dX2_makeFile_45 (by decide) ?_
        refine zq_aload_n K dX2_makeFile_47 rfl rfl ?_
        refine zq_dup K dX2_makeFile_48 rfl ?_
        refine zq_getI K dX2_makeFile_49 zclX2 (k := 2) (by decide) zf_X2_79 rfl hC.x.1 ?_
        refine zq_top hC.x.2.2.1.2.1 ?_
        refine zq_top (v := nI (F)) hf ?_
        refine zq_iconst K dX2_makeFile_52 (v := nI 1) (by decide) ?_
        refine zq_iaddN K (x := F) (y := 1) dX2_makeFile_53 ?_
        refine zc_p2_2 K dX2_makeFile_54 zf_X2_79 hC hS (fun M hC hS => ?_)
        refine zq_aload_n K dX2_makeFile_57 rfl rfl ?_
        refine zq_iload_n K dX2_makeFile_58 rfl rfl ?_
        refine zq_aload K dX2_makeFile_59 rfl ?_
        refine zq_iload_n K dX2_makeFile_61 rfl rfl ?_
        refine zq_iload K dX2_makeFile_62 rfl ?_
        refine zq_callV (As := [.int (nI (c)), .ref (W 3 d), .int (nI (n)), .int (nI (F))]) K dX2_makeFile_64 zyX2_makeLink zm_X2_84 ziX2_makeLink zvX2_makeLink zclX2 rfl (by decide) rfl rfl (Nat.le_of_ble_eq_true rfl) (Nat.le_of_ble_eq_true rfl) hC.x.1 (ct_X2_makeLink (B := zsc B 9 (nI (F + 1))) hC hv hF hn (nI c) (nI F)) (zCP_r hS (fun _ _ h => h) (fun M hC hS => ?_)) zCP_x (Nat.le_refl _)
        refine zq_iload K dX2_makeFile_67 rfl ?_
        exact zq_iret K dX2_makeFile_69 rfl ⟨rfl, hC, hS⟩
      · exact absurd h hz
    · exact absurd ⟨n, by omega, rfl⟩ hn9
  · exact absurd ⟨c, by omega, rfl⟩ hc9
theorem zkl_le (B : ZA) (f : Int32) : ∀ k, zsm (zkl B f) k ≤ 50 * k := zsm_le (fun d => by
  unfold zkl
  split
  · exact zcN_le _ 50
  · omega)
theorem zkt_le (B : ZA) (c : Nat) : ∀ k, zsm (zkt B c) k ≤ 50 * k := zsm_le (fun d => by
  unfold zkt
  split
  · exact zcN_le _ 50
  · omega)
theorem ct_X2_link_2 {G : ZG} {M : ZM} {W : Nat → Nat → Nat} {B : ZA} (hC : zC M W B) (hW : zWf B) {c d n : Nat} (hc : c < 4) (hv : zVal B 3 d) (hn : n < 50) (hM : zMw B) {F : Nat} (hf : B.1 9 = nI F) (hF30 : F ≤ 30) (f : Int32) (h : ¬ (zFn F f ∧ 0 < zsm (zkl B f) 12)) : zMet G mX2_link [.ref (W 10 0), .int (nI (c)), .int (nI (d)), .int (nI (n)), .int (f)] M (zthr zIOB M) := by
  refine zbody zyX2_link [some (.ref (W 10 0)), some (.int (nI (c))), some (.int (nI (d))), some (.int (nI (n))), some (.int (f)), none, none] rfl (Nat.le_of_ble_eq_true rfl) (by intro v hv; simp only [List.mem_cons, List.not_mem_nil, or_false] at hv; rcases hv with rfl | rfl | rfl | rfl | rfl <;> rfl) (fun E K => ?_)
  obtain ⟨⟨D, hB⟩, hF, hU⟩ := id hW
  have hS : zFm M W B M := zFm.rf
  refine zq_iload_n K dX2_link_0 rfl rfl ?_
  refine zq_callS (As := [.int (nI (c))]) K dX2_link_1 zyX2_needClient zm_X2_29 zsX2_needClient rfl (by decide) rfl rfl (Nat.le_of_ble_eq_true rfl) (Nat.le_of_ble_eq_true rfl) (ct_X2_needClient (nI c) M) (znd_r (fun hc9 => ?_)) (znd_x (fun hc9 => ?_)) (Nat.le_refl _)
  · refine zq_iload_n K dX2_link_4 rfl rfl ?_
    refine zq_callS (As := [.int (nI (n))]) K dX2_link_5 zyX2_needName zm_X2_33 zsX2_needName rfl (by decide) rfl rfl (Nat.le_of_ble_eq_true rfl) (Nat.le_of_ble_eq_true rfl) (ct_X2_needName (nI n) M) (znd_r (fun hn9 => ?_)) (znd_x (fun hn9 => ?_)) (Nat.le_refl _)
    · refine zq_aload_n K dX2_link_8 rfl rfl ?_
      refine zq_iload_n K dX2_link_9 rfl rfl ?_
      refine zq_callV (As := [.int (nI (d))]) K dX2_link_10 zyX2_needDirectory zm_X2_36 ziX2_needDirectory zvX2_needDirectory zclX2 rfl (by decide) rfl rfl (Nat.le_of_ble_eq_true rfl) (Nat.le_of_ble_eq_true rfl) hC.x.1 (ct_X2_needDirectory_1 hC hv) (zone_r ?_) zone_x (Nat.le_refl _)
      refine zq_astore K dX2_link_13 (by decide) ?_
      refine zq_aload_n K dX2_link_15 rfl rfl ?_
      refine zq_iload K dX2_link_16 rfl ?_
      refine zq_callV (As := [.int (f)]) K dX2_link_18 zyX2_needFile zm_X2_87 ziX2_needFile zvX2_needFile zclX2 rfl (by decide) rfl rfl (Nat.le_of_ble_eq_true rfl) (Nat.le_of_ble_eq_true rfl) hC.x.1 (ct_X2_needFile hC hf hF30 f) (znd_r (fun hff => ?_)) (znd_x (fun hff => ?_)) (Nat.le_refl _)
      · refine zq_aload_n K dX2_link_21 rfl rfl ?_
        refine zq_iload K dX2_link_22 rfl ?_
        refine zq_callV (As := [.int (f)]) K dX2_link_24 zyX2_countLinks zm_X2_90 ziX2_countLinks zvX2_countLinks zclX2 rfl (by decide) rfl rfl (Nat.le_of_ble_eq_true rfl) (Nat.le_of_ble_eq_true rfl) hC.x.1 (ct_X2_countLinks hC f) (zone_r ?_) zone_x (Nat.le_refl _)
        refine zq_istore K dX2_link_27 (by decide) ?_
        refine zq_iload K dX2_link_29 rfl ?_
        refine zq_if_neN K (x := zsm (zkl B f) 12) 44 dX2_link_31 (by decide) (by have := zkl_le B f 12; omega) (fun h31 => ?_) (fun h31 => ?_)
        · exact absurd ⟨hff, by omega⟩ h
        · exact zq_throw K (text := "the file is gone") zthIOB (by decide +kernel) dX2_link_34 dX2_link_37 dX2_link_38 dX2_link_40 dX2_link_43 (by decide) (Nat.le_of_ble_eq_true rfl) (Nat.le_of_ble_eq_true rfl) ⟨rfl, rfl⟩
      · exact zx_out K ⟨rfl, rfl⟩
    · exact absurd ⟨n, by omega, rfl⟩ hn9
  · exact absurd ⟨c, by omega, rfl⟩ hc9
theorem ct_X2_link_3 {G : ZG} {M : ZM} {W : Nat → Nat → Nat} {B : ZA} (hC : zC M W B) (hW : zWf B) {c d n : Nat} (hc : c < 4) (hv : zVal B 3 d) (hn : n < 50) (hM : zMw B) {F : Nat} (hf : B.1 9 = nI F) (hF30 : F ≤ 30) (f : Int32) (h : zFn F f ∧ 0 < zsm (zkl B f) 12) (h3 : zBz B d n) : zMet G mX2_link [.ref (W 10 0), .int (nI (c)), .int (nI (d)), .int (nI (n)), .int (f)] M (zthr zISE M) := by
  refine zbody zyX2_link [some (.ref (W 10 0)), some (.int (nI (c))), some (.int (nI (d))), some (.int (nI (n))), some (.int (f)), none, none] rfl (Nat.le_of_ble_eq_true rfl) (by intro v hv; simp only [List.mem_cons, List.not_mem_nil, or_false] at hv; rcases hv with rfl | rfl | rfl | rfl | rfl <;> rfl) (fun E K => ?_)
  obtain ⟨⟨D, hB⟩, hF, hU⟩ := id hW
  have hS : zFm M W B M := zFm.rf
  refine zq_iload_n K dX2_link_0 rfl rfl ?_
  refine zq_callS (As := [.int (nI (c))]) K dX2_link_1 zyX2_needClient zm_X2_29 zsX2_needClient rfl (by decide) rfl rfl (Nat.le_of_ble_eq_true rfl) (Nat.le_of_ble_eq_true rfl) (ct_X2_needClient (nI c) M) (znd_r (fun hc9 => ?_)) (znd_x (fun hc9 => ?_)) (Nat.le_refl _)
  · refine zq_iload_n K dX2_link_4 rfl rfl ?_
    refine zq_callS (As := [.int (nI (n))]) K dX2_link_5 zyX2_needName zm_X2_33 zsX2_needName rfl (by decide) rfl rfl (Nat.le_of_ble_eq_true rfl) (Nat.le_of_ble_eq_true rfl) (ct_X2_needName (nI n) M) (znd_r (fun hn9 => ?_)) (znd_x (fun hn9 => ?_)) (Nat.le_refl _)
    · refine zq_aload_n K dX2_link_8 rfl rfl ?_
      refine zq_iload_n K dX2_link_9 rfl rfl ?_
      refine zq_callV (As := [.int (nI (d))]) K dX2_link_10 zyX2_needDirectory zm_X2_36 ziX2_needDirectory zvX2_needDirectory zclX2 rfl (by decide) rfl rfl (Nat.le_of_ble_eq_true rfl) (Nat.le_of_ble_eq_true rfl) hC.x.1 (ct_X2_needDirectory_1 hC hv) (zone_r ?_) zone_x (Nat.le_refl _)
      refine zq_astore K dX2_link_13 (by decide) ?_
      refine zq_aload_n K dX2_link_15 rfl rfl ?_
      refine zq_iload K dX2_link_16 rfl ?_
      refine zq_callV (As := [.int (f)]) K dX2_link_18 zyX2_needFile zm_X2_87 ziX2_needFile zvX2_needFile zclX2 rfl (by decide) rfl rfl (Nat.le_of_ble_eq_true rfl) (Nat.le_of_ble_eq_true rfl) hC.x.1 (ct_X2_needFile hC hf hF30 f) (znd_r (fun hff => ?_)) (znd_x (fun hff => ?_)) (Nat.le_refl _)
      · refine zq_aload_n K dX2_link_21 rfl rfl ?_
        refine zq_iload K dX2_link_22 rfl ?_
        refine zq_callV (As := [.int (f)]) K dX2_link_24 zyX2_countLinks zm_X2_90 ziX2_countLinks zvX2_countLinks zclX2 rfl (by decide) rfl rfl (Nat.le_of_ble_eq_true rfl) (Nat.le_of_ble_eq_true rfl) hC.x.1 (ct_X2_countLinks hC f) (zone_r ?_) zone_x (Nat.le_refl _)
        refine zq_istore K dX2_link_27 (by decide) ?_
        refine zq_iload K dX2_link_29 rfl ?_
        refine zq_if_neN K (x := zsm (zkl B f) 12) 44 dX2_link_31 (by decide) (by have := zkl_le B f 12; omega) (fun h31 => ?_) (fun h31 => ?_)
        · refine zq_aload_n K dX2_link_44 rfl rfl ?_
          refine zq_aload K dX2_link_45 rfl ?_
          refine zq_iload_n K dX2_link_47 rfl rfl ?_
          refine zq_callV (As := [.ref (W 3 d), .int (nI (n))]) K dX2_link_48 zyX2_needFree zm_X2_64 ziX2_needFree zvX2_needFree zclX2 rfl (by decide) rfl rfl (Nat.le_of_ble_eq_true rfl) (Nat.le_of_ble_eq_true rfl) hC.x.1 (ct_X2_needFree hC hv hn hF hU hM) (znd_r (fun hz => ?_)) (znd_x (fun hz => ?_)) (Nat.le_refl _)
          · exact absurd h3 hz
          · exact zx_out K ⟨rfl, rfl⟩
        · omega
      · exact absurd h.1 hff
    · exact absurd ⟨n, by omega, rfl⟩ hn9
  · exact absurd ⟨c, by omega, rfl⟩ hc9
theorem ct_X2_link_ok {G : ZG} {M : ZM} {W : Nat → Nat → Nat} {B : ZA} (hC : zC M W B) (hW : zWf B) {c d n : Nat} (hc : c < 4) (hv : zVal B 3 d) (hn : n < 50) (hM : zMw B) {F : Nat} (hf : B.1 9 = nI F) (hF30 : F ≤ 30) (f : Int32) (h : zFn F f ∧ 0 < zsm (zkl B f) 12) (h3 : ¬ zBz B d n) : zMet G mX2_link [.ref (W 10 0), .int (nI (c)), .int (nI (d)), .int (nI (n)), .int (f)] M (zCP W M B (some (.int (nI (zsm (zkl B f) 12 + 1)))) (zcl1 B (nI c) d n f)) := by
  refine zbody zyX2_link [some (.ref (W 10 0)), some (.int (nI (c))), some (.int (nI (d))), some (.int (nI (n))), some (.int (f)), none, none] rfl (Nat.le_of_ble_eq_true rfl) (by intro v hv; simp only [List.mem_cons, List.not_mem_nil, or_false] at hv; rcases hv with rfl | rfl | rfl | rfl | rfl <;> rfl) (fun E K => ?_)
  obtain ⟨⟨D, hB⟩, hF, hU⟩ := id hW
  have hS : zFm M W B M := zFm.rf
  refine zq_iload_n K dX2_link_0 rfl rfl ?_
  refine zq_callS (As := [.int (nI (c))]) K dX2_link_1 zyX2_needClient zm_X2_29 zsX2_needClient rfl (by decide) rfl rfl (Nat.le_of_ble_eq_true rfl) (Nat.le_of_ble_eq_true rfl) (ct_X2_needClient (nI c) M) (znd_r (fun hc9 => ?_)) (znd_x (fun hc9 => ?_)) (Nat.le_refl _)
  · refine zq_iload_n K dX2_link_4 rfl rfl ?_
    refine zq_callS (As := [.int (nI (n))]) K dX2_link_5 zyX2_needName zm_X2_33 zsX2_needName rfl (by decide) rfl rfl (Nat.le_of_ble_eq_true rfl) (Nat.le_of_ble_eq_true rfl) (ct_X2_needName (nI n) M) (znd_r (fun hn9 => ?_)) (znd_x (fun hn9 => ?_)) (Nat.le_refl _)
    · refine zq_aload_n K dX2_link_8 rfl rfl ?_
      refine zq_iload_n K dX2_link_9 rfl rfl ?_
      refine zq_callV (As := [.int (nI (d))]) K dX2_link_10 zyX2_needDirectory zm_X2_36 ziX2_needDirectory zvX2_needDirectory zclX2 rfl (by decide) rfl rfl (Nat.le_of_ble_eq_true rfl) (Nat.le_of_ble_eq_true rfl) hC.x.1 (ct_X2_needDirectory_1 hC hv) (zone_r ?_) zone_x (Nat.le_refl _)
      refine zq_astore K dX2_link_13 (by decide) ?_
      refine zq_aload_n K dX2_link_15 rfl rfl ?_
      refine zq_iload K dX2_link_16 rfl ?_
      refine zq_callV (As := [.int (f)]) K dX2_link_18 zyX2_needFile zm_X2_87 ziX2_needFile zvX2_needFile zclX2 rfl (by decide) rfl rfl (Nat.le_of_ble_eq_true rfl) (Nat.le_of_ble_eq_true rfl) hC.x.1 (ct_X2_needFile hC hf hF30 f) (znd_r (fun hff => ?_)) (znd_x (fun hff => ?_)) (Nat.le_refl _)
      · refine zq_aload_n K dX2_link_21 rfl rfl ?_
        refine zq_iload K dX2_link_22 rfl ?_
        refine zq_callV (As := [.int (f)]) K dX2_link_24 zyX2_countLinks zm_X2_90 ziX2_countLinks zvX2_countLinks zclX2 rfl (by decide) rfl rfl (Nat.le_of_ble_eq_true rfl) (Nat.le_of_ble_eq_true rfl) hC.x.1 (ct_X2_countLinks hC f) (zone_r ?_) zone_x (Nat.le_refl _)
        refine zq_istore K dX2_link_27 (by decide) ?_
        refine zq_iload K dX2_link_29 rfl ?_
        refine zq_if_neN K (x := zsm (zkl B f) 12) 44 dX2_link_31 (by decide) (by have := zkl_le B f 12; omega) (fun h31 => ?_) (fun h31 => ?_)
        · refine zq_aload_n K dX2_link_44 rfl rfl ?_
          refine zq_aload K dX2_link_45 rfl ?_
          refine zq_iload_n K dX2_link_47 rfl rfl ?_
          refine zq_callV (As := [.ref (W 3 d), .int (nI (n))]) K dX2_link_48 zyX2_needFree zm_X2_64 ziX2_needFree zvX2_needFree zclX2 rfl (by decide) rfl rfl (Nat.le_of_ble_eq_true rfl) (Nat.le_of_ble_eq_true rfl) hC.x.1 (ct_X2_needFree hC hv hn hF hU hM) (znd_r (fun hz => ?_)) (znd_x (fun hz => ?_)) (Nat.le_refl _)
          · refine zq_aload_n K dX2_link_51 rfl rfl ?_
            refine zq_iload_n K dX2_link_52 rfl rfl ?_
            refine zq_aload K dX2_link_53 rfl ?_
            refine zq_iload_n K dX2_link_55 rfl rfl ?_
            refine zq_iload K dX2_link_56 rfl ?_
            refine zq_callV (As := [.int (nI (c)), .ref (W 3 d), .int (nI (n)), .int (f)]) K dX2_link_58 zyX2_makeLink zm_X2_84 ziX2_makeLink zvX2_makeLink zclX2 rfl (by decide) rfl rfl (Nat.le_of_ble_eq_true rfl) (Nat.le_of_ble_eq_true rfl) hC.x.1 (ct_X2_makeLink hC hv hF hn (nI c) f) (zCP_r hS (fun _ _ h => h) (fun M hC hS => ?_)) zCP_x (Nat.le_refl _)
            refine zq_iload K dX2_link_61 rfl ?_
            refine zq_iconst K dX2_link_63 (v := nI 1) (by decide) ?_
            refine zq_iaddN K (x := zsm (zkl B f) 12) (y := 1) dX2_link_64 ?_
            exact zq_iret K dX2_link_65 rfl ⟨rfl, hC, hS⟩
          · exact absurd h3 hz
        · omega
      · exact absurd h.1 hff
    · exact absurd ⟨n, by omega, rfl⟩ hn9
  · exact absurd ⟨c, by omega, rfl⟩ hc9
theorem znd_i {p q : Prop} {v : Option Value} {X : String} {M : ZM} (h : p ↔ q) : znd p v X M = znd q v X M := by rw [propext h]
theorem ct_X2_needRemovable {G : ZG} {M : ZM} {W : Nat → Nat → Nat} {B : ZA} (hC : zC M W B) (hM : zMw B) {d : Nat} (hv : zVal B 3 d) : zMet G mX2_needRemovable [.ref (W 10 0), .ref (W 3 (d))] M (znd (¬ zHd B d) none zISE M) := by
  rcases hM with h0 | ⟨m, h1, h2⟩
  · rw [znd_i (q := ¬ 0 < zcN (zpu B d) 50) (by unfold zHd; rw [h0]; exact ⟨fun z y => z (Or.inl y), fun z y => y.elim z (fun y => y.1 rfl)⟩)]
    exact ct_X2_needRemovable_0 hC hv h0
  · have h3 := h2.1
    rw [znd_i (q := ¬ (0 < zcN (zpu B d) 50 ∨ m / 8 = d)) (by unfold zHd; rw [h1, nI_clamp (by omega)]; exact ⟨fun z y => z (y.imp id (fun y => ⟨nI_ne1 (by omega), rfl, y⟩)), fun z y => z (y.imp id (fun y => y.2.2))⟩)]
    exact ct_X2_needRemovable_1 hC hv h1 h2
theorem zFr.dr {B : ZA} {e : Nat} (h : zFr B) : zFr (zsa B 3 e (nI 0)) := by
  refine ⟨fun d h1 h2 => ?_, h.2⟩
  rw [zsa_2] at h2
  split at h2
  · exact absurd h2 (by decide)
  · exact h.1 d h1 h2
theorem zVal.ne {B : ZA} {d e : Nat} (h : zVal B 3 d) (hne : ¬ d = e) : zVal (zsa B 3 e (nI 0)) 3 d := ⟨h.1, by rw [zsa_2, if_neg (fun z => hne z.2)]; exact h.2⟩
theorem ct_X2_remove_no {G : ZG} {M : ZM} {W : Nat → Nat → Nat} {B : ZA} (hC : zC M W B) (hW : zWf B) {c d n : Nat} (hc : c < 4) (hv : zVal B 3 d) (hn : n < 50) (hM : zMw B) (h : B.2 6 (50 * d + n) = -1 ∨ zfz B (zfn B d n) = true) : zMet G mX2_remove [.ref (W 10 0), .int (nI (c)), .int (nI (d)), .int (nI (n))] M (zthr zISE M) := by
  refine zbody zyX2_remove [some (.ref (W 10 0)), some (.int (nI (c))), some (.int (nI (d))), some (.int (nI (n))), none, none, none] rfl (Nat.le_of_ble_eq_true rfl) (by intro v hv; simp only [List.mem_cons, List.not_mem_nil, or_false] at hv; rcases hv with rfl | rfl | rfl | rfl <;> rfl) (fun E K => ?_)
  obtain ⟨⟨D, hB⟩, hF, hU⟩ := id hW
  have hS : zFm M W B M := zFm.rf
  refine zq_iload_n K dX2_remove_0 rfl rfl ?_
  refine zq_callS (As := [.int (nI (c))]) K dX2_remove_1 zyX2_needClient zm_X2_29 zsX2_needClient rfl (by decide) rfl rfl (Nat.le_of_ble_eq_true rfl) (Nat.le_of_ble_eq_true rfl) (ct_X2_needClient (nI c) M) (znd_r (fun hc9 => ?_)) (znd_x (fun hc9 => ?_)) (Nat.le_refl _)
  · refine zq_iload_n K dX2_remove_4 rfl rfl ?_
    refine zq_callS (As := [.int (nI (n))]) K dX2_remove_5 zyX2_needName zm_X2_33 zsX2_needName rfl (by decide) rfl rfl (Nat.le_of_ble_eq_true rfl) (Nat.le_of_ble_eq_true rfl) (ct_X2_needName (nI n) M) (znd_r (fun hn9 => ?_)) (znd_x (fun hn9 => ?_)) (Nat.le_refl _)
    · refine zq_aload_n K dX2_remove_8 rfl rfl ?_
      refine zq_iload_n K dX2_remove_9 rfl rfl ?_
      refine zq_callV (As := [.int (nI (d))]) K dX2_remove_10 zyX2_needDirectory zm_X2_36 ziX2_needDirectory zvX2_needDirectory zclX2 rfl (by decide) rfl rfl (Nat.le_of_ble_eq_true rfl) (Nat.le_of_ble_eq_true rfl) hC.x.1 (ct_X2_needDirectory_1 hC hv) (zone_r ?_) zone_x (Nat.le_refl _)
      refine zq_astore K dX2_remove_13 (by decide) ?_
      refine zq_aload_n K dX2_remove_15 rfl rfl ?_
      refine zq_aload K dX2_remove_16 rfl ?_
      refine zq_iload_n K dX2_remove_18 rfl rfl ?_
      refine zq_callV (As := [.ref (W 3 d), .int (nI (n))]) K dX2_remove_19 zyX2_needTaken zm_X2_98 ziX2_needTaken zvX2_needTaken zclX2 rfl (by decide) rfl rfl (Nat.le_of_ble_eq_true rfl) (Nat.le_of_ble_eq_true rfl) hC.x.1 (ct_X2_needTaken hC hv hn hF hU hM) (znd_r (fun ht => ?_)) (znd_x (fun ht => ?_)) (Nat.le_refl _)
      · exact absurd h (fun z => z.elim ht.1 ht.2)
      · exact zx_out K ⟨rfl, rfl⟩
    · exact absurd ⟨n, by omega, rfl⟩ hn9
  · exact absurd ⟨c, by omega, rfl⟩ hc9
theorem ct_X2_remove_file {G : ZG} {M : ZM} {W : Nat → Nat → Nat} {B : ZA} (hC : zC M W B) (hW : zWf B) {c d n : Nat} (hc : c < 4) (hv : zVal B 3 d) (hn : n < 50) (hM : zMw B) (h : ¬ B.2 6 (50 * d + n) = -1 ∧ ¬ zfz B (zfn B d n) = true) (h2 : -2 < B.2 6 (50 * d + n)) : zMet G mX2_remove [.ref (W 10 0), .int (nI (c)), .int (nI (d)), .int (nI (n))] M (zCP W M B (some (.int (B.2 6 (50 * d + n)))) (zcn B (nI c) d n (-1) (nI 0))) := by
  refine zbody zyX2_remove [some (.ref (W 10 0)), some (.int (nI (c))), some (.int (nI (d))), some (.int (nI (n))), none, none, none] rfl (Nat.le_of_ble_eq_true rfl) (by intro v hv; simp only [List.mem_cons, List.not_mem_nil, or_false] at hv; rcases hv with rfl | rfl | rfl | rfl <;> rfl) (fun E K => ?_)
  obtain ⟨⟨D, hB⟩, hF, hU⟩ := id hW
  have hS : zFm M W B M := zFm.rf
  refine zq_iload_n K dX2_remove_0 rfl rfl ?_
  refine zq_callS (As := [.int (nI (c))]) K dX2_remove_1 zyX2_needClient zm_X2_29 zsX2_needClient rfl (by decide) rfl rfl (Nat.le_of_ble_eq_true rfl) (Nat.le_of_ble_eq_true rfl) (ct_X2_needClient (nI c) M) (znd_r (fun hc9 => ?_)) (znd_x (fun hc9 => ?_)) (Nat.le_refl _)
  · refine zq_iload_n K dX2_remove_4 rfl rfl ?_
    refine zq_callS (As := [.int (nI (n))]) K dX2_remove_5 zyX2_needName zm_X2_33 zsX2_needName rfl (by decide) rfl rfl (Nat.le_of_ble_eq_true rfl) (Nat.le_of_ble_eq_true rfl) (ct_X2_needName (nI n) M) (znd_r (fun hn9 => ?_)) (znd_x (fun hn9 => ?_)) (Nat.le_refl _)
    · refine zq_aload_n K dX2_remove_8 rfl rfl ?_
      refine zq_iload_n K dX2_remove_9 rfl rfl ?_
      refine zq_callV (As := [.int (nI (d))]) K dX2_remove_10 zyX2_needDirectory zm_X2_36 ziX2_needDirectory zvX2_needDirectory zclX2 rfl (by decide) rfl rfl (Nat.le_of_ble_eq_true rfl) (Nat.le_of_ble_eq_true rfl) hC.x.1 (ct_X2_needDirectory_1 hC hv) (zone_r ?_) zone_x (Nat.le_refl _)
      refine zq_astore K dX2_remove_13 (by decide) ?_
      refine zq_aload_n K dX2_remove_15 rfl rfl ?_
      refine zq_aload K dX2_remove_16 rfl ?_
      refine zq_iload_n K dX2_remove_18 rfl rfl ?_
      refine zq_callV (As := [.ref (W 3 d), .int (nI (n))]) K dX2_remove_19 zyX2_needTaken zm_X2_98 ziX2_needTaken zvX2_needTaken zclX2 rfl (by decide) rfl rfl (Nat.le_of_ble_eq_true rfl) (Nat.le_of_ble_eq_true rfl) hC.x.1 (ct_X2_needTaken hC hv hn hF hU hM) (znd_r (fun ht => ?_)) (znd_x (fun ht => ?_)) (Nat.le_refl _)
      · refine zq_aload K dX2_remove_22 rfl ?_
        refine zq_iload_n K dX2_remove_24 rfl rfl ?_
        refine zq_callV (As := [.int (nI (n))]) K dX2_remove_25 zyX0_meaningOf zm_X2_60 ziX0_meaningOf zvX0_meaningOf zclX0 rfl (by decide) rfl rfl (Nat.le_of_ble_eq_true rfl) (Nat.le_of_ble_eq_true rfl) (hC.d hv).1 (ct_X0_meaningOf hC hv hn) (zone_r ?_) zone_x (Nat.le_refl _)
        refine zq_istore K dX2_remove_28 (by decide) ?_
        refine zq_aload_n K dX2_remove_30 rfl rfl ?_
        refine zq_iload K dX2_remove_31 rfl ?_
        refine zq_callV (As := [.int (B.2 6 (50 * d + n))]) K dX2_remove_33 zyX2_directoryMeant zm_X2_101 ziX2_directoryMeant zvX2_directoryMeant zclX2 rfl (by decide) rfl rfl (Nat.le_of_ble_eq_true rfl) (Nat.le_of_ble_eq_true rfl) hC.x.1 (ct_X2_directoryMeant_0 hC h2) (zone_r ?_) zone_x (Nat.le_refl _)
        refine zq_astoreN K dX2_remove_36 (by decide) ?_
        refine zq_aloadN K dX2_remove_38 rfl ?_
        refine zq_ifnull_n K 58 dX2_remove_40 (by decide) ?_
        refine zq_aload_n K dX2_remove_58 rfl rfl ?_
        refine zq_iload_n K dX2_remove_59 rfl rfl ?_
        refine zq_aload K dX2_remove_60 rfl ?_
        refine zq_iload_n K dX2_remove_62 rfl rfl ?_
        refine zq_iconst K dX2_remove_63 (v := -1) (by decide) ?_
        refine zq_iconst K dX2_remove_64 (v := nI 0) (by decide) ?_
        refine zq_callV (As := [.int (nI (c)), .ref (W 3 d), .int (nI (n)), .int (-1), .int (nI (0))]) K dX2_remove_65 zyX2_changeName zm_X2_75 ziX2_changeName zvX2_changeName zclX2 rfl (by decide) rfl rfl (Nat.le_of_ble_eq_true rfl) (Nat.le_of_ble_eq_true rfl) hC.x.1 (ct_X2_changeName hC hv hF hn (nI c) (-1) (nI 0)) (zCP_r hS (fun _ _ h => h) (fun M hC hS => ?_)) zCP_x (Nat.le_refl _)
        refine zq_iload K dX2_remove_68 rfl ?_
        exact zq_iret K dX2_remove_70 rfl ⟨rfl, hC, hS⟩
      · exact absurd h ht
    · exact absurd ⟨n, by omega, rfl⟩ hn9
  · exact absurd ⟨c, by omega, rfl⟩ hc9
theorem ct_X2_remove_held {G : ZG} {M : ZM} {W : Nat → Nat → Nat} {B : ZA} (hC : zC M W B) (hW : zWf B) {c d n : Nat} (hc : c < 4) (hv : zVal B 3 d) (hn : n < 50) (hM : zMw B) (h : ¬ B.2 6 (50 * d + n) = -1 ∧ ¬ zfz B (zfn B d n) = true) {e : Nat} (he : zVal B 3 e) (h2 : B.2 6 (50 * d + n) = -2 - nI e) (h3 : zHd B e) : zMet G mX2_remove [.ref (W 10 0), .int (nI (c)), .int (nI (d)), .int (nI (n))] M (zthr zISE M) := by
  refine zbody zyX2_remove [some (.ref (W 10 0)), some (.int (nI (c))), some (.int (nI (d))), some (.int (nI (n))), none, none, none] rfl (Nat.le_of_ble_eq_true rfl) (by intro v hv; simp only [List.mem_cons, List.not_mem_nil, or_false] at hv; rcases hv with rfl | rfl | rfl | rfl <;> rfl) (fun E K => ?_)
  obtain ⟨⟨D, hB⟩, hF, hU⟩ := id hW
  have hS : zFm M W B M := zFm.rf
  refine zq_iload_n K dX2_remove_0 rfl rfl ?_
  refine zq_callS (As := [.int (nI (c))]) K dX2_remove_1 zyX2_needClient zm_X2_29 zsX2_needClient rfl (by decide) rfl rfl (Nat.le_of_ble_eq_true rfl) (Nat.le_of_ble_eq_true rfl) (ct_X2_needClient (nI c) M) (znd_r (fun hc9 => ?_)) (znd_x (fun hc9 => ?_)) (Nat.le_refl _)
  · refine zq_iload_n K dX2_remove_4 rfl rfl ?_
    refine zq_callS (As := [.int (nI (n))]) K dX2_remove_5 zyX2_needName zm_X2_33 zsX2_needName rfl (by decide) rfl rfl (Nat.le_of_ble_eq_true rfl) (Nat.le_of_ble_eq_true rfl) (ct_X2_needName (nI n) M) (znd_r (fun hn9 => ?_)) (znd_x (fun hn9 => ?_)) (Nat.le_refl _)
    · refine zq_aload_n K dX2_remove_8 rfl rfl ?_
      refine zq_iload_n K dX2_remove_9 rfl rfl ?_
      refine zq_callV (As := [.int (nI (d))]) K dX2_remove_10 zyX2_needDirectory zm_X2_36 ziX2_needDirectory zvX2_needDirectory zclX2 rfl (by decide) rfl rfl (Nat.le_of_ble_eq_true rfl) (Nat.le_of_ble_eq_true rfl) hC.x.1 (ct_X2_needDirectory_1 hC hv) (zone_r ?_) zone_x (Nat.le_refl _)
      refine zq_astore K dX2_remove_13 (by decide) ?_
      refine zq_aload_n K dX2_remove_15 rfl rfl ?_
      refine zq_aload K dX2_remove_16 rfl ?_
      refine zq_iload_n K dX2_remove_18 rfl rfl ?_
      refine zq_callV (As := [.ref (W 3 d), .int (nI (n))]) K dX2_remove_19 zyX2_needTaken zm_X2_98 ziX2_needTaken zvX2_needTaken zclX2 rfl (by decide) rfl rfl (Nat.le_of_ble_eq_true rfl) (Nat.le_of_ble_eq_true rfl) hC.x.1 (ct_X2_needTaken hC hv hn hF hU hM) (znd_r (fun ht => ?_)) (znd_x (fun ht => ?_)) (Nat.le_refl _)
      · refine zq_aload K dX2_remove_22 rfl ?_
        refine zq_iload_n K dX2_remove_24 rfl rfl ?_
        refine zq_callV (As := [.int (nI (n))]) K dX2_remove_25 zyX0_meaningOf zm_X2_60 ziX0_meaningOf zvX0_meaningOf zclX0 rfl (by decide) rfl rfl (Nat.le_of_ble_eq_true rfl) (Nat.le_of_ble_eq_true rfl) (hC.d hv).1 (show zMet G mX0_meaningOf [.ref (W 3 d), .int (nI n)] M (zone (some (.int (-2 - nI e))) M) from by have := ct_X0_meaningOf (G := G) hC hv hn; rwa [h2] at this) (zone_r ?_) zone_x (Nat.le_refl _)
        refine zq_istore K dX2_remove_28 (by decide) ?_
        refine zq_aload_n K dX2_remove_30 rfl rfl ?_
        refine zq_iload K dX2_remove_31 rfl ?_
        refine zq_callV (As := [.int (-2 - nI e)]) K dX2_remove_33 zyX2_directoryMeant zm_X2_101 ziX2_directoryMeant zvX2_directoryMeant zclX2 rfl (by decide) rfl rfl (Nat.le_of_ble_eq_true rfl) (Nat.le_of_ble_eq_true rfl) hC.x.1 (ct_X2_directoryMeant_1 hC he) (zone_r ?_) zone_x (Nat.le_refl _)
        refine zq_astore K dX2_remove_36 (by decide) ?_
        refine zq_aload K dX2_remove_38 rfl ?_
        refine zq_ifnull_r K dX2_remove_40 ?_
        refine zq_aload_n K dX2_remove_43 rfl rfl ?_
        refine zq_aload K dX2_remove_44 rfl ?_
        refine zq_callV (As := [.ref (W 3 e)]) K dX2_remove_46 zyX2_needRemovable zm_X2_104 ziX2_needRemovable zvX2_needRemovable zclX2 rfl (by decide) rfl rfl (Nat.le_of_ble_eq_true rfl) (Nat.le_of_ble_eq_true rfl) hC.x.1 (ct_X2_needRemovable hC hM he) (znd_r (fun hr => ?_)) (znd_x (fun hr => ?_)) (Nat.le_refl _)
        · exact absurd h3 hr
        · exact zx_out K ⟨rfl, rfl⟩
      · exact absurd h ht
    · exact absurd ⟨n, by omega, rfl⟩ hn9
  · exact absurd ⟨c, by omega, rfl⟩ hc9
theorem ct_X2_remove_dir {G : ZG} {M : ZM} {W : Nat → Nat → Nat} {B : ZA} (hC : zC M W B) (hW : zWf B) {c d n : Nat} (hc : c < 4) (hv : zVal B 3 d) (hn : n < 50) (hM : zMw B) (h : ¬ B.2 6 (50 * d + n) = -1 ∧ ¬ zfz B (zfn B d n) = true) {e : Nat} (he : zVal B 3 e) (h2 : B.2 6 (50 * d + n) = -2 - nI e) (h3 : ¬ zHd B e) (hne : ¬ d = e) : zMet G mX2_remove [.ref (W 10 0), .int (nI (c)), .int (nI (d)), .int (nI (n))] M (zCP W M B (some (.int (-2 - nI e))) (zcn (zsa B 3 e (nI 0)) (nI c) d n (-1) (nI 0))) := by
  refine zbody zyX2_remove [some (.ref (W 10 0)), some (.int (nI (c))), some (.int (nI (d))), some (.int (nI (n))), none, none, none] rfl (Nat.le_of_ble_eq_true rfl) (by intro v hv; simp only [List.mem_cons, List.not_mem_nil, or_false] at hv; rcases hv with rfl | rfl | rfl | rfl <;> rfl) (fun E K => ?_)
  obtain ⟨⟨D, hB⟩, hF, hU⟩ := id hW
  have hS : zFm M W B M := zFm.rf
  refine zq_iload_n K dX2_remove_0 rfl rfl ?_
  refine zq_callS (As := [.int (nI (c))]) K dX2_remove_1 zyX2_needClient zm_X2_29 zsX2_needClient rfl (by decide) rfl rfl (Nat.le_of_ble_eq_true rfl) (Nat.le_of_ble_eq_true rfl) (ct_X2_needClient (nI c) M) (znd_r (fun hc9 => ?_)) (znd_x (fun hc9 => ?_)) (Nat.le_refl _)
  · refine zq_iload_n K dX2_remove_4 rfl rfl ?_
    refine zq_callS (As := [.int (nI (n))]) K dX2_remove_5 zyX2_needName zm_X2_33 zsX2_needName rfl (by decide) rfl rfl (Nat.le_of_ble_eq_true rfl) (Nat.le_of_ble_eq_true rfl) (ct_X2_needName (nI n) M) (znd_r (fun hn9 => ?_)) (znd_x (fun hn9 => ?_)) (Nat.le_refl _)
    · refine zq_aload_n K dX2_remove_8 rfl rfl ?_
      refine zq_iload_n K dX2_remove_9 rfl rfl ?_
      refine zq_callV (As := [.int (nI (d))]) K dX2_remove_10 zyX2_needDirectory zm_X2_36 ziX2_needDirectory zvX2_needDirectory zclX2 rfl (by decide) rfl rfl (Nat.le_of_ble_eq_true rfl) (Nat.le_of_ble_eq_true rfl) hC.x.1 (ct_X2_needDirectory_1 hC hv) (zone_r ?_) zone_x (Nat.le_refl _)
      refine zq_astore K dX2_remove_13 (by decide) ?_
      refine zq_aload_n K dX2_remove_15 rfl rfl ?_
      refine zq_aload K dX2_remove_16 rfl ?_
      refine zq_iload_n K dX2_remove_18 rfl rfl ?_
      refine zq_callV (As := [.ref (W 3 d), .int (nI (n))]) K dX2_remove_19 zyX2_needTaken zm_X2_98 ziX2_needTaken zvX2_needTaken zclX2 rfl (by decide) rfl rfl (Nat.le_of_ble_eq_true rfl) (Nat.le_of_ble_eq_true rfl) hC.x.1 (ct_X2_needTaken hC hv hn hF hU hM) (znd_r (fun ht => ?_)) (znd_x (fun ht => ?_)) (Nat.le_refl _)
      · refine zq_aload K dX2_remove_22 rfl ?_
        refine zq_iload_n K dX2_remove_24 rfl rfl ?_
        refine zq_callV (As := [.int (nI (n))]) K dX2_remove_25 zyX0_meaningOf zm_X2_60 ziX0_meaningOf zvX0_meaningOf zclX0 rfl (by decide) rfl rfl (Nat.le_of_ble_eq_true rfl) (Nat.le_of_ble_eq_true rfl) (hC.d hv).1 (show zMet G mX0_meaningOf [.ref (W 3 d), .int (nI n)] M (zone (some (.int (-2 - nI e))) M) from by have := ct_X0_meaningOf (G := G) hC hv hn; rwa [h2] at this) (zone_r ?_) zone_x (Nat.le_refl _)
        refine zq_istore K dX2_remove_28 (by decide) ?_
        refine zq_aload_n K dX2_remove_30 rfl rfl ?_
        refine zq_iload K dX2_remove_31 rfl ?_
        refine zq_callV (As := [.int (-2 - nI e)]) K dX2_remove_33 zyX2_directoryMeant zm_X2_101 ziX2_directoryMeant zvX2_directoryMeant zclX2 rfl (by decide) rfl rfl (Nat.le_of_ble_eq_true rfl) (Nat.le_of_ble_eq_true rfl) hC.x.1 (ct_X2_directoryMeant_1 hC he) (zone_r ?_) zone_x (Nat.le_refl _)
        refine zq_astore K dX2_remove_36 (by decide) ?_
        refine zq_aload K dX2_remove_38 rfl ?_
        refine zq_ifnull_r K dX2_remove_40 ?_
        refine zq_aload_n K dX2_remove_43 rfl rfl ?_
        refine zq_aload K dX2_remove_44 rfl ?_
        refine zq_callV (As := [.ref (W 3 e)]) K dX2_remove_46 zyX2_needRemovable zm_X2_104 ziX2_needRemovable zvX2_needRemovable zclX2 rfl (by decide) rfl rfl (Nat.le_of_ble_eq_true rfl) (Nat.le_of_ble_eq_true rfl) hC.x.1 (ct_X2_needRemovable hC hM he) (znd_r (fun hr => ?_)) (znd_x (fun hr => ?_)) (Nat.le_refl _)
        · refine zq_aload_n K dX2_remove_49 rfl rfl ?_
          refine zq_aload K dX2_remove_50 rfl ?_
          refine zq_getI K dX2_remove_52 zclX0 (k := 0) (by decide) zf_X2_108 rfl (hC.d he).1 ?_
          refine zq_top (hC.d he).2.1 ?_
          refine zq_callV (As := [.int (nI (e))]) K dX2_remove_55 zyX2_dropDirectory zm_X2_111 ziX2_dropDirectory zvX2_dropDirectory zclX2 rfl (by decide) rfl rfl (Nat.le_of_ble_eq_true rfl) (Nat.le_of_ble_eq_true rfl) hC.x.1 (ct_X2_dropDirectory hC he) (zCP_r hS (fun _ _ h => h) (fun M hC hS => ?_)) zCP_x (Nat.le_refl _)
          refine zq_aload_n K dX2_remove_58 rfl rfl ?_
          refine zq_iload_n K dX2_remove_59 rfl rfl ?_
          refine zq_aload K dX2_remove_60 rfl ?_
          refine zq_iload_n K dX2_remove_62 rfl rfl ?_
          refine zq_iconst K dX2_remove_63 (v := -1) (by decide) ?_
          refine zq_iconst K dX2_remove_64 (v := nI 0) (by decide) ?_
          refine zq_callV (As := [.int (nI (c)), .ref (W 3 d), .int (nI (n)), .int (-1), .int (nI (0))]) K dX2_remove_65 zyX2_changeName zm_X2_75 ziX2_changeName zvX2_changeName zclX2 rfl (by decide) rfl rfl (Nat.le_of_ble_eq_true rfl) (Nat.le_of_ble_eq_true rfl) hC.x.1 (ct_X2_changeName (B := zsa B 3 e (nI 0)) hC (hv.ne hne) hF.dr hn (nI c) (-1) (nI 0)) (zCP_r hS (fun _ _ h => h.dr) (fun M hC hS => ?_)) zCP_x (Nat.le_refl _)
          refine zq_iload K dX2_remove_68 rfl ?_
          exact zq_iret K dX2_remove_70 rfl ⟨rfl, hC, hS⟩
        · exact absurd h3 hr
      · exact absurd h ht
    · exact absurd ⟨n, by omega, rfl⟩ hn9
  · exact absurd ⟨c, by omega, rfl⟩ hc9
theorem ct_X2_pass_bad {G : ZG} {M : ZM} {W : Nat → Nat → Nat} {B : ZA} (hC : zC M W B) {m : Int32} (h : ¬ (nI 1 ≤ m ∧ m ≤ nI 100)) : zMet G mX2_pass [.ref (W 10 0), .int (m)] M (zthr zIAE M) := by
  refine zbody zyX2_pass [some (.ref (W 10 0)), some (.int (m))] rfl (Nat.le_of_ble_eq_true rfl) (by intro v hv; simp only [List.mem_cons, List.not_mem_nil, or_false] at hv; rcases hv with rfl | rfl <;> rfl) (fun E K => ?_)
  refine zq_iload_n K dX2_pass_0 rfl rfl ?_
  refine zq_iconst K dX2_pass_1 (v := nI 1) (by decide) ?_
  refine zq_icmp_lt K 11 dX2_pass_2 (by decide) (fun h2 => ?_) (fun h2 => ?_)
  · exact zq_throw K (text := "minutes is out of range") zthIAE (by decide +kernel) dX2_pass_11 dX2_pass_14 dX2_pass_15 dX2_pass_17 dX2_pass_20 (by decide) (Nat.le_of_ble_eq_true rfl) (Nat.le_of_ble_eq_true rfl) ⟨rfl, rfl⟩
  · refine zq_iload_n K dX2_pass_5 rfl rfl ?_
    refine zq_bipush K dX2_pass_6 (v := nI 100) (by decide) ?_
    refine zq_icmp_le K 21 dX2_pass_8 (by decide) (fun h8 => ?_) (fun h8 => ?_)
    · exact absurd ⟨Int32.not_lt.mp h2, h8⟩ h
    · exact zq_throw K (text := "minutes is out of range") zthIAE (by decide +kernel) dX2_pass_11 dX2_pass_14 dX2_pass_15 dX2_pass_17 dX2_pass_20 (by decide) (Nat.le_of_ble_eq_true rfl) (Nat.le_of_ble_eq_true rfl) ⟨rfl, rfl⟩
theorem ct_X2_pass_ok {G : ZG} {M : ZM} {W : Nat → Nat → Nat} {B : ZA} (hC : zC M W B) {m : Int32} (h : nI 1 ≤ m ∧ m ≤ nI 100) : zMet G mX2_pass [.ref (W 10 0), .int (m)] M (zCP W M B (some (.int (B.1 1 + m))) (zsc B 1 (B.1 1 + m))) := by
  refine zbody zyX2_pass [some (.ref (W 10 0)), some (.int (m))] rfl (Nat.le_of_ble_eq_true rfl) (by intro v hv; simp only [List.mem_cons, List.not_mem_nil, or_false] at hv; rcases hv with rfl | rfl <;> rfl) (fun E K => ?_)
  have hS : zFm M W B M := zFm.rf
  refine zq_iload_n K dX2_pass_0 rfl rfl ?_
  refine zq_iconst K dX2_pass_1 (v := nI 1) (by decide) ?_
  refine zq_icmp_lt K 11 dX2_pass_2 (by decide) (fun h2 => absurd h2 (Int32.not_lt.mpr h.1)) (fun h2 => ?_)
  refine zq_iload_n K dX2_pass_5 rfl rfl ?_
  refine zq_bipush K dX2_pass_6 (v := nI 100) (by decide) ?_
  refine zq_icmp_le K 21 dX2_pass_8 (by decide) (fun h8 => ?_) (fun h8 => absurd h.2 h8)
  refine zq_aload_n K dX2_pass_21 rfl rfl ?_
  refine zq_dup K dX2_pass_22 rfl ?_
  refine zq_getI K dX2_pass_23 zclX2 (k := 4) (by decide) zf_X2_40 rfl hC.x.1 ?_
  refine zq_top hC.x.2.2.1.2.2.2.1 ?_
  refine zq_top (v := B.1 1) rfl ?_
  refine zq_iload_n K dX2_pass_26 rfl rfl ?_
  refine zq_iadd K dX2_pass_27 ?_
  refine zc_p2_4 K dX2_pass_28 zf_X2_40 hC hS (fun M hC hS => ?_)
  refine zq_aload_n K dX2_pass_31 rfl rfl ?_
  refine zq_getI K dX2_pass_32 zclX2 (k := 4) (by decide) zf_X2_40 rfl hC.x.1 ?_
  refine zq_top hC.x.2.2.1.2.2.2.1 ?_
  refine zq_top (v := B.1 1 + m) rfl ?_
  exact zq_iret K dX2_pass_35 rfl ⟨rfl, hC, hS⟩
end
section
/-! the class: rename -/
theorem zcn_1 (B : ZA) (c : Int32) (d n : Nat) (m g : Int32) : (zcn B c d n m g).1 = B.1 := (zel_sme _ _ _ 4).1
theorem zcn_n (B : ZA) (c : Int32) (d n : Nat) (m g : Int32) {i : Nat} (h6 : i ≠ 6) (h7 : i ≠ 7) (h12 : i ≠ 12) (h13 : i ≠ 13) (h14 : i ≠ 14) : (zcn B c d n m g).2 i = B.2 i := by
  unfold zcn
  rw [(zel_sme _ _ _ 4).2 i h13 h14, zsa_n _ _ _ _ _ h12, zsa_n _ _ _ _ _ h7, zsa_n _ _ _ _ _ h6]
theorem zcn_val {B : ZA} {c : Int32} {d n : Nat} {m g : Int32} {i j : Nat} : zVal (zcn B c d n m g) i j ↔ zVal B i j := zVal.cg (zcn_n B c d n m g (by decide) (by decide) (by decide) (by decide) (by decide)) (zcn_n B c d n m g (by decide) (by decide) (by decide) (by decide) (by decide))
theorem zcn_fr {B : ZA} {c : Int32} {d n : Nat} {m g : Int32} (h : zFr B) : zFr (zcn B c d n m g) := by
  unfold zFr
  rw [zcn_n B c d n m g (by decide) (by decide) (by decide) (by decide) (by decide), zcn_n B c d n m g (by decide) (by decide) (by decide) (by decide) (by decide), zcn_n B c d n m g (by decide) (by decide) (by decide) (by decide) (by decide)]
  exact h
theorem ct_X2_rename_1 {G : ZG} {M : ZM} {W : Nat → Nat → Nat} {B : ZA} (hC : zC M W B) {c d n t o : Int32} (h : ¬ (zOn c 3 ∧ zOn n 49 ∧ zOn o 49)) : zMet G mX2_rename [.ref (W 10 0), .int (c), .int (d), .int (n), .int (t), .int (o)] M (zthr zIAE M) := by
  refine zbody zyX2_rename [some (.ref (W 10 0)), some (.int (c)), some (.int (d)), some (.int (n)), some (.int (t)), some (.int (o)), none, none, none, none, none] rfl (Nat.le_of_ble_eq_true rfl) (by intro v hv; simp only [List.mem_cons, List.not_mem_nil, or_false] at hv; rcases hv with rfl | rfl | rfl | rfl | rfl | rfl <;> rfl) (fun E K => ?_)
  refine zq_iload_n K dX2_rename_0 rfl rfl ?_
  refine zq_callS (As := [.int (c)]) K dX2_rename_1 zyX2_needClient zm_X2_29 zsX2_needClient rfl (by decide) rfl rfl (Nat.le_of_ble_eq_true rfl) (Nat.le_of_ble_eq_true rfl) (ct_X2_needClient c M) (znd_r (fun hc => ?_)) (znd_x (fun hc => ?_)) (Nat.le_refl _)
  · refine zq_iload_n K dX2_rename_4 rfl rfl ?_
    refine zq_callS (As := [.int (n)]) K dX2_rename_5 zyX2_needName zm_X2_33 zsX2_needName rfl (by decide) rfl rfl (Nat.le_of_ble_eq_true rfl) (Nat.le_of_ble_eq_true rfl) (ct_X2_needName n M) (znd_r (fun hn => ?_)) (znd_x (fun hn => ?_)) (Nat.le_refl _)
    · refine zq_iload K dX2_rename_8 rfl ?_
      refine zq_callS (As := [.int (o)]) K dX2_rename_10 zyX2_needName zm_X2_33 zsX2_needName rfl (by decide) rfl rfl (Nat.le_of_ble_eq_true rfl) (Nat.le_of_ble_eq_true rfl) (ct_X2_needName o M) (znd_r (fun ho => ?_)) (znd_x (fun ho => ?_)) (Nat.le_refl _)
      · exact absurd ⟨hc, hn, ho⟩ h
      · exact zx_out K ⟨rfl, rfl⟩
    · exact zx_out K ⟨rfl, rfl⟩
  · exact zx_out K ⟨rfl, rfl⟩
theorem ct_X2_rename_2a {G : ZG} {M : ZM} {W : Nat → Nat → Nat} {B : ZA} (hC : zC M W B) {c n o : Nat} {d t : Int32} (hc : c < 4) (hn : n < 50) (ho : o < 50) (h : ¬ zIsD B d) : zMet G mX2_rename [.ref (W 10 0), .int (nI (c)), .int (d), .int (nI (n)), .int (t), .int (nI (o))] M (zthr zIOB M) := by
  refine zbody zyX2_rename [some (.ref (W 10 0)), some (.int (nI (c))), some (.int (d)), some (.int (nI (n))), some (.int (t)), some (.int (nI (o))), none, none, none, none, none] rfl (Nat.le_of_ble_eq_true rfl) (by intro v hv; simp only [List.mem_cons, List.not_mem_nil, or_false] at hv; rcases hv with rfl | rfl | rfl | rfl | rfl | rfl <;> rfl) (fun E K => ?_)
  refine zq_iload_n K dX2_rename_0 rfl rfl ?_
  refine zq_callS (As := [.int (nI (c))]) K dX2_rename_1 zyX2_needClient zm_X2_29 zsX2_needClient rfl (by decide) rfl rfl (Nat.le_of_ble_eq_true rfl) (Nat.le_of_ble_eq_true rfl) (ct_X2_needClient (nI c) M) (znd_r (fun hc9 => ?_)) (znd_x (fun hc9 => ?_)) (Nat.le_refl _)
  · refine zq_iload_n K dX2_rename_4 rfl rfl ?_
    refine zq_callS (As := [.int (nI (n))]) K dX2_rename_5 zyX2_needName zm_X2_33 zsX2_needName rfl (by decide) rfl rfl (Nat.le_of_ble_eq_true rfl) (Nat.le_of_ble_eq_true rfl) (ct_X2_needName (nI n) M) (znd_r (fun hn9 => ?_)) (znd_x (fun hn9 => ?_)) (Nat.le_refl _)
    · refine zq_iload K dX2_rename_8 rfl ?_
      refine zq_callS (As := [.int (nI (o))]) K dX2_rename_10 zyX2_needName zm_X2_33 zsX2_needName rfl (by decide) rfl rfl (Nat.le_of_ble_eq_true rfl) (Nat.le_of_ble_eq_true rfl) (ct_X2_needName (nI o) M) (znd_r (fun ho9 => ?_)) (znd_x (fun ho9 => ?_)) (Nat.le_refl _)
      · refine zq_aload_n K dX2_rename_13 rfl rfl ?_
        refine zq_iload_n K dX2_rename_14 rfl rfl ?_
        refine zq_callV (As := [.int (d)]) K dX2_rename_15 zyX2_needDirectory zm_X2_36 ziX2_needDirectory zvX2_needDirectory zclX2 rfl (by decide) rfl rfl (Nat.le_of_ble_eq_true rfl) (Nat.le_of_ble_eq_true rfl) hC.x.1 (ct_X2_needDirectory_0 hC h) zthr_r (zthr_x ?_) (Nat.le_refl _)
        exact zx_out K ⟨rfl, rfl⟩
      · exact absurd ⟨o, by omega, rfl⟩ ho9
    · exact absurd ⟨n, by omega, rfl⟩ hn9
  · exact absurd ⟨c, by omega, rfl⟩ hc9
theorem ct_X2_rename_2b {G : ZG} {M : ZM} {W : Nat → Nat → Nat} {B : ZA} (hC : zC M W B) {c d n o : Nat} {t : Int32} (hc : c < 4) (hv : zVal B 3 d) (hn : n < 50) (ho : o < 50) (h : ¬ zIsD B t) : zMet G mX2_rename [.ref (W 10 0), .int (nI (c)), .int (nI (d)), .int (nI (n)), .int (t), .int (nI (o))] M (zthr zIOB M) := by
  refine zbody zyX2_rename [some (.ref (W 10 0)), some (.int (nI (c))), some (.int (nI (d))), some (.int (nI (n))), some (.int (t)), some (.int (nI (o))), none, none, none, none, none] rfl (Nat.le_of_ble_eq_true rfl) (by intro v hv; simp only [List.mem_cons, List.not_mem_nil, or_false] at hv; rcases hv with rfl | rfl | rfl | rfl | rfl | rfl <;> rfl) (fun E K => ?_)
  refine zq_iload_n K dX2_rename_0 rfl rfl ?_
  refine zq_callS (As := [.int (nI (c))]) K dX2_rename_1 zyX2_needClient zm_X2_29 zsX2_needClient rfl (by decide) rfl rfl (Nat.le_of_ble_eq_true rfl) (Nat.le_of_ble_eq_true rfl) (ct_X2_needClient (nI c) M) (znd_r (fun hc9 => ?_)) (znd_x (fun hc9 => ?_)) (Nat.le_refl _)
  · refine zq_iload_n K dX2_rename_4 rfl rfl ?_
    refine zq_callS (As := [.int (nI (n))]) K dX2_rename_5 zyX2_needName zm_X2_33 zsX2_needName rfl (by decide) rfl rfl (Nat.le_of_ble_eq_true rfl) (Nat.le_of_ble_eq_true rfl) (ct_X2_needName (nI n) M) (znd_r (fun hn9 => ?_)) (znd_x (fun hn9 => ?_)) (Nat.le_refl _)
    · refine zq_iload K dX2_rename_8 rfl ?_
      refine zq_callS (As := [.int (nI (o))]) K dX2_rename_10 zyX2_needName zm_X2_33 zsX2_needName rfl (by decide) rfl rfl (Nat.le_of_ble_eq_true rfl) (Nat.le_of_ble_eq_true rfl) (ct_X2_needName (nI o) M) (znd_r (fun ho9 => ?_)) (znd_x (fun ho9 => ?_)) (Nat.le_refl _)
      · refine zq_aload_n K dX2_rename_13 rfl rfl ?_
        refine zq_iload_n K dX2_rename_14 rfl rfl ?_
        refine zq_callV (As := [.int (nI (d))]) K dX2_rename_15 zyX2_needDirectory zm_X2_36 ziX2_needDirectory zvX2_needDirectory zclX2 rfl (by decide) rfl rfl (Nat.le_of_ble_eq_true rfl) (Nat.le_of_ble_eq_true rfl) hC.x.1 (ct_X2_needDirectory_1 hC hv) (zone_r ?_) zone_x (Nat.le_refl _)
        refine zq_astore K dX2_rename_18 (by decide) ?_
        refine zq_aload_n K dX2_rename_20 rfl rfl ?_
        refine zq_iload K dX2_rename_21 rfl ?_
        refine zq_callV (As := [.int (t)]) K dX2_rename_23 zyX2_needDirectory zm_X2_36 ziX2_needDirectory zvX2_needDirectory zclX2 rfl (by decide) rfl rfl (Nat.le_of_ble_eq_true rfl) (Nat.le_of_ble_eq_true rfl) hC.x.1 (ct_X2_needDirectory_0 hC h) zthr_r (zthr_x ?_) (Nat.le_refl _)
        exact zx_out K ⟨rfl, rfl⟩
      · exact absurd ⟨o, by omega, rfl⟩ ho9
    · exact absurd ⟨n, by omega, rfl⟩ hn9
  · exact absurd ⟨c, by omega, rfl⟩ hc9
theorem ct_X2_rename_no {G : ZG} {M : ZM} {W : Nat → Nat → Nat} {B : ZA} (hC : zC M W B) (hW : zWf B) (hM : zMw B) {c d n t o : Nat} (hc : c < 4) (hv : zVal B 3 d) (hn : n < 50) (hvt : zVal B 3 t) (ho : o < 50) (h : ¬ (¬ B.2 6 (50 * d + n) = -1 ∧ ¬ zfz B (zfn B d n) = true) ∨ zBz B t o) : zMet G mX2_rename [.ref (W 10 0), .int (nI (c)), .int (nI (d)), .int (nI (n)), .int (nI (t)), .int (nI (o))] M (zthr zISE M) := by
  refine zbody zyX2_rename [some (.ref (W 10 0)), some (.int (nI (c))), some (.int (nI (d))), some (.int (nI (n))), some (.int (nI (t))), some (.int (nI (o))), none, none, none, none, none] rfl (Nat.le_of_ble_eq_true rfl) (by intro v hv; simp only [List.mem_cons, List.not_mem_nil, or_false] at hv; rcases hv with rfl | rfl | rfl | rfl | rfl | rfl <;> rfl) (fun E K => ?_)
  obtain ⟨⟨D, hB⟩, hF, hU⟩ := id hW
  have hS : zFm M W B M := zFm.rf
  refine zq_iload_n K dX2_rename_0 rfl rfl ?_
  refine zq_callS (As := [.int (nI (c))]) K dX2_rename_1 zyX2_needClient zm_X2_29 zsX2_needClient rfl (by decide) rfl rfl (Nat.le_of_ble_eq_true rfl) (Nat.le_of_ble_eq_true rfl) (ct_X2_needClient (nI c) M) (znd_r (fun hc9 => ?_)) (znd_x (fun hc9 => ?_)) (Nat.le_refl _)
  · refine zq_iload_n K dX2_rename_4 rfl rfl ?_
    refine zq_callS (As := [.int (nI (n))]) K dX2_rename_5 zyX2_needName zm_X2_33 zsX2_needName rfl (by decide) rfl rfl (Nat.le_of_ble_eq_true rfl) (Nat.le_of_ble_eq_true rfl) (ct_X2_needName (nI n) M) (znd_r (fun hn9 => ?_)) (znd_x (fun hn9 => ?_)) (Nat.le_refl _)
    · refine zq_iload K dX2_rename_8 rfl ?_
      refine zq_callS (As := [.int (nI (o))]) K dX2_rename_10 zyX2_needName zm_X2_33 zsX2_needName rfl (by decide) rfl rfl (Nat.le_of_ble_eq_true rfl) (Nat.le_of_ble_eq_true rfl) (ct_X2_needName (nI o) M) (znd_r (fun ho9 => ?_)) (znd_x (fun ho9 => ?_)) (Nat.le_refl _)
      · refine zq_aload_n K dX2_rename_13 rfl rfl ?_
        refine zq_iload_n K dX2_rename_14 rfl rfl ?_
        refine zq_callV (As := [.int (nI (d))]) K dX2_rename_15 zyX2_needDirectory zm_X2_36 ziX2_needDirectory zvX2_needDirectory zclX2 rfl (by decide) rfl rfl (Nat.le_of_ble_eq_true rfl) (Nat.le_of_ble_eq_true rfl) hC.x.1 (ct_X2_needDirectory_1 hC hv) (zone_r ?_) zone_x (Nat.le_refl _)
        refine zq_astore K dX2_rename_18 (by decide) ?_
        refine zq_aload_n K dX2_rename_20 rfl rfl ?_
        refine zq_iload K dX2_rename_21 rfl ?_
        refine zq_callV (As := [.int (nI (t))]) K dX2_rename_23 zyX2_needDirectory zm_X2_36 ziX2_needDirectory zvX2_needDirectory zclX2 rfl (by decide) rfl rfl (Nat.le_of_ble_eq_true rfl) (Nat.le_of_ble_eq_true rfl) hC.x.1 (ct_X2_needDirectory_1 hC hvt) (zone_r ?_) zone_x (Nat.le_refl _)
        refine zq_astore K dX2_rename_26 (by decide) ?_
        refine zq_aload_n K dX2_rename_28 rfl rfl ?_
        refine zq_aload K dX2_rename_29 rfl ?_
        refine zq_iload_n K dX2_rename_31 rfl rfl ?_
        refine zq_callV (As := [.ref (W 3 d), .int (nI (n))]) K dX2_rename_32 zyX2_needTaken zm_X2_98 ziX2_needTaken zvX2_needTaken zclX2 rfl (by decide) rfl rfl (Nat.le_of_ble_eq_true rfl) (Nat.le_of_ble_eq_true rfl) hC.x.1 (ct_X2_needTaken hC hv hn hF hU hM) (znd_r (fun ht => ?_)) (znd_x (fun ht => ?_)) (Nat.le_refl _)
        · refine zq_aload_n K dX2_rename_35 rfl rfl ?_
          refine zq_aload K dX2_rename_36 rfl ?_
          refine zq_iload K dX2_rename_38 rfl ?_
          refine zq_callV (As := [.ref (W 3 t), .int (nI (o))]) K dX2_rename_40 zyX2_needFree zm_X2_64 ziX2_needFree zvX2_needFree zclX2 rfl (by decide) rfl rfl (Nat.le_of_ble_eq_true rfl) (Nat.le_of_ble_eq_true rfl) hC.x.1 (ct_X2_needFree hC hvt ho hF hU hM) (znd_r (fun hz => ?_)) (znd_x (fun hz => ?_)) (Nat.le_refl _)
          · exact absurd h (fun z => z.elim (fun y => y ht) (fun y => hz y))
          · exact zx_out K ⟨rfl, rfl⟩
        · exact zx_out K ⟨rfl, rfl⟩
      · exact absurd ⟨o, by omega, rfl⟩ ho9
    · exact absurd ⟨n, by omega, rfl⟩ hn9
  · exact absurd ⟨c, by omega, rfl⟩ hc9
theorem ct_X2_rename_file {G : ZG} {M : ZM} {W : Nat → Nat → Nat} {B : ZA} (hC : zC M W B) (hW : zWf B) (hM : zMw B) {c d n t o : Nat} (hc : c < 4) (hv : zVal B 3 d) (hn : n < 50) (hvt : zVal B 3 t) (ho : o < 50) (h1 : ¬ B.2 6 (50 * d + n) = -1 ∧ ¬ zfz B (zfn B d n) = true) (h2 : ¬ zBz B t o) (h3 : -2 < B.2 6 (50 * d + n)) : zMet G mX2_rename [.ref (W 10 0), .int (nI (c)), .int (nI (d)), .int (nI (n)), .int (nI (t)), .int (nI (o))] M (zCP W M B none (zcn (zcn B (nI c) d n (-1) (nI 0)) (nI c) t o (B.2 6 (50 * d + n)) (B.2 7 (50 * d + n)))) := by
  refine zbody zyX2_rename [some (.ref (W 10 0)), some (.int (nI (c))), some (.int (nI (d))), some (.int (nI (n))), some (.int (nI (t))), some (.int (nI (o))), none, none, none, none, none] rfl (Nat.le_of_ble_eq_true rfl) (by intro v hv; simp only [List.mem_cons, List.not_mem_nil, or_false] at hv; rcases hv with rfl | rfl | rfl | rfl | rfl | rfl <;> rfl) (fun E K => ?_)
  obtain ⟨⟨D, hB⟩, hF, hU⟩ := id hW
  have hS : zFm M W B M := zFm.rf
  refine zq_iload_n K dX2_rename_0 rfl rfl ?_
  refine zq_callS (As := [.int (nI (c))]) K dX2_rename_1 zyX2_needClient zm_X2_29 zsX2_needClient rfl (by decide) rfl rfl (Nat.le_of_ble_eq_true rfl) (Nat.le_of_ble_eq_true rfl) (ct_X2_needClient (nI c) M) (znd_r (fun hc9 => ?_)) (znd_x (fun hc9 => ?_)) (Nat.le_refl _)
  · refine zq_iload_n K dX2_rename_4 rfl rfl ?_
    refine zq_callS (As := [.int (nI (n))]) K dX2_rename_5 zyX2_needName zm_X2_33 zsX2_needName rfl (by decide) rfl rfl (Nat.le_of_ble_eq_true rfl) (Nat.le_of_ble_eq_true rfl) (ct_X2_needName (nI n) M) (znd_r (fun hn9 => ?_)) (znd_x (fun hn9 => ?_)) (Nat.le_refl _)
    · refine zq_iload K dX2_rename_8 rfl ?_
      refine zq_callS (As := [.int (nI (o))]) K dX2_rename_10 zyX2_needName zm_X2_33 zsX2_needName rfl (by decide) rfl rfl (Nat.le_of_ble_eq_true rfl) (Nat.le_of_ble_eq_true rfl) (ct_X2_needName (nI o) M) (znd_r (fun ho9 => ?_)) (znd_x (fun ho9 => ?_)) (Nat.le_refl _)
      · refine zq_aload_n K dX2_rename_13 rfl rfl ?_
        refine zq_iload_n K dX2_rename_14 rfl rfl ?_
        refine zq_callV (As := [.int (nI (d))]) K dX2_rename_15 zyX2_needDirectory zm_X2_36 ziX2_needDirectory zvX2_needDirectory zclX2 rfl (by decide) rfl rfl (Nat.le_of_ble_eq_true rfl) (Nat.le_of_ble_eq_true rfl) hC.x.1 (ct_X2_needDirectory_1 hC hv) (zone_r ?_) zone_x (Nat.le_refl _)
        refine zq_astore K dX2_rename_18 (by decide) ?_
        refine zq_aload_n K dX2_rename_20 rfl rfl ?_
        refine zq_iload K dX2_rename_21 rfl ?_
        refine zq_callV (As := [.int (nI (t))]) K dX2_rename_23 zyX2_needDirectory zm_X2_36 ziX2_needDirectory zvX2_needDirectory zclX2 rfl (by decide) rfl rfl (Nat.le_of_ble_eq_true rfl) (Nat.le_of_ble_eq_true rfl) hC.x.1 (ct_X2_needDirectory_1 hC hvt) (zone_r ?_) zone_x (Nat.le_refl _)
        refine zq_astore K dX2_rename_26 (by decide) ?_
        refine zq_aload_n K dX2_rename_28 rfl rfl ?_
        refine zq_aload K dX2_rename_29 rfl ?_
        refine zq_iload_n K dX2_rename_31 rfl rfl ?_
        refine zq_callV (As := [.ref (W 3 d), .int (nI (n))]) K dX2_rename_32 zyX2_needTaken zm_X2_98 ziX2_needTaken zvX2_needTaken zclX2 rfl (by decide) rfl rfl (Nat.le_of_ble_eq_true rfl) (Nat.le_of_ble_eq_true rfl) hC.x.1 (ct_X2_needTaken hC hv hn hF hU hM) (znd_r (fun ht => ?_)) (znd_x (fun ht => ?_)) (Nat.le_refl _)
        · refine zq_aload_n K dX2_rename_35 rfl rfl ?_
          refine zq_aload K dX2_rename_36 rfl ?_
          refine zq_iload K dX2_rename_38 rfl ?_
          refine zq_callV (As := [.ref (W 3 t), .int (nI (o))]) K dX2_rename_40 zyX2_needFree zm_X2_64 ziX2_needFree zvX2_needFree zclX2 rfl (by decide) rfl rfl (Nat.le_of_ble_eq_true rfl) (Nat.le_of_ble_eq_true rfl) hC.x.1 (ct_X2_needFree hC hvt ho hF hU hM) (znd_r (fun hz => ?_)) (znd_x (fun hz => ?_)) (Nat.le_refl _)
          · refine zq_aload K dX2_rename_43 rfl ?_
            refine zq_iload_n K dX2_rename_45 rfl rfl ?_
            refine zq_callV (As := [.int (nI (n))]) K dX2_rename_46 zyX0_meaningOf zm_X2_60 ziX0_meaningOf zvX0_meaningOf zclX0 rfl (by decide) rfl rfl (Nat.le_of_ble_eq_true rfl) (Nat.le_of_ble_eq_true rfl) (hC.d hv).1 (ct_X0_meaningOf hC hv hn) (zone_r ?_) zone_x (Nat.le_refl _)
            refine zq_istore K dX2_rename_49 (by decide) ?_
            refine zq_aload_n K dX2_rename_51 rfl rfl ?_
            refine zq_iload K dX2_rename_52 rfl ?_
            refine zq_callV (As := [.int (B.2 6 (50 * d + n))]) K dX2_rename_54 zyX2_directoryMeant zm_X2_101 ziX2_directoryMeant zvX2_directoryMeant zclX2 rfl (by decide) rfl rfl (Nat.le_of_ble_eq_true rfl) (Nat.le_of_ble_eq_true rfl) hC.x.1 (ct_X2_directoryMeant_0 hC h3) (zone_r ?_) zone_x (Nat.le_refl _)
            refine zq_astoreN K dX2_rename_57 (by decide) ?_
            refine zq_aloadN K dX2_rename_59 rfl ?_
            refine zq_ifnull_n K 84 dX2_rename_61 (by decide) ?_
            refine zq_aload K dX2_rename_84 rfl ?_
            refine zq_iload_n K dX2_rename_86 rfl rfl ?_
            refine zq_callV (As := [.int (nI (n))]) K dX2_rename_87 zyX0_ageOf zm_X2_120 ziX0_ageOf zvX0_ageOf zclX0 rfl (by decide) rfl rfl (Nat.le_of_ble_eq_true rfl) (Nat.le_of_ble_eq_true rfl) (hC.d hv).1 (ct_X0_ageOf hC hv hn) (zone_r ?_) zone_x (Nat.le_refl _)
            refine zq_istore K dX2_rename_90 (by decide) ?_
            refine zq_aload_n K dX2_rename_92 rfl rfl ?_
            refine zq_iload_n K dX2_rename_93 rfl rfl ?_
            refine zq_aload K dX2_rename_94 rfl ?_
            refine zq_iload_n K dX2_rename_96 rfl rfl ?_
            refine zq_iconst K dX2_rename_97 (v := -1) (by decide) ?_
            refine zq_iconst K dX2_rename_98 (v := nI 0) (by decide) ?_
            refine zq_callV (As := [.int (nI (c)), .ref (W 3 d), .int (nI (n)), .int (-1), .int (nI (0))]) K dX2_rename_99 zyX2_changeName zm_X2_75 ziX2_changeName zvX2_changeName zclX2 rfl (by decide) rfl rfl (Nat.le_of_ble_eq_true rfl) (Nat.le_of_ble_eq_true rfl) hC.x.1 (ct_X2_changeName hC hv hF hn (nI c) (-1) (nI 0)) (zCP_r hS (fun _ _ h => h) (fun M hC hS => ?_)) zCP_x (Nat.le_refl _)
            refine zq_aload_n K dX2_rename_102 rfl rfl ?_
            refine zq_iload_n K dX2_rename_103 rfl rfl ?_
            refine zq_aload K dX2_rename_104 rfl ?_
            refine zq_iload K dX2_rename_106 rfl ?_
            refine zq_iload K dX2_rename_108 rfl ?_
            refine zq_iload K dX2_rename_110 rfl ?_
            refine zq_callV (As := [.int (nI (c)), .ref (W 3 t), .int (nI (o)), .int (B.2 6 (50 * d + n)), .int (B.2 7 (50 * d + n))]) K dX2_rename_112 zyX2_changeName zm_X2_75 ziX2_changeName zvX2_changeName zclX2 rfl (by decide) rfl rfl (Nat.le_of_ble_eq_true rfl) (Nat.le_of_ble_eq_true rfl) hC.x.1 (ct_X2_changeName (B := (zcn B (nI c) d n (-1) (nI 0))) hC (zcn_val.mpr hvt) (zcn_fr hF) ho (nI c) (B.2 6 (50 * d + n)) (B.2 7 (50 * d + n))) (zCP_r hS (fun _ _ h => zcn_val.mp h) (fun M hC hS => ?_)) zCP_x (Nat.le_refl _)
            refine zq_aloadN K dX2_rename_115 rfl ?_
            refine zq_ifnull_n K 134 dX2_rename_117 (by decide) ?_
            exact zq_ret K dX2_rename_134 rfl ⟨rfl, hC, hS⟩
          · exact absurd h2 hz
        · exact absurd h1 ht
      · exact absurd ⟨o, by omega, rfl⟩ ho9
    · exact absurd ⟨n, by omega, rfl⟩ hn9
  · exact absurd ⟨c, by omega, rfl⟩ hc9
theorem ct_X2_rename_bel {G : ZG} {M : ZM} {W : Nat → Nat → Nat} {B : ZA} (hC : zC M W B) (hW : zWf B) (hM : zMw B) {c d n t o : Nat} (hc : c < 4) (hv : zVal B 3 d) (hn : n < 50) (hvt : zVal B 3 t) (ho : o < 50) (h1 : ¬ B.2 6 (50 * d + n) = -1 ∧ ¬ zfz B (zfn B d n) = true) (h2 : ¬ zBz B t o) {e : Nat} (he : zVal B 3 e) (h3 : B.2 6 (50 * d + n) = -2 - nI e) (h4 : zblN B 11 t e = true) : zMet G mX2_rename [.ref (W 10 0), .int (nI (c)), .int (nI (d)), .int (nI (n)), .int (nI (t)), .int (nI (o))] M (zthr zISE M) := by
  refine zbody zyX2_rename [some (.ref (W 10 0)), some (.int (nI (c))), some (.int (nI (d))), some (.int (nI (n))), some (.int (nI (t))), some (.int (nI (o))), none, none, none, none, none] rfl (Nat.le_of_ble_eq_true rfl) (by intro v hv; simp only [List.mem_cons, List.not_mem_nil, or_false] at hv; rcases hv with rfl | rfl | rfl | rfl | rfl | rfl <;> rfl) (fun E K => ?_)
  obtain ⟨⟨D, hB⟩, hF, hU⟩ := id hW
  have hS : zFm M W B M := zFm.rf
  refine zq_iload_n K dX2_rename_0 rfl rfl ?_
  refine zq_callS (As := [.int (nI (c))]) K dX2_rename_1 zyX2_needClient zm_X2_29 zsX2_needClient rfl (by decide) rfl rfl (Nat.le_of_ble_eq_true rfl) (Nat.le_of_ble_eq_true rfl) (ct_X2_needClient (nI c) M) (znd_r (fun hc9 => ?_)) (znd_x (fun hc9 => ?_)) (Nat.le_refl _)
  · refine zq_iload_n K dX2_rename_4 rfl rfl ?_
    refine zq_callS (As := [.int (nI (n))]) K dX2_rename_5 zyX2_needName zm_X2_33 zsX2_needName rfl (by decide) rfl rfl (Nat.le_of_ble_eq_true rfl) (Nat.le_of_ble_eq_true rfl) (ct_X2_needName (nI n) M) (znd_r (fun hn9 => ?_)) (znd_x (fun hn9 => ?_)) (Nat.le_refl _)
    · refine zq_iload K dX2_rename_8 rfl ?_
      refine zq_callS (As := [.int (nI (o))]) K dX2_rename_10 zyX2_needName zm_X2_33 zsX2_needName rfl (by decide) rfl rfl (Nat.le_of_ble_eq_true rfl) (Nat.le_of_ble_eq_true rfl) (ct_X2_needName (nI o) M) (znd_r (fun ho9 => ?_)) (znd_x (fun ho9 => ?_)) (Nat.le_refl _)
      · refine zq_aload_n K dX2_rename_13 rfl rfl ?_
        refine zq_iload_n K dX2_rename_14 rfl rfl ?_
        refine zq_callV (As := [.int (nI (d))]) K dX2_rename_15 zyX2_needDirectory zm_X2_36 ziX2_needDirectory zvX2_needDirectory zclX2 rfl (by decide) rfl rfl (Nat.le_of_ble_eq_true rfl) (Nat.le_of_ble_eq_true rfl) hC.x.1 (ct_X2_needDirectory_1 hC hv) (zone_r ?_) zone_x (Nat.le_refl _)
        refine zq_astore K dX2_rename_18 (by decide) ?_
        refine zq_aload_n K dX2_rename_20 rfl rfl ?_
        refine zq_iload K dX2_rename_21 rfl ?_
        refine zq_callV (As := [.int (nI (t))]) K dX2_rename_23 zyX2_needDirectory zm_X2_36 ziX2_needDirectory zvX2_needDirectory zclX2 rfl (by decide) rfl rfl (Nat.le_of_ble_eq_true rfl) (Nat.le_of_ble_eq_true rfl) hC.x.1 (ct_X2_needDirectory_1 hC hvt) (zone_r ?_) zone_x (Nat.le_refl _)
        refine zq_astore K dX2_rename_26 (by decide) ?_
        refine zq_aload_n K dX2_rename_28 rfl rfl ?_
        refine zq_aload K dX2_rename_29 rfl ?_
        refine zq_iload_n K dX2_rename_31 rfl rfl ?_
        refine zq_callV (As := [.ref (W 3 d), .int (nI (n))]) K dX2_rename_32 zyX2_needTaken zm_X2_98 ziX2_needTaken zvX2_needTaken zclX2 rfl (by decide) rfl rfl (Nat.le_of_ble_eq_true rfl) (Nat.le_of_ble_eq_true rfl) hC.x.1 (ct_X2_needTaken hC hv hn hF hU hM) (znd_r (fun ht => ?_)) (znd_x (fun ht => ?_)) (Nat.le_refl _)
        · refine zq_aload_n K dX2_rename_35 rfl rfl ?_
          refine zq_aload K dX2_rename_36 rfl ?_
          refine zq_iload K dX2_rename_38 rfl ?_
          refine zq_callV (As := [.ref (W 3 t), .int (nI (o))]) K dX2_rename_40 zyX2_needFree zm_X2_64 ziX2_needFree zvX2_needFree zclX2 rfl (by decide) rfl rfl (Nat.le_of_ble_eq_true rfl) (Nat.le_of_ble_eq_true rfl) hC.x.1 (ct_X2_needFree hC hvt ho hF hU hM) (znd_r (fun hz => ?_)) (znd_x (fun hz => ?_)) (Nat.le_refl _)
          · refine zq_aload K dX2_rename_43 rfl ?_
            refine zq_iload_n K dX2_rename_45 rfl rfl ?_
            refine zq_callV (As := [.int (nI (n))]) K dX2_rename_46 zyX0_meaningOf zm_X2_60 ziX0_meaningOf zvX0_meaningOf zclX0 rfl (by decide) rfl rfl (Nat.le_of_ble_eq_true rfl) (Nat.le_of_ble_eq_true rfl) (hC.d hv).1 (show zMet G mX0_meaningOf [.ref (W 3 d), .int (nI n)] M (zone (some (.int (-2 - nI e))) M) from by have := ct_X0_meaningOf (G := G) hC hv hn; rwa [h3] at this) (zone_r ?_) zone_x (Nat.le_refl _)
            refine zq_istore K dX2_rename_49 (by decide) ?_
            refine zq_aload_n K dX2_rename_51 rfl rfl ?_
            refine zq_iload K dX2_rename_52 rfl ?_
            refine zq_callV (As := [.int (-2 - nI e)]) K dX2_rename_54 zyX2_directoryMeant zm_X2_101 ziX2_directoryMeant zvX2_directoryMeant zclX2 rfl (by decide) rfl rfl (Nat.le_of_ble_eq_true rfl) (Nat.le_of_ble_eq_true rfl) hC.x.1 (ct_X2_directoryMeant_1 hC he) (zone_r ?_) zone_x (Nat.le_refl _)
            refine zq_astore K dX2_rename_57 (by decide) ?_
            refine zq_aload K dX2_rename_59 rfl ?_
            refine zq_ifnull_r K dX2_rename_61 ?_
            refine zq_aload K dX2_rename_64 rfl ?_
            refine zq_aload K dX2_rename_66 rfl ?_
            refine zq_callV (As := [.ref (W 3 e)]) K dX2_rename_68 zyX0_isWithin zm_X2_114 ziX0_isWithin zvX0_isWithin zclX0 rfl (by decide) rfl rfl (Nat.le_of_ble_eq_true rfl) (Nat.le_of_ble_eq_true rfl) (hC.d hvt).1 (ct_X0_isWithin hC hvt he (hU t hvt.1 hvt.2)) (zdec_r (fun hw => ?_) (fun hw => ?_)) zdec_x (Nat.le_refl _)
            · refine zq_if_eqN K (x := 1) 84 dX2_rename_71 (by decide) (by omega) (fun h71 => by omega) (fun h71 => ?_)
              exact zq_throw K (text := "the target is the directory or below it") zthISE (by decide +kernel) dX2_rename_74 dX2_rename_77 dX2_rename_78 dX2_rename_80 dX2_rename_83 (by decide) (Nat.le_of_ble_eq_true rfl) (Nat.le_of_ble_eq_true rfl) ⟨rfl, rfl⟩
            · refine zq_if_eqN K (x := 0) 84 dX2_rename_71 (by decide) (by omega) (fun h71 => ?_) (fun h71 => by omega)
              exact absurd h4 hw
          · exact absurd h2 hz
        · exact absurd h1 ht
      · exact absurd ⟨o, by omega, rfl⟩ ho9
    · exact absurd ⟨n, by omega, rfl⟩ hn9
  · exact absurd ⟨c, by omega, rfl⟩ hc9
theorem ct_X2_rename_dir {G : ZG} {M : ZM} {W : Nat → Nat → Nat} {B : ZA} (hC : zC M W B) (hW : zWf B) (hM : zMw B) {c d n t o : Nat} (hc : c < 4) (hv : zVal B 3 d) (hn : n < 50) (hvt : zVal B 3 t) (ho : o < 50) (h1 : ¬ B.2 6 (50 * d + n) = -1 ∧ ¬ zfz B (zfn B d n) = true) (h2 : ¬ zBz B t o) {e : Nat} (he : zVal B 3 e) (h3 : B.2 6 (50 * d + n) = -2 - nI e) (h4 : ¬ zblN B 11 t e = true) (he0 : ¬ e = 0) : zMet G mX2_rename [.ref (W 10 0), .int (nI (c)), .int (nI (d)), .int (nI (n)), .int (nI (t)), .int (nI (o))] M (zCP W M B none (zsa (zsa (zcn (zcn B (nI c) d n (-1) (nI 0)) (nI c) t o (-2 - nI e) (B.2 7 (50 * d + n))) 4 e (nI t)) 5 e (nI o))) := by
  refine zbody zyX2_rename [some (.ref (W 10 0)), some (.int (nI (c))), some (.int (nI (d))), some (.int (nI (n))), some (.int (nI (t))), some (.int (nI (o))), none, none, none, none, none] rfl (Nat.le_of_ble_eq_true rfl) (by intro v hv; simp only [List.mem_cons, List.not_mem_nil, or_false] at hv; rcases hv with rfl | rfl | rfl | rfl | rfl | rfl <;> rfl) (fun E K => ?_)
  obtain ⟨⟨D, hB⟩, hF, hU⟩ := id hW
  have hS : zFm M W B M := zFm.rf
  refine zq_iload_n K dX2_rename_0 rfl rfl ?_
  refine zq_callS (As := [.int (nI (c))]) K dX2_rename_1 zyX2_needClient zm_X2_29 zsX2_needClient rfl (by decide) rfl rfl (Nat.le_of_ble_eq_true rfl) (Nat.le_of_ble_eq_true rfl) (ct_X2_needClient (nI c) M) (znd_r (fun hc9 => ?_)) (znd_x (fun hc9 => ?_)) (Nat.le_refl _)
  · refine zq_iload_n K dX2_rename_4 rfl rfl ?_
    refine zq_callS (As := [.int (nI (n))]) K dX2_rename_5 zyX2_needName zm_X2_33 zsX2_needName rfl (by decide) rfl rfl (Nat.le_of_ble_eq_true rfl) (Nat.le_of_ble_eq_true rfl) (ct_X2_needName (nI n) M) (znd_r (fun hn9 => ?_)) (znd_x (fun hn9 => ?_)) (Nat.le_refl _)
    · refine zq_iload K dX2_rename_8 rfl ?_
      refine zq_callS (As := [.int (nI (o))]) K dX2_rename_10 zyX2_needName zm_X2_33 zsX2_needName rfl (by decide) rfl rfl (Nat.le_of_ble_eq_true rfl) (Nat.le_of_ble_eq_true rfl) (ct_X2_needName (nI o) M) (znd_r (fun ho9 => ?_)) (znd_x (fun ho9 => ?_)) (Nat.le_refl _)
      · refine zq_aload_n K dX2_rename_13 rfl rfl ?_
        refine zq_iload_n K dX2_rename_14 rfl rfl ?_
        refine zq_callV (As := [.int (nI (d))]) K dX2_rename_15 zyX2_needDirectory zm_X2_36 ziX2_needDirectory zvX2_needDirectory zclX2 rfl (by decide) rfl rfl (Nat.le_of_ble_eq_true rfl) (Nat.le_of_ble_eq_true rfl) hC.x.1 (ct_X2_needDirectory_1 hC hv) (zone_r ?_) zone_x (Nat.le_refl _)
        refine zq_astore K dX2_rename_18 (by decide) ?_
        refine zq_aload_n K dX2_rename_20 rfl rfl ?_
        refine zq_iload K dX2_rename_21 rfl ?_
        refine zq_callV (As := [.int (nI (t))]) K dX2_rename_23 zyX2_needDirectory zm_X2_36 ziX2_needDirectory zvX2_needDirectory zclX2 rfl (by decide) rfl rfl (Nat.le_of_ble_eq_true rfl) (Nat.le_of_ble_eq_true rfl) hC.x.1 (ct_X2_needDirectory_1 hC hvt) (zone_r ?_) zone_x (Nat.le_refl _)
        refine zq_astore K dX2_rename_26 (by decide) ?_
        refine zq_aload_n K dX2_rename_28 rfl rfl ?_
        refine zq_aload K dX2_rename_29 rfl ?_
        refine zq_iload_n K dX2_rename_31 rfl rfl ?_
        refine zq_callV (As := [.ref (W 3 d), .int (nI (n))]) K dX2_rename_32 zyX2_needTaken zm_X2_98 ziX2_needTaken zvX2_needTaken zclX2 rfl (by decide) rfl rfl (Nat.le_of_ble_eq_true rfl) (Nat.le_of_ble_eq_true rfl) hC.x.1 (ct_X2_needTaken hC hv hn hF hU hM) (znd_r (fun ht => ?_)) (znd_x (fun ht => ?_)) (Nat.le_refl _)
        · refine zq_aload_n K dX2_rename_35 rfl rfl ?_
          refine zq_aload K dX2_rename_36 rfl ?_
          refine zq_iload K dX2_rename_38 rfl ?_
          refine zq_callV (As := [.ref (W 3 t), .int (nI (o))]) K dX2_rename_40 zyX2_needFree zm_X2_64 ziX2_needFree zvX2_needFree zclX2 rfl (by decide) rfl rfl (Nat.le_of_ble_eq_true rfl) (Nat.le_of_ble_eq_true rfl) hC.x.1 (ct_X2_needFree hC hvt ho hF hU hM) (znd_r (fun hz => ?_)) (znd_x (fun hz => ?_)) (Nat.le_refl _)
          · refine zq_aload K dX2_rename_43 rfl ?_
            refine zq_iload_n K dX2_rename_45 rfl rfl ?_
            refine zq_callV (As := [.int (nI (n))]) K dX2_rename_46 zyX0_meaningOf zm_X2_60 ziX0_meaningOf zvX0_meaningOf zclX0 rfl (by decide) rfl rfl (Nat.le_of_ble_eq_true rfl) (Nat.le_of_ble_eq_true rfl) (hC.d hv).1 (show zMet G mX0_meaningOf [.ref (W 3 d), .int (nI n)] M (zone (some (.int (-2 - nI e))) M) from by have := ct_X0_meaningOf (G := G) hC hv hn; rwa [h3] at this) (zone_r ?_) zone_x (Nat.le_refl _)
            refine zq_istore K dX2_rename_49 (by decide) ?_
            refine zq_aload_n K dX2_rename_51 rfl rfl ?_
            refine zq_iload K dX2_rename_52 rfl ?_
            refine zq_callV (As := [.int (-2 - nI e)]) K dX2_rename_54 zyX2_directoryMeant zm_X2_101 ziX2_directoryMeant zvX2_directoryMeant zclX2 rfl (by decide) rfl rfl (Nat.le_of_ble_eq_true rfl) (Nat.le_of_ble_eq_true rfl) hC.x.1 (ct_X2_directoryMeant_1 hC he) (zone_r ?_) zone_x (Nat.le_refl _)
            refine zq_astore K dX2_rename_57 (by decide) ?_
            refine zq_aload K dX2_rename_59 rfl ?_
            refine zq_ifnull_r K dX2_rename_61 ?_
            refine zq_aload K dX2_rename_64 rfl ?_
            refine zq_aload K dX2_rename_66 rfl ?_
            refine zq_callV (As := [.ref (W 3 e)]) K dX2_rename_68 zyX0_isWithin zm_X2_114 ziX0_isWithin zvX0_isWithin zclX0 rfl (by decide) rfl rfl (Nat.le_of_ble_eq_true rfl) (Nat.le_of_ble_eq_true rfl) (hC.d hvt).1 (ct_X0_isWithin hC hvt he (hU t hvt.1 hvt.2)) (zdec_r (fun hw => ?_) (fun hw => ?_)) zdec_x (Nat.le_refl _)
            · refine zq_if_eqN K (x := 1) 84 dX2_rename_71 (by decide) (by omega) (fun h71 => by omega) (fun h71 => ?_)
              exact absurd hw h4
            · refine zq_if_eqN K (x := 0) 84 dX2_rename_71 (by decide) (by omega) (fun h71 => ?_) (fun h71 => by omega)
              refine zq_aload K dX2_rename_84 rfl ?_
              refine zq_iload_n K dX2_rename_86 rfl rfl ?_
              refine zq_callV (As := [.int (nI (n))]) K dX2_rename_87 zyX0_ageOf zm_X2_120 ziX0_ageOf zvX0_ageOf zclX0 rfl (by decide) rfl rfl (Nat.le_of_ble_eq_true rfl) (Nat.le_of_ble_eq_true rfl) (hC.d hv).1 (ct_X0_ageOf hC hv hn) (zone_r ?_) zone_x (Nat.le_refl _)
              refine zq_istore K dX2_rename_90 (by decide) ?_
              refine zq_aload_n K dX2_rename_92 rfl rfl ?_
              refine zq_iload_n K dX2_rename_93 rfl rfl ?_
              refine zq_aload K dX2_rename_94 rfl ?_
              refine zq_iload_n K dX2_rename_96 rfl rfl ?_
              refine zq_iconst K dX2_rename_97 (v := -1) (by decide) ?_
              refine zq_iconst K dX2_rename_98 (v := nI 0) (by decide) ?_
              refine zq_callV (As := [.int (nI (c)), .ref (W 3 d), .int (nI (n)), .int (-1), .int (nI (0))]) K dX2_rename_99 zyX2_changeName zm_X2_75 ziX2_changeName zvX2_changeName zclX2 rfl (by decide) rfl rfl (Nat.le_of_ble_eq_true rfl) (Nat.le_of_ble_eq_true rfl) hC.x.1 (ct_X2_changeName hC hv hF hn (nI c) (-1) (nI 0)) (zCP_r hS (fun _ _ h => h) (fun M hC hS => ?_)) zCP_x (Nat.le_refl _)
              refine zq_aload_n K dX2_rename_102 rfl rfl ?_
              refine zq_iload_n K dX2_rename_103 rfl rfl ?_
              refine zq_aload K dX2_rename_104 rfl ?_
              refine zq_iload K dX2_rename_106 rfl ?_
              refine zq_iload K dX2_rename_108 rfl ?_
              refine zq_iload K dX2_rename_110 rfl ?_
              refine zq_callV (As := [.int (nI (c)), .ref (W 3 t), .int (nI (o)), .int (-2 - nI e), .int (B.2 7 (50 * d + n))]) K dX2_rename_112 zyX2_changeName zm_X2_75 ziX2_changeName zvX2_changeName zclX2 rfl (by decide) rfl rfl (Nat.le_of_ble_eq_true rfl) (Nat.le_of_ble_eq_true rfl) hC.x.1 (ct_X2_changeName (B := (zcn B (nI c) d n (-1) (nI 0))) hC (zcn_val.mpr hvt) (zcn_fr hF) ho (nI c) (-2 - nI e) (B.2 7 (50 * d + n))) (zCP_r hS (fun _ _ h => zcn_val.mp h) (fun M hC hS => ?_)) zCP_x (Nat.le_refl _)
              refine zq_aload K dX2_rename_115 rfl ?_
              refine zq_ifnull_r K dX2_rename_117 ?_
              refine zq_aload K dX2_rename_120 rfl ?_
              refine zq_aload K dX2_rename_122 rfl ?_
              have he2 : zVal (zcn (zcn B (nI c) d n (-1) (nI 0)) (nI c) t o (-2 - nI e) (B.2 7 (50 * d + n))) 3 e := zcn_val.mpr (zcn_val.mpr he)
              refine zc_ppar K dX2_rename_124 zf_X2_123 hC hS he2 he he0 hvt.1 (fun M hC hS => ?_)
              have he3 : zVal (zsa (zcn (zcn B (nI c) d n (-1) (nI 0)) (nI c) t o (-2 - nI e) (B.2 7 (50 * d + n))) 4 e (nI t)) 3 e := (zVal.cg (zsa_n _ _ _ _ _ (by decide)) (zsa_n _ _ _ _ _ (by decide))).mpr he2
              refine zq_aload K dX2_rename_127 rfl ?_
              refine zq_iload K dX2_rename_129 rfl ?_
              refine zc_pnam K dX2_rename_131 zf_X2_127 hC hS he3 he (fun M hC hS => ?_)
              exact zq_ret K dX2_rename_134 rfl ⟨rfl, hC, hS⟩
          · exact absurd h2 hz
        · exact absurd h1 ht
      · exact absurd ⟨o, by omega, rfl⟩ ho9
    · exact absurd ⟨n, by omega, rfl⟩ hn9
  · exact absurd ⟨c, by omega, rfl⟩ hc9
end
section
theorem ct_X2_size_bad {G : ZG} {M : ZM} {W : Nat → Nat → Nat} {B : ZA} (hC : zC M W B) {d : Int32} (h : ¬ zIsD B d) : zMet G mX2_size [.ref (W 10 0), .int (d)] M (zthr zIOB M) := by
  refine zbody zyX2_size [some (.ref (W 10 0)), some (.int (d))] rfl (Nat.le_of_ble_eq_true rfl) (by intro v hv; simp only [List.mem_cons, List.not_mem_nil, or_false] at hv; rcases hv with rfl | rfl <;> rfl) (fun E K => ?_)
  refine zq_aload_n K dX2_size_0 rfl rfl ?_
  refine zq_iload_n K dX2_size_1 rfl rfl ?_
  refine zq_callV (As := [.int (d)]) K dX2_size_2 zyX2_needDirectory zm_X2_36 ziX2_needDirectory zvX2_needDirectory zclX2 rfl (by decide) rfl rfl (Nat.le_of_ble_eq_true rfl) (Nat.le_of_ble_eq_true rfl) hC.x.1 (ct_X2_needDirectory_0 hC h) zthr_r (zthr_x ?_) (Nat.le_refl _)
  exact zx_out K ⟨rfl, rfl⟩
theorem ct_X2_size_ok {G : ZG} {M : ZM} {W : Nat → Nat → Nat} {B : ZA} (hC : zC M W B) {d : Nat} (hv : zVal B 3 d) : zMet G mX2_size [.ref (W 10 0), .int (nI (d))] M (zone (some (.int (nI (zcN (zpu B d) 50)))) M) := by
  refine zbody zyX2_size [some (.ref (W 10 0)), some (.int (nI (d)))] rfl (Nat.le_of_ble_eq_true rfl) (by intro v hv; simp only [List.mem_cons, List.not_mem_nil, or_false] at hv; rcases hv with rfl | rfl <;> rfl) (fun E K => ?_)
  refine zq_aload_n K dX2_size_0 rfl rfl ?_
  refine zq_iload_n K dX2_size_1 rfl rfl ?_
  refine zq_callV (As := [.int (nI (d))]) K dX2_size_2 zyX2_needDirectory zm_X2_36 ziX2_needDirectory zvX2_needDirectory zclX2 rfl (by decide) rfl rfl (Nat.le_of_ble_eq_true rfl) (Nat.le_of_ble_eq_true rfl) hC.x.1 (ct_X2_needDirectory_1 hC hv) (zone_r ?_) zone_x (Nat.le_refl _)
  refine zq_callV (As := []) K dX2_size_5 zyX0_countTaken zm_X2_225 ziX0_countTaken zvX0_countTaken zclX0 rfl (by decide) rfl rfl (Nat.le_of_ble_eq_true rfl) (Nat.le_of_ble_eq_true rfl) (hC.d hv).1 (ct_X0_countTaken hC hv) (zone_r ?_) zone_x (Nat.le_refl _)
  exact zq_iret K dX2_size_8 rfl ⟨rfl, rfl⟩
theorem ct_X2_byTree_bad {G : ZG} {M : ZM} {W : Nat → Nat → Nat} {B : ZA} (hC : zC M W B) {d h : Int32} {k : Nat} (hk : zBh B 49 d h k) : zMet G mX2_byTree [.ref (W 10 0), .int (d), .int (h)] M (zthr (zen k) M) := by
  refine zbody zyX2_byTree [some (.ref (W 10 0)), some (.int (d)), some (.int (h))] rfl (Nat.le_of_ble_eq_true rfl) (by intro v hv; simp only [List.mem_cons, List.not_mem_nil, or_false] at hv; rcases hv with rfl | rfl | rfl <;> rfl) (fun E K => ?_)
  refine zq_iload_n K dX2_byTree_0 rfl rfl ?_
  refine zq_callS (As := [.int (h)]) K dX2_byTree_1 zyX2_needName zm_X2_33 zsX2_needName rfl (by decide) rfl rfl (Nat.le_of_ble_eq_true rfl) (Nat.le_of_ble_eq_true rfl) (ct_X2_needName h M) (znd_r (fun hh => ?_)) (znd_x (fun hh => ?_)) (Nat.le_refl _)
  · refine zq_aload_n K dX2_byTree_4 rfl rfl ?_
    refine zq_iload_n K dX2_byTree_5 rfl rfl ?_
    obtain ⟨rfl, hnd⟩ : k = 2 ∧ ¬ zIsD B d := by
      rcases hk with ⟨-, h1⟩ | ⟨e, -, h1⟩
      · exact absurd hh h1
      · exact ⟨e, h1⟩
    refine zq_callV (As := [.int (d)]) K dX2_byTree_6 zyX2_needDirectory zm_X2_36 ziX2_needDirectory zvX2_needDirectory zclX2 rfl (by decide) rfl rfl (Nat.le_of_ble_eq_true rfl) (Nat.le_of_ble_eq_true rfl) hC.x.1 (ct_X2_needDirectory_0 hC hnd) zthr_r (zthr_x ?_) (Nat.le_refl _)
    exact zx_out K ⟨rfl, rfl⟩
  · rcases hk with ⟨rfl, -⟩ | ⟨-, h1, -⟩
    · exact zx_out K ⟨rfl, rfl⟩
    · exact absurd h1 hh
theorem ct_X2_byTree_ok {G : ZG} {M : ZM} {W : Nat → Nat → Nat} {B : ZA} (hC : zC M W B) (hW : zWf B) {d h : Nat} (hv : zVal B 3 d) (hh : h ≤ 49) : zMet G mX2_byTree [.ref (W 10 0), .int (nI (d)), .int (nI (h))] M (zone (some (.int (B.2 6 (50 * d + h)))) M) := by
  refine zbody zyX2_byTree [some (.ref (W 10 0)), some (.int (nI (d))), some (.int (nI (h)))] rfl (Nat.le_of_ble_eq_true rfl) (by intro v hv; simp only [List.mem_cons, List.not_mem_nil, or_false] at hv; rcases hv with rfl | rfl | rfl <;> rfl) (fun E K => ?_)
  obtain ⟨⟨D, hB⟩, hF, hU⟩ := id hW
  have hS : zFm M W B M := zFm.rf
  refine zq_iload_n K dX2_byTree_0 rfl rfl ?_
  refine zq_callS (As := [.int (nI (h))]) K dX2_byTree_1 zyX2_needName zm_X2_33 zsX2_needName rfl (by decide) rfl rfl (Nat.le_of_ble_eq_true rfl) (Nat.le_of_ble_eq_true rfl) (ct_X2_needName (nI h) M) (znd_r (fun hh9 => ?_)) (znd_x (fun hh9 => ?_)) (Nat.le_refl _)
  · refine zq_aload_n K dX2_byTree_4 rfl rfl ?_
    refine zq_iload_n K dX2_byTree_5 rfl rfl ?_
    refine zq_callV (As := [.int (nI (d))]) K dX2_byTree_6 zyX2_needDirectory zm_X2_36 ziX2_needDirectory zvX2_needDirectory zclX2 rfl (by decide) rfl rfl (Nat.le_of_ble_eq_true rfl) (Nat.le_of_ble_eq_true rfl) hC.x.1 (ct_X2_needDirectory_1 hC hv) (zone_r ?_) zone_x (Nat.le_refl _)
    refine zq_iload_n K dX2_byTree_9 rfl rfl ?_
    refine zq_callV (As := [.int (nI (h))]) K dX2_byTree_10 zyX0_meaningOf zm_X2_60 ziX0_meaningOf zvX0_meaningOf zclX0 rfl (by decide) rfl rfl (Nat.le_of_ble_eq_true rfl) (Nat.le_of_ble_eq_true rfl) (hC.d hv).1 (ct_X0_meaningOf hC hv (show h < 50 by omega)) (zone_r ?_) zone_x (Nat.le_refl _)
    exact zq_iret K dX2_byTree_13 rfl ⟨rfl, rfl⟩
  · exact absurd ⟨h, hh, rfl⟩ hh9
theorem ct_X2_links_bad {G : ZG} {M : ZM} {W : Nat → Nat → Nat} {B : ZA} (hC : zC M W B) {F : Nat} (hf : B.1 9 = nI F) (hF30 : F ≤ 30) {f : Int32} (h : ¬ zFn F f) : zMet G mX2_links [.ref (W 10 0), .int (f)] M (zthr zIOB M) := by
  refine zbody zyX2_links [some (.ref (W 10 0)), some (.int (f))] rfl (Nat.le_of_ble_eq_true rfl) (by intro v hv; simp only [List.mem_cons, List.not_mem_nil, or_false] at hv; rcases hv with rfl | rfl <;> rfl) (fun E K => ?_)
  refine zq_aload_n K dX2_links_0 rfl rfl ?_
  refine zq_iload_n K dX2_links_1 rfl rfl ?_
  refine zq_callV (As := [.int (f)]) K dX2_links_2 zyX2_needFile zm_X2_87 ziX2_needFile zvX2_needFile zclX2 rfl (by decide) rfl rfl (Nat.le_of_ble_eq_true rfl) (Nat.le_of_ble_eq_true rfl) hC.x.1 (ct_X2_needFile hC hf hF30 f) (znd_r (fun hff => ?_)) (znd_x (fun hff => ?_)) (Nat.le_refl _)
  · exact absurd hff h
  · exact zx_out K ⟨rfl, rfl⟩
theorem ct_X2_links_ok {G : ZG} {M : ZM} {W : Nat → Nat → Nat} {B : ZA} (hC : zC M W B) {F : Nat} (hf : B.1 9 = nI F) (hF30 : F ≤ 30) {f : Int32} (h : zFn F f) : zMet G mX2_links [.ref (W 10 0), .int (f)] M (zone (some (.int (nI (zsm (zkl B f) 12)))) M) := by
  refine zbody zyX2_links [some (.ref (W 10 0)), some (.int (f))] rfl (Nat.le_of_ble_eq_true rfl) (by intro v hv; simp only [List.mem_cons, List.not_mem_nil, or_false] at hv; rcases hv with rfl | rfl <;> rfl) (fun E K => ?_)
  refine zq_aload_n K dX2_links_0 rfl rfl ?_
  refine zq_iload_n K dX2_links_1 rfl rfl ?_
  refine zq_callV (As := [.int (f)]) K dX2_links_2 zyX2_needFile zm_X2_87 ziX2_needFile zvX2_needFile zclX2 rfl (by decide) rfl rfl (Nat.le_of_ble_eq_true rfl) (Nat.le_of_ble_eq_true rfl) hC.x.1 (ct_X2_needFile hC hf hF30 f) (znd_r (fun hff => ?_)) (znd_x (fun hff => ?_)) (Nat.le_refl _)
  · refine zq_aload_n K dX2_links_5 rfl rfl ?_
    refine zq_iload_n K dX2_links_6 rfl rfl ?_
    refine zq_callV (As := [.int (f)]) K dX2_links_7 zyX2_countLinks zm_X2_90 ziX2_countLinks zvX2_countLinks zclX2 rfl (by decide) rfl rfl (Nat.le_of_ble_eq_true rfl) (Nat.le_of_ble_eq_true rfl) hC.x.1 (ct_X2_countLinks hC f) (zone_r ?_) zone_x (Nat.le_refl _)
    exact zq_iret K dX2_links_10 rfl ⟨rfl, rfl⟩
  · exact absurd h hff
theorem ct_X2_anchor_bad {G : ZG} {M : ZM} {W : Nat → Nat → Nat} {B : ZA} (hC : zC M W B) {F : Nat} (hf : B.1 9 = nI F) (hF30 : F ≤ 30) {f : Int32} (h : ¬ zFn F f) : zMet G mX2_anchor [.ref (W 10 0), .int (f)] M (zthr zIOB M) := by
  refine zbody zyX2_anchor [some (.ref (W 10 0)), some (.int (f)), none, none, none, none, none] rfl (Nat.le_of_ble_eq_true rfl) (by intro v hv; simp only [List.mem_cons, List.not_mem_nil, or_false] at hv; rcases hv with rfl | rfl <;> rfl) (fun E K => ?_)
  refine zq_aload_n K dX2_anchor_0 rfl rfl ?_
  refine zq_iload_n K dX2_anchor_1 rfl rfl ?_
  refine zq_callV (As := [.int (f)]) K dX2_anchor_2 zyX2_needFile zm_X2_87 ziX2_needFile zvX2_needFile zclX2 rfl (by decide) rfl rfl (Nat.le_of_ble_eq_true rfl) (Nat.le_of_ble_eq_true rfl) hC.x.1 (ct_X2_needFile hC hf hF30 f) (znd_r (fun hff => ?_)) (znd_x (fun hff => ?_)) (Nat.le_refl _)
  · exact absurd hff h
  · exact zx_out K ⟨rfl, rfl⟩
/-- the oldest of the first k directories: its place and its age -/
def zac (B : ZA) (f : Int32) : Nat → Option (Nat × Int32)
  | 0 => none
  | k + 1 => if B.2 3 k = 1 then (match zOl B k f 50 with
      | none => zac B f k
      | some n => match zac B f k with
        | none => some (100 * k + n, B.2 7 (50 * k + n))
        | some p => if p.2 ≤ B.2 7 (50 * k + n) then some p else some (100 * k + n, B.2 7 (50 * k + n))) else zac B f k
def za1 : Option (Nat × Int32) → Int32
  | none => -1
  | some p => nI p.1
def za2 : Option (Nat × Int32) → Int32
  | none => nI 0
  | some p => p.2
theorem zac_lt {B : ZA} {f : Int32} : ∀ {k : Nat} {p : Nat × Int32}, zac B f k = some p → p.1 < 100 * k
  | 0, _, h => nomatch h
  | k + 1, p, h => by
    unfold zac at h
    split at h
    · split at h
      · have := zac_lt h
        omega
      · rename_i n e
        have hn := zOl_lt e
        split at h
        · cases h
          show 100 * k + n < _
          omega
        · rename_i p' e'
          have := zac_lt e'
          split at h <;> cases h
          · omega
          · show 100 * k + n < _
            omega
    · have := zac_lt h
      omega
theorem lp_X2_anchor {G : ZG} {E : ZE} (K : zOK mX2_anchor [] G E) {M : ZM} {W : Nat → Nat → Nat} {B : ZA} (hC : zC M W B) {f : Int32} {P : ZO → ZM → Prop} (hP : P (.inl (some (.int (za1 (zac B f 12))))) M) : ∀ (m k : Nat) (o5 o6 : Option Value), k + m = 12 → WW E G (zyu mX2_anchor) (zQ E G mX2_anchor P) M 0 12 [some (.ref (W 10 0)), some (.int f), some (.int (za1 (zac B f k))), some (.int (za2 (zac B f k))), some (.int (nI (k))), o5, o6] [] := by
  intro m
  induction m with
  | zero =>
    intro k o5 o6 hk
    have hk4 : k = 12 := by omega
    subst hk4
    refine zq_iload K dX2_anchor_12 rfl ?_
    refine zq_aload_n K dX2_anchor_14 rfl rfl ?_
    refine zq_getRs K dX2_anchor_15 zclX2 (k := 0) (by decide) zf_X2_11 rfl hC.x.1 hC.x.2.1.1 ?_
    refine zq_alen K dX2_anchor_18 hC.dirs.1 (by decide) ?_
    refine zq_top (v := nI 12) (congrArg nI hC.dirs.2.1) ?_
    refine zq_icmp_geN K (x := 12) (y := 12) 90 dX2_anchor_19 (by decide) ⟨by omega, by omega⟩ (fun h19 => ?_) (fun h19 => by omega)
    refine zq_iload_n K dX2_anchor_90 rfl rfl ?_
    exact zq_iret K dX2_anchor_91 rfl hP
  | succ m ih =>
    intro k o5 o6 hk
    have h99 : ∀ (z y : Int32) (o5 o6 : Option Value), za1 (zac B f (k + 1)) = z → za2 (zac B f (k + 1)) = y → WW E G (zyu mX2_anchor) (zQ E G mX2_anchor P) M 0 12 [some (.ref (W 10 0)), some (.int f), some (.int (z)), some (.int (y)), some (.int (nI (k + 1))), o5, o6] [] := by
      intro z y o5 o6 e1 e2
      subst e1
      subst e2
      exact ih (k + 1) o5 o6 (by omega)
    by_cases hl : B.2 3 k = 1
    rotate_left
    · refine zq_iload K dX2_anchor_12 rfl ?_
      refine zq_aload_n K dX2_anchor_14 rfl rfl ?_
      refine zq_getRs K dX2_anchor_15 zclX2 (k := 0) (by decide) zf_X2_11 rfl hC.x.1 hC.x.2.1.1 ?_
      refine zq_alen K dX2_anchor_18 hC.dirs.1 (by decide) ?_
      refine zq_top (v := nI 12) (congrArg nI hC.dirs.2.1) ?_
      refine zq_icmp_geN K (x := k) (y := 12) 90 dX2_anchor_19 (by decide) ⟨by omega, by omega⟩ (fun h19 => by omega) (fun h19 => ?_)
      refine zq_aload_n K dX2_anchor_22 rfl rfl ?_
      refine zq_getRs K dX2_anchor_23 zclX2 (k := 0) (by decide) zf_X2_11 rfl hC.x.1 hC.x.2.1.1 ?_
      refine zq_iload K dX2_anchor_26 rfl ?_
      refine zc_ad0 K (d := k) dX2_anchor_28 hC (show k < 12 by omega) hl rfl ?_
      refine zq_astoreN K dX2_anchor_29 (by decide) ?_
      refine zq_aloadN K dX2_anchor_31 rfl ?_
      refine zq_ifnull_n K 84 dX2_anchor_33 (by decide) ?_
      refine zq_iincN K dX2_anchor_84 rfl (by decide) ?_
      refine zq_goto K 12 dX2_anchor_87 (by decide) ?_
      exact h99 _ _ _ _ (by rw [zac, if_neg hl]) (by rw [zac, if_neg hl])
    have hv : zVal B 3 k := ⟨by omega, hl⟩
    rcases e9 : zOl B k f 50 with _ | n
    · refine zq_iload K dX2_anchor_12 rfl ?_
      refine zq_aload_n K dX2_anchor_14 rfl rfl ?_
      refine zq_getRs K dX2_anchor_15 zclX2 (k := 0) (by decide) zf_X2_11 rfl hC.x.1 hC.x.2.1.1 ?_
      refine zq_alen K dX2_anchor_18 hC.dirs.1 (by decide) ?_
      refine zq_top (v := nI 12) (congrArg nI hC.dirs.2.1) ?_
      refine zq_icmp_geN K (x := k) (y := 12) 90 dX2_anchor_19 (by decide) ⟨by omega, by omega⟩ (fun h19 => by omega) (fun h19 => ?_)
      refine zq_aload_n K dX2_anchor_22 rfl rfl ?_
      refine zq_getRs K dX2_anchor_23 zclX2 (k := 0) (by decide) zf_X2_11 rfl hC.x.1 hC.x.2.1.1 ?_
      refine zq_iload K dX2_anchor_26 rfl ?_
      refine zc_ad1 K (d := k) dX2_anchor_28 hC hv rfl ?_
      refine zq_astore K dX2_anchor_29 (by decide) ?_
      refine zq_aload K dX2_anchor_31 rfl ?_
      refine zq_ifnull_r K dX2_anchor_33 ?_
      refine zq_aload K dX2_anchor_36 rfl ?_
      refine zq_iload_n K dX2_anchor_38 rfl rfl ?_
      refine zq_callV (As := [.int (f)]) K dX2_anchor_39 zyX0_oldestLink zm_X2_222 ziX0_oldestLink zvX0_oldestLink zclX0 rfl (by decide) rfl rfl (Nat.le_of_ble_eq_true rfl) (Nat.le_of_ble_eq_true rfl) (hC.d hv).1 (show zMet G mX0_oldestLink [.ref (W 3 k), .int f] M (zone (some (.int (nI 50))) M) from by have := ct_X0_oldestLink (G := G) hC hv f; rwa [e9] at this) (zone_r ?_) zone_x (Nat.le_refl _)
      refine zq_istore K dX2_anchor_42 (by decide) ?_
      refine zq_iload K dX2_anchor_44 rfl ?_
      refine zq_bipush K dX2_anchor_46 (v := nI 50) (by decide) ?_
      refine zq_icmp_geN K (x := 50) (y := 50) 84 dX2_anchor_48 (by decide) ⟨by omega, by omega⟩ (fun h48 => ?_) (fun h48 => by omega)
      refine zq_iincN K dX2_anchor_84 rfl (by decide) ?_
      refine zq_goto K 12 dX2_anchor_87 (by decide) ?_
      exact h99 _ _ _ _ (by rw [zac, if_pos hl, e9]) (by rw [zac, if_pos hl, e9])
    · have hn := zOl_lt e9
      rcases e8 : zac B f k with _ | p
      · refine zq_iload K dX2_anchor_12 rfl ?_
        refine zq_aload_n K dX2_anchor_14 rfl rfl ?_
        refine zq_getRs K dX2_anchor_15 zclX2 (k := 0) (by decide) zf_X2_11 rfl hC.x.1 hC.x.2.1.1 ?_
        refine zq_alen K dX2_anchor_18 hC.dirs.1 (by decide) ?_
        refine zq_top (v := nI 12) (congrArg nI hC.dirs.2.1) ?_
        refine zq_icmp_geN K (x := k) (y := 12) 90 dX2_anchor_19 (by decide) ⟨by omega, by omega⟩ (fun h19 => by omega) (fun h19 => ?_)
        refine zq_aload_n K dX2_anchor_22 rfl rfl ?_
        refine zq_getRs K dX2_anchor_23 zclX2 (k := 0) (by decide) zf_X2_11 rfl hC.x.1 hC.x.2.1.1 ?_
        refine zq_iload K dX2_anchor_26 rfl ?_
        refine zc_ad1 K (d := k) dX2_anchor_28 hC hv rfl ?_
        refine zq_astore K dX2_anchor_29 (by decide) ?_
        refine zq_aload K dX2_anchor_31 rfl ?_
        refine zq_ifnull_r K dX2_anchor_33 ?_
        refine zq_aload K dX2_anchor_36 rfl ?_
        refine zq_iload_n K dX2_anchor_38 rfl rfl ?_
        refine zq_callV (As := [.int (f)]) K dX2_anchor_39 zyX0_oldestLink zm_X2_222 ziX0_oldestLink zvX0_oldestLink zclX0 rfl (by decide) rfl rfl (Nat.le_of_ble_eq_true rfl) (Nat.le_of_ble_eq_true rfl) (hC.d hv).1 (show zMet G mX0_oldestLink [.ref (W 3 k), .int f] M (zone (some (.int (nI n))) M) from by have := ct_X0_oldestLink (G := G) hC hv f; rwa [e9] at this) (zone_r ?_) zone_x (Nat.le_refl _)
        refine zq_istore K dX2_anchor_42 (by decide) ?_
        refine zq_iload K dX2_anchor_44 rfl ?_
        refine zq_bipush K dX2_anchor_46 (v := nI 50) (by decide) ?_
        refine zq_icmp_geN K (x := n) (y := 50) 84 dX2_anchor_48 (by decide) ⟨by omega, by omega⟩ (fun h48 => by omega) (fun h48 => ?_)
        refine zq_iload_n K dX2_anchor_51 rfl rfl ?_
        refine zq_iconst K dX2_anchor_52 (v := -1) (by decide) ?_
        refine zq_icmp_eq K 67 dX2_anchor_53 (by decide) (fun h53 => ?_) (fun h53 => absurd rfl h53)
        refine zq_bipush K dX2_anchor_67 (v := nI 100) (by decide) ?_
        refine zq_iload K dX2_anchor_69 rfl ?_
        refine zq_imulN K (x := 100) (y := k) dX2_anchor_71 ?_
        refine zq_iload K dX2_anchor_72 rfl ?_
        refine zq_iaddN K (x := (100) * (k)) (y := n) dX2_anchor_74 ?_
        refine zq_istore_n K dX2_anchor_75 rfl (by decide) ?_
        refine zq_aload K dX2_anchor_76 rfl ?_
        refine zq_iload K dX2_anchor_78 rfl ?_
        refine zq_callV (As := [.int (nI (n))]) K dX2_anchor_80 zyX0_ageOf zm_X2_120 ziX0_ageOf zvX0_ageOf zclX0 rfl (by decide) rfl rfl (Nat.le_of_ble_eq_true rfl) (Nat.le_of_ble_eq_true rfl) (hC.d hv).1 (ct_X0_ageOf hC hv hn) (zone_r ?_) zone_x (Nat.le_refl _)
        refine zq_istore_n K dX2_anchor_83 rfl (by decide) ?_
        refine zq_iincN K dX2_anchor_84 rfl (by decide) ?_
        refine zq_goto K 12 dX2_anchor_87 (by decide) ?_
        exact h99 _ _ _ _ (by rw [zac, if_pos hl, e9]; dsimp only; rw [e8]; rfl) (by rw [zac, if_pos hl, e9]; dsimp only; rw [e8]; rfl)
      · refine zq_iload K dX2_anchor_12 rfl ?_
        refine zq_aload_n K dX2_anchor_14 rfl rfl ?_
        refine zq_getRs K dX2_anchor_15 zclX2 (k := 0) (by decide) zf_X2_11 rfl hC.x.1 hC.x.2.1.1 ?_
        refine zq_alen K dX2_anchor_18 hC.dirs.1 (by decide) ?_
        refine zq_top (v := nI 12) (congrArg nI hC.dirs.2.1) ?_
        refine zq_icmp_geN K (x := k) (y := 12) 90 dX2_anchor_19 (by decide) ⟨by omega, by omega⟩ (fun h19 => by omega) (fun h19 => ?_)
        refine zq_aload_n K dX2_anchor_22 rfl rfl ?_
        refine zq_getRs K dX2_anchor_23 zclX2 (k := 0) (by decide) zf_X2_11 rfl hC.x.1 hC.x.2.1.1 ?_
        refine zq_iload K dX2_anchor_26 rfl ?_
        refine zc_ad1 K (d := k) dX2_anchor_28 hC hv rfl ?_
        refine zq_astore K dX2_anchor_29 (by decide) ?_
        refine zq_aload K dX2_anchor_31 rfl ?_
        refine zq_ifnull_r K dX2_anchor_33 ?_
        refine zq_aload K dX2_anchor_36 rfl ?_
        refine zq_iload_n K dX2_anchor_38 rfl rfl ?_
        refine zq_callV (As := [.int (f)]) K dX2_anchor_39 zyX0_oldestLink zm_X2_222 ziX0_oldestLink zvX0_oldestLink zclX0 rfl (by decide) rfl rfl (Nat.le_of_ble_eq_true rfl) (Nat.le_of_ble_eq_true rfl) (hC.d hv).1 (show zMet G mX0_oldestLink [.ref (W 3 k), .int f] M (zone (some (.int (nI n))) M) from by have := ct_X0_oldestLink (G := G) hC hv f; rwa [e9] at this) (zone_r ?_) zone_x (Nat.le_refl _)
        refine zq_istore K dX2_anchor_42 (by decide) ?_
        refine zq_iload K dX2_anchor_44 rfl ?_
        refine zq_bipush K dX2_anchor_46 (v := nI 50) (by decide) ?_
        refine zq_icmp_geN K (x := n) (y := 50) 84 dX2_anchor_48 (by decide) ⟨by omega, by omega⟩ (fun h48 => by omega) (fun h48 => ?_)
        refine zq_iload_n K dX2_anchor_51 rfl rfl ?_
        refine zq_iconst K dX2_anchor_52 (v := -1) (by decide) ?_
        refine zq_icmp_eq K 67 dX2_anchor_53 (by decide) (fun h53 => absurd h53 (nI_ne1 (by have := zac_lt e8; omega))) (fun h53 => ?_)
        refine zq_aload K dX2_anchor_56 rfl ?_
        refine zq_iload K dX2_anchor_58 rfl ?_
        refine zq_callV (As := [.int (nI (n))]) K dX2_anchor_60 zyX0_ageOf zm_X2_120 ziX0_ageOf zvX0_ageOf zclX0 rfl (by decide) rfl rfl (Nat.le_of_ble_eq_true rfl) (Nat.le_of_ble_eq_true rfl) (hC.d hv).1 (ct_X0_ageOf hC hv hn) (zone_r ?_) zone_x (Nat.le_refl _)
        refine zq_iload_n K dX2_anchor_63 rfl rfl ?_
        refine zq_icmp_ge K 84 dX2_anchor_64 (by decide) (fun h64 => ?_) (fun h64 => ?_)
        · refine zq_iincN K dX2_anchor_84 rfl (by decide) ?_
          refine zq_goto K 12 dX2_anchor_87 (by decide) ?_
          exact h99 _ _ _ _ (by rw [zac, if_pos hl, e9]; dsimp only; rw [e8]; dsimp only; rw [if_pos (show p.2 ≤ B.2 7 (50 * k + n) from h64)]) (by rw [zac, if_pos hl, e9]; dsimp only; rw [e8]; dsimp only; rw [if_pos (show p.2 ≤ B.2 7 (50 * k + n) from h64)])
        · refine zq_bipush K dX2_anchor_67 (v := nI 100) (by decide) ?_
          refine zq_iload K dX2_anchor_69 rfl ?_
          refine zq_imulN K (x := 100) (y := k) dX2_anchor_71 ?_
          refine zq_iload K dX2_anchor_72 rfl ?_
          refine zq_iaddN K (x := (100) * (k)) (y := n) dX2_anchor_74 ?_
          refine zq_istore_n K dX2_anchor_75 rfl (by decide) ?_
          refine zq_aload K dX2_anchor_76 rfl ?_
          refine zq_iload K dX2_anchor_78 rfl ?_
          refine zq_callV (As := [.int (nI (n))]) K dX2_anchor_80 zyX0_ageOf zm_X2_120 ziX0_ageOf zvX0_ageOf zclX0 rfl (by decide) rfl rfl (Nat.le_of_ble_eq_true rfl) (Nat.le_of_ble_eq_true rfl) (hC.d hv).1 (ct_X0_ageOf hC hv hn) (zone_r ?_) zone_x (Nat.le_refl _)
          refine zq_istore_n K dX2_anchor_83 rfl (by decide) ?_
          refine zq_iincN K dX2_anchor_84 rfl (by decide) ?_
          refine zq_goto K 12 dX2_anchor_87 (by decide) ?_
          exact h99 _ _ _ _ (by rw [zac, if_pos hl, e9]; dsimp only; rw [e8]; dsimp only; rw [if_neg (show ¬ p.2 ≤ B.2 7 (50 * k + n) from h64)]; rfl) (by rw [zac, if_pos hl, e9]; dsimp only; rw [e8]; dsimp only; rw [if_neg (show ¬ p.2 ≤ B.2 7 (50 * k + n) from h64)]; rfl)
theorem ct_X2_anchor_ok {G : ZG} {M : ZM} {W : Nat → Nat → Nat} {B : ZA} (hC : zC M W B) {F : Nat} (hf : B.1 9 = nI F) (hF30 : F ≤ 30) {f : Int32} (h : zFn F f) : zMet G mX2_anchor [.ref (W 10 0), .int (f)] M (zone (some (.int (za1 (zac B f 12)))) M) := by
  refine zbody zyX2_anchor [some (.ref (W 10 0)), some (.int (f)), none, none, none, none, none] rfl (Nat.le_of_ble_eq_true rfl) (by intro v hv; simp only [List.mem_cons, List.not_mem_nil, or_false] at hv; rcases hv with rfl | rfl <;> rfl) (fun E K => ?_)
  refine zq_aload_n K dX2_anchor_0 rfl rfl ?_
  refine zq_iload_n K dX2_anchor_1 rfl rfl ?_
  refine zq_callV (As := [.int (f)]) K dX2_anchor_2 zyX2_needFile zm_X2_87 ziX2_needFile zvX2_needFile zclX2 rfl (by decide) rfl rfl (Nat.le_of_ble_eq_true rfl) (Nat.le_of_ble_eq_true rfl) hC.x.1 (ct_X2_needFile hC hf hF30 f) (znd_r (fun hff => ?_)) (znd_x (fun hff => ?_)) (Nat.le_refl _)
  · refine zq_iconst K dX2_anchor_5 (v := -1) (by decide) ?_
    refine zq_istore_n K dX2_anchor_6 rfl (by decide) ?_
    refine zq_iconst K dX2_anchor_7 (v := nI 0) (by decide) ?_
    refine zq_istore_n K dX2_anchor_8 rfl (by decide) ?_
    refine zq_iconst K dX2_anchor_9 (v := nI 0) (by decide) ?_
    refine zq_istore K dX2_anchor_10 (by decide) ?_
    exact lp_X2_anchor K hC ⟨rfl, rfl⟩ 12 0 none none rfl
  · exact absurd h hff
end
section
/-! the class: balance -/
def zgl (B : ZA) : Nat → Int32 := fun s => zlc B (nI s) 96
def zbx (B : ZA) : Nat := zMx (zgl B) 3
def zby (B : ZA) : Nat := zMn (zgl B) 3
def zbu (B : ZA) : Int32 := zgl B (zbx B) - zgl B (zby B)
def zbc (B : ZA) : Option Nat := if zbu B < nI 4 then none else zhv B (nI (zbx B)) (zbu B / nI 2) 96
end
section
/-! the class: split, merge -/
/-- a call after which new objects may be there -/
def zCW (W : Nat → Nat → Nat) (M : ZM) (B : ZA) (v : Option Value) (B' : ZA) : ZO → ZM → Prop := fun o M' => o = .inl v ∧ ∃ W' : Nat → Nat → Nat, zC M' W' B' ∧ zFm M W B M' ∧ W' 10 0 = W 10 0 ∧ ∀ i j, zVal B' i j → (zVal B i j ∧ W' i j = W i j) ∨ zk M (W' i j) = 0
theorem zCP.w {W : Nat → Nat → Nat} {M : ZM} {B B' : ZA} {v : Option Value} {o : ZO} {M' : ZM} (h : zCP W M B v B' o M') (hs : ∀ i j, zVal B' i j → zVal B i j) : zCW W M B v B' o M' := ⟨h.1, W, h.2.1, h.2.2, rfl, fun i j hv => Or.inl ⟨hs i j hv, rfl⟩⟩
theorem halve_fr {M : ZM} {W : Nat → Nat → Nat} {B : ZA} (hC : zC M W B) {d g t a : Nat} (hv : zVal B 3 d) (ht : 1 ≤ t) (hg : g + t + t ≤ 8) (e1 : B.2 10 (8 * d + g) = nI (2 * t)) (ha : zk M a = 0) (i j : Nat) (h : zVal (zSp B (8 * d + g) (2 * t)) i j) : (zVal B i j ∧ zW1 W 9 (8 * d + g + t) a i j = W i j) ∨ zk M (zW1 W 9 (8 * d + g + t) a i j) = 0 := by
  by_cases hn : i = 9 ∧ j = 8 * d + g + t
  · refine Or.inr ?_
    rw [show zW1 W 9 (8 * d + g + t) a i j = a from if_pos hn]
    exact ha
  · refine Or.inl ⟨?_, if_neg hn⟩
    have h2t : 2 * t / 2 = t := by omega
    have hk : (zSp B (8 * d + g) (2 * t)).2 3 = B.2 3 := by
      unfold zSp
      rw [zsa_n _ _ _ _ _ (by decide), zsa_n _ _ _ _ _ (by decide), zsa_n _ _ _ _ _ (by decide), zsa_n _ _ _ _ _ (by decide), zsa_n _ _ _ _ _ (by decide)]
    unfold zVal at h ⊢
    rw [hk] at h
    split at h
    all_goals first
      | exact h
      | (refine ⟨h.1, h.2.1, ?_⟩
         have h4 := h.2.2
         unfold zSp at h4
         rw [h2t, zsa_n _ _ _ _ _ (by decide), zsa_n _ _ _ _ _ (by decide), zsa_n _ _ _ _ _ (by decide), zsa_2, if_neg (fun z => hn ⟨rfl, z.2⟩), zsa_2] at h4
         split at h4
         · rename_i h5
           rw [h5.2, e1]
           exact nI_ne0 (by omega) (by omega)
         · exact h4)
end
section
/-! the class: directories made -/
theorem zFm.trW {M0 M M' : ZM} {W W' : Nat → Nat → Nat} {B B' : ZA} (h : zFm M0 W B M) (g : zFm M W' B' M') (hW : ∀ i j, zVal B' i j → (zVal B i j ∧ W' i j = W i j) ∨ zk M0 (W' i j) = 0) : zFm M0 W B M' := fun y h1 h2 => (h y h1 h2).tr (g y (by rw [(h y h1 h2).1]; exact h1) (fun i j hij e => by
  rcases hW i j hij with ⟨g1, g2⟩ | g
  · exact h2 i j g1 (e.trans g2)
  · exact h1 (e ▸ g)))
theorem zVal.scx {B : ZA} {k : Nat} {v : Int32} {i j : Nat} : zVal (zsc B k v) i j ↔ zVal B i j := Iff.rfl
theorem ct_X2_makeDirectory_no {G : ZG} {M : ZM} {W : Nat → Nat → Nat} {B : ZA} (hC : zC M W B) (hW : zWf B) {c d n : Nat} (hc : c < 4) (hv : zVal B 3 d) (hn : n < 50) (hM : zMw B) {D : Nat} (hD : B.1 2 = nI D) (hD12 : D ≤ 12) (h : zBz B d n ∨ D = 12) : zMet G mX2_makeDirectory [.ref (W 10 0), .int (nI (c)), .int (nI (d)), .int (nI (n))] M (zthr zISE M) := by
  refine zbody zyX2_makeDirectory [some (.ref (W 10 0)), some (.int (nI (c))), some (.int (nI (d))), some (.int (nI (n))), none, none] rfl (Nat.le_of_ble_eq_true rfl) (by intro v hv; simp only [List.mem_cons, List.not_mem_nil, or_false] at hv; rcases hv with rfl | rfl | rfl | rfl <;> rfl) (fun E K => ?_)
  obtain ⟨⟨D9, hB⟩, hF, hU⟩ := id hW
  have hS : zFm M W B M := zFm.rf
  refine zq_iload_n K dX2_makeDirectory_0 rfl rfl ?_
  refine zq_callS (As := [.int (nI (c))]) K dX2_makeDirectory_1 zyX2_needClient zm_X2_29 zsX2_needClient rfl (by decide) rfl rfl (Nat.le_of_ble_eq_true rfl) (Nat.le_of_ble_eq_true rfl) (ct_X2_needClient (nI c) M) (znd_r (fun hc9 => ?_)) (znd_x (fun hc9 => ?_)) (Nat.le_refl _)
  · refine zq_iload_n K dX2_makeDirectory_4 rfl rfl ?_
    refine zq_callS (As := [.int (nI (n))]) K dX2_makeDirectory_5 zyX2_needName zm_X2_33 zsX2_needName rfl (by decide) rfl rfl (Nat.le_of_ble_eq_true rfl) (Nat.le_of_ble_eq_true rfl) (ct_X2_needName (nI n) M) (znd_r (fun hn9 => ?_)) (znd_x (fun hn9 => ?_)) (Nat.le_refl _)
    · refine zq_aload_n K dX2_makeDirectory_8 rfl rfl ?_
      refine zq_iload_n K dX2_makeDirectory_9 rfl rfl ?_
      refine zq_callV (As := [.int (nI (d))]) K dX2_makeDirectory_10 zyX2_needDirectory zm_X2_36 ziX2_needDirectory zvX2_needDirectory zclX2 rfl (by decide) rfl rfl (Nat.le_of_ble_eq_true rfl) (Nat.le_of_ble_eq_true rfl) hC.x.1 (ct_X2_needDirectory_1 hC hv) (zone_r ?_) zone_x (Nat.le_refl _)
      refine zq_astore K dX2_makeDirectory_13 (by decide) ?_
      refine zq_aload_n K dX2_makeDirectory_15 rfl rfl ?_
      refine zq_aload K dX2_makeDirectory_16 rfl ?_
      refine zq_iload_n K dX2_makeDirectory_18 rfl rfl ?_
      refine zq_callV (As := [.ref (W 3 d), .int (nI (n))]) K dX2_makeDirectory_19 zyX2_needFree zm_X2_64 ziX2_needFree zvX2_needFree zclX2 rfl (by decide) rfl rfl (Nat.le_of_ble_eq_true rfl) (Nat.le_of_ble_eq_true rfl) hC.x.1 (ct_X2_needFree hC hv hn hF hU hM) (znd_r (fun hz => ?_)) (znd_x (fun hz => ?_)) (Nat.le_refl _)
      · refine zq_aload_n K dX2_makeDirectory_22 rfl rfl ?_
        refine zq_getI K dX2_makeDirectory_23 zclX2 (k := 1) (by decide) zf_X2_25 rfl hC.x.1 ?_
        refine zq_top hC.x.2.2.1.1 ?_
        refine zq_top (v := nI (D)) hD ?_
        refine zq_istore K dX2_makeDirectory_26 (by decide) ?_
        refine zq_iload K dX2_makeDirectory_28 rfl ?_
        refine zq_bipush K dX2_makeDirectory_30 (v := nI 12) (by decide) ?_
        refine zq_icmp_ltN K (x := D) (y := 12) 45 dX2_makeDirectory_32 (by decide) ⟨by omega, by omega⟩ (fun h32 => ?_) (fun h32 => ?_)
        · rcases h with h | h
          · exact absurd h hz
          · omega
        · exact zq_throw K (text := "there were 12 directories") zthISE (by decide +kernel) dX2_makeDirectory_35 dX2_makeDirectory_38 dX2_makeDirectory_39 dX2_makeDirectory_41 dX2_makeDirectory_44 (by decide) (Nat.le_of_ble_eq_true rfl) (Nat.le_of_ble_eq_true rfl) ⟨rfl, rfl⟩
      · exact zx_out K ⟨rfl, rfl⟩
    · exact absurd ⟨n, by omega, rfl⟩ hn9
  · exact absurd ⟨c, by omega, rfl⟩ hc9
theorem lp_X2_makeDirectory {G : ZG} {E : ZE} (K : zOK mX2_makeDirectory [] G E) {M : ZM} {W : Nat → Nat → Nat} {B : ZA} (hC : zC M W B) (hF : zFr B) {c d n D : Nat} (hv : zVal B 3 d) (hn : n < 50) (hD : B.1 2 = nI D) {P : ZO → ZM → Prop} {b : Nat} (hP : ∀ M', zC M' W (zcn (zsc B 2 (nI (D + 1))) (nI c) d n (-2 - nI D) (nI 0)) → zFm M W B M' → P (.inl (some (.int (nI D)))) M') : WW E G (zyu mX2_makeDirectory) (zQ E G mX2_makeDirectory P) M b 65 [some (.ref (W 10 0)), some (.int (nI c)), some (.int (nI d)), some (.int (nI n)), some (.ref (W 3 d)), some (.int (nI D))] [] := by
  have hS : zFm M W B M := zFm.rf
  refine zq_aload_n K dX2_makeDirectory_65 rfl rfl ?_
  refine zq_dup K dX2_makeDirectory_66 rfl ?_
  refine zq_getI K dX2_makeDirectory_67 zclX2 (k := 1) (by decide) zf_X2_25 rfl hC.x.1 ?_
  refine zq_top hC.x.2.2.1.1 ?_
  refine zq_top (v := nI (D)) hD ?_
  refine zq_iconst K dX2_makeDirectory_70 (v := nI 1) (by decide) ?_
  refine zq_iaddN K (x := D) (y := 1) dX2_makeDirectory_71 ?_
  refine zc_p2_1 K dX2_makeDirectory_72 zf_X2_25 hC hS (fun M hC hS => ?_)
  refine zq_aload_n K dX2_makeDirectory_75 rfl rfl ?_
  refine zq_iload_n K dX2_makeDirectory_76 rfl rfl ?_
  refine zq_aload K dX2_makeDirectory_77 rfl ?_
  refine zq_iload_n K dX2_makeDirectory_79 rfl rfl ?_
  refine zq_bipush K dX2_makeDirectory_80 (v := -2) (by decide) ?_
  refine zq_iload K dX2_makeDirectory_82 rfl ?_
  refine zq_isub K dX2_makeDirectory_84 ?_
  refine zq_top (v := -2 - nI D) rfl ?_
  refine zq_iconst K dX2_makeDirectory_85 (v := nI 0) (by decide) ?_
  refine zq_callV (As := [.int (nI (c)), .ref (W 3 (d)), .int (nI (n)), .int (-2 - nI D), .int (nI (0))]) K dX2_makeDirectory_86 zyX2_changeName zm_X2_75 ziX2_changeName zvX2_changeName zclX2 rfl (by decide) rfl rfl (Nat.le_of_ble_eq_true rfl) (Nat.le_of_ble_eq_true rfl) hC.x.1 (ct_X2_changeName (B := (zsc B 2 (nI (D + 1)))) hC hv hF hn (nI c) (-2 - nI D) (nI 0)) (zCP_r hS (fun _ _ h => h) (fun M hC hS => ?_)) zCP_x (Nat.le_refl _)
  refine zq_iload K dX2_makeDirectory_89 rfl ?_
  exact zq_iret K dX2_makeDirectory_91 rfl (hP _ hC hS)
theorem ct_X2_makeDirectory_ok {G : ZG} {M : ZM} {W : Nat → Nat → Nat} {B : ZA} (hC : zC M W B) (hW : zWf B) {c d n : Nat} (hc : c < 4) (hv : zVal B 3 d) (hn : n < 50) (hM : zMw B) {D : Nat} (hD : B.1 2 = nI D) (hD12 : D ≤ 12) (h : ¬ zBz B d n) (hlt : D < 12) (hl : ¬ B.2 3 D = 1) (hD0 : ¬ D = 0) (hN : zNv B D) (hpu : ∀ j, zVal B 3 j → ¬ j = 0 → zpar B j ≠ D) (hF9 : zFr (zNd B D d (nI n) (-1))) : zMet G mX2_makeDirectory [.ref (W 10 0), .int (nI (c)), .int (nI (d)), .int (nI (n))] M (zCW W M B (some (.int (nI D))) (zcn (zsc (zNd B D d (nI n) (-1)) 2 (nI (D + 1))) (nI c) d n (-2 - nI D) (nI 0))) := by
  refine zbody zyX2_makeDirectory [some (.ref (W 10 0)), some (.int (nI (c))), some (.int (nI (d))), some (.int (nI (n))), none, none] rfl (Nat.le_of_ble_eq_true rfl) (by intro v hv; simp only [List.mem_cons, List.not_mem_nil, or_false] at hv; rcases hv with rfl | rfl | rfl | rfl <;> rfl) (fun E K => ?_)
  obtain ⟨⟨D9, hB⟩, hF, hU⟩ := id hW
  have hS : zFm M W B M := zFm.rf
  refine zq_iload_n K dX2_makeDirectory_0 rfl rfl ?_
  refine zq_callS (As := [.int (nI (c))]) K dX2_makeDirectory_1 zyX2_needClient zm_X2_29 zsX2_needClient rfl (by decide) rfl rfl (Nat.le_of_ble_eq_true rfl) (Nat.le_of_ble_eq_true rfl) (ct_X2_needClient (nI c) M) (znd_r (fun hc9 => ?_)) (znd_x (fun hc9 => ?_)) (Nat.le_refl _)
  · refine zq_iload_n K dX2_makeDirectory_4 rfl rfl ?_
    refine zq_callS (As := [.int (nI (n))]) K dX2_makeDirectory_5 zyX2_needName zm_X2_33 zsX2_needName rfl (by decide) rfl rfl (Nat.le_of_ble_eq_true rfl) (Nat.le_of_ble_eq_true rfl) (ct_X2_needName (nI n) M) (znd_r (fun hn9 => ?_)) (znd_x (fun hn9 => ?_)) (Nat.le_refl _)
    · refine zq_aload_n K dX2_makeDirectory_8 rfl rfl ?_
      refine zq_iload_n K dX2_makeDirectory_9 rfl rfl ?_
      refine zq_callV (As := [.int (nI (d))]) K dX2_makeDirectory_10 zyX2_needDirectory zm_X2_36 ziX2_needDirectory zvX2_needDirectory zclX2 rfl (by decide) rfl rfl (Nat.le_of_ble_eq_true rfl) (Nat.le_of_ble_eq_true rfl) hC.x.1 (ct_X2_needDirectory_1 hC hv) (zone_r ?_) zone_x (Nat.le_refl _)
      refine zq_astore K dX2_makeDirectory_13 (by decide) ?_
      refine zq_aload_n K dX2_makeDirectory_15 rfl rfl ?_
      refine zq_aload K dX2_makeDirectory_16 rfl ?_
      refine zq_iload_n K dX2_makeDirectory_18 rfl rfl ?_
      refine zq_callV (As := [.ref (W 3 d), .int (nI (n))]) K dX2_makeDirectory_19 zyX2_needFree zm_X2_64 ziX2_needFree zvX2_needFree zclX2 rfl (by decide) rfl rfl (Nat.le_of_ble_eq_true rfl) (Nat.le_of_ble_eq_true rfl) hC.x.1 (ct_X2_needFree hC hv hn hF hU hM) (znd_r (fun hz => ?_)) (znd_x (fun hz => ?_)) (Nat.le_refl _)
      · refine zq_aload_n K dX2_makeDirectory_22 rfl rfl ?_
        refine zq_getI K dX2_makeDirectory_23 zclX2 (k := 1) (by decide) zf_X2_25 rfl hC.x.1 ?_
        refine zq_top hC.x.2.2.1.1 ?_
        refine zq_top (v := nI (D)) hD ?_
        refine zq_istore K dX2_makeDirectory_26 (by decide) ?_
        refine zq_iload K dX2_makeDirectory_28 rfl ?_
        refine zq_bipush K dX2_makeDirectory_30 (v := nI 12) (by decide) ?_
        refine zq_icmp_ltN K (x := D) (y := 12) 45 dX2_makeDirectory_32 (by decide) ⟨by omega, by omega⟩ (fun h32 => ?_) (fun h32 => by omega)
        refine zq_aload_n K dX2_makeDirectory_45 rfl rfl ?_
        refine zq_getRs K dX2_makeDirectory_46 zclX2 (k := 0) (by decide) zf_X2_11 rfl hC.x.1 hC.x.2.1.1 ?_
        refine zq_iload K dX2_makeDirectory_49 rfl ?_
        refine zq_new K dX2_makeDirectory_51 zclX0 zc_X2_9 (by decide) (by decide) (Nat.le_of_ble_eq_true rfl) (Nat.le_refl _) (fun a9 ha9 => ?_)
        refine zq_dup K dX2_makeDirectory_54 rfl ?_
        refine zq_iload K dX2_makeDirectory_55 rfl ?_
        refine zq_aload K dX2_makeDirectory_57 rfl ?_
        refine zq_iload_n K dX2_makeDirectory_59 rfl rfl ?_
        refine zq_iconst K dX2_makeDirectory_60 (v := -1) (by decide) ?_
        refine zq_callI (As := [.int (nI (D)), .ref (W 3 d), .int (nI (n)), .int (-1)]) K dX2_makeDirectory_61 zyX0_init rfl rfl zm_X2_22 ziX0_init (by decide) rfl rfl (Nat.le_of_ble_eq_true rfl) (Nat.le_of_ble_eq_true rfl) (ct_X0_init_1 (show zk (zw M a9 1 0) a9 = 1 from by rw [zk_w, if_pos rfl]) D (W 3 d) (nI n) (-1)) (zPP_r (fun M9 h9 => ?_)) zPP_x (Nat.le_refl _)
        obtain ⟨nu, hdi⟩ := h9
        have n0 : ∀ i j, zVal B i j → W i j ≠ a9 := fun i j h e => hC.nz h (e ▸ ha9)
        have s0 : zsame M M9 (W 0 0) := (zsame.w (n0 0 0 ⟨by decide, rfl⟩)).tr (hdi.1.2.2 (W 0 0) (by rw [zk_w, if_neg (n0 0 0 ⟨by decide, rfl⟩)]; exact hC.nz (i := 0) (j := 0) ⟨by decide, rfl⟩) (n0 0 0 ⟨by decide, rfl⟩))
        have hvd : ¬ d = D := fun e => hl (e ▸ hv.2)
        refine zq_aast K D dX2_makeDirectory_64 zclX0 (s0.1.trans hC.dirs.1) ⟨rfl, by decide⟩ hdi.2.1.1 rfl (by rw [s0.2.1, hC.dirs.2.1]; exact hlt) (by rw [s0.2.1, hC.dirs.2.1]; decide) ?_
        obtain ⟨hC2, hS2, hW2⟩ := hC.new hM hlt hl ha9 hdi (Or.inr ⟨hD0, hv, rfl⟩) hN hpu
        have hv2 : zVal (zNd B D d (nI n) (-1)) 3 d := ⟨hv.1, by rw [zNd_3, if_neg hvd]; exact hv.2⟩
        have e10 : zWn W a9 nu D 10 0 = W 10 0 := rfl
        have e3 : zWn W a9 nu D 3 d = W 3 d := if_neg hvd
        rw [← e10, ← e3]
        refine lp_X2_makeDirectory (W := zWn W a9 nu D) (B := (zNd B D d (nI n) (-1))) K hC2 hF9 hv2 hn (by rw [zNd_1]; exact hD) (fun M9 hC9 hS9 => ?_)
        exact ⟨rfl, zWn W a9 nu D, hC9, hS2.trW hS9 hW2, e10, fun i j hij => hW2 i j (zVal.scx.mp (zcn_val.mp hij))⟩
      · exact absurd h hz
    · exact absurd ⟨n, by omega, rfl⟩ hn9
  · exact absurd ⟨c, by omega, rfl⟩ hc9
end
section
/-! the class: a new one -/
/-- the state at the beginning, with no directory yet -/
def zBz0 : ZA := zsc (zNs 600) 2 0
theorem zNs_1 : ∀ k, (zNs k).1 = (zsc zA1 16 (-1)).1
  | 0 => rfl
  | k + 1 => zNs_1 k
theorem zNs_n {i : Nat} (h : i ≠ 6) (j : Nat) : ∀ k, (zNs k).2 i j = 0
  | 0 => rfl
  | k + 1 => by rw [zNs, zsa_n _ _ _ _ _ h]; exact zNs_n h j k
theorem zNs_6 (j : Nat) : ∀ k, (zNs k).2 6 j = if j < k then -1 else 0
  | 0 => by rw [if_neg (by omega)]; rfl
  | k + 1 => by
    rw [zNs, zsa_2]
    by_cases e : j = k
    · rw [if_pos ⟨rfl, e⟩, if_pos (by omega)]
    · rw [if_neg (fun z => e z.2), zNs_6 j k]
      exact ite_congr (propext (by omega)) (fun _ => rfl) (fun _ => rfl)
/-- the first addresses -/
def zW0 (c a1 a2 a3 : Nat) (i _j : Nat) : Nat := match i with
  | 0 => a1
  | 1 => a2
  | 2 => a3
  | _ => c
theorem zC.zero {M : ZM} {c a1 a2 a3 : Nat} (h1 : zk M a1 = 8 ∧ zn M a1 = 12 ∧ ∀ d, d < 12 → zr M a1 d = none) (h2 : zk M a2 = 5 ∧ zn M a2 = 4 ∧ ∀ j, j < 4 → zi M a2 j = 0) (h3 : zk M a3 = 5 ∧ zn M a3 = 4 ∧ ∀ j, j < 4 → zi M a3 j = 0) (hc : zk M c = 3 ∧ (zr M c 0 = some a1 ∧ zr M c 5 = some a2 ∧ zr M c 6 = some a3) ∧ (∀ j, zi M c j = 0) ∧ zr M c 7 = none) (h23 : a2 ≠ a3) : zC M (zW0 c a1 a2 a3) zBz0 := by
  have hn : ∀ i j, i ≠ 6 → zBz0.2 i j = 0 := fun i j h => zNs_n h j 600
  have h30 : ∀ j, ¬ zBz0.2 3 j = 1 := fun j e => absurd ((hn 3 j (by decide)).symm.trans e) (by decide)
  have hg : ∀ k, zBz0.1 k = (if k = 2 then 0 else (if k = 16 then -1 else if k = 2 then 1 else 0)) := fun k => by
    show (if k = 2 then 0 else (zNs 600).1 k) = _
    rw [zNs_1]
    rfl
  have hs : ∀ k, k ≠ 16 → zBz0.1 k = 0 := fun k hk => by
    rw [hg]
    by_cases e : k = 2
    · rw [if_pos e]
    · rw [if_neg e, if_neg hk, if_neg e]
  have hs16 : zBz0.1 16 = -1 := (hg 16).trans (by decide)
  have hv : ∀ i j, zVal zBz0 i j → (i = 0 ∨ i = 1 ∨ i = 2 ∨ i = 10) ∧ j = 0 := fun i j h => by
    unfold zVal at h
    split at h
    · exact absurd h.2 (h30 _)
    · exact absurd h.2 (h30 _)
    · exact absurd h.2 (h30 _)
    · exact absurd h.2 (h30 _)
    · exact absurd h.2 (h30 _)
    · exact absurd h.2 (h30 _)
    · exact absurd h.2.1 (h30 _)
    · rename_i g1 g2 g3 g4 g5 g6 g7
      have k1 : i ≠ 3 := g1
      have k2 : i ≠ 4 := g2
      have k3 : i ≠ 5 := g3
      have k4 : i ≠ 6 := g4
      have k5 : i ≠ 7 := g5
      have k6 : i ≠ 8 := g6
      have k7 : i ≠ 9 := g7
      exact ⟨by omega, h.2⟩
  refine ⟨fun i j h => ?_, fun i j i' j' g1 g2 e => ?_⟩
  · obtain ⟨hi, rfl⟩ := hv i j h
    rcases hi with rfl | rfl | rfl | rfl
    · exact ⟨h1.1, h1.2.1, fun d hd => by rw [if_neg (h30 d)]; exact h1.2.2 d hd⟩
    · exact ⟨h2.1, h2.2.1, fun d hd => (h2.2.2 d hd).trans (hn 14 d (by decide)).symm⟩
    · exact ⟨h3.1, h3.2.1, fun d hd => (h3.2.2 d hd).trans (hn 15 d (by decide)).symm⟩
    · refine ⟨hc.1, hc.2.1, ⟨?_, ?_, ?_, ?_, ?_, ?_⟩, ?_⟩
      · exact (hc.2.2.1 1).trans (hs 2 (by decide)).symm
      · exact (hc.2.2.1 2).trans (hs 9 (by decide)).symm
      · exact (hc.2.2.1 3).trans (hs 8 (by decide)).symm
      · exact (hc.2.2.1 4).trans (hs 1 (by decide)).symm
      · exact (hc.2.2.1 8).trans (hs 17 (by decide)).symm
      · exact (hc.2.2.1 9).trans (hs 18 (by decide)).symm
      · rw [if_pos hs16]
        exact hc.2.2.2
  · obtain ⟨hi, rfl⟩ := hv i j g1
    obtain ⟨hi', rfl⟩ := hv i' j' g2
    have k1 : ∀ x y : Nat, zk M x ≠ zk M y → x ≠ y := fun x y h e => h (e ▸ rfl)
    have n12 : a1 ≠ a2 := k1 _ _ (by rw [h1.1, h2.1]; decide)
    have n13 : a1 ≠ a3 := k1 _ _ (by rw [h1.1, h3.1]; decide)
    have n1c : a1 ≠ c := k1 _ _ (by rw [h1.1, hc.1]; decide)
    have n2c : a2 ≠ c := k1 _ _ (by rw [h2.1, hc.1]; decide)
    have n3c : a3 ≠ c := k1 _ _ (by rw [h3.1, hc.1]; decide)
    refine ⟨?_, rfl⟩
    rcases hi with rfl | rfl | rfl | rfl <;> rcases hi' with rfl | rfl | rfl | rfl <;> first | rfl | exact absurd e n12 | exact absurd e n13 | exact absurd e n1c | exact absurd e n12.symm | exact absurd e h23 | exact absurd e n2c | exact absurd e n13.symm | exact absurd e h23.symm | exact absurd e n3c | exact absurd e n1c.symm | exact absurd e n2c.symm | exact absurd e n3c.symm
end
section
/-- the class at its beginning -/
def zB0 : ZA := zsc (zNd zBz0 0 0 (nI 0) (nI 0)) 2 (nI 1)
/-- .. a new one at c -/
def zPC (M : ZM) (c : Nat) (M' : ZM) : Prop := ∃ W : Nat → Nat → Nat, zC M' W zB0 ∧ W 10 0 = c ∧ (∀ i j, zVal zB0 i j → ¬ i = 10 → zk M (W i j) = 0) ∧ ∀ y, ¬ zk M y = 0 → y ≠ c → zsame M M' y
theorem zBz0_n {i : Nat} (h : i ≠ 6) (j : Nat) : zBz0.2 i j = 0 := zNs_n h j 600
theorem zBz0_6 {i : Nat} (hi : i = 6) (j : Nat) : zBz0.2 i j = if j < 600 then -1 else 0 := by
  show (zNs 600).2 i j = _
  rw [hi, zNs_6]
theorem zBz0_1 (k : Nat) : zBz0.1 k = (if k = 2 then 0 else (if k = 16 then -1 else if k = 2 then 1 else 0)) := by
  show (if k = 2 then 0 else (zNs 600).1 k) = _
  rw [zNs_1]
  rfl
theorem zBz0_3 (j : Nat) : ¬ zBz0.2 3 j = 1 := fun e => by
  rw [zBz0_n (by decide)] at e
  exact absurd e (by decide)
theorem zBz0_v {i j : Nat} (h : zVal zBz0 i j) : (i = 0 ∨ i = 1 ∨ i = 2 ∨ i = 10) ∧ j = 0 := by
  unfold zVal at h
  split at h
  · exact absurd h.2 (zBz0_3 _)
  · exact absurd h.2 (zBz0_3 _)
  · exact absurd h.2 (zBz0_3 _)
  · exact absurd h.2 (zBz0_3 _)
  · exact absurd h.2 (zBz0_3 _)
  · exact absurd h.2 (zBz0_3 _)
  · exact absurd h.2.1 (zBz0_3 _)
  · rename_i g1 g2 g3 g4 g5 g6 g7
    have k1 : i ≠ 3 := g1
    have k2 : i ≠ 4 := g2
    have k3 : i ≠ 5 := g3
    have k4 : i ≠ 6 := g4
    have k5 : i ≠ 7 := g5
    have k6 : i ≠ 8 := g6
    have k7 : i ≠ 9 := g7
    exact ⟨by omega, h.2⟩
theorem zNv0 : zNv zBz0 0 := fun k hk => ⟨by
  rw [zBz0_6 rfl, if_pos (by omega)], zBz0_n (by decide) _, fun c _ => zBz0_n (by decide) _⟩
theorem ct_X2_init {G : ZG} {M : ZM} {c : Nat} (hx : zk M c = 3) (hz : ∀ j, zi M c j = 0) (hr : ∀ j, zr M c j = none) : zMet G mX2_init [.ref (c)] M (zPP (zPC M c) none) := by
  refine zbody zyX2_init [some (.ref (c))] rfl (Nat.le_of_ble_eq_true rfl) (by intro v hv; simp only [List.mem_cons, List.not_mem_nil, or_false] at hv; rcases hv with rfl <;> rfl) (fun E K => ?_)
  refine zq_aload_n K dX2_init_0 rfl rfl ?_
  refine zq_objInit K dX2_init_1 zm_X2_1 (zt 31 (by decide +kernel) rfl) (zt 32 (by decide +kernel) rfl) (Nat.le_of_ble_eq_true rfl) (by decide) ?_
  refine zq_aload_n K dX2_init_4 rfl rfl ?_
  refine zq_bipush K dX2_init_5 (v := nI 12) (by decide) ?_
  refine zq_anewD K dX2_init_7 zc_X2_9 (by decide) (Nat.le_refl _) (fun a1 ha1 => ?_)
  have n_a1_c : a1 ≠ c := fun e => by rw [e, hx] at ha1; exact absurd ha1 (by decide)
  have kc1 : zk (zw M a1 8 12) c = 3 := by rw [zk_w, if_neg n_a1_c.symm]; exact hx
  refine zq_putRs K dX2_init_10 zclX2 (k := 0) (by decide) zf_X2_11 (Or.inr ⟨rfl, rfl⟩) (fun r => by cases r <;> exact ⟨rfl, rfl⟩) rfl kc1 ?_
  refine zq_aload_n K dX2_init_13 rfl rfl ?_
  refine zq_iconst K dX2_init_14 (v := nI 4) (by decide) ?_
  refine zq_newI K (4) 1 dX2_init_15 (by decide) ⟨by decide, by decide, by decide⟩ (Nat.le_refl _) (fun a2 ha2 => ?_)
  rw [zk_r, zk_w] at ha2
  have n_a2_a1 : a2 ≠ a1 := fun e => by rw [if_pos e] at ha2; exact absurd ha2 (by decide)
  rw [if_neg n_a2_a1] at ha2
  have n_a2_c : a2 ≠ c := fun e => by rw [e, hx] at ha2; exact absurd ha2 (by decide)
  have kc2 : zk (zw (zsr (zw M a1 8 12) c 0 (some a1)) a2 5 4) c = 3 := by rw [zk_w, if_neg n_a2_c.symm]; exact kc1
  refine zq_putRs K dX2_init_17 zclX2 (k := 5) (by decide) zf_X2_15 (Or.inr ⟨rfl, rfl⟩) (fun r => by cases r <;> exact ⟨rfl, rfl⟩) rfl kc2 ?_
  refine zq_aload_n K dX2_init_20 rfl rfl ?_
  refine zq_iconst K dX2_init_21 (v := nI 4) (by decide) ?_
  refine zq_newI K (4) 1 dX2_init_22 (by decide) ⟨by decide, by decide, by decide⟩ (Nat.le_refl _) (fun a3 ha3 => ?_)
  rw [zk_r, zk_w] at ha3
  have n_a3_a2 : a3 ≠ a2 := fun e => by rw [if_pos e] at ha3; exact absurd ha3 (by decide)
  rw [if_neg n_a3_a2, zk_r, zk_w] at ha3
  have n_a3_a1 : a3 ≠ a1 := fun e => by rw [if_pos e] at ha3; exact absurd ha3 (by decide)
  rw [if_neg n_a3_a1] at ha3
  have n_a3_c : a3 ≠ c := fun e => by rw [e, hx] at ha3; exact absurd ha3 (by decide)
  have kc3 : zk (zw (zsr (zw (zsr (zw M a1 8 12) c 0 (some a1)) a2 5 4) c 5 (some a2)) a3 5 4) c = 3 := by rw [zk_w, if_neg n_a3_c.symm]; exact kc2
  refine zq_putRs K dX2_init_24 zclX2 (k := 6) (by decide) zf_X2_19 (Or.inr ⟨rfl, rfl⟩) (fun r => by cases r <;> exact ⟨rfl, rfl⟩) rfl kc3 ?_
  have q1 : zk (zsr (zw (zsr (zw (zsr (zw M a1 8 12) c 0 (some a1)) a2 5 4) c 5 (some a2)) a3 5 4) c 6 (some a3)) a1 = 8 ∧ zn (zsr (zw (zsr (zw (zsr (zw M a1 8 12) c 0 (some a1)) a2 5 4) c 5 (some a2)) a3 5 4) c 6 (some a3)) a1 = 12 ∧ ∀ d, d < 12 → zr (zsr (zw (zsr (zw (zsr (zw M a1 8 12) c 0 (some a1)) a2 5 4) c 5 (some a2)) a3 5 4) c 6 (some a3)) a1 d = none := ⟨by rw [zk_r, zk_w, if_neg n_a3_a1.symm, zk_r, zk_w, if_neg n_a2_a1.symm, zk_r, zk_w, if_pos rfl], by rw [zn_r, zn_w, if_neg n_a3_a1.symm, zn_r, zn_w, if_neg n_a2_a1.symm, zn_r, zn_w, if_pos rfl], fun d _ => by rw [zr_r, if_neg (fun z => n_a1_c z.1), zr_w, if_neg n_a3_a1.symm, zr_r, if_neg (fun z => n_a1_c z.1), zr_w, if_neg n_a2_a1.symm, zr_r, if_neg (fun z => n_a1_c z.1), zr_w, if_pos rfl]⟩
  have q2 : zk (zsr (zw (zsr (zw (zsr (zw M a1 8 12) c 0 (some a1)) a2 5 4) c 5 (some a2)) a3 5 4) c 6 (some a3)) a2 = 5 ∧ zn (zsr (zw (zsr (zw (zsr (zw M a1 8 12) c 0 (some a1)) a2 5 4) c 5 (some a2)) a3 5 4) c 6 (some a3)) a2 = 4 ∧ ∀ j, j < 4 → zi (zsr (zw (zsr (zw (zsr (zw M a1 8 12) c 0 (some a1)) a2 5 4) c 5 (some a2)) a3 5 4) c 6 (some a3)) a2 j = 0 := ⟨by rw [zk_r, zk_w, if_neg n_a3_a2.symm, zk_r, zk_w, if_pos rfl], by rw [zn_r, zn_w, if_neg n_a3_a2.symm, zn_r, zn_w, if_pos rfl], fun d _ => by rw [zi_r, zi_w, if_neg n_a3_a2.symm, zi_r, zi_w, if_pos rfl]⟩
  have q3 : zk (zsr (zw (zsr (zw (zsr (zw M a1 8 12) c 0 (some a1)) a2 5 4) c 5 (some a2)) a3 5 4) c 6 (some a3)) a3 = 5 ∧ zn (zsr (zw (zsr (zw (zsr (zw M a1 8 12) c 0 (some a1)) a2 5 4) c 5 (some a2)) a3 5 4) c 6 (some a3)) a3 = 4 ∧ ∀ j, j < 4 → zi (zsr (zw (zsr (zw (zsr (zw M a1 8 12) c 0 (some a1)) a2 5 4) c 5 (some a2)) a3 5 4) c 6 (some a3)) a3 j = 0 := ⟨by rw [zk_r, zk_w, if_pos rfl], by rw [zn_r, zn_w, if_pos rfl], fun d _ => by rw [zi_r, zi_w, if_pos rfl]⟩
  have wc : ∀ k, zr (zsr (zw (zsr (zw (zsr (zw M a1 8 12) c 0 (some a1)) a2 5 4) c 5 (some a2)) a3 5 4) c 6 (some a3)) c k = if k = 6 then some a3 else if k = 5 then some a2 else if k = 0 then some a1 else none := fun k => by
    rw [zr_r, zr_w, if_neg n_a3_c.symm, zr_r, zr_w, if_neg n_a2_c.symm, zr_r, zr_w, if_neg n_a1_c.symm, hr]
    simp only [true_and]
  have q4 : zk (zsr (zw (zsr (zw (zsr (zw M a1 8 12) c 0 (some a1)) a2 5 4) c 5 (some a2)) a3 5 4) c 6 (some a3)) c = 3 ∧ (zr (zsr (zw (zsr (zw (zsr (zw M a1 8 12) c 0 (some a1)) a2 5 4) c 5 (some a2)) a3 5 4) c 6 (some a3)) c 0 = some a1 ∧ zr (zsr (zw (zsr (zw (zsr (zw M a1 8 12) c 0 (some a1)) a2 5 4) c 5 (some a2)) a3 5 4) c 6 (some a3)) c 5 = some a2 ∧ zr (zsr (zw (zsr (zw (zsr (zw M a1 8 12) c 0 (some a1)) a2 5 4) c 5 (some a2)) a3 5 4) c 6 (some a3)) c 6 = some a3) ∧ (∀ j, zi (zsr (zw (zsr (zw (zsr (zw M a1 8 12) c 0 (some a1)) a2 5 4) c 5 (some a2)) a3 5 4) c 6 (some a3)) c j = 0) ∧ zr (zsr (zw (zsr (zw (zsr (zw M a1 8 12) c 0 (some a1)) a2 5 4) c 5 (some a2)) a3 5 4) c 6 (some a3)) c 7 = none := ⟨kc3, ⟨(wc 0).trans rfl, (wc 5).trans rfl, (wc 6).trans rfl⟩, fun j => by rw [zi_r, zi_w, if_neg n_a3_c.symm, zi_r, zi_w, if_neg n_a2_c.symm, zi_r, zi_w, if_neg n_a1_c.symm]; exact hz j, (wc 7).trans rfl⟩
  have s6 : ∀ y, ¬ zk M y = 0 → y ≠ c → zsame M (zsr (zw (zsr (zw (zsr (zw M a1 8 12) c 0 (some a1)) a2 5 4) c 5 (some a2)) a3 5 4) c 6 (some a3)) y := fun y h1 h2 => (((((zsame.w (fun e : y = a1 => h1 (e ▸ ha1))).tr (zsame.r h2)).tr (zsame.w (fun e : y = a2 => h1 (e ▸ ha2)))).tr (zsame.r h2)).tr (zsame.w (fun e : y = a3 => h1 (e ▸ ha3)))).tr (zsame.r h2)
  generalize (zsr (zw (zsr (zw (zsr (zw M a1 8 12) c 0 (some a1)) a2 5 4) c 5 (some a2)) a3 5 4) c 6 (some a3)) = M6 at *
  have hC0 := zC.zero q1 q2 q3 q4 n_a3_a2.symm
  refine zq_aload_n K dX2_init_27 rfl rfl ?_
  refine zq_getRs K dX2_init_28 zclX2 (k := 0) (by decide) zf_X2_11 rfl q4.1 q4.2.1.1 ?_
  refine zq_iconst K dX2_init_31 (v := nI 0) (by decide) ?_
  refine zq_new K dX2_init_32 zclX0 zc_X2_9 (by decide) (by decide) (Nat.le_of_ble_eq_true rfl) (Nat.le_refl _) (fun a9 ha9 => ?_)
  refine zq_dup K dX2_init_35 rfl ?_
  refine zq_iconst K dX2_init_36 (v := nI 0) (by decide) ?_
  refine zq_null K dX2_init_37 ?_
  refine zq_iconst K dX2_init_38 (v := nI 0) (by decide) ?_
  refine zq_iconst K dX2_init_39 (v := nI 0) (by decide) ?_
  refine zq_callI (As := [.int (nI (0)), .null, .int (nI (0)), .int (nI (0))]) K dX2_init_40 zyX0_init rfl rfl zm_X2_22 ziX0_init (by decide) rfl rfl (Nat.le_of_ble_eq_true rfl) (Nat.le_of_ble_eq_true rfl) (ct_X0_init_0 (show zk (zw M6 a9 1 0) a9 = 1 from by rw [zk_w, if_pos rfl]) 0 (nI 0) (nI 0)) (zPP_r (fun M8 h8 => ?_)) zPP_x (Nat.le_refl _)
  obtain ⟨nu, hdi⟩ := h8
  have n9 : a1 ≠ a9 := fun e => by have := q1.1; rw [e, ha9] at this; exact absurd this (by decide)
  have s0 : zsame M6 M8 a1 := (zsame.w n9).tr (hdi.1.2.2 a1 (by rw [zk_w, if_neg n9, q1.1]; decide) n9)
  refine zq_aast K 0 dX2_init_43 zclX0 (s0.1.trans q1.1) ⟨rfl, by decide⟩ hdi.2.1.1 rfl (by rw [s0.2.1, q1.2.1]; decide) (by rw [s0.2.1, q1.2.1]; decide) ?_
  have g30 : ¬ zBz0.2 3 0 = 1 := zBz0_3 0
  have gm : zMw zBz0 := Or.inl ((zBz0_1 16).trans (by decide))
  obtain ⟨hC2, hS2, hW2⟩ := hC0.new (p := 0) (D := 0) gm (by decide) g30 ha9 hdi (Or.inl ⟨rfl, rfl⟩) zNv0 (fun j hj h0 => absurd hj.2 (zBz0_3 j))
  refine zq_aload_n K dX2_init_44 rfl rfl ?_
  refine zq_iconst K dX2_init_45 (v := nI 1) (by decide) ?_
  refine zc_p2_1 (W := zWn (zW0 c a1 a2 a3) a9 nu 0) (B0 := zNd zBz0 0 0 (nI 0) (nI 0)) (v := nI 1) K dX2_init_46 zf_X2_25 hC2 zFm.rf (fun M9 hC9 hS9 => ?_)
  refine zq_ret K dX2_init_49 rfl ⟨rfl, zWn (zW0 c a1 a2 a3) a9 nu 0, hC9, rfl, fun i j hv hi => ?_, fun y h1 h2 => ?_⟩
  · have hv2 := zVal.scx.mp hv
    have hfm : ∀ z, zk M6 z = 0 → zk M z = 0 := fun z hz => by
      by_cases e : zk M z = 0
      · exact e
      · by_cases ec : z = c
        · rw [ec, q4.1] at hz; exact absurd hz (by decide)
        · rw [(s6 z e ec).1] at hz; exact absurd hz e
    rcases hW2 i j hv2 with ⟨g1, g2⟩ | g
    · rw [g2]
      obtain ⟨k1, rfl⟩ := zBz0_v g1
      rcases k1 with rfl | rfl | rfl | rfl
      · exact ha1
      · exact ha2
      · exact ha3
      · exact absurd rfl hi
    · exact hfm _ g
  · have h6 := s6 y h1 h2
    have y6 : ¬ zk M6 y = 0 := by rw [h6.1]; exact h1
    have yo : ∀ i j, zVal zBz0 i j → y ≠ zW0 c a1 a2 a3 i j := fun i j g1 => by
      obtain ⟨k1, rfl⟩ := zBz0_v g1
      rcases k1 with rfl | rfl | rfl | rfl
      · exact fun e => h1 (e ▸ ha1)
      · exact fun e => h1 (e ▸ ha2)
      · exact fun e => h1 (e ▸ ha3)
      · exact h2
    exact h6.tr ((hS2.trW hS9 hW2) y y6 yo)
end
section
/-! the two states side by side -/
theorem zMetC.mono {G : ZG} {cd : Cond} {t : ZY} {As : List Value} {M : ZM} {P P' : ZO → ZM → Prop} (h : ∀ o M', P o M' → P' o M') (hM : zMetC G cd t As M P) : zMetC G cd t As M P' := by
  intro p e h1 h2 h3 s m args below h4 h5 h6 h7
  obtain ⟨n, o, a1, a2, a3, a4⟩ := hM p e h1 h2 h3 s m args below h4 h5 h6 h7
  refine ⟨n, o, a1, a2, a3, ?_⟩
  rcases a4 with ⟨⟨v, M', b1, b2, b3, b4⟩, b5⟩ | ⟨q, c1, E, ce, L, ⟨M', d1, d2, d3⟩, d4⟩
  · exact Or.inl ⟨⟨v, M', b1, h _ _ b2, b3, b4⟩, b5⟩
  · exact Or.inr ⟨q, c1, E, ce, L, ⟨M', h _ _ d1, d2, d3⟩, d4⟩
section ZSA
variable {A B C : ZA}
/-- the states of both: alike but in ages and ends of leases -/
def zAg (A B : ZA) : Prop := B.1 = A.1 ∧ ∀ i, i ≠ 7 → i ≠ 13 → B.2 i = A.2 i
theorem zAg.k (h : zAg A B) (i : Nat) (hi : i ≠ 7 ∧ i ≠ 13) : B.2 i = A.2 i := h.2 i hi.1 hi.2
theorem zAg.fn (h : zAg A B) (d n : Nat) : zfn B d n = zfn A d n := by unfold zfn; rw [h.k 10 (by decide)]
theorem zAg.par (h : zAg A B) (d : Nat) : zpar B d = zpar A d := by unfold zpar; rw [h.k 4 (by decide)]
theorem zAg.nam (h : zAg A B) (d : Nat) : znam B d = znam A d := by unfold znam; rw [h.k 5 (by decide)]
theorem zAg.inh (h : zAg A B) (f : Nat) : zinh B f = zinh A f := by unfold zinh; rw [h.fn, h.par, h.nam]
theorem zAg.fzN (h : zAg A B) : ∀ (k f : Nat), zfzN B k f = zfzN A k f
  | 0, _ => rfl
  | k + 1, f => by
    rw [zfzN, zfzN, h.1, h.k 11 (by decide), h.inh, h.fzN k]
theorem zAg.fz (h : zAg A B) (f : Nat) : zfz B f = zfz A f := h.fzN 12 f
theorem zAg.svN (h : zAg A B) : ∀ (k f : Nat), zsvN B k f = zsvN A k f
  | 0, _ => rfl
  | k + 1, f => by
    rw [zsvN, zsvN, h.k 11 (by decide), h.inh, h.svN k]
theorem zAg.sv (h : zAg A B) (f : Nat) : zsv B f = zsv A f := h.svN 12 f
theorem zAg.up (h : zAg A B) (d : Nat) : zUp B d ↔ zUp A d := by
  unfold zUp
  rw [h.par, h.nam, h.k 3 (by decide), h.k 4 (by decide), h.k 5 (by decide)]
theorem zAg.dp (h : zAg A B) : ∀ (k d : Nat), zDp B k d ↔ zDp A k d
  | 0, _ => Iff.rfl
  | k + 1, d => by
    rw [zDp, zDp, h.up, h.par, h.dp k]
theorem zAg.fr (h : zAg A B) (g : zFr A) : zFr B := by
  unfold zFr
  rw [h.k 3 (by decide), h.k 10 (by decide), h.k 11 (by decide)]
  exact g
theorem zAg.wf (h : zAg A B) (g : zWf A) : zWf B := by
  refine ⟨?_, h.fr g.2.1, fun d h1 h2 => ?_⟩
  · obtain ⟨D, g1⟩ := g.1
    refine ⟨D, ?_⟩
    unfold zBas
    rw [h.1, h.k 3 (by decide)]
    exact g1
  · rw [h.k 3 (by decide)] at h2
    exact (h.dp 11 d).mpr (g.2.2 d h1 h2)
theorem zAg.bz (h : zAg A B) (d n : Nat) : zBz B d n ↔ zBz A d n := by
  unfold zBz
  rw [h.k 6 (by decide), h.fn, h.fz]
theorem zAg.isD (h : zAg A B) (d : Int32) : zIsD B d ↔ zIsD A d := by
  unfold zIsD
  rw [h.k 3 (by decide)]
theorem zAg.bad (h : zAg A B) {c d n : Int32} {k : Nat} (g : zBad A c d n k) : zBad B c d n k := by
  unfold zBad
  rw [h.isD]
  exact g
theorem zAg.bh (h : zAg A B) {l : Nat} {d n : Int32} {k : Nat} (g : zBh A l d n k) : zBh B l d n k := by
  unfold zBh
  rw [h.isD]
  exact g
theorem zAg.pu (h : zAg A B) (d : Nat) : zpu B d = zpu A d := by
  unfold zpu
  rw [h.k 6 (by decide)]
theorem zAg.hd (h : zAg A B) (d : Nat) : zHd B d ↔ zHd A d := by
  unfold zHd
  rw [h.pu, h.1]
theorem zAg.bl (h : zAg A B) : ∀ (k d e : Nat), zblN B k d e = zblN A k d e
  | 0, _, _ => rfl
  | k + 1, d, e => by
    rw [zblN, zblN, h.par, h.bl k]
theorem zAg.val (h : zAg A B) {i j : Nat} : zVal B i j ↔ zVal A i j := zVal.cg (h.k 3 (by decide)) (h.k 10 (by decide))
theorem zAg.of (h1 : B.1 = A.1) (h : ∀ i, i ≠ 7 → i ≠ 13 → ∀ j, B.2 i j = A.2 i j) : zAg A B := ⟨h1, fun i h2 h3 => funext (h i h2 h3)⟩
theorem zAg.rf : zAg A A := ⟨rfl, fun _ _ _ => rfl⟩
theorem zAg.tr (h : zAg A B) (g : zAg B C) : zAg A C := ⟨g.1.trans h.1, fun i h1 h2 => (g.2 i h1 h2).trans (h.2 i h1 h2)⟩
theorem zAg.sy (h : zAg A B) : zAg B A := ⟨h.1.symm, fun i h1 h2 => (h.2 i h1 h2).symm⟩
theorem zAg.sc (h : zAg A B) (k : Nat) (v : Int32) : zAg (zsc A k v) (zsc B k v) := ⟨by unfold zsc; rw [h.1], h.2⟩
theorem zAg.sa (h : zAg A B) (k j : Nat) (v : Int32) : zAg (zsa A k j v) (zsa B k j v) := zAg.of h.1 (fun i h1 h2 x => by rw [zsa_2, zsa_2, h.2 i h1 h2])
theorem zAg.r7 (h : zAg A B) (j : Nat) (v : Int32) : zAg A (zsa B 7 j v) := ⟨h.1, fun i h1 h2 => by rw [zsa_n _ _ _ _ _ h1]; exact h.2 i h1 h2⟩
theorem zAg.r13 (h : zAg A B) (j : Nat) (v : Int32) : zAg A (zsa B 13 j v) := ⟨h.1, fun i h1 h2 => by rw [zsa_n _ _ _ _ _ h2]; exact h.2 i h1 h2⟩
theorem zAg.l7 (h : zAg A B) (j : Nat) (v : Int32) : zAg (zsa A 7 j v) B := (h.sy.r7 j v).sy
theorem zAg.l13 (h : zAg A B) (j : Nat) (v : Int32) : zAg (zsa A 13 j v) B := (h.sy.r13 j v).sy
/-! updates commute -/
theorem zsa_cm (A : ZA) {i i' : Nat} (hi : i ≠ i') (j j' : Nat) (v v' : Int32) : zsa (zsa A i j v) i' j' v' = zsa (zsa A i' j' v') i j v := by
  refine Prod.ext rfl (funext fun k => funext fun x => ?_)
  rw [zsa_2, zsa_2, zsa_2, zsa_2]
  by_cases h1 : k = i' ∧ x = j'
  · rw [if_pos h1, if_neg (fun h2 => hi (h2.1.symm.trans h1.1)), if_pos h1]
  · rw [if_neg h1, if_neg h1]
theorem zsa_sc (A : ZA) (k i j : Nat) (v w : Int32) : zsa (zsc A k v) i j w = zsc (zsa A i j w) k v := rfl
theorem zsc_cm (A : ZA) {i i' : Nat} (hi : i ≠ i') (v v' : Int32) : zsc (zsc A i v) i' v' = zsc (zsc A i' v') i v := by
  refine Prod.ext (funext fun k => ?_) rfl
  rw [zsc_1, zsc_1, zsc_1, zsc_1]
  by_cases h1 : k = i'
  · rw [if_pos h1, if_neg (fun h2 => hi (h2.symm.trans h1)), if_pos h1]
  · rw [if_neg h1, if_neg h1]
theorem zEn_sa (A : ZA) (a : Nat) (ex : Int32) {i : Nat} (h1 : i ≠ 13) (h2 : i ≠ 14) (j : Nat) (v : Int32) : ∀ k, zEn (zsa A i j v) a ex k = zsa (zEn A a ex k) i j v
  | 0 => rfl
  | k + 1 => by
    rw [zEn, zEn, zEn_sa A a ex h1 h2 j v k, zsa_n _ i j v 14 (fun e => h2 e.symm), zsa_n _ i j v 13 (fun e => h1 e.symm), zsa_1, zsa_cm _ h2, zsa_cm _ h1]
theorem zEn_sc (A : ZA) (a : Nat) (ex : Int32) {i : Nat} (h1 : i ≠ 1) (v : Int32) : ∀ k, zEn (zsc A i v) a ex k = zsc (zEn A a ex k) i v
  | 0 => rfl
  | k + 1 => by
    rw [zEn, zEn, zEn_sc A a ex h1 v k, zsa_sc, zsa_sc, zsc_2, zsc_1, if_neg (show ¬ 1 = i from fun e => h1 e.symm)]
theorem zCh_6 (A : ZA) (c : Int32) (d n j : Nat) (v : Int32) : zCh (zsa A 6 j v) c d n = zsa (zCh A c d n) 6 j v := by
  unfold zCh
  have e : zfn (zsa A 6 j v) d n = zfn A d n := by unfold zfn; rw [zsa_n _ _ _ _ _ (by decide)]
  rw [e, zsa_cm A (show (6 : Nat) ≠ 12 by decide), zEn_sa _ _ _ (by decide) (by decide), zsa_n A _ _ _ 12 (by decide)]
theorem zCh_sc (A : ZA) (c : Int32) (d n : Nat) {i : Nat} (h1 : i ≠ 1) (v : Int32) : zCh (zsc A i v) c d n = zsc (zCh A c d n) i v := by
  unfold zCh
  have e : zfn (zsc A i v) d n = zfn A d n := rfl
  rw [e, zsa_sc, zEn_sc _ _ _ h1, zsc_2]
end ZSA
end
section
/-! leases on both sides -/
def zLs (A B : ZA) : Prop := ∀ c d n, c < 4 → d < 12 → n < 50 → (A.2 3 d = 1 → B.2 13 (600 * c + (50 * d + n)) = A.2 13 (600 * c + (50 * d + n)) ∨ (A.2 13 (600 * c + (50 * d + n)) ≤ A.1 1 ∧ B.2 13 (600 * c + (50 * d + n)) ≤ A.1 1)) ∧ (¬ A.2 3 d = 1 → A.2 13 (600 * c + (50 * d + n)) ≤ A.1 1)
section ZSB
variable {A B A' B' : ZA}
theorem zLs.cg (h : zLs A B) (h1 : A'.1 1 = A.1 1) (h3 : A'.2 3 = A.2 3) (ha : A'.2 13 = A.2 13) (hb : B'.2 13 = B.2 13) : zLs A' B' := by
  unfold zLs
  rw [h1, h3, ha, hb]
  exact h
/-- a lease runs on both sides or on none -/
theorem zLs.run (h : zLs A B) {c d n : Nat} (hc : c < 4) (hd : d < 12) (hn : n < 50) (hv : A.2 3 d = 1) : (A.1 1 < B.2 13 (600 * c + (50 * d + n)) ↔ A.1 1 < A.2 13 (600 * c + (50 * d + n))) := by
  rcases (h c d n hc hd hn).1 hv with e | ⟨e1, e2⟩
  · rw [e]
  · exact ⟨fun g => absurd g (zltge e2), fun g => absurd g (zltge e1)⟩
/-- one place changes, to the same, or to what doesn't run -/
theorem zLs.set (h : zLs A B) {j : Nat} {v w : Int32} (hvw : v = w ∨ (v ≤ A.1 1 ∧ w ≤ A.1 1)) (hd : ∀ c d n, c < 4 → d < 12 → n < 50 → 600 * c + (50 * d + n) = j → A.2 3 d = 1) : zLs (zsa A 13 j v) (zsa B 13 j w) := by
  intro c d n h1 h2 h3
  have g := h c d n h1 h2 h3
  rw [zsa_1, zsa_n A 13 j v 3 (by decide), zsa_2, zsa_2]
  by_cases e : 600 * c + (50 * d + n) = j
  · rw [if_pos ⟨rfl, e⟩, if_pos ⟨rfl, e⟩]
    refine ⟨fun _ => ?_, fun z => absurd (hd c d n h1 h2 h3 e) z⟩
    rcases hvw with e1 | e2
    · exact Or.inl e1.symm
    · exact Or.inr e2
  · rw [if_neg (fun z => e z.2), if_neg (fun z => e z.2)]
    exact g
theorem zLs.setA (h : zLs A B) {j : Nat} {v : Int32} (hv : v ≤ A.1 1) (hb : B.2 13 j ≤ A.1 1) : zLs (zsa A 13 j v) B := by
  intro c d n h1 h2 h3
  have g := h c d n h1 h2 h3
  rw [zsa_1, zsa_n A 13 j v 3 (by decide), zsa_2]
  by_cases e : 600 * c + (50 * d + n) = j
  · rw [if_pos ⟨rfl, e⟩, e]
    exact ⟨fun _ => Or.inr ⟨hv, hb⟩, fun _ => hv⟩
  · rw [if_neg (fun z => e z.2)]
    exact g
theorem zdj {c d n c' d' n' : Nat} (h1 : d < 12) (h2 : n < 50) (h3 : d' < 12) (h4 : n' < 50) (e : 600 * c + (50 * d + n) = 600 * c' + (50 * d' + n')) : c = c' ∧ d = d' ∧ n = n' := by omega
/-- one client's lease ends -/
theorem zEl1 (h : zAg A B) (hl : zLs A B) {k d n : Nat} (hk : k < 4) (hd : d < 12) (hn : n < 50) (hv : A.2 3 d = 1) (ex : Int32) (h0 : nI 0 ≤ A.1 1) :
    zAg (zsa (zsa A 14 k (A.2 14 k + (if ¬ nI k = ex ∧ A.1 1 < A.2 13 (600 * k + (50 * d + n)) then nI 1 else nI 0))) 13 (600 * k + (50 * d + n)) (nI 0)) (if A.1 1 < B.2 13 (600 * k + (50 * d + n)) then (if nI k = ex then zsa B 13 (600 * k + (50 * d + n)) (A.1 1) else zsa (zsa B 13 (600 * k + (50 * d + n)) (A.1 1)) 14 k (B.2 14 k + nI 1)) else B)
    ∧ zLs (zsa (zsa A 14 k (A.2 14 k + (if ¬ nI k = ex ∧ A.1 1 < A.2 13 (600 * k + (50 * d + n)) then nI 1 else nI 0))) 13 (600 * k + (50 * d + n)) (nI 0)) (if A.1 1 < B.2 13 (600 * k + (50 * d + n)) then (if nI k = ex then zsa B 13 (600 * k + (50 * d + n)) (A.1 1) else zsa (zsa B 13 (600 * k + (50 * d + n)) (A.1 1)) 14 k (B.2 14 k + nI 1)) else B) := by
  have hr := hl.run hk hd hn hv
  have hal : ∀ c' d' n', c' < 4 → d' < 12 → n' < 50 → 600 * c' + (50 * d' + n') = 600 * k + (50 * d + n) → A.2 3 d' = 1 := fun c' d' n' _ h2 h3 e => by
    have := (zdj h2 h3 hd hn e).2.1
    rw [this]
    exact hv
  have id14 : zsa A 14 k (A.2 14 k + nI 0) = A := by
    refine Prod.ext rfl (funext fun i => funext fun x => ?_)
    rw [zsa_2, zadd0]
    by_cases e : i = 14 ∧ x = k
    · rw [if_pos e, e.1, e.2]
    · rw [if_neg e]
  by_cases h1 : A.1 1 < B.2 13 (600 * k + (50 * d + n))
  · have h2 := hr.mp h1
    rw [if_pos h1]
    by_cases he : nI k = ex
    · rw [if_pos he, if_neg (fun z => z.1 he), id14]
      exact ⟨(h.l13 _ _).r13 _ _, hl.set (Or.inr ⟨h0, Int32.le_refl _⟩) hal⟩
    · rw [if_neg he, if_pos ⟨he, h2⟩, h.k 14 (by decide), zsa_cm B (show (13 : Nat) ≠ 14 by decide)]
      refine ⟨((h.sa 14 k _).l13 _ _).r13 _ _, ?_⟩
      have g : zLs (zsa A 14 k (A.2 14 k + nI 1)) (zsa B 14 k (A.2 14 k + nI 1)) := hl.cg rfl (zsa_n _ _ _ _ _ (by decide)) (zsa_n _ _ _ _ _ (by decide)) (zsa_n _ _ _ _ _ (by decide))
      exact g.set (Or.inr ⟨h0, Int32.le_refl _⟩) (fun c' d' n' q1 q2 q3 q4 => by rw [zsa_n _ _ _ _ _ (by decide)]; exact hal c' d' n' q1 q2 q3 q4)
  · rw [if_neg h1, if_neg (fun z => h1 (hr.mpr z.2)), id14]
    exact ⟨h.l13 _ _, hl.setA h0 (Int32.not_lt.mp h1)⟩
theorem zEl (h : zAg A B) (hl : zLs A B) {d n : Nat} (hd : d < 12) (hn : n < 50) (hv : A.2 3 d = 1) (ex : Int32) (h0 : nI 0 ≤ A.1 1) : ∀ k, k ≤ 4 → zAg (zEn A (50 * d + n) ex k) (zel B (50 * d + n) ex k) ∧ zLs (zEn A (50 * d + n) ex k) (zel B (50 * d + n) ex k)
  | 0, _ => ⟨h, hl⟩
  | k + 1, hk => by
    have ih := zEl h hl hd hn hv ex h0 k (by omega)
    have e1 : (zEn A (50 * d + n) ex k).1 1 = A.1 1 := by rw [zEn_1]
    have e2 : B.1 1 = (zEn A (50 * d + n) ex k).1 1 := by rw [e1, h.1]
    have g := zEl1 ih.1 ih.2 (k := k) (by omega) hd hn (by rw [zEn_2 _ _ _ (by decide) (by decide)]; exact hv) ex (by rw [e1]; exact h0)
    rw [zEn, zel, e2]
    exact g
/-- a client changes a name -/
theorem zCn (h : zAg A B) (hl : zLs A B) {d n : Nat} (hd : d < 12) (hn : n < 50) (hv : A.2 3 d = 1) (c m g : Int32) (h0 : nI 0 ≤ A.1 1) : zAg (zsa (zCh A c d n) 6 (50 * d + n) m) (zcn B c d n m g) ∧ zLs (zsa (zCh A c d n) 6 (50 * d + n) m) (zcn B c d n m g) := by
  rw [← zCh_6]
  unfold zCh zcn
  have e : zfn (zsa A 6 (50 * d + n) m) d n = zfn B d n := by rw [h.fn]; unfold zfn; rw [zsa_n _ _ _ _ _ (by decide)]
  have e12 : (zsa A 6 (50 * d + n) m).2 12 (zfn B d n) = B.2 12 (zfn B d n) := by rw [zsa_n _ _ _ _ _ (by decide), h.k 12 (by decide)]
  rw [e, e12]
  refine zEl (((h.sa 6 _ m).r7 _ g).sa 12 _ _) (hl.cg rfl ?_ ?_ ?_) hd hn ?_ c h0 4 (Nat.le_refl _)
  · rw [zsa_n _ _ _ _ _ (by decide), zsa_n _ _ _ _ _ (by decide)]
  · rw [zsa_n _ _ _ _ _ (by decide), zsa_n _ _ _ _ _ (by decide)]
  · rw [zsa_n _ _ _ _ _ (by decide), zsa_n _ _ _ _ _ (by decide), zsa_n _ _ _ _ _ (by decide)]
  · rw [zsa_n _ _ _ _ _ (by decide), zsa_n _ _ _ _ _ (by decide)]
    exact hv
theorem zcn_6 (B : ZA) (c : Int32) (d n : Nat) (m g : Int32) (j : Nat) : (zcn B c d n m g).2 6 j = if j = 50 * d + n then m else B.2 6 j := by
  unfold zcn
  rw [(zel_sme _ _ _ 4).2 6 (by decide) (by decide), zsa_n _ _ _ _ _ (by decide), zsa_n _ _ _ _ _ (by decide), zsa_2]
  by_cases e : j = 50 * d + n
  · rw [if_pos ⟨rfl, e⟩, if_pos e]
  · rw [if_neg (fun z => e z.2), if_neg e]
theorem zcn_7 (B : ZA) (c : Int32) (d n : Nat) (m g : Int32) (j : Nat) : (zcn B c d n m g).2 7 j = if j = 50 * d + n then g else B.2 7 j := by
  unfold zcn
  rw [(zel_sme _ _ _ 4).2 7 (by decide) (by decide), zsa_n _ _ _ _ _ (by decide), zsa_2]
  by_cases e : j = 50 * d + n
  · rw [if_pos ⟨rfl, e⟩, if_pos e]
  · rw [if_neg (fun z => e z.2), if_neg e, zsa_n _ _ _ _ _ (by decide)]
theorem zel_13 (B : ZA) (a : Nat) (ex : Int32) {j : Nat} : ∀ k, (∀ c, c < k → j ≠ 600 * c + a) → (zel B a ex k).2 13 j = B.2 13 j
  | 0, _ => rfl
  | k + 1, h => by
    have ih := zel_13 B a ex k (fun c hc => h c (by omega))
    have hk := h k (by omega)
    unfold zel
    split
    · split
      · rw [zsa_2, if_neg (fun z => hk z.2)]
        exact ih
      · rw [zsa_n _ _ _ _ _ (by decide), zsa_2, if_neg (fun z => hk z.2)]
        exact ih
    · exact ih
theorem zcn_13 (B : ZA) (c : Int32) (d n : Nat) (m g : Int32) {j : Nat} (h : ∀ c, c < 4 → j ≠ 600 * c + (50 * d + n)) : (zcn B c d n m g).2 13 j = B.2 13 j := by
  unfold zcn
  rw [zel_13 _ _ _ 4 h, zsa_n _ _ _ _ _ (by decide), zsa_n _ _ _ _ _ (by decide), zsa_n _ _ _ _ _ (by decide)]
/-- directories that are not made yet are empty -/
def zUm (B : ZA) (D : Nat) : Prop := ∀ e, D ≤ e → e < 12 → zNv B e
theorem zUm.cn {D : Nat} (h : zUm B D) {d n : Nat} (hd : d < D) (hn : n < 50) (c m g : Int32) : zUm (zcn B c d n m g) D := by
  intro e h1 h2 k hk
  obtain ⟨g1, g2, g3⟩ := h e h1 h2 k hk
  refine ⟨?_, ?_, fun c' hc' => ?_⟩
  · rw [zcn_6, if_neg (by omega)]
    exact g1
  · rw [zcn_7, if_neg (by omega)]
    exact g2
  · rw [zcn_13 _ _ _ _ _ _ (fun c'' _ => by omega)]
    exact g3 c' hc'
theorem zUm.cg {D : Nat} (h : zUm B D) (h6 : B'.2 6 = B.2 6) (h7 : B'.2 7 = B.2 7) (h13 : B'.2 13 = B.2 13) : zUm B' D := by
  unfold zUm zNv
  rw [h6, h7, h13]
  exact h
/-- ages of links: the class's are one more -/
def zAe (A B : ZA) (L : Nat) : Prop := ∀ k f, k < 600 → f < 30 → A.2 6 k = nI f → ∃ a, a < L ∧ A.2 7 k = nI a ∧ B.2 7 k = nI (a + 1)
theorem zAe.cg {L : Nat} (h : zAe A B L) (h6 : A'.2 6 = A.2 6) (h7 : A'.2 7 = A.2 7) (h7' : B'.2 7 = B.2 7) : zAe A' B' L := by
  unfold zAe
  rw [h6, h7, h7']
  exact h
theorem zAe.le {L L' : Nat} (h : zAe A B L) (hL : L ≤ L') : zAe A B L' := fun k f h1 h2 h3 => by
  obtain ⟨a, g1, g2⟩ := h k f h1 h2 h3
  exact ⟨a, by omega, g2⟩
end ZSB
end
section
/-! how fragments can lie: all 26 ways -/
def zc2 : List (List Nat) := [[2, 0], [1, 1]]
def zc4 : List (List Nat) := [4, 0, 0, 0] :: (zc2.flatMap fun a => zc2.map fun b => a ++ b)
def zcfs : List (List Nat) := [8, 0, 0, 0, 0, 0, 0, 0] :: (zc4.flatMap fun a => zc4.map fun b => a ++ b)
def zgN (c : List Nat) : Nat → Nat
  | 0 => 0
  | h + 1 => if c.getD (h + 1) 0 = 0 then zgN c h else h + 1
def zcS (c : List Nat) (g s : Nat) : List Nat := (c.set g (s / 2)).set (g + s / 2) (s / 2)
def zcM (c : List Nat) (g s : Nat) : List Nat := (c.set g (2 * s)).set (g + s) 0
theorem zcf_a : ∀ c ∈ zcfs, (∀ h, h < 8 → c.getD h 0 ≤ 8) ∧ ¬ c.getD 0 0 = 0 := by decide +kernel
theorem zcf_s : ∀ c ∈ zcfs, ∀ h, h < 8 → 1 ≤ c.getD (zgN c h) 0 ∧ zgN c h + c.getD (zgN c h) 0 ≤ 8 ∧ (c.getD (zgN c h) 0 = 1 ∨ (c.getD (zgN c h) 0 = 2 * (c.getD (zgN c h) 0 / 2) ∧ 1 ≤ c.getD (zgN c h) 0 / 2 ∧ c.getD (zgN c h + c.getD (zgN c h) 0 / 2) 0 = 0 ∧ zcS c (zgN c h) (c.getD (zgN c h) 0) ∈ zcfs ∧ ∀ y, y < 8 → zgN (zcS c (zgN c h) (c.getD (zgN c h) 0)) y = if zgN c h + c.getD (zgN c h) 0 / 2 ≤ y ∧ y < zgN c h + c.getD (zgN c h) 0 / 2 + c.getD (zgN c h) 0 / 2 then zgN c h + c.getD (zgN c h) 0 / 2 else zgN c y)) := by decide +kernel
theorem zcf_m1 : ∀ c ∈ zcfs, ∀ h, h < 8 → ¬ (zgN c h) % (2 * (c.getD (zgN c h) 0)) = 0 → (c.getD (zgN c h) 0) ≤ (zgN c h) := by decide +kernel
theorem zcf_m2 : ∀ c ∈ zcfs, ∀ h, h < 8 → (c.getD (zgN c h) 0) < 8 → (zb1 (zgN c h) (c.getD (zgN c h) 0)) + 2 * (c.getD (zgN c h) 0) ≤ 8 ∧ (zgN c h) ^^^ (c.getD (zgN c h) 0) < 8 ∧ ((c.getD (zb1 (zgN c h) (c.getD (zgN c h) 0)) 0 = (c.getD (zgN c h) 0) ∧ c.getD ((zb1 (zgN c h) (c.getD (zgN c h) 0)) + (c.getD (zgN c h) 0)) 0 = (c.getD (zgN c h) 0)) ↔ c.getD (zgN c (zgN c h ^^^ c.getD (zgN c h) 0)) 0 = (c.getD (zgN c h) 0)) := by decide +kernel
theorem zcf_m3 : ∀ c ∈ zcfs, ∀ h, h < 8 → (c.getD (zgN c h) 0) < 8 → c.getD (zgN c (zgN c h ^^^ c.getD (zgN c h) 0)) 0 = (c.getD (zgN c h) 0) → zcM c (zb1 (zgN c h) (c.getD (zgN c h) 0)) (c.getD (zgN c h) 0) ∈ zcfs := by decide +kernel
theorem zcf_m5 : ∀ c ∈ zcfs, ∀ h, h < 8 → (c.getD (zgN c h) 0) < 8 → c.getD (zgN c (zgN c h ^^^ c.getD (zgN c h) 0)) 0 = (c.getD (zgN c h) 0) → (zgN c h) % (2 * (c.getD (zgN c h) 0)) = 0 → (zb1 (zgN c h) (c.getD (zgN c h) 0)) = (zgN c h) ∧ (zgN c (zgN c h ^^^ c.getD (zgN c h) 0)) = (zgN c h) + (c.getD (zgN c h) 0) := by decide +kernel
theorem zcf_m6 : ∀ c ∈ zcfs, ∀ h, h < 8 → (c.getD (zgN c h) 0) < 8 → c.getD (zgN c (zgN c h ^^^ c.getD (zgN c h) 0)) 0 = (c.getD (zgN c h) 0) → ¬ (zgN c h) % (2 * (c.getD (zgN c h) 0)) = 0 → (zb1 (zgN c h) (c.getD (zgN c h) 0)) = (zgN c (zgN c h ^^^ c.getD (zgN c h) 0)) ∧ (zgN c h) = (zgN c (zgN c h ^^^ c.getD (zgN c h) 0)) + (c.getD (zgN c h) 0) := by decide +kernel
theorem zcf_m4 : ∀ c ∈ zcfs, ∀ h, h < 8 → (c.getD (zgN c h) 0) < 8 → c.getD (zgN c (zgN c h ^^^ c.getD (zgN c h) 0)) 0 = (c.getD (zgN c h) 0) → ∀ y, y < 8 → zgN (zcM c (zb1 (zgN c h) (c.getD (zgN c h) 0)) (c.getD (zgN c h) 0)) y = if (zb1 (zgN c h) (c.getD (zgN c h) 0)) ≤ y ∧ y < (zb1 (zgN c h) (c.getD (zgN c h) 0)) + ((c.getD (zgN c h) 0) + (c.getD (zgN c h) 0)) then (zb1 (zgN c h) (c.getD (zgN c h) 0)) else zgN c y := by decide +kernel
theorem zxor : ∀ g, g < 8 → ∀ s, s < 8 → nI g ^^^ nI s = nI (g ^^^ s) := by decide +kernel
theorem zcf_len : ∀ c ∈ zcfs, c.length = 8 := by decide +kernel
/-- the directory d has its fragments so -/
def zHc (S : Nat → Int32) (d : Nat) (c : List Nat) : Prop := c ∈ zcfs ∧ ∀ h, h < 8 → S (8 * d + h) = nI (c.getD h 0)
theorem zHc.z {S : Nat → Int32} {d : Nat} {c : List Nat} (hc : zHc S d c) {h : Nat} (hh : h < 8) : S (8 * d + h) = 0 ↔ c.getD h 0 = 0 := by
  have h1 := (zcf_a c hc.1).1 h hh
  rw [hc.2 h hh]
  exact nI_eq (by omega) (by decide)
theorem zHc.g {S : Nat → Int32} {d : Nat} {c : List Nat} (hc : zHc S d c) : ∀ {h : Nat}, h < 8 → zfg S d h = zgN c h
  | 0, _ => rfl
  | h + 1, hh => by
    rw [zfg, zgN]
    have e := hc.z hh
    have ih := hc.g (h := h) (by omega)
    by_cases h1 : c.getD (h + 1) 0 = 0
    · rw [if_pos (e.mpr h1), if_pos h1]
      exact ih
    · rw [if_neg (fun z => h1 (e.mp z)), if_neg h1]
theorem zgN_le (c : List Nat) : ∀ h, zgN c h ≤ h
  | 0 => Nat.le_refl _
  | h + 1 => by
    rw [zgN]
    split
    · exact Nat.le_succ_of_le (zgN_le c h)
    · exact Nat.le_refl _
theorem zgetD_set {c : List Nat} {i j v : Nat} (hi : i < c.length) : (c.set i v).getD j 0 = if i = j then v else c.getD j 0 := by
  rw [List.getD_eq_getElem?_getD, List.getD_eq_getElem?_getD, List.getElem?_set]
  by_cases e : i = j
  · rw [if_pos e, if_pos e, if_pos hi]
    rfl
  · rw [if_neg e, if_neg e]
theorem zHc.sp {A : ZA} {d g s : Nat} {c : List Nat} (hc : zHc (A.2 10) d c) (hg : g < 8) (hs : g + s / 2 < 8) (hm : zcS c g s ∈ zcfs) : zHc ((zSp A (8 * d + g) s).2 10) d (zcS c g s) := by
  refine ⟨hm, fun h hh => ?_⟩
  have hl := zcf_len c hc.1
  unfold zSp zcS
  rw [zsa_n _ _ _ _ _ (by decide), zsa_n _ _ _ _ _ (by decide), zsa_n _ _ _ _ _ (by decide), zsa_2, zsa_2, zgetD_set (by rw [List.length_set]; omega), zgetD_set (by omega), hc.2 h hh]
  by_cases h1 : g + s / 2 = h
  · rw [if_pos ⟨rfl, by omega⟩, if_pos h1]
  · rw [if_neg (fun z => h1 (by omega)), if_neg h1]
    by_cases h2 : g = h
    · rw [if_pos ⟨rfl, by omega⟩, if_pos h2]
    · rw [if_neg (fun z => h2 (by omega)), if_neg h2]
theorem zHc.mg {A : ZA} {d g s : Nat} {c : List Nat} (hc : zHc (A.2 10) d c) (hg : g < 8) (hs : g + s < 8) (hm : zcM c g s ∈ zcfs) : zHc ((zMg A (8 * d + g) s).2 10) d (zcM c g s) := by
  refine ⟨hm, fun h hh => ?_⟩
  have hl := zcf_len c hc.1
  unfold zMg zcM
  rw [zsa_n _ _ _ _ _ (by decide), zsa_2, zsa_2, zgetD_set (by rw [List.length_set]; omega), zgetD_set (by omega), hc.2 h hh]
  by_cases h1 : g + s = h
  · rw [if_pos ⟨rfl, by omega⟩, if_pos h1]
  · rw [if_neg (fun z => h1 (by omega)), if_neg h1]
    by_cases h2 : g = h
    · rw [if_pos ⟨rfl, by omega⟩, if_pos h2]
    · rw [if_neg (fun z => h2 (by omega)), if_neg h2]
/-! the way up is short: no more directories than 12 -/
theorem zDp_s {A : ZA} : ∀ {k d : Nat}, zDp A k d → zDp A (k + 1) d
  | 0, _, h => Or.inl h
  | k + 1, _, h => h.imp id (fun g => ⟨g.1, zDp_s g.2⟩)
theorem zDp_m {A : ZA} {k d : Nat} (h : zDp A k d) : ∀ n, zDp A (k + n) d
  | 0 => h
  | n + 1 => zDp_s (zDp_m h n)
theorem zDp_le {A : ZA} {k l d : Nat} (h : zDp A k d) (hl : k ≤ l) : zDp A l d := by
  have := zDp_m h (l - k)
  rwa [show k + (l - k) = l by omega] at this
noncomputable def zcq (A : ZA) (k : Nat) : Nat → Bool := fun d => @decide (zDp A k d) (Classical.propDecidable _)
theorem zcq_t {A : ZA} {k d : Nat} : zcq A k d = true ↔ zDp A k d := by
  unfold zcq
  rw [@decide_eq_true_iff _ (Classical.propDecidable _)]
theorem zcN_mono {p q : Nat → Bool} (h : ∀ d, p d = true → q d = true) : ∀ n, zcN p n ≤ zcN q n
  | 0 => Nat.le_refl _
  | n + 1 => by
    have ih := zcN_mono h n
    by_cases h1 : p n = true
    · rw [zcN_t h1, zcN_t (h n h1)]
      omega
    · rw [zcN_f h1, zcN]
      omega
theorem zcN_eqs {p q : Nat → Bool} (h : ∀ d, p d = true → q d = true) : ∀ n, zcN q n ≤ zcN p n → ∀ d, d < n → q d = true → p d = true
  | 0, _, d, hd, _ => absurd hd (Nat.not_lt_zero _)
  | n + 1, hn, d, hd, hq => by
    have hm := zcN_mono h n
    have h0 : zcN q n ≤ zcN p n := by
      by_cases h1 : p n = true
      · rw [zcN_t h1, zcN_t (h n h1)] at hn
        omega
      · rw [zcN_f h1, zcN] at hn
        omega
    by_cases e : d = n
    · subst e
      by_cases h1 : p d = true
      · exact h1
      · rw [zcN_f h1, zcN_t hq] at hn
        omega
    · exact zcN_eqs h n h0 d (by omega) hq
theorem zDp_st {A : ZA} {i : Nat} (h : ∀ d, d < 12 → zDp A (i + 1) d → zDp A i d) : ∀ n d, d < 12 → zDp A (i + n) d → zDp A i d
  | 0, _, _, g => g
  | n + 1, d, hd, g => by
    have h1 : zDp A (i + n + 1) d := g
    rcases h1 with h0 | ⟨h2, h3⟩
    · exact h d hd (Or.inl h0)
    · exact h d hd (Or.inr ⟨h2, zDp_st h n _ h2.2.1 h3⟩)
theorem zDp_cnt (A : ZA) : ∀ k, k + 1 ≤ zcN (zcq A k) 12 ∨ ∃ i, i < k ∧ ∀ d, d < 12 → zDp A (i + 1) d → zDp A i d
  | 0 => Or.inl (by
    have h0 : zcq A 0 0 = true := zcq_t.mpr rfl
    have h1 : zcN (zcq A 0) 1 = 1 := by rw [zcN_t h0]; rfl
    have : ∀ n, 1 ≤ zcN (zcq A 0) (1 + n) := fun n => by
      induction n with
      | zero => rw [h1]; omega
      | succ n ih =>
        show 1 ≤ zcN (zcq A 0) (1 + n) + _
        omega
    exact this 11)
  | k + 1 => by
    rcases zDp_cnt A k with h | ⟨i, h1, h2⟩
    · have hs : ∀ d, zcq A k d = true → zcq A (k + 1) d = true := fun d g => zcq_t.mpr (zDp_s (zcq_t.mp g))
      by_cases e : zcN (zcq A (k + 1)) 12 ≤ zcN (zcq A k) 12
      · exact Or.inr ⟨k, by omega, fun d hd g => zcq_t.mp (zcN_eqs hs 12 e d hd (zcq_t.mpr g))⟩
      · exact Or.inl (by omega)
    · exact Or.inr ⟨i, by omega, h2⟩
theorem zcN_full {p : Nat → Bool} : ∀ n, n ≤ zcN p n → ∀ d, d < n → p d = true
  | 0, _, d, hd => absurd hd (Nat.not_lt_zero _)
  | n + 1, hn, d, hd => by
    have hm := zcN_le p n
    by_cases h1 : p n = true
    · rw [zcN_t h1] at hn
      by_cases e : d = n
      · rw [e]
        exact h1
      · exact zcN_full n (by omega) d (by omega)
    · rw [zcN_f h1] at hn
      omega
theorem zDp_11 {A : ZA} {k d : Nat} (h : zDp A k d) (hd : d < 12) : zDp A 11 d := by
  rcases zDp_cnt A 11 with h1 | ⟨i, h1, h2⟩
  · exact zcq_t.mp (zcN_full 12 h1 d hd)
  · have h3 := zDp_st h2 k d hd (by rw [Nat.add_comm]; exact zDp_m h i)
    exact zDp_le h3 (by omega)
end
section
/-! the class's state may be read otherwise where nothing hangs on it -/
section ZSD
variable {M : ZM} {W : Nat → Nat → Nat} {A B A' B' : ZA}
theorem zVal.nrm (h3 : B'.2 3 = B.2 3) (h10 : ∀ j, B.2 3 (j / 8) = 1 → B'.2 10 j = B.2 10 j) : ∀ {i j : Nat}, zVal B' i j → zVal B i j
  | 0, _, h => h
  | 1, _, h => h
  | 2, _, h => h
  | 3, j, h => ⟨h.1, by rw [← h3]; exact h.2⟩
  | 4, j, h => ⟨h.1, by rw [← h3]; exact h.2⟩
  | 5, j, h => ⟨h.1, by rw [← h3]; exact h.2⟩
  | 6, j, h => ⟨h.1, by rw [← h3]; exact h.2⟩
  | 7, j, h => ⟨h.1, by rw [← h3]; exact h.2⟩
  | 8, j, h => ⟨h.1, by rw [← h3]; exact h.2⟩
  | 9, j, h => ⟨h.1, by rw [← h3]; exact h.2.1, fun e => h.2.2 (by rw [h10 j (by rw [← h3]; exact h.2.1)]; exact e)⟩
  | 10, _, h => h
  | i + 11, _, h => absurd h.lt (by omega)
theorem zOb.n10 {s : Nat → Int32} {z z' : Nat → Nat → Int32} {j : Nat} (h : zOb M W (s, z) 10 j) : zOb M W (s, z') 10 j := by
  obtain ⟨h1, h2, h3, h4⟩ := h
  exact ⟨h1, h2, h3, h4⟩
theorem zOb.n8 {j : Nat} (h : zOb M W B 8 j) (hz : ∀ y, y < 8 → zfg (B'.2 10) j y = zfg (B.2 10) j y) : zOb M W B' 8 j := by
  obtain ⟨h1, h2, h3⟩ := h
  exact ⟨h1, h2, fun y hy => (h3 y hy).trans (by rw [hz y hy])⟩
theorem zOb.n9 {j : Nat} (h : zOb M W B 9 j) (e10 : B'.2 10 j = B.2 10 j) (e11 : B'.2 11 j = B.2 11 j) (e12 : B'.2 12 j = B.2 12 j) : zOb M W B' 9 j := by
  obtain ⟨h1, h2, h3, h4, h5, h6⟩ := h
  exact ⟨h1, h2, h3, h4.trans e10.symm, h5.trans e11.symm, h6.trans e12.symm⟩
theorem zC.nrm (hC : zC M W B) (h1 : B'.1 = B.1) (hk : ∀ i, i ≠ 10 → i ≠ 12 → B'.2 i = B.2 i) (h10 : ∀ j, B.2 3 (j / 8) = 1 → B'.2 10 j = B.2 10 j) (h12 : ∀ j, j < 96 → B.2 3 (j / 8) = 1 → ¬ B.2 10 j = 0 → B'.2 12 j = B.2 12 j) : zC M W B' := by
  have h3 := hk 3 (by decide) (by decide)
  have hv : ∀ i j, zVal B' i j → zVal B i j := fun i j h => zVal.nrm h3 h10 h
  refine ⟨fun i j h => ?_, fun i j i' j' g1 g2 => hC.2 i j i' j' (hv i j g1) (hv i' j' g2)⟩
  have hB := hv i j h
  have ho := hC.1 i j hB
  by_cases hi : i < 8
  · exact zOb.cg (fun _ _ _ => rfl) (fun k k1 k2 k3 => hk k k1 k3) hi hB ho
  · have hi11 := hB.lt
    have : i = 8 ∨ i = 9 ∨ i = 10 := by omega
    rcases this with rfl | rfl | rfl
    · exact zOb.n8 ho (fun y hy => zfg_cg (fun x hx => h10 _ (by rw [show (8 * j + x) / 8 = j by omega]; exact hB.2)))
    · exact zOb.n9 ho (h10 j hB.2.1) (by rw [hk 11 (by decide) (by decide)]) (h12 j hB.1 hB.2.1 hB.2.2)
    · obtain ⟨s, z⟩ := B
      obtain ⟨s', z'⟩ := B'
      have e : s' = s := h1
      subst e
      exact zOb.n10 ho
theorem zCW.nrm {v : Option Value} {o : ZO} {M' : ZM} {B0 : ZA} (h : zCW W M B0 v B o M') (h1 : B'.1 = B.1) (hk : ∀ i, i ≠ 10 → i ≠ 12 → B'.2 i = B.2 i) (h10 : ∀ j, B.2 3 (j / 8) = 1 → B'.2 10 j = B.2 10 j) (h12 : ∀ j, j < 96 → B.2 3 (j / 8) = 1 → ¬ B.2 10 j = 0 → B'.2 12 j = B.2 12 j) : zCW W M B0 v B' o M' := by
  obtain ⟨g0, W', g1, g2, g3, g4⟩ := h
  exact ⟨g0, W', g1.nrm h1 hk h10 h12, g2, g3, fun i j hv => g4 i j (zVal.nrm (hk 3 (by decide) (by decide)) h10 hv)⟩
/-! the invariant -/
def zCf (A : ZA) : Prop := ∀ d, d < 12 → A.2 3 d = 1 → ∃ c, zHc (A.2 10) d c
def zSn (A : ZA) (F : Nat) : Prop := ∀ d n, d < 12 → n < 50 → A.2 6 (50 * d + n) = -1 ∨ (A.2 3 d = 1 ∧ ((∃ f, f < F ∧ A.2 6 (50 * d + n) = nI f) ∨ ∃ e, e < 12 ∧ ¬ e = 0 ∧ A.2 3 e = 1 ∧ A.2 6 (50 * d + n) = -2 - nI e ∧ zpar A e = d ∧ znam A e = n))
def zCv (A : ZA) : Prop := ∀ e, e < 12 → ¬ e = 0 → A.2 3 e = 1 → A.2 6 (50 * zpar A e + znam A e) = -2 - nI e
def zMm (A : ZA) : Prop := A.1 16 = -1 ∨ ∃ m, m < 96 ∧ A.1 16 = nI m ∧ A.2 3 (m / 8) = 1 ∧ ¬ A.2 10 m = 0 ∧ ¬ A.1 17 = -1
def zJ (A : ZA) (t D F T L : Nat) : Prop := (A.1 1 = nI T ∧ T ≤ 100 * t) ∧ (A.1 8 = nI L ∧ L ≤ t) ∧ (A.1 9 = nI F ∧ F ≤ 30) ∧ zBas A D ∧ zFr A ∧ (∀ d, d < 12 → A.2 3 d = 1 → zDp A 11 d) ∧ zDz A ∧ zCf A ∧ zSn A F ∧ zCv A ∧ zMm A
def zRS (A B : ZA) (t : Nat) : Prop := ∃ D F T L, zJ A t D F T L ∧ zAg A B ∧ zLs A B ∧ zAe A B L ∧ zUm B D
variable {t D F T L : Nat}
theorem zJ.wf (h : zJ A t D F T L) : zWf A := ⟨⟨D, h.2.2.2.1⟩, h.2.2.2.2.1, h.2.2.2.2.2.1⟩
theorem zJ.n0 (h : zJ A t D F T L) (ht : t ≤ 600) : nI 0 ≤ A.1 1 := by
  have h1 := h.1.2
  rw [h.1.1]
  exact (nI_leI (by decide) (by omega)).mpr (Nat.zero_le _)
theorem zJ.mw (h : zJ A t D F T L) : zMw A := by
  rcases h.2.2.2.2.2.2.2.2.2.2 with g | ⟨m, g1, g2, g3, g4, -⟩
  · exact Or.inl g
  · exact Or.inr ⟨m, g2, g1, g3, g4⟩
theorem zJ.mv (h : zJ A t D F T L) : zMv A := by
  rcases h.2.2.2.2.2.2.2.2.2.2 with g | ⟨m, g1, g2, -⟩
  · exact Or.inl g
  · exact Or.inr ⟨m, g1, g2⟩
theorem zAg.mw (h : zAg A B) (g : zMw A) : zMw B := by
  unfold zMw
  rw [h.1]
  exact g.imp id (fun ⟨m, h1, h2⟩ => ⟨m, h1, h.val.mpr h2⟩)
theorem zDp.cg (h3 : A'.2 3 = A.2 3) (h4 : A'.2 4 = A.2 4) (h5 : A'.2 5 = A.2 5) : ∀ k d, zDp A' k d ↔ zDp A k d
  | 0, _ => Iff.rfl
  | k + 1, d => by
    rw [zDp, zDp, zDp.cg h3 h4 h5 k]
    unfold zUp zpar znam
    rw [h3, h4, h5]
theorem zpar.cg (h4 : A'.2 4 = A.2 4) (d : Nat) : zpar A' d = zpar A d := by unfold zpar; rw [h4]
theorem znam.cg (h5 : A'.2 5 = A.2 5) (d : Nat) : znam A' d = znam A d := by unfold znam; rw [h5]
/-- where nothing of the tree and the fragments changes -/
theorem zJ.cg (h : zJ A t D F T L) {t' T' L' : Nat} (h3 : A'.2 3 = A.2 3) (h4 : A'.2 4 = A.2 4) (h5 : A'.2 5 = A.2 5) (h6 : A'.2 6 = A.2 6) (h10 : A'.2 10 = A.2 10) (h11 : A'.2 11 = A.2 11) (e1 : A'.1 1 = nI T' ∧ T' ≤ 100 * t') (e8 : A'.1 8 = nI L' ∧ L' ≤ t') (e2 : A'.1 2 = A.1 2) (e9 : A'.1 9 = A.1 9) (em : zMm A') : zJ A' t' D F T' L' := by
  obtain ⟨j1, j2, j3, j4, j5, j6, j7, j8, j9, j10, j11⟩ := h
  refine ⟨e1, e8, by rw [e9]; exact j3, by unfold zBas; rw [e2, h3]; exact j4, by unfold zFr; rw [h3, h10, h11]; exact j5, fun d h1 h2 => (zDp.cg h3 h4 h5 11 d).mpr (j6 d h1 (by rw [← h3]; exact h2)), by unfold zDz; rw [h3, h10]; exact j7, by unfold zCf; rw [h3, h10]; exact j8, ?_, ?_, em⟩
  · intro d n h1 h2
    have g := j9 d n h1 h2
    rw [h6, h3]
    rcases g with g | ⟨g0, g | ⟨e, g1, g2, g3, g4, g5, g6⟩⟩
    · exact Or.inl g
    · exact Or.inr ⟨g0, Or.inl g⟩
    · exact Or.inr ⟨g0, Or.inr ⟨e, g1, g2, g3, g4, (zpar.cg h4 e).trans g5, (znam.cg h5 e).trans g6⟩⟩
  · intro e h1 h2 h3'
    rw [h6, zpar.cg h4, znam.cg h5]
    exact j10 e h1 h2 (by rw [← h3]; exact h3')
theorem zMm.cg (h : zMm A) (h16 : A'.1 16 = A.1 16) (h17 : A'.1 17 = A.1 17) (h3 : A'.2 3 = A.2 3) (h10 : A'.2 10 = A.2 10) : zMm A' := by
  unfold zMm
  rw [h16, h17, h3, h10]
  exact h
theorem zJ.mm (h : zJ A t D F T L) : zMm A := h.2.2.2.2.2.2.2.2.2.2
theorem zJ.se (h : zJ A t D F T L) (h1 : A'.1 = A.1) (h3 : A'.2 3 = A.2 3) (h4 : A'.2 4 = A.2 4) (h5 : A'.2 5 = A.2 5) (h6 : A'.2 6 = A.2 6) (h10 : A'.2 10 = A.2 10) (h11 : A'.2 11 = A.2 11) : zJ A' (t + 1) D F T L :=
  h.cg h3 h4 h5 h6 h10 h11 (by rw [h1]; exact ⟨h.1.1, by have := h.1.2; omega⟩) (by rw [h1]; exact ⟨h.2.1.1, by have := h.2.1.2; omega⟩) (by rw [h1]) (by rw [h1]) (h.mm.cg (by rw [h1]) (by rw [h1]) h3 h10)
theorem zRS.nx (h : zRS A B t) : zRS A B (t + 1) := by
  obtain ⟨D, F, T, L, h1, h2⟩ := h
  exact ⟨D, F, T, L, h1.se rfl rfl rfl rfl rfl rfl rfl, h2⟩
/-! what a call does on both sides -/
def zI1 : Int32 → Option Value := fun v => some (.int v)
def zV0 : Int32 → Option Value := fun _ => none
def zOk (y2 y3 : ZY) (As : List Value) (A B : ZA) (t : Nat) (r : Int32 → Option Value) : Prop :=
  ∃ (v : Int32) (A' B' : ZA), zRS A' B' (t + 1) ∧ (∀ (G : ZG) (M : ZM) (W : Nat → Nat → Nat), zC M W B → zMet G y2 (.ref (W 10 0) :: As) M (zCW W M B (r v) B')) ∧ (∀ (G : ZG) (M : ZM) (x : Nat) (q : Nat → Nat) (w : Int32), zR M x q w A → zMet G y3 (.ref x :: As) M (zRP x q M (r v) (nI 0) A'))
def zNo (y2 y3 : ZY) (As : List Value) (A B : ZA) (t : Nat) (r : Int32 → Option Value) (k : Nat) (En : String) : Prop :=
  ∃ (v : Int32) (A' : ZA), zRS A' B (t + 1) ∧ (∀ (G : ZG) (M : ZM) (W : Nat → Nat → Nat), zC M W B → zMet G y2 (.ref (W 10 0) :: As) M (zthr En M)) ∧ (∀ (G : ZG) (M : ZM) (x : Nat) (q : Nat → Nat) (w : Int32), zR M x q w A → zMet G y3 (.ref x :: As) M (zRP x q M (r v) (nI k) A'))
def zSim (y2 y3 : ZY) (As : List Value) (A B : ZA) (t : Nat) (r : Int32 → Option Value) (f : List String) : Prop :=
  zOk y2 y3 As A B t r ∨ ∃ (j : Nat) (En : String), f[j]? = some En ∧ zNo y2 y3 As A B t r (j + 1) En
variable {y2 y3 : ZY} {As : List Value} {r : Int32 → Option Value} {f : List String}
theorem zSim.ok (v : Int32) (A' B' : ZA) (h : zRS A' B' (t + 1)) (h2 : ∀ (G : ZG) (M : ZM) (W : Nat → Nat → Nat), zC M W B → zMet G y2 (.ref (W 10 0) :: As) M (zCW W M B (r v) B')) (h3 : ∀ (G : ZG) (M : ZM) (x : Nat) (q : Nat → Nat) (w : Int32), zR M x q w A → zMet G y3 (.ref x :: As) M (zRP x q M (r v) (nI 0) A')) : zSim y2 y3 As A B t r f := Or.inl ⟨v, A', B', h, h2, h3⟩
/-- .. asked alone -/
theorem zSim.rd (v : Int32) (h : zRS A B t) (h2 : ∀ (G : ZG) (M : ZM) (W : Nat → Nat → Nat), zC M W B → zMet G y2 (.ref (W 10 0) :: As) M (zone (r v) M)) (h3 : ∀ (G : ZG) (M : ZM) (x : Nat) (q : Nat → Nat) (w : Int32), zR M x q w A → zMet G y3 (.ref x :: As) M (zRP x q M (r v) (nI 0) A)) : zSim y2 y3 As A B t r f :=
  zSim.ok v A B h.nx (fun G M W hC => (h2 G M W hC).mono (fun o M' ⟨e1, e2⟩ => by subst e2; exact ⟨e1, W, hC, zFm.rf, rfl, fun i j hv => Or.inl ⟨hv, rfl⟩⟩)) h3
theorem zSim.no (j : Nat) (En : String) (v : Int32) (h : zRS A B t) (hf : f[j]? = some En) (h2 : ∀ (G : ZG) (M : ZM) (W : Nat → Nat → Nat), zC M W B → zMet G y2 (.ref (W 10 0) :: As) M (zthr En M)) (h3 : ∀ (G : ZG) (M : ZM) (x : Nat) (q : Nat → Nat) (w : Int32), zR M x q w A → zMet G y3 (.ref x :: As) M (zRP x q M (r v) (nI (j + 1)) A)) : zSim y2 y3 As A B t r f := Or.inr ⟨j, En, hf, v, A, h.nx, h2, h3⟩
/-- a call that keeps to the old objects -/
theorem zMet.w {G : ZG} {v : Option Value} (h : zMet G y2 As M (zCP W M B v B')) (hs : ∀ i j, zVal B' i j → zVal B i j) : zMet G y2 As M (zCW W M B v B') := h.mono (fun _ _ g => g.w hs)
theorem zCW.to {v : Option Value} {o : ZO} {M' : ZM} (h : zCW W M B v B' o M') {v' : Option Value} {B'' : ZA} (e : v = v') (e2 : B' = B'') : zCW W M B v' B'' o M' := by subst e; subst e2; exact h
end ZSD
end
section
/-! sums over names, directories and fragments -/
section ZSE
variable {A B A' B' : ZA} {t D F T L : Nat}
theorem zcN_cg {p q : Nat → Bool} : ∀ n, (∀ k, k < n → p k = q k) → zcN p n = zcN q n
  | 0, _ => rfl
  | n + 1, h => by rw [zcN, zcN, zcN_cg n (fun k hk => h k (by omega)), h n (by omega)]
theorem zcN_0 {p : Nat → Bool} : ∀ n, (∀ k, k < n → ¬ p k = true) → zcN p n = 0
  | 0, _ => rfl
  | n + 1, h => by rw [zcN_f (h n (by omega)), zcN_0 n (fun k hk => h k (by omega))]
theorem zcN_add (p : Nat → Bool) (a : Nat) : ∀ b, zcN p (a + b) = zcN p a + zcN (fun k => p (a + k)) b
  | 0 => rfl
  | b + 1 => by
    show zcN p (a + b) + (if p (a + b) = true then 1 else 0) = zcN p a + (zcN (fun k => p (a + k)) b + (if p (a + b) = true then 1 else 0))
    rw [zcN_add p a b]
    omega
theorem zcN_blk (p : Nat → Bool) : ∀ m, zcN p (50 * m) = zsm (fun d => zcN (fun n => p (50 * d + n)) 50) m
  | 0 => rfl
  | m + 1 => by
    rw [Nat.mul_succ, zcN_add, zcN_blk p m]
    rfl
theorem zsm_cg {g g' : Nat → Nat} : ∀ n, (∀ k, k < n → g k = g' k) → zsm g n = zsm g' n
  | 0, _ => rfl
  | n + 1, h => by rw [zsm, zsm, zsm_cg n (fun k hk => h k (by omega)), h n (by omega)]
theorem zcN_one {p q : Nat → Bool} {a : Nat} (ha : ¬ p a = true) (hq : q a = true) (h : ∀ k, k ≠ a → q k = p k) : ∀ n, zcN q n = zcN p n + if a < n then 1 else 0
  | 0 => by rw [if_neg (Nat.not_lt_zero a)]; rfl
  | n + 1 => by
    have ih := zcN_one ha hq h n
    by_cases e : n = a
    · subst e
      rw [zcN_t hq, zcN_f ha, ih, if_neg (Nat.lt_irrefl n), if_pos (Nat.lt_succ_self n)]
    · rw [zcN, zcN, ih, h n e]
      by_cases e2 : a < n
      · rw [if_pos e2, if_pos (show a < n + 1 by omega)]
        omega
      · rw [if_neg e2, if_neg (show ¬ a < n + 1 by omega)]
        omega
theorem zleases (hA : zAg A B) (hl : zLs A B) {c : Nat} (hc : c < 4) : zcN (zpr A c) 600 = zsm (zkt B c) 12 := by
  rw [show 600 = 50 * 12 from rfl, zcN_blk]
  refine zsm_cg 12 (fun d hd => ?_)
  unfold zkt
  rw [hA.k 3 (by decide), hA.1]
  by_cases hv : A.2 3 d = 1
  · rw [if_pos hv]
    refine zcN_cg 50 (fun n hn => ?_)
    unfold zpr zpt
    exact decide_eq_decide.mpr (hl.run hc hd hn hv).symm
  · rw [if_neg hv]
    refine zcN_0 50 (fun n hn => ?_)
    unfold zpr
    rw [decide_eq_true_iff]
    exact zltge ((hl c d n hc hd hn).2 hv)
theorem zfv2 {f : Nat} (hf : f < 30) : ¬ nI f = -1 := (zfv' f hf).2
theorem zfvd {f e : Nat} (hf : f < 30) (he : e < 12) : ¬ nI f = -2 - nI e := fun h => (zdv e he).1 (by rw [← h]; exact (zfv' f hf).1)
theorem zdvi {e e' : Nat} (he : e < 12) (he' : e' < 12) (h : (-2 - nI e : Int32) = -2 - nI e') : e = e' := by
  have h1 := (zdv e he).2.1
  rw [h, (zdv e' he').2.1] at h1
  exact ((nI_eq (by omega) (by omega)).mp h1).symm
theorem zJ.sn (h : zJ A t D F T L) : zSn A F := h.2.2.2.2.2.2.2.2.1
theorem zJ.dead (h : zJ A t D F T L) {d n : Nat} (hd : d < 12) (hn : n < 50) (hv : ¬ A.2 3 d = 1) : A.2 6 (50 * d + n) = -1 := (h.sn d n hd hn).elim id (fun g => absurd g.1 hv)
theorem zlinks (hJ : zJ A t D F T L) (hA : zAg A B) {f : Nat} (hf : f < 30) : zcN (zpl A (nI f)) 600 = zsm (zkl B (nI f)) 12 := by
  rw [show 600 = 50 * 12 from rfl, zcN_blk]
  refine zsm_cg 12 (fun d hd => ?_)
  unfold zkl
  rw [hA.k 3 (by decide)]
  by_cases hv : A.2 3 d = 1
  · rw [if_pos hv]
    unfold zpl zpf
    rw [hA.k 6 (by decide)]
  · rw [if_neg hv]
    refine zcN_0 50 (fun n hn => ?_)
    unfold zpl
    rw [decide_eq_true_iff, hJ.dead hd hn hv]
    exact fun e => zfv2 hf e.symm
theorem zHc.le {S : Nat → Int32} {d : Nat} {c : List Nat} (hc : zHc S d c) {h : Nat} (hh : h < 8) : S (8 * d + h) ≤ 0 ↔ S (8 * d + h) = 0 := by
  have h1 := (zcf_a c hc.1).1 h hh
  rw [hc.2 h hh]
  constructor
  · intro g
    have h2 : c.getD h 0 ≤ 0 := (nI_leI (by omega) (by decide)).mp (show nI (c.getD h 0) ≤ nI 0 from g)
    rw [show c.getD h 0 = 0 by omega]
    rfl
  · intro g
    rw [g]
    exact Int32.le_refl 0
theorem zJ.cf (h : zJ A t D F T L) : zCf A := h.2.2.2.2.2.2.2.1
theorem zJ.dz (h : zJ A t D F T L) : zDz A := h.2.2.2.2.2.2.1
theorem zJ.bas (h : zJ A t D F T L) : zBas A D := h.2.2.2.1
theorem zJ.le0 (h : zJ A t D F T L) {f : Nat} (hf : f < 96) : A.2 10 f ≤ 0 ↔ A.2 10 f = 0 := by
  by_cases hv : A.2 3 (f / 8) = 1
  · obtain ⟨c, hc⟩ := h.cf (f / 8) (by omega) hv
    have g := hc.le (h := f % 8) (by omega)
    rwa [show 8 * (f / 8) + f % 8 = f by omega] at g
  · have e : A.2 10 f = 0 := by
      by_cases e : A.2 10 f = 0
      · exact e
      · exact absurd (h.dz f hf e) hv
    rw [e]
    exact ⟨fun _ => rfl, fun _ => Int32.le_refl 0⟩
theorem zcount (h : zJ A t D F T L) (hA : zAg A B) {d : Nat} (hd : d < 12) : zcN (zps A d) 8 = zcN (zpz B d) 8 := by
  refine zcN_cg 8 (fun k hk => ?_)
  unfold zps zpz
  rw [hA.k 10 (by decide)]
  exact congrArg Bool.not (decide_eq_decide.mpr (h.le0 (f := 8 * d + k) (by omega)))
theorem zVf_i (h : zJ A t D F T L) (hA : zAg A B) {k : Nat} (hk : k < 96) : zVf B k ↔ ¬ A.2 10 k ≤ 0 := by
  unfold zVf
  rw [hA.k 3 (by decide), hA.k 10 (by decide), h.le0 hk]
  exact ⟨fun g => g.2, fun g => ⟨h.dz k hk g, g⟩⟩
theorem zload1 (h : zJ A t D F T L) (hA : zAg A B) (s : Int32) : ∀ k, k ≤ 96 → zlS A s k = zlc B s k
  | 0, _ => rfl
  | k + 1, hk => by
    have ih := zload1 h hA s k (by omega)
    rw [zlS, zlc, ih, hA.sv]
    by_cases g : ¬ A.2 10 k ≤ 0 ∧ zsv A k = s
    · rw [if_pos g, if_pos ⟨(zVf_i h hA (by omega)).mpr g.1, g.2⟩, hA.k 12 (by decide)]
    · rw [if_neg g, if_neg (fun z => g ⟨(zVf_i h hA (by omega)).mp z.1, z.2⟩), zadd0]
theorem zJ.al (h : zJ A t D F T L) {d : Nat} (hd : d < 12) (hv : A.2 3 d = 1) : d < D := by
  rcases h.bas.2.2.2 d hd with g | g
  · exact g.2
  · rw [g] at hv
    exact absurd hv (by decide)
theorem zJ.gap (h : zJ A t D F T L) {f : Nat} (hf : f < 96) (hD : 8 * D ≤ f) : A.2 10 f = 0 := by
  by_cases e : A.2 10 f = 0
  · exact e
  · have := h.al (d := f / 8) (by omega) (h.dz f hf e)
    omega
theorem zload2 (h : zJ A t D F T L) (s : Int32) : ∀ n, 8 * D + n ≤ 96 → zlS A s (8 * D + n) = zlS A s (8 * D)
  | 0, _ => rfl
  | n + 1, hn => by
    show zlS A s (8 * D + n) + (if ¬ A.2 10 (8 * D + n) ≤ 0 ∧ zsv A (8 * D + n) = s then A.2 12 (8 * D + n) else nI 0) = _
    rw [zload2 h s n (by omega), if_neg (fun z => z.1 (by rw [h.gap (by omega) (by omega)]; exact Int32.le_refl 0)), zadd0]
theorem zload (h : zJ A t D F T L) (hA : zAg A B) (s : Int32) : zlS A s (8 * D) = zlc B s 96 := by
  have h1 := h.bas.2.2.1
  rw [← zload1 h hA s 96 (Nat.le_refl _)]
  have h2 := zload2 h s (96 - 8 * D) (by omega)
  rw [show 8 * D + (96 - 8 * D) = 96 by omega] at h2
  exact h2.symm
/-! the anchor -/
def zcb (A : ZA) (o p : Option Nat) : Option Nat := match p with
  | none => o
  | some j => match o with
    | none => some j
    | some i => if A.2 7 i ≤ A.2 7 j then some i else some j
theorem zAn_f {A : ZA} {f : Int32} : ∀ {k j : Nat}, zAn A f k = some j → A.2 6 j = f
  | 0, _, h => nomatch h
  | k + 1, j, h => by
    unfold zAn at h
    split at h
    · rename_i h1
      split at h
      · cases h; exact h1
      · rename_i i hi
        split at h
        · cases h; exact zAn_f hi
        · cases h; exact h1
    · exact zAn_f h
theorem zOl_f {B : ZA} {d : Nat} {f : Int32} : ∀ {k j : Nat}, zOl B d f k = some j → B.2 6 (50 * d + j) = f
  | 0, _, h => nomatch h
  | k + 1, j, h => by
    unfold zOl at h
    split at h
    · rename_i h1
      split at h
      · cases h; exact h1
      · rename_i i hi
        split at h
        · cases h; exact zOl_f hi
        · cases h; exact h1
    · exact zOl_f h
/-- the ages of two links to a file compare alike on both sides -/
theorem zAe.cmp (he : zAe A B L) (hL : L ≤ 600) {f i j : Nat} (hf : f < 30) (hi : i < 600) (hj : j < 600) (e1 : A.2 6 i = nI f) (e2 : A.2 6 j = nI f) : (B.2 7 i ≤ B.2 7 j ↔ A.2 7 i ≤ A.2 7 j) := by
  obtain ⟨a, a1, a2, a3⟩ := he i f hi hf e1
  obtain ⟨b, b1, b2, b3⟩ := he j f hj hf e2
  rw [a2, a3, b2, b3, nI_leI (by omega) (by omega), nI_leI (by omega) (by omega)]
  omega
theorem zanc1 (hA : zAg A B) (he : zAe A B L) (hL : L ≤ 600) {f d : Nat} (hf : f < 30) (hd : d < 12) : ∀ m, m ≤ 50 → zAn A (nI f) (50 * d + m) = zcb A (zAn A (nI f) (50 * d)) ((zOl B d (nI f) m).map (fun j => 50 * d + j))
  | 0, _ => rfl
  | m + 1, hm => by
    have ih := zanc1 hA he hL hf hd m (by omega)
    show zAn A (nI f) (50 * d + m + 1) = _
    rw [zAn, zOl, hA.k 6 (by decide), ih]
    by_cases h1 : A.2 6 (50 * d + m) = nI f
    · rw [if_pos h1, if_pos h1]
      cases ho : zOl B d (nI f) m with
      | none =>
        cases hp : zAn A (nI f) (50 * d) with
        | none => rfl
        | some i => rfl
      | some j =>
        have hj := zOl_lt ho
        have hjf : A.2 6 (50 * d + j) = nI f := by rw [← hA.k 6 (by decide)]; exact zOl_f ho
        have c1 := he.cmp hL hf (i := 50 * d + j) (j := 50 * d + m) (by omega) (by omega) hjf h1
        cases hp : zAn A (nI f) (50 * d) with
        | none =>
          by_cases g : A.2 7 (50 * d + j) ≤ A.2 7 (50 * d + m)
          · simp only [zcb, Option.map_some, if_pos g, if_pos (c1.mpr g)]
          · simp only [zcb, Option.map_some, if_neg g, if_neg (fun z => g (c1.mp z))]
        | some i =>
          by_cases g : A.2 7 (50 * d + j) ≤ A.2 7 (50 * d + m)
          · by_cases g2 : A.2 7 i ≤ A.2 7 (50 * d + j)
            · simp only [zcb, Option.map_some, if_pos g, if_pos (c1.mpr g), if_pos g2, if_pos (Int32.le_trans g2 g)]
            · simp only [zcb, Option.map_some, if_pos g, if_pos (c1.mpr g), if_neg g2]
          · by_cases g2 : A.2 7 i ≤ A.2 7 (50 * d + j)
            · simp only [zcb, Option.map_some, if_neg g, if_neg (fun z => g (c1.mp z)), if_pos g2]
            · have g3 : ¬ A.2 7 i ≤ A.2 7 (50 * d + m) := fun z => g2 (Int32.le_trans z (Int32.le_of_lt (Int32.not_le.mp g)))
              simp only [zcb, Option.map_some, if_neg g, if_neg (fun z => g (c1.mp z)), if_neg g2, if_neg g3]
    · rw [if_neg h1, if_neg h1]
/-- both sides have found the same link -/
def zsl (B : ZA) (o : Option Nat) (p : Option (Nat × Int32)) : Prop := (o = none ∧ p = none) ∨ ∃ i, o = some i ∧ p = some (100 * (i / 50) + i % 50, B.2 7 i)
theorem zanc2 (hJ : zJ A t D F T L) (hA : zAg A B) (he : zAe A B L) (hL : L ≤ 600) {f : Nat} (hf : f < 30) : ∀ k, k ≤ 12 → zsl B (zAn A (nI f) (50 * k)) (zac B (nI f) k)
  | 0, _ => Or.inl ⟨rfl, rfl⟩
  | k + 1, hk => by
    have ih := zanc2 hJ hA he hL hf k (by omega)
    have h1 := zanc1 hA he hL hf (d := k) (by omega) 50 (Nat.le_refl _)
    rw [Nat.mul_succ, h1, zac, hA.k 3 (by decide)]
    by_cases hv : A.2 3 k = 1
    · rw [if_pos hv]
      cases ho : zOl B k (nI f) 50 with
      | none => exact ih
      | some j =>
        have hj := zOl_lt ho
        have hjf : A.2 6 (50 * k + j) = nI f := by rw [← hA.k 6 (by decide)]; exact zOl_f ho
        have e1 : 100 * ((50 * k + j) / 50) + (50 * k + j) % 50 = 100 * k + j := by omega
        rcases ih with ⟨i1, i2⟩ | ⟨i, i1, i2⟩
        · rw [i1, i2]
          exact Or.inr ⟨50 * k + j, rfl, by rw [e1]⟩
        · have hi := zAn_lt i1
          have c1 := he.cmp hL hf (i := i) (j := 50 * k + j) (by omega) (by omega) (zAn_f i1) hjf
          rw [i1, i2]
          by_cases g : A.2 7 i ≤ A.2 7 (50 * k + j)
          · simp only [zcb, Option.map_some, if_pos g, if_pos (c1.mpr g)]
            exact Or.inr ⟨i, rfl, rfl⟩
          · simp only [zcb, Option.map_some, if_neg g, if_neg (fun z => g (c1.mp z))]
            exact Or.inr ⟨50 * k + j, rfl, by rw [e1]⟩
    · rw [if_neg hv]
      cases ho : zOl B k (nI f) 50 with
      | none => exact ih
      | some j =>
        have hj := zOl_lt ho
        have hjf : A.2 6 (50 * k + j) = nI f := by rw [← hA.k 6 (by decide)]; exact zOl_f ho
        rw [hJ.dead (by omega) hj hv] at hjf
        exact absurd hjf.symm (zfv2 hf)
end ZSE
end
section
/-! calls on both sides: what is only asked, time, and moves -/
section ZSF
variable {A B : ZA} {t D F T L : Nat}
theorem zBad_c {c d n : Int32} {k : Nat} (h : zBad A c d n k) : (k = 0 + 1 ∧ zen k = zIAE) ∨ (k = 1 + 1 ∧ zen k = zIOB) := by
  rcases h with ⟨rfl, -⟩ | ⟨rfl, -⟩
  · exact Or.inl ⟨rfl, rfl⟩
  · exact Or.inr ⟨rfl, rfl⟩
theorem zBh_c {l : Nat} {d n : Int32} {k : Nat} (h : zBh A l d n k) : (k = 0 + 1 ∧ zen k = zIAE) ∨ (k = 1 + 1 ∧ zen k = zIOB) := by
  rcases h with ⟨rfl, -⟩ | ⟨rfl, -⟩
  · exact Or.inl ⟨rfl, rfl⟩
  · exact Or.inr ⟨rfl, rfl⟩
/-- refused for an argument, or for a directory -/
theorem zSim.kn {y2 y3 : ZY} {As : List Value} {r : Int32 → Option Value} {f : List String} {k : Nat} (hk : (k = 0 + 1 ∧ zen k = zIAE) ∨ (k = 1 + 1 ∧ zen k = zIOB)) (h : zRS A B t) (hf : f[0]? = some zIAE ∧ f[1]? = some zIOB) (v : Int32) (h2 : ∀ (G : ZG) (M : ZM) (W : Nat → Nat → Nat), zC M W B → zMet G y2 (.ref (W 10 0) :: As) M (zthr (zen k) M)) (h3 : ∀ (G : ZG) (M : ZM) (x : Nat) (q : Nat → Nat) (w : Int32), zR M x q w A → zMet G y3 (.ref x :: As) M (zRP x q M (r v) (nI k) A)) : zSim y2 y3 As A B t r f := by
  rcases hk with ⟨rfl, e⟩ | ⟨rfl, e⟩
  · rw [e] at h2
    exact zSim.no 0 zIAE v h hf.1 h2 h3
  · rw [e] at h2
    exact zSim.no 1 zIOB v h hf.2 h2 h3
theorem zJ.fl (h : zJ A t D F T L) : A.1 9 = nI F ∧ F ≤ 30 := h.2.2.1
theorem zLs.le (h : zLs A B) {A' B' : ZA} (h1 : A.1 1 ≤ A'.1 1) (h3 : A'.2 3 = A.2 3) (ha : A'.2 13 = A.2 13) (hb : B'.2 13 = B.2 13) : zLs A' B' := by
  intro c d n k1 k2 k3
  have g := h c d n k1 k2 k3
  rw [h3, ha, hb]
  exact ⟨fun z => (g.1 z).imp id (fun y => ⟨Int32.le_trans y.1 h1, Int32.le_trans y.2 h1⟩), fun z => Int32.le_trans (g.2 z) h1⟩
theorem zJ.lookup (hA : zAg A B) (hl : zLs A B) {c d n : Nat} (hc : c < 4) (hd : d < 12) (hn : n < 50) (hv : A.2 3 d = 1) : zAg (zLk A c d n) (zLk B c d n) ∧ zLs (zLk A c d n) (zLk B c d n) := by
  have hr := hl.run hc hd hn hv
  unfold zLk
  rw [hA.1]
  by_cases h1 : A.1 1 < A.2 13 (600 * c + (50 * d + n))
  · rw [if_pos h1, if_pos (hr.mpr h1), hA.k 15 (by decide)]
    exact ⟨hA.sa _ _ _, hl.cg rfl (zsa_n _ _ _ _ _ (by decide)) (zsa_n _ _ _ _ _ (by decide)) (zsa_n _ _ _ _ _ (by decide))⟩
  · rw [if_neg h1, if_neg (fun z => h1 (hr.mp z)), hA.fn, hA.k 12 (by decide)]
    have g : zLs (zsa A 12 (zfn A d n) (A.2 12 (zfn A d n) + nI 1)) (zsa B 12 (zfn A d n) (A.2 12 (zfn A d n) + nI 1)) := hl.cg rfl (zsa_n _ _ _ _ _ (by decide)) (zsa_n _ _ _ _ _ (by decide)) (zsa_n _ _ _ _ _ (by decide))
    refine ⟨(hA.sa 12 _ _).sa 13 _ _, g.set (Or.inl rfl) (fun c' d' n' _ h2 h3 e => ?_)⟩
    rw [zsa_n _ _ _ _ _ (by decide), (zdj h2 h3 hd hn e).2.1]
    exact hv
theorem zLk_1 (A : ZA) (c d n : Nat) : (zLk A c d n).1 = A.1 := by
  unfold zLk
  split <;> rfl
theorem zLk_2 (A : ZA) (c d n : Nat) {i : Nat} (h1 : i ≠ 12) (h2 : i ≠ 13) (h3 : i ≠ 15) : (zLk A c d n).2 i = A.2 i := by
  unfold zLk
  split
  · rw [zsa_n _ _ _ _ _ h3]
  · rw [zsa_n _ _ _ _ _ h2, zsa_n _ _ _ _ _ h1]
theorem zLk_13 (A : ZA) (c d n : Nat) {j : Nat} (h : j ≠ 600 * c + (50 * d + n)) : (zLk A c d n).2 13 j = A.2 13 j := by
  unfold zLk
  split
  · rw [zsa_n _ _ _ _ _ (by decide)]
  · rw [zsa_2, if_neg (fun z => h z.2), zsa_n _ _ _ _ _ (by decide)]
end ZSF
end
section
/-! calls on both sides: moves -/
section ZSG
variable {A B A' B' : ZA} {t D F T L : Nat}
theorem zOn_m1 {s : Int32} {k : Nat} (hk : k < 2 ^ 30) (h : zOn s k) : ¬ s = -1 := by
  obtain ⟨j, hj, rfl⟩ := h
  exact nI_ne1 (by omega)
theorem zHc.gz {S : Nat → Int32} {d : Nat} {c : List Nat} (hc : zHc S d c) {h : Nat} (hh : h < 8) : ¬ S (8 * d + zfg S d h) = 0 := by
  have h1 := zgN_le c h
  rw [hc.g hh, hc.z (by omega)]
  have := (zcf_s c hc.1 h hh).1
  omega
/-- where a move begins -/
theorem zRS.mo (hJ : zJ A t D F T L) (hA : zAg A B) (hl : zLs A B) (he : zAe A B L) (hu : zUm B D) {f : Nat} (hf : f < 96) (hv : A.2 3 (f / 8) = 1) (hz : ¬ A.2 10 f = 0) {s : Int32} (hs : ¬ s = -1) : zJ (zMo A (nI f) s) (t + 1) D F T L ∧ zAg (zMo A (nI f) s) (zMo B (nI f) s) ∧ zLs (zMo A (nI f) s) (zMo B (nI f) s) ∧ zAe (zMo A (nI f) s) (zMo B (nI f) s) L ∧ zUm (zMo B (nI f) s) D :=
  ⟨hJ.cg rfl rfl rfl rfl rfl rfl ⟨hJ.1.1, by have := hJ.1.2; omega⟩ ⟨hJ.2.1.1, by have := hJ.2.1.2; omega⟩ rfl rfl (Or.inr ⟨f, hf, rfl, hv, hz, hs⟩), ((hA.sc 16 _).sc 17 _).sc 18 _, hl.cg rfl rfl rfl rfl, he.cg rfl rfl rfl, hu.cg rfl rfl rfl⟩
theorem zMo_val {f s : Int32} {i j : Nat} : zVal (zMo A f s) i j ↔ zVal A i j := Iff.rfl
/-- all leases on frozen names end: a directory -/
theorem zrc1 {X Y : ZA} (hs : zSme A X) (hA : zAg X Y) (hl : zLs X Y) {d : Nat} (hd : d < 12) (hv : A.2 3 d = 1) (h0 : nI 0 ≤ A.1 1) (hX : zRc A (50 * d) = X) : ∀ n, n ≤ 50 → zAg (zRc A (50 * d + n)) (zrf Y d n) ∧ zLs (zRc A (50 * d + n)) (zrf Y d n)
  | 0, _ => by
    show zAg (zRc A (50 * d)) Y ∧ zLs (zRc A (50 * d)) Y
    rw [hX]
    exact ⟨hA, hl⟩
  | n + 1, hn => by
    have ih := zrc1 hs hA hl hd hv h0 hX n (by omega)
    have e : zfz Y (zfn Y d n) = zfz A (zfn A d n) := by
      rw [hA.fz, hA.fn, hs.fn]
      exact hs.fz 12 _
    have e1 : (50 * d + n) / 50 = d := by omega
    have e2 : (50 * d + n) % 50 = n := by omega
    show zAg (zRc A (50 * d + n + 1)) (zrf Y d (n + 1)) ∧ zLs (zRc A (50 * d + n + 1)) (zrf Y d (n + 1))
    rw [zRc, zrf, e, e1, e2]
    have hs2 := zRc_sme A (50 * d + n)
    by_cases g : zfz A (zfn A d n) = true
    · rw [if_pos ⟨hv, g⟩, if_pos g]
      exact zEl ih.1 ih.2 hd (by omega) (by rw [hs2.2 3 (by decide) (by decide)]; exact hv) (-1) (by rw [hs2.1]; exact h0) 4 (Nat.le_refl _)
    · rw [if_neg (fun z => g z.2), if_neg g]
      exact ih
theorem zrc0 {d : Nat} (hv : ¬ A.2 3 d = 1) : ∀ n, n ≤ 50 → zRc A (50 * d + n) = zRc A (50 * d)
  | 0, _ => rfl
  | n + 1, hn => by
    show zRc A (50 * d + n + 1) = _
    rw [zRc, if_neg (fun z => hv (by have := z.1; rwa [show (50 * d + n) / 50 = d by omega] at this)), zrc0 hv n (by omega)]
theorem zrc2 (hA : zAg A B) (hl : zLs A B) (h0 : nI 0 ≤ A.1 1) : ∀ k, k ≤ 12 → zAg (zRc A (50 * k)) (zra B k) ∧ zLs (zRc A (50 * k)) (zra B k)
  | 0, _ => ⟨hA, hl⟩
  | k + 1, hk => by
    have ih := zrc2 hA hl h0 k (by omega)
    rw [zra, hA.k 3 (by decide), Nat.mul_succ]
    by_cases hv : A.2 3 k = 1
    · rw [if_pos hv]
      exact zrc1 (zRc_sme A (50 * k)) ih.1 ih.2 (by omega) hv h0 rfl 50 (Nat.le_refl _)
    · rw [if_neg hv, zrc0 hv 50 (Nat.le_refl _)]
      exact ih
theorem zrc3 (h : ∀ d, d < 12 → D ≤ d → ¬ A.2 3 d = 1) : ∀ n, D + n ≤ 12 → zRc A (50 * (D + n)) = zRc A (50 * D)
  | 0, _ => rfl
  | n + 1, hn => by
    rw [show 50 * (D + (n + 1)) = 50 * (D + n) + 50 by omega, zrc0 (h (D + n) (by omega) (by omega)) 50 (Nat.le_refl _)]
    exact zrc3 h n (by omega)
theorem zSme.val' (h : zSme A A') : ∀ i j, zVal A' i j → zVal A i j := fun _ _ hv => h.val.mp hv
theorem zNv.cgm (h : zNv B D) (h6 : B'.2 6 = B.2 6) (h7 : B'.2 7 = B.2 7) (h13 : ∀ c k, c < 4 → k < 50 → B'.2 13 (600 * c + (50 * D + k)) = B.2 13 (600 * c + (50 * D + k))) : zNv B' D := fun k hk => by
  obtain ⟨h1, h2, h3⟩ := h k hk
  exact ⟨by rw [h6]; exact h1, by rw [h7]; exact h2, fun c hc => by rw [h13 c k hc hk]; exact h3 c hc⟩
/-- .. nothing there of directories that are not there -/
theorem zrf_13 (B : ZA) {d e : Nat} (hd : d < 12) (he : e < 12) (hne : d ≠ e) {c k : Nat} (hc : c < 4) (hk : k < 50) : ∀ n, n ≤ 50 → (zrf B d n).2 13 (600 * c + (50 * e + k)) = B.2 13 (600 * c + (50 * e + k))
  | 0, _ => rfl
  | n + 1, hn => by
    have ih := zrf_13 B hd he hne hc hk n (by omega)
    unfold zrf
    split
    · rw [zel_13 _ _ _ 4 (fun c' _ => by omega)]
      exact ih
    · exact ih
theorem zra_13 (B : ZA) {e : Nat} (he : e < 12) (hv : ¬ B.2 3 e = 1) {c k : Nat} (hc : c < 4) (hk : k < 50) : ∀ n, n ≤ 12 → (zra B n).2 13 (600 * c + (50 * e + k)) = B.2 13 (600 * c + (50 * e + k))
  | 0, _ => rfl
  | n + 1, hn => by
    have ih := zra_13 B he hv hc hk n (by omega)
    unfold zra
    split
    · rename_i h1
      rw [zrf_13 _ (by omega) he (fun z => hv (by rw [← z]; exact h1)) hc hk 50 (Nat.le_refl _)]
      exact ih
    · exact ih
theorem zSt1_j (hJ : zJ A t D F T L) : zJ (zSt1 A) (t + 1) D F T L := hJ.cg rfl rfl rfl rfl rfl rfl ⟨hJ.1.1, by have := hJ.1.2; omega⟩ ⟨hJ.2.1.1, by have := hJ.2.1.2; omega⟩ rfl rfl (hJ.mm.cg rfl rfl rfl rfl)
theorem zSt1_a (hA : zAg A B) : zAg (zSt1 A) (zSt1 B) := by
  unfold zSt1
  rw [hA.1]
  exact hA.sc _ _
/-- an owner changes -/
theorem zJ.own (h : zJ A t D F T L) {m : Nat} {s : Int32} (hs : ¬ s = -1) : zJ (zsa A 11 m s) t D F T L := by
  obtain ⟨j1, j2, j3, j4, j5, j6, j7, j8, j9, j10, j11⟩ := h
  refine ⟨j1, j2, j3, j4, ⟨j5.1, fun y h1 h2 => ?_⟩, fun d h1 h2 => (zDp.cg rfl rfl rfl 11 d).mpr (j6 d h1 h2), j7, j8, j9, j10, j11⟩
  rw [zsa_2]
  by_cases e : y = m
  · rw [if_pos ⟨rfl, e⟩]
    exact hs
  · rw [if_neg (fun z => e z.2)]
    exact j5.2 y h1 h2
end ZSG
end
section
/-! calls on both sides: fragments -/
section ZSH
variable {A B A' B' : ZA} {t D F T L : Nat}
theorem zHc.cg {S S' : Nat → Int32} {d : Nat} {c : List Nat} (hc : zHc S d c) (h : ∀ y, y < 8 → S' (8 * d + y) = S (8 * d + y)) : zHc S' d c := ⟨hc.1, fun y hy => by rw [h y hy]; exact hc.2 y hy⟩
/-- where the fragments alone change -/
theorem zJ.mkf (h : zJ A t D F T L) (h1 : A'.1 = A.1) (h3 : A'.2 3 = A.2 3) (h4 : A'.2 4 = A.2 4) (h5 : A'.2 5 = A.2 5) (h6 : A'.2 6 = A.2 6) (hF : zFr A') (hz : zDz A') (hc : zCf A') (hm : zMm A') : zJ A' (t + 1) D F T L := by
  obtain ⟨j1, j2, j3, j4, j5, j6, j7, j8, j9, j10, j11⟩ := h
  refine ⟨by rw [h1]; exact ⟨j1.1, by have := j1.2; omega⟩, by rw [h1]; exact ⟨j2.1, by have := j2.2; omega⟩, by rw [h1]; exact j3, by unfold zBas; rw [h1, h3]; exact j4, hF, fun d g1 g2 => (zDp.cg h3 h4 h5 11 d).mpr (j6 d g1 (by rw [← h3]; exact g2)), hz, hc, ?_, ?_, hm⟩
  · intro d n g1 g2
    have g := j9 d n g1 g2
    rw [h6, h3]
    rcases g with g | ⟨g0, g | ⟨e, q1, q2, q3, q4, q5, q6⟩⟩
    · exact Or.inl g
    · exact Or.inr ⟨g0, Or.inl g⟩
    · exact Or.inr ⟨g0, Or.inr ⟨e, q1, q2, q3, q4, (zpar.cg h4 e).trans q5, (znam.cg h5 e).trans q6⟩⟩
  · intro e g1 g2 g3
    rw [h6, zpar.cg h4, znam.cg h5]
    exact j10 e g1 g2 (by rw [← h3]; exact g3)
theorem zSp_n (A : ZA) (f s : Nat) {i : Nat} (h10 : i ≠ 10) (h11 : i ≠ 11) (h12 : i ≠ 12) : (zSp A f s).2 i = A.2 i := by
  unfold zSp
  rw [zsa_n _ _ _ _ _ h12, zsa_n _ _ _ _ _ h12, zsa_n _ _ _ _ _ h11, zsa_n _ _ _ _ _ h10, zsa_n _ _ _ _ _ h10]
theorem zSp_10 (A : ZA) (f s j : Nat) : (zSp A f s).2 10 j = if j = f + s / 2 then nI (s / 2) else if j = f then nI (s / 2) else A.2 10 j := by
  unfold zSp
  rw [zsa_n _ _ _ _ _ (by decide), zsa_n _ _ _ _ _ (by decide), zsa_n _ _ _ _ _ (by decide), zsa_2, zsa_2]
  by_cases h1 : j = f + s / 2
  · rw [if_pos ⟨rfl, h1⟩, if_pos h1]
  · rw [if_neg (fun z => h1 z.2), if_neg h1]
    by_cases h2 : j = f
    · rw [if_pos ⟨rfl, h2⟩, if_pos h2]
    · rw [if_neg (fun z => h2 z.2), if_neg h2]
theorem zSp_11 (A : ZA) (f s j : Nat) : (zSp A f s).2 11 j = if j = f + s / 2 then A.2 11 f else A.2 11 j := by
  unfold zSp
  rw [zsa_n _ _ _ _ _ (by decide), zsa_n _ _ _ _ _ (by decide), zsa_2]
  by_cases h1 : j = f + s / 2
  · rw [if_pos ⟨rfl, h1⟩, if_pos h1]
  · rw [if_neg (fun z => h1 z.2), if_neg h1, zsa_n _ _ _ _ _ (by decide), zsa_n _ _ _ _ _ (by decide)]
theorem zAg.sp (hA : zAg A B) (f s : Nat) : zAg (zSp A f s) (zSp B f s) := by
  unfold zSp
  rw [hA.k 11 (by decide), hA.k 12 (by decide)]
  exact ((((hA.sa 10 _ _).sa 10 _ _).sa 11 _ _).sa 12 _ _).sa 12 _ _
theorem zJ.fr (h : zJ A t D F T L) : zFr A := h.2.2.2.2.1
theorem zJ.sp (h : zJ A t D F T L) {d g s : Nat} {c : List Nat} (hd : d < 12) (hv : A.2 3 d = 1) (hc : zHc (A.2 10) d c) (es : A.2 10 (8 * d + g) = nI s) (s2 : g + s ≤ 8) (s4 : 1 ≤ s / 2) (s6 : zcS c g s ∈ zcfs) : zJ (zSp A (8 * d + g) s) (t + 1) D F T L := by
  have hc' := hc.sp (A := A) (g := g) (s := s) (by omega) (by omega) s6
  have ez : ¬ A.2 10 (8 * d + g) = 0 := by rw [es]; exact nI_ne0 (by omega) (by omega)
  have ez2 : ¬ nI (s / 2) = 0 := nI_ne0 (by omega) (by omega)
  have e3 := zSp_n A (8 * d + g) s (i := 3) (by decide) (by decide) (by decide)
  have hot : ∀ e y, y < 8 → ¬ e = d → (zSp A (8 * d + g) s).2 10 (8 * e + y) = A.2 10 (8 * e + y) := fun e y hy hne => by rw [zSp_10, if_neg (by omega), if_neg (by omega)]
  refine h.mkf rfl e3 (zSp_n A _ _ (by decide) (by decide) (by decide)) (zSp_n A _ _ (by decide) (by decide) (by decide)) (zSp_n A _ _ (by decide) (by decide) (by decide)) ⟨fun e h1 h2 => ?_, fun y h1 h2 => ?_⟩ (fun f h1 h2 => ?_) (fun e h1 h2 => ?_) ?_
  · rw [e3] at h2
    by_cases hne : e = d
    · subst hne
      exact fun z => (zcf_a _ s6).2 ((hc'.z (h := 0) (by decide)).mp z)
    · have := hot e 0 (by decide) hne
      rw [Nat.add_zero] at this
      rw [this]
      exact h.fr.1 e h1 h2
  · rw [zSp_11]
    rw [zSp_10] at h2
    by_cases q1 : y = 8 * d + g + s / 2
    · rw [if_pos q1]
      exact h.fr.2 _ (by omega) ez
    · rw [if_neg q1]
      rw [if_neg q1] at h2
      by_cases q2 : y = 8 * d + g
      · rw [q2]
        exact h.fr.2 _ (by omega) ez
      · rw [if_neg q2] at h2
        exact h.fr.2 y h1 h2
  · rw [e3]
    rw [zSp_10] at h2
    by_cases q1 : f = 8 * d + g + s / 2
    · rw [show f / 8 = d by omega]
      exact hv
    · by_cases q2 : f = 8 * d + g
      · rw [show f / 8 = d by omega]
        exact hv
      · rw [if_neg q1, if_neg q2] at h2
        exact h.dz f h1 h2
  · rw [e3] at h2
    by_cases hne : e = d
    · subst hne
      exact ⟨_, hc'⟩
    · obtain ⟨c2, hc2⟩ := h.cf e h1 h2
      exact ⟨c2, hc2.cg (fun y hy => hot e y hy hne)⟩
  · rcases h.mm with q | ⟨m, q1, q2, q3, q4, q5⟩
    · exact Or.inl q
    · refine Or.inr ⟨m, q1, q2, by rw [e3]; exact q3, ?_, q5⟩
      rw [zSp_10]
      split
      · exact ez2
      · split
        · exact ez2
        · exact q4
theorem zMg_n (A : ZA) (f s : Nat) {i : Nat} (h10 : i ≠ 10) (h12 : i ≠ 12) : (zMg A f s).2 i = A.2 i := by
  unfold zMg
  rw [zsa_n _ _ _ _ _ h12, zsa_n _ _ _ _ _ h10, zsa_n _ _ _ _ _ h10]
theorem zMg_10 (A : ZA) (f s j : Nat) : (zMg A f s).2 10 j = if j = f + s then nI 0 else if j = f then nI (2 * s) else A.2 10 j := by
  unfold zMg
  rw [zsa_n _ _ _ _ _ (by decide), zsa_2, zsa_2]
  by_cases h1 : j = f + s
  · rw [if_pos ⟨rfl, h1⟩, if_pos h1]
  · rw [if_neg (fun z => h1 z.2), if_neg h1]
    by_cases h2 : j = f
    · rw [if_pos ⟨rfl, h2⟩, if_pos h2]
    · rw [if_neg (fun z => h2 z.2), if_neg h2]
theorem zAg.mg (hA : zAg A B) (f s : Nat) : zAg (zMg A f s) (zMg B f s) := by
  unfold zMg
  rw [hA.k 12 (by decide)]
  exact ((hA.sa 10 _ _).sa 10 _ _).sa 12 _ _
theorem zJ.mg (h : zJ A t D F T L) {d g s : Nat} {c : List Nat} (hd : d < 12) (hv : A.2 3 d = 1) (hc : zHc (A.2 10) d c) (es : A.2 10 (8 * d + g) = nI s) (s1 : 1 ≤ s) (s2 : g + s + s ≤ 8) (hz : ¬ zfz A (8 * d + g + s) = true) (s6 : zcM c g s ∈ zcfs) : zJ (zMg A (8 * d + g) s) (t + 1) D F T L := by
  have hc' := hc.mg (A := A) (g := g) (s := s) (by omega) (by omega) s6
  have ez : ¬ A.2 10 (8 * d + g) = 0 := by rw [es]; exact nI_ne0 (by omega) (by omega)
  have ez2 : ¬ nI (2 * s) = 0 := nI_ne0 (by omega) (by omega)
  have e3 := zMg_n A (8 * d + g) s (i := 3) (by decide) (by decide)
  have hot : ∀ e y, y < 8 → ¬ e = d → (zMg A (8 * d + g) s).2 10 (8 * e + y) = A.2 10 (8 * e + y) := fun e y hy hne => by rw [zMg_10, if_neg (by omega), if_neg (by omega)]
  refine h.mkf rfl e3 (zMg_n A _ _ (by decide) (by decide)) (zMg_n A _ _ (by decide) (by decide)) (zMg_n A _ _ (by decide) (by decide)) ⟨fun e h1 h2 => ?_, fun y h1 h2 => ?_⟩ (fun f h1 h2 => ?_) (fun e h1 h2 => ?_) ?_
  · rw [e3] at h2
    by_cases hne : e = d
    · subst hne
      exact fun z => (zcf_a _ s6).2 ((hc'.z (h := 0) (by decide)).mp z)
    · have := hot e 0 (by decide) hne
      rw [Nat.add_zero] at this
      rw [this]
      exact h.fr.1 e h1 h2
  · rw [zMg_n A _ _ (by decide) (by decide)]
    rw [zMg_10] at h2
    by_cases q1 : y = 8 * d + g + s
    · rw [if_pos q1] at h2
      exact absurd rfl h2
    · rw [if_neg q1] at h2
      by_cases q2 : y = 8 * d + g
      · rw [q2]
        exact h.fr.2 _ (by omega) ez
      · rw [if_neg q2] at h2
        exact h.fr.2 y h1 h2
  · rw [e3]
    rw [zMg_10] at h2
    by_cases q1 : f = 8 * d + g + s
    · rw [show f / 8 = d by omega]
      exact hv
    · by_cases q2 : f = 8 * d + g
      · rw [show f / 8 = d by omega]
        exact hv
      · rw [if_neg q1, if_neg q2] at h2
        exact h.dz f h1 h2
  · rw [e3] at h2
    by_cases hne : e = d
    · subst hne
      exact ⟨_, hc'⟩
    · obtain ⟨c2, hc2⟩ := h.cf e h1 h2
      exact ⟨c2, hc2.cg (fun y hy => hot e y hy hne)⟩
  · rcases h.mm with q | ⟨m, q1, q2, q3, q4, q5⟩
    · exact Or.inl q
    · refine Or.inr ⟨m, q1, q2, by rw [e3]; exact q3, ?_, q5⟩
      rw [zMg_10]
      split
      · rename_i e
        rw [← e] at hz
        exact absurd (zfzN_at (by rw [q2]; exact nI_ne1 (by omega)) q2.symm 11) hz
      · split
        · exact ez2
        · exact q4
end ZSH
end
section
/-! calls on both sides: merge, balance -/
section ZSI
variable {A B A' B' : ZA} {t D F T L : Nat}
theorem zRS.mg (hJ : zJ A t D F T L) (hA : zAg A B) (hl : zLs A B) (he : zAe A B L) (hu : zUm B D) {f s : Nat} (hJ' : zJ (zMg A f s) (t + 1) D F T L) : zRS (zMg A f s) (zMg B f s) (t + 1) := ⟨D, F, T, L, hJ', hA.mg f s, hl.cg rfl (zMg_n A _ _ (by decide) (by decide)) (zMg_n A _ _ (by decide) (by decide)) (zMg_n B _ _ (by decide) (by decide)), he.cg (zMg_n A _ _ (by decide) (by decide)) (zMg_n A _ _ (by decide) (by decide)) (zMg_n B _ _ (by decide) (by decide)), hu.cg (zMg_n B _ _ (by decide) (by decide)) (zMg_n B _ _ (by decide) (by decide)) (zMg_n B _ _ (by decide) (by decide))⟩
theorem zMg_val {d f s : Nat} (hs : 1 ≤ s ∧ s ≤ 4) (hf : ¬ B.2 10 f = 0) : ∀ i j, zVal (zMg B f s) i j → zVal B i j := by
  intro i j h
  have e3 := zMg_n B f s (i := 3) (by decide) (by decide)
  by_cases hi : i = 9
  · subst hi
    refine ⟨h.1, by rw [← e3]; exact h.2.1, fun e => h.2.2 ?_⟩
    rw [zMg_10]
    split
    · rfl
    · split
      · rename_i q
        rw [q] at e
        exact absurd e hf
      · exact e
  · match i, hi, h with
    | 0, _, h => exact h
    | 1, _, h => exact h
    | 2, _, h => exact h
    | 3, _, h => exact ⟨h.1, by rw [← e3]; exact h.2⟩
    | 4, _, h => exact ⟨h.1, by rw [← e3]; exact h.2⟩
    | 5, _, h => exact ⟨h.1, by rw [← e3]; exact h.2⟩
    | 6, _, h => exact ⟨h.1, by rw [← e3]; exact h.2⟩
    | 7, _, h => exact ⟨h.1, by rw [← e3]; exact h.2⟩
    | 8, _, h => exact ⟨h.1, by rw [← e3]; exact h.2⟩
    | 9, hi, _ => exact absurd rfl hi
    | 10, _, h => exact h
    | i + 11, _, h => exact absurd h.lt (by omega)
/-! balance -/
theorem zi_1 {v : Int32} : ¬ v ≤ nI 0 ↔ ¬ v < 1 := by
  rw [Int32.le_iff_toInt_le, Int32.lt_iff_toInt_lt, show (nI 0).toInt = 0 from rfl, show (1 : Int32).toInt = 1 from rfl]
  omega
theorem zBst_ge {a m : Int32} : ∀ {k j : Nat}, zBst A a m k = some j → ¬ A.2 12 j < 1
  | 0, _, h => nomatch h
  | k + 1, j, h => by
    unfold zBst at h
    split at h
    · rename_i h1
      split at h
      · cases h; exact h1.2.2.1
      · rename_i i hi
        split at h
        · cases h; exact zBst_ge hi
        · cases h; exact h1.2.2.1
    · exact zBst_ge h
theorem zbst1 (h : zJ A t D F T L) (hA : zAg A B) (a m : Int32) : ∀ k, k ≤ 96 → zhv B a (m / nI 2) k = zBst A a m k
  | 0, _ => rfl
  | k + 1, hk => by
    have ih := zbst1 h hA a m k (by omega)
    have hv := zVf_i h hA (k := k) (by omega)
    rw [zhv, zBst, ih, hA.sv, hA.k 12 (by decide)]
    by_cases g : zFt A a m k
    · rw [if_pos g]
      obtain ⟨g1, g2, g3, g4⟩ := g
      cases ho : zBst A a m k with
      | none => exact if_pos ⟨hv.mpr g1, zi_1.mpr g3, g4, g2⟩
      | some j =>
        show (if zVf B k ∧ ¬ A.2 12 k ≤ B.2 12 j ∧ ¬ m / nI 2 < A.2 12 k ∧ zsv A k = a then some k else some j) = if A.2 12 k ≤ A.2 12 j then some j else some k
        rw [hA.k 12 (by decide)]
        by_cases q : A.2 12 k ≤ A.2 12 j
        · rw [if_pos q, if_neg (fun z => z.2.1 q)]
        · rw [if_neg q, if_pos ⟨hv.mpr g1, q, g4, g2⟩]
    · rw [if_neg g]
      refine if_neg (fun z => g ⟨hv.mp z.1, z.2.2.2, ?_, z.2.2.1⟩)
      have z1 := z.2.1
      cases ho : zBst A a m k with
      | none =>
        rw [ho] at z1
        exact zi_1.mp z1
      | some j =>
        rw [ho] at z1
        have z2 : ¬ A.2 12 k ≤ A.2 12 j := by rw [← hA.k 12 (by decide)]; rw [← hA.k 12 (by decide)] at z1; exact z1
        have z3 := zBst_ge ho
        rw [Int32.le_iff_toInt_le] at z2
        rw [Int32.lt_iff_toInt_lt] at z3 ⊢
        omega
theorem zbst2 (h : zJ A t D F T L) (a m : Int32) : ∀ n, 8 * D + n ≤ 96 → zBst A a m (8 * D + n) = zBst A a m (8 * D)
  | 0, _ => rfl
  | n + 1, hn => by
    show zBst A a m (8 * D + n + 1) = _
    rw [zBst, if_neg (fun z => z.1 (by rw [h.gap (by omega) (by omega)]; exact Int32.le_refl 0)), zbst2 h a m n (by omega)]
theorem zbst (h : zJ A t D F T L) (hA : zAg A B) (a m : Int32) : zhv B a (m / nI 2) 96 = zBst A a m (8 * D) := by
  have h1 := h.bas.2.2.1
  rw [zbst1 h hA a m 96 (Nat.le_refl _)]
  have h2 := zbst2 h a m (96 - 8 * D) (by omega)
  rw [show 8 * D + (96 - 8 * D) = 96 by omega] at h2
  exact h2
theorem zHl_n (A : ZA) {i : Nat} (hi : i ≠ 12) : ∀ k, (zHl A k).2 i = A.2 i
  | 0 => rfl
  | k + 1 => by rw [zHl, zsa_n _ _ _ _ _ hi]; exact zHl_n A hi k
theorem zHl_12 (A : ZA) (j : Nat) : ∀ k, (zHl A k).2 12 j = if j < k then A.2 12 j / nI 2 else A.2 12 j
  | 0 => by rw [if_neg (Nat.not_lt_zero j)]; rfl
  | k + 1 => by
    have ih := zHl_12 A j k
    rw [zHl, zsa_2]
    by_cases e : j = k
    · subst e
      rw [if_pos ⟨rfl, rfl⟩, if_pos (Nat.lt_succ_self j), ih, if_neg (Nat.lt_irrefl j)]
    · rw [if_neg (fun z => e z.2), ih]
      by_cases g : j < k
      · rw [if_pos g, if_pos (by omega)]
      · rw [if_neg g, if_neg (by omega)]
theorem zhL_12 (B : ZA) (j : Nat) (hv : zVf B j) : ∀ k, (zhL B k).2 12 j = if j < k then B.2 12 j / nI 2 else B.2 12 j
  | 0 => by rw [if_neg (Nat.not_lt_zero j)]; rfl
  | k + 1 => by
    have ih := zhL_12 B j hv k
    rw [zhL]
    by_cases e : j = k
    · subst e
      rw [if_pos hv, zsa_2, if_pos ⟨rfl, rfl⟩, if_pos (Nat.lt_succ_self j), ih, if_neg (Nat.lt_irrefl j)]
    · have e2 : (if zVf B k then zsa (zhL B k) 12 k ((zhL B k).2 12 k / nI 2) else zhL B k).2 12 j = (zhL B k).2 12 j := by
        split
        · rw [zsa_2, if_neg (fun z => e z.2)]
        · rfl
      rw [e2, ih]
      by_cases g : j < k
      · rw [if_pos g, if_pos (by omega)]
      · rw [if_neg g, if_neg (by omega)]
/-- the class's state with the other's loads -/
def zhp (X B : ZA) : ZA := (B.1, fun i => if i = 12 then X.2 12 else B.2 i)
theorem zhp_n {X B : ZA} {i : Nat} (h : i ≠ 12) : (zhp X B).2 i = B.2 i := if_neg h
theorem zhp_12 {X B : ZA} : (zhp X B).2 12 = X.2 12 := (if_pos rfl : (if (12 : Nat) = 12 then X.2 12 else B.2 12) = X.2 12)
theorem zRS.hl (hJ : zJ A t D F T L) (hA : zAg A B) (hl : zLs A B) (he : zAe A B L) (hu : zUm B D) : zRS (zHl A (8 * D)) (zhp (zHl A (8 * D)) B) (t + 1) := by
  refine ⟨D, F, T, L, hJ.se (zHl_1 _ _) ?_ ?_ ?_ ?_ ?_ ?_, ⟨?_, fun i h1 h2 => ?_⟩, hl.cg ?_ ?_ ?_ ?_, he.cg ?_ ?_ ?_, hu.cg ?_ ?_ ?_⟩
  any_goals exact zHl_n _ (by decide) _
  any_goals exact zhp_n (by decide)
  · rw [zHl_1]
    exact hA.1
  · by_cases e : i = 12
    · rw [e, zhp_12]
    · rw [zhp_n e, zHl_n _ e]
      exact hA.2 i h1 h2
  · rw [zHl_1]
theorem zCW.hl {M : ZM} {W : Nat → Nat → Nat} {v : Option Value} {o : ZO} {M' : ZM} {B0 : ZA} (hJ : zJ A t D F T L) (hA : zAg A B) (h : zCW W M B0 v (zhL B 96) o M') : zCW W M B0 v (zhp (zHl A (8 * D)) B) o M' := by
  have e3 := zhL_n B (i := 3) (by decide) 96
  have e10 := zhL_n B (i := 10) (by decide) 96
  refine h.nrm (zhL_1 B 96).symm (fun i h1 h2 => ?_) (fun j h1 => ?_) (fun j h1 h2 h3 => ?_)
  · rw [zhp_n h2, zhL_n B h2]
  · rw [zhp_n (by decide), zhL_n B (by decide)]
  · rw [e3] at h2
    rw [e10] at h3
    have h2A : A.2 3 (j / 8) = 1 := by rw [← hA.k 3 (by decide)]; exact h2
    have := hJ.al (d := j / 8) (by omega) h2A
    rw [zhp_12, zHl_12, if_pos (by omega), zhL_12 B j ⟨h2, h3⟩, if_pos h1, hA.k 12 (by decide)]
end ZSI
end
section
/-! calls on both sides: links to files -/
section ZSJ
variable {A B A' B' : ZA} {t D F T L : Nat}
/-- a name that stands for no directory changes to nothing or a file -/
theorem zSt6 (hs : zSn A F) (hc : zCv A) {d n : Nat} (hd : d < 12) (hn : n < 50) (hv : A.2 3 d = 1) (hold : ∀ e, e < 12 → ¬ A.2 6 (50 * d + n) = -2 - nI e) {v : Int32} {F' : Nat} (hF : F ≤ F') (hv6 : v = -1 ∨ ∃ f, f < F' ∧ v = nI f) (h3 : A'.2 3 = A.2 3) (h4 : A'.2 4 = A.2 4) (h5 : A'.2 5 = A.2 5) (h6 : ∀ j, A'.2 6 j = if j = 50 * d + n then v else A.2 6 j) : zSn A' F' ∧ zCv A' := by
  refine ⟨fun d' n' h1 h2 => ?_, fun e h1 h2 h3' => ?_⟩
  · rw [h6, h3]
    by_cases e : 50 * d' + n' = 50 * d + n
    · rw [if_pos e]
      have e1 : d' = d := by omega
      subst e1
      rcases hv6 with q | ⟨f, f1, f2⟩
      · exact Or.inl q
      · exact Or.inr ⟨hv, Or.inl ⟨f, f1, f2⟩⟩
    · rw [if_neg e]
      rcases hs d' n' h1 h2 with g | ⟨g0, ⟨f, g1, g2⟩ | ⟨e', q1, q2, q3, q4, q5, q6⟩⟩
      · exact Or.inl g
      · exact Or.inr ⟨g0, Or.inl ⟨f, by omega, g2⟩⟩
      · exact Or.inr ⟨g0, Or.inr ⟨e', q1, q2, q3, q4, (zpar.cg h4 e').trans q5, (znam.cg h5 e').trans q6⟩⟩
  · rw [zpar.cg h4, znam.cg h5, h6]
    rw [h3] at h3'
    have g := hc e h1 h2 h3'
    by_cases e0 : 50 * zpar A e + znam A e = 50 * d + n
    · rw [e0] at g
      exact absurd g (hold e h1)
    · rw [if_neg e0]
      exact g
theorem zJ.mk6 (h : zJ A t D F T L) {F' L' : Nat} (hs : zSn A' F' ∧ zCv A') (h2 : A'.1 2 = A.1 2) (h1 : A'.1 1 = A.1 1) (h8 : A'.1 8 = nI L' ∧ L' ≤ t + 1) (h9 : A'.1 9 = nI F' ∧ F' ≤ 30) (h16 : A'.1 16 = A.1 16) (h17 : A'.1 17 = A.1 17) (h3 : A'.2 3 = A.2 3) (h4 : A'.2 4 = A.2 4) (h5 : A'.2 5 = A.2 5) (h10 : A'.2 10 = A.2 10) (h11 : A'.2 11 = A.2 11) : zJ A' (t + 1) D F' T L' := by
  obtain ⟨j1, j2, j3, j4, j5, j6, j7, j8, j9, j10, j11⟩ := h
  exact ⟨by rw [h1]; exact ⟨j1.1, by have := j1.2; omega⟩, h8, h9, by unfold zBas; rw [h2, h3]; exact j4, by unfold zFr; rw [h3, h10, h11]; exact j5, fun d g1 g2 => (zDp.cg h3 h4 h5 11 d).mpr (j6 d g1 (by rw [← h3]; exact g2)), by unfold zDz; rw [h3, h10]; exact j7, by unfold zCf; rw [h3, h10]; exact j8, hs.1, hs.2, j11.cg h16 h17 h3 h10⟩
theorem zLn_2 (A : ZA) (a : Nat) (f : Int32) {i : Nat} (h6 : i ≠ 6) (h7 : i ≠ 7) : (zLn A a f).2 i = A.2 i := by
  unfold zLn
  rw [zsc_2, zsa_n _ _ _ _ _ h7, zsa_n _ _ _ _ _ h6]
theorem zLn_6 (A : ZA) (a : Nat) (f : Int32) (j : Nat) : (zLn A a f).2 6 j = if j = a then f else A.2 6 j := by
  unfold zLn
  rw [zsc_2, zsa_n _ _ _ _ _ (by decide), zsa_2]
  by_cases e : j = a
  · rw [if_pos ⟨rfl, e⟩, if_pos e]
  · rw [if_neg (fun z => e z.2), if_neg e]
theorem zLn_7 (A : ZA) (a : Nat) (f : Int32) (j : Nat) : (zLn A a f).2 7 j = if j = a then A.1 8 else A.2 7 j := by
  unfold zLn
  rw [zsc_2, zsa_2]
  by_cases e : j = a
  · rw [if_pos ⟨rfl, e⟩, if_pos e]
  · rw [if_neg (fun z => e z.2), if_neg e, zsa_n _ _ _ _ _ (by decide)]
theorem zLn_1 (A : ZA) (a : Nat) (f : Int32) (k : Nat) : (zLn A a f).1 k = if k = 8 then A.1 8 + nI 1 else A.1 k := rfl
theorem zLi_9 (A : ZA) (c d n : Nat) (f v : Int32) : zLi (zsc A 9 v) c d n f = zsc (zLi A c d n f) 9 v := by
  unfold zLi zLn
  rw [zCh_sc _ _ _ _ (by decide), zsc_1, if_neg (by decide), zsa_sc, zsa_sc, zsc_cm _ (by decide)]
theorem zRS.lk (hJ : zJ A t D F T L) (hA : zAg A B) (hl : zLs A B) (he : zAe A B L) (hu : zUm B D) (ht : t ≤ 600) {c d n f : Nat} (hd : d < 12) (hn : n < 50) (hv : A.2 3 d = 1) (hfree : A.2 6 (50 * d + n) = -1) (hf : f < F) : zRS (zLi A c d n (nI f)) (zcl1 B (nI c) d n (nI f)) (t + 1) := by
  have hL := hJ.2.1
  have hF := hJ.fl
  have e1 : (zCh A (nI c) d n).1 = A.1 := zCh_1 _ _ _ _
  have ci : ∀ i, i ≠ 6 → i ≠ 7 → i ≠ 12 → i ≠ 13 → i ≠ 14 → (zLi A c d n (nI f)).2 i = A.2 i := fun i h6 h7 h12 h13 h14 => by
    unfold zLi
    rw [zLn_2 _ _ _ h6 h7, zCh_2 _ _ _ _ h12 h13 h14]
  have c6 : ∀ j, (zLi A c d n (nI f)).2 6 j = if j = 50 * d + n then nI f else A.2 6 j := fun j => by
    unfold zLi
    rw [zLn_6, zCh_2 _ _ _ _ (by decide) (by decide) (by decide)]
  have c7 : ∀ j, (zLi A c d n (nI f)).2 7 j = if j = 50 * d + n then A.1 8 else A.2 7 j := fun j => by
    unfold zLi
    rw [zLn_7, zCh_2 _ _ _ _ (by decide) (by decide) (by decide), e1]
  have c1 : ∀ k, (zLi A c d n (nI f)).1 k = if k = 8 then A.1 8 + nI 1 else A.1 k := fun k => by
    unfold zLi
    rw [zLn_1, e1]
  have hs := zSt6 (A' := zLi A c d n (nI f)) hJ.sn hJ.2.2.2.2.2.2.2.2.2.1 hd hn hv (fun e he e2 => by rw [hfree] at e2; exact (zdv e he).2.2 e2.symm) (Nat.le_refl F) (Or.inr ⟨f, hf, rfl⟩) (ci 3 (by decide) (by decide) (by decide) (by decide) (by decide)) (ci 4 (by decide) (by decide) (by decide) (by decide) (by decide)) (ci 5 (by decide) (by decide) (by decide) (by decide) (by decide)) c6
  have g := zCn (hA.sc 8 (A.1 8 + nI 1)) (hl.cg (A' := zsc A 8 (A.1 8 + nI 1)) (B' := zsc B 8 (A.1 8 + nI 1)) rfl rfl rfl rfl) hd hn hv (nI c) (nI f) (A.1 8 + nI 1) (hJ.n0 ht)
  have eB : zcl1 B (nI c) d n (nI f) = zcn (zsc B 8 (A.1 8 + nI 1)) (nI c) d n (nI f) (A.1 8 + nI 1) := by
    unfold zcl1
    rw [hA.1]
  rw [eB]
  refine ⟨D, F, T, L + 1, hJ.mk6 hs (c1 2) (c1 1) ⟨by rw [c1, if_pos rfl, hL.1, nI_add], by omega⟩ ⟨by rw [c1, if_neg (by decide)]; exact hF.1, hF.2⟩ (c1 16) (c1 17) (ci 3 (by decide) (by decide) (by decide) (by decide) (by decide)) (ci 4 (by decide) (by decide) (by decide) (by decide) (by decide)) (ci 5 (by decide) (by decide) (by decide) (by decide) (by decide)) (ci 10 (by decide) (by decide) (by decide) (by decide) (by decide)) (ci 11 (by decide) (by decide) (by decide) (by decide) (by decide)), ?_, ?_, fun k f' h1 h2 h3 => ?_, ?_⟩
  · have g1 := g.1
    rw [zCh_sc _ _ _ _ (by decide), zsa_sc] at g1
    unfold zLi zLn
    rw [e1]
    exact ((zAg.l7 (zAg.rf (A := zsa (zCh A (nI c) d n) 6 (50 * d + n) (nI f))) (50 * d + n) (A.1 8)).sc 8 _).tr g1
  · have g2 := g.2
    rw [zCh_sc _ _ _ _ (by decide), zsa_sc] at g2
    refine g2.cg ?_ ?_ ?_ rfl
    · rw [c1, if_neg (by decide), zsc_1, if_neg (by decide), zsa_1, e1]
    · rw [ci 3 (by decide) (by decide) (by decide) (by decide) (by decide), zsc_2, zsa_n _ _ _ _ _ (by decide), zCh_2 _ _ _ _ (by decide) (by decide) (by decide)]
    · unfold zLi
      rw [zLn_2 _ _ _ (by decide) (by decide), zsc_2, zsa_n _ _ _ _ _ (by decide)]
  · rw [c6] at h3
    rw [c7, zcn_7]
    by_cases e : k = 50 * d + n
    · rw [if_pos e, if_pos e]
      exact ⟨L, by omega, hL.1, by rw [hL.1, nI_add]⟩
    · rw [if_neg e] at h3
      rw [if_neg e, if_neg e]
      obtain ⟨a, a1, a2, a3⟩ := he k f' h1 h2 h3
      exact ⟨a, by omega, a2, a3⟩
  · have u1 : zUm (zsc B 8 (A.1 8 + nI 1)) D := hu.cg rfl rfl rfl
    exact u1.cn (hJ.al hd hv) hn (nI c) (nI f) (A.1 8 + nI 1)
theorem zcl1_val {B : ZA} {c : Int32} {d n : Nat} {f : Int32} : ∀ i j, zVal (zcl1 B c d n f) i j → zVal B i j := fun i j hv => by
  unfold zcl1 at hv
  exact zVal.sc ((zcn_val (B := zsc B 8 (B.1 8 + nI 1)) (c := c) (d := d) (n := n) (m := f) (g := B.1 8 + nI 1)).mp hv)
theorem zJ.f1 (h : zJ A t D F T L) (hF : F < 30) : zJ (zsc A 9 (nI (F + 1))) t D (F + 1) T L := by
  obtain ⟨j1, j2, j3, j4, j5, j6, j7, j8, j9, j10, j11⟩ := h
  refine ⟨j1, j2, ⟨rfl, by omega⟩, j4, j5, fun d g1 g2 => (zDp.cg rfl rfl rfl 11 d).mpr (j6 d g1 g2), j7, j8, fun d n h1 h2 => ?_, j10, j11⟩
  rcases j9 d n h1 h2 with g | ⟨g0, ⟨f, g1, g2⟩ | g⟩
  · exact Or.inl g
  · exact Or.inr ⟨g0, Or.inl ⟨f, by omega, g2⟩⟩
  · exact Or.inr ⟨g0, Or.inr g⟩
end ZSJ
end
section
/-! calls on both sides: makeDirectory -/
section ZSK
variable {A B A' B' : ZA} {t D F T L : Nat}
theorem zsa_cm' (A : ZA) {i i' j j' : Nat} (hi : ¬ (i = i' ∧ j = j')) (v v' : Int32) : zsa (zsa A i j v) i' j' v' = zsa (zsa A i' j' v') i j v := by
  refine Prod.ext rfl (funext fun k => funext fun x => ?_)
  rw [zsa_2, zsa_2, zsa_2, zsa_2]
  by_cases h1 : k = i' ∧ x = j'
  · rw [if_pos h1, if_neg (fun h2 => hi ⟨h2.1.symm.trans h1.1, h2.2.symm.trans h1.2⟩), if_pos h1]
  · rw [if_neg h1, if_neg h1]
theorem zCh_sa (A : ZA) (c : Int32) (d n : Nat) {i j : Nat} {v : Int32} (h1 : i ≠ 13) (h2 : i ≠ 14) (e : zfn (zsa A i j v) d n = zfn A d n) (h : ¬ (i = 12 ∧ j = zfn A d n)) : zCh (zsa A i j v) c d n = zsa (zCh A c d n) i j v := by
  unfold zCh
  rw [e, zsa_2, if_neg (fun z => h ⟨z.1.symm, z.2.symm⟩), zsa_cm' A h, zEn_sa _ _ _ h1 h2]
theorem zfn_o (A : ZA) {d n i j : Nat} {v : Int32} (h : i ≠ 10) : zfn (zsa A i j v) d n = zfn A d n := by
  unfold zfn
  rw [zsa_n _ _ _ _ _ (fun e => h e.symm)]
theorem zfn_b (A : ZA) {d n j : Nat} {v : Int32} (h : j / 8 ≠ d) : zfn (zsa A 10 j v) d n = zfn A d n := by
  unfold zfn
  rw [zfg_cg (fun x hx => ?_)]
  have := zhs_lt n
  rw [zsa_2, if_neg (fun z => h (by omega))]
theorem zfn_d8 (A : ZA) (d n : Nat) : zfn A d n / 8 = d := zfn_div A d n
theorem zCh_bg (A : ZA) (c : Int32) {d n D : Nat} (hne : D ≠ d) (o : Int32) : ∀ k, k ≤ 8 → zCh (zBg A D o k) c d n = zBg (zCh A c d n) D o k ∧ zfn (zBg A D o k) d n = zfn A d n
  | 0, _ => ⟨zCh_sa A c d n (by decide) (by decide) (zfn_o A (by decide)) (fun z => by omega), zfn_o A (by decide)⟩
  | k + 1, hk => by
    have ih := zCh_bg A c (n := n) hne o k (by omega)
    have hd8 := zfn_d8 A d n
    have e1 : zfn (zsa (zBg A D o k) 10 (8 * D + k) (if k = 0 then nI 8 else nI 0)) d n = zfn (zBg A D o k) d n := zfn_b _ (by omega)
    have e2 : zfn (zsa (zsa (zBg A D o k) 10 (8 * D + k) (if k = 0 then nI 8 else nI 0)) 11 (8 * D + k) (if k = 0 then o else -1)) d n = zfn (zsa (zBg A D o k) 10 (8 * D + k) (if k = 0 then nI 8 else nI 0)) d n := zfn_o _ (by decide)
    have e3 : zfn (zsa (zsa (zsa (zBg A D o k) 10 (8 * D + k) (if k = 0 then nI 8 else nI 0)) 11 (8 * D + k) (if k = 0 then o else -1)) 12 (8 * D + k) (nI 0)) d n = zfn (zsa (zsa (zBg A D o k) 10 (8 * D + k) (if k = 0 then nI 8 else nI 0)) 11 (8 * D + k) (if k = 0 then o else -1)) d n := zfn_o _ (by decide)
    rw [zBg, zBg]
    refine ⟨?_, e3.trans (e2.trans (e1.trans ih.2))⟩
    rw [zCh_sa _ c d n (by decide) (by decide) e3 (fun z => by have z2 := z.2; rw [e2, e1, ih.2] at z2; omega), zCh_sa _ c d n (by decide) (by decide) e2 (fun z => by omega), zCh_sa _ c d n (by decide) (by decide) e1 (fun z => by omega), ih.1]
theorem zBg_6 (A : ZA) (D : Nat) (o : Int32) (j : Nat) (v : Int32) : ∀ k, zBg (zsa A 6 j v) D o k = zsa (zBg A D o k) 6 j v
  | 0 => zsa_cm A (by decide) _ _ _ _
  | k + 1 => by
    rw [zBg, zBg, zBg_6 A D o j v k, zsa_cm (zBg A D o k) (show (6 : Nat) ≠ 10 by decide), zsa_cm _ (show (6 : Nat) ≠ 11 by decide), zsa_cm _ (show (6 : Nat) ≠ 12 by decide)]
theorem zBg_sc (A : ZA) (D : Nat) (o : Int32) (i : Nat) (v : Int32) : ∀ k, zBg (zsc A i v) D o k = zsc (zBg A D o k) i v
  | 0 => rfl
  | k + 1 => by
    rw [zBg, zBg, zBg_sc A D o i v k]
    rfl
theorem zAg.bg (h : zAg A B) (D : Nat) (o : Int32) : ∀ k, zAg (zBg A D o k) (zBg B D o k)
  | 0 => h.sa _ _ _
  | k + 1 => (((h.bg D o k).sa _ _ _).sa _ _ _).sa _ _ _
theorem zAg.nd (h : zAg A B) (D p : Nat) (n o : Int32) : zAg (zNd A D p n o) (zNd B D p n o) := ((h.sa 4 _ _).sa 5 _ _).bg D o 8
/-- makeDirectory, in the order of the class -/
theorem zMk_eq (A : ZA) (c d n D : Nat) (hne : D ≠ d) : zMk A c d n D = zsa (zCh (zsc (zNd A D d (nI n) (-1)) 2 (nI (D + 1))) (nI c) d n) 6 (50 * d + n) (-2 - nI D) := by
  unfold zMk zNd
  have h4 : ∀ X : ZA, ∀ v, zCh (zsa X 4 D v) (nI c) d n = zsa (zCh X (nI c) d n) 4 D v := fun X v => zCh_sa X _ _ _ (by decide) (by decide) (zfn_o X (by decide)) (fun z => by omega)
  have h5 : ∀ X : ZA, ∀ v, zCh (zsa X 5 D v) (nI c) d n = zsa (zCh X (nI c) d n) 5 D v := fun X v => zCh_sa X _ _ _ (by decide) (by decide) (zfn_o X (by decide)) (fun z => by omega)
  rw [zCh_sc _ _ _ _ (by decide), zCh_sc _ _ _ _ (by decide), (zCh_bg _ _ hne _ 8 (Nat.le_refl _)).1, h5, h4]
  rw [zsa_sc, zsa_sc, zsa_sc, zBg_sc, zsa_sc]
  rw [zsa_cm _ (show (6 : Nat) ≠ 4 by decide), zsa_cm _ (show (6 : Nat) ≠ 5 by decide), zBg_6]
theorem zNw_cf : [8, 0, 0, 0, 0, 0, 0, 0] ∈ zcfs := by decide +kernel
theorem zNw_g : ∀ h, h < 8 → ([8, 0, 0, 0, 0, 0, 0, 0] : List Nat).getD h 0 = if h = 0 then 8 else 0 := by decide
theorem zJ.mk (h : zJ A t D F T L) {d n : Nat} (hD : D < 12) (hd : d < 12) (hn : n < 50) (hv : A.2 3 d = 1) (hfree : A.2 6 (50 * d + n) = -1) (h1 : A'.1 = (zsc A 2 (nI (D + 1))).1) (h3 : ∀ j, A'.2 3 j = if j = D then nI 1 else A.2 3 j) (h4 : ∀ j, A'.2 4 j = if j = D then nI d else A.2 4 j) (h5 : ∀ j, A'.2 5 j = if j = D then nI n else A.2 5 j) (h6 : ∀ j, A'.2 6 j = if j = 50 * d + n then -2 - nI D else A.2 6 j) (h10 : ∀ j, A'.2 10 j = if 8 * D ≤ j ∧ j < 8 * D + 8 then (if j = 8 * D then nI 8 else nI 0) else A.2 10 j) (h11 : ∀ j, A'.2 11 j = if 8 * D ≤ j ∧ j < 8 * D + 8 then (if j = 8 * D then -1 else -1) else A.2 11 j) : zJ A' (t + 1) (D + 1) F T L := by
  have hdD := h.al hd hv
  have hND : ∀ e, e < 12 → A.2 3 e = 1 → ¬ e = D := fun e g1 g2 => by have := h.al g1 g2; omega
  have hal : ∀ e, e < 12 → A.2 3 e = 1 → A'.2 3 e = 1 := fun e g1 g2 => by rw [h3, if_neg (hND e g1 g2)]; exact g2
  have hal2 : ∀ e, A'.2 3 e = 1 → e = D ∨ A.2 3 e = 1 := fun e g => by
    rw [h3] at g
    by_cases z : e = D
    · exact Or.inl z
    · rw [if_neg z] at g
      exact Or.inr g
  have hpar : ∀ e, ¬ e = D → zpar A' e = zpar A e := fun e g => by unfold zpar; rw [h4, if_neg g]
  have hnam : ∀ e, ¬ e = D → znam A' e = znam A e := fun e g => by unfold znam; rw [h5, if_neg g]
  have hpD : zpar A' D = d := by unfold zpar; rw [h4, if_pos rfl]; exact nI_clamp (by omega)
  have hnD : znam A' D = n := by unfold znam; rw [h5, if_pos rfl]; exact nI_clamp (by omega)
  have hup : ∀ e, e < 12 → A.2 3 e = 1 → zUp A e → zUp A' e := fun e g1 g2 ⟨u1, u2, u3, u4, u5⟩ => by
    have hne := hND e g1 g2
    refine ⟨by rw [hpar e hne, h4, if_neg hne]; exact u1, by rw [hpar e hne]; exact u2, by rw [hpar e hne]; exact hal _ u2 u3, by rw [hnam e hne, h5, if_neg hne]; exact u4, by rw [hnam e hne]; exact u5⟩
  have hdp : ∀ k e, e < 12 → A.2 3 e = 1 → zDp A k e → zDp A' k e := fun k => by
    induction k with
    | zero => exact fun e _ _ g => g
    | succ k ih =>
      intro e g1 g2 g
      rcases g with g | ⟨u, g⟩
      · exact Or.inl g
      · refine Or.inr ⟨hup e g1 g2 u, ?_⟩
        rw [hpar e (hND e g1 g2)]
        exact ih _ u.2.1 u.2.2.1 g
  obtain ⟨j1, j2, j3, j4, j5, j6, j7, j8, j9, j10, j11⟩ := h
  have hupD : zUp A' D := ⟨by rw [hpD, h4, if_pos rfl], by rw [hpD]; exact hd, by rw [hpD]; exact hal d hd hv, by rw [hnD, h5, if_pos rfl], by rw [hnD]; exact hn⟩
  refine ⟨by rw [h1, zsc_1, if_neg (by decide)]; exact ⟨j1.1, by have := j1.2; omega⟩, by rw [h1, zsc_1, if_neg (by decide)]; exact ⟨j2.1, by have := j2.2; omega⟩, by rw [h1, zsc_1, if_neg (by decide)]; exact j3, ⟨by rw [h1, zsc_1, if_pos rfl], by omega, by omega, fun j hj => ?_⟩, ⟨fun e g1 g2 => ?_, fun y g1 g2 => ?_⟩, fun e g1 g2 => ?_, fun f g1 g2 => ?_, fun e g1 g2 => ?_, fun d' n' g1 g2 => ?_, fun e g1 g2 g3 => ?_, ?_⟩
  · rw [h3]
    by_cases z : j = D
    · rw [if_pos z]
      exact Or.inl ⟨rfl, by omega⟩
    · rw [if_neg z]
      exact (j4.2.2.2 j hj).imp (fun q => ⟨q.1, by omega⟩) id
  · rw [h10]
    rcases hal2 e g2 with z | z
    · rw [if_pos (by omega), if_pos (by omega)]
      decide
    · have := hND e g1 z
      rw [if_neg (by omega)]
      exact j5.1 e g1 z
  · have := j4.2.1
    rw [h10, if_neg (by omega)] at g2
    rw [h11, if_neg (by omega)]
    exact j5.2 y g1 g2
  · rcases hal2 e g2 with z | z
    · subst z
      refine zDp_11 (k := 12) (Or.inr ⟨hupD, ?_⟩) g1
      rw [hpD]
      exact hdp 11 d hd hv (j6 d hd hv)
    · exact hdp 11 e g1 z (j6 e g1 z)
  · rw [h10] at g2
    by_cases z : 8 * D ≤ f ∧ f < 8 * D + 8
    · rw [h3, if_pos (by omega)]
      rfl
    · rw [if_neg z] at g2
      exact hal _ (by omega) (j7 f g1 g2)
  · rcases hal2 e g2 with z | z
    · subst z
      refine ⟨_, zNw_cf, fun y hy => ?_⟩
      rw [h10, if_pos (by omega), zNw_g y hy]
      by_cases q : y = 0
      · rw [if_pos (by omega), if_pos q]
      · rw [if_neg (by omega), if_neg q]
    · have := hND e g1 z
      obtain ⟨c, hc⟩ := j8 e g1 z
      exact ⟨c, hc.cg (fun y hy => by rw [h10, if_neg (by omega)])⟩
  · rw [h6]
    by_cases e : 50 * d' + n' = 50 * d + n
    · rw [if_pos e]
      have q1 : d' = d := by omega
      have q2 : n' = n := by omega
      subst q1; subst q2
      exact Or.inr ⟨hal d' hd hv, Or.inr ⟨D, hD, by omega, by rw [h3, if_pos rfl]; rfl, rfl, hpD, hnD⟩⟩
    · rw [if_neg e]
      rcases j9 d' n' g1 g2 with g | ⟨g0, g | ⟨e', q1, q2, q3, q4, q5, q6⟩⟩
      · exact Or.inl g
      · exact Or.inr ⟨hal d' g1 g0, Or.inl g⟩
      · have hne := hND e' q1 q3
        exact Or.inr ⟨hal d' g1 g0, Or.inr ⟨e', q1, q2, hal e' q1 q3, q4, by rw [hpar e' hne]; exact q5, by rw [hnam e' hne]; exact q6⟩⟩
  · rcases hal2 e g3 with z | z
    · subst z
      rw [hpD, hnD, h6, if_pos rfl]
    · have hne := hND e g1 z
      have g := j10 e g1 g2 z
      rw [hpar e hne, hnam e hne, h6]
      by_cases q : 50 * zpar A e + znam A e = 50 * d + n
      · rw [q, hfree] at g
        exact absurd g.symm (zdv e g1).2.2
      · rw [if_neg q]
        exact g
  · unfold zMm
    rw [h1, zsc_1, zsc_1, if_neg (by decide), if_neg (by decide)]
    rcases j11 with q | ⟨m, q1, q2, q3, q4, q5⟩
    · exact Or.inl q
    · have := hND (m / 8) (by omega) q3
      exact Or.inr ⟨m, q1, q2, hal _ (by omega) q3, by rw [h10, if_neg (by omega)]; exact q4, q5⟩
end ZSK
end
section
/-! calls on both sides: remove -/
section ZSL
variable {A B A' B' : ZA} {t D F T L : Nat}
theorem zRf_n (A : ZA) (c d n : Nat) {i : Nat} (h6 : i ≠ 6) (h12 : i ≠ 12) (h13 : i ≠ 13) (h14 : i ≠ 14) : (zRf A c d n).2 i = A.2 i := by
  unfold zRf
  rw [zsa_n _ _ _ _ _ h6, zCh_2 _ _ _ _ h12 h13 h14]
theorem zRf_1 (A : ZA) (c d n : Nat) : (zRf A c d n).1 = A.1 := by
  unfold zRf
  rw [zsa_1, zCh_1]
theorem zRf_6 (A : ZA) (c d n j : Nat) : (zRf A c d n).2 6 j = if j = 50 * d + n then -1 else A.2 6 j := by
  unfold zRf
  rw [zsa_2]
  by_cases z : j = 50 * d + n
  · rw [if_pos ⟨rfl, z⟩, if_pos z]
  · rw [if_neg (fun y => z y.2), if_neg z, zCh_2 _ _ _ _ (by decide) (by decide) (by decide)]
theorem zJ.cv (h : zJ A t D F T L) : zCv A := h.2.2.2.2.2.2.2.2.2.1
/-- a link goes -/
theorem zRS.rf (hJ : zJ A t D F T L) (hA : zAg A B) (hl : zLs A B) (he : zAe A B L) (hu : zUm B D) (ht : t ≤ 600) {c d n f : Nat} (hd : d < 12) (hn : n < 50) (hv : A.2 3 d = 1) (hs : A.2 6 (50 * d + n) = nI f) (hf : f < 30) : zRS (zRf A c d n) (zcn B (nI c) d n (-1) (nI 0)) (t + 1) := by
  have g := zCn hA hl hd hn hv (nI c) (-1) (nI 0) (hJ.n0 ht)
  have h1 := zRf_1 A c d n
  have h6 := zSt6 (A' := zRf A c d n) hJ.sn hJ.cv hd hn hv (fun e he e2 => by rw [hs] at e2; exact zfvd hf he e2) (Nat.le_refl F) (Or.inl rfl) (zRf_n A c d n (by decide) (by decide) (by decide) (by decide)) (zRf_n A c d n (by decide) (by decide) (by decide) (by decide)) (zRf_n A c d n (by decide) (by decide) (by decide) (by decide)) (zRf_6 A c d n)
  refine ⟨D, F, T, L, hJ.mk6 h6 (by rw [h1]) (by rw [h1]) (by rw [h1]; exact ⟨hJ.2.1.1, by have := hJ.2.1.2; omega⟩) (by rw [h1]; exact hJ.fl) (by rw [h1]) (by rw [h1]) (zRf_n A c d n (by decide) (by decide) (by decide) (by decide)) (zRf_n A c d n (by decide) (by decide) (by decide) (by decide)) (zRf_n A c d n (by decide) (by decide) (by decide) (by decide)) (zRf_n A c d n (by decide) (by decide) (by decide) (by decide)) (zRf_n A c d n (by decide) (by decide) (by decide) (by decide)), g.1, g.2, fun k f' k1 k2 k3 => ?_, hu.cn (hJ.al hd hv) hn _ _ _⟩
  rw [zRf_6] at k3
  rw [zRf_n A c d n (by decide) (by decide) (by decide) (by decide), zcn_7]
  by_cases z : k = 50 * d + n
  · rw [if_pos z] at k3
    exact absurd k3.symm (zfv2 k2)
  · rw [if_neg z] at k3
    rw [if_neg z]
    exact he k f' k1 k2 k3
theorem zel_s3 (B : ZA) (a : Nat) (ex : Int32) (j : Nat) (v : Int32) : ∀ k, zel (zsa B 3 j v) a ex k = zsa (zel B a ex k) 3 j v
  | 0 => rfl
  | k + 1 => by
    rw [zel, zel, zel_s3 B a ex j v k, zsa_1, zsa_n _ _ _ _ 13 (by decide), zsa_n _ _ _ _ 14 (by decide)]
    by_cases h1 : B.1 1 < (zel B a ex k).2 13 (600 * k + a)
    · rw [if_pos h1, if_pos h1]
      by_cases h2 : nI k = ex
      · rw [if_pos h2, if_pos h2, zsa_cm _ (show (3 : Nat) ≠ 13 by decide)]
      · rw [if_neg h2, if_neg h2, zsa_cm _ (show (3 : Nat) ≠ 13 by decide), zsa_cm _ (show (3 : Nat) ≠ 14 by decide)]
    · rw [if_neg h1, if_neg h1]
theorem zcn_s3 (B : ZA) (c : Int32) (d n : Nat) (m g : Int32) (j : Nat) (v : Int32) : zcn (zsa B 3 j v) c d n m g = zsa (zcn B c d n m g) 3 j v := by
  unfold zcn
  rw [zfn_o B (show (3 : Nat) ≠ 10 by decide), zsa_n B 3 _ _ 12 (by decide), zsa_cm B (show (3 : Nat) ≠ 6 by decide), zsa_cm _ (show (3 : Nat) ≠ 7 by decide), zsa_cm _ (show (3 : Nat) ≠ 12 by decide), zel_s3]
theorem zZ8_n (A : ZA) (e : Nat) {i : Nat} (h : i ≠ 10) : ∀ k, (zZ8 A e k).2 i = A.2 i
  | 0 => rfl
  | k + 1 => by rw [zZ8, zsa_n _ _ _ _ _ h]; exact zZ8_n A e h k
theorem zZ8_1 (A : ZA) (e : Nat) : ∀ k, (zZ8 A e k).1 = A.1
  | 0 => rfl
  | k + 1 => by rw [zZ8, zsa_1]; exact zZ8_1 A e k
theorem zZ8_10 (A : ZA) (e j : Nat) : ∀ k, (zZ8 A e k).2 10 j = if 8 * e ≤ j ∧ j < 8 * e + k then nI 0 else A.2 10 j
  | 0 => by rw [if_neg (by omega)]; rfl
  | k + 1 => by
    rw [zZ8, zsa_2, zZ8_10 A e j k]
    by_cases h1 : j = 8 * e + k
    · rw [if_pos ⟨rfl, h1⟩, if_pos (by omega)]
    · rw [if_neg (fun z => h1 z.2)]
      by_cases h2 : 8 * e ≤ j ∧ j < 8 * e + k
      · rw [if_pos h2, if_pos (by omega)]
      · rw [if_neg h2, if_neg (by omega)]
theorem zAg.z8 (h : zAg A B) (e : Nat) : ∀ k, zAg (zZ8 A e k) (zZ8 B e k)
  | 0 => h
  | k + 1 => (h.z8 e k).sa _ _ _
theorem zZu_n (A : ZA) (e c : Nat) {i : Nat} (h : i ≠ 13) : ∀ k, (zZu A e c k).2 i = A.2 i
  | 0 => rfl
  | k + 1 => by rw [zZu, zsa_n _ _ _ _ _ h]; exact zZu_n A e c h k
theorem zZu_1 (A : ZA) (e c : Nat) : ∀ k, (zZu A e c k).1 = A.1
  | 0 => rfl
  | k + 1 => by rw [zZu, zsa_1]; exact zZu_1 A e c k
theorem zZu_13 (A : ZA) (e c j : Nat) : ∀ k, (zZu A e c k).2 13 j = if 600 * c + 50 * e ≤ j ∧ j < 600 * c + 50 * e + k then nI 0 else A.2 13 j
  | 0 => by rw [if_neg (by omega)]; rfl
  | k + 1 => by
    rw [zZu, zsa_2, zZu_13 A e c j k]
    by_cases h1 : j = 600 * c + (50 * e + k)
    · rw [if_pos ⟨rfl, h1⟩, if_pos (by omega)]
    · rw [if_neg (fun z => h1 z.2)]
      by_cases h2 : 600 * c + 50 * e ≤ j ∧ j < 600 * c + 50 * e + k
      · rw [if_pos h2, if_pos (by omega)]
      · rw [if_neg h2, if_neg (by omega)]
theorem zZv_n (A : ZA) (e : Nat) {i : Nat} (h : i ≠ 13) : ∀ k, (zZv A e k).2 i = A.2 i
  | 0 => rfl
  | k + 1 => by rw [zZv, zZu_n _ _ _ h]; exact zZv_n A e h k
theorem zZv_1 (A : ZA) (e : Nat) : ∀ k, (zZv A e k).1 = A.1
  | 0 => rfl
  | k + 1 => by rw [zZv, zZu_1]; exact zZv_1 A e k
theorem zZv_o (A : ZA) {e c d n : Nat} (he : e < 12) (hd : d < 12) (hn : n < 50) (hne : d ≠ e) : ∀ k, (zZv A e k).2 13 (600 * c + (50 * d + n)) = A.2 13 (600 * c + (50 * d + n))
  | 0 => rfl
  | k + 1 => by
    rw [zZv, zZu_13, if_neg (by omega)]
    exact zZv_o A he hd hn hne k
theorem zZv_i (A : ZA) {e c n : Nat} (he : e < 12) (hn : n < 50) : ∀ k, c < k → (zZv A e k).2 13 (600 * c + (50 * e + n)) = nI 0
  | 0, h => absurd h (Nat.not_lt_zero c)
  | k + 1, h => by
    rw [zZv, zZu_13]
    by_cases h1 : c = k
    · rw [if_pos (by omega)]
    · rw [if_neg (by omega)]
      exact zZv_i A he hn k (by omega)
theorem zAg.zv (h : zAg A B) (e : Nat) : ∀ k, zAg (zZv A e k) B := fun k => ⟨by rw [zZv_1]; exact h.1, fun i h1 h2 => by rw [zZv_n _ _ h2]; exact h.2 i h1 h2⟩
theorem zcN_z {p : Nat → Bool} : ∀ n, ¬ 0 < zcN p n → ∀ k, k < n → ¬ p k = true
  | 0, _, k, hk => absurd hk (Nat.not_lt_zero k)
  | n + 1, h, k, hk => by
    by_cases h1 : p n = true
    · rw [zcN_t h1] at h
      omega
    · rw [zcN_f h1] at h
      by_cases e : k = n
      · rw [e]
        exact h1
      · exact zcN_z n (by omega) k (by omega)
/-- a directory that nothing holds is empty -/
theorem zHd_e {e : Nat} (h : ¬ zHd A e) {n : Nat} (hn : n < 50) : A.2 6 (50 * e + n) = -1 := by
  have h1 := zcN_z 50 (fun z => h (Or.inl z)) n hn
  unfold zpu at h1
  by_cases g : A.2 6 (50 * e + n) = -1
  · exact g
  · exact absurd (by rw [decide_eq_false g]; rfl) h1
theorem zRd_n (A : ZA) (c d n e : Nat) {i : Nat} (h3 : i ≠ 3) (h10 : i ≠ 10) (h13 : i ≠ 13) : (zRd A c d n e).2 i = (zRf A c d n).2 i := by
  unfold zRd
  rw [zZv_n _ _ h13, zZ8_n _ _ h10, zsa_n _ _ _ _ _ h3]
theorem zRd_1 (A : ZA) (c d n e : Nat) : (zRd A c d n e).1 = A.1 := by
  unfold zRd
  rw [zZv_1, zZ8_1, zsa_1, zRf_1]
theorem zRd_3 (A : ZA) (c d n e j : Nat) : (zRd A c d n e).2 3 j = if j = e then nI 0 else A.2 3 j := by
  unfold zRd
  rw [zZv_n _ _ (by decide), zZ8_n _ _ (by decide), zsa_2, zRf_n _ _ _ _ (by decide) (by decide) (by decide) (by decide)]
  by_cases z : j = e
  · rw [if_pos ⟨rfl, z⟩, if_pos z]
  · rw [if_neg (fun y => z y.2), if_neg z]
theorem zRd_10 (A : ZA) (c d n e j : Nat) : (zRd A c d n e).2 10 j = if 8 * e ≤ j ∧ j < 8 * e + 8 then nI 0 else A.2 10 j := by
  unfold zRd
  rw [zZv_n _ _ (by decide), zZ8_10, zsa_n _ _ _ _ _ (by decide), zRf_n _ _ _ _ (by decide) (by decide) (by decide) (by decide)]
theorem zJ.rd (h : zJ A t D F T L) {c d n e : Nat} (hd : d < 12) (hn : n < 50) (hv : A.2 3 d = 1) (he : e < 12) (he0 : ¬ e = 0) (hpe : zpar A e = d) (hne : znam A e = n) (hs : A.2 6 (50 * d + n) = -2 - nI e) (hh : ¬ zHd A e) : zJ (zRd A c d n e) (t + 1) D F T L := by
  have h1 := zRd_1 A c d n e
  have h3 := zRd_3 A c d n e
  have h4 : (zRd A c d n e).2 4 = A.2 4 := (zRd_n A c d n e (by decide) (by decide) (by decide)).trans (zRf_n A c d n (by decide) (by decide) (by decide) (by decide))
  have h5 : (zRd A c d n e).2 5 = A.2 5 := (zRd_n A c d n e (by decide) (by decide) (by decide)).trans (zRf_n A c d n (by decide) (by decide) (by decide) (by decide))
  have h6 : ∀ j, (zRd A c d n e).2 6 j = if j = 50 * d + n then -1 else A.2 6 j := fun j => by rw [zRd_n A c d n e (by decide) (by decide) (by decide), zRf_6]
  have h10 := zRd_10 A c d n e
  have h11 : (zRd A c d n e).2 11 = A.2 11 := (zRd_n A c d n e (by decide) (by decide) (by decide)).trans (zRf_n A c d n (by decide) (by decide) (by decide) (by decide))
  generalize zRd A c d n e = A' at h1 h3 h4 h5 h6 h10 h11
  have hal : ∀ j, A'.2 3 j = 1 → ¬ j = e ∧ A.2 3 j = 1 := fun j g => by
    rw [h3] at g
    by_cases z : j = e
    · rw [if_pos z] at g
      exact absurd g (by decide)
    · rw [if_neg z] at g
      exact ⟨z, g⟩
  have hla : ∀ j, ¬ j = e → A.2 3 j = 1 → A'.2 3 j = 1 := fun j z g => by rw [h3, if_neg z]; exact g
  have hpar : ∀ j, zpar A' j = zpar A j := zpar.cg h4
  have hnam : ∀ j, znam A' j = znam A j := znam.cg h5
  have hcv := h.cv
  obtain ⟨j1, j2, j3, j4, j5, j6, j7, j8, j9, j10, j11⟩ := h
  have hnp : ∀ j, j < 12 → ¬ j = 0 → A.2 3 j = 1 → zUp A j → ¬ zpar A j = e := fun j g1 g2 g3 u z => by
    have q := hcv j g1 g2 g3
    rw [z, zHd_e hh u.2.2.2.2] at q
    exact (zdv j g1).2.2 q.symm
  have hdp : ∀ k j, j < 12 → A.2 3 j = 1 → zDp A k j → zDp A' k j := fun k => by
    induction k with
    | zero => exact fun j _ _ g => g
    | succ k ih =>
      intro j g1 g2 g
      rcases g with g | ⟨u, g⟩
      · exact Or.inl g
      · by_cases z : j = 0
        · exact Or.inl z
        · have hz := hnp j g1 z g2 u
          obtain ⟨u1, u2, u3, u4, u5⟩ := u
          refine Or.inr ⟨⟨by rw [hpar, h4]; exact u1, by rw [hpar]; exact u2, by rw [hpar]; exact hla _ hz u3, by rw [hnam, h5]; exact u4, by rw [hnam]; exact u5⟩, ?_⟩
          rw [hpar]
          exact ih _ u2 u3 g
  refine ⟨by rw [h1]; exact ⟨j1.1, by have := j1.2; omega⟩, by rw [h1]; exact ⟨j2.1, by have := j2.2; omega⟩, by rw [h1]; exact j3, ⟨by rw [h1]; exact j4.1, j4.2.1, j4.2.2.1, fun j hj => ?_⟩, ⟨fun j g1 g2 => ?_, fun y g1 g2 => ?_⟩, fun j g1 g2 => ?_, fun f g1 g2 => ?_, fun j g1 g2 => ?_, fun d' n' g1 g2 => ?_, fun j g1 g2 g3 => ?_, ?_⟩
  · rw [h3]
    by_cases z : j = e
    · rw [if_pos z]
      exact Or.inr rfl
    · rw [if_neg z]
      exact j4.2.2.2 j hj
  · obtain ⟨z1, z2⟩ := hal j g2
    rw [h10, if_neg (by omega)]
    exact j5.1 j g1 z2
  · rw [h10, if_neg (by omega)] at g2
    rw [h11]
    exact j5.2 y g1 g2
  · obtain ⟨z1, z2⟩ := hal j g2
    exact hdp 11 j g1 z2 (j6 j g1 z2)
  · rw [h10] at g2
    by_cases z : 8 * e ≤ f ∧ f < 8 * e + 8
    · rw [if_pos z] at g2
      exact absurd rfl g2
    · rw [if_neg z] at g2
      exact hla _ (by omega) (j7 f g1 g2)
  · obtain ⟨z1, z2⟩ := hal j g2
    obtain ⟨c', hc'⟩ := j8 j g1 z2
    exact ⟨c', hc'.cg (fun y hy => by rw [h10, if_neg (by omega)])⟩
  · rw [h6]
    by_cases z : 50 * d' + n' = 50 * d + n
    · rw [if_pos z]
      exact Or.inl rfl
    · rw [if_neg z]
      by_cases z2 : d' = e
      · rw [z2]
        exact Or.inl (zHd_e hh g2)
      · rcases j9 d' n' g1 g2 with g | ⟨g0, g | ⟨e', q1, q2, q3, q4, q5, q6⟩⟩
        · exact Or.inl g
        · exact Or.inr ⟨hla d' z2 g0, Or.inl g⟩
        · refine Or.inr ⟨hla d' z2 g0, Or.inr ⟨e', q1, q2, hla e' (fun y => ?_) q3, q4, by rw [hpar]; exact q5, by rw [hnam]; exact q6⟩⟩
          subst y
          exact z (by rw [← q5, ← q6, hpe, hne])
  · obtain ⟨z1, z2⟩ := hal j g3
    have g := j10 j g1 g2 z2
    rw [hpar, hnam, h6]
    by_cases z : 50 * zpar A j + znam A j = 50 * d + n
    · rw [z, hs] at g
      exact absurd (zdvi he g1 g).symm z1
    · rw [if_neg z]
      exact g
  · unfold zMm
    rw [h1]
    rcases j11 with q | ⟨m, q1, q2, q3, q4, q5⟩
    · exact Or.inl q
    · have hm8 : ¬ m / 8 = e := fun z => hh (Or.inr (by rw [q2, nI_clamp (by omega)]; exact ⟨nI_ne1 (by omega), rfl, z⟩))
      exact Or.inr ⟨m, q1, q2, hla _ hm8 q3, by rw [h10, if_neg (by omega)]; exact q4, q5⟩
/-- a directory goes -/
theorem zRS.rd (hJ : zJ A t D F T L) (hA : zAg A B) (hl : zLs A B) (he : zAe A B L) (hu : zUm B D) (ht : t ≤ 600) {c d n e : Nat} (hd : d < 12) (hn : n < 50) (hv : A.2 3 d = 1) (he12 : e < 12) (he0 : ¬ e = 0) (hpe : zpar A e = d) (hne : znam A e = n) (hs : A.2 6 (50 * d + n) = -2 - nI e) (hh : ¬ zHd A e) : zRS (zRd A c d n e) (zZ8 (zsa (zcn B (nI c) d n (-1) (nI 0)) 3 e (nI 0)) e 8) (t + 1) := by
  have g := zCn hA hl hd hn hv (nI c) (-1) (nI 0) (hJ.n0 ht)
  have hg1 : zAg (zRf A c d n) (zcn B (nI c) d n (-1) (nI 0)) := g.1
  have hg2 : zLs (zRf A c d n) (zcn B (nI c) d n (-1) (nI 0)) := g.2
  have h0 := hJ.n0 ht
  have hl' := hg2
  have e13 : ∀ c' d' n', d' < 12 → n' < 50 → ¬ d' = e → (zRd A c d n e).2 13 (600 * c' + (50 * d' + n')) = (zRf A c d n).2 13 (600 * c' + (50 * d' + n')) := fun c' d' n' k1 k2 k3 => by
    unfold zRd
    rw [zZv_o _ he12 k1 k2 k3, zZ8_n _ _ (by decide), zsa_n _ _ _ _ _ (by decide)]
  have b13 : (zZ8 (zsa (zcn B (nI c) d n (-1) (nI 0)) 3 e (nI 0)) e 8).2 13 = (zcn B (nI c) d n (-1) (nI 0)).2 13 := by rw [zZ8_n _ _ (by decide), zsa_n _ _ _ _ _ (by decide)]
  have b7 : (zZ8 (zsa (zcn B (nI c) d n (-1) (nI 0)) 3 e (nI 0)) e 8).2 7 = (zcn B (nI c) d n (-1) (nI 0)).2 7 := by rw [zZ8_n _ _ (by decide), zsa_n _ _ _ _ _ (by decide)]
  have b6 : (zZ8 (zsa (zcn B (nI c) d n (-1) (nI 0)) 3 e (nI 0)) e 8).2 6 = (zcn B (nI c) d n (-1) (nI 0)).2 6 := by rw [zZ8_n _ _ (by decide), zsa_n _ _ _ _ _ (by decide)]
  refine ⟨D, F, T, L, hJ.rd hd hn hv he12 he0 hpe hne hs hh, ?_, fun c' d' n' k1 k2 k3 => ?_, fun k f k1 k2 k3 => ?_, ?_⟩
  · unfold zRd
    exact ((hg1.sa 3 e (nI 0)).z8 e 8).zv e 4
  · rw [zRd_1, zRd_3, b13]
    by_cases z : d' = e
    · subst z
      refine ⟨fun y => ?_, fun _ => ?_⟩
      · rw [if_pos rfl] at y
        exact absurd y (by decide)
      · unfold zRd
        rw [zZv_i _ he12 k3 4 k1]
        exact h0
    · rw [if_neg z, e13 c' d' n' k2 k3 z]
      have q := hl' c' d' n' k1 k2 k3
      rw [zRf_1, zRf_n _ _ _ _ (by decide) (by decide) (by decide) (by decide)] at q
      exact q
  · rw [zRd_n A c d n e (by decide) (by decide) (by decide), zRf_6] at k3
    rw [zRd_n A c d n e (by decide) (by decide) (by decide), zRf_n A c d n (by decide) (by decide) (by decide) (by decide), b7, zcn_7]
    by_cases z : k = 50 * d + n
    · rw [if_pos z] at k3
      exact absurd k3.symm (zfv2 k2)
    · rw [if_neg z] at k3
      rw [if_neg z]
      exact he k f k1 k2 k3
  · exact (hu.cn (hJ.al hd hv) hn (nI c) (-1) (nI 0)).cg b6 b7 b13
theorem zDp_self {e : Nat} (h : zpar A e = e) : ∀ k, zDp A k e → e = 0
  | 0, g => g
  | k + 1, g => g.elim id (fun q => zDp_self h k (by have := q.2; rwa [h] at this))
end ZSL
end
section
/-! calls on both sides: rename -/
section ZSM
variable {A B A' B' : ZA} {t D F T L : Nat}
theorem zRn_n (A : ZA) (c d n d2 n2 : Nat) {i : Nat} (h6 : i ≠ 6) (h7 : i ≠ 7) (h12 : i ≠ 12) (h13 : i ≠ 13) (h14 : i ≠ 14) : (zRn A c d n d2 n2).2 i = A.2 i := by
  unfold zRn
  rw [zsa_n _ _ _ _ _ h7, zsa_n _ _ _ _ _ h6, zsa_n _ _ _ _ _ h6, zCh_2 _ _ _ _ h12 h13 h14, zCh_2 _ _ _ _ h12 h13 h14]
theorem zRn_1 (A : ZA) (c d n d2 n2 : Nat) : (zRn A c d n d2 n2).1 = A.1 := by
  unfold zRn
  rw [zsa_1, zsa_1, zsa_1, zCh_1, zCh_1]
theorem zRn_6 (A : ZA) (c d n d2 n2 j : Nat) : (zRn A c d n d2 n2).2 6 j = if j = 50 * d2 + n2 then A.2 6 (50 * d + n) else if j = 50 * d + n then -1 else A.2 6 j := by
  unfold zRn
  rw [zsa_n _ _ _ _ _ (by decide), zsa_2]
  by_cases z : j = 50 * d2 + n2
  · rw [if_pos ⟨rfl, z⟩, if_pos z]
  · rw [if_neg (fun y => z y.2), if_neg z, zsa_2]
    by_cases z2 : j = 50 * d + n
    · rw [if_pos ⟨rfl, z2⟩, if_pos z2]
    · rw [if_neg (fun y => z2 y.2), if_neg z2, zCh_2 _ _ _ _ (by decide) (by decide) (by decide), zCh_2 _ _ _ _ (by decide) (by decide) (by decide)]
theorem zRn_7 (A : ZA) (c d n d2 n2 j : Nat) : (zRn A c d n d2 n2).2 7 j = if j = 50 * d2 + n2 then A.2 7 (50 * d + n) else A.2 7 j := by
  unfold zRn
  rw [zsa_2]
  by_cases z : j = 50 * d2 + n2
  · rw [if_pos ⟨rfl, z⟩, if_pos z]
  · rw [if_neg (fun y => z y.2), if_neg z, zsa_n _ _ _ _ _ (by decide), zsa_n _ _ _ _ _ (by decide), zCh_2 _ _ _ _ (by decide) (by decide) (by decide), zCh_2 _ _ _ _ (by decide) (by decide) (by decide)]
theorem zRn_p (hA : zAg A B) (hl : zLs A B) {c d n d2 n2 : Nat} (hd : d < 12) (hn : n < 50) (hv : A.2 3 d = 1) (hd2 : d2 < 12) (hn2 : n2 < 50) (hv2 : A.2 3 d2 = 1) (h0 : nI 0 ≤ A.1 1) (v g : Int32) (ev : v = A.2 6 (50 * d + n)) : zAg (zRn A c d n d2 n2) (zcn (zcn B (nI c) d n (-1) (nI 0)) (nI c) d2 n2 v g) ∧ zLs (zRn A c d n d2 n2) (zcn (zcn B (nI c) d n (-1) (nI 0)) (nI c) d2 n2 v g) := by
  have p1 := zCn hA hl hd hn hv (nI c) (-1) (nI 0) h0
  have p2 := zCn p1.1 p1.2 hd2 hn2 (by rw [zsa_n _ _ _ _ _ (by decide), zCh_2 _ _ _ _ (by decide) (by decide) (by decide)]; exact hv2) (nI c) v g (by rw [zsa_1, zCh_1]; exact h0)
  rw [zCh_6] at p2
  subst ev
  unfold zRn
  refine ⟨p2.1.l7 _ _, p2.2.cg rfl ?_ ?_ rfl⟩
  · rw [zsa_n _ _ _ _ _ (by decide)]
  · rw [zsa_n _ _ _ _ _ (by decide)]
/-- a link is renamed -/
theorem zRS.rn (hJ : zJ A t D F T L) (hA : zAg A B) (hl : zLs A B) (he : zAe A B L) (hu : zUm B D) (ht : t ≤ 600) {c d n d2 n2 f : Nat} (hd : d < 12) (hn : n < 50) (hv : A.2 3 d = 1) (hd2 : d2 < 12) (hn2 : n2 < 50) (hv2 : A.2 3 d2 = 1) (hs : A.2 6 (50 * d + n) = nI f) (hf : f < F) (hfr : A.2 6 (50 * d2 + n2) = -1) : zRS (zRn A c d n d2 n2) (zcn (zcn B (nI c) d n (-1) (nI 0)) (nI c) d2 n2 (nI f) (B.2 7 (50 * d + n))) (t + 1) := by
  have hF := hJ.fl
  have hf30 : f < 30 := by omega
  have p := zRn_p (c := c) hA hl hd hn hv hd2 hn2 hv2 (hJ.n0 ht) (nI f) (B.2 7 (50 * d + n)) hs.symm
  have h1 := zRn_1 A c d n d2 n2
  have hnn : ∀ i, i ≠ 6 → i ≠ 7 → i ≠ 12 → i ≠ 13 → i ≠ 14 → (zRn A c d n d2 n2).2 i = A.2 i := fun i a1 a2 a3 a4 a5 => zRn_n A c d n d2 n2 a1 a2 a3 a4 a5
  have q1 := zSt6 (A' := zsa A 6 (50 * d + n) (-1)) hJ.sn hJ.cv hd hn hv (fun e he e2 => by rw [hs] at e2; exact zfvd hf30 he e2) (Nat.le_refl F) (Or.inl rfl) (zsa_n _ _ _ _ _ (by decide)) (zsa_n _ _ _ _ _ (by decide)) (zsa_n _ _ _ _ _ (by decide)) (fun j => by
    rw [zsa_2]
    by_cases z : j = 50 * d + n
    · rw [if_pos ⟨rfl, z⟩, if_pos z]
    · rw [if_neg (fun y => z y.2), if_neg z])
  have e36 : ∀ i, i ≠ 6 → (zsa A 6 (50 * d + n) (-1)).2 i = A.2 i := fun i hi => zsa_n _ _ _ _ _ hi
  have q2 := zSt6 (A' := zRn A c d n d2 n2) q1.1 q1.2 hd2 hn2 (by rw [e36 3 (by decide)]; exact hv2) (fun e he e2 => by
    rw [zsa_2] at e2
    by_cases z : 50 * d2 + n2 = 50 * d + n
    · rw [if_pos ⟨rfl, z⟩] at e2
      exact (zdv e he).2.2 e2.symm
    · rw [if_neg (fun y => z y.2), hfr] at e2
      exact (zdv e he).2.2 e2.symm) (Nat.le_refl F) (Or.inr ⟨f, hf, hs⟩) (by rw [hnn 3 (by decide) (by decide) (by decide) (by decide) (by decide), e36 3 (by decide)]) (by rw [hnn 4 (by decide) (by decide) (by decide) (by decide) (by decide), e36 4 (by decide)]) (by rw [hnn 5 (by decide) (by decide) (by decide) (by decide) (by decide), e36 5 (by decide)]) (fun j => by
    rw [zRn_6, zsa_2]
    by_cases z : j = 50 * d2 + n2
    · rw [if_pos z, if_pos z]
    · rw [if_neg z, if_neg z]
      by_cases z2 : j = 50 * d + n
      · rw [if_pos z2, if_pos ⟨rfl, z2⟩]
      · rw [if_neg z2, if_neg (fun y => z2 y.2)])
  refine ⟨D, F, T, L, hJ.mk6 q2 (by rw [h1]) (by rw [h1]) (by rw [h1]; exact ⟨hJ.2.1.1, by have := hJ.2.1.2; omega⟩) (by rw [h1]; exact hJ.fl) (by rw [h1]) (by rw [h1]) (hnn 3 (by decide) (by decide) (by decide) (by decide) (by decide)) (hnn 4 (by decide) (by decide) (by decide) (by decide) (by decide)) (hnn 5 (by decide) (by decide) (by decide) (by decide) (by decide)) (hnn 10 (by decide) (by decide) (by decide) (by decide) (by decide)) (hnn 11 (by decide) (by decide) (by decide) (by decide) (by decide)), p.1, p.2, fun k f' k1 k2 k3 => ?_, (hu.cn (hJ.al hd hv) hn _ _ _).cn (hJ.al hd2 hv2) hn2 _ _ _⟩
  rw [zRn_6] at k3
  rw [zRn_7, zcn_7]
  by_cases z : k = 50 * d2 + n2
  · rw [if_pos z] at k3
    rw [if_pos z, if_pos z]
    exact he (50 * d + n) f' (by omega) k2 k3
  · rw [if_neg z] at k3
    rw [if_neg z, if_neg z, zcn_7]
    by_cases z2 : k = 50 * d + n
    · rw [if_pos z2] at k3
      exact absurd k3.symm (zfv2 k2)
    · rw [if_neg z2] at k3
      rw [if_neg z2]
      exact he k f' k1 k2 k3
theorem zRe_n (A : ZA) (c d n d2 n2 e : Nat) {i : Nat} (h4 : i ≠ 4) (h5 : i ≠ 5) : (zRe A c d n d2 n2 e).2 i = (zRn A c d n d2 n2).2 i := by
  unfold zRe
  rw [zsa_n _ _ _ _ _ h5, zsa_n _ _ _ _ _ h4]
theorem zRe_1 (A : ZA) (c d n d2 n2 e : Nat) : (zRe A c d n d2 n2 e).1 = A.1 := by
  unfold zRe
  rw [zsa_1, zsa_1, zRn_1]
theorem zRe_4 (A : ZA) (c d n d2 n2 e j : Nat) : (zRe A c d n d2 n2 e).2 4 j = if j = e then nI d2 else A.2 4 j := by
  unfold zRe
  rw [zsa_n _ _ _ _ _ (by decide), zsa_2]
  by_cases z : j = e
  · rw [if_pos ⟨rfl, z⟩, if_pos z]
  · rw [if_neg (fun y => z y.2), if_neg z, zRn_n _ _ _ _ _ _ (by decide) (by decide) (by decide) (by decide) (by decide)]
theorem zRe_5 (A : ZA) (c d n d2 n2 e j : Nat) : (zRe A c d n d2 n2 e).2 5 j = if j = e then nI n2 else A.2 5 j := by
  unfold zRe
  rw [zsa_2]
  by_cases z : j = e
  · rw [if_pos ⟨rfl, z⟩, if_pos z]
  · rw [if_neg (fun y => z y.2), if_neg z, zsa_n _ _ _ _ _ (by decide), zRn_n _ _ _ _ _ _ (by decide) (by decide) (by decide) (by decide) (by decide)]
theorem zJ.re (h : zJ A t D F T L) {c d n d2 n2 e : Nat} (hd : d < 12) (hn : n < 50) (hv : A.2 3 d = 1) (hd2 : d2 < 12) (hn2 : n2 < 50) (hv2 : A.2 3 d2 = 1) (he : e < 12) (he0 : ¬ e = 0) (hve : A.2 3 e = 1) (hpe : zpar A e = d) (hne : znam A e = n) (hs : A.2 6 (50 * d + n) = -2 - nI e) (hfr : A.2 6 (50 * d2 + n2) = -1) (hb : ¬ zblN A 11 d2 e = true) : zJ (zRe A c d n d2 n2 e) (t + 1) D F T L := by
  have h1 := zRe_1 A c d n d2 n2 e
  have h3 : (zRe A c d n d2 n2 e).2 3 = A.2 3 := by rw [zRe_n _ _ _ _ _ _ _ (by decide) (by decide), zRn_n _ _ _ _ _ _ (by decide) (by decide) (by decide) (by decide) (by decide)]
  have h4 := zRe_4 A c d n d2 n2 e
  have h5 := zRe_5 A c d n d2 n2 e
  have h6 : ∀ j, (zRe A c d n d2 n2 e).2 6 j = if j = 50 * d2 + n2 then -2 - nI e else if j = 50 * d + n then -1 else A.2 6 j := fun j => by rw [zRe_n _ _ _ _ _ _ _ (by decide) (by decide), zRn_6, hs]
  have h10 : (zRe A c d n d2 n2 e).2 10 = A.2 10 := by rw [zRe_n _ _ _ _ _ _ _ (by decide) (by decide), zRn_n _ _ _ _ _ _ (by decide) (by decide) (by decide) (by decide) (by decide)]
  have h11 : (zRe A c d n d2 n2 e).2 11 = A.2 11 := by rw [zRe_n _ _ _ _ _ _ _ (by decide) (by decide), zRn_n _ _ _ _ _ _ (by decide) (by decide) (by decide) (by decide) (by decide)]
  generalize zRe A c d n d2 n2 e = A' at h1 h3 h4 h5 h6 h10 h11
  have hpar : ∀ j, ¬ j = e → zpar A' j = zpar A j := fun j g => by unfold zpar; rw [h4, if_neg g]
  have hnam : ∀ j, ¬ j = e → znam A' j = znam A j := fun j g => by unfold znam; rw [h5, if_neg g]
  have hpE : zpar A' e = d2 := by unfold zpar; rw [h4, if_pos rfl]; exact nI_clamp (by omega)
  have hnE : znam A' e = n2 := by unfold znam; rw [h5, if_pos rfl]; exact nI_clamp (by omega)
  obtain ⟨j1, j2, j3, j4, j5, j6, j7, j8, j9, j10, j11⟩ := h
  have hup : ∀ j, ¬ j = e → zUp A j → zUp A' j := fun j z ⟨u1, u2, u3, u4, u5⟩ =>
    ⟨by rw [hpar j z, h4, if_neg z]; exact u1, by rw [hpar j z]; exact u2, by rw [hpar j z, h3]; exact u3, by rw [hnam j z, h5, if_neg z]; exact u4, by rw [hnam j z]; exact u5⟩
  have hup2 : ∀ k j, ¬ zblN A k j e = true → zDp A k j → zDp A' k j := fun k => by
    induction k with
    | zero => exact fun j _ g => g
    | succ k ih =>
      intro j b g
      rcases g with g | ⟨u, g⟩
      · exact Or.inl g
      · by_cases z0 : j = 0
        · exact Or.inl z0
        · rw [zblN] at b
          by_cases z : j = e
          · rw [if_pos (Or.inr z)] at b
            exact absurd (decide_eq_true z) b
          · rw [if_neg (fun y => y.elim z0 z)] at b
            refine Or.inr ⟨hup j z u, ?_⟩
            rw [hpar j z]
            exact ih _ b g
  have hE : zDp A' 12 e := by
    refine Or.inr ⟨⟨by rw [hpE, h4, if_pos rfl], by rw [hpE]; exact hd2, by rw [hpE, h3]; exact hv2, by rw [hnE, h5, if_pos rfl], by rw [hnE]; exact hn2⟩, ?_⟩
    rw [hpE]
    exact hup2 11 d2 hb (j6 d2 hd2 hv2)
  have hdp : ∀ k j, zDp A k j → ∃ K, zDp A' K j := fun k => by
    induction k with
    | zero => exact fun j g => ⟨0, g⟩
    | succ k ih =>
      intro j g
      by_cases z : j = e
      · rw [z]
        exact ⟨12, hE⟩
      · rcases g with g | ⟨u, g⟩
        · exact ⟨0, g⟩
        · obtain ⟨K, q⟩ := ih _ g
          refine ⟨K + 1, Or.inr ⟨hup j z u, ?_⟩⟩
          rw [hpar j z]
          exact q
  refine ⟨by rw [h1]; exact ⟨j1.1, by have := j1.2; omega⟩, by rw [h1]; exact ⟨j2.1, by have := j2.2; omega⟩, by rw [h1]; exact j3, by unfold zBas; rw [h1, h3]; exact j4, by unfold zFr; rw [h3, h10, h11]; exact j5, fun j g1 g2 => ?_, by unfold zDz; rw [h3, h10]; exact j7, by unfold zCf; rw [h3, h10]; exact j8, fun d' n' g1 g2 => ?_, fun j g1 g2 g3 => ?_, j11.cg (by rw [h1]) (by rw [h1]) h3 h10⟩
  · rw [h3] at g2
    obtain ⟨K, q⟩ := hdp 11 j (j6 j g1 g2)
    exact zDp_11 q g1
  · rw [h6, h3]
    by_cases z : 50 * d' + n' = 50 * d2 + n2
    · rw [if_pos z]
      have e1 : d' = d2 := by omega
      have e2 : n' = n2 := by omega
      subst e1; subst e2
      exact Or.inr ⟨hv2, Or.inr ⟨e, he, he0, hve, rfl, hpE, hnE⟩⟩
    · rw [if_neg z]
      by_cases z2 : 50 * d' + n' = 50 * d + n
      · rw [if_pos z2]
        exact Or.inl rfl
      · rw [if_neg z2]
        rcases j9 d' n' g1 g2 with g | ⟨g0, g | ⟨e', q1, q2, q3, q4, q5, q6⟩⟩
        · exact Or.inl g
        · exact Or.inr ⟨g0, Or.inl g⟩
        · have hne' : ¬ e' = e := fun y => by
            subst y
            exact z2 (by rw [← q5, ← q6, hpe, hne])
          exact Or.inr ⟨g0, Or.inr ⟨e', q1, q2, q3, q4, by rw [hpar e' hne']; exact q5, by rw [hnam e' hne']; exact q6⟩⟩
  · by_cases z : j = e
    · rw [z, hpE, hnE, h6, if_pos rfl]
    · rw [h3] at g3
      have g := j10 j g1 g2 g3
      rw [hpar j z, hnam j z, h6]
      by_cases y1 : 50 * zpar A j + znam A j = 50 * d2 + n2
      · rw [y1, hfr] at g
        exact absurd g.symm (zdv j g1).2.2
      · rw [if_neg y1]
        by_cases y2 : 50 * zpar A j + znam A j = 50 * d + n
        · rw [y2, hs] at g
          exact absurd (zdvi he g1 g).symm z
        · rw [if_neg y2]
          exact g
/-- a directory is renamed -/
theorem zRS.re (hJ : zJ A t D F T L) (hA : zAg A B) (hl : zLs A B) (he : zAe A B L) (hu : zUm B D) (ht : t ≤ 600) {c d n d2 n2 e : Nat} (hd : d < 12) (hn : n < 50) (hv : A.2 3 d = 1) (hd2 : d2 < 12) (hn2 : n2 < 50) (hv2 : A.2 3 d2 = 1) (he12 : e < 12) (hs : A.2 6 (50 * d + n) = -2 - nI e) (g : Int32) (hJ' : zJ (zRe A c d n d2 n2 e) (t + 1) D F T L) : zRS (zRe A c d n d2 n2 e) (zsa (zsa (zcn (zcn B (nI c) d n (-1) (nI 0)) (nI c) d2 n2 (-2 - nI e) g) 4 e (nI d2)) 5 e (nI n2)) (t + 1) := by
  have p := zRn_p (c := c) hA hl hd hn hv hd2 hn2 hv2 (hJ.n0 ht) (-2 - nI e) g hs.symm
  refine ⟨D, F, T, L, hJ', (p.1.sa 4 _ _).sa 5 _ _, p.2.cg rfl ?_ ?_ ?_, fun k f' k1 k2 k3 => ?_, ?_⟩
  · rw [zRe_n _ _ _ _ _ _ _ (by decide) (by decide)]
  · rw [zRe_n _ _ _ _ _ _ _ (by decide) (by decide)]
  · rw [zsa_n _ _ _ _ _ (by decide), zsa_n _ _ _ _ _ (by decide)]
  · rw [zRe_n _ _ _ _ _ _ _ (by decide) (by decide), zRn_6] at k3
    rw [zRe_n _ _ _ _ _ _ _ (by decide) (by decide), zRn_7, zsa_n _ _ _ _ _ (by decide), zsa_n _ _ _ _ _ (by decide), zcn_7]
    by_cases z : k = 50 * d2 + n2
    · rw [if_pos z, hs] at k3
      exact absurd k3.symm (zfvd k2 he12)
    · rw [if_neg z] at k3
      rw [if_neg z, if_neg z, zcn_7]
      by_cases z2 : k = 50 * d + n
      · rw [if_pos z2] at k3
        exact absurd k3.symm (zfv2 k2)
      · rw [if_neg z2] at k3
        rw [if_neg z2]
        exact he k f' k1 k2 k3
  · have u1 := (hu.cn (hJ.al hd hv) hn (nI c) (-1) (nI 0)).cn (hJ.al hd2 hv2) hn2 (nI c) (-2 - nI e) g
    exact u1.cg (by rw [zsa_n _ _ _ _ _ (by decide), zsa_n _ _ _ _ _ (by decide)]) (by rw [zsa_n _ _ _ _ _ (by decide), zsa_n _ _ _ _ _ (by decide)]) (by rw [zsa_n _ _ _ _ _ (by decide), zsa_n _ _ _ _ _ (by decide)])
theorem zcn2_val {c1 c2 m1 m2 g1 g2 : Int32} {d n d2 n2 : Nat} {i j : Nat} (h : zVal (zcn (zcn B c1 d n m1 g1) c2 d2 n2 m2 g2) i j) : zVal B i j := zcn_val.mp (zcn_val.mp h)
end ZSM
end
section
/-! the law: both objects in one memory -/
section ZLA
variable {M M' : ZM} {W : Nat → Nat → Nat} {A B A' B' : ZA} {x : Nat} {q : Nat → Nat} {w : Int32} {t : Nat}
theorem zC.same (hC : zC M W B) (h : ∀ i j, zVal B i j → zsame M M' (W i j)) : zC M' W B := ⟨fun i j hv => zOb.same hv (h i j hv) (hC.1 i j hv), hC.2⟩
theorem zR.same (hR : zR M x q w A) (hx : zsame M M' x) (hq : ∀ k, zar k = true → zsame M M' (q k)) : zR M' x q w A := by
  refine ⟨hx.1.trans hR.1, fun k hk => ?_, ⟨(hx.2.2.1 0).trans hR.2.2.1.1, fun k hk h0 => (hx.2.2.1 k).trans (hR.2.2.1.2 k hk h0)⟩, hR.2.2.2⟩
  obtain ⟨h1, h2, h3, h4⟩ := hR.2.1 k hk
  obtain ⟨s1, s2, s3, -, -⟩ := hq k hk
  exact ⟨(hx.2.2.2.1 k).trans h1, s1.trans h2, s2.trans h3, fun j => (s3 j).trans (h4 j)⟩
theorem zC.kd (hC : zC M W B) : ∀ {i j : Nat}, zVal B i j → ¬ zk M (W i j) = 0 ∧ ¬ zk M (W i j) = 4 ∧ ¬ zk M (W i j) = 7
  | 0, j, hv => by rw [(hC.1 0 j hv).1]; decide
  | 1, j, hv => by rw [(hC.1 1 j hv).1]; decide
  | 2, j, hv => by rw [(hC.1 2 j hv).1]; decide
  | 3, j, hv => by rw [(hC.1 3 j hv).1]; decide
  | 4, j, hv => by rw [(hC.1 4 j hv).1]; decide
  | 5, j, hv => by rw [(hC.1 5 j hv).1]; decide
  | 6, j, hv => by rw [(hC.1 6 j hv).1]; decide
  | 7, j, hv => by rw [(hC.1 7 j hv).1]; decide
  | 8, j, hv => by rw [(hC.1 8 j hv).1]; decide
  | 9, j, hv => by rw [(hC.1 9 j hv).1]; decide
  | 10, j, hv => by have := hv.2; subst this; rw [hC.x.1]; decide
  | i + 11, _, hv => absurd hv.lt (by omega)
theorem zR.kd (hR : zR M x q w A) {k : Nat} (hk : zar k = true) : ¬ zk M (q k) = 0 ∧ ¬ zk M (q k) = 7 := by
  rw [(hR.2.1 k hk).2.1]
  split <;> decide
/-- the two objects and the law's row lie apart -/
def zSep (M : ZM) (W : Nat → Nat → Nat) (B : ZA) (x : Nat) (q : Nat → Nat) (w : Int32) (A : ZA) (c out : Nat) : Prop := zC M W B ∧ zR M x q w A ∧ W 10 0 = c ∧ (∀ i j k, zVal B i j → zar k = true → W i j ≠ q k) ∧ zk M out = 7 ∧ zn M out = 1
variable {c out : Nat}
theorem zSep.call {v : Option Value} {o : ZO} (h : zSep M W B x q w A c out) (g : zCW W M B v B' o M') : o = .inl v ∧ ∃ W', zSep M' W' B' x q w A c out := by
  obtain ⟨hC, hR, hc, hs, h7, h1⟩ := h
  obtain ⟨e, W', g1, g2, g3, g4⟩ := g
  have f : ∀ a, ¬ zk M a = 0 → (∀ i j, zVal B i j → a ≠ W i j) → zsame M M' a := g2
  have fx : zsame M M' x := f x (by rw [hR.1]; decide) (fun i j hv e => (hC.kd hv).2.1 (by rw [← e]; exact hR.1))
  have fq : ∀ k, zar k = true → zsame M M' (q k) := fun k hk => f _ (hR.kd hk).1 (fun i j hv e => hs i j k hv hk e.symm)
  have fo : zsame M M' out := f out (by rw [h7]; decide) (fun i j hv e => (hC.kd hv).2.2 (by rw [← e]; exact h7))
  refine ⟨e, W', g1, hR.same fx fq, g3.trans hc, fun i j k hv hk e => ?_, fo.1.trans h7, fo.2.1.trans h1⟩
  rcases g4 i j hv with ⟨k1, k2⟩ | k1
  · exact hs i j k k1 hk (by rw [← k2]; exact e)
  · rw [e] at k1
    exact (hR.kd hk).1 k1
theorem zSep.wr {v : Int64} (h : zSep M W B x q w A c out) : zSep (zsj M out 0 v) W B x q w A c out := by
  obtain ⟨hC, hR, hc, hs, h7, h1⟩ := h
  exact ⟨hC.same (fun i j hv => zsame.j (fun e => (hC.kd hv).2.2 (by rw [e]; exact h7))), hR.same (zsame.j (fun e => by have := hR.1; rw [e, h7] at this; exact absurd this (by decide))) (fun k hk => zsame.j (fun e => (hR.kd hk).2 (by rw [e]; exact h7))), hc, hs, h7, h1⟩
theorem zSep.ref {w' : Int32} (h : zSep M W B x q w A c out) (hR' : zR M' x q w' A') (hS : zSm x q M M') : zSep M' W B x q w' A' c out ∧ zj M' out 0 = zj M out 0 := by
  obtain ⟨hC, hR, hc, hs, h7, h1⟩ := h
  have fo : zsame M M' out := hS out (fun e => by have := hR.1; rw [← e, h7] at this; exact absurd this (by decide)) (fun k hk e => (hR.kd hk).2 (by rw [← e]; exact h7))
  exact ⟨⟨hC.same (fun i j hv => hS _ (fun e => (hC.kd hv).2.1 (by rw [e]; exact hR.1)) (fun k hk => hs i j k hv hk)), hR', hc, hs, fo.1.trans h7, fo.2.1.trans h1⟩, fo.2.2.2.2 0⟩
/-- the law's state before the call t -/
def zLS (M : ZM) (c x out : Nat) (t : Nat) : Prop := ∃ W B q w A, zSep M W B x q w A c out ∧ zRS A B t
/-- what a call of the law's own methods has done: k its answer, the reference's call to come -/
def zLP (c x out : Nat) (y3 : ZY) (As : List Value) (t : Nat) (r : Int32 → Option Value) (pr : Int32 → ZM → Prop) : ZO → ZM → Prop := fun o M' => ∃ (k : Nat) (v : Int32) (W : Nat → Nat → Nat) (B : ZA) (q : Nat → Nat) (w : Int32) (A A' : ZA), o = .inl (some (.int (nI k))) ∧ k < 4 ∧ zSep M' W B x q w A c out ∧ zRS A' B (t + 1) ∧ (∀ (G : ZG) (M : ZM) (x : Nat) (q : Nat → Nat) (w : Int32), zR M x q w A → zMet G y3 (.ref x :: As) M (zRP x q M (r v) (nI k) A')) ∧ (k = 0 → pr v M')
def zpI (out : Nat) : Int32 → ZM → Prop := fun v M => zj M out 0 = v.toInt64
def zpZ (out : Nat) : Int32 → ZM → Prop := fun v M => zj M out 0 = if v = 0 then 0 else 1
def zpV : Int32 → ZM → Prop := fun _ _ => True
theorem zLP_r {E : ZE} {G : ZG} {u : Nat} {Q : State → Prop} {pc : Nat} {L : List (Option Value)} {S : List Value} {y3 : ZY} {As : List Value} {r : Int32 → Option Value} {pr : Int32 → ZM → Prop} {n : Nat} (kk : ∀ M' (k : Nat) (v : Int32) (W : Nat → Nat → Nat) (B : ZA) (q : Nat → Nat) (w : Int32) (A A' : ZA), k < 4 → zSep M' W B x q w A c out → zRS A' B (t + 1) → (∀ (G : ZG) (M : ZM) (x : Nat) (q : Nat → Nat) (w : Int32), zR M x q w A → zMet G y3 (.ref x :: As) M (zRP x q M (r v) (nI k) A')) → (k = 0 → pr v M') → WW E G u Q M' n (pc + 3) L (.int (nI k) :: S)) : ∀ (v' : Option Value) (M' : ZM), zLP c x out y3 As t r pr (.inl v') M' → WW E G u Q M' n (pc + 3) L (v'.toList ++ S) := by
  rintro v' M' ⟨k, v, W, B, q, w, A, A', e, h⟩
  cases e
  exact kk M' k v W B q w A A' h.1 h.2.1 h.2.2.1 h.2.2.2.1 h.2.2.2.2
theorem zLP_x {E : ZE} {G : ZG} {u : Nat} {Q : State → Prop} {pc : Nat} {L : List (Option Value)} {y3 : ZY} {As : List Value} {r : Int32 → Option Value} {pr : Int32 → ZM → Prop} {n : Nat} : ∀ (En : String) (M' : ZM), zLP c x out y3 As t r pr (.inr En) M' → XX E G u Q M' n pc L En := by
  rintro En M' ⟨k, v, W, B, q, w, A, A', e, h⟩
  cases e
/-- the class's call has come back -/
theorem zCW_r {E : ZE} {G : ZG} {u : Nat} {Q : State → Prop} {pc : Nat} {L : List (Option Value)} {S : List Value} {v : Option Value} {n : Nat} (h : zSep M W B x q w A c out) (kk : ∀ M' W', zSep M' W' B' x q w A c out → WW E G u Q M' n (pc + 3) L (v.toList ++ S)) : ∀ (v' : Option Value) (M' : ZM), zCW W M B v B' (.inl v') M' → WW E G u Q M' n (pc + 3) L (v'.toList ++ S) := by
  intro v' M' g
  obtain ⟨e, W', h'⟩ := h.call g
  cases e
  exact kk M' W' h'
theorem zCW_x {E : ZE} {G : ZG} {u : Nat} {Q : State → Prop} {pc : Nat} {L : List (Option Value)} {v : Option Value} {n : Nat} : ∀ (En : String) (M' : ZM), zCW W M B v B' (.inr En) M' → XX E G u Q M' n pc L En := by
  rintro En M' ⟨e, -⟩
  cases e
/-! how both begin -/
theorem zA0_1 (k : Nat) : zA0.1 k = if k = 16 then -1 else if k = 2 then 1 else 0 := by
  unfold zA0
  rw [zBg_1, zNs_1]
  rfl
theorem zA0_n {i : Nat} (h3 : i ≠ 3) (h6 : i ≠ 6) (h10 : i ≠ 10) (h11 : i ≠ 11) (h12 : i ≠ 12) (j : Nat) : zA0.2 i j = 0 := by
  unfold zA0
  rw [zBg_n _ _ _ h3 h10 h11 h12, zNs_n h6]
theorem zA0_6 (j : Nat) : zA0.2 6 j = if j < 600 then -1 else 0 := by
  unfold zA0
  rw [zBg_n _ _ _ (by decide) (by decide) (by decide) (by decide), zNs_6]
theorem zA0_3 (j : Nat) : zA0.2 3 j = if j = 0 then nI 1 else 0 := by
  unfold zA0
  rw [zBg_3, zNs_n (by decide)]
theorem zA0_10 (j : Nat) : zA0.2 10 j = if 8 * 0 ≤ j ∧ j < 8 * 0 + 8 then (if j = 8 * 0 then nI 8 else nI 0) else 0 := by
  unfold zA0
  rw [zBg_10, zNs_n (by decide)]
theorem zA0_11 (j : Nat) : zA0.2 11 j = if 8 * 0 ≤ j ∧ j < 8 * 0 + 8 then (if j = 8 * 0 then nI 0 else -1) else 0 := by
  unfold zA0
  rw [zBg_11, zNs_n (by decide)]
theorem zA0_12 (j : Nat) : zA0.2 12 j = if 8 * 0 ≤ j ∧ j < 8 * 0 + 8 then nI 0 else 0 := by
  unfold zA0
  rw [zBg_12, zNs_n (by decide)]
theorem zB0_2 (i : Nat) : zB0.2 i = (zNd zBz0 0 0 (nI 0) (nI 0)).2 i := by
  unfold zB0
  rw [zsc_2]
theorem zAB0 : zAg zA0 zB0 := by
  refine zAg.of (funext fun k => ?_) (fun i h7 h13 j => ?_)
  · rw [zA0_1]
    unfold zB0
    rw [zsc_1, zNd_1, zBz0_1]
    by_cases e : k = 2
    · subst e
      rfl
    · rw [if_neg e, if_neg e, if_neg e]
  · rw [zB0_2]
    by_cases e3 : i = 3
    · rw [e3, zNd_3, zA0_3, zBz0_n (by decide)]
    · by_cases e4 : i = 4
      · rw [e4, zNd_4, zBz0_n (by decide), zA0_n (by decide) (by decide) (by decide) (by decide) (by decide)]
        split <;> rfl
      · by_cases e5 : i = 5
        · rw [e5, zNd_5, zBz0_n (by decide), zA0_n (by decide) (by decide) (by decide) (by decide) (by decide)]
          split <;> rfl
        · by_cases e10 : i = 10
          · rw [e10, zNd_10, zA0_10, zBz0_n (by decide)]
          · by_cases e11 : i = 11
            · rw [e11, zNd_11, zA0_11, zBz0_n (by decide)]
            · by_cases e12 : i = 12
              · rw [e12, zNd_12, zA0_12, zBz0_n (by decide)]
              · rw [zNd_n _ _ _ _ _ e3 e4 e5 e10 e11 e12]
                by_cases e6 : i = 6
                · rw [e6, zBz0_6 rfl, zA0_6]
                · rw [zBz0_n e6, zA0_n e3 e6 e10 e11 e12]
theorem zRS0 : zRS zA0 zB0 0 := by
  have hal : ∀ d, zA0.2 3 d = 1 → d = 0 := fun d g => by
    rw [zA0_3] at g
    by_cases z : d = 0
    · exact z
    · rw [if_neg z] at g
      exact absurd g (by decide)
  have h6 : ∀ k, k < 600 → zA0.2 6 k = -1 := fun k hk => by rw [zA0_6, if_pos hk]
  have hb : ∀ i j, i ≠ 3 → i ≠ 4 → i ≠ 5 → i ≠ 6 → i ≠ 10 → i ≠ 11 → i ≠ 12 → zB0.2 i j = 0 := fun i j h3 h4 h5 h6 h10 h11 h12 => by
    rw [zB0_2, zNd_n _ _ _ _ _ h3 h4 h5 h10 h11 h12, zBz0_n h6]
  refine ⟨1, 0, 0, 0, ⟨⟨by rw [zA0_1]; rfl, by omega⟩, ⟨by rw [zA0_1]; rfl, by omega⟩, ⟨by rw [zA0_1]; rfl, by omega⟩, ⟨by rw [zA0_1]; rfl, by omega, by omega, fun j hj => ?_⟩, ⟨fun d h1 h2 => ?_, fun y h1 h2 => ?_⟩, fun d h1 h2 => Or.inl (hal d h2), fun f h1 h2 => ?_, fun d h1 h2 => ?_, fun d n h1 h2 => Or.inl (h6 _ (by omega)), fun e h1 h2 h3 => absurd (hal e h3) h2, Or.inl (by rw [zA0_1]; rfl)⟩, zAB0, fun c d n h1 h2 h3 => ?_, fun k f h1 h2 h3 => ?_, fun e h1 h2 k hk => ?_⟩
  · rw [zA0_3]
    by_cases z : j = 0
    · rw [if_pos z]
      exact Or.inl ⟨rfl, by omega⟩
    · rw [if_neg z]
      exact Or.inr rfl
  · rw [hal d h2, zA0_10]
    decide
  · rw [zA0_10, if_pos (by omega)] at h2
    rw [zA0_11, if_pos (by omega)]
    by_cases z : y = 8 * 0
    · rw [if_pos z]
      decide
    · rw [if_neg z] at h2
      exact absurd rfl h2
  · rw [zA0_10] at h2
    by_cases z : 8 * 0 ≤ f ∧ f < 8 * 0 + 8
    · rw [zA0_3, if_pos (by omega)]
      rfl
    · rw [if_neg z] at h2
      exact absurd rfl h2
  · rw [hal d h2]
    refine ⟨_, zNw_cf, fun y hy => ?_⟩
    rw [zA0_10, if_pos (by omega), zNw_g y hy]
    by_cases q : y = 0
    · rw [if_pos (by omega), if_pos q]
    · rw [if_neg (by omega), if_neg q]
  · rw [zA0_n (i := 13) (by decide) (by decide) (by decide) (by decide) (by decide), hb 13 _ (by decide) (by decide) (by decide) (by decide) (by decide) (by decide) (by decide), zA0_1]
    exact ⟨fun _ => Or.inl rfl, fun _ => Int32.le_refl 0⟩
  · rw [h6 k h1] at h3
    exact absurd h3.symm (zfv2 h2)
  · refine ⟨?_, hb 7 _ (by decide) (by decide) (by decide) (by decide) (by decide) (by decide) (by decide), fun c hc => hb 13 _ (by decide) (by decide) (by decide) (by decide) (by decide) (by decide) (by decide)⟩
    rw [zB0_2, zNd_n _ _ _ _ _ (by decide) (by decide) (by decide) (by decide) (by decide) (by decide), zBz0_6 rfl, if_pos (by omega)]
end ZLA
end

/-! the claim: what its start gives -/
def R_law : String := "DirectoryServersLaw"
def lw_P (b : Addr) (xs : List Int32) (args : Array Value) (s : State) : Prop := args = #[.ref b] ∧ s.IntsAt b xs ∧ xs.length ≤ 260 ∧ (Jvm.Cond.and given_1 narrow_1).before args s = true
def lw_Q (_ : Array Value) (s : State) (o : Outcome) (t : State) : Prop := o = .returned (some (.int 1)) ∧ Framed s o t [] 600086 7301442
def lw_Z (below : List Frame) (a : Array Value) (s : State) : State → Prop := fun t => ∃ o, t.status = .running ∧ Ended t below o ∧ lw_Q a s o t
/-- the law's own end, with 1 on the stack, nothing written that was there before, its room as the claim has it -/
theorem lw_ret {p : Program} {l : Launch} {e : Env} {s : State} {m : MethodId} {below : List Frame} {meth : Method} {c : Code} {b : Nat} (hx : p.tables.exec = Jvm.exec) (hb : c.code = code) (hr : meth.sig.returnType = ret) (hlocks : meth.locks = false) {pc : Nat} {H : Heap} {ls : Array Slot} (hdg : decode code pc = .ok (.ireturn, 1)) : W p l e room_1 s m #[Value.ref b] below meth c H [] 600086 7301442 (lw_Z below #[Value.ref b] s) (F0 m pc ls [.int 1]) := by
  intro T hT X
  obtain ⟨fs, hret, hrun, hended, hW, hframe⟩ := X.leave (v := some (.int 1)) (hlocks := hlocks) (fun h => by rw [hr] at h; cases h)
  have hmeth' : T.vm.method? m = some meth := X.method'
  refine ⟨T.setFrames fs, ?_, .returned (some (.int 1)), hrun, hended, rfl, ⟨_, rfl⟩, hW, hframe⟩
  jvm_step X.here [X.here.top, hx, hb, hdg, hmeth', hr, ret, narrow_b1]
  (try refine ⟨rfl, ?_⟩); (try refine ⟨rfl, ?_⟩)
  first | (intro acts; rw [hret _ acts rfl rfl rfl]) | rw [hret _ _ rfl rfl rfl]
  exact Steps.refl _
/-- what holds at the law's entry: the machine, the code, the tables' words (any of lw_tbl by 'hts w (by decide +kernel)'), the script of L ints xs at the cell b, what the Statement gives of the start (any of its parts by flat_of_before) -/
def lw_At (p : Program) (s : State) (m : MethodId) (meth : Method) (c : Code) (b L : Nat) (xs : Nat → Int32) : Prop :=
  p.tables.exec = Jvm.exec ∧ c.code = code ∧ meth.sig.returnType = ret ∧ c.maxLocals = 16 ∧ s.vm.findClass R_law = some m.cls ∧ (∀ w ∈ lw_tbl, w.before #[Value.ref b] s = true) ∧ va_X b L xs s s.heap ∧ b < s.heap.size ∧ meth.locks = false ∧ (Jvm.Cond.and given_1 narrow_1).before #[Value.ref b] s = true ∧ meth.name = "law"
section ZST
variable {G : ZG} {tb : List ExceptionTableEntry} {M : ZM} {b pc : Nat} {L : List (Option Value)}
/-- the law's end: true -/
theorem zq_law {p : Program} {e : Env} {s : State} {m : MethodId} {below : List Frame} {meth : Method} {c : Code} {b0 : Nat} (K : zOK mL_law tb G (p, e, room_1, s, m, #[.ref b0], below, meth, c)) (hG : G.2.2.2 = s.heap) (hd : decode cL_law pc = .ok (.ireturn, 1)) : WW (p, e, room_1, s, m, #[.ref b0], below, meth, c) G (zyu mL_law) (lw_Z below #[.ref b0] s) M b pc L [.int (nI 1)] := by
  intro H locs ls cells slots h1 h2 h3 h4 h5 h6
  have h5' : cells + b ≤ 16000 := h5
  have h6' : slots + 64 * b ≤ 64 * 16000 := h6
  refine W.widen (k := 600086) (n := 7301442) (by omega) (by omega) (va_forget (fun q hq => ?_) ?_)
  · have := h3 q hq
    unfold zfr at this
    rw [hG] at this
    exact this
  · exact lw_ret K.1 K.2.1 K.2.2.1 K.2.2.2.2.2.1 hd
theorem zarr1 {s : State} {args : Array Value} {ty : FieldType} (h : (Cond.arrayClass ty).before args s = true) (ho : ∀ C, ty ≠ .object C) : ∃ cA, ArrOfT s cA ty ∧ va_RA s cA ty := by
  obtain ⟨c, k, comp, h1, h2, h3⟩ := Cond.arrayClass_spec h
  refine ⟨c, fun n z => ⟨fun k h => (by cases h), k, h2, comp, h3⟩, ?_⟩
  cases ty <;> first | exact h1 | exact absurd rfl (ho _)
theorem zarr2 {s : State} {args : Array Value} {C : String} (h : (Cond.arrayOver (.object C)).before args s = true) : ∃ cA, ArrOfT s cA (.object C) ∧ va_RA s cA (.object C) := by
  obtain ⟨comp, c, k, h1, h2, h3, h4, h5⟩ := Cond.arrayOver_spec h
  exact ⟨c, fun n z => ⟨fun k h => (by cases h), k, h3, comp, h4⟩, k, comp, h3, h4, h1, h5⟩
theorem zarr3 {s : State} {args : Array Value} {t : FieldType} (h : (Cond.arrayOver (.array t)).before args s = true) : ∃ cA, ArrOfT s cA (.array t) ∧ va_RA s cA (.array t) := by
  obtain ⟨comp, c, k, h1, h2, h3, h4, h5⟩ := arrayOverA_spec h
  exact ⟨c, fun n z => ⟨fun k h => (by cases h), k, h3, comp, h4⟩, h5⟩
theorem zst_tx : ∀ q ∈ zTx, Cond.stringRef q.1 q.2.1 q.2.2 ∈ lw_tbl ∧ Cond.exactly (.string q.1 q.2.1) "java/lang/String" ∈ flatC (Jvm.Cond.and given_1 narrow_1) := by decide +kernel
theorem zst_ca : ∀ E ∈ zExc, Cond.castable E E ∈ lw_tbl := by decide +kernel
theorem zst_de : ∀ F ∈ zDecl, Cond.declares ⟨F, "<init>", "(Ljava/lang/String;)V"⟩ ∈ lw_tbl := by decide +kernel
theorem zst_z1 : Cond.isRef (.static Bundle.tN "UNASSIGNED_STACK" Bundle.steD) ∈ flatC (Jvm.Cond.and given_1 narrow_1) := by decide +kernel
theorem zst_z2 : Cond.isRef (.static Bundle.tN "SUPPRESSED_SENTINEL" Bundle.listD) ∈ flatC (Jvm.Cond.and given_1 narrow_1) := by decide +kernel
/-- what the start gives of the machine -/
theorem zstart {s : State} {b0 Ls : Nat} {xs : Nat → Int32} (l : Launch) (hflags : l.flags = flags0) (hts : ∀ w ∈ lw_tbl, w.before #[Value.ref b0] s = true) (hgv : (Jvm.Cond.and given_1 narrow_1).before #[Value.ref b0] s = true) (hX : va_X b0 Ls xs s s.heap) : ∃ (D : va_G) (cA : Nat → ClassId), cA 6 = b0 ∧ zSt (l, D, cA, s.heap) s := by
  have hz : ∀ w ∈ zTs, w.before #[Value.ref b0] s = true := fun w hw => hts w (List.mem_filter.mp hw).1
  have hfl := flat_of_before _ hgv
  obtain ⟨c0, i0, k0⟩ := u_known (C := RX0) (T := TX0) (N := 7) (n := 7) hz zclX0.2.2.2.1 (hz _ zclX0.2.2.2.2.2.2.1)
  obtain ⟨c1, i1, k1⟩ := u_known (C := RX1) (T := TX1) (N := 5) (n := 5) hz zclX1.2.2.2.1 (hz _ zclX1.2.2.2.2.2.2.1)
  obtain ⟨c2, i2, k2⟩ := u_known (C := RX2) (T := TX2) (N := 10) (n := 10) hz zclX2.2.2.2.1 (hz _ zclX2.2.2.2.2.2.2.1)
  obtain ⟨a0, r0⟩ := zarr1 (hts (.arrayClass .int) (by decide +kernel)) (fun C e => by cases e)
  have o3 := hts (.arrayOver (.object RX0)) (by decide +kernel)
  have o4 := hts (.arrayOver (.object RX1)) (by decide +kernel)
  have o5 := hts (.arrayOver (.array .int)) (by decide +kernel)
  obtain ⟨a3, r3⟩ := zarr2 o3
  obtain ⟨a4, r4⟩ := zarr2 o4
  obtain ⟨a5, r5⟩ := zarr3 o5
  have hA : ∀ a : Nat, a < s.heap.size → ¬ s.heap.size ≤ a := fun a h => Nat.not_le.mpr h
  obtain ⟨scr, hscr, hiA, -⟩ := hX
  refine ⟨(fun k => if k = 0 then c0 else if k = 1 then c1 else c2, fun k => if k = 0 then i0 else if k = 1 then i1 else i2), fun k => if k = 0 then a0 else if k = 1 then a0 else if k = 2 then a0 else if k = 3 then a3 else if k = 4 then a4 else if k = 5 then a5 else b0, rfl, ⟨fun k q hq => ?_, fun k q hq => ?_⟩, ?_, ?_, fun q hq => ?_, fun E hE => va_Nw.of rfl (hts _ (zst_ca E hE)), trivial, va_AO.of o3, va_AO.of o4, o5, ?_, fun F hF => va_Nw.of rfl (hts _ (zst_de F hF)), fun scr' hs => ?_⟩
  · match k, hq with
    | 0, hq => cases hq; exact k0
    | 1, hq => cases hq; exact k1
    | 2, hq => cases hq; exact k2
    | k + 3, hq => exact absurd hq (by simp [vwCl])
  · match k, hq with
    | 0, hq => cases hq; exact r0
    | 1, hq => cases hq; exact r0
    | 2, hq => cases hq; exact r0
    | 3, hq => cases hq; exact r3
    | 4, hq => cases hq; exact r4
    | 5, hq => cases hq; exact r5
    | k + 6, hq => exact absurd hq (by simp [zTy])
  · exact vx_Zqof (hts _ (by decide +kernel)) (hts _ (by decide +kernel)) (hfl _ zst_z1) hA
  · exact vx_Zqof (hts _ (by decide +kernel)) (hts _ (by decide +kernel)) (hfl _ zst_z2) hA
  · obtain ⟨h1, h2⟩ := zst_tx q hq
    obtain ⟨a, c, cell, k, e, -⟩ := Cond.exactly_spec (hfl _ h2)
    exact ⟨a, vk_R.of (hts _ h1) e⟩
  · show l.stackTraces = false
    unfold Launch.stackTraces
    rw [hflags]
    decide +kernel
  · have e : scr = scr' := Option.some.inj (hscr.symm.trans hs)
    rw [← e]
    exact hiA
end ZST

section ZROW4
variable {t : ZY} {tb : List ExceptionTableEntry} {E : ZE} {G : ZG} {u : Nat} {Q : State → Prop} {M : ZM} {b pc : Nat} {L : List (Option Value)} {S : List Value} {P P' : ZO → ZM → Prop}
theorem zRel.more {M' : ZM} {H H' : Heap} (h : zRel G M H) (hz : H.size ≤ H'.size) (ho : ∀ q, q < H.size → H'[q]? = H[q]?) (hc : ∀ a, zk M' a ≠ 0 → (zk M a ≠ 0 ∧ zE G.2.2.1 M' a = zE G.2.2.1 M a) ∨ (H.size ≤ a ∧ va_at G.2.1 vwCl (a, zE G.2.2.1 M' a) H')) : zRel G M' H' := by
  have g := h.grow hz ho
  refine ⟨g.1, g.2.1, fun a ha => ?_⟩
  rcases hc a ha with ⟨h1, h2⟩ | ⟨h1, h2⟩
  · rw [h2]
    exact g.2.2 a h1
  · exact ⟨Nat.le_trans h.1 h1, h2⟩
theorem zmn_k {q : Nat} {r : Nat → Nat} {k : Nat} (b : Nat) : zk (zmn M q r k) b = if b = r 3 then 5 else if b = r 2 then 5 else if b = r 1 then 5 else if b = r 0 then 5 else if b = q then 10 else zk M b := by
  unfold zmn
  simp only [zk_r, zk_w]
theorem zmn_n {q : Nat} {r : Nat → Nat} {k : Nat} (b : Nat) : zn (zmn M q r k) b = if b = r 3 then k else if b = r 2 then k else if b = r 1 then k else if b = r 0 then k else if b = q then 4 else zn M b := by
  unfold zmn
  simp only [zn_r, zn_w]
theorem zmn_i {q : Nat} {r : Nat → Nat} {k : Nat} (b j : Nat) : zi (zmn M q r k) b j = if b = r 3 then 0 else if b = r 2 then 0 else if b = r 1 then 0 else if b = r 0 then 0 else if b = q then 0 else zi M b j := by
  unfold zmn
  simp only [zi_r, zi_w]
theorem zmn_j {q : Nat} {r : Nat → Nat} {k : Nat} (b j : Nat) : zj (zmn M q r k) b j = if b = r 3 then 0 else if b = r 2 then 0 else if b = r 1 then 0 else if b = r 0 then 0 else if b = q then 0 else zj M b j := by
  unfold zmn
  simp only [zj_r, zj_w]
theorem zmn_r {q : Nat} {r : Nat → Nat} {k : Nat} (b j : Nat) : zr (zmn M q r k) b j = if b = q ∧ j = 3 then some (r 3) else if b = q ∧ j = 2 then some (r 2) else if b = q ∧ j = 1 then some (r 1) else if b = q ∧ j = 0 then some (r 0) else if b = r 3 then none else if b = r 2 then none else if b = r 1 then none else if b = r 0 then none else if b = q then none else zr M b j := by
  unfold zmn
  simp only [zr_r, zr_w]
theorem zmn_o {c0 : Nat → ClassId} {q : Nat} {r : Nat → Nat} {k b : Nat} (hq : b ≠ q) (hr : ∀ i, i < 4 → b ≠ r i) : zE c0 (zmn M q r k) b = zE c0 M b := by
  have r0 := hr 0 (by omega)
  have r1 := hr 1 (by omega)
  have r2 := hr 2 (by omega)
  have r3 := hr 3 (by omega)
  have h1 : zk (zmn M q r k) b = zk M b := by rw [zmn_k]; simp only [r0, r1, r2, r3, hq, if_false]
  have h2 : zn (zmn M q r k) b = zn M b := by rw [zmn_n]; simp only [r0, r1, r2, r3, hq, if_false]
  have h3 : zi (zmn M q r k) b = zi M b := funext fun j => by rw [zmn_i]; simp only [r0, r1, r2, r3, hq, if_false]
  have h4 : zr (zmn M q r k) b = zr M b := funext fun j => by rw [zmn_r]; simp only [r0, r1, r2, r3, hq, false_and, if_false]
  have h5 : zj (zmn M q r k) b = zj M b := funext fun j => by rw [zmn_j]; simp only [r0, r1, r2, r3, hq, if_false]
  unfold zE zct zfs zfv
  rw [h1, h2, h3, h4, h5]
theorem zq_mna (K : zOK t tb G E) {idx : Nat} {x y : Int32} (n : Nat) (hd : decode (zyc t) pc = .ok (.multianewarray idx 2, 4)) (hl : Cond.classLink (zyn t).cls idx ("[" ++ (FieldType.array .int).toString) ∈ zTs) (hw : Cond.arrayClass .int ∈ zTs) (hx : x = nI n) (hy : y = nI 4) (hn : n ≤ 64) (hb : 5 ≤ b) (hu : u ≤ zyu t)
    (kk : ∀ (q : Nat) (r : Nat → Nat), zk M q = 0 → (∀ i, i < 4 → zk M (r i) = 0 ∧ r i ≠ q) → (∀ i j, i < 4 → j < 4 → r i = r j → i = j) → WW E G u Q (zmn M q r n) (b - 5) (pc + 4) L (.ref q :: S)) : WW E G u Q M b pc L (.int x :: .int y :: S) := by
  subst hx; subst hy
  obtain ⟨p, e, R, s, m, args, below, meth, c⟩ := E
  obtain ⟨k1, k2, k3, k4, k5, k6, k7, k8, k9, k10, k11, k12, k13, k14, k15⟩ := K
  intro H locs ls cells slots h1 h2 h3 h4 h5 h6
  have e0 : (nI n).toNatClampNeg = n := nI_clamp (by omega)
  have e4 : (nI 4).toNatClampNeg = 4 := nI_clamp (by omega)
  intro T hT Xs
  obtain ⟨vm₁, cA, comp, -, fA, fC, hO, -, X', step⟩ := Xs.multianewarray2F k1 k5 (k7 _ hl) (show (Cond.arrayOver (.array .int)).before args s = true from k8.2.2.2.2.2.2.2.2.1) (k7 _ hw) (g := F0 m pc ls (.int (nI n) :: .int (nI 4) :: S)) rfl (by rw [k2]; exact hd) rfl (nI_pos (by omega)) (nI_pos (by omega)) (by rw [e4]; decide) (by rw [e0]; show n * 4 ≤ _; omega) (by rw [e0]; omega) rfl rfl (by rw [e4]; omega) (by rw [e0, e4]; omega)
  have hcA : cA = G.2.2.1 5 := Option.some.inj (fA.symm.trans (zty_name k8.1 (j := 5) rfl (fun C h => by cases h)))
  have hcI : comp = G.2.2.1 0 := Option.some.inj (fC.symm.trans (zty_name k8.1 (j := 0) rfl (fun C h => by cases h)))
  subst hcA; subst hcI
  rw [e0, e4] at X' step
  generalize hF : Jvm.Free.Multi.fill (T.setVm vm₁) (G.2.2.1 5) (G.2.2.1 0) 4 n (defaultValue .int) 4 = F at X' step
  have hTh : (T.setVm vm₁).heap = H := hT
  obtain ⟨f1, f2, -, -⟩ := Jvm.Free.Multi.fill_facts (T.setVm vm₁) (G.2.2.1 5) (G.2.2.1 0) 4 n (defaultValue .int) 4
  rw [hF, hTh] at f1 f2
  have hold : ∀ x : Nat, x < H.size → F.heap[x]? = H[x]? := fun x hx => by
    have := Jvm.Free.Multi.fill_old (T.setVm vm₁) (G.2.2.1 5) (G.2.2.1 0) 4 n (defaultValue .int) (a := x) (by rw [hTh]; exact hx) 4
    rw [hF, hTh] at this
    exact this
  have hrow : ∀ j : Nat, j < 4 → F.heap[H.size + 1 + j]? = some (Jvm.Free.Multi.innerC (G.2.2.1 0) n (defaultValue .int)) := fun j hj => by
    have := Jvm.Free.Multi.fill_inner (T.setVm vm₁) (G.2.2.1 5) (G.2.2.1 0) 4 n (defaultValue .int) 4 j hj
    rw [hF, hTh] at this
    exact this
  rw [vr_outer] at f2
  have hfr : ∀ a, H.size ≤ a → zk M a = 0 := fun a ha => h1.fresh ha
  have hkq : zk (zmn M H.size (fun i => H.size + 1 + i) n) H.size = 10 := by
    rw [zmn_k]
    simp only [if_pos]
    rw [if_neg (by omega), if_neg (by omega), if_neg (by omega), if_neg (by omega)]
  have hkr : ∀ i, i < 4 → zk (zmn M H.size (fun i => H.size + 1 + i) n) (H.size + 1 + i) = 5 := fun i hi => by
    rw [zmn_k]
    have : i = 0 ∨ i = 1 ∨ i = 2 ∨ i = 3 := by omega
    rcases this with rfl | rfl | rfl | rfl <;> simp
  have hR : zRel G (zmn M H.size (fun i => H.size + 1 + i) n) F.heap := by
    refine h1.more (by rw [f1]; omega) hold (fun a ha => ?_)
    by_cases hq : a = H.size
    · subst hq
      refine Or.inr ⟨Nat.le_refl _, ?_⟩
      rw [zE_a (k := 10) hkq (by omega)]
      show F.heap[H.size]? = some (vp_cell _ _)
      rw [zct_r (by omega), f2]
      congr 1
      have hn4 : zn (zmn M H.size (fun i => H.size + 1 + i) n) H.size = 4 := by
        rw [zmn_n]
        rw [if_neg (by omega), if_neg (by omega), if_neg (by omega), if_neg (by omega), if_pos rfl]
      rw [hn4]
      refine congrArg (arrV _ 4) (funext fun j => ?_)
      rw [zmn_r]
      by_cases j3 : j = 3
      · subst j3; simp
      · by_cases j2 : j = 2
        · subst j2; simp
        · by_cases j1 : j = 1
          · subst j1; simp
          · by_cases j0 : j = 0
            · subst j0; simp
            · rw [if_neg (by omega), if_neg (fun z => j3 z.2), if_neg (fun z => j2 z.2), if_neg (fun z => j1 z.2), if_neg (fun z => j0 z.2)]
              simp
    · by_cases hr : H.size + 1 ≤ a ∧ a < H.size + 5
      · refine Or.inr ⟨by omega, ?_⟩
        obtain ⟨i, hi, rfl⟩ : ∃ i, i < 4 ∧ a = H.size + 1 + i := ⟨a - (H.size + 1), by omega, by omega⟩
        rw [zE_a (k := 5) (hkr i hi) (by omega)]
        show F.heap[H.size + 1 + i]? = some (vp_cell _ _)
        rw [zct_i (Or.inl rfl), hrow i hi]
        have hnn : zn (zmn M H.size (fun i => H.size + 1 + i) n) (H.size + 1 + i) = n := by
          rw [zmn_n]
          have : i = 0 ∨ i = 1 ∨ i = 2 ∨ i = 3 := by omega
          rcases this with rfl | rfl | rfl | rfl <;> simp
        have hii : ∀ j, zi (zmn M H.size (fun i => H.size + 1 + i) n) (H.size + 1 + i) j = 0 := fun j => by
          rw [zmn_i]
          have : i = 0 ∨ i = 1 ∨ i = 2 ∨ i = 3 := by omega
          rcases this with rfl | rfl | rfl | rfl <;> simp
        rw [hnn]
        simp only [hii]
        unfold Jvm.Free.Multi.innerC
        rw [arrV_new]
        rfl
      · have hne : ∀ i, i < 4 → a ≠ (fun i => H.size + 1 + i) i := fun i hi h => by
          have h9 : a = H.size + 1 + i := h
          omega
        have hE := zmn_o (M := M) (c0 := G.2.2.1) (k := n) hq hne
        refine Or.inl ⟨?_, hE⟩
        rw [zmn_k, if_neg (hne 3 (by omega)), if_neg (hne 2 (by omega)), if_neg (hne 1 (by omega)), if_neg (hne 0 (by omega)), if_neg hq] at ha
        exact ha
  have X2 := stand_widen (k := cells + 5) (n := slots + 320) X' (by omega) (by omega)
  obtain ⟨t2, a1, b1⟩ := kk H.size (fun i => H.size + 1 + i) (hfr _ (Nat.le_refl _)) (fun i _ => ⟨hfr _ (by omega), by omega⟩) (fun i j _ _ h => by have h9 : H.size + 1 + i = H.size + 1 + j := h; omega) F.heap locs ls (cells + 5) (slots + 320) hR (by rw [f1]; omega) h3 h4 (by omega) (by omega) F rfl X2
  refine ⟨t2, step t2 ?_, b1⟩
  have e : T.heap.size = H.size := by rw [hT]
  rw [e]
  exact a1
/-! methods with a table of handlers: bodies, calls -/
abbrev zMetW (G : ZG) (hh : List (Nat × Nat × Nat × Nat)) (t : ZY) (As : List Value) (M : ZM) (P : ZO → ZM → Prop) : Prop := zMetC G (zcdW t hh) t As M P
def zYW (t : ZY) (hh : List (Nat × Nat × Nat × Nat)) (n : Nat) : Prop := zcdW t hh ∈ zTs ∧ Cond.initialized (zyn t).cls ∈ zTs ∧ ((zyn t).cls ≠ "java/lang/invoke/MethodHandle" ∧ (zyn t).cls ≠ "java/lang/invoke/VarHandle") ∧ (parseMethodDescriptor (zyn t).desc).map (fun d => d.parameters.length) = some n ∧ plainName (zyn t).cls = true ∧ zyl t + 19 ≤ 36
theorem zbodyW {hh : List (Nat × Nat × Nat × Nat)} {n : Nat} {As : List Value} (hy : zYW t hh n) (L : List (Option Value)) (hL : As.map some ++ List.replicate (zyl t - As.length) none = L) (hlen : As.length ≤ zyl t) (hc : ∀ v ∈ As, v.category = 1)
    (body : ∀ E : ZE, zOK t (tableOf hh) G E → WW E G (zyu t) (zQ E G t P) M (zyu t) 0 L []) : zMetW G hh t As M P := by
  refine vx_ofWH (cc := zyc t) (maxL := zyl t) (ret := zyr t) (hh := hh) hy.2.2.2.2.1 rfl ?_
  intro p e s m args below meth c s₁ B hml hv
  obtain ⟨rfl, hrel, hst⟩ := hv
  have hts := atoms_spec (ws := zcdW t hh :: zTs) B.pre
  have hown : s.vm.findClass (zyn t).cls = some m.cls := findClass_of_methodNamed B.named
  have htb : c.exceptionTable.toList = tableOf hh := vx_table (x := zyn t) B (hts _ List.mem_cons_self)
  have K := body (p, e, zrm (zyh t) (zyu t), s, m, As.toArray, below, meth, c) ⟨B.exec, B.bytes, B.returns, hml, hown, B.notSynchronized, fun w hw => hts w (List.mem_cons_of_mem _ hw), hst, ⟨hrel.1, hrel.2.1⟩, htb, (name_of_methodNamed B.named B.method).1, Nat.le_refl _, Nat.le_refl _, Nat.le_refl _, Nat.le_refl _⟩
  rw [lg_entry_eq]
  exact K s.heap [] _ 0 0 hrel (Nat.le_refl _) (fun q hq => nomatch hq) (by rw [← hL, hml]; exact zL_entry hc hlen) (by omega) (by omega)
theorem zq_callW (K : zOK t tb G E) {hh : List (Nat × Nat × Nat × Nat)} {y : ZY} {idx n : Nat} {As : List Value} {S0 : List Value} (hd : decode (zyc t) pc = .ok (.invokestatic idx, 3)) (hy : zYW y hh n) (hl : Cond.methodLink (zyn t).cls idx (zyn y) ∈ zTs) (hs : Cond.static (zyn y) ∈ zTs) (hcy : (zyn y).cls = (zyn t).cls) (hh' : zyh y + 1 ≤ zyh t) (hn : As.length = n) (hS0 : S0 = As.reverse ++ S) (hSc : (S.map fun v => v.category).sum ≤ 8) (hb : zyu y ≤ b) (hM : zMetW G hh y As M P')
    (kr : ∀ (v : Option Value) (M' : ZM), P' (.inl v) M' → WW E G u Q M' (b - zyu y) (pc + 3) L (v.toList ++ S)) (kx : ∀ (En : String) (M' : ZM), P' (.inr En) M' → XX E G u Q M' (b - zyu y) pc L En) (hub : u ≤ zyu t) : WW E G u Q M b pc L S0 := by
  subst hS0
  obtain ⟨p, e, R, s, m, args, below, meth, c⟩ := E
  obtain ⟨k1, k2, k3, k4, k5, k6, k7, k8, k9, k10, k11, k12, k13, k14, k15⟩ := K
  intro H locs ls cells slots h1 h2 h3 h4 h5 h6
  have hG : GoodIn zTs (va_wsS (zyn t).cls idx (zyn y) (zcdW y hh :: zTs)) := zgood (fun w hw => by
    unfold va_wsS at hw
    simp only [List.mem_cons, List.cons_append, List.nil_append] at hw
    rcases hw with rfl | rfl | rfl | rfl | h
    · exact hl
    · exact hs
    · exact hy.2.1
    · exact hy.1
    · exact h)
  exact zrun (vx_runSX (As := As) (rest := S) ⟨k1, k2, k4, k5, k7⟩ hM (vx_cwSW n k7 hG rfl rfl rfl ⟨hy.2.2.1.1, hy.2.2.1.2, hy.2.2.2.1⟩ (zroom hh' hy.2.2.2.2.2 k12 k13))
    ⟨zPc.blind, fun U hU hW => ⟨rfl, h1.warmU hU, zSt.warm hW k8⟩⟩ rfl hn (h4.1.trans k4) rfl (lv_room hSc) hd ⟨by omega, by omega⟩) h2 h3 h4 h5 h6 hb kr kx
end ZROW4

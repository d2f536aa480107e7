/-! the class: changes, sums over directories and slots -/
theorem zVal.cg {B B' : ZA} (h3 : B'.2 3 = B.2 3) (h10 : B'.2 10 = B.2 10) {i j : Nat} : zVal B' i j ↔ zVal B i j := by
  unfold zVal
  rw [h3, h10]
theorem zVal.dr {B : ZA} {d : Nat} : ∀ {i j : Nat}, zVal (zsa B 3 d (nI 0)) i j → zVal B i j := by
  have h : ∀ x, (zsa B 3 d (nI 0)).2 3 x = 1 → B.2 3 x = 1 := fun x hx => by
    rw [zsa_2] at hx
    split at hx
    · exact absurd hx (by decide)
    · exact hx
  intro i j hv
  unfold zVal at hv ⊢
  split at hv
  · exact ⟨hv.1, h _ hv.2⟩
  · exact ⟨hv.1, h _ hv.2⟩
  · exact ⟨hv.1, h _ hv.2⟩
  · exact ⟨hv.1, h _ hv.2⟩
  · exact ⟨hv.1, h _ hv.2⟩
  · exact ⟨hv.1, h _ hv.2⟩
  · exact ⟨hv.1, h _ hv.2.1, hv.2.2⟩
  · exact hv
theorem zOb.dr {M : ZM} {W : Nat → Nat → Nat} {B : ZA} {d : Nat} : ∀ {i j : Nat}, ¬ (i = 0 ∧ j = 0) → zVal B i j → zOb M W B i j → zOb M W (zsa B 3 d (nI 0)) i j
  | 0, j, hne, hv, _ => absurd ⟨rfl, hv.2⟩ hne
  | 1, _, _, _, h => h
  | 2, _, _, _, h => h
  | 3, _, _, _, h => h
  | 4, _, _, _, h => h
  | 5, _, _, _, h => h
  | 6, _, _, _, h => h
  | 7, _, _, _, h => h
  | 8, _, _, _, h => h
  | 9, _, _, _, h => h
  | 10, _, _, _, h => h
  | i + 11, _, _, hv, _ => absurd hv.lt (by omega)
theorem zC.u_drop {M : ZM} {W : Nat → Nat → Nat} {B : ZA} {d : Nat} (hC : zC M W B) : zC (zsr M (W 0 0) d none) W (zsa B 3 d (nI 0)) := by
  refine hC.upd 0 0 ⟨by decide, rfl⟩ (fun a h => zsame.r h) (fun _ _ h => h.dr) (fun i j hne hv h => zOb.dr hne hv h) (fun h => ⟨h.1, h.2.1, fun x hx => ?_⟩)
  rw [zr_r]
  by_cases e : x = d
  · rw [if_pos ⟨rfl, e⟩, show (zsa B 3 d (nI 0)).2 3 x = nI 0 from by rw [zsa_2, if_pos ⟨rfl, e⟩], if_neg (by decide)]
  · rw [if_neg (fun z => e z.2), show (zsa B 3 d (nI 0)).2 3 x = B.2 3 x from by rw [zsa_2, if_neg (fun z => e z.2)]]
    exact h.2.2 x hx
theorem zc_drop {t : ZY} {tb : List ExceptionTableEntry} {E : ZE} {G : ZG} {u : Nat} {Q : State → Prop} {M M0 : ZM} {b pc : Nat} {L : List (Option Value)} {S : List Value} {W : Nat → Nat → Nat} {B B0 : ZA} (K : zOK t tb G E) {d : Nat} {i : Int32} (hd : decode (zyc t) pc = .ok (.aastore, 1)) (hC : zC M W B) (hS : zFm M0 W B0 M) (hv : zVal B 3 d) (hv0 : zVal B0 3 d) (hi : i = nI d) (kk : ∀ M', zC M' W (zsa B 3 d (nI 0)) → zFm M0 W B0 M' → WW E G u Q M' b (pc + 1) L S) : WW E G u Q M b pc L (.null :: .int i :: .ref (W 0 0) :: S) :=
  zq_aastN K d hd hC.dirs.1 ⟨rfl, by decide⟩ hi (by rw [hC.dirs.2.1]; exact hv.1) (by rw [hC.dirs.2.1]; decide) (kk _ hC.u_drop (hS.one (i := 0) (j := 0) ⟨by decide, rfl⟩ (fun a h => zsame.r h)))
theorem ct_X2_dropDirectory {G : ZG} {M : ZM} {W : Nat → Nat → Nat} {B : ZA} (hC : zC M W B) {d : Nat} (hv : zVal B 3 d) : zMet G mX2_dropDirectory [.ref (W 10 0), .int (nI (d))] M (zCP W M B none (zsa B 3 d (nI 0))) := by
  refine zbody zyX2_dropDirectory [some (.ref (W 10 0)), some (.int (nI (d)))] rfl (Nat.le_of_ble_eq_true rfl) (by intro v hv; simp only [List.mem_cons, List.not_mem_nil, or_false] at hv; rcases hv with rfl | rfl <;> rfl) (fun E K => ?_)
  have hS : zFm M W B M := zFm.rf
  refine zq_iload_n K dX2_dropDirectory_0 rfl rfl ?_
  refine zq_if_ltN K (x := d) 20 dX2_dropDirectory_1 (by decide) (by have := hv.1; omega) (fun h1 => by omega) (fun h1 => ?_)
  refine zq_iload_n K dX2_dropDirectory_4 rfl rfl ?_
  refine zq_aload_n K dX2_dropDirectory_5 rfl rfl ?_
  refine zq_getRs K dX2_dropDirectory_6 zclX2 (k := 0) (by decide) zf_X2_11 rfl hC.x.1 hC.x.2.1.1 ?_
  refine zq_alen K dX2_dropDirectory_9 hC.dirs.1 (by decide) ?_
  refine zq_top (v := nI 12) (congrArg nI hC.dirs.2.1) ?_
  refine zq_icmp_geN K (x := d) (y := 12) 20 dX2_dropDirectory_10 (by decide) ⟨by have := hv.1; omega, by omega⟩ (fun h10 => ?_) (fun h10 => ?_)
  · exact absurd hv.1 (by omega)
  · refine zq_aload_n K dX2_dropDirectory_13 rfl rfl ?_
    refine zq_getRs K dX2_dropDirectory_14 zclX2 (k := 0) (by decide) zf_X2_11 rfl hC.x.1 hC.x.2.1.1 ?_
    refine zq_iload_n K dX2_dropDirectory_17 rfl rfl ?_
    refine zq_null K dX2_dropDirectory_18 ?_
    refine zc_drop K (d := d) dX2_dropDirectory_19 hC hS hv hv rfl (fun M hC hS => ?_)
    exact zq_ret K dX2_dropDirectory_20 rfl ⟨rfl, hC, hS⟩
/-- the leases on the name at a end: of the first k clients -/
def zel (B : ZA) (a : Nat) (ex : Int32) : Nat → ZA
  | 0 => B
  | k + 1 => if B.1 1 < (zel B a ex k).2 13 (600 * k + a) then (if nI k = ex then zsa (zel B a ex k) 13 (600 * k + a) (B.1 1) else zsa (zsa (zel B a ex k) 13 (600 * k + a) (B.1 1)) 14 k ((zel B a ex k).2 14 k + nI 1)) else zel B a ex k
theorem zel_sme (B : ZA) (a : Nat) (ex : Int32) : ∀ k, zSme B (zel B a ex k)
  | 0 => zSme.rf
  | k + 1 => by
    have h := zel_sme B a ex k
    unfold zel
    split
    · split
      · exact ⟨h.1, fun i h1 h2 => by rw [zsa_n _ _ _ _ _ h1]; exact h.2 i h1 h2⟩
      · exact ⟨h.1, fun i h1 h2 => by rw [zsa_n _ _ _ _ _ h2, zsa_n _ _ _ _ _ h1]; exact h.2 i h1 h2⟩
    · exact h
theorem zSme.val {A B : ZA} (h : zSme A B) {i j : Nat} : zVal B i j ↔ zVal A i j := zVal.cg (h.2 3 (by decide) (by decide)) (h.2 10 (by decide) (by decide))
theorem lp_X2_endLeases {G : ZG} {E : ZE} (K : zOK mX2_endLeases [] G E) {M0 : ZM} {W : Nat → Nat → Nat} {B : ZA} {d n : Nat} (hv : zVal B 3 d) (hn : n < 50) {ex : Int32} {P : ZO → ZM → Prop} (hP : ∀ M, zC M W (zel B (50 * d + n) ex 4) → zFm M0 W B M → P (.inl none) M) : ∀ (m k : Nat), k + m = 4 → ∀ M, zC M W (zel B (50 * d + n) ex k) → zFm M0 W B M → WW E G (zyu mX2_endLeases) (zQ E G mX2_endLeases P) M 0 3 [some (.ref (W 10 0)), some (.ref (W 3 d)), some (.int (nI n)), some (.int ex), some (.int (nI (k)))] [] := by
  intro m
  induction m with
  | zero =>
    intro k hk M hC hS
    have hk4 : k = 4 := by omega
    subst hk4
    refine zq_iload K dX2_endLeases_3 rfl ?_
    refine zq_iconst K dX2_endLeases_5 (v := nI 4) (by decide) ?_
    refine zq_icmp_geN K (x := 4) (y := 4) 57 dX2_endLeases_6 (by decide) ⟨by omega, by omega⟩ (fun h6 => ?_) (fun h6 => by omega)
    exact zq_ret K dX2_endLeases_57 rfl (hP M hC hS)
  | succ m ih =>
    intro k hk M hC hS
    have hk4 : k < 4 := by omega
    have hsm := zel_sme B (50 * d + n) ex k
    have hv' : zVal (zel B (50 * d + n) ex k) 3 d := hsm.val.mpr hv
    have ht : (zel B (50 * d + n) ex k).1 1 = B.1 1 := congrFun hsm.1 1
    refine zq_iload K dX2_endLeases_3 rfl ?_
    refine zq_iconst K dX2_endLeases_5 (v := nI 4) (by decide) ?_
    refine zq_icmp_geN K (x := k) (y := 4) 57 dX2_endLeases_6 (by decide) ⟨by omega, by omega⟩ (fun h6 => by omega) (fun h6 => ?_)
    refine zq_aload_n K dX2_endLeases_9 rfl rfl ?_
    refine zq_iload K dX2_endLeases_10 rfl ?_
    refine zq_iload_n K dX2_endLeases_12 rfl rfl ?_
    refine zq_aload_n K dX2_endLeases_13 rfl rfl ?_
    refine zq_getI K dX2_endLeases_14 zclX2 (k := 4) (by decide) zf_X2_40 rfl hC.x.1 ?_
    refine zq_top hC.x.2.2.1.2.2.2.1 ?_
    refine zq_top (v := B.1 1) ht ?_
    refine zq_callV (As := [.int (nI (k)), .int (nI (n)), .int (B.1 1)]) K dX2_endLeases_17 zyX0_leaseRuns zm_X2_43 ziX0_leaseRuns zvX0_leaseRuns zclX0 rfl (by decide) rfl rfl (Nat.le_of_ble_eq_true rfl) (Nat.le_of_ble_eq_true rfl) (hC.d hv').1 (ct_X0_leaseRuns hC hv' hk4 hn (B.1 1)) (zdec_r (fun hr => ?_) (fun hr => ?_)) zdec_x (Nat.le_refl _)
    · refine zq_if_eqN K (x := 1) 51 dX2_endLeases_20 (by decide) (by omega) (fun h20 => by omega) (fun h20 => ?_)
      refine zq_aload_n K dX2_endLeases_23 rfl rfl ?_
      refine zq_iload K dX2_endLeases_24 rfl ?_
      refine zq_iload_n K dX2_endLeases_26 rfl rfl ?_
      refine zq_aload_n K dX2_endLeases_27 rfl rfl ?_
      refine zq_getI K dX2_endLeases_28 zclX2 (k := 4) (by decide) zf_X2_40 rfl hC.x.1 ?_
      refine zq_top hC.x.2.2.1.2.2.2.1 ?_
      refine zq_top (v := B.1 1) ht ?_
      refine zq_callV (As := [.int (nI (k)), .int (nI (n)), .int (B.1 1)]) K dX2_endLeases_31 zyX0_setLeaseEnd zm_X2_56 ziX0_setLeaseEnd zvX0_setLeaseEnd zclX0 rfl (by decide) rfl rfl (Nat.le_of_ble_eq_true rfl) (Nat.le_of_ble_eq_true rfl) (hC.d hv').1 (ct_X0_setLeaseEnd hC hv' hk4 hn (B.1 1)) (zCP_r hS (fun _ _ h => hsm.val.mp h) (fun M hC hS => ?_)) zCP_x (Nat.le_refl _)
      refine zq_iload K dX2_endLeases_34 rfl ?_
      refine zq_iload_n K dX2_endLeases_36 rfl rfl ?_
      refine zq_icmp_eq K 51 dX2_endLeases_37 (by decide) (fun he => ?_) (fun he => ?_)
      · refine zq_iincN K dX2_endLeases_51 rfl (by decide) ?_
        refine zq_goto K 3 dX2_endLeases_54 (by decide) ?_
        exact ih (k + 1) (by omega) M (by rw [zel, if_pos hr, if_pos he]; exact hC) hS
      · refine zq_aload_n K dX2_endLeases_40 rfl rfl ?_
        refine zq_getRs K dX2_endLeases_41 zclX2 (k := 5) (by decide) zf_X2_15 rfl hC.x.1 hC.x.2.1.2.1 ?_
        refine zq_iload K dX2_endLeases_44 rfl ?_
        refine zq_dup2 K dX2_endLeases_46 rfl rfl ?_
        refine zc_ldcnt K (z := 1) (c := k) dX2_endLeases_47 hC (by decide) rfl (by omega) ?_
        refine zq_top (v := (zel B (50 * d + n) ex k).2 14 k) rfl ?_
        refine zq_iconst K dX2_endLeases_48 (v := nI 1) (by decide) ?_
        refine zq_iadd K dX2_endLeases_49 ?_
        refine zc_strec K (c := k) dX2_endLeases_50 hC hS rfl (by omega) (fun M hC hS => ?_)
        refine zq_iincN K dX2_endLeases_51 rfl (by decide) ?_
        refine zq_goto K 3 dX2_endLeases_54 (by decide) ?_
        exact ih (k + 1) (by omega) M (by rw [zel, if_pos hr, if_neg he]; exact hC) hS
    · refine zq_if_eqN K (x := 0) 51 dX2_endLeases_20 (by decide) (by omega) (fun h20 => ?_) (fun h20 => by omega)
      refine zq_iincN K dX2_endLeases_51 rfl (by decide) ?_
      refine zq_goto K 3 dX2_endLeases_54 (by decide) ?_
      exact ih (k + 1) (by omega) M (by rw [zel, if_neg hr]; exact hC) hS
theorem ct_X2_endLeases {G : ZG} {M : ZM} {W : Nat → Nat → Nat} {B : ZA} (hC : zC M W B) {d : Nat} (hv : zVal B 3 d) {n : Nat} (hn : n < 50) (ex : Int32) : zMet G mX2_endLeases [.ref (W 10 0), .ref (W 3 (d)), .int (nI (n)), .int (ex)] M (zCP W M B none (zel B (50 * d + n) ex 4)) := by
  refine zbody zyX2_endLeases [some (.ref (W 10 0)), some (.ref (W 3 (d))), some (.int (nI (n))), some (.int (ex)), none] rfl (Nat.le_of_ble_eq_true rfl) (by intro v hv; simp only [List.mem_cons, List.not_mem_nil, or_false] at hv; rcases hv with rfl | rfl | rfl | rfl <;> rfl) (fun E K => ?_)
  refine zq_iconst K dX2_endLeases_0 (v := nI 0) (by decide) ?_
  refine zq_istore K dX2_endLeases_1 (by decide) ?_
  exact lp_X2_endLeases K hv hn (fun M hC hS => ⟨rfl, hC, hS⟩) 4 0 rfl M hC zFm.rf
/-- the name n of the directory d means m from now on -/
def zcn (B : ZA) (c : Int32) (d n : Nat) (m g : Int32) : ZA := zel (zsa (zsa (zsa B 6 (50 * d + n) m) 7 (50 * d + n) g) 12 (zfn B d n) (B.2 12 (zfn B d n) + nI 1)) (50 * d + n) c 4
theorem ct_X2_changeName {G : ZG} {M : ZM} {W : Nat → Nat → Nat} {B : ZA} (hC : zC M W B) {d : Nat} (hv : zVal B 3 d) (hF : zFr B) {n : Nat} (hn : n < 50) (c m g : Int32) : zMet G mX2_changeName [.ref (W 10 0), .int (c), .ref (W 3 (d)), .int (nI (n)), .int (m), .int (g)] M (zCP W M B none (zcn B c d n m g)) := by
  refine zbody zyX2_changeName [some (.ref (W 10 0)), some (.int (c)), some (.ref (W 3 (d))), some (.int (nI (n))), some (.int (m)), some (.int (g))] rfl (Nat.le_of_ble_eq_true rfl) (by intro v hv; simp only [List.mem_cons, List.not_mem_nil, or_false] at hv; rcases hv with rfl | rfl | rfl | rfl | rfl | rfl <;> rfl) (fun E K => ?_)
  have hS : zFm M W B M := zFm.rf
  refine zq_aload_n K dX2_changeName_0 rfl rfl ?_
  refine zq_iload_n K dX2_changeName_1 rfl rfl ?_
  refine zq_iload K dX2_changeName_2 rfl ?_
  refine zq_iload K dX2_changeName_4 rfl ?_
  refine zq_callV (As := [.int (nI (n)), .int (m), .int (g)]) K dX2_changeName_6 zyX0_setMeaning zm_X2_256 ziX0_setMeaning zvX0_setMeaning zclX0 rfl (by decide) rfl rfl (Nat.le_of_ble_eq_true rfl) (Nat.le_of_ble_eq_true rfl) (hC.d hv).1 (ct_X0_setMeaning hC hv hn m g) (zCP_r hS (fun _ _ h => h) (fun M hC hS => ?_)) zCP_x (Nat.le_refl _)
  refine zq_aload_n K dX2_changeName_9 rfl rfl ?_
  refine zq_iload_n K dX2_changeName_10 rfl rfl ?_
  refine zq_callV (As := [.int (nI (n))]) K dX2_changeName_11 zyX0_fragmentOfName zm_X2_47 ziX0_fragmentOfName zvX0_fragmentOfName zclX0 rfl (by decide) rfl rfl (Nat.le_of_ble_eq_true rfl) (Nat.le_of_ble_eq_true rfl) (hC.d hv).1 (ct_X0_fragmentOfName (B := (zsa (zsa B 6 (50 * d + n) m) 7 (50 * d + n) g)) hC hv hn) (zone_r ?_) zone_x (Nat.le_refl _)
  refine zq_dup K dX2_changeName_14 rfl ?_
  refine zq_getI K dX2_changeName_15 zclX1 (k := 4) (by decide) zf_X2_51 rfl (hC.f (zVal.nm hF hv hn)).1 ?_
  refine zq_top (hC.f (zVal.nm hF hv hn)).2.2.2.2.2 ?_
  refine zq_top (v := B.2 12 (zfn B d n)) rfl ?_
  refine zq_iconst K dX2_changeName_18 (v := nI 1) (by decide) ?_
  refine zq_iadd K dX2_changeName_19 ?_
  refine zc_pload K dX2_changeName_20 zf_X2_51 hC hS (zVal.nm hF hv hn) (zVal.nm hF hv hn) (fun M hC hS => ?_)
  refine zq_aload_n K dX2_changeName_23 rfl rfl ?_
  refine zq_aload_n K dX2_changeName_24 rfl rfl ?_
  refine zq_iload_n K dX2_changeName_25 rfl rfl ?_
  refine zq_iload_n K dX2_changeName_26 rfl rfl ?_
  refine zq_callV (As := [.ref (W 3 (d)), .int (nI (n)), .int (c)]) K dX2_changeName_27 zyX2_endLeases zm_X2_259 ziX2_endLeases zvX2_endLeases zclX2 rfl (by decide) rfl rfl (Nat.le_of_ble_eq_true rfl) (Nat.le_of_ble_eq_true rfl) hC.x.1 (ct_X2_endLeases (B := zsa (zsa (zsa B 6 (50 * d + n) m) 7 (50 * d + n) g) 12 (zfn B d n) (B.2 12 (zfn B d n) + nI 1)) hC hv hn c) (zCP_r hS (fun _ _ h => h) (fun M hC hS => ?_)) zCP_x (Nat.le_refl _)
  exact zq_ret K dX2_changeName_30 rfl ⟨rfl, hC, hS⟩
def zsm (g : Nat → Nat) : Nat → Nat
  | 0 => 0
  | k + 1 => zsm g k + g k
theorem zsm_le {g : Nat → Nat} (h : ∀ k, g k ≤ 50) : ∀ k, zsm g k ≤ 50 * k
  | 0 => Nat.le_refl _
  | k + 1 => by
    have h1 := zsm_le h k
    have h2 := h k
    unfold zsm
    omega
/-- the links to f in the directory d -/
def zkl (B : ZA) (f : Int32) (d : Nat) : Nat := if B.2 3 d = 1 then zcN (zpf B d f) 50 else 0
/-- the leases of c in the directory d -/
def zkt (B : ZA) (c : Nat) (d : Nat) : Nat := if B.2 3 d = 1 then zcN (zpt B c d (B.1 1)) 50 else 0
theorem lp_X2_countLinks {G : ZG} {E : ZE} (K : zOK mX2_countLinks [] G E) {M : ZM} {W : Nat → Nat → Nat} {B : ZA} (hC : zC M W B) {f : Int32} {P : ZO → ZM → Prop} (hP : P (.inl (some (.int (nI (zsm (zkl B f) 12))))) M) : ∀ (m k : Nat) (o : Option Value), k + m = 12 → WW E G (zyu mX2_countLinks) (zQ E G mX2_countLinks P) M 0 4 [some (.ref (W 10 0)), some (.int (f)), some (.int (nI (zsm (zkl B f) k))), some (.int (nI (k))), o] [] := by
  intro m
  induction m with
  | zero =>
    intro k o hk
    have hk4 : k = 12 := by omega
    subst hk4
    refine zq_iload_n K dX2_countLinks_4 rfl rfl ?_
    refine zq_aload_n K dX2_countLinks_5 rfl rfl ?_
    refine zq_getRs K dX2_countLinks_6 zclX2 (k := 0) (by decide) zf_X2_11 rfl hC.x.1 hC.x.2.1.1 ?_
    refine zq_alen K dX2_countLinks_9 hC.dirs.1 (by decide) ?_
    refine zq_top (v := nI 12) (congrArg nI hC.dirs.2.1) ?_
    refine zq_icmp_geN K (x := 12) (y := 12) 41 dX2_countLinks_10 (by decide) ⟨by omega, by omega⟩ (fun h10 => ?_) (fun h10 => by omega)
    refine zq_iload_n K dX2_countLinks_41 rfl rfl ?_
    exact zq_iret K dX2_countLinks_42 rfl hP
  | succ m ih =>
    intro k o hk
    by_cases hl : B.2 3 k = 1
    · refine zq_iload_n K dX2_countLinks_4 rfl rfl ?_
      refine zq_aload_n K dX2_countLinks_5 rfl rfl ?_
      refine zq_getRs K dX2_countLinks_6 zclX2 (k := 0) (by decide) zf_X2_11 rfl hC.x.1 hC.x.2.1.1 ?_
      refine zq_alen K dX2_countLinks_9 hC.dirs.1 (by decide) ?_
      refine zq_top (v := nI 12) (congrArg nI hC.dirs.2.1) ?_
      refine zq_icmp_geN K (x := k) (y := 12) 41 dX2_countLinks_10 (by decide) ⟨by omega, by omega⟩ (fun h10 => by omega) (fun h10 => ?_)
      refine zq_aload_n K dX2_countLinks_13 rfl rfl ?_
      refine zq_getRs K dX2_countLinks_14 zclX2 (k := 0) (by decide) zf_X2_11 rfl hC.x.1 hC.x.2.1.1 ?_
      refine zq_iload_n K dX2_countLinks_17 rfl rfl ?_
      refine zc_ad1 K (d := k) dX2_countLinks_18 hC ⟨by omega, hl⟩ rfl ?_
      refine zq_astore K dX2_countLinks_19 (by decide) ?_
      refine zq_aload K dX2_countLinks_21 rfl ?_
      refine zq_ifnull_r K dX2_countLinks_23 ?_
      refine zq_iload_n K dX2_countLinks_26 rfl rfl ?_
      refine zq_aload K dX2_countLinks_27 rfl ?_
      refine zq_iload_n K dX2_countLinks_29 rfl rfl ?_
      refine zq_callV (As := [.int (f)]) K dX2_countLinks_30 zyX0_countLinksTo zm_X2_266 ziX0_countLinksTo zvX0_countLinksTo zclX0 rfl (by decide) rfl rfl (Nat.le_of_ble_eq_true rfl) (Nat.le_of_ble_eq_true rfl) (hC.d ⟨by omega, hl⟩).1 (ct_X0_countLinksTo hC ⟨by omega, hl⟩ f) (zone_r ?_) zone_x (Nat.le_refl _)
      refine zq_iaddN K (x := zsm (zkl B f) k) (y := zcN (zpf B k f) 50) dX2_countLinks_33 ?_
      refine zq_istore_n K dX2_countLinks_34 rfl (by decide) ?_
      refine zq_iincN K dX2_countLinks_35 rfl (by decide) ?_
      refine zq_goto K 4 dX2_countLinks_38 (by decide) ?_
      have e9 : zsm (zkl B f) k + zcN (zpf B k f) 50 = zsm (zkl B f) (k + 1) := by rw [zsm]; unfold zkl; rw [if_pos hl]
      rw [e9]
      exact ih (k + 1) _ (by omega)
    · refine zq_iload_n K dX2_countLinks_4 rfl rfl ?_
      refine zq_aload_n K dX2_countLinks_5 rfl rfl ?_
      refine zq_getRs K dX2_countLinks_6 zclX2 (k := 0) (by decide) zf_X2_11 rfl hC.x.1 hC.x.2.1.1 ?_
      refine zq_alen K dX2_countLinks_9 hC.dirs.1 (by decide) ?_
      refine zq_top (v := nI 12) (congrArg nI hC.dirs.2.1) ?_
      refine zq_icmp_geN K (x := k) (y := 12) 41 dX2_countLinks_10 (by decide) ⟨by omega, by omega⟩ (fun h10 => by omega) (fun h10 => ?_)
      refine zq_aload_n K dX2_countLinks_13 rfl rfl ?_
      refine zq_getRs K dX2_countLinks_14 zclX2 (k := 0) (by decide) zf_X2_11 rfl hC.x.1 hC.x.2.1.1 ?_
      refine zq_iload_n K dX2_countLinks_17 rfl rfl ?_
      refine zc_ad0 K (d := k) dX2_countLinks_18 hC (show k < 12 by omega) hl rfl ?_
      refine zq_astoreN K dX2_countLinks_19 (by decide) ?_
      refine zq_aloadN K dX2_countLinks_21 rfl ?_
      refine zq_ifnull_n K 35 dX2_countLinks_23 (by decide) ?_
      refine zq_iincN K dX2_countLinks_35 rfl (by decide) ?_
      refine zq_goto K 4 dX2_countLinks_38 (by decide) ?_
      have e9 : zsm (zkl B f) k = zsm (zkl B f) (k + 1) := by rw [zsm]; unfold zkl; rw [if_neg hl]; rfl
      rw [e9]
      exact ih (k + 1) _ (by omega)
theorem ct_X2_countLinks {G : ZG} {M : ZM} {W : Nat → Nat → Nat} {B : ZA} (hC : zC M W B) (f : Int32) : zMet G mX2_countLinks [.ref (W 10 0), .int (f)] M (zone (some (.int (nI (zsm (zkl B f) 12)))) M) := by
  refine zbody zyX2_countLinks [some (.ref (W 10 0)), some (.int (f)), none, none, none] rfl (Nat.le_of_ble_eq_true rfl) (by intro v hv; simp only [List.mem_cons, List.not_mem_nil, or_false] at hv; rcases hv with rfl | rfl <;> rfl) (fun E K => ?_)
  refine zq_iconst K dX2_countLinks_0 (v := nI 0) (by decide) ?_
  refine zq_istore_n K dX2_countLinks_1 rfl (by decide) ?_
  refine zq_iconst K dX2_countLinks_2 (v := nI 0) (by decide) ?_
  refine zq_istore_n K dX2_countLinks_3 rfl (by decide) ?_
  exact lp_X2_countLinks K hC ⟨rfl, rfl⟩ 12 0 none rfl
/-- the leases on frozen names of d are recalled: the first k names -/
def zrf (B : ZA) (d : Nat) : Nat → ZA
  | 0 => B
  | k + 1 => if zfz B (zfn B d k) = true then zel (zrf B d k) (50 * d + k) (-1) 4 else zrf B d k
theorem zrf_sme (B : ZA) (d : Nat) : ∀ k, zSme B (zrf B d k)
  | 0 => zSme.rf
  | k + 1 => by
    unfold zrf
    split
    · exact (zrf_sme B d k).tr (zel_sme _ _ _ _)
    · exact zrf_sme B d k
/-- .. of all directories: the first k -/
def zra (B : ZA) : Nat → ZA
  | 0 => B
  | k + 1 => if B.2 3 k = 1 then zrf (zra B k) k 50 else zra B k
theorem zra_sme (B : ZA) : ∀ k, zSme B (zra B k)
  | 0 => zSme.rf
  | k + 1 => by
    unfold zra
    split
    · exact (zra_sme B k).tr (zrf_sme _ _ _)
    · exact zra_sme B k
theorem zSme.hu {A B : ZA} (h : zSme A B) (hU : ∀ d, d < 12 → A.2 3 d = 1 → zDp A 11 d) : ∀ d, d < 12 → B.2 3 d = 1 → zDp B 11 d := fun d h1 h2 => (h.dp 11 d).mpr (hU d h1 (by rw [← h.2 3 (by decide) (by decide)]; exact h2))
theorem zSme.mw {A B : ZA} (h : zSme A B) (hM : zMw A) : zMw B := by
  unfold zMw at hM ⊢
  rw [h.1]
  rcases hM with h1 | ⟨m, h1, h2⟩
  · exact Or.inl h1
  · exact Or.inr ⟨m, h1, h.val.mpr h2⟩
abbrev zVf (B : ZA) (f : Nat) : Prop := B.2 3 (f / 8) = 1 ∧ ¬ B.2 10 f = 0

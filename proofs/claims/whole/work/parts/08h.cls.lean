/-! the class: new fragments -/
theorem ct_X1_init {G : ZG} {M : ZM} {a : Nat} (ha : zk M a = 2) (v0 v1 v2 v3 v4 : Int32) : zMet G mX1_init [.ref (a), .int (v0), .int (v1), .int (v2), .int (v3), .int (v4)] M (zone none (zsi (zsi (zsi (zsi (zsi M a 0 v0) a 1 v1) a 2 v2) a 3 v3) a 4 v4)) := by
  refine zbody zyX1_init [some (.ref (a)), some (.int (v0)), some (.int (v1)), some (.int (v2)), some (.int (v3)), some (.int (v4))] rfl (Nat.le_of_ble_eq_true rfl) (by intro v hv; simp only [List.mem_cons, List.not_mem_nil, or_false] at hv; rcases hv with rfl | rfl | rfl | rfl | rfl | rfl <;> rfl) (fun E K => ?_)
  refine zq_aload_n K dX1_init_0 rfl rfl ?_
  refine zq_objInit K dX1_init_1 zm_X1_1 (zt 67 (by decide +kernel) rfl) (zt 68 (by decide +kernel) rfl) (Nat.le_of_ble_eq_true rfl) (by decide) ?_
  refine zq_aload_n K dX1_init_4 rfl rfl ?_
  refine zq_iload_n K dX1_init_5 rfl rfl ?_
  refine zq_putI K dX1_init_6 zclX1 (k := 0) (by decide) zf_X1_7 (Or.inr ⟨rfl, rfl⟩) rfl rfl ha ?_
  refine zq_aload_n K dX1_init_9 rfl rfl ?_
  refine zq_iload_n K dX1_init_10 rfl rfl ?_
  refine zq_putI K dX1_init_11 zclX1 (k := 1) (by decide) zf_X1_13 (Or.inr ⟨rfl, rfl⟩) rfl rfl ha ?_
  refine zq_aload_n K dX1_init_14 rfl rfl ?_
  refine zq_iload_n K dX1_init_15 rfl rfl ?_
  refine zq_putI K dX1_init_16 zclX1 (k := 2) (by decide) zf_X1_16 (Or.inl rfl) rfl rfl ha ?_
  refine zq_aload_n K dX1_init_19 rfl rfl ?_
  refine zq_iload K dX1_init_20 rfl ?_
  refine zq_putI K dX1_init_22 zclX1 (k := 3) (by decide) zf_X1_19 (Or.inl rfl) rfl rfl ha ?_
  refine zq_aload_n K dX1_init_25 rfl rfl ?_
  refine zq_iload K dX1_init_26 rfl ?_
  refine zq_putI K dX1_init_28 zclX1 (k := 4) (by decide) zf_X1_22 (Or.inl rfl) rfl rfl ha ?_
  exact zq_ret K dX1_init_31 rfl ⟨rfl, rfl⟩
/-- the fragment a, from b to b + s, stands in the first k places of the row r -/
def zPB (M M' : ZM) (r a b s k : Nat) : Prop := (∀ y, y ≠ r → zsame M M' y) ∧ zk M' r = 9 ∧ zn M' r = 8 ∧ ∀ h, zr M' r h = if h < k ∧ b ≤ h ∧ h < b + s then some a else zr M r h
theorem lp_X0_putByHash {G : ZG} {E : ZE} (K : zOK mX0_putByHash [] G E) {M0 : ZM} {o r a b s : Nat} (ho : zk M0 o = 1) (hor : zr M0 o 6 = some r) (hr : zk M0 r = 9) (ha : zk M0 a = 2) (h1 : zi M0 a 1 = nI b) (h2 : zi M0 a 2 = nI s) (hb : b + s ≤ 8) {P : ZO → ZM → Prop} (hP : ∀ M, zPB M0 M r a b s 8 → P (.inl none) M) : ∀ (m k : Nat), k + m = 8 → ∀ M, zPB M0 M r a b s k → WW E G (zyu mX0_putByHash) (zQ E G mX0_putByHash P) M 0 2 [some (.ref o), some (.ref a), some (.int (nI (k)))] [] := by
  intro m
  induction m with
  | zero =>
    intro k hk M hM
    have hk4 : k = 8 := by omega
    subst hk4
    refine zq_iload_n K dX0_putByHash_2 rfl rfl ?_
    refine zq_bipush K dX0_putByHash_3 (v := nI 8) (by decide) ?_
    refine zq_icmp_geN K (x := 8) (y := 8) 42 dX0_putByHash_5 (by decide) ⟨by omega, by omega⟩ (fun h5 => ?_) (fun h5 => by omega)
    exact zq_ret K dX0_putByHash_42 rfl (hP M hM)
  | succ m ih =>
    intro k hk M hM
    have hor' : o ≠ r := fun e => by rw [e, hr] at ho; exact absurd ho (by decide)
    have har : a ≠ r := fun e => by rw [e, hr] at ha; exact absurd ha (by decide)
    obtain ⟨g1, g2, g3, g4⟩ := hM
    have ho' : zk M o = 1 := (g1 o hor').1.trans ho
    have ha' : zk M a = 2 := (g1 a har).1.trans ha
    have h1' : zi M a 1 = nI b := ((g1 a har).2.2.1 1).trans h1
    have h2' : zi M a 2 = nI s := ((g1 a har).2.2.1 2).trans h2
    have hor2 : zr M o 6 = some r := ((g1 o hor').2.2.2.1 6).trans hor
    refine zq_iload_n K dX0_putByHash_2 rfl rfl ?_
    refine zq_bipush K dX0_putByHash_3 (v := nI 8) (by decide) ?_
    refine zq_icmp_geN K (x := k) (y := 8) 42 dX0_putByHash_5 (by decide) ⟨by omega, by omega⟩ (fun h5 => by omega) (fun h5 => ?_)
    refine zq_iload_n K dX0_putByHash_8 rfl rfl ?_
    refine zq_aload_n K dX0_putByHash_9 rfl rfl ?_
    refine zq_getI K dX0_putByHash_10 zclX1 (k := 1) (by decide) zf_X0_58 rfl ha' ?_
    refine zq_top (v := nI (b)) h1' ?_
    refine zq_icmp_ltN K (x := k) (y := b) 36 dX0_putByHash_13 (by decide) ⟨by omega, by omega⟩ (fun h13 => ?_) (fun h13 => ?_)
    · refine zq_iincN K dX0_putByHash_36 rfl (by decide) ?_
      refine zq_goto K 2 dX0_putByHash_39 (by decide) ?_
      refine ih (k + 1) (by omega) M ⟨g1, g2, g3, fun h => ?_⟩
      rw [g4]
      by_cases e : h = k
      · rw [if_neg (by omega), if_neg (by omega)]
      · exact ite_congr (propext (by omega)) (fun _ => rfl) (fun _ => rfl)
    · refine zq_iload_n K dX0_putByHash_16 rfl rfl ?_
      refine zq_aload_n K dX0_putByHash_17 rfl rfl ?_
      refine zq_getI K dX0_putByHash_18 zclX1 (k := 1) (by decide) zf_X0_58 rfl ha' ?_
      refine zq_top (v := nI (b)) h1' ?_
      refine zq_aload_n K dX0_putByHash_21 rfl rfl ?_
      refine zq_getI K dX0_putByHash_22 zclX1 (k := 2) (by decide) zf_X0_64 rfl ha' ?_
      refine zq_top (v := nI (s)) h2' ?_
      refine zq_iaddN K (x := b) (y := s) dX0_putByHash_25 ?_
      refine zq_icmp_geN K (x := k) (y := (b) + (s)) 36 dX0_putByHash_26 (by decide) ⟨by omega, by omega⟩ (fun h26 => ?_) (fun h26 => ?_)
      · refine zq_iincN K dX0_putByHash_36 rfl (by decide) ?_
        refine zq_goto K 2 dX0_putByHash_39 (by decide) ?_
        refine ih (k + 1) (by omega) M ⟨g1, g2, g3, fun h => ?_⟩
        rw [g4]
        by_cases e : h = k
        · rw [if_neg (by omega), if_neg (by omega)]
        · exact ite_congr (propext (by omega)) (fun _ => rfl) (fun _ => rfl)
      · refine zq_aload_n K dX0_putByHash_29 rfl rfl ?_
        refine zq_getRs K dX0_putByHash_30 zclX0 (k := 6) (by decide) zf_X0_25 rfl ho' hor2 ?_
        refine zq_iload_n K dX0_putByHash_33 rfl rfl ?_
        refine zq_aload_n K dX0_putByHash_34 rfl rfl ?_
        refine zq_aast K (k) dX0_putByHash_35 zclX1 g2 ⟨rfl, by decide⟩ ha' rfl (by rw [g3]; omega) (by rw [g3]; decide) ?_
        refine zq_iincN K dX0_putByHash_36 rfl (by decide) ?_
        refine zq_goto K 2 dX0_putByHash_39 (by decide) ?_
        refine ih (k + 1) (by omega) _ ⟨fun y hy => (g1 y hy).tr (zsame.r hy), g2, g3, fun h => ?_⟩
        rw [zr_r]
        by_cases e : h = k
        · rw [if_pos ⟨rfl, e⟩, if_pos (by omega)]
        · rw [if_neg (fun z => e z.2), g4]
          exact ite_congr (propext (by omega)) (fun _ => rfl) (fun _ => rfl)
theorem ct_X0_putByHash {G : ZG} {M : ZM} {o r a b s : Nat} (ho : zk M o = 1) (hor : zr M o 6 = some r) (hr : zk M r = 9) (ha : zk M a = 2) (h1 : zi M a 1 = nI b) (h2 : zi M a 2 = nI s) (hb : b + s ≤ 8) (hn : zn M r = 8) : zMet G mX0_putByHash [.ref (o), .ref (a)] M (fun o M' => o = .inl none ∧ zPB M M' r a b s 8) := by
  refine zbody zyX0_putByHash [some (.ref (o)), some (.ref (a)), none] rfl (Nat.le_of_ble_eq_true rfl) (by intro v hv; simp only [List.mem_cons, List.not_mem_nil, or_false] at hv; rcases hv with rfl | rfl <;> rfl) (fun E K => ?_)
  refine zq_iconst K dX0_putByHash_0 (v := nI 0) (by decide) ?_
  refine zq_istore_n K dX0_putByHash_1 rfl (by decide) ?_
  exact lp_X0_putByHash K ho hor hr ha h1 h2 hb (fun M hM => ⟨rfl, hM⟩) 8 0 rfl M ⟨fun _ _ => zsame.rf, hr, hn, fun h => by rw [if_neg (by omega)]⟩

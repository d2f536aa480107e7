/-! the law: its own small methods -/
theorem zk_L_7 : Cond.constant RL 7 (2147483647 : Int32) ∈ zTs := zt 371 (by decide +kernel) rfl
theorem zbn_nar (b : Bool) : narrow .boolean (.int (nI (zbn b))) = .int (nI (zbn b)) := by cases b <;> decide
theorem zdec_b {b : Bool} {M : ZM} : zdec (b = true) M (.inl (some (.int (nI (zbn b))))) M := by
  cases b
  · exact zdec_0 Bool.false_ne_true
  · exact zdec_1 rfl
theorem ct_L_cell {G : ZG} {M : ZM} {Ls : Nat} {xs : Nat → Int32} (hX : zX0 G Ls xs) (hL : Ls ≤ 260) {k : Nat} (hk : k < 140) : zMet G mL_cell [.ref (G.2.2.1 6), .int (nI (k))] M (zone (some (.int (zcv Ls xs k))) M) := by
  refine zbody zyL_cell [some (.ref (G.2.2.1 6)), some (.int (nI (k)))] rfl (Nat.le_of_ble_eq_true rfl) (by intro v hv; simp only [List.mem_cons, List.not_mem_nil, or_false] at hv; rcases hv with rfl | rfl <;> rfl) (fun E K => ?_)
  refine zq_iload_n K dL_cell_0 rfl rfl ?_
  refine zq_aload_n K dL_cell_1 rfl rfl ?_
  refine zq_slen K (hX.scr K) dL_cell_2 ?_
  refine zq_icmp_geN K (x := k) (y := Ls) 12 dL_cell_3 (by decide) ⟨by omega, by omega⟩ (fun h3 => ?_) (fun h3 => ?_)
  · refine zq_sipush K dL_cell_12 (v := nI 7919) (by decide) ?_
    refine zq_iload_n K dL_cell_15 rfl rfl ?_
    refine zq_iconst K dL_cell_16 (v := nI 3) (by decide) ?_
    refine zq_iaddN K (x := k) (y := 3) dL_cell_17 ?_
    refine zq_imulN K (x := 7919) (y := (k) + (3)) dL_cell_18 ?_
    refine zq_iload_n K dL_cell_19 rfl rfl ?_
    refine zq_bipush K dL_cell_20 (v := nI 11) (by decide) ?_
    refine zq_iaddN K (x := k) (y := 11) dL_cell_22 ?_
    refine zq_imulN K (x := (7919) * ((k) + (3))) (y := (k) + (11)) dL_cell_23 ?_
    exact zq_iret K dL_cell_24 rfl ⟨by rw [zcv, if_neg (by omega)], rfl⟩
  · refine zq_aload_n K dL_cell_6 rfl rfl ?_
    refine zq_iload_n K dL_cell_7 rfl rfl ?_
    refine zq_sld K (hX.scr K) (k) dL_cell_8 rfl h3 (by omega) ?_
    refine zq_goto K 24 dL_cell_9 (by decide) ?_
    exact zq_iret K dL_cell_24 rfl ⟨by rw [zcv, if_pos h3], rfl⟩
theorem ct_L_low {G : ZG} (M : ZM) (v : Int32) {n : Nat} (hn : 0 < n ∧ n < 2 ^ 31) : zMet G mL_low [.int (v), .int (nI (n))] M (zone (some (.int (nI (zlw v n)))) M) := by
  refine zbody zyL_low [some (.int (v)), some (.int (nI (n)))] rfl (Nat.le_of_ble_eq_true rfl) (by intro v hv; simp only [List.mem_cons, List.not_mem_nil, or_false] at hv; rcases hv with rfl | rfl <;> rfl) (fun E K => ?_)
  refine zq_iload_n K dL_low_0 rfl rfl ?_
  refine zq_ldcI K dL_low_1 zk_L_7 ?_
  refine zq_iand K dL_low_3 ?_
  refine zq_top (v := nI (v.toBitVec.toNat % 2 ^ 31)) (pk_and v 31 (by decide +kernel)) ?_
  refine zq_iload_n K dL_low_4 rfl rfl ?_
  refine zq_iremN K (x := v.toBitVec.toNat % 2 ^ 31) (y := n) dL_low_5 ⟨Nat.mod_lt _ (by decide), hn.1, hn.2⟩ ?_
  exact zq_iret K dL_low_6 rfl ⟨rfl, rfl⟩
theorem lp_L_isThere {G : ZG} {E : ZE} (K : zOK mL_isThere [] G E) {M : ZM} {tr : Nat} {T : Nat → Int32} (hT : zAr M tr 60 T) {d : Nat} (hd : d < 12) {P : ZO → ZM → Prop} (hP : P (.inl (some (.int (nI (zbn (zth T d 60)))))) M) : ∀ (n k : Nat), k + n = 60 → WW E G (zyu mL_isThere) (zQ E G mL_isThere P) M 0 12 [some (.ref (tr)), some (.int (nI (d))), some (.int (nI (zbn (zth T d k)))), some (.int (nI (k)))] [] := by
  intro n
  induction n with
  | zero =>
    intro k hk
    have hk4 : k = 60 := by omega
    subst hk4
    refine zq_iload_n K dL_isThere_12 rfl rfl ?_
    refine zq_bipush K dL_isThere_13 (v := nI 60) (by decide) ?_
    refine zq_icmp_geN K (x := 60) (y := 60) 44 dL_isThere_15 (by decide) ⟨by omega, by omega⟩ (fun h15 => ?_) (fun h15 => by omega)
    refine zq_iload_n K dL_isThere_44 rfl rfl ?_
    exact zq_zret K dL_isThere_45 rfl (zbn_nar _) hP
  | succ n ih =>
    intro k hk
    refine zq_iload_n K dL_isThere_12 rfl rfl ?_
    refine zq_bipush K dL_isThere_13 (v := nI 60) (by decide) ?_
    refine zq_icmp_geN K (x := k) (y := 60) 44 dL_isThere_15 (by decide) ⟨by omega, by omega⟩ (fun h15 => by omega) (fun h15 => ?_)
    refine zq_iload_n K dL_isThere_18 rfl rfl ?_
    refine zq_if_neN K (x := zbn (zth T d k)) 32 dL_isThere_19 (by decide) (by have := zbn_le (zth T d k); omega) (fun h19 => ?_) (fun h19 => ?_)
    · refine zq_iconst K dL_isThere_32 (v := nI 1) (by decide) ?_
      refine zq_goto K 37 dL_isThere_33 (by decide) ?_
      refine zq_istore_n K dL_isThere_37 rfl (by decide) ?_
      refine zq_iincN K dL_isThere_38 rfl (by decide) ?_
      refine zq_goto K 12 dL_isThere_41 (by decide) ?_
      have g := ih (k + 1) (by omega)
      rw [show zbn (zth T d (k + 1)) = 1 from by rw [zth, zbn_1 h19]; rfl] at g
      exact g
    · refine zq_aload_n K dL_isThere_22 rfl rfl ?_
      refine zq_iload_n K dL_isThere_23 rfl rfl ?_
      refine zl_ld K (k) dL_isThere_24 hT rfl (by omega) (by decide) ?_
      refine zq_bipush K dL_isThere_25 (v := -2) (by decide) ?_
      refine zq_iload_n K dL_isThere_27 rfl rfl ?_
      refine zq_isub K dL_isThere_28 ?_
      refine zq_icmp_ne K 36 dL_isThere_29 (by decide) (fun h29 => ?_) (fun h29 => ?_)
      · refine zq_iconst K dL_isThere_36 (v := nI 0) (by decide) ?_
        refine zq_istore_n K dL_isThere_37 rfl (by decide) ?_
        refine zq_iincN K dL_isThere_38 rfl (by decide) ?_
        refine zq_goto K 12 dL_isThere_41 (by decide) ?_
        have g := ih (k + 1) (by omega)
        rw [show zbn (zth T d (k + 1)) = 0 from by rw [zth, zbn_0 h19, decide_eq_false h29]; rfl] at g
        exact g
      · refine zq_iconst K dL_isThere_32 (v := nI 1) (by decide) ?_
        refine zq_goto K 37 dL_isThere_33 (by decide) ?_
        refine zq_istore_n K dL_isThere_37 rfl (by decide) ?_
        refine zq_iincN K dL_isThere_38 rfl (by decide) ?_
        refine zq_goto K 12 dL_isThere_41 (by decide) ?_
        have g := ih (k + 1) (by omega)
        rw [show zbn (zth T d (k + 1)) = 1 from by rw [zth, zbn_0 h19, decide_eq_true h29]; rfl] at g
        exact g
theorem ct_L_isThere {G : ZG} {M : ZM} {tr : Nat} {T : Nat → Int32} (hT : zAr M tr 60 T) {d : Nat} (hd : d < 12) : zMet G mL_isThere [.ref (tr), .int (nI (d))] M (zdec (zth T d 60 = true) M) := by
  refine zbody zyL_isThere [some (.ref (tr)), some (.int (nI (d))), none, none] rfl (Nat.le_of_ble_eq_true rfl) (by intro v hv; simp only [List.mem_cons, List.not_mem_nil, or_false] at hv; rcases hv with rfl | rfl <;> rfl) (fun E K => ?_)
  refine zq_iload_n K dL_isThere_0 rfl rfl ?_
  refine zq_if_neN K (x := d) 8 dL_isThere_1 (by decide) (by omega) (fun h1 => ?_) (fun h1 => ?_)
  · refine zq_iconst K dL_isThere_8 (v := nI 0) (by decide) ?_
    refine zq_istore_n K dL_isThere_9 rfl (by decide) ?_
    refine zq_iconst K dL_isThere_10 (v := nI 0) (by decide) ?_
    refine zq_istore_n K dL_isThere_11 rfl (by decide) ?_
    have g := lp_L_isThere K hT hd (P := zdec (zth T d 60 = true) M) zdec_b 60 0 rfl
    rw [show zbn (zth T d 0) = 0 from by rw [zth, decide_eq_false h1]; rfl] at g
    exact g
  · refine zq_iconst K dL_isThere_4 (v := nI 1) (by decide) ?_
    refine zq_goto K 9 dL_isThere_5 (by decide) ?_
    refine zq_istore_n K dL_isThere_9 rfl (by decide) ?_
    refine zq_iconst K dL_isThere_10 (v := nI 0) (by decide) ?_
    refine zq_istore_n K dL_isThere_11 rfl (by decide) ?_
    have g := lp_L_isThere K hT hd (P := zdec (zth T d 60 = true) M) zdec_b 60 0 rfl
    rw [show zbn (zth T d 0) = 1 from by rw [zth, decide_eq_true h1]; rfl] at g
    exact g
theorem lp_L_used {G : ZG} {E : ZE} (K : zOK mL_used [] G E) {M : ZM} {tr : Nat} {T : Nat → Int32} (hT : zAr M tr 60 T) {d : Nat} (hd : d < 12) {P : ZO → ZM → Prop} (hP : P (.inl (some (.int (nI (zcN (zpq T d) 5))))) M) : ∀ (n k : Nat), k + n = 5 → WW E G (zyu mL_used) (zQ E G mL_used P) M 0 4 [some (.ref (tr)), some (.int (nI (d))), some (.int (nI (zcN (zpq T d) k))), some (.int (nI (k)))] [] := by
  intro n
  induction n with
  | zero =>
    intro k hk
    have hk4 : k = 5 := by omega
    subst hk4
    refine zq_iload_n K dL_used_4 rfl rfl ?_
    refine zq_iconst K dL_used_5 (v := nI 5) (by decide) ?_
    refine zq_icmp_geN K (x := 5) (y := 5) 34 dL_used_6 (by decide) ⟨by omega, by omega⟩ (fun h6 => ?_) (fun h6 => by omega)
    refine zq_iload_n K dL_used_34 rfl rfl ?_
    exact zq_iret K dL_used_35 rfl hP
  | succ n ih =>
    intro k hk
    refine zq_iload_n K dL_used_4 rfl rfl ?_
    refine zq_iconst K dL_used_5 (v := nI 5) (by decide) ?_
    refine zq_icmp_geN K (x := k) (y := 5) 34 dL_used_6 (by decide) ⟨by omega, by omega⟩ (fun h6 => by omega) (fun h6 => ?_)
    refine zq_iload_n K dL_used_9 rfl rfl ?_
    refine zq_aload_n K dL_used_10 rfl rfl ?_
    refine zq_iconst K dL_used_11 (v := nI 5) (by decide) ?_
    refine zq_iload_n K dL_used_12 rfl rfl ?_
    refine zq_imulN K (x := 5) (y := d) dL_used_13 ?_
    refine zq_iload_n K dL_used_14 rfl rfl ?_
    refine zq_iaddN K (x := (5) * (d)) (y := k) dL_used_15 ?_
    refine zl_ld K (((5) * (d)) + (k)) dL_used_16 hT rfl (by omega) (by decide) ?_
    refine zq_iconst K dL_used_17 (v := -1) (by decide) ?_
    refine zq_icmp_ne K 25 dL_used_18 (by decide) (fun h18 => ?_) (fun h18 => ?_)
    · refine zq_iconst K dL_used_25 (v := nI 1) (by decide) ?_
      refine zq_iaddN K (x := zcN (zpq T d) k) (y := 1) dL_used_26 ?_
      refine zq_istore_n K dL_used_27 rfl (by decide) ?_
      refine zq_iincN K dL_used_28 rfl (by decide) ?_
      refine zq_goto K 4 dL_used_31 (by decide) ?_
      have g := ih (k + 1) (by omega)
      rw [zcN_t (p := zpq T d) (by unfold zpq; rw [decide_eq_false h18]; rfl)] at g
      exact g
    · refine zq_iconst K dL_used_21 (v := nI 0) (by decide) ?_
      refine zq_goto K 26 dL_used_22 (by decide) ?_
      refine zq_iaddN K (x := zcN (zpq T d) k) (y := 0) dL_used_26 ?_
      refine zq_istore_n K dL_used_27 rfl (by decide) ?_
      refine zq_iincN K dL_used_28 rfl (by decide) ?_
      refine zq_goto K 4 dL_used_31 (by decide) ?_
      have g := ih (k + 1) (by omega)
      rw [zcN_f (p := zpq T d) (by unfold zpq; rw [decide_eq_true h18]; exact Bool.false_ne_true)] at g
      exact g
theorem ct_L_used {G : ZG} {M : ZM} {tr : Nat} {T : Nat → Int32} (hT : zAr M tr 60 T) {d : Nat} (hd : d < 12) : zMet G mL_used [.ref (tr), .int (nI (d))] M (zone (some (.int (nI (zcN (zpq T d) 5)))) M) := by
  refine zbody zyL_used [some (.ref (tr)), some (.int (nI (d))), none, none] rfl (Nat.le_of_ble_eq_true rfl) (by intro v hv; simp only [List.mem_cons, List.not_mem_nil, or_false] at hv; rcases hv with rfl | rfl <;> rfl) (fun E K => ?_)
  refine zq_iconst K dL_used_0 (v := nI 0) (by decide) ?_
  refine zq_istore_n K dL_used_1 rfl (by decide) ?_
  refine zq_iconst K dL_used_2 (v := nI 0) (by decide) ?_
  refine zq_istore_n K dL_used_3 rfl (by decide) ?_
  exact lp_L_used K hT hd ⟨rfl, rfl⟩ 5 0 rfl
theorem lp_L_count {G : ZG} {E : ZE} (K : zOK mL_count [] G E) {M : ZM} {tr : Nat} {T : Nat → Int32} (hT : zAr M tr 60 T) {f : Int32} {P : ZO → ZM → Prop} (hP : P (.inl (some (.int (nI (zcN (zpc T f) 60))))) M) : ∀ (n k : Nat), k + n = 60 → WW E G (zyu mL_count) (zQ E G mL_count P) M 0 4 [some (.ref (tr)), some (.int (f)), some (.int (nI (zcN (zpc T f) k))), some (.int (nI (k)))] [] := by
  intro n
  induction n with
  | zero =>
    intro k hk
    have hk4 : k = 60 := by omega
    subst hk4
    refine zq_iload_n K dL_count_4 rfl rfl ?_
    refine zq_bipush K dL_count_5 (v := nI 60) (by decide) ?_
    refine zq_icmp_geN K (x := 60) (y := 60) 31 dL_count_7 (by decide) ⟨by omega, by omega⟩ (fun h7 => ?_) (fun h7 => by omega)
    refine zq_iload_n K dL_count_31 rfl rfl ?_
    exact zq_iret K dL_count_32 rfl hP
  | succ n ih =>
    intro k hk
    refine zq_iload_n K dL_count_4 rfl rfl ?_
    refine zq_bipush K dL_count_5 (v := nI 60) (by decide) ?_
    refine zq_icmp_geN K (x := k) (y := 60) 31 dL_count_7 (by decide) ⟨by omega, by omega⟩ (fun h7 => by omega) (fun h7 => ?_)
    refine zq_iload_n K dL_count_10 rfl rfl ?_
    refine zq_aload_n K dL_count_11 rfl rfl ?_
    refine zq_iload_n K dL_count_12 rfl rfl ?_
    refine zl_ld K (k) dL_count_13 hT rfl (by omega) (by decide) ?_
    refine zq_iload_n K dL_count_14 rfl rfl ?_
    refine zq_icmp_ne K 22 dL_count_15 (by decide) (fun h15 => ?_) (fun h15 => ?_)
    · refine zq_iconst K dL_count_22 (v := nI 0) (by decide) ?_
      refine zq_iaddN K (x := zcN (zpc T f) k) (y := 0) dL_count_23 ?_
      refine zq_istore_n K dL_count_24 rfl (by decide) ?_
      refine zq_iincN K dL_count_25 rfl (by decide) ?_
      refine zq_goto K 4 dL_count_28 (by decide) ?_
      have g := ih (k + 1) (by omega)
      rw [zcN_f (p := zpc T f) (fun z => h15 (of_decide_eq_true z))] at g
      exact g
    · refine zq_iconst K dL_count_18 (v := nI 1) (by decide) ?_
      refine zq_goto K 23 dL_count_19 (by decide) ?_
      refine zq_iaddN K (x := zcN (zpc T f) k) (y := 1) dL_count_23 ?_
      refine zq_istore_n K dL_count_24 rfl (by decide) ?_
      refine zq_iincN K dL_count_25 rfl (by decide) ?_
      refine zq_goto K 4 dL_count_28 (by decide) ?_
      have g := ih (k + 1) (by omega)
      rw [zcN_t (p := zpc T f) (decide_eq_true h15)] at g
      exact g
theorem ct_L_count {G : ZG} {M : ZM} {tr : Nat} {T : Nat → Int32} (hT : zAr M tr 60 T) (f : Int32) : zMet G mL_count [.ref (tr), .int (f)] M (zone (some (.int (nI (zcN (zpc T f) 60)))) M) := by
  refine zbody zyL_count [some (.ref (tr)), some (.int (f)), none, none] rfl (Nat.le_of_ble_eq_true rfl) (by intro v hv; simp only [List.mem_cons, List.not_mem_nil, or_false] at hv; rcases hv with rfl | rfl <;> rfl) (fun E K => ?_)
  refine zq_iconst K dL_count_0 (v := nI 0) (by decide) ?_
  refine zq_istore_n K dL_count_1 rfl (by decide) ?_
  refine zq_iconst K dL_count_2 (v := nI 0) (by decide) ?_
  refine zq_istore_n K dL_count_3 rfl (by decide) ?_
  exact lp_L_count K hT ⟨rfl, rfl⟩ 60 0 rfl
theorem lpi_L_isBelow {G : ZG} {E : ZE} (K : zOK mL_isBelow [] G E) {M : ZM} {tr : Nat} {T : Nat → Int32} (hT : zAr M tr 60 T) {x e : Nat} {y : Int32} {Q : State → Prop} (hx : x < 12) (hQ : WW E G (zyu mL_isBelow) Q M 0 52 [some (.ref (tr)), some (.int (y)), some (.int (nI (e))), some (.int (nI (x))), some (.int (nI (zab T x 60))), some (.int (nI (60)))] []) : ∀ (n k : Nat), k + n = 60 → WW E G (zyu mL_isBelow) Q M 0 17 [some (.ref (tr)), some (.int (y)), some (.int (nI (e))), some (.int (nI (x))), some (.int (nI (zab T x k))), some (.int (nI (k)))] [] := by
  intro n
  induction n with
  | zero =>
    intro k hk
    have hk4 : k = 60 := by omega
    subst hk4
    refine zq_iload K dL_isBelow_17 rfl ?_
    refine zq_bipush K dL_isBelow_19 (v := nI 60) (by decide) ?_
    refine zq_icmp_geN K (x := 60) (y := 60) 52 dL_isBelow_21 (by decide) ⟨by omega, by omega⟩ (fun h21 => ?_) (fun h21 => by omega)
    exact hQ
  | succ n ih =>
    intro k hk
    refine zq_iload K dL_isBelow_17 rfl ?_
    refine zq_bipush K dL_isBelow_19 (v := nI 60) (by decide) ?_
    refine zq_icmp_geN K (x := k) (y := 60) 52 dL_isBelow_21 (by decide) ⟨by omega, by omega⟩ (fun h21 => by omega) (fun h21 => ?_)
    refine zq_aload_n K dL_isBelow_24 rfl rfl ?_
    refine zq_iload K dL_isBelow_25 rfl ?_
    refine zl_ld K (k) dL_isBelow_27 hT rfl (by omega) (by decide) ?_
    refine zq_bipush K dL_isBelow_28 (v := -2) (by decide) ?_
    refine zq_iload_n K dL_isBelow_30 rfl rfl ?_
    refine zq_isub K dL_isBelow_31 ?_
    refine zq_icmp_ne K 42 dL_isBelow_32 (by decide) (fun h32 => ?_) (fun h32 => ?_)
    · refine zq_iload K dL_isBelow_42 rfl ?_
      refine zq_istore K dL_isBelow_44 (by decide) ?_
      refine zq_iincN K dL_isBelow_46 rfl (by decide) ?_
      refine zq_goto K 17 dL_isBelow_49 (by decide) ?_
      have g := ih (k + 1) (by omega)
      rw [show zab T x (k + 1) = zab T x k from if_neg h32] at g
      exact g
    · refine zq_iload K dL_isBelow_35 rfl ?_
      refine zq_iconst K dL_isBelow_37 (v := nI 5) (by decide) ?_
      refine zq_idivN K (x := k) (y := 5) dL_isBelow_38 ⟨by omega, by decide, by decide⟩ ?_
      refine zq_goto K 44 dL_isBelow_39 (by decide) ?_
      refine zq_istore K dL_isBelow_44 (by decide) ?_
      refine zq_iincN K dL_isBelow_46 rfl (by decide) ?_
      refine zq_goto K 17 dL_isBelow_49 (by decide) ?_
      have g := ih (k + 1) (by omega)
      rw [show zab T x (k + 1) = k / 5 from if_pos h32] at g
      exact g
theorem lpo_L_isBelow {G : ZG} {E : ZE} (K : zOK mL_isBelow [] G E) {M : ZM} {tr : Nat} {T : Nat → Int32} (hT : zAr M tr 60 T) {A : ZA} (hab : ∀ y, y < 12 → ¬ y = 0 → A.2 3 y = 1 → zab T y 60 = zpar A y) {e : Nat} (he : e < 12) {y : Int32} {P : ZO → ZM → Prop} : ∀ (f x : Nat), x < 12 → zDp A f x → A.2 3 x = 1 → (zblN A f x e = true → P (.inl (some (.int (nI 1)))) M) → (¬ zblN A f x e = true → P (.inl (some (.int (nI 0)))) M) → ∀ (l4 l5 : Option Value), WW E G (zyu mL_isBelow) (zQ E G mL_isBelow P) M 0 2 [some (.ref tr), some (.int y), some (.int (nI e)), some (.int (nI x)), l4, l5] [] := by
  intro f
  induction f with
  | zero =>
    intro x hx12 hx hv k1 k0 l4 l5
    have hx0 : x = 0 := hx
    subst hx0
    refine zq_iload_n K dL_isBelow_2 rfl rfl ?_
    refine zq_if_eqN K (x := 0) 58 dL_isBelow_3 (by decide) (by omega) (fun h3 => ?_) (fun h3 => by omega)
    refine zq_iload_n K dL_isBelow_58 rfl rfl ?_
    refine zq_iload_n K dL_isBelow_59 rfl rfl ?_
    refine zq_icmp_neN K (x := 0) (y := e) 67 dL_isBelow_60 (by decide) ⟨by omega, by omega⟩ (fun h60 => ?_) (fun h60 => ?_)
    · refine zq_iconst K dL_isBelow_67 (v := nI 0) (by decide) ?_
      exact zq_zret K dL_isBelow_68 rfl (by decide) (k0 (fun z => h60 (by rw [zblN] at z; exact of_decide_eq_true z)))
    · refine zq_iconst K dL_isBelow_63 (v := nI 1) (by decide) ?_
      refine zq_goto K 68 dL_isBelow_64 (by decide) ?_
      exact zq_zret K dL_isBelow_68 rfl (by decide) (k1 (by rw [zblN]; exact decide_eq_true h60))
  | succ f ih =>
    intro x hx12 hx hv k1 k0 l4 l5
    refine zq_iload_n K dL_isBelow_2 rfl rfl ?_
    refine zq_if_eqN K (x := x) 58 dL_isBelow_3 (by decide) (by omega) (fun h3 => ?_) (fun h3 => ?_)
    · refine zq_iload_n K dL_isBelow_58 rfl rfl ?_
      refine zq_iload_n K dL_isBelow_59 rfl rfl ?_
      refine zq_icmp_neN K (x := x) (y := e) 67 dL_isBelow_60 (by decide) ⟨by omega, by omega⟩ (fun h60 => ?_) (fun h60 => ?_)
      · refine zq_iconst K dL_isBelow_67 (v := nI 0) (by decide) ?_
        exact zq_zret K dL_isBelow_68 rfl (by decide) (k0 (fun z => h60 (by rw [zblN, if_pos (Or.inl h3)] at z; exact of_decide_eq_true z)))
      · refine zq_iconst K dL_isBelow_63 (v := nI 1) (by decide) ?_
        refine zq_goto K 68 dL_isBelow_64 (by decide) ?_
        exact zq_zret K dL_isBelow_68 rfl (by decide) (k1 (by rw [zblN, if_pos (Or.inl h3)]; exact decide_eq_true h60))
    · refine zq_iload_n K dL_isBelow_6 rfl rfl ?_
      refine zq_iload_n K dL_isBelow_7 rfl rfl ?_
      refine zq_icmp_eqN K (x := x) (y := e) 58 dL_isBelow_8 (by decide) ⟨by omega, by omega⟩ (fun h8 => ?_) (fun h8 => ?_)
      · refine zq_iload_n K dL_isBelow_58 rfl rfl ?_
        refine zq_iload_n K dL_isBelow_59 rfl rfl ?_
        refine zq_icmp_neN K (x := x) (y := e) 67 dL_isBelow_60 (by decide) ⟨by omega, by omega⟩ (fun h60 => ?_) (fun h60 => ?_)
        · exact absurd h8 h60
        · refine zq_iconst K dL_isBelow_63 (v := nI 1) (by decide) ?_
          refine zq_goto K 68 dL_isBelow_64 (by decide) ?_
          exact zq_zret K dL_isBelow_68 rfl (by decide) (k1 (by rw [zblN, if_pos (Or.inr h8)]; exact decide_eq_true h8))
      · refine zq_iconst K dL_isBelow_11 (v := nI 0) (by decide) ?_
        refine zq_istore K dL_isBelow_12 (by decide) ?_
        refine zq_iconst K dL_isBelow_14 (v := nI 0) (by decide) ?_
        refine zq_istore K dL_isBelow_15 (by decide) ?_
        refine lpi_L_isBelow K hT hx12 ?_ 60 0 rfl
        refine zq_iload K dL_isBelow_52 rfl ?_
        refine zq_istore_n K dL_isBelow_54 rfl (by decide) ?_
        refine zq_goto K 2 dL_isBelow_55 (by decide) ?_
        obtain ⟨hu, hx1⟩ := hx.resolve_left h3
        have hne : ¬ (x = 0 ∨ x = e) := fun z => z.elim h3 h8
        rw [hab x hx12 h3 hv]
        exact ih (zpar A x) hu.2.1 hx1 hu.2.2.1 (fun z => k1 (by rw [zblN, if_neg hne]; exact z)) (fun z => k0 (by rw [zblN, if_neg hne]; exact z)) _ _
theorem ct_L_isBelow {G : ZG} {M : ZM} {tr : Nat} {T : Nat → Int32} (hT : zAr M tr 60 T) {A : ZA} (hab : ∀ y, y < 12 → ¬ y = 0 → A.2 3 y = 1 → zab T y 60 = zpar A y) {d e : Nat} (hd : d < 12) (hx : zDp A 11 d) (hv : A.2 3 d = 1) (he : e < 12) : zMet G mL_isBelow [.ref (tr), .int (nI (d)), .int (nI (e))] M (zdec (zblN A 11 d e = true) M) := by
  refine zbody zyL_isBelow [some (.ref (tr)), some (.int (nI (d))), some (.int (nI (e))), none, none, none] rfl (Nat.le_of_ble_eq_true rfl) (by intro v hv; simp only [List.mem_cons, List.not_mem_nil, or_false] at hv; rcases hv with rfl | rfl | rfl <;> rfl) (fun E K => ?_)
  refine zq_iload_n K dL_isBelow_0 rfl rfl ?_
  refine zq_istore_n K dL_isBelow_1 rfl (by decide) ?_
  exact lpo_L_isBelow K hT hab he 11 d hd hx hv zdec_1 (fun h => zdec_0 h) none none

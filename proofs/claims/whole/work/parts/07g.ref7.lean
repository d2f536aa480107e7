/-! the reference: loads, moves -/
/-- what is not there has no fragments -/
def zDz (A : ZA) : Prop := ∀ f, f < 96 → ¬ A.2 10 f = 0 → A.2 3 (f / 8) = 1
/-- the load of the server s in the first k places -/
def zlS (A : ZA) (s : Int32) : Nat → Int32
  | 0 => nI 0
  | k + 1 => zlS A s k + (if ¬ A.2 10 k ≤ 0 ∧ zsv A k = s then A.2 12 k else nI 0)
theorem zle0 {v : Int32} (h : ¬ v ≤ 0) : ¬ v = 0 := fun e => h (by rw [e]; exact Int32.le_refl 0)
theorem lp_X3_loadOf {G : ZG} {E : ZE} (K : zOK mX3_loadOf [] G E) {M : ZM} {x : Nat} {q : Nat → Nat} {w : Int32} {A : ZA} (hR : zR M x q w A) (hW : zWf A) (hz : zDz A) {D : Nat} (hD : A.1 2 = nI D) (hD12 : D ≤ 12) {s : Int32} {P : ZO → ZM → Prop} (hP : P (.inl (some (.int (zlS A s (8 * D))))) M) : ∀ (n k : Nat), k + n = 8 * D → WW E G (zyu mX3_loadOf) (zQ E G mX3_loadOf P) M 0 4 [some (.ref x), some (.int s), some (.int (zlS A s k)), some (.int (nI k))] [] := by
  obtain ⟨hB, hF, hU⟩ := id hW
  intro n
  induction n with
  | zero =>
    intro k hk
    have hk4 : k = 8 * D := by omega
    subst hk4
    refine zq_iload_n K dX3_loadOf_4 rfl rfl ?_
    refine zq_bipush K dX3_loadOf_5 (v := nI 8) (by decide) ?_
    refine zq_aload_n K dX3_loadOf_7 rfl rfl ?_
    refine zm_sc K dX3_loadOf_8 zf_X3_7 (k := 2) (by decide) hR ?_
    refine zq_top (v := nI (D)) hD ?_
    refine zq_imulN K (x := 8) (y := D) dX3_loadOf_11 ?_
    refine zq_icmp_geN K (x := 8 * D) (y := (8) * (D)) 52 dX3_loadOf_12 (by decide) ⟨by omega, by omega⟩ (fun h12 => ?_) (fun h12 => by omega)
    refine zq_iload_n K dX3_loadOf_52 rfl rfl ?_
    exact zq_iret K dX3_loadOf_53 rfl hP
  | succ n ih =>
    intro k hk
    refine zq_iload_n K dX3_loadOf_4 rfl rfl ?_
    refine zq_bipush K dX3_loadOf_5 (v := nI 8) (by decide) ?_
    refine zq_aload_n K dX3_loadOf_7 rfl rfl ?_
    refine zm_sc K dX3_loadOf_8 zf_X3_7 (k := 2) (by decide) hR ?_
    refine zq_top (v := nI (D)) hD ?_
    refine zq_imulN K (x := 8) (y := D) dX3_loadOf_11 ?_
    refine zq_icmp_geN K (x := k) (y := (8) * (D)) 52 dX3_loadOf_12 (by decide) ⟨by omega, by omega⟩ (fun h12 => by omega) (fun h12 => ?_)
    refine zq_iload_n K dX3_loadOf_15 rfl rfl ?_
    refine zq_aload_n K dX3_loadOf_16 rfl rfl ?_
    refine zm_ar K dX3_loadOf_17 zf_X3_30 (k := 10) (by decide) hR ?_
    refine zq_iload_n K dX3_loadOf_20 rfl rfl ?_
    refine zm_ld K (k) dX3_loadOf_21 (k := 10) (by decide) hR rfl (show k < 96 by omega) ?_
    refine zq_if_le K 43 dX3_loadOf_22 (by decide) (fun h22 => ?_) (fun h22 => ?_)
    · refine zq_iconst K dX3_loadOf_43 (v := nI 0) (by decide) ?_
      refine zq_top (v := (if ¬ A.2 10 k ≤ 0 ∧ zsv A k = s then A.2 12 k else nI 0)) (if_neg (fun z => z.1 h22)).symm ?_
      refine zq_iadd K dX3_loadOf_44 ?_
      refine zq_istore_n K dX3_loadOf_45 rfl (by decide) ?_
      refine zq_iincN K dX3_loadOf_46 rfl (by decide) ?_
      refine zq_goto K 4 dX3_loadOf_49 (by decide) ?_
      exact ih (k + 1) (by omega)
    · refine zq_aload_n K dX3_loadOf_25 rfl rfl ?_
      refine zq_iload_n K dX3_loadOf_26 rfl rfl ?_
      refine zq_callV (As := [.int (nI (k))]) K dX3_loadOf_27 zyX3_server zm_X3_154 ziX3_server zvX3_server zclX3 rfl (by decide) rfl rfl (Nat.le_of_ble_eq_true rfl) (Nat.le_of_ble_eq_true rfl) hR.1 (ct_X3_server hR hF (hU (k / 8) (by omega) (hz k (by omega) (zle0 h22))) (by omega) (zle0 h22)) (zone_r ?_) zone_x (Nat.le_refl _)
      refine zq_iload_n K dX3_loadOf_30 rfl rfl ?_
      refine zq_icmp_ne K 43 dX3_loadOf_31 (by decide) (fun h31 => ?_) (fun h31 => ?_)
      · refine zq_iconst K dX3_loadOf_43 (v := nI 0) (by decide) ?_
        refine zq_top (v := (if ¬ A.2 10 k ≤ 0 ∧ zsv A k = s then A.2 12 k else nI 0)) (if_neg (fun z => h31 z.2)).symm ?_
        refine zq_iadd K dX3_loadOf_44 ?_
        refine zq_istore_n K dX3_loadOf_45 rfl (by decide) ?_
        refine zq_iincN K dX3_loadOf_46 rfl (by decide) ?_
        refine zq_goto K 4 dX3_loadOf_49 (by decide) ?_
        exact ih (k + 1) (by omega)
      · refine zq_aload_n K dX3_loadOf_34 rfl rfl ?_
        refine zm_ar K dX3_loadOf_35 zf_X3_36 (k := 12) (by decide) hR ?_
        refine zq_iload_n K dX3_loadOf_38 rfl rfl ?_
        refine zm_ld K (k) dX3_loadOf_39 (k := 12) (by decide) hR rfl (show k < 96 by omega) ?_
        refine zq_goto K 44 dX3_loadOf_40 (by decide) ?_
        refine zq_top (v := (if ¬ A.2 10 k ≤ 0 ∧ zsv A k = s then A.2 12 k else nI 0)) (if_pos ⟨h22, h31⟩).symm ?_
        refine zq_iadd K dX3_loadOf_44 ?_
        refine zq_istore_n K dX3_loadOf_45 rfl (by decide) ?_
        refine zq_iincN K dX3_loadOf_46 rfl (by decide) ?_
        refine zq_goto K 4 dX3_loadOf_49 (by decide) ?_
        exact ih (k + 1) (by omega)
theorem ct_X3_loadOf {G : ZG} {M : ZM} {x : Nat} {q : Nat → Nat} {w : Int32} {A : ZA} (hR : zR M x q w A) (hW : zWf A) (hz : zDz A) {D : Nat} (hD : A.1 2 = nI D) (hD12 : D ≤ 12) (s : Int32) : zMet G mX3_loadOf [.ref (x), .int (s)] M (zone (some (.int (zlS A s (8 * D)))) M) := by
  refine zbody zyX3_loadOf [some (.ref (x)), some (.int (s)), none, none] rfl (Nat.le_of_ble_eq_true rfl) (by intro v hv; simp only [List.mem_cons, List.not_mem_nil, or_false] at hv; rcases hv with rfl | rfl <;> rfl) (fun E K => ?_)
  refine zq_iconst K dX3_loadOf_0 (v := nI 0) (by decide) ?_
  refine zq_istore_n K dX3_loadOf_1 rfl (by decide) ?_
  refine zq_iconst K dX3_loadOf_2 (v := nI 0) (by decide) ?_
  refine zq_istore_n K dX3_loadOf_3 rfl (by decide) ?_
  exact lp_X3_loadOf K hR hW hz hD hD12 ⟨rfl, rfl⟩ (8 * D) 0 (by omega)
theorem ct_X3_load_bad {G : ZG} {M : ZM} {x : Nat} {q : Nat → Nat} {w : Int32} {A : ZA} (hR : zR M x q w A) {s : Int32} (h : ¬ zOn s 3) : zMet G mX3_load [.ref (x), .int (s)] M (zRP x q M (some (.int (nI 0))) (nI 1) A) := by
  refine zbody zyX3_load [some (.ref (x)), some (.int (s))] rfl (Nat.le_of_ble_eq_true rfl) (by intro v hv; simp only [List.mem_cons, List.not_mem_nil, or_false] at hv; rcases hv with rfl | rfl <;> rfl) (fun E K => ?_)
  have hS : zSm x q M M := zSm.rf
  refine zq_aload_n K dX3_load_0 rfl rfl ?_
  refine zq_iload_n K dX3_load_1 rfl rfl ?_
  refine zq_iconst K dX3_load_2 (v := nI 0) (by decide) ?_
  refine zq_iconst K dX3_load_3 (v := nI 3) (by decide) ?_
  refine zq_callS (As := [.int (s), .int (nI (0)), .int (nI (3))]) K dX3_load_4 zyX3_in zm_X3_58 zsX3_in rfl (by decide) rfl rfl (Nat.le_of_ble_eq_true rfl) (Nat.le_of_ble_eq_true rfl) (ct_X3_in s (nI 0) (nI 3) M) (zdec_r (fun ys => ?_) (fun ys => ?_)) zdec_x (Nat.le_refl _)
  · refine zq_if_eqN K (x := 1) 14 dX3_load_7 (by decide) (by omega) (fun h7 => by omega) (fun h7 => ?_)
    exact absurd ((zOn_iff (by decide)).mp ys) h
  · refine zq_if_eqN K (x := 0) 14 dX3_load_7 (by decide) (by omega) (fun h7 => ?_) (fun h7 => by omega)
    refine zq_iconst K dX3_load_14 (v := nI 1) (by decide) ?_
    refine zm_pth K dX3_load_15 zf_X3_55 hR hS (fun M hR hS => ?_)
    refine zq_aload_n K dX3_load_18 rfl rfl ?_
    refine zm_th K dX3_load_19 zf_X3_55 hR ?_
    refine zq_if_leN K (x := 1) 29 dX3_load_22 (by decide) (by omega) (fun h22 => by omega) (fun h22 => ?_)
    refine zq_iconst K dX3_load_25 (v := nI 0) (by decide) ?_
    refine zq_goto K 34 dX3_load_26 (by decide) ?_
    exact zq_iret K dX3_load_34 rfl ⟨rfl, hR, hS⟩
theorem ct_X3_load_ok {G : ZG} {M : ZM} {x : Nat} {q : Nat → Nat} {w : Int32} {A : ZA} (hR : zR M x q w A) (hW : zWf A) (hz : zDz A) {D : Nat} (hD : A.1 2 = nI D) (hD12 : D ≤ 12) {s : Int32} (h : zOn s 3) : zMet G mX3_load [.ref (x), .int (s)] M (zRP x q M (some (.int (zlS A s (8 * D)))) (nI 0) A) := by
  refine zbody zyX3_load [some (.ref (x)), some (.int (s))] rfl (Nat.le_of_ble_eq_true rfl) (by intro v hv; simp only [List.mem_cons, List.not_mem_nil, or_false] at hv; rcases hv with rfl | rfl <;> rfl) (fun E K => ?_)
  have hS : zSm x q M M := zSm.rf
  refine zq_aload_n K dX3_load_0 rfl rfl ?_
  refine zq_iload_n K dX3_load_1 rfl rfl ?_
  refine zq_iconst K dX3_load_2 (v := nI 0) (by decide) ?_
  refine zq_iconst K dX3_load_3 (v := nI 3) (by decide) ?_
  refine zq_callS (As := [.int (s), .int (nI (0)), .int (nI (3))]) K dX3_load_4 zyX3_in zm_X3_58 zsX3_in rfl (by decide) rfl rfl (Nat.le_of_ble_eq_true rfl) (Nat.le_of_ble_eq_true rfl) (ct_X3_in s (nI 0) (nI 3) M) (zdec_r (fun ys => ?_) (fun ys => ?_)) zdec_x (Nat.le_refl _)
  · refine zq_if_eqN K (x := 1) 14 dX3_load_7 (by decide) (by omega) (fun h7 => by omega) (fun h7 => ?_)
    refine zq_iconst K dX3_load_10 (v := nI 0) (by decide) ?_
    refine zq_goto K 15 dX3_load_11 (by decide) ?_
    refine zm_pth K dX3_load_15 zf_X3_55 hR hS (fun M hR hS => ?_)
    refine zq_aload_n K dX3_load_18 rfl rfl ?_
    refine zm_th K dX3_load_19 zf_X3_55 hR ?_
    refine zq_if_leN K (x := 0) 29 dX3_load_22 (by decide) (by omega) (fun h22 => ?_) (fun h22 => by omega)
    refine zq_aload_n K dX3_load_29 rfl rfl ?_
    refine zq_iload_n K dX3_load_30 rfl rfl ?_
    refine zq_callV (As := [.int (s)]) K dX3_load_31 zyX3_loadOf zm_X3_157 ziX3_loadOf zvX3_loadOf zclX3 rfl (by decide) rfl rfl (Nat.le_of_ble_eq_true rfl) (Nat.le_of_ble_eq_true rfl) hR.1 (ct_X3_loadOf hR hW hz hD hD12 s) (zone_r ?_) zone_x (Nat.le_refl _)
    exact zq_iret K dX3_load_34 rfl ⟨rfl, hR, hS⟩
  · refine zq_if_eqN K (x := 0) 14 dX3_load_7 (by decide) (by omega) (fun h7 => ?_) (fun h7 => by omega)
    exact absurd ((zOn_iff (by decide)).mpr h) ys
/-- a move of the fragment f to s begins -/
def zMo (A : ZA) (f s : Int32) : ZA := zsc (zsc (zsc A 16 f) 17 s) 18 (nI 0)
theorem ct_X3_moves {G : ZG} {M : ZM} {x : Nat} {q : Nat → Nat} {w : Int32} {A : ZA} (hR : zR M x q w A) (f s : Int32) : zMet G mX3_moves [.ref (x), .int (f), .int (s)] M (zRP x q M none w (zMo A f s)) := by
  refine zbody zyX3_moves [some (.ref (x)), some (.int (f)), some (.int (s))] rfl (Nat.le_of_ble_eq_true rfl) (by intro v hv; simp only [List.mem_cons, List.not_mem_nil, or_false] at hv; rcases hv with rfl | rfl | rfl <;> rfl) (fun E K => ?_)
  have hS : zSm x q M M := zSm.rf
  refine zq_aload_n K dX3_moves_0 rfl rfl ?_
  refine zq_iload_n K dX3_moves_1 rfl rfl ?_
  refine zm_psc K dX3_moves_2 zf_X3_48 (k := 16) (by decide) hR hS (fun M hR hS => ?_)
  refine zq_aload_n K dX3_moves_5 rfl rfl ?_
  refine zq_iload_n K dX3_moves_6 rfl rfl ?_
  refine zm_psc K dX3_moves_7 zf_X3_160 (k := 17) (by decide) hR hS (fun M hR hS => ?_)
  refine zq_aload_n K dX3_moves_10 rfl rfl ?_
  refine zq_iconst K dX3_moves_11 (v := nI 0) (by decide) ?_
  refine zm_psc K dX3_moves_12 zf_X3_163 (k := 18) (by decide) hR hS (fun M hR hS => ?_)
  exact zq_ret K dX3_moves_15 rfl ⟨rfl, hR, hS⟩
theorem ct_X3_beginMove_1 {G : ZG} {M : ZM} {x : Nat} {q : Nat → Nat} {w : Int32} {A : ZA} (hR : zR M x q w A) (hW : zWf A) {d h s : Int32} (hh : ¬ (zOn h 7 ∧ zOn s 3)) : zMet G mX3_beginMove [.ref (x), .int (d), .int (h), .int (s)] M (zRP x q M none (nI 1) A) := by
  refine zbody zyX3_beginMove [some (.ref (x)), some (.int (d)), some (.int (h)), some (.int (s)), none] rfl (Nat.le_of_ble_eq_true rfl) (by intro v hv; simp only [List.mem_cons, List.not_mem_nil, or_false] at hv; rcases hv with rfl | rfl | rfl | rfl <;> rfl) (fun E K => ?_)
  obtain ⟨⟨D, hB⟩, hF, hU⟩ := id hW
  have hS : zSm x q M M := zSm.rf
  refine zq_aload_n K dX3_beginMove_0 rfl rfl ?_
  refine zq_iload_n K dX3_beginMove_1 rfl rfl ?_
  refine zq_callS (As := [.int (h)]) K dX3_beginMove_2 zyX3_isHash zm_X3_142 zsX3_isHash rfl (by decide) rfl rfl (Nat.le_of_ble_eq_true rfl) (Nat.le_of_ble_eq_true rfl) (ct_X3_isHash h _) (zdec_r (fun yh => ?_) (fun yh => ?_)) zdec_x (Nat.le_refl _)
  · refine zq_if_eqN K (x := 1) 17 dX3_beginMove_5 (by decide) (by omega) (fun h5 => by omega) (fun h5 => ?_)
    refine zq_iload_n K dX3_beginMove_8 rfl rfl ?_
    refine zq_iconst K dX3_beginMove_9 (v := nI 0) (by decide) ?_
    refine zq_iconst K dX3_beginMove_10 (v := nI 3) (by decide) ?_
    refine zq_callS (As := [.int (s), .int (nI (0)), .int (nI (3))]) K dX3_beginMove_11 zyX3_in zm_X3_58 zsX3_in rfl (by decide) rfl rfl (Nat.le_of_ble_eq_true rfl) (Nat.le_of_ble_eq_true rfl) (ct_X3_in s (nI 0) (nI 3) _) (zdec_r (fun ys => ?_) (fun ys => ?_)) zdec_x (Nat.le_refl _)
    · refine zq_if_neN K (x := 1) 21 dX3_beginMove_14 (by decide) (by omega) (fun h14 => ?_) (fun h14 => by omega)
      exact absurd ⟨yh, (zOn_iff (by decide)).mp ys⟩ hh
    · refine zq_if_neN K (x := 0) 21 dX3_beginMove_14 (by decide) (by omega) (fun h14 => by omega) (fun h14 => ?_)
      refine zq_iconst K dX3_beginMove_17 (v := nI 1) (by decide) ?_
      refine zq_goto K 34 dX3_beginMove_18 (by decide) ?_
      refine zm_pth K dX3_beginMove_34 zf_X3_55 hR hS (fun M hR hS => ?_)
      refine zq_aload_n K dX3_beginMove_37 rfl rfl ?_
      refine zm_th K dX3_beginMove_38 zf_X3_55 hR ?_
      refine zq_if_leN K (x := 1) 45 dX3_beginMove_41 (by decide) (by omega) (fun h41 => by omega) (fun h41 => ?_)
      exact zq_ret K dX3_beginMove_44 rfl ⟨rfl, hR, hS⟩
  · refine zq_if_eqN K (x := 0) 17 dX3_beginMove_5 (by decide) (by omega) (fun h5 => ?_) (fun h5 => by omega)
    refine zq_iconst K dX3_beginMove_17 (v := nI 1) (by decide) ?_
    refine zq_goto K 34 dX3_beginMove_18 (by decide) ?_
    refine zm_pth K dX3_beginMove_34 zf_X3_55 hR hS (fun M hR hS => ?_)
    refine zq_aload_n K dX3_beginMove_37 rfl rfl ?_
    refine zm_th K dX3_beginMove_38 zf_X3_55 hR ?_
    refine zq_if_leN K (x := 1) 45 dX3_beginMove_41 (by decide) (by omega) (fun h41 => by omega) (fun h41 => ?_)
    exact zq_ret K dX3_beginMove_44 rfl ⟨rfl, hR, hS⟩
theorem ct_X3_beginMove_2 {G : ZG} {M : ZM} {x : Nat} {q : Nat → Nat} {w : Int32} {A : ZA} (hR : zR M x q w A) (hW : zWf A) {d h s : Int32} (hh : zOn h 7 ∧ zOn s 3) (hd : ¬ zIsD A d) : zMet G mX3_beginMove [.ref (x), .int (d), .int (h), .int (s)] M (zRP x q M none (nI 2) A) := by
  refine zbody zyX3_beginMove [some (.ref (x)), some (.int (d)), some (.int (h)), some (.int (s)), none] rfl (Nat.le_of_ble_eq_true rfl) (by intro v hv; simp only [List.mem_cons, List.not_mem_nil, or_false] at hv; rcases hv with rfl | rfl | rfl | rfl <;> rfl) (fun E K => ?_)
  obtain ⟨⟨D, hB⟩, hF, hU⟩ := id hW
  have hS : zSm x q M M := zSm.rf
  refine zq_aload_n K dX3_beginMove_0 rfl rfl ?_
  refine zq_iload_n K dX3_beginMove_1 rfl rfl ?_
  refine zq_callS (As := [.int (h)]) K dX3_beginMove_2 zyX3_isHash zm_X3_142 zsX3_isHash rfl (by decide) rfl rfl (Nat.le_of_ble_eq_true rfl) (Nat.le_of_ble_eq_true rfl) (ct_X3_isHash h _) (zdec_r (fun yh => ?_) (fun yh => ?_)) zdec_x (Nat.le_refl _)
  · refine zq_if_eqN K (x := 1) 17 dX3_beginMove_5 (by decide) (by omega) (fun h5 => by omega) (fun h5 => ?_)
    refine zq_iload_n K dX3_beginMove_8 rfl rfl ?_
    refine zq_iconst K dX3_beginMove_9 (v := nI 0) (by decide) ?_
    refine zq_iconst K dX3_beginMove_10 (v := nI 3) (by decide) ?_
    refine zq_callS (As := [.int (s), .int (nI (0)), .int (nI (3))]) K dX3_beginMove_11 zyX3_in zm_X3_58 zsX3_in rfl (by decide) rfl rfl (Nat.le_of_ble_eq_true rfl) (Nat.le_of_ble_eq_true rfl) (ct_X3_in s (nI 0) (nI 3) _) (zdec_r (fun ys => ?_) (fun ys => ?_)) zdec_x (Nat.le_refl _)
    · refine zq_if_neN K (x := 1) 21 dX3_beginMove_14 (by decide) (by omega) (fun h14 => ?_) (fun h14 => by omega)
      refine zq_aload_n K dX3_beginMove_21 rfl rfl ?_
      refine zq_iload_n K dX3_beginMove_22 rfl rfl ?_
      refine zq_callV (As := [.int (d)]) K dX3_beginMove_23 zyX3_isDirectory zm_X3_99 ziX3_isDirectory zvX3_isDirectory zclX3 rfl (by decide) rfl rfl (Nat.le_of_ble_eq_true rfl) (Nat.le_of_ble_eq_true rfl) hR.1 (ct_X3_isDirectory hR hB d) (zdec_r (fun yd => ?_) (fun yd => ?_)) zdec_x (Nat.le_refl _)
      · refine zq_if_neN K (x := 1) 33 dX3_beginMove_26 (by decide) (by omega) (fun h26 => ?_) (fun h26 => by omega)
        exact absurd yd hd
      · refine zq_if_neN K (x := 0) 33 dX3_beginMove_26 (by decide) (by omega) (fun h26 => by omega) (fun h26 => ?_)
        refine zq_iconst K dX3_beginMove_29 (v := nI 2) (by decide) ?_
        refine zq_goto K 34 dX3_beginMove_30 (by decide) ?_
        refine zm_pth K dX3_beginMove_34 zf_X3_55 hR hS (fun M hR hS => ?_)
        refine zq_aload_n K dX3_beginMove_37 rfl rfl ?_
        refine zm_th K dX3_beginMove_38 zf_X3_55 hR ?_
        refine zq_if_leN K (x := 2) 45 dX3_beginMove_41 (by decide) (by omega) (fun h41 => by omega) (fun h41 => ?_)
        exact zq_ret K dX3_beginMove_44 rfl ⟨rfl, hR, hS⟩
    · refine zq_if_neN K (x := 0) 21 dX3_beginMove_14 (by decide) (by omega) (fun h14 => by omega) (fun h14 => ?_)
      exact absurd ((zOn_iff (by decide)).mpr hh.2) ys
  · refine zq_if_eqN K (x := 0) 17 dX3_beginMove_5 (by decide) (by omega) (fun h5 => ?_) (fun h5 => by omega)
    exact absurd hh.1 yh
theorem ct_X3_beginMove_mv {G : ZG} {M : ZM} {x : Nat} {q : Nat → Nat} {w : Int32} {A : ZA} (hR : zR M x q w A) (hW : zWf A) {d h : Nat} {s : Int32} (hd : d < 12) (hl : A.2 3 d = 1) (hh : h ≤ 7) (hs : zOn s 3) (hm : ¬ A.1 16 = -1) : zMet G mX3_beginMove [.ref (x), .int (nI (d)), .int (nI (h)), .int (s)] M (zRP x q M none (nI 3) A) := by
  refine zbody zyX3_beginMove [some (.ref (x)), some (.int (nI (d))), some (.int (nI (h))), some (.int (s)), none] rfl (Nat.le_of_ble_eq_true rfl) (by intro v hv; simp only [List.mem_cons, List.not_mem_nil, or_false] at hv; rcases hv with rfl | rfl | rfl | rfl <;> rfl) (fun E K => ?_)
  obtain ⟨⟨D, hB⟩, hF, hU⟩ := id hW
  have hS : zSm x q M M := zSm.rf
  have h00 := hF.1 d hd hl
  refine zq_aload_n K dX3_beginMove_0 rfl rfl ?_
  refine zq_iload_n K dX3_beginMove_1 rfl rfl ?_
  refine zq_callS (As := [.int (nI (h))]) K dX3_beginMove_2 zyX3_isHash zm_X3_142 zsX3_isHash rfl (by decide) rfl rfl (Nat.le_of_ble_eq_true rfl) (Nat.le_of_ble_eq_true rfl) (ct_X3_isHash (nI h) _) (zdec_r (fun yh => ?_) (fun yh => ?_)) zdec_x (Nat.le_refl _)
  · refine zq_if_eqN K (x := 1) 17 dX3_beginMove_5 (by decide) (by omega) (fun h5 => by omega) (fun h5 => ?_)
    refine zq_iload_n K dX3_beginMove_8 rfl rfl ?_
    refine zq_iconst K dX3_beginMove_9 (v := nI 0) (by decide) ?_
    refine zq_iconst K dX3_beginMove_10 (v := nI 3) (by decide) ?_
    refine zq_callS (As := [.int (s), .int (nI (0)), .int (nI (3))]) K dX3_beginMove_11 zyX3_in zm_X3_58 zsX3_in rfl (by decide) rfl rfl (Nat.le_of_ble_eq_true rfl) (Nat.le_of_ble_eq_true rfl) (ct_X3_in s (nI 0) (nI 3) _) (zdec_r (fun ys => ?_) (fun ys => ?_)) zdec_x (Nat.le_refl _)
    · refine zq_if_neN K (x := 1) 21 dX3_beginMove_14 (by decide) (by omega) (fun h14 => ?_) (fun h14 => by omega)
      refine zq_aload_n K dX3_beginMove_21 rfl rfl ?_
      refine zq_iload_n K dX3_beginMove_22 rfl rfl ?_
      refine zq_callV (As := [.int (nI (d))]) K dX3_beginMove_23 zyX3_isDirectory zm_X3_99 ziX3_isDirectory zvX3_isDirectory zclX3 rfl (by decide) rfl rfl (Nat.le_of_ble_eq_true rfl) (Nat.le_of_ble_eq_true rfl) hR.1 (ct_X3_isDirectory hR hB (nI d)) (zdec_r (fun yd => ?_) (fun yd => ?_)) zdec_x (Nat.le_refl _)
      · refine zq_if_neN K (x := 1) 33 dX3_beginMove_26 (by decide) (by omega) (fun h26 => ?_) (fun h26 => by omega)
        refine zq_iconst K dX3_beginMove_33 (v := nI 0) (by decide) ?_
        refine zm_pth K dX3_beginMove_34 zf_X3_55 hR hS (fun M hR hS => ?_)
        refine zq_aload_n K dX3_beginMove_37 rfl rfl ?_
        refine zm_th K dX3_beginMove_38 zf_X3_55 hR ?_
        refine zq_if_leN K (x := 0) 45 dX3_beginMove_41 (by decide) (by omega) (fun h41 => ?_) (fun h41 => by omega)
        refine zq_aload_n K dX3_beginMove_45 rfl rfl ?_
        refine zq_iload_n K dX3_beginMove_46 rfl rfl ?_
        refine zq_iload_n K dX3_beginMove_47 rfl rfl ?_
        have hfg := zfg_le (A.2 10) d h
        refine zq_callV (As := [.int (nI (d)), .int (nI (h))]) K dX3_beginMove_48 zyX3_fragment zm_X3_66 ziX3_fragment zvX3_fragment zclX3 rfl (by decide) rfl rfl (Nat.le_of_ble_eq_true rfl) (Nat.le_of_ble_eq_true rfl) hR.1 (ct_X3_fragment hR hd (show h < 8 by omega) h00) (zone_r ?_) zone_x (Nat.le_refl _)
        refine zq_istore K dX3_beginMove_51 (by decide) ?_
        refine zq_aload_n K dX3_beginMove_53 rfl rfl ?_
        refine zq_aload_n K dX3_beginMove_54 rfl rfl ?_
        refine zm_sc K dX3_beginMove_55 zf_X3_48 (k := 16) (by decide) hR ?_
        refine zq_iconst K dX3_beginMove_58 (v := -1) (by decide) ?_
        refine zq_icmp_ne K 72 dX3_beginMove_59 (by decide) (fun h59 => ?_) (fun h59 => absurd h59 hm)
        refine zq_iconst K dX3_beginMove_72 (v := nI 3) (by decide) ?_
        refine zq_goto K 77 dX3_beginMove_73 (by decide) ?_
        refine zm_pth K dX3_beginMove_77 zf_X3_55 hR hS (fun M hR hS => ?_)
        refine zq_aload_n K dX3_beginMove_80 rfl rfl ?_
        refine zm_th K dX3_beginMove_81 zf_X3_55 hR ?_
        refine zq_if_neN K (x := 3) 94 dX3_beginMove_84 (by decide) (by omega) (fun h84 => ?_) (fun h84 => by omega)
        exact zq_ret K dX3_beginMove_94 rfl ⟨rfl, hR, hS⟩
      · refine zq_if_neN K (x := 0) 33 dX3_beginMove_26 (by decide) (by omega) (fun h26 => by omega) (fun h26 => ?_)
        exact absurd ⟨d, hd, rfl, hl⟩ yd
    · refine zq_if_neN K (x := 0) 21 dX3_beginMove_14 (by decide) (by omega) (fun h14 => by omega) (fun h14 => ?_)
      exact absurd ((zOn_iff (by decide)).mpr hs) ys
  · refine zq_if_eqN K (x := 0) 17 dX3_beginMove_5 (by decide) (by omega) (fun h5 => ?_) (fun h5 => by omega)
    exact absurd ⟨h, hh, rfl⟩ yh
theorem ct_X3_beginMove_same {G : ZG} {M : ZM} {x : Nat} {q : Nat → Nat} {w : Int32} {A : ZA} (hR : zR M x q w A) (hW : zWf A) {d h : Nat} {s : Int32} (hd : d < 12) (hl : A.2 3 d = 1) (hh : h ≤ 7) (hs : zOn s 3) (hm : A.1 16 = -1) (he : zsv A (8 * d + zfg (A.2 10) d h) = s) : zMet G mX3_beginMove [.ref (x), .int (nI (d)), .int (nI (h)), .int (s)] M (zRP x q M none (nI 3) A) := by
  refine zbody zyX3_beginMove [some (.ref (x)), some (.int (nI (d))), some (.int (nI (h))), some (.int (s)), none] rfl (Nat.le_of_ble_eq_true rfl) (by intro v hv; simp only [List.mem_cons, List.not_mem_nil, or_false] at hv; rcases hv with rfl | rfl | rfl | rfl <;> rfl) (fun E K => ?_)
  obtain ⟨⟨D, hB⟩, hF, hU⟩ := id hW
  have hS : zSm x q M M := zSm.rf
  have h00 := hF.1 d hd hl
  refine zq_aload_n K dX3_beginMove_0 rfl rfl ?_
  refine zq_iload_n K dX3_beginMove_1 rfl rfl ?_
  refine zq_callS (As := [.int (nI (h))]) K dX3_beginMove_2 zyX3_isHash zm_X3_142 zsX3_isHash rfl (by decide) rfl rfl (Nat.le_of_ble_eq_true rfl) (Nat.le_of_ble_eq_true rfl) (ct_X3_isHash (nI h) _) (zdec_r (fun yh => ?_) (fun yh => ?_)) zdec_x (Nat.le_refl _)
  · refine zq_if_eqN K (x := 1) 17 dX3_beginMove_5 (by decide) (by omega) (fun h5 => by omega) (fun h5 => ?_)
    refine zq_iload_n K dX3_beginMove_8 rfl rfl ?_
    refine zq_iconst K dX3_beginMove_9 (v := nI 0) (by decide) ?_
    refine zq_iconst K dX3_beginMove_10 (v := nI 3) (by decide) ?_
    refine zq_callS (As := [.int (s), .int (nI (0)), .int (nI (3))]) K dX3_beginMove_11 zyX3_in zm_X3_58 zsX3_in rfl (by decide) rfl rfl (Nat.le_of_ble_eq_true rfl) (Nat.le_of_ble_eq_true rfl) (ct_X3_in s (nI 0) (nI 3) _) (zdec_r (fun ys => ?_) (fun ys => ?_)) zdec_x (Nat.le_refl _)
    · refine zq_if_neN K (x := 1) 21 dX3_beginMove_14 (by decide) (by omega) (fun h14 => ?_) (fun h14 => by omega)
      refine zq_aload_n K dX3_beginMove_21 rfl rfl ?_
      refine zq_iload_n K dX3_beginMove_22 rfl rfl ?_
      refine zq_callV (As := [.int (nI (d))]) K dX3_beginMove_23 zyX3_isDirectory zm_X3_99 ziX3_isDirectory zvX3_isDirectory zclX3 rfl (by decide) rfl rfl (Nat.le_of_ble_eq_true rfl) (Nat.le_of_ble_eq_true rfl) hR.1 (ct_X3_isDirectory hR hB (nI d)) (zdec_r (fun yd => ?_) (fun yd => ?_)) zdec_x (Nat.le_refl _)
      · refine zq_if_neN K (x := 1) 33 dX3_beginMove_26 (by decide) (by omega) (fun h26 => ?_) (fun h26 => by omega)
        refine zq_iconst K dX3_beginMove_33 (v := nI 0) (by decide) ?_
        refine zm_pth K dX3_beginMove_34 zf_X3_55 hR hS (fun M hR hS => ?_)
        refine zq_aload_n K dX3_beginMove_37 rfl rfl ?_
        refine zm_th K dX3_beginMove_38 zf_X3_55 hR ?_
        refine zq_if_leN K (x := 0) 45 dX3_beginMove_41 (by decide) (by omega) (fun h41 => ?_) (fun h41 => by omega)
        refine zq_aload_n K dX3_beginMove_45 rfl rfl ?_
        refine zq_iload_n K dX3_beginMove_46 rfl rfl ?_
        refine zq_iload_n K dX3_beginMove_47 rfl rfl ?_
        have hfg := zfg_le (A.2 10) d h
        refine zq_callV (As := [.int (nI (d)), .int (nI (h))]) K dX3_beginMove_48 zyX3_fragment zm_X3_66 ziX3_fragment zvX3_fragment zclX3 rfl (by decide) rfl rfl (Nat.le_of_ble_eq_true rfl) (Nat.le_of_ble_eq_true rfl) hR.1 (ct_X3_fragment hR hd (show h < 8 by omega) h00) (zone_r ?_) zone_x (Nat.le_refl _)
        refine zq_istore K dX3_beginMove_51 (by decide) ?_
        refine zq_aload_n K dX3_beginMove_53 rfl rfl ?_
        refine zq_aload_n K dX3_beginMove_54 rfl rfl ?_
        refine zm_sc K dX3_beginMove_55 zf_X3_48 (k := 16) (by decide) hR ?_
        refine zq_iconst K dX3_beginMove_58 (v := -1) (by decide) ?_
        refine zq_icmp_ne K 72 dX3_beginMove_59 (by decide) (fun h59 => absurd hm h59) (fun h59 => ?_)
        refine zq_aload_n K dX3_beginMove_62 rfl rfl ?_
        refine zq_iload K dX3_beginMove_63 rfl ?_
        refine zq_callV (As := [.int (nI (8 * d + zfg (A.2 10) d h))]) K dX3_beginMove_65 zyX3_server zm_X3_154 ziX3_server zvX3_server zclX3 rfl (by decide) rfl rfl (Nat.le_of_ble_eq_true rfl) (Nat.le_of_ble_eq_true rfl) hR.1 (ct_X3_server hR hF (by rw [show (8 * d + zfg (A.2 10) d h) / 8 = d by omega]; exact hU d hd hl) (by omega) (zfg_ne h00 _)) (zone_r ?_) zone_x (Nat.le_refl _)
        refine zq_iload_n K dX3_beginMove_68 rfl rfl ?_
        refine zq_icmp_ne K 76 dX3_beginMove_69 (by decide) (fun h69 => absurd he h69) (fun h69 => ?_)
        refine zq_iconst K dX3_beginMove_72 (v := nI 3) (by decide) ?_
        refine zq_goto K 77 dX3_beginMove_73 (by decide) ?_
        refine zm_pth K dX3_beginMove_77 zf_X3_55 hR hS (fun M hR hS => ?_)
        refine zq_aload_n K dX3_beginMove_80 rfl rfl ?_
        refine zm_th K dX3_beginMove_81 zf_X3_55 hR ?_
        refine zq_if_neN K (x := 3) 94 dX3_beginMove_84 (by decide) (by omega) (fun h84 => ?_) (fun h84 => by omega)
        exact zq_ret K dX3_beginMove_94 rfl ⟨rfl, hR, hS⟩
      · refine zq_if_neN K (x := 0) 33 dX3_beginMove_26 (by decide) (by omega) (fun h26 => by omega) (fun h26 => ?_)
        exact absurd ⟨d, hd, rfl, hl⟩ yd
    · refine zq_if_neN K (x := 0) 21 dX3_beginMove_14 (by decide) (by omega) (fun h14 => by omega) (fun h14 => ?_)
      exact absurd ((zOn_iff (by decide)).mpr hs) ys
  · refine zq_if_eqN K (x := 0) 17 dX3_beginMove_5 (by decide) (by omega) (fun h5 => ?_) (fun h5 => by omega)
    exact absurd ⟨h, hh, rfl⟩ yh
theorem ct_X3_beginMove_ok {G : ZG} {M : ZM} {x : Nat} {q : Nat → Nat} {w : Int32} {A : ZA} (hR : zR M x q w A) (hW : zWf A) {d h : Nat} {s : Int32} (hd : d < 12) (hl : A.2 3 d = 1) (hh : h ≤ 7) (hs : zOn s 3) (hm : A.1 16 = -1) (he : ¬ zsv A (8 * d + zfg (A.2 10) d h) = s) : zMet G mX3_beginMove [.ref (x), .int (nI (d)), .int (nI (h)), .int (s)] M (zRP x q M none (nI 0) (zMo A (nI (8 * d + zfg (A.2 10) d h)) s)) := by
  refine zbody zyX3_beginMove [some (.ref (x)), some (.int (nI (d))), some (.int (nI (h))), some (.int (s)), none] rfl (Nat.le_of_ble_eq_true rfl) (by intro v hv; simp only [List.mem_cons, List.not_mem_nil, or_false] at hv; rcases hv with rfl | rfl | rfl | rfl <;> rfl) (fun E K => ?_)
  obtain ⟨⟨D, hB⟩, hF, hU⟩ := id hW
  have hS : zSm x q M M := zSm.rf
  have h00 := hF.1 d hd hl
  refine zq_aload_n K dX3_beginMove_0 rfl rfl ?_
  refine zq_iload_n K dX3_beginMove_1 rfl rfl ?_
  refine zq_callS (As := [.int (nI (h))]) K dX3_beginMove_2 zyX3_isHash zm_X3_142 zsX3_isHash rfl (by decide) rfl rfl (Nat.le_of_ble_eq_true rfl) (Nat.le_of_ble_eq_true rfl) (ct_X3_isHash (nI h) _) (zdec_r (fun yh => ?_) (fun yh => ?_)) zdec_x (Nat.le_refl _)
  · refine zq_if_eqN K (x := 1) 17 dX3_beginMove_5 (by decide) (by omega) (fun h5 => by omega) (fun h5 => ?_)
    refine zq_iload_n K dX3_beginMove_8 rfl rfl ?_
    refine zq_iconst K dX3_beginMove_9 (v := nI 0) (by decide) ?_
    refine zq_iconst K dX3_beginMove_10 (v := nI 3) (by decide) ?_
    refine zq_callS (As := [.int (s), .int (nI (0)), .int (nI (3))]) K dX3_beginMove_11 zyX3_in zm_X3_58 zsX3_in rfl (by decide) rfl rfl (Nat.le_of_ble_eq_true rfl) (Nat.le_of_ble_eq_true rfl) (ct_X3_in s (nI 0) (nI 3) _) (zdec_r (fun ys => ?_) (fun ys => ?_)) zdec_x (Nat.le_refl _)
    · refine zq_if_neN K (x := 1) 21 dX3_beginMove_14 (by decide) (by omega) (fun h14 => ?_) (fun h14 => by omega)
      refine zq_aload_n K dX3_beginMove_21 rfl rfl ?_
      refine zq_iload_n K dX3_beginMove_22 rfl rfl ?_
      refine zq_callV (As := [.int (nI (d))]) K dX3_beginMove_23 zyX3_isDirectory zm_X3_99 ziX3_isDirectory zvX3_isDirectory zclX3 rfl (by decide) rfl rfl (Nat.le_of_ble_eq_true rfl) (Nat.le_of_ble_eq_true rfl) hR.1 (ct_X3_isDirectory hR hB (nI d)) (zdec_r (fun yd => ?_) (fun yd => ?_)) zdec_x (Nat.le_refl _)
      · refine zq_if_neN K (x := 1) 33 dX3_beginMove_26 (by decide) (by omega) (fun h26 => ?_) (fun h26 => by omega)
        refine zq_iconst K dX3_beginMove_33 (v := nI 0) (by decide) ?_
        refine zm_pth K dX3_beginMove_34 zf_X3_55 hR hS (fun M hR hS => ?_)
        refine zq_aload_n K dX3_beginMove_37 rfl rfl ?_
        refine zm_th K dX3_beginMove_38 zf_X3_55 hR ?_
        refine zq_if_leN K (x := 0) 45 dX3_beginMove_41 (by decide) (by omega) (fun h41 => ?_) (fun h41 => by omega)
        refine zq_aload_n K dX3_beginMove_45 rfl rfl ?_
        refine zq_iload_n K dX3_beginMove_46 rfl rfl ?_
        refine zq_iload_n K dX3_beginMove_47 rfl rfl ?_
        have hfg := zfg_le (A.2 10) d h
        refine zq_callV (As := [.int (nI (d)), .int (nI (h))]) K dX3_beginMove_48 zyX3_fragment zm_X3_66 ziX3_fragment zvX3_fragment zclX3 rfl (by decide) rfl rfl (Nat.le_of_ble_eq_true rfl) (Nat.le_of_ble_eq_true rfl) hR.1 (ct_X3_fragment hR hd (show h < 8 by omega) h00) (zone_r ?_) zone_x (Nat.le_refl _)
        refine zq_istore K dX3_beginMove_51 (by decide) ?_
        refine zq_aload_n K dX3_beginMove_53 rfl rfl ?_
        refine zq_aload_n K dX3_beginMove_54 rfl rfl ?_
        refine zm_sc K dX3_beginMove_55 zf_X3_48 (k := 16) (by decide) hR ?_
        refine zq_iconst K dX3_beginMove_58 (v := -1) (by decide) ?_
        refine zq_icmp_ne K 72 dX3_beginMove_59 (by decide) (fun h59 => absurd hm h59) (fun h59 => ?_)
        refine zq_aload_n K dX3_beginMove_62 rfl rfl ?_
        refine zq_iload K dX3_beginMove_63 rfl ?_
        refine zq_callV (As := [.int (nI (8 * d + zfg (A.2 10) d h))]) K dX3_beginMove_65 zyX3_server zm_X3_154 ziX3_server zvX3_server zclX3 rfl (by decide) rfl rfl (Nat.le_of_ble_eq_true rfl) (Nat.le_of_ble_eq_true rfl) hR.1 (ct_X3_server hR hF (by rw [show (8 * d + zfg (A.2 10) d h) / 8 = d by omega]; exact hU d hd hl) (by omega) (zfg_ne h00 _)) (zone_r ?_) zone_x (Nat.le_refl _)
        refine zq_iload_n K dX3_beginMove_68 rfl rfl ?_
        refine zq_icmp_ne K 76 dX3_beginMove_69 (by decide) (fun h69 => ?_) (fun h69 => absurd h69 he)
        refine zq_iconst K dX3_beginMove_76 (v := nI 0) (by decide) ?_
        refine zm_pth K dX3_beginMove_77 zf_X3_55 hR hS (fun M hR hS => ?_)
        refine zq_aload_n K dX3_beginMove_80 rfl rfl ?_
        refine zm_th K dX3_beginMove_81 zf_X3_55 hR ?_
        refine zq_if_neN K (x := 0) 94 dX3_beginMove_84 (by decide) (by omega) (fun h84 => by omega) (fun h84 => ?_)
        refine zq_aload_n K dX3_beginMove_87 rfl rfl ?_
        refine zq_iload K dX3_beginMove_88 rfl ?_
        refine zq_iload_n K dX3_beginMove_90 rfl rfl ?_
        refine zq_callV (As := [.int (nI (8 * d + zfg (A.2 10) d h)), .int (s)]) K dX3_beginMove_91 zyX3_moves zm_X3_166 ziX3_moves zvX3_moves zclX3 rfl (by decide) rfl rfl (Nat.le_of_ble_eq_true rfl) (Nat.le_of_ble_eq_true rfl) hR.1 (ct_X3_moves hR (nI (8 * d + zfg (A.2 10) d h)) s) (zRP_r hS (fun M hR hS => ?_)) zRP_x (Nat.le_refl _)
        exact zq_ret K dX3_beginMove_94 rfl ⟨rfl, hR, hS⟩
      · refine zq_if_neN K (x := 0) 33 dX3_beginMove_26 (by decide) (by omega) (fun h26 => by omega) (fun h26 => ?_)
        exact absurd ⟨d, hd, rfl, hl⟩ yd
    · refine zq_if_neN K (x := 0) 21 dX3_beginMove_14 (by decide) (by omega) (fun h14 => by omega) (fun h14 => ?_)
      exact absurd ((zOn_iff (by decide)).mpr hs) ys
  · refine zq_if_eqN K (x := 0) 17 dX3_beginMove_5 (by decide) (by omega) (fun h5 => ?_) (fun h5 => by omega)
    exact absurd ⟨h, hh, rfl⟩ yh
/-- alike but for leases -/
def zSme (A B : ZA) : Prop := B.1 = A.1 ∧ ∀ i, i ≠ 13 → i ≠ 14 → B.2 i = A.2 i
theorem zSme.rf {A : ZA} : zSme A A := ⟨rfl, fun _ _ _ => rfl⟩
theorem zSme.tr {A B C : ZA} (h : zSme A B) (g : zSme B C) : zSme A C := ⟨g.1.trans h.1, fun i h1 h2 => (g.2 i h1 h2).trans (h.2 i h1 h2)⟩
theorem zSme.en (A : ZA) (a : Nat) (ex : Int32) (k : Nat) : zSme A (zEn A a ex k) := ⟨zEn_1 A a ex k, fun _ h1 h2 => zEn_2 A a ex h1 h2 k⟩
theorem zSme.fn {A B : ZA} (h : zSme A B) (d n : Nat) : zfn B d n = zfn A d n := by unfold zfn; rw [h.2 10 (by decide) (by decide)]
theorem zSme.par {A B : ZA} (h : zSme A B) (d : Nat) : zpar B d = zpar A d := by unfold zpar; rw [h.2 4 (by decide) (by decide)]
theorem zSme.nam {A B : ZA} (h : zSme A B) (d : Nat) : znam B d = znam A d := by unfold znam; rw [h.2 5 (by decide) (by decide)]
theorem zSme.inh {A B : ZA} (h : zSme A B) (f : Nat) : zinh B f = zinh A f := by unfold zinh; rw [h.fn, h.par, h.nam]
theorem zSme.fz {A B : ZA} (h : zSme A B) : ∀ (k f : Nat), zfzN B k f = zfzN A k f
  | 0, _ => rfl
  | k + 1, f => by
    rw [zfzN, zfzN, h.1, h.2 11 (by decide) (by decide), h.inh, h.fz k]
theorem zSme.up {A B : ZA} (h : zSme A B) (d : Nat) : zUp B d ↔ zUp A d := by
  unfold zUp
  rw [h.par, h.nam, h.2 3 (by decide) (by decide), h.2 4 (by decide) (by decide), h.2 5 (by decide) (by decide)]
theorem zSme.dp {A B : ZA} (h : zSme A B) : ∀ (k d : Nat), zDp B k d ↔ zDp A k d
  | 0, _ => Iff.rfl
  | k + 1, d => by
    rw [zDp, zDp, h.up, h.par, h.dp k]
theorem zSme.fr {A B : ZA} (h : zSme A B) (g : zFr A) : zFr B := by
  unfold zFr
  rw [h.2 3 (by decide) (by decide), h.2 10 (by decide) (by decide), h.2 11 (by decide) (by decide)]
  exact g
theorem zSme.wf {A B : ZA} (h : zSme A B) (g : zWf A) : zWf B := by
  refine ⟨?_, h.fr g.2.1, fun d h1 h2 => ?_⟩
  · obtain ⟨D, g1⟩ := g.1
    refine ⟨D, ?_⟩
    unfold zBas
    rw [h.1, h.2 3 (by decide) (by decide)]
    exact g1
  · rw [h.2 3 (by decide) (by decide)] at h2
    exact (h.dp 11 d).mpr (g.2.2 d h1 h2)
/-- all leases on frozen names are recalled: the first k places -/
def zRc (A : ZA) : Nat → ZA
  | 0 => A
  | k + 1 => if A.2 3 (k / 50) = 1 ∧ zfz A (zfn A (k / 50) (k % 50)) = true then zEn (zRc A k) k (-1) 4 else zRc A k
theorem zRc_sme (A : ZA) : ∀ k, zSme A (zRc A k)
  | 0 => zSme.rf
  | k + 1 => by
    unfold zRc
    split
    · exact (zRc_sme A k).tr (zSme.en _ _ _ _)
    · exact zRc_sme A k
theorem lp_X3_stepMove {G : ZG} {E : ZE} (K : zOK mX3_stepMove [] G E) {M0 : ZM} {x : Nat} {q : Nat → Nat} {w : Int32} {A : ZA} (hW : zWf A) {D : Nat} (hD : A.1 2 = nI D) (hD12 : D ≤ 12) {Q : State → Prop} (kk : ∀ M L, zR M x q w (zRc A (50 * D)) → zSm x q M0 M → L[0]? = some (some (.ref x)) → WW E G (zyu mX3_stepMove) Q M 0 96 L []) : ∀ (n9 k : Nat), k + n9 = 50 * D → ∀ (M : ZM), zR M x q w (zRc A k) → zSm x q M0 M → WW E G (zyu mX3_stepMove) Q M 0 46 [some (.ref x), some (.int (nI k))] [] := by
  intro n9
  induction n9 with
  | zero =>
    intro k hk M hR hS
    have hk4 : k = 50 * D := by omega
    subst hk4
    refine zq_iload_n K dX3_stepMove_46 rfl rfl ?_
    refine zq_bipush K dX3_stepMove_47 (v := nI 50) (by decide) ?_
    refine zq_aload_n K dX3_stepMove_49 rfl rfl ?_
    refine zm_sc K dX3_stepMove_50 zf_X3_7 (k := 2) (by decide) hR ?_
    refine zq_top (v := nI (D)) (by rw [(zRc_sme A (50 * D)).1]; exact hD) ?_
    refine zq_imulN K (x := 50) (y := D) dX3_stepMove_53 ?_
    refine zq_icmp_geN K (x := 50 * D) (y := (50) * (D)) 96 dX3_stepMove_54 (by decide) ⟨by omega, by omega⟩ (fun h54 => ?_) (fun h54 => by omega)
    exact kk M _ hR hS rfl
  | succ n9 ih =>
    intro k hk M hR hS
    have hW' := (zRc_sme A k).wf hW
    obtain ⟨⟨D', hB1, hB2, hB3, hB4⟩, hF, hU⟩ := id hW'
    refine zq_iload_n K dX3_stepMove_46 rfl rfl ?_
    refine zq_bipush K dX3_stepMove_47 (v := nI 50) (by decide) ?_
    refine zq_aload_n K dX3_stepMove_49 rfl rfl ?_
    refine zm_sc K dX3_stepMove_50 zf_X3_7 (k := 2) (by decide) hR ?_
    refine zq_top (v := nI (D)) (by rw [(zRc_sme A k).1]; exact hD) ?_
    refine zq_imulN K (x := 50) (y := D) dX3_stepMove_53 ?_
    refine zq_icmp_geN K (x := k) (y := (50) * (D)) 96 dX3_stepMove_54 (by decide) ⟨by omega, by omega⟩ (fun h54 => by omega) (fun h54 => ?_)
    refine zq_aload_n K dX3_stepMove_57 rfl rfl ?_
    refine zm_ar K dX3_stepMove_58 zf_X3_13 (k := 3) (by decide) hR ?_
    refine zq_iload_n K dX3_stepMove_61 rfl rfl ?_
    refine zq_bipush K dX3_stepMove_62 (v := nI 50) (by decide) ?_
    refine zq_idivN K (x := k) (y := 50) dX3_stepMove_64 (by omega) ?_
    refine zm_lz K ((k) / (50)) dX3_stepMove_65 hR rfl (show (k) / (50) < 12 by omega) ?_
    refine zq_if_eq K 90 dX3_stepMove_66 (by decide) (fun h66 => ?_) (fun h66 => ?_)
    · refine zq_iincN K dX3_stepMove_90 rfl (by decide) ?_
      refine zq_goto K 46 dX3_stepMove_93 (by decide) ?_
      exact ih (k + 1) (by omega) M (by rw [zRc, if_neg (fun z => by rw [((zRc_sme A k).2 3 (by decide) (by decide))] at h66; rw [z.1] at h66; exact absurd h66 one_ne0)]; exact hR) hS
    · refine zq_aload_n K dX3_stepMove_69 rfl rfl ?_
      refine zq_iload_n K dX3_stepMove_70 rfl rfl ?_
      refine zq_bipush K dX3_stepMove_71 (v := nI 50) (by decide) ?_
      refine zq_idivN K (x := k) (y := 50) dX3_stepMove_73 (by omega) ?_
      refine zq_iload_n K dX3_stepMove_74 rfl rfl ?_
      refine zq_bipush K dX3_stepMove_75 (v := nI 50) (by decide) ?_
      refine zq_iremN K (x := k) (y := 50) dX3_stepMove_77 (by omega) ?_
      refine zq_callV (As := [.int (nI ((k) / (50))), .int (nI ((k) % (50)))]) K dX3_stepMove_78 zyX3_isFrozenName zm_X3_106 ziX3_isFrozenName zvX3_isFrozenName zclX3 rfl (by decide) rfl rfl (Nat.le_of_ble_eq_true rfl) (Nat.le_of_ble_eq_true rfl) hR.1 (ct_X3_isFrozenName hR hF (hU (k / 50) (by omega) ((hB4 (k / 50) (by omega)).resolve_right h66).1) (by omega) ((hB4 (k / 50) (by omega)).resolve_right h66).1 (by omega)) (zdec_r (fun hz => ?_) (fun hz => ?_)) zdec_x (Nat.le_refl _)
      · refine zq_if_eqN K (x := 1) 90 dX3_stepMove_81 (by decide) (by omega) (fun h81 => by omega) (fun h81 => ?_)
        refine zq_aload_n K dX3_stepMove_84 rfl rfl ?_
        refine zq_iload_n K dX3_stepMove_85 rfl rfl ?_
        refine zq_iconst K dX3_stepMove_86 (v := -1) (by decide) ?_
        refine zq_callV (As := [.int (nI (k)), .int (-1)]) K dX3_stepMove_87 zyX3_ends zm_X3_90 ziX3_ends zvX3_ends zclX3 rfl (by decide) rfl rfl (Nat.le_of_ble_eq_true rfl) (Nat.le_of_ble_eq_true rfl) hR.1 (ct_X3_ends hR (a := k) (by omega) (-1)) (zRP_r hS (fun M hR hS => ?_)) zRP_x (Nat.le_refl _)
        refine zq_iincN K dX3_stepMove_90 rfl (by decide) ?_
        refine zq_goto K 46 dX3_stepMove_93 (by decide) ?_
        exact ih (k + 1) (by omega) M (by rw [zRc, if_pos ⟨by rw [← ((zRc_sme A k).2 3 (by decide) (by decide))]; exact ((hB4 (k / 50) (by omega)).resolve_right h66).1, by have hz9 := hz; rw [zfz, (zRc_sme A k).fz, (zRc_sme A k).fn] at hz9; exact hz9⟩]; exact hR) hS
      · refine zq_if_eqN K (x := 0) 90 dX3_stepMove_81 (by decide) (by omega) (fun h81 => ?_) (fun h81 => by omega)
        refine zq_iincN K dX3_stepMove_90 rfl (by decide) ?_
        refine zq_goto K 46 dX3_stepMove_93 (by decide) ?_
        exact ih (k + 1) (by omega) M (by rw [zRc, if_neg (fun z => by have hz9 := hz; rw [zfz, (zRc_sme A k).fz, (zRc_sme A k).fn] at hz9; exact hz9 z.2)]; exact hR) hS

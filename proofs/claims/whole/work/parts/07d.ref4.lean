/-! the reference: links, remove, rename -/
/-- how many of the first k -/
def zcN (p : Nat → Bool) : Nat → Nat
  | 0 => 0
  | k + 1 => zcN p k + (if p k = true then 1 else 0)
theorem zcN_t {p : Nat → Bool} {k : Nat} (h : p k = true) : zcN p (k + 1) = zcN p k + 1 := by rw [zcN, if_pos h]
theorem zcN_f {p : Nat → Bool} {k : Nat} (h : ¬ p k = true) : zcN p (k + 1) = zcN p k + 0 := by rw [zcN, if_neg h]
theorem zcN_le (p : Nat → Bool) : ∀ k, zcN p k ≤ k
  | 0 => Nat.le_refl _
  | k + 1 => by
    have := zcN_le p k
    unfold zcN
    split <;> omega
def zpl (A : ZA) (f : Int32) : Nat → Bool := fun k => decide (A.2 6 k = f)
def zpu (A : ZA) (d : Nat) : Nat → Bool := fun k => !decide (A.2 6 (50 * d + k) = -1)
theorem lp_X3_countLinks {G : ZG} {E : ZE} (K : zOK mX3_countLinks [] G E) {M : ZM} {x : Nat} {q : Nat → Nat} {w : Int32} {A : ZA} (hR : zR M x q w A) {f : Int32} {P : ZO → ZM → Prop} (hP : P (.inl (some (.int (nI (zcN (zpl A f) 600))))) M) : ∀ (n k : Nat), k + n = 600 → WW E G (zyu mX3_countLinks) (zQ E G mX3_countLinks P) M 0 4 [some (.ref (x)), some (.int (f)), some (.int (nI (zcN (zpl A f) k))), some (.int (nI k))] [] := by
  intro n
  induction n with
  | zero =>
    intro k hk
    have hk4 : k = 600 := by omega
    subst hk4
    refine zq_iload_n K dX3_countLinks_4 rfl rfl ?_
    refine zq_sipush K dX3_countLinks_5 (v := nI 600) (by decide) ?_
    refine zq_icmp_geN K (x := 600) (y := 600) 35 dX3_countLinks_8 (by decide) ⟨by omega, by omega⟩ (fun h8 => ?_) (fun h8 => by omega)
    refine zq_iload_n K dX3_countLinks_35 rfl rfl ?_
    exact zq_iret K dX3_countLinks_36 rfl hP
  | succ n ih =>
    intro k hk
    have hz := zcN_le (zpl A f) k
    refine zq_iload_n K dX3_countLinks_4 rfl rfl ?_
    refine zq_sipush K dX3_countLinks_5 (v := nI 600) (by decide) ?_
    refine zq_icmp_geN K (x := k) (y := 600) 35 dX3_countLinks_8 (by decide) ⟨by omega, by omega⟩ (fun h8 => by omega) (fun h8 => ?_)
    refine zq_iload_n K dX3_countLinks_11 rfl rfl ?_
    refine zq_aload_n K dX3_countLinks_12 rfl rfl ?_
    refine zm_ar K dX3_countLinks_13 zf_X3_24 (k := 6) (by decide) hR ?_
    refine zq_iload_n K dX3_countLinks_16 rfl rfl ?_
    refine zm_ld K (k) dX3_countLinks_17 (k := 6) (by decide) hR rfl (show k < 600 by omega) ?_
    refine zq_iload_n K dX3_countLinks_18 rfl rfl ?_
    refine zq_icmp_ne K 26 dX3_countLinks_19 (by decide) (fun h19 => ?_) (fun h19 => ?_)
    · refine zq_iconst K dX3_countLinks_26 (v := nI 0) (by decide) ?_
      refine zq_iaddN K (x := zcN (zpl A f) k) (y := 0) dX3_countLinks_27 ?_
      refine zq_istore_n K dX3_countLinks_28 rfl (by decide) ?_
      refine zq_iincN K dX3_countLinks_29 rfl (by decide) ?_
      refine zq_goto K 4 dX3_countLinks_32 (by decide) ?_
      rw [show zcN (zpl A f) k + 0 = zcN (zpl A f) (k + 1) from (zcN_f (fun z => h19 (of_decide_eq_true z))).symm]
      exact ih (k + 1) (by omega)
    · refine zq_iconst K dX3_countLinks_22 (v := nI 1) (by decide) ?_
      refine zq_goto K 27 dX3_countLinks_23 (by decide) ?_
      refine zq_iaddN K (x := zcN (zpl A f) k) (y := 1) dX3_countLinks_27 ?_
      refine zq_istore_n K dX3_countLinks_28 rfl (by decide) ?_
      refine zq_iincN K dX3_countLinks_29 rfl (by decide) ?_
      refine zq_goto K 4 dX3_countLinks_32 (by decide) ?_
      rw [show zcN (zpl A f) k + 1 = zcN (zpl A f) (k + 1) from (zcN_t (decide_eq_true h19)).symm]
      exact ih (k + 1) (by omega)
theorem ct_X3_countLinks {G : ZG} {M : ZM} {x : Nat} {q : Nat → Nat} {w : Int32} {A : ZA} (hR : zR M x q w A) (f : Int32) : zMet G mX3_countLinks [.ref (x), .int (f)] M (zone (some (.int (nI (zcN (zpl A f) 600)))) M) := by
  refine zbody zyX3_countLinks [some (.ref (x)), some (.int (f)), none, none] rfl (Nat.le_of_ble_eq_true rfl) (by intro v hv; simp only [List.mem_cons, List.not_mem_nil, or_false] at hv; rcases hv with rfl | rfl <;> rfl) (fun E K => ?_)
  refine zq_iconst K dX3_countLinks_0 (v := nI 0) (by decide) ?_
  refine zq_istore_n K dX3_countLinks_1 rfl (by decide) ?_
  refine zq_iconst K dX3_countLinks_2 (v := nI 0) (by decide) ?_
  refine zq_istore_n K dX3_countLinks_3 rfl (by decide) ?_
  exact lp_X3_countLinks K hR ⟨rfl, rfl⟩ 600 0 rfl
theorem lp_X3_used {G : ZG} {E : ZE} (K : zOK mX3_used [] G E) {M : ZM} {x : Nat} {q : Nat → Nat} {w : Int32} {A : ZA} (hR : zR M x q w A) {d : Nat} (hd : d < 12) {P : ZO → ZM → Prop} (hP : P (.inl (some (.int (nI (zcN (zpu A d) 50))))) M) : ∀ (n k : Nat), k + n = 50 → WW E G (zyu mX3_used) (zQ E G mX3_used P) M 0 4 [some (.ref (x)), some (.int (nI (d))), some (.int (nI (zcN (zpu A d) k))), some (.int (nI k))] [] := by
  intro n
  induction n with
  | zero =>
    intro k hk
    have hk4 : k = 50 := by omega
    subst hk4
    refine zq_iload_n K dX3_used_4 rfl rfl ?_
    refine zq_bipush K dX3_used_5 (v := nI 50) (by decide) ?_
    refine zq_icmp_geN K (x := 50) (y := 50) 38 dX3_used_7 (by decide) ⟨by omega, by omega⟩ (fun h7 => ?_) (fun h7 => by omega)
    refine zq_iload_n K dX3_used_38 rfl rfl ?_
    exact zq_iret K dX3_used_39 rfl hP
  | succ n ih =>
    intro k hk
    have hz := zcN_le (zpu A d) k
    refine zq_iload_n K dX3_used_4 rfl rfl ?_
    refine zq_bipush K dX3_used_5 (v := nI 50) (by decide) ?_
    refine zq_icmp_geN K (x := k) (y := 50) 38 dX3_used_7 (by decide) ⟨by omega, by omega⟩ (fun h7 => by omega) (fun h7 => ?_)
    refine zq_iload_n K dX3_used_10 rfl rfl ?_
    refine zq_aload_n K dX3_used_11 rfl rfl ?_
    refine zm_ar K dX3_used_12 zf_X3_24 (k := 6) (by decide) hR ?_
    refine zq_iload_n K dX3_used_15 rfl rfl ?_
    refine zq_iload_n K dX3_used_16 rfl rfl ?_
    refine zq_callS (As := [.int (nI (d)), .int (nI (k))]) K dX3_used_17 zyX3_at zm_X3_87 zsX3_at rfl (by decide) rfl rfl (Nat.le_of_ble_eq_true rfl) (Nat.le_of_ble_eq_true rfl) (ct_X3_at d k _) (zone_r ?_) zone_x (Nat.le_refl _)
    refine zm_ld K (50 * d + k) dX3_used_20 (k := 6) (by decide) hR rfl (show 50 * d + k < 600 by omega) ?_
    refine zq_iconst K dX3_used_21 (v := -1) (by decide) ?_
    refine zq_icmp_ne K 29 dX3_used_22 (by decide) (fun h22 => ?_) (fun h22 => ?_)
    · refine zq_iconst K dX3_used_29 (v := nI 1) (by decide) ?_
      refine zq_iaddN K (x := zcN (zpu A d) k) (y := 1) dX3_used_30 ?_
      refine zq_istore_n K dX3_used_31 rfl (by decide) ?_
      refine zq_iincN K dX3_used_32 rfl (by decide) ?_
      refine zq_goto K 4 dX3_used_35 (by decide) ?_
      rw [show zcN (zpu A d) k + 1 = zcN (zpu A d) (k + 1) from (zcN_t (by unfold zpu; rw [decide_eq_false h22]; rfl)).symm]
      exact ih (k + 1) (by omega)
    · refine zq_iconst K dX3_used_25 (v := nI 0) (by decide) ?_
      refine zq_goto K 30 dX3_used_26 (by decide) ?_
      refine zq_iaddN K (x := zcN (zpu A d) k) (y := 0) dX3_used_30 ?_
      refine zq_istore_n K dX3_used_31 rfl (by decide) ?_
      refine zq_iincN K dX3_used_32 rfl (by decide) ?_
      refine zq_goto K 4 dX3_used_35 (by decide) ?_
      rw [show zcN (zpu A d) k + 0 = zcN (zpu A d) (k + 1) from (zcN_f (by unfold zpu; rw [decide_eq_true h22]; exact Bool.false_ne_true)).symm]
      exact ih (k + 1) (by omega)
theorem ct_X3_used {G : ZG} {M : ZM} {x : Nat} {q : Nat → Nat} {w : Int32} {A : ZA} (hR : zR M x q w A) {d : Nat} (hd : d < 12) : zMet G mX3_used [.ref (x), .int (nI (d))] M (zone (some (.int (nI (zcN (zpu A d) 50)))) M) := by
  refine zbody zyX3_used [some (.ref (x)), some (.int (nI (d))), none, none] rfl (Nat.le_of_ble_eq_true rfl) (by intro v hv; simp only [List.mem_cons, List.not_mem_nil, or_false] at hv; rcases hv with rfl | rfl <;> rfl) (fun E K => ?_)
  refine zq_iconst K dX3_used_0 (v := nI 0) (by decide) ?_
  refine zq_istore_n K dX3_used_1 rfl (by decide) ?_
  refine zq_iconst K dX3_used_2 (v := nI 0) (by decide) ?_
  refine zq_istore_n K dX3_used_3 rfl (by decide) ?_
  exact lp_X3_used K hR hd ⟨rfl, rfl⟩ 50 0 rfl
/-- a file's number, of F -/
def zFn (F : Nat) (f : Int32) : Prop := ∃ j, j < F ∧ f = nI j
theorem zFn_iff {F : Nat} (hF : F ≤ 30) {f : Int32} : (nI 0 ≤ f ∧ f ≤ nI F - nI 1) ↔ zFn F f := by
  match F, hF with
  | 0, _ =>
    constructor
    · rintro ⟨h1, h2⟩
      have h3 : nI 0 ≤ nI 0 - nI 1 := Int32.le_trans h1 h2
      exact absurd h3 (by decide)
    · rintro ⟨j, hj, -⟩
      exact absurd hj (Nat.not_lt_zero j)
  | F + 1, hF =>
    rw [pk_sub (by omega), Nat.add_sub_cancel, zOn_iff (by omega)]
    constructor
    · rintro ⟨j, hj, e⟩
      exact ⟨j, by omega, e⟩
    · rintro ⟨j, hj, e⟩
      exact ⟨j, by omega, e⟩
theorem ct_X3_isFile {G : ZG} {M : ZM} {x : Nat} {q : Nat → Nat} {w : Int32} {A : ZA} (hR : zR M x q w A) {F : Nat} (hf : A.1 9 = nI F) (hF : F ≤ 30) (f : Int32) : zMet G mX3_isFile [.ref (x), .int (f)] M (zdec (zFn F f ∧ 0 < zcN (zpl A f) 600) M) := by
  refine zbody zyX3_isFile [some (.ref (x)), some (.int (f))] rfl (Nat.le_of_ble_eq_true rfl) (by intro v hv; simp only [List.mem_cons, List.not_mem_nil, or_false] at hv; rcases hv with rfl | rfl <;> rfl) (fun E K => ?_)
  refine zq_iload_n K dX3_isFile_0 rfl rfl ?_
  refine zq_iconst K dX3_isFile_1 (v := nI 0) (by decide) ?_
  refine zq_aload_n K dX3_isFile_2 rfl rfl ?_
  refine zm_sc K dX3_isFile_3 zf_X3_119 (k := 9) (by decide) hR ?_
  refine zq_top (v := nI (F)) hf ?_
  refine zq_iconst K dX3_isFile_6 (v := nI 1) (by decide) ?_
  refine zq_isub K dX3_isFile_7 ?_
  refine zq_callS (As := [.int (f), .int (nI (0)), .int (nI F - nI 1)]) K dX3_isFile_8 zyX3_in zm_X3_58 zsX3_in rfl (by decide) rfl rfl (Nat.le_of_ble_eq_true rfl) (Nat.le_of_ble_eq_true rfl) (ct_X3_in f (nI 0) (nI F - nI 1) M) (zdec_r (fun h => ?_) (fun h => ?_)) zdec_x (Nat.le_refl _)
  · refine zq_if_eqN K (x := 1) 26 dX3_isFile_11 (by decide) (by omega) (fun h11 => by omega) (fun h11 => ?_)
    refine zq_aload_n K dX3_isFile_14 rfl rfl ?_
    refine zq_iload_n K dX3_isFile_15 rfl rfl ?_
    have hz := zcN_le (zpl A f) 600
    refine zq_callV (As := [.int (f)]) K dX3_isFile_16 zyX3_countLinks zm_X3_124 ziX3_countLinks zvX3_countLinks zclX3 rfl (by decide) rfl rfl (Nat.le_of_ble_eq_true rfl) (Nat.le_of_ble_eq_true rfl) hR.1 (ct_X3_countLinks hR f) (zone_r ?_) zone_x (Nat.le_refl _)
    refine zq_if_leN K (x := zcN (zpl A f) 600) 26 dX3_isFile_19 (by decide) (by omega) (fun h19 => ?_) (fun h19 => ?_)
    · refine zq_iconst K dX3_isFile_26 (v := nI 0) (by decide) ?_
      exact zq_zret K dX3_isFile_27 rfl (by decide) (zdec_0 (fun z => by omega))
    · refine zq_iconst K dX3_isFile_22 (v := nI 1) (by decide) ?_
      refine zq_goto K 27 dX3_isFile_23 (by decide) ?_
      exact zq_zret K dX3_isFile_27 rfl (by decide) (zdec_1 ⟨(zFn_iff hF).mp h, h19⟩)
  · refine zq_if_eqN K (x := 0) 26 dX3_isFile_11 (by decide) (by omega) (fun h11 => ?_) (fun h11 => by omega)
    refine zq_iconst K dX3_isFile_26 (v := nI 0) (by decide) ?_
    exact zq_zret K dX3_isFile_27 rfl (by decide) (zdec_0 (fun z => h ((zFn_iff hF).mpr z.1)))
theorem ct_X3_isHeld {G : ZG} {M : ZM} {x : Nat} {q : Nat → Nat} {w : Int32} {A : ZA} (hR : zR M x q w A) {d : Nat} (hd : d < 12) (hm : A.1 16 = -1 ∨ ∃ m, m < 96 ∧ A.1 16 = nI m) : zMet G mX3_isHeld [.ref (x), .int (nI (d))] M (zdec (0 < zcN (zpu A d) 50 ∨ (¬ A.1 16 = -1 ∧ A.1 16 = nI (A.1 16).toNatClampNeg ∧ (A.1 16).toNatClampNeg / 8 = d)) M) := by
  refine zbody zyX3_isHeld [some (.ref (x)), some (.int (nI (d)))] rfl (Nat.le_of_ble_eq_true rfl) (by intro v hv; simp only [List.mem_cons, List.not_mem_nil, or_false] at hv; rcases hv with rfl | rfl <;> rfl) (fun E K => ?_)
  refine zq_aload_n K dX3_isHeld_0 rfl rfl ?_
  refine zq_iload_n K dX3_isHeld_1 rfl rfl ?_
  have hz := zcN_le (zpu A d) 50
  refine zq_callV (As := [.int (nI (d))]) K dX3_isHeld_2 zyX3_used zm_X3_130 ziX3_used zvX3_used zclX3 rfl (by decide) rfl rfl (Nat.le_of_ble_eq_true rfl) (Nat.le_of_ble_eq_true rfl) hR.1 (ct_X3_used hR hd) (zone_r ?_) zone_x (Nat.le_refl _)
  refine zq_if_gtN K (x := zcN (zpu A d) 50) 27 dX3_isHeld_5 (by decide) (by omega) (fun h5 => ?_) (fun h5 => ?_)
  · refine zq_iconst K dX3_isHeld_27 (v := nI 1) (by decide) ?_
    refine zq_goto K 32 dX3_isHeld_28 (by decide) ?_
    exact zq_zret K dX3_isHeld_32 rfl (by decide) (zdec_1 (Or.inl h5))
  · refine zq_aload_n K dX3_isHeld_8 rfl rfl ?_
    refine zm_sc K dX3_isHeld_9 zf_X3_48 (k := 16) (by decide) hR ?_
    refine zq_iconst K dX3_isHeld_12 (v := -1) (by decide) ?_
    refine zq_icmp_eq K 31 dX3_isHeld_13 (by decide) (fun h13 => ?_) (fun h13 => ?_)
    · refine zq_iconst K dX3_isHeld_31 (v := nI 0) (by decide) ?_
      exact zq_zret K dX3_isHeld_32 rfl (by decide) (zdec_0 (fun z => z.elim (fun y => by omega) (fun y => y.1 h13)))
    · obtain ⟨m, hm96, hm⟩ := hm.resolve_left h13
      have hc : (A.1 16).toNatClampNeg = m := by rw [hm]; exact nI_clamp (by omega)
      refine zq_aload_n K dX3_isHeld_16 rfl rfl ?_
      refine zm_sc K dX3_isHeld_17 zf_X3_48 (k := 16) (by decide) hR ?_
      refine zq_top (v := nI (m)) hm ?_
      refine zq_bipush K dX3_isHeld_20 (v := nI 8) (by decide) ?_
      refine zq_idivN K (x := m) (y := 8) dX3_isHeld_22 (by omega) ?_
      refine zq_iload_n K dX3_isHeld_23 rfl rfl ?_
      refine zq_icmp_neN K (x := (m) / (8)) (y := d) 31 dX3_isHeld_24 (by decide) ⟨by omega, by omega⟩ (fun h24 => ?_) (fun h24 => ?_)
      · refine zq_iconst K dX3_isHeld_31 (v := nI 0) (by decide) ?_
        exact zq_zret K dX3_isHeld_32 rfl (by decide) (zdec_0 (fun z => z.elim (fun y => by omega) (fun y => h24 (by rw [← hc]; exact y.2.2))))
      · refine zq_iconst K dX3_isHeld_27 (v := nI 1) (by decide) ?_
        refine zq_goto K 32 dX3_isHeld_28 (by decide) ?_
        exact zq_zret K dX3_isHeld_32 rfl (by decide) (zdec_1 (Or.inr ⟨h13, by rw [hc]; exact hm, by rw [hc]; exact h24⟩))
theorem ct_X3_link_bad1 {G : ZG} {M : ZM} {x : Nat} {q : Nat → Nat} {w : Int32} {A : ZA} (hR : zR M x q w A) (hW : zWf A) {c d n : Int32} (f : Int32) (h : zBad A c d n 1) : zMet G mX3_link [.ref (x), .int (c), .int (d), .int (n), .int (f)] M (zRP x q M (some (.int (nI 0))) (nI 1) A) := by
  refine zbody zyX3_link [some (.ref (x)), some (.int (c)), some (.int (d)), some (.int (n)), some (.int (f)), none] rfl (Nat.le_of_ble_eq_true rfl) (by intro v hv; simp only [List.mem_cons, List.not_mem_nil, or_false] at hv; rcases hv with rfl | rfl | rfl | rfl | rfl <;> rfl) (fun E K => ?_)
  have hS : zSm x q M M := zSm.rf
  refine zq_aload_n K dX3_link_0 rfl rfl ?_
  refine zq_iload_n K dX3_link_1 rfl rfl ?_
  refine zq_iload_n K dX3_link_2 rfl rfl ?_
  refine zq_iload_n K dX3_link_3 rfl rfl ?_
  refine zq_callV (As := [.int (c), .int (d), .int (n)]) K dX3_link_4 zyX3_barsNew zm_X3_109 ziX3_barsNew zvX3_barsNew zclX3 rfl (by decide) rfl rfl (Nat.le_of_ble_eq_true rfl) (Nat.le_of_ble_eq_true rfl) hR.1 (ct_X3_barsNew_bad hR hW h) (zone_r ?_) zone_x (Nat.le_refl _)
  refine zq_istore K dX3_link_7 (by decide) ?_
  refine zq_aload_n K dX3_link_9 rfl rfl ?_
  refine zq_iload K dX3_link_10 rfl ?_
  refine zq_iconst K dX3_link_12 (v := nI 1) (by decide) ?_
  refine zq_icmp_neN K (x := 1) (y := 1) 20 dX3_link_13 (by decide) ⟨by omega, by omega⟩ (fun h13 => by omega) (fun h13 => ?_)
  refine zq_iconst K dX3_link_16 (v := nI 1) (by decide) ?_
  refine zq_goto K 41 dX3_link_17 (by decide) ?_
  refine zm_pth K dX3_link_41 zf_X3_55 hR hS (fun M hR hS => ?_)
  refine zq_aload_n K dX3_link_44 rfl rfl ?_
  refine zm_th K dX3_link_45 zf_X3_55 hR ?_
  refine zq_if_leN K (x := 1) 53 dX3_link_48 (by decide) (by omega) (fun h48 => by omega) (fun h48 => ?_)
  refine zq_iconst K dX3_link_51 (v := nI 0) (by decide) ?_
  exact zq_iret K dX3_link_52 rfl ⟨rfl, hR, hS⟩
theorem ct_X3_link_bad2 {G : ZG} {M : ZM} {x : Nat} {q : Nat → Nat} {w : Int32} {A : ZA} (hR : zR M x q w A) (hW : zWf A) {c d n : Int32} (f : Int32) (h : zBad A c d n 2) : zMet G mX3_link [.ref (x), .int (c), .int (d), .int (n), .int (f)] M (zRP x q M (some (.int (nI 0))) (nI 2) A) := by
  refine zbody zyX3_link [some (.ref (x)), some (.int (c)), some (.int (d)), some (.int (n)), some (.int (f)), none] rfl (Nat.le_of_ble_eq_true rfl) (by intro v hv; simp only [List.mem_cons, List.not_mem_nil, or_false] at hv; rcases hv with rfl | rfl | rfl | rfl | rfl <;> rfl) (fun E K => ?_)
  have hS : zSm x q M M := zSm.rf
  refine zq_aload_n K dX3_link_0 rfl rfl ?_
  refine zq_iload_n K dX3_link_1 rfl rfl ?_
  refine zq_iload_n K dX3_link_2 rfl rfl ?_
  refine zq_iload_n K dX3_link_3 rfl rfl ?_
  refine zq_callV (As := [.int (c), .int (d), .int (n)]) K dX3_link_4 zyX3_barsNew zm_X3_109 ziX3_barsNew zvX3_barsNew zclX3 rfl (by decide) rfl rfl (Nat.le_of_ble_eq_true rfl) (Nat.le_of_ble_eq_true rfl) hR.1 (ct_X3_barsNew_bad hR hW h) (zone_r ?_) zone_x (Nat.le_refl _)
  refine zq_istore K dX3_link_7 (by decide) ?_
  refine zq_aload_n K dX3_link_9 rfl rfl ?_
  refine zq_iload K dX3_link_10 rfl ?_
  refine zq_iconst K dX3_link_12 (v := nI 1) (by decide) ?_
  refine zq_icmp_neN K (x := 2) (y := 1) 20 dX3_link_13 (by decide) ⟨by omega, by omega⟩ (fun h13 => ?_) (fun h13 => by omega)
  refine zq_iload K dX3_link_20 rfl ?_
  refine zq_iconst K dX3_link_22 (v := nI 2) (by decide) ?_
  refine zq_icmp_eqN K (x := 2) (y := 2) 35 dX3_link_23 (by decide) ⟨by omega, by omega⟩ (fun h23 => ?_) (fun h23 => by omega)
  refine zq_iconst K dX3_link_35 (v := nI 2) (by decide) ?_
  refine zq_goto K 41 dX3_link_36 (by decide) ?_
  refine zm_pth K dX3_link_41 zf_X3_55 hR hS (fun M hR hS => ?_)
  refine zq_aload_n K dX3_link_44 rfl rfl ?_
  refine zm_th K dX3_link_45 zf_X3_55 hR ?_
  refine zq_if_leN K (x := 2) 53 dX3_link_48 (by decide) (by omega) (fun h48 => by omega) (fun h48 => ?_)
  refine zq_iconst K dX3_link_51 (v := nI 0) (by decide) ?_
  exact zq_iret K dX3_link_52 rfl ⟨rfl, hR, hS⟩
theorem ct_X3_link_2a {G : ZG} {M : ZM} {x : Nat} {q : Nat → Nat} {w : Int32} {A : ZA} (hR : zR M x q w A) (hW : zWf A) {F : Nat} (hf : A.1 9 = nI F) (hF30 : F ≤ 30) {c' d' n' : Nat} (hc : c' < 4) (hd : d' < 12) (hl : A.2 3 d' = 1) (hn : n' < 50) {f : Int32} (h : ¬ (zFn F f ∧ 0 < zcN (zpl A f) 600)) (hz : zBz A d' n') : zMet G mX3_link [.ref (x), .int (nI (c')), .int (nI (d')), .int (nI (n')), .int (f)] M (zRP x q M (some (.int (nI 0))) (nI 2) A) := by
  refine zbody zyX3_link [some (.ref (x)), some (.int (nI (c'))), some (.int (nI (d'))), some (.int (nI (n'))), some (.int (f)), none] rfl (Nat.le_of_ble_eq_true rfl) (by intro v hv; simp only [List.mem_cons, List.not_mem_nil, or_false] at hv; rcases hv with rfl | rfl | rfl | rfl | rfl <;> rfl) (fun E K => ?_)
  obtain ⟨⟨D, hB⟩, hF, hU⟩ := id hW
  have hS : zSm x q M M := zSm.rf
  refine zq_aload_n K dX3_link_0 rfl rfl ?_
  refine zq_iload_n K dX3_link_1 rfl rfl ?_
  refine zq_iload_n K dX3_link_2 rfl rfl ?_
  refine zq_iload_n K dX3_link_3 rfl rfl ?_
  refine zq_callV (As := [.int (nI (c')), .int (nI (d')), .int (nI (n'))]) K dX3_link_4 zyX3_barsNew zm_X3_109 ziX3_barsNew zvX3_barsNew zclX3 rfl (by decide) rfl rfl (Nat.le_of_ble_eq_true rfl) (Nat.le_of_ble_eq_true rfl) hR.1 (ct_X3_barsNew_no hR hW hc hd hl hn hz) (zone_r ?_) zone_x (Nat.le_refl _)
  refine zq_istore K dX3_link_7 (by decide) ?_
  refine zq_aload_n K dX3_link_9 rfl rfl ?_
  refine zq_iload K dX3_link_10 rfl ?_
  refine zq_iconst K dX3_link_12 (v := nI 1) (by decide) ?_
  refine zq_icmp_neN K (x := 3) (y := 1) 20 dX3_link_13 (by decide) ⟨by omega, by omega⟩ (fun h13 => ?_) (fun h13 => by omega)
  refine zq_iload K dX3_link_20 rfl ?_
  refine zq_iconst K dX3_link_22 (v := nI 2) (by decide) ?_
  refine zq_icmp_eqN K (x := 3) (y := 2) 35 dX3_link_23 (by decide) ⟨by omega, by omega⟩ (fun h23 => by omega) (fun h23 => ?_)
  refine zq_aload_n K dX3_link_26 rfl rfl ?_
  refine zq_iload K dX3_link_27 rfl ?_
  refine zq_callV (As := [.int (f)]) K dX3_link_29 zyX3_isFile zm_X3_127 ziX3_isFile zvX3_isFile zclX3 rfl (by decide) rfl rfl (Nat.le_of_ble_eq_true rfl) (Nat.le_of_ble_eq_true rfl) hR.1 (ct_X3_isFile hR hf hF30 f) (zdec_r (fun hi => ?_) (fun hi => ?_)) zdec_x (Nat.le_refl _)
  · exact absurd hi h
  · refine zq_if_neN K (x := 0) 39 dX3_link_32 (by decide) (by omega) (fun h32 => by omega) (fun h32 => ?_)
    refine zq_iconst K dX3_link_35 (v := nI 2) (by decide) ?_
    refine zq_goto K 41 dX3_link_36 (by decide) ?_
    refine zm_pth K dX3_link_41 zf_X3_55 hR hS (fun M hR hS => ?_)
    refine zq_aload_n K dX3_link_44 rfl rfl ?_
    refine zm_th K dX3_link_45 zf_X3_55 hR ?_
    refine zq_if_leN K (x := 2) 53 dX3_link_48 (by decide) (by omega) (fun h48 => by omega) (fun h48 => ?_)
    refine zq_iconst K dX3_link_51 (v := nI 0) (by decide) ?_
    exact zq_iret K dX3_link_52 rfl ⟨rfl, hR, hS⟩
theorem ct_X3_link_2b {G : ZG} {M : ZM} {x : Nat} {q : Nat → Nat} {w : Int32} {A : ZA} (hR : zR M x q w A) (hW : zWf A) {F : Nat} (hf : A.1 9 = nI F) (hF30 : F ≤ 30) {c' d' n' : Nat} (hc : c' < 4) (hd : d' < 12) (hl : A.2 3 d' = 1) (hn : n' < 50) {f : Int32} (h : ¬ (zFn F f ∧ 0 < zcN (zpl A f) 600)) (hz : ¬ zBz A d' n') : zMet G mX3_link [.ref (x), .int (nI (c')), .int (nI (d')), .int (nI (n')), .int (f)] M (zRP x q M (some (.int (nI 0))) (nI 2) A) := by
  refine zbody zyX3_link [some (.ref (x)), some (.int (nI (c'))), some (.int (nI (d'))), some (.int (nI (n'))), some (.int (f)), none] rfl (Nat.le_of_ble_eq_true rfl) (by intro v hv; simp only [List.mem_cons, List.not_mem_nil, or_false] at hv; rcases hv with rfl | rfl | rfl | rfl | rfl <;> rfl) (fun E K => ?_)
  obtain ⟨⟨D, hB⟩, hF, hU⟩ := id hW
  have hS : zSm x q M M := zSm.rf
  refine zq_aload_n K dX3_link_0 rfl rfl ?_
  refine zq_iload_n K dX3_link_1 rfl rfl ?_
  refine zq_iload_n K dX3_link_2 rfl rfl ?_
  refine zq_iload_n K dX3_link_3 rfl rfl ?_
  refine zq_callV (As := [.int (nI (c')), .int (nI (d')), .int (nI (n'))]) K dX3_link_4 zyX3_barsNew zm_X3_109 ziX3_barsNew zvX3_barsNew zclX3 rfl (by decide) rfl rfl (Nat.le_of_ble_eq_true rfl) (Nat.le_of_ble_eq_true rfl) hR.1 (ct_X3_barsNew_ok hR hW hc hd hl hn hz) (zone_r ?_) zone_x (Nat.le_refl _)
  refine zq_istore K dX3_link_7 (by decide) ?_
  refine zq_aload_n K dX3_link_9 rfl rfl ?_
  refine zq_iload K dX3_link_10 rfl ?_
  refine zq_iconst K dX3_link_12 (v := nI 1) (by decide) ?_
  refine zq_icmp_neN K (x := 0) (y := 1) 20 dX3_link_13 (by decide) ⟨by omega, by omega⟩ (fun h13 => ?_) (fun h13 => by omega)
  refine zq_iload K dX3_link_20 rfl ?_
  refine zq_iconst K dX3_link_22 (v := nI 2) (by decide) ?_
  refine zq_icmp_eqN K (x := 0) (y := 2) 35 dX3_link_23 (by decide) ⟨by omega, by omega⟩ (fun h23 => by omega) (fun h23 => ?_)
  refine zq_aload_n K dX3_link_26 rfl rfl ?_
  refine zq_iload K dX3_link_27 rfl ?_
  refine zq_callV (As := [.int (f)]) K dX3_link_29 zyX3_isFile zm_X3_127 ziX3_isFile zvX3_isFile zclX3 rfl (by decide) rfl rfl (Nat.le_of_ble_eq_true rfl) (Nat.le_of_ble_eq_true rfl) hR.1 (ct_X3_isFile hR hf hF30 f) (zdec_r (fun hi => ?_) (fun hi => ?_)) zdec_x (Nat.le_refl _)
  · exact absurd hi h
  · refine zq_if_neN K (x := 0) 39 dX3_link_32 (by decide) (by omega) (fun h32 => by omega) (fun h32 => ?_)
    refine zq_iconst K dX3_link_35 (v := nI 2) (by decide) ?_
    refine zq_goto K 41 dX3_link_36 (by decide) ?_
    refine zm_pth K dX3_link_41 zf_X3_55 hR hS (fun M hR hS => ?_)
    refine zq_aload_n K dX3_link_44 rfl rfl ?_
    refine zm_th K dX3_link_45 zf_X3_55 hR ?_
    refine zq_if_leN K (x := 2) 53 dX3_link_48 (by decide) (by omega) (fun h48 => by omega) (fun h48 => ?_)
    refine zq_iconst K dX3_link_51 (v := nI 0) (by decide) ?_
    exact zq_iret K dX3_link_52 rfl ⟨rfl, hR, hS⟩
theorem ct_X3_link_3 {G : ZG} {M : ZM} {x : Nat} {q : Nat → Nat} {w : Int32} {A : ZA} (hR : zR M x q w A) (hW : zWf A) {F : Nat} (hf : A.1 9 = nI F) (hF30 : F ≤ 30) {c' d' n' : Nat} (hc : c' < 4) (hd : d' < 12) (hl : A.2 3 d' = 1) (hn : n' < 50) {f : Int32} (h : zFn F f ∧ 0 < zcN (zpl A f) 600) (hz : zBz A d' n') : zMet G mX3_link [.ref (x), .int (nI (c')), .int (nI (d')), .int (nI (n')), .int (f)] M (zRP x q M (some (.int (nI 0))) (nI 3) A) := by
  refine zbody zyX3_link [some (.ref (x)), some (.int (nI (c'))), some (.int (nI (d'))), some (.int (nI (n'))), some (.int (f)), none] rfl (Nat.le_of_ble_eq_true rfl) (by intro v hv; simp only [List.mem_cons, List.not_mem_nil, or_false] at hv; rcases hv with rfl | rfl | rfl | rfl | rfl <;> rfl) (fun E K => ?_)
  obtain ⟨⟨D, hB⟩, hF, hU⟩ := id hW
  have hS : zSm x q M M := zSm.rf
  refine zq_aload_n K dX3_link_0 rfl rfl ?_
  refine zq_iload_n K dX3_link_1 rfl rfl ?_
  refine zq_iload_n K dX3_link_2 rfl rfl ?_
  refine zq_iload_n K dX3_link_3 rfl rfl ?_
  refine zq_callV (As := [.int (nI (c')), .int (nI (d')), .int (nI (n'))]) K dX3_link_4 zyX3_barsNew zm_X3_109 ziX3_barsNew zvX3_barsNew zclX3 rfl (by decide) rfl rfl (Nat.le_of_ble_eq_true rfl) (Nat.le_of_ble_eq_true rfl) hR.1 (ct_X3_barsNew_no hR hW hc hd hl hn hz) (zone_r ?_) zone_x (Nat.le_refl _)
  refine zq_istore K dX3_link_7 (by decide) ?_
  refine zq_aload_n K dX3_link_9 rfl rfl ?_
  refine zq_iload K dX3_link_10 rfl ?_
  refine zq_iconst K dX3_link_12 (v := nI 1) (by decide) ?_
  refine zq_icmp_neN K (x := 3) (y := 1) 20 dX3_link_13 (by decide) ⟨by omega, by omega⟩ (fun h13 => ?_) (fun h13 => by omega)
  refine zq_iload K dX3_link_20 rfl ?_
  refine zq_iconst K dX3_link_22 (v := nI 2) (by decide) ?_
  refine zq_icmp_eqN K (x := 3) (y := 2) 35 dX3_link_23 (by decide) ⟨by omega, by omega⟩ (fun h23 => by omega) (fun h23 => ?_)
  refine zq_aload_n K dX3_link_26 rfl rfl ?_
  refine zq_iload K dX3_link_27 rfl ?_
  refine zq_callV (As := [.int (f)]) K dX3_link_29 zyX3_isFile zm_X3_127 ziX3_isFile zvX3_isFile zclX3 rfl (by decide) rfl rfl (Nat.le_of_ble_eq_true rfl) (Nat.le_of_ble_eq_true rfl) hR.1 (ct_X3_isFile hR hf hF30 f) (zdec_r (fun hi => ?_) (fun hi => ?_)) zdec_x (Nat.le_refl _)
  · refine zq_if_neN K (x := 1) 39 dX3_link_32 (by decide) (by omega) (fun h32 => ?_) (fun h32 => by omega)
    refine zq_iload K dX3_link_39 rfl ?_
    refine zm_pth K dX3_link_41 zf_X3_55 hR hS (fun M hR hS => ?_)
    refine zq_aload_n K dX3_link_44 rfl rfl ?_
    refine zm_th K dX3_link_45 zf_X3_55 hR ?_
    refine zq_if_leN K (x := 3) 53 dX3_link_48 (by decide) (by omega) (fun h48 => by omega) (fun h48 => ?_)
    refine zq_iconst K dX3_link_51 (v := nI 0) (by decide) ?_
    exact zq_iret K dX3_link_52 rfl ⟨rfl, hR, hS⟩
  · exact absurd h hi
/-- a further link -/
def zLi (A : ZA) (c d n : Nat) (f : Int32) : ZA := zLn (zCh A (nI c) d n) (50 * d + n) f
theorem ct_X3_link_ok {G : ZG} {M : ZM} {x : Nat} {q : Nat → Nat} {w : Int32} {A : ZA} (hR : zR M x q w A) (hW : zWf A) {F : Nat} (hf : A.1 9 = nI F) (hF30 : F ≤ 30) {c' d' n' : Nat} (hc : c' < 4) (hd : d' < 12) (hl : A.2 3 d' = 1) (hn : n' < 50) {f : Int32} (h : zFn F f ∧ 0 < zcN (zpl A f) 600) (hz : ¬ zBz A d' n') : zMet G mX3_link [.ref (x), .int (nI (c')), .int (nI (d')), .int (nI (n')), .int (f)] M (zRP x q M (some (.int (nI (zcN (zpl (zLi A c' d' n' f) f) 600)))) (nI 0) (zLi A c' d' n' f)) := by
  refine zbody zyX3_link [some (.ref (x)), some (.int (nI (c'))), some (.int (nI (d'))), some (.int (nI (n'))), some (.int (f)), none] rfl (Nat.le_of_ble_eq_true rfl) (by intro v hv; simp only [List.mem_cons, List.not_mem_nil, or_false] at hv; rcases hv with rfl | rfl | rfl | rfl | rfl <;> rfl) (fun E K => ?_)
  obtain ⟨⟨D, hB⟩, hF, hU⟩ := id hW
  have hS : zSm x q M M := zSm.rf
  refine zq_aload_n K dX3_link_0 rfl rfl ?_
  refine zq_iload_n K dX3_link_1 rfl rfl ?_
  refine zq_iload_n K dX3_link_2 rfl rfl ?_
  refine zq_iload_n K dX3_link_3 rfl rfl ?_
  refine zq_callV (As := [.int (nI (c')), .int (nI (d')), .int (nI (n'))]) K dX3_link_4 zyX3_barsNew zm_X3_109 ziX3_barsNew zvX3_barsNew zclX3 rfl (by decide) rfl rfl (Nat.le_of_ble_eq_true rfl) (Nat.le_of_ble_eq_true rfl) hR.1 (ct_X3_barsNew_ok hR hW hc hd hl hn hz) (zone_r ?_) zone_x (Nat.le_refl _)
  refine zq_istore K dX3_link_7 (by decide) ?_
  refine zq_aload_n K dX3_link_9 rfl rfl ?_
  refine zq_iload K dX3_link_10 rfl ?_
  refine zq_iconst K dX3_link_12 (v := nI 1) (by decide) ?_
  refine zq_icmp_neN K (x := 0) (y := 1) 20 dX3_link_13 (by decide) ⟨by omega, by omega⟩ (fun h13 => ?_) (fun h13 => by omega)
  refine zq_iload K dX3_link_20 rfl ?_
  refine zq_iconst K dX3_link_22 (v := nI 2) (by decide) ?_
  refine zq_icmp_eqN K (x := 0) (y := 2) 35 dX3_link_23 (by decide) ⟨by omega, by omega⟩ (fun h23 => by omega) (fun h23 => ?_)
  refine zq_aload_n K dX3_link_26 rfl rfl ?_
  refine zq_iload K dX3_link_27 rfl ?_
  refine zq_callV (As := [.int (f)]) K dX3_link_29 zyX3_isFile zm_X3_127 ziX3_isFile zvX3_isFile zclX3 rfl (by decide) rfl rfl (Nat.le_of_ble_eq_true rfl) (Nat.le_of_ble_eq_true rfl) hR.1 (ct_X3_isFile hR hf hF30 f) (zdec_r (fun hi => ?_) (fun hi => ?_)) zdec_x (Nat.le_refl _)
  · refine zq_if_neN K (x := 1) 39 dX3_link_32 (by decide) (by omega) (fun h32 => ?_) (fun h32 => by omega)
    refine zq_iload K dX3_link_39 rfl ?_
    refine zm_pth K dX3_link_41 zf_X3_55 hR hS (fun M hR hS => ?_)
    refine zq_aload_n K dX3_link_44 rfl rfl ?_
    refine zm_th K dX3_link_45 zf_X3_55 hR ?_
    refine zq_if_leN K (x := 0) 53 dX3_link_48 (by decide) (by omega) (fun h48 => ?_) (fun h48 => by omega)
    refine zq_aload_n K dX3_link_53 rfl rfl ?_
    refine zq_iload_n K dX3_link_54 rfl rfl ?_
    refine zq_iload_n K dX3_link_55 rfl rfl ?_
    refine zq_iload_n K dX3_link_56 rfl rfl ?_
    refine zq_callV (As := [.int (nI (c')), .int (nI (d')), .int (nI (n'))]) K dX3_link_57 zyX3_changes zm_X3_112 ziX3_changes zvX3_changes zclX3 rfl (by decide) rfl rfl (Nat.le_of_ble_eq_true rfl) (Nat.le_of_ble_eq_true rfl) hR.1 (ct_X3_changes hR (nI c') hd hn (hF.1 d' hd hl)) (zRP_r hS (fun M hR hS => ?_)) zRP_x (Nat.le_refl _)
    refine zq_aload_n K dX3_link_60 rfl rfl ?_
    refine zq_iload_n K dX3_link_61 rfl rfl ?_
    refine zq_iload_n K dX3_link_62 rfl rfl ?_
    refine zq_callS (As := [.int (nI (d')), .int (nI (n'))]) K dX3_link_63 zyX3_at zm_X3_87 zsX3_at rfl (by decide) rfl rfl (Nat.le_of_ble_eq_true rfl) (Nat.le_of_ble_eq_true rfl) (ct_X3_at d' n' _) (zone_r ?_) zone_x (Nat.le_refl _)
    refine zq_iload K dX3_link_66 rfl ?_
    refine zq_callV (As := [.int (nI (50 * d' + n')), .int (f)]) K dX3_link_68 zyX3_links zm_X3_122 ziX3_links zvX3_links zclX3 rfl (by decide) rfl rfl (Nat.le_of_ble_eq_true rfl) (Nat.le_of_ble_eq_true rfl) hR.1 (ct_X3_links hR (a := 50 * d' + n') (by omega) f) (zRP_r hS (fun M hR hS => ?_)) zRP_x (Nat.le_refl _)
    refine zq_aload_n K dX3_link_71 rfl rfl ?_
    refine zq_iload K dX3_link_72 rfl ?_
    refine zq_callV (As := [.int (f)]) K dX3_link_74 zyX3_countLinks zm_X3_124 ziX3_countLinks zvX3_countLinks zclX3 rfl (by decide) rfl rfl (Nat.le_of_ble_eq_true rfl) (Nat.le_of_ble_eq_true rfl) hR.1 (ct_X3_countLinks hR f) (zone_r ?_) zone_x (Nat.le_refl _)
    exact zq_iret K dX3_link_77 rfl ⟨rfl, hR, hS⟩
  · exact absurd h hi
theorem zdv : ∀ e : Nat, e < 12 → (¬ (-1 : Int32) ≤ -2 - nI e) ∧ -2 - (-2 - nI e) = nI e ∧ ¬ (-2 - nI e : Int32) = -1 := by decide +kernel
theorem zfv' : ∀ f : Nat, f < 30 → ((-1 : Int32) ≤ nI f) ∧ ¬ nI f = -1 := by decide +kernel
/-- held: names in it stand for something, or one of its fragments moves -/
def zHd (A : ZA) (d : Nat) : Prop := 0 < zcN (zpu A d) 50 ∨ (¬ A.1 16 = -1 ∧ A.1 16 = nI (A.1 16).toNatClampNeg ∧ (A.1 16).toNatClampNeg / 8 = d)
def zMv (A : ZA) : Prop := A.1 16 = -1 ∨ ∃ m, m < 96 ∧ A.1 16 = nI m
def zZ8 (A : ZA) (e : Nat) : Nat → ZA
  | 0 => A
  | k + 1 => zsa (zZ8 A e k) 10 (8 * e + k) (nI 0)
def zZu (A : ZA) (e c : Nat) : Nat → ZA
  | 0 => A
  | n + 1 => zsa (zZu A e c n) 13 (600 * c + (50 * e + n)) (nI 0)
def zZv (A : ZA) (e : Nat) : Nat → ZA
  | 0 => A
  | c + 1 => zZu (zZv A e c) e c 50
/-- a link is removed -/
def zRf (A : ZA) (c d n : Nat) : ZA := zsa (zCh A (nI c) d n) 6 (50 * d + n) (-1)
/-- the directory e is removed -/
def zRd (A : ZA) (c d n e : Nat) : ZA := zZv (zZ8 (zsa (zRf A c d n) 3 e (nI 0)) e 8) e 4
theorem ct_X3_remove_bad {G : ZG} {M : ZM} {x : Nat} {q : Nat → Nat} {w : Int32} {A : ZA} (hR : zR M x q w A) (hW : zWf A) {c d n : Int32} {k : Nat} (h : zBad A c d n k) : zMet G mX3_remove [.ref (x), .int (c), .int (d), .int (n)] M (zRP x q M (some (.int (nI 0))) (nI k) A) := by
  refine zbody zyX3_remove [some (.ref (x)), some (.int (c)), some (.int (d)), some (.int (n)), none, none, none, none] rfl (Nat.le_of_ble_eq_true rfl) (by intro v hv; simp only [List.mem_cons, List.not_mem_nil, or_false] at hv; rcases hv with rfl | rfl | rfl | rfl <;> rfl) (fun E K => ?_)
  obtain ⟨⟨D, hB⟩, hF, hU⟩ := hW
  have hk := zBad_k h
  have hS : zSm x q M M := zSm.rf
  refine zq_aload_n K dX3_remove_0 rfl rfl ?_
  refine zq_aload_n K dX3_remove_1 rfl rfl ?_
  refine zq_iload_n K dX3_remove_2 rfl rfl ?_
  refine zq_iload_n K dX3_remove_3 rfl rfl ?_
  refine zq_iload_n K dX3_remove_4 rfl rfl ?_
  refine zq_callV (As := [.int (c), .int (d), .int (n)]) K dX3_remove_5 zyX3_barsName zm_X3_102 ziX3_barsName zvX3_barsName zclX3 rfl (by decide) rfl rfl (Nat.le_of_ble_eq_true rfl) (Nat.le_of_ble_eq_true rfl) hR.1 (ct_X3_barsName_bad hR hB h) (zone_r ?_) zone_x (Nat.le_refl _)
  refine zm_pth K dX3_remove_8 zf_X3_55 hR hS (fun M hR hS => ?_)
  refine zq_aload_n K dX3_remove_11 rfl rfl ?_
  refine zm_th K dX3_remove_12 zf_X3_55 hR ?_
  refine zq_if_leN K (x := k) 20 dX3_remove_15 (by decide) (by omega) (fun h15 => by omega) (fun h15 => ?_)
  refine zq_iconst K dX3_remove_18 (v := nI 0) (by decide) ?_
  exact zq_iret K dX3_remove_19 rfl ⟨rfl, hR, hS⟩
theorem ct_X3_remove_free {G : ZG} {M : ZM} {x : Nat} {q : Nat → Nat} {w : Int32} {A : ZA} (hR : zR M x q w A) (hW : zWf A) {c' d' n' : Nat} (hc : c' < 4) (hd : d' < 12) (hl : A.2 3 d' = 1) (hn : n' < 50) (h : A.2 6 (50 * d' + n') = -1) : zMet G mX3_remove [.ref (x), .int (nI (c')), .int (nI (d')), .int (nI (n'))] M (zRP x q M (some (.int (nI 0))) (nI 3) A) := by
  refine zbody zyX3_remove [some (.ref (x)), some (.int (nI (c'))), some (.int (nI (d'))), some (.int (nI (n'))), none, none, none, none] rfl (Nat.le_of_ble_eq_true rfl) (by intro v hv; simp only [List.mem_cons, List.not_mem_nil, or_false] at hv; rcases hv with rfl | rfl | rfl | rfl <;> rfl) (fun E K => ?_)
  obtain ⟨⟨D, hB⟩, hF, hU⟩ := id hW
  have hg : zGd A (nI c') (nI d') (nI n') c' d' n' := ⟨rfl, hc, rfl, hd, hl, rfl, hn⟩
  have hS : zSm x q M M := zSm.rf
  refine zq_aload_n K dX3_remove_0 rfl rfl ?_
  refine zq_aload_n K dX3_remove_1 rfl rfl ?_
  refine zq_iload_n K dX3_remove_2 rfl rfl ?_
  refine zq_iload_n K dX3_remove_3 rfl rfl ?_
  refine zq_iload_n K dX3_remove_4 rfl rfl ?_
  refine zq_callV (As := [.int (nI (c')), .int (nI (d')), .int (nI (n'))]) K dX3_remove_5 zyX3_barsName zm_X3_102 ziX3_barsName zvX3_barsName zclX3 rfl (by decide) rfl rfl (Nat.le_of_ble_eq_true rfl) (Nat.le_of_ble_eq_true rfl) hR.1 (ct_X3_barsName_ok hR hB hg) (zone_r ?_) zone_x (Nat.le_refl _)
  refine zm_pth K dX3_remove_8 zf_X3_55 hR hS (fun M hR hS => ?_)
  refine zq_aload_n K dX3_remove_11 rfl rfl ?_
  refine zm_th K dX3_remove_12 zf_X3_55 hR ?_
  refine zq_if_leN K (x := 0) 20 dX3_remove_15 (by decide) (by omega) (fun h15 => ?_) (fun h15 => by omega)
  refine zq_aload_n K dX3_remove_20 rfl rfl ?_
  refine zm_ar K dX3_remove_21 zf_X3_24 (k := 6) (by decide) hR ?_
  refine zq_iload_n K dX3_remove_24 rfl rfl ?_
  refine zq_iload_n K dX3_remove_25 rfl rfl ?_
  refine zq_callS (As := [.int (nI (d')), .int (nI (n'))]) K dX3_remove_26 zyX3_at zm_X3_87 zsX3_at rfl (by decide) rfl rfl (Nat.le_of_ble_eq_true rfl) (Nat.le_of_ble_eq_true rfl) (ct_X3_at d' n' _) (zone_r ?_) zone_x (Nat.le_refl _)
  refine zm_ld K (50 * d' + n') dX3_remove_29 (k := 6) (by decide) hR rfl (show 50 * d' + n' < 600 by omega) ?_
  refine zq_istore K dX3_remove_30 (by decide) ?_
  refine zq_aload_n K dX3_remove_32 rfl rfl ?_
  refine zq_iload K dX3_remove_33 rfl ?_
  refine zq_iconst K dX3_remove_35 (v := -1) (by decide) ?_
  refine zq_icmp_eq K 66 dX3_remove_36 (by decide) (fun h36 => ?_) (fun h36 => absurd h h36)
  refine zq_iconst K dX3_remove_66 (v := nI 3) (by decide) ?_
  refine zq_goto K 71 dX3_remove_67 (by decide) ?_
  refine zm_pth K dX3_remove_71 zf_X3_55 hR hS (fun M hR hS => ?_)
  refine zq_aload_n K dX3_remove_74 rfl rfl ?_
  refine zm_th K dX3_remove_75 zf_X3_55 hR ?_
  refine zq_if_leN K (x := 3) 83 dX3_remove_78 (by decide) (by omega) (fun h78 => by omega) (fun h78 => ?_)
  refine zq_iconst K dX3_remove_81 (v := nI 0) (by decide) ?_
  exact zq_iret K dX3_remove_82 rfl ⟨rfl, hR, hS⟩
theorem ct_X3_remove_fz {G : ZG} {M : ZM} {x : Nat} {q : Nat → Nat} {w : Int32} {A : ZA} (hR : zR M x q w A) (hW : zWf A) {c' d' n' : Nat} (hc : c' < 4) (hd : d' < 12) (hl : A.2 3 d' = 1) (hn : n' < 50) {f : Nat} (hf : f < 30) (hs : A.2 6 (50 * d' + n') = nI f) (h : zfz A (zfn A d' n') = true) : zMet G mX3_remove [.ref (x), .int (nI (c')), .int (nI (d')), .int (nI (n'))] M (zRP x q M (some (.int (nI 0))) (nI 3) A) := by
  refine zbody zyX3_remove [some (.ref (x)), some (.int (nI (c'))), some (.int (nI (d'))), some (.int (nI (n'))), none, none, none, none] rfl (Nat.le_of_ble_eq_true rfl) (by intro v hv; simp only [List.mem_cons, List.not_mem_nil, or_false] at hv; rcases hv with rfl | rfl | rfl | rfl <;> rfl) (fun E K => ?_)
  obtain ⟨⟨D, hB⟩, hF, hU⟩ := id hW
  have hg : zGd A (nI c') (nI d') (nI n') c' d' n' := ⟨rfl, hc, rfl, hd, hl, rfl, hn⟩
  have hS : zSm x q M M := zSm.rf
  refine zq_aload_n K dX3_remove_0 rfl rfl ?_
  refine zq_aload_n K dX3_remove_1 rfl rfl ?_
  refine zq_iload_n K dX3_remove_2 rfl rfl ?_
  refine zq_iload_n K dX3_remove_3 rfl rfl ?_
  refine zq_iload_n K dX3_remove_4 rfl rfl ?_
  refine zq_callV (As := [.int (nI (c')), .int (nI (d')), .int (nI (n'))]) K dX3_remove_5 zyX3_barsName zm_X3_102 ziX3_barsName zvX3_barsName zclX3 rfl (by decide) rfl rfl (Nat.le_of_ble_eq_true rfl) (Nat.le_of_ble_eq_true rfl) hR.1 (ct_X3_barsName_ok hR hB hg) (zone_r ?_) zone_x (Nat.le_refl _)
  refine zm_pth K dX3_remove_8 zf_X3_55 hR hS (fun M hR hS => ?_)
  refine zq_aload_n K dX3_remove_11 rfl rfl ?_
  refine zm_th K dX3_remove_12 zf_X3_55 hR ?_
  refine zq_if_leN K (x := 0) 20 dX3_remove_15 (by decide) (by omega) (fun h15 => ?_) (fun h15 => by omega)
  refine zq_aload_n K dX3_remove_20 rfl rfl ?_
  refine zm_ar K dX3_remove_21 zf_X3_24 (k := 6) (by decide) hR ?_
  refine zq_iload_n K dX3_remove_24 rfl rfl ?_
  refine zq_iload_n K dX3_remove_25 rfl rfl ?_
  refine zq_callS (As := [.int (nI (d')), .int (nI (n'))]) K dX3_remove_26 zyX3_at zm_X3_87 zsX3_at rfl (by decide) rfl rfl (Nat.le_of_ble_eq_true rfl) (Nat.le_of_ble_eq_true rfl) (ct_X3_at d' n' _) (zone_r ?_) zone_x (Nat.le_refl _)
  refine zm_ld K (50 * d' + n') dX3_remove_29 (k := 6) (by decide) hR rfl (show 50 * d' + n' < 600 by omega) ?_
  refine zq_top (v := nI (f)) hs ?_
  refine zq_istore K dX3_remove_30 (by decide) ?_
  refine zq_aload_n K dX3_remove_32 rfl rfl ?_
  refine zq_iload K dX3_remove_33 rfl ?_
  refine zq_iconst K dX3_remove_35 (v := -1) (by decide) ?_
  refine zq_icmp_eq K 66 dX3_remove_36 (by decide) (fun h36 => absurd h36 (zfv' f hf).2) (fun h36 => ?_)
  refine zq_iload K dX3_remove_39 rfl ?_
  refine zq_iconst K dX3_remove_41 (v := -1) (by decide) ?_
  refine zq_icmp_ge K 57 dX3_remove_42 (by decide) (fun h42 => ?_) (fun h42 => absurd (zfv' f hf).1 h42)
  refine zq_aload_n K dX3_remove_57 rfl rfl ?_
  refine zq_iload_n K dX3_remove_58 rfl rfl ?_
  refine zq_iload_n K dX3_remove_59 rfl rfl ?_
  refine zq_callV (As := [.int (nI (d')), .int (nI (n'))]) K dX3_remove_60 zyX3_isFrozenName zm_X3_106 ziX3_isFrozenName zvX3_isFrozenName zclX3 rfl (by decide) rfl rfl (Nat.le_of_ble_eq_true rfl) (Nat.le_of_ble_eq_true rfl) hR.1 (ct_X3_isFrozenName hR hF (hU d' hd hl) hd hl hn) (zdec_r (fun hz => ?_) (fun hz => ?_)) zdec_x (Nat.le_refl _)
  · refine zq_if_eqN K (x := 1) 70 dX3_remove_63 (by decide) (by omega) (fun h63 => by omega) (fun h63 => ?_)
    refine zq_iconst K dX3_remove_66 (v := nI 3) (by decide) ?_
    refine zq_goto K 71 dX3_remove_67 (by decide) ?_
    refine zm_pth K dX3_remove_71 zf_X3_55 hR hS (fun M hR hS => ?_)
    refine zq_aload_n K dX3_remove_74 rfl rfl ?_
    refine zm_th K dX3_remove_75 zf_X3_55 hR ?_
    refine zq_if_leN K (x := 3) 83 dX3_remove_78 (by decide) (by omega) (fun h78 => by omega) (fun h78 => ?_)
    refine zq_iconst K dX3_remove_81 (v := nI 0) (by decide) ?_
    exact zq_iret K dX3_remove_82 rfl ⟨rfl, hR, hS⟩
  · exact absurd h hz
theorem ct_X3_remove_ok {G : ZG} {M : ZM} {x : Nat} {q : Nat → Nat} {w : Int32} {A : ZA} (hR : zR M x q w A) (hW : zWf A) {c' d' n' : Nat} (hc : c' < 4) (hd : d' < 12) (hl : A.2 3 d' = 1) (hn : n' < 50) {f : Nat} (hf : f < 30) (hs : A.2 6 (50 * d' + n') = nI f) (h : ¬ zfz A (zfn A d' n') = true) : zMet G mX3_remove [.ref (x), .int (nI (c')), .int (nI (d')), .int (nI (n'))] M (zRP x q M (some (.int (nI f))) (nI 0) (zRf A c' d' n')) := by
  refine zbody zyX3_remove [some (.ref (x)), some (.int (nI (c'))), some (.int (nI (d'))), some (.int (nI (n'))), none, none, none, none] rfl (Nat.le_of_ble_eq_true rfl) (by intro v hv; simp only [List.mem_cons, List.not_mem_nil, or_false] at hv; rcases hv with rfl | rfl | rfl | rfl <;> rfl) (fun E K => ?_)
  obtain ⟨⟨D, hB⟩, hF, hU⟩ := id hW
  have hg : zGd A (nI c') (nI d') (nI n') c' d' n' := ⟨rfl, hc, rfl, hd, hl, rfl, hn⟩
  have hS : zSm x q M M := zSm.rf
  refine zq_aload_n K dX3_remove_0 rfl rfl ?_
  refine zq_aload_n K dX3_remove_1 rfl rfl ?_
  refine zq_iload_n K dX3_remove_2 rfl rfl ?_
  refine zq_iload_n K dX3_remove_3 rfl rfl ?_
  refine zq_iload_n K dX3_remove_4 rfl rfl ?_
  refine zq_callV (As := [.int (nI (c')), .int (nI (d')), .int (nI (n'))]) K dX3_remove_5 zyX3_barsName zm_X3_102 ziX3_barsName zvX3_barsName zclX3 rfl (by decide) rfl rfl (Nat.le_of_ble_eq_true rfl) (Nat.le_of_ble_eq_true rfl) hR.1 (ct_X3_barsName_ok hR hB hg) (zone_r ?_) zone_x (Nat.le_refl _)
  refine zm_pth K dX3_remove_8 zf_X3_55 hR hS (fun M hR hS => ?_)
  refine zq_aload_n K dX3_remove_11 rfl rfl ?_
  refine zm_th K dX3_remove_12 zf_X3_55 hR ?_
  refine zq_if_leN K (x := 0) 20 dX3_remove_15 (by decide) (by omega) (fun h15 => ?_) (fun h15 => by omega)
  refine zq_aload_n K dX3_remove_20 rfl rfl ?_
  refine zm_ar K dX3_remove_21 zf_X3_24 (k := 6) (by decide) hR ?_
  refine zq_iload_n K dX3_remove_24 rfl rfl ?_
  refine zq_iload_n K dX3_remove_25 rfl rfl ?_
  refine zq_callS (As := [.int (nI (d')), .int (nI (n'))]) K dX3_remove_26 zyX3_at zm_X3_87 zsX3_at rfl (by decide) rfl rfl (Nat.le_of_ble_eq_true rfl) (Nat.le_of_ble_eq_true rfl) (ct_X3_at d' n' _) (zone_r ?_) zone_x (Nat.le_refl _)
  refine zm_ld K (50 * d' + n') dX3_remove_29 (k := 6) (by decide) hR rfl (show 50 * d' + n' < 600 by omega) ?_
  refine zq_top (v := nI (f)) hs ?_
  refine zq_istore K dX3_remove_30 (by decide) ?_
  refine zq_aload_n K dX3_remove_32 rfl rfl ?_
  refine zq_iload K dX3_remove_33 rfl ?_
  refine zq_iconst K dX3_remove_35 (v := -1) (by decide) ?_
  refine zq_icmp_eq K 66 dX3_remove_36 (by decide) (fun h36 => absurd h36 (zfv' f hf).2) (fun h36 => ?_)
  refine zq_iload K dX3_remove_39 rfl ?_
  refine zq_iconst K dX3_remove_41 (v := -1) (by decide) ?_
  refine zq_icmp_ge K 57 dX3_remove_42 (by decide) (fun h42 => ?_) (fun h42 => absurd (zfv' f hf).1 h42)
  refine zq_aload_n K dX3_remove_57 rfl rfl ?_
  refine zq_iload_n K dX3_remove_58 rfl rfl ?_
  refine zq_iload_n K dX3_remove_59 rfl rfl ?_
  refine zq_callV (As := [.int (nI (d')), .int (nI (n'))]) K dX3_remove_60 zyX3_isFrozenName zm_X3_106 ziX3_isFrozenName zvX3_isFrozenName zclX3 rfl (by decide) rfl rfl (Nat.le_of_ble_eq_true rfl) (Nat.le_of_ble_eq_true rfl) hR.1 (ct_X3_isFrozenName hR hF (hU d' hd hl) hd hl hn) (zdec_r (fun hz => ?_) (fun hz => ?_)) zdec_x (Nat.le_refl _)
  · exact absurd hz h
  · refine zq_if_eqN K (x := 0) 70 dX3_remove_63 (by decide) (by omega) (fun h63 => ?_) (fun h63 => by omega)
    refine zq_iconst K dX3_remove_70 (v := nI 0) (by decide) ?_
    refine zm_pth K dX3_remove_71 zf_X3_55 hR hS (fun M hR hS => ?_)
    refine zq_aload_n K dX3_remove_74 rfl rfl ?_
    refine zm_th K dX3_remove_75 zf_X3_55 hR ?_
    refine zq_if_leN K (x := 0) 83 dX3_remove_78 (by decide) (by omega) (fun h78 => ?_) (fun h78 => by omega)
    refine zq_aload_n K dX3_remove_83 rfl rfl ?_
    refine zq_iload_n K dX3_remove_84 rfl rfl ?_
    refine zq_iload_n K dX3_remove_85 rfl rfl ?_
    refine zq_iload_n K dX3_remove_86 rfl rfl ?_
    refine zq_callV (As := [.int (nI (c')), .int (nI (d')), .int (nI (n'))]) K dX3_remove_87 zyX3_changes zm_X3_112 ziX3_changes zvX3_changes zclX3 rfl (by decide) rfl rfl (Nat.le_of_ble_eq_true rfl) (Nat.le_of_ble_eq_true rfl) hR.1 (ct_X3_changes hR (nI c') hd hn (hF.1 d' hd hl)) (zRP_r hS (fun M hR hS => ?_)) zRP_x (Nat.le_refl _)
    refine zq_aload_n K dX3_remove_90 rfl rfl ?_
    refine zm_ar K dX3_remove_91 zf_X3_24 (k := 6) (by decide) hR ?_
    refine zq_iload_n K dX3_remove_94 rfl rfl ?_
    refine zq_iload_n K dX3_remove_95 rfl rfl ?_
    refine zq_callS (As := [.int (nI (d')), .int (nI (n'))]) K dX3_remove_96 zyX3_at zm_X3_87 zsX3_at rfl (by decide) rfl rfl (Nat.le_of_ble_eq_true rfl) (Nat.le_of_ble_eq_true rfl) (ct_X3_at d' n' _) (zone_r ?_) zone_x (Nat.le_refl _)
    refine zq_iconst K dX3_remove_99 (v := -1) (by decide) ?_
    refine zm_st K (50 * d' + n') dX3_remove_100 (k := 6) (by decide) hR hS rfl (show 50 * d' + n' < 600 by omega) (fun M hR hS => ?_)
    refine zq_iload K dX3_remove_101 rfl ?_
    refine zq_iconst K dX3_remove_103 (v := -1) (by decide) ?_
    refine zq_icmp_ge K 203 dX3_remove_104 (by decide) (fun h104 => ?_) (fun h104 => absurd (zfv' f hf).1 h104)
    refine zq_iload K dX3_remove_203 rfl ?_
    exact zq_iret K dX3_remove_205 rfl ⟨rfl, hR, hS⟩
theorem ct_X3_remove_held {G : ZG} {M : ZM} {x : Nat} {q : Nat → Nat} {w : Int32} {A : ZA} (hR : zR M x q w A) (hW : zWf A) {c' d' n' : Nat} (hc : c' < 4) (hd : d' < 12) (hl : A.2 3 d' = 1) (hn : n' < 50) {e : Nat} (he : e < 12) (hs : A.2 6 (50 * d' + n') = -2 - nI e) (hm : zMv A) (h : zHd A e) : zMet G mX3_remove [.ref (x), .int (nI (c')), .int (nI (d')), .int (nI (n'))] M (zRP x q M (some (.int (nI 0))) (nI 3) A) := by
  refine zbody zyX3_remove [some (.ref (x)), some (.int (nI (c'))), some (.int (nI (d'))), some (.int (nI (n'))), none, none, none, none] rfl (Nat.le_of_ble_eq_true rfl) (by intro v hv; simp only [List.mem_cons, List.not_mem_nil, or_false] at hv; rcases hv with rfl | rfl | rfl | rfl <;> rfl) (fun E K => ?_)
  obtain ⟨⟨D, hB⟩, hF, hU⟩ := id hW
  have hg : zGd A (nI c') (nI d') (nI n') c' d' n' := ⟨rfl, hc, rfl, hd, hl, rfl, hn⟩
  have hS : zSm x q M M := zSm.rf
  refine zq_aload_n K dX3_remove_0 rfl rfl ?_
  refine zq_aload_n K dX3_remove_1 rfl rfl ?_
  refine zq_iload_n K dX3_remove_2 rfl rfl ?_
  refine zq_iload_n K dX3_remove_3 rfl rfl ?_
  refine zq_iload_n K dX3_remove_4 rfl rfl ?_
  refine zq_callV (As := [.int (nI (c')), .int (nI (d')), .int (nI (n'))]) K dX3_remove_5 zyX3_barsName zm_X3_102 ziX3_barsName zvX3_barsName zclX3 rfl (by decide) rfl rfl (Nat.le_of_ble_eq_true rfl) (Nat.le_of_ble_eq_true rfl) hR.1 (ct_X3_barsName_ok hR hB hg) (zone_r ?_) zone_x (Nat.le_refl _)
  refine zm_pth K dX3_remove_8 zf_X3_55 hR hS (fun M hR hS => ?_)
  refine zq_aload_n K dX3_remove_11 rfl rfl ?_
  refine zm_th K dX3_remove_12 zf_X3_55 hR ?_
  refine zq_if_leN K (x := 0) 20 dX3_remove_15 (by decide) (by omega) (fun h15 => ?_) (fun h15 => by omega)
  refine zq_aload_n K dX3_remove_20 rfl rfl ?_
  refine zm_ar K dX3_remove_21 zf_X3_24 (k := 6) (by decide) hR ?_
  refine zq_iload_n K dX3_remove_24 rfl rfl ?_
  refine zq_iload_n K dX3_remove_25 rfl rfl ?_
  refine zq_callS (As := [.int (nI (d')), .int (nI (n'))]) K dX3_remove_26 zyX3_at zm_X3_87 zsX3_at rfl (by decide) rfl rfl (Nat.le_of_ble_eq_true rfl) (Nat.le_of_ble_eq_true rfl) (ct_X3_at d' n' _) (zone_r ?_) zone_x (Nat.le_refl _)
  refine zm_ld K (50 * d' + n') dX3_remove_29 (k := 6) (by decide) hR rfl (show 50 * d' + n' < 600 by omega) ?_
  refine zq_top (v := -2 - nI e) hs ?_
  refine zq_istore K dX3_remove_30 (by decide) ?_
  refine zq_aload_n K dX3_remove_32 rfl rfl ?_
  refine zq_iload K dX3_remove_33 rfl ?_
  refine zq_iconst K dX3_remove_35 (v := -1) (by decide) ?_
  refine zq_icmp_eq K 66 dX3_remove_36 (by decide) (fun h36 => absurd h36 (zdv e he).2.2) (fun h36 => ?_)
  refine zq_iload K dX3_remove_39 rfl ?_
  refine zq_iconst K dX3_remove_41 (v := -1) (by decide) ?_
  refine zq_icmp_ge K 57 dX3_remove_42 (by decide) (fun h42 => absurd h42 (zdv e he).1) (fun h42 => ?_)
  refine zq_aload_n K dX3_remove_45 rfl rfl ?_
  refine zq_bipush K dX3_remove_46 (v := -2) (by decide) ?_
  refine zq_iload K dX3_remove_48 rfl ?_
  refine zq_isub K dX3_remove_50 ?_
  refine zq_top (v := nI (e)) (zdv e he).2.1 ?_
  refine zq_callV (As := [.int (nI (e))]) K dX3_remove_51 zyX3_isHeld zm_X3_133 ziX3_isHeld zvX3_isHeld zclX3 rfl (by decide) rfl rfl (Nat.le_of_ble_eq_true rfl) (Nat.le_of_ble_eq_true rfl) hR.1 (ct_X3_isHeld hR he hm) (zdec_r (fun hh => ?_) (fun hh => ?_)) zdec_x (Nat.le_refl _)
  · refine zq_if_neN K (x := 1) 66 dX3_remove_54 (by decide) (by omega) (fun h54 => ?_) (fun h54 => by omega)
    refine zq_iconst K dX3_remove_66 (v := nI 3) (by decide) ?_
    refine zq_goto K 71 dX3_remove_67 (by decide) ?_
    refine zm_pth K dX3_remove_71 zf_X3_55 hR hS (fun M hR hS => ?_)
    refine zq_aload_n K dX3_remove_74 rfl rfl ?_
    refine zm_th K dX3_remove_75 zf_X3_55 hR ?_
    refine zq_if_leN K (x := 3) 83 dX3_remove_78 (by decide) (by omega) (fun h78 => by omega) (fun h78 => ?_)
    refine zq_iconst K dX3_remove_81 (v := nI 0) (by decide) ?_
    exact zq_iret K dX3_remove_82 rfl ⟨rfl, hR, hS⟩
  · exact absurd h hh
theorem ct_X3_remove_dfz {G : ZG} {M : ZM} {x : Nat} {q : Nat → Nat} {w : Int32} {A : ZA} (hR : zR M x q w A) (hW : zWf A) {c' d' n' : Nat} (hc : c' < 4) (hd : d' < 12) (hl : A.2 3 d' = 1) (hn : n' < 50) {e : Nat} (he : e < 12) (hs : A.2 6 (50 * d' + n') = -2 - nI e) (hm : zMv A) (h : ¬ zHd A e) (h' : zfz A (zfn A d' n') = true) : zMet G mX3_remove [.ref (x), .int (nI (c')), .int (nI (d')), .int (nI (n'))] M (zRP x q M (some (.int (nI 0))) (nI 3) A) := by
  refine zbody zyX3_remove [some (.ref (x)), some (.int (nI (c'))), some (.int (nI (d'))), some (.int (nI (n'))), none, none, none, none] rfl (Nat.le_of_ble_eq_true rfl) (by intro v hv; simp only [List.mem_cons, List.not_mem_nil, or_false] at hv; rcases hv with rfl | rfl | rfl | rfl <;> rfl) (fun E K => ?_)
  obtain ⟨⟨D, hB⟩, hF, hU⟩ := id hW
  have hg : zGd A (nI c') (nI d') (nI n') c' d' n' := ⟨rfl, hc, rfl, hd, hl, rfl, hn⟩
  have hS : zSm x q M M := zSm.rf
  refine zq_aload_n K dX3_remove_0 rfl rfl ?_
  refine zq_aload_n K dX3_remove_1 rfl rfl ?_
  refine zq_iload_n K dX3_remove_2 rfl rfl ?_
  refine zq_iload_n K dX3_remove_3 rfl rfl ?_
  refine zq_iload_n K dX3_remove_4 rfl rfl ?_
  refine zq_callV (As := [.int (nI (c')), .int (nI (d')), .int (nI (n'))]) K dX3_remove_5 zyX3_barsName zm_X3_102 ziX3_barsName zvX3_barsName zclX3 rfl (by decide) rfl rfl (Nat.le_of_ble_eq_true rfl) (Nat.le_of_ble_eq_true rfl) hR.1 (ct_X3_barsName_ok hR hB hg) (zone_r ?_) zone_x (Nat.le_refl _)
  refine zm_pth K dX3_remove_8 zf_X3_55 hR hS (fun M hR hS => ?_)
  refine zq_aload_n K dX3_remove_11 rfl rfl ?_
  refine zm_th K dX3_remove_12 zf_X3_55 hR ?_
  refine zq_if_leN K (x := 0) 20 dX3_remove_15 (by decide) (by omega) (fun h15 => ?_) (fun h15 => by omega)
  refine zq_aload_n K dX3_remove_20 rfl rfl ?_
  refine zm_ar K dX3_remove_21 zf_X3_24 (k := 6) (by decide) hR ?_
  refine zq_iload_n K dX3_remove_24 rfl rfl ?_
  refine zq_iload_n K dX3_remove_25 rfl rfl ?_
  refine zq_callS (As := [.int (nI (d')), .int (nI (n'))]) K dX3_remove_26 zyX3_at zm_X3_87 zsX3_at rfl (by decide) rfl rfl (Nat.le_of_ble_eq_true rfl) (Nat.le_of_ble_eq_true rfl) (ct_X3_at d' n' _) (zone_r ?_) zone_x (Nat.le_refl _)
  refine zm_ld K (50 * d' + n') dX3_remove_29 (k := 6) (by decide) hR rfl (show 50 * d' + n' < 600 by omega) ?_
  refine zq_top (v := -2 - nI e) hs ?_
  refine zq_istore K dX3_remove_30 (by decide) ?_
  refine zq_aload_n K dX3_remove_32 rfl rfl ?_
  refine zq_iload K dX3_remove_33 rfl ?_
  refine zq_iconst K dX3_remove_35 (v := -1) (by decide) ?_
  refine zq_icmp_eq K 66 dX3_remove_36 (by decide) (fun h36 => absurd h36 (zdv e he).2.2) (fun h36 => ?_)
  refine zq_iload K dX3_remove_39 rfl ?_
  refine zq_iconst K dX3_remove_41 (v := -1) (by decide) ?_
  refine zq_icmp_ge K 57 dX3_remove_42 (by decide) (fun h42 => absurd h42 (zdv e he).1) (fun h42 => ?_)
  refine zq_aload_n K dX3_remove_45 rfl rfl ?_
  refine zq_bipush K dX3_remove_46 (v := -2) (by decide) ?_
  refine zq_iload K dX3_remove_48 rfl ?_
  refine zq_isub K dX3_remove_50 ?_
  refine zq_top (v := nI (e)) (zdv e he).2.1 ?_
  refine zq_callV (As := [.int (nI (e))]) K dX3_remove_51 zyX3_isHeld zm_X3_133 ziX3_isHeld zvX3_isHeld zclX3 rfl (by decide) rfl rfl (Nat.le_of_ble_eq_true rfl) (Nat.le_of_ble_eq_true rfl) hR.1 (ct_X3_isHeld hR he hm) (zdec_r (fun hh => ?_) (fun hh => ?_)) zdec_x (Nat.le_refl _)
  · exact absurd hh h
  · refine zq_if_neN K (x := 0) 66 dX3_remove_54 (by decide) (by omega) (fun h54 => by omega) (fun h54 => ?_)
    refine zq_aload_n K dX3_remove_57 rfl rfl ?_
    refine zq_iload_n K dX3_remove_58 rfl rfl ?_
    refine zq_iload_n K dX3_remove_59 rfl rfl ?_
    refine zq_callV (As := [.int (nI (d')), .int (nI (n'))]) K dX3_remove_60 zyX3_isFrozenName zm_X3_106 ziX3_isFrozenName zvX3_isFrozenName zclX3 rfl (by decide) rfl rfl (Nat.le_of_ble_eq_true rfl) (Nat.le_of_ble_eq_true rfl) hR.1 (ct_X3_isFrozenName hR hF (hU d' hd hl) hd hl hn) (zdec_r (fun hz => ?_) (fun hz => ?_)) zdec_x (Nat.le_refl _)
    · refine zq_if_eqN K (x := 1) 70 dX3_remove_63 (by decide) (by omega) (fun h63 => by omega) (fun h63 => ?_)
      refine zq_iconst K dX3_remove_66 (v := nI 3) (by decide) ?_
      refine zq_goto K 71 dX3_remove_67 (by decide) ?_
      refine zm_pth K dX3_remove_71 zf_X3_55 hR hS (fun M hR hS => ?_)
      refine zq_aload_n K dX3_remove_74 rfl rfl ?_
      refine zm_th K dX3_remove_75 zf_X3_55 hR ?_
      refine zq_if_leN K (x := 3) 83 dX3_remove_78 (by decide) (by omega) (fun h78 => by omega) (fun h78 => ?_)
      refine zq_iconst K dX3_remove_81 (v := nI 0) (by decide) ?_
      exact zq_iret K dX3_remove_82 rfl ⟨rfl, hR, hS⟩
    · exact absurd h' hz
theorem lp_X3_remove8 {G : ZG} {E : ZE} (K : zOK mX3_remove [] G E) {M0 : ZM} {x : Nat} {q : Nat → Nat} {w : Int32} {A : ZA} {e : Nat} (he : e < 12) {c d n its : Int32} {Q : State → Prop} (kk : ∀ M, zR M x q w (zZ8 A e (8)) → zSm x q M0 M → WW E G (zyu mX3_remove) Q M 0 152 [some (.ref (x)), some (.int (c)), some (.int (d)), some (.int (n)), some (.int (its)), some (.int (nI (e))), some (.int (nI (8))), none] []) : ∀ (n9 k : Nat), k + n9 = 8 → ∀ (M : ZM), zR M x q w (zZ8 A e (k)) → zSm x q M0 M → WW E G (zyu mX3_remove) Q M 0 125 [some (.ref (x)), some (.int (c)), some (.int (d)), some (.int (n)), some (.int (its)), some (.int (nI (e))), some (.int (nI (k))), none] [] := by
  intro n9
  induction n9 with
  | zero =>
    intro k hk M hR hS
    have hk4 : k = 8 := by omega
    subst hk4
    refine zq_iload K dX3_remove_125 rfl ?_
    refine zq_bipush K dX3_remove_127 (v := nI 8) (by decide) ?_
    refine zq_icmp_geN K (x := 8) (y := 8) 152 dX3_remove_129 (by decide) ⟨by omega, by omega⟩ (fun h129 => ?_) (fun h129 => by omega)
    exact kk M hR hS
  | succ n9 ih =>
    intro k hk M hR hS
    refine zq_iload K dX3_remove_125 rfl ?_
    refine zq_bipush K dX3_remove_127 (v := nI 8) (by decide) ?_
    refine zq_icmp_geN K (x := k) (y := 8) 152 dX3_remove_129 (by decide) ⟨by omega, by omega⟩ (fun h129 => by omega) (fun h129 => ?_)
    refine zq_aload_n K dX3_remove_132 rfl rfl ?_
    refine zm_ar K dX3_remove_133 zf_X3_30 (k := 10) (by decide) hR ?_
    refine zq_bipush K dX3_remove_136 (v := nI 8) (by decide) ?_
    refine zq_iload K dX3_remove_138 rfl ?_
    refine zq_imulN K (x := 8) (y := e) dX3_remove_140 ?_
    refine zq_iload K dX3_remove_141 rfl ?_
    refine zq_iaddN K (x := (8) * (e)) (y := k) dX3_remove_143 ?_
    refine zq_iconst K dX3_remove_144 (v := nI 0) (by decide) ?_
    refine zm_st K (((8) * (e)) + (k)) dX3_remove_145 (k := 10) (by decide) hR hS rfl (show ((8) * (e)) + (k) < 96 by omega) (fun M hR hS => ?_)
    refine zq_iincN K dX3_remove_146 rfl (by decide) ?_
    refine zq_goto K 125 dX3_remove_149 (by decide) ?_
    exact ih (k + 1) (by omega) M hR hS
theorem lp_X3_removeN {G : ZG} {E : ZE} (K : zOK mX3_remove [] G E) {M0 : ZM} {x : Nat} {q : Nat → Nat} {w : Int32} {A : ZA} {e b : Nat} (he : e < 12) (hb : b < 4) {c d n its : Int32} {Q : State → Prop} (kk : ∀ M, zR M x q w (zZu A e b (50)) → zSm x q M0 M → WW E G (zyu mX3_remove) Q M 0 197 [some (.ref (x)), some (.int (c)), some (.int (d)), some (.int (n)), some (.int (its)), some (.int (nI (e))), some (.int (nI (b))), some (.int (nI (50)))] []) : ∀ (n9 k : Nat), k + n9 = 50 → ∀ (M : ZM), zR M x q w (zZu A e b (k)) → zSm x q M0 M → WW E G (zyu mX3_remove) Q M 0 164 [some (.ref (x)), some (.int (c)), some (.int (d)), some (.int (n)), some (.int (its)), some (.int (nI (e))), some (.int (nI (b))), some (.int (nI (k)))] [] := by
  intro n9
  induction n9 with
  | zero =>
    intro k hk M hR hS
    have hk4 : k = 50 := by omega
    subst hk4
    refine zq_iload K dX3_remove_164 rfl ?_
    refine zq_bipush K dX3_remove_166 (v := nI 50) (by decide) ?_
    refine zq_icmp_geN K (x := 50) (y := 50) 197 dX3_remove_168 (by decide) ⟨by omega, by omega⟩ (fun h168 => ?_) (fun h168 => by omega)
    exact kk M hR hS
  | succ n9 ih =>
    intro k hk M hR hS
    refine zq_iload K dX3_remove_164 rfl ?_
    refine zq_bipush K dX3_remove_166 (v := nI 50) (by decide) ?_
    refine zq_icmp_geN K (x := k) (y := 50) 197 dX3_remove_168 (by decide) ⟨by omega, by omega⟩ (fun h168 => by omega) (fun h168 => ?_)
    refine zq_aload_n K dX3_remove_171 rfl rfl ?_
    refine zm_ar K dX3_remove_172 zf_X3_39 (k := 13) (by decide) hR ?_
    refine zq_sipush K dX3_remove_175 (v := nI 600) (by decide) ?_
    refine zq_iload K dX3_remove_178 rfl ?_
    refine zq_imulN K (x := 600) (y := b) dX3_remove_180 ?_
    refine zq_iload K dX3_remove_181 rfl ?_
    refine zq_iload K dX3_remove_183 rfl ?_
    refine zq_callS (As := [.int (nI (e)), .int (nI (k))]) K dX3_remove_185 zyX3_at zm_X3_87 zsX3_at rfl (by decide) rfl rfl (Nat.le_of_ble_eq_true rfl) (Nat.le_of_ble_eq_true rfl) (ct_X3_at e k _) (zone_r ?_) zone_x (Nat.le_refl _)
    refine zq_iaddN K (x := (600) * (b)) (y := 50 * e + k) dX3_remove_188 ?_
    refine zq_iconst K dX3_remove_189 (v := nI 0) (by decide) ?_
    refine zm_st K (((600) * (b)) + (50 * e + k)) dX3_remove_190 (k := 13) (by decide) hR hS rfl (show ((600) * (b)) + (50 * e + k) < 2400 by omega) (fun M hR hS => ?_)
    refine zq_iincN K dX3_remove_191 rfl (by decide) ?_
    refine zq_goto K 164 dX3_remove_194 (by decide) ?_
    exact ih (k + 1) (by omega) M hR hS
theorem lp_X3_removeC {G : ZG} {E : ZE} (K : zOK mX3_remove [] G E) {M0 : ZM} {x : Nat} {q : Nat → Nat} {w : Int32} {A : ZA} {e : Nat} (he : e < 12) {c d n its : Int32} {Q : State → Prop} (kk : ∀ (z7 : Option Value) M, zR M x q w (zZv A e (4)) → zSm x q M0 M → WW E G (zyu mX3_remove) Q M 0 203 [some (.ref (x)), some (.int (c)), some (.int (d)), some (.int (n)), some (.int (its)), some (.int (nI (e))), some (.int (nI (4))), z7] []) : ∀ (n9 k : Nat), k + n9 = 4 → ∀ (z7 : Option Value) (M : ZM), zR M x q w (zZv A e (k)) → zSm x q M0 M → WW E G (zyu mX3_remove) Q M 0 155 [some (.ref (x)), some (.int (c)), some (.int (d)), some (.int (n)), some (.int (its)), some (.int (nI (e))), some (.int (nI (k))), z7] [] := by
  intro n9
  induction n9 with
  | zero =>
    intro k hk z7 M hR hS
    have hk4 : k = 4 := by omega
    subst hk4
    refine zq_iload K dX3_remove_155 rfl ?_
    refine zq_iconst K dX3_remove_157 (v := nI 4) (by decide) ?_
    refine zq_icmp_geN K (x := 4) (y := 4) 203 dX3_remove_158 (by decide) ⟨by omega, by omega⟩ (fun h158 => ?_) (fun h158 => by omega)
    exact kk z7 M hR hS
  | succ n9 ih =>
    intro k hk z7 M hR hS
    refine zq_iload K dX3_remove_155 rfl ?_
    refine zq_iconst K dX3_remove_157 (v := nI 4) (by decide) ?_
    refine zq_icmp_geN K (x := k) (y := 4) 203 dX3_remove_158 (by decide) ⟨by omega, by omega⟩ (fun h158 => by omega) (fun h158 => ?_)
    refine zq_iconst K dX3_remove_161 (v := nI 0) (by decide) ?_
    refine zq_istore K dX3_remove_162 (by decide) ?_
    refine lp_X3_removeN K he (b := k) (by omega) (fun M hR hS => ?_) 50 0 rfl M hR hS
    refine zq_iincN K dX3_remove_197 rfl (by decide) ?_
    refine zq_goto K 155 dX3_remove_200 (by decide) ?_
    exact ih (k + 1) (by omega) _ M hR hS
theorem ct_X3_remove_dok {G : ZG} {M : ZM} {x : Nat} {q : Nat → Nat} {w : Int32} {A : ZA} (hR : zR M x q w A) (hW : zWf A) {c' d' n' : Nat} (hc : c' < 4) (hd : d' < 12) (hl : A.2 3 d' = 1) (hn : n' < 50) {e : Nat} (he : e < 12) (hs : A.2 6 (50 * d' + n') = -2 - nI e) (hm : zMv A) (h : ¬ zHd A e) (h' : ¬ zfz A (zfn A d' n') = true) : zMet G mX3_remove [.ref (x), .int (nI (c')), .int (nI (d')), .int (nI (n'))] M (zRP x q M (some (.int (-2 - nI e))) (nI 0) (zRd A c' d' n' e)) := by
  refine zbody zyX3_remove [some (.ref (x)), some (.int (nI (c'))), some (.int (nI (d'))), some (.int (nI (n'))), none, none, none, none] rfl (Nat.le_of_ble_eq_true rfl) (by intro v hv; simp only [List.mem_cons, List.not_mem_nil, or_false] at hv; rcases hv with rfl | rfl | rfl | rfl <;> rfl) (fun E K => ?_)
  obtain ⟨⟨D, hB⟩, hF, hU⟩ := id hW
  have hg : zGd A (nI c') (nI d') (nI n') c' d' n' := ⟨rfl, hc, rfl, hd, hl, rfl, hn⟩
  have hS : zSm x q M M := zSm.rf
  refine zq_aload_n K dX3_remove_0 rfl rfl ?_
  refine zq_aload_n K dX3_remove_1 rfl rfl ?_
  refine zq_iload_n K dX3_remove_2 rfl rfl ?_
  refine zq_iload_n K dX3_remove_3 rfl rfl ?_
  refine zq_iload_n K dX3_remove_4 rfl rfl ?_
  refine zq_callV (As := [.int (nI (c')), .int (nI (d')), .int (nI (n'))]) K dX3_remove_5 zyX3_barsName zm_X3_102 ziX3_barsName zvX3_barsName zclX3 rfl (by decide) rfl rfl (Nat.le_of_ble_eq_true rfl) (Nat.le_of_ble_eq_true rfl) hR.1 (ct_X3_barsName_ok hR hB hg) (zone_r ?_) zone_x (Nat.le_refl _)
  refine zm_pth K dX3_remove_8 zf_X3_55 hR hS (fun M hR hS => ?_)
  refine zq_aload_n K dX3_remove_11 rfl rfl ?_
  refine zm_th K dX3_remove_12 zf_X3_55 hR ?_
  refine zq_if_leN K (x := 0) 20 dX3_remove_15 (by decide) (by omega) (fun h15 => ?_) (fun h15 => by omega)
  refine zq_aload_n K dX3_remove_20 rfl rfl ?_
  refine zm_ar K dX3_remove_21 zf_X3_24 (k := 6) (by decide) hR ?_
  refine zq_iload_n K dX3_remove_24 rfl rfl ?_
  refine zq_iload_n K dX3_remove_25 rfl rfl ?_
  refine zq_callS (As := [.int (nI (d')), .int (nI (n'))]) K dX3_remove_26 zyX3_at zm_X3_87 zsX3_at rfl (by decide) rfl rfl (Nat.le_of_ble_eq_true rfl) (Nat.le_of_ble_eq_true rfl) (ct_X3_at d' n' _) (zone_r ?_) zone_x (Nat.le_refl _)
  refine zm_ld K (50 * d' + n') dX3_remove_29 (k := 6) (by decide) hR rfl (show 50 * d' + n' < 600 by omega) ?_
  refine zq_top (v := -2 - nI e) hs ?_
  refine zq_istore K dX3_remove_30 (by decide) ?_
  refine zq_aload_n K dX3_remove_32 rfl rfl ?_
  refine zq_iload K dX3_remove_33 rfl ?_
  refine zq_iconst K dX3_remove_35 (v := -1) (by decide) ?_
  refine zq_icmp_eq K 66 dX3_remove_36 (by decide) (fun h36 => absurd h36 (zdv e he).2.2) (fun h36 => ?_)
  refine zq_iload K dX3_remove_39 rfl ?_
  refine zq_iconst K dX3_remove_41 (v := -1) (by decide) ?_
  refine zq_icmp_ge K 57 dX3_remove_42 (by decide) (fun h42 => absurd h42 (zdv e he).1) (fun h42 => ?_)
  refine zq_aload_n K dX3_remove_45 rfl rfl ?_
  refine zq_bipush K dX3_remove_46 (v := -2) (by decide) ?_
  refine zq_iload K dX3_remove_48 rfl ?_
  refine zq_isub K dX3_remove_50 ?_
  refine zq_top (v := nI (e)) (zdv e he).2.1 ?_
  refine zq_callV (As := [.int (nI (e))]) K dX3_remove_51 zyX3_isHeld zm_X3_133 ziX3_isHeld zvX3_isHeld zclX3 rfl (by decide) rfl rfl (Nat.le_of_ble_eq_true rfl) (Nat.le_of_ble_eq_true rfl) hR.1 (ct_X3_isHeld hR he hm) (zdec_r (fun hh => ?_) (fun hh => ?_)) zdec_x (Nat.le_refl _)
  · exact absurd hh h
  · refine zq_if_neN K (x := 0) 66 dX3_remove_54 (by decide) (by omega) (fun h54 => by omega) (fun h54 => ?_)
    refine zq_aload_n K dX3_remove_57 rfl rfl ?_
    refine zq_iload_n K dX3_remove_58 rfl rfl ?_
    refine zq_iload_n K dX3_remove_59 rfl rfl ?_
    refine zq_callV (As := [.int (nI (d')), .int (nI (n'))]) K dX3_remove_60 zyX3_isFrozenName zm_X3_106 ziX3_isFrozenName zvX3_isFrozenName zclX3 rfl (by decide) rfl rfl (Nat.le_of_ble_eq_true rfl) (Nat.le_of_ble_eq_true rfl) hR.1 (ct_X3_isFrozenName hR hF (hU d' hd hl) hd hl hn) (zdec_r (fun hz => ?_) (fun hz => ?_)) zdec_x (Nat.le_refl _)
    · exact absurd hz h'
    · refine zq_if_eqN K (x := 0) 70 dX3_remove_63 (by decide) (by omega) (fun h63 => ?_) (fun h63 => by omega)
      refine zq_iconst K dX3_remove_70 (v := nI 0) (by decide) ?_
      refine zm_pth K dX3_remove_71 zf_X3_55 hR hS (fun M hR hS => ?_)
      refine zq_aload_n K dX3_remove_74 rfl rfl ?_
      refine zm_th K dX3_remove_75 zf_X3_55 hR ?_
      refine zq_if_leN K (x := 0) 83 dX3_remove_78 (by decide) (by omega) (fun h78 => ?_) (fun h78 => by omega)
      refine zq_aload_n K dX3_remove_83 rfl rfl ?_
      refine zq_iload_n K dX3_remove_84 rfl rfl ?_
      refine zq_iload_n K dX3_remove_85 rfl rfl ?_
      refine zq_iload_n K dX3_remove_86 rfl rfl ?_
      refine zq_callV (As := [.int (nI (c')), .int (nI (d')), .int (nI (n'))]) K dX3_remove_87 zyX3_changes zm_X3_112 ziX3_changes zvX3_changes zclX3 rfl (by decide) rfl rfl (Nat.le_of_ble_eq_true rfl) (Nat.le_of_ble_eq_true rfl) hR.1 (ct_X3_changes hR (nI c') hd hn (hF.1 d' hd hl)) (zRP_r hS (fun M hR hS => ?_)) zRP_x (Nat.le_refl _)
      refine zq_aload_n K dX3_remove_90 rfl rfl ?_
      refine zm_ar K dX3_remove_91 zf_X3_24 (k := 6) (by decide) hR ?_
      refine zq_iload_n K dX3_remove_94 rfl rfl ?_
      refine zq_iload_n K dX3_remove_95 rfl rfl ?_
      refine zq_callS (As := [.int (nI (d')), .int (nI (n'))]) K dX3_remove_96 zyX3_at zm_X3_87 zsX3_at rfl (by decide) rfl rfl (Nat.le_of_ble_eq_true rfl) (Nat.le_of_ble_eq_true rfl) (ct_X3_at d' n' _) (zone_r ?_) zone_x (Nat.le_refl _)
      refine zq_iconst K dX3_remove_99 (v := -1) (by decide) ?_
      refine zm_st K (50 * d' + n') dX3_remove_100 (k := 6) (by decide) hR hS rfl (show 50 * d' + n' < 600 by omega) (fun M hR hS => ?_)
      refine zq_iload K dX3_remove_101 rfl ?_
      refine zq_iconst K dX3_remove_103 (v := -1) (by decide) ?_
      refine zq_icmp_ge K 203 dX3_remove_104 (by decide) (fun h104 => absurd h104 (zdv e he).1) (fun h104 => ?_)
      refine zq_bipush K dX3_remove_107 (v := -2) (by decide) ?_
      refine zq_iload K dX3_remove_109 rfl ?_
      refine zq_isub K dX3_remove_111 ?_
      refine zq_top (v := nI (e)) (zdv e he).2.1 ?_
      refine zq_istore K dX3_remove_112 (by decide) ?_
      refine zq_aload_n K dX3_remove_114 rfl rfl ?_
      refine zm_ar K dX3_remove_115 zf_X3_13 (k := 3) (by decide) hR ?_
      refine zq_iload K dX3_remove_118 rfl ?_
      refine zq_iconst K dX3_remove_120 (v := nI 0) (by decide) ?_
      refine zm_sz K (e) dX3_remove_121 hR hS rfl (show e < 12 by omega) (by decide) (fun M hR hS => ?_)
      refine zq_iconst K dX3_remove_122 (v := nI 0) (by decide) ?_
      refine zq_istore K dX3_remove_123 (by decide) ?_
      refine lp_X3_remove8 K he (fun M hR hS => ?_) 8 0 rfl M hR hS
      refine zq_iconst K dX3_remove_152 (v := nI 0) (by decide) ?_
      refine zq_istore K dX3_remove_153 (by decide) ?_
      refine lp_X3_removeC K he (fun z7 M hR hS => ?_) 4 0 rfl _ M hR hS
      exact zq_iload K dX3_remove_203 rfl (zq_iret K dX3_remove_205 rfl ⟨rfl, hR, hS⟩)
/-- does the way up from d meet top -/
def zblN (A : ZA) : Nat → Nat → Nat → Bool
  | 0, d, e => decide (d = e)
  | k + 1, d, e => if d = 0 ∨ d = e then decide (d = e) else zblN A k (zpar A d) e
theorem lp_X3_isBelow {G : ZG} {E : ZE} (K : zOK mX3_isBelow [] G E) {M : ZM} {x : Nat} {q : Nat → Nat} {w : Int32} {A : ZA} (hR : zR M x q w A) {y : Int32} {e : Nat} (he : e < 12) {P : ZO → ZM → Prop} : ∀ (k d : Nat), zDp A k d → d < 12 → (zblN A k d e = true → P (.inl (some (.int (nI 1)))) M) → (zblN A k d e = false → P (.inl (some (.int (nI 0)))) M) → WW E G (zyu mX3_isBelow) (zQ E G mX3_isBelow P) M 0 2 [some (.ref x), some (.int y), some (.int (nI e)), some (.int (nI d))] [] := by
  intro k
  induction k with
  | zero =>
    intro d hx hd k1 k0
    have hd0 : d = 0 := hx
    subst hd0
    refine zq_iload_n K dX3_isBelow_2 rfl rfl ?_
    refine zq_if_eqN K (x := 0) 21 dX3_isBelow_3 (by decide) (by omega) (fun h3 => ?_) (fun h3 => by omega)
    refine zq_iload_n K dX3_isBelow_21 rfl rfl ?_
    refine zq_iload_n K dX3_isBelow_22 rfl rfl ?_
    refine zq_icmp_neN K (x := 0) (y := e) 30 dX3_isBelow_23 (by decide) ⟨by omega, by omega⟩ (fun h23 => ?_) (fun h23 => ?_)
    · refine zq_iconst K dX3_isBelow_30 (v := nI 0) (by decide) ?_
      exact zq_zret K dX3_isBelow_31 rfl (by decide) (k0 (decide_eq_false h23))
    · refine zq_iconst K dX3_isBelow_26 (v := nI 1) (by decide) ?_
      refine zq_goto K 31 dX3_isBelow_27 (by decide) ?_
      exact zq_zret K dX3_isBelow_31 rfl (by decide) (k1 (decide_eq_true h23))
  | succ k ih =>
    intro d hx hd k1 k0
    refine zq_iload_n K dX3_isBelow_2 rfl rfl ?_
    refine zq_if_eqN K (x := d) 21 dX3_isBelow_3 (by decide) (by omega) (fun h3 => ?_) (fun h3 => ?_)
    · refine zq_iload_n K dX3_isBelow_21 rfl rfl ?_
      refine zq_iload_n K dX3_isBelow_22 rfl rfl ?_
      refine zq_icmp_neN K (x := d) (y := e) 30 dX3_isBelow_23 (by decide) ⟨by omega, by omega⟩ (fun h23 => ?_) (fun h23 => ?_)
      · refine zq_iconst K dX3_isBelow_30 (v := nI 0) (by decide) ?_
        exact zq_zret K dX3_isBelow_31 rfl (by decide) (k0 (by rw [zblN, if_pos (Or.inl h3)]; exact decide_eq_false h23))
      · refine zq_iconst K dX3_isBelow_26 (v := nI 1) (by decide) ?_
        refine zq_goto K 31 dX3_isBelow_27 (by decide) ?_
        exact zq_zret K dX3_isBelow_31 rfl (by decide) (k1 (by rw [zblN, if_pos (Or.inl h3)]; exact decide_eq_true h23))
    · refine zq_iload_n K dX3_isBelow_6 rfl rfl ?_
      refine zq_iload_n K dX3_isBelow_7 rfl rfl ?_
      refine zq_icmp_eqN K (x := d) (y := e) 21 dX3_isBelow_8 (by decide) ⟨by omega, by omega⟩ (fun h8 => ?_) (fun h8 => ?_)
      · refine zq_iload_n K dX3_isBelow_21 rfl rfl ?_
        refine zq_iload_n K dX3_isBelow_22 rfl rfl ?_
        refine zq_icmp_neN K (x := d) (y := e) 30 dX3_isBelow_23 (by decide) ⟨by omega, by omega⟩ (fun h23 => ?_) (fun h23 => ?_)
        · refine zq_iconst K dX3_isBelow_30 (v := nI 0) (by decide) ?_
          exact zq_zret K dX3_isBelow_31 rfl (by decide) (k0 (by rw [zblN, if_pos (Or.inr h8)]; exact decide_eq_false h23))
        · refine zq_iconst K dX3_isBelow_26 (v := nI 1) (by decide) ?_
          refine zq_goto K 31 dX3_isBelow_27 (by decide) ?_
          exact zq_zret K dX3_isBelow_31 rfl (by decide) (k1 (by rw [zblN, if_pos (Or.inr h8)]; exact decide_eq_true h23))
      · obtain ⟨hu, hx1⟩ := hx.resolve_left h3
        rw [show zblN A (k + 1) d e = zblN A k (zpar A d) e from if_neg (fun z => z.elim h3 h8)] at k1 k0
        refine zq_aload_n K dX3_isBelow_11 rfl rfl ?_
        refine zm_ar K dX3_isBelow_12 zf_X3_17 (k := 4) (by decide) hR ?_
        refine zq_iload_n K dX3_isBelow_15 rfl rfl ?_
        refine zm_ld K (d) dX3_isBelow_16 (k := 4) (by decide) hR rfl (show d < 12 by omega) ?_
        refine zq_top (v := nI (zpar A d)) hu.1 ?_
        refine zq_istore_n K dX3_isBelow_17 rfl (by decide) ?_
        refine zq_goto K 2 dX3_isBelow_18 (by decide) ?_
        exact ih (zpar A d) hx1 hu.2.1 k1 k0
theorem ct_X3_isBelow {G : ZG} {M : ZM} {x : Nat} {q : Nat → Nat} {w : Int32} {A : ZA} (hR : zR M x q w A) {d e : Nat} (hd : d < 12) (he : e < 12) (hx : zDp A 11 d) : zMet G mX3_isBelow [.ref (x), .int (nI (d)), .int (nI (e))] M (zdec (zblN A 11 d e = true) M) := by
  refine zbody zyX3_isBelow [some (.ref (x)), some (.int (nI (d))), some (.int (nI (e))), none] rfl (Nat.le_of_ble_eq_true rfl) (by intro v hv; simp only [List.mem_cons, List.not_mem_nil, or_false] at hv; rcases hv with rfl | rfl | rfl <;> rfl) (fun E K => ?_)
  refine zq_iload_n K dX3_isBelow_0 rfl rfl ?_
  refine zq_istore_n K dX3_isBelow_1 rfl (by decide) ?_
  exact lp_X3_isBelow K hR he 11 d hx hd (fun h => zdec_1 h) (fun h => zdec_0 (fun z => Bool.false_ne_true (h.symm.trans z)))
/-- a link is renamed; a directory e is -/
def zRn (A : ZA) (c d n d2 n2 : Nat) : ZA := zsa (zsa (zsa (zCh (zCh A (nI c) d n) (nI c) d2 n2) 6 (50 * d + n) (-1)) 6 (50 * d2 + n2) (A.2 6 (50 * d + n))) 7 (50 * d2 + n2) (A.2 7 (50 * d + n))
def zRe (A : ZA) (c d n d2 n2 e : Nat) : ZA := zsa (zsa (zRn A c d n d2 n2) 4 e (nI d2)) 5 e (nI n2)
theorem ct_X3_rename_1 {G : ZG} {M : ZM} {x : Nat} {q : Nat → Nat} {w : Int32} {A : ZA} (hR : zR M x q w A) (hW : zWf A) {c d n d2 n2 : Int32} (h : ¬ (zOn c 3 ∧ zOn n 49 ∧ zOn n2 49)) : zMet G mX3_rename [.ref (x), .int (c), .int (d), .int (n), .int (d2), .int (n2)] M (zRP x q M none (nI 1) A) := by
  refine zbody zyX3_rename [some (.ref (x)), some (.int (c)), some (.int (d)), some (.int (n)), some (.int (d2)), some (.int (n2)), none, none, none] rfl (Nat.le_of_ble_eq_true rfl) (by intro v hv; simp only [List.mem_cons, List.not_mem_nil, or_false] at hv; rcases hv with rfl | rfl | rfl | rfl | rfl | rfl <;> rfl) (fun E K => ?_)
  obtain ⟨⟨D, hB⟩, hF, hU⟩ := id hW
  have hS : zSm x q M M := zSm.rf
  refine zq_iload_n K dX3_rename_0 rfl rfl ?_
  refine zq_callS (As := [.int (c)]) K dX3_rename_1 zyX3_isClient zm_X3_93 zsX3_isClient rfl (by decide) rfl rfl (Nat.le_of_ble_eq_true rfl) (Nat.le_of_ble_eq_true rfl) (ct_X3_isClient c M) (zdec_r (fun hc => ?_) (fun hc => ?_)) zdec_x (Nat.le_refl _)
  · refine zq_if_eqN K (x := 1) 26 dX3_rename_4 (by decide) (by omega) (fun h4 => by omega) (fun h4 => ?_)
    refine zq_iload_n K dX3_rename_7 rfl rfl ?_
    refine zq_callS (As := [.int (n)]) K dX3_rename_8 zyX3_isName zm_X3_96 zsX3_isName rfl (by decide) rfl rfl (Nat.le_of_ble_eq_true rfl) (Nat.le_of_ble_eq_true rfl) (ct_X3_isName n M) (zdec_r (fun hn => ?_) (fun hn => ?_)) zdec_x (Nat.le_refl _)
    · refine zq_if_eqN K (x := 1) 26 dX3_rename_11 (by decide) (by omega) (fun h11 => by omega) (fun h11 => ?_)
      refine zq_iload K dX3_rename_14 rfl ?_
      refine zq_callS (As := [.int (n2)]) K dX3_rename_16 zyX3_isName zm_X3_96 zsX3_isName rfl (by decide) rfl rfl (Nat.le_of_ble_eq_true rfl) (Nat.le_of_ble_eq_true rfl) (ct_X3_isName n2 M) (zdec_r (fun hn2 => ?_) (fun hn2 => ?_)) zdec_x (Nat.le_refl _)
      · refine zq_if_eqN K (x := 1) 26 dX3_rename_19 (by decide) (by omega) (fun h19 => by omega) (fun h19 => ?_)
        exact absurd ⟨hc, hn, hn2⟩ h
      · refine zq_if_eqN K (x := 0) 26 dX3_rename_19 (by decide) (by omega) (fun h19 => ?_) (fun h19 => by omega)
        refine zq_iconst K dX3_rename_26 (v := nI 0) (by decide) ?_
        refine zq_istore K dX3_rename_27 (by decide) ?_
        refine zq_aload_n K dX3_rename_29 rfl rfl ?_
        refine zq_iload K dX3_rename_30 rfl ?_
        refine zq_if_neN K (x := 0) 39 dX3_rename_32 (by decide) (by omega) (fun h32 => by omega) (fun h32 => ?_)
        refine zq_iconst K dX3_rename_35 (v := nI 1) (by decide) ?_
        refine zq_goto K 61 dX3_rename_36 (by decide) ?_
        refine zm_pth K dX3_rename_61 zf_X3_55 hR hS (fun M hR hS => ?_)
        refine zq_aload_n K dX3_rename_64 rfl rfl ?_
        refine zm_th K dX3_rename_65 zf_X3_55 hR ?_
        refine zq_if_leN K (x := 1) 72 dX3_rename_68 (by decide) (by omega) (fun h68 => by omega) (fun h68 => ?_)
        exact zq_ret K dX3_rename_71 rfl ⟨rfl, hR, hS⟩
    · refine zq_if_eqN K (x := 0) 26 dX3_rename_11 (by decide) (by omega) (fun h11 => ?_) (fun h11 => by omega)
      refine zq_iconst K dX3_rename_26 (v := nI 0) (by decide) ?_
      refine zq_istore K dX3_rename_27 (by decide) ?_
      refine zq_aload_n K dX3_rename_29 rfl rfl ?_
      refine zq_iload K dX3_rename_30 rfl ?_
      refine zq_if_neN K (x := 0) 39 dX3_rename_32 (by decide) (by omega) (fun h32 => by omega) (fun h32 => ?_)
      refine zq_iconst K dX3_rename_35 (v := nI 1) (by decide) ?_
      refine zq_goto K 61 dX3_rename_36 (by decide) ?_
      refine zm_pth K dX3_rename_61 zf_X3_55 hR hS (fun M hR hS => ?_)
      refine zq_aload_n K dX3_rename_64 rfl rfl ?_
      refine zm_th K dX3_rename_65 zf_X3_55 hR ?_
      refine zq_if_leN K (x := 1) 72 dX3_rename_68 (by decide) (by omega) (fun h68 => by omega) (fun h68 => ?_)
      exact zq_ret K dX3_rename_71 rfl ⟨rfl, hR, hS⟩
  · refine zq_if_eqN K (x := 0) 26 dX3_rename_4 (by decide) (by omega) (fun h4 => ?_) (fun h4 => by omega)
    refine zq_iconst K dX3_rename_26 (v := nI 0) (by decide) ?_
    refine zq_istore K dX3_rename_27 (by decide) ?_
    refine zq_aload_n K dX3_rename_29 rfl rfl ?_
    refine zq_iload K dX3_rename_30 rfl ?_
    refine zq_if_neN K (x := 0) 39 dX3_rename_32 (by decide) (by omega) (fun h32 => by omega) (fun h32 => ?_)
    refine zq_iconst K dX3_rename_35 (v := nI 1) (by decide) ?_
    refine zq_goto K 61 dX3_rename_36 (by decide) ?_
    refine zm_pth K dX3_rename_61 zf_X3_55 hR hS (fun M hR hS => ?_)
    refine zq_aload_n K dX3_rename_64 rfl rfl ?_
    refine zm_th K dX3_rename_65 zf_X3_55 hR ?_
    refine zq_if_leN K (x := 1) 72 dX3_rename_68 (by decide) (by omega) (fun h68 => by omega) (fun h68 => ?_)
    exact zq_ret K dX3_rename_71 rfl ⟨rfl, hR, hS⟩
theorem ct_X3_rename_2 {G : ZG} {M : ZM} {x : Nat} {q : Nat → Nat} {w : Int32} {A : ZA} (hR : zR M x q w A) (hW : zWf A) {c d n d2 n2 : Int32} (h : zOn c 3 ∧ zOn n 49 ∧ zOn n2 49) (h' : ¬ (zIsD A d ∧ zIsD A d2)) : zMet G mX3_rename [.ref (x), .int (c), .int (d), .int (n), .int (d2), .int (n2)] M (zRP x q M none (nI 2) A) := by
  refine zbody zyX3_rename [some (.ref (x)), some (.int (c)), some (.int (d)), some (.int (n)), some (.int (d2)), some (.int (n2)), none, none, none] rfl (Nat.le_of_ble_eq_true rfl) (by intro v hv; simp only [List.mem_cons, List.not_mem_nil, or_false] at hv; rcases hv with rfl | rfl | rfl | rfl | rfl | rfl <;> rfl) (fun E K => ?_)
  obtain ⟨⟨D, hB⟩, hF, hU⟩ := id hW
  have hS : zSm x q M M := zSm.rf
  refine zq_iload_n K dX3_rename_0 rfl rfl ?_
  refine zq_callS (As := [.int (c)]) K dX3_rename_1 zyX3_isClient zm_X3_93 zsX3_isClient rfl (by decide) rfl rfl (Nat.le_of_ble_eq_true rfl) (Nat.le_of_ble_eq_true rfl) (ct_X3_isClient c M) (zdec_r (fun hc => ?_) (fun hc => ?_)) zdec_x (Nat.le_refl _)
  · refine zq_if_eqN K (x := 1) 26 dX3_rename_4 (by decide) (by omega) (fun h4 => by omega) (fun h4 => ?_)
    refine zq_iload_n K dX3_rename_7 rfl rfl ?_
    refine zq_callS (As := [.int (n)]) K dX3_rename_8 zyX3_isName zm_X3_96 zsX3_isName rfl (by decide) rfl rfl (Nat.le_of_ble_eq_true rfl) (Nat.le_of_ble_eq_true rfl) (ct_X3_isName n M) (zdec_r (fun hn => ?_) (fun hn => ?_)) zdec_x (Nat.le_refl _)
    · refine zq_if_eqN K (x := 1) 26 dX3_rename_11 (by decide) (by omega) (fun h11 => by omega) (fun h11 => ?_)
      refine zq_iload K dX3_rename_14 rfl ?_
      refine zq_callS (As := [.int (n2)]) K dX3_rename_16 zyX3_isName zm_X3_96 zsX3_isName rfl (by decide) rfl rfl (Nat.le_of_ble_eq_true rfl) (Nat.le_of_ble_eq_true rfl) (ct_X3_isName n2 M) (zdec_r (fun hn2 => ?_) (fun hn2 => ?_)) zdec_x (Nat.le_refl _)
      · refine zq_if_eqN K (x := 1) 26 dX3_rename_19 (by decide) (by omega) (fun h19 => by omega) (fun h19 => ?_)
        refine zq_iconst K dX3_rename_22 (v := nI 1) (by decide) ?_
        refine zq_goto K 27 dX3_rename_23 (by decide) ?_
        refine zq_istore K dX3_rename_27 (by decide) ?_
        refine zq_aload_n K dX3_rename_29 rfl rfl ?_
        refine zq_iload K dX3_rename_30 rfl ?_
        refine zq_if_neN K (x := 1) 39 dX3_rename_32 (by decide) (by omega) (fun h32 => ?_) (fun h32 => by omega)
        refine zq_aload_n K dX3_rename_39 rfl rfl ?_
        refine zq_iload_n K dX3_rename_40 rfl rfl ?_
        refine zq_callV (As := [.int (d)]) K dX3_rename_41 zyX3_isDirectory zm_X3_99 ziX3_isDirectory zvX3_isDirectory zclX3 rfl (by decide) rfl rfl (Nat.le_of_ble_eq_true rfl) (Nat.le_of_ble_eq_true rfl) hR.1 (ct_X3_isDirectory hR hB d) (zdec_r (fun hd => ?_) (fun hd => ?_)) zdec_x (Nat.le_refl _)
        · refine zq_if_eqN K (x := 1) 56 dX3_rename_44 (by decide) (by omega) (fun h44 => by omega) (fun h44 => ?_)
          refine zq_aload_n K dX3_rename_47 rfl rfl ?_
          refine zq_iload K dX3_rename_48 rfl ?_
          refine zq_callV (As := [.int (d2)]) K dX3_rename_50 zyX3_isDirectory zm_X3_99 ziX3_isDirectory zvX3_isDirectory zclX3 rfl (by decide) rfl rfl (Nat.le_of_ble_eq_true rfl) (Nat.le_of_ble_eq_true rfl) hR.1 (ct_X3_isDirectory hR hB d2) (zdec_r (fun hd2 => ?_) (fun hd2 => ?_)) zdec_x (Nat.le_refl _)
          · refine zq_if_neN K (x := 1) 60 dX3_rename_53 (by decide) (by omega) (fun h53 => ?_) (fun h53 => by omega)
            exact absurd ⟨hd, hd2⟩ h'
          · refine zq_if_neN K (x := 0) 60 dX3_rename_53 (by decide) (by omega) (fun h53 => by omega) (fun h53 => ?_)
            refine zq_iconst K dX3_rename_56 (v := nI 2) (by decide) ?_
            refine zq_goto K 61 dX3_rename_57 (by decide) ?_
            refine zm_pth K dX3_rename_61 zf_X3_55 hR hS (fun M hR hS => ?_)
            refine zq_aload_n K dX3_rename_64 rfl rfl ?_
            refine zm_th K dX3_rename_65 zf_X3_55 hR ?_
            refine zq_if_leN K (x := 2) 72 dX3_rename_68 (by decide) (by omega) (fun h68 => by omega) (fun h68 => ?_)
            exact zq_ret K dX3_rename_71 rfl ⟨rfl, hR, hS⟩
        · refine zq_if_eqN K (x := 0) 56 dX3_rename_44 (by decide) (by omega) (fun h44 => ?_) (fun h44 => by omega)
          refine zq_iconst K dX3_rename_56 (v := nI 2) (by decide) ?_
          refine zq_goto K 61 dX3_rename_57 (by decide) ?_
          refine zm_pth K dX3_rename_61 zf_X3_55 hR hS (fun M hR hS => ?_)
          refine zq_aload_n K dX3_rename_64 rfl rfl ?_
          refine zm_th K dX3_rename_65 zf_X3_55 hR ?_
          refine zq_if_leN K (x := 2) 72 dX3_rename_68 (by decide) (by omega) (fun h68 => by omega) (fun h68 => ?_)
          exact zq_ret K dX3_rename_71 rfl ⟨rfl, hR, hS⟩
      · refine zq_if_eqN K (x := 0) 26 dX3_rename_19 (by decide) (by omega) (fun h19 => ?_) (fun h19 => by omega)
        exact absurd h.2.2 hn2
    · refine zq_if_eqN K (x := 0) 26 dX3_rename_11 (by decide) (by omega) (fun h11 => ?_) (fun h11 => by omega)
      exact absurd h.2.1 hn
  · refine zq_if_eqN K (x := 0) 26 dX3_rename_4 (by decide) (by omega) (fun h4 => ?_) (fun h4 => by omega)
    exact absurd h.1 hc

/-! the reference: time, leases, fragments, servers -/
theorem zsc_id (A : ZA) (k : Nat) : zsc A k (A.1 k) = A := by
  unfold zsc
  refine Prod.ext (funext fun j => ?_) rfl
  show (if j = k then A.1 k else A.1 j) = A.1 j
  split
  · rename_i e
    rw [e]
  · rfl
theorem zadd0 (v : Int32) : v + nI 0 = v := by rw [nI_0]; exact Int32.add_zero v
theorem ct_X3_pass_bad {G : ZG} {M : ZM} {x : Nat} {q : Nat → Nat} {w : Int32} {A : ZA} (hR : zR M x q w A) {m : Int32} (h : ¬ (nI 1 ≤ m ∧ m ≤ nI 100)) : zMet G mX3_pass [.ref (x), .int (m)] M (zRP x q M (some (.int (nI 0))) (nI 1) A) := by
  refine zbody zyX3_pass [some (.ref (x)), some (.int (m))] rfl (Nat.le_of_ble_eq_true rfl) (by intro v hv; simp only [List.mem_cons, List.not_mem_nil, or_false] at hv; rcases hv with rfl | rfl <;> rfl) (fun E K => ?_)
  have hS : zSm x q M M := zSm.rf
  refine zq_aload_n K dX3_pass_0 rfl rfl ?_
  refine zq_iload_n K dX3_pass_1 rfl rfl ?_
  refine zq_iconst K dX3_pass_2 (v := nI 1) (by decide) ?_
  refine zq_bipush K dX3_pass_3 (v := nI 100) (by decide) ?_
  refine zq_callS (As := [.int (m), .int (nI (1)), .int (nI (100))]) K dX3_pass_5 zyX3_in zm_X3_58 zsX3_in rfl (by decide) rfl rfl (Nat.le_of_ble_eq_true rfl) (Nat.le_of_ble_eq_true rfl) (ct_X3_in m (nI 1) (nI 100) M) (zdec_r (fun hm => ?_) (fun hm => ?_)) zdec_x (Nat.le_refl _)
  · refine zq_if_eqN K (x := 1) 15 dX3_pass_8 (by decide) (by omega) (fun h8 => by omega) (fun h8 => ?_)
    exact absurd hm h
  · refine zq_if_eqN K (x := 0) 15 dX3_pass_8 (by decide) (by omega) (fun h8 => ?_) (fun h8 => by omega)
    refine zq_iconst K dX3_pass_15 (v := nI 1) (by decide) ?_
    refine zm_pth K dX3_pass_16 zf_X3_55 hR hS (fun M hR hS => ?_)
    refine zq_aload_n K dX3_pass_19 rfl rfl ?_
    refine zq_dup K dX3_pass_20 rfl ?_
    refine zm_sc K dX3_pass_21 zf_X3_80 (k := 1) (by decide) hR ?_
    refine zq_aload_n K dX3_pass_24 rfl rfl ?_
    refine zm_th K dX3_pass_25 zf_X3_55 hR ?_
    refine zq_if_neN K (x := 1) 35 dX3_pass_28 (by decide) (by omega) (fun h28 => ?_) (fun h28 => by omega)
    refine zq_iconst K dX3_pass_35 (v := nI 0) (by decide) ?_
    refine zq_iadd K dX3_pass_36 ?_
    refine zq_top (v := A.1 1) (zadd0 _) ?_
    refine zm_psc K dX3_pass_37 zf_X3_80 (k := 1) (by decide) hR hS (fun M hR hS => ?_)
    refine zq_aload_n K dX3_pass_40 rfl rfl ?_
    refine zm_th K dX3_pass_41 zf_X3_55 hR ?_
    refine zq_if_leN K (x := 1) 51 dX3_pass_44 (by decide) (by omega) (fun h44 => by omega) (fun h44 => ?_)
    refine zq_iconst K dX3_pass_47 (v := nI 0) (by decide) ?_
    refine zq_goto K 55 dX3_pass_48 (by decide) ?_
    exact zq_iret K dX3_pass_55 rfl ⟨rfl, by rw [zsc_id] at hR; exact hR, hS⟩
theorem ct_X3_pass_ok {G : ZG} {M : ZM} {x : Nat} {q : Nat → Nat} {w : Int32} {A : ZA} (hR : zR M x q w A) {m : Int32} (h : nI 1 ≤ m ∧ m ≤ nI 100) : zMet G mX3_pass [.ref (x), .int (m)] M (zRP x q M (some (.int (A.1 1 + m))) (nI 0) (zsc A 1 (A.1 1 + m))) := by
  refine zbody zyX3_pass [some (.ref (x)), some (.int (m))] rfl (Nat.le_of_ble_eq_true rfl) (by intro v hv; simp only [List.mem_cons, List.not_mem_nil, or_false] at hv; rcases hv with rfl | rfl <;> rfl) (fun E K => ?_)
  have hS : zSm x q M M := zSm.rf
  refine zq_aload_n K dX3_pass_0 rfl rfl ?_
  refine zq_iload_n K dX3_pass_1 rfl rfl ?_
  refine zq_iconst K dX3_pass_2 (v := nI 1) (by decide) ?_
  refine zq_bipush K dX3_pass_3 (v := nI 100) (by decide) ?_
  refine zq_callS (As := [.int (m), .int (nI (1)), .int (nI (100))]) K dX3_pass_5 zyX3_in zm_X3_58 zsX3_in rfl (by decide) rfl rfl (Nat.le_of_ble_eq_true rfl) (Nat.le_of_ble_eq_true rfl) (ct_X3_in m (nI 1) (nI 100) M) (zdec_r (fun hm => ?_) (fun hm => ?_)) zdec_x (Nat.le_refl _)
  · refine zq_if_eqN K (x := 1) 15 dX3_pass_8 (by decide) (by omega) (fun h8 => by omega) (fun h8 => ?_)
    refine zq_iconst K dX3_pass_11 (v := nI 0) (by decide) ?_
    refine zq_goto K 16 dX3_pass_12 (by decide) ?_
    refine zm_pth K dX3_pass_16 zf_X3_55 hR hS (fun M hR hS => ?_)
    refine zq_aload_n K dX3_pass_19 rfl rfl ?_
    refine zq_dup K dX3_pass_20 rfl ?_
    refine zm_sc K dX3_pass_21 zf_X3_80 (k := 1) (by decide) hR ?_
    refine zq_aload_n K dX3_pass_24 rfl rfl ?_
    refine zm_th K dX3_pass_25 zf_X3_55 hR ?_
    refine zq_if_neN K (x := 0) 35 dX3_pass_28 (by decide) (by omega) (fun h28 => by omega) (fun h28 => ?_)
    refine zq_iload_n K dX3_pass_31 rfl rfl ?_
    refine zq_goto K 36 dX3_pass_32 (by decide) ?_
    refine zq_iadd K dX3_pass_36 ?_
    refine zm_psc K dX3_pass_37 zf_X3_80 (k := 1) (by decide) hR hS (fun M hR hS => ?_)
    refine zq_aload_n K dX3_pass_40 rfl rfl ?_
    refine zm_th K dX3_pass_41 zf_X3_55 hR ?_
    refine zq_if_leN K (x := 0) 51 dX3_pass_44 (by decide) (by omega) (fun h44 => ?_) (fun h44 => by omega)
    refine zq_aload_n K dX3_pass_51 rfl rfl ?_
    refine zm_sc K dX3_pass_52 zf_X3_80 (k := 1) (by decide) hR ?_
    refine zq_top (v := A.1 1 + m) rfl ?_
    exact zq_iret K dX3_pass_55 rfl ⟨rfl, hR, hS⟩
  · refine zq_if_eqN K (x := 0) 15 dX3_pass_8 (by decide) (by omega) (fun h8 => ?_) (fun h8 => by omega)
    exact absurd h hm
def zpr (A : ZA) (c : Nat) : Nat → Bool := fun k => decide (A.1 1 < A.2 13 (600 * c + k))
theorem ct_X3_leases_bad {G : ZG} {M : ZM} {x : Nat} {q : Nat → Nat} {w : Int32} {A : ZA} (hR : zR M x q w A) {c : Int32} (h : ¬ zOn c 3) : zMet G mX3_leases [.ref (x), .int (c)] M (zRP x q M (some (.int (nI 0))) (nI 1) A) := by
  refine zbody zyX3_leases [some (.ref (x)), some (.int (c)), none, none] rfl (Nat.le_of_ble_eq_true rfl) (by intro v hv; simp only [List.mem_cons, List.not_mem_nil, or_false] at hv; rcases hv with rfl | rfl <;> rfl) (fun E K => ?_)
  have hS : zSm x q M M := zSm.rf
  refine zq_aload_n K dX3_leases_0 rfl rfl ?_
  refine zq_iload_n K dX3_leases_1 rfl rfl ?_
  refine zq_callS (As := [.int (c)]) K dX3_leases_2 zyX3_isClient zm_X3_93 zsX3_isClient rfl (by decide) rfl rfl (Nat.le_of_ble_eq_true rfl) (Nat.le_of_ble_eq_true rfl) (ct_X3_isClient c M) (zdec_r (fun hc => ?_) (fun hc => ?_)) zdec_x (Nat.le_refl _)
  · refine zq_if_eqN K (x := 1) 12 dX3_leases_5 (by decide) (by omega) (fun h5 => by omega) (fun h5 => ?_)
    exact absurd hc h
  · refine zq_if_eqN K (x := 0) 12 dX3_leases_5 (by decide) (by omega) (fun h5 => ?_) (fun h5 => by omega)
    refine zq_iconst K dX3_leases_12 (v := nI 1) (by decide) ?_
    refine zm_pth K dX3_leases_13 zf_X3_55 hR hS (fun M hR hS => ?_)
    refine zq_iconst K dX3_leases_16 (v := nI 0) (by decide) ?_
    refine zq_istore_n K dX3_leases_17 rfl (by decide) ?_
    refine zq_iconst K dX3_leases_18 (v := nI 0) (by decide) ?_
    refine zq_istore_n K dX3_leases_19 rfl (by decide) ?_
    refine zq_iload_n K dX3_leases_20 rfl rfl ?_
    refine zq_sipush K dX3_leases_21 (v := nI 600) (by decide) ?_
    refine zq_icmp_geN K (x := 0) (y := 600) 57 dX3_leases_24 (by decide) ⟨by omega, by omega⟩ (fun h24 => by omega) (fun h24 => ?_)
    refine zq_aload_n K dX3_leases_27 rfl rfl ?_
    refine zm_th K dX3_leases_28 zf_X3_55 hR ?_
    refine zq_if_neN K (x := 1) 57 dX3_leases_31 (by decide) (by omega) (fun h31 => ?_) (fun h31 => by omega)
    refine zq_iload_n K dX3_leases_57 rfl rfl ?_
    exact zq_iret K dX3_leases_58 rfl ⟨rfl, hR, hS⟩
theorem lp_X3_leases {G : ZG} {E : ZE} (K : zOK mX3_leases [] G E) {M : ZM} {x : Nat} {q : Nat → Nat} {A : ZA} (hR : zR M x q (nI 0) A) {c : Nat} (hc : c < 4) {P : ZO → ZM → Prop} (hP : P (.inl (some (.int (nI (zcN (zpr A c) 600))))) M) : ∀ (n k : Nat), k + n = 600 → WW E G (zyu mX3_leases) (zQ E G mX3_leases P) M 0 20 [some (.ref x), some (.int (nI c)), some (.int (nI (zcN (zpr A c) k))), some (.int (nI k))] [] := by
  intro n
  induction n with
  | zero =>
    intro k hk
    have hk4 : k = 600 := by omega
    subst hk4
    refine zq_iload_n K dX3_leases_20 rfl rfl ?_
    refine zq_sipush K dX3_leases_21 (v := nI 600) (by decide) ?_
    refine zq_icmp_geN K (x := 600) (y := 600) 57 dX3_leases_24 (by decide) ⟨by omega, by omega⟩ (fun h24 => ?_) (fun h24 => by omega)
    exact zq_iload_n K dX3_leases_57 rfl rfl (zq_iret K dX3_leases_58 rfl hP)
  | succ n ih =>
    intro k hk
    have hz := zcN_le (zpr A c) k
    refine zq_iload_n K dX3_leases_20 rfl rfl ?_
    refine zq_sipush K dX3_leases_21 (v := nI 600) (by decide) ?_
    refine zq_icmp_geN K (x := k) (y := 600) 57 dX3_leases_24 (by decide) ⟨by omega, by omega⟩ (fun h24 => by omega) (fun h24 => ?_)
    refine zq_aload_n K dX3_leases_27 rfl rfl ?_
    refine zm_th K dX3_leases_28 zf_X3_55 hR ?_
    refine zq_if_neN K (x := 0) 57 dX3_leases_31 (by decide) (by omega) (fun h31 => by omega) (fun h31 => ?_)
    refine zq_iload_n K dX3_leases_34 rfl rfl ?_
    refine zq_aload_n K dX3_leases_35 rfl rfl ?_
    refine zq_iload_n K dX3_leases_36 rfl rfl ?_
    refine zq_iload_n K dX3_leases_37 rfl rfl ?_
    refine zq_callV (As := [.int (nI (c)), .int (nI (k))]) K dX3_leases_38 zyX3_runs zm_X3_83 ziX3_runs zvX3_runs zclX3 rfl (by decide) rfl rfl (Nat.le_of_ble_eq_true rfl) (Nat.le_of_ble_eq_true rfl) hR.1 (ct_X3_runs hR (a := k) hc (by omega)) (zdec_r (fun hr => ?_) (fun hr => ?_)) zdec_x (Nat.le_refl _)
    · refine zq_if_eqN K (x := 1) 48 dX3_leases_41 (by decide) (by omega) (fun h41 => by omega) (fun h41 => ?_)
      refine zq_iconst K dX3_leases_44 (v := nI 1) (by decide) ?_
      refine zq_goto K 49 dX3_leases_45 (by decide) ?_
      refine zq_iaddN K (x := zcN (zpr A c) k) (y := 1) dX3_leases_49 ?_
      refine zq_istore_n K dX3_leases_50 rfl (by decide) ?_
      refine zq_iincN K dX3_leases_51 rfl (by decide) ?_
      refine zq_goto K 20 dX3_leases_54 (by decide) ?_
      rw [show zcN (zpr A c) k + 1 = zcN (zpr A c) (k + 1) from (zcN_t (decide_eq_true hr)).symm]
      exact ih (k + 1) (by omega)
    · refine zq_if_eqN K (x := 0) 48 dX3_leases_41 (by decide) (by omega) (fun h41 => ?_) (fun h41 => by omega)
      refine zq_iconst K dX3_leases_48 (v := nI 0) (by decide) ?_
      refine zq_iaddN K (x := zcN (zpr A c) k) (y := 0) dX3_leases_49 ?_
      refine zq_istore_n K dX3_leases_50 rfl (by decide) ?_
      refine zq_iincN K dX3_leases_51 rfl (by decide) ?_
      refine zq_goto K 20 dX3_leases_54 (by decide) ?_
      rw [show zcN (zpr A c) k + 0 = zcN (zpr A c) (k + 1) from (zcN_f (fun z => hr (of_decide_eq_true z))).symm]
      exact ih (k + 1) (by omega)
theorem ct_X3_leases_ok {G : ZG} {M : ZM} {x : Nat} {q : Nat → Nat} {w : Int32} {A : ZA} (hR : zR M x q w A) {c : Nat} (hc : c < 4) : zMet G mX3_leases [.ref (x), .int (nI (c))] M (zRP x q M (some (.int (nI (zcN (zpr A c) 600)))) (nI 0) A) := by
  refine zbody zyX3_leases [some (.ref (x)), some (.int (nI (c))), none, none] rfl (Nat.le_of_ble_eq_true rfl) (by intro v hv; simp only [List.mem_cons, List.not_mem_nil, or_false] at hv; rcases hv with rfl | rfl <;> rfl) (fun E K => ?_)
  have hS : zSm x q M M := zSm.rf
  refine zq_aload_n K dX3_leases_0 rfl rfl ?_
  refine zq_iload_n K dX3_leases_1 rfl rfl ?_
  refine zq_callS (As := [.int (nI (c))]) K dX3_leases_2 zyX3_isClient zm_X3_93 zsX3_isClient rfl (by decide) rfl rfl (Nat.le_of_ble_eq_true rfl) (Nat.le_of_ble_eq_true rfl) (ct_X3_isClient (nI c) M) (zdec_r (fun yc => ?_) (fun yc => ?_)) zdec_x (Nat.le_refl _)
  · refine zq_if_eqN K (x := 1) 12 dX3_leases_5 (by decide) (by omega) (fun h5 => by omega) (fun h5 => ?_)
    refine zq_iconst K dX3_leases_8 (v := nI 0) (by decide) ?_
    refine zq_goto K 13 dX3_leases_9 (by decide) ?_
    refine zm_pth K dX3_leases_13 zf_X3_55 hR hS (fun M hR hS => ?_)
    refine zq_iconst K dX3_leases_16 (v := nI 0) (by decide) ?_
    refine zq_istore_n K dX3_leases_17 rfl (by decide) ?_
    refine zq_iconst K dX3_leases_18 (v := nI 0) (by decide) ?_
    refine zq_istore_n K dX3_leases_19 rfl (by decide) ?_
    exact lp_X3_leases K hR hc ⟨rfl, hR, hS⟩ 600 0 rfl
  · refine zq_if_eqN K (x := 0) 12 dX3_leases_5 (by decide) (by omega) (fun h5 => ?_) (fun h5 => by omega)
    exact absurd ⟨c, by omega, rfl⟩ yc
theorem ct_X3_recalls_bad {G : ZG} {M : ZM} {x : Nat} {q : Nat → Nat} {w : Int32} {A : ZA} (hR : zR M x q w A) {c : Int32} (h : ¬ zOn c 3) : zMet G mX3_recalls [.ref (x), .int (c)] M (zRP x q M (some (.int (nI 0))) (nI 1) A) := by
  refine zbody zyX3_recalls [some (.ref (x)), some (.int (c))] rfl (Nat.le_of_ble_eq_true rfl) (by intro v hv; simp only [List.mem_cons, List.not_mem_nil, or_false] at hv; rcases hv with rfl | rfl <;> rfl) (fun E K => ?_)
  have hS : zSm x q M M := zSm.rf
  refine zq_aload_n K dX3_recalls_0 rfl rfl ?_
  refine zq_iconst K dX3_recalls_1 (v := nI 0) (by decide) ?_
  refine zm_pth K dX3_recalls_2 zf_X3_55 hR hS (fun M hR hS => ?_)
  refine zq_iload_n K dX3_recalls_5 rfl rfl ?_
  refine zq_callS (As := [.int (c)]) K dX3_recalls_6 zyX3_isClient zm_X3_93 zsX3_isClient rfl (by decide) rfl rfl (Nat.le_of_ble_eq_true rfl) (Nat.le_of_ble_eq_true rfl) (ct_X3_isClient c _) (zdec_r (fun hc => ?_) (fun hc => ?_)) zdec_x (Nat.le_refl _)
  · refine zq_if_eqN K (x := 1) 21 dX3_recalls_9 (by decide) (by omega) (fun h9 => by omega) (fun h9 => ?_)
    exact absurd hc h
  · refine zq_if_eqN K (x := 0) 21 dX3_recalls_9 (by decide) (by omega) (fun h9 => ?_) (fun h9 => by omega)
    refine zq_aload_n K dX3_recalls_21 rfl rfl ?_
    refine zq_iconst K dX3_recalls_22 (v := nI 1) (by decide) ?_
    refine zq_callV (As := [.int (nI (1))]) K dX3_recalls_23 zyX3_fails zm_X3_139 ziX3_fails zvX3_fails zclX3 rfl (by decide) rfl rfl (Nat.le_of_ble_eq_true rfl) (Nat.le_of_ble_eq_true rfl) hR.1 (ct_X3_fails hR (nI 1)) (zRP_r hS (fun M hR hS => ?_)) zRP_x (Nat.le_refl _)
    exact zq_iret K dX3_recalls_26 rfl ⟨rfl, hR, hS⟩
theorem ct_X3_recalls_ok {G : ZG} {M : ZM} {x : Nat} {q : Nat → Nat} {w : Int32} {A : ZA} (hR : zR M x q w A) {c : Nat} (hc : c < 4) : zMet G mX3_recalls [.ref (x), .int (nI (c))] M (zRP x q M (some (.int (A.2 14 c))) (nI 0) A) := by
  refine zbody zyX3_recalls [some (.ref (x)), some (.int (nI (c)))] rfl (Nat.le_of_ble_eq_true rfl) (by intro v hv; simp only [List.mem_cons, List.not_mem_nil, or_false] at hv; rcases hv with rfl | rfl <;> rfl) (fun E K => ?_)
  have hS : zSm x q M M := zSm.rf
  refine zq_aload_n K dX3_recalls_0 rfl rfl ?_
  refine zq_iconst K dX3_recalls_1 (v := nI 0) (by decide) ?_
  refine zm_pth K dX3_recalls_2 zf_X3_55 hR hS (fun M hR hS => ?_)
  refine zq_iload_n K dX3_recalls_5 rfl rfl ?_
  refine zq_callS (As := [.int (nI (c))]) K dX3_recalls_6 zyX3_isClient zm_X3_93 zsX3_isClient rfl (by decide) rfl rfl (Nat.le_of_ble_eq_true rfl) (Nat.le_of_ble_eq_true rfl) (ct_X3_isClient (nI c) _) (zdec_r (fun yc => ?_) (fun yc => ?_)) zdec_x (Nat.le_refl _)
  · refine zq_if_eqN K (x := 1) 21 dX3_recalls_9 (by decide) (by omega) (fun h9 => by omega) (fun h9 => ?_)
    refine zq_aload_n K dX3_recalls_12 rfl rfl ?_
    refine zm_ar K dX3_recalls_13 zf_X3_42 (k := 14) (by decide) hR ?_
    refine zq_iload_n K dX3_recalls_16 rfl rfl ?_
    refine zm_ld K (c) dX3_recalls_17 (k := 14) (by decide) hR rfl (show c < 4 by omega) ?_
    refine zq_goto K 26 dX3_recalls_18 (by decide) ?_
    exact zq_iret K dX3_recalls_26 rfl ⟨rfl, hR, hS⟩
  · refine zq_if_eqN K (x := 0) 21 dX3_recalls_9 (by decide) (by omega) (fun h9 => ?_) (fun h9 => by omega)
    exact absurd ⟨c, by omega, rfl⟩ yc
theorem ct_X3_known_bad {G : ZG} {M : ZM} {x : Nat} {q : Nat → Nat} {w : Int32} {A : ZA} (hR : zR M x q w A) {c : Int32} (h : ¬ zOn c 3) : zMet G mX3_known [.ref (x), .int (c)] M (zRP x q M (some (.int (nI 0))) (nI 1) A) := by
  refine zbody zyX3_known [some (.ref (x)), some (.int (c))] rfl (Nat.le_of_ble_eq_true rfl) (by intro v hv; simp only [List.mem_cons, List.not_mem_nil, or_false] at hv; rcases hv with rfl | rfl <;> rfl) (fun E K => ?_)
  have hS : zSm x q M M := zSm.rf
  refine zq_aload_n K dX3_known_0 rfl rfl ?_
  refine zq_iconst K dX3_known_1 (v := nI 0) (by decide) ?_
  refine zm_pth K dX3_known_2 zf_X3_55 hR hS (fun M hR hS => ?_)
  refine zq_iload_n K dX3_known_5 rfl rfl ?_
  refine zq_callS (As := [.int (c)]) K dX3_known_6 zyX3_isClient zm_X3_93 zsX3_isClient rfl (by decide) rfl rfl (Nat.le_of_ble_eq_true rfl) (Nat.le_of_ble_eq_true rfl) (ct_X3_isClient c _) (zdec_r (fun hc => ?_) (fun hc => ?_)) zdec_x (Nat.le_refl _)
  · refine zq_if_eqN K (x := 1) 21 dX3_known_9 (by decide) (by omega) (fun h9 => by omega) (fun h9 => ?_)
    exact absurd hc h
  · refine zq_if_eqN K (x := 0) 21 dX3_known_9 (by decide) (by omega) (fun h9 => ?_) (fun h9 => by omega)
    refine zq_aload_n K dX3_known_21 rfl rfl ?_
    refine zq_iconst K dX3_known_22 (v := nI 1) (by decide) ?_
    refine zq_callV (As := [.int (nI (1))]) K dX3_known_23 zyX3_fails zm_X3_139 ziX3_fails zvX3_fails zclX3 rfl (by decide) rfl rfl (Nat.le_of_ble_eq_true rfl) (Nat.le_of_ble_eq_true rfl) hR.1 (ct_X3_fails hR (nI 1)) (zRP_r hS (fun M hR hS => ?_)) zRP_x (Nat.le_refl _)
    exact zq_iret K dX3_known_26 rfl ⟨rfl, hR, hS⟩
theorem ct_X3_known_ok {G : ZG} {M : ZM} {x : Nat} {q : Nat → Nat} {w : Int32} {A : ZA} (hR : zR M x q w A) {c : Nat} (hc : c < 4) : zMet G mX3_known [.ref (x), .int (nI (c))] M (zRP x q M (some (.int (A.2 15 c))) (nI 0) A) := by
  refine zbody zyX3_known [some (.ref (x)), some (.int (nI (c)))] rfl (Nat.le_of_ble_eq_true rfl) (by intro v hv; simp only [List.mem_cons, List.not_mem_nil, or_false] at hv; rcases hv with rfl | rfl <;> rfl) (fun E K => ?_)
  have hS : zSm x q M M := zSm.rf
  refine zq_aload_n K dX3_known_0 rfl rfl ?_
  refine zq_iconst K dX3_known_1 (v := nI 0) (by decide) ?_
  refine zm_pth K dX3_known_2 zf_X3_55 hR hS (fun M hR hS => ?_)
  refine zq_iload_n K dX3_known_5 rfl rfl ?_
  refine zq_callS (As := [.int (nI (c))]) K dX3_known_6 zyX3_isClient zm_X3_93 zsX3_isClient rfl (by decide) rfl rfl (Nat.le_of_ble_eq_true rfl) (Nat.le_of_ble_eq_true rfl) (ct_X3_isClient (nI c) _) (zdec_r (fun yc => ?_) (fun yc => ?_)) zdec_x (Nat.le_refl _)
  · refine zq_if_eqN K (x := 1) 21 dX3_known_9 (by decide) (by omega) (fun h9 => by omega) (fun h9 => ?_)
    refine zq_aload_n K dX3_known_12 rfl rfl ?_
    refine zm_ar K dX3_known_13 zf_X3_45 (k := 15) (by decide) hR ?_
    refine zq_iload_n K dX3_known_16 rfl rfl ?_
    refine zm_ld K (c) dX3_known_17 (k := 15) (by decide) hR rfl (show c < 4 by omega) ?_
    refine zq_goto K 26 dX3_known_18 (by decide) ?_
    exact zq_iret K dX3_known_26 rfl ⟨rfl, hR, hS⟩
  · refine zq_if_eqN K (x := 0) 21 dX3_known_9 (by decide) (by omega) (fun h9 => ?_) (fun h9 => by omega)
    exact absurd ⟨c, by omega, rfl⟩ yc
/-- a directory and a hash, or a name (up to l): not good, 1 or 2 -/
def zBh (A : ZA) (l : Nat) (d h : Int32) (k : Nat) : Prop := (k = 1 ∧ ¬ zOn h l) ∨ (k = 2 ∧ zOn h l ∧ ¬ zIsD A d)
theorem zBh_k {A : ZA} {l : Nat} {d n : Int32} {k : Nat} (h : zBh A l d n k) : 0 < k ∧ k < 3 := by
  rcases h with ⟨rfl, -⟩ | ⟨rfl, -⟩ <;> omega
theorem zBh_or (A : ZA) (l : Nat) (d h : Int32) : (∃ k, zBh A l d h k) ∨ ∃ d' h', d = nI d' ∧ d' < 12 ∧ A.2 3 d' = 1 ∧ h = nI h' ∧ h' ≤ l := by
  by_cases h1 : zOn h l
  · by_cases h2 : zIsD A d
    · obtain ⟨n', hn, en⟩ := h1
      obtain ⟨d', hd, ed, hl⟩ := h2
      exact Or.inr ⟨d', n', ed, hd, hl, en, hn⟩
    · exact Or.inl ⟨2, Or.inr ⟨rfl, h1, h2⟩⟩
  · exact Or.inl ⟨1, Or.inl ⟨rfl, h1⟩⟩
theorem ct_X3_barsHash_bad {G : ZG} {M : ZM} {x : Nat} {q : Nat → Nat} {w : Int32} {A : ZA} (hR : zR M x q w A) {D : Nat} (hB : zBas A D) {d h : Int32} {k : Nat} (hk : zBh A 7 d h k) : zMet G mX3_barsHash [.ref (x), .int (d), .int (h)] M (zone (some (.int (nI k))) M) := by
  refine zbody zyX3_barsHash [some (.ref (x)), some (.int (d)), some (.int (h))] rfl (Nat.le_of_ble_eq_true rfl) (by intro v hv; simp only [List.mem_cons, List.not_mem_nil, or_false] at hv; rcases hv with rfl | rfl | rfl <;> rfl) (fun E K => ?_)
  refine zq_iload_n K dX3_barsHash_0 rfl rfl ?_
  refine zq_callS (As := [.int (h)]) K dX3_barsHash_1 zyX3_isHash zm_X3_142 zsX3_isHash rfl (by decide) rfl rfl (Nat.le_of_ble_eq_true rfl) (Nat.le_of_ble_eq_true rfl) (ct_X3_isHash h M) (zdec_r (fun yh => ?_) (fun yh => ?_)) zdec_x (Nat.le_refl _)
  · refine zq_if_neN K (x := 1) 11 dX3_barsHash_4 (by decide) (by omega) (fun h4 => ?_) (fun h4 => by omega)
    refine zq_aload_n K dX3_barsHash_11 rfl rfl ?_
    refine zq_iload_n K dX3_barsHash_12 rfl rfl ?_
    refine zq_callV (As := [.int (d)]) K dX3_barsHash_13 zyX3_isDirectory zm_X3_99 ziX3_isDirectory zvX3_isDirectory zclX3 rfl (by decide) rfl rfl (Nat.le_of_ble_eq_true rfl) (Nat.le_of_ble_eq_true rfl) hR.1 (ct_X3_isDirectory hR hB d) (zdec_r (fun yd => ?_) (fun yd => ?_)) zdec_x (Nat.le_refl _)
    · refine zq_if_eqN K (x := 1) 23 dX3_barsHash_16 (by decide) (by omega) (fun h16 => by omega) (fun h16 => ?_)
      rcases hk with ⟨-, z⟩ | ⟨-, -, z⟩
      · exact absurd yh z
      · exact absurd yd z
    · refine zq_if_eqN K (x := 0) 23 dX3_barsHash_16 (by decide) (by omega) (fun h16 => ?_) (fun h16 => by omega)
      obtain ⟨rfl, h2⟩ | ⟨rfl, -⟩ := hk; exact absurd yh h2
      refine zq_iconst K dX3_barsHash_23 (v := nI 2) (by decide) ?_
      exact zq_iret K dX3_barsHash_24 rfl ⟨rfl, rfl⟩
  · refine zq_if_neN K (x := 0) 11 dX3_barsHash_4 (by decide) (by omega) (fun h4 => by omega) (fun h4 => ?_)
    obtain ⟨rfl, -⟩ | ⟨rfl, h2, -⟩ := hk; rotate_left; exact absurd h2 yh
    refine zq_iconst K dX3_barsHash_7 (v := nI 1) (by decide) ?_
    refine zq_goto K 24 dX3_barsHash_8 (by decide) ?_
    exact zq_iret K dX3_barsHash_24 rfl ⟨rfl, rfl⟩
theorem ct_X3_barsHash_ok {G : ZG} {M : ZM} {x : Nat} {q : Nat → Nat} {w : Int32} {A : ZA} (hR : zR M x q w A) {D d h : Nat} (hB : zBas A D) (hd : d < 12) (hl : A.2 3 d = 1) (hh : h ≤ 7) : zMet G mX3_barsHash [.ref (x), .int (nI (d)), .int (nI (h))] M (zone (some (.int (nI 0))) M) := by
  refine zbody zyX3_barsHash [some (.ref (x)), some (.int (nI (d))), some (.int (nI (h)))] rfl (Nat.le_of_ble_eq_true rfl) (by intro v hv; simp only [List.mem_cons, List.not_mem_nil, or_false] at hv; rcases hv with rfl | rfl | rfl <;> rfl) (fun E K => ?_)
  refine zq_iload_n K dX3_barsHash_0 rfl rfl ?_
  refine zq_callS (As := [.int (nI (h))]) K dX3_barsHash_1 zyX3_isHash zm_X3_142 zsX3_isHash rfl (by decide) rfl rfl (Nat.le_of_ble_eq_true rfl) (Nat.le_of_ble_eq_true rfl) (ct_X3_isHash (nI h) M) (zdec_r (fun yh => ?_) (fun yh => ?_)) zdec_x (Nat.le_refl _)
  · refine zq_if_neN K (x := 1) 11 dX3_barsHash_4 (by decide) (by omega) (fun h4 => ?_) (fun h4 => by omega)
    refine zq_aload_n K dX3_barsHash_11 rfl rfl ?_
    refine zq_iload_n K dX3_barsHash_12 rfl rfl ?_
    refine zq_callV (As := [.int (nI (d))]) K dX3_barsHash_13 zyX3_isDirectory zm_X3_99 ziX3_isDirectory zvX3_isDirectory zclX3 rfl (by decide) rfl rfl (Nat.le_of_ble_eq_true rfl) (Nat.le_of_ble_eq_true rfl) hR.1 (ct_X3_isDirectory hR hB (nI d)) (zdec_r (fun yd => ?_) (fun yd => ?_)) zdec_x (Nat.le_refl _)
    · refine zq_if_eqN K (x := 1) 23 dX3_barsHash_16 (by decide) (by omega) (fun h16 => by omega) (fun h16 => ?_)
      refine zq_iconst K dX3_barsHash_19 (v := nI 0) (by decide) ?_
      refine zq_goto K 24 dX3_barsHash_20 (by decide) ?_
      exact zq_iret K dX3_barsHash_24 rfl ⟨rfl, rfl⟩
    · refine zq_if_eqN K (x := 0) 23 dX3_barsHash_16 (by decide) (by omega) (fun h16 => ?_) (fun h16 => by omega)
      exact absurd ⟨d, hd, rfl, hl⟩ yd
  · refine zq_if_neN K (x := 0) 11 dX3_barsHash_4 (by decide) (by omega) (fun h4 => by omega) (fun h4 => ?_)
    exact absurd ⟨h, hh, rfl⟩ yh
theorem ct_X3_barsPlain_bad {G : ZG} {M : ZM} {x : Nat} {q : Nat → Nat} {w : Int32} {A : ZA} (hR : zR M x q w A) {D : Nat} (hB : zBas A D) {d h : Int32} {k : Nat} (hk : zBh A 49 d h k) : zMet G mX3_barsPlain [.ref (x), .int (d), .int (h)] M (zone (some (.int (nI k))) M) := by
  refine zbody zyX3_barsPlain [some (.ref (x)), some (.int (d)), some (.int (h))] rfl (Nat.le_of_ble_eq_true rfl) (by intro v hv; simp only [List.mem_cons, List.not_mem_nil, or_false] at hv; rcases hv with rfl | rfl | rfl <;> rfl) (fun E K => ?_)
  refine zq_iload_n K dX3_barsPlain_0 rfl rfl ?_
  refine zq_callS (As := [.int (h)]) K dX3_barsPlain_1 zyX3_isName zm_X3_96 zsX3_isName rfl (by decide) rfl rfl (Nat.le_of_ble_eq_true rfl) (Nat.le_of_ble_eq_true rfl) (ct_X3_isName h M) (zdec_r (fun yh => ?_) (fun yh => ?_)) zdec_x (Nat.le_refl _)
  · refine zq_if_neN K (x := 1) 11 dX3_barsPlain_4 (by decide) (by omega) (fun h4 => ?_) (fun h4 => by omega)
    refine zq_aload_n K dX3_barsPlain_11 rfl rfl ?_
    refine zq_iload_n K dX3_barsPlain_12 rfl rfl ?_
    refine zq_callV (As := [.int (d)]) K dX3_barsPlain_13 zyX3_isDirectory zm_X3_99 ziX3_isDirectory zvX3_isDirectory zclX3 rfl (by decide) rfl rfl (Nat.le_of_ble_eq_true rfl) (Nat.le_of_ble_eq_true rfl) hR.1 (ct_X3_isDirectory hR hB d) (zdec_r (fun yd => ?_) (fun yd => ?_)) zdec_x (Nat.le_refl _)
    · refine zq_if_eqN K (x := 1) 23 dX3_barsPlain_16 (by decide) (by omega) (fun h16 => by omega) (fun h16 => ?_)
      rcases hk with ⟨-, z⟩ | ⟨-, -, z⟩
      · exact absurd yh z
      · exact absurd yd z
    · refine zq_if_eqN K (x := 0) 23 dX3_barsPlain_16 (by decide) (by omega) (fun h16 => ?_) (fun h16 => by omega)
      obtain ⟨rfl, h2⟩ | ⟨rfl, -⟩ := hk; exact absurd yh h2
      refine zq_iconst K dX3_barsPlain_23 (v := nI 2) (by decide) ?_
      exact zq_iret K dX3_barsPlain_24 rfl ⟨rfl, rfl⟩
  · refine zq_if_neN K (x := 0) 11 dX3_barsPlain_4 (by decide) (by omega) (fun h4 => by omega) (fun h4 => ?_)
    obtain ⟨rfl, -⟩ | ⟨rfl, h2, -⟩ := hk; rotate_left; exact absurd h2 yh
    refine zq_iconst K dX3_barsPlain_7 (v := nI 1) (by decide) ?_
    refine zq_goto K 24 dX3_barsPlain_8 (by decide) ?_
    exact zq_iret K dX3_barsPlain_24 rfl ⟨rfl, rfl⟩
theorem ct_X3_barsPlain_ok {G : ZG} {M : ZM} {x : Nat} {q : Nat → Nat} {w : Int32} {A : ZA} (hR : zR M x q w A) {D d h : Nat} (hB : zBas A D) (hd : d < 12) (hl : A.2 3 d = 1) (hh : h ≤ 49) : zMet G mX3_barsPlain [.ref (x), .int (nI (d)), .int (nI (h))] M (zone (some (.int (nI 0))) M) := by
  refine zbody zyX3_barsPlain [some (.ref (x)), some (.int (nI (d))), some (.int (nI (h)))] rfl (Nat.le_of_ble_eq_true rfl) (by intro v hv; simp only [List.mem_cons, List.not_mem_nil, or_false] at hv; rcases hv with rfl | rfl | rfl <;> rfl) (fun E K => ?_)
  refine zq_iload_n K dX3_barsPlain_0 rfl rfl ?_
  refine zq_callS (As := [.int (nI (h))]) K dX3_barsPlain_1 zyX3_isName zm_X3_96 zsX3_isName rfl (by decide) rfl rfl (Nat.le_of_ble_eq_true rfl) (Nat.le_of_ble_eq_true rfl) (ct_X3_isName (nI h) M) (zdec_r (fun yh => ?_) (fun yh => ?_)) zdec_x (Nat.le_refl _)
  · refine zq_if_neN K (x := 1) 11 dX3_barsPlain_4 (by decide) (by omega) (fun h4 => ?_) (fun h4 => by omega)
    refine zq_aload_n K dX3_barsPlain_11 rfl rfl ?_
    refine zq_iload_n K dX3_barsPlain_12 rfl rfl ?_
    refine zq_callV (As := [.int (nI (d))]) K dX3_barsPlain_13 zyX3_isDirectory zm_X3_99 ziX3_isDirectory zvX3_isDirectory zclX3 rfl (by decide) rfl rfl (Nat.le_of_ble_eq_true rfl) (Nat.le_of_ble_eq_true rfl) hR.1 (ct_X3_isDirectory hR hB (nI d)) (zdec_r (fun yd => ?_) (fun yd => ?_)) zdec_x (Nat.le_refl _)
    · refine zq_if_eqN K (x := 1) 23 dX3_barsPlain_16 (by decide) (by omega) (fun h16 => by omega) (fun h16 => ?_)
      refine zq_iconst K dX3_barsPlain_19 (v := nI 0) (by decide) ?_
      refine zq_goto K 24 dX3_barsPlain_20 (by decide) ?_
      exact zq_iret K dX3_barsPlain_24 rfl ⟨rfl, rfl⟩
    · refine zq_if_eqN K (x := 0) 23 dX3_barsPlain_16 (by decide) (by omega) (fun h16 => ?_) (fun h16 => by omega)
      exact absurd ⟨d, hd, rfl, hl⟩ yd
  · refine zq_if_neN K (x := 0) 11 dX3_barsPlain_4 (by decide) (by omega) (fun h4 => by omega) (fun h4 => ?_)
    exact absurd ⟨h, hh, rfl⟩ yh
def zps (A : ZA) (d : Nat) : Nat → Bool := fun h => !decide (A.2 10 (8 * d + h) ≤ 0)
theorem lp_X3_count {G : ZG} {E : ZE} (K : zOK mX3_count [] G E) {M : ZM} {x : Nat} {q : Nat → Nat} {w : Int32} {A : ZA} (hR : zR M x q w A) {d : Nat} (hd : d < 12) {P : ZO → ZM → Prop} (hP : P (.inl (some (.int (nI (zcN (zps A d) 8))))) M) : ∀ (n k : Nat), k + n = 8 → WW E G (zyu mX3_count) (zQ E G mX3_count P) M 0 4 [some (.ref (x)), some (.int (nI (d))), some (.int (nI (zcN (zps A d) k))), some (.int (nI k))] [] := by
  intro n
  induction n with
  | zero =>
    intro k hk
    have hk4 : k = 8 := by omega
    subst hk4
    refine zq_iload_n K dX3_count_4 rfl rfl ?_
    refine zq_bipush K dX3_count_5 (v := nI 8) (by decide) ?_
    refine zq_icmp_geN K (x := 8) (y := 8) 38 dX3_count_7 (by decide) ⟨by omega, by omega⟩ (fun h7 => ?_) (fun h7 => by omega)
    refine zq_iload_n K dX3_count_38 rfl rfl ?_
    exact zq_iret K dX3_count_39 rfl hP
  | succ n ih =>
    intro k hk
    have hz := zcN_le (zps A d) k
    refine zq_iload_n K dX3_count_4 rfl rfl ?_
    refine zq_bipush K dX3_count_5 (v := nI 8) (by decide) ?_
    refine zq_icmp_geN K (x := k) (y := 8) 38 dX3_count_7 (by decide) ⟨by omega, by omega⟩ (fun h7 => by omega) (fun h7 => ?_)
    refine zq_iload_n K dX3_count_10 rfl rfl ?_
    refine zq_aload_n K dX3_count_11 rfl rfl ?_
    refine zm_ar K dX3_count_12 zf_X3_30 (k := 10) (by decide) hR ?_
    refine zq_bipush K dX3_count_15 (v := nI 8) (by decide) ?_
    refine zq_iload_n K dX3_count_17 rfl rfl ?_
    refine zq_imulN K (x := 8) (y := d) dX3_count_18 ?_
    refine zq_iload_n K dX3_count_19 rfl rfl ?_
    refine zq_iaddN K (x := (8) * (d)) (y := k) dX3_count_20 ?_
    refine zm_ld K (((8) * (d)) + (k)) dX3_count_21 (k := 10) (by decide) hR rfl (show ((8) * (d)) + (k) < 96 by omega) ?_
    refine zq_if_le K 29 dX3_count_22 (by decide) (fun h22 => ?_) (fun h22 => ?_)
    · refine zq_iconst K dX3_count_29 (v := nI 0) (by decide) ?_
      refine zq_iaddN K (x := zcN (zps A d) k) (y := 0) dX3_count_30 ?_
      refine zq_istore_n K dX3_count_31 rfl (by decide) ?_
      refine zq_iincN K dX3_count_32 rfl (by decide) ?_
      refine zq_goto K 4 dX3_count_35 (by decide) ?_
      rw [show zcN (zps A d) k + 0 = zcN (zps A d) (k + 1) from (zcN_f (by unfold zps; rw [decide_eq_true h22]; exact Bool.false_ne_true)).symm]
      exact ih (k + 1) (by omega)
    · refine zq_iconst K dX3_count_25 (v := nI 1) (by decide) ?_
      refine zq_goto K 30 dX3_count_26 (by decide) ?_
      refine zq_iaddN K (x := zcN (zps A d) k) (y := 1) dX3_count_30 ?_
      refine zq_istore_n K dX3_count_31 rfl (by decide) ?_
      refine zq_iincN K dX3_count_32 rfl (by decide) ?_
      refine zq_goto K 4 dX3_count_35 (by decide) ?_
      rw [show zcN (zps A d) k + 1 = zcN (zps A d) (k + 1) from (zcN_t (by unfold zps; rw [decide_eq_false h22]; rfl)).symm]
      exact ih (k + 1) (by omega)
theorem ct_X3_count {G : ZG} {M : ZM} {x : Nat} {q : Nat → Nat} {w : Int32} {A : ZA} (hR : zR M x q w A) {d : Nat} (hd : d < 12) : zMet G mX3_count [.ref (x), .int (nI (d))] M (zone (some (.int (nI (zcN (zps A d) 8)))) M) := by
  refine zbody zyX3_count [some (.ref (x)), some (.int (nI (d))), none, none] rfl (Nat.le_of_ble_eq_true rfl) (by intro v hv; simp only [List.mem_cons, List.not_mem_nil, or_false] at hv; rcases hv with rfl | rfl <;> rfl) (fun E K => ?_)
  refine zq_iconst K dX3_count_0 (v := nI 0) (by decide) ?_
  refine zq_istore_n K dX3_count_1 rfl (by decide) ?_
  refine zq_iconst K dX3_count_2 (v := nI 0) (by decide) ?_
  refine zq_istore_n K dX3_count_3 rfl (by decide) ?_
  exact lp_X3_count K hR hd ⟨rfl, rfl⟩ 8 0 rfl
theorem ct_X3_split_bad {G : ZG} {M : ZM} {x : Nat} {q : Nat → Nat} {w : Int32} {A : ZA} (hR : zR M x q w A) (hW : zWf A) {d h : Int32} {k : Nat} (hk : zBh A 7 d h k) : zMet G mX3_split [.ref (x), .int (d), .int (h)] M (zRP x q M (some (.int (nI 0))) (nI k) A) := by
  refine zbody zyX3_split [some (.ref (x)), some (.int (d)), some (.int (h)), none, none] rfl (Nat.le_of_ble_eq_true rfl) (by intro v hv; simp only [List.mem_cons, List.not_mem_nil, or_false] at hv; rcases hv with rfl | rfl | rfl <;> rfl) (fun E K => ?_)
  obtain ⟨⟨D, hB⟩, hF, hU⟩ := id hW
  have hS : zSm x q M M := zSm.rf
  have hk1 := zBh_k hk
  refine zq_aload_n K dX3_split_0 rfl rfl ?_
  refine zq_aload_n K dX3_split_1 rfl rfl ?_
  refine zq_iload_n K dX3_split_2 rfl rfl ?_
  refine zq_iload_n K dX3_split_3 rfl rfl ?_
  refine zq_callV (As := [.int (d), .int (h)]) K dX3_split_4 zyX3_barsHash zm_X3_145 ziX3_barsHash zvX3_barsHash zclX3 rfl (by decide) rfl rfl (Nat.le_of_ble_eq_true rfl) (Nat.le_of_ble_eq_true rfl) hR.1 (ct_X3_barsHash_bad hR hB hk) (zone_r ?_) zone_x (Nat.le_refl _)
  refine zm_pth K dX3_split_7 zf_X3_55 hR hS (fun M hR hS => ?_)
  refine zq_aload_n K dX3_split_10 rfl rfl ?_
  refine zm_th K dX3_split_11 zf_X3_55 hR ?_
  refine zq_if_leN K (x := k) 21 dX3_split_14 (by decide) (by omega) (fun h14 => by omega) (fun h14 => ?_)
  refine zq_iconst K dX3_split_17 (v := nI 0) (by decide) ?_
  refine zq_goto K 27 dX3_split_18 (by decide) ?_
  refine zq_istore_n K dX3_split_27 rfl (by decide) ?_
  refine zq_aload_n K dX3_split_28 rfl rfl ?_
  refine zq_aload_n K dX3_split_29 rfl rfl ?_
  refine zm_th K dX3_split_30 zf_X3_55 hR ?_
  refine zq_if_neN K (x := k) 58 dX3_split_33 (by decide) (by omega) (fun h33 => ?_) (fun h33 => by omega)
  refine zq_aload_n K dX3_split_58 rfl rfl ?_
  refine zm_th K dX3_split_59 zf_X3_55 hR ?_
  refine zm_pth K dX3_split_62 zf_X3_55 hR hS (fun M hR hS => ?_)
  refine zq_aload_n K dX3_split_65 rfl rfl ?_
  refine zm_th K dX3_split_66 zf_X3_55 hR ?_
  refine zq_if_leN K (x := k) 74 dX3_split_69 (by decide) (by omega) (fun h69 => by omega) (fun h69 => ?_)
  refine zq_iconst K dX3_split_72 (v := nI 0) (by decide) ?_
  exact zq_iret K dX3_split_73 rfl ⟨rfl, hR, hS⟩
theorem ct_X3_merge_bad {G : ZG} {M : ZM} {x : Nat} {q : Nat → Nat} {w : Int32} {A : ZA} (hR : zR M x q w A) (hW : zWf A) {d h : Int32} {k : Nat} (hk : zBh A 7 d h k) : zMet G mX3_merge [.ref (x), .int (d), .int (h)] M (zRP x q M (some (.int (nI 0))) (nI k) A) := by
  refine zbody zyX3_merge [some (.ref (x)), some (.int (d)), some (.int (h)), none, none, none, none, none] rfl (Nat.le_of_ble_eq_true rfl) (by intro v hv; simp only [List.mem_cons, List.not_mem_nil, or_false] at hv; rcases hv with rfl | rfl | rfl <;> rfl) (fun E K => ?_)
  obtain ⟨⟨D, hB⟩, hF, hU⟩ := id hW
  have hS : zSm x q M M := zSm.rf
  have hk1 := zBh_k hk
  refine zq_aload_n K dX3_merge_0 rfl rfl ?_
  refine zq_aload_n K dX3_merge_1 rfl rfl ?_
  refine zq_iload_n K dX3_merge_2 rfl rfl ?_
  refine zq_iload_n K dX3_merge_3 rfl rfl ?_
  refine zq_callV (As := [.int (d), .int (h)]) K dX3_merge_4 zyX3_barsHash zm_X3_145 ziX3_barsHash zvX3_barsHash zclX3 rfl (by decide) rfl rfl (Nat.le_of_ble_eq_true rfl) (Nat.le_of_ble_eq_true rfl) hR.1 (ct_X3_barsHash_bad hR hB hk) (zone_r ?_) zone_x (Nat.le_refl _)
  refine zm_pth K dX3_merge_7 zf_X3_55 hR hS (fun M hR hS => ?_)
  refine zq_aload_n K dX3_merge_10 rfl rfl ?_
  refine zm_th K dX3_merge_11 zf_X3_55 hR ?_
  refine zq_if_leN K (x := k) 19 dX3_merge_14 (by decide) (by omega) (fun h14 => by omega) (fun h14 => ?_)
  refine zq_iconst K dX3_merge_17 (v := nI 0) (by decide) ?_
  exact zq_iret K dX3_merge_18 rfl ⟨rfl, hR, hS⟩
theorem ct_X3_serverOf_bad {G : ZG} {M : ZM} {x : Nat} {q : Nat → Nat} {w : Int32} {A : ZA} (hR : zR M x q w A) (hW : zWf A) {d h : Int32} {k : Nat} (hk : zBh A 49 d h k) : zMet G mX3_serverOf [.ref (x), .int (d), .int (h)] M (zRP x q M (some (.int (nI 0))) (nI k) A) := by
  refine zbody zyX3_serverOf [some (.ref (x)), some (.int (d)), some (.int (h))] rfl (Nat.le_of_ble_eq_true rfl) (by intro v hv; simp only [List.mem_cons, List.not_mem_nil, or_false] at hv; rcases hv with rfl | rfl | rfl <;> rfl) (fun E K => ?_)
  obtain ⟨⟨D, hB⟩, hF, hU⟩ := id hW
  have hS : zSm x q M M := zSm.rf
  have hk1 := zBh_k hk
  refine zq_aload_n K dX3_serverOf_0 rfl rfl ?_
  refine zq_aload_n K dX3_serverOf_1 rfl rfl ?_
  refine zq_iload_n K dX3_serverOf_2 rfl rfl ?_
  refine zq_iload_n K dX3_serverOf_3 rfl rfl ?_
  refine zq_callV (As := [.int (d), .int (h)]) K dX3_serverOf_4 zyX3_barsPlain zm_X3_151 ziX3_barsPlain zvX3_barsPlain zclX3 rfl (by decide) rfl rfl (Nat.le_of_ble_eq_true rfl) (Nat.le_of_ble_eq_true rfl) hR.1 (ct_X3_barsPlain_bad hR hB hk) (zone_r ?_) zone_x (Nat.le_refl _)
  refine zm_pth K dX3_serverOf_7 zf_X3_55 hR hS (fun M hR hS => ?_)
  refine zq_aload_n K dX3_serverOf_10 rfl rfl ?_
  refine zm_th K dX3_serverOf_11 zf_X3_55 hR ?_
  refine zq_if_leN K (x := k) 21 dX3_serverOf_14 (by decide) (by omega) (fun h14 => by omega) (fun h14 => ?_)
  refine zq_iconst K dX3_serverOf_17 (v := nI 0) (by decide) ?_
  refine zq_goto K 31 dX3_serverOf_18 (by decide) ?_
  exact zq_iret K dX3_serverOf_31 rfl ⟨rfl, hR, hS⟩
theorem ct_X3_ownerOf_bad {G : ZG} {M : ZM} {x : Nat} {q : Nat → Nat} {w : Int32} {A : ZA} (hR : zR M x q w A) (hW : zWf A) {d h : Int32} {k : Nat} (hk : zBh A 7 d h k) : zMet G mX3_ownerOf [.ref (x), .int (d), .int (h)] M (zRP x q M (some (.int (nI 0))) (nI k) A) := by
  refine zbody zyX3_ownerOf [some (.ref (x)), some (.int (d)), some (.int (h))] rfl (Nat.le_of_ble_eq_true rfl) (by intro v hv; simp only [List.mem_cons, List.not_mem_nil, or_false] at hv; rcases hv with rfl | rfl | rfl <;> rfl) (fun E K => ?_)
  obtain ⟨⟨D, hB⟩, hF, hU⟩ := id hW
  have hS : zSm x q M M := zSm.rf
  have hk1 := zBh_k hk
  refine zq_aload_n K dX3_ownerOf_0 rfl rfl ?_
  refine zq_aload_n K dX3_ownerOf_1 rfl rfl ?_
  refine zq_iload_n K dX3_ownerOf_2 rfl rfl ?_
  refine zq_iload_n K dX3_ownerOf_3 rfl rfl ?_
  refine zq_callV (As := [.int (d), .int (h)]) K dX3_ownerOf_4 zyX3_barsHash zm_X3_145 ziX3_barsHash zvX3_barsHash zclX3 rfl (by decide) rfl rfl (Nat.le_of_ble_eq_true rfl) (Nat.le_of_ble_eq_true rfl) hR.1 (ct_X3_barsHash_bad hR hB hk) (zone_r ?_) zone_x (Nat.le_refl _)
  refine zm_pth K dX3_ownerOf_7 zf_X3_55 hR hS (fun M hR hS => ?_)
  refine zq_aload_n K dX3_ownerOf_10 rfl rfl ?_
  refine zm_th K dX3_ownerOf_11 zf_X3_55 hR ?_
  refine zq_if_leN K (x := k) 21 dX3_ownerOf_14 (by decide) (by omega) (fun h14 => by omega) (fun h14 => ?_)
  refine zq_iconst K dX3_ownerOf_17 (v := nI 0) (by decide) ?_
  refine zq_goto K 32 dX3_ownerOf_18 (by decide) ?_
  exact zq_iret K dX3_ownerOf_32 rfl ⟨rfl, hR, hS⟩
theorem ct_X3_byTree_bad {G : ZG} {M : ZM} {x : Nat} {q : Nat → Nat} {w : Int32} {A : ZA} (hR : zR M x q w A) (hW : zWf A) {d h : Int32} {k : Nat} (hk : zBh A 49 d h k) : zMet G mX3_byTree [.ref (x), .int (d), .int (h)] M (zRP x q M (some (.int (nI 0))) (nI k) A) := by
  refine zbody zyX3_byTree [some (.ref (x)), some (.int (d)), some (.int (h))] rfl (Nat.le_of_ble_eq_true rfl) (by intro v hv; simp only [List.mem_cons, List.not_mem_nil, or_false] at hv; rcases hv with rfl | rfl | rfl <;> rfl) (fun E K => ?_)
  obtain ⟨⟨D, hB⟩, hF, hU⟩ := id hW
  have hS : zSm x q M M := zSm.rf
  have hk1 := zBh_k hk
  refine zq_aload_n K dX3_byTree_0 rfl rfl ?_
  refine zq_aload_n K dX3_byTree_1 rfl rfl ?_
  refine zq_iload_n K dX3_byTree_2 rfl rfl ?_
  refine zq_iload_n K dX3_byTree_3 rfl rfl ?_
  refine zq_callV (As := [.int (d), .int (h)]) K dX3_byTree_4 zyX3_barsPlain zm_X3_151 ziX3_barsPlain zvX3_barsPlain zclX3 rfl (by decide) rfl rfl (Nat.le_of_ble_eq_true rfl) (Nat.le_of_ble_eq_true rfl) hR.1 (ct_X3_barsPlain_bad hR hB hk) (zone_r ?_) zone_x (Nat.le_refl _)
  refine zm_pth K dX3_byTree_7 zf_X3_55 hR hS (fun M hR hS => ?_)
  refine zq_aload_n K dX3_byTree_10 rfl rfl ?_
  refine zm_th K dX3_byTree_11 zf_X3_55 hR ?_
  refine zq_if_leN K (x := k) 21 dX3_byTree_14 (by decide) (by omega) (fun h14 => by omega) (fun h14 => ?_)
  refine zq_iconst K dX3_byTree_17 (v := nI 0) (by decide) ?_
  refine zq_goto K 31 dX3_byTree_18 (by decide) ?_
  exact zq_iret K dX3_byTree_31 rfl ⟨rfl, hR, hS⟩
theorem ct_X3_serverOf_ok {G : ZG} {M : ZM} {x : Nat} {q : Nat → Nat} {w : Int32} {A : ZA} (hR : zR M x q w A) (hW : zWf A) {d h : Nat} (hd : d < 12) (hl : A.2 3 d = 1) (hh : h ≤ 49) : zMet G mX3_serverOf [.ref (x), .int (nI (d)), .int (nI (h))] M (zRP x q M (some (.int (zsv A (zfn A d h)))) (nI 0) A) := by
  refine zbody zyX3_serverOf [some (.ref (x)), some (.int (nI (d))), some (.int (nI (h)))] rfl (Nat.le_of_ble_eq_true rfl) (by intro v hv; simp only [List.mem_cons, List.not_mem_nil, or_false] at hv; rcases hv with rfl | rfl | rfl <;> rfl) (fun E K => ?_)
  obtain ⟨⟨D, hB⟩, hF, hU⟩ := id hW
  have hS : zSm x q M M := zSm.rf
  have h00 := hF.1 d hd hl
  refine zq_aload_n K dX3_serverOf_0 rfl rfl ?_
  refine zq_aload_n K dX3_serverOf_1 rfl rfl ?_
  refine zq_iload_n K dX3_serverOf_2 rfl rfl ?_
  refine zq_iload_n K dX3_serverOf_3 rfl rfl ?_
  refine zq_callV (As := [.int (nI (d)), .int (nI (h))]) K dX3_serverOf_4 zyX3_barsPlain zm_X3_151 ziX3_barsPlain zvX3_barsPlain zclX3 rfl (by decide) rfl rfl (Nat.le_of_ble_eq_true rfl) (Nat.le_of_ble_eq_true rfl) hR.1 (ct_X3_barsPlain_ok hR hB hd hl hh) (zone_r ?_) zone_x (Nat.le_refl _)
  refine zm_pth K dX3_serverOf_7 zf_X3_55 hR hS (fun M hR hS => ?_)
  refine zq_aload_n K dX3_serverOf_10 rfl rfl ?_
  refine zm_th K dX3_serverOf_11 zf_X3_55 hR ?_
  refine zq_if_leN K (x := 0) 21 dX3_serverOf_14 (by decide) (by omega) (fun h14 => ?_) (fun h14 => by omega)
  refine zq_aload_n K dX3_serverOf_21 rfl rfl ?_
  refine zq_aload_n K dX3_serverOf_22 rfl rfl ?_
  refine zq_iload_n K dX3_serverOf_23 rfl rfl ?_
  refine zq_iload_n K dX3_serverOf_24 rfl rfl ?_
  refine zq_callV (As := [.int (nI (d)), .int (nI (h))]) K dX3_serverOf_25 zyX3_fragmentOfName zm_X3_70 ziX3_fragmentOfName zvX3_fragmentOfName zclX3 rfl (by decide) rfl rfl (Nat.le_of_ble_eq_true rfl) (Nat.le_of_ble_eq_true rfl) hR.1 (ct_X3_fragmentOfName hR hd (show h < 50 by omega) h00) (zone_r ?_) zone_x (Nat.le_refl _)
  refine zq_callV (As := [.int (nI (zfn A d h))]) K dX3_serverOf_28 zyX3_server zm_X3_154 ziX3_server zvX3_server zclX3 rfl (by decide) rfl rfl (Nat.le_of_ble_eq_true rfl) (Nat.le_of_ble_eq_true rfl) hR.1 (ct_X3_server hR hF (by rw [zfn_div]; exact hU d hd hl) (zfn_lt A hd) (zfg_ne h00 _)) (zone_r ?_) zone_x (Nat.le_refl _)
  exact zq_iret K dX3_serverOf_31 rfl ⟨rfl, hR, hS⟩
theorem ct_X3_ownerOf_ok {G : ZG} {M : ZM} {x : Nat} {q : Nat → Nat} {w : Int32} {A : ZA} (hR : zR M x q w A) (hW : zWf A) {d h : Nat} (hd : d < 12) (hl : A.2 3 d = 1) (hh : h ≤ 7) : zMet G mX3_ownerOf [.ref (x), .int (nI (d)), .int (nI (h))] M (zRP x q M (some (.int (A.2 11 (8 * d + zfg (A.2 10) d h)))) (nI 0) A) := by
  refine zbody zyX3_ownerOf [some (.ref (x)), some (.int (nI (d))), some (.int (nI (h)))] rfl (Nat.le_of_ble_eq_true rfl) (by intro v hv; simp only [List.mem_cons, List.not_mem_nil, or_false] at hv; rcases hv with rfl | rfl | rfl <;> rfl) (fun E K => ?_)
  obtain ⟨⟨D, hB⟩, hF, hU⟩ := id hW
  have hS : zSm x q M M := zSm.rf
  have h00 := hF.1 d hd hl
  refine zq_aload_n K dX3_ownerOf_0 rfl rfl ?_
  refine zq_aload_n K dX3_ownerOf_1 rfl rfl ?_
  refine zq_iload_n K dX3_ownerOf_2 rfl rfl ?_
  refine zq_iload_n K dX3_ownerOf_3 rfl rfl ?_
  refine zq_callV (As := [.int (nI (d)), .int (nI (h))]) K dX3_ownerOf_4 zyX3_barsHash zm_X3_145 ziX3_barsHash zvX3_barsHash zclX3 rfl (by decide) rfl rfl (Nat.le_of_ble_eq_true rfl) (Nat.le_of_ble_eq_true rfl) hR.1 (ct_X3_barsHash_ok hR hB hd hl hh) (zone_r ?_) zone_x (Nat.le_refl _)
  refine zm_pth K dX3_ownerOf_7 zf_X3_55 hR hS (fun M hR hS => ?_)
  refine zq_aload_n K dX3_ownerOf_10 rfl rfl ?_
  refine zm_th K dX3_ownerOf_11 zf_X3_55 hR ?_
  refine zq_if_leN K (x := 0) 21 dX3_ownerOf_14 (by decide) (by omega) (fun h14 => ?_) (fun h14 => by omega)
  refine zq_aload_n K dX3_ownerOf_21 rfl rfl ?_
  refine zm_ar K dX3_ownerOf_22 zf_X3_33 (k := 11) (by decide) hR ?_
  refine zq_aload_n K dX3_ownerOf_25 rfl rfl ?_
  refine zq_iload_n K dX3_ownerOf_26 rfl rfl ?_
  refine zq_iload_n K dX3_ownerOf_27 rfl rfl ?_
  have hfg := zfg_le (A.2 10) d h
  refine zq_callV (As := [.int (nI (d)), .int (nI (h))]) K dX3_ownerOf_28 zyX3_fragment zm_X3_66 ziX3_fragment zvX3_fragment zclX3 rfl (by decide) rfl rfl (Nat.le_of_ble_eq_true rfl) (Nat.le_of_ble_eq_true rfl) hR.1 (ct_X3_fragment hR hd (show h < 8 by omega) h00) (zone_r ?_) zone_x (Nat.le_refl _)
  refine zm_ld K (8 * d + zfg (A.2 10) d h) dX3_ownerOf_31 (k := 11) (by decide) hR rfl (show 8 * d + zfg (A.2 10) d h < 96 by omega) ?_
  exact zq_iret K dX3_ownerOf_32 rfl ⟨rfl, hR, hS⟩
theorem ct_X3_byTree_ok {G : ZG} {M : ZM} {x : Nat} {q : Nat → Nat} {w : Int32} {A : ZA} (hR : zR M x q w A) (hW : zWf A) {d h : Nat} (hd : d < 12) (hl : A.2 3 d = 1) (hh : h ≤ 49) : zMet G mX3_byTree [.ref (x), .int (nI (d)), .int (nI (h))] M (zRP x q M (some (.int (A.2 6 (50 * d + h)))) (nI 0) A) := by
  refine zbody zyX3_byTree [some (.ref (x)), some (.int (nI (d))), some (.int (nI (h)))] rfl (Nat.le_of_ble_eq_true rfl) (by intro v hv; simp only [List.mem_cons, List.not_mem_nil, or_false] at hv; rcases hv with rfl | rfl | rfl <;> rfl) (fun E K => ?_)
  obtain ⟨⟨D, hB⟩, hF, hU⟩ := id hW
  have hS : zSm x q M M := zSm.rf
  have h00 := hF.1 d hd hl
  refine zq_aload_n K dX3_byTree_0 rfl rfl ?_
  refine zq_aload_n K dX3_byTree_1 rfl rfl ?_
  refine zq_iload_n K dX3_byTree_2 rfl rfl ?_
  refine zq_iload_n K dX3_byTree_3 rfl rfl ?_
  refine zq_callV (As := [.int (nI (d)), .int (nI (h))]) K dX3_byTree_4 zyX3_barsPlain zm_X3_151 ziX3_barsPlain zvX3_barsPlain zclX3 rfl (by decide) rfl rfl (Nat.le_of_ble_eq_true rfl) (Nat.le_of_ble_eq_true rfl) hR.1 (ct_X3_barsPlain_ok hR hB hd hl hh) (zone_r ?_) zone_x (Nat.le_refl _)
  refine zm_pth K dX3_byTree_7 zf_X3_55 hR hS (fun M hR hS => ?_)
  refine zq_aload_n K dX3_byTree_10 rfl rfl ?_
  refine zm_th K dX3_byTree_11 zf_X3_55 hR ?_
  refine zq_if_leN K (x := 0) 21 dX3_byTree_14 (by decide) (by omega) (fun h14 => ?_) (fun h14 => by omega)
  refine zq_aload_n K dX3_byTree_21 rfl rfl ?_
  refine zm_ar K dX3_byTree_22 zf_X3_24 (k := 6) (by decide) hR ?_
  refine zq_iload_n K dX3_byTree_25 rfl rfl ?_
  refine zq_iload_n K dX3_byTree_26 rfl rfl ?_
  refine zq_callS (As := [.int (nI (d)), .int (nI (h))]) K dX3_byTree_27 zyX3_at zm_X3_87 zsX3_at rfl (by decide) rfl rfl (Nat.le_of_ble_eq_true rfl) (Nat.le_of_ble_eq_true rfl) (ct_X3_at d h _) (zone_r ?_) zone_x (Nat.le_refl _)
  refine zm_ld K (50 * d + h) dX3_byTree_30 (k := 6) (by decide) hR rfl (show 50 * d + h < 600 by omega) ?_
  exact zq_iret K dX3_byTree_31 rfl ⟨rfl, hR, hS⟩
/-- the fragment f of the size s is split -/
def zSp (A : ZA) (f s : Nat) : ZA := zsa (zsa (zsa (zsa (zsa A 10 f (nI (s / 2))) 10 (f + s / 2) (nI (s / 2))) 11 (f + s / 2) (A.2 11 f)) 12 (f + s / 2) (A.2 12 f / nI 2)) 12 f (A.2 12 f - A.2 12 f / nI 2)
theorem ct_X3_split_1 {G : ZG} {M : ZM} {x : Nat} {q : Nat → Nat} {w : Int32} {A : ZA} (hR : zR M x q w A) (hW : zWf A) {d h : Nat} (hd : d < 12) (hl : A.2 3 d = 1) (hh : h ≤ 7) {s : Nat} (hs : A.2 10 (8 * d + zfg (A.2 10) d h) = nI s) (h8 : zfg (A.2 10) d h + s ≤ 8) (hs1 : 1 ≤ s) (h1 : s = 1) : zMet G mX3_split [.ref (x), .int (nI (d)), .int (nI (h))] M (zRP x q M (some (.int (nI 0))) (nI 3) A) := by
  refine zbody zyX3_split [some (.ref (x)), some (.int (nI (d))), some (.int (nI (h))), none, none] rfl (Nat.le_of_ble_eq_true rfl) (by intro v hv; simp only [List.mem_cons, List.not_mem_nil, or_false] at hv; rcases hv with rfl | rfl | rfl <;> rfl) (fun E K => ?_)
  obtain ⟨⟨D, hB⟩, hF, hU⟩ := id hW
  have hS : zSm x q M M := zSm.rf
  have h00 := hF.1 d hd hl
  refine zq_aload_n K dX3_split_0 rfl rfl ?_
  refine zq_aload_n K dX3_split_1 rfl rfl ?_
  refine zq_iload_n K dX3_split_2 rfl rfl ?_
  refine zq_iload_n K dX3_split_3 rfl rfl ?_
  refine zq_callV (As := [.int (nI (d)), .int (nI (h))]) K dX3_split_4 zyX3_barsHash zm_X3_145 ziX3_barsHash zvX3_barsHash zclX3 rfl (by decide) rfl rfl (Nat.le_of_ble_eq_true rfl) (Nat.le_of_ble_eq_true rfl) hR.1 (ct_X3_barsHash_ok hR hB hd hl hh) (zone_r ?_) zone_x (Nat.le_refl _)
  refine zm_pth K dX3_split_7 zf_X3_55 hR hS (fun M hR hS => ?_)
  refine zq_aload_n K dX3_split_10 rfl rfl ?_
  refine zm_th K dX3_split_11 zf_X3_55 hR ?_
  refine zq_if_leN K (x := 0) 21 dX3_split_14 (by decide) (by omega) (fun h14 => ?_) (fun h14 => by omega)
  refine zq_aload_n K dX3_split_21 rfl rfl ?_
  refine zq_iload_n K dX3_split_22 rfl rfl ?_
  refine zq_iload_n K dX3_split_23 rfl rfl ?_
  have hfg := zfg_le (A.2 10) d h
  refine zq_callV (As := [.int (nI (d)), .int (nI (h))]) K dX3_split_24 zyX3_fragment zm_X3_66 ziX3_fragment zvX3_fragment zclX3 rfl (by decide) rfl rfl (Nat.le_of_ble_eq_true rfl) (Nat.le_of_ble_eq_true rfl) hR.1 (ct_X3_fragment hR hd (show h < 8 by omega) h00) (zone_r ?_) zone_x (Nat.le_refl _)
  refine zq_istore_n K dX3_split_27 rfl (by decide) ?_
  refine zq_aload_n K dX3_split_28 rfl rfl ?_
  refine zq_aload_n K dX3_split_29 rfl rfl ?_
  refine zm_th K dX3_split_30 zf_X3_55 hR ?_
  refine zq_if_neN K (x := 0) 58 dX3_split_33 (by decide) (by omega) (fun h33 => by omega) (fun h33 => ?_)
  refine zq_aload_n K dX3_split_36 rfl rfl ?_
  refine zm_ar K dX3_split_37 zf_X3_30 (k := 10) (by decide) hR ?_
  refine zq_iload_n K dX3_split_40 rfl rfl ?_
  refine zm_ld K (8 * d + zfg (A.2 10) d h) dX3_split_41 (k := 10) (by decide) hR rfl (show 8 * d + zfg (A.2 10) d h < 96 by omega) ?_
  refine zq_top (v := nI (s)) hs ?_
  refine zq_iconst K dX3_split_42 (v := nI 1) (by decide) ?_
  refine zq_icmp_eqN K (x := s) (y := 1) 54 dX3_split_43 (by decide) ⟨by omega, by omega⟩ (fun h43 => ?_) (fun h43 => by omega)
  refine zq_iconst K dX3_split_54 (v := nI 3) (by decide) ?_
  refine zq_goto K 62 dX3_split_55 (by decide) ?_
  refine zm_pth K dX3_split_62 zf_X3_55 hR hS (fun M hR hS => ?_)
  refine zq_aload_n K dX3_split_65 rfl rfl ?_
  refine zm_th K dX3_split_66 zf_X3_55 hR ?_
  refine zq_if_leN K (x := 3) 74 dX3_split_69 (by decide) (by omega) (fun h69 => by omega) (fun h69 => ?_)
  refine zq_iconst K dX3_split_72 (v := nI 0) (by decide) ?_
  exact zq_iret K dX3_split_73 rfl ⟨rfl, hR, hS⟩
theorem ct_X3_split_fz {G : ZG} {M : ZM} {x : Nat} {q : Nat → Nat} {w : Int32} {A : ZA} (hR : zR M x q w A) (hW : zWf A) {d h : Nat} (hd : d < 12) (hl : A.2 3 d = 1) (hh : h ≤ 7) {s : Nat} (hs : A.2 10 (8 * d + zfg (A.2 10) d h) = nI s) (h8 : zfg (A.2 10) d h + s ≤ 8) (hs1 : 1 ≤ s) (h1 : ¬ s = 1) (hfz : zfz A (8 * d + zfg (A.2 10) d h) = true) : zMet G mX3_split [.ref (x), .int (nI (d)), .int (nI (h))] M (zRP x q M (some (.int (nI 0))) (nI 3) A) := by
  refine zbody zyX3_split [some (.ref (x)), some (.int (nI (d))), some (.int (nI (h))), none, none] rfl (Nat.le_of_ble_eq_true rfl) (by intro v hv; simp only [List.mem_cons, List.not_mem_nil, or_false] at hv; rcases hv with rfl | rfl | rfl <;> rfl) (fun E K => ?_)
  obtain ⟨⟨D, hB⟩, hF, hU⟩ := id hW
  have hS : zSm x q M M := zSm.rf
  have h00 := hF.1 d hd hl
  refine zq_aload_n K dX3_split_0 rfl rfl ?_
  refine zq_aload_n K dX3_split_1 rfl rfl ?_
  refine zq_iload_n K dX3_split_2 rfl rfl ?_
  refine zq_iload_n K dX3_split_3 rfl rfl ?_
  refine zq_callV (As := [.int (nI (d)), .int (nI (h))]) K dX3_split_4 zyX3_barsHash zm_X3_145 ziX3_barsHash zvX3_barsHash zclX3 rfl (by decide) rfl rfl (Nat.le_of_ble_eq_true rfl) (Nat.le_of_ble_eq_true rfl) hR.1 (ct_X3_barsHash_ok hR hB hd hl hh) (zone_r ?_) zone_x (Nat.le_refl _)
  refine zm_pth K dX3_split_7 zf_X3_55 hR hS (fun M hR hS => ?_)
  refine zq_aload_n K dX3_split_10 rfl rfl ?_
  refine zm_th K dX3_split_11 zf_X3_55 hR ?_
  refine zq_if_leN K (x := 0) 21 dX3_split_14 (by decide) (by omega) (fun h14 => ?_) (fun h14 => by omega)
  refine zq_aload_n K dX3_split_21 rfl rfl ?_
  refine zq_iload_n K dX3_split_22 rfl rfl ?_
  refine zq_iload_n K dX3_split_23 rfl rfl ?_
  have hfg := zfg_le (A.2 10) d h
  refine zq_callV (As := [.int (nI (d)), .int (nI (h))]) K dX3_split_24 zyX3_fragment zm_X3_66 ziX3_fragment zvX3_fragment zclX3 rfl (by decide) rfl rfl (Nat.le_of_ble_eq_true rfl) (Nat.le_of_ble_eq_true rfl) hR.1 (ct_X3_fragment hR hd (show h < 8 by omega) h00) (zone_r ?_) zone_x (Nat.le_refl _)
  refine zq_istore_n K dX3_split_27 rfl (by decide) ?_
  refine zq_aload_n K dX3_split_28 rfl rfl ?_
  refine zq_aload_n K dX3_split_29 rfl rfl ?_
  refine zm_th K dX3_split_30 zf_X3_55 hR ?_
  refine zq_if_neN K (x := 0) 58 dX3_split_33 (by decide) (by omega) (fun h33 => by omega) (fun h33 => ?_)
  refine zq_aload_n K dX3_split_36 rfl rfl ?_
  refine zm_ar K dX3_split_37 zf_X3_30 (k := 10) (by decide) hR ?_
  refine zq_iload_n K dX3_split_40 rfl rfl ?_
  refine zm_ld K (8 * d + zfg (A.2 10) d h) dX3_split_41 (k := 10) (by decide) hR rfl (show 8 * d + zfg (A.2 10) d h < 96 by omega) ?_
  refine zq_top (v := nI (s)) hs ?_
  refine zq_iconst K dX3_split_42 (v := nI 1) (by decide) ?_
  refine zq_icmp_eqN K (x := s) (y := 1) 54 dX3_split_43 (by decide) ⟨by omega, by omega⟩ (fun h43 => by omega) (fun h43 => ?_)
  refine zq_aload_n K dX3_split_46 rfl rfl ?_
  refine zq_iload_n K dX3_split_47 rfl rfl ?_
  refine zq_callV (As := [.int (nI (8 * d + zfg (A.2 10) d h))]) K dX3_split_48 zyX3_frozen zm_X3_76 ziX3_frozen zvX3_frozen zclX3 rfl (by decide) rfl rfl (Nat.le_of_ble_eq_true rfl) (Nat.le_of_ble_eq_true rfl) hR.1 (ct_X3_frozen hR hF (by rw [show (8 * d + zfg (A.2 10) d h) / 8 = d by omega]; exact hU d hd hl) (by omega) (zfg_ne h00 _)) (zdec_r (fun hz => ?_) (fun hz => ?_)) zdec_x (Nat.le_refl _)
  · refine zq_if_eqN K (x := 1) 58 dX3_split_51 (by decide) (by omega) (fun h51 => by omega) (fun h51 => ?_)
    refine zq_iconst K dX3_split_54 (v := nI 3) (by decide) ?_
    refine zq_goto K 62 dX3_split_55 (by decide) ?_
    refine zm_pth K dX3_split_62 zf_X3_55 hR hS (fun M hR hS => ?_)
    refine zq_aload_n K dX3_split_65 rfl rfl ?_
    refine zm_th K dX3_split_66 zf_X3_55 hR ?_
    refine zq_if_leN K (x := 3) 74 dX3_split_69 (by decide) (by omega) (fun h69 => by omega) (fun h69 => ?_)
    refine zq_iconst K dX3_split_72 (v := nI 0) (by decide) ?_
    exact zq_iret K dX3_split_73 rfl ⟨rfl, hR, hS⟩
  · refine zq_if_eqN K (x := 0) 58 dX3_split_51 (by decide) (by omega) (fun h51 => ?_) (fun h51 => by omega)
    exact absurd hfz hz
theorem ct_X3_split_ok {G : ZG} {M : ZM} {x : Nat} {q : Nat → Nat} {w : Int32} {A : ZA} (hR : zR M x q w A) (hW : zWf A) {d h : Nat} (hd : d < 12) (hl : A.2 3 d = 1) (hh : h ≤ 7) {s : Nat} (hs : A.2 10 (8 * d + zfg (A.2 10) d h) = nI s) (h8 : zfg (A.2 10) d h + s ≤ 8) (hs1 : 1 ≤ s) (h1 : ¬ s = 1) (hfz : ¬ zfz A (8 * d + zfg (A.2 10) d h) = true) : zMet G mX3_split [.ref (x), .int (nI (d)), .int (nI (h))] M (zRP x q M (some (.int (nI (zcN (zps (zSp A (8 * d + zfg (A.2 10) d h) s) d) 8)))) (nI 0) (zSp A (8 * d + zfg (A.2 10) d h) s)) := by
  refine zbody zyX3_split [some (.ref (x)), some (.int (nI (d))), some (.int (nI (h))), none, none] rfl (Nat.le_of_ble_eq_true rfl) (by intro v hv; simp only [List.mem_cons, List.not_mem_nil, or_false] at hv; rcases hv with rfl | rfl | rfl <;> rfl) (fun E K => ?_)
  obtain ⟨⟨D, hB⟩, hF, hU⟩ := id hW
  have hS : zSm x q M M := zSm.rf
  have h00 := hF.1 d hd hl
  refine zq_aload_n K dX3_split_0 rfl rfl ?_
  refine zq_aload_n K dX3_split_1 rfl rfl ?_
  refine zq_iload_n K dX3_split_2 rfl rfl ?_
  refine zq_iload_n K dX3_split_3 rfl rfl ?_
  refine zq_callV (As := [.int (nI (d)), .int (nI (h))]) K dX3_split_4 zyX3_barsHash zm_X3_145 ziX3_barsHash zvX3_barsHash zclX3 rfl (by decide) rfl rfl (Nat.le_of_ble_eq_true rfl) (Nat.le_of_ble_eq_true rfl) hR.1 (ct_X3_barsHash_ok hR hB hd hl hh) (zone_r ?_) zone_x (Nat.le_refl _)
  refine zm_pth K dX3_split_7 zf_X3_55 hR hS (fun M hR hS => ?_)
  refine zq_aload_n K dX3_split_10 rfl rfl ?_
  refine zm_th K dX3_split_11 zf_X3_55 hR ?_
  refine zq_if_leN K (x := 0) 21 dX3_split_14 (by decide) (by omega) (fun h14 => ?_) (fun h14 => by omega)
  refine zq_aload_n K dX3_split_21 rfl rfl ?_
  refine zq_iload_n K dX3_split_22 rfl rfl ?_
  refine zq_iload_n K dX3_split_23 rfl rfl ?_
  have hfg := zfg_le (A.2 10) d h
  refine zq_callV (As := [.int (nI (d)), .int (nI (h))]) K dX3_split_24 zyX3_fragment zm_X3_66 ziX3_fragment zvX3_fragment zclX3 rfl (by decide) rfl rfl (Nat.le_of_ble_eq_true rfl) (Nat.le_of_ble_eq_true rfl) hR.1 (ct_X3_fragment hR hd (show h < 8 by omega) h00) (zone_r ?_) zone_x (Nat.le_refl _)
  refine zq_istore_n K dX3_split_27 rfl (by decide) ?_
  refine zq_aload_n K dX3_split_28 rfl rfl ?_
  refine zq_aload_n K dX3_split_29 rfl rfl ?_
  refine zm_th K dX3_split_30 zf_X3_55 hR ?_
  refine zq_if_neN K (x := 0) 58 dX3_split_33 (by decide) (by omega) (fun h33 => by omega) (fun h33 => ?_)
  refine zq_aload_n K dX3_split_36 rfl rfl ?_
  refine zm_ar K dX3_split_37 zf_X3_30 (k := 10) (by decide) hR ?_
  refine zq_iload_n K dX3_split_40 rfl rfl ?_
  refine zm_ld K (8 * d + zfg (A.2 10) d h) dX3_split_41 (k := 10) (by decide) hR rfl (show 8 * d + zfg (A.2 10) d h < 96 by omega) ?_
  refine zq_top (v := nI (s)) hs ?_
  refine zq_iconst K dX3_split_42 (v := nI 1) (by decide) ?_
  refine zq_icmp_eqN K (x := s) (y := 1) 54 dX3_split_43 (by decide) ⟨by omega, by omega⟩ (fun h43 => by omega) (fun h43 => ?_)
  refine zq_aload_n K dX3_split_46 rfl rfl ?_
  refine zq_iload_n K dX3_split_47 rfl rfl ?_
  refine zq_callV (As := [.int (nI (8 * d + zfg (A.2 10) d h))]) K dX3_split_48 zyX3_frozen zm_X3_76 ziX3_frozen zvX3_frozen zclX3 rfl (by decide) rfl rfl (Nat.le_of_ble_eq_true rfl) (Nat.le_of_ble_eq_true rfl) hR.1 (ct_X3_frozen hR hF (by rw [show (8 * d + zfg (A.2 10) d h) / 8 = d by omega]; exact hU d hd hl) (by omega) (zfg_ne h00 _)) (zdec_r (fun hz => ?_) (fun hz => ?_)) zdec_x (Nat.le_refl _)
  · refine zq_if_eqN K (x := 1) 58 dX3_split_51 (by decide) (by omega) (fun h51 => by omega) (fun h51 => ?_)
    exact absurd hz hfz
  · refine zq_if_eqN K (x := 0) 58 dX3_split_51 (by decide) (by omega) (fun h51 => ?_) (fun h51 => by omega)
    refine zq_aload_n K dX3_split_58 rfl rfl ?_
    refine zm_th K dX3_split_59 zf_X3_55 hR ?_
    refine zm_pth K dX3_split_62 zf_X3_55 hR hS (fun M hR hS => ?_)
    refine zq_aload_n K dX3_split_65 rfl rfl ?_
    refine zm_th K dX3_split_66 zf_X3_55 hR ?_
    refine zq_if_leN K (x := 0) 74 dX3_split_69 (by decide) (by omega) (fun h69 => ?_) (fun h69 => by omega)
    refine zq_aload_n K dX3_split_74 rfl rfl ?_
    refine zm_ar K dX3_split_75 zf_X3_30 (k := 10) (by decide) hR ?_
    refine zq_iload_n K dX3_split_78 rfl rfl ?_
    refine zm_ld K (8 * d + zfg (A.2 10) d h) dX3_split_79 (k := 10) (by decide) hR rfl (show 8 * d + zfg (A.2 10) d h < 96 by omega) ?_
    refine zq_top (v := nI (s)) hs ?_
    refine zq_iconst K dX3_split_80 (v := nI 2) (by decide) ?_
    refine zq_idivN K (x := s) (y := 2) dX3_split_81 (by omega) ?_
    refine zq_istore K dX3_split_82 (by decide) ?_
    refine zq_aload_n K dX3_split_84 rfl rfl ?_
    refine zm_ar K dX3_split_85 zf_X3_30 (k := 10) (by decide) hR ?_
    refine zq_iload_n K dX3_split_88 rfl rfl ?_
    refine zq_iload K dX3_split_89 rfl ?_
    refine zm_st K (8 * d + zfg (A.2 10) d h) dX3_split_91 (k := 10) (by decide) hR hS rfl (show 8 * d + zfg (A.2 10) d h < 96 by omega) (fun M hR hS => ?_)
    refine zq_aload_n K dX3_split_92 rfl rfl ?_
    refine zm_ar K dX3_split_93 zf_X3_30 (k := 10) (by decide) hR ?_
    refine zq_iload_n K dX3_split_96 rfl rfl ?_
    refine zq_iload K dX3_split_97 rfl ?_
    refine zq_iaddN K (x := 8 * d + zfg (A.2 10) d h) (y := (s) / (2)) dX3_split_99 ?_
    refine zq_iload K dX3_split_100 rfl ?_
    refine zm_st K ((8 * d + zfg (A.2 10) d h) + ((s) / (2))) dX3_split_102 (k := 10) (by decide) hR hS rfl (show (8 * d + zfg (A.2 10) d h) + ((s) / (2)) < 96 by omega) (fun M hR hS => ?_)
    refine zq_aload_n K dX3_split_103 rfl rfl ?_
    refine zm_ar K dX3_split_104 zf_X3_33 (k := 11) (by decide) hR ?_
    refine zq_iload_n K dX3_split_107 rfl rfl ?_
    refine zq_iload K dX3_split_108 rfl ?_
    refine zq_iaddN K (x := 8 * d + zfg (A.2 10) d h) (y := (s) / (2)) dX3_split_110 ?_
    refine zq_aload_n K dX3_split_111 rfl rfl ?_
    refine zm_ar K dX3_split_112 zf_X3_33 (k := 11) (by decide) hR ?_
    refine zq_iload_n K dX3_split_115 rfl rfl ?_
    refine zm_ld K (8 * d + zfg (A.2 10) d h) dX3_split_116 (k := 11) (by decide) hR rfl (show 8 * d + zfg (A.2 10) d h < 96 by omega) ?_
    refine zq_top (v := A.2 11 (8 * d + zfg (A.2 10) d h)) rfl ?_
    refine zm_st K ((8 * d + zfg (A.2 10) d h) + ((s) / (2))) dX3_split_117 (k := 11) (by decide) hR hS rfl (show (8 * d + zfg (A.2 10) d h) + ((s) / (2)) < 96 by omega) (fun M hR hS => ?_)
    refine zq_aload_n K dX3_split_118 rfl rfl ?_
    refine zm_ar K dX3_split_119 zf_X3_36 (k := 12) (by decide) hR ?_
    refine zq_iload_n K dX3_split_122 rfl rfl ?_
    refine zq_iload K dX3_split_123 rfl ?_
    refine zq_iaddN K (x := 8 * d + zfg (A.2 10) d h) (y := (s) / (2)) dX3_split_125 ?_
    refine zq_aload_n K dX3_split_126 rfl rfl ?_
    refine zm_ar K dX3_split_127 zf_X3_36 (k := 12) (by decide) hR ?_
    refine zq_iload_n K dX3_split_130 rfl rfl ?_
    refine zm_ld K (8 * d + zfg (A.2 10) d h) dX3_split_131 (k := 12) (by decide) hR rfl (show 8 * d + zfg (A.2 10) d h < 96 by omega) ?_
    refine zq_top (v := A.2 12 (8 * d + zfg (A.2 10) d h)) rfl ?_
    refine zq_iconst K dX3_split_132 (v := nI 2) (by decide) ?_
    refine zq_idiv K dX3_split_133 (nI_ne0 (by decide) (by decide)) ?_
    refine zm_st K ((8 * d + zfg (A.2 10) d h) + ((s) / (2))) dX3_split_134 (k := 12) (by decide) hR hS rfl (show (8 * d + zfg (A.2 10) d h) + ((s) / (2)) < 96 by omega) (fun M hR hS => ?_)
    refine zq_aload_n K dX3_split_135 rfl rfl ?_
    refine zm_ar K dX3_split_136 zf_X3_36 (k := 12) (by decide) hR ?_
    refine zq_iload_n K dX3_split_139 rfl rfl ?_
    refine zq_dup2 K dX3_split_140 rfl rfl ?_
    refine zm_ld K (8 * d + zfg (A.2 10) d h) dX3_split_141 (k := 12) (by decide) hR rfl (show 8 * d + zfg (A.2 10) d h < 96 by omega) ?_
    refine zq_top (v := A.2 12 (8 * d + zfg (A.2 10) d h)) (by rw [zsa_2, if_neg (fun z => by omega)]; rfl) ?_
    refine zq_aload_n K dX3_split_142 rfl rfl ?_
    refine zm_ar K dX3_split_143 zf_X3_36 (k := 12) (by decide) hR ?_
    refine zq_iload_n K dX3_split_146 rfl rfl ?_
    refine zq_iload K dX3_split_147 rfl ?_
    refine zq_iaddN K (x := 8 * d + zfg (A.2 10) d h) (y := (s) / (2)) dX3_split_149 ?_
    refine zm_ld K ((8 * d + zfg (A.2 10) d h) + ((s) / (2))) dX3_split_150 (k := 12) (by decide) hR rfl (show (8 * d + zfg (A.2 10) d h) + ((s) / (2)) < 96 by omega) ?_
    refine zq_top (v := A.2 12 (8 * d + zfg (A.2 10) d h) / nI 2) (by rw [zsa_2, if_pos ⟨rfl, rfl⟩]) ?_
    refine zq_isub K dX3_split_151 ?_
    refine zm_st K (8 * d + zfg (A.2 10) d h) dX3_split_152 (k := 12) (by decide) hR hS rfl (show 8 * d + zfg (A.2 10) d h < 96 by omega) (fun M hR hS => ?_)
    refine zq_aload_n K dX3_split_153 rfl rfl ?_
    refine zq_iload_n K dX3_split_154 rfl rfl ?_
    refine zq_callV (As := [.int (nI (d))]) K dX3_split_155 zyX3_count zm_X3_148 ziX3_count zvX3_count zclX3 rfl (by decide) rfl rfl (Nat.le_of_ble_eq_true rfl) (Nat.le_of_ble_eq_true rfl) hR.1 (ct_X3_count hR hd) (zone_r ?_) zone_x (Nat.le_refl _)
    exact zq_iret K dX3_split_158 rfl ⟨rfl, hR, hS⟩
/-- two fragments at f, f + s, both of size s, are merged -/
def zMg (A : ZA) (f s : Nat) : ZA := zsa (zsa (zsa A 10 f (nI (2 * s))) 10 (f + s) (nI 0)) 12 f (A.2 12 f + A.2 12 (f + s))
/-- where the first of the two begins -/
def zb1 (b s : Nat) : Nat := if b % (2 * s) = 0 then b else b - s
theorem ct_X3_merge_8 {G : ZG} {M : ZM} {x : Nat} {q : Nat → Nat} {w : Int32} {A : ZA} (hR : zR M x q w A) (hW : zWf A) {d h : Nat} (hd : d < 12) (hl : A.2 3 d = 1) (hh : h ≤ 7) {s : Nat} (hs : A.2 10 (8 * d + zfg (A.2 10) d h) = nI s) (hs1 : 1 ≤ s) (hs8 : s ≤ 8) (hbs : ¬ zfg (A.2 10) d h % (2 * s) = 0 → s ≤ zfg (A.2 10) d h) (h8 : s = 8) : zMet G mX3_merge [.ref (x), .int (nI (d)), .int (nI (h))] M (zRP x q M (some (.int (nI 0))) (nI 3) A) := by
  refine zbody zyX3_merge [some (.ref (x)), some (.int (nI (d))), some (.int (nI (h))), none, none, none, none, none] rfl (Nat.le_of_ble_eq_true rfl) (by intro v hv; simp only [List.mem_cons, List.not_mem_nil, or_false] at hv; rcases hv with rfl | rfl | rfl <;> rfl) (fun E K => ?_)
  obtain ⟨⟨D, hB⟩, hF, hU⟩ := id hW
  have hS : zSm x q M M := zSm.rf
  have h00 := hF.1 d hd hl
  refine zq_aload_n K dX3_merge_0 rfl rfl ?_
  refine zq_aload_n K dX3_merge_1 rfl rfl ?_
  refine zq_iload_n K dX3_merge_2 rfl rfl ?_
  refine zq_iload_n K dX3_merge_3 rfl rfl ?_
  refine zq_callV (As := [.int (nI (d)), .int (nI (h))]) K dX3_merge_4 zyX3_barsHash zm_X3_145 ziX3_barsHash zvX3_barsHash zclX3 rfl (by decide) rfl rfl (Nat.le_of_ble_eq_true rfl) (Nat.le_of_ble_eq_true rfl) hR.1 (ct_X3_barsHash_ok hR hB hd hl hh) (zone_r ?_) zone_x (Nat.le_refl _)
  refine zm_pth K dX3_merge_7 zf_X3_55 hR hS (fun M hR hS => ?_)
  refine zq_aload_n K dX3_merge_10 rfl rfl ?_
  refine zm_th K dX3_merge_11 zf_X3_55 hR ?_
  refine zq_if_leN K (x := 0) 19 dX3_merge_14 (by decide) (by omega) (fun h14 => ?_) (fun h14 => by omega)
  refine zq_aload_n K dX3_merge_19 rfl rfl ?_
  refine zq_iload_n K dX3_merge_20 rfl rfl ?_
  refine zq_iload_n K dX3_merge_21 rfl rfl ?_
  have hfg := zfg_le (A.2 10) d h
  refine zq_callV (As := [.int (nI (d)), .int (nI (h))]) K dX3_merge_22 zyX3_fragment zm_X3_66 ziX3_fragment zvX3_fragment zclX3 rfl (by decide) rfl rfl (Nat.le_of_ble_eq_true rfl) (Nat.le_of_ble_eq_true rfl) hR.1 (ct_X3_fragment hR hd (show h < 8 by omega) h00) (zone_r ?_) zone_x (Nat.le_refl _)
  refine zq_istore_n K dX3_merge_25 rfl (by decide) ?_
  refine zq_aload_n K dX3_merge_26 rfl rfl ?_
  refine zm_ar K dX3_merge_27 zf_X3_30 (k := 10) (by decide) hR ?_
  refine zq_iload_n K dX3_merge_30 rfl rfl ?_
  refine zm_ld K (8 * d + zfg (A.2 10) d h) dX3_merge_31 (k := 10) (by decide) hR rfl (show 8 * d + zfg (A.2 10) d h < 96 by omega) ?_
  refine zq_top (v := nI (s)) hs ?_
  refine zq_istore K dX3_merge_32 (by decide) ?_
  refine zq_iload_n K dX3_merge_34 rfl rfl ?_
  refine zq_bipush K dX3_merge_35 (v := nI 8) (by decide) ?_
  refine zq_iremN K (x := 8 * d + zfg (A.2 10) d h) (y := 8) dX3_merge_37 (by omega) ?_
  refine zq_istore K dX3_merge_38 (by decide) ?_
  refine zq_iload K dX3_merge_40 rfl ?_
  refine zq_iconst K dX3_merge_42 (v := nI 2) (by decide) ?_
  refine zq_iload K dX3_merge_43 rfl ?_
  refine zq_imulN K (x := 2) (y := s) dX3_merge_45 ?_
  refine zq_iremN K (x := (8 * d + zfg (A.2 10) d h) % (8)) (y := (2) * (s)) dX3_merge_46 (by omega) ?_
  refine zq_if_neN K (x := ((8 * d + zfg (A.2 10) d h) % (8)) % ((2) * (s))) 54 dX3_merge_47 (by decide) (Nat.lt_of_lt_of_le (Nat.mod_lt _ (by omega)) (show 2 * s ≤ 2 ^ 31 by omega)) (fun h47 => ?_) (fun h47 => ?_)
  · have hb0 : ¬ zfg (A.2 10) d h % (2 * s) = 0 := (by rw [show (8 * d + zfg (A.2 10) d h) % 8 = zfg (A.2 10) d h by omega] at h47; exact h47)
    have hb9 := hbs hb0
    refine zq_iload_n K dX3_merge_54 rfl rfl ?_
    refine zq_iload K dX3_merge_55 rfl ?_
    refine zq_isubN K (x := 8 * d + zfg (A.2 10) d h) (y := s) dX3_merge_57 (by omega) ?_
    refine zq_top (v := nI (8 * d + zb1 (zfg (A.2 10) d h) s)) (congrArg nI (by rw [zb1, if_neg hb0]; omega)) ?_
    refine zq_istore K dX3_merge_58 (by decide) ?_
    refine zq_iload K dX3_merge_60 rfl ?_
    refine zq_iload K dX3_merge_62 rfl ?_
    refine zq_iaddN K (x := 8 * d + zb1 (zfg (A.2 10) d h) s) (y := s) dX3_merge_64 ?_
    refine zq_istore K dX3_merge_65 (by decide) ?_
    refine zq_aload_n K dX3_merge_67 rfl rfl ?_
    refine zq_iload K dX3_merge_68 rfl ?_
    refine zq_bipush K dX3_merge_70 (v := nI 8) (by decide) ?_
    refine zq_icmp_neN K (x := s) (y := 8) 79 dX3_merge_72 (by decide) ⟨by omega, by omega⟩ (fun h72 => by omega) (fun h72 => ?_)
    refine zq_iconst K dX3_merge_75 (v := nI 3) (by decide) ?_
    refine zq_goto K 80 dX3_merge_76 (by decide) ?_
    refine zm_pth K dX3_merge_80 zf_X3_55 hR hS (fun M hR hS => ?_)
    refine zq_aload_n K dX3_merge_83 rfl rfl ?_
    refine zq_aload_n K dX3_merge_84 rfl rfl ?_
    refine zm_th K dX3_merge_85 zf_X3_55 hR ?_
    refine zq_if_neN K (x := 3) 119 dX3_merge_88 (by decide) (by omega) (fun h88 => ?_) (fun h88 => by omega)
    refine zq_aload_n K dX3_merge_119 rfl rfl ?_
    refine zm_th K dX3_merge_120 zf_X3_55 hR ?_
    refine zm_pth K dX3_merge_123 zf_X3_55 hR hS (fun M hR hS => ?_)
    refine zq_aload_n K dX3_merge_126 rfl rfl ?_
    refine zq_aload_n K dX3_merge_127 rfl rfl ?_
    refine zm_th K dX3_merge_128 zf_X3_55 hR ?_
    refine zq_if_neN K (x := 3) 173 dX3_merge_131 (by decide) (by omega) (fun h131 => ?_) (fun h131 => by omega)
    refine zq_aload_n K dX3_merge_173 rfl rfl ?_
    refine zm_th K dX3_merge_174 zf_X3_55 hR ?_
    refine zm_pth K dX3_merge_177 zf_X3_55 hR hS (fun M hR hS => ?_)
    refine zq_aload_n K dX3_merge_180 rfl rfl ?_
    refine zm_th K dX3_merge_181 zf_X3_55 hR ?_
    refine zq_if_leN K (x := 3) 189 dX3_merge_184 (by decide) (by omega) (fun h184 => by omega) (fun h184 => ?_)
    refine zq_iconst K dX3_merge_187 (v := nI 0) (by decide) ?_
    exact zq_iret K dX3_merge_188 rfl ⟨rfl, hR, hS⟩
  · refine zq_iload_n K dX3_merge_50 rfl rfl ?_
    refine zq_goto K 58 dX3_merge_51 (by decide) ?_
    have hb0 : zfg (A.2 10) d h % (2 * s) = 0 := (by rw [show (8 * d + zfg (A.2 10) d h) % 8 = zfg (A.2 10) d h by omega] at h47; exact h47)
    refine zq_top (v := nI (8 * d + zb1 (zfg (A.2 10) d h) s)) (by rw [zb1, if_pos hb0]) ?_
    refine zq_istore K dX3_merge_58 (by decide) ?_
    refine zq_iload K dX3_merge_60 rfl ?_
    refine zq_iload K dX3_merge_62 rfl ?_
    refine zq_iaddN K (x := 8 * d + zb1 (zfg (A.2 10) d h) s) (y := s) dX3_merge_64 ?_
    refine zq_istore K dX3_merge_65 (by decide) ?_
    refine zq_aload_n K dX3_merge_67 rfl rfl ?_
    refine zq_iload K dX3_merge_68 rfl ?_
    refine zq_bipush K dX3_merge_70 (v := nI 8) (by decide) ?_
    refine zq_icmp_neN K (x := s) (y := 8) 79 dX3_merge_72 (by decide) ⟨by omega, by omega⟩ (fun h72 => by omega) (fun h72 => ?_)
    refine zq_iconst K dX3_merge_75 (v := nI 3) (by decide) ?_
    refine zq_goto K 80 dX3_merge_76 (by decide) ?_
    refine zm_pth K dX3_merge_80 zf_X3_55 hR hS (fun M hR hS => ?_)
    refine zq_aload_n K dX3_merge_83 rfl rfl ?_
    refine zq_aload_n K dX3_merge_84 rfl rfl ?_
    refine zm_th K dX3_merge_85 zf_X3_55 hR ?_
    refine zq_if_neN K (x := 3) 119 dX3_merge_88 (by decide) (by omega) (fun h88 => ?_) (fun h88 => by omega)
    refine zq_aload_n K dX3_merge_119 rfl rfl ?_
    refine zm_th K dX3_merge_120 zf_X3_55 hR ?_
    refine zm_pth K dX3_merge_123 zf_X3_55 hR hS (fun M hR hS => ?_)
    refine zq_aload_n K dX3_merge_126 rfl rfl ?_
    refine zq_aload_n K dX3_merge_127 rfl rfl ?_
    refine zm_th K dX3_merge_128 zf_X3_55 hR ?_
    refine zq_if_neN K (x := 3) 173 dX3_merge_131 (by decide) (by omega) (fun h131 => ?_) (fun h131 => by omega)
    refine zq_aload_n K dX3_merge_173 rfl rfl ?_
    refine zm_th K dX3_merge_174 zf_X3_55 hR ?_
    refine zm_pth K dX3_merge_177 zf_X3_55 hR hS (fun M hR hS => ?_)
    refine zq_aload_n K dX3_merge_180 rfl rfl ?_
    refine zm_th K dX3_merge_181 zf_X3_55 hR ?_
    refine zq_if_leN K (x := 3) 189 dX3_merge_184 (by decide) (by omega) (fun h184 => by omega) (fun h184 => ?_)
    refine zq_iconst K dX3_merge_187 (v := nI 0) (by decide) ?_
    exact zq_iret K dX3_merge_188 rfl ⟨rfl, hR, hS⟩
theorem ct_X3_merge_half {G : ZG} {M : ZM} {x : Nat} {q : Nat → Nat} {w : Int32} {A : ZA} (hR : zR M x q w A) (hW : zWf A) {d h : Nat} (hd : d < 12) (hl : A.2 3 d = 1) (hh : h ≤ 7) {s : Nat} (hs : A.2 10 (8 * d + zfg (A.2 10) d h) = nI s) (hs1 : 1 ≤ s) (hs8 : s ≤ 8) (hbs : ¬ zfg (A.2 10) d h % (2 * s) = 0 → s ≤ zfg (A.2 10) d h) (h8 : s < 8) (hb2 : zb1 (zfg (A.2 10) d h) s + 2 * s ≤ 8) (h3 : ¬ (A.2 10 (8 * d + zb1 (zfg (A.2 10) d h) s) = nI s ∧ A.2 10 ((8 * d + zb1 (zfg (A.2 10) d h) s) + s) = nI s)) : zMet G mX3_merge [.ref (x), .int (nI (d)), .int (nI (h))] M (zRP x q M (some (.int (nI 0))) (nI 3) A) := by
  refine zbody zyX3_merge [some (.ref (x)), some (.int (nI (d))), some (.int (nI (h))), none, none, none, none, none] rfl (Nat.le_of_ble_eq_true rfl) (by intro v hv; simp only [List.mem_cons, List.not_mem_nil, or_false] at hv; rcases hv with rfl | rfl | rfl <;> rfl) (fun E K => ?_)
  obtain ⟨⟨D, hB⟩, hF, hU⟩ := id hW
  have hS : zSm x q M M := zSm.rf
  have h00 := hF.1 d hd hl
  refine zq_aload_n K dX3_merge_0 rfl rfl ?_
  refine zq_aload_n K dX3_merge_1 rfl rfl ?_
  refine zq_iload_n K dX3_merge_2 rfl rfl ?_
  refine zq_iload_n K dX3_merge_3 rfl rfl ?_
  refine zq_callV (As := [.int (nI (d)), .int (nI (h))]) K dX3_merge_4 zyX3_barsHash zm_X3_145 ziX3_barsHash zvX3_barsHash zclX3 rfl (by decide) rfl rfl (Nat.le_of_ble_eq_true rfl) (Nat.le_of_ble_eq_true rfl) hR.1 (ct_X3_barsHash_ok hR hB hd hl hh) (zone_r ?_) zone_x (Nat.le_refl _)
  refine zm_pth K dX3_merge_7 zf_X3_55 hR hS (fun M hR hS => ?_)
  refine zq_aload_n K dX3_merge_10 rfl rfl ?_
  refine zm_th K dX3_merge_11 zf_X3_55 hR ?_
  refine zq_if_leN K (x := 0) 19 dX3_merge_14 (by decide) (by omega) (fun h14 => ?_) (fun h14 => by omega)
  refine zq_aload_n K dX3_merge_19 rfl rfl ?_
  refine zq_iload_n K dX3_merge_20 rfl rfl ?_
  refine zq_iload_n K dX3_merge_21 rfl rfl ?_
  have hfg := zfg_le (A.2 10) d h
  refine zq_callV (As := [.int (nI (d)), .int (nI (h))]) K dX3_merge_22 zyX3_fragment zm_X3_66 ziX3_fragment zvX3_fragment zclX3 rfl (by decide) rfl rfl (Nat.le_of_ble_eq_true rfl) (Nat.le_of_ble_eq_true rfl) hR.1 (ct_X3_fragment hR hd (show h < 8 by omega) h00) (zone_r ?_) zone_x (Nat.le_refl _)
  refine zq_istore_n K dX3_merge_25 rfl (by decide) ?_
  refine zq_aload_n K dX3_merge_26 rfl rfl ?_
  refine zm_ar K dX3_merge_27 zf_X3_30 (k := 10) (by decide) hR ?_
  refine zq_iload_n K dX3_merge_30 rfl rfl ?_
  refine zm_ld K (8 * d + zfg (A.2 10) d h) dX3_merge_31 (k := 10) (by decide) hR rfl (show 8 * d + zfg (A.2 10) d h < 96 by omega) ?_
  refine zq_top (v := nI (s)) hs ?_
  refine zq_istore K dX3_merge_32 (by decide) ?_
  refine zq_iload_n K dX3_merge_34 rfl rfl ?_
  refine zq_bipush K dX3_merge_35 (v := nI 8) (by decide) ?_
  refine zq_iremN K (x := 8 * d + zfg (A.2 10) d h) (y := 8) dX3_merge_37 (by omega) ?_
  refine zq_istore K dX3_merge_38 (by decide) ?_
  refine zq_iload K dX3_merge_40 rfl ?_
  refine zq_iconst K dX3_merge_42 (v := nI 2) (by decide) ?_
  refine zq_iload K dX3_merge_43 rfl ?_
  refine zq_imulN K (x := 2) (y := s) dX3_merge_45 ?_
  refine zq_iremN K (x := (8 * d + zfg (A.2 10) d h) % (8)) (y := (2) * (s)) dX3_merge_46 (by omega) ?_
  refine zq_if_neN K (x := ((8 * d + zfg (A.2 10) d h) % (8)) % ((2) * (s))) 54 dX3_merge_47 (by decide) (Nat.lt_of_lt_of_le (Nat.mod_lt _ (by omega)) (show 2 * s ≤ 2 ^ 31 by omega)) (fun h47 => ?_) (fun h47 => ?_)
  · have hb0 : ¬ zfg (A.2 10) d h % (2 * s) = 0 := (by rw [show (8 * d + zfg (A.2 10) d h) % 8 = zfg (A.2 10) d h by omega] at h47; exact h47)
    have hb9 := hbs hb0
    refine zq_iload_n K dX3_merge_54 rfl rfl ?_
    refine zq_iload K dX3_merge_55 rfl ?_
    refine zq_isubN K (x := 8 * d + zfg (A.2 10) d h) (y := s) dX3_merge_57 (by omega) ?_
    refine zq_top (v := nI (8 * d + zb1 (zfg (A.2 10) d h) s)) (congrArg nI (by rw [zb1, if_neg hb0]; omega)) ?_
    refine zq_istore K dX3_merge_58 (by decide) ?_
    refine zq_iload K dX3_merge_60 rfl ?_
    refine zq_iload K dX3_merge_62 rfl ?_
    refine zq_iaddN K (x := 8 * d + zb1 (zfg (A.2 10) d h) s) (y := s) dX3_merge_64 ?_
    refine zq_istore K dX3_merge_65 (by decide) ?_
    refine zq_aload_n K dX3_merge_67 rfl rfl ?_
    refine zq_iload K dX3_merge_68 rfl ?_
    refine zq_bipush K dX3_merge_70 (v := nI 8) (by decide) ?_
    refine zq_icmp_neN K (x := s) (y := 8) 79 dX3_merge_72 (by decide) ⟨by omega, by omega⟩ (fun h72 => ?_) (fun h72 => by omega)
    refine zq_iconst K dX3_merge_79 (v := nI 0) (by decide) ?_
    refine zm_pth K dX3_merge_80 zf_X3_55 hR hS (fun M hR hS => ?_)
    refine zq_aload_n K dX3_merge_83 rfl rfl ?_
    refine zq_aload_n K dX3_merge_84 rfl rfl ?_
    refine zm_th K dX3_merge_85 zf_X3_55 hR ?_
    refine zq_if_neN K (x := 0) 119 dX3_merge_88 (by decide) (by omega) (fun h88 => by omega) (fun h88 => ?_)
    refine zq_aload_n K dX3_merge_91 rfl rfl ?_
    refine zm_ar K dX3_merge_92 zf_X3_30 (k := 10) (by decide) hR ?_
    refine zq_iload K dX3_merge_95 rfl ?_
    refine zm_ld K (8 * d + zb1 (zfg (A.2 10) d h) s) dX3_merge_97 (k := 10) (by decide) hR rfl (show 8 * d + zb1 (zfg (A.2 10) d h) s < 96 by omega) ?_
    refine zq_iload K dX3_merge_98 rfl ?_
    refine zq_icmp_ne K 115 dX3_merge_100 (by decide) (fun h100 => ?_) (fun h100 => ?_)
    · refine zq_iconst K dX3_merge_115 (v := nI 3) (by decide) ?_
      refine zq_goto K 123 dX3_merge_116 (by decide) ?_
      refine zm_pth K dX3_merge_123 zf_X3_55 hR hS (fun M hR hS => ?_)
      refine zq_aload_n K dX3_merge_126 rfl rfl ?_
      refine zq_aload_n K dX3_merge_127 rfl rfl ?_
      refine zm_th K dX3_merge_128 zf_X3_55 hR ?_
      refine zq_if_neN K (x := 3) 173 dX3_merge_131 (by decide) (by omega) (fun h131 => ?_) (fun h131 => by omega)
      refine zq_aload_n K dX3_merge_173 rfl rfl ?_
      refine zm_th K dX3_merge_174 zf_X3_55 hR ?_
      refine zm_pth K dX3_merge_177 zf_X3_55 hR hS (fun M hR hS => ?_)
      refine zq_aload_n K dX3_merge_180 rfl rfl ?_
      refine zm_th K dX3_merge_181 zf_X3_55 hR ?_
      refine zq_if_leN K (x := 3) 189 dX3_merge_184 (by decide) (by omega) (fun h184 => by omega) (fun h184 => ?_)
      refine zq_iconst K dX3_merge_187 (v := nI 0) (by decide) ?_
      exact zq_iret K dX3_merge_188 rfl ⟨rfl, hR, hS⟩
    · refine zq_aload_n K dX3_merge_103 rfl rfl ?_
      refine zm_ar K dX3_merge_104 zf_X3_30 (k := 10) (by decide) hR ?_
      refine zq_iload K dX3_merge_107 rfl ?_
      refine zm_ld K ((8 * d + zb1 (zfg (A.2 10) d h) s) + (s)) dX3_merge_109 (k := 10) (by decide) hR rfl (show (8 * d + zb1 (zfg (A.2 10) d h) s) + (s) < 96 by omega) ?_
      refine zq_iload K dX3_merge_110 rfl ?_
      refine zq_icmp_eq K 119 dX3_merge_112 (by decide) (fun h112 => ?_) (fun h112 => ?_)
      · exact absurd ⟨h100, h112⟩ h3
      · refine zq_iconst K dX3_merge_115 (v := nI 3) (by decide) ?_
        refine zq_goto K 123 dX3_merge_116 (by decide) ?_
        refine zm_pth K dX3_merge_123 zf_X3_55 hR hS (fun M hR hS => ?_)
        refine zq_aload_n K dX3_merge_126 rfl rfl ?_
        refine zq_aload_n K dX3_merge_127 rfl rfl ?_
        refine zm_th K dX3_merge_128 zf_X3_55 hR ?_
        refine zq_if_neN K (x := 3) 173 dX3_merge_131 (by decide) (by omega) (fun h131 => ?_) (fun h131 => by omega)
        refine zq_aload_n K dX3_merge_173 rfl rfl ?_
        refine zm_th K dX3_merge_174 zf_X3_55 hR ?_
        refine zm_pth K dX3_merge_177 zf_X3_55 hR hS (fun M hR hS => ?_)
        refine zq_aload_n K dX3_merge_180 rfl rfl ?_
        refine zm_th K dX3_merge_181 zf_X3_55 hR ?_
        refine zq_if_leN K (x := 3) 189 dX3_merge_184 (by decide) (by omega) (fun h184 => by omega) (fun h184 => ?_)
        refine zq_iconst K dX3_merge_187 (v := nI 0) (by decide) ?_
        exact zq_iret K dX3_merge_188 rfl ⟨rfl, hR, hS⟩
  · refine zq_iload_n K dX3_merge_50 rfl rfl ?_
    refine zq_goto K 58 dX3_merge_51 (by decide) ?_
    have hb0 : zfg (A.2 10) d h % (2 * s) = 0 := (by rw [show (8 * d + zfg (A.2 10) d h) % 8 = zfg (A.2 10) d h by omega] at h47; exact h47)
    refine zq_top (v := nI (8 * d + zb1 (zfg (A.2 10) d h) s)) (by rw [zb1, if_pos hb0]) ?_
    refine zq_istore K dX3_merge_58 (by decide) ?_
    refine zq_iload K dX3_merge_60 rfl ?_
    refine zq_iload K dX3_merge_62 rfl ?_
    refine zq_iaddN K (x := 8 * d + zb1 (zfg (A.2 10) d h) s) (y := s) dX3_merge_64 ?_
    refine zq_istore K dX3_merge_65 (by decide) ?_
    refine zq_aload_n K dX3_merge_67 rfl rfl ?_
    refine zq_iload K dX3_merge_68 rfl ?_
    refine zq_bipush K dX3_merge_70 (v := nI 8) (by decide) ?_
    refine zq_icmp_neN K (x := s) (y := 8) 79 dX3_merge_72 (by decide) ⟨by omega, by omega⟩ (fun h72 => ?_) (fun h72 => by omega)
    refine zq_iconst K dX3_merge_79 (v := nI 0) (by decide) ?_
    refine zm_pth K dX3_merge_80 zf_X3_55 hR hS (fun M hR hS => ?_)
    refine zq_aload_n K dX3_merge_83 rfl rfl ?_
    refine zq_aload_n K dX3_merge_84 rfl rfl ?_
    refine zm_th K dX3_merge_85 zf_X3_55 hR ?_
    refine zq_if_neN K (x := 0) 119 dX3_merge_88 (by decide) (by omega) (fun h88 => by omega) (fun h88 => ?_)
    refine zq_aload_n K dX3_merge_91 rfl rfl ?_
    refine zm_ar K dX3_merge_92 zf_X3_30 (k := 10) (by decide) hR ?_
    refine zq_iload K dX3_merge_95 rfl ?_
    refine zm_ld K (8 * d + zb1 (zfg (A.2 10) d h) s) dX3_merge_97 (k := 10) (by decide) hR rfl (show 8 * d + zb1 (zfg (A.2 10) d h) s < 96 by omega) ?_
    refine zq_iload K dX3_merge_98 rfl ?_
    refine zq_icmp_ne K 115 dX3_merge_100 (by decide) (fun h100 => ?_) (fun h100 => ?_)
    · refine zq_iconst K dX3_merge_115 (v := nI 3) (by decide) ?_
      refine zq_goto K 123 dX3_merge_116 (by decide) ?_
      refine zm_pth K dX3_merge_123 zf_X3_55 hR hS (fun M hR hS => ?_)
      refine zq_aload_n K dX3_merge_126 rfl rfl ?_
      refine zq_aload_n K dX3_merge_127 rfl rfl ?_
      refine zm_th K dX3_merge_128 zf_X3_55 hR ?_
      refine zq_if_neN K (x := 3) 173 dX3_merge_131 (by decide) (by omega) (fun h131 => ?_) (fun h131 => by omega)
      refine zq_aload_n K dX3_merge_173 rfl rfl ?_
      refine zm_th K dX3_merge_174 zf_X3_55 hR ?_
      refine zm_pth K dX3_merge_177 zf_X3_55 hR hS (fun M hR hS => ?_)
      refine zq_aload_n K dX3_merge_180 rfl rfl ?_
      refine zm_th K dX3_merge_181 zf_X3_55 hR ?_
      refine zq_if_leN K (x := 3) 189 dX3_merge_184 (by decide) (by omega) (fun h184 => by omega) (fun h184 => ?_)
      refine zq_iconst K dX3_merge_187 (v := nI 0) (by decide) ?_
      exact zq_iret K dX3_merge_188 rfl ⟨rfl, hR, hS⟩
    · refine zq_aload_n K dX3_merge_103 rfl rfl ?_
      refine zm_ar K dX3_merge_104 zf_X3_30 (k := 10) (by decide) hR ?_
      refine zq_iload K dX3_merge_107 rfl ?_
      refine zm_ld K ((8 * d + zb1 (zfg (A.2 10) d h) s) + (s)) dX3_merge_109 (k := 10) (by decide) hR rfl (show (8 * d + zb1 (zfg (A.2 10) d h) s) + (s) < 96 by omega) ?_
      refine zq_iload K dX3_merge_110 rfl ?_
      refine zq_icmp_eq K 119 dX3_merge_112 (by decide) (fun h112 => ?_) (fun h112 => ?_)
      · exact absurd ⟨h100, h112⟩ h3
      · refine zq_iconst K dX3_merge_115 (v := nI 3) (by decide) ?_
        refine zq_goto K 123 dX3_merge_116 (by decide) ?_
        refine zm_pth K dX3_merge_123 zf_X3_55 hR hS (fun M hR hS => ?_)
        refine zq_aload_n K dX3_merge_126 rfl rfl ?_
        refine zq_aload_n K dX3_merge_127 rfl rfl ?_
        refine zm_th K dX3_merge_128 zf_X3_55 hR ?_
        refine zq_if_neN K (x := 3) 173 dX3_merge_131 (by decide) (by omega) (fun h131 => ?_) (fun h131 => by omega)
        refine zq_aload_n K dX3_merge_173 rfl rfl ?_
        refine zm_th K dX3_merge_174 zf_X3_55 hR ?_
        refine zm_pth K dX3_merge_177 zf_X3_55 hR hS (fun M hR hS => ?_)
        refine zq_aload_n K dX3_merge_180 rfl rfl ?_
        refine zm_th K dX3_merge_181 zf_X3_55 hR ?_
        refine zq_if_leN K (x := 3) 189 dX3_merge_184 (by decide) (by omega) (fun h184 => by omega) (fun h184 => ?_)
        refine zq_iconst K dX3_merge_187 (v := nI 0) (by decide) ?_
        exact zq_iret K dX3_merge_188 rfl ⟨rfl, hR, hS⟩
theorem ct_X3_merge_no {G : ZG} {M : ZM} {x : Nat} {q : Nat → Nat} {w : Int32} {A : ZA} (hR : zR M x q w A) (hW : zWf A) {d h : Nat} (hd : d < 12) (hl : A.2 3 d = 1) (hh : h ≤ 7) {s : Nat} (hs : A.2 10 (8 * d + zfg (A.2 10) d h) = nI s) (hs1 : 1 ≤ s) (hs8 : s ≤ 8) (hbs : ¬ zfg (A.2 10) d h % (2 * s) = 0 → s ≤ zfg (A.2 10) d h) (h8 : s < 8) (hb2 : zb1 (zfg (A.2 10) d h) s + 2 * s ≤ 8) (hs1' : A.2 10 (8 * d + zb1 (zfg (A.2 10) d h) s) = nI s) (hs2 : A.2 10 ((8 * d + zb1 (zfg (A.2 10) d h) s) + s) = nI s) (h3 : ¬ A.2 11 (8 * d + zb1 (zfg (A.2 10) d h) s) = A.2 11 ((8 * d + zb1 (zfg (A.2 10) d h) s) + s) ∨ zfz A (8 * d + zb1 (zfg (A.2 10) d h) s) = true ∨ zfz A ((8 * d + zb1 (zfg (A.2 10) d h) s) + s) = true) : zMet G mX3_merge [.ref (x), .int (nI (d)), .int (nI (h))] M (zRP x q M (some (.int (nI 0))) (nI 3) A) := by
  refine zbody zyX3_merge [some (.ref (x)), some (.int (nI (d))), some (.int (nI (h))), none, none, none, none, none] rfl (Nat.le_of_ble_eq_true rfl) (by intro v hv; simp only [List.mem_cons, List.not_mem_nil, or_false] at hv; rcases hv with rfl | rfl | rfl <;> rfl) (fun E K => ?_)
  obtain ⟨⟨D, hB⟩, hF, hU⟩ := id hW
  have hS : zSm x q M M := zSm.rf
  have h00 := hF.1 d hd hl
  refine zq_aload_n K dX3_merge_0 rfl rfl ?_
  refine zq_aload_n K dX3_merge_1 rfl rfl ?_
  refine zq_iload_n K dX3_merge_2 rfl rfl ?_
  refine zq_iload_n K dX3_merge_3 rfl rfl ?_
  refine zq_callV (As := [.int (nI (d)), .int (nI (h))]) K dX3_merge_4 zyX3_barsHash zm_X3_145 ziX3_barsHash zvX3_barsHash zclX3 rfl (by decide) rfl rfl (Nat.le_of_ble_eq_true rfl) (Nat.le_of_ble_eq_true rfl) hR.1 (ct_X3_barsHash_ok hR hB hd hl hh) (zone_r ?_) zone_x (Nat.le_refl _)
  refine zm_pth K dX3_merge_7 zf_X3_55 hR hS (fun M hR hS => ?_)
  refine zq_aload_n K dX3_merge_10 rfl rfl ?_
  refine zm_th K dX3_merge_11 zf_X3_55 hR ?_
  refine zq_if_leN K (x := 0) 19 dX3_merge_14 (by decide) (by omega) (fun h14 => ?_) (fun h14 => by omega)
  refine zq_aload_n K dX3_merge_19 rfl rfl ?_
  refine zq_iload_n K dX3_merge_20 rfl rfl ?_
  refine zq_iload_n K dX3_merge_21 rfl rfl ?_
  have hfg := zfg_le (A.2 10) d h
  refine zq_callV (As := [.int (nI (d)), .int (nI (h))]) K dX3_merge_22 zyX3_fragment zm_X3_66 ziX3_fragment zvX3_fragment zclX3 rfl (by decide) rfl rfl (Nat.le_of_ble_eq_true rfl) (Nat.le_of_ble_eq_true rfl) hR.1 (ct_X3_fragment hR hd (show h < 8 by omega) h00) (zone_r ?_) zone_x (Nat.le_refl _)
  refine zq_istore_n K dX3_merge_25 rfl (by decide) ?_
  refine zq_aload_n K dX3_merge_26 rfl rfl ?_
  refine zm_ar K dX3_merge_27 zf_X3_30 (k := 10) (by decide) hR ?_
  refine zq_iload_n K dX3_merge_30 rfl rfl ?_
  refine zm_ld K (8 * d + zfg (A.2 10) d h) dX3_merge_31 (k := 10) (by decide) hR rfl (show 8 * d + zfg (A.2 10) d h < 96 by omega) ?_
  refine zq_top (v := nI (s)) hs ?_
  refine zq_istore K dX3_merge_32 (by decide) ?_
  refine zq_iload_n K dX3_merge_34 rfl rfl ?_
  refine zq_bipush K dX3_merge_35 (v := nI 8) (by decide) ?_
  refine zq_iremN K (x := 8 * d + zfg (A.2 10) d h) (y := 8) dX3_merge_37 (by omega) ?_
  refine zq_istore K dX3_merge_38 (by decide) ?_
  refine zq_iload K dX3_merge_40 rfl ?_
  refine zq_iconst K dX3_merge_42 (v := nI 2) (by decide) ?_
  refine zq_iload K dX3_merge_43 rfl ?_
  refine zq_imulN K (x := 2) (y := s) dX3_merge_45 ?_
  refine zq_iremN K (x := (8 * d + zfg (A.2 10) d h) % (8)) (y := (2) * (s)) dX3_merge_46 (by omega) ?_
  refine zq_if_neN K (x := ((8 * d + zfg (A.2 10) d h) % (8)) % ((2) * (s))) 54 dX3_merge_47 (by decide) (Nat.lt_of_lt_of_le (Nat.mod_lt _ (by omega)) (show 2 * s ≤ 2 ^ 31 by omega)) (fun h47 => ?_) (fun h47 => ?_)
  · have hb0 : ¬ zfg (A.2 10) d h % (2 * s) = 0 := (by rw [show (8 * d + zfg (A.2 10) d h) % 8 = zfg (A.2 10) d h by omega] at h47; exact h47)
    have hb9 := hbs hb0
    refine zq_iload_n K dX3_merge_54 rfl rfl ?_
    refine zq_iload K dX3_merge_55 rfl ?_
    refine zq_isubN K (x := 8 * d + zfg (A.2 10) d h) (y := s) dX3_merge_57 (by omega) ?_
    refine zq_top (v := nI (8 * d + zb1 (zfg (A.2 10) d h) s)) (congrArg nI (by rw [zb1, if_neg hb0]; omega)) ?_
    refine zq_istore K dX3_merge_58 (by decide) ?_
    refine zq_iload K dX3_merge_60 rfl ?_
    refine zq_iload K dX3_merge_62 rfl ?_
    refine zq_iaddN K (x := 8 * d + zb1 (zfg (A.2 10) d h) s) (y := s) dX3_merge_64 ?_
    refine zq_istore K dX3_merge_65 (by decide) ?_
    refine zq_aload_n K dX3_merge_67 rfl rfl ?_
    refine zq_iload K dX3_merge_68 rfl ?_
    refine zq_bipush K dX3_merge_70 (v := nI 8) (by decide) ?_
    refine zq_icmp_neN K (x := s) (y := 8) 79 dX3_merge_72 (by decide) ⟨by omega, by omega⟩ (fun h72 => ?_) (fun h72 => by omega)
    refine zq_iconst K dX3_merge_79 (v := nI 0) (by decide) ?_
    refine zm_pth K dX3_merge_80 zf_X3_55 hR hS (fun M hR hS => ?_)
    refine zq_aload_n K dX3_merge_83 rfl rfl ?_
    refine zq_aload_n K dX3_merge_84 rfl rfl ?_
    refine zm_th K dX3_merge_85 zf_X3_55 hR ?_
    refine zq_if_neN K (x := 0) 119 dX3_merge_88 (by decide) (by omega) (fun h88 => by omega) (fun h88 => ?_)
    refine zq_aload_n K dX3_merge_91 rfl rfl ?_
    refine zm_ar K dX3_merge_92 zf_X3_30 (k := 10) (by decide) hR ?_
    refine zq_iload K dX3_merge_95 rfl ?_
    refine zm_ld K (8 * d + zb1 (zfg (A.2 10) d h) s) dX3_merge_97 (k := 10) (by decide) hR rfl (show 8 * d + zb1 (zfg (A.2 10) d h) s < 96 by omega) ?_
    refine zq_top (v := nI (s)) hs1' ?_
    refine zq_iload K dX3_merge_98 rfl ?_
    refine zq_icmp_neN K (x := s) (y := s) 115 dX3_merge_100 (by decide) ⟨by omega, by omega⟩ (fun h100 => by omega) (fun h100 => ?_)
    refine zq_aload_n K dX3_merge_103 rfl rfl ?_
    refine zm_ar K dX3_merge_104 zf_X3_30 (k := 10) (by decide) hR ?_
    refine zq_iload K dX3_merge_107 rfl ?_
    refine zm_ld K ((8 * d + zb1 (zfg (A.2 10) d h) s) + (s)) dX3_merge_109 (k := 10) (by decide) hR rfl (show (8 * d + zb1 (zfg (A.2 10) d h) s) + (s) < 96 by omega) ?_
    refine zq_top (v := nI (s)) hs2 ?_
    refine zq_iload K dX3_merge_110 rfl ?_
    refine zq_icmp_eqN K (x := s) (y := s) 119 dX3_merge_112 (by decide) ⟨by omega, by omega⟩ (fun h112 => ?_) (fun h112 => by omega)
    refine zq_aload_n K dX3_merge_119 rfl rfl ?_
    refine zm_th K dX3_merge_120 zf_X3_55 hR ?_
    refine zm_pth K dX3_merge_123 zf_X3_55 hR hS (fun M hR hS => ?_)
    refine zq_aload_n K dX3_merge_126 rfl rfl ?_
    refine zq_aload_n K dX3_merge_127 rfl rfl ?_
    refine zm_th K dX3_merge_128 zf_X3_55 hR ?_
    refine zq_if_neN K (x := 0) 173 dX3_merge_131 (by decide) (by omega) (fun h131 => by omega) (fun h131 => ?_)
    refine zq_aload_n K dX3_merge_134 rfl rfl ?_
    refine zm_ar K dX3_merge_135 zf_X3_33 (k := 11) (by decide) hR ?_
    refine zq_iload K dX3_merge_138 rfl ?_
    refine zm_ld K (8 * d + zb1 (zfg (A.2 10) d h) s) dX3_merge_140 (k := 11) (by decide) hR rfl (show 8 * d + zb1 (zfg (A.2 10) d h) s < 96 by omega) ?_
    refine zq_aload_n K dX3_merge_141 rfl rfl ?_
    refine zm_ar K dX3_merge_142 zf_X3_33 (k := 11) (by decide) hR ?_
    refine zq_iload K dX3_merge_145 rfl ?_
    refine zm_ld K ((8 * d + zb1 (zfg (A.2 10) d h) s) + (s)) dX3_merge_147 (k := 11) (by decide) hR rfl (show (8 * d + zb1 (zfg (A.2 10) d h) s) + (s) < 96 by omega) ?_
    refine zq_icmp_ne K 169 dX3_merge_148 (by decide) (fun h148 => ?_) (fun h148 => ?_)
    · refine zq_iconst K dX3_merge_169 (v := nI 3) (by decide) ?_
      refine zq_goto K 177 dX3_merge_170 (by decide) ?_
      refine zm_pth K dX3_merge_177 zf_X3_55 hR hS (fun M hR hS => ?_)
      refine zq_aload_n K dX3_merge_180 rfl rfl ?_
      refine zm_th K dX3_merge_181 zf_X3_55 hR ?_
      refine zq_if_leN K (x := 3) 189 dX3_merge_184 (by decide) (by omega) (fun h184 => by omega) (fun h184 => ?_)
      refine zq_iconst K dX3_merge_187 (v := nI 0) (by decide) ?_
      exact zq_iret K dX3_merge_188 rfl ⟨rfl, hR, hS⟩
    · refine zq_aload_n K dX3_merge_151 rfl rfl ?_
      refine zq_iload K dX3_merge_152 rfl ?_
      refine zq_callV (As := [.int (nI (8 * d + zb1 (zfg (A.2 10) d h) s))]) K dX3_merge_154 zyX3_frozen zm_X3_76 ziX3_frozen zvX3_frozen zclX3 rfl (by decide) rfl rfl (Nat.le_of_ble_eq_true rfl) (Nat.le_of_ble_eq_true rfl) hR.1 (ct_X3_frozen hR hF (by rw [show (8 * d + zb1 (zfg (A.2 10) d h) s) / 8 = d by omega]; exact hU d hd hl) (by omega) (by rw [hs1']; exact nI_ne0 (by omega) (by omega))) (zdec_r (fun z1 => ?_) (fun z1 => ?_)) zdec_x (Nat.le_refl _)
      · refine zq_if_neN K (x := 1) 169 dX3_merge_157 (by decide) (by omega) (fun h157 => ?_) (fun h157 => by omega)
        refine zq_iconst K dX3_merge_169 (v := nI 3) (by decide) ?_
        refine zq_goto K 177 dX3_merge_170 (by decide) ?_
        refine zm_pth K dX3_merge_177 zf_X3_55 hR hS (fun M hR hS => ?_)
        refine zq_aload_n K dX3_merge_180 rfl rfl ?_
        refine zm_th K dX3_merge_181 zf_X3_55 hR ?_
        refine zq_if_leN K (x := 3) 189 dX3_merge_184 (by decide) (by omega) (fun h184 => by omega) (fun h184 => ?_)
        refine zq_iconst K dX3_merge_187 (v := nI 0) (by decide) ?_
        exact zq_iret K dX3_merge_188 rfl ⟨rfl, hR, hS⟩
      · refine zq_if_neN K (x := 0) 169 dX3_merge_157 (by decide) (by omega) (fun h157 => by omega) (fun h157 => ?_)
        refine zq_aload_n K dX3_merge_160 rfl rfl ?_
        refine zq_iload K dX3_merge_161 rfl ?_
        refine zq_callV (As := [.int (nI ((8 * d + zb1 (zfg (A.2 10) d h) s) + (s)))]) K dX3_merge_163 zyX3_frozen zm_X3_76 ziX3_frozen zvX3_frozen zclX3 rfl (by decide) rfl rfl (Nat.le_of_ble_eq_true rfl) (Nat.le_of_ble_eq_true rfl) hR.1 (ct_X3_frozen hR hF (by rw [show ((8 * d + zb1 (zfg (A.2 10) d h) s) + s) / 8 = d by omega]; exact hU d hd hl) (by omega) (by rw [hs2]; exact nI_ne0 (by omega) (by omega))) (zdec_r (fun z2 => ?_) (fun z2 => ?_)) zdec_x (Nat.le_refl _)
        · refine zq_if_eqN K (x := 1) 173 dX3_merge_166 (by decide) (by omega) (fun h166 => by omega) (fun h166 => ?_)
          refine zq_iconst K dX3_merge_169 (v := nI 3) (by decide) ?_
          refine zq_goto K 177 dX3_merge_170 (by decide) ?_
          refine zm_pth K dX3_merge_177 zf_X3_55 hR hS (fun M hR hS => ?_)
          refine zq_aload_n K dX3_merge_180 rfl rfl ?_
          refine zm_th K dX3_merge_181 zf_X3_55 hR ?_
          refine zq_if_leN K (x := 3) 189 dX3_merge_184 (by decide) (by omega) (fun h184 => by omega) (fun h184 => ?_)
          refine zq_iconst K dX3_merge_187 (v := nI 0) (by decide) ?_
          exact zq_iret K dX3_merge_188 rfl ⟨rfl, hR, hS⟩
        · refine zq_if_eqN K (x := 0) 173 dX3_merge_166 (by decide) (by omega) (fun h166 => ?_) (fun h166 => by omega)
          exact absurd h3 (fun z => z.elim (fun y => y h148) (fun y => y.elim z1 z2))
  · refine zq_iload_n K dX3_merge_50 rfl rfl ?_
    refine zq_goto K 58 dX3_merge_51 (by decide) ?_
    have hb0 : zfg (A.2 10) d h % (2 * s) = 0 := (by rw [show (8 * d + zfg (A.2 10) d h) % 8 = zfg (A.2 10) d h by omega] at h47; exact h47)
    refine zq_top (v := nI (8 * d + zb1 (zfg (A.2 10) d h) s)) (by rw [zb1, if_pos hb0]) ?_
    refine zq_istore K dX3_merge_58 (by decide) ?_
    refine zq_iload K dX3_merge_60 rfl ?_
    refine zq_iload K dX3_merge_62 rfl ?_
    refine zq_iaddN K (x := 8 * d + zb1 (zfg (A.2 10) d h) s) (y := s) dX3_merge_64 ?_
    refine zq_istore K dX3_merge_65 (by decide) ?_
    refine zq_aload_n K dX3_merge_67 rfl rfl ?_
    refine zq_iload K dX3_merge_68 rfl ?_
    refine zq_bipush K dX3_merge_70 (v := nI 8) (by decide) ?_
    refine zq_icmp_neN K (x := s) (y := 8) 79 dX3_merge_72 (by decide) ⟨by omega, by omega⟩ (fun h72 => ?_) (fun h72 => by omega)
    refine zq_iconst K dX3_merge_79 (v := nI 0) (by decide) ?_
    refine zm_pth K dX3_merge_80 zf_X3_55 hR hS (fun M hR hS => ?_)
    refine zq_aload_n K dX3_merge_83 rfl rfl ?_
    refine zq_aload_n K dX3_merge_84 rfl rfl ?_
    refine zm_th K dX3_merge_85 zf_X3_55 hR ?_
    refine zq_if_neN K (x := 0) 119 dX3_merge_88 (by decide) (by omega) (fun h88 => by omega) (fun h88 => ?_)
    refine zq_aload_n K dX3_merge_91 rfl rfl ?_
    refine zm_ar K dX3_merge_92 zf_X3_30 (k := 10) (by decide) hR ?_
    refine zq_iload K dX3_merge_95 rfl ?_
    refine zm_ld K (8 * d + zb1 (zfg (A.2 10) d h) s) dX3_merge_97 (k := 10) (by decide) hR rfl (show 8 * d + zb1 (zfg (A.2 10) d h) s < 96 by omega) ?_
    refine zq_top (v := nI (s)) hs1' ?_
    refine zq_iload K dX3_merge_98 rfl ?_
    refine zq_icmp_neN K (x := s) (y := s) 115 dX3_merge_100 (by decide) ⟨by omega, by omega⟩ (fun h100 => by omega) (fun h100 => ?_)
    refine zq_aload_n K dX3_merge_103 rfl rfl ?_
    refine zm_ar K dX3_merge_104 zf_X3_30 (k := 10) (by decide) hR ?_
    refine zq_iload K dX3_merge_107 rfl ?_
    refine zm_ld K ((8 * d + zb1 (zfg (A.2 10) d h) s) + (s)) dX3_merge_109 (k := 10) (by decide) hR rfl (show (8 * d + zb1 (zfg (A.2 10) d h) s) + (s) < 96 by omega) ?_
    refine zq_top (v := nI (s)) hs2 ?_
    refine zq_iload K dX3_merge_110 rfl ?_
    refine zq_icmp_eqN K (x := s) (y := s) 119 dX3_merge_112 (by decide) ⟨by omega, by omega⟩ (fun h112 => ?_) (fun h112 => by omega)
    refine zq_aload_n K dX3_merge_119 rfl rfl ?_
    refine zm_th K dX3_merge_120 zf_X3_55 hR ?_
    refine zm_pth K dX3_merge_123 zf_X3_55 hR hS (fun M hR hS => ?_)
    refine zq_aload_n K dX3_merge_126 rfl rfl ?_
    refine zq_aload_n K dX3_merge_127 rfl rfl ?_
    refine zm_th K dX3_merge_128 zf_X3_55 hR ?_
    refine zq_if_neN K (x := 0) 173 dX3_merge_131 (by decide) (by omega) (fun h131 => by omega) (fun h131 => ?_)
    refine zq_aload_n K dX3_merge_134 rfl rfl ?_
    refine zm_ar K dX3_merge_135 zf_X3_33 (k := 11) (by decide) hR ?_
    refine zq_iload K dX3_merge_138 rfl ?_
    refine zm_ld K (8 * d + zb1 (zfg (A.2 10) d h) s) dX3_merge_140 (k := 11) (by decide) hR rfl (show 8 * d + zb1 (zfg (A.2 10) d h) s < 96 by omega) ?_
    refine zq_aload_n K dX3_merge_141 rfl rfl ?_
    refine zm_ar K dX3_merge_142 zf_X3_33 (k := 11) (by decide) hR ?_
    refine zq_iload K dX3_merge_145 rfl ?_
    refine zm_ld K ((8 * d + zb1 (zfg (A.2 10) d h) s) + (s)) dX3_merge_147 (k := 11) (by decide) hR rfl (show (8 * d + zb1 (zfg (A.2 10) d h) s) + (s) < 96 by omega) ?_
    refine zq_icmp_ne K 169 dX3_merge_148 (by decide) (fun h148 => ?_) (fun h148 => ?_)
    · refine zq_iconst K dX3_merge_169 (v := nI 3) (by decide) ?_
      refine zq_goto K 177 dX3_merge_170 (by decide) ?_
      refine zm_pth K dX3_merge_177 zf_X3_55 hR hS (fun M hR hS => ?_)
      refine zq_aload_n K dX3_merge_180 rfl rfl ?_
      refine zm_th K dX3_merge_181 zf_X3_55 hR ?_
      refine zq_if_leN K (x := 3) 189 dX3_merge_184 (by decide) (by omega) (fun h184 => by omega) (fun h184 => ?_)
      refine zq_iconst K dX3_merge_187 (v := nI 0) (by decide) ?_
      exact zq_iret K dX3_merge_188 rfl ⟨rfl, hR, hS⟩
    · refine zq_aload_n K dX3_merge_151 rfl rfl ?_
      refine zq_iload K dX3_merge_152 rfl ?_
      refine zq_callV (As := [.int (nI (8 * d + zb1 (zfg (A.2 10) d h) s))]) K dX3_merge_154 zyX3_frozen zm_X3_76 ziX3_frozen zvX3_frozen zclX3 rfl (by decide) rfl rfl (Nat.le_of_ble_eq_true rfl) (Nat.le_of_ble_eq_true rfl) hR.1 (ct_X3_frozen hR hF (by rw [show (8 * d + zb1 (zfg (A.2 10) d h) s) / 8 = d by omega]; exact hU d hd hl) (by omega) (by rw [hs1']; exact nI_ne0 (by omega) (by omega))) (zdec_r (fun z1 => ?_) (fun z1 => ?_)) zdec_x (Nat.le_refl _)
      · refine zq_if_neN K (x := 1) 169 dX3_merge_157 (by decide) (by omega) (fun h157 => ?_) (fun h157 => by omega)
        refine zq_iconst K dX3_merge_169 (v := nI 3) (by decide) ?_
        refine zq_goto K 177 dX3_merge_170 (by decide) ?_
        refine zm_pth K dX3_merge_177 zf_X3_55 hR hS (fun M hR hS => ?_)
        refine zq_aload_n K dX3_merge_180 rfl rfl ?_
        refine zm_th K dX3_merge_181 zf_X3_55 hR ?_
        refine zq_if_leN K (x := 3) 189 dX3_merge_184 (by decide) (by omega) (fun h184 => by omega) (fun h184 => ?_)
        refine zq_iconst K dX3_merge_187 (v := nI 0) (by decide) ?_
        exact zq_iret K dX3_merge_188 rfl ⟨rfl, hR, hS⟩
      · refine zq_if_neN K (x := 0) 169 dX3_merge_157 (by decide) (by omega) (fun h157 => by omega) (fun h157 => ?_)
        refine zq_aload_n K dX3_merge_160 rfl rfl ?_
        refine zq_iload K dX3_merge_161 rfl ?_
        refine zq_callV (As := [.int (nI ((8 * d + zb1 (zfg (A.2 10) d h) s) + (s)))]) K dX3_merge_163 zyX3_frozen zm_X3_76 ziX3_frozen zvX3_frozen zclX3 rfl (by decide) rfl rfl (Nat.le_of_ble_eq_true rfl) (Nat.le_of_ble_eq_true rfl) hR.1 (ct_X3_frozen hR hF (by rw [show ((8 * d + zb1 (zfg (A.2 10) d h) s) + s) / 8 = d by omega]; exact hU d hd hl) (by omega) (by rw [hs2]; exact nI_ne0 (by omega) (by omega))) (zdec_r (fun z2 => ?_) (fun z2 => ?_)) zdec_x (Nat.le_refl _)
        · refine zq_if_eqN K (x := 1) 173 dX3_merge_166 (by decide) (by omega) (fun h166 => by omega) (fun h166 => ?_)
          refine zq_iconst K dX3_merge_169 (v := nI 3) (by decide) ?_
          refine zq_goto K 177 dX3_merge_170 (by decide) ?_
          refine zm_pth K dX3_merge_177 zf_X3_55 hR hS (fun M hR hS => ?_)
          refine zq_aload_n K dX3_merge_180 rfl rfl ?_
          refine zm_th K dX3_merge_181 zf_X3_55 hR ?_
          refine zq_if_leN K (x := 3) 189 dX3_merge_184 (by decide) (by omega) (fun h184 => by omega) (fun h184 => ?_)
          refine zq_iconst K dX3_merge_187 (v := nI 0) (by decide) ?_
          exact zq_iret K dX3_merge_188 rfl ⟨rfl, hR, hS⟩
        · refine zq_if_eqN K (x := 0) 173 dX3_merge_166 (by decide) (by omega) (fun h166 => ?_) (fun h166 => by omega)
          exact absurd h3 (fun z => z.elim (fun y => y h148) (fun y => y.elim z1 z2))
theorem ct_X3_merge_ok {G : ZG} {M : ZM} {x : Nat} {q : Nat → Nat} {w : Int32} {A : ZA} (hR : zR M x q w A) (hW : zWf A) {d h : Nat} (hd : d < 12) (hl : A.2 3 d = 1) (hh : h ≤ 7) {s : Nat} (hs : A.2 10 (8 * d + zfg (A.2 10) d h) = nI s) (hs1 : 1 ≤ s) (hs8 : s ≤ 8) (hbs : ¬ zfg (A.2 10) d h % (2 * s) = 0 → s ≤ zfg (A.2 10) d h) (h8 : s < 8) (hb2 : zb1 (zfg (A.2 10) d h) s + 2 * s ≤ 8) (hs1' : A.2 10 (8 * d + zb1 (zfg (A.2 10) d h) s) = nI s) (hs2 : A.2 10 ((8 * d + zb1 (zfg (A.2 10) d h) s) + s) = nI s) (h3 : A.2 11 (8 * d + zb1 (zfg (A.2 10) d h) s) = A.2 11 ((8 * d + zb1 (zfg (A.2 10) d h) s) + s)) (h4 : ¬ zfz A (8 * d + zb1 (zfg (A.2 10) d h) s) = true) (h5 : ¬ zfz A ((8 * d + zb1 (zfg (A.2 10) d h) s) + s) = true) : zMet G mX3_merge [.ref (x), .int (nI (d)), .int (nI (h))] M (zRP x q M (some (.int (nI (zcN (zps (zMg A (8 * d + zb1 (zfg (A.2 10) d h) s) s) d) 8)))) (nI 0) (zMg A (8 * d + zb1 (zfg (A.2 10) d h) s) s)) := by
  refine zbody zyX3_merge [some (.ref (x)), some (.int (nI (d))), some (.int (nI (h))), none, none, none, none, none] rfl (Nat.le_of_ble_eq_true rfl) (by intro v hv; simp only [List.mem_cons, List.not_mem_nil, or_false] at hv; rcases hv with rfl | rfl | rfl <;> rfl) (fun E K => ?_)
  obtain ⟨⟨D, hB⟩, hF, hU⟩ := id hW
  have hS : zSm x q M M := zSm.rf
  have h00 := hF.1 d hd hl
  refine zq_aload_n K dX3_merge_0 rfl rfl ?_
  refine zq_aload_n K dX3_merge_1 rfl rfl ?_
  refine zq_iload_n K dX3_merge_2 rfl rfl ?_
  refine zq_iload_n K dX3_merge_3 rfl rfl ?_
  refine zq_callV (As := [.int (nI (d)), .int (nI (h))]) K dX3_merge_4 zyX3_barsHash zm_X3_145 ziX3_barsHash zvX3_barsHash zclX3 rfl (by decide) rfl rfl (Nat.le_of_ble_eq_true rfl) (Nat.le_of_ble_eq_true rfl) hR.1 (ct_X3_barsHash_ok hR hB hd hl hh) (zone_r ?_) zone_x (Nat.le_refl _)
  refine zm_pth K dX3_merge_7 zf_X3_55 hR hS (fun M hR hS => ?_)
  refine zq_aload_n K dX3_merge_10 rfl rfl ?_
  refine zm_th K dX3_merge_11 zf_X3_55 hR ?_
  refine zq_if_leN K (x := 0) 19 dX3_merge_14 (by decide) (by omega) (fun h14 => ?_) (fun h14 => by omega)
  refine zq_aload_n K dX3_merge_19 rfl rfl ?_
  refine zq_iload_n K dX3_merge_20 rfl rfl ?_
  refine zq_iload_n K dX3_merge_21 rfl rfl ?_
  have hfg := zfg_le (A.2 10) d h
  refine zq_callV (As := [.int (nI (d)), .int (nI (h))]) K dX3_merge_22 zyX3_fragment zm_X3_66 ziX3_fragment zvX3_fragment zclX3 rfl (by decide) rfl rfl (Nat.le_of_ble_eq_true rfl) (Nat.le_of_ble_eq_true rfl) hR.1 (ct_X3_fragment hR hd (show h < 8 by omega) h00) (zone_r ?_) zone_x (Nat.le_refl _)
  refine zq_istore_n K dX3_merge_25 rfl (by decide) ?_
  refine zq_aload_n K dX3_merge_26 rfl rfl ?_
  refine zm_ar K dX3_merge_27 zf_X3_30 (k := 10) (by decide) hR ?_
  refine zq_iload_n K dX3_merge_30 rfl rfl ?_
  refine zm_ld K (8 * d + zfg (A.2 10) d h) dX3_merge_31 (k := 10) (by decide) hR rfl (show 8 * d + zfg (A.2 10) d h < 96 by omega) ?_
  refine zq_top (v := nI (s)) hs ?_
  refine zq_istore K dX3_merge_32 (by decide) ?_
  refine zq_iload_n K dX3_merge_34 rfl rfl ?_
  refine zq_bipush K dX3_merge_35 (v := nI 8) (by decide) ?_
  refine zq_iremN K (x := 8 * d + zfg (A.2 10) d h) (y := 8) dX3_merge_37 (by omega) ?_
  refine zq_istore K dX3_merge_38 (by decide) ?_
  refine zq_iload K dX3_merge_40 rfl ?_
  refine zq_iconst K dX3_merge_42 (v := nI 2) (by decide) ?_
  refine zq_iload K dX3_merge_43 rfl ?_
  refine zq_imulN K (x := 2) (y := s) dX3_merge_45 ?_
  refine zq_iremN K (x := (8 * d + zfg (A.2 10) d h) % (8)) (y := (2) * (s)) dX3_merge_46 (by omega) ?_
  refine zq_if_neN K (x := ((8 * d + zfg (A.2 10) d h) % (8)) % ((2) * (s))) 54 dX3_merge_47 (by decide) (Nat.lt_of_lt_of_le (Nat.mod_lt _ (by omega)) (show 2 * s ≤ 2 ^ 31 by omega)) (fun h47 => ?_) (fun h47 => ?_)
  · have hb0 : ¬ zfg (A.2 10) d h % (2 * s) = 0 := (by rw [show (8 * d + zfg (A.2 10) d h) % 8 = zfg (A.2 10) d h by omega] at h47; exact h47)
    have hb9 := hbs hb0
    refine zq_iload_n K dX3_merge_54 rfl rfl ?_
    refine zq_iload K dX3_merge_55 rfl ?_
    refine zq_isubN K (x := 8 * d + zfg (A.2 10) d h) (y := s) dX3_merge_57 (by omega) ?_
    refine zq_top (v := nI (8 * d + zb1 (zfg (A.2 10) d h) s)) (congrArg nI (by rw [zb1, if_neg hb0]; omega)) ?_
    refine zq_istore K dX3_merge_58 (by decide) ?_
    refine zq_iload K dX3_merge_60 rfl ?_
    refine zq_iload K dX3_merge_62 rfl ?_
    refine zq_iaddN K (x := 8 * d + zb1 (zfg (A.2 10) d h) s) (y := s) dX3_merge_64 ?_
    refine zq_istore K dX3_merge_65 (by decide) ?_
    refine zq_aload_n K dX3_merge_67 rfl rfl ?_
    refine zq_iload K dX3_merge_68 rfl ?_
    refine zq_bipush K dX3_merge_70 (v := nI 8) (by decide) ?_
    refine zq_icmp_neN K (x := s) (y := 8) 79 dX3_merge_72 (by decide) ⟨by omega, by omega⟩ (fun h72 => ?_) (fun h72 => by omega)
    refine zq_iconst K dX3_merge_79 (v := nI 0) (by decide) ?_
    refine zm_pth K dX3_merge_80 zf_X3_55 hR hS (fun M hR hS => ?_)
    refine zq_aload_n K dX3_merge_83 rfl rfl ?_
    refine zq_aload_n K dX3_merge_84 rfl rfl ?_
    refine zm_th K dX3_merge_85 zf_X3_55 hR ?_
    refine zq_if_neN K (x := 0) 119 dX3_merge_88 (by decide) (by omega) (fun h88 => by omega) (fun h88 => ?_)
    refine zq_aload_n K dX3_merge_91 rfl rfl ?_
    refine zm_ar K dX3_merge_92 zf_X3_30 (k := 10) (by decide) hR ?_
    refine zq_iload K dX3_merge_95 rfl ?_
    refine zm_ld K (8 * d + zb1 (zfg (A.2 10) d h) s) dX3_merge_97 (k := 10) (by decide) hR rfl (show 8 * d + zb1 (zfg (A.2 10) d h) s < 96 by omega) ?_
    refine zq_top (v := nI (s)) hs1' ?_
    refine zq_iload K dX3_merge_98 rfl ?_
    refine zq_icmp_neN K (x := s) (y := s) 115 dX3_merge_100 (by decide) ⟨by omega, by omega⟩ (fun h100 => by omega) (fun h100 => ?_)
    refine zq_aload_n K dX3_merge_103 rfl rfl ?_
    refine zm_ar K dX3_merge_104 zf_X3_30 (k := 10) (by decide) hR ?_
    refine zq_iload K dX3_merge_107 rfl ?_
    refine zm_ld K ((8 * d + zb1 (zfg (A.2 10) d h) s) + (s)) dX3_merge_109 (k := 10) (by decide) hR rfl (show (8 * d + zb1 (zfg (A.2 10) d h) s) + (s) < 96 by omega) ?_
    refine zq_top (v := nI (s)) hs2 ?_
    refine zq_iload K dX3_merge_110 rfl ?_
    refine zq_icmp_eqN K (x := s) (y := s) 119 dX3_merge_112 (by decide) ⟨by omega, by omega⟩ (fun h112 => ?_) (fun h112 => by omega)
    refine zq_aload_n K dX3_merge_119 rfl rfl ?_
    refine zm_th K dX3_merge_120 zf_X3_55 hR ?_
    refine zm_pth K dX3_merge_123 zf_X3_55 hR hS (fun M hR hS => ?_)
    refine zq_aload_n K dX3_merge_126 rfl rfl ?_
    refine zq_aload_n K dX3_merge_127 rfl rfl ?_
    refine zm_th K dX3_merge_128 zf_X3_55 hR ?_
    refine zq_if_neN K (x := 0) 173 dX3_merge_131 (by decide) (by omega) (fun h131 => by omega) (fun h131 => ?_)
    refine zq_aload_n K dX3_merge_134 rfl rfl ?_
    refine zm_ar K dX3_merge_135 zf_X3_33 (k := 11) (by decide) hR ?_
    refine zq_iload K dX3_merge_138 rfl ?_
    refine zm_ld K (8 * d + zb1 (zfg (A.2 10) d h) s) dX3_merge_140 (k := 11) (by decide) hR rfl (show 8 * d + zb1 (zfg (A.2 10) d h) s < 96 by omega) ?_
    refine zq_aload_n K dX3_merge_141 rfl rfl ?_
    refine zm_ar K dX3_merge_142 zf_X3_33 (k := 11) (by decide) hR ?_
    refine zq_iload K dX3_merge_145 rfl ?_
    refine zm_ld K ((8 * d + zb1 (zfg (A.2 10) d h) s) + (s)) dX3_merge_147 (k := 11) (by decide) hR rfl (show (8 * d + zb1 (zfg (A.2 10) d h) s) + (s) < 96 by omega) ?_
    refine zq_icmp_ne K 169 dX3_merge_148 (by decide) (fun h148 => ?_) (fun h148 => ?_)
    · exact absurd h3 h148
    · refine zq_aload_n K dX3_merge_151 rfl rfl ?_
      refine zq_iload K dX3_merge_152 rfl ?_
      refine zq_callV (As := [.int (nI (8 * d + zb1 (zfg (A.2 10) d h) s))]) K dX3_merge_154 zyX3_frozen zm_X3_76 ziX3_frozen zvX3_frozen zclX3 rfl (by decide) rfl rfl (Nat.le_of_ble_eq_true rfl) (Nat.le_of_ble_eq_true rfl) hR.1 (ct_X3_frozen hR hF (by rw [show (8 * d + zb1 (zfg (A.2 10) d h) s) / 8 = d by omega]; exact hU d hd hl) (by omega) (by rw [hs1']; exact nI_ne0 (by omega) (by omega))) (zdec_r (fun z1 => ?_) (fun z1 => ?_)) zdec_x (Nat.le_refl _)
      · refine zq_if_neN K (x := 1) 169 dX3_merge_157 (by decide) (by omega) (fun h157 => ?_) (fun h157 => by omega)
        exact absurd z1 h4
      · refine zq_if_neN K (x := 0) 169 dX3_merge_157 (by decide) (by omega) (fun h157 => by omega) (fun h157 => ?_)
        refine zq_aload_n K dX3_merge_160 rfl rfl ?_
        refine zq_iload K dX3_merge_161 rfl ?_
        refine zq_callV (As := [.int (nI ((8 * d + zb1 (zfg (A.2 10) d h) s) + (s)))]) K dX3_merge_163 zyX3_frozen zm_X3_76 ziX3_frozen zvX3_frozen zclX3 rfl (by decide) rfl rfl (Nat.le_of_ble_eq_true rfl) (Nat.le_of_ble_eq_true rfl) hR.1 (ct_X3_frozen hR hF (by rw [show ((8 * d + zb1 (zfg (A.2 10) d h) s) + s) / 8 = d by omega]; exact hU d hd hl) (by omega) (by rw [hs2]; exact nI_ne0 (by omega) (by omega))) (zdec_r (fun z2 => ?_) (fun z2 => ?_)) zdec_x (Nat.le_refl _)
        · refine zq_if_eqN K (x := 1) 173 dX3_merge_166 (by decide) (by omega) (fun h166 => by omega) (fun h166 => ?_)
          exact absurd z2 h5
        · refine zq_if_eqN K (x := 0) 173 dX3_merge_166 (by decide) (by omega) (fun h166 => ?_) (fun h166 => by omega)
          refine zq_aload_n K dX3_merge_173 rfl rfl ?_
          refine zm_th K dX3_merge_174 zf_X3_55 hR ?_
          refine zm_pth K dX3_merge_177 zf_X3_55 hR hS (fun M hR hS => ?_)
          refine zq_aload_n K dX3_merge_180 rfl rfl ?_
          refine zm_th K dX3_merge_181 zf_X3_55 hR ?_
          refine zq_if_leN K (x := 0) 189 dX3_merge_184 (by decide) (by omega) (fun h184 => ?_) (fun h184 => by omega)
          refine zq_aload_n K dX3_merge_189 rfl rfl ?_
          refine zm_ar K dX3_merge_190 zf_X3_30 (k := 10) (by decide) hR ?_
          refine zq_iload K dX3_merge_193 rfl ?_
          refine zq_iconst K dX3_merge_195 (v := nI 2) (by decide) ?_
          refine zq_iload K dX3_merge_196 rfl ?_
          refine zq_imulN K (x := 2) (y := s) dX3_merge_198 ?_
          refine zm_st K (8 * d + zb1 (zfg (A.2 10) d h) s) dX3_merge_199 (k := 10) (by decide) hR hS rfl (show 8 * d + zb1 (zfg (A.2 10) d h) s < 96 by omega) (fun M hR hS => ?_)
          refine zq_aload_n K dX3_merge_200 rfl rfl ?_
          refine zm_ar K dX3_merge_201 zf_X3_30 (k := 10) (by decide) hR ?_
          refine zq_iload K dX3_merge_204 rfl ?_
          refine zq_iconst K dX3_merge_206 (v := nI 0) (by decide) ?_
          refine zm_st K ((8 * d + zb1 (zfg (A.2 10) d h) s) + (s)) dX3_merge_207 (k := 10) (by decide) hR hS rfl (show (8 * d + zb1 (zfg (A.2 10) d h) s) + (s) < 96 by omega) (fun M hR hS => ?_)
          refine zq_aload_n K dX3_merge_208 rfl rfl ?_
          refine zm_ar K dX3_merge_209 zf_X3_36 (k := 12) (by decide) hR ?_
          refine zq_iload K dX3_merge_212 rfl ?_
          refine zq_dup2 K dX3_merge_214 rfl rfl ?_
          refine zm_ld K (8 * d + zb1 (zfg (A.2 10) d h) s) dX3_merge_215 (k := 12) (by decide) hR rfl (show 8 * d + zb1 (zfg (A.2 10) d h) s < 96 by omega) ?_
          refine zq_top (v := A.2 12 (8 * d + zb1 (zfg (A.2 10) d h) s)) rfl ?_
          refine zq_aload_n K dX3_merge_216 rfl rfl ?_
          refine zm_ar K dX3_merge_217 zf_X3_36 (k := 12) (by decide) hR ?_
          refine zq_iload K dX3_merge_220 rfl ?_
          refine zm_ld K ((8 * d + zb1 (zfg (A.2 10) d h) s) + (s)) dX3_merge_222 (k := 12) (by decide) hR rfl (show (8 * d + zb1 (zfg (A.2 10) d h) s) + (s) < 96 by omega) ?_
          refine zq_top (v := A.2 12 ((8 * d + zb1 (zfg (A.2 10) d h) s) + s)) rfl ?_
          refine zq_iadd K dX3_merge_223 ?_
          refine zm_st K (8 * d + zb1 (zfg (A.2 10) d h) s) dX3_merge_224 (k := 12) (by decide) hR hS rfl (show 8 * d + zb1 (zfg (A.2 10) d h) s < 96 by omega) (fun M hR hS => ?_)
          refine zq_aload_n K dX3_merge_225 rfl rfl ?_
          refine zq_iload_n K dX3_merge_226 rfl rfl ?_
          refine zq_callV (As := [.int (nI (d))]) K dX3_merge_227 zyX3_count zm_X3_148 ziX3_count zvX3_count zclX3 rfl (by decide) rfl rfl (Nat.le_of_ble_eq_true rfl) (Nat.le_of_ble_eq_true rfl) hR.1 (ct_X3_count hR hd) (zone_r ?_) zone_x (Nat.le_refl _)
          exact zq_iret K dX3_merge_230 rfl ⟨rfl, hR, hS⟩
  · refine zq_iload_n K dX3_merge_50 rfl rfl ?_
    refine zq_goto K 58 dX3_merge_51 (by decide) ?_
    have hb0 : zfg (A.2 10) d h % (2 * s) = 0 := (by rw [show (8 * d + zfg (A.2 10) d h) % 8 = zfg (A.2 10) d h by omega] at h47; exact h47)
    refine zq_top (v := nI (8 * d + zb1 (zfg (A.2 10) d h) s)) (by rw [zb1, if_pos hb0]) ?_
    refine zq_istore K dX3_merge_58 (by decide) ?_
    refine zq_iload K dX3_merge_60 rfl ?_
    refine zq_iload K dX3_merge_62 rfl ?_
    refine zq_iaddN K (x := 8 * d + zb1 (zfg (A.2 10) d h) s) (y := s) dX3_merge_64 ?_
    refine zq_istore K dX3_merge_65 (by decide) ?_
    refine zq_aload_n K dX3_merge_67 rfl rfl ?_
    refine zq_iload K dX3_merge_68 rfl ?_
    refine zq_bipush K dX3_merge_70 (v := nI 8) (by decide) ?_
    refine zq_icmp_neN K (x := s) (y := 8) 79 dX3_merge_72 (by decide) ⟨by omega, by omega⟩ (fun h72 => ?_) (fun h72 => by omega)
    refine zq_iconst K dX3_merge_79 (v := nI 0) (by decide) ?_
    refine zm_pth K dX3_merge_80 zf_X3_55 hR hS (fun M hR hS => ?_)
    refine zq_aload_n K dX3_merge_83 rfl rfl ?_
    refine zq_aload_n K dX3_merge_84 rfl rfl ?_
    refine zm_th K dX3_merge_85 zf_X3_55 hR ?_
    refine zq_if_neN K (x := 0) 119 dX3_merge_88 (by decide) (by omega) (fun h88 => by omega) (fun h88 => ?_)
    refine zq_aload_n K dX3_merge_91 rfl rfl ?_
    refine zm_ar K dX3_merge_92 zf_X3_30 (k := 10) (by decide) hR ?_
    refine zq_iload K dX3_merge_95 rfl ?_
    refine zm_ld K (8 * d + zb1 (zfg (A.2 10) d h) s) dX3_merge_97 (k := 10) (by decide) hR rfl (show 8 * d + zb1 (zfg (A.2 10) d h) s < 96 by omega) ?_
    refine zq_top (v := nI (s)) hs1' ?_
    refine zq_iload K dX3_merge_98 rfl ?_
    refine zq_icmp_neN K (x := s) (y := s) 115 dX3_merge_100 (by decide) ⟨by omega, by omega⟩ (fun h100 => by omega) (fun h100 => ?_)
    refine zq_aload_n K dX3_merge_103 rfl rfl ?_
    refine zm_ar K dX3_merge_104 zf_X3_30 (k := 10) (by decide) hR ?_
    refine zq_iload K dX3_merge_107 rfl ?_
    refine zm_ld K ((8 * d + zb1 (zfg (A.2 10) d h) s) + (s)) dX3_merge_109 (k := 10) (by decide) hR rfl (show (8 * d + zb1 (zfg (A.2 10) d h) s) + (s) < 96 by omega) ?_
    refine zq_top (v := nI (s)) hs2 ?_
    refine zq_iload K dX3_merge_110 rfl ?_
    refine zq_icmp_eqN K (x := s) (y := s) 119 dX3_merge_112 (by decide) ⟨by omega, by omega⟩ (fun h112 => ?_) (fun h112 => by omega)
    refine zq_aload_n K dX3_merge_119 rfl rfl ?_
    refine zm_th K dX3_merge_120 zf_X3_55 hR ?_
    refine zm_pth K dX3_merge_123 zf_X3_55 hR hS (fun M hR hS => ?_)
    refine zq_aload_n K dX3_merge_126 rfl rfl ?_
    refine zq_aload_n K dX3_merge_127 rfl rfl ?_
    refine zm_th K dX3_merge_128 zf_X3_55 hR ?_
    refine zq_if_neN K (x := 0) 173 dX3_merge_131 (by decide) (by omega) (fun h131 => by omega) (fun h131 => ?_)
    refine zq_aload_n K dX3_merge_134 rfl rfl ?_
    refine zm_ar K dX3_merge_135 zf_X3_33 (k := 11) (by decide) hR ?_
    refine zq_iload K dX3_merge_138 rfl ?_
    refine zm_ld K (8 * d + zb1 (zfg (A.2 10) d h) s) dX3_merge_140 (k := 11) (by decide) hR rfl (show 8 * d + zb1 (zfg (A.2 10) d h) s < 96 by omega) ?_
    refine zq_aload_n K dX3_merge_141 rfl rfl ?_
    refine zm_ar K dX3_merge_142 zf_X3_33 (k := 11) (by decide) hR ?_
    refine zq_iload K dX3_merge_145 rfl ?_
    refine zm_ld K ((8 * d + zb1 (zfg (A.2 10) d h) s) + (s)) dX3_merge_147 (k := 11) (by decide) hR rfl (show (8 * d + zb1 (zfg (A.2 10) d h) s) + (s) < 96 by omega) ?_
    refine zq_icmp_ne K 169 dX3_merge_148 (by decide) (fun h148 => ?_) (fun h148 => ?_)
    · exact absurd h3 h148
    · refine zq_aload_n K dX3_merge_151 rfl rfl ?_
      refine zq_iload K dX3_merge_152 rfl ?_
      refine zq_callV (As := [.int (nI (8 * d + zb1 (zfg (A.2 10) d h) s))]) K dX3_merge_154 zyX3_frozen zm_X3_76 ziX3_frozen zvX3_frozen zclX3 rfl (by decide) rfl rfl (Nat.le_of_ble_eq_true rfl) (Nat.le_of_ble_eq_true rfl) hR.1 (ct_X3_frozen hR hF (by rw [show (8 * d + zb1 (zfg (A.2 10) d h) s) / 8 = d by omega]; exact hU d hd hl) (by omega) (by rw [hs1']; exact nI_ne0 (by omega) (by omega))) (zdec_r (fun z1 => ?_) (fun z1 => ?_)) zdec_x (Nat.le_refl _)
      · refine zq_if_neN K (x := 1) 169 dX3_merge_157 (by decide) (by omega) (fun h157 => ?_) (fun h157 => by omega)
        exact absurd z1 h4
      · refine zq_if_neN K (x := 0) 169 dX3_merge_157 (by decide) (by omega) (fun h157 => by omega) (fun h157 => ?_)
        refine zq_aload_n K dX3_merge_160 rfl rfl ?_
        refine zq_iload K dX3_merge_161 rfl ?_
        refine zq_callV (As := [.int (nI ((8 * d + zb1 (zfg (A.2 10) d h) s) + (s)))]) K dX3_merge_163 zyX3_frozen zm_X3_76 ziX3_frozen zvX3_frozen zclX3 rfl (by decide) rfl rfl (Nat.le_of_ble_eq_true rfl) (Nat.le_of_ble_eq_true rfl) hR.1 (ct_X3_frozen hR hF (by rw [show ((8 * d + zb1 (zfg (A.2 10) d h) s) + s) / 8 = d by omega]; exact hU d hd hl) (by omega) (by rw [hs2]; exact nI_ne0 (by omega) (by omega))) (zdec_r (fun z2 => ?_) (fun z2 => ?_)) zdec_x (Nat.le_refl _)
        · refine zq_if_eqN K (x := 1) 173 dX3_merge_166 (by decide) (by omega) (fun h166 => by omega) (fun h166 => ?_)
          exact absurd z2 h5
        · refine zq_if_eqN K (x := 0) 173 dX3_merge_166 (by decide) (by omega) (fun h166 => ?_) (fun h166 => by omega)
          refine zq_aload_n K dX3_merge_173 rfl rfl ?_
          refine zm_th K dX3_merge_174 zf_X3_55 hR ?_
          refine zm_pth K dX3_merge_177 zf_X3_55 hR hS (fun M hR hS => ?_)
          refine zq_aload_n K dX3_merge_180 rfl rfl ?_
          refine zm_th K dX3_merge_181 zf_X3_55 hR ?_
          refine zq_if_leN K (x := 0) 189 dX3_merge_184 (by decide) (by omega) (fun h184 => ?_) (fun h184 => by omega)
          refine zq_aload_n K dX3_merge_189 rfl rfl ?_
          refine zm_ar K dX3_merge_190 zf_X3_30 (k := 10) (by decide) hR ?_
          refine zq_iload K dX3_merge_193 rfl ?_
          refine zq_iconst K dX3_merge_195 (v := nI 2) (by decide) ?_
          refine zq_iload K dX3_merge_196 rfl ?_
          refine zq_imulN K (x := 2) (y := s) dX3_merge_198 ?_
          refine zm_st K (8 * d + zb1 (zfg (A.2 10) d h) s) dX3_merge_199 (k := 10) (by decide) hR hS rfl (show 8 * d + zb1 (zfg (A.2 10) d h) s < 96 by omega) (fun M hR hS => ?_)
          refine zq_aload_n K dX3_merge_200 rfl rfl ?_
          refine zm_ar K dX3_merge_201 zf_X3_30 (k := 10) (by decide) hR ?_
          refine zq_iload K dX3_merge_204 rfl ?_
          refine zq_iconst K dX3_merge_206 (v := nI 0) (by decide) ?_
          refine zm_st K ((8 * d + zb1 (zfg (A.2 10) d h) s) + (s)) dX3_merge_207 (k := 10) (by decide) hR hS rfl (show (8 * d + zb1 (zfg (A.2 10) d h) s) + (s) < 96 by omega) (fun M hR hS => ?_)
          refine zq_aload_n K dX3_merge_208 rfl rfl ?_
          refine zm_ar K dX3_merge_209 zf_X3_36 (k := 12) (by decide) hR ?_
          refine zq_iload K dX3_merge_212 rfl ?_
          refine zq_dup2 K dX3_merge_214 rfl rfl ?_
          refine zm_ld K (8 * d + zb1 (zfg (A.2 10) d h) s) dX3_merge_215 (k := 12) (by decide) hR rfl (show 8 * d + zb1 (zfg (A.2 10) d h) s < 96 by omega) ?_
          refine zq_top (v := A.2 12 (8 * d + zb1 (zfg (A.2 10) d h) s)) rfl ?_
          refine zq_aload_n K dX3_merge_216 rfl rfl ?_
          refine zm_ar K dX3_merge_217 zf_X3_36 (k := 12) (by decide) hR ?_
          refine zq_iload K dX3_merge_220 rfl ?_
          refine zm_ld K ((8 * d + zb1 (zfg (A.2 10) d h) s) + (s)) dX3_merge_222 (k := 12) (by decide) hR rfl (show (8 * d + zb1 (zfg (A.2 10) d h) s) + (s) < 96 by omega) ?_
          refine zq_top (v := A.2 12 ((8 * d + zb1 (zfg (A.2 10) d h) s) + s)) rfl ?_
          refine zq_iadd K dX3_merge_223 ?_
          refine zm_st K (8 * d + zb1 (zfg (A.2 10) d h) s) dX3_merge_224 (k := 12) (by decide) hR hS rfl (show 8 * d + zb1 (zfg (A.2 10) d h) s < 96 by omega) (fun M hR hS => ?_)
          refine zq_aload_n K dX3_merge_225 rfl rfl ?_
          refine zq_iload_n K dX3_merge_226 rfl rfl ?_
          refine zq_callV (As := [.int (nI (d))]) K dX3_merge_227 zyX3_count zm_X3_148 ziX3_count zvX3_count zclX3 rfl (by decide) rfl rfl (Nat.le_of_ble_eq_true rfl) (Nat.le_of_ble_eq_true rfl) hR.1 (ct_X3_count hR hd) (zone_r ?_) zone_x (Nat.le_refl _)
          exact zq_iret K dX3_merge_230 rfl ⟨rfl, hR, hS⟩
theorem ct_X3_fragments_bad {G : ZG} {M : ZM} {x : Nat} {q : Nat → Nat} {w : Int32} {A : ZA} (hR : zR M x q w A) (hW : zWf A) {d : Int32} (h : ¬ zIsD A d) : zMet G mX3_fragments [.ref (x), .int (d)] M (zRP x q M (some (.int (nI 0))) (nI 1) A) := by
  refine zbody zyX3_fragments [some (.ref (x)), some (.int (d))] rfl (Nat.le_of_ble_eq_true rfl) (by intro v hv; simp only [List.mem_cons, List.not_mem_nil, or_false] at hv; rcases hv with rfl | rfl <;> rfl) (fun E K => ?_)
  obtain ⟨⟨D, hB⟩, hF, hU⟩ := id hW
  have hS : zSm x q M M := zSm.rf
  refine zq_aload_n K dX3_fragments_0 rfl rfl ?_
  refine zq_iconst K dX3_fragments_1 (v := nI 0) (by decide) ?_
  refine zm_pth K dX3_fragments_2 zf_X3_55 hR hS (fun M hR hS => ?_)
  refine zq_aload_n K dX3_fragments_5 rfl rfl ?_
  refine zq_iload_n K dX3_fragments_6 rfl rfl ?_
  refine zq_callV (As := [.int (d)]) K dX3_fragments_7 zyX3_isDirectory zm_X3_99 ziX3_isDirectory zvX3_isDirectory zclX3 rfl (by decide) rfl rfl (Nat.le_of_ble_eq_true rfl) (Nat.le_of_ble_eq_true rfl) hR.1 (ct_X3_isDirectory hR hB d) (zdec_r (fun yd => ?_) (fun yd => ?_)) zdec_x (Nat.le_refl _)
  · refine zq_if_eqN K (x := 1) 21 dX3_fragments_10 (by decide) (by omega) (fun h10 => by omega) (fun h10 => ?_)
    exact absurd yd h
  · refine zq_if_eqN K (x := 0) 21 dX3_fragments_10 (by decide) (by omega) (fun h10 => ?_) (fun h10 => by omega)
    refine zq_aload_n K dX3_fragments_21 rfl rfl ?_
    refine zq_iconst K dX3_fragments_22 (v := nI 1) (by decide) ?_
    refine zq_callV (As := [.int (nI (1))]) K dX3_fragments_23 zyX3_fails zm_X3_139 ziX3_fails zvX3_fails zclX3 rfl (by decide) rfl rfl (Nat.le_of_ble_eq_true rfl) (Nat.le_of_ble_eq_true rfl) hR.1 (ct_X3_fails hR (nI 1)) (zRP_r hS (fun M hR hS => ?_)) zRP_x (Nat.le_refl _)
    exact zq_iret K dX3_fragments_26 rfl ⟨rfl, hR, hS⟩
theorem ct_X3_fragments_ok {G : ZG} {M : ZM} {x : Nat} {q : Nat → Nat} {w : Int32} {A : ZA} (hR : zR M x q w A) (hW : zWf A) {d : Nat} (hd : d < 12) (hl : A.2 3 d = 1) : zMet G mX3_fragments [.ref (x), .int (nI (d))] M (zRP x q M (some (.int (nI (zcN (zps A d) 8)))) (nI 0) A) := by
  refine zbody zyX3_fragments [some (.ref (x)), some (.int (nI (d)))] rfl (Nat.le_of_ble_eq_true rfl) (by intro v hv; simp only [List.mem_cons, List.not_mem_nil, or_false] at hv; rcases hv with rfl | rfl <;> rfl) (fun E K => ?_)
  obtain ⟨⟨D, hB⟩, hF, hU⟩ := id hW
  have hS : zSm x q M M := zSm.rf
  refine zq_aload_n K dX3_fragments_0 rfl rfl ?_
  refine zq_iconst K dX3_fragments_1 (v := nI 0) (by decide) ?_
  refine zm_pth K dX3_fragments_2 zf_X3_55 hR hS (fun M hR hS => ?_)
  refine zq_aload_n K dX3_fragments_5 rfl rfl ?_
  refine zq_iload_n K dX3_fragments_6 rfl rfl ?_
  refine zq_callV (As := [.int (nI (d))]) K dX3_fragments_7 zyX3_isDirectory zm_X3_99 ziX3_isDirectory zvX3_isDirectory zclX3 rfl (by decide) rfl rfl (Nat.le_of_ble_eq_true rfl) (Nat.le_of_ble_eq_true rfl) hR.1 (ct_X3_isDirectory hR hB (nI d)) (zdec_r (fun yd => ?_) (fun yd => ?_)) zdec_x (Nat.le_refl _)
  · refine zq_if_eqN K (x := 1) 21 dX3_fragments_10 (by decide) (by omega) (fun h10 => by omega) (fun h10 => ?_)
    refine zq_aload_n K dX3_fragments_13 rfl rfl ?_
    refine zq_iload_n K dX3_fragments_14 rfl rfl ?_
    refine zq_callV (As := [.int (nI (d))]) K dX3_fragments_15 zyX3_count zm_X3_148 ziX3_count zvX3_count zclX3 rfl (by decide) rfl rfl (Nat.le_of_ble_eq_true rfl) (Nat.le_of_ble_eq_true rfl) hR.1 (ct_X3_count hR hd) (zone_r ?_) zone_x (Nat.le_refl _)
    refine zq_goto K 26 dX3_fragments_18 (by decide) ?_
    exact zq_iret K dX3_fragments_26 rfl ⟨rfl, hR, hS⟩
  · refine zq_if_eqN K (x := 0) 21 dX3_fragments_10 (by decide) (by omega) (fun h10 => ?_) (fun h10 => by omega)
    exact absurd ⟨d, hd, rfl, hl⟩ yd
theorem ct_X3_size_bad {G : ZG} {M : ZM} {x : Nat} {q : Nat → Nat} {w : Int32} {A : ZA} (hR : zR M x q w A) (hW : zWf A) {d : Int32} (h : ¬ zIsD A d) : zMet G mX3_size [.ref (x), .int (d)] M (zRP x q M (some (.int (nI 0))) (nI 1) A) := by
  refine zbody zyX3_size [some (.ref (x)), some (.int (d))] rfl (Nat.le_of_ble_eq_true rfl) (by intro v hv; simp only [List.mem_cons, List.not_mem_nil, or_false] at hv; rcases hv with rfl | rfl <;> rfl) (fun E K => ?_)
  obtain ⟨⟨D, hB⟩, hF, hU⟩ := id hW
  have hS : zSm x q M M := zSm.rf
  refine zq_aload_n K dX3_size_0 rfl rfl ?_
  refine zq_iconst K dX3_size_1 (v := nI 0) (by decide) ?_
  refine zm_pth K dX3_size_2 zf_X3_55 hR hS (fun M hR hS => ?_)
  refine zq_aload_n K dX3_size_5 rfl rfl ?_
  refine zq_iload_n K dX3_size_6 rfl rfl ?_
  refine zq_callV (As := [.int (d)]) K dX3_size_7 zyX3_isDirectory zm_X3_99 ziX3_isDirectory zvX3_isDirectory zclX3 rfl (by decide) rfl rfl (Nat.le_of_ble_eq_true rfl) (Nat.le_of_ble_eq_true rfl) hR.1 (ct_X3_isDirectory hR hB d) (zdec_r (fun yd => ?_) (fun yd => ?_)) zdec_x (Nat.le_refl _)
  · refine zq_if_eqN K (x := 1) 21 dX3_size_10 (by decide) (by omega) (fun h10 => by omega) (fun h10 => ?_)
    exact absurd yd h
  · refine zq_if_eqN K (x := 0) 21 dX3_size_10 (by decide) (by omega) (fun h10 => ?_) (fun h10 => by omega)
    refine zq_aload_n K dX3_size_21 rfl rfl ?_
    refine zq_iconst K dX3_size_22 (v := nI 1) (by decide) ?_
    refine zq_callV (As := [.int (nI (1))]) K dX3_size_23 zyX3_fails zm_X3_139 ziX3_fails zvX3_fails zclX3 rfl (by decide) rfl rfl (Nat.le_of_ble_eq_true rfl) (Nat.le_of_ble_eq_true rfl) hR.1 (ct_X3_fails hR (nI 1)) (zRP_r hS (fun M hR hS => ?_)) zRP_x (Nat.le_refl _)
    exact zq_iret K dX3_size_26 rfl ⟨rfl, hR, hS⟩
theorem ct_X3_size_ok {G : ZG} {M : ZM} {x : Nat} {q : Nat → Nat} {w : Int32} {A : ZA} (hR : zR M x q w A) (hW : zWf A) {d : Nat} (hd : d < 12) (hl : A.2 3 d = 1) : zMet G mX3_size [.ref (x), .int (nI (d))] M (zRP x q M (some (.int (nI (zcN (zpu A d) 50)))) (nI 0) A) := by
  refine zbody zyX3_size [some (.ref (x)), some (.int (nI (d)))] rfl (Nat.le_of_ble_eq_true rfl) (by intro v hv; simp only [List.mem_cons, List.not_mem_nil, or_false] at hv; rcases hv with rfl | rfl <;> rfl) (fun E K => ?_)
  obtain ⟨⟨D, hB⟩, hF, hU⟩ := id hW
  have hS : zSm x q M M := zSm.rf
  refine zq_aload_n K dX3_size_0 rfl rfl ?_
  refine zq_iconst K dX3_size_1 (v := nI 0) (by decide) ?_
  refine zm_pth K dX3_size_2 zf_X3_55 hR hS (fun M hR hS => ?_)
  refine zq_aload_n K dX3_size_5 rfl rfl ?_
  refine zq_iload_n K dX3_size_6 rfl rfl ?_
  refine zq_callV (As := [.int (nI (d))]) K dX3_size_7 zyX3_isDirectory zm_X3_99 ziX3_isDirectory zvX3_isDirectory zclX3 rfl (by decide) rfl rfl (Nat.le_of_ble_eq_true rfl) (Nat.le_of_ble_eq_true rfl) hR.1 (ct_X3_isDirectory hR hB (nI d)) (zdec_r (fun yd => ?_) (fun yd => ?_)) zdec_x (Nat.le_refl _)
  · refine zq_if_eqN K (x := 1) 21 dX3_size_10 (by decide) (by omega) (fun h10 => by omega) (fun h10 => ?_)
    refine zq_aload_n K dX3_size_13 rfl rfl ?_
    refine zq_iload_n K dX3_size_14 rfl rfl ?_
    refine zq_callV (As := [.int (nI (d))]) K dX3_size_15 zyX3_used zm_X3_130 ziX3_used zvX3_used zclX3 rfl (by decide) rfl rfl (Nat.le_of_ble_eq_true rfl) (Nat.le_of_ble_eq_true rfl) hR.1 (ct_X3_used hR hd) (zone_r ?_) zone_x (Nat.le_refl _)
    refine zq_goto K 26 dX3_size_18 (by decide) ?_
    exact zq_iret K dX3_size_26 rfl ⟨rfl, hR, hS⟩
  · refine zq_if_eqN K (x := 0) 21 dX3_size_10 (by decide) (by omega) (fun h10 => ?_) (fun h10 => by omega)
    exact absurd ⟨d, hd, rfl, hl⟩ yd
theorem ct_X3_isFrozen_bad {G : ZG} {M : ZM} {x : Nat} {q : Nat → Nat} {w : Int32} {A : ZA} (hR : zR M x q w A) (hW : zWf A) {d h : Int32} {k : Nat} (hk : zBh A 49 d h k) : zMet G mX3_isFrozen [.ref (x), .int (d), .int (h)] M (zRP x q M (some (.int (nI 0))) (nI k) A) := by
  refine zbody zyX3_isFrozen [some (.ref (x)), some (.int (d)), some (.int (h))] rfl (Nat.le_of_ble_eq_true rfl) (by intro v hv; simp only [List.mem_cons, List.not_mem_nil, or_false] at hv; rcases hv with rfl | rfl | rfl <;> rfl) (fun E K => ?_)
  obtain ⟨⟨D, hB⟩, hF, hU⟩ := id hW
  have hS : zSm x q M M := zSm.rf
  have hk1 := zBh_k hk
  refine zq_aload_n K dX3_isFrozen_0 rfl rfl ?_
  refine zq_aload_n K dX3_isFrozen_1 rfl rfl ?_
  refine zq_iload_n K dX3_isFrozen_2 rfl rfl ?_
  refine zq_iload_n K dX3_isFrozen_3 rfl rfl ?_
  refine zq_callV (As := [.int (d), .int (h)]) K dX3_isFrozen_4 zyX3_barsPlain zm_X3_151 ziX3_barsPlain zvX3_barsPlain zclX3 rfl (by decide) rfl rfl (Nat.le_of_ble_eq_true rfl) (Nat.le_of_ble_eq_true rfl) hR.1 (ct_X3_barsPlain_bad hR hB hk) (zone_r ?_) zone_x (Nat.le_refl _)
  refine zm_pth K dX3_isFrozen_7 zf_X3_55 hR hS (fun M hR hS => ?_)
  refine zq_aload_n K dX3_isFrozen_10 rfl rfl ?_
  refine zm_th K dX3_isFrozen_11 zf_X3_55 hR ?_
  refine zq_if_neN K (x := k) 30 dX3_isFrozen_14 (by decide) (by omega) (fun h14 => ?_) (fun h14 => by omega)
  refine zq_iconst K dX3_isFrozen_30 (v := nI 0) (by decide) ?_
  exact zq_zret K dX3_isFrozen_31 rfl (by decide) ⟨rfl, hR, hS⟩
theorem ct_X3_isFrozen_yes {G : ZG} {M : ZM} {x : Nat} {q : Nat → Nat} {w : Int32} {A : ZA} (hR : zR M x q w A) (hW : zWf A) {d h : Nat} (hd : d < 12) (hl : A.2 3 d = 1) (hh : h ≤ 49) (hz : zfz A (zfn A d h) = true) : zMet G mX3_isFrozen [.ref (x), .int (nI (d)), .int (nI (h))] M (zRP x q M (some (.int (nI 1))) (nI 0) A) := by
  refine zbody zyX3_isFrozen [some (.ref (x)), some (.int (nI (d))), some (.int (nI (h)))] rfl (Nat.le_of_ble_eq_true rfl) (by intro v hv; simp only [List.mem_cons, List.not_mem_nil, or_false] at hv; rcases hv with rfl | rfl | rfl <;> rfl) (fun E K => ?_)
  obtain ⟨⟨D, hB⟩, hF, hU⟩ := id hW
  have hS : zSm x q M M := zSm.rf
  have h00 := hF.1 d hd hl
  refine zq_aload_n K dX3_isFrozen_0 rfl rfl ?_
  refine zq_aload_n K dX3_isFrozen_1 rfl rfl ?_
  refine zq_iload_n K dX3_isFrozen_2 rfl rfl ?_
  refine zq_iload_n K dX3_isFrozen_3 rfl rfl ?_
  refine zq_callV (As := [.int (nI (d)), .int (nI (h))]) K dX3_isFrozen_4 zyX3_barsPlain zm_X3_151 ziX3_barsPlain zvX3_barsPlain zclX3 rfl (by decide) rfl rfl (Nat.le_of_ble_eq_true rfl) (Nat.le_of_ble_eq_true rfl) hR.1 (ct_X3_barsPlain_ok hR hB hd hl hh) (zone_r ?_) zone_x (Nat.le_refl _)
  refine zm_pth K dX3_isFrozen_7 zf_X3_55 hR hS (fun M hR hS => ?_)
  refine zq_aload_n K dX3_isFrozen_10 rfl rfl ?_
  refine zm_th K dX3_isFrozen_11 zf_X3_55 hR ?_
  refine zq_if_neN K (x := 0) 30 dX3_isFrozen_14 (by decide) (by omega) (fun h14 => by omega) (fun h14 => ?_)
  refine zq_aload_n K dX3_isFrozen_17 rfl rfl ?_
  refine zq_iload_n K dX3_isFrozen_18 rfl rfl ?_
  refine zq_iload_n K dX3_isFrozen_19 rfl rfl ?_
  refine zq_callV (As := [.int (nI (d)), .int (nI (h))]) K dX3_isFrozen_20 zyX3_isFrozenName zm_X3_106 ziX3_isFrozenName zvX3_isFrozenName zclX3 rfl (by decide) rfl rfl (Nat.le_of_ble_eq_true rfl) (Nat.le_of_ble_eq_true rfl) hR.1 (ct_X3_isFrozenName hR hF (hU d hd hl) hd hl (show h < 50 by omega)) (zdec_r (fun z1 => ?_) (fun z1 => ?_)) zdec_x (Nat.le_refl _)
  · refine zq_if_eqN K (x := 1) 30 dX3_isFrozen_23 (by decide) (by omega) (fun h23 => by omega) (fun h23 => ?_)
    refine zq_iconst K dX3_isFrozen_26 (v := nI 1) (by decide) ?_
    refine zq_goto K 31 dX3_isFrozen_27 (by decide) ?_
    exact zq_zret K dX3_isFrozen_31 rfl (by decide) ⟨rfl, hR, hS⟩
  · refine zq_if_eqN K (x := 0) 30 dX3_isFrozen_23 (by decide) (by omega) (fun h23 => ?_) (fun h23 => by omega)
    exact absurd hz z1
theorem ct_X3_isFrozen_no {G : ZG} {M : ZM} {x : Nat} {q : Nat → Nat} {w : Int32} {A : ZA} (hR : zR M x q w A) (hW : zWf A) {d h : Nat} (hd : d < 12) (hl : A.2 3 d = 1) (hh : h ≤ 49) (hz : ¬ zfz A (zfn A d h) = true) : zMet G mX3_isFrozen [.ref (x), .int (nI (d)), .int (nI (h))] M (zRP x q M (some (.int (nI 0))) (nI 0) A) := by
  refine zbody zyX3_isFrozen [some (.ref (x)), some (.int (nI (d))), some (.int (nI (h)))] rfl (Nat.le_of_ble_eq_true rfl) (by intro v hv; simp only [List.mem_cons, List.not_mem_nil, or_false] at hv; rcases hv with rfl | rfl | rfl <;> rfl) (fun E K => ?_)
  obtain ⟨⟨D, hB⟩, hF, hU⟩ := id hW
  have hS : zSm x q M M := zSm.rf
  have h00 := hF.1 d hd hl
  refine zq_aload_n K dX3_isFrozen_0 rfl rfl ?_
  refine zq_aload_n K dX3_isFrozen_1 rfl rfl ?_
  refine zq_iload_n K dX3_isFrozen_2 rfl rfl ?_
  refine zq_iload_n K dX3_isFrozen_3 rfl rfl ?_
  refine zq_callV (As := [.int (nI (d)), .int (nI (h))]) K dX3_isFrozen_4 zyX3_barsPlain zm_X3_151 ziX3_barsPlain zvX3_barsPlain zclX3 rfl (by decide) rfl rfl (Nat.le_of_ble_eq_true rfl) (Nat.le_of_ble_eq_true rfl) hR.1 (ct_X3_barsPlain_ok hR hB hd hl hh) (zone_r ?_) zone_x (Nat.le_refl _)
  refine zm_pth K dX3_isFrozen_7 zf_X3_55 hR hS (fun M hR hS => ?_)
  refine zq_aload_n K dX3_isFrozen_10 rfl rfl ?_
  refine zm_th K dX3_isFrozen_11 zf_X3_55 hR ?_
  refine zq_if_neN K (x := 0) 30 dX3_isFrozen_14 (by decide) (by omega) (fun h14 => by omega) (fun h14 => ?_)
  refine zq_aload_n K dX3_isFrozen_17 rfl rfl ?_
  refine zq_iload_n K dX3_isFrozen_18 rfl rfl ?_
  refine zq_iload_n K dX3_isFrozen_19 rfl rfl ?_
  refine zq_callV (As := [.int (nI (d)), .int (nI (h))]) K dX3_isFrozen_20 zyX3_isFrozenName zm_X3_106 ziX3_isFrozenName zvX3_isFrozenName zclX3 rfl (by decide) rfl rfl (Nat.le_of_ble_eq_true rfl) (Nat.le_of_ble_eq_true rfl) hR.1 (ct_X3_isFrozenName hR hF (hU d hd hl) hd hl (show h < 50 by omega)) (zdec_r (fun z1 => ?_) (fun z1 => ?_)) zdec_x (Nat.le_refl _)
  · refine zq_if_eqN K (x := 1) 30 dX3_isFrozen_23 (by decide) (by omega) (fun h23 => by omega) (fun h23 => ?_)
    exact absurd z1 hz
  · refine zq_if_eqN K (x := 0) 30 dX3_isFrozen_23 (by decide) (by omega) (fun h23 => ?_) (fun h23 => by omega)
    refine zq_iconst K dX3_isFrozen_30 (v := nI 0) (by decide) ?_
    exact zq_zret K dX3_isFrozen_31 rfl (by decide) ⟨rfl, hR, hS⟩
theorem ct_X3_links__bad {G : ZG} {M : ZM} {x : Nat} {q : Nat → Nat} {w : Int32} {A : ZA} (hR : zR M x q w A) {F : Nat} (hf : A.1 9 = nI F) (hF : F ≤ 30) {f : Int32} (h : ¬ zFn F f) : zMet G mX3_links_ [.ref (x), .int (f)] M (zRP x q M (some (.int (nI 0))) (nI 1) A) := by
  refine zbody zyX3_links_ [some (.ref (x)), some (.int (f))] rfl (Nat.le_of_ble_eq_true rfl) (by intro v hv; simp only [List.mem_cons, List.not_mem_nil, or_false] at hv; rcases hv with rfl | rfl <;> rfl) (fun E K => ?_)
  have hS : zSm x q M M := zSm.rf
  refine zq_aload_n K dX3_links__0 rfl rfl ?_
  refine zq_iconst K dX3_links__1 (v := nI 0) (by decide) ?_
  refine zm_pth K dX3_links__2 zf_X3_55 hR hS (fun M hR hS => ?_)
  refine zq_iload_n K dX3_links__5 rfl rfl ?_
  refine zq_iconst K dX3_links__6 (v := nI 0) (by decide) ?_
  refine zq_aload_n K dX3_links__7 rfl rfl ?_
  refine zm_sc K dX3_links__8 zf_X3_119 (k := 9) (by decide) hR ?_
  refine zq_top (v := nI (F)) hf ?_
  refine zq_iconst K dX3_links__11 (v := nI 1) (by decide) ?_
  refine zq_isub K dX3_links__12 ?_
  refine zq_callS (As := [.int (f), .int (nI (0)), .int (nI F - nI 1)]) K dX3_links__13 zyX3_in zm_X3_58 zsX3_in rfl (by decide) rfl rfl (Nat.le_of_ble_eq_true rfl) (Nat.le_of_ble_eq_true rfl) (ct_X3_in f (nI 0) (nI F - nI 1) _) (zdec_r (fun yf => ?_) (fun yf => ?_)) zdec_x (Nat.le_refl _)
  · refine zq_if_eqN K (x := 1) 27 dX3_links__16 (by decide) (by omega) (fun h16 => by omega) (fun h16 => ?_)
    exact absurd ((zFn_iff hF).mp yf) h
  · refine zq_if_eqN K (x := 0) 27 dX3_links__16 (by decide) (by omega) (fun h16 => ?_) (fun h16 => by omega)
    refine zq_aload_n K dX3_links__27 rfl rfl ?_
    refine zq_iconst K dX3_links__28 (v := nI 1) (by decide) ?_
    refine zq_callV (As := [.int (nI (1))]) K dX3_links__29 zyX3_fails zm_X3_139 ziX3_fails zvX3_fails zclX3 rfl (by decide) rfl rfl (Nat.le_of_ble_eq_true rfl) (Nat.le_of_ble_eq_true rfl) hR.1 (ct_X3_fails hR (nI 1)) (zRP_r hS (fun M hR hS => ?_)) zRP_x (Nat.le_refl _)
    exact zq_iret K dX3_links__32 rfl ⟨rfl, hR, hS⟩
theorem ct_X3_links__ok {G : ZG} {M : ZM} {x : Nat} {q : Nat → Nat} {w : Int32} {A : ZA} (hR : zR M x q w A) {F : Nat} (hf : A.1 9 = nI F) (hF : F ≤ 30) {f : Int32} (h : zFn F f) : zMet G mX3_links_ [.ref (x), .int (f)] M (zRP x q M (some (.int (nI (zcN (zpl A f) 600)))) (nI 0) A) := by
  refine zbody zyX3_links_ [some (.ref (x)), some (.int (f))] rfl (Nat.le_of_ble_eq_true rfl) (by intro v hv; simp only [List.mem_cons, List.not_mem_nil, or_false] at hv; rcases hv with rfl | rfl <;> rfl) (fun E K => ?_)
  have hS : zSm x q M M := zSm.rf
  refine zq_aload_n K dX3_links__0 rfl rfl ?_
  refine zq_iconst K dX3_links__1 (v := nI 0) (by decide) ?_
  refine zm_pth K dX3_links__2 zf_X3_55 hR hS (fun M hR hS => ?_)
  refine zq_iload_n K dX3_links__5 rfl rfl ?_
  refine zq_iconst K dX3_links__6 (v := nI 0) (by decide) ?_
  refine zq_aload_n K dX3_links__7 rfl rfl ?_
  refine zm_sc K dX3_links__8 zf_X3_119 (k := 9) (by decide) hR ?_
  refine zq_top (v := nI (F)) hf ?_
  refine zq_iconst K dX3_links__11 (v := nI 1) (by decide) ?_
  refine zq_isub K dX3_links__12 ?_
  refine zq_callS (As := [.int (f), .int (nI (0)), .int (nI F - nI 1)]) K dX3_links__13 zyX3_in zm_X3_58 zsX3_in rfl (by decide) rfl rfl (Nat.le_of_ble_eq_true rfl) (Nat.le_of_ble_eq_true rfl) (ct_X3_in f (nI 0) (nI F - nI 1) _) (zdec_r (fun yf => ?_) (fun yf => ?_)) zdec_x (Nat.le_refl _)
  · refine zq_if_eqN K (x := 1) 27 dX3_links__16 (by decide) (by omega) (fun h16 => by omega) (fun h16 => ?_)
    refine zq_aload_n K dX3_links__19 rfl rfl ?_
    refine zq_iload_n K dX3_links__20 rfl rfl ?_
    refine zq_callV (As := [.int (f)]) K dX3_links__21 zyX3_countLinks zm_X3_124 ziX3_countLinks zvX3_countLinks zclX3 rfl (by decide) rfl rfl (Nat.le_of_ble_eq_true rfl) (Nat.le_of_ble_eq_true rfl) hR.1 (ct_X3_countLinks hR f) (zone_r ?_) zone_x (Nat.le_refl _)
    refine zq_goto K 32 dX3_links__24 (by decide) ?_
    exact zq_iret K dX3_links__32 rfl ⟨rfl, hR, hS⟩
  · refine zq_if_eqN K (x := 0) 27 dX3_links__16 (by decide) (by omega) (fun h16 => ?_) (fun h16 => by omega)
    exact absurd ((zFn_iff hF).mpr h) yf

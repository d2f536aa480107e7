/-! the reference: the steps of a move, balance, anchor, a new one -/
theorem nI_ne1 {n : Nat} (h : n < 2 ^ 31) : ¬ nI n = -1 := fun e => nI_pos h (by rw [e]; decide)
theorem ct_X3_stepMove_bad {G : ZG} {M : ZM} {x : Nat} {q : Nat → Nat} {w : Int32} {A : ZA} (hR : zR M x q w A) (hm : A.1 16 = -1) : zMet G mX3_stepMove [.ref (x)] M (zRP x q M (some (.int (nI 0))) (nI 1) A) := by
  refine zbody zyX3_stepMove [some (.ref (x)), none] rfl (Nat.le_of_ble_eq_true rfl) (by intro v hv; simp only [List.mem_cons, List.not_mem_nil, or_false] at hv; rcases hv with rfl <;> rfl) (fun E K => ?_)
  have hS : zSm x q M M := zSm.rf
  refine zq_aload_n K dX3_stepMove_0 rfl rfl ?_
  refine zq_aload_n K dX3_stepMove_1 rfl rfl ?_
  refine zm_sc K dX3_stepMove_2 zf_X3_48 (k := 16) (by decide) hR ?_
  refine zq_iconst K dX3_stepMove_5 (v := -1) (by decide) ?_
  refine zq_icmp_ne K 13 dX3_stepMove_6 (by decide) (fun h6 => absurd hm h6) (fun h6 => ?_)
  refine zq_iconst K dX3_stepMove_9 (v := nI 1) (by decide) ?_
  refine zq_goto K 14 dX3_stepMove_10 (by decide) ?_
  refine zm_pth K dX3_stepMove_14 zf_X3_55 hR hS (fun M hR hS => ?_)
  refine zq_aload_n K dX3_stepMove_17 rfl rfl ?_
  refine zm_th K dX3_stepMove_18 zf_X3_55 hR ?_
  refine zq_if_leN K (x := 1) 26 dX3_stepMove_21 (by decide) (by omega) (fun h21 => by omega) (fun h21 => ?_)
  refine zq_iconst K dX3_stepMove_24 (v := nI 0) (by decide) ?_
  exact zq_iret K dX3_stepMove_25 rfl ⟨rfl, hR, hS⟩
/-- one more step -/
def zSt1 (A : ZA) : ZA := zsc A 18 (A.1 18 + nI 1)
theorem ct_X3_stepMove_1 {G : ZG} {M : ZM} {x : Nat} {q : Nat → Nat} {w : Int32} {A : ZA} (hR : zR M x q w A) (hW : zWf A) (hm : ¬ A.1 16 = -1) {D : Nat} (hD : A.1 2 = nI D) (hD12 : D ≤ 12) (h1 : A.1 18 + nI 1 = nI 1) : zMet G mX3_stepMove [.ref (x)] M (zRP x q M (some (.int (A.1 18 + nI 1))) (nI 0) (zRc (zSt1 A) (50 * D))) := by
  refine zbody zyX3_stepMove [some (.ref (x)), none] rfl (Nat.le_of_ble_eq_true rfl) (by intro v hv; simp only [List.mem_cons, List.not_mem_nil, or_false] at hv; rcases hv with rfl <;> rfl) (fun E K => ?_)
  have hS : zSm x q M M := zSm.rf
  refine zq_aload_n K dX3_stepMove_0 rfl rfl ?_
  refine zq_aload_n K dX3_stepMove_1 rfl rfl ?_
  refine zm_sc K dX3_stepMove_2 zf_X3_48 (k := 16) (by decide) hR ?_
  refine zq_iconst K dX3_stepMove_5 (v := -1) (by decide) ?_
  refine zq_icmp_ne K 13 dX3_stepMove_6 (by decide) (fun h6 => ?_) (fun h6 => absurd h6 hm)
  refine zq_iconst K dX3_stepMove_13 (v := nI 0) (by decide) ?_
  refine zm_pth K dX3_stepMove_14 zf_X3_55 hR hS (fun M hR hS => ?_)
  refine zq_aload_n K dX3_stepMove_17 rfl rfl ?_
  refine zm_th K dX3_stepMove_18 zf_X3_55 hR ?_
  refine zq_if_leN K (x := 0) 26 dX3_stepMove_21 (by decide) (by omega) (fun h21 => ?_) (fun h21 => by omega)
  refine zq_aload_n K dX3_stepMove_26 rfl rfl ?_
  refine zq_dup K dX3_stepMove_27 rfl ?_
  refine zm_sc K dX3_stepMove_28 zf_X3_163 (k := 18) (by decide) hR ?_
  refine zq_iconst K dX3_stepMove_31 (v := nI 1) (by decide) ?_
  refine zq_iadd K dX3_stepMove_32 ?_
  refine zm_psc K dX3_stepMove_33 zf_X3_163 (k := 18) (by decide) hR hS (fun M hR hS => ?_)
  refine zq_aload_n K dX3_stepMove_36 rfl rfl ?_
  refine zm_sc K dX3_stepMove_37 zf_X3_163 (k := 18) (by decide) hR ?_
  refine zq_top (v := A.1 18 + nI 1) rfl ?_
  refine zq_iconst K dX3_stepMove_40 (v := nI 1) (by decide) ?_
  refine zq_icmp_ne K 99 dX3_stepMove_41 (by decide) (fun h41 => absurd h1 h41) (fun h41 => ?_)
  refine zq_iconst K dX3_stepMove_44 (v := nI 0) (by decide) ?_
  refine zq_istore_n K dX3_stepMove_45 rfl (by decide) ?_
  refine lp_X3_stepMove K (x := x) (q := q) (w := nI 0) (A := zSt1 A) hW hD hD12 (fun M3 L3 hR hS hL3 => ?_) (50 * D) 0 (by omega) _ hR hS
  refine zq_goto K 117 dX3_stepMove_96 (by decide) ?_
  refine zq_aload_n K dX3_stepMove_117 rfl hL3 ?_
  refine zm_sc K dX3_stepMove_118 zf_X3_163 (k := 18) (by decide) hR ?_
  refine zq_top (v := A.1 18 + nI 1) ((congrFun (zRc_sme (zSt1 A) (50 * D)).1 18).trans rfl) ?_
  exact zq_iret K dX3_stepMove_121 rfl ⟨rfl, hR, hS⟩
theorem ct_X3_stepMove_2 {G : ZG} {M : ZM} {x : Nat} {q : Nat → Nat} {w : Int32} {A : ZA} (hR : zR M x q w A) (hW : zWf A) (hm : ¬ A.1 16 = -1) (h1 : ¬ A.1 18 + nI 1 = nI 1) {f : Nat} (hf : A.1 16 = nI f) (hf96 : f < 96) : zMet G mX3_stepMove [.ref (x)] M (zRP x q M (some (.int (A.1 18 + nI 1))) (nI 0) (zsc (zsa (zSt1 A) 11 f (A.1 17)) 16 (-1))) := by
  refine zbody zyX3_stepMove [some (.ref (x)), none] rfl (Nat.le_of_ble_eq_true rfl) (by intro v hv; simp only [List.mem_cons, List.not_mem_nil, or_false] at hv; rcases hv with rfl <;> rfl) (fun E K => ?_)
  have hS : zSm x q M M := zSm.rf
  refine zq_aload_n K dX3_stepMove_0 rfl rfl ?_
  refine zq_aload_n K dX3_stepMove_1 rfl rfl ?_
  refine zm_sc K dX3_stepMove_2 zf_X3_48 (k := 16) (by decide) hR ?_
  refine zq_iconst K dX3_stepMove_5 (v := -1) (by decide) ?_
  refine zq_icmp_ne K 13 dX3_stepMove_6 (by decide) (fun h6 => ?_) (fun h6 => absurd h6 hm)
  refine zq_iconst K dX3_stepMove_13 (v := nI 0) (by decide) ?_
  refine zm_pth K dX3_stepMove_14 zf_X3_55 hR hS (fun M hR hS => ?_)
  refine zq_aload_n K dX3_stepMove_17 rfl rfl ?_
  refine zm_th K dX3_stepMove_18 zf_X3_55 hR ?_
  refine zq_if_leN K (x := 0) 26 dX3_stepMove_21 (by decide) (by omega) (fun h21 => ?_) (fun h21 => by omega)
  refine zq_aload_n K dX3_stepMove_26 rfl rfl ?_
  refine zq_dup K dX3_stepMove_27 rfl ?_
  refine zm_sc K dX3_stepMove_28 zf_X3_163 (k := 18) (by decide) hR ?_
  refine zq_iconst K dX3_stepMove_31 (v := nI 1) (by decide) ?_
  refine zq_iadd K dX3_stepMove_32 ?_
  refine zm_psc K dX3_stepMove_33 zf_X3_163 (k := 18) (by decide) hR hS (fun M hR hS => ?_)
  refine zq_aload_n K dX3_stepMove_36 rfl rfl ?_
  refine zm_sc K dX3_stepMove_37 zf_X3_163 (k := 18) (by decide) hR ?_
  refine zq_top (v := A.1 18 + nI 1) rfl ?_
  refine zq_iconst K dX3_stepMove_40 (v := nI 1) (by decide) ?_
  refine zq_icmp_ne K 99 dX3_stepMove_41 (by decide) (fun h41 => ?_) (fun h41 => absurd h41 h1)
  refine zq_aload_n K dX3_stepMove_99 rfl rfl ?_
  refine zm_ar K dX3_stepMove_100 zf_X3_33 (k := 11) (by decide) hR ?_
  refine zq_aload_n K dX3_stepMove_103 rfl rfl ?_
  refine zm_sc K dX3_stepMove_104 zf_X3_48 (k := 16) (by decide) hR ?_
  refine zq_top (v := nI (f)) hf ?_
  refine zq_aload_n K dX3_stepMove_107 rfl rfl ?_
  refine zm_sc K dX3_stepMove_108 zf_X3_160 (k := 17) (by decide) hR ?_
  refine zq_top (v := A.1 17) rfl ?_
  refine zm_st K (f) dX3_stepMove_111 (k := 11) (by decide) hR hS rfl (show f < 96 by omega) (fun M hR hS => ?_)
  refine zq_aload_n K dX3_stepMove_112 rfl rfl ?_
  refine zq_iconst K dX3_stepMove_113 (v := -1) (by decide) ?_
  refine zm_psc K dX3_stepMove_114 zf_X3_48 (k := 16) (by decide) hR hS (fun M hR hS => ?_)
  refine zq_aload_n K dX3_stepMove_117 rfl rfl ?_
  refine zm_sc K dX3_stepMove_118 zf_X3_163 (k := 18) (by decide) hR ?_
  refine zq_top (v := A.1 18 + nI 1) rfl ?_
  exact zq_iret K dX3_stepMove_121 rfl ⟨rfl, hR, hS⟩
theorem ct_X3_giveUpMove_bad {G : ZG} {M : ZM} {x : Nat} {q : Nat → Nat} {w : Int32} {A : ZA} (hR : zR M x q w A) (hm : A.1 16 = -1) : zMet G mX3_giveUpMove [.ref (x)] M (zRP x q M (some (.int (nI 0))) (nI 1) (zsc A 16 (-1))) := by
  refine zbody zyX3_giveUpMove [some (.ref (x))] rfl (Nat.le_of_ble_eq_true rfl) (by intro v hv; simp only [List.mem_cons, List.not_mem_nil, or_false] at hv; rcases hv with rfl <;> rfl) (fun E K => ?_)
  have hS : zSm x q M M := zSm.rf
  refine zq_aload_n K dX3_giveUpMove_0 rfl rfl ?_
  refine zq_aload_n K dX3_giveUpMove_1 rfl rfl ?_
  refine zm_sc K dX3_giveUpMove_2 zf_X3_48 (k := 16) (by decide) hR ?_
  refine zq_iconst K dX3_giveUpMove_5 (v := -1) (by decide) ?_
  refine zq_icmp_ne K 13 dX3_giveUpMove_6 (by decide) (fun h6 => absurd hm h6) (fun h6 => ?_)
  refine zq_iconst K dX3_giveUpMove_9 (v := nI 1) (by decide) ?_
  refine zq_goto K 14 dX3_giveUpMove_10 (by decide) ?_
  refine zm_pth K dX3_giveUpMove_14 zf_X3_55 hR hS (fun M hR hS => ?_)
  refine zq_aload_n K dX3_giveUpMove_17 rfl rfl ?_
  refine zq_iconst K dX3_giveUpMove_18 (v := -1) (by decide) ?_
  refine zm_psc K dX3_giveUpMove_19 zf_X3_48 (k := 16) (by decide) hR hS (fun M hR hS => ?_)
  refine zq_aload_n K dX3_giveUpMove_22 rfl rfl ?_
  refine zm_th K dX3_giveUpMove_23 zf_X3_55 hR ?_
  refine zq_if_leN K (x := 1) 33 dX3_giveUpMove_26 (by decide) (by omega) (fun h26 => by omega) (fun h26 => ?_)
  refine zq_iconst K dX3_giveUpMove_29 (v := nI 0) (by decide) ?_
  refine zq_goto K 37 dX3_giveUpMove_30 (by decide) ?_
  exact zq_iret K dX3_giveUpMove_37 rfl ⟨rfl, hR, hS⟩
theorem ct_X3_giveUpMove_ok {G : ZG} {M : ZM} {x : Nat} {q : Nat → Nat} {w : Int32} {A : ZA} (hR : zR M x q w A) (hm : ¬ A.1 16 = -1) : zMet G mX3_giveUpMove [.ref (x)] M (zRP x q M (some (.int (A.1 18))) (nI 0) (zsc A 16 (-1))) := by
  refine zbody zyX3_giveUpMove [some (.ref (x))] rfl (Nat.le_of_ble_eq_true rfl) (by intro v hv; simp only [List.mem_cons, List.not_mem_nil, or_false] at hv; rcases hv with rfl <;> rfl) (fun E K => ?_)
  have hS : zSm x q M M := zSm.rf
  refine zq_aload_n K dX3_giveUpMove_0 rfl rfl ?_
  refine zq_aload_n K dX3_giveUpMove_1 rfl rfl ?_
  refine zm_sc K dX3_giveUpMove_2 zf_X3_48 (k := 16) (by decide) hR ?_
  refine zq_iconst K dX3_giveUpMove_5 (v := -1) (by decide) ?_
  refine zq_icmp_ne K 13 dX3_giveUpMove_6 (by decide) (fun h6 => ?_) (fun h6 => absurd h6 hm)
  refine zq_iconst K dX3_giveUpMove_13 (v := nI 0) (by decide) ?_
  refine zm_pth K dX3_giveUpMove_14 zf_X3_55 hR hS (fun M hR hS => ?_)
  refine zq_aload_n K dX3_giveUpMove_17 rfl rfl ?_
  refine zq_iconst K dX3_giveUpMove_18 (v := -1) (by decide) ?_
  refine zm_psc K dX3_giveUpMove_19 zf_X3_48 (k := 16) (by decide) hR hS (fun M hR hS => ?_)
  refine zq_aload_n K dX3_giveUpMove_22 rfl rfl ?_
  refine zm_th K dX3_giveUpMove_23 zf_X3_55 hR ?_
  refine zq_if_leN K (x := 0) 33 dX3_giveUpMove_26 (by decide) (by omega) (fun h26 => ?_) (fun h26 => by omega)
  refine zq_aload_n K dX3_giveUpMove_33 rfl rfl ?_
  refine zm_sc K dX3_giveUpMove_34 zf_X3_163 (k := 18) (by decide) hR ?_
  refine zq_top (v := A.1 18) rfl ?_
  exact zq_iret K dX3_giveUpMove_37 rfl ⟨rfl, hR, hS⟩
/-- the last of the largest, the first of the least, of 0 .. k, as the reference goes -/
def zMx (g : Nat → Int32) : Nat → Nat
  | 0 => 0
  | k + 1 => if g (k + 1) ≤ g (zMx g k) then zMx g k else k + 1
def zMn (g : Nat → Int32) : Nat → Nat
  | 0 => 0
  | k + 1 => if g (zMn g k) ≤ g (k + 1) then zMn g k else k + 1
theorem zMx_le (g : Nat → Int32) : ∀ k, zMx g k ≤ k
  | 0 => Nat.le_refl _
  | k + 1 => by
    have := zMx_le g k
    unfold zMx
    split <;> omega
theorem zMn_le (g : Nat → Int32) : ∀ k, zMn g k ≤ k
  | 0 => Nat.le_refl _
  | k + 1 => by
    have := zMn_le g k
    unfold zMn
    split <;> omega
def zlo (A : ZA) (D : Nat) : Nat → Int32 := fun s => zlS A (nI s) (8 * D)
/-- whether the fragment k fits -/
abbrev zFt (A : ZA) (a m : Int32) (k : Nat) : Prop := ¬ A.2 10 k ≤ 0 ∧ zsv A k = a ∧ ¬ A.2 12 k < 1 ∧ ¬ m / nI 2 < A.2 12 k
/-- the best of the first k -/
def zBst (A : ZA) (a m : Int32) : Nat → Option Nat
  | 0 => none
  | k + 1 => if zFt A a m k then (match zBst A a m k with
      | none => some k
      | some j => if A.2 12 k ≤ A.2 12 j then some j else some k) else zBst A a m k
theorem zBst_lt {A : ZA} {a m : Int32} : ∀ {k j : Nat}, zBst A a m k = some j → j < k
  | 0, j, h => nomatch h
  | k + 1, j, h => by
    unfold zBst at h
    split at h
    · split at h
      · cases h
        omega
      · rename_i j' e
        have h9 := zBst_lt e
        split at h <;> cases h <;> omega
    · have := zBst_lt h
      omega
def zo1 : Option Nat → Int32
  | none => -1
  | some j => nI j
/-- the loads halved -/
def zHl (A : ZA) : Nat → ZA
  | 0 => A
  | k + 1 => zsa (zHl A k) 12 k ((zHl A k).2 12 k / nI 2)
theorem zHl_1 (A : ZA) : ∀ k, (zHl A k).1 = A.1
  | 0 => rfl
  | k + 1 => zHl_1 A k
theorem ct_X3_balance_bad {G : ZG} {M : ZM} {x : Nat} {q : Nat → Nat} {w : Int32} {A : ZA} (hR : zR M x q w A) (hm : ¬ A.1 16 = -1) : zMet G mX3_balance [.ref (x)] M (zRP x q M (some (.int (nI 0))) (nI 1) A) := by
  refine zbody zyX3_balance [some (.ref (x)), none, none, none, none, none, none] rfl (Nat.le_of_ble_eq_true rfl) (by intro v hv; simp only [List.mem_cons, List.not_mem_nil, or_false] at hv; rcases hv with rfl <;> rfl) (fun E K => ?_)
  have hS : zSm x q M M := zSm.rf
  refine zq_aload_n K dX3_balance_0 rfl rfl ?_
  refine zq_aload_n K dX3_balance_1 rfl rfl ?_
  refine zm_sc K dX3_balance_2 zf_X3_48 (k := 16) (by decide) hR ?_
  refine zq_iconst K dX3_balance_5 (v := -1) (by decide) ?_
  refine zq_icmp_ne K 13 dX3_balance_6 (by decide) (fun h6 => ?_) (fun h6 => absurd h6 hm)
  refine zq_iconst K dX3_balance_13 (v := nI 1) (by decide) ?_
  refine zm_pth K dX3_balance_14 zf_X3_55 hR hS (fun M hR hS => ?_)
  refine zq_aload_n K dX3_balance_17 rfl rfl ?_
  refine zm_th K dX3_balance_18 zf_X3_55 hR ?_
  refine zq_if_leN K (x := 1) 26 dX3_balance_21 (by decide) (by omega) (fun h21 => by omega) (fun h21 => ?_)
  refine zq_iconst K dX3_balance_24 (v := nI 0) (by decide) ?_
  exact zq_iret K dX3_balance_25 rfl ⟨rfl, hR, hS⟩
theorem lp_X3_bal1 {G : ZG} {E : ZE} (K : zOK mX3_balance [] G E) {M : ZM} {x : Nat} {q : Nat → Nat} {A : ZA} (hR : zR M x q (nI 0) A) (hW : zWf A) (hz : zDz A) {D : Nat} (hD : A.1 2 = nI D) (hD12 : D ≤ 12) {Q : State → Prop} (kk : WW E G (zyu mX3_balance) Q M 0 81 [some (.ref x), some (.int (nI (zMx (zlo A D) 3))), some (.int (nI (zMn (zlo A D) 3))), some (.int (nI 4)), none, none, none] []) : ∀ (n k : Nat), k + n = 3 → WW E G (zyu mX3_balance) Q M 0 32 [some (.ref x), some (.int (nI (zMx (zlo A D) k))), some (.int (nI (zMn (zlo A D) k))), some (.int (nI (k + 1))), none, none, none] [] := by
  intro n
  induction n with
  | zero =>
    intro k hk
    have hk4 : k = 3 := by omega
    subst hk4
    refine zq_iload_n K dX3_balance_32 rfl rfl ?_
    refine zq_iconst K dX3_balance_33 (v := nI 4) (by decide) ?_
    refine zq_icmp_geN K (x := 3 + 1) (y := 4) 81 dX3_balance_34 (by decide) ⟨by omega, by omega⟩ (fun h34 => ?_) (fun h34 => by omega)
    exact kk
  | succ n ih =>
    intro k hk
    have ha := zMx_le (zlo A D) k
    have hb := zMn_le (zlo A D) k
    refine zq_iload_n K dX3_balance_32 rfl rfl ?_
    refine zq_iconst K dX3_balance_33 (v := nI 4) (by decide) ?_
    refine zq_icmp_geN K (x := k + 1) (y := 4) 81 dX3_balance_34 (by decide) ⟨by omega, by omega⟩ (fun h34 => by omega) (fun h34 => ?_)
    refine zq_aload_n K dX3_balance_37 rfl rfl ?_
    refine zq_iload_n K dX3_balance_38 rfl rfl ?_
    refine zq_callV (As := [.int (nI (k + 1))]) K dX3_balance_39 zyX3_loadOf zm_X3_157 ziX3_loadOf zvX3_loadOf zclX3 rfl (by decide) rfl rfl (Nat.le_of_ble_eq_true rfl) (Nat.le_of_ble_eq_true rfl) hR.1 (ct_X3_loadOf hR hW hz hD hD12 (nI (k + 1))) (zone_r ?_) zone_x (Nat.le_refl _)
    refine zq_aload_n K dX3_balance_42 rfl rfl ?_
    refine zq_iload_n K dX3_balance_43 rfl rfl ?_
    refine zq_callV (As := [.int (nI (zMx (zlo A D) k))]) K dX3_balance_44 zyX3_loadOf zm_X3_157 ziX3_loadOf zvX3_loadOf zclX3 rfl (by decide) rfl rfl (Nat.le_of_ble_eq_true rfl) (Nat.le_of_ble_eq_true rfl) hR.1 (ct_X3_loadOf hR hW hz hD hD12 (nI (zMx (zlo A D) k))) (zone_r ?_) zone_x (Nat.le_refl _)
    refine zq_icmp_le K 54 dX3_balance_47 (by decide) (fun h47 => ?_) (fun h47 => ?_)
    · refine zq_iload_n K dX3_balance_54 rfl rfl ?_
      refine zq_top (v := nI (zMx (zlo A D) (k + 1))) (congrArg nI (show _ = zMx (zlo A D) (k + 1) by rw [zMx]; exact (if_pos h47).symm)) ?_
      refine zq_istore_n K dX3_balance_55 rfl (by decide) ?_
      refine zq_aload_n K dX3_balance_56 rfl rfl ?_
      refine zq_iload_n K dX3_balance_57 rfl rfl ?_
      refine zq_callV (As := [.int (nI (k + 1))]) K dX3_balance_58 zyX3_loadOf zm_X3_157 ziX3_loadOf zvX3_loadOf zclX3 rfl (by decide) rfl rfl (Nat.le_of_ble_eq_true rfl) (Nat.le_of_ble_eq_true rfl) hR.1 (ct_X3_loadOf hR hW hz hD hD12 (nI (k + 1))) (zone_r ?_) zone_x (Nat.le_refl _)
      refine zq_aload_n K dX3_balance_61 rfl rfl ?_
      refine zq_iload_n K dX3_balance_62 rfl rfl ?_
      refine zq_callV (As := [.int (nI (zMn (zlo A D) k))]) K dX3_balance_63 zyX3_loadOf zm_X3_157 ziX3_loadOf zvX3_loadOf zclX3 rfl (by decide) rfl rfl (Nat.le_of_ble_eq_true rfl) (Nat.le_of_ble_eq_true rfl) hR.1 (ct_X3_loadOf hR hW hz hD hD12 (nI (zMn (zlo A D) k))) (zone_r ?_) zone_x (Nat.le_refl _)
      refine zq_icmp_ge K 73 dX3_balance_66 (by decide) (fun h66 => ?_) (fun h66 => ?_)
      · refine zq_iload_n K dX3_balance_73 rfl rfl ?_
        refine zq_top (v := nI (zMn (zlo A D) (k + 1))) (congrArg nI (show _ = zMn (zlo A D) (k + 1) by rw [zMn]; exact (if_pos h66).symm)) ?_
        refine zq_istore_n K dX3_balance_74 rfl (by decide) ?_
        refine zq_iincN K dX3_balance_75 rfl (by decide) ?_
        refine zq_goto K 32 dX3_balance_78 (by decide) ?_
        exact ih (k + 1) (by omega)
      · refine zq_iload_n K dX3_balance_69 rfl rfl ?_
        refine zq_goto K 74 dX3_balance_70 (by decide) ?_
        refine zq_top (v := nI (zMn (zlo A D) (k + 1))) (congrArg nI (show _ = zMn (zlo A D) (k + 1) by rw [zMn]; exact (if_neg h66).symm)) ?_
        refine zq_istore_n K dX3_balance_74 rfl (by decide) ?_
        refine zq_iincN K dX3_balance_75 rfl (by decide) ?_
        refine zq_goto K 32 dX3_balance_78 (by decide) ?_
        exact ih (k + 1) (by omega)
    · refine zq_iload_n K dX3_balance_50 rfl rfl ?_
      refine zq_goto K 55 dX3_balance_51 (by decide) ?_
      refine zq_top (v := nI (zMx (zlo A D) (k + 1))) (congrArg nI (show _ = zMx (zlo A D) (k + 1) by rw [zMx]; exact (if_neg h47).symm)) ?_
      refine zq_istore_n K dX3_balance_55 rfl (by decide) ?_
      refine zq_aload_n K dX3_balance_56 rfl rfl ?_
      refine zq_iload_n K dX3_balance_57 rfl rfl ?_
      refine zq_callV (As := [.int (nI (k + 1))]) K dX3_balance_58 zyX3_loadOf zm_X3_157 ziX3_loadOf zvX3_loadOf zclX3 rfl (by decide) rfl rfl (Nat.le_of_ble_eq_true rfl) (Nat.le_of_ble_eq_true rfl) hR.1 (ct_X3_loadOf hR hW hz hD hD12 (nI (k + 1))) (zone_r ?_) zone_x (Nat.le_refl _)
      refine zq_aload_n K dX3_balance_61 rfl rfl ?_
      refine zq_iload_n K dX3_balance_62 rfl rfl ?_
      refine zq_callV (As := [.int (nI (zMn (zlo A D) k))]) K dX3_balance_63 zyX3_loadOf zm_X3_157 ziX3_loadOf zvX3_loadOf zclX3 rfl (by decide) rfl rfl (Nat.le_of_ble_eq_true rfl) (Nat.le_of_ble_eq_true rfl) hR.1 (ct_X3_loadOf hR hW hz hD hD12 (nI (zMn (zlo A D) k))) (zone_r ?_) zone_x (Nat.le_refl _)
      refine zq_icmp_ge K 73 dX3_balance_66 (by decide) (fun h66 => ?_) (fun h66 => ?_)
      · refine zq_iload_n K dX3_balance_73 rfl rfl ?_
        refine zq_top (v := nI (zMn (zlo A D) (k + 1))) (congrArg nI (show _ = zMn (zlo A D) (k + 1) by rw [zMn]; exact (if_pos h66).symm)) ?_
        refine zq_istore_n K dX3_balance_74 rfl (by decide) ?_
        refine zq_iincN K dX3_balance_75 rfl (by decide) ?_
        refine zq_goto K 32 dX3_balance_78 (by decide) ?_
        exact ih (k + 1) (by omega)
      · refine zq_iload_n K dX3_balance_69 rfl rfl ?_
        refine zq_goto K 74 dX3_balance_70 (by decide) ?_
        refine zq_top (v := nI (zMn (zlo A D) (k + 1))) (congrArg nI (show _ = zMn (zlo A D) (k + 1) by rw [zMn]; exact (if_neg h66).symm)) ?_
        refine zq_istore_n K dX3_balance_74 rfl (by decide) ?_
        refine zq_iincN K dX3_balance_75 rfl (by decide) ?_
        refine zq_goto K 32 dX3_balance_78 (by decide) ?_
        exact ih (k + 1) (by omega)
theorem lp_X3_bal2 {G : ZG} {E : ZE} (K : zOK mX3_balance [] G E) {M : ZM} {x : Nat} {q : Nat → Nat} {A : ZA} (hR : zR M x q (nI 0) A) (hW : zWf A) (hz : zDz A) {D : Nat} (hD : A.1 2 = nI D) (hD12 : D ≤ 12) {a b m : Int32} (hm : ¬ m < nI 4) {Q : State → Prop} (kk : ∀ o, WW E G (zyu mX3_balance) Q M 0 210 [some (.ref x), some (.int a), some (.int b), some (.int m), some (.int (zo1 (zBst A a m (8 * D)))), some (.int (nI ((8 * D)))), o] []) : ∀ (n k : Nat) (o : Option Value), k + n = 8 * D → WW E G (zyu mX3_balance) Q M 0 99 [some (.ref x), some (.int a), some (.int b), some (.int m), some (.int (zo1 (zBst A a m k))), some (.int (nI (k))), o] [] := by
  obtain ⟨hB, hF, hU⟩ := id hW
  intro n
  induction n with
  | zero =>
    intro k o hk
    have hk4 : k = 8 * D := by omega
    subst hk4
    refine zq_iload K dX3_balance_99 rfl ?_
    refine zq_bipush K dX3_balance_101 (v := nI 8) (by decide) ?_
    refine zq_aload_n K dX3_balance_103 rfl rfl ?_
    refine zm_sc K dX3_balance_104 zf_X3_7 (k := 2) (by decide) hR ?_
    refine zq_top (v := nI (D)) hD ?_
    refine zq_imulN K (x := 8) (y := D) dX3_balance_107 ?_
    refine zq_icmp_geN K (x := 8 * D) (y := (8) * (D)) 210 dX3_balance_108 (by decide) ⟨by omega, by omega⟩ (fun h108 => ?_) (fun h108 => by omega)
    exact kk o
  | succ n ih =>
    intro k o hk
    have h99 : ∀ o (z : Int32), zo1 (zBst A a m (k + 1)) = z → WW E G (zyu mX3_balance) Q M 0 99 [some (.ref x), some (.int a), some (.int b), some (.int m), some (.int z), some (.int (nI (k + 1))), o] [] := by
      intro o z e
      subst e
      exact ih (k + 1) o (by omega)
    rcases e9 : zBst A a m k with _ | j
    · refine zq_iload K dX3_balance_99 rfl ?_
      refine zq_bipush K dX3_balance_101 (v := nI 8) (by decide) ?_
      refine zq_aload_n K dX3_balance_103 rfl rfl ?_
      refine zm_sc K dX3_balance_104 zf_X3_7 (k := 2) (by decide) hR ?_
      refine zq_top (v := nI (D)) hD ?_
      refine zq_imulN K (x := 8) (y := D) dX3_balance_107 ?_
      refine zq_icmp_geN K (x := k) (y := (8) * (D)) 210 dX3_balance_108 (by decide) ⟨by omega, by omega⟩ (fun h108 => by omega) (fun h108 => ?_)
      refine zq_iload_n K dX3_balance_111 rfl rfl ?_
      refine zq_iconst K dX3_balance_112 (v := nI 4) (by decide) ?_
      refine zq_icmp_lt K 210 dX3_balance_113 (by decide) (fun h113 => absurd h113 hm) (fun h113 => ?_)
      refine zq_aload_n K dX3_balance_116 rfl rfl ?_
      refine zm_ar K dX3_balance_117 zf_X3_30 (k := 10) (by decide) hR ?_
      refine zq_iload K dX3_balance_120 rfl ?_
      refine zm_ld K (k) dX3_balance_122 (k := 10) (by decide) hR rfl (show k < 96 by omega) ?_
      refine zq_if_le K 164 dX3_balance_123 (by decide) (fun h123 => ?_) (fun h123 => ?_)
      · refine zq_iconst K dX3_balance_164 (v := nI 0) (by decide) ?_
        refine zq_istore K dX3_balance_165 (by decide) ?_
        refine zq_iload K dX3_balance_167 rfl ?_
        refine zq_if_eqN K (x := 0) 200 dX3_balance_169 (by decide) (by omega) (fun h169 => ?_) (fun h169 => by omega)
        refine zq_iload K dX3_balance_200 rfl ?_
        refine zq_istore K dX3_balance_202 (by decide) ?_
        refine zq_iincN K dX3_balance_204 rfl (by decide) ?_
        refine zq_goto K 99 dX3_balance_207 (by decide) ?_
        exact h99 _ _ (by rw [zBst, if_neg (fun z => z.1 h123), e9])
      · refine zq_aload_n K dX3_balance_126 rfl rfl ?_
        refine zq_iload K dX3_balance_127 rfl ?_
        refine zq_callV (As := [.int (nI (k))]) K dX3_balance_129 zyX3_server zm_X3_154 ziX3_server zvX3_server zclX3 rfl (by decide) rfl rfl (Nat.le_of_ble_eq_true rfl) (Nat.le_of_ble_eq_true rfl) hR.1 (ct_X3_server hR hF (hU (k / 8) (by omega) (hz k (by omega) (zle0 h123))) (by omega) (zle0 h123)) (zone_r ?_) zone_x (Nat.le_refl _)
        refine zq_iload_n K dX3_balance_132 rfl rfl ?_
        refine zq_icmp_ne K 164 dX3_balance_133 (by decide) (fun h133 => ?_) (fun h133 => ?_)
        · refine zq_iconst K dX3_balance_164 (v := nI 0) (by decide) ?_
          refine zq_istore K dX3_balance_165 (by decide) ?_
          refine zq_iload K dX3_balance_167 rfl ?_
          refine zq_if_eqN K (x := 0) 200 dX3_balance_169 (by decide) (by omega) (fun h169 => ?_) (fun h169 => by omega)
          refine zq_iload K dX3_balance_200 rfl ?_
          refine zq_istore K dX3_balance_202 (by decide) ?_
          refine zq_iincN K dX3_balance_204 rfl (by decide) ?_
          refine zq_goto K 99 dX3_balance_207 (by decide) ?_
          exact h99 _ _ (by rw [zBst, if_neg (fun z => h133 z.2.1), e9])
        · refine zq_aload_n K dX3_balance_136 rfl rfl ?_
          refine zm_ar K dX3_balance_137 zf_X3_36 (k := 12) (by decide) hR ?_
          refine zq_iload K dX3_balance_140 rfl ?_
          refine zm_ld K (k) dX3_balance_142 (k := 12) (by decide) hR rfl (show k < 96 by omega) ?_
          refine zq_iconst K dX3_balance_143 (v := nI 1) (by decide) ?_
          refine zq_icmp_lt K 164 dX3_balance_144 (by decide) (fun h144 => ?_) (fun h144 => ?_)
          · refine zq_iconst K dX3_balance_164 (v := nI 0) (by decide) ?_
            refine zq_istore K dX3_balance_165 (by decide) ?_
            refine zq_iload K dX3_balance_167 rfl ?_
            refine zq_if_eqN K (x := 0) 200 dX3_balance_169 (by decide) (by omega) (fun h169 => ?_) (fun h169 => by omega)
            refine zq_iload K dX3_balance_200 rfl ?_
            refine zq_istore K dX3_balance_202 (by decide) ?_
            refine zq_iincN K dX3_balance_204 rfl (by decide) ?_
            refine zq_goto K 99 dX3_balance_207 (by decide) ?_
            exact h99 _ _ (by rw [zBst, if_neg (fun z => z.2.2.1 h144), e9])
          · refine zq_aload_n K dX3_balance_147 rfl rfl ?_
            refine zm_ar K dX3_balance_148 zf_X3_36 (k := 12) (by decide) hR ?_
            refine zq_iload K dX3_balance_151 rfl ?_
            refine zm_ld K (k) dX3_balance_153 (k := 12) (by decide) hR rfl (show k < 96 by omega) ?_
            refine zq_iload_n K dX3_balance_154 rfl rfl ?_
            refine zq_iconst K dX3_balance_155 (v := nI 2) (by decide) ?_
            refine zq_idiv K dX3_balance_156 (nI_ne0 (by decide) (by decide)) ?_
            refine zq_icmp_gt K 164 dX3_balance_157 (by decide) (fun h157 => ?_) (fun h157 => ?_)
            · refine zq_iconst K dX3_balance_164 (v := nI 0) (by decide) ?_
              refine zq_istore K dX3_balance_165 (by decide) ?_
              refine zq_iload K dX3_balance_167 rfl ?_
              refine zq_if_eqN K (x := 0) 200 dX3_balance_169 (by decide) (by omega) (fun h169 => ?_) (fun h169 => by omega)
              refine zq_iload K dX3_balance_200 rfl ?_
              refine zq_istore K dX3_balance_202 (by decide) ?_
              refine zq_iincN K dX3_balance_204 rfl (by decide) ?_
              refine zq_goto K 99 dX3_balance_207 (by decide) ?_
              exact h99 _ _ (by rw [zBst, if_neg (fun z => z.2.2.2 h157), e9])
            · refine zq_iconst K dX3_balance_160 (v := nI 1) (by decide) ?_
              refine zq_goto K 165 dX3_balance_161 (by decide) ?_
              refine zq_istore K dX3_balance_165 (by decide) ?_
              refine zq_iload K dX3_balance_167 rfl ?_
              refine zq_if_eqN K (x := 1) 200 dX3_balance_169 (by decide) (by omega) (fun h169 => by omega) (fun h169 => ?_)
              refine zq_iload K dX3_balance_172 rfl ?_
              refine zq_iconst K dX3_balance_174 (v := -1) (by decide) ?_
              refine zq_icmp_eq K 195 dX3_balance_175 (by decide) (fun h175 => ?_) (fun h175 => absurd rfl h175)
              refine zq_iload K dX3_balance_195 rfl ?_
              refine zq_goto K 202 dX3_balance_197 (by decide) ?_
              refine zq_istore K dX3_balance_202 (by decide) ?_
              refine zq_iincN K dX3_balance_204 rfl (by decide) ?_
              refine zq_goto K 99 dX3_balance_207 (by decide) ?_
              exact h99 _ _ (by rw [zBst, if_pos ⟨h123, h133, h144, h157⟩, e9]; rfl)
    · refine zq_iload K dX3_balance_99 rfl ?_
      refine zq_bipush K dX3_balance_101 (v := nI 8) (by decide) ?_
      refine zq_aload_n K dX3_balance_103 rfl rfl ?_
      refine zm_sc K dX3_balance_104 zf_X3_7 (k := 2) (by decide) hR ?_
      refine zq_top (v := nI (D)) hD ?_
      refine zq_imulN K (x := 8) (y := D) dX3_balance_107 ?_
      refine zq_icmp_geN K (x := k) (y := (8) * (D)) 210 dX3_balance_108 (by decide) ⟨by omega, by omega⟩ (fun h108 => by omega) (fun h108 => ?_)
      refine zq_iload_n K dX3_balance_111 rfl rfl ?_
      refine zq_iconst K dX3_balance_112 (v := nI 4) (by decide) ?_
      refine zq_icmp_lt K 210 dX3_balance_113 (by decide) (fun h113 => absurd h113 hm) (fun h113 => ?_)
      refine zq_aload_n K dX3_balance_116 rfl rfl ?_
      refine zm_ar K dX3_balance_117 zf_X3_30 (k := 10) (by decide) hR ?_
      refine zq_iload K dX3_balance_120 rfl ?_
      refine zm_ld K (k) dX3_balance_122 (k := 10) (by decide) hR rfl (show k < 96 by omega) ?_
      refine zq_if_le K 164 dX3_balance_123 (by decide) (fun h123 => ?_) (fun h123 => ?_)
      · refine zq_iconst K dX3_balance_164 (v := nI 0) (by decide) ?_
        refine zq_istore K dX3_balance_165 (by decide) ?_
        refine zq_iload K dX3_balance_167 rfl ?_
        refine zq_if_eqN K (x := 0) 200 dX3_balance_169 (by decide) (by omega) (fun h169 => ?_) (fun h169 => by omega)
        refine zq_iload K dX3_balance_200 rfl ?_
        refine zq_istore K dX3_balance_202 (by decide) ?_
        refine zq_iincN K dX3_balance_204 rfl (by decide) ?_
        refine zq_goto K 99 dX3_balance_207 (by decide) ?_
        exact h99 _ _ (by rw [zBst, if_neg (fun z => z.1 h123), e9])
      · refine zq_aload_n K dX3_balance_126 rfl rfl ?_
        refine zq_iload K dX3_balance_127 rfl ?_
        refine zq_callV (As := [.int (nI (k))]) K dX3_balance_129 zyX3_server zm_X3_154 ziX3_server zvX3_server zclX3 rfl (by decide) rfl rfl (Nat.le_of_ble_eq_true rfl) (Nat.le_of_ble_eq_true rfl) hR.1 (ct_X3_server hR hF (hU (k / 8) (by omega) (hz k (by omega) (zle0 h123))) (by omega) (zle0 h123)) (zone_r ?_) zone_x (Nat.le_refl _)
        refine zq_iload_n K dX3_balance_132 rfl rfl ?_
        refine zq_icmp_ne K 164 dX3_balance_133 (by decide) (fun h133 => ?_) (fun h133 => ?_)
        · refine zq_iconst K dX3_balance_164 (v := nI 0) (by decide) ?_
          refine zq_istore K dX3_balance_165 (by decide) ?_
          refine zq_iload K dX3_balance_167 rfl ?_
          refine zq_if_eqN K (x := 0) 200 dX3_balance_169 (by decide) (by omega) (fun h169 => ?_) (fun h169 => by omega)
          refine zq_iload K dX3_balance_200 rfl ?_
          refine zq_istore K dX3_balance_202 (by decide) ?_
          refine zq_iincN K dX3_balance_204 rfl (by decide) ?_
          refine zq_goto K 99 dX3_balance_207 (by decide) ?_
          exact h99 _ _ (by rw [zBst, if_neg (fun z => h133 z.2.1), e9])
        · refine zq_aload_n K dX3_balance_136 rfl rfl ?_
          refine zm_ar K dX3_balance_137 zf_X3_36 (k := 12) (by decide) hR ?_
          refine zq_iload K dX3_balance_140 rfl ?_
          refine zm_ld K (k) dX3_balance_142 (k := 12) (by decide) hR rfl (show k < 96 by omega) ?_
          refine zq_iconst K dX3_balance_143 (v := nI 1) (by decide) ?_
          refine zq_icmp_lt K 164 dX3_balance_144 (by decide) (fun h144 => ?_) (fun h144 => ?_)
          · refine zq_iconst K dX3_balance_164 (v := nI 0) (by decide) ?_
            refine zq_istore K dX3_balance_165 (by decide) ?_
            refine zq_iload K dX3_balance_167 rfl ?_
            refine zq_if_eqN K (x := 0) 200 dX3_balance_169 (by decide) (by omega) (fun h169 => ?_) (fun h169 => by omega)
            refine zq_iload K dX3_balance_200 rfl ?_
            refine zq_istore K dX3_balance_202 (by decide) ?_
            refine zq_iincN K dX3_balance_204 rfl (by decide) ?_
            refine zq_goto K 99 dX3_balance_207 (by decide) ?_
            exact h99 _ _ (by rw [zBst, if_neg (fun z => z.2.2.1 h144), e9])
          · refine zq_aload_n K dX3_balance_147 rfl rfl ?_
            refine zm_ar K dX3_balance_148 zf_X3_36 (k := 12) (by decide) hR ?_
            refine zq_iload K dX3_balance_151 rfl ?_
            refine zm_ld K (k) dX3_balance_153 (k := 12) (by decide) hR rfl (show k < 96 by omega) ?_
            refine zq_iload_n K dX3_balance_154 rfl rfl ?_
            refine zq_iconst K dX3_balance_155 (v := nI 2) (by decide) ?_
            refine zq_idiv K dX3_balance_156 (nI_ne0 (by decide) (by decide)) ?_
            refine zq_icmp_gt K 164 dX3_balance_157 (by decide) (fun h157 => ?_) (fun h157 => ?_)
            · refine zq_iconst K dX3_balance_164 (v := nI 0) (by decide) ?_
              refine zq_istore K dX3_balance_165 (by decide) ?_
              refine zq_iload K dX3_balance_167 rfl ?_
              refine zq_if_eqN K (x := 0) 200 dX3_balance_169 (by decide) (by omega) (fun h169 => ?_) (fun h169 => by omega)
              refine zq_iload K dX3_balance_200 rfl ?_
              refine zq_istore K dX3_balance_202 (by decide) ?_
              refine zq_iincN K dX3_balance_204 rfl (by decide) ?_
              refine zq_goto K 99 dX3_balance_207 (by decide) ?_
              exact h99 _ _ (by rw [zBst, if_neg (fun z => z.2.2.2 h157), e9])
            · refine zq_iconst K dX3_balance_160 (v := nI 1) (by decide) ?_
              refine zq_goto K 165 dX3_balance_161 (by decide) ?_
              refine zq_istore K dX3_balance_165 (by decide) ?_
              refine zq_iload K dX3_balance_167 rfl ?_
              refine zq_if_eqN K (x := 1) 200 dX3_balance_169 (by decide) (by omega) (fun h169 => by omega) (fun h169 => ?_)
              refine zq_iload K dX3_balance_172 rfl ?_
              refine zq_iconst K dX3_balance_174 (v := -1) (by decide) ?_
              refine zq_icmp_eq K 195 dX3_balance_175 (by decide) (fun h175 => absurd h175 (nI_ne1 (by have := zBst_lt e9; omega))) (fun h175 => ?_)
              refine zq_aload_n K dX3_balance_178 rfl rfl ?_
              refine zm_ar K dX3_balance_179 zf_X3_36 (k := 12) (by decide) hR ?_
              refine zq_iload K dX3_balance_182 rfl ?_
              refine zm_ld K (k) dX3_balance_184 (k := 12) (by decide) hR rfl (show k < 96 by omega) ?_
              refine zq_aload_n K dX3_balance_185 rfl rfl ?_
              refine zm_ar K dX3_balance_186 zf_X3_36 (k := 12) (by decide) hR ?_
              refine zq_iload K dX3_balance_189 rfl ?_
              have hj9 := zBst_lt e9
              refine zm_ld K (j) dX3_balance_191 (k := 12) (by decide) hR rfl (show j < 96 by omega) ?_
              refine zq_icmp_le K 200 dX3_balance_192 (by decide) (fun h192 => ?_) (fun h192 => ?_)
              · refine zq_iload K dX3_balance_200 rfl ?_
                refine zq_istore K dX3_balance_202 (by decide) ?_
                refine zq_iincN K dX3_balance_204 rfl (by decide) ?_
                refine zq_goto K 99 dX3_balance_207 (by decide) ?_
                exact h99 _ _ (by rw [zBst, if_pos ⟨h123, h133, h144, h157⟩, e9]; dsimp only; rw [if_pos h192])
              · refine zq_iload K dX3_balance_195 rfl ?_
                refine zq_goto K 202 dX3_balance_197 (by decide) ?_
                refine zq_istore K dX3_balance_202 (by decide) ?_
                refine zq_iincN K dX3_balance_204 rfl (by decide) ?_
                refine zq_goto K 99 dX3_balance_207 (by decide) ?_
                exact h99 _ _ (by rw [zBst, if_pos ⟨h123, h133, h144, h157⟩, e9]; dsimp only; rw [if_neg h192]; rfl)
theorem lp_X3_bal3 {G : ZG} {E : ZE} (K : zOK mX3_balance [] G E) {M0 : ZM} {x : Nat} {q : Nat → Nat} {w : Int32} {A : ZA} {D : Nat} (hD : A.1 2 = nI D) (hD12 : D ≤ 12) {a b m z : Int32} {o : Option Value} {Q : State → Prop} (kk : ∀ M, zR M x q w (zHl A (8 * D)) → zSm x q M0 M → WW E G (zyu mX3_balance) Q M 0 255 [some (.ref x), some (.int a), some (.int b), some (.int m), some (.int z), some (.int (nI (8 * D))), o] []) : ∀ (n k : Nat), k + n = 8 * D → ∀ (M : ZM), zR M x q w (zHl A k) → zSm x q M0 M → WW E G (zyu mX3_balance) Q M 0 226 [some (.ref x), some (.int a), some (.int b), some (.int m), some (.int z), some (.int (nI (k))), o] [] := by
  intro n
  induction n with
  | zero =>
    intro k hk M hR hS
    have hk4 : k = 8 * D := by omega
    subst hk4
    refine zq_iload K dX3_balance_226 rfl ?_
    refine zq_bipush K dX3_balance_228 (v := nI 8) (by decide) ?_
    refine zq_aload_n K dX3_balance_230 rfl rfl ?_
    refine zm_sc K dX3_balance_231 zf_X3_7 (k := 2) (by decide) hR ?_
    refine zq_top (v := nI (D)) (by rw [zHl_1]; exact hD) ?_
    refine zq_imulN K (x := 8) (y := D) dX3_balance_234 ?_
    refine zq_icmp_geN K (x := 8 * D) (y := (8) * (D)) 255 dX3_balance_235 (by decide) ⟨by omega, by omega⟩ (fun h235 => ?_) (fun h235 => by omega)
    exact kk M hR hS
  | succ n ih =>
    intro k hk M hR hS
    refine zq_iload K dX3_balance_226 rfl ?_
    refine zq_bipush K dX3_balance_228 (v := nI 8) (by decide) ?_
    refine zq_aload_n K dX3_balance_230 rfl rfl ?_
    refine zm_sc K dX3_balance_231 zf_X3_7 (k := 2) (by decide) hR ?_
    refine zq_top (v := nI (D)) (by rw [zHl_1]; exact hD) ?_
    refine zq_imulN K (x := 8) (y := D) dX3_balance_234 ?_
    refine zq_icmp_geN K (x := k) (y := (8) * (D)) 255 dX3_balance_235 (by decide) ⟨by omega, by omega⟩ (fun h235 => by omega) (fun h235 => ?_)
    refine zq_aload_n K dX3_balance_238 rfl rfl ?_
    refine zm_ar K dX3_balance_239 zf_X3_36 (k := 12) (by decide) hR ?_
    refine zq_iload K dX3_balance_242 rfl ?_
    refine zq_dup2 K dX3_balance_244 rfl rfl ?_
    refine zm_ld K (k) dX3_balance_245 (k := 12) (by decide) hR rfl (show k < 96 by omega) ?_
    refine zq_iconst K dX3_balance_246 (v := nI 2) (by decide) ?_
    refine zq_idiv K dX3_balance_247 (nI_ne0 (by decide) (by decide)) ?_
    refine zm_st K (k) dX3_balance_248 (k := 12) (by decide) hR hS rfl (show k < 96 by omega) (fun M hR hS => ?_)
    refine zq_iincN K dX3_balance_249 rfl (by decide) ?_
    refine zq_goto K 226 dX3_balance_252 (by decide) ?_
    exact ih (k + 1) (by omega) M hR hS
/-- what balance chooses -/
def zba (A : ZA) (D : Nat) : Nat := zMx (zlo A D) 3
def zbb (A : ZA) (D : Nat) : Nat := zMn (zlo A D) 3
def zbm (A : ZA) (D : Nat) : Int32 := zlo A D (zba A D) - zlo A D (zbb A D)
def zbo (A : ZA) (D : Nat) : Option Nat := if zbm A D < nI 4 then none else zBst A (nI (zba A D)) (zbm A D) (8 * D)
theorem lp_X3_bal4 {G : ZG} {E : ZE} (K : zOK mX3_balance [] G E) {M0 M : ZM} {x : Nat} {q : Nat → Nat} {A : ZA} (hR : zR M x q (nI 0) A) (hS : zSm x q M0 M) {D : Nat} (hD : A.1 2 = nI D) (hD12 : D ≤ 12) {k5 : Nat} {o : Option Value} : WW E G (zyu mX3_balance) (zQ E G mX3_balance (zRP x q M0 (some (.int (-1))) (nI 0) (zHl A (8 * D)))) M 0 210 [some (.ref x), some (.int (nI (zba A D))), some (.int (nI (zbb A D))), some (.int (zbm A D)), some (.int (-1)), some (.int (nI k5)), o] [] := by
  refine zq_iload K dX3_balance_210 rfl ?_
  refine zq_iconst K dX3_balance_212 (v := -1) (by decide) ?_
  refine zq_icmp_eq K 223 dX3_balance_213 (by decide) (fun h213 => ?_) (fun h213 => absurd rfl h213)
  refine zq_iconst K dX3_balance_223 (v := nI 0) (by decide) ?_
  refine zq_istore K dX3_balance_224 (by decide) ?_
  refine lp_X3_bal3 K (M0 := M0) (x := x) (q := q) (w := nI 0) (A := A) hD hD12 (fun M hR hS => ?_) (8 * D) 0 (by omega) _ hR hS
  refine zq_iload K dX3_balance_255 rfl ?_
  refine zq_iconst K dX3_balance_257 (v := -1) (by decide) ?_
  refine zq_icmp_ne K 265 dX3_balance_258 (by decide) (fun h258 => absurd rfl h258) (fun h258 => ?_)
  refine zq_iconst K dX3_balance_261 (v := -1) (by decide) ?_
  refine zq_goto K 270 dX3_balance_262 (by decide) ?_
  exact zq_iret K dX3_balance_270 rfl ⟨rfl, hR, hS⟩
theorem lp_X3_bal5 {G : ZG} {E : ZE} (K : zOK mX3_balance [] G E) {M0 M : ZM} {x : Nat} {q : Nat → Nat} {A : ZA} (hR : zR M x q (nI 0) A) (hS : zSm x q M0 M) {D : Nat} (hD : A.1 2 = nI D) (hD12 : D ≤ 12) {k5 : Nat} {o : Option Value} {j : Nat} (hj : j < 96) : WW E G (zyu mX3_balance) (zQ E G mX3_balance (zRP x q M0 (some (.int (nI (j / 8)))) (nI 0) (zHl (zMo A (nI j) (nI (zbb A D))) (8 * D)))) M 0 210 [some (.ref x), some (.int (nI (zba A D))), some (.int (nI (zbb A D))), some (.int (zbm A D)), some (.int (nI j)), some (.int (nI k5)), o] [] := by
  refine zq_iload K dX3_balance_210 rfl ?_
  refine zq_iconst K dX3_balance_212 (v := -1) (by decide) ?_
  refine zq_icmp_eq K 223 dX3_balance_213 (by decide) (fun h213 => absurd h213 (nI_ne1 (by omega))) (fun h213 => ?_)
  refine zq_aload_n K dX3_balance_216 rfl rfl ?_
  refine zq_iload K dX3_balance_217 rfl ?_
  refine zq_iload_n K dX3_balance_219 rfl rfl ?_
  refine zq_callV (As := [.int (nI (j)), .int (nI (zbb A D))]) K dX3_balance_220 zyX3_moves zm_X3_166 ziX3_moves zvX3_moves zclX3 rfl (by decide) rfl rfl (Nat.le_of_ble_eq_true rfl) (Nat.le_of_ble_eq_true rfl) hR.1 (ct_X3_moves hR (nI j) (nI (zbb A D))) (zRP_r hS (fun M hR hS => ?_)) zRP_x (Nat.le_refl _)
  refine zq_iconst K dX3_balance_223 (v := nI 0) (by decide) ?_
  refine zq_istore K dX3_balance_224 (by decide) ?_
  refine lp_X3_bal3 K (M0 := M0) (x := x) (q := q) (w := nI 0) (A := zMo A (nI j) (nI (zbb A D))) hD hD12 (fun M hR hS => ?_) (8 * D) 0 (by omega) _ hR hS
  refine zq_iload K dX3_balance_255 rfl ?_
  refine zq_iconst K dX3_balance_257 (v := -1) (by decide) ?_
  refine zq_icmp_ne K 265 dX3_balance_258 (by decide) (fun h258 => ?_) (fun h258 => absurd h258 (nI_ne1 (by omega)))
  refine zq_iload K dX3_balance_265 rfl ?_
  refine zq_bipush K dX3_balance_267 (v := nI 8) (by decide) ?_
  refine zq_idivN K (x := j) (y := 8) dX3_balance_269 (by omega) ?_
  exact zq_iret K dX3_balance_270 rfl ⟨rfl, hR, hS⟩
theorem ct_X3_balance_none {G : ZG} {M : ZM} {x : Nat} {q : Nat → Nat} {w : Int32} {A : ZA} (hR : zR M x q w A) (hW : zWf A) (hz : zDz A) {D : Nat} (hD : A.1 2 = nI D) (hD12 : D ≤ 12) (hm : A.1 16 = -1) (ho : zbo A D = none) : zMet G mX3_balance [.ref (x)] M (zRP x q M (some (.int (-1))) (nI 0) (zHl A (8 * D))) := by
  refine zbody zyX3_balance [some (.ref (x)), none, none, none, none, none, none] rfl (Nat.le_of_ble_eq_true rfl) (by intro v hv; simp only [List.mem_cons, List.not_mem_nil, or_false] at hv; rcases hv with rfl <;> rfl) (fun E K => ?_)
  have hS : zSm x q M M := zSm.rf
  refine zq_aload_n K dX3_balance_0 rfl rfl ?_
  refine zq_aload_n K dX3_balance_1 rfl rfl ?_
  refine zm_sc K dX3_balance_2 zf_X3_48 (k := 16) (by decide) hR ?_
  refine zq_iconst K dX3_balance_5 (v := -1) (by decide) ?_
  refine zq_icmp_ne K 13 dX3_balance_6 (by decide) (fun h6 => absurd hm h6) (fun h6 => ?_)
  refine zq_iconst K dX3_balance_9 (v := nI 0) (by decide) ?_
  refine zq_goto K 14 dX3_balance_10 (by decide) ?_
  refine zm_pth K dX3_balance_14 zf_X3_55 hR hS (fun M hR hS => ?_)
  refine zq_aload_n K dX3_balance_17 rfl rfl ?_
  refine zm_th K dX3_balance_18 zf_X3_55 hR ?_
  refine zq_if_leN K (x := 0) 26 dX3_balance_21 (by decide) (by omega) (fun h21 => ?_) (fun h21 => by omega)
  refine zq_iconst K dX3_balance_26 (v := nI 0) (by decide) ?_
  refine zq_istore_n K dX3_balance_27 rfl (by decide) ?_
  refine zq_iconst K dX3_balance_28 (v := nI 0) (by decide) ?_
  refine zq_istore_n K dX3_balance_29 rfl (by decide) ?_
  refine zq_iconst K dX3_balance_30 (v := nI 1) (by decide) ?_
  refine zq_istore_n K dX3_balance_31 rfl (by decide) ?_
  refine lp_X3_bal1 K hR hW hz hD hD12 ?_ 3 0 rfl
  refine zq_aload_n K dX3_balance_81 rfl rfl ?_
  refine zq_iload_n K dX3_balance_82 rfl rfl ?_
  refine zq_callV (As := [.int (nI (zba A D))]) K dX3_balance_83 zyX3_loadOf zm_X3_157 ziX3_loadOf zvX3_loadOf zclX3 rfl (by decide) rfl rfl (Nat.le_of_ble_eq_true rfl) (Nat.le_of_ble_eq_true rfl) hR.1 (ct_X3_loadOf hR hW hz hD hD12 (nI (zba A D))) (zone_r ?_) zone_x (Nat.le_refl _)
  refine zq_aload_n K dX3_balance_86 rfl rfl ?_
  refine zq_iload_n K dX3_balance_87 rfl rfl ?_
  refine zq_callV (As := [.int (nI (zbb A D))]) K dX3_balance_88 zyX3_loadOf zm_X3_157 ziX3_loadOf zvX3_loadOf zclX3 rfl (by decide) rfl rfl (Nat.le_of_ble_eq_true rfl) (Nat.le_of_ble_eq_true rfl) hR.1 (ct_X3_loadOf hR hW hz hD hD12 (nI (zbb A D))) (zone_r ?_) zone_x (Nat.le_refl _)
  refine zq_isub K dX3_balance_91 ?_
  refine zq_top (v := zbm A D) rfl ?_
  refine zq_istore_n K dX3_balance_92 rfl (by decide) ?_
  refine zq_iconst K dX3_balance_93 (v := -1) (by decide) ?_
  refine zq_istore K dX3_balance_94 (by decide) ?_
  refine zq_iconst K dX3_balance_96 (v := nI 0) (by decide) ?_
  refine zq_istore K dX3_balance_97 (by decide) ?_
  by_cases hm4 : zbm A D < nI 4
  · refine zq_iload K dX3_balance_99 rfl ?_
    refine zq_bipush K dX3_balance_101 (v := nI 8) (by decide) ?_
    refine zq_aload_n K dX3_balance_103 rfl rfl ?_
    refine zm_sc K dX3_balance_104 zf_X3_7 (k := 2) (by decide) hR ?_
    refine zq_top (v := nI (D)) hD ?_
    refine zq_imulN K (x := 8) (y := D) dX3_balance_107 ?_
    refine zq_icmp_geN K (x := 0) (y := (8) * (D)) 210 dX3_balance_108 (by decide) ⟨by omega, by omega⟩ (fun h108 => ?_) (fun h108 => ?_)
    · exact lp_X3_bal4 K hR hS hD hD12
    · refine zq_iload_n K dX3_balance_111 rfl rfl ?_
      refine zq_iconst K dX3_balance_112 (v := nI 4) (by decide) ?_
      refine zq_icmp_lt K 210 dX3_balance_113 (by decide) (fun h113 => ?_) (fun h113 => absurd hm4 h113)
      exact lp_X3_bal4 K hR hS hD hD12
  · rw [zbo, if_neg hm4] at ho
    refine lp_X3_bal2 (a := nI (zba A D)) (b := nI (zbb A D)) K hR hW hz hD hD12 hm4 (fun o => ?_) (8 * D) 0 none (by omega)
    rw [ho]
    exact lp_X3_bal4 K hR hS hD hD12
theorem ct_X3_balance_some {G : ZG} {M : ZM} {x : Nat} {q : Nat → Nat} {w : Int32} {A : ZA} (hR : zR M x q w A) (hW : zWf A) (hz : zDz A) {D : Nat} (hD : A.1 2 = nI D) (hD12 : D ≤ 12) (hm : A.1 16 = -1) {j : Nat} (ho : zbo A D = some j) : zMet G mX3_balance [.ref (x)] M (zRP x q M (some (.int (nI (j / 8)))) (nI 0) (zHl (zMo A (nI j) (nI (zbb A D))) (8 * D))) := by
  refine zbody zyX3_balance [some (.ref (x)), none, none, none, none, none, none] rfl (Nat.le_of_ble_eq_true rfl) (by intro v hv; simp only [List.mem_cons, List.not_mem_nil, or_false] at hv; rcases hv with rfl <;> rfl) (fun E K => ?_)
  have hS : zSm x q M M := zSm.rf
  refine zq_aload_n K dX3_balance_0 rfl rfl ?_
  refine zq_aload_n K dX3_balance_1 rfl rfl ?_
  refine zm_sc K dX3_balance_2 zf_X3_48 (k := 16) (by decide) hR ?_
  refine zq_iconst K dX3_balance_5 (v := -1) (by decide) ?_
  refine zq_icmp_ne K 13 dX3_balance_6 (by decide) (fun h6 => absurd hm h6) (fun h6 => ?_)
  refine zq_iconst K dX3_balance_9 (v := nI 0) (by decide) ?_
  refine zq_goto K 14 dX3_balance_10 (by decide) ?_
  refine zm_pth K dX3_balance_14 zf_X3_55 hR hS (fun M hR hS => ?_)
  refine zq_aload_n K dX3_balance_17 rfl rfl ?_
  refine zm_th K dX3_balance_18 zf_X3_55 hR ?_
  refine zq_if_leN K (x := 0) 26 dX3_balance_21 (by decide) (by omega) (fun h21 => ?_) (fun h21 => by omega)
  refine zq_iconst K dX3_balance_26 (v := nI 0) (by decide) ?_
  refine zq_istore_n K dX3_balance_27 rfl (by decide) ?_
  refine zq_iconst K dX3_balance_28 (v := nI 0) (by decide) ?_
  refine zq_istore_n K dX3_balance_29 rfl (by decide) ?_
  refine zq_iconst K dX3_balance_30 (v := nI 1) (by decide) ?_
  refine zq_istore_n K dX3_balance_31 rfl (by decide) ?_
  refine lp_X3_bal1 K hR hW hz hD hD12 ?_ 3 0 rfl
  refine zq_aload_n K dX3_balance_81 rfl rfl ?_
  refine zq_iload_n K dX3_balance_82 rfl rfl ?_
  refine zq_callV (As := [.int (nI (zba A D))]) K dX3_balance_83 zyX3_loadOf zm_X3_157 ziX3_loadOf zvX3_loadOf zclX3 rfl (by decide) rfl rfl (Nat.le_of_ble_eq_true rfl) (Nat.le_of_ble_eq_true rfl) hR.1 (ct_X3_loadOf hR hW hz hD hD12 (nI (zba A D))) (zone_r ?_) zone_x (Nat.le_refl _)
  refine zq_aload_n K dX3_balance_86 rfl rfl ?_
  refine zq_iload_n K dX3_balance_87 rfl rfl ?_
  refine zq_callV (As := [.int (nI (zbb A D))]) K dX3_balance_88 zyX3_loadOf zm_X3_157 ziX3_loadOf zvX3_loadOf zclX3 rfl (by decide) rfl rfl (Nat.le_of_ble_eq_true rfl) (Nat.le_of_ble_eq_true rfl) hR.1 (ct_X3_loadOf hR hW hz hD hD12 (nI (zbb A D))) (zone_r ?_) zone_x (Nat.le_refl _)
  refine zq_isub K dX3_balance_91 ?_
  refine zq_top (v := zbm A D) rfl ?_
  refine zq_istore_n K dX3_balance_92 rfl (by decide) ?_
  refine zq_iconst K dX3_balance_93 (v := -1) (by decide) ?_
  refine zq_istore K dX3_balance_94 (by decide) ?_
  refine zq_iconst K dX3_balance_96 (v := nI 0) (by decide) ?_
  refine zq_istore K dX3_balance_97 (by decide) ?_
  by_cases hm4 : zbm A D < nI 4
  · rw [zbo, if_pos hm4] at ho
    exact nomatch ho
  · rw [zbo, if_neg hm4] at ho
    refine lp_X3_bal2 (a := nI (zba A D)) (b := nI (zbb A D)) K hR hW hz hD hD12 hm4 (fun o => ?_) (8 * D) 0 none (by omega)
    have hj := zBst_lt ho
    rw [ho]
    exact lp_X3_bal5 K hR hS hD hD12 (by omega)

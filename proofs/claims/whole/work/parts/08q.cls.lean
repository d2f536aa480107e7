/-! the class: balance -/
def zgl (B : ZA) : Nat → Int32 := fun s => zlc B (nI s) 96
def zbx (B : ZA) : Nat := zMx (zgl B) 3
def zby (B : ZA) : Nat := zMn (zgl B) 3
def zbu (B : ZA) : Int32 := zgl B (zbx B) - zgl B (zby B)
def zbc (B : ZA) : Option Nat := if zbu B < nI 4 then none else zhv B (nI (zbx B)) (zbu B / nI 2) 96
theorem lp_X2_balance {G : ZG} {E : ZE} (K : zOK mX2_balance [] G E) {M : ZM} {W : Nat → Nat → Nat} {B : ZA} (hC : zC M W B) (hF : zFr B) (hU : ∀ d, d < 12 → B.2 3 d = 1 → zDp B 11 d) {Q : State → Prop} (kk : ∀ o, WW E G (zyu mX2_balance) Q M 0 66 [some (.ref (W 10 0)), some (.int (nI (zMx (zgl B) 3))), some (.int (nI (zMn (zgl B) 3))), some (.int (zgl B (zMx (zgl B) 3))), some (.int (zgl B (zMn (zgl B) 3))), some (.int (nI (4))), o] []) : ∀ (n k : Nat) (o : Option Value), k + n = 3 → WW E G (zyu mX2_balance) Q M 0 20 [some (.ref (W 10 0)), some (.int (nI (zMx (zgl B) k))), some (.int (nI (zMn (zgl B) k))), some (.int (zgl B (zMx (zgl B) k))), some (.int (zgl B (zMn (zgl B) k))), some (.int (nI (k + 1))), o] [] := by
  intro n
  induction n with
  | zero =>
    intro k o hk
    have hk4 : k = 3 := by omega
    subst hk4
    refine zq_iload K dX2_balance_20 rfl ?_
    refine zq_iconst K dX2_balance_22 (v := nI 4) (by decide) ?_
    refine zq_icmp_geN K (x := 3 + 1) (y := 4) 66 dX2_balance_23 (by decide) ⟨by omega, by omega⟩ (fun h23 => ?_) (fun h23 => by omega)
    exact kk o
  | succ n ih =>
    intro k o hk
    have h99 : ∀ (a c : Nat) (y z : Int32) (o : Option Value), zMx (zgl B) (k + 1) = a → zMn (zgl B) (k + 1) = c → zgl B a = y → zgl B c = z → WW E G (zyu mX2_balance) Q M 0 20 [some (.ref (W 10 0)), some (.int (nI a)), some (.int (nI c)), some (.int y), some (.int z), some (.int (nI (k + 1 + 1))), o] [] := by
      intro a c y z o e1 e2 e3 e4
      subst e1
      subst e2
      subst e3
      subst e4
      exact ih (k + 1) o (by omega)
    refine zq_iload K dX2_balance_20 rfl ?_
    refine zq_iconst K dX2_balance_22 (v := nI 4) (by decide) ?_
    refine zq_icmp_geN K (x := k + 1) (y := 4) 66 dX2_balance_23 (by decide) ⟨by omega, by omega⟩ (fun h23 => by omega) (fun h23 => ?_)
    refine zq_aload_n K dX2_balance_26 rfl rfl ?_
    refine zq_iload K dX2_balance_27 rfl ?_
    refine zq_callV (As := [.int (nI (k + 1))]) K dX2_balance_29 zyX2_loadOfServer zm_X2_185 ziX2_loadOfServer zvX2_loadOfServer zclX2 rfl (by decide) rfl rfl (Nat.le_of_ble_eq_true rfl) (Nat.le_of_ble_eq_true rfl) hC.x.1 (ct_X2_loadOfServer hC hF hU (nI (k + 1))) (zone_r ?_) zone_x (Nat.le_refl _)
    refine zq_istore K dX2_balance_32 (by decide) ?_
    refine zq_iload K dX2_balance_34 rfl ?_
    refine zq_iload_n K dX2_balance_36 rfl rfl ?_
    refine zq_icmp_le K 46 dX2_balance_37 (by decide) (fun h37 => ?_) (fun h37 => ?_)
    · refine zq_iload K dX2_balance_46 rfl ?_
      refine zq_iload K dX2_balance_48 rfl ?_
      refine zq_icmp_ge K 60 dX2_balance_50 (by decide) (fun h50 => ?_) (fun h50 => ?_)
      · refine zq_iincN K dX2_balance_60 rfl (by decide) ?_
        refine zq_goto K 20 dX2_balance_63 (by decide) ?_
        exact h99 _ _ _ _ _ (by rw [zMx]; exact if_pos h37) (by rw [zMn]; exact if_pos h50) rfl rfl
      · refine zq_iload K dX2_balance_53 rfl ?_
        refine zq_istore_n K dX2_balance_55 rfl (by decide) ?_
        refine zq_iload K dX2_balance_56 rfl ?_
        refine zq_istore K dX2_balance_58 (by decide) ?_
        refine zq_iincN K dX2_balance_60 rfl (by decide) ?_
        refine zq_goto K 20 dX2_balance_63 (by decide) ?_
        exact h99 _ _ _ _ _ (by rw [zMx]; exact if_pos h37) (by rw [zMn]; exact if_neg h50) rfl rfl
    · refine zq_iload K dX2_balance_40 rfl ?_
      refine zq_istore_n K dX2_balance_42 rfl (by decide) ?_
      refine zq_iload K dX2_balance_43 rfl ?_
      refine zq_istore_n K dX2_balance_45 rfl (by decide) ?_
      refine zq_iload K dX2_balance_46 rfl ?_
      refine zq_iload K dX2_balance_48 rfl ?_
      refine zq_icmp_ge K 60 dX2_balance_50 (by decide) (fun h50 => ?_) (fun h50 => ?_)
      · refine zq_iincN K dX2_balance_60 rfl (by decide) ?_
        refine zq_goto K 20 dX2_balance_63 (by decide) ?_
        exact h99 _ _ _ _ _ (by rw [zMx]; exact if_neg h37) (by rw [zMn]; exact if_pos h50) rfl rfl
      · refine zq_iload K dX2_balance_53 rfl ?_
        refine zq_istore_n K dX2_balance_55 rfl (by decide) ?_
        refine zq_iload K dX2_balance_56 rfl ?_
        refine zq_istore K dX2_balance_58 (by decide) ?_
        refine zq_iincN K dX2_balance_60 rfl (by decide) ?_
        refine zq_goto K 20 dX2_balance_63 (by decide) ?_
        exact h99 _ _ _ _ _ (by rw [zMx]; exact if_neg h37) (by rw [zMn]; exact if_neg h50) rfl rfl
theorem ct_X2_balance_bad {G : ZG} {M : ZM} {W : Nat → Nat → Nat} {B : ZA} (hC : zC M W B) {m : Nat} (hm : B.1 16 = nI m) (hm9 : zVal B 9 m) : zMet G mX2_balance [.ref (W 10 0)] M (zthr zISE M) := by
  refine zbody zyX2_balance [some (.ref (W 10 0)), none, none, none, none, none, none] rfl (Nat.le_of_ble_eq_true rfl) (by intro v hv; simp only [List.mem_cons, List.not_mem_nil, or_false] at hv; rcases hv with rfl <;> rfl) (fun E K => ?_)
  refine zq_aload_n K dX2_balance_0 rfl rfl ?_
  refine zq_callV (As := []) K dX2_balance_1 zyX2_needNoMove zm_X2_188 ziX2_needNoMove zvX2_needNoMove zclX2 rfl (by decide) rfl rfl (Nat.le_of_ble_eq_true rfl) (Nat.le_of_ble_eq_true rfl) hC.x.1 (ct_X2_needNoMove_1 hC hm hm9) zthr_r (zthr_x ?_) (Nat.le_refl _)
  exact zx_out K ⟨rfl, rfl⟩
theorem ct_X2_balance_none {G : ZG} {M : ZM} {W : Nat → Nat → Nat} {B : ZA} (hC : zC M W B) (hW : zWf B) (hm : B.1 16 = -1) (ho : zbc B = none) : zMet G mX2_balance [.ref (W 10 0)] M (zCP W M B (some (.int (-1))) (zhL B 96)) := by
  refine zbody zyX2_balance [some (.ref (W 10 0)), none, none, none, none, none, none] rfl (Nat.le_of_ble_eq_true rfl) (by intro v hv; simp only [List.mem_cons, List.not_mem_nil, or_false] at hv; rcases hv with rfl <;> rfl) (fun E K => ?_)
  obtain ⟨⟨D, hB⟩, hF, hU⟩ := id hW
  have hS : zFm M W B M := zFm.rf
  refine zq_aload_n K dX2_balance_0 rfl rfl ?_
  refine zq_callV (As := []) K dX2_balance_1 zyX2_needNoMove zm_X2_188 ziX2_needNoMove zvX2_needNoMove zclX2 rfl (by decide) rfl rfl (Nat.le_of_ble_eq_true rfl) (Nat.le_of_ble_eq_true rfl) hC.x.1 (ct_X2_needNoMove_0 hC hm) (zone_r ?_) zone_x (Nat.le_refl _)
  refine zq_iconst K dX2_balance_4 (v := nI 0) (by decide) ?_
  refine zq_istore_n K dX2_balance_5 rfl (by decide) ?_
  refine zq_iconst K dX2_balance_6 (v := nI 0) (by decide) ?_
  refine zq_istore_n K dX2_balance_7 rfl (by decide) ?_
  refine zq_aload_n K dX2_balance_8 rfl rfl ?_
  refine zq_iconst K dX2_balance_9 (v := nI 0) (by decide) ?_
  refine zq_callV (As := [.int (nI (0))]) K dX2_balance_10 zyX2_loadOfServer zm_X2_185 ziX2_loadOfServer zvX2_loadOfServer zclX2 rfl (by decide) rfl rfl (Nat.le_of_ble_eq_true rfl) (Nat.le_of_ble_eq_true rfl) hC.x.1 (ct_X2_loadOfServer hC hF hU (nI 0)) (zone_r ?_) zone_x (Nat.le_refl _)
  refine zq_istore_n K dX2_balance_13 rfl (by decide) ?_
  refine zq_iload_n K dX2_balance_14 rfl rfl ?_
  refine zq_istore K dX2_balance_15 (by decide) ?_
  refine zq_iconst K dX2_balance_17 (v := nI 1) (by decide) ?_
  refine zq_istore K dX2_balance_18 (by decide) ?_
  refine lp_X2_balance K hC hF hU (fun o => ?_) 3 0 none rfl
  refine zq_iload_n K dX2_balance_66 rfl rfl ?_
  refine zq_iload K dX2_balance_67 rfl ?_
  refine zq_isub K dX2_balance_69 ?_
  refine zq_top (v := zbu B) rfl ?_
  refine zq_istore K dX2_balance_70 (by decide) ?_
  refine zq_null K dX2_balance_72 ?_
  refine zq_astoreN K dX2_balance_73 (by decide) ?_
  refine zq_iload K dX2_balance_75 rfl ?_
  refine zq_iconst K dX2_balance_77 (v := nI 4) (by decide) ?_
  refine zq_icmp_lt K 92 dX2_balance_78 (by decide) (fun h4 => ?_) (fun h4 => ?_)
  · refine zq_aloadN K dX2_balance_92 rfl ?_
    refine zq_ifnull_n K 104 dX2_balance_94 (by decide) ?_
    refine zq_aload_n K dX2_balance_104 rfl rfl ?_
    refine zq_callV (As := []) K dX2_balance_105 zyX2_halveLoads zm_X2_216 ziX2_halveLoads zvX2_halveLoads zclX2 rfl (by decide) rfl rfl (Nat.le_of_ble_eq_true rfl) (Nat.le_of_ble_eq_true rfl) hC.x.1 (ct_X2_halveLoads hC hF) (zCP_r hS (fun _ _ h => h) (fun M hC hS => ?_)) zCP_x (Nat.le_refl _)
    refine zq_aloadN K dX2_balance_108 rfl ?_
    refine zq_ifnonnull_n K dX2_balance_110 ?_
    refine zq_iconst K dX2_balance_113 (v := -1) (by decide) ?_
    refine zq_goto K 122 dX2_balance_114 (by decide) ?_
    exact zq_iret K dX2_balance_122 rfl ⟨rfl, hC, hS⟩
  · refine zq_aload_n K dX2_balance_81 rfl rfl ?_
    refine zq_iload_n K dX2_balance_82 rfl rfl ?_
    refine zq_iload K dX2_balance_83 rfl ?_
    refine zq_iconst K dX2_balance_85 (v := nI 2) (by decide) ?_
    refine zq_idiv K dX2_balance_86 (nI_ne0 (by decide) (by decide)) ?_
    refine zq_callV (As := [.int (nI (zbx B)), .int ((zbu B) / (nI (2)))]) K dX2_balance_87 zyX2_heaviestFragment zm_X2_212 ziX2_heaviestFragment zvX2_heaviestFragment zclX2 rfl (by decide) rfl rfl (Nat.le_of_ble_eq_true rfl) (Nat.le_of_ble_eq_true rfl) hC.x.1 (show zMet G mX2_heaviestFragment [.ref (W 10 0), .int (nI (zbx B)), .int (zbu B / nI 2)] M (zone (some .null) M) from by have h5 := ct_X2_heaviestFragment (G := G) hC hF hU (nI (zbx B)) (zbu B / nI 2); unfold zbc at ho; rw [if_neg h4] at ho; rwa [ho] at h5) (zone_r ?_) zone_x (Nat.le_refl _)
    refine zq_astoreN K dX2_balance_90 (by decide) ?_
    refine zq_aloadN K dX2_balance_92 rfl ?_
    refine zq_ifnull_n K 104 dX2_balance_94 (by decide) ?_
    refine zq_aload_n K dX2_balance_104 rfl rfl ?_
    refine zq_callV (As := []) K dX2_balance_105 zyX2_halveLoads zm_X2_216 ziX2_halveLoads zvX2_halveLoads zclX2 rfl (by decide) rfl rfl (Nat.le_of_ble_eq_true rfl) (Nat.le_of_ble_eq_true rfl) hC.x.1 (ct_X2_halveLoads hC hF) (zCP_r hS (fun _ _ h => h) (fun M hC hS => ?_)) zCP_x (Nat.le_refl _)
    refine zq_aloadN K dX2_balance_108 rfl ?_
    refine zq_ifnonnull_n K dX2_balance_110 ?_
    refine zq_iconst K dX2_balance_113 (v := -1) (by decide) ?_
    refine zq_goto K 122 dX2_balance_114 (by decide) ?_
    exact zq_iret K dX2_balance_122 rfl ⟨rfl, hC, hS⟩
theorem ct_X2_balance_some {G : ZG} {M : ZM} {W : Nat → Nat → Nat} {B : ZA} (hC : zC M W B) (hW : zWf B) (hm : B.1 16 = -1) {j : Nat} (ho : zbc B = some j) : zMet G mX2_balance [.ref (W 10 0)] M (zCP W M B (some (.int (nI (j / 8)))) (zhL (zMo B (nI j) (nI (zby B))) 96)) := by
  refine zbody zyX2_balance [some (.ref (W 10 0)), none, none, none, none, none, none] rfl (Nat.le_of_ble_eq_true rfl) (by intro v hv; simp only [List.mem_cons, List.not_mem_nil, or_false] at hv; rcases hv with rfl <;> rfl) (fun E K => ?_)
  obtain ⟨⟨D, hB⟩, hF, hU⟩ := id hW
  have hS : zFm M W B M := zFm.rf
  refine zq_aload_n K dX2_balance_0 rfl rfl ?_
  refine zq_callV (As := []) K dX2_balance_1 zyX2_needNoMove zm_X2_188 ziX2_needNoMove zvX2_needNoMove zclX2 rfl (by decide) rfl rfl (Nat.le_of_ble_eq_true rfl) (Nat.le_of_ble_eq_true rfl) hC.x.1 (ct_X2_needNoMove_0 hC hm) (zone_r ?_) zone_x (Nat.le_refl _)
  refine zq_iconst K dX2_balance_4 (v := nI 0) (by decide) ?_
  refine zq_istore_n K dX2_balance_5 rfl (by decide) ?_
  refine zq_iconst K dX2_balance_6 (v := nI 0) (by decide) ?_
  refine zq_istore_n K dX2_balance_7 rfl (by decide) ?_
  refine zq_aload_n K dX2_balance_8 rfl rfl ?_
  refine zq_iconst K dX2_balance_9 (v := nI 0) (by decide) ?_
  refine zq_callV (As := [.int (nI (0))]) K dX2_balance_10 zyX2_loadOfServer zm_X2_185 ziX2_loadOfServer zvX2_loadOfServer zclX2 rfl (by decide) rfl rfl (Nat.le_of_ble_eq_true rfl) (Nat.le_of_ble_eq_true rfl) hC.x.1 (ct_X2_loadOfServer hC hF hU (nI 0)) (zone_r ?_) zone_x (Nat.le_refl _)
  refine zq_istore_n K dX2_balance_13 rfl (by decide) ?_
  refine zq_iload_n K dX2_balance_14 rfl rfl ?_
  refine zq_istore K dX2_balance_15 (by decide) ?_
  refine zq_iconst K dX2_balance_17 (v := nI 1) (by decide) ?_
  refine zq_istore K dX2_balance_18 (by decide) ?_
  refine lp_X2_balance K hC hF hU (fun o => ?_) 3 0 none rfl
  refine zq_iload_n K dX2_balance_66 rfl rfl ?_
  refine zq_iload K dX2_balance_67 rfl ?_
  refine zq_isub K dX2_balance_69 ?_
  refine zq_top (v := zbu B) rfl ?_
  refine zq_istore K dX2_balance_70 (by decide) ?_
  refine zq_null K dX2_balance_72 ?_
  refine zq_astoreN K dX2_balance_73 (by decide) ?_
  refine zq_iload K dX2_balance_75 rfl ?_
  refine zq_iconst K dX2_balance_77 (v := nI 4) (by decide) ?_
  refine zq_icmp_lt K 92 dX2_balance_78 (by decide) (fun h4 => ?_) (fun h4 => ?_)
  · unfold zbc at ho
    rw [if_pos h4] at ho
    exact nomatch ho
  · refine zq_aload_n K dX2_balance_81 rfl rfl ?_
    refine zq_iload_n K dX2_balance_82 rfl rfl ?_
    refine zq_iload K dX2_balance_83 rfl ?_
    refine zq_iconst K dX2_balance_85 (v := nI 2) (by decide) ?_
    refine zq_idiv K dX2_balance_86 (nI_ne0 (by decide) (by decide)) ?_
    refine zq_callV (As := [.int (nI (zbx B)), .int ((zbu B) / (nI (2)))]) K dX2_balance_87 zyX2_heaviestFragment zm_X2_212 ziX2_heaviestFragment zvX2_heaviestFragment zclX2 rfl (by decide) rfl rfl (Nat.le_of_ble_eq_true rfl) (Nat.le_of_ble_eq_true rfl) hC.x.1 (show zMet G mX2_heaviestFragment [.ref (W 10 0), .int (nI (zbx B)), .int (zbu B / nI 2)] M (zone (some (.ref (W 9 j))) M) from by have h5 := ct_X2_heaviestFragment (G := G) hC hF hU (nI (zbx B)) (zbu B / nI 2); unfold zbc at ho; rw [if_neg h4] at ho; rwa [ho] at h5) (zone_r ?_) zone_x (Nat.le_refl _)
    have hj9 : zVal B 9 j := by
      unfold zbc at ho
      rw [if_neg h4] at ho
      exact ⟨by have := (zhv_ok ho).1; omega, (zhv_ok ho).2⟩
    refine zq_astore K dX2_balance_90 (by decide) ?_
    refine zq_aload K dX2_balance_92 rfl ?_
    refine zq_ifnull_r K dX2_balance_94 ?_
    refine zq_aload_n K dX2_balance_97 rfl rfl ?_
    refine zq_aload K dX2_balance_98 rfl ?_
    refine zq_iload_n K dX2_balance_100 rfl rfl ?_
    refine zq_callV (As := [.ref (W 9 j), .int (nI (zby B))]) K dX2_balance_101 zyX2_startMove zm_X2_193 ziX2_startMove zvX2_startMove zclX2 rfl (by decide) rfl rfl (Nat.le_of_ble_eq_true rfl) (Nat.le_of_ble_eq_true rfl) hC.x.1 (ct_X2_startMove hC hj9 (nI (zby B))) (zCP_r hS (fun _ _ h => h) (fun M hC hS => ?_)) zCP_x (Nat.le_refl _)
    refine zq_aload_n K dX2_balance_104 rfl rfl ?_
    refine zq_callV (As := []) K dX2_balance_105 zyX2_halveLoads zm_X2_216 ziX2_halveLoads zvX2_halveLoads zclX2 rfl (by decide) rfl rfl (Nat.le_of_ble_eq_true rfl) (Nat.le_of_ble_eq_true rfl) hC.x.1 (ct_X2_halveLoads (B := (zMo B (nI j) (nI (zby B)))) hC hF) (zCP_r hS (fun _ _ h => h) (fun M hC hS => ?_)) zCP_x (Nat.le_refl _)
    refine zq_aload K dX2_balance_108 rfl ?_
    refine zq_ifnonnull_r K 117 dX2_balance_110 (by decide) ?_
    refine zq_aload K dX2_balance_117 rfl ?_
    refine zq_getI K dX2_balance_119 zclX1 (k := 0) (by decide) zf_X2_219 rfl (hC.f (show zVal (zhL (zMo B (nI j) (nI (zby B))) 96) 9 j from (zVal.cg (zhL_n _ (by decide) 96) (zhL_n _ (by decide) 96)).mpr hj9)).1 ?_
    refine zq_top (hC.f (show zVal (zhL (zMo B (nI j) (nI (zby B))) 96) 9 j from (zVal.cg (zhL_n _ (by decide) 96) (zhL_n _ (by decide) 96)).mpr hj9)).2.1 ?_
    exact zq_iret K dX2_balance_122 rfl ⟨rfl, hC, hS⟩

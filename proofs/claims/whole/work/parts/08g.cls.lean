/-! the class: loads -/
/-- the load of the server s in the first k slots -/
def zlc (B : ZA) (s : Int32) : Nat → Int32
  | 0 => nI 0
  | k + 1 => if zVf B k ∧ zsv B k = s then zlc B s k + B.2 12 k else zlc B s k
/-- the heaviest of the first k slots -/
def zh4 (B : ZA) : Option Nat → Int32
  | none => nI 0
  | some j => B.2 12 j
def zhv (B : ZA) (s m : Int32) : Nat → Option Nat
  | 0 => none
  | k + 1 => if zVf B k ∧ ¬ B.2 12 k ≤ zh4 B (zhv B s m k) ∧ ¬ m < B.2 12 k ∧ zsv B k = s then some k else zhv B s m k
theorem zhv_ok {B : ZA} {s m : Int32} : ∀ {k j : Nat}, zhv B s m k = some j → j < k ∧ zVf B j
  | 0, j, h => nomatch h
  | k + 1, j, h => by
    unfold zhv at h
    split at h
    · rename_i h1
      cases h
      exact ⟨by omega, h1.1⟩
    · have := zhv_ok h
      exact ⟨by omega, this.2⟩
def zhL (B : ZA) : Nat → ZA
  | 0 => B
  | k + 1 => if zVf B k then zsa (zhL B k) 12 k ((zhL B k).2 12 k / nI 2) else zhL B k
theorem zhL_1 (B : ZA) : ∀ k, (zhL B k).1 = B.1
  | 0 => rfl
  | k + 1 => by
    unfold zhL
    split
    · exact zhL_1 B k
    · exact zhL_1 B k
theorem zhL_n (B : ZA) {i : Nat} (hi : i ≠ 12) : ∀ k, (zhL B k).2 i = B.2 i
  | 0 => rfl
  | k + 1 => by
    unfold zhL
    split
    · rw [zsa_n _ _ _ _ _ hi]
      exact zhL_n B hi k
    · exact zhL_n B hi k
theorem lp_X2_loadOfServer {G : ZG} {E : ZE} (K : zOK mX2_loadOfServer [] G E) {M : ZM} {W : Nat → Nat → Nat} {B : ZA} (hC : zC M W B) (hF : zFr B) (hU : ∀ d, d < 12 → B.2 3 d = 1 → zDp B 11 d) {s : Int32} {P : ZO → ZM → Prop} (hP : P (.inl (some (.int (zlc B s 96)))) M) : ∀ (m k : Nat) (o : Option Value), k + m = 96 → WW E G (zyu mX2_loadOfServer) (zQ E G mX2_loadOfServer P) M 0 4 [some (.ref (W 10 0)), some (.int (s)), some (.int (zlc B s k)), some (.int (nI (k))), o] [] := by
  intro m
  induction m with
  | zero =>
    intro k o hk
    have hk4 : k = 96 := by omega
    subst hk4
    refine zq_iload_n K dX2_loadOfServer_4 rfl rfl ?_
    refine zq_bipush K dX2_loadOfServer_5 (v := nI 96) (by decide) ?_
    refine zq_icmp_geN K (x := 96) (y := 96) 46 dX2_loadOfServer_7 (by decide) ⟨by omega, by omega⟩ (fun h7 => ?_) (fun h7 => by omega)
    refine zq_iload_n K dX2_loadOfServer_46 rfl rfl ?_
    exact zq_iret K dX2_loadOfServer_47 rfl hP
  | succ m ih =>
    intro k o hk
    by_cases hl : zVf B k
    · have hv9 : zVal B 9 k := ⟨by omega, hl⟩
      refine zq_iload_n K dX2_loadOfServer_4 rfl rfl ?_
      refine zq_bipush K dX2_loadOfServer_5 (v := nI 96) (by decide) ?_
      refine zq_icmp_geN K (x := k) (y := 96) 46 dX2_loadOfServer_7 (by decide) ⟨by omega, by omega⟩ (fun h7 => by omega) (fun h7 => ?_)
      refine zq_aload_n K dX2_loadOfServer_10 rfl rfl ?_
      refine zq_iload_n K dX2_loadOfServer_11 rfl rfl ?_
      refine zq_callV (As := [.int (nI (k))]) K dX2_loadOfServer_12 zyX2_fragmentInSlot zm_X2_273 ziX2_fragmentInSlot zvX2_fragmentInSlot zclX2 rfl (by decide) rfl rfl (Nat.le_of_ble_eq_true rfl) (Nat.le_of_ble_eq_true rfl) hC.x.1 (ct_X2_fragmentInSlot_1 hC hv9 hF) (zone_r ?_) zone_x (Nat.le_refl _)
      refine zq_astore K dX2_loadOfServer_15 (by decide) ?_
      refine zq_aload K dX2_loadOfServer_17 rfl ?_
      refine zq_ifnull_r K dX2_loadOfServer_19 ?_
      refine zq_aload_n K dX2_loadOfServer_22 rfl rfl ?_
      refine zq_aload K dX2_loadOfServer_23 rfl ?_
      refine zq_callV (As := [.ref (W 9 k)]) K dX2_loadOfServer_25 zyX2_serverOfFragment zm_X2_178 ziX2_serverOfFragment zvX2_serverOfFragment zclX2 rfl (by decide) rfl rfl (Nat.le_of_ble_eq_true rfl) (Nat.le_of_ble_eq_true rfl) hC.x.1 (ct_X2_serverOfFragment hC hv9 hF hU) (zone_r ?_) zone_x (Nat.le_refl _)
      refine zq_iload_n K dX2_loadOfServer_28 rfl rfl ?_
      refine zq_icmp_ne K 40 dX2_loadOfServer_29 (by decide) (fun he => ?_) (fun he => ?_)
      · refine zq_iincN K dX2_loadOfServer_40 rfl (by decide) ?_
        refine zq_goto K 4 dX2_loadOfServer_43 (by decide) ?_
        rw [show zlc B s k = zlc B s (k + 1) from by rw [zlc, if_neg (fun z => he z.2)]]
        exact ih (k + 1) _ (by omega)
      · refine zq_iload_n K dX2_loadOfServer_32 rfl rfl ?_
        refine zq_aload K dX2_loadOfServer_33 rfl ?_
        refine zq_getI K dX2_loadOfServer_35 zclX1 (k := 4) (by decide) zf_X2_51 rfl (hC.f hv9).1 ?_
        refine zq_top (hC.f hv9).2.2.2.2.2 ?_
        refine zq_iadd K dX2_loadOfServer_38 ?_
        refine zq_istore_n K dX2_loadOfServer_39 rfl (by decide) ?_
        refine zq_iincN K dX2_loadOfServer_40 rfl (by decide) ?_
        refine zq_goto K 4 dX2_loadOfServer_43 (by decide) ?_
        rw [show zlc B s k + B.2 12 k = zlc B s (k + 1) from by rw [zlc, if_pos ⟨hl, he⟩]]
        exact ih (k + 1) _ (by omega)
    · refine zq_iload_n K dX2_loadOfServer_4 rfl rfl ?_
      refine zq_bipush K dX2_loadOfServer_5 (v := nI 96) (by decide) ?_
      refine zq_icmp_geN K (x := k) (y := 96) 46 dX2_loadOfServer_7 (by decide) ⟨by omega, by omega⟩ (fun h7 => by omega) (fun h7 => ?_)
      refine zq_aload_n K dX2_loadOfServer_10 rfl rfl ?_
      refine zq_iload_n K dX2_loadOfServer_11 rfl rfl ?_
      refine zq_callV (As := [.int (nI (k))]) K dX2_loadOfServer_12 zyX2_fragmentInSlot zm_X2_273 ziX2_fragmentInSlot zvX2_fragmentInSlot zclX2 rfl (by decide) rfl rfl (Nat.le_of_ble_eq_true rfl) (Nat.le_of_ble_eq_true rfl) hC.x.1 (ct_X2_fragmentInSlot_n hC hF (show k < 96 by omega) hl) (zone_r ?_) zone_x (Nat.le_refl _)
      refine zq_astoreN K dX2_loadOfServer_15 (by decide) ?_
      refine zq_aloadN K dX2_loadOfServer_17 rfl ?_
      refine zq_ifnull_n K 40 dX2_loadOfServer_19 (by decide) ?_
      refine zq_iincN K dX2_loadOfServer_40 rfl (by decide) ?_
      refine zq_goto K 4 dX2_loadOfServer_43 (by decide) ?_
      rw [show zlc B s k = zlc B s (k + 1) from by rw [zlc, if_neg (fun z => hl z.1)]]
      exact ih (k + 1) _ (by omega)
theorem ct_X2_loadOfServer {G : ZG} {M : ZM} {W : Nat → Nat → Nat} {B : ZA} (hC : zC M W B) (hF : zFr B) (hU : ∀ d, d < 12 → B.2 3 d = 1 → zDp B 11 d) (s : Int32) : zMet G mX2_loadOfServer [.ref (W 10 0), .int (s)] M (zone (some (.int (zlc B s 96))) M) := by
  refine zbody zyX2_loadOfServer [some (.ref (W 10 0)), some (.int (s)), none, none, none] rfl (Nat.le_of_ble_eq_true rfl) (by intro v hv; simp only [List.mem_cons, List.not_mem_nil, or_false] at hv; rcases hv with rfl | rfl <;> rfl) (fun E K => ?_)
  refine zq_iconst K dX2_loadOfServer_0 (v := nI 0) (by decide) ?_
  refine zq_istore_n K dX2_loadOfServer_1 rfl (by decide) ?_
  refine zq_iconst K dX2_loadOfServer_2 (v := nI 0) (by decide) ?_
  refine zq_istore_n K dX2_loadOfServer_3 rfl (by decide) ?_
  exact lp_X2_loadOfServer K hC hF hU ⟨rfl, rfl⟩ 96 0 none rfl
/-- a fragment, or none, as a value -/
def zvf (W : Nat → Nat → Nat) : Option Nat → Value
  | none => .null
  | some j => .ref (W 9 j)
theorem lp_X2_heaviestFragment {G : ZG} {E : ZE} (K : zOK mX2_heaviestFragment [] G E) {M : ZM} {W : Nat → Nat → Nat} {B : ZA} (hC : zC M W B) (hF : zFr B) (hU : ∀ d, d < 12 → B.2 3 d = 1 → zDp B 11 d) {s m : Int32} {P : ZO → ZM → Prop} (hP : P (.inl (some (zvf W (zhv B s m 96)))) M) : ∀ (n k : Nat) (o : Option Value), k + n = 96 → WW E G (zyu mX2_heaviestFragment) (zQ E G mX2_heaviestFragment P) M 0 8 [some (.ref (W 10 0)), some (.int (s)), some (.int (m)), some (zvf W (zhv B s m k)), some (.int (zh4 B (zhv B s m k))), some (.int (nI (k))), o] [] := by
  intro n
  induction n with
  | zero =>
    intro k o hk
    have hk4 : k = 96 := by omega
    subst hk4
    rcases e9 : zhv B s m 96 with _ | j
    · refine zq_iload K dX2_heaviestFragment_8 rfl ?_
      refine zq_bipush K dX2_heaviestFragment_10 (v := nI 96) (by decide) ?_
      refine zq_icmp_geN K (x := 96) (y := 96) 73 dX2_heaviestFragment_12 (by decide) ⟨by omega, by omega⟩ (fun h12 => ?_) (fun h12 => by omega)
      refine zq_aload_nN K dX2_heaviestFragment_73 rfl rfl ?_
      exact zq_aret K dX2_heaviestFragment_74 rfl (Or.inl rfl) (by rw [e9] at hP; exact hP)
    · refine zq_iload K dX2_heaviestFragment_8 rfl ?_
      refine zq_bipush K dX2_heaviestFragment_10 (v := nI 96) (by decide) ?_
      refine zq_icmp_geN K (x := 96) (y := 96) 73 dX2_heaviestFragment_12 (by decide) ⟨by omega, by omega⟩ (fun h12 => ?_) (fun h12 => by omega)
      refine zq_aload_n K dX2_heaviestFragment_73 rfl rfl ?_
      exact zq_aret K dX2_heaviestFragment_74 rfl (Or.inr ⟨_, rfl⟩) (by rw [e9] at hP; exact hP)
  | succ n ih =>
    intro k o hk
    have h99 : ∀ (y : Value) (z : Int32) (o : Option Value), zvf W (zhv B s m (k + 1)) = y → zh4 B (zhv B s m (k + 1)) = z → WW E G (zyu mX2_heaviestFragment) (zQ E G mX2_heaviestFragment P) M 0 8 [some (.ref (W 10 0)), some (.int s), some (.int m), some y, some (.int z), some (.int (nI (k + 1))), o] [] := by
      intro y z o e1 e2
      subst e1
      subst e2
      exact ih (k + 1) o (by omega)
    by_cases hl : zVf B k
    · have hv9 : zVal B 9 k := ⟨by omega, hl⟩
      refine zq_iload K dX2_heaviestFragment_8 rfl ?_
      refine zq_bipush K dX2_heaviestFragment_10 (v := nI 96) (by decide) ?_
      refine zq_icmp_geN K (x := k) (y := 96) 73 dX2_heaviestFragment_12 (by decide) ⟨by omega, by omega⟩ (fun h12 => by omega) (fun h12 => ?_)
      refine zq_aload_n K dX2_heaviestFragment_15 rfl rfl ?_
      refine zq_iload K dX2_heaviestFragment_16 rfl ?_
      refine zq_callV (As := [.int (nI (k))]) K dX2_heaviestFragment_18 zyX2_fragmentInSlot zm_X2_273 ziX2_fragmentInSlot zvX2_fragmentInSlot zclX2 rfl (by decide) rfl rfl (Nat.le_of_ble_eq_true rfl) (Nat.le_of_ble_eq_true rfl) hC.x.1 (ct_X2_fragmentInSlot_1 hC hv9 hF) (zone_r ?_) zone_x (Nat.le_refl _)
      refine zq_astore K dX2_heaviestFragment_21 (by decide) ?_
      refine zq_aload K dX2_heaviestFragment_23 rfl ?_
      refine zq_ifnull_r K dX2_heaviestFragment_25 ?_
      refine zq_aload K dX2_heaviestFragment_28 rfl ?_
      refine zq_getI K dX2_heaviestFragment_30 zclX1 (k := 4) (by decide) zf_X2_51 rfl (hC.f hv9).1 ?_
      refine zq_top (hC.f hv9).2.2.2.2.2 ?_
      refine zq_iload K dX2_heaviestFragment_33 rfl ?_
      refine zq_icmp_le K 67 dX2_heaviestFragment_35 (by decide) (fun h35 => ?_) (fun h35 => ?_)
      · refine zq_iincN K dX2_heaviestFragment_67 rfl (by decide) ?_
        refine zq_goto K 8 dX2_heaviestFragment_70 (by decide) ?_
        exact h99 _ _ _ (by rw [zhv, if_neg (fun z => z.2.1 h35)]) (by rw [zhv, if_neg (fun z => z.2.1 h35)])
      · refine zq_aload K dX2_heaviestFragment_38 rfl ?_
        refine zq_getI K dX2_heaviestFragment_40 zclX1 (k := 4) (by decide) zf_X2_51 rfl (hC.f hv9).1 ?_
        refine zq_top (hC.f hv9).2.2.2.2.2 ?_
        refine zq_iload_n K dX2_heaviestFragment_43 rfl rfl ?_
        refine zq_icmp_gt K 67 dX2_heaviestFragment_44 (by decide) (fun h44 => ?_) (fun h44 => ?_)
        · refine zq_iincN K dX2_heaviestFragment_67 rfl (by decide) ?_
          refine zq_goto K 8 dX2_heaviestFragment_70 (by decide) ?_
          exact h99 _ _ _ (by rw [zhv, if_neg (fun z => z.2.2.1 h44)]) (by rw [zhv, if_neg (fun z => z.2.2.1 h44)])
        · refine zq_aload_n K dX2_heaviestFragment_47 rfl rfl ?_
          refine zq_aload K dX2_heaviestFragment_48 rfl ?_
          refine zq_callV (As := [.ref (W 9 k)]) K dX2_heaviestFragment_50 zyX2_serverOfFragment zm_X2_178 ziX2_serverOfFragment zvX2_serverOfFragment zclX2 rfl (by decide) rfl rfl (Nat.le_of_ble_eq_true rfl) (Nat.le_of_ble_eq_true rfl) hC.x.1 (ct_X2_serverOfFragment hC hv9 hF hU) (zone_r ?_) zone_x (Nat.le_refl _)
          refine zq_iload_n K dX2_heaviestFragment_53 rfl rfl ?_
          refine zq_icmp_ne K 67 dX2_heaviestFragment_54 (by decide) (fun h54 => ?_) (fun h54 => ?_)
          · refine zq_iincN K dX2_heaviestFragment_67 rfl (by decide) ?_
            refine zq_goto K 8 dX2_heaviestFragment_70 (by decide) ?_
            exact h99 _ _ _ (by rw [zhv, if_neg (fun z => h54 z.2.2.2)]) (by rw [zhv, if_neg (fun z => h54 z.2.2.2)])
          · refine zq_aload K dX2_heaviestFragment_57 rfl ?_
            refine zq_astore_n K dX2_heaviestFragment_59 rfl (by decide) ?_
            refine zq_aload K dX2_heaviestFragment_60 rfl ?_
            refine zq_getI K dX2_heaviestFragment_62 zclX1 (k := 4) (by decide) zf_X2_51 rfl (hC.f hv9).1 ?_
            refine zq_top (hC.f hv9).2.2.2.2.2 ?_
            refine zq_istore K dX2_heaviestFragment_65 (by decide) ?_
            refine zq_iincN K dX2_heaviestFragment_67 rfl (by decide) ?_
            refine zq_goto K 8 dX2_heaviestFragment_70 (by decide) ?_
            exact h99 _ _ _ (by rw [zhv, if_pos ⟨hl, h35, h44, h54⟩]; rfl) (by rw [zhv, if_pos ⟨hl, h35, h44, h54⟩]; rfl)
    · refine zq_iload K dX2_heaviestFragment_8 rfl ?_
      refine zq_bipush K dX2_heaviestFragment_10 (v := nI 96) (by decide) ?_
      refine zq_icmp_geN K (x := k) (y := 96) 73 dX2_heaviestFragment_12 (by decide) ⟨by omega, by omega⟩ (fun h12 => by omega) (fun h12 => ?_)
      refine zq_aload_n K dX2_heaviestFragment_15 rfl rfl ?_
      refine zq_iload K dX2_heaviestFragment_16 rfl ?_
      refine zq_callV (As := [.int (nI (k))]) K dX2_heaviestFragment_18 zyX2_fragmentInSlot zm_X2_273 ziX2_fragmentInSlot zvX2_fragmentInSlot zclX2 rfl (by decide) rfl rfl (Nat.le_of_ble_eq_true rfl) (Nat.le_of_ble_eq_true rfl) hC.x.1 (ct_X2_fragmentInSlot_n hC hF (show k < 96 by omega) hl) (zone_r ?_) zone_x (Nat.le_refl _)
      refine zq_astoreN K dX2_heaviestFragment_21 (by decide) ?_
      refine zq_aloadN K dX2_heaviestFragment_23 rfl ?_
      refine zq_ifnull_n K 67 dX2_heaviestFragment_25 (by decide) ?_
      refine zq_iincN K dX2_heaviestFragment_67 rfl (by decide) ?_
      refine zq_goto K 8 dX2_heaviestFragment_70 (by decide) ?_
      exact h99 _ _ _ (by rw [zhv, if_neg (fun z => hl z.1)]) (by rw [zhv, if_neg (fun z => hl z.1)])
theorem ct_X2_heaviestFragment {G : ZG} {M : ZM} {W : Nat → Nat → Nat} {B : ZA} (hC : zC M W B) (hF : zFr B) (hU : ∀ d, d < 12 → B.2 3 d = 1 → zDp B 11 d) (s m : Int32) : zMet G mX2_heaviestFragment [.ref (W 10 0), .int (s), .int (m)] M (zone (some (zvf W (zhv B s m 96))) M) := by
  refine zbody zyX2_heaviestFragment [some (.ref (W 10 0)), some (.int (s)), some (.int (m)), none, none, none, none] rfl (Nat.le_of_ble_eq_true rfl) (by intro v hv; simp only [List.mem_cons, List.not_mem_nil, or_false] at hv; rcases hv with rfl | rfl | rfl <;> rfl) (fun E K => ?_)
  refine zq_null K dX2_heaviestFragment_0 ?_
  refine zq_astore_nN K dX2_heaviestFragment_1 rfl (by decide) ?_
  refine zq_iconst K dX2_heaviestFragment_2 (v := nI 0) (by decide) ?_
  refine zq_istore K dX2_heaviestFragment_3 (by decide) ?_
  refine zq_iconst K dX2_heaviestFragment_5 (v := nI 0) (by decide) ?_
  refine zq_istore K dX2_heaviestFragment_6 (by decide) ?_
  exact lp_X2_heaviestFragment K hC hF hU ⟨rfl, rfl⟩ 96 0 none rfl
theorem lp_X2_halveLoads {G : ZG} {E : ZE} (K : zOK mX2_halveLoads [] G E) {M0 : ZM} {W : Nat → Nat → Nat} {B : ZA} (hF : zFr B) {P : ZO → ZM → Prop} (hP : ∀ M, zC M W (zhL B 96) → zFm M0 W B M → P (.inl none) M) : ∀ (m k : Nat) (o : Option Value), k + m = 96 → ∀ M, zC M W (zhL B k) → zFm M0 W B M → WW E G (zyu mX2_halveLoads) (zQ E G mX2_halveLoads P) M 0 2 [some (.ref (W 10 0)), some (.int (nI (k))), o] [] := by
  intro m
  induction m with
  | zero =>
    intro k o hk M hC hS
    have hk4 : k = 96 := by omega
    subst hk4
    refine zq_iload_n K dX2_halveLoads_2 rfl rfl ?_
    refine zq_bipush K dX2_halveLoads_3 (v := nI 96) (by decide) ?_
    refine zq_icmp_geN K (x := 96) (y := 96) 34 dX2_halveLoads_5 (by decide) ⟨by omega, by omega⟩ (fun h5 => ?_) (fun h5 => by omega)
    exact zq_ret K dX2_halveLoads_34 rfl (hP M hC hS)
  | succ m ih =>
    intro k o hk M hC hS
    have h3 : (zhL B k).2 3 = B.2 3 := zhL_n B (by decide) k
    have h10 : (zhL B k).2 10 = B.2 10 := zhL_n B (by decide) k
    have hF' : zFr (zhL B k) := by
      unfold zFr
      rw [h3, h10, zhL_n B (by decide) k]
      exact hF
    by_cases hl : zVf B k
    · have hv90 : zVal B 9 k := ⟨by omega, hl⟩
      have hv9 : zVal (zhL B k) 9 k := (zVal.cg h3 h10).mpr hv90
      refine zq_iload_n K dX2_halveLoads_2 rfl rfl ?_
      refine zq_bipush K dX2_halveLoads_3 (v := nI 96) (by decide) ?_
      refine zq_icmp_geN K (x := k) (y := 96) 34 dX2_halveLoads_5 (by decide) ⟨by omega, by omega⟩ (fun h5 => by omega) (fun h5 => ?_)
      refine zq_aload_n K dX2_halveLoads_8 rfl rfl ?_
      refine zq_iload_n K dX2_halveLoads_9 rfl rfl ?_
      refine zq_callV (As := [.int (nI (k))]) K dX2_halveLoads_10 zyX2_fragmentInSlot zm_X2_273 ziX2_fragmentInSlot zvX2_fragmentInSlot zclX2 rfl (by decide) rfl rfl (Nat.le_of_ble_eq_true rfl) (Nat.le_of_ble_eq_true rfl) hC.x.1 (ct_X2_fragmentInSlot_1 hC hv9 hF') (zone_r ?_) zone_x (Nat.le_refl _)
      refine zq_astore_n K dX2_halveLoads_13 rfl (by decide) ?_
      refine zq_aload_n K dX2_halveLoads_14 rfl rfl ?_
      refine zq_ifnull_r K dX2_halveLoads_15 ?_
      refine zq_aload_n K dX2_halveLoads_18 rfl rfl ?_
      refine zq_dup K dX2_halveLoads_19 rfl ?_
      refine zq_getI K dX2_halveLoads_20 zclX1 (k := 4) (by decide) zf_X2_51 rfl (hC.f hv9).1 ?_
      refine zq_top (hC.f hv9).2.2.2.2.2 ?_
      refine zq_iconst K dX2_halveLoads_23 (v := nI 2) (by decide) ?_
      refine zq_idiv K dX2_halveLoads_24 (nI_ne0 (by decide) (by decide)) ?_
      refine zc_pload K dX2_halveLoads_25 zf_X2_51 hC hS hv9 hv90 (fun M hC hS => ?_)
      refine zq_iincN K dX2_halveLoads_28 rfl (by decide) ?_
      refine zq_goto K 2 dX2_halveLoads_31 (by decide) ?_
      exact ih (k + 1) _ (by omega) M (by rw [zhL, if_pos hl]; exact hC) hS
    · refine zq_iload_n K dX2_halveLoads_2 rfl rfl ?_
      refine zq_bipush K dX2_halveLoads_3 (v := nI 96) (by decide) ?_
      refine zq_icmp_geN K (x := k) (y := 96) 34 dX2_halveLoads_5 (by decide) ⟨by omega, by omega⟩ (fun h5 => by omega) (fun h5 => ?_)
      refine zq_aload_n K dX2_halveLoads_8 rfl rfl ?_
      refine zq_iload_n K dX2_halveLoads_9 rfl rfl ?_
      refine zq_callV (As := [.int (nI (k))]) K dX2_halveLoads_10 zyX2_fragmentInSlot zm_X2_273 ziX2_fragmentInSlot zvX2_fragmentInSlot zclX2 rfl (by decide) rfl rfl (Nat.le_of_ble_eq_true rfl) (Nat.le_of_ble_eq_true rfl) hC.x.1 (ct_X2_fragmentInSlot_n hC hF' (show k < 96 by omega) (by unfold zVf; rw [h3, h10]; exact hl)) (zone_r ?_) zone_x (Nat.le_refl _)
      refine zq_astore_nN K dX2_halveLoads_13 rfl (by decide) ?_
      refine zq_aload_nN K dX2_halveLoads_14 rfl rfl ?_
      refine zq_ifnull_n K 28 dX2_halveLoads_15 (by decide) ?_
      refine zq_iincN K dX2_halveLoads_28 rfl (by decide) ?_
      refine zq_goto K 2 dX2_halveLoads_31 (by decide) ?_
      exact ih (k + 1) _ (by omega) M (by rw [zhL, if_neg hl]; exact hC) hS
theorem ct_X2_halveLoads {G : ZG} {M : ZM} {W : Nat → Nat → Nat} {B : ZA} (hC : zC M W B) (hF : zFr B) : zMet G mX2_halveLoads [.ref (W 10 0)] M (zCP W M B none (zhL B 96)) := by
  refine zbody zyX2_halveLoads [some (.ref (W 10 0)), none, none] rfl (Nat.le_of_ble_eq_true rfl) (by intro v hv; simp only [List.mem_cons, List.not_mem_nil, or_false] at hv; rcases hv with rfl <;> rfl) (fun E K => ?_)
  refine zq_iconst K dX2_halveLoads_0 (v := nI 0) (by decide) ?_
  refine zq_istore_n K dX2_halveLoads_1 rfl (by decide) ?_
  exact lp_X2_halveLoads K hF (fun M hC hS => ⟨rfl, hC, hS⟩) 96 0 none rfl M hC zFm.rf
theorem ct_X2_needRemovable_0 {G : ZG} {M : ZM} {W : Nat → Nat → Nat} {B : ZA} (hC : zC M W B) {d : Nat} (hv : zVal B 3 d) (hm : B.1 16 = -1) : zMet G mX2_needRemovable [.ref (W 10 0), .ref (W 3 (d))] M (znd (¬ 0 < zcN (zpu B d) 50) none zISE M) := by
  refine zbody zyX2_needRemovable [some (.ref (W 10 0)), some (.ref (W 3 (d)))] rfl (Nat.le_of_ble_eq_true rfl) (by intro v hv; simp only [List.mem_cons, List.not_mem_nil, or_false] at hv; rcases hv with rfl | rfl <;> rfl) (fun E K => ?_)
  refine zq_aload_n K dX2_needRemovable_0 rfl rfl ?_
  refine zq_callV (As := []) K dX2_needRemovable_1 zyX0_countTaken zm_X2_225 ziX0_countTaken zvX0_countTaken zclX0 rfl (by decide) rfl rfl (Nat.le_of_ble_eq_true rfl) (Nat.le_of_ble_eq_true rfl) (hC.d hv).1 (ct_X0_countTaken hC hv) (zone_r ?_) zone_x (Nat.le_refl _)
  refine zq_if_leN K (x := zcN (zpu B d) 50) 17 dX2_needRemovable_4 (by decide) (by have := zcN_le (zpu B d) 50; omega) (fun h4 => ?_) (fun h4 => ?_)
  · refine zq_aload_n K dX2_needRemovable_17 rfl rfl ?_
    refine zq_getRn K dX2_needRemovable_18 zclX2 (k := 7) (by decide) zf_X2_197 rfl hC.x.1 (hC.m0 hm) ?_
    refine zq_ifnull_n K 48 dX2_needRemovable_21 (by decide) ?_
    exact zq_ret K dX2_needRemovable_48 rfl ⟨rfl, Or.inl ⟨by omega, rfl⟩⟩
  · exact zq_throw K (text := "the directory is not empty") zthISE (by decide +kernel) dX2_needRemovable_7 dX2_needRemovable_10 dX2_needRemovable_11 dX2_needRemovable_13 dX2_needRemovable_16 (by decide) (Nat.le_of_ble_eq_true rfl) (Nat.le_of_ble_eq_true rfl) ⟨rfl, Or.inr ⟨fun z => z (by omega), rfl⟩⟩
theorem ct_X2_needRemovable_1 {G : ZG} {M : ZM} {W : Nat → Nat → Nat} {B : ZA} (hC : zC M W B) {d : Nat} (hv : zVal B 3 d) {m : Nat} (hm : B.1 16 = nI m) (hv9 : zVal B 9 m) : zMet G mX2_needRemovable [.ref (W 10 0), .ref (W 3 (d))] M (znd (¬ (0 < zcN (zpu B d) 50 ∨ m / 8 = d)) none zISE M) := by
  refine zbody zyX2_needRemovable [some (.ref (W 10 0)), some (.ref (W 3 (d)))] rfl (Nat.le_of_ble_eq_true rfl) (by intro v hv; simp only [List.mem_cons, List.not_mem_nil, or_false] at hv; rcases hv with rfl | rfl <;> rfl) (fun E K => ?_)
  refine zq_aload_n K dX2_needRemovable_0 rfl rfl ?_
  refine zq_callV (As := []) K dX2_needRemovable_1 zyX0_countTaken zm_X2_225 ziX0_countTaken zvX0_countTaken zclX0 rfl (by decide) rfl rfl (Nat.le_of_ble_eq_true rfl) (Nat.le_of_ble_eq_true rfl) (hC.d hv).1 (ct_X0_countTaken hC hv) (zone_r ?_) zone_x (Nat.le_refl _)
  refine zq_if_leN K (x := zcN (zpu B d) 50) 17 dX2_needRemovable_4 (by decide) (by have := zcN_le (zpu B d) 50; omega) (fun h4 => ?_) (fun h4 => ?_)
  · refine zq_aload_n K dX2_needRemovable_17 rfl rfl ?_
    refine zq_getRs K dX2_needRemovable_18 zclX2 (k := 7) (by decide) zf_X2_197 rfl hC.x.1 (hC.m1 hm hv9.1) ?_
    refine zq_ifnull_r K dX2_needRemovable_21 ?_
    refine zq_aload_n K dX2_needRemovable_24 rfl rfl ?_
    refine zq_getRs K dX2_needRemovable_25 zclX2 (k := 7) (by decide) zf_X2_197 rfl hC.x.1 (hC.m1 hm hv9.1) ?_
    refine zq_getI K dX2_needRemovable_28 zclX1 (k := 0) (by decide) zf_X2_219 rfl (hC.f hv9).1 ?_
    refine zq_top (hC.f hv9).2.1 ?_
    refine zq_aload_n K dX2_needRemovable_31 rfl rfl ?_
    refine zq_getI K dX2_needRemovable_32 zclX0 (k := 0) (by decide) zf_X2_108 rfl (hC.d hv).1 ?_
    refine zq_top (hC.d hv).2.1 ?_
    refine zq_icmp_neN K (x := (m) / 8) (y := d) 48 dX2_needRemovable_35 (by decide) ⟨by have := hv9.1; omega, by have := hv.1; omega⟩ (fun h35 => ?_) (fun h35 => ?_)
    · exact zq_ret K dX2_needRemovable_48 rfl ⟨rfl, Or.inl ⟨fun z => z.elim (fun y => by omega) (fun y => by omega), rfl⟩⟩
    · exact zq_throw K (text := "a fragment of the directory moves") zthISE (by decide +kernel) dX2_needRemovable_38 dX2_needRemovable_41 dX2_needRemovable_42 dX2_needRemovable_44 dX2_needRemovable_47 (by decide) (Nat.le_of_ble_eq_true rfl) (Nat.le_of_ble_eq_true rfl) ⟨rfl, Or.inr ⟨fun z => z (Or.inr (by omega)), rfl⟩⟩
  · exact zq_throw K (text := "the directory is not empty") zthISE (by decide +kernel) dX2_needRemovable_7 dX2_needRemovable_10 dX2_needRemovable_11 dX2_needRemovable_13 dX2_needRemovable_16 (by decide) (Nat.le_of_ble_eq_true rfl) (Nat.le_of_ble_eq_true rfl) ⟨rfl, Or.inr ⟨fun z => z (Or.inl (by omega)), rfl⟩⟩

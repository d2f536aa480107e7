/-! the law: one directory and all files as beside -/
theorem zoi_n {o : Option Nat} (h : zoi o < 0) (hk : ∀ i, o = some i → i < 60) : o = none := by
  rcases zoi_0 o hk (Nat.le_refl _) with g | ⟨i, -, -, -, g⟩
  · exact g.1
  · exact absurd h g
theorem zoi_y {o : Option Nat} {m : Nat} (h : ¬ zoi o < 0) (hk : ∀ i, o = some i → i < m) (hm : m ≤ 60) : ∃ i, o = some i ∧ i < m ∧ zoi o = nI i := by
  rcases zoi_0 o hk hm with g | ⟨i, g1, g2, g3, -⟩
  · exact absurd g.2 h
  · exact ⟨i, g1, g2, g3⟩
theorem lp1_L_isAsBeside {G : ZG} {E : ZE} {Q : State → Prop} (K : zOK mL_isAsBeside [] G E) {c tr ag tt d cl : Nat} {T U V : Nat → Int32} {t : Nat} (hd : d < 12) (hcl : cl < 4) (kk : ∀ (M : ZM) (W : Nat → Nat → Nat) (B A : ZA) (b : Nat) (l8 l9 : Option Value), zSe M W B c tr ag tt → zRo M tr ag tt T U V → zIv A B (t + 5) → zTm A T U V → A.2 3 d = 1 → 150 ≤ b → WW E G (zyu mL_isAsBeside) Q M b 88 [some (.ref (c)), some (.ref (tr)), some (.ref (ag)), some (.ref (tt)), some (.int (nI (d))), some (.int (nI (cl))), some (.int (nI (1))), some (.int (nI (5))), l8, l9] []) : ∀ (n k : Nat), k + n = 5 → ∀ (M : ZM) (W : Nat → Nat → Nat) (B A : ZA) (b : Nat) (l8 l9 : Option Value), zSe M W B c tr ag tt → zRo M tr ag tt T U V → zIv A B (t + k) → zTm A T U V → A.2 3 d = 1 → 150 + 5 * n ≤ b → WW E G (zyu mL_isAsBeside) Q M b 25 [some (.ref (c)), some (.ref (tr)), some (.ref (ag)), some (.ref (tt)), some (.int (nI (d))), some (.int (nI (cl))), some (.int (nI (1))), some (.int (nI (k))), l8, l9] [] := by
  intro n
  induction n with
  | zero =>
    intro k hk M W B A b l8 l9 hS hR hI hT hv hb
    have hk4 : k = 5 := by omega
    subst hk4
    refine zq_iload K dL_isAsBeside_25 rfl ?_
    refine zq_iconst K dL_isAsBeside_27 (v := nI 5) (by decide) ?_
    refine zq_icmp_geN K (x := 5) (y := 5) 88 dL_isAsBeside_28 (by decide) ⟨by omega, by omega⟩ (fun h28 => ?_) (fun h28 => by omega)
    exact kk M W B A b l8 l9 hS hR hI hT hv (by omega)
  | succ n ih =>
    intro k hk M W B A b l8 l9 hS hR hI hT hv hb
    refine zq_iload K dL_isAsBeside_25 rfl ?_
    refine zq_iconst K dL_isAsBeside_27 (v := nI 5) (by decide) ?_
    refine zq_icmp_geN K (x := k) (y := 5) 88 dL_isAsBeside_28 (by decide) ⟨by omega, by omega⟩ (fun h28 => by omega) (fun h28 => ?_)
    refine zq_iload K dL_isAsBeside_31 rfl ?_
    refine zq_if_eqN K (x := 1) 88 dL_isAsBeside_33 (by decide) (by omega) (fun h33 => by omega) (fun h33 => ?_)
    refine zq_aload_n K dL_isAsBeside_36 rfl rfl ?_
    refine zq_iconst K dL_isAsBeside_37 (v := nI 5) (by decide) ?_
    refine zq_iload K dL_isAsBeside_38 rfl ?_
    refine zq_imulN K (x := 5) (y := d) dL_isAsBeside_40 ?_
    refine zq_iload K dL_isAsBeside_41 rfl ?_
    refine zq_iaddN K (x := (5) * (d)) (y := k) dL_isAsBeside_43 ?_
    refine zl_ld K (((5) * (d)) + (k)) dL_isAsBeside_44 hR.1 rfl (by omega) (by decide) ?_
    refine zq_top (v := A.2 6 (50 * d + k)) (hT.at hd (by omega)) ?_
    refine zq_istore K dL_isAsBeside_45 (by decide) ?_
    refine zq_aload_n K dL_isAsBeside_47 rfl rfl ?_
    refine zq_iload K dL_isAsBeside_48 rfl ?_
    refine zq_iload K dL_isAsBeside_50 rfl ?_
    refine zq_callV (As := [.int (nI (d)), .int (nI (k))]) K dL_isAsBeside_52 zyX2_byTree zm_L_20 ziX2_byTree zvX2_byTree zclX2 rfl (by decide) rfl rfl (Nat.le_of_ble_eq_true rfl) (by show 2 ≤ b; omega) hS.o (zcw hS (ct_X2_byTree_ok hS.1 (hI.ag.wf hI.wf) (hI.ag.val.mpr ⟨hd, hv⟩) (by omega))) (zone_r ?_) zone_x (Nat.le_refl _)
    refine zq_top (v := A.2 6 (50 * d + k)) (by rw [hI.ag.k 6 (by decide)]) ?_
    refine zq_iload K dL_isAsBeside_55 rfl ?_
    refine zq_icmp_ne K 79 dL_isAsBeside_57 (by decide) (fun h57 => absurd rfl h57) (fun h57 => ?_)
    refine zq_aload_n K dL_isAsBeside_60 rfl rfl ?_
    refine zq_iload K dL_isAsBeside_61 rfl ?_
    refine zq_iload K dL_isAsBeside_63 rfl ?_
    refine zq_iload K dL_isAsBeside_65 rfl ?_
    obtain ⟨A2, B2, hcall, hI2, e1, e3, e6, e7⟩ := pm_lookup hI hcl hd hv (n := k) (by omega)
    refine zq_callV (As := [.int (nI (cl)), .int (nI (d)), .int (nI (k))]) K dL_isAsBeside_67 zyX2_lookup zm_L_24 ziX2_lookup zvX2_lookup zclX2 rfl (by decide) rfl rfl (Nat.le_of_ble_eq_true rfl) (by show 3 ≤ b - 2; omega) hS.o (zcw hS (hcall G M W hS.1)) (zK_r hS hR (fun M W hS hR => ?_)) zCW_x (Nat.le_refl _)
    refine zq_iload K dL_isAsBeside_70 rfl ?_
    refine zq_icmp_ne K 79 dL_isAsBeside_72 (by decide) (fun h72 => absurd rfl h72) (fun h72 => ?_)
    refine zq_iconst K dL_isAsBeside_75 (v := nI 1) (by decide) ?_
    refine zq_goto K 80 dL_isAsBeside_76 (by decide) ?_
    refine zq_istore K dL_isAsBeside_80 (by decide) ?_
    refine zq_iincN K dL_isAsBeside_82 rfl (by decide) ?_
    refine zq_goto K 25 dL_isAsBeside_85 (by decide) ?_
    exact ih (k + 1) (by omega) M W B2 A2 _ _ _ hS hR hI2 (hT.cg e1 e6 e7) (by rw [e3]; exact hv) (by show 150 + 5 * n ≤ b - 2 - 3; omega)
theorem lpi_L_isAsBeside {G : ZG} {E : ZE} {Q : State → Prop} (K : zOK mL_isAsBeside [] G E) {c tr ag tt d cl : Nat} {T U V : Nat → Int32} {M : ZM} (hR : zRo M tr ag tt T U V) {f b : Nat} (hf : f < 30) (hQ : WW E G (zyu mL_isAsBeside) Q M b 157 [some (.ref (c)), some (.ref (tr)), some (.ref (ag)), some (.ref (tt)), some (.int (nI (d))), some (.int (nI (cl))), some (.int (nI (1))), some (.int (nI (f))), some (.int (zoi (zol T U (nI f) 60))), some (.int (nI (60)))] []) : ∀ (n j : Nat), j + n = 60 → WW E G (zyu mL_isAsBeside) Q M b 110 [some (.ref (c)), some (.ref (tr)), some (.ref (ag)), some (.ref (tt)), some (.int (nI (d))), some (.int (nI (cl))), some (.int (nI (1))), some (.int (nI (f))), some (.int (zoi (zol T U (nI f) j))), some (.int (nI (j)))] [] := by
  intro n
  induction n with
  | zero =>
    intro j hj
    have hj4 : j = 60 := by omega
    subst hj4
    refine zq_iload K dL_isAsBeside_110 rfl ?_
    refine zq_bipush K dL_isAsBeside_112 (v := nI 60) (by decide) ?_
    refine zq_icmp_geN K (x := 60) (y := 60) 157 dL_isAsBeside_114 (by decide) ⟨by omega, by omega⟩ (fun h114 => ?_) (fun h114 => by omega)
    exact hQ
  | succ n ih =>
    intro j hj
    have hlt : ∀ i, zol T U (nI f) j = some i → i < j := fun i hi => zol_lt hi
    refine zq_iload K dL_isAsBeside_110 rfl ?_
    refine zq_bipush K dL_isAsBeside_112 (v := nI 60) (by decide) ?_
    refine zq_icmp_geN K (x := j) (y := 60) 157 dL_isAsBeside_114 (by decide) ⟨by omega, by omega⟩ (fun h114 => by omega) (fun h114 => ?_)
    refine zq_aload_n K dL_isAsBeside_117 rfl rfl ?_
    refine zq_iload K dL_isAsBeside_118 rfl ?_
    refine zl_ld K (j) dL_isAsBeside_120 hR.1 rfl (by omega) (by decide) ?_
    refine zq_iload K dL_isAsBeside_121 rfl ?_
    refine zq_icmp_ne K 147 dL_isAsBeside_123 (by decide) (fun h123 => ?_) (fun h123 => ?_)
    · refine zq_iload K dL_isAsBeside_147 rfl ?_
      refine zq_istore K dL_isAsBeside_149 (by decide) ?_
      refine zq_iincN K dL_isAsBeside_151 rfl (by decide) ?_
      refine zq_goto K 110 dL_isAsBeside_154 (by decide) ?_
      have g := ih (j + 1) (by omega)
      rw [show zol T U (nI f) (j + 1) = zol T U (nI f) j from if_neg h123] at g
      exact g
    · refine zq_iload K dL_isAsBeside_126 rfl ?_
      refine zq_if_lt K 142 dL_isAsBeside_128 (by decide) (fun h128 => ?_) (fun h128 => ?_)
      · refine zq_iload K dL_isAsBeside_142 rfl ?_
        refine zq_goto K 149 dL_isAsBeside_144 (by decide) ?_
        refine zq_istore K dL_isAsBeside_149 (by decide) ?_
        refine zq_iincN K dL_isAsBeside_151 rfl (by decide) ?_
        refine zq_goto K 110 dL_isAsBeside_154 (by decide) ?_
        have g := ih (j + 1) (by omega)
        rw [zol_s h123 (zoi_n h128 (fun i hi => by have := hlt i hi; omega))] at g
        exact g
      · obtain ⟨i, hi1, hi2, hi3⟩ := zoi_y h128 hlt (by omega)
        refine zq_aload_n K dL_isAsBeside_131 rfl rfl ?_
        refine zq_iload K dL_isAsBeside_132 rfl ?_
        refine zl_ld K (j) dL_isAsBeside_134 hR.2.1 rfl (by omega) (by decide) ?_
        refine zq_aload_n K dL_isAsBeside_135 rfl rfl ?_
        refine zq_iload K dL_isAsBeside_136 rfl ?_
        refine zl_ld K (i) dL_isAsBeside_138 hR.2.1 hi3 (by omega) (by decide) ?_
        refine zq_icmp_ge K 147 dL_isAsBeside_139 (by decide) (fun h139 => ?_) (fun h139 => ?_)
        · refine zq_iload K dL_isAsBeside_147 rfl ?_
          refine zq_istore K dL_isAsBeside_149 (by decide) ?_
          refine zq_iincN K dL_isAsBeside_151 rfl (by decide) ?_
          refine zq_goto K 110 dL_isAsBeside_154 (by decide) ?_
          have g := ih (j + 1) (by omega)
          rw [zol_s h123 hi1, show zcc U j (some i) = some i from if_neg (Int32.not_lt.mpr h139)] at g
          rw [hi1]
          exact g
        · refine zq_iload K dL_isAsBeside_142 rfl ?_
          refine zq_goto K 149 dL_isAsBeside_144 (by decide) ?_
          refine zq_istore K dL_isAsBeside_149 (by decide) ?_
          refine zq_iincN K dL_isAsBeside_151 rfl (by decide) ?_
          refine zq_goto K 110 dL_isAsBeside_154 (by decide) ?_
          have g := ih (j + 1) (by omega)
          rw [zol_s h123 hi1, show zcc U j (some i) = some j from if_pos (Int32.not_le.mp h139)] at g
          exact g
theorem lp2_L_isAsBeside {G : ZG} {E : ZE} (K : zOK mL_isAsBeside [] G E) {c tr ag tt d cl : Nat} {T U V : Nat → Int32} {M : ZM} {W : Nat → Nat → Nat} {B A : ZA} {t F : Nat} (hS : zSe M W B c tr ag tt) (hR : zRo M tr ag tt T U V) (hI : zIv A B t) (hT : zTm A T U V) (ht : t ≤ 600) (hF : A.1 9 = nI F) (hF30 : F ≤ 30) {P : ZO → ZM → Prop} (hP : P (.inl (some (.int (nI 1)))) M) : ∀ (n k : Nat), k + n = F → ∀ (b : Nat) (l8 l9 : Option Value), 3 * n ≤ b → WW E G (zyu mL_isAsBeside) (zQ E G mL_isAsBeside P) M b 91 [some (.ref (c)), some (.ref (tr)), some (.ref (ag)), some (.ref (tt)), some (.int (nI (d))), some (.int (nI (cl))), some (.int (nI (1))), some (.int (nI (k))), l8, l9] [] := by
  have hVF : V 1 = nI F := by rw [hT.2.2.2.1]; exact hF
  have hFB : B.1 9 = nI F := by rw [hI.ag.1]; exact hF
  intro n
  induction n with
  | zero =>
    intro k hk b l8 l9 hb
    have hk4 : k = F := by omega
    subst hk4
    refine zq_iload K dL_isAsBeside_91 rfl ?_
    refine zq_aload_n K dL_isAsBeside_93 rfl rfl ?_
    refine zq_iconst K dL_isAsBeside_94 (v := nI 1) (by decide) ?_
    refine zl_ld K (1) dL_isAsBeside_95 hR.2.2 rfl (by decide) (by decide) ?_
    refine zq_top (v := nI (k)) hVF ?_
    refine zq_icmp_geN K (x := k) (y := k) 215 dL_isAsBeside_96 (by decide) ⟨by omega, by omega⟩ (fun h96 => ?_) (fun h96 => by omega)
    refine zq_iload K dL_isAsBeside_215 rfl ?_
    exact zq_zret K dL_isAsBeside_217 rfl (by decide) hP
  | succ n ih =>
    intro k hk b l8 l9 hb
    have hk30 : k < 30 := by omega
    refine zq_iload K dL_isAsBeside_91 rfl ?_
    refine zq_aload_n K dL_isAsBeside_93 rfl rfl ?_
    refine zq_iconst K dL_isAsBeside_94 (v := nI 1) (by decide) ?_
    refine zl_ld K (1) dL_isAsBeside_95 hR.2.2 rfl (by decide) (by decide) ?_
    refine zq_top (v := nI (F)) hVF ?_
    refine zq_icmp_geN K (x := k) (y := F) 215 dL_isAsBeside_96 (by decide) ⟨by omega, by omega⟩ (fun h96 => by omega) (fun h96 => ?_)
    refine zq_iload K dL_isAsBeside_99 rfl ?_
    refine zq_if_eqN K (x := 1) 215 dL_isAsBeside_101 (by decide) (by omega) (fun h101 => by omega) (fun h101 => ?_)
    refine zq_iconst K dL_isAsBeside_104 (v := -1) (by decide) ?_
    refine zq_istore K dL_isAsBeside_105 (by decide) ?_
    refine zq_iconst K dL_isAsBeside_107 (v := nI 0) (by decide) ?_
    refine zq_istore K dL_isAsBeside_108 (by decide) ?_
    refine lpi_L_isAsBeside K hR hk30 ?_ 60 0 rfl
    refine zq_aload_n K dL_isAsBeside_157 rfl rfl ?_
    refine zq_iload K dL_isAsBeside_158 rfl ?_
    refine zq_callV (As := [.int (nI (k))]) K dL_isAsBeside_160 zyX2_links zm_L_28 ziX2_links zvX2_links zclX2 rfl (by decide) rfl rfl (Nat.le_of_ble_eq_true rfl) (by show 1 ≤ b; omega) hS.o (zcw hS (ct_X2_links_ok hS.1 hFB hF30 ⟨k, by omega, rfl⟩)) (zone_r ?_) zone_x (Nat.le_refl _)
    obtain ⟨D9, F9, T9, L9, hJ9, hA9, -⟩ := id hI.1
    refine zq_top (v := nI (zcN (zpc T (nI k)) 60)) (congrArg nI ((zlinks hJ9 hA9 hk30).symm.trans (hT.ct hI hk30))) ?_
    refine zq_aload_n K dL_isAsBeside_163 rfl rfl ?_
    refine zq_iload K dL_isAsBeside_164 rfl ?_
    refine zq_callS (As := [.ref (tr), .int (nI (k))]) K dL_isAsBeside_166 zyL_count zm_L_31 zsL_count rfl (by decide) rfl rfl (Nat.le_of_ble_eq_true rfl) (Nat.zero_le _) (ct_L_count hR.1 (nI k)) (zone_r ?_) zone_x (Nat.le_refl _)
    have hz9 := zcN_le (zpc T (nI k)) 60
    refine zq_icmp_neN K (x := zcN (zpc T (nI k)) 60) (y := zcN (zpc T (nI k)) 60) 206 dL_isAsBeside_169 (by decide) ⟨by omega, by omega⟩ (fun h169 => by omega) (fun h169 => ?_)
    refine zq_aload_n K dL_isAsBeside_172 rfl rfl ?_
    refine zq_iload K dL_isAsBeside_173 rfl ?_
    refine zq_callV (As := [.int (nI (k))]) K dL_isAsBeside_175 zyX2_anchor zm_L_34 ziX2_anchor zvX2_anchor zclX2 rfl (by decide) rfl rfl (Nat.le_of_ble_eq_true rfl) (by show 1 ≤ b - 1 - 0; omega) hS.o (zcw hS (ct_X2_anchor_ok hS.1 hFB hF30 ⟨k, by omega, rfl⟩)) (zone_r ?_) zone_x (Nat.le_refl _)
    refine zq_top (v := zoa (zol T U (nI k) 60)) (hT.an hI ht hk30) ?_
    refine zq_iload K dL_isAsBeside_178 rfl ?_
    refine zq_if_ge K 187 dL_isAsBeside_180 (by decide) (fun h180 => ?_) (fun h180 => ?_)
    · obtain ⟨i, hi1, hi2, hi3⟩ := zoi_y (Int32.not_lt.mpr h180) (m := 60) (fun i hi => zol_lt hi) (Nat.le_refl _)
      refine zq_bipush K dL_isAsBeside_187 (v := nI 100) (by decide) ?_
      refine zq_iload K dL_isAsBeside_189 rfl ?_
      refine zq_top (v := nI i) hi3 ?_
      refine zq_iconst K dL_isAsBeside_191 (v := nI 5) (by decide) ?_
      refine zq_idivN K (x := i) (y := 5) dL_isAsBeside_192 ⟨by omega, by decide, by decide⟩ ?_
      refine zq_imulN K (x := 100) (y := (i) / (5)) dL_isAsBeside_193 ?_
      refine zq_iload K dL_isAsBeside_194 rfl ?_
      refine zq_top (v := nI i) hi3 ?_
      refine zq_iconst K dL_isAsBeside_196 (v := nI 5) (by decide) ?_
      refine zq_iremN K (x := i) (y := 5) dL_isAsBeside_197 ⟨by omega, by decide, by decide⟩ ?_
      refine zq_iaddN K (x := (100) * ((i) / (5))) (y := (i) % (5)) dL_isAsBeside_198 ?_
      refine zq_icmp_ne K 206 dL_isAsBeside_199 (by decide) (fun h199 => absurd (by rw [hi1]; rfl) h199) (fun h199 => ?_)
      refine zq_iconst K dL_isAsBeside_202 (v := nI 1) (by decide) ?_
      refine zq_goto K 207 dL_isAsBeside_203 (by decide) ?_
      refine zq_istore K dL_isAsBeside_207 (by decide) ?_
      refine zq_iincN K dL_isAsBeside_209 rfl (by decide) ?_
      refine zq_goto K 91 dL_isAsBeside_212 (by decide) ?_
      exact ih (k + 1) (by omega) _ _ _ (by show 3 * n ≤ b - 1 - 0 - 1; omega)
    · have e9 := zoi_n (Int32.not_le.mp h180) (fun i hi => zol_lt hi)
      refine zq_iconst K dL_isAsBeside_183 (v := -1) (by decide) ?_
      refine zq_goto K 199 dL_isAsBeside_184 (by decide) ?_
      refine zq_icmp_ne K 206 dL_isAsBeside_199 (by decide) (fun h199 => absurd (by rw [e9]; rfl) h199) (fun h199 => ?_)
      refine zq_iconst K dL_isAsBeside_202 (v := nI 1) (by decide) ?_
      refine zq_goto K 207 dL_isAsBeside_203 (by decide) ?_
      refine zq_istore K dL_isAsBeside_207 (by decide) ?_
      refine zq_iincN K dL_isAsBeside_209 rfl (by decide) ?_
      refine zq_goto K 91 dL_isAsBeside_212 (by decide) ?_
      exact ih (k + 1) (by omega) _ _ _ (by show 3 * n ≤ b - 1 - 0 - 1; omega)
/-- what it does: it answers true; the class's numbers go on, the law's rows stay -/
def zBe (c tr ag tt t : Nat) (T U V : Nat → Int32) : ZO → ZM → Prop := fun o M' => o = .inl (some (.int (nI 1))) ∧ ∃ (W : Nat → Nat → Nat) (B A : ZA), zSe M' W B c tr ag tt ∧ zRo M' tr ag tt T U V ∧ zIv A B (t + 5) ∧ zTm A T U V
theorem ct_L_isAsBeside {G : ZG} {M : ZM} {W : Nat → Nat → Nat} {B A : ZA} {c tr ag tt d cl t : Nat} {T U V : Nat → Int32} (hS : zSe M W B c tr ag tt) (hR : zRo M tr ag tt T U V) (hI : zIv A B t) (hT : zTm A T U V) (ht : t + 5 ≤ 600) (hd : d < 12) (hv : A.2 3 d = 1) (hcl : cl < 4) : zMet G mL_isAsBeside [.ref (c), .ref (tr), .ref (ag), .ref (tt), .int (nI (d)), .int (nI (cl))] M (zBe c tr ag tt t T U V) := by
  refine zbody zyL_isAsBeside [some (.ref (c)), some (.ref (tr)), some (.ref (ag)), some (.ref (tt)), some (.int (nI (d))), some (.int (nI (cl))), none, none, none, none] rfl (Nat.le_of_ble_eq_true rfl) (by intro v hv; simp only [List.mem_cons, List.not_mem_nil, or_false] at hv; rcases hv with rfl | rfl | rfl | rfl | rfl | rfl <;> rfl) (fun E K => ?_)
  refine zq_aload_n K dL_isAsBeside_0 rfl rfl ?_
  refine zq_iload K dL_isAsBeside_1 rfl ?_
  refine zq_callV (As := [.int (nI (d))]) K dL_isAsBeside_3 zyX2_size zm_L_8 ziX2_size zvX2_size zclX2 rfl (by decide) rfl rfl (Nat.le_of_ble_eq_true rfl) (Nat.le_of_ble_eq_true rfl) hS.o (zcw hS (ct_X2_size_ok hS.1 (hI.ag.val.mpr ⟨hd, hv⟩))) (zone_r ?_) zone_x (Nat.le_refl _)
  refine zq_top (v := nI (zcN (zpq T d) 5)) (congrArg nI (by rw [hI.ag.pu]; exact hT.us hI hd)) ?_
  refine zq_aload_n K dL_isAsBeside_6 rfl rfl ?_
  refine zq_iload K dL_isAsBeside_7 rfl ?_
  refine zq_callS (As := [.ref (tr), .int (nI (d))]) K dL_isAsBeside_9 zyL_used zm_L_14 zsL_used rfl (by decide) rfl rfl (Nat.le_of_ble_eq_true rfl) (Nat.le_of_ble_eq_true rfl) (ct_L_used hR.1 hd) (zone_r ?_) zone_x (Nat.le_refl _)
  have hz9 := zcN_le (zpq T d) 5
  refine zq_icmp_neN K (x := zcN (zpq T d) 5) (y := zcN (zpq T d) 5) 19 dL_isAsBeside_12 (by decide) ⟨by omega, by omega⟩ (fun h12 => by omega) (fun h12 => ?_)
  refine zq_iconst K dL_isAsBeside_15 (v := nI 1) (by decide) ?_
  refine zq_goto K 20 dL_isAsBeside_16 (by decide) ?_
  refine zq_istore K dL_isAsBeside_20 (by decide) ?_
  refine zq_iconst K dL_isAsBeside_22 (v := nI 0) (by decide) ?_
  refine zq_istore K dL_isAsBeside_23 (by decide) ?_
  refine lp1_L_isAsBeside K hd hcl (fun M W B A b l8 l9 hS hR hI hT hv hb => ?_) 5 0 rfl M W B A _ none none hS hR hI hT hv (by show 150 + 5 * 5 ≤ 200 - 1 - 0; omega)
  refine zq_iconst K dL_isAsBeside_88 (v := nI 0) (by decide) ?_
  refine zq_istore K dL_isAsBeside_89 (by decide) ?_
  obtain ⟨-, F, -, -, -, -, hF, hF30, -⟩ := hI.n
  exact lp2_L_isAsBeside K hS hR hI hT (by omega) hF hF30 ⟨rfl, W, B, A, hS, hR, hI, hT⟩ F 0 (by omega) b l8 l9 (by omega)

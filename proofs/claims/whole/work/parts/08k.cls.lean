theorem ct_X0_halve {G : ZG} {M : ZM} {W : Nat → Nat → Nat} {B : ZA} (hC : zC M W B) (hM : zMw B) {d g t : Nat} (hv : zVal B 3 d) (hv1 : zVal B 9 (8 * d + g)) (ht : 1 ≤ t) (hg : g + t + t ≤ 8) (e1 : B.2 10 (8 * d + g) = nI (2 * t)) (e2 : B.2 10 (8 * d + g + t) = 0) (hT : ∀ h, h < 8 → zfg ((zSp B (8 * d + g) (2 * t)).2 10) d h = if g + t ≤ h ∧ h < g + t + t then g + t else zfg (B.2 10) d h) : zMet G mX0_halve [.ref (W 3 (d)), .ref (W 9 (8 * d + g))] M (zPP (fun M' => ∃ a, zk M a = 0 ∧ zC M' (zW1 W 9 (8 * d + g + t) a) (zSp B (8 * d + g) (2 * t)) ∧ zFm M W B M') none) := by
  refine zbody zyX0_halve [some (.ref (W 3 (d))), some (.ref (W 9 (8 * d + g))), none, none, none] rfl (Nat.le_of_ble_eq_true rfl) (by intro v hv; simp only [List.mem_cons, List.not_mem_nil, or_false] at hv; rcases hv with rfl | rfl <;> rfl) (fun E K => ?_)
  refine zq_aload_n K dX0_halve_0 rfl rfl ?_
  refine zq_getI K dX0_halve_1 zclX1 (k := 2) (by decide) zf_X0_64 rfl (hC.f hv1).1 ?_
  refine zq_top (v := nI (2 * t)) ((hC.f hv1).2.2.2.1.trans e1) ?_
  refine zq_iconst K dX0_halve_4 (v := nI 2) (by decide) ?_
  refine zq_idivN K (x := 2 * t) (y := 2) dX0_halve_5 (by omega) ?_
  refine zq_top (v := nI (t)) (congrArg nI (by omega)) ?_
  refine zq_istore_n K dX0_halve_6 rfl (by decide) ?_
  refine zq_aload_n K dX0_halve_7 rfl rfl ?_
  refine zq_getI K dX0_halve_8 zclX1 (k := 4) (by decide) zf_X0_67 rfl (hC.f hv1).1 ?_
  refine zq_top (v := B.2 12 (8 * d + g)) (hC.f hv1).2.2.2.2.2 ?_
  refine zq_iconst K dX0_halve_11 (v := nI 2) (by decide) ?_
  refine zq_idiv K dX0_halve_12 (nI_ne0 (by decide) (by decide)) ?_
  refine zq_istore_n K dX0_halve_13 rfl (by decide) ?_
  refine zq_new K dX0_halve_14 zclX1 zc_X0_23 (by decide) (by decide) (Nat.le_of_ble_eq_true rfl) (Nat.le_refl _) (fun a ha => ?_)
  have n9 : W 9 (8 * d + g) ≠ a := fun e => hC.nz hv1 (e ▸ ha)
  have n3 : W 3 d ≠ a := fun e => hC.nz hv (e ▸ ha)
  have n8 : W 8 d ≠ a := fun e => hC.nz (i := 8) (j := d) hv (e ▸ ha)
  have k9 := (show zk (zw M a 2 0) (W 9 (8 * d + g)) = 2 from by rw [zk_w, if_neg n9]; exact (hC.f hv1).1)
  have k3 := (show zk (zw M a 2 0) (W 3 d) = 1 from by rw [zk_w, if_neg n3]; exact (hC.d hv).1)
  refine zq_dup K dX0_halve_17 rfl ?_
  refine zq_aload_n K dX0_halve_18 rfl rfl ?_
  refine zq_getI K dX0_halve_19 zclX0 (k := 0) (by decide) zf_X0_29 rfl k3 ?_
  refine zq_top (v := nI (d)) (by rw [zi_w, if_neg n3]; exact (hC.d hv).2.1) ?_
  refine zq_aload_n K dX0_halve_22 rfl rfl ?_
  refine zq_getI K dX0_halve_23 zclX1 (k := 1) (by decide) zf_X0_58 rfl k9 ?_
  refine zq_top (v := nI (g)) (by rw [zi_w, if_neg n9, (hC.f hv1).2.2.1, show (8 * d + g) % 8 = g by omega]) ?_
  refine zq_iload_n K dX0_halve_26 rfl rfl ?_
  refine zq_iaddN K (x := g) (y := t) dX0_halve_27 ?_
  refine zq_iload_n K dX0_halve_28 rfl rfl ?_
  refine zq_aload_n K dX0_halve_29 rfl rfl ?_
  refine zq_getI K dX0_halve_30 zclX1 (k := 3) (by decide) zf_X0_70 rfl k9 ?_
  refine zq_top (v := B.2 11 (8 * d + g)) (by rw [zi_w, if_neg n9]; exact (hC.f hv1).2.2.2.2.1) ?_
  refine zq_iload_n K dX0_halve_33 rfl rfl ?_
  refine zq_callI (As := [.int (nI (d)), .int (nI ((g) + (t))), .int (nI (t)), .int (B.2 11 (8 * d + g)), .int ((B.2 12 (8 * d + g)) / (nI (2)))]) K dX0_halve_34 zyX1_init rfl rfl zm_X0_40 ziX1_init (by decide) rfl rfl (Nat.le_of_ble_eq_true rfl) (Nat.le_of_ble_eq_true rfl) (ct_X1_init (show zk (zw M a 2 0) a = 2 from by rw [zk_w, if_pos rfl]) (nI d) (nI (g + t)) (nI t) (B.2 11 (8 * d + g)) (B.2 12 (8 * d + g) / nI 2)) (zone_r ?_) zone_x (Nat.le_refl _)
  refine zq_astore K dX0_halve_37 (by decide) ?_
  refine zq_aload_n K dX0_halve_39 rfl rfl ?_
  refine zq_iload_n K dX0_halve_40 rfl rfl ?_
  refine zq_putI K dX0_halve_41 zclX1 (k := 2) (by decide) zf_X0_64 (Or.inl rfl) rfl rfl k9 ?_
  refine zq_aload_n K dX0_halve_44 rfl rfl ?_
  refine zq_dup K dX0_halve_45 rfl ?_
  refine zq_getI K dX0_halve_46 zclX1 (k := 4) (by decide) zf_X0_67 rfl k9 ?_
  refine zq_top (v := B.2 12 (8 * d + g)) (by rw [zi_i, if_neg (fun z => absurd z.2 (by decide)), zi_i, if_neg (fun z => n9 z.1), zi_i, if_neg (fun z => n9 z.1), zi_i, if_neg (fun z => n9 z.1), zi_i, if_neg (fun z => n9 z.1), zi_i, if_neg (fun z => n9 z.1), zi_w, if_neg n9]; exact (hC.f hv1).2.2.2.2.2) ?_
  refine zq_iload_n K dX0_halve_49 rfl rfl ?_
  refine zq_isub K dX0_halve_50 ?_
  refine zq_putI K dX0_halve_51 zclX1 (k := 4) (by decide) zf_X0_67 (Or.inl rfl) rfl rfl k9 ?_
  refine zq_aload_n K dX0_halve_54 rfl rfl ?_
  refine zq_aload K dX0_halve_55 rfl ?_
  refine zq_callV (As := [.ref (a)]) K dX0_halve_57 zyX0_putByHash zm_X0_73 ziX0_putByHash zvX0_putByHash zclX0 rfl (by decide) rfl rfl (Nat.le_of_ble_eq_true rfl) (Nat.le_of_ble_eq_true rfl) k3 (ct_X0_putByHash' (r := W 8 d) (b := g + t) (s := t) k3 (show zr (zw M a 2 0) (W 3 d) 6 = some (W 8 d) from by rw [zr_w, if_neg n3]; exact (hC.d hv).2.2.2.2.2.2.2) (show zk (zw M a 2 0) (W 8 d) = 9 from by rw [zk_w, if_neg n8]; exact (hC.has hv).1) (show zk (zw M a 2 0) a = 2 from by rw [zk_w, if_pos rfl]) (by rw [zi_i, if_neg (fun z => n9 z.1.symm), zi_i, if_neg (fun z => n9 z.1.symm), zi_i, if_neg (fun z => absurd z.2 (by decide)), zi_i, if_neg (fun z => absurd z.2 (by decide)), zi_i, if_neg (fun z => absurd z.2 (by decide)), zi_i, if_pos ⟨rfl, rfl⟩]) (by rw [zi_i, if_neg (fun z => n9 z.1.symm), zi_i, if_neg (fun z => n9 z.1.symm), zi_i, if_neg (fun z => absurd z.2 (by decide)), zi_i, if_neg (fun z => absurd z.2 (by decide)), zi_i, if_pos ⟨rfl, rfl⟩]) hg (show zn (zw M a 2 0) (W 8 d) = 8 from by rw [zn_w, if_neg n8]; exact (hC.has hv).2.1)) (zPP_r (fun M' hPB => ?_)) zPP_x (Nat.le_refl _)
  have fin : zC M' (zW1 W 9 (8 * d + g + t) a) (zSp B (8 * d + g) (2 * t)) ∧ zFm M W B M' := by
    refine zC.halve hC hM hv ht hg e1 e2 hT ha ?_ ⟨?_, ?_, ?_, ?_, ?_, ?_⟩ ⟨?_, ?_, ?_, ?_, ?_, ?_⟩ hPB
    · exact fun y h1 h2 => (zsame.w h1).tr ((zsame.i h1).tr ((zsame.i h1).tr ((zsame.i h1).tr ((zsame.i h1).tr ((zsame.i h1).tr ((zsame.i h2).tr (zsame.i h2)))))))
    · rw [zk_i, zk_i, zk_i, zk_i, zk_i, zk_i, zk_i, zk_w, if_pos rfl]
    · rw [zi_i, if_neg (fun z => n9 z.1.symm), zi_i, if_neg (fun z => n9 z.1.symm), zi_i, if_neg (fun z => absurd z.2 (by decide)), zi_i, if_neg (fun z => absurd z.2 (by decide)), zi_i, if_neg (fun z => absurd z.2 (by decide)), zi_i, if_neg (fun z => absurd z.2 (by decide)), zi_i, if_pos ⟨rfl, rfl⟩]
    · rw [zi_i, if_neg (fun z => n9 z.1.symm), zi_i, if_neg (fun z => n9 z.1.symm), zi_i, if_neg (fun z => absurd z.2 (by decide)), zi_i, if_neg (fun z => absurd z.2 (by decide)), zi_i, if_neg (fun z => absurd z.2 (by decide)), zi_i, if_pos ⟨rfl, rfl⟩]
    · rw [zi_i, if_neg (fun z => n9 z.1.symm), zi_i, if_neg (fun z => n9 z.1.symm), zi_i, if_neg (fun z => absurd z.2 (by decide)), zi_i, if_neg (fun z => absurd z.2 (by decide)), zi_i, if_pos ⟨rfl, rfl⟩]
    · rw [zi_i, if_neg (fun z => n9 z.1.symm), zi_i, if_neg (fun z => n9 z.1.symm), zi_i, if_neg (fun z => absurd z.2 (by decide)), zi_i, if_pos ⟨rfl, rfl⟩]
    · rw [zi_i, if_neg (fun z => n9 z.1.symm), zi_i, if_neg (fun z => n9 z.1.symm), zi_i, if_pos ⟨rfl, rfl⟩]
    · exact k9
    · rw [zi_i, if_neg (fun z => absurd z.2 (by decide)), zi_i, if_neg (fun z => absurd z.2 (by decide)), zi_i, if_neg (fun z => n9 z.1), zi_i, if_neg (fun z => n9 z.1), zi_i, if_neg (fun z => n9 z.1), zi_i, if_neg (fun z => n9 z.1), zi_i, if_neg (fun z => n9 z.1), zi_w, if_neg n9]
    · rw [zi_i, if_neg (fun z => absurd z.2 (by decide)), zi_i, if_neg (fun z => absurd z.2 (by decide)), zi_i, if_neg (fun z => n9 z.1), zi_i, if_neg (fun z => n9 z.1), zi_i, if_neg (fun z => n9 z.1), zi_i, if_neg (fun z => n9 z.1), zi_i, if_neg (fun z => n9 z.1), zi_w, if_neg n9]
    · rw [zi_i, if_neg (fun z => absurd z.2 (by decide)), zi_i, if_pos ⟨rfl, rfl⟩]
    · rw [zi_i, if_neg (fun z => absurd z.2 (by decide)), zi_i, if_neg (fun z => absurd z.2 (by decide)), zi_i, if_neg (fun z => n9 z.1), zi_i, if_neg (fun z => n9 z.1), zi_i, if_neg (fun z => n9 z.1), zi_i, if_neg (fun z => n9 z.1), zi_i, if_neg (fun z => n9 z.1), zi_w, if_neg n9]
    · rw [zi_i, if_pos ⟨rfl, rfl⟩]
  exact zq_ret K dX0_halve_60 rfl ⟨rfl, a, ha, fin⟩

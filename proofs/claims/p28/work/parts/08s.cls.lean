/-! the class: directories made -/
theorem zFm.trW {M0 M M' : ZM} {W W' : Nat → Nat → Nat} {B B' : ZA} (h : zFm M0 W B M) (g : zFm M W' B' M') (hW : ∀ i j, zVal B' i j → (zVal B i j ∧ W' i j = W i j) ∨ zk M0 (W' i j) = 0) : zFm M0 W B M' := fun y h1 h2 => (h y h1 h2).tr (g y (by rw [(h y h1 h2).1]; exact h1) (fun i j hij e => by
  rcases hW i j hij with ⟨g1, g2⟩ | g
  · exact h2 i j g1 (e.trans g2)
  · exact h1 (e ▸ g)))
theorem zVal.scx {B : ZA} {k : Nat} {v : Int32} {i j : Nat} : zVal (zsc B k v) i j ↔ zVal B i j := Iff.rfl
theorem ct_X2_makeDirectory_no {G : ZG} {M : ZM} {W : Nat → Nat → Nat} {B : ZA} (hC : zC M W B) (hW : zWf B) {c d n : Nat} (hc : c < 4) (hv : zVal B 3 d) (hn : n < 50) (hM : zMw B) {D : Nat} (hD : B.1 2 = nI D) (hD12 : D ≤ 12) (h : zBz B d n ∨ D = 12) : zMet G mX2_makeDirectory [.ref (W 10 0), .int (nI (c)), .int (nI (d)), .int (nI (n))] M (zthr zISE M) := by
  refine zbody zyX2_makeDirectory [some (.ref (W 10 0)), some (.int (nI (c))), some (.int (nI (d))), some (.int (nI (n))), none, none] rfl (Nat.le_of_ble_eq_true rfl) (by intro v hv; simp only [List.mem_cons, List.not_mem_nil, or_false] at hv; rcases hv with rfl | rfl | rfl | rfl <;> rfl) (fun E K => ?_)
  obtain ⟨⟨D9, hB⟩, hF, hU⟩ := id hW
  have hS : zFm M W B M := zFm.rf
  refine zq_iload_n K dX2_makeDirectory_0 rfl rfl ?_
  refine zq_callS (As := [.int (nI (c))]) K dX2_makeDirectory_1 zyX2_needClient zm_X2_29 zsX2_needClient rfl (by decide) rfl rfl (Nat.le_of_ble_eq_true rfl) (Nat.le_of_ble_eq_true rfl) (ct_X2_needClient (nI c) M) (znd_r (fun hc9 => ?_)) (znd_x (fun hc9 => ?_)) (Nat.le_refl _)
  · refine zq_iload_n K dX2_makeDirectory_4 rfl rfl ?_
    refine zq_callS (As := [.int (nI (n))]) K dX2_makeDirectory_5 zyX2_needName zm_X2_33 zsX2_needName rfl (by decide) rfl rfl (Nat.le_of_ble_eq_true rfl) (Nat.le_of_ble_eq_true rfl) (ct_X2_needName (nI n) M) (znd_r (fun hn9 => ?_)) (znd_x (fun hn9 => ?_)) (Nat.le_refl _)
    · refine zq_aload_n K dX2_makeDirectory_8 rfl rfl ?_
      refine zq_iload_n K dX2_makeDirectory_9 rfl rfl ?_
      refine zq_callV (As := [.int (nI (d))]) K dX2_makeDirectory_10 zyX2_needDirectory zm_X2_36 ziX2_needDirectory zvX2_needDirectory zclX2 rfl (by decide) rfl rfl (Nat.le_of_ble_eq_true rfl) (Nat.le_of_ble_eq_true rfl) hC.x.1 (ct_X2_needDirectory_1 hC hv) (zone_r ?_) zone_x (Nat.le_refl _)
      refine zq_astore K dX2_makeDirectory_13 (by decide) ?_
      refine zq_aload_n K dX2_makeDirectory_15 rfl rfl ?_
      refine zq_aload K dX2_makeDirectory_16 rfl ?_
      refine zq_iload_n K dX2_makeDirectory_18 rfl rfl ?_
      refine zq_callV (As := [.ref (W 3 d), .int (nI (n))]) K dX2_makeDirectory_19 zyX2_needFree zm_X2_64 ziX2_needFree zvX2_needFree zclX2 rfl (by decide) rfl rfl (Nat.le_of_ble_eq_true rfl) (Nat.le_of_ble_eq_true rfl) hC.x.1 (ct_X2_needFree hC hv hn hF hU hM) (znd_r (fun hz => ?_)) (znd_x (fun hz => ?_)) (Nat.le_refl _)
      · refine zq_aload_n K dX2_makeDirectory_22 rfl rfl ?_
        refine zq_getI K dX2_makeDirectory_23 zclX2 (k := 1) (by decide) zf_X2_25 rfl hC.x.1 ?_
        refine zq_top hC.x.2.2.1.1 ?_
        refine zq_top (v := nI (D)) hD ?_
        refine zq_istore K dX2_makeDirectory_26 (by decide) ?_
        refine zq_iload K dX2_makeDirectory_28 rfl ?_
        refine zq_bipush K dX2_makeDirectory_30 (v := nI 12) (by decide) ?_
        refine zq_icmp_ltN K (x := D) (y := 12) 45 dX2_makeDirectory_32 (by decide) ⟨by omega, by omega⟩ (fun h32 => ?_) (fun h32 => ?_)
        · rcases h with h | h
          · exact absurd h hz
          · omega
        · exact zq_throw K (text := "there were 12 directories") zthISE (by decide +kernel) dX2_makeDirectory_35 dX2_makeDirectory_38 dX2_makeDirectory_39 dX2_makeDirectory_41 dX2_makeDirectory_44 (by decide) (Nat.le_of_ble_eq_true rfl) (Nat.le_of_ble_eq_true rfl) ⟨rfl, rfl⟩
      · exact zx_out K ⟨rfl, rfl⟩
    · exact absurd ⟨n, by omega, rfl⟩ hn9
  · exact absurd ⟨c, by omega, rfl⟩ hc9
theorem lp_X2_makeDirectory {G : ZG} {E : ZE} (K : zOK mX2_makeDirectory [] G E) {M : ZM} {W : Nat → Nat → Nat} {B : ZA} (hC : zC M W B) (hF : zFr B) {c d n D : Nat} (hv : zVal B 3 d) (hn : n < 50) (hD : B.1 2 = nI D) {P : ZO → ZM → Prop} {b : Nat} (hP : ∀ M', zC M' W (zcn (zsc B 2 (nI (D + 1))) (nI c) d n (-2 - nI D) (nI 0)) → zFm M W B M' → P (.inl (some (.int (nI D)))) M') : WW E G (zyu mX2_makeDirectory) (zQ E G mX2_makeDirectory P) M b 65 [some (.ref (W 10 0)), some (.int (nI c)), some (.int (nI d)), some (.int (nI n)), some (.ref (W 3 d)), some (.int (nI D))] [] := by
  have hS : zFm M W B M := zFm.rf
  refine zq_aload_n K dX2_makeDirectory_65 rfl rfl ?_
  refine zq_dup K dX2_makeDirectory_66 rfl ?_
  refine zq_getI K dX2_makeDirectory_67 zclX2 (k := 1) (by decide) zf_X2_25 rfl hC.x.1 ?_
  refine zq_top hC.x.2.2.1.1 ?_
  refine zq_top (v := nI (D)) hD ?_
  refine zq_iconst K dX2_makeDirectory_70 (v := nI 1) (by decide) ?_
  refine zq_iaddN K (x := D) (y := 1) dX2_makeDirectory_71 ?_
  refine zc_p2_1 K dX2_makeDirectory_72 zf_X2_25 hC hS (fun M hC hS => ?_)
  refine zq_aload_n K dX2_makeDirectory_75 rfl rfl ?_
  refine zq_iload_n K dX2_makeDirectory_76 rfl rfl ?_
  refine zq_aload K dX2_makeDirectory_77 rfl ?_
  refine zq_iload_n K dX2_makeDirectory_79 rfl rfl ?_
  refine zq_bipush K dX2_makeDirectory_80 (v := -2) (by decide) ?_
  refine zq_iload K dX2_makeDirectory_82 rfl ?_
  refine zq_isub K dX2_makeDirectory_84 ?_
  refine zq_top (v := -2 - nI D) rfl ?_
  refine zq_iconst K dX2_makeDirectory_85 (v := nI 0) (by decide) ?_
  refine zq_callV (As := [.int (nI (c)), .ref (W 3 (d)), .int (nI (n)), .int (-2 - nI D), .int (nI (0))]) K dX2_makeDirectory_86 zyX2_changeName zm_X2_75 ziX2_changeName zvX2_changeName zclX2 rfl (by decide) rfl rfl (Nat.le_of_ble_eq_true rfl) (Nat.le_of_ble_eq_true rfl) hC.x.1 (ct_X2_changeName (B := (zsc B 2 (nI (D + 1)))) hC hv hF hn (nI c) (-2 - nI D) (nI 0)) (zCP_r hS (fun _ _ h => h) (fun M hC hS => ?_)) zCP_x (Nat.le_refl _)
  refine zq_iload K dX2_makeDirectory_89 rfl ?_
  exact zq_iret K dX2_makeDirectory_91 rfl (hP _ hC hS)
theorem ct_X2_makeDirectory_ok {G : ZG} {M : ZM} {W : Nat → Nat → Nat} {B : ZA} (hC : zC M W B) (hW : zWf B) {c d n : Nat} (hc : c < 4) (hv : zVal B 3 d) (hn : n < 50) (hM : zMw B) {D : Nat} (hD : B.1 2 = nI D) (hD12 : D ≤ 12) (h : ¬ zBz B d n) (hlt : D < 12) (hl : ¬ B.2 3 D = 1) (hD0 : ¬ D = 0) (hN : zNv B D) (hpu : ∀ j, zVal B 3 j → ¬ j = 0 → zpar B j ≠ D) (hF9 : zFr (zNd B D d (nI n) (-1))) : zMet G mX2_makeDirectory [.ref (W 10 0), .int (nI (c)), .int (nI (d)), .int (nI (n))] M (zCW W M B (some (.int (nI D))) (zcn (zsc (zNd B D d (nI n) (-1)) 2 (nI (D + 1))) (nI c) d n (-2 - nI D) (nI 0))) := by
  refine zbody zyX2_makeDirectory [some (.ref (W 10 0)), some (.int (nI (c))), some (.int (nI (d))), some (.int (nI (n))), none, none] rfl (Nat.le_of_ble_eq_true rfl) (by intro v hv; simp only [List.mem_cons, List.not_mem_nil, or_false] at hv; rcases hv with rfl | rfl | rfl | rfl <;> rfl) (fun E K => ?_)
  obtain ⟨⟨D9, hB⟩, hF, hU⟩ := id hW
  have hS : zFm M W B M := zFm.rf
  refine zq_iload_n K dX2_makeDirectory_0 rfl rfl ?_
  refine zq_callS (As := [.int (nI (c))]) K dX2_makeDirectory_1 zyX2_needClient zm_X2_29 zsX2_needClient rfl (by decide) rfl rfl (Nat.le_of_ble_eq_true rfl) (Nat.le_of_ble_eq_true rfl) (ct_X2_needClient (nI c) M) (znd_r (fun hc9 => ?_)) (znd_x (fun hc9 => ?_)) (Nat.le_refl _)
  · refine zq_iload_n K dX2_makeDirectory_4 rfl rfl ?_
    refine zq_callS (As := [.int (nI (n))]) K dX2_makeDirectory_5 zyX2_needName zm_X2_33 zsX2_needName rfl (by decide) rfl rfl (Nat.le_of_ble_eq_true rfl) (Nat.le_of_ble_eq_true rfl) (ct_X2_needName (nI n) M) (znd_r (fun hn9 => ?_)) (znd_x (fun hn9 => ?_)) (Nat.le_refl _)
    · refine zq_aload_n K dX2_makeDirectory_8 rfl rfl ?_
      refine zq_iload_n K dX2_makeDirectory_9 rfl rfl ?_
      refine zq_callV (As := [.int (nI (d))]) K dX2_makeDirectory_10 zyX2_needDirectory zm_X2_36 ziX2_needDirectory zvX2_needDirectory zclX2 rfl (by decide) rfl rfl (Nat.le_of_ble_eq_true rfl) (Nat.le_of_ble_eq_true rfl) hC.x.1 (ct_X2_needDirectory_1 hC hv) (zone_r ?_) zone_x (Nat.le_refl _)
      refine zq_astore K dX2_makeDirectory_13 (by decide) ?_
      refine zq_aload_n K dX2_makeDirectory_15 rfl rfl ?_
      refine zq_aload K dX2_makeDirectory_16 rfl ?_
      refine zq_iload_n K dX2_makeDirectory_18 rfl rfl ?_
      refine zq_callV (As := [.ref (W 3 d), .int (nI (n))]) K dX2_makeDirectory_19 zyX2_needFree zm_X2_64 ziX2_needFree zvX2_needFree zclX2 rfl (by decide) rfl rfl (Nat.le_of_ble_eq_true rfl) (Nat.le_of_ble_eq_true rfl) hC.x.1 (ct_X2_needFree hC hv hn hF hU hM) (znd_r (fun hz => ?_)) (znd_x (fun hz => ?_)) (Nat.le_refl _)
      · refine zq_aload_n K dX2_makeDirectory_22 rfl rfl ?_
        refine zq_getI K dX2_makeDirectory_23 zclX2 (k := 1) (by decide) zf_X2_25 rfl hC.x.1 ?_
        refine zq_top hC.x.2.2.1.1 ?_
        refine zq_top (v := nI (D)) hD ?_
        refine zq_istore K dX2_makeDirectory_26 (by decide) ?_
        refine zq_iload K dX2_makeDirectory_28 rfl ?_
        refine zq_bipush K dX2_makeDirectory_30 (v := nI 12) (by decide) ?_
        refine zq_icmp_ltN K (x := D) (y := 12) 45 dX2_makeDirectory_32 (by decide) ⟨by omega, by omega⟩ (fun h32 => ?_) (fun h32 => by omega)
        refine zq_aload_n K dX2_makeDirectory_45 rfl rfl ?_
        refine zq_getRs K dX2_makeDirectory_46 zclX2 (k := 0) (by decide) zf_X2_11 rfl hC.x.1 hC.x.2.1.1 ?_
        refine zq_iload K dX2_makeDirectory_49 rfl ?_
        refine zq_new K dX2_makeDirectory_51 zclX0 zc_X2_9 (by decide) (by decide) (Nat.le_of_ble_eq_true rfl) (Nat.le_refl _) (fun a9 ha9 => ?_)
        refine zq_dup K dX2_makeDirectory_54 rfl ?_
        refine zq_iload K dX2_makeDirectory_55 rfl ?_
        refine zq_aload K dX2_makeDirectory_57 rfl ?_
        refine zq_iload_n K dX2_makeDirectory_59 rfl rfl ?_
        refine zq_iconst K dX2_makeDirectory_60 (v := -1) (by decide) ?_
        refine zq_callI (As := [.int (nI (D)), .ref (W 3 d), .int (nI (n)), .int (-1)]) K dX2_makeDirectory_61 zyX0_init rfl rfl zm_X2_22 ziX0_init (by decide) rfl rfl (Nat.le_of_ble_eq_true rfl) (Nat.le_of_ble_eq_true rfl) (ct_X0_init_1 (show zk (zw M a9 1 0) a9 = 1 from by rw [zk_w, if_pos rfl]) D (W 3 d) (nI n) (-1)) (zPP_r (fun M9 h9 => ?_)) zPP_x (Nat.le_refl _)
        obtain ⟨nu, hdi⟩ := h9
        have n0 : ∀ i j, zVal B i j → W i j ≠ a9 := fun i j h e => hC.nz h (e ▸ ha9)
        have s0 : zsame M M9 (W 0 0) := (zsame.w (n0 0 0 ⟨by decide, rfl⟩)).tr (hdi.1.2.2 (W 0 0) (by rw [zk_w, if_neg (n0 0 0 ⟨by decide, rfl⟩)]; exact hC.nz (i := 0) (j := 0) ⟨by decide, rfl⟩) (n0 0 0 ⟨by decide, rfl⟩))
        have hvd : ¬ d = D := fun e => hl (e ▸ hv.2)
        refine zq_aast K D dX2_makeDirectory_64 zclX0 (s0.1.trans hC.dirs.1) ⟨rfl, by decide⟩ hdi.2.1.1 rfl (by rw [s0.2.1, hC.dirs.2.1]; exact hlt) (by rw [s0.2.1, hC.dirs.2.1]; decide) ?_
        obtain ⟨hC2, hS2, hW2⟩ := hC.new hM hlt hl ha9 hdi (Or.inr ⟨hD0, hv, rfl⟩) hN hpu
        have hv2 : zVal (zNd B D d (nI n) (-1)) 3 d := ⟨hv.1, by rw [zNd_3, if_neg hvd]; exact hv.2⟩
        have e10 : zWn W a9 nu D 10 0 = W 10 0 := rfl
        have e3 : zWn W a9 nu D 3 d = W 3 d := if_neg hvd
        rw [← e10, ← e3]
        refine lp_X2_makeDirectory (W := zWn W a9 nu D) (B := (zNd B D d (nI n) (-1))) K hC2 hF9 hv2 hn (by rw [zNd_1]; exact hD) (fun M9 hC9 hS9 => ?_)
        exact ⟨rfl, zWn W a9 nu D, hC9, hS2.trW hS9 hW2, e10, fun i j hij => hW2 i j (zVal.scx.mp (zcn_val.mp hij))⟩
      · exact absurd h hz
    · exact absurd ⟨n, by omega, rfl⟩ hn9
  · exact absurd ⟨c, by omega, rfl⟩ hc9


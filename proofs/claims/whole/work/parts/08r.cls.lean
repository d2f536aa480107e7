/-! the class: split, merge -/
/-- a call after which new objects may be there -/
def zCW (W : Nat → Nat → Nat) (M : ZM) (B : ZA) (v : Option Value) (B' : ZA) : ZO → ZM → Prop := fun o M' => o = .inl v ∧ ∃ W' : Nat → Nat → Nat, zC M' W' B' ∧ zFm M W B M' ∧ W' 10 0 = W 10 0 ∧ ∀ i j, zVal B' i j → (zVal B i j ∧ W' i j = W i j) ∨ zk M (W' i j) = 0
theorem zCP.w {W : Nat → Nat → Nat} {M : ZM} {B B' : ZA} {v : Option Value} {o : ZO} {M' : ZM} (h : zCP W M B v B' o M') (hs : ∀ i j, zVal B' i j → zVal B i j) : zCW W M B v B' o M' := ⟨h.1, W, h.2.1, h.2.2, rfl, fun i j hv => Or.inl ⟨hs i j hv, rfl⟩⟩
theorem ct_X2_split_no {G : ZG} {M : ZM} {W : Nat → Nat → Nat} {B : ZA} (hC : zC M W B) (hW : zWf B) {d h : Nat} (hv : zVal B 3 d) (hh : h ≤ 7) (hM : zMw B) {s : Nat} (es : B.2 10 (8 * d + zfg (B.2 10) d h) = nI s) (hs8 : s ≤ 8) (h3 : s < 2 ∨ zfz B (8 * d + zfg (B.2 10) d h) = true) : zMet G mX2_split [.ref (W 10 0), .int (nI (d)), .int (nI (h))] M (zthr zISE M) := by
  refine zbody zyX2_split [some (.ref (W 10 0)), some (.int (nI (d))), some (.int (nI (h))), none, none] rfl (Nat.le_of_ble_eq_true rfl) (by intro v hv; simp only [List.mem_cons, List.not_mem_nil, or_false] at hv; rcases hv with rfl | rfl | rfl <;> rfl) (fun E K => ?_)
  obtain ⟨⟨D, hB⟩, hF, hU⟩ := id hW
  have hS : zFm M W B M := zFm.rf
  refine zq_iload_n K dX2_split_0 rfl rfl ?_
  refine zq_callS (As := [.int (nI (h))]) K dX2_split_1 zyX2_needHash zm_X2_139 zsX2_needHash rfl (by decide) rfl rfl (Nat.le_of_ble_eq_true rfl) (Nat.le_of_ble_eq_true rfl) (ct_X2_needHash (nI h) M) (znd_r (fun hh9 => ?_)) (znd_x (fun hh9 => ?_)) (Nat.le_refl _)
  · refine zq_aload_n K dX2_split_4 rfl rfl ?_
    refine zq_iload_n K dX2_split_5 rfl rfl ?_
    refine zq_callV (As := [.int (nI (d))]) K dX2_split_6 zyX2_needDirectory zm_X2_36 ziX2_needDirectory zvX2_needDirectory zclX2 rfl (by decide) rfl rfl (Nat.le_of_ble_eq_true rfl) (Nat.le_of_ble_eq_true rfl) hC.x.1 (ct_X2_needDirectory_1 hC hv) (zone_r ?_) zone_x (Nat.le_refl _)
    refine zq_astore_n K dX2_split_9 rfl (by decide) ?_
    refine zq_aload_n K dX2_split_10 rfl rfl ?_
    refine zq_iload_n K dX2_split_11 rfl rfl ?_
    refine zq_callV (As := [.int (nI (h))]) K dX2_split_12 zyX0_fragmentAt zm_X2_142 ziX0_fragmentAt zvX0_fragmentAt zclX0 rfl (by decide) rfl rfl (Nat.le_of_ble_eq_true rfl) (Nat.le_of_ble_eq_true rfl) (hC.d hv).1 (ct_X0_fragmentAt8 hC hv (show h < 8 by omega)) (zone_r ?_) zone_x (Nat.le_refl _)
    refine zq_astore K dX2_split_15 (by decide) ?_
    refine zq_aload K dX2_split_17 rfl ?_
    refine zq_getI K dX2_split_19 zclX1 (k := 2) (by decide) zf_X2_145 rfl (hC.f (zVal.fg hv hF (show h < 8 by omega))).1 ?_
    refine zq_top (hC.f (zVal.fg hv hF (show h < 8 by omega))).2.2.2.1 ?_
    refine zq_top (v := nI (s)) es ?_
    refine zq_iconst K dX2_split_22 (v := nI 2) (by decide) ?_
    refine zq_icmp_ltN K (x := s) (y := 2) 35 dX2_split_23 (by decide) ⟨by omega, by omega⟩ (fun h23 => ?_) (fun h23 => ?_)
    · exact zq_throw K (text := "the fragment has size 1 or is frozen") zthISE (by decide +kernel) dX2_split_35 dX2_split_38 dX2_split_39 dX2_split_41 dX2_split_44 (by decide) (Nat.le_of_ble_eq_true rfl) (Nat.le_of_ble_eq_true rfl) ⟨rfl, rfl⟩
    · refine zq_aload_n K dX2_split_26 rfl rfl ?_
      refine zq_aload K dX2_split_27 rfl ?_
      refine zq_callV (As := [.ref (W 9 (8 * d + zfg (B.2 10) d h))]) K dX2_split_29 zyX2_frozen zm_X2_148 ziX2_frozen zvX2_frozen zclX2 rfl (by decide) rfl rfl (Nat.le_of_ble_eq_true rfl) (Nat.le_of_ble_eq_true rfl) hC.x.1 (ct_X2_frozen hC (zVal.fg hv hF (show h < 8 by omega)) hF hU hM) (zdec_r (fun hz => ?_) (fun hz => ?_)) zdec_x (Nat.le_refl _)
      · refine zq_if_eqN K (x := 1) 45 dX2_split_32 (by decide) (by omega) (fun h32 => by omega) (fun h32 => ?_)
        exact zq_throw K (text := "the fragment has size 1 or is frozen") zthISE (by decide +kernel) dX2_split_35 dX2_split_38 dX2_split_39 dX2_split_41 dX2_split_44 (by decide) (Nat.le_of_ble_eq_true rfl) (Nat.le_of_ble_eq_true rfl) ⟨rfl, rfl⟩
      · refine zq_if_eqN K (x := 0) 45 dX2_split_32 (by decide) (by omega) (fun h32 => ?_) (fun h32 => by omega)
        rcases h3 with h3 | h3
        · omega
        · exact absurd h3 hz
  · exact absurd ⟨h, hh, rfl⟩ hh9
theorem halve_fr {M : ZM} {W : Nat → Nat → Nat} {B : ZA} (hC : zC M W B) {d g t a : Nat} (hv : zVal B 3 d) (ht : 1 ≤ t) (hg : g + t + t ≤ 8) (e1 : B.2 10 (8 * d + g) = nI (2 * t)) (ha : zk M a = 0) (i j : Nat) (h : zVal (zSp B (8 * d + g) (2 * t)) i j) : (zVal B i j ∧ zW1 W 9 (8 * d + g + t) a i j = W i j) ∨ zk M (zW1 W 9 (8 * d + g + t) a i j) = 0 := by
  by_cases hn : i = 9 ∧ j = 8 * d + g + t
  · refine Or.inr ?_
    rw [show zW1 W 9 (8 * d + g + t) a i j = a from if_pos hn]
    exact ha
  · refine Or.inl ⟨?_, if_neg hn⟩
    have h2t : 2 * t / 2 = t := by omega
    have hk : (zSp B (8 * d + g) (2 * t)).2 3 = B.2 3 := by
      unfold zSp
      rw [zsa_n _ _ _ _ _ (by decide), zsa_n _ _ _ _ _ (by decide), zsa_n _ _ _ _ _ (by decide), zsa_n _ _ _ _ _ (by decide), zsa_n _ _ _ _ _ (by decide)]
    unfold zVal at h ⊢
    rw [hk] at h
    split at h
    all_goals first
      | exact h
      | (refine ⟨h.1, h.2.1, ?_⟩
         have h4 := h.2.2
         unfold zSp at h4
         rw [h2t, zsa_n _ _ _ _ _ (by decide), zsa_n _ _ _ _ _ (by decide), zsa_n _ _ _ _ _ (by decide), zsa_2, if_neg (fun z => hn ⟨rfl, z.2⟩), zsa_2] at h4
         split at h4
         · rename_i h5
           rw [h5.2, e1]
           exact nI_ne0 (by omega) (by omega)
         · exact h4)
theorem ct_X2_split_ok {G : ZG} {M : ZM} {W : Nat → Nat → Nat} {B : ZA} (hC : zC M W B) (hW : zWf B) {d h : Nat} (hv : zVal B 3 d) (hh : h ≤ 7) (hM : zMw B) {t : Nat} (e1 : B.2 10 (8 * d + zfg (B.2 10) d h) = nI (2 * t)) (e2 : B.2 10 (8 * d + zfg (B.2 10) d h + t) = 0) (ht : 1 ≤ t) (hg : zfg (B.2 10) d h + t + t ≤ 8) (hT : ∀ y, y < 8 → zfg ((zSp B (8 * d + zfg (B.2 10) d h) (2 * t)).2 10) d y = if zfg (B.2 10) d h + t ≤ y ∧ y < zfg (B.2 10) d h + t + t then zfg (B.2 10) d h + t else zfg (B.2 10) d y) (hF9 : zFr (zSp B (8 * d + zfg (B.2 10) d h) (2 * t))) (hz9 : ¬ zfz B (8 * d + zfg (B.2 10) d h) = true) : zMet G mX2_split [.ref (W 10 0), .int (nI (d)), .int (nI (h))] M (zCW W M B (some (.int (nI (zcN (zpz (zSp B (8 * d + zfg (B.2 10) d h) (2 * t)) d) 8)))) (zSp B (8 * d + zfg (B.2 10) d h) (2 * t))) := by
  refine zbody zyX2_split [some (.ref (W 10 0)), some (.int (nI (d))), some (.int (nI (h))), none, none] rfl (Nat.le_of_ble_eq_true rfl) (by intro v hv; simp only [List.mem_cons, List.not_mem_nil, or_false] at hv; rcases hv with rfl | rfl | rfl <;> rfl) (fun E K => ?_)
  obtain ⟨⟨D, hB⟩, hF, hU⟩ := id hW
  have hS : zFm M W B M := zFm.rf
  refine zq_iload_n K dX2_split_0 rfl rfl ?_
  refine zq_callS (As := [.int (nI (h))]) K dX2_split_1 zyX2_needHash zm_X2_139 zsX2_needHash rfl (by decide) rfl rfl (Nat.le_of_ble_eq_true rfl) (Nat.le_of_ble_eq_true rfl) (ct_X2_needHash (nI h) M) (znd_r (fun hh9 => ?_)) (znd_x (fun hh9 => ?_)) (Nat.le_refl _)
  · refine zq_aload_n K dX2_split_4 rfl rfl ?_
    refine zq_iload_n K dX2_split_5 rfl rfl ?_
    refine zq_callV (As := [.int (nI (d))]) K dX2_split_6 zyX2_needDirectory zm_X2_36 ziX2_needDirectory zvX2_needDirectory zclX2 rfl (by decide) rfl rfl (Nat.le_of_ble_eq_true rfl) (Nat.le_of_ble_eq_true rfl) hC.x.1 (ct_X2_needDirectory_1 hC hv) (zone_r ?_) zone_x (Nat.le_refl _)
    refine zq_astore_n K dX2_split_9 rfl (by decide) ?_
    refine zq_aload_n K dX2_split_10 rfl rfl ?_
    refine zq_iload_n K dX2_split_11 rfl rfl ?_
    refine zq_callV (As := [.int (nI (h))]) K dX2_split_12 zyX0_fragmentAt zm_X2_142 ziX0_fragmentAt zvX0_fragmentAt zclX0 rfl (by decide) rfl rfl (Nat.le_of_ble_eq_true rfl) (Nat.le_of_ble_eq_true rfl) (hC.d hv).1 (ct_X0_fragmentAt8 hC hv (show h < 8 by omega)) (zone_r ?_) zone_x (Nat.le_refl _)
    refine zq_astore K dX2_split_15 (by decide) ?_
    refine zq_aload K dX2_split_17 rfl ?_
    refine zq_getI K dX2_split_19 zclX1 (k := 2) (by decide) zf_X2_145 rfl (hC.f (zVal.fg hv hF (show h < 8 by omega))).1 ?_
    refine zq_top (hC.f (zVal.fg hv hF (show h < 8 by omega))).2.2.2.1 ?_
    refine zq_top (v := nI (2 * t)) e1 ?_
    refine zq_iconst K dX2_split_22 (v := nI 2) (by decide) ?_
    refine zq_icmp_ltN K (x := 2 * t) (y := 2) 35 dX2_split_23 (by decide) ⟨by omega, by omega⟩ (fun h23 => by omega) (fun h23 => ?_)
    refine zq_aload_n K dX2_split_26 rfl rfl ?_
    refine zq_aload K dX2_split_27 rfl ?_
    refine zq_callV (As := [.ref (W 9 (8 * d + zfg (B.2 10) d h))]) K dX2_split_29 zyX2_frozen zm_X2_148 ziX2_frozen zvX2_frozen zclX2 rfl (by decide) rfl rfl (Nat.le_of_ble_eq_true rfl) (Nat.le_of_ble_eq_true rfl) hC.x.1 (ct_X2_frozen hC (zVal.fg hv hF (show h < 8 by omega)) hF hU hM) (zdec_r (fun hz => ?_) (fun hz => ?_)) zdec_x (Nat.le_refl _)
    · refine zq_if_eqN K (x := 1) 45 dX2_split_32 (by decide) (by omega) (fun h32 => by omega) (fun h32 => ?_)
      exact absurd hz hz9
    · refine zq_if_eqN K (x := 0) 45 dX2_split_32 (by decide) (by omega) (fun h32 => ?_) (fun h32 => by omega)
      refine zq_aload_n K dX2_split_45 rfl rfl ?_
      refine zq_aload K dX2_split_46 rfl ?_
      refine zq_callV (As := [.ref (W 9 (8 * d + zfg (B.2 10) d h))]) K dX2_split_48 zyX0_halve zm_X2_154 ziX0_halve zvX0_halve zclX0 rfl (by decide) rfl rfl (Nat.le_of_ble_eq_true rfl) (Nat.le_of_ble_eq_true rfl) (hC.d hv).1 (ct_X0_halve hC hM hv (zVal.fg hv hF (show h < 8 by omega)) ht hg e1 e2 hT) (zPP_r (fun M9 h9 => ?_)) zPP_x (Nat.le_refl _)
      obtain ⟨a9, ha9, hC9, hS9⟩ := h9
      refine zq_aload_n K dX2_split_51 rfl rfl ?_
      refine zq_callV (As := []) K dX2_split_52 zyX0_countFragments zm_X2_158 ziX0_countFragments zvX0_countFragments zclX0 rfl (by decide) rfl rfl (Nat.le_of_ble_eq_true rfl) (Nat.le_of_ble_eq_true rfl) (show zk M9 (W 3 d) = 1 from (hC9.d (j := d) ⟨hv.1, hv.2⟩).1) (show zMet G mX0_countFragments [.ref (W 3 d)] M9 _ from ct_X0_countFragments (W := zW1 W 9 (8 * d + zfg (B.2 10) d h + t) a9) (B := zSp B (8 * d + zfg (B.2 10) d h) (2 * t)) hC9 (d := d) ⟨hv.1, hv.2⟩ hF9) (zone_r ?_) zone_x (Nat.le_refl _)
      exact zq_iret K dX2_split_55 rfl ⟨rfl, zW1 W 9 (8 * d + zfg (B.2 10) d h + t) a9, hC9, hS9, rfl, fun i j hij => halve_fr hC hv ht hg e1 ha9 i j hij⟩
  · exact absurd ⟨h, hh, rfl⟩ hh9
theorem ct_X2_merge_8 {G : ZG} {M : ZM} {W : Nat → Nat → Nat} {B : ZA} (hC : zC M W B) (hW : zWf B) {d h : Nat} (hv : zVal B 3 d) (hh : h ≤ 7) (hM : zMw B) {s x : Nat} (es : B.2 10 (8 * d + zfg (B.2 10) d h) = nI s) (h8 : s = 8) : zMet G mX2_merge [.ref (W 10 0), .int (nI (d)), .int (nI (h))] M (zthr zISE M) := by
  refine zbody zyX2_merge [some (.ref (W 10 0)), some (.int (nI (d))), some (.int (nI (h))), none, none, none] rfl (Nat.le_of_ble_eq_true rfl) (by intro v hv; simp only [List.mem_cons, List.not_mem_nil, or_false] at hv; rcases hv with rfl | rfl | rfl <;> rfl) (fun E K => ?_)
  obtain ⟨⟨D, hB⟩, hF, hU⟩ := id hW
  have hS : zFm M W B M := zFm.rf
  refine zq_iload_n K dX2_merge_0 rfl rfl ?_
  refine zq_callS (As := [.int (nI (h))]) K dX2_merge_1 zyX2_needHash zm_X2_139 zsX2_needHash rfl (by decide) rfl rfl (Nat.le_of_ble_eq_true rfl) (Nat.le_of_ble_eq_true rfl) (ct_X2_needHash (nI h) M) (znd_r (fun hh9 => ?_)) (znd_x (fun hh9 => ?_)) (Nat.le_refl _)
  · refine zq_aload_n K dX2_merge_4 rfl rfl ?_
    refine zq_iload_n K dX2_merge_5 rfl rfl ?_
    refine zq_callV (As := [.int (nI (d))]) K dX2_merge_6 zyX2_needDirectory zm_X2_36 ziX2_needDirectory zvX2_needDirectory zclX2 rfl (by decide) rfl rfl (Nat.le_of_ble_eq_true rfl) (Nat.le_of_ble_eq_true rfl) hC.x.1 (ct_X2_needDirectory_1 hC hv) (zone_r ?_) zone_x (Nat.le_refl _)
    refine zq_astore_n K dX2_merge_9 rfl (by decide) ?_
    refine zq_aload_n K dX2_merge_10 rfl rfl ?_
    refine zq_iload_n K dX2_merge_11 rfl rfl ?_
    refine zq_callV (As := [.int (nI (h))]) K dX2_merge_12 zyX0_fragmentAt zm_X2_142 ziX0_fragmentAt zvX0_fragmentAt zclX0 rfl (by decide) rfl rfl (Nat.le_of_ble_eq_true rfl) (Nat.le_of_ble_eq_true rfl) (hC.d hv).1 (ct_X0_fragmentAt8 hC hv (show h < 8 by omega)) (zone_r ?_) zone_x (Nat.le_refl _)
    refine zq_astore K dX2_merge_15 (by decide) ?_
    refine zq_aload K dX2_merge_17 rfl ?_
    refine zq_getI K dX2_merge_19 zclX1 (k := 2) (by decide) zf_X2_145 rfl (hC.f (zVal.fg hv hF (show h < 8 by omega))).1 ?_
    refine zq_top (hC.f (zVal.fg hv hF (show h < 8 by omega))).2.2.2.1 ?_
    refine zq_top (v := nI (s)) es ?_
    refine zq_bipush K dX2_merge_22 (v := nI 8) (by decide) ?_
    refine zq_icmp_ltN K (x := s) (y := 8) 37 dX2_merge_24 (by decide) ⟨by omega, by omega⟩ (fun h24 => by omega) (fun h24 => ?_)
    exact zq_throw K (text := "the fragment has size 8") zthISE (by decide +kernel) dX2_merge_27 dX2_merge_30 dX2_merge_31 dX2_merge_33 dX2_merge_36 (by decide) (Nat.le_of_ble_eq_true rfl) (Nat.le_of_ble_eq_true rfl) ⟨rfl, rfl⟩
  · exact absurd ⟨h, hh, rfl⟩ hh9
theorem ct_X2_merge_no {G : ZG} {M : ZM} {W : Nat → Nat → Nat} {B : ZA} (hC : zC M W B) (hW : zWf B) {d h : Nat} (hv : zVal B 3 d) (hh : h ≤ 7) (hM : zMw B) {s x : Nat} (es : B.2 10 (8 * d + zfg (B.2 10) d h) = nI s) (hs : s < 8) (hx : nI (zfg (B.2 10) d h) ^^^ nI s = nI x) (hx8 : x < 8) (h3 : ¬ (B.2 10 (8 * d + zfg (B.2 10) d x) = nI s ∧ B.2 11 (8 * d + zfg (B.2 10) d x) = B.2 11 (8 * d + zfg (B.2 10) d h) ∧ ¬ zfz B (8 * d + zfg (B.2 10) d h) = true ∧ ¬ zfz B (8 * d + zfg (B.2 10) d x) = true)) : zMet G mX2_merge [.ref (W 10 0), .int (nI (d)), .int (nI (h))] M (zthr zISE M) := by
  refine zbody zyX2_merge [some (.ref (W 10 0)), some (.int (nI (d))), some (.int (nI (h))), none, none, none] rfl (Nat.le_of_ble_eq_true rfl) (by intro v hv; simp only [List.mem_cons, List.not_mem_nil, or_false] at hv; rcases hv with rfl | rfl | rfl <;> rfl) (fun E K => ?_)
  obtain ⟨⟨D, hB⟩, hF, hU⟩ := id hW
  have hS : zFm M W B M := zFm.rf
  refine zq_iload_n K dX2_merge_0 rfl rfl ?_
  refine zq_callS (As := [.int (nI (h))]) K dX2_merge_1 zyX2_needHash zm_X2_139 zsX2_needHash rfl (by decide) rfl rfl (Nat.le_of_ble_eq_true rfl) (Nat.le_of_ble_eq_true rfl) (ct_X2_needHash (nI h) M) (znd_r (fun hh9 => ?_)) (znd_x (fun hh9 => ?_)) (Nat.le_refl _)
  · refine zq_aload_n K dX2_merge_4 rfl rfl ?_
    refine zq_iload_n K dX2_merge_5 rfl rfl ?_
    refine zq_callV (As := [.int (nI (d))]) K dX2_merge_6 zyX2_needDirectory zm_X2_36 ziX2_needDirectory zvX2_needDirectory zclX2 rfl (by decide) rfl rfl (Nat.le_of_ble_eq_true rfl) (Nat.le_of_ble_eq_true rfl) hC.x.1 (ct_X2_needDirectory_1 hC hv) (zone_r ?_) zone_x (Nat.le_refl _)
    refine zq_astore_n K dX2_merge_9 rfl (by decide) ?_
    refine zq_aload_n K dX2_merge_10 rfl rfl ?_
    refine zq_iload_n K dX2_merge_11 rfl rfl ?_
    refine zq_callV (As := [.int (nI (h))]) K dX2_merge_12 zyX0_fragmentAt zm_X2_142 ziX0_fragmentAt zvX0_fragmentAt zclX0 rfl (by decide) rfl rfl (Nat.le_of_ble_eq_true rfl) (Nat.le_of_ble_eq_true rfl) (hC.d hv).1 (ct_X0_fragmentAt8 hC hv (show h < 8 by omega)) (zone_r ?_) zone_x (Nat.le_refl _)
    refine zq_astore K dX2_merge_15 (by decide) ?_
    refine zq_aload K dX2_merge_17 rfl ?_
    refine zq_getI K dX2_merge_19 zclX1 (k := 2) (by decide) zf_X2_145 rfl (hC.f (zVal.fg hv hF (show h < 8 by omega))).1 ?_
    refine zq_top (hC.f (zVal.fg hv hF (show h < 8 by omega))).2.2.2.1 ?_
    refine zq_top (v := nI (s)) es ?_
    refine zq_bipush K dX2_merge_22 (v := nI 8) (by decide) ?_
    refine zq_icmp_ltN K (x := s) (y := 8) 37 dX2_merge_24 (by decide) ⟨by omega, by omega⟩ (fun h24 => ?_) (fun h24 => by omega)
    refine zq_aload_n K dX2_merge_37 rfl rfl ?_
    refine zq_aload K dX2_merge_38 rfl ?_
    refine zq_getI K dX2_merge_40 zclX1 (k := 1) (by decide) zf_X2_164 rfl (hC.f (zVal.fg hv hF (show h < 8 by omega))).1 ?_
    refine zq_top (hC.f (zVal.fg hv hF (show h < 8 by omega))).2.2.1 ?_
    refine zq_top (v := nI (zfg (B.2 10) d h)) (congrArg nI (by have := zfg_le (B.2 10) d h; omega)) ?_
    refine zq_aload K dX2_merge_43 rfl ?_
    refine zq_getI K dX2_merge_45 zclX1 (k := 2) (by decide) zf_X2_145 rfl (hC.f (zVal.fg hv hF (show h < 8 by omega))).1 ?_
    refine zq_top (hC.f (zVal.fg hv hF (show h < 8 by omega))).2.2.2.1 ?_
    refine zq_top (v := nI (s)) es ?_
    refine zq_ixor K dX2_merge_48 ?_
    refine zq_top (v := nI (x)) hx ?_
    refine zq_callV (As := [.int (nI (x))]) K dX2_merge_49 zyX0_fragmentAt zm_X2_142 ziX0_fragmentAt zvX0_fragmentAt zclX0 rfl (by decide) rfl rfl (Nat.le_of_ble_eq_true rfl) (Nat.le_of_ble_eq_true rfl) (hC.d hv).1 (ct_X0_fragmentAt8 hC hv hx8) (zone_r ?_) zone_x (Nat.le_refl _)
    refine zq_astore K dX2_merge_52 (by decide) ?_
    refine zq_aload K dX2_merge_54 rfl ?_
    refine zq_getI K dX2_merge_56 zclX1 (k := 2) (by decide) zf_X2_145 rfl (hC.f (zVal.fg hv hF hx8)).1 ?_
    refine zq_top (hC.f (zVal.fg hv hF hx8)).2.2.2.1 ?_
    refine zq_aload K dX2_merge_59 rfl ?_
    refine zq_getI K dX2_merge_61 zclX1 (k := 2) (by decide) zf_X2_145 rfl (hC.f (zVal.fg hv hF (show h < 8 by omega))).1 ?_
    refine zq_top (hC.f (zVal.fg hv hF (show h < 8 by omega))).2.2.2.1 ?_
    refine zq_top (v := nI (s)) es ?_
    refine zq_icmp_ne K 80 dX2_merge_64 (by decide) (fun h64 => ?_) (fun h64 => ?_)
    · exact zq_throw K (text := "the halves are unlike") zthISE (by decide +kernel) dX2_merge_80 dX2_merge_83 dX2_merge_84 dX2_merge_86 dX2_merge_89 (by decide) (Nat.le_of_ble_eq_true rfl) (Nat.le_of_ble_eq_true rfl) ⟨rfl, rfl⟩
    · refine zq_aload K dX2_merge_67 rfl ?_
      refine zq_getI K dX2_merge_69 zclX1 (k := 3) (by decide) zf_X2_167 rfl (hC.f (zVal.fg hv hF hx8)).1 ?_
      refine zq_top (hC.f (zVal.fg hv hF hx8)).2.2.2.2.1 ?_
      refine zq_aload K dX2_merge_72 rfl ?_
      refine zq_getI K dX2_merge_74 zclX1 (k := 3) (by decide) zf_X2_167 rfl (hC.f (zVal.fg hv hF (show h < 8 by omega))).1 ?_
      refine zq_top (hC.f (zVal.fg hv hF (show h < 8 by omega))).2.2.2.2.1 ?_
      refine zq_icmp_eq K 90 dX2_merge_77 (by decide) (fun h77 => ?_) (fun h77 => ?_)
      · refine zq_aload_n K dX2_merge_90 rfl rfl ?_
        refine zq_aload K dX2_merge_91 rfl ?_
        refine zq_callV (As := [.ref (W 9 (8 * d + zfg (B.2 10) d h))]) K dX2_merge_93 zyX2_frozen zm_X2_148 ziX2_frozen zvX2_frozen zclX2 rfl (by decide) rfl rfl (Nat.le_of_ble_eq_true rfl) (Nat.le_of_ble_eq_true rfl) hC.x.1 (ct_X2_frozen hC (zVal.fg hv hF (show h < 8 by omega)) hF hU hM) (zdec_r (fun z1 => ?_) (fun z1 => ?_)) zdec_x (Nat.le_refl _)
        · refine zq_if_neN K (x := 1) 108 dX2_merge_96 (by decide) (by omega) (fun h96 => ?_) (fun h96 => by omega)
          exact zq_throw K (text := "one of the halves is frozen") zthISE (by decide +kernel) dX2_merge_108 dX2_merge_111 dX2_merge_112 dX2_merge_114 dX2_merge_117 (by decide) (Nat.le_of_ble_eq_true rfl) (Nat.le_of_ble_eq_true rfl) ⟨rfl, rfl⟩
        · refine zq_if_neN K (x := 0) 108 dX2_merge_96 (by decide) (by omega) (fun h96 => by omega) (fun h96 => ?_)
          refine zq_aload_n K dX2_merge_99 rfl rfl ?_
          refine zq_aload K dX2_merge_100 rfl ?_
          refine zq_callV (As := [.ref (W 9 (8 * d + zfg (B.2 10) d x))]) K dX2_merge_102 zyX2_frozen zm_X2_148 ziX2_frozen zvX2_frozen zclX2 rfl (by decide) rfl rfl (Nat.le_of_ble_eq_true rfl) (Nat.le_of_ble_eq_true rfl) hC.x.1 (ct_X2_frozen hC (zVal.fg hv hF hx8) hF hU hM) (zdec_r (fun z2 => ?_) (fun z2 => ?_)) zdec_x (Nat.le_refl _)
          · refine zq_if_eqN K (x := 1) 118 dX2_merge_105 (by decide) (by omega) (fun h105 => by omega) (fun h105 => ?_)
            exact zq_throw K (text := "one of the halves is frozen") zthISE (by decide +kernel) dX2_merge_108 dX2_merge_111 dX2_merge_112 dX2_merge_114 dX2_merge_117 (by decide) (Nat.le_of_ble_eq_true rfl) (Nat.le_of_ble_eq_true rfl) ⟨rfl, rfl⟩
          · refine zq_if_eqN K (x := 0) 118 dX2_merge_105 (by decide) (by omega) (fun h105 => ?_) (fun h105 => by omega)
            exact absurd ⟨h64, h77, z1, z2⟩ h3
      · exact zq_throw K (text := "the halves are unlike") zthISE (by decide +kernel) dX2_merge_80 dX2_merge_83 dX2_merge_84 dX2_merge_86 dX2_merge_89 (by decide) (Nat.le_of_ble_eq_true rfl) (Nat.le_of_ble_eq_true rfl) ⟨rfl, rfl⟩
  · exact absurd ⟨h, hh, rfl⟩ hh9
theorem ct_X2_merge_okA {G : ZG} {M : ZM} {W : Nat → Nat → Nat} {B : ZA} (hC : zC M W B) (hW : zWf B) {d h : Nat} (hv : zVal B 3 d) (hh : h ≤ 7) (hM : zMw B) {s x : Nat} (es : B.2 10 (8 * d + zfg (B.2 10) d h) = nI s) (hs : s < 8) (hx : nI (zfg (B.2 10) d h) ^^^ nI s = nI x) (hx8 : x < 8) (eo : B.2 10 (8 * d + zfg (B.2 10) d x) = nI s) (ew : B.2 11 (8 * d + zfg (B.2 10) d x) = B.2 11 (8 * d + zfg (B.2 10) d h)) (z1 : ¬ zfz B (8 * d + zfg (B.2 10) d h) = true) (z2 : ¬ zfz B (8 * d + zfg (B.2 10) d x) = true) (hs1 : 1 ≤ s) (hrel : zfg (B.2 10) d x = zfg (B.2 10) d h + s) (hg : zfg (B.2 10) d h + (s + s) ≤ 8) (hT : ∀ y, y < 8 → zfg ((zMg B (8 * d + zfg (B.2 10) d h) s).2 10) d y = if zfg (B.2 10) d h ≤ y ∧ y < zfg (B.2 10) d h + (s + s) then zfg (B.2 10) d h else zfg (B.2 10) d y) (hF9 : zFr (zMg B (8 * d + zfg (B.2 10) d h) s)) : zMet G mX2_merge [.ref (W 10 0), .int (nI (d)), .int (nI (h))] M (zCP W M B (some (.int (nI (zcN (zpz (zMg B (8 * d + zfg (B.2 10) d h) s) d) 8)))) (zMg B (8 * d + zfg (B.2 10) d h) s)) := by
  refine zbody zyX2_merge [some (.ref (W 10 0)), some (.int (nI (d))), some (.int (nI (h))), none, none, none] rfl (Nat.le_of_ble_eq_true rfl) (by intro v hv; simp only [List.mem_cons, List.not_mem_nil, or_false] at hv; rcases hv with rfl | rfl | rfl <;> rfl) (fun E K => ?_)
  obtain ⟨⟨D, hB⟩, hF, hU⟩ := id hW
  have hS : zFm M W B M := zFm.rf
  refine zq_iload_n K dX2_merge_0 rfl rfl ?_
  refine zq_callS (As := [.int (nI (h))]) K dX2_merge_1 zyX2_needHash zm_X2_139 zsX2_needHash rfl (by decide) rfl rfl (Nat.le_of_ble_eq_true rfl) (Nat.le_of_ble_eq_true rfl) (ct_X2_needHash (nI h) M) (znd_r (fun hh9 => ?_)) (znd_x (fun hh9 => ?_)) (Nat.le_refl _)
  · refine zq_aload_n K dX2_merge_4 rfl rfl ?_
    refine zq_iload_n K dX2_merge_5 rfl rfl ?_
    refine zq_callV (As := [.int (nI (d))]) K dX2_merge_6 zyX2_needDirectory zm_X2_36 ziX2_needDirectory zvX2_needDirectory zclX2 rfl (by decide) rfl rfl (Nat.le_of_ble_eq_true rfl) (Nat.le_of_ble_eq_true rfl) hC.x.1 (ct_X2_needDirectory_1 hC hv) (zone_r ?_) zone_x (Nat.le_refl _)
    refine zq_astore_n K dX2_merge_9 rfl (by decide) ?_
    refine zq_aload_n K dX2_merge_10 rfl rfl ?_
    refine zq_iload_n K dX2_merge_11 rfl rfl ?_
    refine zq_callV (As := [.int (nI (h))]) K dX2_merge_12 zyX0_fragmentAt zm_X2_142 ziX0_fragmentAt zvX0_fragmentAt zclX0 rfl (by decide) rfl rfl (Nat.le_of_ble_eq_true rfl) (Nat.le_of_ble_eq_true rfl) (hC.d hv).1 (ct_X0_fragmentAt8 hC hv (show h < 8 by omega)) (zone_r ?_) zone_x (Nat.le_refl _)
    refine zq_astore K dX2_merge_15 (by decide) ?_
    refine zq_aload K dX2_merge_17 rfl ?_
    refine zq_getI K dX2_merge_19 zclX1 (k := 2) (by decide) zf_X2_145 rfl (hC.f (zVal.fg hv hF (show h < 8 by omega))).1 ?_
    refine zq_top (hC.f (zVal.fg hv hF (show h < 8 by omega))).2.2.2.1 ?_
    refine zq_top (v := nI (s)) es ?_
    refine zq_bipush K dX2_merge_22 (v := nI 8) (by decide) ?_
    refine zq_icmp_ltN K (x := s) (y := 8) 37 dX2_merge_24 (by decide) ⟨by omega, by omega⟩ (fun h24 => ?_) (fun h24 => by omega)
    refine zq_aload_n K dX2_merge_37 rfl rfl ?_
    refine zq_aload K dX2_merge_38 rfl ?_
    refine zq_getI K dX2_merge_40 zclX1 (k := 1) (by decide) zf_X2_164 rfl (hC.f (zVal.fg hv hF (show h < 8 by omega))).1 ?_
    refine zq_top (hC.f (zVal.fg hv hF (show h < 8 by omega))).2.2.1 ?_
    refine zq_top (v := nI (zfg (B.2 10) d h)) (congrArg nI (by have := zfg_le (B.2 10) d h; omega)) ?_
    refine zq_aload K dX2_merge_43 rfl ?_
    refine zq_getI K dX2_merge_45 zclX1 (k := 2) (by decide) zf_X2_145 rfl (hC.f (zVal.fg hv hF (show h < 8 by omega))).1 ?_
    refine zq_top (hC.f (zVal.fg hv hF (show h < 8 by omega))).2.2.2.1 ?_
    refine zq_top (v := nI (s)) es ?_
    refine zq_ixor K dX2_merge_48 ?_
    refine zq_top (v := nI (x)) hx ?_
    refine zq_callV (As := [.int (nI (x))]) K dX2_merge_49 zyX0_fragmentAt zm_X2_142 ziX0_fragmentAt zvX0_fragmentAt zclX0 rfl (by decide) rfl rfl (Nat.le_of_ble_eq_true rfl) (Nat.le_of_ble_eq_true rfl) (hC.d hv).1 (ct_X0_fragmentAt8 hC hv hx8) (zone_r ?_) zone_x (Nat.le_refl _)
    refine zq_astore K dX2_merge_52 (by decide) ?_
    refine zq_aload K dX2_merge_54 rfl ?_
    refine zq_getI K dX2_merge_56 zclX1 (k := 2) (by decide) zf_X2_145 rfl (hC.f (zVal.fg hv hF hx8)).1 ?_
    refine zq_top (hC.f (zVal.fg hv hF hx8)).2.2.2.1 ?_
    refine zq_aload K dX2_merge_59 rfl ?_
    refine zq_getI K dX2_merge_61 zclX1 (k := 2) (by decide) zf_X2_145 rfl (hC.f (zVal.fg hv hF (show h < 8 by omega))).1 ?_
    refine zq_top (hC.f (zVal.fg hv hF (show h < 8 by omega))).2.2.2.1 ?_
    refine zq_top (v := nI (s)) es ?_
    refine zq_icmp_ne K 80 dX2_merge_64 (by decide) (fun h64 => absurd eo h64) (fun h64 => ?_)
    refine zq_aload K dX2_merge_67 rfl ?_
    refine zq_getI K dX2_merge_69 zclX1 (k := 3) (by decide) zf_X2_167 rfl (hC.f (zVal.fg hv hF hx8)).1 ?_
    refine zq_top (hC.f (zVal.fg hv hF hx8)).2.2.2.2.1 ?_
    refine zq_aload K dX2_merge_72 rfl ?_
    refine zq_getI K dX2_merge_74 zclX1 (k := 3) (by decide) zf_X2_167 rfl (hC.f (zVal.fg hv hF (show h < 8 by omega))).1 ?_
    refine zq_top (hC.f (zVal.fg hv hF (show h < 8 by omega))).2.2.2.2.1 ?_
    refine zq_icmp_eq K 90 dX2_merge_77 (by decide) (fun h77 => ?_) (fun h77 => absurd ew h77)
    refine zq_aload_n K dX2_merge_90 rfl rfl ?_
    refine zq_aload K dX2_merge_91 rfl ?_
    refine zq_callV (As := [.ref (W 9 (8 * d + zfg (B.2 10) d h))]) K dX2_merge_93 zyX2_frozen zm_X2_148 ziX2_frozen zvX2_frozen zclX2 rfl (by decide) rfl rfl (Nat.le_of_ble_eq_true rfl) (Nat.le_of_ble_eq_true rfl) hC.x.1 (ct_X2_frozen hC (zVal.fg hv hF (show h < 8 by omega)) hF hU hM) (zdec_r (fun y1 => ?_) (fun y1 => ?_)) zdec_x (Nat.le_refl _)
    · refine zq_if_neN K (x := 1) 108 dX2_merge_96 (by decide) (by omega) (fun h96 => ?_) (fun h96 => by omega)
      exact absurd y1 z1
    · refine zq_if_neN K (x := 0) 108 dX2_merge_96 (by decide) (by omega) (fun h96 => by omega) (fun h96 => ?_)
      refine zq_aload_n K dX2_merge_99 rfl rfl ?_
      refine zq_aload K dX2_merge_100 rfl ?_
      refine zq_callV (As := [.ref (W 9 (8 * d + zfg (B.2 10) d x))]) K dX2_merge_102 zyX2_frozen zm_X2_148 ziX2_frozen zvX2_frozen zclX2 rfl (by decide) rfl rfl (Nat.le_of_ble_eq_true rfl) (Nat.le_of_ble_eq_true rfl) hC.x.1 (ct_X2_frozen hC (zVal.fg hv hF hx8) hF hU hM) (zdec_r (fun y2 => ?_) (fun y2 => ?_)) zdec_x (Nat.le_refl _)
      · refine zq_if_eqN K (x := 1) 118 dX2_merge_105 (by decide) (by omega) (fun h105 => by omega) (fun h105 => ?_)
        exact absurd y2 z2
      · refine zq_if_eqN K (x := 0) 118 dX2_merge_105 (by decide) (by omega) (fun h105 => ?_) (fun h105 => by omega)
        refine zq_aload K dX2_merge_118 rfl ?_
        refine zq_getI K dX2_merge_120 zclX1 (k := 1) (by decide) zf_X2_164 rfl (hC.f (zVal.fg hv hF (show h < 8 by omega))).1 ?_
        refine zq_top (hC.f (zVal.fg hv hF (show h < 8 by omega))).2.2.1 ?_
        refine zq_top (v := nI (zfg (B.2 10) d h)) (congrArg nI (by have := zfg_le (B.2 10) d h; omega)) ?_
        refine zq_aload K dX2_merge_123 rfl ?_
        refine zq_getI K dX2_merge_125 zclX1 (k := 1) (by decide) zf_X2_164 rfl (hC.f (zVal.fg hv hF hx8)).1 ?_
        refine zq_top (hC.f (zVal.fg hv hF hx8)).2.2.1 ?_
        refine zq_top (v := nI (zfg (B.2 10) d x)) (congrArg nI (by have := zfg_le (B.2 10) d x; omega)) ?_
        refine zq_icmp_geN K (x := zfg (B.2 10) d h) (y := zfg (B.2 10) d x) 142 dX2_merge_128 (by decide) ⟨by have := zfg_le (B.2 10) d h; omega, by have := zfg_le (B.2 10) d x; omega⟩ (fun h128 => by omega) (fun h128 => ?_)
        refine zq_aload_n K dX2_merge_131 rfl rfl ?_
        refine zq_aload K dX2_merge_132 rfl ?_
        refine zq_aload K dX2_merge_134 rfl ?_
        refine zq_callV (As := [.ref (W 9 (8 * d + zfg (B.2 10) d h)), .ref (W 9 (8 * d + zfg (B.2 10) d x))]) K dX2_merge_136 zyX0_join zm_X2_174 ziX0_join zvX0_join zclX0 rfl (by decide) rfl rfl (Nat.le_of_ble_eq_true rfl) (Nat.le_of_ble_eq_true rfl) (hC.d hv).1 (show zMet G mX0_join [.ref (W 3 d), .ref (W 9 (8 * d + zfg (B.2 10) d h)), .ref (W 9 (8 * d + zfg (B.2 10) d x))] M _ from by have h9 := ct_X0_join (G := G) hC hM hv (zVal.fg hv hF (show h < 8 by omega)) (s := s) (by rw [show 8 * d + zfg (B.2 10) d h + s = 8 * d + zfg (B.2 10) d x by omega]; exact (zVal.fg hv hF hx8)) hs1 hg es (by rw [show 8 * d + zfg (B.2 10) d h + s = 8 * d + zfg (B.2 10) d x by omega]; exact eo) hT; rw [show 8 * d + zfg (B.2 10) d h + s = 8 * d + zfg (B.2 10) d x by omega] at h9; exact h9) (zCP_r hS (fun _ _ h => h) (fun M hC hS => ?_)) zCP_x (Nat.le_refl _)
        refine zq_goto K 150 dX2_merge_139 (by decide) ?_
        refine zq_aload_n K dX2_merge_150 rfl rfl ?_
        refine zq_callV (As := []) K dX2_merge_151 zyX0_countFragments zm_X2_158 ziX0_countFragments zvX0_countFragments zclX0 rfl (by decide) rfl rfl (Nat.le_of_ble_eq_true rfl) (Nat.le_of_ble_eq_true rfl) (hC.d hv).1 (ct_X0_countFragments (B := zMg B (8 * d + zfg (B.2 10) d h) s) hC (d := d) ⟨hv.1, hv.2⟩ hF9) (zone_r ?_) zone_x (Nat.le_refl _)
        exact zq_iret K dX2_merge_154 rfl ⟨rfl, hC, hS⟩
  · exact absurd ⟨h, hh, rfl⟩ hh9
theorem ct_X2_merge_okB {G : ZG} {M : ZM} {W : Nat → Nat → Nat} {B : ZA} (hC : zC M W B) (hW : zWf B) {d h : Nat} (hv : zVal B 3 d) (hh : h ≤ 7) (hM : zMw B) {s x : Nat} (es : B.2 10 (8 * d + zfg (B.2 10) d h) = nI s) (hs : s < 8) (hx : nI (zfg (B.2 10) d h) ^^^ nI s = nI x) (hx8 : x < 8) (eo : B.2 10 (8 * d + zfg (B.2 10) d x) = nI s) (ew : B.2 11 (8 * d + zfg (B.2 10) d x) = B.2 11 (8 * d + zfg (B.2 10) d h)) (z1 : ¬ zfz B (8 * d + zfg (B.2 10) d h) = true) (z2 : ¬ zfz B (8 * d + zfg (B.2 10) d x) = true) (hs1 : 1 ≤ s) (hrel : zfg (B.2 10) d h = zfg (B.2 10) d x + s) (hg : zfg (B.2 10) d x + (s + s) ≤ 8) (hT : ∀ y, y < 8 → zfg ((zMg B (8 * d + zfg (B.2 10) d x) s).2 10) d y = if zfg (B.2 10) d x ≤ y ∧ y < zfg (B.2 10) d x + (s + s) then zfg (B.2 10) d x else zfg (B.2 10) d y) (hF9 : zFr (zMg B (8 * d + zfg (B.2 10) d x) s)) : zMet G mX2_merge [.ref (W 10 0), .int (nI (d)), .int (nI (h))] M (zCP W M B (some (.int (nI (zcN (zpz (zMg B (8 * d + zfg (B.2 10) d x) s) d) 8)))) (zMg B (8 * d + zfg (B.2 10) d x) s)) := by
  refine zbody zyX2_merge [some (.ref (W 10 0)), some (.int (nI (d))), some (.int (nI (h))), none, none, none] rfl (Nat.le_of_ble_eq_true rfl) (by intro v hv; simp only [List.mem_cons, List.not_mem_nil, or_false] at hv; rcases hv with rfl | rfl | rfl <;> rfl) (fun E K => ?_)
  obtain ⟨⟨D, hB⟩, hF, hU⟩ := id hW
  have hS : zFm M W B M := zFm.rf
  refine zq_iload_n K dX2_merge_0 rfl rfl ?_
  refine zq_callS (As := [.int (nI (h))]) K dX2_merge_1 zyX2_needHash zm_X2_139 zsX2_needHash rfl (by decide) rfl rfl (Nat.le_of_ble_eq_true rfl) (Nat.le_of_ble_eq_true rfl) (ct_X2_needHash (nI h) M) (znd_r (fun hh9 => ?_)) (znd_x (fun hh9 => ?_)) (Nat.le_refl _)
  · refine zq_aload_n K dX2_merge_4 rfl rfl ?_
    refine zq_iload_n K dX2_merge_5 rfl rfl ?_
    refine zq_callV (As := [.int (nI (d))]) K dX2_merge_6 zyX2_needDirectory zm_X2_36 ziX2_needDirectory zvX2_needDirectory zclX2 rfl (by decide) rfl rfl (Nat.le_of_ble_eq_true rfl) (Nat.le_of_ble_eq_true rfl) hC.x.1 (ct_X2_needDirectory_1 hC hv) (zone_r ?_) zone_x (Nat.le_refl _)
    refine zq_astore_n K dX2_merge_9 rfl (by decide) ?_
    refine zq_aload_n K dX2_merge_10 rfl rfl ?_
    refine zq_iload_n K dX2_merge_11 rfl rfl ?_
    refine zq_callV (As := [.int (nI (h))]) K dX2_merge_12 zyX0_fragmentAt zm_X2_142 ziX0_fragmentAt zvX0_fragmentAt zclX0 rfl (by decide) rfl rfl (Nat.le_of_ble_eq_true rfl) (Nat.le_of_ble_eq_true rfl) (hC.d hv).1 (ct_X0_fragmentAt8 hC hv (show h < 8 by omega)) (zone_r ?_) zone_x (Nat.le_refl _)
    refine zq_astore K dX2_merge_15 (by decide) ?_
    refine zq_aload K dX2_merge_17 rfl ?_
    refine zq_getI K dX2_merge_19 zclX1 (k := 2) (by decide) zf_X2_145 rfl (hC.f (zVal.fg hv hF (show h < 8 by omega))).1 ?_
    refine zq_top (hC.f (zVal.fg hv hF (show h < 8 by omega))).2.2.2.1 ?_
    refine zq_top (v := nI (s)) es ?_
    refine zq_bipush K dX2_merge_22 (v := nI 8) (by decide) ?_
    refine zq_icmp_ltN K (x := s) (y := 8) 37 dX2_merge_24 (by decide) ⟨by omega, by omega⟩ (fun h24 => ?_) (fun h24 => by omega)
    refine zq_aload_n K dX2_merge_37 rfl rfl ?_
    refine zq_aload K dX2_merge_38 rfl ?_
    refine zq_getI K dX2_merge_40 zclX1 (k := 1) (by decide) zf_X2_164 rfl (hC.f (zVal.fg hv hF (show h < 8 by omega))).1 ?_
    refine zq_top (hC.f (zVal.fg hv hF (show h < 8 by omega))).2.2.1 ?_
    refine zq_top (v := nI (zfg (B.2 10) d h)) (congrArg nI (by have := zfg_le (B.2 10) d h; omega)) ?_
    refine zq_aload K dX2_merge_43 rfl ?_
    refine zq_getI K dX2_merge_45 zclX1 (k := 2) (by decide) zf_X2_145 rfl (hC.f (zVal.fg hv hF (show h < 8 by omega))).1 ?_
    refine zq_top (hC.f (zVal.fg hv hF (show h < 8 by omega))).2.2.2.1 ?_
    refine zq_top (v := nI (s)) es ?_
    refine zq_ixor K dX2_merge_48 ?_
    refine zq_top (v := nI (x)) hx ?_
    refine zq_callV (As := [.int (nI (x))]) K dX2_merge_49 zyX0_fragmentAt zm_X2_142 ziX0_fragmentAt zvX0_fragmentAt zclX0 rfl (by decide) rfl rfl (Nat.le_of_ble_eq_true rfl) (Nat.le_of_ble_eq_true rfl) (hC.d hv).1 (ct_X0_fragmentAt8 hC hv hx8) (zone_r ?_) zone_x (Nat.le_refl _)
    refine zq_astore K dX2_merge_52 (by decide) ?_
    refine zq_aload K dX2_merge_54 rfl ?_
    refine zq_getI K dX2_merge_56 zclX1 (k := 2) (by decide) zf_X2_145 rfl (hC.f (zVal.fg hv hF hx8)).1 ?_
    refine zq_top (hC.f (zVal.fg hv hF hx8)).2.2.2.1 ?_
    refine zq_aload K dX2_merge_59 rfl ?_
    refine zq_getI K dX2_merge_61 zclX1 (k := 2) (by decide) zf_X2_145 rfl (hC.f (zVal.fg hv hF (show h < 8 by omega))).1 ?_
    refine zq_top (hC.f (zVal.fg hv hF (show h < 8 by omega))).2.2.2.1 ?_
    refine zq_top (v := nI (s)) es ?_
    refine zq_icmp_ne K 80 dX2_merge_64 (by decide) (fun h64 => absurd eo h64) (fun h64 => ?_)
    refine zq_aload K dX2_merge_67 rfl ?_
    refine zq_getI K dX2_merge_69 zclX1 (k := 3) (by decide) zf_X2_167 rfl (hC.f (zVal.fg hv hF hx8)).1 ?_
    refine zq_top (hC.f (zVal.fg hv hF hx8)).2.2.2.2.1 ?_
    refine zq_aload K dX2_merge_72 rfl ?_
    refine zq_getI K dX2_merge_74 zclX1 (k := 3) (by decide) zf_X2_167 rfl (hC.f (zVal.fg hv hF (show h < 8 by omega))).1 ?_
    refine zq_top (hC.f (zVal.fg hv hF (show h < 8 by omega))).2.2.2.2.1 ?_
    refine zq_icmp_eq K 90 dX2_merge_77 (by decide) (fun h77 => ?_) (fun h77 => absurd ew h77)
    refine zq_aload_n K dX2_merge_90 rfl rfl ?_
    refine zq_aload K dX2_merge_91 rfl ?_
    refine zq_callV (As := [.ref (W 9 (8 * d + zfg (B.2 10) d h))]) K dX2_merge_93 zyX2_frozen zm_X2_148 ziX2_frozen zvX2_frozen zclX2 rfl (by decide) rfl rfl (Nat.le_of_ble_eq_true rfl) (Nat.le_of_ble_eq_true rfl) hC.x.1 (ct_X2_frozen hC (zVal.fg hv hF (show h < 8 by omega)) hF hU hM) (zdec_r (fun y1 => ?_) (fun y1 => ?_)) zdec_x (Nat.le_refl _)
    · refine zq_if_neN K (x := 1) 108 dX2_merge_96 (by decide) (by omega) (fun h96 => ?_) (fun h96 => by omega)
      exact absurd y1 z1
    · refine zq_if_neN K (x := 0) 108 dX2_merge_96 (by decide) (by omega) (fun h96 => by omega) (fun h96 => ?_)
      refine zq_aload_n K dX2_merge_99 rfl rfl ?_
      refine zq_aload K dX2_merge_100 rfl ?_
      refine zq_callV (As := [.ref (W 9 (8 * d + zfg (B.2 10) d x))]) K dX2_merge_102 zyX2_frozen zm_X2_148 ziX2_frozen zvX2_frozen zclX2 rfl (by decide) rfl rfl (Nat.le_of_ble_eq_true rfl) (Nat.le_of_ble_eq_true rfl) hC.x.1 (ct_X2_frozen hC (zVal.fg hv hF hx8) hF hU hM) (zdec_r (fun y2 => ?_) (fun y2 => ?_)) zdec_x (Nat.le_refl _)
      · refine zq_if_eqN K (x := 1) 118 dX2_merge_105 (by decide) (by omega) (fun h105 => by omega) (fun h105 => ?_)
        exact absurd y2 z2
      · refine zq_if_eqN K (x := 0) 118 dX2_merge_105 (by decide) (by omega) (fun h105 => ?_) (fun h105 => by omega)
        refine zq_aload K dX2_merge_118 rfl ?_
        refine zq_getI K dX2_merge_120 zclX1 (k := 1) (by decide) zf_X2_164 rfl (hC.f (zVal.fg hv hF (show h < 8 by omega))).1 ?_
        refine zq_top (hC.f (zVal.fg hv hF (show h < 8 by omega))).2.2.1 ?_
        refine zq_top (v := nI (zfg (B.2 10) d h)) (congrArg nI (by have := zfg_le (B.2 10) d h; omega)) ?_
        refine zq_aload K dX2_merge_123 rfl ?_
        refine zq_getI K dX2_merge_125 zclX1 (k := 1) (by decide) zf_X2_164 rfl (hC.f (zVal.fg hv hF hx8)).1 ?_
        refine zq_top (hC.f (zVal.fg hv hF hx8)).2.2.1 ?_
        refine zq_top (v := nI (zfg (B.2 10) d x)) (congrArg nI (by have := zfg_le (B.2 10) d x; omega)) ?_
        refine zq_icmp_geN K (x := zfg (B.2 10) d h) (y := zfg (B.2 10) d x) 142 dX2_merge_128 (by decide) ⟨by have := zfg_le (B.2 10) d h; omega, by have := zfg_le (B.2 10) d x; omega⟩ (fun h128 => ?_) (fun h128 => by omega)
        refine zq_aload_n K dX2_merge_142 rfl rfl ?_
        refine zq_aload K dX2_merge_143 rfl ?_
        refine zq_aload K dX2_merge_145 rfl ?_
        refine zq_callV (As := [.ref (W 9 (8 * d + zfg (B.2 10) d x)), .ref (W 9 (8 * d + zfg (B.2 10) d h))]) K dX2_merge_147 zyX0_join zm_X2_174 ziX0_join zvX0_join zclX0 rfl (by decide) rfl rfl (Nat.le_of_ble_eq_true rfl) (Nat.le_of_ble_eq_true rfl) (hC.d hv).1 (show zMet G mX0_join [.ref (W 3 d), .ref (W 9 (8 * d + zfg (B.2 10) d x)), .ref (W 9 (8 * d + zfg (B.2 10) d h))] M _ from by have h9 := ct_X0_join (G := G) hC hM hv (zVal.fg hv hF hx8) (s := s) (by rw [show 8 * d + zfg (B.2 10) d x + s = 8 * d + zfg (B.2 10) d h by omega]; exact (zVal.fg hv hF (show h < 8 by omega))) hs1 hg eo (by rw [show 8 * d + zfg (B.2 10) d x + s = 8 * d + zfg (B.2 10) d h by omega]; exact es) hT; rw [show 8 * d + zfg (B.2 10) d x + s = 8 * d + zfg (B.2 10) d h by omega] at h9; exact h9) (zCP_r hS (fun _ _ h => h) (fun M hC hS => ?_)) zCP_x (Nat.le_refl _)
        refine zq_aload_n K dX2_merge_150 rfl rfl ?_
        refine zq_callV (As := []) K dX2_merge_151 zyX0_countFragments zm_X2_158 ziX0_countFragments zvX0_countFragments zclX0 rfl (by decide) rfl rfl (Nat.le_of_ble_eq_true rfl) (Nat.le_of_ble_eq_true rfl) (hC.d hv).1 (ct_X0_countFragments (B := zMg B (8 * d + zfg (B.2 10) d x) s) hC (d := d) ⟨hv.1, hv.2⟩ hF9) (zone_r ?_) zone_x (Nat.le_refl _)
        exact zq_iret K dX2_merge_154 rfl ⟨rfl, hC, hS⟩
  · exact absurd ⟨h, hh, rfl⟩ hh9

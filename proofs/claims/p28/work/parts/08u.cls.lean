/-- the class at its beginning -/
def zB0 : ZA := zsc (zNd zBz0 0 0 (nI 0) (nI 0)) 2 (nI 1)
/-- .. a new one at c -/
def zPC (M : ZM) (c : Nat) (M' : ZM) : Prop := ∃ W : Nat → Nat → Nat, zC M' W zB0 ∧ W 10 0 = c ∧ (∀ i j, zVal zB0 i j → ¬ i = 10 → zk M (W i j) = 0) ∧ ∀ y, ¬ zk M y = 0 → y ≠ c → zsame M M' y
theorem zBz0_n {i : Nat} (h : i ≠ 6) (j : Nat) : zBz0.2 i j = 0 := zNs_n h j 600
theorem zBz0_6 {i : Nat} (hi : i = 6) (j : Nat) : zBz0.2 i j = if j < 600 then -1 else 0 := by
  show (zNs 600).2 i j = _
  rw [hi, zNs_6]
theorem zBz0_1 (k : Nat) : zBz0.1 k = (if k = 2 then 0 else (if k = 16 then -1 else if k = 2 then 1 else 0)) := by
  show (if k = 2 then 0 else (zNs 600).1 k) = _
  rw [zNs_1]
  rfl
theorem zBz0_3 (j : Nat) : ¬ zBz0.2 3 j = 1 := fun e => by
  rw [zBz0_n (by decide)] at e
  exact absurd e (by decide)
theorem zBz0_v {i j : Nat} (h : zVal zBz0 i j) : (i = 0 ∨ i = 1 ∨ i = 2 ∨ i = 10) ∧ j = 0 := by
  unfold zVal at h
  split at h
  · exact absurd h.2 (zBz0_3 _)
  · exact absurd h.2 (zBz0_3 _)
  · exact absurd h.2 (zBz0_3 _)
  · exact absurd h.2 (zBz0_3 _)
  · exact absurd h.2 (zBz0_3 _)
  · exact absurd h.2 (zBz0_3 _)
  · exact absurd h.2.1 (zBz0_3 _)
  · rename_i g1 g2 g3 g4 g5 g6 g7
    have k1 : i ≠ 3 := g1
    have k2 : i ≠ 4 := g2
    have k3 : i ≠ 5 := g3
    have k4 : i ≠ 6 := g4
    have k5 : i ≠ 7 := g5
    have k6 : i ≠ 8 := g6
    have k7 : i ≠ 9 := g7
    exact ⟨by omega, h.2⟩
theorem zNv0 : zNv zBz0 0 := fun k hk => ⟨by
  rw [zBz0_6 rfl, if_pos (by omega)], zBz0_n (by decide) _, fun c _ => zBz0_n (by decide) _⟩
theorem ct_X2_init {G : ZG} {M : ZM} {c : Nat} (hx : zk M c = 3) (hz : ∀ j, zi M c j = 0) (hr : ∀ j, zr M c j = none) : zMet G mX2_init [.ref (c)] M (zPP (zPC M c) none) := by
  refine zbody zyX2_init [some (.ref (c))] rfl (Nat.le_of_ble_eq_true rfl) (by intro v hv; simp only [List.mem_cons, List.not_mem_nil, or_false] at hv; rcases hv with rfl <;> rfl) (fun E K => ?_)
  refine zq_aload_n K dX2_init_0 rfl rfl ?_
  refine zq_objInit K dX2_init_1 zm_X2_1 (zt 31 (by decide +kernel) rfl) (zt 32 (by decide +kernel) rfl) (Nat.le_of_ble_eq_true rfl) (by decide) ?_
  refine zq_aload_n K dX2_init_4 rfl rfl ?_
  refine zq_bipush K dX2_init_5 (v := nI 12) (by decide) ?_
  refine zq_anewD K dX2_init_7 zc_X2_9 (by decide) (Nat.le_refl _) (fun a1 ha1 => ?_)
  have n_a1_c : a1 ≠ c := fun e => by rw [e, hx] at ha1; exact absurd ha1 (by decide)
  have kc1 : zk (zw M a1 8 12) c = 3 := by rw [zk_w, if_neg n_a1_c.symm]; exact hx
  refine zq_putRs K dX2_init_10 zclX2 (k := 0) (by decide) zf_X2_11 (Or.inr ⟨rfl, rfl⟩) (fun r => by cases r <;> exact ⟨rfl, rfl⟩) rfl kc1 ?_
  refine zq_aload_n K dX2_init_13 rfl rfl ?_
  refine zq_iconst K dX2_init_14 (v := nI 4) (by decide) ?_
  refine zq_newI K (4) 1 dX2_init_15 (by decide) ⟨by decide, by decide, by decide⟩ (Nat.le_refl _) (fun a2 ha2 => ?_)
  rw [zk_r, zk_w] at ha2
  have n_a2_a1 : a2 ≠ a1 := fun e => by rw [if_pos e] at ha2; exact absurd ha2 (by decide)
  rw [if_neg n_a2_a1] at ha2
  have n_a2_c : a2 ≠ c := fun e => by rw [e, hx] at ha2; exact absurd ha2 (by decide)
  have kc2 : zk (zw (zsr (zw M a1 8 12) c 0 (some a1)) a2 5 4) c = 3 := by rw [zk_w, if_neg n_a2_c.symm]; exact kc1
  refine zq_putRs K dX2_init_17 zclX2 (k := 5) (by decide) zf_X2_15 (Or.inr ⟨rfl, rfl⟩) (fun r => by cases r <;> exact ⟨rfl, rfl⟩) rfl kc2 ?_
  refine zq_aload_n K dX2_init_20 rfl rfl ?_
  refine zq_iconst K dX2_init_21 (v := nI 4) (by decide) ?_
  refine zq_newI K (4) 1 dX2_init_22 (by decide) ⟨by decide, by decide, by decide⟩ (Nat.le_refl _) (fun a3 ha3 => ?_)
  rw [zk_r, zk_w] at ha3
  have n_a3_a2 : a3 ≠ a2 := fun e => by rw [if_pos e] at ha3; exact absurd ha3 (by decide)
  rw [if_neg n_a3_a2, zk_r, zk_w] at ha3
  have n_a3_a1 : a3 ≠ a1 := fun e => by rw [if_pos e] at ha3; exact absurd ha3 (by decide)
  rw [if_neg n_a3_a1] at ha3
  have n_a3_c : a3 ≠ c := fun e => by rw [e, hx] at ha3; exact absurd ha3 (by decide)
  have kc3 : zk (zw (zsr (zw (zsr (zw M a1 8 12) c 0 (some a1)) a2 5 4) c 5 (some a2)) a3 5 4) c = 3 := by rw [zk_w, if_neg n_a3_c.symm]; exact kc2
  refine zq_putRs K dX2_init_24 zclX2 (k := 6) (by decide) zf_X2_19 (Or.inr ⟨rfl, rfl⟩) (fun r => by cases r <;> exact ⟨rfl, rfl⟩) rfl kc3 ?_
  have q1 : zk (zsr (zw (zsr (zw (zsr (zw M a1 8 12) c 0 (some a1)) a2 5 4) c 5 (some a2)) a3 5 4) c 6 (some a3)) a1 = 8 ∧ zn (zsr (zw (zsr (zw (zsr (zw M a1 8 12) c 0 (some a1)) a2 5 4) c 5 (some a2)) a3 5 4) c 6 (some a3)) a1 = 12 ∧ ∀ d, d < 12 → zr (zsr (zw (zsr (zw (zsr (zw M a1 8 12) c 0 (some a1)) a2 5 4) c 5 (some a2)) a3 5 4) c 6 (some a3)) a1 d = none := ⟨by rw [zk_r, zk_w, if_neg n_a3_a1.symm, zk_r, zk_w, if_neg n_a2_a1.symm, zk_r, zk_w, if_pos rfl], by rw [zn_r, zn_w, if_neg n_a3_a1.symm, zn_r, zn_w, if_neg n_a2_a1.symm, zn_r, zn_w, if_pos rfl], fun d _ => by rw [zr_r, if_neg (fun z => n_a1_c z.1), zr_w, if_neg n_a3_a1.symm, zr_r, if_neg (fun z => n_a1_c z.1), zr_w, if_neg n_a2_a1.symm, zr_r, if_neg (fun z => n_a1_c z.1), zr_w, if_pos rfl]⟩
  have q2 : zk (zsr (zw (zsr (zw (zsr (zw M a1 8 12) c 0 (some a1)) a2 5 4) c 5 (some a2)) a3 5 4) c 6 (some a3)) a2 = 5 ∧ zn (zsr (zw (zsr (zw (zsr (zw M a1 8 12) c 0 (some a1)) a2 5 4) c 5 (some a2)) a3 5 4) c 6 (some a3)) a2 = 4 ∧ ∀ j, j < 4 → zi (zsr (zw (zsr (zw (zsr (zw M a1 8 12) c 0 (some a1)) a2 5 4) c 5 (some a2)) a3 5 4) c 6 (some a3)) a2 j = 0 := ⟨by rw [zk_r, zk_w, if_neg n_a3_a2.symm, zk_r, zk_w, if_pos rfl], by rw [zn_r, zn_w, if_neg n_a3_a2.symm, zn_r, zn_w, if_pos rfl], fun d _ => by rw [zi_r, zi_w, if_neg n_a3_a2.symm, zi_r, zi_w, if_pos rfl]⟩
  have q3 : zk (zsr (zw (zsr (zw (zsr (zw M a1 8 12) c 0 (some a1)) a2 5 4) c 5 (some a2)) a3 5 4) c 6 (some a3)) a3 = 5 ∧ zn (zsr (zw (zsr (zw (zsr (zw M a1 8 12) c 0 (some a1)) a2 5 4) c 5 (some a2)) a3 5 4) c 6 (some a3)) a3 = 4 ∧ ∀ j, j < 4 → zi (zsr (zw (zsr (zw (zsr (zw M a1 8 12) c 0 (some a1)) a2 5 4) c 5 (some a2)) a3 5 4) c 6 (some a3)) a3 j = 0 := ⟨by rw [zk_r, zk_w, if_pos rfl], by rw [zn_r, zn_w, if_pos rfl], fun d _ => by rw [zi_r, zi_w, if_pos rfl]⟩
  have wc : ∀ k, zr (zsr (zw (zsr (zw (zsr (zw M a1 8 12) c 0 (some a1)) a2 5 4) c 5 (some a2)) a3 5 4) c 6 (some a3)) c k = if k = 6 then some a3 else if k = 5 then some a2 else if k = 0 then some a1 else none := fun k => by
    rw [zr_r, zr_w, if_neg n_a3_c.symm, zr_r, zr_w, if_neg n_a2_c.symm, zr_r, zr_w, if_neg n_a1_c.symm, hr]
    simp only [true_and]
  have q4 : zk (zsr (zw (zsr (zw (zsr (zw M a1 8 12) c 0 (some a1)) a2 5 4) c 5 (some a2)) a3 5 4) c 6 (some a3)) c = 3 ∧ (zr (zsr (zw (zsr (zw (zsr (zw M a1 8 12) c 0 (some a1)) a2 5 4) c 5 (some a2)) a3 5 4) c 6 (some a3)) c 0 = some a1 ∧ zr (zsr (zw (zsr (zw (zsr (zw M a1 8 12) c 0 (some a1)) a2 5 4) c 5 (some a2)) a3 5 4) c 6 (some a3)) c 5 = some a2 ∧ zr (zsr (zw (zsr (zw (zsr (zw M a1 8 12) c 0 (some a1)) a2 5 4) c 5 (some a2)) a3 5 4) c 6 (some a3)) c 6 = some a3) ∧ (∀ j, zi (zsr (zw (zsr (zw (zsr (zw M a1 8 12) c 0 (some a1)) a2 5 4) c 5 (some a2)) a3 5 4) c 6 (some a3)) c j = 0) ∧ zr (zsr (zw (zsr (zw (zsr (zw M a1 8 12) c 0 (some a1)) a2 5 4) c 5 (some a2)) a3 5 4) c 6 (some a3)) c 7 = none := ⟨kc3, ⟨(wc 0).trans rfl, (wc 5).trans rfl, (wc 6).trans rfl⟩, fun j => by rw [zi_r, zi_w, if_neg n_a3_c.symm, zi_r, zi_w, if_neg n_a2_c.symm, zi_r, zi_w, if_neg n_a1_c.symm]; exact hz j, (wc 7).trans rfl⟩
  have s6 : ∀ y, ¬ zk M y = 0 → y ≠ c → zsame M (zsr (zw (zsr (zw (zsr (zw M a1 8 12) c 0 (some a1)) a2 5 4) c 5 (some a2)) a3 5 4) c 6 (some a3)) y := fun y h1 h2 => (((((zsame.w (fun e : y = a1 => h1 (e ▸ ha1))).tr (zsame.r h2)).tr (zsame.w (fun e : y = a2 => h1 (e ▸ ha2)))).tr (zsame.r h2)).tr (zsame.w (fun e : y = a3 => h1 (e ▸ ha3)))).tr (zsame.r h2)
  generalize (zsr (zw (zsr (zw (zsr (zw M a1 8 12) c 0 (some a1)) a2 5 4) c 5 (some a2)) a3 5 4) c 6 (some a3)) = M6 at *
  have hC0 := zC.zero q1 q2 q3 q4 n_a3_a2.symm
  refine zq_aload_n K dX2_init_27 rfl rfl ?_
  refine zq_getRs K dX2_init_28 zclX2 (k := 0) (by decide) zf_X2_11 rfl q4.1 q4.2.1.1 ?_
  refine zq_iconst K dX2_init_31 (v := nI 0) (by decide) ?_
  refine zq_new K dX2_init_32 zclX0 zc_X2_9 (by decide) (by decide) (Nat.le_of_ble_eq_true rfl) (Nat.le_refl _) (fun a9 ha9 => ?_)
  refine zq_dup K dX2_init_35 rfl ?_
  refine zq_iconst K dX2_init_36 (v := nI 0) (by decide) ?_
  refine zq_null K dX2_init_37 ?_
  refine zq_iconst K dX2_init_38 (v := nI 0) (by decide) ?_
  refine zq_iconst K dX2_init_39 (v := nI 0) (by decide) ?_
  refine zq_callI (As := [.int (nI (0)), .null, .int (nI (0)), .int (nI (0))]) K dX2_init_40 zyX0_init rfl rfl zm_X2_22 ziX0_init (by decide) rfl rfl (Nat.le_of_ble_eq_true rfl) (Nat.le_of_ble_eq_true rfl) (ct_X0_init_0 (show zk (zw M6 a9 1 0) a9 = 1 from by rw [zk_w, if_pos rfl]) 0 (nI 0) (nI 0)) (zPP_r (fun M8 h8 => ?_)) zPP_x (Nat.le_refl _)
  obtain ⟨nu, hdi⟩ := h8
  have n9 : a1 ≠ a9 := fun e => by have := q1.1; rw [e, ha9] at this; exact absurd this (by decide)
  have s0 : zsame M6 M8 a1 := (zsame.w n9).tr (hdi.1.2.2 a1 (by rw [zk_w, if_neg n9, q1.1]; decide) n9)
  refine zq_aast K 0 dX2_init_43 zclX0 (s0.1.trans q1.1) ⟨rfl, by decide⟩ hdi.2.1.1 rfl (by rw [s0.2.1, q1.2.1]; decide) (by rw [s0.2.1, q1.2.1]; decide) ?_
  have g30 : ¬ zBz0.2 3 0 = 1 := zBz0_3 0
  have gm : zMw zBz0 := Or.inl ((zBz0_1 16).trans (by decide))
  obtain ⟨hC2, hS2, hW2⟩ := hC0.new (p := 0) (D := 0) gm (by decide) g30 ha9 hdi (Or.inl ⟨rfl, rfl⟩) zNv0 (fun j hj h0 => absurd hj.2 (zBz0_3 j))
  refine zq_aload_n K dX2_init_44 rfl rfl ?_
  refine zq_iconst K dX2_init_45 (v := nI 1) (by decide) ?_
  refine zc_p2_1 (W := zWn (zW0 c a1 a2 a3) a9 nu 0) (B0 := zNd zBz0 0 0 (nI 0) (nI 0)) (v := nI 1) K dX2_init_46 zf_X2_25 hC2 zFm.rf (fun M9 hC9 hS9 => ?_)
  refine zq_ret K dX2_init_49 rfl ⟨rfl, zWn (zW0 c a1 a2 a3) a9 nu 0, hC9, rfl, fun i j hv hi => ?_, fun y h1 h2 => ?_⟩
  · have hv2 := zVal.scx.mp hv
    have hfm : ∀ z, zk M6 z = 0 → zk M z = 0 := fun z hz => by
      by_cases e : zk M z = 0
      · exact e
      · by_cases ec : z = c
        · rw [ec, q4.1] at hz; exact absurd hz (by decide)
        · rw [(s6 z e ec).1] at hz; exact absurd hz e
    rcases hW2 i j hv2 with ⟨g1, g2⟩ | g
    · rw [g2]
      obtain ⟨k1, rfl⟩ := zBz0_v g1
      rcases k1 with rfl | rfl | rfl | rfl
      · exact ha1
      · exact ha2
      · exact ha3
      · exact absurd rfl hi
    · exact hfm _ g
  · have h6 := s6 y h1 h2
    have y6 : ¬ zk M6 y = 0 := by rw [h6.1]; exact h1
    have yo : ∀ i j, zVal zBz0 i j → y ≠ zW0 c a1 a2 a3 i j := fun i j g1 => by
      obtain ⟨k1, rfl⟩ := zBz0_v g1
      rcases k1 with rfl | rfl | rfl | rfl
      · exact fun e => h1 (e ▸ ha1)
      · exact fun e => h1 (e ▸ ha2)
      · exact fun e => h1 (e ▸ ha3)
      · exact h2
    exact h6.tr ((hS2.trW hS9 hW2) y y6 yo)


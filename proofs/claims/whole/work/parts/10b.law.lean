/-! the law: its own methods, a call each -/
theorem ct_L_lookup {G : ZG} {M : ZM} {c x out t : Nat} (h : zLS M c x out t) (a0 a1 a2 : Int32) : zMetW G hL_lookup mL_lookup [.ref c, .int a0, .int a1, .int a2, .ref out] M (zLP c x out mX3_lookup [.int a0, .int a1, .int a2] t zI1 (zpI out)) := by
  obtain ⟨W, B, q, w, A, hP, hS⟩ := h
  have hC := hP.1
  have hc : W 10 0 = c := hP.2.2.1
  have h7 := hP.2.2.2.2.1
  have h1 := hP.2.2.2.2.2
  have hk3 : zk M c = 3 := by rw [← hc]; exact hC.x.1
  refine zbodyW zyL_lookup [some (.ref c), some (.int a0), some (.int a1), some (.int a2), some (.ref out), none] rfl (Nat.le_of_ble_eq_true rfl) (by intro v hv; simp only [List.mem_cons, List.not_mem_nil, or_false] at hv; rcases hv with rfl | rfl | rfl | rfl | rfl <;> rfl) (fun E K => ?_)
  refine zq_aload K dL_lookup_0 rfl ?_
  refine zq_iconst K dL_lookup_2 (v := nI 0) (by decide) ?_
  refine zq_aload_n K dL_lookup_3 rfl rfl ?_
  refine zq_iload_n K dL_lookup_4 rfl rfl ?_
  refine zq_iload_n K dL_lookup_5 rfl rfl ?_
  refine zq_iload_n K dL_lookup_6 rfl rfl ?_
  rcases sm_lookup hS a0 a1 a2 with ⟨v, A', B', s1, s2, s3⟩ | ⟨j, En, hf, v, A', s1, s2, s3⟩
  · refine zq_callV (As := [.int a0, .int a1, .int a2]) K dL_lookup_7 zyX2_lookup zm_L_7 ziX2_lookup zvX2_lookup zclX2 rfl (by decide) rfl rfl (Nat.le_of_ble_eq_true rfl) (Nat.le_of_ble_eq_true rfl) hk3 (by have z := s2 G M W hC; rw [hc] at z; exact z) (zCW_r hP (fun M1 W1 hP1 => ?_)) zCW_x (Nat.le_refl _)
    refine zq_i2l K dL_lookup_10 ?_
    refine zq_last K 0 dL_lookup_11 hP1.2.2.2.2.1 rfl (by rw [hP1.2.2.2.2.2]; decide) (by rw [hP1.2.2.2.2.2]; decide) ?_
    refine zq_goto K 23 dL_lookup_12 (by decide) ?_
    refine zq_iconst K dL_lookup_23 (v := nI 0) (by decide) ?_
    exact zq_iret K dL_lookup_24 rfl ⟨0, v, W1, B', q, w, A, A', rfl, by decide, hP1.wr, s1, s3, fun _ => by unfold zpI; rw [zj_j, if_pos ⟨rfl, rfl⟩]⟩
  · refine zq_callV (As := [.int a0, .int a1, .int a2]) K dL_lookup_7 zyX2_lookup zm_L_7 ziX2_lookup zvX2_lookup zclX2 rfl (by decide) rfl rfl (Nat.le_of_ble_eq_true rfl) (Nat.le_of_ble_eq_true rfl) hk3 (by have z := s2 G M W hC; rw [hc] at z; exact z) zthr_r (zthr_x ?_) (Nat.le_refl _)
    match j, hf, s3 with
    | 0, hf, s3 =>
      cases hf
      refine zx_catch K [] ⟨0, 12, 15, 13⟩ [⟨0, 12, 19, 15⟩] rfl (by decide) (fun z hz => nomatch hz) (by decide) (by decide) zc_L_13 (fun z => ?_)
      refine zq_astore K dL_lookup_15 (by decide) ?_
      refine zq_iconst K dL_lookup_17 (v := nI 1) (by decide) ?_
      exact zq_iret K dL_lookup_18 rfl ⟨1, v, W, B, q, w, A, A', rfl, by decide, hP, s1, s3, fun z => nomatch z⟩
    | 1, hf, s3 =>
      cases hf
      refine zx_catch K [⟨0, 12, 15, 13⟩] ⟨0, 12, 19, 15⟩ [] rfl (by decide) (fun z hz => by rw [List.mem_singleton] at hz; subst hz; exact ⟨by decide, zIAE, by decide, by decide, zc_L_13⟩) (by decide) (by decide) zc_L_15 (fun z => ?_)
      refine zq_astore K dL_lookup_19 (by decide) ?_
      refine zq_iconst K dL_lookup_21 (v := nI 2) (by decide) ?_
      exact zq_iret K dL_lookup_22 rfl ⟨2, v, W, B, q, w, A, A', rfl, by decide, hP, s1, s3, fun z => nomatch z⟩
    | j + 2, hf, _ => exact absurd hf (by simp)
theorem ct_L_makeDirectory {G : ZG} {M : ZM} {c x out t : Nat} (h : zLS M c x out t) (ht : t ≤ 600) (a0 a1 a2 : Int32) : zMetW G hL_makeDirectory mL_makeDirectory [.ref c, .int a0, .int a1, .int a2, .ref out] M (zLP c x out mX3_makeDirectory [.int a0, .int a1, .int a2] t zI1 (zpI out)) := by
  obtain ⟨W, B, q, w, A, hP, hS⟩ := h
  have hC := hP.1
  have hc : W 10 0 = c := hP.2.2.1
  have h7 := hP.2.2.2.2.1
  have h1 := hP.2.2.2.2.2
  have hk3 : zk M c = 3 := by rw [← hc]; exact hC.x.1
  refine zbodyW zyL_makeDirectory [some (.ref c), some (.int a0), some (.int a1), some (.int a2), some (.ref out), none] rfl (Nat.le_of_ble_eq_true rfl) (by intro v hv; simp only [List.mem_cons, List.not_mem_nil, or_false] at hv; rcases hv with rfl | rfl | rfl | rfl | rfl <;> rfl) (fun E K => ?_)
  refine zq_aload K dL_makeDirectory_0 rfl ?_
  refine zq_iconst K dL_makeDirectory_2 (v := nI 0) (by decide) ?_
  refine zq_aload_n K dL_makeDirectory_3 rfl rfl ?_
  refine zq_iload_n K dL_makeDirectory_4 rfl rfl ?_
  refine zq_iload_n K dL_makeDirectory_5 rfl rfl ?_
  refine zq_iload_n K dL_makeDirectory_6 rfl rfl ?_
  rcases sm_makeDirectory hS ht a0 a1 a2 with ⟨v, A', B', s1, s2, s3⟩ | ⟨j, En, hf, v, A', s1, s2, s3⟩
  · refine zq_callV (As := [.int a0, .int a1, .int a2]) K dL_makeDirectory_7 zyX2_makeDirectory zm_L_17 ziX2_makeDirectory zvX2_makeDirectory zclX2 rfl (by decide) rfl rfl (Nat.le_of_ble_eq_true rfl) (Nat.le_of_ble_eq_true rfl) hk3 (by have z := s2 G M W hC; rw [hc] at z; exact z) (zCW_r hP (fun M1 W1 hP1 => ?_)) zCW_x (Nat.le_refl _)
    refine zq_i2l K dL_makeDirectory_10 ?_
    refine zq_last K 0 dL_makeDirectory_11 hP1.2.2.2.2.1 rfl (by rw [hP1.2.2.2.2.2]; decide) (by rw [hP1.2.2.2.2.2]; decide) ?_
    refine zq_goto K 27 dL_makeDirectory_12 (by decide) ?_
    refine zq_iconst K dL_makeDirectory_27 (v := nI 0) (by decide) ?_
    exact zq_iret K dL_makeDirectory_28 rfl ⟨0, v, W1, B', q, w, A, A', rfl, by decide, hP1.wr, s1, s3, fun _ => by unfold zpI; rw [zj_j, if_pos ⟨rfl, rfl⟩]⟩
  · refine zq_callV (As := [.int a0, .int a1, .int a2]) K dL_makeDirectory_7 zyX2_makeDirectory zm_L_17 ziX2_makeDirectory zvX2_makeDirectory zclX2 rfl (by decide) rfl rfl (Nat.le_of_ble_eq_true rfl) (Nat.le_of_ble_eq_true rfl) hk3 (by have z := s2 G M W hC; rw [hc] at z; exact z) zthr_r (zthr_x ?_) (Nat.le_refl _)
    match j, hf, s3 with
    | 0, hf, s3 =>
      cases hf
      refine zx_catch K [] ⟨0, 12, 15, 13⟩ [⟨0, 12, 19, 15⟩, ⟨0, 12, 23, 20⟩] rfl (by decide) (fun z hz => nomatch hz) (by decide) (by decide) zc_L_13 (fun z => ?_)
      refine zq_astore K dL_makeDirectory_15 (by decide) ?_
      refine zq_iconst K dL_makeDirectory_17 (v := nI 1) (by decide) ?_
      exact zq_iret K dL_makeDirectory_18 rfl ⟨1, v, W, B, q, w, A, A', rfl, by decide, hP, s1, s3, fun z => nomatch z⟩
    | 1, hf, s3 =>
      cases hf
      refine zx_catch K [⟨0, 12, 15, 13⟩] ⟨0, 12, 19, 15⟩ [⟨0, 12, 23, 20⟩] rfl (by decide) (fun z hz => by rw [List.mem_singleton] at hz; subst hz; exact ⟨by decide, zIAE, by decide, by decide, zc_L_13⟩) (by decide) (by decide) zc_L_15 (fun z => ?_)
      refine zq_astore K dL_makeDirectory_19 (by decide) ?_
      refine zq_iconst K dL_makeDirectory_21 (v := nI 2) (by decide) ?_
      exact zq_iret K dL_makeDirectory_22 rfl ⟨2, v, W, B, q, w, A, A', rfl, by decide, hP, s1, s3, fun z => nomatch z⟩
    | 2, hf, s3 =>
      cases hf
      refine zx_catch K [⟨0, 12, 15, 13⟩, ⟨0, 12, 19, 15⟩] ⟨0, 12, 23, 20⟩ [] rfl (by decide) (fun z hz => by rw [List.mem_cons, List.mem_singleton] at hz; exact hz.elim (fun e => by subst e; exact ⟨by decide, zIAE, by decide, by decide, zc_L_13⟩) (fun e => by subst e; exact ⟨by decide, zIOB, by decide, by decide, zc_L_15⟩)) (by decide) (by decide) zc_L_20 (fun z => ?_)
      refine zq_astore K dL_makeDirectory_23 (by decide) ?_
      refine zq_iconst K dL_makeDirectory_25 (v := nI 3) (by decide) ?_
      exact zq_iret K dL_makeDirectory_26 rfl ⟨3, v, W, B, q, w, A, A', rfl, by decide, hP, s1, s3, fun z => nomatch z⟩
    | j + 3, hf, _ => exact absurd hf (by simp)
theorem ct_L_makeFile {G : ZG} {M : ZM} {c x out t : Nat} (h : zLS M c x out t) (ht : t ≤ 600) (a0 a1 a2 : Int32) : zMetW G hL_makeFile mL_makeFile [.ref c, .int a0, .int a1, .int a2, .ref out] M (zLP c x out mX3_makeFile [.int a0, .int a1, .int a2] t zI1 (zpI out)) := by
  obtain ⟨W, B, q, w, A, hP, hS⟩ := h
  have hC := hP.1
  have hc : W 10 0 = c := hP.2.2.1
  have h7 := hP.2.2.2.2.1
  have h1 := hP.2.2.2.2.2
  have hk3 : zk M c = 3 := by rw [← hc]; exact hC.x.1
  refine zbodyW zyL_makeFile [some (.ref c), some (.int a0), some (.int a1), some (.int a2), some (.ref out), none] rfl (Nat.le_of_ble_eq_true rfl) (by intro v hv; simp only [List.mem_cons, List.not_mem_nil, or_false] at hv; rcases hv with rfl | rfl | rfl | rfl | rfl <;> rfl) (fun E K => ?_)
  refine zq_aload K dL_makeFile_0 rfl ?_
  refine zq_iconst K dL_makeFile_2 (v := nI 0) (by decide) ?_
  refine zq_aload_n K dL_makeFile_3 rfl rfl ?_
  refine zq_iload_n K dL_makeFile_4 rfl rfl ?_
  refine zq_iload_n K dL_makeFile_5 rfl rfl ?_
  refine zq_iload_n K dL_makeFile_6 rfl rfl ?_
  rcases sm_makeFile hS ht a0 a1 a2 with ⟨v, A', B', s1, s2, s3⟩ | ⟨j, En, hf, v, A', s1, s2, s3⟩
  · refine zq_callV (As := [.int a0, .int a1, .int a2]) K dL_makeFile_7 zyX2_makeFile zm_L_22 ziX2_makeFile zvX2_makeFile zclX2 rfl (by decide) rfl rfl (Nat.le_of_ble_eq_true rfl) (Nat.le_of_ble_eq_true rfl) hk3 (by have z := s2 G M W hC; rw [hc] at z; exact z) (zCW_r hP (fun M1 W1 hP1 => ?_)) zCW_x (Nat.le_refl _)
    refine zq_i2l K dL_makeFile_10 ?_
    refine zq_last K 0 dL_makeFile_11 hP1.2.2.2.2.1 rfl (by rw [hP1.2.2.2.2.2]; decide) (by rw [hP1.2.2.2.2.2]; decide) ?_
    refine zq_goto K 27 dL_makeFile_12 (by decide) ?_
    refine zq_iconst K dL_makeFile_27 (v := nI 0) (by decide) ?_
    exact zq_iret K dL_makeFile_28 rfl ⟨0, v, W1, B', q, w, A, A', rfl, by decide, hP1.wr, s1, s3, fun _ => by unfold zpI; rw [zj_j, if_pos ⟨rfl, rfl⟩]⟩
  · refine zq_callV (As := [.int a0, .int a1, .int a2]) K dL_makeFile_7 zyX2_makeFile zm_L_22 ziX2_makeFile zvX2_makeFile zclX2 rfl (by decide) rfl rfl (Nat.le_of_ble_eq_true rfl) (Nat.le_of_ble_eq_true rfl) hk3 (by have z := s2 G M W hC; rw [hc] at z; exact z) zthr_r (zthr_x ?_) (Nat.le_refl _)
    match j, hf, s3 with
    | 0, hf, s3 =>
      cases hf
      refine zx_catch K [] ⟨0, 12, 15, 13⟩ [⟨0, 12, 19, 15⟩, ⟨0, 12, 23, 20⟩] rfl (by decide) (fun z hz => nomatch hz) (by decide) (by decide) zc_L_13 (fun z => ?_)
      refine zq_astore K dL_makeFile_15 (by decide) ?_
      refine zq_iconst K dL_makeFile_17 (v := nI 1) (by decide) ?_
      exact zq_iret K dL_makeFile_18 rfl ⟨1, v, W, B, q, w, A, A', rfl, by decide, hP, s1, s3, fun z => nomatch z⟩
    | 1, hf, s3 =>
      cases hf
      refine zx_catch K [⟨0, 12, 15, 13⟩] ⟨0, 12, 19, 15⟩ [⟨0, 12, 23, 20⟩] rfl (by decide) (fun z hz => by rw [List.mem_singleton] at hz; subst hz; exact ⟨by decide, zIAE, by decide, by decide, zc_L_13⟩) (by decide) (by decide) zc_L_15 (fun z => ?_)
      refine zq_astore K dL_makeFile_19 (by decide) ?_
      refine zq_iconst K dL_makeFile_21 (v := nI 2) (by decide) ?_
      exact zq_iret K dL_makeFile_22 rfl ⟨2, v, W, B, q, w, A, A', rfl, by decide, hP, s1, s3, fun z => nomatch z⟩
    | 2, hf, s3 =>
      cases hf
      refine zx_catch K [⟨0, 12, 15, 13⟩, ⟨0, 12, 19, 15⟩] ⟨0, 12, 23, 20⟩ [] rfl (by decide) (fun z hz => by rw [List.mem_cons, List.mem_singleton] at hz; exact hz.elim (fun e => by subst e; exact ⟨by decide, zIAE, by decide, by decide, zc_L_13⟩) (fun e => by subst e; exact ⟨by decide, zIOB, by decide, by decide, zc_L_15⟩)) (by decide) (by decide) zc_L_20 (fun z => ?_)
      refine zq_astore K dL_makeFile_23 (by decide) ?_
      refine zq_iconst K dL_makeFile_25 (v := nI 3) (by decide) ?_
      exact zq_iret K dL_makeFile_26 rfl ⟨3, v, W, B, q, w, A, A', rfl, by decide, hP, s1, s3, fun z => nomatch z⟩
    | j + 3, hf, _ => exact absurd hf (by simp)
theorem ct_L_link {G : ZG} {M : ZM} {c x out t : Nat} (h : zLS M c x out t) (ht : t ≤ 600) (a0 a1 a2 a3 : Int32) : zMetW G hL_link mL_link [.ref c, .int a0, .int a1, .int a2, .int a3, .ref out] M (zLP c x out mX3_link [.int a0, .int a1, .int a2, .int a3] t zI1 (zpI out)) := by
  obtain ⟨W, B, q, w, A, hP, hS⟩ := h
  have hC := hP.1
  have hc : W 10 0 = c := hP.2.2.1
  have h7 := hP.2.2.2.2.1
  have h1 := hP.2.2.2.2.2
  have hk3 : zk M c = 3 := by rw [← hc]; exact hC.x.1
  refine zbodyW zyL_link [some (.ref c), some (.int a0), some (.int a1), some (.int a2), some (.int a3), some (.ref out), none] rfl (Nat.le_of_ble_eq_true rfl) (by intro v hv; simp only [List.mem_cons, List.not_mem_nil, or_false] at hv; rcases hv with rfl | rfl | rfl | rfl | rfl | rfl <;> rfl) (fun E K => ?_)
  refine zq_aload K dL_link_0 rfl ?_
  refine zq_iconst K dL_link_2 (v := nI 0) (by decide) ?_
  refine zq_aload_n K dL_link_3 rfl rfl ?_
  refine zq_iload_n K dL_link_4 rfl rfl ?_
  refine zq_iload_n K dL_link_5 rfl rfl ?_
  refine zq_iload_n K dL_link_6 rfl rfl ?_
  refine zq_iload K dL_link_7 rfl ?_
  rcases sm_link hS ht a0 a1 a2 a3 with ⟨v, A', B', s1, s2, s3⟩ | ⟨j, En, hf, v, A', s1, s2, s3⟩
  · refine zq_callV (As := [.int a0, .int a1, .int a2, .int a3]) K dL_link_9 zyX2_link zm_L_25 ziX2_link zvX2_link zclX2 rfl (by decide) rfl rfl (Nat.le_of_ble_eq_true rfl) (Nat.le_of_ble_eq_true rfl) hk3 (by have z := s2 G M W hC; rw [hc] at z; exact z) (zCW_r hP (fun M1 W1 hP1 => ?_)) zCW_x (Nat.le_refl _)
    refine zq_i2l K dL_link_12 ?_
    refine zq_last K 0 dL_link_13 hP1.2.2.2.2.1 rfl (by rw [hP1.2.2.2.2.2]; decide) (by rw [hP1.2.2.2.2.2]; decide) ?_
    refine zq_goto K 29 dL_link_14 (by decide) ?_
    refine zq_iconst K dL_link_29 (v := nI 0) (by decide) ?_
    exact zq_iret K dL_link_30 rfl ⟨0, v, W1, B', q, w, A, A', rfl, by decide, hP1.wr, s1, s3, fun _ => by unfold zpI; rw [zj_j, if_pos ⟨rfl, rfl⟩]⟩
  · refine zq_callV (As := [.int a0, .int a1, .int a2, .int a3]) K dL_link_9 zyX2_link zm_L_25 ziX2_link zvX2_link zclX2 rfl (by decide) rfl rfl (Nat.le_of_ble_eq_true rfl) (Nat.le_of_ble_eq_true rfl) hk3 (by have z := s2 G M W hC; rw [hc] at z; exact z) zthr_r (zthr_x ?_) (Nat.le_refl _)
    match j, hf, s3 with
    | 0, hf, s3 =>
      cases hf
      refine zx_catch K [] ⟨0, 14, 17, 13⟩ [⟨0, 14, 21, 15⟩, ⟨0, 14, 25, 20⟩] rfl (by decide) (fun z hz => nomatch hz) (by decide) (by decide) zc_L_13 (fun z => ?_)
      refine zq_astore K dL_link_17 (by decide) ?_
      refine zq_iconst K dL_link_19 (v := nI 1) (by decide) ?_
      exact zq_iret K dL_link_20 rfl ⟨1, v, W, B, q, w, A, A', rfl, by decide, hP, s1, s3, fun z => nomatch z⟩
    | 1, hf, s3 =>
      cases hf
      refine zx_catch K [⟨0, 14, 17, 13⟩] ⟨0, 14, 21, 15⟩ [⟨0, 14, 25, 20⟩] rfl (by decide) (fun z hz => by rw [List.mem_singleton] at hz; subst hz; exact ⟨by decide, zIAE, by decide, by decide, zc_L_13⟩) (by decide) (by decide) zc_L_15 (fun z => ?_)
      refine zq_astore K dL_link_21 (by decide) ?_
      refine zq_iconst K dL_link_23 (v := nI 2) (by decide) ?_
      exact zq_iret K dL_link_24 rfl ⟨2, v, W, B, q, w, A, A', rfl, by decide, hP, s1, s3, fun z => nomatch z⟩
    | 2, hf, s3 =>
      cases hf
      refine zx_catch K [⟨0, 14, 17, 13⟩, ⟨0, 14, 21, 15⟩] ⟨0, 14, 25, 20⟩ [] rfl (by decide) (fun z hz => by rw [List.mem_cons, List.mem_singleton] at hz; exact hz.elim (fun e => by subst e; exact ⟨by decide, zIAE, by decide, by decide, zc_L_13⟩) (fun e => by subst e; exact ⟨by decide, zIOB, by decide, by decide, zc_L_15⟩)) (by decide) (by decide) zc_L_20 (fun z => ?_)
      refine zq_astore K dL_link_25 (by decide) ?_
      refine zq_iconst K dL_link_27 (v := nI 3) (by decide) ?_
      exact zq_iret K dL_link_28 rfl ⟨3, v, W, B, q, w, A, A', rfl, by decide, hP, s1, s3, fun z => nomatch z⟩
    | j + 3, hf, _ => exact absurd hf (by simp)
theorem ct_L_remove {G : ZG} {M : ZM} {c x out t : Nat} (h : zLS M c x out t) (ht : t ≤ 600) (a0 a1 a2 : Int32) : zMetW G hL_remove mL_remove [.ref c, .int a0, .int a1, .int a2, .ref out] M (zLP c x out mX3_remove [.int a0, .int a1, .int a2] t zI1 (zpI out)) := by
  obtain ⟨W, B, q, w, A, hP, hS⟩ := h
  have hC := hP.1
  have hc : W 10 0 = c := hP.2.2.1
  have h7 := hP.2.2.2.2.1
  have h1 := hP.2.2.2.2.2
  have hk3 : zk M c = 3 := by rw [← hc]; exact hC.x.1
  refine zbodyW zyL_remove [some (.ref c), some (.int a0), some (.int a1), some (.int a2), some (.ref out), none] rfl (Nat.le_of_ble_eq_true rfl) (by intro v hv; simp only [List.mem_cons, List.not_mem_nil, or_false] at hv; rcases hv with rfl | rfl | rfl | rfl | rfl <;> rfl) (fun E K => ?_)
  refine zq_aload K dL_remove_0 rfl ?_
  refine zq_iconst K dL_remove_2 (v := nI 0) (by decide) ?_
  refine zq_aload_n K dL_remove_3 rfl rfl ?_
  refine zq_iload_n K dL_remove_4 rfl rfl ?_
  refine zq_iload_n K dL_remove_5 rfl rfl ?_
  refine zq_iload_n K dL_remove_6 rfl rfl ?_
  rcases sm_remove hS ht a0 a1 a2 with ⟨v, A', B', s1, s2, s3⟩ | ⟨j, En, hf, v, A', s1, s2, s3⟩
  · refine zq_callV (As := [.int a0, .int a1, .int a2]) K dL_remove_7 zyX2_remove zm_L_29 ziX2_remove zvX2_remove zclX2 rfl (by decide) rfl rfl (Nat.le_of_ble_eq_true rfl) (Nat.le_of_ble_eq_true rfl) hk3 (by have z := s2 G M W hC; rw [hc] at z; exact z) (zCW_r hP (fun M1 W1 hP1 => ?_)) zCW_x (Nat.le_refl _)
    refine zq_i2l K dL_remove_10 ?_
    refine zq_last K 0 dL_remove_11 hP1.2.2.2.2.1 rfl (by rw [hP1.2.2.2.2.2]; decide) (by rw [hP1.2.2.2.2.2]; decide) ?_
    refine zq_goto K 27 dL_remove_12 (by decide) ?_
    refine zq_iconst K dL_remove_27 (v := nI 0) (by decide) ?_
    exact zq_iret K dL_remove_28 rfl ⟨0, v, W1, B', q, w, A, A', rfl, by decide, hP1.wr, s1, s3, fun _ => by unfold zpI; rw [zj_j, if_pos ⟨rfl, rfl⟩]⟩
  · refine zq_callV (As := [.int a0, .int a1, .int a2]) K dL_remove_7 zyX2_remove zm_L_29 ziX2_remove zvX2_remove zclX2 rfl (by decide) rfl rfl (Nat.le_of_ble_eq_true rfl) (Nat.le_of_ble_eq_true rfl) hk3 (by have z := s2 G M W hC; rw [hc] at z; exact z) zthr_r (zthr_x ?_) (Nat.le_refl _)
    match j, hf, s3 with
    | 0, hf, s3 =>
      cases hf
      refine zx_catch K [] ⟨0, 12, 15, 13⟩ [⟨0, 12, 19, 15⟩, ⟨0, 12, 23, 20⟩] rfl (by decide) (fun z hz => nomatch hz) (by decide) (by decide) zc_L_13 (fun z => ?_)
      refine zq_astore K dL_remove_15 (by decide) ?_
      refine zq_iconst K dL_remove_17 (v := nI 1) (by decide) ?_
      exact zq_iret K dL_remove_18 rfl ⟨1, v, W, B, q, w, A, A', rfl, by decide, hP, s1, s3, fun z => nomatch z⟩
    | 1, hf, s3 =>
      cases hf
      refine zx_catch K [⟨0, 12, 15, 13⟩] ⟨0, 12, 19, 15⟩ [⟨0, 12, 23, 20⟩] rfl (by decide) (fun z hz => by rw [List.mem_singleton] at hz; subst hz; exact ⟨by decide, zIAE, by decide, by decide, zc_L_13⟩) (by decide) (by decide) zc_L_15 (fun z => ?_)
      refine zq_astore K dL_remove_19 (by decide) ?_
      refine zq_iconst K dL_remove_21 (v := nI 2) (by decide) ?_
      exact zq_iret K dL_remove_22 rfl ⟨2, v, W, B, q, w, A, A', rfl, by decide, hP, s1, s3, fun z => nomatch z⟩
    | 2, hf, s3 =>
      cases hf
      refine zx_catch K [⟨0, 12, 15, 13⟩, ⟨0, 12, 19, 15⟩] ⟨0, 12, 23, 20⟩ [] rfl (by decide) (fun z hz => by rw [List.mem_cons, List.mem_singleton] at hz; exact hz.elim (fun e => by subst e; exact ⟨by decide, zIAE, by decide, by decide, zc_L_13⟩) (fun e => by subst e; exact ⟨by decide, zIOB, by decide, by decide, zc_L_15⟩)) (by decide) (by decide) zc_L_20 (fun z => ?_)
      refine zq_astore K dL_remove_23 (by decide) ?_
      refine zq_iconst K dL_remove_25 (v := nI 3) (by decide) ?_
      exact zq_iret K dL_remove_26 rfl ⟨3, v, W, B, q, w, A, A', rfl, by decide, hP, s1, s3, fun z => nomatch z⟩
    | j + 3, hf, _ => exact absurd hf (by simp)
theorem ct_L_rename {G : ZG} {M : ZM} {c x out t : Nat} (h : zLS M c x out t) (ht : t ≤ 600) (a0 a1 a2 a3 a4 : Int32) : zMetW G hL_rename mL_rename [.ref c, .int a0, .int a1, .int a2, .int a3, .int a4] M (zLP c x out mX3_rename [.int a0, .int a1, .int a2, .int a3, .int a4] t zV0 zpV) := by
  obtain ⟨W, B, q, w, A, hP, hS⟩ := h
  have hC := hP.1
  have hc : W 10 0 = c := hP.2.2.1
  have h7 := hP.2.2.2.2.1
  have h1 := hP.2.2.2.2.2
  have hk3 : zk M c = 3 := by rw [← hc]; exact hC.x.1
  refine zbodyW zyL_rename [some (.ref c), some (.int a0), some (.int a1), some (.int a2), some (.int a3), some (.int a4), none] rfl (Nat.le_of_ble_eq_true rfl) (by intro v hv; simp only [List.mem_cons, List.not_mem_nil, or_false] at hv; rcases hv with rfl | rfl | rfl | rfl | rfl | rfl <;> rfl) (fun E K => ?_)
  refine zq_aload_n K dL_rename_0 rfl rfl ?_
  refine zq_iload_n K dL_rename_1 rfl rfl ?_
  refine zq_iload_n K dL_rename_2 rfl rfl ?_
  refine zq_iload_n K dL_rename_3 rfl rfl ?_
  refine zq_iload K dL_rename_4 rfl ?_
  refine zq_iload K dL_rename_6 rfl ?_
  rcases sm_rename hS ht a0 a1 a2 a3 a4 with ⟨v, A', B', s1, s2, s3⟩ | ⟨j, En, hf, v, A', s1, s2, s3⟩
  · refine zq_callV (As := [.int a0, .int a1, .int a2, .int a3, .int a4]) K dL_rename_8 zyX2_rename zm_L_32 ziX2_rename zvX2_rename zclX2 rfl (by decide) rfl rfl (Nat.le_of_ble_eq_true rfl) (Nat.le_of_ble_eq_true rfl) hk3 (by have z := s2 G M W hC; rw [hc] at z; exact z) (zCW_r hP (fun M1 W1 hP1 => ?_)) zCW_x (Nat.le_refl _)
    refine zq_goto K 26 dL_rename_11 (by decide) ?_
    refine zq_iconst K dL_rename_26 (v := nI 0) (by decide) ?_
    exact zq_iret K dL_rename_27 rfl ⟨0, v, W1, B', q, w, A, A', rfl, by decide, hP1, s1, s3, fun _ => trivial⟩
  · refine zq_callV (As := [.int a0, .int a1, .int a2, .int a3, .int a4]) K dL_rename_8 zyX2_rename zm_L_32 ziX2_rename zvX2_rename zclX2 rfl (by decide) rfl rfl (Nat.le_of_ble_eq_true rfl) (Nat.le_of_ble_eq_true rfl) hk3 (by have z := s2 G M W hC; rw [hc] at z; exact z) zthr_r (zthr_x ?_) (Nat.le_refl _)
    match j, hf, s3 with
    | 0, hf, s3 =>
      cases hf
      refine zx_catch K [] ⟨0, 11, 14, 13⟩ [⟨0, 11, 18, 15⟩, ⟨0, 11, 22, 20⟩] rfl (by decide) (fun z hz => nomatch hz) (by decide) (by decide) zc_L_13 (fun z => ?_)
      refine zq_astore K dL_rename_14 (by decide) ?_
      refine zq_iconst K dL_rename_16 (v := nI 1) (by decide) ?_
      exact zq_iret K dL_rename_17 rfl ⟨1, v, W, B, q, w, A, A', rfl, by decide, hP, s1, s3, fun z => nomatch z⟩
    | 1, hf, s3 =>
      cases hf
      refine zx_catch K [⟨0, 11, 14, 13⟩] ⟨0, 11, 18, 15⟩ [⟨0, 11, 22, 20⟩] rfl (by decide) (fun z hz => by rw [List.mem_singleton] at hz; subst hz; exact ⟨by decide, zIAE, by decide, by decide, zc_L_13⟩) (by decide) (by decide) zc_L_15 (fun z => ?_)
      refine zq_astore K dL_rename_18 (by decide) ?_
      refine zq_iconst K dL_rename_20 (v := nI 2) (by decide) ?_
      exact zq_iret K dL_rename_21 rfl ⟨2, v, W, B, q, w, A, A', rfl, by decide, hP, s1, s3, fun z => nomatch z⟩
    | 2, hf, s3 =>
      cases hf
      refine zx_catch K [⟨0, 11, 14, 13⟩, ⟨0, 11, 18, 15⟩] ⟨0, 11, 22, 20⟩ [] rfl (by decide) (fun z hz => by rw [List.mem_cons, List.mem_singleton] at hz; exact hz.elim (fun e => by subst e; exact ⟨by decide, zIAE, by decide, by decide, zc_L_13⟩) (fun e => by subst e; exact ⟨by decide, zIOB, by decide, by decide, zc_L_15⟩)) (by decide) (by decide) zc_L_20 (fun z => ?_)
      refine zq_astore K dL_rename_22 (by decide) ?_
      refine zq_iconst K dL_rename_24 (v := nI 3) (by decide) ?_
      exact zq_iret K dL_rename_25 rfl ⟨3, v, W, B, q, w, A, A', rfl, by decide, hP, s1, s3, fun z => nomatch z⟩
    | j + 3, hf, _ => exact absurd hf (by simp)
theorem ct_L_pass {G : ZG} {M : ZM} {c x out t : Nat} (h : zLS M c x out t) (ht : t ≤ 600) (a0 : Int32) : zMetW G hL_pass mL_pass [.ref c, .int a0, .ref out] M (zLP c x out mX3_pass [.int a0] t zI1 (zpI out)) := by
  obtain ⟨W, B, q, w, A, hP, hS⟩ := h
  have hC := hP.1
  have hc : W 10 0 = c := hP.2.2.1
  have h7 := hP.2.2.2.2.1
  have h1 := hP.2.2.2.2.2
  have hk3 : zk M c = 3 := by rw [← hc]; exact hC.x.1
  refine zbodyW zyL_pass [some (.ref c), some (.int a0), some (.ref out), none] rfl (Nat.le_of_ble_eq_true rfl) (by intro v hv; simp only [List.mem_cons, List.not_mem_nil, or_false] at hv; rcases hv with rfl | rfl | rfl <;> rfl) (fun E K => ?_)
  refine zq_aload_n K dL_pass_0 rfl rfl ?_
  refine zq_iconst K dL_pass_1 (v := nI 0) (by decide) ?_
  refine zq_aload_n K dL_pass_2 rfl rfl ?_
  refine zq_iload_n K dL_pass_3 rfl rfl ?_
  rcases sm_pass hS ht a0 with ⟨v, A', B', s1, s2, s3⟩ | ⟨j, En, hf, v, A', s1, s2, s3⟩
  · refine zq_callV (As := [.int a0]) K dL_pass_4 zyX2_pass zm_L_36 ziX2_pass zvX2_pass zclX2 rfl (by decide) rfl rfl (Nat.le_of_ble_eq_true rfl) (Nat.le_of_ble_eq_true rfl) hk3 (by have z := s2 G M W hC; rw [hc] at z; exact z) (zCW_r hP (fun M1 W1 hP1 => ?_)) zCW_x (Nat.le_refl _)
    refine zq_i2l K dL_pass_7 ?_
    refine zq_last K 0 dL_pass_8 hP1.2.2.2.2.1 rfl (by rw [hP1.2.2.2.2.2]; decide) (by rw [hP1.2.2.2.2.2]; decide) ?_
    refine zq_goto K 15 dL_pass_9 (by decide) ?_
    refine zq_iconst K dL_pass_15 (v := nI 0) (by decide) ?_
    exact zq_iret K dL_pass_16 rfl ⟨0, v, W1, B', q, w, A, A', rfl, by decide, hP1.wr, s1, s3, fun _ => by unfold zpI; rw [zj_j, if_pos ⟨rfl, rfl⟩]⟩
  · refine zq_callV (As := [.int a0]) K dL_pass_4 zyX2_pass zm_L_36 ziX2_pass zvX2_pass zclX2 rfl (by decide) rfl rfl (Nat.le_of_ble_eq_true rfl) (Nat.le_of_ble_eq_true rfl) hk3 (by have z := s2 G M W hC; rw [hc] at z; exact z) zthr_r (zthr_x ?_) (Nat.le_refl _)
    match j, hf, s3 with
    | 0, hf, s3 =>
      cases hf
      refine zx_catch K [] ⟨0, 9, 12, 13⟩ [] rfl (by decide) (fun z hz => nomatch hz) (by decide) (by decide) zc_L_13 (fun z => ?_)
      refine zq_astore_n K dL_pass_12 rfl (by decide) ?_
      refine zq_iconst K dL_pass_13 (v := nI 1) (by decide) ?_
      exact zq_iret K dL_pass_14 rfl ⟨1, v, W, B, q, w, A, A', rfl, by decide, hP, s1, s3, fun z => nomatch z⟩
    | j + 1, hf, _ => exact absurd hf (by simp)
theorem ct_L_leases {G : ZG} {M : ZM} {c x out t : Nat} (h : zLS M c x out t) (a0 : Int32) : zMetW G hL_leases mL_leases [.ref c, .int a0, .ref out] M (zLP c x out mX3_leases [.int a0] t zI1 (zpI out)) := by
  obtain ⟨W, B, q, w, A, hP, hS⟩ := h
  have hC := hP.1
  have hc : W 10 0 = c := hP.2.2.1
  have h7 := hP.2.2.2.2.1
  have h1 := hP.2.2.2.2.2
  have hk3 : zk M c = 3 := by rw [← hc]; exact hC.x.1
  refine zbodyW zyL_leases [some (.ref c), some (.int a0), some (.ref out), none] rfl (Nat.le_of_ble_eq_true rfl) (by intro v hv; simp only [List.mem_cons, List.not_mem_nil, or_false] at hv; rcases hv with rfl | rfl | rfl <;> rfl) (fun E K => ?_)
  refine zq_aload_n K dL_leases_0 rfl rfl ?_
  refine zq_iconst K dL_leases_1 (v := nI 0) (by decide) ?_
  refine zq_aload_n K dL_leases_2 rfl rfl ?_
  refine zq_iload_n K dL_leases_3 rfl rfl ?_
  rcases sm_leases hS a0 with ⟨v, A', B', s1, s2, s3⟩ | ⟨j, En, hf, v, A', s1, s2, s3⟩
  · refine zq_callV (As := [.int a0]) K dL_leases_4 zyX2_leases zm_L_40 ziX2_leases zvX2_leases zclX2 rfl (by decide) rfl rfl (Nat.le_of_ble_eq_true rfl) (Nat.le_of_ble_eq_true rfl) hk3 (by have z := s2 G M W hC; rw [hc] at z; exact z) (zCW_r hP (fun M1 W1 hP1 => ?_)) zCW_x (Nat.le_refl _)
    refine zq_i2l K dL_leases_7 ?_
    refine zq_last K 0 dL_leases_8 hP1.2.2.2.2.1 rfl (by rw [hP1.2.2.2.2.2]; decide) (by rw [hP1.2.2.2.2.2]; decide) ?_
    refine zq_goto K 15 dL_leases_9 (by decide) ?_
    refine zq_iconst K dL_leases_15 (v := nI 0) (by decide) ?_
    exact zq_iret K dL_leases_16 rfl ⟨0, v, W1, B', q, w, A, A', rfl, by decide, hP1.wr, s1, s3, fun _ => by unfold zpI; rw [zj_j, if_pos ⟨rfl, rfl⟩]⟩
  · refine zq_callV (As := [.int a0]) K dL_leases_4 zyX2_leases zm_L_40 ziX2_leases zvX2_leases zclX2 rfl (by decide) rfl rfl (Nat.le_of_ble_eq_true rfl) (Nat.le_of_ble_eq_true rfl) hk3 (by have z := s2 G M W hC; rw [hc] at z; exact z) zthr_r (zthr_x ?_) (Nat.le_refl _)
    match j, hf, s3 with
    | 0, hf, s3 =>
      cases hf
      refine zx_catch K [] ⟨0, 9, 12, 13⟩ [] rfl (by decide) (fun z hz => nomatch hz) (by decide) (by decide) zc_L_13 (fun z => ?_)
      refine zq_astore_n K dL_leases_12 rfl (by decide) ?_
      refine zq_iconst K dL_leases_13 (v := nI 1) (by decide) ?_
      exact zq_iret K dL_leases_14 rfl ⟨1, v, W, B, q, w, A, A', rfl, by decide, hP, s1, s3, fun z => nomatch z⟩
    | j + 1, hf, _ => exact absurd hf (by simp)
theorem ct_L_recalls {G : ZG} {M : ZM} {c x out t : Nat} (h : zLS M c x out t) (a0 : Int32) : zMetW G hL_recalls mL_recalls [.ref c, .int a0, .ref out] M (zLP c x out mX3_recalls [.int a0] t zI1 (zpI out)) := by
  obtain ⟨W, B, q, w, A, hP, hS⟩ := h
  have hC := hP.1
  have hc : W 10 0 = c := hP.2.2.1
  have h7 := hP.2.2.2.2.1
  have h1 := hP.2.2.2.2.2
  have hk3 : zk M c = 3 := by rw [← hc]; exact hC.x.1
  refine zbodyW zyL_recalls [some (.ref c), some (.int a0), some (.ref out), none] rfl (Nat.le_of_ble_eq_true rfl) (by intro v hv; simp only [List.mem_cons, List.not_mem_nil, or_false] at hv; rcases hv with rfl | rfl | rfl <;> rfl) (fun E K => ?_)
  refine zq_aload_n K dL_recalls_0 rfl rfl ?_
  refine zq_iconst K dL_recalls_1 (v := nI 0) (by decide) ?_
  refine zq_aload_n K dL_recalls_2 rfl rfl ?_
  refine zq_iload_n K dL_recalls_3 rfl rfl ?_
  rcases sm_recalls hS a0 with ⟨v, A', B', s1, s2, s3⟩ | ⟨j, En, hf, v, A', s1, s2, s3⟩
  · refine zq_callV (As := [.int a0]) K dL_recalls_4 zyX2_recalls zm_L_43 ziX2_recalls zvX2_recalls zclX2 rfl (by decide) rfl rfl (Nat.le_of_ble_eq_true rfl) (Nat.le_of_ble_eq_true rfl) hk3 (by have z := s2 G M W hC; rw [hc] at z; exact z) (zCW_r hP (fun M1 W1 hP1 => ?_)) zCW_x (Nat.le_refl _)
    refine zq_i2l K dL_recalls_7 ?_
    refine zq_last K 0 dL_recalls_8 hP1.2.2.2.2.1 rfl (by rw [hP1.2.2.2.2.2]; decide) (by rw [hP1.2.2.2.2.2]; decide) ?_
    refine zq_goto K 15 dL_recalls_9 (by decide) ?_
    refine zq_iconst K dL_recalls_15 (v := nI 0) (by decide) ?_
    exact zq_iret K dL_recalls_16 rfl ⟨0, v, W1, B', q, w, A, A', rfl, by decide, hP1.wr, s1, s3, fun _ => by unfold zpI; rw [zj_j, if_pos ⟨rfl, rfl⟩]⟩
  · refine zq_callV (As := [.int a0]) K dL_recalls_4 zyX2_recalls zm_L_43 ziX2_recalls zvX2_recalls zclX2 rfl (by decide) rfl rfl (Nat.le_of_ble_eq_true rfl) (Nat.le_of_ble_eq_true rfl) hk3 (by have z := s2 G M W hC; rw [hc] at z; exact z) zthr_r (zthr_x ?_) (Nat.le_refl _)
    match j, hf, s3 with
    | 0, hf, s3 =>
      cases hf
      refine zx_catch K [] ⟨0, 9, 12, 13⟩ [] rfl (by decide) (fun z hz => nomatch hz) (by decide) (by decide) zc_L_13 (fun z => ?_)
      refine zq_astore_n K dL_recalls_12 rfl (by decide) ?_
      refine zq_iconst K dL_recalls_13 (v := nI 1) (by decide) ?_
      exact zq_iret K dL_recalls_14 rfl ⟨1, v, W, B, q, w, A, A', rfl, by decide, hP, s1, s3, fun z => nomatch z⟩
    | j + 1, hf, _ => exact absurd hf (by simp)
theorem ct_L_known {G : ZG} {M : ZM} {c x out t : Nat} (h : zLS M c x out t) (a0 : Int32) : zMetW G hL_known mL_known [.ref c, .int a0, .ref out] M (zLP c x out mX3_known [.int a0] t zI1 (zpI out)) := by
  obtain ⟨W, B, q, w, A, hP, hS⟩ := h
  have hC := hP.1
  have hc : W 10 0 = c := hP.2.2.1
  have h7 := hP.2.2.2.2.1
  have h1 := hP.2.2.2.2.2
  have hk3 : zk M c = 3 := by rw [← hc]; exact hC.x.1
  refine zbodyW zyL_known [some (.ref c), some (.int a0), some (.ref out), none] rfl (Nat.le_of_ble_eq_true rfl) (by intro v hv; simp only [List.mem_cons, List.not_mem_nil, or_false] at hv; rcases hv with rfl | rfl | rfl <;> rfl) (fun E K => ?_)
  refine zq_aload_n K dL_known_0 rfl rfl ?_
  refine zq_iconst K dL_known_1 (v := nI 0) (by decide) ?_
  refine zq_aload_n K dL_known_2 rfl rfl ?_
  refine zq_iload_n K dL_known_3 rfl rfl ?_
  rcases sm_known hS a0 with ⟨v, A', B', s1, s2, s3⟩ | ⟨j, En, hf, v, A', s1, s2, s3⟩
  · refine zq_callV (As := [.int a0]) K dL_known_4 zyX2_known zm_L_46 ziX2_known zvX2_known zclX2 rfl (by decide) rfl rfl (Nat.le_of_ble_eq_true rfl) (Nat.le_of_ble_eq_true rfl) hk3 (by have z := s2 G M W hC; rw [hc] at z; exact z) (zCW_r hP (fun M1 W1 hP1 => ?_)) zCW_x (Nat.le_refl _)
    refine zq_i2l K dL_known_7 ?_
    refine zq_last K 0 dL_known_8 hP1.2.2.2.2.1 rfl (by rw [hP1.2.2.2.2.2]; decide) (by rw [hP1.2.2.2.2.2]; decide) ?_
    refine zq_goto K 15 dL_known_9 (by decide) ?_
    refine zq_iconst K dL_known_15 (v := nI 0) (by decide) ?_
    exact zq_iret K dL_known_16 rfl ⟨0, v, W1, B', q, w, A, A', rfl, by decide, hP1.wr, s1, s3, fun _ => by unfold zpI; rw [zj_j, if_pos ⟨rfl, rfl⟩]⟩
  · refine zq_callV (As := [.int a0]) K dL_known_4 zyX2_known zm_L_46 ziX2_known zvX2_known zclX2 rfl (by decide) rfl rfl (Nat.le_of_ble_eq_true rfl) (Nat.le_of_ble_eq_true rfl) hk3 (by have z := s2 G M W hC; rw [hc] at z; exact z) zthr_r (zthr_x ?_) (Nat.le_refl _)
    match j, hf, s3 with
    | 0, hf, s3 =>
      cases hf
      refine zx_catch K [] ⟨0, 9, 12, 13⟩ [] rfl (by decide) (fun z hz => nomatch hz) (by decide) (by decide) zc_L_13 (fun z => ?_)
      refine zq_astore_n K dL_known_12 rfl (by decide) ?_
      refine zq_iconst K dL_known_13 (v := nI 1) (by decide) ?_
      exact zq_iret K dL_known_14 rfl ⟨1, v, W, B, q, w, A, A', rfl, by decide, hP, s1, s3, fun z => nomatch z⟩
    | j + 1, hf, _ => exact absurd hf (by simp)
theorem ct_L_split {G : ZG} {M : ZM} {c x out t : Nat} (h : zLS M c x out t) (a0 a1 : Int32) : zMetW G hL_split mL_split [.ref c, .int a0, .int a1, .ref out] M (zLP c x out mX3_split [.int a0, .int a1] t zI1 (zpI out)) := by
  obtain ⟨W, B, q, w, A, hP, hS⟩ := h
  have hC := hP.1
  have hc : W 10 0 = c := hP.2.2.1
  have h7 := hP.2.2.2.2.1
  have h1 := hP.2.2.2.2.2
  have hk3 : zk M c = 3 := by rw [← hc]; exact hC.x.1
  refine zbodyW zyL_split [some (.ref c), some (.int a0), some (.int a1), some (.ref out), none] rfl (Nat.le_of_ble_eq_true rfl) (by intro v hv; simp only [List.mem_cons, List.not_mem_nil, or_false] at hv; rcases hv with rfl | rfl | rfl | rfl <;> rfl) (fun E K => ?_)
  refine zq_aload_n K dL_split_0 rfl rfl ?_
  refine zq_iconst K dL_split_1 (v := nI 0) (by decide) ?_
  refine zq_aload_n K dL_split_2 rfl rfl ?_
  refine zq_iload_n K dL_split_3 rfl rfl ?_
  refine zq_iload_n K dL_split_4 rfl rfl ?_
  rcases sm_split hS a0 a1 with ⟨v, A', B', s1, s2, s3⟩ | ⟨j, En, hf, v, A', s1, s2, s3⟩
  · refine zq_callV (As := [.int a0, .int a1]) K dL_split_5 zyX2_split zm_L_49 ziX2_split zvX2_split zclX2 rfl (by decide) rfl rfl (Nat.le_of_ble_eq_true rfl) (Nat.le_of_ble_eq_true rfl) hk3 (by have z := s2 G M W hC; rw [hc] at z; exact z) (zCW_r hP (fun M1 W1 hP1 => ?_)) zCW_x (Nat.le_refl _)
    refine zq_i2l K dL_split_8 ?_
    refine zq_last K 0 dL_split_9 hP1.2.2.2.2.1 rfl (by rw [hP1.2.2.2.2.2]; decide) (by rw [hP1.2.2.2.2.2]; decide) ?_
    refine zq_goto K 25 dL_split_10 (by decide) ?_
    refine zq_iconst K dL_split_25 (v := nI 0) (by decide) ?_
    exact zq_iret K dL_split_26 rfl ⟨0, v, W1, B', q, w, A, A', rfl, by decide, hP1.wr, s1, s3, fun _ => by unfold zpI; rw [zj_j, if_pos ⟨rfl, rfl⟩]⟩
  · refine zq_callV (As := [.int a0, .int a1]) K dL_split_5 zyX2_split zm_L_49 ziX2_split zvX2_split zclX2 rfl (by decide) rfl rfl (Nat.le_of_ble_eq_true rfl) (Nat.le_of_ble_eq_true rfl) hk3 (by have z := s2 G M W hC; rw [hc] at z; exact z) zthr_r (zthr_x ?_) (Nat.le_refl _)
    match j, hf, s3 with
    | 0, hf, s3 =>
      cases hf
      refine zx_catch K [] ⟨0, 10, 13, 13⟩ [⟨0, 10, 17, 15⟩, ⟨0, 10, 21, 20⟩] rfl (by decide) (fun z hz => nomatch hz) (by decide) (by decide) zc_L_13 (fun z => ?_)
      refine zq_astore K dL_split_13 (by decide) ?_
      refine zq_iconst K dL_split_15 (v := nI 1) (by decide) ?_
      exact zq_iret K dL_split_16 rfl ⟨1, v, W, B, q, w, A, A', rfl, by decide, hP, s1, s3, fun z => nomatch z⟩
    | 1, hf, s3 =>
      cases hf
      refine zx_catch K [⟨0, 10, 13, 13⟩] ⟨0, 10, 17, 15⟩ [⟨0, 10, 21, 20⟩] rfl (by decide) (fun z hz => by rw [List.mem_singleton] at hz; subst hz; exact ⟨by decide, zIAE, by decide, by decide, zc_L_13⟩) (by decide) (by decide) zc_L_15 (fun z => ?_)
      refine zq_astore K dL_split_17 (by decide) ?_
      refine zq_iconst K dL_split_19 (v := nI 2) (by decide) ?_
      exact zq_iret K dL_split_20 rfl ⟨2, v, W, B, q, w, A, A', rfl, by decide, hP, s1, s3, fun z => nomatch z⟩
    | 2, hf, s3 =>
      cases hf
      refine zx_catch K [⟨0, 10, 13, 13⟩, ⟨0, 10, 17, 15⟩] ⟨0, 10, 21, 20⟩ [] rfl (by decide) (fun z hz => by rw [List.mem_cons, List.mem_singleton] at hz; exact hz.elim (fun e => by subst e; exact ⟨by decide, zIAE, by decide, by decide, zc_L_13⟩) (fun e => by subst e; exact ⟨by decide, zIOB, by decide, by decide, zc_L_15⟩)) (by decide) (by decide) zc_L_20 (fun z => ?_)
      refine zq_astore K dL_split_21 (by decide) ?_
      refine zq_iconst K dL_split_23 (v := nI 3) (by decide) ?_
      exact zq_iret K dL_split_24 rfl ⟨3, v, W, B, q, w, A, A', rfl, by decide, hP, s1, s3, fun z => nomatch z⟩
    | j + 3, hf, _ => exact absurd hf (by simp)
theorem ct_L_merge {G : ZG} {M : ZM} {c x out t : Nat} (h : zLS M c x out t) (a0 a1 : Int32) : zMetW G hL_merge mL_merge [.ref c, .int a0, .int a1, .ref out] M (zLP c x out mX3_merge [.int a0, .int a1] t zI1 (zpI out)) := by
  obtain ⟨W, B, q, w, A, hP, hS⟩ := h
  have hC := hP.1
  have hc : W 10 0 = c := hP.2.2.1
  have h7 := hP.2.2.2.2.1
  have h1 := hP.2.2.2.2.2
  have hk3 : zk M c = 3 := by rw [← hc]; exact hC.x.1
  refine zbodyW zyL_merge [some (.ref c), some (.int a0), some (.int a1), some (.ref out), none] rfl (Nat.le_of_ble_eq_true rfl) (by intro v hv; simp only [List.mem_cons, List.not_mem_nil, or_false] at hv; rcases hv with rfl | rfl | rfl | rfl <;> rfl) (fun E K => ?_)
  refine zq_aload_n K dL_merge_0 rfl rfl ?_
  refine zq_iconst K dL_merge_1 (v := nI 0) (by decide) ?_
  refine zq_aload_n K dL_merge_2 rfl rfl ?_
  refine zq_iload_n K dL_merge_3 rfl rfl ?_
  refine zq_iload_n K dL_merge_4 rfl rfl ?_
  rcases sm_merge hS a0 a1 with ⟨v, A', B', s1, s2, s3⟩ | ⟨j, En, hf, v, A', s1, s2, s3⟩
  · refine zq_callV (As := [.int a0, .int a1]) K dL_merge_5 zyX2_merge zm_L_53 ziX2_merge zvX2_merge zclX2 rfl (by decide) rfl rfl (Nat.le_of_ble_eq_true rfl) (Nat.le_of_ble_eq_true rfl) hk3 (by have z := s2 G M W hC; rw [hc] at z; exact z) (zCW_r hP (fun M1 W1 hP1 => ?_)) zCW_x (Nat.le_refl _)
    refine zq_i2l K dL_merge_8 ?_
    refine zq_last K 0 dL_merge_9 hP1.2.2.2.2.1 rfl (by rw [hP1.2.2.2.2.2]; decide) (by rw [hP1.2.2.2.2.2]; decide) ?_
    refine zq_goto K 25 dL_merge_10 (by decide) ?_
    refine zq_iconst K dL_merge_25 (v := nI 0) (by decide) ?_
    exact zq_iret K dL_merge_26 rfl ⟨0, v, W1, B', q, w, A, A', rfl, by decide, hP1.wr, s1, s3, fun _ => by unfold zpI; rw [zj_j, if_pos ⟨rfl, rfl⟩]⟩
  · refine zq_callV (As := [.int a0, .int a1]) K dL_merge_5 zyX2_merge zm_L_53 ziX2_merge zvX2_merge zclX2 rfl (by decide) rfl rfl (Nat.le_of_ble_eq_true rfl) (Nat.le_of_ble_eq_true rfl) hk3 (by have z := s2 G M W hC; rw [hc] at z; exact z) zthr_r (zthr_x ?_) (Nat.le_refl _)
    match j, hf, s3 with
    | 0, hf, s3 =>
      cases hf
      refine zx_catch K [] ⟨0, 10, 13, 13⟩ [⟨0, 10, 17, 15⟩, ⟨0, 10, 21, 20⟩] rfl (by decide) (fun z hz => nomatch hz) (by decide) (by decide) zc_L_13 (fun z => ?_)
      refine zq_astore K dL_merge_13 (by decide) ?_
      refine zq_iconst K dL_merge_15 (v := nI 1) (by decide) ?_
      exact zq_iret K dL_merge_16 rfl ⟨1, v, W, B, q, w, A, A', rfl, by decide, hP, s1, s3, fun z => nomatch z⟩
    | 1, hf, s3 =>
      cases hf
      refine zx_catch K [⟨0, 10, 13, 13⟩] ⟨0, 10, 17, 15⟩ [⟨0, 10, 21, 20⟩] rfl (by decide) (fun z hz => by rw [List.mem_singleton] at hz; subst hz; exact ⟨by decide, zIAE, by decide, by decide, zc_L_13⟩) (by decide) (by decide) zc_L_15 (fun z => ?_)
      refine zq_astore K dL_merge_17 (by decide) ?_
      refine zq_iconst K dL_merge_19 (v := nI 2) (by decide) ?_
      exact zq_iret K dL_merge_20 rfl ⟨2, v, W, B, q, w, A, A', rfl, by decide, hP, s1, s3, fun z => nomatch z⟩
    | 2, hf, s3 =>
      cases hf
      refine zx_catch K [⟨0, 10, 13, 13⟩, ⟨0, 10, 17, 15⟩] ⟨0, 10, 21, 20⟩ [] rfl (by decide) (fun z hz => by rw [List.mem_cons, List.mem_singleton] at hz; exact hz.elim (fun e => by subst e; exact ⟨by decide, zIAE, by decide, by decide, zc_L_13⟩) (fun e => by subst e; exact ⟨by decide, zIOB, by decide, by decide, zc_L_15⟩)) (by decide) (by decide) zc_L_20 (fun z => ?_)
      refine zq_astore K dL_merge_21 (by decide) ?_
      refine zq_iconst K dL_merge_23 (v := nI 3) (by decide) ?_
      exact zq_iret K dL_merge_24 rfl ⟨3, v, W, B, q, w, A, A', rfl, by decide, hP, s1, s3, fun z => nomatch z⟩
    | j + 3, hf, _ => exact absurd hf (by simp)
theorem ct_L_fragments {G : ZG} {M : ZM} {c x out t : Nat} (h : zLS M c x out t) (a0 : Int32) : zMetW G hL_fragments mL_fragments [.ref c, .int a0, .ref out] M (zLP c x out mX3_fragments [.int a0] t zI1 (zpI out)) := by
  obtain ⟨W, B, q, w, A, hP, hS⟩ := h
  have hC := hP.1
  have hc : W 10 0 = c := hP.2.2.1
  have h7 := hP.2.2.2.2.1
  have h1 := hP.2.2.2.2.2
  have hk3 : zk M c = 3 := by rw [← hc]; exact hC.x.1
  refine zbodyW zyL_fragments [some (.ref c), some (.int a0), some (.ref out), none] rfl (Nat.le_of_ble_eq_true rfl) (by intro v hv; simp only [List.mem_cons, List.not_mem_nil, or_false] at hv; rcases hv with rfl | rfl | rfl <;> rfl) (fun E K => ?_)
  refine zq_aload_n K dL_fragments_0 rfl rfl ?_
  refine zq_iconst K dL_fragments_1 (v := nI 0) (by decide) ?_
  refine zq_aload_n K dL_fragments_2 rfl rfl ?_
  refine zq_iload_n K dL_fragments_3 rfl rfl ?_
  rcases sm_fragments hS a0 with ⟨v, A', B', s1, s2, s3⟩ | ⟨j, En, hf, v, A', s1, s2, s3⟩
  · refine zq_callV (As := [.int a0]) K dL_fragments_4 zyX2_fragments zm_L_56 ziX2_fragments zvX2_fragments zclX2 rfl (by decide) rfl rfl (Nat.le_of_ble_eq_true rfl) (Nat.le_of_ble_eq_true rfl) hk3 (by have z := s2 G M W hC; rw [hc] at z; exact z) (zCW_r hP (fun M1 W1 hP1 => ?_)) zCW_x (Nat.le_refl _)
    refine zq_i2l K dL_fragments_7 ?_
    refine zq_last K 0 dL_fragments_8 hP1.2.2.2.2.1 rfl (by rw [hP1.2.2.2.2.2]; decide) (by rw [hP1.2.2.2.2.2]; decide) ?_
    refine zq_goto K 15 dL_fragments_9 (by decide) ?_
    refine zq_iconst K dL_fragments_15 (v := nI 0) (by decide) ?_
    exact zq_iret K dL_fragments_16 rfl ⟨0, v, W1, B', q, w, A, A', rfl, by decide, hP1.wr, s1, s3, fun _ => by unfold zpI; rw [zj_j, if_pos ⟨rfl, rfl⟩]⟩
  · refine zq_callV (As := [.int a0]) K dL_fragments_4 zyX2_fragments zm_L_56 ziX2_fragments zvX2_fragments zclX2 rfl (by decide) rfl rfl (Nat.le_of_ble_eq_true rfl) (Nat.le_of_ble_eq_true rfl) hk3 (by have z := s2 G M W hC; rw [hc] at z; exact z) zthr_r (zthr_x ?_) (Nat.le_refl _)
    match j, hf, s3 with
    | 0, hf, s3 =>
      cases hf
      refine zx_catch K [] ⟨0, 9, 12, 15⟩ [] rfl (by decide) (fun z hz => nomatch hz) (by decide) (by decide) zc_L_15 (fun z => ?_)
      refine zq_astore_n K dL_fragments_12 rfl (by decide) ?_
      refine zq_iconst K dL_fragments_13 (v := nI 1) (by decide) ?_
      exact zq_iret K dL_fragments_14 rfl ⟨1, v, W, B, q, w, A, A', rfl, by decide, hP, s1, s3, fun z => nomatch z⟩
    | j + 1, hf, _ => exact absurd hf (by simp)
theorem ct_L_serverOf {G : ZG} {M : ZM} {c x out t : Nat} (h : zLS M c x out t) (a0 a1 : Int32) : zMetW G hL_serverOf mL_serverOf [.ref c, .int a0, .int a1, .ref out] M (zLP c x out mX3_serverOf [.int a0, .int a1] t zI1 (zpI out)) := by
  obtain ⟨W, B, q, w, A, hP, hS⟩ := h
  have hC := hP.1
  have hc : W 10 0 = c := hP.2.2.1
  have h7 := hP.2.2.2.2.1
  have h1 := hP.2.2.2.2.2
  have hk3 : zk M c = 3 := by rw [← hc]; exact hC.x.1
  refine zbodyW zyL_serverOf [some (.ref c), some (.int a0), some (.int a1), some (.ref out), none] rfl (Nat.le_of_ble_eq_true rfl) (by intro v hv; simp only [List.mem_cons, List.not_mem_nil, or_false] at hv; rcases hv with rfl | rfl | rfl | rfl <;> rfl) (fun E K => ?_)
  refine zq_aload_n K dL_serverOf_0 rfl rfl ?_
  refine zq_iconst K dL_serverOf_1 (v := nI 0) (by decide) ?_
  refine zq_aload_n K dL_serverOf_2 rfl rfl ?_
  refine zq_iload_n K dL_serverOf_3 rfl rfl ?_
  refine zq_iload_n K dL_serverOf_4 rfl rfl ?_
  rcases sm_serverOf hS a0 a1 with ⟨v, A', B', s1, s2, s3⟩ | ⟨j, En, hf, v, A', s1, s2, s3⟩
  · refine zq_callV (As := [.int a0, .int a1]) K dL_serverOf_5 zyX2_serverOf zm_L_59 ziX2_serverOf zvX2_serverOf zclX2 rfl (by decide) rfl rfl (Nat.le_of_ble_eq_true rfl) (Nat.le_of_ble_eq_true rfl) hk3 (by have z := s2 G M W hC; rw [hc] at z; exact z) (zCW_r hP (fun M1 W1 hP1 => ?_)) zCW_x (Nat.le_refl _)
    refine zq_i2l K dL_serverOf_8 ?_
    refine zq_last K 0 dL_serverOf_9 hP1.2.2.2.2.1 rfl (by rw [hP1.2.2.2.2.2]; decide) (by rw [hP1.2.2.2.2.2]; decide) ?_
    refine zq_goto K 21 dL_serverOf_10 (by decide) ?_
    refine zq_iconst K dL_serverOf_21 (v := nI 0) (by decide) ?_
    exact zq_iret K dL_serverOf_22 rfl ⟨0, v, W1, B', q, w, A, A', rfl, by decide, hP1.wr, s1, s3, fun _ => by unfold zpI; rw [zj_j, if_pos ⟨rfl, rfl⟩]⟩
  · refine zq_callV (As := [.int a0, .int a1]) K dL_serverOf_5 zyX2_serverOf zm_L_59 ziX2_serverOf zvX2_serverOf zclX2 rfl (by decide) rfl rfl (Nat.le_of_ble_eq_true rfl) (Nat.le_of_ble_eq_true rfl) hk3 (by have z := s2 G M W hC; rw [hc] at z; exact z) zthr_r (zthr_x ?_) (Nat.le_refl _)
    match j, hf, s3 with
    | 0, hf, s3 =>
      cases hf
      refine zx_catch K [] ⟨0, 10, 13, 13⟩ [⟨0, 10, 17, 15⟩] rfl (by decide) (fun z hz => nomatch hz) (by decide) (by decide) zc_L_13 (fun z => ?_)
      refine zq_astore K dL_serverOf_13 (by decide) ?_
      refine zq_iconst K dL_serverOf_15 (v := nI 1) (by decide) ?_
      exact zq_iret K dL_serverOf_16 rfl ⟨1, v, W, B, q, w, A, A', rfl, by decide, hP, s1, s3, fun z => nomatch z⟩
    | 1, hf, s3 =>
      cases hf
      refine zx_catch K [⟨0, 10, 13, 13⟩] ⟨0, 10, 17, 15⟩ [] rfl (by decide) (fun z hz => by rw [List.mem_singleton] at hz; subst hz; exact ⟨by decide, zIAE, by decide, by decide, zc_L_13⟩) (by decide) (by decide) zc_L_15 (fun z => ?_)
      refine zq_astore K dL_serverOf_17 (by decide) ?_
      refine zq_iconst K dL_serverOf_19 (v := nI 2) (by decide) ?_
      exact zq_iret K dL_serverOf_20 rfl ⟨2, v, W, B, q, w, A, A', rfl, by decide, hP, s1, s3, fun z => nomatch z⟩
    | j + 2, hf, _ => exact absurd hf (by simp)
theorem ct_L_ownerOf {G : ZG} {M : ZM} {c x out t : Nat} (h : zLS M c x out t) (a0 a1 : Int32) : zMetW G hL_ownerOf mL_ownerOf [.ref c, .int a0, .int a1, .ref out] M (zLP c x out mX3_ownerOf [.int a0, .int a1] t zI1 (zpI out)) := by
  obtain ⟨W, B, q, w, A, hP, hS⟩ := h
  have hC := hP.1
  have hc : W 10 0 = c := hP.2.2.1
  have h7 := hP.2.2.2.2.1
  have h1 := hP.2.2.2.2.2
  have hk3 : zk M c = 3 := by rw [← hc]; exact hC.x.1
  refine zbodyW zyL_ownerOf [some (.ref c), some (.int a0), some (.int a1), some (.ref out), none] rfl (Nat.le_of_ble_eq_true rfl) (by intro v hv; simp only [List.mem_cons, List.not_mem_nil, or_false] at hv; rcases hv with rfl | rfl | rfl | rfl <;> rfl) (fun E K => ?_)
  refine zq_aload_n K dL_ownerOf_0 rfl rfl ?_
  refine zq_iconst K dL_ownerOf_1 (v := nI 0) (by decide) ?_
  refine zq_aload_n K dL_ownerOf_2 rfl rfl ?_
  refine zq_iload_n K dL_ownerOf_3 rfl rfl ?_
  refine zq_iload_n K dL_ownerOf_4 rfl rfl ?_
  rcases sm_ownerOf hS a0 a1 with ⟨v, A', B', s1, s2, s3⟩ | ⟨j, En, hf, v, A', s1, s2, s3⟩
  · refine zq_callV (As := [.int a0, .int a1]) K dL_ownerOf_5 zyX2_ownerOf zm_L_62 ziX2_ownerOf zvX2_ownerOf zclX2 rfl (by decide) rfl rfl (Nat.le_of_ble_eq_true rfl) (Nat.le_of_ble_eq_true rfl) hk3 (by have z := s2 G M W hC; rw [hc] at z; exact z) (zCW_r hP (fun M1 W1 hP1 => ?_)) zCW_x (Nat.le_refl _)
    refine zq_i2l K dL_ownerOf_8 ?_
    refine zq_last K 0 dL_ownerOf_9 hP1.2.2.2.2.1 rfl (by rw [hP1.2.2.2.2.2]; decide) (by rw [hP1.2.2.2.2.2]; decide) ?_
    refine zq_goto K 21 dL_ownerOf_10 (by decide) ?_
    refine zq_iconst K dL_ownerOf_21 (v := nI 0) (by decide) ?_
    exact zq_iret K dL_ownerOf_22 rfl ⟨0, v, W1, B', q, w, A, A', rfl, by decide, hP1.wr, s1, s3, fun _ => by unfold zpI; rw [zj_j, if_pos ⟨rfl, rfl⟩]⟩
  · refine zq_callV (As := [.int a0, .int a1]) K dL_ownerOf_5 zyX2_ownerOf zm_L_62 ziX2_ownerOf zvX2_ownerOf zclX2 rfl (by decide) rfl rfl (Nat.le_of_ble_eq_true rfl) (Nat.le_of_ble_eq_true rfl) hk3 (by have z := s2 G M W hC; rw [hc] at z; exact z) zthr_r (zthr_x ?_) (Nat.le_refl _)
    match j, hf, s3 with
    | 0, hf, s3 =>
      cases hf
      refine zx_catch K [] ⟨0, 10, 13, 13⟩ [⟨0, 10, 17, 15⟩] rfl (by decide) (fun z hz => nomatch hz) (by decide) (by decide) zc_L_13 (fun z => ?_)
      refine zq_astore K dL_ownerOf_13 (by decide) ?_
      refine zq_iconst K dL_ownerOf_15 (v := nI 1) (by decide) ?_
      exact zq_iret K dL_ownerOf_16 rfl ⟨1, v, W, B, q, w, A, A', rfl, by decide, hP, s1, s3, fun z => nomatch z⟩
    | 1, hf, s3 =>
      cases hf
      refine zx_catch K [⟨0, 10, 13, 13⟩] ⟨0, 10, 17, 15⟩ [] rfl (by decide) (fun z hz => by rw [List.mem_singleton] at hz; subst hz; exact ⟨by decide, zIAE, by decide, by decide, zc_L_13⟩) (by decide) (by decide) zc_L_15 (fun z => ?_)
      refine zq_astore K dL_ownerOf_17 (by decide) ?_
      refine zq_iconst K dL_ownerOf_19 (v := nI 2) (by decide) ?_
      exact zq_iret K dL_ownerOf_20 rfl ⟨2, v, W, B, q, w, A, A', rfl, by decide, hP, s1, s3, fun z => nomatch z⟩
    | j + 2, hf, _ => exact absurd hf (by simp)
theorem ct_L_load {G : ZG} {M : ZM} {c x out t : Nat} (h : zLS M c x out t) (a0 : Int32) : zMetW G hL_load mL_load [.ref c, .int a0, .ref out] M (zLP c x out mX3_load [.int a0] t zI1 (zpI out)) := by
  obtain ⟨W, B, q, w, A, hP, hS⟩ := h
  have hC := hP.1
  have hc : W 10 0 = c := hP.2.2.1
  have h7 := hP.2.2.2.2.1
  have h1 := hP.2.2.2.2.2
  have hk3 : zk M c = 3 := by rw [← hc]; exact hC.x.1
  refine zbodyW zyL_load [some (.ref c), some (.int a0), some (.ref out), none] rfl (Nat.le_of_ble_eq_true rfl) (by intro v hv; simp only [List.mem_cons, List.not_mem_nil, or_false] at hv; rcases hv with rfl | rfl | rfl <;> rfl) (fun E K => ?_)
  refine zq_aload_n K dL_load_0 rfl rfl ?_
  refine zq_iconst K dL_load_1 (v := nI 0) (by decide) ?_
  refine zq_aload_n K dL_load_2 rfl rfl ?_
  refine zq_iload_n K dL_load_3 rfl rfl ?_
  rcases sm_load hS a0 with ⟨v, A', B', s1, s2, s3⟩ | ⟨j, En, hf, v, A', s1, s2, s3⟩
  · refine zq_callV (As := [.int a0]) K dL_load_4 zyX2_load zm_L_65 ziX2_load zvX2_load zclX2 rfl (by decide) rfl rfl (Nat.le_of_ble_eq_true rfl) (Nat.le_of_ble_eq_true rfl) hk3 (by have z := s2 G M W hC; rw [hc] at z; exact z) (zCW_r hP (fun M1 W1 hP1 => ?_)) zCW_x (Nat.le_refl _)
    refine zq_i2l K dL_load_7 ?_
    refine zq_last K 0 dL_load_8 hP1.2.2.2.2.1 rfl (by rw [hP1.2.2.2.2.2]; decide) (by rw [hP1.2.2.2.2.2]; decide) ?_
    refine zq_goto K 15 dL_load_9 (by decide) ?_
    refine zq_iconst K dL_load_15 (v := nI 0) (by decide) ?_
    exact zq_iret K dL_load_16 rfl ⟨0, v, W1, B', q, w, A, A', rfl, by decide, hP1.wr, s1, s3, fun _ => by unfold zpI; rw [zj_j, if_pos ⟨rfl, rfl⟩]⟩
  · refine zq_callV (As := [.int a0]) K dL_load_4 zyX2_load zm_L_65 ziX2_load zvX2_load zclX2 rfl (by decide) rfl rfl (Nat.le_of_ble_eq_true rfl) (Nat.le_of_ble_eq_true rfl) hk3 (by have z := s2 G M W hC; rw [hc] at z; exact z) zthr_r (zthr_x ?_) (Nat.le_refl _)
    match j, hf, s3 with
    | 0, hf, s3 =>
      cases hf
      refine zx_catch K [] ⟨0, 9, 12, 13⟩ [] rfl (by decide) (fun z hz => nomatch hz) (by decide) (by decide) zc_L_13 (fun z => ?_)
      refine zq_astore_n K dL_load_12 rfl (by decide) ?_
      refine zq_iconst K dL_load_13 (v := nI 1) (by decide) ?_
      exact zq_iret K dL_load_14 rfl ⟨1, v, W, B, q, w, A, A', rfl, by decide, hP, s1, s3, fun z => nomatch z⟩
    | j + 1, hf, _ => exact absurd hf (by simp)
theorem ct_L_beginMove {G : ZG} {M : ZM} {c x out t : Nat} (h : zLS M c x out t) (a0 a1 a2 : Int32) : zMetW G hL_beginMove mL_beginMove [.ref c, .int a0, .int a1, .int a2] M (zLP c x out mX3_beginMove [.int a0, .int a1, .int a2] t zV0 zpV) := by
  obtain ⟨W, B, q, w, A, hP, hS⟩ := h
  have hC := hP.1
  have hc : W 10 0 = c := hP.2.2.1
  have h7 := hP.2.2.2.2.1
  have h1 := hP.2.2.2.2.2
  have hk3 : zk M c = 3 := by rw [← hc]; exact hC.x.1
  refine zbodyW zyL_beginMove [some (.ref c), some (.int a0), some (.int a1), some (.int a2), none] rfl (Nat.le_of_ble_eq_true rfl) (by intro v hv; simp only [List.mem_cons, List.not_mem_nil, or_false] at hv; rcases hv with rfl | rfl | rfl | rfl <;> rfl) (fun E K => ?_)
  refine zq_aload_n K dL_beginMove_0 rfl rfl ?_
  refine zq_iload_n K dL_beginMove_1 rfl rfl ?_
  refine zq_iload_n K dL_beginMove_2 rfl rfl ?_
  refine zq_iload_n K dL_beginMove_3 rfl rfl ?_
  rcases sm_beginMove hS a0 a1 a2 with ⟨v, A', B', s1, s2, s3⟩ | ⟨j, En, hf, v, A', s1, s2, s3⟩
  · refine zq_callV (As := [.int a0, .int a1, .int a2]) K dL_beginMove_4 zyX2_beginMove zm_L_68 ziX2_beginMove zvX2_beginMove zclX2 rfl (by decide) rfl rfl (Nat.le_of_ble_eq_true rfl) (Nat.le_of_ble_eq_true rfl) hk3 (by have z := s2 G M W hC; rw [hc] at z; exact z) (zCW_r hP (fun M1 W1 hP1 => ?_)) zCW_x (Nat.le_refl _)
    refine zq_goto K 22 dL_beginMove_7 (by decide) ?_
    refine zq_iconst K dL_beginMove_22 (v := nI 0) (by decide) ?_
    exact zq_iret K dL_beginMove_23 rfl ⟨0, v, W1, B', q, w, A, A', rfl, by decide, hP1, s1, s3, fun _ => trivial⟩
  · refine zq_callV (As := [.int a0, .int a1, .int a2]) K dL_beginMove_4 zyX2_beginMove zm_L_68 ziX2_beginMove zvX2_beginMove zclX2 rfl (by decide) rfl rfl (Nat.le_of_ble_eq_true rfl) (Nat.le_of_ble_eq_true rfl) hk3 (by have z := s2 G M W hC; rw [hc] at z; exact z) zthr_r (zthr_x ?_) (Nat.le_refl _)
    match j, hf, s3 with
    | 0, hf, s3 =>
      cases hf
      refine zx_catch K [] ⟨0, 7, 10, 13⟩ [⟨0, 7, 14, 15⟩, ⟨0, 7, 18, 20⟩] rfl (by decide) (fun z hz => nomatch hz) (by decide) (by decide) zc_L_13 (fun z => ?_)
      refine zq_astore K dL_beginMove_10 (by decide) ?_
      refine zq_iconst K dL_beginMove_12 (v := nI 1) (by decide) ?_
      exact zq_iret K dL_beginMove_13 rfl ⟨1, v, W, B, q, w, A, A', rfl, by decide, hP, s1, s3, fun z => nomatch z⟩
    | 1, hf, s3 =>
      cases hf
      refine zx_catch K [⟨0, 7, 10, 13⟩] ⟨0, 7, 14, 15⟩ [⟨0, 7, 18, 20⟩] rfl (by decide) (fun z hz => by rw [List.mem_singleton] at hz; subst hz; exact ⟨by decide, zIAE, by decide, by decide, zc_L_13⟩) (by decide) (by decide) zc_L_15 (fun z => ?_)
      refine zq_astore K dL_beginMove_14 (by decide) ?_
      refine zq_iconst K dL_beginMove_16 (v := nI 2) (by decide) ?_
      exact zq_iret K dL_beginMove_17 rfl ⟨2, v, W, B, q, w, A, A', rfl, by decide, hP, s1, s3, fun z => nomatch z⟩
    | 2, hf, s3 =>
      cases hf
      refine zx_catch K [⟨0, 7, 10, 13⟩, ⟨0, 7, 14, 15⟩] ⟨0, 7, 18, 20⟩ [] rfl (by decide) (fun z hz => by rw [List.mem_cons, List.mem_singleton] at hz; exact hz.elim (fun e => by subst e; exact ⟨by decide, zIAE, by decide, by decide, zc_L_13⟩) (fun e => by subst e; exact ⟨by decide, zIOB, by decide, by decide, zc_L_15⟩)) (by decide) (by decide) zc_L_20 (fun z => ?_)
      refine zq_astore K dL_beginMove_18 (by decide) ?_
      refine zq_iconst K dL_beginMove_20 (v := nI 3) (by decide) ?_
      exact zq_iret K dL_beginMove_21 rfl ⟨3, v, W, B, q, w, A, A', rfl, by decide, hP, s1, s3, fun z => nomatch z⟩
    | j + 3, hf, _ => exact absurd hf (by simp)
theorem ct_L_stepMove {G : ZG} {M : ZM} {c x out t : Nat} (h : zLS M c x out t) (ht : t ≤ 600) : zMetW G hL_stepMove mL_stepMove [.ref c, .ref out] M (zLP c x out mX3_stepMove [] t zI1 (zpI out)) := by
  obtain ⟨W, B, q, w, A, hP, hS⟩ := h
  have hC := hP.1
  have hc : W 10 0 = c := hP.2.2.1
  have h7 := hP.2.2.2.2.1
  have h1 := hP.2.2.2.2.2
  have hk3 : zk M c = 3 := by rw [← hc]; exact hC.x.1
  refine zbodyW zyL_stepMove [some (.ref c), some (.ref out), none] rfl (Nat.le_of_ble_eq_true rfl) (by intro v hv; simp only [List.mem_cons, List.not_mem_nil, or_false] at hv; rcases hv with rfl | rfl <;> rfl) (fun E K => ?_)
  refine zq_aload_n K dL_stepMove_0 rfl rfl ?_
  refine zq_iconst K dL_stepMove_1 (v := nI 0) (by decide) ?_
  refine zq_aload_n K dL_stepMove_2 rfl rfl ?_
  rcases sm_stepMove hS ht with ⟨v, A', B', s1, s2, s3⟩ | ⟨j, En, hf, v, A', s1, s2, s3⟩
  · refine zq_callV (As := []) K dL_stepMove_3 zyX2_stepMove zm_L_72 ziX2_stepMove zvX2_stepMove zclX2 rfl (by decide) rfl rfl (Nat.le_of_ble_eq_true rfl) (Nat.le_of_ble_eq_true rfl) hk3 (by have z := s2 G M W hC; rw [hc] at z; exact z) (zCW_r hP (fun M1 W1 hP1 => ?_)) zCW_x (Nat.le_refl _)
    refine zq_i2l K dL_stepMove_6 ?_
    refine zq_last K 0 dL_stepMove_7 hP1.2.2.2.2.1 rfl (by rw [hP1.2.2.2.2.2]; decide) (by rw [hP1.2.2.2.2.2]; decide) ?_
    refine zq_goto K 14 dL_stepMove_8 (by decide) ?_
    refine zq_iconst K dL_stepMove_14 (v := nI 0) (by decide) ?_
    exact zq_iret K dL_stepMove_15 rfl ⟨0, v, W1, B', q, w, A, A', rfl, by decide, hP1.wr, s1, s3, fun _ => by unfold zpI; rw [zj_j, if_pos ⟨rfl, rfl⟩]⟩
  · refine zq_callV (As := []) K dL_stepMove_3 zyX2_stepMove zm_L_72 ziX2_stepMove zvX2_stepMove zclX2 rfl (by decide) rfl rfl (Nat.le_of_ble_eq_true rfl) (Nat.le_of_ble_eq_true rfl) hk3 (by have z := s2 G M W hC; rw [hc] at z; exact z) zthr_r (zthr_x ?_) (Nat.le_refl _)
    match j, hf, s3 with
    | 0, hf, s3 =>
      cases hf
      refine zx_catch K [] ⟨0, 8, 11, 20⟩ [] rfl (by decide) (fun z hz => nomatch hz) (by decide) (by decide) zc_L_20 (fun z => ?_)
      refine zq_astore_n K dL_stepMove_11 rfl (by decide) ?_
      refine zq_iconst K dL_stepMove_12 (v := nI 1) (by decide) ?_
      exact zq_iret K dL_stepMove_13 rfl ⟨1, v, W, B, q, w, A, A', rfl, by decide, hP, s1, s3, fun z => nomatch z⟩
    | j + 1, hf, _ => exact absurd hf (by simp)
theorem ct_L_giveUpMove {G : ZG} {M : ZM} {c x out t : Nat} (h : zLS M c x out t) : zMetW G hL_giveUpMove mL_giveUpMove [.ref c, .ref out] M (zLP c x out mX3_giveUpMove [] t zI1 (zpI out)) := by
  obtain ⟨W, B, q, w, A, hP, hS⟩ := h
  have hC := hP.1
  have hc : W 10 0 = c := hP.2.2.1
  have h7 := hP.2.2.2.2.1
  have h1 := hP.2.2.2.2.2
  have hk3 : zk M c = 3 := by rw [← hc]; exact hC.x.1
  refine zbodyW zyL_giveUpMove [some (.ref c), some (.ref out), none] rfl (Nat.le_of_ble_eq_true rfl) (by intro v hv; simp only [List.mem_cons, List.not_mem_nil, or_false] at hv; rcases hv with rfl | rfl <;> rfl) (fun E K => ?_)
  refine zq_aload_n K dL_giveUpMove_0 rfl rfl ?_
  refine zq_iconst K dL_giveUpMove_1 (v := nI 0) (by decide) ?_
  refine zq_aload_n K dL_giveUpMove_2 rfl rfl ?_
  rcases sm_giveUpMove hS with ⟨v, A', B', s1, s2, s3⟩ | ⟨j, En, hf, v, A', s1, s2, s3⟩
  · refine zq_callV (As := []) K dL_giveUpMove_3 zyX2_giveUpMove zm_L_76 ziX2_giveUpMove zvX2_giveUpMove zclX2 rfl (by decide) rfl rfl (Nat.le_of_ble_eq_true rfl) (Nat.le_of_ble_eq_true rfl) hk3 (by have z := s2 G M W hC; rw [hc] at z; exact z) (zCW_r hP (fun M1 W1 hP1 => ?_)) zCW_x (Nat.le_refl _)
    refine zq_i2l K dL_giveUpMove_6 ?_
    refine zq_last K 0 dL_giveUpMove_7 hP1.2.2.2.2.1 rfl (by rw [hP1.2.2.2.2.2]; decide) (by rw [hP1.2.2.2.2.2]; decide) ?_
    refine zq_goto K 14 dL_giveUpMove_8 (by decide) ?_
    refine zq_iconst K dL_giveUpMove_14 (v := nI 0) (by decide) ?_
    exact zq_iret K dL_giveUpMove_15 rfl ⟨0, v, W1, B', q, w, A, A', rfl, by decide, hP1.wr, s1, s3, fun _ => by unfold zpI; rw [zj_j, if_pos ⟨rfl, rfl⟩]⟩
  · refine zq_callV (As := []) K dL_giveUpMove_3 zyX2_giveUpMove zm_L_76 ziX2_giveUpMove zvX2_giveUpMove zclX2 rfl (by decide) rfl rfl (Nat.le_of_ble_eq_true rfl) (Nat.le_of_ble_eq_true rfl) hk3 (by have z := s2 G M W hC; rw [hc] at z; exact z) zthr_r (zthr_x ?_) (Nat.le_refl _)
    match j, hf, s3 with
    | 0, hf, s3 =>
      cases hf
      refine zx_catch K [] ⟨0, 8, 11, 20⟩ [] rfl (by decide) (fun z hz => nomatch hz) (by decide) (by decide) zc_L_20 (fun z => ?_)
      refine zq_astore_n K dL_giveUpMove_11 rfl (by decide) ?_
      refine zq_iconst K dL_giveUpMove_12 (v := nI 1) (by decide) ?_
      exact zq_iret K dL_giveUpMove_13 rfl ⟨1, v, W, B, q, w, A, A', rfl, by decide, hP, s1, s3, fun z => nomatch z⟩
    | j + 1, hf, _ => exact absurd hf (by simp)
theorem ct_L_isFrozen {G : ZG} {M : ZM} {c x out t : Nat} (h : zLS M c x out t) (a0 a1 : Int32) : zMetW G hL_isFrozen mL_isFrozen [.ref c, .int a0, .int a1, .ref out] M (zLP c x out mX3_isFrozen [.int a0, .int a1] t zI1 (zpZ out)) := by
  obtain ⟨W, B, q, w, A, hP, hS⟩ := h
  have hC := hP.1
  have hc : W 10 0 = c := hP.2.2.1
  have h7 := hP.2.2.2.2.1
  have h1 := hP.2.2.2.2.2
  have hk3 : zk M c = 3 := by rw [← hc]; exact hC.x.1
  refine zbodyW zyL_isFrozen [some (.ref c), some (.int a0), some (.int a1), some (.ref out), none] rfl (Nat.le_of_ble_eq_true rfl) (by intro v hv; simp only [List.mem_cons, List.not_mem_nil, or_false] at hv; rcases hv with rfl | rfl | rfl | rfl <;> rfl) (fun E K => ?_)
  refine zq_aload_n K dL_isFrozen_0 rfl rfl ?_
  refine zq_iconst K dL_isFrozen_1 (v := nI 0) (by decide) ?_
  refine zq_aload_n K dL_isFrozen_2 rfl rfl ?_
  refine zq_iload_n K dL_isFrozen_3 rfl rfl ?_
  refine zq_iload_n K dL_isFrozen_4 rfl rfl ?_
  rcases sm_isFrozen hS a0 a1 with ⟨v, A', B', s1, s2, s3⟩ | ⟨j, En, hf, v, A', s1, s2, s3⟩
  · refine zq_callV (As := [.int a0, .int a1]) K dL_isFrozen_5 zyX2_isFrozen zm_L_79 ziX2_isFrozen zvX2_isFrozen zclX2 rfl (by decide) rfl rfl (Nat.le_of_ble_eq_true rfl) (Nat.le_of_ble_eq_true rfl) hk3 (by have z := s2 G M W hC; rw [hc] at z; exact z) (zCW_r hP (fun M1 W1 hP1 => ?_)) zCW_x (Nat.le_refl _)
    refine zq_if_eq K 15 dL_isFrozen_8 (by decide) (fun hv0 => ?_) (fun hv0 => ?_)
    · refine zq_lconst K dL_isFrozen_15 (v := 0) (by decide) ?_
      refine zq_last K 0 dL_isFrozen_16 hP1.2.2.2.2.1 rfl (by rw [hP1.2.2.2.2.2]; decide) (by rw [hP1.2.2.2.2.2]; decide) ?_
      refine zq_goto K 28 dL_isFrozen_17 (by decide) ?_
      refine zq_iconst K dL_isFrozen_28 (v := nI 0) (by decide) ?_
      exact zq_iret K dL_isFrozen_29 rfl ⟨0, v, W1, B', q, w, A, A', rfl, by decide, hP1.wr, s1, s3, fun _ => by unfold zpZ; rw [zj_j, if_pos ⟨rfl, rfl⟩, if_pos hv0]⟩
    · refine zq_lconst K dL_isFrozen_11 (v := 1) (by decide) ?_
      refine zq_goto K 16 dL_isFrozen_12 (by decide) ?_
      refine zq_last K 0 dL_isFrozen_16 hP1.2.2.2.2.1 rfl (by rw [hP1.2.2.2.2.2]; decide) (by rw [hP1.2.2.2.2.2]; decide) ?_
      refine zq_goto K 28 dL_isFrozen_17 (by decide) ?_
      refine zq_iconst K dL_isFrozen_28 (v := nI 0) (by decide) ?_
      exact zq_iret K dL_isFrozen_29 rfl ⟨0, v, W1, B', q, w, A, A', rfl, by decide, hP1.wr, s1, s3, fun _ => by unfold zpZ; rw [zj_j, if_pos ⟨rfl, rfl⟩, if_neg hv0]⟩
  · refine zq_callV (As := [.int a0, .int a1]) K dL_isFrozen_5 zyX2_isFrozen zm_L_79 ziX2_isFrozen zvX2_isFrozen zclX2 rfl (by decide) rfl rfl (Nat.le_of_ble_eq_true rfl) (Nat.le_of_ble_eq_true rfl) hk3 (by have z := s2 G M W hC; rw [hc] at z; exact z) zthr_r (zthr_x ?_) (Nat.le_refl _)
    match j, hf, s3 with
    | 0, hf, s3 =>
      cases hf
      refine zx_catch K [] ⟨0, 17, 20, 13⟩ [⟨0, 17, 24, 15⟩] rfl (by decide) (fun z hz => nomatch hz) (by decide) (by decide) zc_L_13 (fun z => ?_)
      refine zq_astore K dL_isFrozen_20 (by decide) ?_
      refine zq_iconst K dL_isFrozen_22 (v := nI 1) (by decide) ?_
      exact zq_iret K dL_isFrozen_23 rfl ⟨1, v, W, B, q, w, A, A', rfl, by decide, hP, s1, s3, fun z => nomatch z⟩
    | 1, hf, s3 =>
      cases hf
      refine zx_catch K [⟨0, 17, 20, 13⟩] ⟨0, 17, 24, 15⟩ [] rfl (by decide) (fun z hz => by rw [List.mem_singleton] at hz; subst hz; exact ⟨by decide, zIAE, by decide, by decide, zc_L_13⟩) (by decide) (by decide) zc_L_15 (fun z => ?_)
      refine zq_astore K dL_isFrozen_24 (by decide) ?_
      refine zq_iconst K dL_isFrozen_26 (v := nI 2) (by decide) ?_
      exact zq_iret K dL_isFrozen_27 rfl ⟨2, v, W, B, q, w, A, A', rfl, by decide, hP, s1, s3, fun z => nomatch z⟩
    | j + 2, hf, _ => exact absurd hf (by simp)
theorem ct_L_balance {G : ZG} {M : ZM} {c x out t : Nat} (h : zLS M c x out t) : zMetW G hL_balance mL_balance [.ref c, .ref out] M (zLP c x out mX3_balance [] t zI1 (zpI out)) := by
  obtain ⟨W, B, q, w, A, hP, hS⟩ := h
  have hC := hP.1
  have hc : W 10 0 = c := hP.2.2.1
  have h7 := hP.2.2.2.2.1
  have h1 := hP.2.2.2.2.2
  have hk3 : zk M c = 3 := by rw [← hc]; exact hC.x.1
  refine zbodyW zyL_balance [some (.ref c), some (.ref out), none] rfl (Nat.le_of_ble_eq_true rfl) (by intro v hv; simp only [List.mem_cons, List.not_mem_nil, or_false] at hv; rcases hv with rfl | rfl <;> rfl) (fun E K => ?_)
  refine zq_aload_n K dL_balance_0 rfl rfl ?_
  refine zq_iconst K dL_balance_1 (v := nI 0) (by decide) ?_
  refine zq_aload_n K dL_balance_2 rfl rfl ?_
  rcases sm_balance hS with ⟨v, A', B', s1, s2, s3⟩ | ⟨j, En, hf, v, A', s1, s2, s3⟩
  · refine zq_callV (As := []) K dL_balance_3 zyX2_balance zm_L_83 ziX2_balance zvX2_balance zclX2 rfl (by decide) rfl rfl (Nat.le_of_ble_eq_true rfl) (Nat.le_of_ble_eq_true rfl) hk3 (by have z := s2 G M W hC; rw [hc] at z; exact z) (zCW_r hP (fun M1 W1 hP1 => ?_)) zCW_x (Nat.le_refl _)
    refine zq_i2l K dL_balance_6 ?_
    refine zq_last K 0 dL_balance_7 hP1.2.2.2.2.1 rfl (by rw [hP1.2.2.2.2.2]; decide) (by rw [hP1.2.2.2.2.2]; decide) ?_
    refine zq_goto K 14 dL_balance_8 (by decide) ?_
    refine zq_iconst K dL_balance_14 (v := nI 0) (by decide) ?_
    exact zq_iret K dL_balance_15 rfl ⟨0, v, W1, B', q, w, A, A', rfl, by decide, hP1.wr, s1, s3, fun _ => by unfold zpI; rw [zj_j, if_pos ⟨rfl, rfl⟩]⟩
  · refine zq_callV (As := []) K dL_balance_3 zyX2_balance zm_L_83 ziX2_balance zvX2_balance zclX2 rfl (by decide) rfl rfl (Nat.le_of_ble_eq_true rfl) (Nat.le_of_ble_eq_true rfl) hk3 (by have z := s2 G M W hC; rw [hc] at z; exact z) zthr_r (zthr_x ?_) (Nat.le_refl _)
    match j, hf, s3 with
    | 0, hf, s3 =>
      cases hf
      refine zx_catch K [] ⟨0, 8, 11, 20⟩ [] rfl (by decide) (fun z hz => nomatch hz) (by decide) (by decide) zc_L_20 (fun z => ?_)
      refine zq_astore_n K dL_balance_11 rfl (by decide) ?_
      refine zq_iconst K dL_balance_12 (v := nI 1) (by decide) ?_
      exact zq_iret K dL_balance_13 rfl ⟨1, v, W, B, q, w, A, A', rfl, by decide, hP, s1, s3, fun z => nomatch z⟩
    | j + 1, hf, _ => exact absurd hf (by simp)
theorem ct_L_links {G : ZG} {M : ZM} {c x out t : Nat} (h : zLS M c x out t) (a0 : Int32) : zMetW G hL_links mL_links [.ref c, .int a0, .ref out] M (zLP c x out mX3_links_ [.int a0] t zI1 (zpI out)) := by
  obtain ⟨W, B, q, w, A, hP, hS⟩ := h
  have hC := hP.1
  have hc : W 10 0 = c := hP.2.2.1
  have h7 := hP.2.2.2.2.1
  have h1 := hP.2.2.2.2.2
  have hk3 : zk M c = 3 := by rw [← hc]; exact hC.x.1
  refine zbodyW zyL_links [some (.ref c), some (.int a0), some (.ref out), none] rfl (Nat.le_of_ble_eq_true rfl) (by intro v hv; simp only [List.mem_cons, List.not_mem_nil, or_false] at hv; rcases hv with rfl | rfl | rfl <;> rfl) (fun E K => ?_)
  refine zq_aload_n K dL_links_0 rfl rfl ?_
  refine zq_iconst K dL_links_1 (v := nI 0) (by decide) ?_
  refine zq_aload_n K dL_links_2 rfl rfl ?_
  refine zq_iload_n K dL_links_3 rfl rfl ?_
  rcases sm_links hS a0 with ⟨v, A', B', s1, s2, s3⟩ | ⟨j, En, hf, v, A', s1, s2, s3⟩
  · refine zq_callV (As := [.int a0]) K dL_links_4 zyX2_links zm_L_86 ziX2_links zvX2_links zclX2 rfl (by decide) rfl rfl (Nat.le_of_ble_eq_true rfl) (Nat.le_of_ble_eq_true rfl) hk3 (by have z := s2 G M W hC; rw [hc] at z; exact z) (zCW_r hP (fun M1 W1 hP1 => ?_)) zCW_x (Nat.le_refl _)
    refine zq_i2l K dL_links_7 ?_
    refine zq_last K 0 dL_links_8 hP1.2.2.2.2.1 rfl (by rw [hP1.2.2.2.2.2]; decide) (by rw [hP1.2.2.2.2.2]; decide) ?_
    refine zq_goto K 15 dL_links_9 (by decide) ?_
    refine zq_iconst K dL_links_15 (v := nI 0) (by decide) ?_
    exact zq_iret K dL_links_16 rfl ⟨0, v, W1, B', q, w, A, A', rfl, by decide, hP1.wr, s1, s3, fun _ => by unfold zpI; rw [zj_j, if_pos ⟨rfl, rfl⟩]⟩
  · refine zq_callV (As := [.int a0]) K dL_links_4 zyX2_links zm_L_86 ziX2_links zvX2_links zclX2 rfl (by decide) rfl rfl (Nat.le_of_ble_eq_true rfl) (Nat.le_of_ble_eq_true rfl) hk3 (by have z := s2 G M W hC; rw [hc] at z; exact z) zthr_r (zthr_x ?_) (Nat.le_refl _)
    match j, hf, s3 with
    | 0, hf, s3 =>
      cases hf
      refine zx_catch K [] ⟨0, 9, 12, 15⟩ [] rfl (by decide) (fun z hz => nomatch hz) (by decide) (by decide) zc_L_15 (fun z => ?_)
      refine zq_astore_n K dL_links_12 rfl (by decide) ?_
      refine zq_iconst K dL_links_13 (v := nI 1) (by decide) ?_
      exact zq_iret K dL_links_14 rfl ⟨1, v, W, B, q, w, A, A', rfl, by decide, hP, s1, s3, fun z => nomatch z⟩
    | j + 1, hf, _ => exact absurd hf (by simp)
theorem ct_L_anchor {G : ZG} {M : ZM} {c x out t : Nat} (h : zLS M c x out t) (ht : t ≤ 600) (a0 : Int32) : zMetW G hL_anchor mL_anchor [.ref c, .int a0, .ref out] M (zLP c x out mX3_anchor [.int a0] t zI1 (zpI out)) := by
  obtain ⟨W, B, q, w, A, hP, hS⟩ := h
  have hC := hP.1
  have hc : W 10 0 = c := hP.2.2.1
  have h7 := hP.2.2.2.2.1
  have h1 := hP.2.2.2.2.2
  have hk3 : zk M c = 3 := by rw [← hc]; exact hC.x.1
  refine zbodyW zyL_anchor [some (.ref c), some (.int a0), some (.ref out), none] rfl (Nat.le_of_ble_eq_true rfl) (by intro v hv; simp only [List.mem_cons, List.not_mem_nil, or_false] at hv; rcases hv with rfl | rfl | rfl <;> rfl) (fun E K => ?_)
  refine zq_aload_n K dL_anchor_0 rfl rfl ?_
  refine zq_iconst K dL_anchor_1 (v := nI 0) (by decide) ?_
  refine zq_aload_n K dL_anchor_2 rfl rfl ?_
  refine zq_iload_n K dL_anchor_3 rfl rfl ?_
  rcases sm_anchor hS ht a0 with ⟨v, A', B', s1, s2, s3⟩ | ⟨j, En, hf, v, A', s1, s2, s3⟩
  · refine zq_callV (As := [.int a0]) K dL_anchor_4 zyX2_anchor zm_L_89 ziX2_anchor zvX2_anchor zclX2 rfl (by decide) rfl rfl (Nat.le_of_ble_eq_true rfl) (Nat.le_of_ble_eq_true rfl) hk3 (by have z := s2 G M W hC; rw [hc] at z; exact z) (zCW_r hP (fun M1 W1 hP1 => ?_)) zCW_x (Nat.le_refl _)
    refine zq_i2l K dL_anchor_7 ?_
    refine zq_last K 0 dL_anchor_8 hP1.2.2.2.2.1 rfl (by rw [hP1.2.2.2.2.2]; decide) (by rw [hP1.2.2.2.2.2]; decide) ?_
    refine zq_goto K 15 dL_anchor_9 (by decide) ?_
    refine zq_iconst K dL_anchor_15 (v := nI 0) (by decide) ?_
    exact zq_iret K dL_anchor_16 rfl ⟨0, v, W1, B', q, w, A, A', rfl, by decide, hP1.wr, s1, s3, fun _ => by unfold zpI; rw [zj_j, if_pos ⟨rfl, rfl⟩]⟩
  · refine zq_callV (As := [.int a0]) K dL_anchor_4 zyX2_anchor zm_L_89 ziX2_anchor zvX2_anchor zclX2 rfl (by decide) rfl rfl (Nat.le_of_ble_eq_true rfl) (Nat.le_of_ble_eq_true rfl) hk3 (by have z := s2 G M W hC; rw [hc] at z; exact z) zthr_r (zthr_x ?_) (Nat.le_refl _)
    match j, hf, s3 with
    | 0, hf, s3 =>
      cases hf
      refine zx_catch K [] ⟨0, 9, 12, 15⟩ [] rfl (by decide) (fun z hz => nomatch hz) (by decide) (by decide) zc_L_15 (fun z => ?_)
      refine zq_astore_n K dL_anchor_12 rfl (by decide) ?_
      refine zq_iconst K dL_anchor_13 (v := nI 1) (by decide) ?_
      exact zq_iret K dL_anchor_14 rfl ⟨1, v, W, B, q, w, A, A', rfl, by decide, hP, s1, s3, fun z => nomatch z⟩
    | j + 1, hf, _ => exact absurd hf (by simp)
theorem ct_L_byTree {G : ZG} {M : ZM} {c x out t : Nat} (h : zLS M c x out t) (a0 a1 : Int32) : zMetW G hL_byTree mL_byTree [.ref c, .int a0, .int a1, .ref out] M (zLP c x out mX3_byTree [.int a0, .int a1] t zI1 (zpI out)) := by
  obtain ⟨W, B, q, w, A, hP, hS⟩ := h
  have hC := hP.1
  have hc : W 10 0 = c := hP.2.2.1
  have h7 := hP.2.2.2.2.1
  have h1 := hP.2.2.2.2.2
  have hk3 : zk M c = 3 := by rw [← hc]; exact hC.x.1
  refine zbodyW zyL_byTree [some (.ref c), some (.int a0), some (.int a1), some (.ref out), none] rfl (Nat.le_of_ble_eq_true rfl) (by intro v hv; simp only [List.mem_cons, List.not_mem_nil, or_false] at hv; rcases hv with rfl | rfl | rfl | rfl <;> rfl) (fun E K => ?_)
  refine zq_aload_n K dL_byTree_0 rfl rfl ?_
  refine zq_iconst K dL_byTree_1 (v := nI 0) (by decide) ?_
  refine zq_aload_n K dL_byTree_2 rfl rfl ?_
  refine zq_iload_n K dL_byTree_3 rfl rfl ?_
  refine zq_iload_n K dL_byTree_4 rfl rfl ?_
  rcases sm_byTree hS a0 a1 with ⟨v, A', B', s1, s2, s3⟩ | ⟨j, En, hf, v, A', s1, s2, s3⟩
  · refine zq_callV (As := [.int a0, .int a1]) K dL_byTree_5 zyX2_byTree zm_L_92 ziX2_byTree zvX2_byTree zclX2 rfl (by decide) rfl rfl (Nat.le_of_ble_eq_true rfl) (Nat.le_of_ble_eq_true rfl) hk3 (by have z := s2 G M W hC; rw [hc] at z; exact z) (zCW_r hP (fun M1 W1 hP1 => ?_)) zCW_x (Nat.le_refl _)
    refine zq_i2l K dL_byTree_8 ?_
    refine zq_last K 0 dL_byTree_9 hP1.2.2.2.2.1 rfl (by rw [hP1.2.2.2.2.2]; decide) (by rw [hP1.2.2.2.2.2]; decide) ?_
    refine zq_goto K 21 dL_byTree_10 (by decide) ?_
    refine zq_iconst K dL_byTree_21 (v := nI 0) (by decide) ?_
    exact zq_iret K dL_byTree_22 rfl ⟨0, v, W1, B', q, w, A, A', rfl, by decide, hP1.wr, s1, s3, fun _ => by unfold zpI; rw [zj_j, if_pos ⟨rfl, rfl⟩]⟩
  · refine zq_callV (As := [.int a0, .int a1]) K dL_byTree_5 zyX2_byTree zm_L_92 ziX2_byTree zvX2_byTree zclX2 rfl (by decide) rfl rfl (Nat.le_of_ble_eq_true rfl) (Nat.le_of_ble_eq_true rfl) hk3 (by have z := s2 G M W hC; rw [hc] at z; exact z) zthr_r (zthr_x ?_) (Nat.le_refl _)
    match j, hf, s3 with
    | 0, hf, s3 =>
      cases hf
      refine zx_catch K [] ⟨0, 10, 13, 13⟩ [⟨0, 10, 17, 15⟩] rfl (by decide) (fun z hz => nomatch hz) (by decide) (by decide) zc_L_13 (fun z => ?_)
      refine zq_astore K dL_byTree_13 (by decide) ?_
      refine zq_iconst K dL_byTree_15 (v := nI 1) (by decide) ?_
      exact zq_iret K dL_byTree_16 rfl ⟨1, v, W, B, q, w, A, A', rfl, by decide, hP, s1, s3, fun z => nomatch z⟩
    | 1, hf, s3 =>
      cases hf
      refine zx_catch K [⟨0, 10, 13, 13⟩] ⟨0, 10, 17, 15⟩ [] rfl (by decide) (fun z hz => by rw [List.mem_singleton] at hz; subst hz; exact ⟨by decide, zIAE, by decide, by decide, zc_L_13⟩) (by decide) (by decide) zc_L_15 (fun z => ?_)
      refine zq_astore K dL_byTree_17 (by decide) ?_
      refine zq_iconst K dL_byTree_19 (v := nI 2) (by decide) ?_
      exact zq_iret K dL_byTree_20 rfl ⟨2, v, W, B, q, w, A, A', rfl, by decide, hP, s1, s3, fun z => nomatch z⟩
    | j + 2, hf, _ => exact absurd hf (by simp)
theorem ct_L_size {G : ZG} {M : ZM} {c x out t : Nat} (h : zLS M c x out t) (a0 : Int32) : zMetW G hL_size mL_size [.ref c, .int a0, .ref out] M (zLP c x out mX3_size [.int a0] t zI1 (zpI out)) := by
  obtain ⟨W, B, q, w, A, hP, hS⟩ := h
  have hC := hP.1
  have hc : W 10 0 = c := hP.2.2.1
  have h7 := hP.2.2.2.2.1
  have h1 := hP.2.2.2.2.2
  have hk3 : zk M c = 3 := by rw [← hc]; exact hC.x.1
  refine zbodyW zyL_size [some (.ref c), some (.int a0), some (.ref out), none] rfl (Nat.le_of_ble_eq_true rfl) (by intro v hv; simp only [List.mem_cons, List.not_mem_nil, or_false] at hv; rcases hv with rfl | rfl | rfl <;> rfl) (fun E K => ?_)
  refine zq_aload_n K dL_size_0 rfl rfl ?_
  refine zq_iconst K dL_size_1 (v := nI 0) (by decide) ?_
  refine zq_aload_n K dL_size_2 rfl rfl ?_
  refine zq_iload_n K dL_size_3 rfl rfl ?_
  rcases sm_size hS a0 with ⟨v, A', B', s1, s2, s3⟩ | ⟨j, En, hf, v, A', s1, s2, s3⟩
  · refine zq_callV (As := [.int a0]) K dL_size_4 zyX2_size zm_L_95 ziX2_size zvX2_size zclX2 rfl (by decide) rfl rfl (Nat.le_of_ble_eq_true rfl) (Nat.le_of_ble_eq_true rfl) hk3 (by have z := s2 G M W hC; rw [hc] at z; exact z) (zCW_r hP (fun M1 W1 hP1 => ?_)) zCW_x (Nat.le_refl _)
    refine zq_i2l K dL_size_7 ?_
    refine zq_last K 0 dL_size_8 hP1.2.2.2.2.1 rfl (by rw [hP1.2.2.2.2.2]; decide) (by rw [hP1.2.2.2.2.2]; decide) ?_
    refine zq_goto K 15 dL_size_9 (by decide) ?_
    refine zq_iconst K dL_size_15 (v := nI 0) (by decide) ?_
    exact zq_iret K dL_size_16 rfl ⟨0, v, W1, B', q, w, A, A', rfl, by decide, hP1.wr, s1, s3, fun _ => by unfold zpI; rw [zj_j, if_pos ⟨rfl, rfl⟩]⟩
  · refine zq_callV (As := [.int a0]) K dL_size_4 zyX2_size zm_L_95 ziX2_size zvX2_size zclX2 rfl (by decide) rfl rfl (Nat.le_of_ble_eq_true rfl) (Nat.le_of_ble_eq_true rfl) hk3 (by have z := s2 G M W hC; rw [hc] at z; exact z) zthr_r (zthr_x ?_) (Nat.le_refl _)
    match j, hf, s3 with
    | 0, hf, s3 =>
      cases hf
      refine zx_catch K [] ⟨0, 9, 12, 15⟩ [] rfl (by decide) (fun z hz => nomatch hz) (by decide) (by decide) zc_L_15 (fun z => ?_)
      refine zq_astore_n K dL_size_12 rfl (by decide) ?_
      refine zq_iconst K dL_size_13 (v := nI 1) (by decide) ?_
      exact zq_iret K dL_size_14 rfl ⟨1, v, W, B, q, w, A, A', rfl, by decide, hP, s1, s3, fun z => nomatch z⟩
    | j + 1, hf, _ => exact absurd hf (by simp)

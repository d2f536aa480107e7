/-! the law from its entry -/
def zM0 : ZM := (fun _ => 0, fun _ => 0, fun _ _ => 0, fun _ _ => none, fun _ _ => 0)
theorem whole_start {p : Program} {e : Env} {s : State} {m : MethodId} {below : List Frame} {meth : Method} {c : Code} (l : Launch) (hflags : l.flags = flags0) {b L : Nat} {xs : Nat → Int32} (hL : L ≤ 3072) (C0 : lw_At p s m meth c b L xs) : W p l e room_1 s m #[Value.ref b] below meth c s.heap [] 0 0 (lw_Z below #[Value.ref b] s) (entryFrame m ([Value.ref b] : List Value).toArray 7) := by
  obtain ⟨hx, hb, hr, hml, hown, hts, hX, hbl, hlocks, hgv, hnm⟩ := id C0
  obtain ⟨D, cA, hst⟩ := zstart l hflags hts hgv
  have K : zOK mL_law c.exceptionTable.toList (l, D, cA, s.heap) (p, e, room_1, s, m, #[.ref b], below, meth, c) := ⟨hx, hb, hr, hml, hown, hlocks, fun w hw => hts w (List.mem_filter.mp hw).1, hst, ⟨Nat.le_refl _, fun q _ => rfl⟩, rfl, hnm, Nat.le_of_ble_eq_true rfl, Nat.le_of_ble_eq_true rfl, Nat.le_of_ble_eq_true rfl, Nat.le_of_ble_eq_true rfl⟩
  have hScr : zScr (p, e, room_1, s, m, #[.ref b], below, meth, c) (l, D, cA, s.heap) b L xs := ⟨hX, hbl⟩
  have hR0 : zRel (l, D, cA, s.heap) zM0 s.heap := ⟨Nat.le_refl _, fun q _ => rfl, fun a ha => absurd rfl ha⟩
  have hW : WW (p, e, room_1, s, m, #[.ref b], below, meth, c) (l, D, cA, s.heap) (zyu mL_law) (lw_Z below #[Value.ref b] s) zM0 85000 0 [some (.ref b), none, none, none, none, none, none] [] := by
    refine zq_new K dL_law_0 zclX2 zc_L_8 (by decide) (by decide) (Nat.le_of_ble_eq_true rfl) (Nat.le_refl _) (fun a ha => ?_)
    refine zq_dup K dL_law_3 rfl ?_
    have hk1 : zk (zw zM0 a (2 + 1) 0) a = 3 := by rw [zk_w, if_pos rfl]
    refine zq_callI (As := []) K dL_law_4 zyX2_init rfl rfl zm_L_98 ziX2_init (by decide) rfl rfl (Nat.le_of_ble_eq_true rfl) (Nat.le_of_ble_eq_true rfl) (ct_X2_init hk1 (fun j => by rw [zi_w, if_pos rfl]) (fun j => by rw [zr_w, if_pos rfl])) (zPP_r (fun M2 h2 => ?_)) zPP_x (Nat.le_refl _)
    obtain ⟨W0, hC2, hc2, -, hS2⟩ := h2
    refine zq_astore_n K dL_law_7 rfl (by decide) ?_
    refine zq_new K dL_law_8 zclX3 zc_L_99 (by decide) (by decide) (Nat.le_of_ble_eq_true rfl) (Nat.le_refl _) (fun x hx0 => ?_)
    refine zq_dup K dL_law_11 rfl ?_
    have hk3 : zk (zw M2 x (3 + 1) 0) x = 4 := by rw [zk_w, if_pos rfl]
    have hne : ∀ i j, zVal zB0 i j → W0 i j ≠ x := fun i j hv e => (hC2.kd hv).1 (by rw [e]; exact hx0)
    have hC3 : zC (zw M2 x (3 + 1) 0) W0 zB0 := hC2.same (fun i j hv => zsame.w (hne i j hv))
    refine zq_callI (As := []) K dL_law_12 zyX3_init rfl rfl zm_L_101 ziX3_init (by decide) rfl rfl (Nat.le_of_ble_eq_true rfl) (Nat.le_of_ble_eq_true rfl) (ct_X3_init hk3 (fun j => by rw [zi_w, if_pos rfl])) (zPP_r (P0 := fun M' => ∃ q, zR M' x q (nI 0) zA0 ∧ (∀ k, zar k = true → zk (zw M2 x (3 + 1) 0) (q k) = 0) ∧ ∀ a, ¬ zk (zw M2 x (3 + 1) 0) a = 0 → a ≠ x → zsame (zw M2 x (3 + 1) 0) M' a) (fun M4 h4 => ?_)) (zPP_x (P0 := fun M' => ∃ q, zR M' x q (nI 0) zA0 ∧ (∀ k, zar k = true → zk (zw M2 x (3 + 1) 0) (q k) = 0) ∧ ∀ a, ¬ zk (zw M2 x (3 + 1) 0) a = 0 → a ≠ x → zsame (zw M2 x (3 + 1) 0) M' a)) (Nat.le_refl _)
    obtain ⟨q, hR4, hq4, hS4⟩ := h4
    refine zq_astore_n K dL_law_15 rfl (by decide) ?_
    refine zq_iconst K dL_law_16 (v := nI 1) (by decide) ?_
    refine zq_newJ K 1 1 dL_law_17 (by decide) ⟨by decide, by decide, Nat.le_of_ble_eq_true rfl⟩ (Nat.le_refl _) (fun out ho => ?_)
    refine zq_astore_n K dL_law_19 rfl (by decide) ?_
    refine zq_iconst K dL_law_20 (v := nI 0) (by decide) ?_
    refine zq_istore K dL_law_21 (by decide) ?_
    have hC4 : zC M4 W0 zB0 := hC3.same (fun i j hv => hS4 _ (hC3.kd hv).1 (hne i j hv))
    have hC5 : zC (zw M4 out 7 1) W0 zB0 := hC4.same (fun i j hv => zsame.w (fun e => (hC4.kd hv).1 (by rw [e]; exact ho)))
    have hR5 : zR (zw M4 out 7 1) x q (nI 0) zA0 := hR4.same (zsame.w (fun e => by have := hR4.1; rw [e, ho] at this; exact absurd this (by decide))) (fun k hk => zsame.w (fun e => (hR4.kd hk).1 (by rw [e]; exact ho)))
    have hLS : zLS (zw M4 out 7 1) a x out 0 := ⟨W0, zB0, q, nI 0, zA0, ⟨hC5, hR5, hc2, fun i j k hv hk e => (hC3.kd hv).1 (by rw [e]; exact hq4 k hk), by rw [zk_w, if_pos rfl], by rw [zn_w, if_pos rfl]⟩, zRS0⟩
    refine lp_law K hScr hL (fun M b' L' => ?_) 512 0 _ _ none none rfl hLS (Nat.le_of_ble_eq_true rfl)
    refine zq_iconst K dL_law_1769 (v := nI 1) (by decide) ?_
    exact zq_law K rfl dL_law_1770
  rw [lg_entry_eq]
  exact hW s.heap [] _ 0 0 hR0 (Nat.le_refl _) (fun q hq => nomatch hq) (by rw [hml]; exact zL_entry (vs := [.ref b]) (fun v hv => by rw [List.mem_singleton] at hv; subst hv; rfl) (Nat.le_of_ble_eq_true rfl)) (Nat.le_of_ble_eq_true rfl) (Nat.le_of_ble_eq_true rfl)

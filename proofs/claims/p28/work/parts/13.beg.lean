/-! the law from its entry -/
def zM0 : ZM := (fun _ => 0, fun _ => 0, fun _ _ => 0, fun _ _ => none, fun _ _ => 0)
/-- the first k cells are free -/
def zin (k : Nat) : Nat → Int32 := fun j => if j < k then -1 else 0
theorem lp_ini {tb : List ExceptionTableEntry} {G : ZG} {E : ZE} {Q : State → Prop} (K : zOK mL_law tb G E) {W : Nat → Nat → Nat} {B : ZA} {c tr ag tt b : Nat} {U V : Nat → Int32} {LT : List (Option Value)} {v0 : Value} (kk : ∀ M, zSe M W B c tr ag tt → zRo M tr ag tt (zin 60) U V → WW E G (zyu mL_law) Q M b 44 (some v0 :: some (.ref c) :: some (.ref tr) :: some (.ref ag) :: some (.ref tt) :: some (.int (nI 60)) :: LT) []) : ∀ (n k : Nat), k + n = 60 → ∀ M, zSe M W B c tr ag tt → zRo M tr ag tt (zin k) U V → WW E G (zyu mL_law) Q M b 26 (some v0 :: some (.ref c) :: some (.ref tr) :: some (.ref ag) :: some (.ref tt) :: some (.int (nI k)) :: LT) [] := by
  intro n
  induction n with
  | zero =>
    intro k hk M hS hR
    have hk4 : k = 60 := by omega
    subst hk4
    refine zq_iload K dL_law_26 rfl ?_
    refine zq_bipush K dL_law_28 (v := nI 60) (by decide) ?_
    refine zq_icmp_geN K (x := 60) (y := 60) 44 dL_law_30 (by decide) ⟨by omega, by omega⟩ (fun h => ?_) (fun h => by omega)
    exact kk M hS hR
  | succ n ih =>
    intro k hk M hS hR
    refine zq_iload K dL_law_26 rfl ?_
    refine zq_bipush K dL_law_28 (v := nI 60) (by decide) ?_
    refine zq_icmp_geN K (x := k) (y := 60) 44 dL_law_30 (by decide) ⟨by omega, by omega⟩ (fun h => by omega) (fun h => ?_)
    refine zq_aload_n K dL_law_33 rfl rfl ?_
    refine zq_iload K dL_law_34 rfl ?_
    refine zq_iconst K dL_law_36 (v := -1) (by decide) ?_
    refine zst_t K k dL_law_37 hS hR rfl h (fun M hS hR => ?_)
    refine zq_iincN K dL_law_38 rfl (by decide) ?_
    refine zq_goto K 26 dL_law_41 (by decide) ?_
    refine ih (k + 1) (by omega) M hS ⟨hR.1.cg (fun j hj => ?_), hR.2⟩
    rw [zup_e]
    unfold zin
    by_cases e : j = k
    · rw [if_pos e, if_pos (by omega)]
    · rw [if_neg e]
      by_cases e2 : j < k
      · rw [if_pos e2, if_pos (by omega)]
      · rw [if_neg e2, if_neg (by omega)]
theorem zIv0 : zIv zA0 zB0 0 := ⟨zRS0, by rw [zA0_1]; rfl, fun d n h1 h2 h3 => by rw [zA0_6, if_pos (by omega)], by rw [zA0_3]; rfl⟩
theorem zTm0 : zTm zA0 (zin 60) (fun _ => 0) (zup (fun _ => 0) 0 (nI 1)) := by
  refine ⟨fun k hk => ?_, fun k hk => ?_, by rw [zA0_1]; rfl, by rw [zA0_1]; rfl, by rw [zA0_1]; rfl⟩
  · rw [zA0_6, if_pos (by omega)]
    exact if_pos hk
  · rw [zA0_n (by decide) (by decide) (by decide) (by decide) (by decide)]
theorem whole_start {p : Program} {e : Env} {s : State} {m : MethodId} {below : List Frame} {meth : Method} {c : Code} (l : Launch) (hflags : l.flags = flags0) {b L : Nat} {xs : Nat → Int32} (hL : L ≤ 260) (C0 : lw_At p s m meth c b L xs) : W p l e room_1 s m #[Value.ref b] below meth c s.heap [] 0 0 (lw_Z below #[Value.ref b] s) (entryFrame m ([Value.ref b] : List Value).toArray 16) := by
  obtain ⟨hx, hb, hr, hml, hown, hts, hX, hbl, hlocks, hgv, hnm⟩ := id C0
  obtain ⟨D, cA, h6, hst⟩ := zstart l hflags hts hgv hX
  subst h6
  have K : zOK mL_law c.exceptionTable.toList (l, D, cA, s.heap) (p, e, room_1, s, m, #[.ref (cA 6)], below, meth, c) := ⟨hx, hb, hr, hml, hown, hlocks, fun w hw => hts w (List.mem_filter.mp hw).1, hst, ⟨Nat.le_refl _, fun q _ => rfl⟩, rfl, hnm, Nat.le_of_ble_eq_true rfl, Nat.le_of_ble_eq_true rfl, Nat.le_of_ble_eq_true rfl, Nat.le_of_ble_eq_true rfl⟩
  have hX0 : zX0 (l, D, cA, s.heap) L xs := by
    obtain ⟨scr, h1, -, h2, h3, h4⟩ := hX
    exact ⟨hbl, scr, h1, h2, h3, h4⟩
  have hR0 : zRel (l, D, cA, s.heap) zM0 s.heap := ⟨Nat.le_refl _, fun q _ => rfl, fun a ha => absurd rfl ha⟩
  have hW : WW (p, e, room_1, s, m, #[.ref (cA 6)], below, meth, c) (l, D, cA, s.heap) (zyu mL_law) (lw_Z below #[Value.ref (cA 6)] s) zM0 16000 0 [some (.ref (cA 6)), none, none, none, none, none, none, none, none, none, none, none, none, none, none, none] [] := by
    refine zq_new K dL_law_0 zclX2 zc_L_9 (by decide) (by decide) (Nat.le_of_ble_eq_true rfl) (Nat.le_refl _) (fun a ha => ?_)
    refine zq_dup K dL_law_3 rfl ?_
    have hk1 : zk (zw zM0 a (2 + 1) 0) a = 3 := by rw [zk_w, if_pos rfl]
    refine zq_callI (As := []) K dL_law_4 zyX2_init rfl rfl zm_L_37 ziX2_init (by decide) rfl rfl (Nat.le_of_ble_eq_true rfl) (Nat.le_of_ble_eq_true rfl) (ct_X2_init hk1 (fun j => by rw [zi_w, if_pos rfl]) (fun j => by rw [zr_w, if_pos rfl])) (zPP_r (fun M2 h2 => ?_)) zPP_x (Nat.le_refl _)
    obtain ⟨W0, hC2, hc2, -, hS2⟩ := h2
    refine zq_astore_n K dL_law_7 rfl (by decide) ?_
    refine zq_bipush K dL_law_8 (v := nI 60) (by decide) ?_
    refine zq_newI K 60 1 dL_law_10 (by decide) ⟨by decide, by decide, Nat.le_of_ble_eq_true rfl⟩ (Nat.le_refl _) (fun tr htr => ?_)
    refine zq_astore_n K dL_law_12 rfl (by decide) ?_
    refine zq_bipush K dL_law_13 (v := nI 60) (by decide) ?_
    refine zq_newI K 60 1 dL_law_15 (by decide) ⟨by decide, by decide, Nat.le_of_ble_eq_true rfl⟩ (Nat.le_refl _) (fun ag hag => ?_)
    refine zq_astore_n K dL_law_17 rfl (by decide) ?_
    refine zq_iconst K dL_law_18 (v := nI 3) (by decide) ?_
    refine zq_newI K 3 1 dL_law_19 (by decide) ⟨by decide, by decide, Nat.le_of_ble_eq_true rfl⟩ (Nat.le_refl _) (fun tt htt => ?_)
    refine zq_astore K dL_law_21 (by decide) ?_
    refine zq_iconst K dL_law_23 (v := nI 0) (by decide) ?_
    refine zq_istore K dL_law_24 (by decide) ?_
    have n1 : ag ≠ tr := fun e => by rw [zk_w, if_pos e] at hag; exact absurd hag (by decide)
    have n3 : tt ≠ ag := fun e => by rw [zk_w, if_pos e] at htt; exact absurd htt (by decide)
    have n2 : tt ≠ tr := fun e => by
      rw [zk_w, if_neg n3, zk_w, if_pos e] at htt
      exact absurd htt (by decide)
    have hag2 : zk M2 ag = 0 := by rwa [zk_w, if_neg n1] at hag
    have htt2 : zk M2 tt = 0 := by rwa [zk_w, if_neg n3, zk_w, if_neg n2] at htt
    have d1 : ∀ i j, zVal zB0 i j → W0 i j ≠ tr := fun i j hv e => (hC2.kd hv).1 (by rw [e]; exact htr)
    have d2 : ∀ i j, zVal zB0 i j → W0 i j ≠ ag := fun i j hv e => (hC2.kd hv).1 (by rw [e]; exact hag2)
    have d3 : ∀ i j, zVal zB0 i j → W0 i j ≠ tt := fun i j hv e => (hC2.kd hv).1 (by rw [e]; exact htt2)
    have hSe : zSe (zw (zw (zw M2 tr 5 60) ag 5 60) tt 5 3) W0 zB0 a tr ag tt := ⟨hC2.same (fun i j hv => ((zsame.w (d1 i j hv)).tr (zsame.w (d2 i j hv))).tr (zsame.w (d3 i j hv))), hc2, fun i j hv => ⟨d1 i j hv, d2 i j hv, d3 i j hv⟩, fun e => n1 e.symm, fun e => n2 e.symm, fun e => n3 e.symm⟩
    have new : ∀ (M : ZM) (x k : Nat), zAr (zw M x 5 k) x k (fun _ => 0) := fun M x k => ⟨by rw [zk_w, if_pos rfl], by rw [zn_w, if_pos rfl], fun j _ => by rw [zi_w, if_pos rfl]⟩
    have hRo : zRo (zw (zw (zw M2 tr 5 60) ag 5 60) tt 5 3) tr ag tt (zin 0) (fun _ => 0) (fun _ => 0) := ⟨(((new _ tr 60).same (zsame.w (fun e => n1 e.symm))).same (zsame.w (fun e => n2 e.symm))).cg (fun j _ => (if_neg (Nat.not_lt_zero j)).symm), (new _ ag 60).same (zsame.w (fun e => n3 e.symm)), new _ tt 3⟩
    refine lp_ini K (fun M hS hR => ?_) 60 0 rfl _ hSe hRo
    refine zq_aload K dL_law_44 rfl ?_
    refine zq_iconst K dL_law_46 (v := nI 0) (by decide) ?_
    refine zq_iconst K dL_law_47 (v := nI 1) (by decide) ?_
    refine zst_n K 0 dL_law_48 hS hR rfl (by decide) (fun M hS hR => ?_)
    refine zq_iconst K dL_law_49 (v := nI 0) (by decide) ?_
    refine zq_istore K dL_law_50 (by decide) ?_
    refine lp_law K hX0 hL (fun M b' L' => ?_) 70 0 M _ none none none none none none none none none none rfl ⟨W0, zB0, zA0, _, _, _, 0, hS, hR, zIv0, Nat.le_refl _, zTm0⟩ (Nat.le_of_ble_eq_true rfl)
    refine zq_iconst K dL_law_684 (v := nI 1) (by decide) ?_
    exact zq_law K rfl dL_law_685
  rw [lg_entry_eq]
  exact hW s.heap [] _ 0 0 hR0 (Nat.le_refl _) (fun q hq => nomatch hq) (by rw [hml]; exact zL_entry (vs := [.ref (cA 6)]) (fun v hv => by rw [List.mem_singleton] at hv; subst hv; rfl) (Nat.le_of_ble_eq_true rfl)) (Nat.le_of_ble_eq_true rfl) (Nat.le_of_ble_eq_true rfl)

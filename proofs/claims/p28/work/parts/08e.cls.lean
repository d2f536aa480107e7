/-! the class: what its calls need -/
theorem lp_X0_isWithin {G : ZG} {E : ZE} (K : zOK mX0_isWithin [] G E) {M : ZM} {W : Nat → Nat → Nat} {B : ZA} (hC : zC M W B) {x0 : Value} {e : Nat} (he : zVal B 3 e) {P : ZO → ZM → Prop} : ∀ (k d : Nat), k < 12 → zDp B k d → zVal B 3 d → (zblN B k d e = true → P (.inl (some (.int (nI 1)))) M) → (¬ zblN B k d e = true → P (.inl (some (.int (nI 0)))) M) → ∀ l, l + k < 12 → WW E G (zyu mX0_isWithin) (zQ E G mX0_isWithin P) M 0 4 [some x0, some (.ref (W 3 e)), some (.ref (W 3 d)), some (.int (nI l))] [] := by
  intro k
  induction k with
  | zero =>
    intro d hk hx hv k1 k0 l hl
    have hd0 : d = 0 := hx
    subst hd0
    refine zq_aload_n K dX0_isWithin_4 rfl rfl ?_
    refine zq_ifnull_r K dX0_isWithin_5 ?_
    refine zq_iload_n K dX0_isWithin_8 rfl rfl ?_
    refine zq_bipush K dX0_isWithin_9 (v := nI 12) (by decide) ?_
    refine zq_icmp_geN K (x := l) (y := 12) 32 dX0_isWithin_11 (by decide) ⟨by omega, by omega⟩ (fun h11 => by omega) (fun h11 => ?_)
    refine zq_aload_n K dX0_isWithin_14 rfl rfl ?_
    refine zq_aload_n K dX0_isWithin_15 rfl rfl ?_
    refine zq_acmp_ne K (rx := some (W 3 (0))) (ry := some (W 3 (e))) 21 dX0_isWithin_16 (by decide) (fun ha => ?_) (fun ha => ?_)
    · refine zq_aload_n K dX0_isWithin_21 rfl rfl ?_
      refine zq_getRn K dX0_isWithin_22 zclX0 (k := 1) (by decide) zf_X0_33 rfl (hC.d hv).1 (hC.p0 hv) ?_
      refine zq_astore_nN K dX0_isWithin_25 rfl (by decide) ?_
      refine zq_iincN K dX0_isWithin_26 rfl (by decide) ?_
      refine zq_goto K 4 dX0_isWithin_29 (by decide) ?_
      refine zq_aload_nN K dX0_isWithin_4 rfl rfl ?_
      refine zq_ifnull_n K 32 dX0_isWithin_5 (by decide) ?_
      refine zq_iconst K dX0_isWithin_32 (v := nI 0) (by decide) ?_
      exact zq_zret K dX0_isWithin_33 rfl (by decide) (k0 (fun z => ha (by rw [zblN] at z; rw [of_decide_eq_true z])))
    · refine zq_iconst K dX0_isWithin_19 (v := nI 1) (by decide) ?_
      exact zq_zret K dX0_isWithin_20 rfl (by decide) (k1 (by rw [zblN]; exact decide_eq_true (hC.2 3 0 3 e hv he (Option.some.inj ha)).2))
  | succ k ih =>
    intro d hk hx hv k1 k0 l hl
    by_cases hd0 : d = 0
    · subst hd0
      refine zq_aload_n K dX0_isWithin_4 rfl rfl ?_
      refine zq_ifnull_r K dX0_isWithin_5 ?_
      refine zq_iload_n K dX0_isWithin_8 rfl rfl ?_
      refine zq_bipush K dX0_isWithin_9 (v := nI 12) (by decide) ?_
      refine zq_icmp_geN K (x := l) (y := 12) 32 dX0_isWithin_11 (by decide) ⟨by omega, by omega⟩ (fun h11 => by omega) (fun h11 => ?_)
      refine zq_aload_n K dX0_isWithin_14 rfl rfl ?_
      refine zq_aload_n K dX0_isWithin_15 rfl rfl ?_
      refine zq_acmp_ne K (rx := some (W 3 (0))) (ry := some (W 3 (e))) 21 dX0_isWithin_16 (by decide) (fun ha => ?_) (fun ha => ?_)
      · refine zq_aload_n K dX0_isWithin_21 rfl rfl ?_
        refine zq_getRn K dX0_isWithin_22 zclX0 (k := 1) (by decide) zf_X0_33 rfl (hC.d hv).1 (hC.p0 hv) ?_
        refine zq_astore_nN K dX0_isWithin_25 rfl (by decide) ?_
        refine zq_iincN K dX0_isWithin_26 rfl (by decide) ?_
        refine zq_goto K 4 dX0_isWithin_29 (by decide) ?_
        refine zq_aload_nN K dX0_isWithin_4 rfl rfl ?_
        refine zq_ifnull_n K 32 dX0_isWithin_5 (by decide) ?_
        refine zq_iconst K dX0_isWithin_32 (v := nI 0) (by decide) ?_
        exact zq_zret K dX0_isWithin_33 rfl (by decide) (k0 (fun z => ha (by rw [zblN, if_pos (Or.inl rfl)] at z; rw [of_decide_eq_true z])))
      · refine zq_iconst K dX0_isWithin_19 (v := nI 1) (by decide) ?_
        exact zq_zret K dX0_isWithin_20 rfl (by decide) (k1 (by rw [zblN, if_pos (Or.inl rfl)]; exact decide_eq_true (hC.2 3 0 3 e hv he (Option.some.inj ha)).2))
    · obtain ⟨hu, hx1⟩ := hx.resolve_left hd0
      refine zq_aload_n K dX0_isWithin_4 rfl rfl ?_
      refine zq_ifnull_r K dX0_isWithin_5 ?_
      refine zq_iload_n K dX0_isWithin_8 rfl rfl ?_
      refine zq_bipush K dX0_isWithin_9 (v := nI 12) (by decide) ?_
      refine zq_icmp_geN K (x := l) (y := 12) 32 dX0_isWithin_11 (by decide) ⟨by omega, by omega⟩ (fun h11 => by omega) (fun h11 => ?_)
      refine zq_aload_n K dX0_isWithin_14 rfl rfl ?_
      refine zq_aload_n K dX0_isWithin_15 rfl rfl ?_
      refine zq_acmp_ne K (rx := some (W 3 (d))) (ry := some (W 3 (e))) 21 dX0_isWithin_16 (by decide) (fun ha => ?_) (fun ha => ?_)
      · refine zq_aload_n K dX0_isWithin_21 rfl rfl ?_
        refine zq_getRs K dX0_isWithin_22 zclX0 (k := 1) (by decide) zf_X0_33 rfl (hC.d hv).1 (hC.p1 hv hd0) ?_
        refine zq_astore_n K dX0_isWithin_25 rfl (by decide) ?_
        refine zq_iincN K dX0_isWithin_26 rfl (by decide) ?_
        refine zq_goto K 4 dX0_isWithin_29 (by decide) ?_
        have hne : ¬ (d = 0 ∨ d = e) := fun z => z.elim hd0 (fun z => ha (by rw [z]))
        exact ih (zpar B d) (by omega) hx1 ⟨hu.2.1, hu.2.2.1⟩ (fun z => k1 (by rw [zblN, if_neg hne]; exact z)) (fun z => k0 (by rw [zblN, if_neg hne]; exact z)) (l + 1) (by omega)
      · refine zq_iconst K dX0_isWithin_19 (v := nI 1) (by decide) ?_
        exact zq_zret K dX0_isWithin_20 rfl (by decide) (k1 (by have e9 := (hC.2 3 d 3 e hv he (Option.some.inj ha)).2; rw [zblN, if_pos (Or.inr e9)]; exact decide_eq_true e9))
theorem ct_X0_isWithin {G : ZG} {M : ZM} {W : Nat → Nat → Nat} {B : ZA} (hC : zC M W B) {d : Nat} (hv : zVal B 3 d) {e : Nat} (he : zVal B 3 e) (hx : zDp B 11 d) : zMet G mX0_isWithin [.ref (W 3 (d)), .ref (W 3 (e))] M (zdec (zblN B 11 d e = true) M) := by
  refine zbody zyX0_isWithin [some (.ref (W 3 (d))), some (.ref (W 3 (e))), none, none] rfl (Nat.le_of_ble_eq_true rfl) (by intro v hv; simp only [List.mem_cons, List.not_mem_nil, or_false] at hv; rcases hv with rfl | rfl <;> rfl) (fun E K => ?_)
  refine zq_aload_n K dX0_isWithin_0 rfl rfl ?_
  refine zq_astore_n K dX0_isWithin_1 rfl (by decide) ?_
  refine zq_iconst K dX0_isWithin_2 (v := nI 0) (by decide) ?_
  refine zq_istore_n K dX0_isWithin_3 rfl (by decide) ?_
  exact lp_X0_isWithin K hC he 11 d (by omega) hx hv (fun z => zdec_1 z) (fun z => zdec_0 z) 0 (by omega)
theorem ct_X2_needClient {G : ZG} (n : Int32) (M : ZM) : zMet G mX2_needClient [.int (n)] M (znd (zOn n 3) none zIAE M) := by
  refine zbody zyX2_needClient [some (.int (n))] rfl (Nat.le_of_ble_eq_true rfl) (by intro v hv; simp only [List.mem_cons, List.not_mem_nil, or_false] at hv; rcases hv with rfl <;> rfl) (fun E K => ?_)
  refine zq_iload_n K dX2_needClient_0 rfl rfl ?_
  refine zq_if_lt K 9 dX2_needClient_1 (by decide) (fun h1 => ?_) (fun h1 => ?_)
  · exact zq_throw K (text := "client is out of range") zthIAE (by decide +kernel) dX2_needClient_9 dX2_needClient_12 dX2_needClient_13 dX2_needClient_15 dX2_needClient_18 (by decide) (Nat.le_of_ble_eq_true rfl) (Nat.le_of_ble_eq_true rfl) ⟨rfl, Or.inr ⟨zOn_n0 (by decide) h1, rfl⟩⟩
  · refine zq_iload_n K dX2_needClient_4 rfl rfl ?_
    refine zq_iconst K dX2_needClient_5 (v := nI 4) (by decide) ?_
    refine zq_icmp_lt K 19 dX2_needClient_6 (by decide) (fun h6 => ?_) (fun h6 => ?_)
    · exact zq_ret K dX2_needClient_19 rfl ⟨rfl, Or.inl ⟨zOn_p (by decide) h1 h6, rfl⟩⟩
    · exact zq_throw K (text := "client is out of range") zthIAE (by decide +kernel) dX2_needClient_9 dX2_needClient_12 dX2_needClient_13 dX2_needClient_15 dX2_needClient_18 (by decide) (Nat.le_of_ble_eq_true rfl) (Nat.le_of_ble_eq_true rfl) ⟨rfl, Or.inr ⟨zOn_n1 (by decide) h6, rfl⟩⟩
theorem ct_X2_needName {G : ZG} (n : Int32) (M : ZM) : zMet G mX2_needName [.int (n)] M (znd (zOn n 49) none zIAE M) := by
  refine zbody zyX2_needName [some (.int (n))] rfl (Nat.le_of_ble_eq_true rfl) (by intro v hv; simp only [List.mem_cons, List.not_mem_nil, or_false] at hv; rcases hv with rfl <;> rfl) (fun E K => ?_)
  refine zq_iload_n K dX2_needName_0 rfl rfl ?_
  refine zq_if_lt K 10 dX2_needName_1 (by decide) (fun h1 => ?_) (fun h1 => ?_)
  · exact zq_throw K (text := "name is out of range") zthIAE (by decide +kernel) dX2_needName_10 dX2_needName_13 dX2_needName_14 dX2_needName_16 dX2_needName_19 (by decide) (Nat.le_of_ble_eq_true rfl) (Nat.le_of_ble_eq_true rfl) ⟨rfl, Or.inr ⟨zOn_n0 (by decide) h1, rfl⟩⟩
  · refine zq_iload_n K dX2_needName_4 rfl rfl ?_
    refine zq_bipush K dX2_needName_5 (v := nI 50) (by decide) ?_
    refine zq_icmp_lt K 20 dX2_needName_7 (by decide) (fun h7 => ?_) (fun h7 => ?_)
    · exact zq_ret K dX2_needName_20 rfl ⟨rfl, Or.inl ⟨zOn_p (by decide) h1 h7, rfl⟩⟩
    · exact zq_throw K (text := "name is out of range") zthIAE (by decide +kernel) dX2_needName_10 dX2_needName_13 dX2_needName_14 dX2_needName_16 dX2_needName_19 (by decide) (Nat.le_of_ble_eq_true rfl) (Nat.le_of_ble_eq_true rfl) ⟨rfl, Or.inr ⟨zOn_n1 (by decide) h7, rfl⟩⟩
theorem zFn_n0 {F : Nat} (hF : F ≤ 30) {f : Int32} (h : f < 0) : ¬ zFn F f := by
  rintro ⟨j, hj, rfl⟩
  exact nI_pos (by omega) h
theorem zFn_n1 {F : Nat} (hF : F ≤ 30) {f : Int32} (h : ¬ f < nI F) : ¬ zFn F f := by
  rintro ⟨j, hj, rfl⟩
  exact h (nI_lt hj (by omega))
theorem zFn_p {F : Nat} (hF : F ≤ 30) {f : Int32} (h0 : ¬ f < 0) (h1 : f < nI F) : zFn F f := by
  obtain ⟨j, hj, rfl⟩ := nI_of h0
  exact ⟨j, (nI_ltI hj (by omega)).mp h1, rfl⟩
theorem ct_X2_needFile {G : ZG} {M : ZM} {W : Nat → Nat → Nat} {B : ZA} (hC : zC M W B) {F : Nat} (hf : B.1 9 = nI F) (hF : F ≤ 30) (f : Int32) : zMet G mX2_needFile [.ref (W 10 0), .int (f)] M (znd (zFn F f) none zIOB M) := by
  refine zbody zyX2_needFile [some (.ref (W 10 0)), some (.int (f))] rfl (Nat.le_of_ble_eq_true rfl) (by intro v hv; simp only [List.mem_cons, List.not_mem_nil, or_false] at hv; rcases hv with rfl | rfl <;> rfl) (fun E K => ?_)
  refine zq_iload_n K dX2_needFile_0 rfl rfl ?_
  refine zq_if_lt K 12 dX2_needFile_1 (by decide) (fun h1 => ?_) (fun h1 => ?_)
  · exact zq_throw K (text := "there never was such a file") zthIOB (by decide +kernel) dX2_needFile_12 dX2_needFile_15 dX2_needFile_16 dX2_needFile_18 dX2_needFile_21 (by decide) (Nat.le_of_ble_eq_true rfl) (Nat.le_of_ble_eq_true rfl) ⟨rfl, Or.inr ⟨zFn_n0 hF h1, rfl⟩⟩
  · refine zq_iload_n K dX2_needFile_4 rfl rfl ?_
    refine zq_aload_n K dX2_needFile_5 rfl rfl ?_
    refine zq_getI K dX2_needFile_6 zclX2 (k := 2) (by decide) zf_X2_79 rfl hC.x.1 ?_
    refine zq_top hC.x.2.2.1.2.1 ?_
    refine zq_top (v := nI (F)) hf ?_
    refine zq_icmp_lt K 22 dX2_needFile_9 (by decide) (fun h9 => ?_) (fun h9 => ?_)
    · exact zq_ret K dX2_needFile_22 rfl ⟨rfl, Or.inl ⟨zFn_p hF h1 h9, rfl⟩⟩
    · exact zq_throw K (text := "there never was such a file") zthIOB (by decide +kernel) dX2_needFile_12 dX2_needFile_15 dX2_needFile_16 dX2_needFile_18 dX2_needFile_21 (by decide) (Nat.le_of_ble_eq_true rfl) (Nat.le_of_ble_eq_true rfl) ⟨rfl, Or.inr ⟨zFn_n1 hF h9, rfl⟩⟩
/-- the move is of a fragment that is there -/
def zMw (B : ZA) : Prop := B.1 16 = -1 ∨ ∃ m, B.1 16 = nI m ∧ zVal B 9 m
theorem ct_X2_directoryNumbered_1 {G : ZG} {M : ZM} {W : Nat → Nat → Nat} {B : ZA} (hC : zC M W B) {d : Nat} (hv : zVal B 3 d) : zMet G mX2_directoryNumbered [.ref (W 10 0), .int (nI (d))] M (zone (some (.ref (W 3 d))) M) := by
  refine zbody zyX2_directoryNumbered [some (.ref (W 10 0)), some (.int (nI (d)))] rfl (Nat.le_of_ble_eq_true rfl) (by intro v hv; simp only [List.mem_cons, List.not_mem_nil, or_false] at hv; rcases hv with rfl | rfl <;> rfl) (fun E K => ?_)
  refine zq_iload_n K dX2_directoryNumbered_0 rfl rfl ?_
  refine zq_if_ltN K (x := d) 13 dX2_directoryNumbered_1 (by decide) (by have := hv.1; omega) (fun h1 => by omega) (fun h1 => ?_)
  refine zq_iload_n K dX2_directoryNumbered_4 rfl rfl ?_
  refine zq_aload_n K dX2_directoryNumbered_5 rfl rfl ?_
  refine zq_getRs K dX2_directoryNumbered_6 zclX2 (k := 0) (by decide) zf_X2_11 rfl hC.x.1 hC.x.2.1.1 ?_
  refine zq_alen K dX2_directoryNumbered_9 hC.dirs.1 (by decide) ?_
  refine zq_top (v := nI 12) (congrArg nI hC.dirs.2.1) ?_
  refine zq_icmp_ltN K (x := d) (y := 12) 15 dX2_directoryNumbered_10 (by decide) ⟨by have := hv.1; omega, by omega⟩ (fun h10 => ?_) (fun h10 => ?_)
  · refine zq_aload_n K dX2_directoryNumbered_15 rfl rfl ?_
    refine zq_getRs K dX2_directoryNumbered_16 zclX2 (k := 0) (by decide) zf_X2_11 rfl hC.x.1 hC.x.2.1.1 ?_
    refine zq_iload_n K dX2_directoryNumbered_19 rfl rfl ?_
    refine zc_ad1 K (d := d) dX2_directoryNumbered_20 hC hv rfl ?_
    exact zq_aret K dX2_directoryNumbered_21 rfl (Or.inr ⟨_, rfl⟩) ⟨rfl, rfl⟩
  · exact absurd hv.1 (by omega)
theorem ct_X2_directoryNumbered_0 {G : ZG} {M : ZM} {W : Nat → Nat → Nat} {B : ZA} (hC : zC M W B) {n : Int32} (hn : ¬ zIsD B n) : zMet G mX2_directoryNumbered [.ref (W 10 0), .int (n)] M (zone (some .null) M) := by
  refine zbody zyX2_directoryNumbered [some (.ref (W 10 0)), some (.int (n))] rfl (Nat.le_of_ble_eq_true rfl) (by intro v hv; simp only [List.mem_cons, List.not_mem_nil, or_false] at hv; rcases hv with rfl | rfl <;> rfl) (fun E K => ?_)
  refine zq_iload_n K dX2_directoryNumbered_0 rfl rfl ?_
  refine zq_if_lt K 13 dX2_directoryNumbered_1 (by decide) (fun h1 => ?_) (fun h1 => ?_)
  · refine zq_null K dX2_directoryNumbered_13 ?_
    exact zq_aret K dX2_directoryNumbered_14 rfl (Or.inl rfl) ⟨rfl, rfl⟩
  · refine zq_iload_n K dX2_directoryNumbered_4 rfl rfl ?_
    refine zq_aload_n K dX2_directoryNumbered_5 rfl rfl ?_
    refine zq_getRs K dX2_directoryNumbered_6 zclX2 (k := 0) (by decide) zf_X2_11 rfl hC.x.1 hC.x.2.1.1 ?_
    refine zq_alen K dX2_directoryNumbered_9 hC.dirs.1 (by decide) ?_
    refine zq_top (v := nI 12) (congrArg nI hC.dirs.2.1) ?_
    refine zq_icmp_lt K 15 dX2_directoryNumbered_10 (by decide) (fun h10 => ?_) (fun h10 => ?_)
    · refine zq_aload_n K dX2_directoryNumbered_15 rfl rfl ?_
      refine zq_getRs K dX2_directoryNumbered_16 zclX2 (k := 0) (by decide) zf_X2_11 rfl hC.x.1 hC.x.2.1.1 ?_
      refine zq_iload_n K dX2_directoryNumbered_19 rfl rfl ?_
      obtain ⟨j, hj, rfl⟩ := nI_of h1
      have hj12 : j < 12 := (nI_ltI hj (by decide)).mp h10
      refine zc_ad0 K (d := j) dX2_directoryNumbered_20 hC hj12 (fun z => hn ⟨j, hj12, rfl, z⟩) rfl ?_
      exact zq_aret K dX2_directoryNumbered_21 rfl (Or.inl rfl) ⟨rfl, rfl⟩
    · refine zq_null K dX2_directoryNumbered_13 ?_
      exact zq_aret K dX2_directoryNumbered_14 rfl (Or.inl rfl) ⟨rfl, rfl⟩
theorem ct_X2_needDirectory_1 {G : ZG} {M : ZM} {W : Nat → Nat → Nat} {B : ZA} (hC : zC M W B) {d : Nat} (hv : zVal B 3 d) : zMet G mX2_needDirectory [.ref (W 10 0), .int (nI (d))] M (zone (some (.ref (W 3 d))) M) := by
  refine zbody zyX2_needDirectory [some (.ref (W 10 0)), some (.int (nI (d))), none] rfl (Nat.le_of_ble_eq_true rfl) (by intro v hv; simp only [List.mem_cons, List.not_mem_nil, or_false] at hv; rcases hv with rfl | rfl <;> rfl) (fun E K => ?_)
  refine zq_aload_n K dX2_needDirectory_0 rfl rfl ?_
  refine zq_iload_n K dX2_needDirectory_1 rfl rfl ?_
  refine zq_callV (As := [.int (nI (d))]) K dX2_needDirectory_2 zyX2_directoryNumbered zm_X2_236 ziX2_directoryNumbered zvX2_directoryNumbered zclX2 rfl (by decide) rfl rfl (Nat.le_of_ble_eq_true rfl) (Nat.le_of_ble_eq_true rfl) hC.x.1 (ct_X2_directoryNumbered_1 hC hv) (zone_r ?_) zone_x (Nat.le_refl _)
  refine zq_astore_n K dX2_needDirectory_5 rfl (by decide) ?_
  refine zq_aload_n K dX2_needDirectory_6 rfl rfl ?_
  refine zq_ifnonnull_r K 20 dX2_needDirectory_7 (by decide) ?_
  refine zq_aload_n K dX2_needDirectory_20 rfl rfl ?_
  exact zq_aret K dX2_needDirectory_21 rfl (Or.inr ⟨_, rfl⟩) ⟨rfl, rfl⟩
theorem ct_X2_needDirectory_0 {G : ZG} {M : ZM} {W : Nat → Nat → Nat} {B : ZA} (hC : zC M W B) {n : Int32} (hn : ¬ zIsD B n) : zMet G mX2_needDirectory [.ref (W 10 0), .int (n)] M (zthr zIOB M) := by
  refine zbody zyX2_needDirectory [some (.ref (W 10 0)), some (.int (n)), none] rfl (Nat.le_of_ble_eq_true rfl) (by intro v hv; simp only [List.mem_cons, List.not_mem_nil, or_false] at hv; rcases hv with rfl | rfl <;> rfl) (fun E K => ?_)
  refine zq_aload_n K dX2_needDirectory_0 rfl rfl ?_
  refine zq_iload_n K dX2_needDirectory_1 rfl rfl ?_
  refine zq_callV (As := [.int (n)]) K dX2_needDirectory_2 zyX2_directoryNumbered zm_X2_236 ziX2_directoryNumbered zvX2_directoryNumbered zclX2 rfl (by decide) rfl rfl (Nat.le_of_ble_eq_true rfl) (Nat.le_of_ble_eq_true rfl) hC.x.1 (ct_X2_directoryNumbered_0 hC hn) (zone_r ?_) zone_x (Nat.le_refl _)
  refine zq_astore_nN K dX2_needDirectory_5 rfl (by decide) ?_
  refine zq_aload_nN K dX2_needDirectory_6 rfl rfl ?_
  refine zq_ifnonnull_n K dX2_needDirectory_7 ?_
  exact zq_throw K (text := "there is no such directory") zthIOB (by decide +kernel) dX2_needDirectory_10 dX2_needDirectory_13 dX2_needDirectory_14 dX2_needDirectory_16 dX2_needDirectory_19 (by decide) (Nat.le_of_ble_eq_true rfl) (Nat.le_of_ble_eq_true rfl) ⟨rfl, rfl⟩
theorem zmi2 : ∀ e, e < 12 → -2 - (-2 - nI e) = nI e ∧ ¬ (-2 : Int32) < -2 - nI e := by decide
theorem ct_X2_directoryMeant_1 {G : ZG} {M : ZM} {W : Nat → Nat → Nat} {B : ZA} (hC : zC M W B) {e : Nat} (hv : zVal B 3 e) : zMet G mX2_directoryMeant [.ref (W 10 0), .int (-2 - nI e)] M (zone (some (.ref (W 3 e))) M) := by
  refine zbody zyX2_directoryMeant [some (.ref (W 10 0)), some (.int (-2 - nI e))] rfl (Nat.le_of_ble_eq_true rfl) (by intro v hv; simp only [List.mem_cons, List.not_mem_nil, or_false] at hv; rcases hv with rfl | rfl <;> rfl) (fun E K => ?_)
  refine zq_iload_n K dX2_directoryMeant_0 rfl rfl ?_
  refine zq_bipush K dX2_directoryMeant_1 (v := -2) (by decide) ?_
  refine zq_icmp_gt K 17 dX2_directoryMeant_3 (by decide) (fun h3 => absurd h3 (zmi2 e hv.1).2) (fun h3 => ?_)
  refine zq_aload_n K dX2_directoryMeant_6 rfl rfl ?_
  refine zq_bipush K dX2_directoryMeant_7 (v := -2) (by decide) ?_
  refine zq_iload_n K dX2_directoryMeant_9 rfl rfl ?_
  refine zq_isub K dX2_directoryMeant_10 ?_
  refine zq_top (v := nI (e)) (zmi2 e hv.1).1 ?_
  refine zq_callV (As := [.int (nI (e))]) K dX2_directoryMeant_11 zyX2_directoryNumbered zm_X2_236 ziX2_directoryNumbered zvX2_directoryNumbered zclX2 rfl (by decide) rfl rfl (Nat.le_of_ble_eq_true rfl) (Nat.le_of_ble_eq_true rfl) hC.x.1 (ct_X2_directoryNumbered_1 hC hv) (zone_r ?_) zone_x (Nat.le_refl _)
  refine zq_goto K 18 dX2_directoryMeant_14 (by decide) ?_
  exact zq_aret K dX2_directoryMeant_18 rfl (Or.inr ⟨_, rfl⟩) ⟨rfl, rfl⟩
theorem ct_X2_directoryMeant_0 {G : ZG} {M : ZM} {W : Nat → Nat → Nat} {B : ZA} (hC : zC M W B) {m : Int32} (hm : -2 < m) : zMet G mX2_directoryMeant [.ref (W 10 0), .int (m)] M (zone (some .null) M) := by
  refine zbody zyX2_directoryMeant [some (.ref (W 10 0)), some (.int (m))] rfl (Nat.le_of_ble_eq_true rfl) (by intro v hv; simp only [List.mem_cons, List.not_mem_nil, or_false] at hv; rcases hv with rfl | rfl <;> rfl) (fun E K => ?_)
  refine zq_iload_n K dX2_directoryMeant_0 rfl rfl ?_
  refine zq_bipush K dX2_directoryMeant_1 (v := -2) (by decide) ?_
  refine zq_icmp_gt K 17 dX2_directoryMeant_3 (by decide) (fun h3 => ?_) (fun h3 => absurd hm h3)
  refine zq_null K dX2_directoryMeant_17 ?_
  exact zq_aret K dX2_directoryMeant_18 rfl (Or.inl rfl) ⟨rfl, rfl⟩
theorem zC.root {d : Nat} {M : ZM} {W : Nat → Nat → Nat} {B : ZA} (hC : zC M W B) (hv : zVal B 3 d) (hd : d = 0) : zr M (W 3 d) 1 = none := by
  subst hd
  exact hC.p0 hv
theorem zVal.d {B : ZA} {f : Nat} (h : zVal B 9 f) : zVal B 3 (f / 8) := ⟨by have := h.1; omega, h.2.1⟩
theorem zVal.u {B : ZA} {d : Nat} (h : zUp B d) : zVal B 3 (zpar B d) := ⟨h.2.1, h.2.2.1⟩
theorem zVal.n {B : ZA} {f : Nat} (hF : zFr B) (h : zVal B 9 f) (hu : zUp B (f / 8)) : zVal B 9 (zinh B f) := by
  obtain ⟨h1, h2, h3, h4⟩ := zinh_ok hF hu
  exact ⟨h1, h4, h3⟩
theorem zVal.nm {B : ZA} {d n : Nat} (hF : zFr B) (h : zVal B 3 d) (hn : n < 50) : zVal B 9 (zfn B d n) := h.fg hF (zhs_lt n)
theorem ct_X2_fragmentAbove {G : ZG} {M : ZM} {W : Nat → Nat → Nat} {B : ZA} (hC : zC M W B) {f : Nat} (hv9 : zVal B 9 f) (hF : zFr B) (h0 : ¬ f / 8 = 0) (hu : zUp B (f / 8)) : zMet G mX2_fragmentAbove [.ref (W 10 0), .ref (W 9 (f))] M (zone (some (.ref (W 9 (zinh B f)))) M) := by
  refine zbody zyX2_fragmentAbove [some (.ref (W 10 0)), some (.ref (W 9 (f))), none] rfl (Nat.le_of_ble_eq_true rfl) (by intro v hv; simp only [List.mem_cons, List.not_mem_nil, or_false] at hv; rcases hv with rfl | rfl <;> rfl) (fun E K => ?_)
  refine zq_aload_n K dX2_fragmentAbove_0 rfl rfl ?_
  refine zq_aload_n K dX2_fragmentAbove_1 rfl rfl ?_
  refine zq_getI K dX2_fragmentAbove_2 zclX1 (k := 0) (by decide) zf_X2_219 rfl (hC.f hv9).1 ?_
  refine zq_top (hC.f hv9).2.1 ?_
  refine zq_callV (As := [.int (nI ((f) / 8))]) K dX2_fragmentAbove_5 zyX2_directoryNumbered zm_X2_236 ziX2_directoryNumbered zvX2_directoryNumbered zclX2 rfl (by decide) rfl rfl (Nat.le_of_ble_eq_true rfl) (Nat.le_of_ble_eq_true rfl) hC.x.1 (ct_X2_directoryNumbered_1 hC hv9.d) (zone_r ?_) zone_x (Nat.le_refl _)
  refine zq_astore_n K dX2_fragmentAbove_8 rfl (by decide) ?_
  refine zq_aload_n K dX2_fragmentAbove_9 rfl rfl ?_
  refine zq_ifnull_r K dX2_fragmentAbove_10 ?_
  refine zq_aload_n K dX2_fragmentAbove_13 rfl rfl ?_
  refine zq_getRs K dX2_fragmentAbove_14 zclX0 (k := 1) (by decide) zf_X2_123 rfl (hC.d hv9.d).1 (hC.p1 hv9.d h0) ?_
  refine zq_ifnonnull_r K 22 dX2_fragmentAbove_17 (by decide) ?_
  refine zq_aload_n K dX2_fragmentAbove_22 rfl rfl ?_
  refine zq_getRs K dX2_fragmentAbove_23 zclX0 (k := 1) (by decide) zf_X2_123 rfl (hC.d hv9.d).1 (hC.p1 hv9.d h0) ?_
  refine zq_aload_n K dX2_fragmentAbove_26 rfl rfl ?_
  refine zq_getI K dX2_fragmentAbove_27 zclX0 (k := 2) (by decide) zf_X2_127 rfl (hC.d hv9.d).1 ?_
  refine zq_top (hC.d hv9.d).2.2.2.1 ?_
  refine zq_top (v := nI (znam B (f / 8))) hu.2.2.2.1 ?_
  refine zq_callV (As := [.int (nI (znam B (f / 8)))]) K dX2_fragmentAbove_30 zyX0_fragmentOfName zm_X2_47 ziX0_fragmentOfName zvX0_fragmentOfName zclX0 rfl (by decide) rfl rfl (Nat.le_of_ble_eq_true rfl) (Nat.le_of_ble_eq_true rfl) (hC.d (zVal.u hu)).1 (ct_X0_fragmentOfName hC (zVal.u hu) hu.2.2.2.2) (zone_r ?_) zone_x (Nat.le_refl _)
  exact zq_aret K dX2_fragmentAbove_33 rfl (Or.inr ⟨_, rfl⟩) ⟨rfl, rfl⟩
theorem zDp.u {B : ZA} {k d : Nat} (h : zDp B k d) (h0 : ¬ d = 0) : zUp B d := by
  cases k with
  | zero => exact absurd h h0
  | succ k => exact (h.resolve_left h0).1
theorem lp_X2_frozena {G : ZG} {E : ZE} (K : zOK mX2_frozen [] G E) {M : ZM} {W : Nat → Nat → Nat} {B : ZA} (hC : zC M W B) (hF : zFr B) (hU : ∀ d, d < 12 → B.2 3 d = 1 → zDp B 11 d) (hm : B.1 16 = -1) {y : Value} {P : ZO → ZM → Prop} : ∀ (n f : Nat), zVal B 9 f → (zfzN B n f = true → P (.inl (some (.int (nI 1)))) M) → (¬ zfzN B n f = true → P (.inl (some (.int (nI 0)))) M) → ∀ l, l + n = 12 → WW E G (zyu mX2_frozen) (zQ E G mX2_frozen P) M 0 4 [some (.ref (W 10 0)), some y, some (.ref (W 9 f)), some (.int (nI l))] [] := by
  intro n
  induction n with
  | zero =>
    intro f hv9 k1 k0 l hl
    have hk4 : l = 12 := by omega
    subst hk4
    refine zq_aload_n K dX2_frozen_4 rfl rfl ?_
    refine zq_ifnull_r K dX2_frozen_5 ?_
    refine zq_iload_n K dX2_frozen_8 rfl rfl ?_
    refine zq_bipush K dX2_frozen_9 (v := nI 12) (by decide) ?_
    refine zq_icmp_geN K (x := 12) (y := 12) 46 dX2_frozen_11 (by decide) ⟨by omega, by omega⟩ (fun h11 => ?_) (fun h11 => by omega)
    refine zq_iconst K dX2_frozen_46 (v := nI 0) (by decide) ?_
    exact zq_zret K dX2_frozen_47 rfl (by decide) (k0 Bool.false_ne_true)
  | succ n ih =>
    intro f hv9 k1 k0 l hl
    refine zq_aload_n K dX2_frozen_4 rfl rfl ?_
    refine zq_ifnull_r K dX2_frozen_5 ?_
    refine zq_iload_n K dX2_frozen_8 rfl rfl ?_
    refine zq_bipush K dX2_frozen_9 (v := nI 12) (by decide) ?_
    refine zq_icmp_geN K (x := l) (y := 12) 46 dX2_frozen_11 (by decide) ⟨by omega, by omega⟩ (fun h11 => by omega) (fun h11 => ?_)
    refine zq_aload_n K dX2_frozen_14 rfl rfl ?_
    refine zq_aload_n K dX2_frozen_15 rfl rfl ?_
    refine zq_getRn K dX2_frozen_16 zclX2 (k := 7) (by decide) zf_X2_197 rfl hC.x.1 (hC.m0 hm) ?_
    refine zq_acmp_ne K (rx := some (W 9 (f))) (ry := none) 24 dX2_frozen_19 (by decide) (fun hfm => ?_) (fun hfm => ?_)
    · refine zq_aload_n K dX2_frozen_24 rfl rfl ?_
      refine zq_getI K dX2_frozen_25 zclX1 (k := 3) (by decide) zf_X2_167 rfl (hC.f hv9).1 ?_
      refine zq_top (hC.f hv9).2.2.2.2.1 ?_
      refine zq_iconst K dX2_frozen_28 (v := -1) (by decide) ?_
      refine zq_icmp_eq K 34 dX2_frozen_29 (by decide) (fun hOW => ?_) (fun hOW => ?_)
      · have hu0 : ¬ f / 8 = 0 := fun z => hF.2 f (by omega) hv9.2.2 hOW
        have hu := (hU (f / 8) hv9.d.1 hv9.d.2).u hu0
        refine zq_aload_n K dX2_frozen_34 rfl rfl ?_
        refine zq_aload_n K dX2_frozen_35 rfl rfl ?_
        refine zq_callV (As := [.ref (W 9 (f))]) K dX2_frozen_36 zyX2_fragmentAbove zm_X2_269 ziX2_fragmentAbove zvX2_fragmentAbove zclX2 rfl (by decide) rfl rfl (Nat.le_of_ble_eq_true rfl) (Nat.le_of_ble_eq_true rfl) hC.x.1 (ct_X2_fragmentAbove hC hv9 hF hu0 hu) (zone_r ?_) zone_x (Nat.le_refl _)
        refine zq_astore_n K dX2_frozen_39 rfl (by decide) ?_
        refine zq_iincN K dX2_frozen_40 rfl (by decide) ?_
        refine zq_goto K 4 dX2_frozen_43 (by decide) ?_
        exact ih (zinh B f) (zVal.n hF hv9 hu) (fun z => k1 (by rw [zfzN, if_neg (fun z => z.1 hm), if_pos hOW]; exact z)) (fun z => k0 (by rw [zfzN, if_neg (fun z => z.1 hm), if_pos hOW]; exact z)) (l + 1) (by omega)
      · refine zq_iconst K dX2_frozen_32 (v := nI 0) (by decide) ?_
        exact zq_zret K dX2_frozen_33 rfl (by decide) (k0 (by rw [zfzN, if_neg (fun z => z.1 hm), if_neg hOW]; exact Bool.false_ne_true))
    · exact absurd hfm (by simp)
theorem lp_X2_frozenb {G : ZG} {E : ZE} (K : zOK mX2_frozen [] G E) {M : ZM} {W : Nat → Nat → Nat} {B : ZA} (hC : zC M W B) (hF : zFr B) (hU : ∀ d, d < 12 → B.2 3 d = 1 → zDp B 11 d) {m : Nat} (hm : B.1 16 = nI m) (hm9 : zVal B 9 m) {y : Value} {P : ZO → ZM → Prop} : ∀ (n f : Nat), zVal B 9 f → (zfzN B n f = true → P (.inl (some (.int (nI 1)))) M) → (¬ zfzN B n f = true → P (.inl (some (.int (nI 0)))) M) → ∀ l, l + n = 12 → WW E G (zyu mX2_frozen) (zQ E G mX2_frozen P) M 0 4 [some (.ref (W 10 0)), some y, some (.ref (W 9 f)), some (.int (nI l))] [] := by
  intro n
  induction n with
  | zero =>
    intro f hv9 k1 k0 l hl
    have hk4 : l = 12 := by omega
    subst hk4
    refine zq_aload_n K dX2_frozen_4 rfl rfl ?_
    refine zq_ifnull_r K dX2_frozen_5 ?_
    refine zq_iload_n K dX2_frozen_8 rfl rfl ?_
    refine zq_bipush K dX2_frozen_9 (v := nI 12) (by decide) ?_
    refine zq_icmp_geN K (x := 12) (y := 12) 46 dX2_frozen_11 (by decide) ⟨by omega, by omega⟩ (fun h11 => ?_) (fun h11 => by omega)
    refine zq_iconst K dX2_frozen_46 (v := nI 0) (by decide) ?_
    exact zq_zret K dX2_frozen_47 rfl (by decide) (k0 Bool.false_ne_true)
  | succ n ih =>
    intro f hv9 k1 k0 l hl
    refine zq_aload_n K dX2_frozen_4 rfl rfl ?_
    refine zq_ifnull_r K dX2_frozen_5 ?_
    refine zq_iload_n K dX2_frozen_8 rfl rfl ?_
    refine zq_bipush K dX2_frozen_9 (v := nI 12) (by decide) ?_
    refine zq_icmp_geN K (x := l) (y := 12) 46 dX2_frozen_11 (by decide) ⟨by omega, by omega⟩ (fun h11 => by omega) (fun h11 => ?_)
    refine zq_aload_n K dX2_frozen_14 rfl rfl ?_
    refine zq_aload_n K dX2_frozen_15 rfl rfl ?_
    refine zq_getRs K dX2_frozen_16 zclX2 (k := 7) (by decide) zf_X2_197 rfl hC.x.1 (hC.m1 hm hm9.1) ?_
    refine zq_acmp_ne K (rx := some (W 9 (f))) (ry := some (W 9 (m))) 24 dX2_frozen_19 (by decide) (fun hfm => ?_) (fun hfm => ?_)
    · refine zq_aload_n K dX2_frozen_24 rfl rfl ?_
      refine zq_getI K dX2_frozen_25 zclX1 (k := 3) (by decide) zf_X2_167 rfl (hC.f hv9).1 ?_
      refine zq_top (hC.f hv9).2.2.2.2.1 ?_
      refine zq_iconst K dX2_frozen_28 (v := -1) (by decide) ?_
      refine zq_icmp_eq K 34 dX2_frozen_29 (by decide) (fun hOW => ?_) (fun hOW => ?_)
      · have hu0 : ¬ f / 8 = 0 := fun z => hF.2 f (by omega) hv9.2.2 hOW
        have hu := (hU (f / 8) hv9.d.1 hv9.d.2).u hu0
        refine zq_aload_n K dX2_frozen_34 rfl rfl ?_
        refine zq_aload_n K dX2_frozen_35 rfl rfl ?_
        refine zq_callV (As := [.ref (W 9 (f))]) K dX2_frozen_36 zyX2_fragmentAbove zm_X2_269 ziX2_fragmentAbove zvX2_fragmentAbove zclX2 rfl (by decide) rfl rfl (Nat.le_of_ble_eq_true rfl) (Nat.le_of_ble_eq_true rfl) hC.x.1 (ct_X2_fragmentAbove hC hv9 hF hu0 hu) (zone_r ?_) zone_x (Nat.le_refl _)
        refine zq_astore_n K dX2_frozen_39 rfl (by decide) ?_
        refine zq_iincN K dX2_frozen_40 rfl (by decide) ?_
        refine zq_goto K 4 dX2_frozen_43 (by decide) ?_
        exact ih (zinh B f) (zVal.n hF hv9 hu) (fun z => k1 (by rw [zfzN, if_neg (fun z => hfm (by rw [(nI_eq (by have := hv9.1; omega) (by have := hm9.1; omega)).mp (z.2.trans hm)])), if_pos hOW]; exact z)) (fun z => k0 (by rw [zfzN, if_neg (fun z => hfm (by rw [(nI_eq (by have := hv9.1; omega) (by have := hm9.1; omega)).mp (z.2.trans hm)])), if_pos hOW]; exact z)) (l + 1) (by omega)
      · refine zq_iconst K dX2_frozen_32 (v := nI 0) (by decide) ?_
        exact zq_zret K dX2_frozen_33 rfl (by decide) (k0 (by rw [zfzN, if_neg (fun z => hfm (by rw [(nI_eq (by have := hv9.1; omega) (by have := hm9.1; omega)).mp (z.2.trans hm)])), if_neg hOW]; exact Bool.false_ne_true))
    · refine zq_iconst K dX2_frozen_22 (v := nI 1) (by decide) ?_
      exact zq_zret K dX2_frozen_23 rfl (by decide) (k1 (by rw [zfzN, if_pos ⟨by rw [hm]; exact nI_ne1 (by have := hm9.1; omega), by rw [hm, (hC.2 9 f 9 m hv9 hm9 (Option.some.inj hfm)).2]⟩]))
theorem ct_X2_frozen {G : ZG} {M : ZM} {W : Nat → Nat → Nat} {B : ZA} (hC : zC M W B) {f : Nat} (hv9 : zVal B 9 f) (hF : zFr B) (hU : ∀ d, d < 12 → B.2 3 d = 1 → zDp B 11 d) (hM : zMw B) : zMet G mX2_frozen [.ref (W 10 0), .ref (W 9 (f))] M (zdec (zfz B f = true) M) := by
  refine zbody zyX2_frozen [some (.ref (W 10 0)), some (.ref (W 9 (f))), none, none] rfl (Nat.le_of_ble_eq_true rfl) (by intro v hv; simp only [List.mem_cons, List.not_mem_nil, or_false] at hv; rcases hv with rfl | rfl <;> rfl) (fun E K => ?_)
  refine zq_aload_n K dX2_frozen_0 rfl rfl ?_
  refine zq_astore_n K dX2_frozen_1 rfl (by decide) ?_
  refine zq_iconst K dX2_frozen_2 (v := nI 0) (by decide) ?_
  refine zq_istore_n K dX2_frozen_3 rfl (by decide) ?_
  rcases hM with hm | ⟨m, hm, hm9⟩
  · exact lp_X2_frozena K hC hF hU hm 12 f hv9 (fun z => zdec_1 z) (fun z => zdec_0 z) 0 rfl
  · exact lp_X2_frozenb K hC hF hU hm hm9 12 f hv9 (fun z => zdec_1 z) (fun z => zdec_0 z) 0 rfl
theorem ct_X2_needFree {G : ZG} {M : ZM} {W : Nat → Nat → Nat} {B : ZA} (hC : zC M W B) {d : Nat} (hv : zVal B 3 d) {n : Nat} (hn : n < 50) (hF : zFr B) (hU : ∀ d, d < 12 → B.2 3 d = 1 → zDp B 11 d) (hM : zMw B) : zMet G mX2_needFree [.ref (W 10 0), .ref (W 3 (d)), .int (nI (n))] M (znd (¬ zBz B d n) none zISE M) := by
  refine zbody zyX2_needFree [some (.ref (W 10 0)), some (.ref (W 3 (d))), some (.int (nI (n)))] rfl (Nat.le_of_ble_eq_true rfl) (by intro v hv; simp only [List.mem_cons, List.not_mem_nil, or_false] at hv; rcases hv with rfl | rfl | rfl <;> rfl) (fun E K => ?_)
  refine zq_aload_n K dX2_needFree_0 rfl rfl ?_
  refine zq_iload_n K dX2_needFree_1 rfl rfl ?_
  refine zq_callV (As := [.int (nI (n))]) K dX2_needFree_2 zyX0_meaningOf zm_X2_60 ziX0_meaningOf zvX0_meaningOf zclX0 rfl (by decide) rfl rfl (Nat.le_of_ble_eq_true rfl) (Nat.le_of_ble_eq_true rfl) (hC.d hv).1 (ct_X0_meaningOf hC hv hn) (zone_r ?_) zone_x (Nat.le_refl _)
  refine zq_iconst K dX2_needFree_5 (v := -1) (by decide) ?_
  refine zq_icmp_ne K 21 dX2_needFree_6 (by decide) (fun h6 => ?_) (fun h6 => ?_)
  · exact zq_throw K (text := "the name is not free or its fragment is frozen") zthISE (by decide +kernel) dX2_needFree_21 dX2_needFree_24 dX2_needFree_25 dX2_needFree_27 dX2_needFree_30 (by decide) (Nat.le_of_ble_eq_true rfl) (Nat.le_of_ble_eq_true rfl) ⟨rfl, Or.inr ⟨fun z => z (Or.inl h6), rfl⟩⟩
  · refine zq_aload_n K dX2_needFree_9 rfl rfl ?_
    refine zq_aload_n K dX2_needFree_10 rfl rfl ?_
    refine zq_iload_n K dX2_needFree_11 rfl rfl ?_
    refine zq_callV (As := [.int (nI (n))]) K dX2_needFree_12 zyX0_fragmentOfName zm_X2_47 ziX0_fragmentOfName zvX0_fragmentOfName zclX0 rfl (by decide) rfl rfl (Nat.le_of_ble_eq_true rfl) (Nat.le_of_ble_eq_true rfl) (hC.d hv).1 (ct_X0_fragmentOfName hC hv hn) (zone_r ?_) zone_x (Nat.le_refl _)
    refine zq_callV (As := [.ref (W 9 (zfn B d n))]) K dX2_needFree_15 zyX2_frozen zm_X2_148 ziX2_frozen zvX2_frozen zclX2 rfl (by decide) rfl rfl (Nat.le_of_ble_eq_true rfl) (Nat.le_of_ble_eq_true rfl) hC.x.1 (ct_X2_frozen hC (zVal.nm hF hv hn) hF hU hM) (zdec_r (fun hz => ?_) (fun hz => ?_)) zdec_x (Nat.le_refl _)
    · refine zq_if_eqN K (x := 1) 31 dX2_needFree_18 (by decide) (by omega) (fun h18 => by omega) (fun h18 => ?_)
      exact zq_throw K (text := "the name is not free or its fragment is frozen") zthISE (by decide +kernel) dX2_needFree_21 dX2_needFree_24 dX2_needFree_25 dX2_needFree_27 dX2_needFree_30 (by decide) (Nat.le_of_ble_eq_true rfl) (Nat.le_of_ble_eq_true rfl) ⟨rfl, Or.inr ⟨fun z => z (Or.inr hz), rfl⟩⟩
    · refine zq_if_eqN K (x := 0) 31 dX2_needFree_18 (by decide) (by omega) (fun h18 => ?_) (fun h18 => by omega)
      exact zq_ret K dX2_needFree_31 rfl ⟨rfl, Or.inl ⟨fun z => z.elim (fun y => y h6) hz, rfl⟩⟩
theorem ct_X2_needTaken {G : ZG} {M : ZM} {W : Nat → Nat → Nat} {B : ZA} (hC : zC M W B) {d : Nat} (hv : zVal B 3 d) {n : Nat} (hn : n < 50) (hF : zFr B) (hU : ∀ d, d < 12 → B.2 3 d = 1 → zDp B 11 d) (hM : zMw B) : zMet G mX2_needTaken [.ref (W 10 0), .ref (W 3 (d)), .int (nI (n))] M (znd (¬ B.2 6 (50 * d + n) = -1 ∧ ¬ zfz B (zfn B d n) = true) none zISE M) := by
  refine zbody zyX2_needTaken [some (.ref (W 10 0)), some (.ref (W 3 (d))), some (.int (nI (n)))] rfl (Nat.le_of_ble_eq_true rfl) (by intro v hv; simp only [List.mem_cons, List.not_mem_nil, or_false] at hv; rcases hv with rfl | rfl | rfl <;> rfl) (fun E K => ?_)
  refine zq_aload_n K dX2_needTaken_0 rfl rfl ?_
  refine zq_iload_n K dX2_needTaken_1 rfl rfl ?_
  refine zq_callV (As := [.int (nI (n))]) K dX2_needTaken_2 zyX0_meaningOf zm_X2_60 ziX0_meaningOf zvX0_meaningOf zclX0 rfl (by decide) rfl rfl (Nat.le_of_ble_eq_true rfl) (Nat.le_of_ble_eq_true rfl) (hC.d hv).1 (ct_X0_meaningOf hC hv hn) (zone_r ?_) zone_x (Nat.le_refl _)
  refine zq_iconst K dX2_needTaken_5 (v := -1) (by decide) ?_
  refine zq_icmp_eq K 21 dX2_needTaken_6 (by decide) (fun h6 => ?_) (fun h6 => ?_)
  · exact zq_throw K (text := "the name is free or its fragment is frozen") zthISE (by decide +kernel) dX2_needTaken_21 dX2_needTaken_24 dX2_needTaken_25 dX2_needTaken_27 dX2_needTaken_30 (by decide) (Nat.le_of_ble_eq_true rfl) (Nat.le_of_ble_eq_true rfl) ⟨rfl, Or.inr ⟨fun z => z.1 h6, rfl⟩⟩
  · refine zq_aload_n K dX2_needTaken_9 rfl rfl ?_
    refine zq_aload_n K dX2_needTaken_10 rfl rfl ?_
    refine zq_iload_n K dX2_needTaken_11 rfl rfl ?_
    refine zq_callV (As := [.int (nI (n))]) K dX2_needTaken_12 zyX0_fragmentOfName zm_X2_47 ziX0_fragmentOfName zvX0_fragmentOfName zclX0 rfl (by decide) rfl rfl (Nat.le_of_ble_eq_true rfl) (Nat.le_of_ble_eq_true rfl) (hC.d hv).1 (ct_X0_fragmentOfName hC hv hn) (zone_r ?_) zone_x (Nat.le_refl _)
    refine zq_callV (As := [.ref (W 9 (zfn B d n))]) K dX2_needTaken_15 zyX2_frozen zm_X2_148 ziX2_frozen zvX2_frozen zclX2 rfl (by decide) rfl rfl (Nat.le_of_ble_eq_true rfl) (Nat.le_of_ble_eq_true rfl) hC.x.1 (ct_X2_frozen hC (zVal.nm hF hv hn) hF hU hM) (zdec_r (fun hz => ?_) (fun hz => ?_)) zdec_x (Nat.le_refl _)
    · refine zq_if_eqN K (x := 1) 31 dX2_needTaken_18 (by decide) (by omega) (fun h18 => by omega) (fun h18 => ?_)
      exact zq_throw K (text := "the name is free or its fragment is frozen") zthISE (by decide +kernel) dX2_needTaken_21 dX2_needTaken_24 dX2_needTaken_25 dX2_needTaken_27 dX2_needTaken_30 (by decide) (Nat.le_of_ble_eq_true rfl) (Nat.le_of_ble_eq_true rfl) ⟨rfl, Or.inr ⟨fun z => z.2 hz, rfl⟩⟩
    · refine zq_if_eqN K (x := 0) 31 dX2_needTaken_18 (by decide) (by omega) (fun h18 => ?_) (fun h18 => by omega)
      exact zq_ret K dX2_needTaken_31 rfl ⟨rfl, Or.inl ⟨⟨h6, hz⟩, rfl⟩⟩


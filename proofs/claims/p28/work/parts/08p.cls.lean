theorem ct_X2_size_bad {G : ZG} {M : ZM} {W : Nat → Nat → Nat} {B : ZA} (hC : zC M W B) {d : Int32} (h : ¬ zIsD B d) : zMet G mX2_size [.ref (W 10 0), .int (d)] M (zthr zIOB M) := by
  refine zbody zyX2_size [some (.ref (W 10 0)), some (.int (d))] rfl (Nat.le_of_ble_eq_true rfl) (by intro v hv; simp only [List.mem_cons, List.not_mem_nil, or_false] at hv; rcases hv with rfl | rfl <;> rfl) (fun E K => ?_)
  refine zq_aload_n K dX2_size_0 rfl rfl ?_
  refine zq_iload_n K dX2_size_1 rfl rfl ?_
  refine zq_callV (As := [.int (d)]) K dX2_size_2 zyX2_needDirectory zm_X2_36 ziX2_needDirectory zvX2_needDirectory zclX2 rfl (by decide) rfl rfl (Nat.le_of_ble_eq_true rfl) (Nat.le_of_ble_eq_true rfl) hC.x.1 (ct_X2_needDirectory_0 hC h) zthr_r (zthr_x ?_) (Nat.le_refl _)
  exact zx_out K ⟨rfl, rfl⟩
theorem ct_X2_size_ok {G : ZG} {M : ZM} {W : Nat → Nat → Nat} {B : ZA} (hC : zC M W B) {d : Nat} (hv : zVal B 3 d) : zMet G mX2_size [.ref (W 10 0), .int (nI (d))] M (zone (some (.int (nI (zcN (zpu B d) 50)))) M) := by
  refine zbody zyX2_size [some (.ref (W 10 0)), some (.int (nI (d)))] rfl (Nat.le_of_ble_eq_true rfl) (by intro v hv; simp only [List.mem_cons, List.not_mem_nil, or_false] at hv; rcases hv with rfl | rfl <;> rfl) (fun E K => ?_)
  refine zq_aload_n K dX2_size_0 rfl rfl ?_
  refine zq_iload_n K dX2_size_1 rfl rfl ?_
  refine zq_callV (As := [.int (nI (d))]) K dX2_size_2 zyX2_needDirectory zm_X2_36 ziX2_needDirectory zvX2_needDirectory zclX2 rfl (by decide) rfl rfl (Nat.le_of_ble_eq_true rfl) (Nat.le_of_ble_eq_true rfl) hC.x.1 (ct_X2_needDirectory_1 hC hv) (zone_r ?_) zone_x (Nat.le_refl _)
  refine zq_callV (As := []) K dX2_size_5 zyX0_countTaken zm_X2_225 ziX0_countTaken zvX0_countTaken zclX0 rfl (by decide) rfl rfl (Nat.le_of_ble_eq_true rfl) (Nat.le_of_ble_eq_true rfl) (hC.d hv).1 (ct_X0_countTaken hC hv) (zone_r ?_) zone_x (Nat.le_refl _)
  exact zq_iret K dX2_size_8 rfl ⟨rfl, rfl⟩
theorem ct_X2_byTree_bad {G : ZG} {M : ZM} {W : Nat → Nat → Nat} {B : ZA} (hC : zC M W B) {d h : Int32} {k : Nat} (hk : zBh B 49 d h k) : zMet G mX2_byTree [.ref (W 10 0), .int (d), .int (h)] M (zthr (zen k) M) := by
  refine zbody zyX2_byTree [some (.ref (W 10 0)), some (.int (d)), some (.int (h))] rfl (Nat.le_of_ble_eq_true rfl) (by intro v hv; simp only [List.mem_cons, List.not_mem_nil, or_false] at hv; rcases hv with rfl | rfl | rfl <;> rfl) (fun E K => ?_)
  refine zq_iload_n K dX2_byTree_0 rfl rfl ?_
  refine zq_callS (As := [.int (h)]) K dX2_byTree_1 zyX2_needName zm_X2_33 zsX2_needName rfl (by decide) rfl rfl (Nat.le_of_ble_eq_true rfl) (Nat.le_of_ble_eq_true rfl) (ct_X2_needName h M) (znd_r (fun hh => ?_)) (znd_x (fun hh => ?_)) (Nat.le_refl _)
  · refine zq_aload_n K dX2_byTree_4 rfl rfl ?_
    refine zq_iload_n K dX2_byTree_5 rfl rfl ?_
    obtain ⟨rfl, hnd⟩ : k = 2 ∧ ¬ zIsD B d := by
      rcases hk with ⟨-, h1⟩ | ⟨e, -, h1⟩
      · exact absurd hh h1
      · exact ⟨e, h1⟩
    refine zq_callV (As := [.int (d)]) K dX2_byTree_6 zyX2_needDirectory zm_X2_36 ziX2_needDirectory zvX2_needDirectory zclX2 rfl (by decide) rfl rfl (Nat.le_of_ble_eq_true rfl) (Nat.le_of_ble_eq_true rfl) hC.x.1 (ct_X2_needDirectory_0 hC hnd) zthr_r (zthr_x ?_) (Nat.le_refl _)
    exact zx_out K ⟨rfl, rfl⟩
  · rcases hk with ⟨rfl, -⟩ | ⟨-, h1, -⟩
    · exact zx_out K ⟨rfl, rfl⟩
    · exact absurd h1 hh
theorem ct_X2_byTree_ok {G : ZG} {M : ZM} {W : Nat → Nat → Nat} {B : ZA} (hC : zC M W B) (hW : zWf B) {d h : Nat} (hv : zVal B 3 d) (hh : h ≤ 49) : zMet G mX2_byTree [.ref (W 10 0), .int (nI (d)), .int (nI (h))] M (zone (some (.int (B.2 6 (50 * d + h)))) M) := by
  refine zbody zyX2_byTree [some (.ref (W 10 0)), some (.int (nI (d))), some (.int (nI (h)))] rfl (Nat.le_of_ble_eq_true rfl) (by intro v hv; simp only [List.mem_cons, List.not_mem_nil, or_false] at hv; rcases hv with rfl | rfl | rfl <;> rfl) (fun E K => ?_)
  obtain ⟨⟨D, hB⟩, hF, hU⟩ := id hW
  have hS : zFm M W B M := zFm.rf
  refine zq_iload_n K dX2_byTree_0 rfl rfl ?_
  refine zq_callS (As := [.int (nI (h))]) K dX2_byTree_1 zyX2_needName zm_X2_33 zsX2_needName rfl (by decide) rfl rfl (Nat.le_of_ble_eq_true rfl) (Nat.le_of_ble_eq_true rfl) (ct_X2_needName (nI h) M) (znd_r (fun hh9 => ?_)) (znd_x (fun hh9 => ?_)) (Nat.le_refl _)
  · refine zq_aload_n K dX2_byTree_4 rfl rfl ?_
    refine zq_iload_n K dX2_byTree_5 rfl rfl ?_
    refine zq_callV (As := [.int (nI (d))]) K dX2_byTree_6 zyX2_needDirectory zm_X2_36 ziX2_needDirectory zvX2_needDirectory zclX2 rfl (by decide) rfl rfl (Nat.le_of_ble_eq_true rfl) (Nat.le_of_ble_eq_true rfl) hC.x.1 (ct_X2_needDirectory_1 hC hv) (zone_r ?_) zone_x (Nat.le_refl _)
    refine zq_iload_n K dX2_byTree_9 rfl rfl ?_
    refine zq_callV (As := [.int (nI (h))]) K dX2_byTree_10 zyX0_meaningOf zm_X2_60 ziX0_meaningOf zvX0_meaningOf zclX0 rfl (by decide) rfl rfl (Nat.le_of_ble_eq_true rfl) (Nat.le_of_ble_eq_true rfl) (hC.d hv).1 (ct_X0_meaningOf hC hv (show h < 50 by omega)) (zone_r ?_) zone_x (Nat.le_refl _)
    exact zq_iret K dX2_byTree_13 rfl ⟨rfl, rfl⟩
  · exact absurd ⟨h, hh, rfl⟩ hh9
theorem ct_X2_links_bad {G : ZG} {M : ZM} {W : Nat → Nat → Nat} {B : ZA} (hC : zC M W B) {F : Nat} (hf : B.1 9 = nI F) (hF30 : F ≤ 30) {f : Int32} (h : ¬ zFn F f) : zMet G mX2_links [.ref (W 10 0), .int (f)] M (zthr zIOB M) := by
  refine zbody zyX2_links [some (.ref (W 10 0)), some (.int (f))] rfl (Nat.le_of_ble_eq_true rfl) (by intro v hv; simp only [List.mem_cons, List.not_mem_nil, or_false] at hv; rcases hv with rfl | rfl <;> rfl) (fun E K => ?_)
  refine zq_aload_n K dX2_links_0 rfl rfl ?_
  refine zq_iload_n K dX2_links_1 rfl rfl ?_
  refine zq_callV (As := [.int (f)]) K dX2_links_2 zyX2_needFile zm_X2_87 ziX2_needFile zvX2_needFile zclX2 rfl (by decide) rfl rfl (Nat.le_of_ble_eq_true rfl) (Nat.le_of_ble_eq_true rfl) hC.x.1 (ct_X2_needFile hC hf hF30 f) (znd_r (fun hff => ?_)) (znd_x (fun hff => ?_)) (Nat.le_refl _)
  · exact absurd hff h
  · exact zx_out K ⟨rfl, rfl⟩
theorem ct_X2_links_ok {G : ZG} {M : ZM} {W : Nat → Nat → Nat} {B : ZA} (hC : zC M W B) {F : Nat} (hf : B.1 9 = nI F) (hF30 : F ≤ 30) {f : Int32} (h : zFn F f) : zMet G mX2_links [.ref (W 10 0), .int (f)] M (zone (some (.int (nI (zsm (zkl B f) 12)))) M) := by
  refine zbody zyX2_links [some (.ref (W 10 0)), some (.int (f))] rfl (Nat.le_of_ble_eq_true rfl) (by intro v hv; simp only [List.mem_cons, List.not_mem_nil, or_false] at hv; rcases hv with rfl | rfl <;> rfl) (fun E K => ?_)
  refine zq_aload_n K dX2_links_0 rfl rfl ?_
  refine zq_iload_n K dX2_links_1 rfl rfl ?_
  refine zq_callV (As := [.int (f)]) K dX2_links_2 zyX2_needFile zm_X2_87 ziX2_needFile zvX2_needFile zclX2 rfl (by decide) rfl rfl (Nat.le_of_ble_eq_true rfl) (Nat.le_of_ble_eq_true rfl) hC.x.1 (ct_X2_needFile hC hf hF30 f) (znd_r (fun hff => ?_)) (znd_x (fun hff => ?_)) (Nat.le_refl _)
  · refine zq_aload_n K dX2_links_5 rfl rfl ?_
    refine zq_iload_n K dX2_links_6 rfl rfl ?_
    refine zq_callV (As := [.int (f)]) K dX2_links_7 zyX2_countLinks zm_X2_90 ziX2_countLinks zvX2_countLinks zclX2 rfl (by decide) rfl rfl (Nat.le_of_ble_eq_true rfl) (Nat.le_of_ble_eq_true rfl) hC.x.1 (ct_X2_countLinks hC f) (zone_r ?_) zone_x (Nat.le_refl _)
    exact zq_iret K dX2_links_10 rfl ⟨rfl, rfl⟩
  · exact absurd h hff
theorem ct_X2_anchor_bad {G : ZG} {M : ZM} {W : Nat → Nat → Nat} {B : ZA} (hC : zC M W B) {F : Nat} (hf : B.1 9 = nI F) (hF30 : F ≤ 30) {f : Int32} (h : ¬ zFn F f) : zMet G mX2_anchor [.ref (W 10 0), .int (f)] M (zthr zIOB M) := by
  refine zbody zyX2_anchor [some (.ref (W 10 0)), some (.int (f)), none, none, none, none, none] rfl (Nat.le_of_ble_eq_true rfl) (by intro v hv; simp only [List.mem_cons, List.not_mem_nil, or_false] at hv; rcases hv with rfl | rfl <;> rfl) (fun E K => ?_)
  refine zq_aload_n K dX2_anchor_0 rfl rfl ?_
  refine zq_iload_n K dX2_anchor_1 rfl rfl ?_
  refine zq_callV (As := [.int (f)]) K dX2_anchor_2 zyX2_needFile zm_X2_87 ziX2_needFile zvX2_needFile zclX2 rfl (by decide) rfl rfl (Nat.le_of_ble_eq_true rfl) (Nat.le_of_ble_eq_true rfl) hC.x.1 (ct_X2_needFile hC hf hF30 f) (znd_r (fun hff => ?_)) (znd_x (fun hff => ?_)) (Nat.le_refl _)
  · exact absurd hff h
  · exact zx_out K ⟨rfl, rfl⟩
/-- the oldest of the first k directories: its place and its age -/
def zac (B : ZA) (f : Int32) : Nat → Option (Nat × Int32)
  | 0 => none
  | k + 1 => if B.2 3 k = 1 then (match zOl B k f 50 with
      | none => zac B f k
      | some n => match zac B f k with
        | none => some (100 * k + n, B.2 7 (50 * k + n))
        | some p => if p.2 ≤ B.2 7 (50 * k + n) then some p else some (100 * k + n, B.2 7 (50 * k + n))) else zac B f k
def za1 : Option (Nat × Int32) → Int32
  | none => -1
  | some p => nI p.1
def za2 : Option (Nat × Int32) → Int32
  | none => nI 0
  | some p => p.2
theorem zac_lt {B : ZA} {f : Int32} : ∀ {k : Nat} {p : Nat × Int32}, zac B f k = some p → p.1 < 100 * k
  | 0, _, h => nomatch h
  | k + 1, p, h => by
    unfold zac at h
    split at h
    · split at h
      · have := zac_lt h
        omega
      · rename_i n e
        have hn := zOl_lt e
        split at h
        · cases h
          show 100 * k + n < _
          omega
        · rename_i p' e'
          have := zac_lt e'
          split at h <;> cases h
          · omega
          · show 100 * k + n < _
            omega
    · have := zac_lt h
      omega
theorem lp_X2_anchor {G : ZG} {E : ZE} (K : zOK mX2_anchor [] G E) {M : ZM} {W : Nat → Nat → Nat} {B : ZA} (hC : zC M W B) {f : Int32} {P : ZO → ZM → Prop} (hP : P (.inl (some (.int (za1 (zac B f 12))))) M) : ∀ (m k : Nat) (o5 o6 : Option Value), k + m = 12 → WW E G (zyu mX2_anchor) (zQ E G mX2_anchor P) M 0 12 [some (.ref (W 10 0)), some (.int f), some (.int (za1 (zac B f k))), some (.int (za2 (zac B f k))), some (.int (nI (k))), o5, o6] [] := by
  intro m
  induction m with
  | zero =>
    intro k o5 o6 hk
    have hk4 : k = 12 := by omega
    subst hk4
    refine zq_iload K dX2_anchor_12 rfl ?_
    refine zq_aload_n K dX2_anchor_14 rfl rfl ?_
    refine zq_getRs K dX2_anchor_15 zclX2 (k := 0) (by decide) zf_X2_11 rfl hC.x.1 hC.x.2.1.1 ?_
    refine zq_alen K dX2_anchor_18 hC.dirs.1 (by decide) ?_
    refine zq_top (v := nI 12) (congrArg nI hC.dirs.2.1) ?_
    refine zq_icmp_geN K (x := 12) (y := 12) 90 dX2_anchor_19 (by decide) ⟨by omega, by omega⟩ (fun h19 => ?_) (fun h19 => by omega)
    refine zq_iload_n K dX2_anchor_90 rfl rfl ?_
    exact zq_iret K dX2_anchor_91 rfl hP
  | succ m ih =>
    intro k o5 o6 hk
    have h99 : ∀ (z y : Int32) (o5 o6 : Option Value), za1 (zac B f (k + 1)) = z → za2 (zac B f (k + 1)) = y → WW E G (zyu mX2_anchor) (zQ E G mX2_anchor P) M 0 12 [some (.ref (W 10 0)), some (.int f), some (.int (z)), some (.int (y)), some (.int (nI (k + 1))), o5, o6] [] := by
      intro z y o5 o6 e1 e2
      subst e1
      subst e2
      exact ih (k + 1) o5 o6 (by omega)
    by_cases hl : B.2 3 k = 1
    rotate_left
    · refine zq_iload K dX2_anchor_12 rfl ?_
      refine zq_aload_n K dX2_anchor_14 rfl rfl ?_
      refine zq_getRs K dX2_anchor_15 zclX2 (k := 0) (by decide) zf_X2_11 rfl hC.x.1 hC.x.2.1.1 ?_
      refine zq_alen K dX2_anchor_18 hC.dirs.1 (by decide) ?_
      refine zq_top (v := nI 12) (congrArg nI hC.dirs.2.1) ?_
      refine zq_icmp_geN K (x := k) (y := 12) 90 dX2_anchor_19 (by decide) ⟨by omega, by omega⟩ (fun h19 => by omega) (fun h19 => ?_)
      refine zq_aload_n K dX2_anchor_22 rfl rfl ?_
      refine zq_getRs K dX2_anchor_23 zclX2 (k := 0) (by decide) zf_X2_11 rfl hC.x.1 hC.x.2.1.1 ?_
      refine zq_iload K dX2_anchor_26 rfl ?_
      refine zc_ad0 K (d := k) dX2_anchor_28 hC (show k < 12 by omega) hl rfl ?_
      refine zq_astoreN K dX2_anchor_29 (by decide) ?_
      refine zq_aloadN K dX2_anchor_31 rfl ?_
      refine zq_ifnull_n K 84 dX2_anchor_33 (by decide) ?_
      refine zq_iincN K dX2_anchor_84 rfl (by decide) ?_
      refine zq_goto K 12 dX2_anchor_87 (by decide) ?_
      exact h99 _ _ _ _ (by rw [zac, if_neg hl]) (by rw [zac, if_neg hl])
    have hv : zVal B 3 k := ⟨by omega, hl⟩
    rcases e9 : zOl B k f 50 with _ | n
    · refine zq_iload K dX2_anchor_12 rfl ?_
      refine zq_aload_n K dX2_anchor_14 rfl rfl ?_
      refine zq_getRs K dX2_anchor_15 zclX2 (k := 0) (by decide) zf_X2_11 rfl hC.x.1 hC.x.2.1.1 ?_
      refine zq_alen K dX2_anchor_18 hC.dirs.1 (by decide) ?_
      refine zq_top (v := nI 12) (congrArg nI hC.dirs.2.1) ?_
      refine zq_icmp_geN K (x := k) (y := 12) 90 dX2_anchor_19 (by decide) ⟨by omega, by omega⟩ (fun h19 => by omega) (fun h19 => ?_)
      refine zq_aload_n K dX2_anchor_22 rfl rfl ?_
      refine zq_getRs K dX2_anchor_23 zclX2 (k := 0) (by decide) zf_X2_11 rfl hC.x.1 hC.x.2.1.1 ?_
      refine zq_iload K dX2_anchor_26 rfl ?_
      refine zc_ad1 K (d := k) dX2_anchor_28 hC hv rfl ?_
      refine zq_astore K dX2_anchor_29 (by decide) ?_
      refine zq_aload K dX2_anchor_31 rfl ?_
      refine zq_ifnull_r K dX2_anchor_33 ?_
      refine zq_aload K dX2_anchor_36 rfl ?_
      refine zq_iload_n K dX2_anchor_38 rfl rfl ?_
      refine zq_callV (As := [.int (f)]) K dX2_anchor_39 zyX0_oldestLink zm_X2_222 ziX0_oldestLink zvX0_oldestLink zclX0 rfl (by decide) rfl rfl (Nat.le_of_ble_eq_true rfl) (Nat.le_of_ble_eq_true rfl) (hC.d hv).1 (show zMet G mX0_oldestLink [.ref (W 3 k), .int f] M (zone (some (.int (nI 50))) M) from by have := ct_X0_oldestLink (G := G) hC hv f; rwa [e9] at this) (zone_r ?_) zone_x (Nat.le_refl _)
      refine zq_istore K dX2_anchor_42 (by decide) ?_
      refine zq_iload K dX2_anchor_44 rfl ?_
      refine zq_bipush K dX2_anchor_46 (v := nI 50) (by decide) ?_
      refine zq_icmp_geN K (x := 50) (y := 50) 84 dX2_anchor_48 (by decide) ⟨by omega, by omega⟩ (fun h48 => ?_) (fun h48 => by omega)
      refine zq_iincN K dX2_anchor_84 rfl (by decide) ?_
      refine zq_goto K 12 dX2_anchor_87 (by decide) ?_
      exact h99 _ _ _ _ (by rw [zac, if_pos hl, e9]) (by rw [zac, if_pos hl, e9])
    · have hn := zOl_lt e9
      rcases e8 : zac B f k with _ | p
      · refine zq_iload K dX2_anchor_12 rfl ?_
        refine zq_aload_n K dX2_anchor_14 rfl rfl ?_
        refine zq_getRs K dX2_anchor_15 zclX2 (k := 0) (by decide) zf_X2_11 rfl hC.x.1 hC.x.2.1.1 ?_
        refine zq_alen K dX2_anchor_18 hC.dirs.1 (by decide) ?_
        refine zq_top (v := nI 12) (congrArg nI hC.dirs.2.1) ?_
        refine zq_icmp_geN K (x := k) (y := 12) 90 dX2_anchor_19 (by decide) ⟨by omega, by omega⟩ (fun h19 => by omega) (fun h19 => ?_)
        refine zq_aload_n K dX2_anchor_22 rfl rfl ?_
        refine zq_getRs K dX2_anchor_23 zclX2 (k := 0) (by decide) zf_X2_11 rfl hC.x.1 hC.x.2.1.1 ?_
        refine zq_iload K dX2_anchor_26 rfl ?_
        refine zc_ad1 K (d := k) dX2_anchor_28 hC hv rfl ?_
        refine zq_astore K dX2_anchor_29 (by decide) ?_
        refine zq_aload K dX2_anchor_31 rfl ?_
        refine zq_ifnull_r K dX2_anchor_33 ?_
        refine zq_aload K dX2_anchor_36 rfl ?_
        refine zq_iload_n K dX2_anchor_38 rfl rfl ?_
        refine zq_callV (As := [.int (f)]) K dX2_anchor_39 zyX0_oldestLink zm_X2_222 ziX0_oldestLink zvX0_oldestLink zclX0 rfl (by decide) rfl rfl (Nat.le_of_ble_eq_true rfl) (Nat.le_of_ble_eq_true rfl) (hC.d hv).1 (show zMet G mX0_oldestLink [.ref (W 3 k), .int f] M (zone (some (.int (nI n))) M) from by have := ct_X0_oldestLink (G := G) hC hv f; rwa [e9] at this) (zone_r ?_) zone_x (Nat.le_refl _)
        refine zq_istore K dX2_anchor_42 (by decide) ?_
        refine zq_iload K dX2_anchor_44 rfl ?_
        refine zq_bipush K dX2_anchor_46 (v := nI 50) (by decide) ?_
        refine zq_icmp_geN K (x := n) (y := 50) 84 dX2_anchor_48 (by decide) ⟨by omega, by omega⟩ (fun h48 => by omega) (fun h48 => ?_)
        refine zq_iload_n K dX2_anchor_51 rfl rfl ?_
        refine zq_iconst K dX2_anchor_52 (v := -1) (by decide) ?_
        refine zq_icmp_eq K 67 dX2_anchor_53 (by decide) (fun h53 => ?_) (fun h53 => absurd rfl h53)
        refine zq_bipush K dX2_anchor_67 (v := nI 100) (by decide) ?_
        refine zq_iload K dX2_anchor_69 rfl ?_
        refine zq_imulN K (x := 100) (y := k) dX2_anchor_71 ?_
        refine zq_iload K dX2_anchor_72 rfl ?_
        refine zq_iaddN K (x := (100) * (k)) (y := n) dX2_anchor_74 ?_
        refine zq_istore_n K dX2_anchor_75 rfl (by decide) ?_
        refine zq_aload K dX2_anchor_76 rfl ?_
        refine zq_iload K dX2_anchor_78 rfl ?_
        refine zq_callV (As := [.int (nI (n))]) K dX2_anchor_80 zyX0_ageOf zm_X2_120 ziX0_ageOf zvX0_ageOf zclX0 rfl (by decide) rfl rfl (Nat.le_of_ble_eq_true rfl) (Nat.le_of_ble_eq_true rfl) (hC.d hv).1 (ct_X0_ageOf hC hv hn) (zone_r ?_) zone_x (Nat.le_refl _)
        refine zq_istore_n K dX2_anchor_83 rfl (by decide) ?_
        refine zq_iincN K dX2_anchor_84 rfl (by decide) ?_
        refine zq_goto K 12 dX2_anchor_87 (by decide) ?_
        exact h99 _ _ _ _ (by rw [zac, if_pos hl, e9]; dsimp only; rw [e8]; rfl) (by rw [zac, if_pos hl, e9]; dsimp only; rw [e8]; rfl)
      · refine zq_iload K dX2_anchor_12 rfl ?_
        refine zq_aload_n K dX2_anchor_14 rfl rfl ?_
        refine zq_getRs K dX2_anchor_15 zclX2 (k := 0) (by decide) zf_X2_11 rfl hC.x.1 hC.x.2.1.1 ?_
        refine zq_alen K dX2_anchor_18 hC.dirs.1 (by decide) ?_
        refine zq_top (v := nI 12) (congrArg nI hC.dirs.2.1) ?_
        refine zq_icmp_geN K (x := k) (y := 12) 90 dX2_anchor_19 (by decide) ⟨by omega, by omega⟩ (fun h19 => by omega) (fun h19 => ?_)
        refine zq_aload_n K dX2_anchor_22 rfl rfl ?_
        refine zq_getRs K dX2_anchor_23 zclX2 (k := 0) (by decide) zf_X2_11 rfl hC.x.1 hC.x.2.1.1 ?_
        refine zq_iload K dX2_anchor_26 rfl ?_
        refine zc_ad1 K (d := k) dX2_anchor_28 hC hv rfl ?_
        refine zq_astore K dX2_anchor_29 (by decide) ?_
        refine zq_aload K dX2_anchor_31 rfl ?_
        refine zq_ifnull_r K dX2_anchor_33 ?_
        refine zq_aload K dX2_anchor_36 rfl ?_
        refine zq_iload_n K dX2_anchor_38 rfl rfl ?_
        refine zq_callV (As := [.int (f)]) K dX2_anchor_39 zyX0_oldestLink zm_X2_222 ziX0_oldestLink zvX0_oldestLink zclX0 rfl (by decide) rfl rfl (Nat.le_of_ble_eq_true rfl) (Nat.le_of_ble_eq_true rfl) (hC.d hv).1 (show zMet G mX0_oldestLink [.ref (W 3 k), .int f] M (zone (some (.int (nI n))) M) from by have := ct_X0_oldestLink (G := G) hC hv f; rwa [e9] at this) (zone_r ?_) zone_x (Nat.le_refl _)
        refine zq_istore K dX2_anchor_42 (by decide) ?_
        refine zq_iload K dX2_anchor_44 rfl ?_
        refine zq_bipush K dX2_anchor_46 (v := nI 50) (by decide) ?_
        refine zq_icmp_geN K (x := n) (y := 50) 84 dX2_anchor_48 (by decide) ⟨by omega, by omega⟩ (fun h48 => by omega) (fun h48 => ?_)
        refine zq_iload_n K dX2_anchor_51 rfl rfl ?_
        refine zq_iconst K dX2_anchor_52 (v := -1) (by decide) ?_
        refine zq_icmp_eq K 67 dX2_anchor_53 (by decide) (fun h53 => absurd h53 (nI_ne1 (by have := zac_lt e8; omega))) (fun h53 => ?_)
        refine zq_aload K dX2_anchor_56 rfl ?_
        refine zq_iload K dX2_anchor_58 rfl ?_
        refine zq_callV (As := [.int (nI (n))]) K dX2_anchor_60 zyX0_ageOf zm_X2_120 ziX0_ageOf zvX0_ageOf zclX0 rfl (by decide) rfl rfl (Nat.le_of_ble_eq_true rfl) (Nat.le_of_ble_eq_true rfl) (hC.d hv).1 (ct_X0_ageOf hC hv hn) (zone_r ?_) zone_x (Nat.le_refl _)
        refine zq_iload_n K dX2_anchor_63 rfl rfl ?_
        refine zq_icmp_ge K 84 dX2_anchor_64 (by decide) (fun h64 => ?_) (fun h64 => ?_)
        · refine zq_iincN K dX2_anchor_84 rfl (by decide) ?_
          refine zq_goto K 12 dX2_anchor_87 (by decide) ?_
          exact h99 _ _ _ _ (by rw [zac, if_pos hl, e9]; dsimp only; rw [e8]; dsimp only; rw [if_pos (show p.2 ≤ B.2 7 (50 * k + n) from h64)]) (by rw [zac, if_pos hl, e9]; dsimp only; rw [e8]; dsimp only; rw [if_pos (show p.2 ≤ B.2 7 (50 * k + n) from h64)])
        · refine zq_bipush K dX2_anchor_67 (v := nI 100) (by decide) ?_
          refine zq_iload K dX2_anchor_69 rfl ?_
          refine zq_imulN K (x := 100) (y := k) dX2_anchor_71 ?_
          refine zq_iload K dX2_anchor_72 rfl ?_
          refine zq_iaddN K (x := (100) * (k)) (y := n) dX2_anchor_74 ?_
          refine zq_istore_n K dX2_anchor_75 rfl (by decide) ?_
          refine zq_aload K dX2_anchor_76 rfl ?_
          refine zq_iload K dX2_anchor_78 rfl ?_
          refine zq_callV (As := [.int (nI (n))]) K dX2_anchor_80 zyX0_ageOf zm_X2_120 ziX0_ageOf zvX0_ageOf zclX0 rfl (by decide) rfl rfl (Nat.le_of_ble_eq_true rfl) (Nat.le_of_ble_eq_true rfl) (hC.d hv).1 (ct_X0_ageOf hC hv hn) (zone_r ?_) zone_x (Nat.le_refl _)
          refine zq_istore_n K dX2_anchor_83 rfl (by decide) ?_
          refine zq_iincN K dX2_anchor_84 rfl (by decide) ?_
          refine zq_goto K 12 dX2_anchor_87 (by decide) ?_
          exact h99 _ _ _ _ (by rw [zac, if_pos hl, e9]; dsimp only; rw [e8]; dsimp only; rw [if_neg (show ¬ p.2 ≤ B.2 7 (50 * k + n) from h64)]; rfl) (by rw [zac, if_pos hl, e9]; dsimp only; rw [e8]; dsimp only; rw [if_neg (show ¬ p.2 ≤ B.2 7 (50 * k + n) from h64)]; rfl)
theorem ct_X2_anchor_ok {G : ZG} {M : ZM} {W : Nat → Nat → Nat} {B : ZA} (hC : zC M W B) {F : Nat} (hf : B.1 9 = nI F) (hF30 : F ≤ 30) {f : Int32} (h : zFn F f) : zMet G mX2_anchor [.ref (W 10 0), .int (f)] M (zone (some (.int (za1 (zac B f 12)))) M) := by
  refine zbody zyX2_anchor [some (.ref (W 10 0)), some (.int (f)), none, none, none, none, none] rfl (Nat.le_of_ble_eq_true rfl) (by intro v hv; simp only [List.mem_cons, List.not_mem_nil, or_false] at hv; rcases hv with rfl | rfl <;> rfl) (fun E K => ?_)
  refine zq_aload_n K dX2_anchor_0 rfl rfl ?_
  refine zq_iload_n K dX2_anchor_1 rfl rfl ?_
  refine zq_callV (As := [.int (f)]) K dX2_anchor_2 zyX2_needFile zm_X2_87 ziX2_needFile zvX2_needFile zclX2 rfl (by decide) rfl rfl (Nat.le_of_ble_eq_true rfl) (Nat.le_of_ble_eq_true rfl) hC.x.1 (ct_X2_needFile hC hf hF30 f) (znd_r (fun hff => ?_)) (znd_x (fun hff => ?_)) (Nat.le_refl _)
  · refine zq_iconst K dX2_anchor_5 (v := -1) (by decide) ?_
    refine zq_istore_n K dX2_anchor_6 rfl (by decide) ?_
    refine zq_iconst K dX2_anchor_7 (v := nI 0) (by decide) ?_
    refine zq_istore_n K dX2_anchor_8 rfl (by decide) ?_
    refine zq_iconst K dX2_anchor_9 (v := nI 0) (by decide) ?_
    refine zq_istore K dX2_anchor_10 (by decide) ?_
    exact lp_X2_anchor K hC ⟨rfl, rfl⟩ 12 0 none none rfl
  · exact absurd h hff


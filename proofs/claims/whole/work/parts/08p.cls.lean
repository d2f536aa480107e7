/-! the class: fragments and servers asked -/
theorem ct_X2_fragments_bad {G : ZG} {M : ZM} {W : Nat → Nat → Nat} {B : ZA} (hC : zC M W B) {d : Int32} (h : ¬ zIsD B d) : zMet G mX2_fragments [.ref (W 10 0), .int (d)] M (zthr zIOB M) := by
  refine zbody zyX2_fragments [some (.ref (W 10 0)), some (.int (d))] rfl (Nat.le_of_ble_eq_true rfl) (by intro v hv; simp only [List.mem_cons, List.not_mem_nil, or_false] at hv; rcases hv with rfl | rfl <;> rfl) (fun E K => ?_)
  refine zq_aload_n K dX2_fragments_0 rfl rfl ?_
  refine zq_iload_n K dX2_fragments_1 rfl rfl ?_
  refine zq_callV (As := [.int (d)]) K dX2_fragments_2 zyX2_needDirectory zm_X2_36 ziX2_needDirectory zvX2_needDirectory zclX2 rfl (by decide) rfl rfl (Nat.le_of_ble_eq_true rfl) (Nat.le_of_ble_eq_true rfl) hC.x.1 (ct_X2_needDirectory_0 hC h) zthr_r (zthr_x ?_) (Nat.le_refl _)
  exact zx_out K ⟨rfl, rfl⟩
theorem ct_X2_size_bad {G : ZG} {M : ZM} {W : Nat → Nat → Nat} {B : ZA} (hC : zC M W B) {d : Int32} (h : ¬ zIsD B d) : zMet G mX2_size [.ref (W 10 0), .int (d)] M (zthr zIOB M) := by
  refine zbody zyX2_size [some (.ref (W 10 0)), some (.int (d))] rfl (Nat.le_of_ble_eq_true rfl) (by intro v hv; simp only [List.mem_cons, List.not_mem_nil, or_false] at hv; rcases hv with rfl | rfl <;> rfl) (fun E K => ?_)
  refine zq_aload_n K dX2_size_0 rfl rfl ?_
  refine zq_iload_n K dX2_size_1 rfl rfl ?_
  refine zq_callV (As := [.int (d)]) K dX2_size_2 zyX2_needDirectory zm_X2_36 ziX2_needDirectory zvX2_needDirectory zclX2 rfl (by decide) rfl rfl (Nat.le_of_ble_eq_true rfl) (Nat.le_of_ble_eq_true rfl) hC.x.1 (ct_X2_needDirectory_0 hC h) zthr_r (zthr_x ?_) (Nat.le_refl _)
  exact zx_out K ⟨rfl, rfl⟩
theorem ct_X2_fragments_ok {G : ZG} {M : ZM} {W : Nat → Nat → Nat} {B : ZA} (hC : zC M W B) {d : Nat} (hv : zVal B 3 d) (hF : zFr B) : zMet G mX2_fragments [.ref (W 10 0), .int (nI (d))] M (zone (some (.int (nI (zcN (zpz B d) 8)))) M) := by
  refine zbody zyX2_fragments [some (.ref (W 10 0)), some (.int (nI (d)))] rfl (Nat.le_of_ble_eq_true rfl) (by intro v hv; simp only [List.mem_cons, List.not_mem_nil, or_false] at hv; rcases hv with rfl | rfl <;> rfl) (fun E K => ?_)
  refine zq_aload_n K dX2_fragments_0 rfl rfl ?_
  refine zq_iload_n K dX2_fragments_1 rfl rfl ?_
  refine zq_callV (As := [.int (nI (d))]) K dX2_fragments_2 zyX2_needDirectory zm_X2_36 ziX2_needDirectory zvX2_needDirectory zclX2 rfl (by decide) rfl rfl (Nat.le_of_ble_eq_true rfl) (Nat.le_of_ble_eq_true rfl) hC.x.1 (ct_X2_needDirectory_1 hC hv) (zone_r ?_) zone_x (Nat.le_refl _)
  refine zq_callV (As := []) K dX2_fragments_5 zyX0_countFragments zm_X2_158 ziX0_countFragments zvX0_countFragments zclX0 rfl (by decide) rfl rfl (Nat.le_of_ble_eq_true rfl) (Nat.le_of_ble_eq_true rfl) (hC.d hv).1 (ct_X0_countFragments hC hv hF) (zone_r ?_) zone_x (Nat.le_refl _)
  exact zq_iret K dX2_fragments_8 rfl ⟨rfl, rfl⟩
theorem ct_X2_size_ok {G : ZG} {M : ZM} {W : Nat → Nat → Nat} {B : ZA} (hC : zC M W B) {d : Nat} (hv : zVal B 3 d) : zMet G mX2_size [.ref (W 10 0), .int (nI (d))] M (zone (some (.int (nI (zcN (zpu B d) 50)))) M) := by
  refine zbody zyX2_size [some (.ref (W 10 0)), some (.int (nI (d)))] rfl (Nat.le_of_ble_eq_true rfl) (by intro v hv; simp only [List.mem_cons, List.not_mem_nil, or_false] at hv; rcases hv with rfl | rfl <;> rfl) (fun E K => ?_)
  refine zq_aload_n K dX2_size_0 rfl rfl ?_
  refine zq_iload_n K dX2_size_1 rfl rfl ?_
  refine zq_callV (As := [.int (nI (d))]) K dX2_size_2 zyX2_needDirectory zm_X2_36 ziX2_needDirectory zvX2_needDirectory zclX2 rfl (by decide) rfl rfl (Nat.le_of_ble_eq_true rfl) (Nat.le_of_ble_eq_true rfl) hC.x.1 (ct_X2_needDirectory_1 hC hv) (zone_r ?_) zone_x (Nat.le_refl _)
  refine zq_callV (As := []) K dX2_size_5 zyX0_countTaken zm_X2_225 ziX0_countTaken zvX0_countTaken zclX0 rfl (by decide) rfl rfl (Nat.le_of_ble_eq_true rfl) (Nat.le_of_ble_eq_true rfl) (hC.d hv).1 (ct_X0_countTaken hC hv) (zone_r ?_) zone_x (Nat.le_refl _)
  exact zq_iret K dX2_size_8 rfl ⟨rfl, rfl⟩
theorem ct_X2_serverOf_bad {G : ZG} {M : ZM} {W : Nat → Nat → Nat} {B : ZA} (hC : zC M W B) {d h : Int32} {k : Nat} (hk : zBh B 49 d h k) : zMet G mX2_serverOf [.ref (W 10 0), .int (d), .int (h)] M (zthr (zen k) M) := by
  refine zbody zyX2_serverOf [some (.ref (W 10 0)), some (.int (d)), some (.int (h))] rfl (Nat.le_of_ble_eq_true rfl) (by intro v hv; simp only [List.mem_cons, List.not_mem_nil, or_false] at hv; rcases hv with rfl | rfl | rfl <;> rfl) (fun E K => ?_)
  refine zq_iload_n K dX2_serverOf_0 rfl rfl ?_
  refine zq_callS (As := [.int (h)]) K dX2_serverOf_1 zyX2_needName zm_X2_33 zsX2_needName rfl (by decide) rfl rfl (Nat.le_of_ble_eq_true rfl) (Nat.le_of_ble_eq_true rfl) (ct_X2_needName h M) (znd_r (fun hh => ?_)) (znd_x (fun hh => ?_)) (Nat.le_refl _)
  · refine zq_aload_n K dX2_serverOf_4 rfl rfl ?_
    refine zq_aload_n K dX2_serverOf_5 rfl rfl ?_
    refine zq_iload_n K dX2_serverOf_6 rfl rfl ?_
    obtain ⟨rfl, hnd⟩ : k = 2 ∧ ¬ zIsD B d := by
      rcases hk with ⟨-, h1⟩ | ⟨e, -, h1⟩
      · exact absurd hh h1
      · exact ⟨e, h1⟩
    refine zq_callV (As := [.int (d)]) K dX2_serverOf_7 zyX2_needDirectory zm_X2_36 ziX2_needDirectory zvX2_needDirectory zclX2 rfl (by decide) rfl rfl (Nat.le_of_ble_eq_true rfl) (Nat.le_of_ble_eq_true rfl) hC.x.1 (ct_X2_needDirectory_0 hC hnd) zthr_r (zthr_x ?_) (Nat.le_refl _)
    exact zx_out K ⟨rfl, rfl⟩
  · rcases hk with ⟨rfl, -⟩ | ⟨-, h1, -⟩
    · exact zx_out K ⟨rfl, rfl⟩
    · exact absurd h1 hh
theorem ct_X2_ownerOf_bad {G : ZG} {M : ZM} {W : Nat → Nat → Nat} {B : ZA} (hC : zC M W B) {d h : Int32} {k : Nat} (hk : zBh B 7 d h k) : zMet G mX2_ownerOf [.ref (W 10 0), .int (d), .int (h)] M (zthr (zen k) M) := by
  refine zbody zyX2_ownerOf [some (.ref (W 10 0)), some (.int (d)), some (.int (h))] rfl (Nat.le_of_ble_eq_true rfl) (by intro v hv; simp only [List.mem_cons, List.not_mem_nil, or_false] at hv; rcases hv with rfl | rfl | rfl <;> rfl) (fun E K => ?_)
  refine zq_iload_n K dX2_ownerOf_0 rfl rfl ?_
  refine zq_callS (As := [.int (h)]) K dX2_ownerOf_1 zyX2_needHash zm_X2_139 zsX2_needHash rfl (by decide) rfl rfl (Nat.le_of_ble_eq_true rfl) (Nat.le_of_ble_eq_true rfl) (ct_X2_needHash h M) (znd_r (fun hh => ?_)) (znd_x (fun hh => ?_)) (Nat.le_refl _)
  · refine zq_aload_n K dX2_ownerOf_4 rfl rfl ?_
    refine zq_iload_n K dX2_ownerOf_5 rfl rfl ?_
    obtain ⟨rfl, hnd⟩ : k = 2 ∧ ¬ zIsD B d := by
      rcases hk with ⟨-, h1⟩ | ⟨e, -, h1⟩
      · exact absurd hh h1
      · exact ⟨e, h1⟩
    refine zq_callV (As := [.int (d)]) K dX2_ownerOf_6 zyX2_needDirectory zm_X2_36 ziX2_needDirectory zvX2_needDirectory zclX2 rfl (by decide) rfl rfl (Nat.le_of_ble_eq_true rfl) (Nat.le_of_ble_eq_true rfl) hC.x.1 (ct_X2_needDirectory_0 hC hnd) zthr_r (zthr_x ?_) (Nat.le_refl _)
    exact zx_out K ⟨rfl, rfl⟩
  · rcases hk with ⟨rfl, -⟩ | ⟨-, h1, -⟩
    · exact zx_out K ⟨rfl, rfl⟩
    · exact absurd h1 hh
theorem ct_X2_isFrozen_bad {G : ZG} {M : ZM} {W : Nat → Nat → Nat} {B : ZA} (hC : zC M W B) {d h : Int32} {k : Nat} (hk : zBh B 49 d h k) : zMet G mX2_isFrozen [.ref (W 10 0), .int (d), .int (h)] M (zthr (zen k) M) := by
  refine zbody zyX2_isFrozen [some (.ref (W 10 0)), some (.int (d)), some (.int (h))] rfl (Nat.le_of_ble_eq_true rfl) (by intro v hv; simp only [List.mem_cons, List.not_mem_nil, or_false] at hv; rcases hv with rfl | rfl | rfl <;> rfl) (fun E K => ?_)
  refine zq_iload_n K dX2_isFrozen_0 rfl rfl ?_
  refine zq_callS (As := [.int (h)]) K dX2_isFrozen_1 zyX2_needName zm_X2_33 zsX2_needName rfl (by decide) rfl rfl (Nat.le_of_ble_eq_true rfl) (Nat.le_of_ble_eq_true rfl) (ct_X2_needName h M) (znd_r (fun hh => ?_)) (znd_x (fun hh => ?_)) (Nat.le_refl _)
  · refine zq_aload_n K dX2_isFrozen_4 rfl rfl ?_
    refine zq_aload_n K dX2_isFrozen_5 rfl rfl ?_
    refine zq_iload_n K dX2_isFrozen_6 rfl rfl ?_
    obtain ⟨rfl, hnd⟩ : k = 2 ∧ ¬ zIsD B d := by
      rcases hk with ⟨-, h1⟩ | ⟨e, -, h1⟩
      · exact absurd hh h1
      · exact ⟨e, h1⟩
    refine zq_callV (As := [.int (d)]) K dX2_isFrozen_7 zyX2_needDirectory zm_X2_36 ziX2_needDirectory zvX2_needDirectory zclX2 rfl (by decide) rfl rfl (Nat.le_of_ble_eq_true rfl) (Nat.le_of_ble_eq_true rfl) hC.x.1 (ct_X2_needDirectory_0 hC hnd) zthr_r (zthr_x ?_) (Nat.le_refl _)
    exact zx_out K ⟨rfl, rfl⟩
  · rcases hk with ⟨rfl, -⟩ | ⟨-, h1, -⟩
    · exact zx_out K ⟨rfl, rfl⟩
    · exact absurd h1 hh
theorem ct_X2_byTree_bad {G : ZG} {M : ZM} {W : Nat → Nat → Nat} {B : ZA} (hC : zC M W B) {d h : Int32} {k : Nat} (hk : zBh B 49 d h k) : zMet G mX2_byTree [.ref (W 10 0), .int (d), .int (h)] M (zthr (zen k) M) := by
  refine zbody zyX2_byTree [some (.ref (W 10 0)), some (.int (d)), some (.int (h))] rfl (Nat.le_of_ble_eq_true rfl) (by intro v hv; simp only [List.mem_cons, List.not_mem_nil, or_false] at hv; rcases hv with rfl | rfl | rfl <;> rfl) (fun E K => ?_)
  refine zq_iload_n K dX2_byTree_0 rfl rfl ?_
  refine zq_callS (As := [.int (h)]) K dX2_byTree_1 zyX2_needName zm_X2_33 zsX2_needName rfl (by decide) rfl rfl (Nat.le_of_ble_eq_true rfl) (Nat.le_of_ble_eq_true rfl) (ct_X2_needName h M) (znd_r (fun hh => ?_)) (znd_x (fun hh => ?_)) (Nat.le_refl _)
  · refine zq_aload_n K dX2_byTree_4 rfl rfl ?_
    refine zq_iload_n K dX2_byTree_5 rfl rfl ?_
    obtain ⟨rfl, hnd⟩ : k = 2 ∧ ¬ zIsD B d := by
      rcases hk with ⟨-, h1⟩ | ⟨e, -, h1⟩
      · exact absurd hh h1
      · exact ⟨e, h1⟩
    refine zq_callV (As := [.int (d)]) K dX2_byTree_6 zyX2_needDirectory zm_X2_36 ziX2_needDirectory zvX2_needDirectory zclX2 rfl (by decide) rfl rfl (Nat.le_of_ble_eq_true rfl) (Nat.le_of_ble_eq_true rfl) hC.x.1 (ct_X2_needDirectory_0 hC hnd) zthr_r (zthr_x ?_) (Nat.le_refl _)
    exact zx_out K ⟨rfl, rfl⟩
  · rcases hk with ⟨rfl, -⟩ | ⟨-, h1, -⟩
    · exact zx_out K ⟨rfl, rfl⟩
    · exact absurd h1 hh
theorem ct_X2_split_bad {G : ZG} {M : ZM} {W : Nat → Nat → Nat} {B : ZA} (hC : zC M W B) {d h : Int32} {k : Nat} (hk : zBh B 7 d h k) : zMet G mX2_split [.ref (W 10 0), .int (d), .int (h)] M (zthr (zen k) M) := by
  refine zbody zyX2_split [some (.ref (W 10 0)), some (.int (d)), some (.int (h)), none, none] rfl (Nat.le_of_ble_eq_true rfl) (by intro v hv; simp only [List.mem_cons, List.not_mem_nil, or_false] at hv; rcases hv with rfl | rfl | rfl <;> rfl) (fun E K => ?_)
  refine zq_iload_n K dX2_split_0 rfl rfl ?_
  refine zq_callS (As := [.int (h)]) K dX2_split_1 zyX2_needHash zm_X2_139 zsX2_needHash rfl (by decide) rfl rfl (Nat.le_of_ble_eq_true rfl) (Nat.le_of_ble_eq_true rfl) (ct_X2_needHash h M) (znd_r (fun hh => ?_)) (znd_x (fun hh => ?_)) (Nat.le_refl _)
  · refine zq_aload_n K dX2_split_4 rfl rfl ?_
    refine zq_iload_n K dX2_split_5 rfl rfl ?_
    obtain ⟨rfl, hnd⟩ : k = 2 ∧ ¬ zIsD B d := by
      rcases hk with ⟨-, h1⟩ | ⟨e, -, h1⟩
      · exact absurd hh h1
      · exact ⟨e, h1⟩
    refine zq_callV (As := [.int (d)]) K dX2_split_6 zyX2_needDirectory zm_X2_36 ziX2_needDirectory zvX2_needDirectory zclX2 rfl (by decide) rfl rfl (Nat.le_of_ble_eq_true rfl) (Nat.le_of_ble_eq_true rfl) hC.x.1 (ct_X2_needDirectory_0 hC hnd) zthr_r (zthr_x ?_) (Nat.le_refl _)
    exact zx_out K ⟨rfl, rfl⟩
  · rcases hk with ⟨rfl, -⟩ | ⟨-, h1, -⟩
    · exact zx_out K ⟨rfl, rfl⟩
    · exact absurd h1 hh
theorem ct_X2_merge_bad {G : ZG} {M : ZM} {W : Nat → Nat → Nat} {B : ZA} (hC : zC M W B) {d h : Int32} {k : Nat} (hk : zBh B 7 d h k) : zMet G mX2_merge [.ref (W 10 0), .int (d), .int (h)] M (zthr (zen k) M) := by
  refine zbody zyX2_merge [some (.ref (W 10 0)), some (.int (d)), some (.int (h)), none, none, none] rfl (Nat.le_of_ble_eq_true rfl) (by intro v hv; simp only [List.mem_cons, List.not_mem_nil, or_false] at hv; rcases hv with rfl | rfl | rfl <;> rfl) (fun E K => ?_)
  refine zq_iload_n K dX2_merge_0 rfl rfl ?_
  refine zq_callS (As := [.int (h)]) K dX2_merge_1 zyX2_needHash zm_X2_139 zsX2_needHash rfl (by decide) rfl rfl (Nat.le_of_ble_eq_true rfl) (Nat.le_of_ble_eq_true rfl) (ct_X2_needHash h M) (znd_r (fun hh => ?_)) (znd_x (fun hh => ?_)) (Nat.le_refl _)
  · refine zq_aload_n K dX2_merge_4 rfl rfl ?_
    refine zq_iload_n K dX2_merge_5 rfl rfl ?_
    obtain ⟨rfl, hnd⟩ : k = 2 ∧ ¬ zIsD B d := by
      rcases hk with ⟨-, h1⟩ | ⟨e, -, h1⟩
      · exact absurd hh h1
      · exact ⟨e, h1⟩
    refine zq_callV (As := [.int (d)]) K dX2_merge_6 zyX2_needDirectory zm_X2_36 ziX2_needDirectory zvX2_needDirectory zclX2 rfl (by decide) rfl rfl (Nat.le_of_ble_eq_true rfl) (Nat.le_of_ble_eq_true rfl) hC.x.1 (ct_X2_needDirectory_0 hC hnd) zthr_r (zthr_x ?_) (Nat.le_refl _)
    exact zx_out K ⟨rfl, rfl⟩
  · rcases hk with ⟨rfl, -⟩ | ⟨-, h1, -⟩
    · exact zx_out K ⟨rfl, rfl⟩
    · exact absurd h1 hh
theorem ct_X2_serverOf_ok {G : ZG} {M : ZM} {W : Nat → Nat → Nat} {B : ZA} (hC : zC M W B) (hW : zWf B) {d h : Nat} (hv : zVal B 3 d) (hh : h ≤ 49) : zMet G mX2_serverOf [.ref (W 10 0), .int (nI (d)), .int (nI (h))] M (zone (some (.int (zsv B (zfn B d h)))) M) := by
  refine zbody zyX2_serverOf [some (.ref (W 10 0)), some (.int (nI (d))), some (.int (nI (h)))] rfl (Nat.le_of_ble_eq_true rfl) (by intro v hv; simp only [List.mem_cons, List.not_mem_nil, or_false] at hv; rcases hv with rfl | rfl | rfl <;> rfl) (fun E K => ?_)
  obtain ⟨⟨D, hB⟩, hF, hU⟩ := id hW
  have hS : zFm M W B M := zFm.rf
  refine zq_iload_n K dX2_serverOf_0 rfl rfl ?_
  refine zq_callS (As := [.int (nI (h))]) K dX2_serverOf_1 zyX2_needName zm_X2_33 zsX2_needName rfl (by decide) rfl rfl (Nat.le_of_ble_eq_true rfl) (Nat.le_of_ble_eq_true rfl) (ct_X2_needName (nI h) M) (znd_r (fun hh9 => ?_)) (znd_x (fun hh9 => ?_)) (Nat.le_refl _)
  · refine zq_aload_n K dX2_serverOf_4 rfl rfl ?_
    refine zq_aload_n K dX2_serverOf_5 rfl rfl ?_
    refine zq_iload_n K dX2_serverOf_6 rfl rfl ?_
    refine zq_callV (As := [.int (nI (d))]) K dX2_serverOf_7 zyX2_needDirectory zm_X2_36 ziX2_needDirectory zvX2_needDirectory zclX2 rfl (by decide) rfl rfl (Nat.le_of_ble_eq_true rfl) (Nat.le_of_ble_eq_true rfl) hC.x.1 (ct_X2_needDirectory_1 hC hv) (zone_r ?_) zone_x (Nat.le_refl _)
    refine zq_iload_n K dX2_serverOf_10 rfl rfl ?_
    refine zq_callV (As := [.int (nI (h))]) K dX2_serverOf_11 zyX0_fragmentOfName zm_X2_47 ziX0_fragmentOfName zvX0_fragmentOfName zclX0 rfl (by decide) rfl rfl (Nat.le_of_ble_eq_true rfl) (Nat.le_of_ble_eq_true rfl) (hC.d hv).1 (ct_X0_fragmentOfName hC hv (show h < 50 by omega)) (zone_r ?_) zone_x (Nat.le_refl _)
    refine zq_callV (As := [.ref (W 9 (zfn B d h))]) K dX2_serverOf_14 zyX2_serverOfFragment zm_X2_178 ziX2_serverOfFragment zvX2_serverOfFragment zclX2 rfl (by decide) rfl rfl (Nat.le_of_ble_eq_true rfl) (Nat.le_of_ble_eq_true rfl) hC.x.1 (ct_X2_serverOfFragment hC (zVal.nm hF hv (show h < 50 by omega)) hF hU) (zone_r ?_) zone_x (Nat.le_refl _)
    exact zq_iret K dX2_serverOf_17 rfl ⟨rfl, rfl⟩
  · exact absurd ⟨h, hh, rfl⟩ hh9
theorem ct_X2_ownerOf_ok {G : ZG} {M : ZM} {W : Nat → Nat → Nat} {B : ZA} (hC : zC M W B) (hW : zWf B) {d h : Nat} (hv : zVal B 3 d) (hh : h ≤ 7) : zMet G mX2_ownerOf [.ref (W 10 0), .int (nI (d)), .int (nI (h))] M (zone (some (.int (B.2 11 (8 * d + zfg (B.2 10) d h)))) M) := by
  refine zbody zyX2_ownerOf [some (.ref (W 10 0)), some (.int (nI (d))), some (.int (nI (h)))] rfl (Nat.le_of_ble_eq_true rfl) (by intro v hv; simp only [List.mem_cons, List.not_mem_nil, or_false] at hv; rcases hv with rfl | rfl | rfl <;> rfl) (fun E K => ?_)
  obtain ⟨⟨D, hB⟩, hF, hU⟩ := id hW
  have hS : zFm M W B M := zFm.rf
  refine zq_iload_n K dX2_ownerOf_0 rfl rfl ?_
  refine zq_callS (As := [.int (nI (h))]) K dX2_ownerOf_1 zyX2_needHash zm_X2_139 zsX2_needHash rfl (by decide) rfl rfl (Nat.le_of_ble_eq_true rfl) (Nat.le_of_ble_eq_true rfl) (ct_X2_needHash (nI h) M) (znd_r (fun hh9 => ?_)) (znd_x (fun hh9 => ?_)) (Nat.le_refl _)
  · refine zq_aload_n K dX2_ownerOf_4 rfl rfl ?_
    refine zq_iload_n K dX2_ownerOf_5 rfl rfl ?_
    refine zq_callV (As := [.int (nI (d))]) K dX2_ownerOf_6 zyX2_needDirectory zm_X2_36 ziX2_needDirectory zvX2_needDirectory zclX2 rfl (by decide) rfl rfl (Nat.le_of_ble_eq_true rfl) (Nat.le_of_ble_eq_true rfl) hC.x.1 (ct_X2_needDirectory_1 hC hv) (zone_r ?_) zone_x (Nat.le_refl _)
    refine zq_iload_n K dX2_ownerOf_9 rfl rfl ?_
    refine zq_callV (As := [.int (nI (h))]) K dX2_ownerOf_10 zyX0_fragmentAt zm_X2_142 ziX0_fragmentAt zvX0_fragmentAt zclX0 rfl (by decide) rfl rfl (Nat.le_of_ble_eq_true rfl) (Nat.le_of_ble_eq_true rfl) (hC.d hv).1 (ct_X0_fragmentAt8 hC hv (show h < 8 by omega)) (zone_r ?_) zone_x (Nat.le_refl _)
    refine zq_getI K dX2_ownerOf_13 zclX1 (k := 3) (by decide) zf_X2_167 rfl (hC.f (zVal.fg hv hF (show h < 8 by omega))).1 ?_
    refine zq_top (hC.f (zVal.fg hv hF (show h < 8 by omega))).2.2.2.2.1 ?_
    exact zq_iret K dX2_ownerOf_16 rfl ⟨rfl, rfl⟩
  · exact absurd ⟨h, hh, rfl⟩ hh9
theorem ct_X2_byTree_ok {G : ZG} {M : ZM} {W : Nat → Nat → Nat} {B : ZA} (hC : zC M W B) (hW : zWf B) {d h : Nat} (hv : zVal B 3 d) (hh : h ≤ 49) : zMet G mX2_byTree [.ref (W 10 0), .int (nI (d)), .int (nI (h))] M (zone (some (.int (B.2 6 (50 * d + h)))) M) := by
  refine zbody zyX2_byTree [some (.ref (W 10 0)), some (.int (nI (d))), some (.int (nI (h)))] rfl (Nat.le_of_ble_eq_true rfl) (by intro v hv; simp only [List.mem_cons, List.not_mem_nil, or_false] at hv; rcases hv with rfl | rfl | rfl <;> rfl) (fun E K => ?_)
  obtain ⟨⟨D, hB⟩, hF, hU⟩ := id hW
  have hS : zFm M W B M := zFm.rf
  refine zq_iload_n K dX2_byTree_0 rfl rfl ?_
  refine zq_callS (As := [.int (nI (h))]) K dX2_byTree_1 zyX2_needName zm_X2_33 zsX2_needName rfl (by decide) rfl rfl (Nat.le_of_ble_eq_true rfl) (Nat.le_of_ble_eq_true rfl) (ct_X2_needName (nI h) M) (znd_r (fun hh9 => ?_)) (znd_x (fun hh9 => ?_)) (Nat.le_refl _)
  · refine zq_aload_n K dX2_byTree_4 rfl rfl ?_
    refine zq_iload_n K dX2_byTree_5 rfl rfl ?_
    refine zq_callV (As := [.int (nI (d))]) K dX2_byTree_6 zyX2_needDirectory zm_X2_36 ziX2_needDirectory zvX2_needDirectory zclX2 rfl (by decide) rfl rfl (Nat.le_of_ble_eq_true rfl) (Nat.le_of_ble_eq_true rfl) hC.x.1 (ct_X2_needDirectory_1 hC hv) (zone_r ?_) zone_x (Nat.le_refl _)
    refine zq_iload_n K dX2_byTree_9 rfl rfl ?_
    refine zq_callV (As := [.int (nI (h))]) K dX2_byTree_10 zyX0_meaningOf zm_X2_60 ziX0_meaningOf zvX0_meaningOf zclX0 rfl (by decide) rfl rfl (Nat.le_of_ble_eq_true rfl) (Nat.le_of_ble_eq_true rfl) (hC.d hv).1 (ct_X0_meaningOf hC hv (show h < 50 by omega)) (zone_r ?_) zone_x (Nat.le_refl _)
    exact zq_iret K dX2_byTree_13 rfl ⟨rfl, rfl⟩
  · exact absurd ⟨h, hh, rfl⟩ hh9
theorem ct_X2_isFrozen_yes {G : ZG} {M : ZM} {W : Nat → Nat → Nat} {B : ZA} (hC : zC M W B) (hW : zWf B) {d h : Nat} (hv : zVal B 3 d) (hh : h ≤ 49) (hM : zMw B) (hz9 : zfz B (zfn B d h) = true) : zMet G mX2_isFrozen [.ref (W 10 0), .int (nI (d)), .int (nI (h))] M (zone (some (.int (nI 1))) M) := by
  refine zbody zyX2_isFrozen [some (.ref (W 10 0)), some (.int (nI (d))), some (.int (nI (h)))] rfl (Nat.le_of_ble_eq_true rfl) (by intro v hv; simp only [List.mem_cons, List.not_mem_nil, or_false] at hv; rcases hv with rfl | rfl | rfl <;> rfl) (fun E K => ?_)
  obtain ⟨⟨D, hB⟩, hF, hU⟩ := id hW
  have hS : zFm M W B M := zFm.rf
  refine zq_iload_n K dX2_isFrozen_0 rfl rfl ?_
  refine zq_callS (As := [.int (nI (h))]) K dX2_isFrozen_1 zyX2_needName zm_X2_33 zsX2_needName rfl (by decide) rfl rfl (Nat.le_of_ble_eq_true rfl) (Nat.le_of_ble_eq_true rfl) (ct_X2_needName (nI h) M) (znd_r (fun hh9 => ?_)) (znd_x (fun hh9 => ?_)) (Nat.le_refl _)
  · refine zq_aload_n K dX2_isFrozen_4 rfl rfl ?_
    refine zq_aload_n K dX2_isFrozen_5 rfl rfl ?_
    refine zq_iload_n K dX2_isFrozen_6 rfl rfl ?_
    refine zq_callV (As := [.int (nI (d))]) K dX2_isFrozen_7 zyX2_needDirectory zm_X2_36 ziX2_needDirectory zvX2_needDirectory zclX2 rfl (by decide) rfl rfl (Nat.le_of_ble_eq_true rfl) (Nat.le_of_ble_eq_true rfl) hC.x.1 (ct_X2_needDirectory_1 hC hv) (zone_r ?_) zone_x (Nat.le_refl _)
    refine zq_iload_n K dX2_isFrozen_10 rfl rfl ?_
    refine zq_callV (As := [.int (nI (h))]) K dX2_isFrozen_11 zyX0_fragmentOfName zm_X2_47 ziX0_fragmentOfName zvX0_fragmentOfName zclX0 rfl (by decide) rfl rfl (Nat.le_of_ble_eq_true rfl) (Nat.le_of_ble_eq_true rfl) (hC.d hv).1 (ct_X0_fragmentOfName hC hv (show h < 50 by omega)) (zone_r ?_) zone_x (Nat.le_refl _)
    refine zq_callV (As := [.ref (W 9 (zfn B d h))]) K dX2_isFrozen_14 zyX2_frozen zm_X2_148 ziX2_frozen zvX2_frozen zclX2 rfl (by decide) rfl rfl (Nat.le_of_ble_eq_true rfl) (Nat.le_of_ble_eq_true rfl) hC.x.1 (ct_X2_frozen hC (zVal.nm hF hv (show h < 50 by omega)) hF hU hM) (zdec_r (fun hz => ?_) (fun hz => ?_)) zdec_x (Nat.le_refl _)
    · exact zq_zret K dX2_isFrozen_17 rfl (by decide) ⟨rfl, rfl⟩
    · exact absurd hz9 hz
  · exact absurd ⟨h, hh, rfl⟩ hh9
theorem ct_X2_isFrozen_no {G : ZG} {M : ZM} {W : Nat → Nat → Nat} {B : ZA} (hC : zC M W B) (hW : zWf B) {d h : Nat} (hv : zVal B 3 d) (hh : h ≤ 49) (hM : zMw B) (hz9 : ¬ zfz B (zfn B d h) = true) : zMet G mX2_isFrozen [.ref (W 10 0), .int (nI (d)), .int (nI (h))] M (zone (some (.int (nI 0))) M) := by
  refine zbody zyX2_isFrozen [some (.ref (W 10 0)), some (.int (nI (d))), some (.int (nI (h)))] rfl (Nat.le_of_ble_eq_true rfl) (by intro v hv; simp only [List.mem_cons, List.not_mem_nil, or_false] at hv; rcases hv with rfl | rfl | rfl <;> rfl) (fun E K => ?_)
  obtain ⟨⟨D, hB⟩, hF, hU⟩ := id hW
  have hS : zFm M W B M := zFm.rf
  refine zq_iload_n K dX2_isFrozen_0 rfl rfl ?_
  refine zq_callS (As := [.int (nI (h))]) K dX2_isFrozen_1 zyX2_needName zm_X2_33 zsX2_needName rfl (by decide) rfl rfl (Nat.le_of_ble_eq_true rfl) (Nat.le_of_ble_eq_true rfl) (ct_X2_needName (nI h) M) (znd_r (fun hh9 => ?_)) (znd_x (fun hh9 => ?_)) (Nat.le_refl _)
  · refine zq_aload_n K dX2_isFrozen_4 rfl rfl ?_
    refine zq_aload_n K dX2_isFrozen_5 rfl rfl ?_
    refine zq_iload_n K dX2_isFrozen_6 rfl rfl ?_
    refine zq_callV (As := [.int (nI (d))]) K dX2_isFrozen_7 zyX2_needDirectory zm_X2_36 ziX2_needDirectory zvX2_needDirectory zclX2 rfl (by decide) rfl rfl (Nat.le_of_ble_eq_true rfl) (Nat.le_of_ble_eq_true rfl) hC.x.1 (ct_X2_needDirectory_1 hC hv) (zone_r ?_) zone_x (Nat.le_refl _)
    refine zq_iload_n K dX2_isFrozen_10 rfl rfl ?_
    refine zq_callV (As := [.int (nI (h))]) K dX2_isFrozen_11 zyX0_fragmentOfName zm_X2_47 ziX0_fragmentOfName zvX0_fragmentOfName zclX0 rfl (by decide) rfl rfl (Nat.le_of_ble_eq_true rfl) (Nat.le_of_ble_eq_true rfl) (hC.d hv).1 (ct_X0_fragmentOfName hC hv (show h < 50 by omega)) (zone_r ?_) zone_x (Nat.le_refl _)
    refine zq_callV (As := [.ref (W 9 (zfn B d h))]) K dX2_isFrozen_14 zyX2_frozen zm_X2_148 ziX2_frozen zvX2_frozen zclX2 rfl (by decide) rfl rfl (Nat.le_of_ble_eq_true rfl) (Nat.le_of_ble_eq_true rfl) hC.x.1 (ct_X2_frozen hC (zVal.nm hF hv (show h < 50 by omega)) hF hU hM) (zdec_r (fun hz => ?_) (fun hz => ?_)) zdec_x (Nat.le_refl _)
    · exact absurd hz hz9
    · exact zq_zret K dX2_isFrozen_17 rfl (by decide) ⟨rfl, rfl⟩
  · exact absurd ⟨h, hh, rfl⟩ hh9
theorem ct_X2_load_bad {G : ZG} {M : ZM} {W : Nat → Nat → Nat} {B : ZA} (hC : zC M W B) {s : Int32} (h : ¬ zOn s 3) : zMet G mX2_load [.ref (W 10 0), .int (s)] M (zthr zIAE M) := by
  refine zbody zyX2_load [some (.ref (W 10 0)), some (.int (s))] rfl (Nat.le_of_ble_eq_true rfl) (by intro v hv; simp only [List.mem_cons, List.not_mem_nil, or_false] at hv; rcases hv with rfl | rfl <;> rfl) (fun E K => ?_)
  refine zq_iload_n K dX2_load_0 rfl rfl ?_
  refine zq_callS (As := [.int (s)]) K dX2_load_1 zyX2_needServer zm_X2_182 zsX2_needServer rfl (by decide) rfl rfl (Nat.le_of_ble_eq_true rfl) (Nat.le_of_ble_eq_true rfl) (ct_X2_needServer s M) (znd_r (fun hs => ?_)) (znd_x (fun hs => ?_)) (Nat.le_refl _)
  · exact absurd hs h
  · exact zx_out K ⟨rfl, rfl⟩
theorem ct_X2_load_ok {G : ZG} {M : ZM} {W : Nat → Nat → Nat} {B : ZA} (hC : zC M W B) (hW : zWf B) {s : Int32} (h : zOn s 3) : zMet G mX2_load [.ref (W 10 0), .int (s)] M (zone (some (.int (zlc B s 96))) M) := by
  refine zbody zyX2_load [some (.ref (W 10 0)), some (.int (s))] rfl (Nat.le_of_ble_eq_true rfl) (by intro v hv; simp only [List.mem_cons, List.not_mem_nil, or_false] at hv; rcases hv with rfl | rfl <;> rfl) (fun E K => ?_)
  obtain ⟨⟨D, hB⟩, hF, hU⟩ := id hW
  have hS : zFm M W B M := zFm.rf
  refine zq_iload_n K dX2_load_0 rfl rfl ?_
  refine zq_callS (As := [.int (s)]) K dX2_load_1 zyX2_needServer zm_X2_182 zsX2_needServer rfl (by decide) rfl rfl (Nat.le_of_ble_eq_true rfl) (Nat.le_of_ble_eq_true rfl) (ct_X2_needServer s M) (znd_r (fun hs => ?_)) (znd_x (fun hs => ?_)) (Nat.le_refl _)
  · refine zq_aload_n K dX2_load_4 rfl rfl ?_
    refine zq_iload_n K dX2_load_5 rfl rfl ?_
    refine zq_callV (As := [.int (s)]) K dX2_load_6 zyX2_loadOfServer zm_X2_185 ziX2_loadOfServer zvX2_loadOfServer zclX2 rfl (by decide) rfl rfl (Nat.le_of_ble_eq_true rfl) (Nat.le_of_ble_eq_true rfl) hC.x.1 (ct_X2_loadOfServer hC hF hU s) (zone_r ?_) zone_x (Nat.le_refl _)
    exact zq_iret K dX2_load_9 rfl ⟨rfl, rfl⟩
  · exact absurd h hs
theorem ct_X2_beginMove_1 {G : ZG} {M : ZM} {W : Nat → Nat → Nat} {B : ZA} (hC : zC M W B) {d h s : Int32} (hk : ¬ (zOn h 7 ∧ zOn s 3)) : zMet G mX2_beginMove [.ref (W 10 0), .int (d), .int (h), .int (s)] M (zthr zIAE M) := by
  refine zbody zyX2_beginMove [some (.ref (W 10 0)), some (.int (d)), some (.int (h)), some (.int (s)), none] rfl (Nat.le_of_ble_eq_true rfl) (by intro v hv; simp only [List.mem_cons, List.not_mem_nil, or_false] at hv; rcases hv with rfl | rfl | rfl | rfl <;> rfl) (fun E K => ?_)
  refine zq_iload_n K dX2_beginMove_0 rfl rfl ?_
  refine zq_callS (As := [.int (h)]) K dX2_beginMove_1 zyX2_needHash zm_X2_139 zsX2_needHash rfl (by decide) rfl rfl (Nat.le_of_ble_eq_true rfl) (Nat.le_of_ble_eq_true rfl) (ct_X2_needHash h M) (znd_r (fun hh => ?_)) (znd_x (fun hh => ?_)) (Nat.le_refl _)
  · refine zq_iload_n K dX2_beginMove_4 rfl rfl ?_
    refine zq_callS (As := [.int (s)]) K dX2_beginMove_5 zyX2_needServer zm_X2_182 zsX2_needServer rfl (by decide) rfl rfl (Nat.le_of_ble_eq_true rfl) (Nat.le_of_ble_eq_true rfl) (ct_X2_needServer s M) (znd_r (fun hs => ?_)) (znd_x (fun hs => ?_)) (Nat.le_refl _)
    · exact absurd ⟨hh, hs⟩ hk
    · exact zx_out K ⟨rfl, rfl⟩
  · exact zx_out K ⟨rfl, rfl⟩
theorem ct_X2_beginMove_2 {G : ZG} {M : ZM} {W : Nat → Nat → Nat} {B : ZA} (hC : zC M W B) {d h s : Int32} (hk : zOn h 7 ∧ zOn s 3) (hd : ¬ zIsD B d) : zMet G mX2_beginMove [.ref (W 10 0), .int (d), .int (h), .int (s)] M (zthr zIOB M) := by
  refine zbody zyX2_beginMove [some (.ref (W 10 0)), some (.int (d)), some (.int (h)), some (.int (s)), none] rfl (Nat.le_of_ble_eq_true rfl) (by intro v hv; simp only [List.mem_cons, List.not_mem_nil, or_false] at hv; rcases hv with rfl | rfl | rfl | rfl <;> rfl) (fun E K => ?_)
  refine zq_iload_n K dX2_beginMove_0 rfl rfl ?_
  refine zq_callS (As := [.int (h)]) K dX2_beginMove_1 zyX2_needHash zm_X2_139 zsX2_needHash rfl (by decide) rfl rfl (Nat.le_of_ble_eq_true rfl) (Nat.le_of_ble_eq_true rfl) (ct_X2_needHash h M) (znd_r (fun hh => ?_)) (znd_x (fun hh => ?_)) (Nat.le_refl _)
  · refine zq_iload_n K dX2_beginMove_4 rfl rfl ?_
    refine zq_callS (As := [.int (s)]) K dX2_beginMove_5 zyX2_needServer zm_X2_182 zsX2_needServer rfl (by decide) rfl rfl (Nat.le_of_ble_eq_true rfl) (Nat.le_of_ble_eq_true rfl) (ct_X2_needServer s M) (znd_r (fun hs => ?_)) (znd_x (fun hs => ?_)) (Nat.le_refl _)
    · refine zq_aload_n K dX2_beginMove_8 rfl rfl ?_
      refine zq_iload_n K dX2_beginMove_9 rfl rfl ?_
      refine zq_callV (As := [.int (d)]) K dX2_beginMove_10 zyX2_needDirectory zm_X2_36 ziX2_needDirectory zvX2_needDirectory zclX2 rfl (by decide) rfl rfl (Nat.le_of_ble_eq_true rfl) (Nat.le_of_ble_eq_true rfl) hC.x.1 (ct_X2_needDirectory_0 hC hd) zthr_r (zthr_x ?_) (Nat.le_refl _)
      exact zx_out K ⟨rfl, rfl⟩
    · exact absurd hk.2 hs
  · exact absurd hk.1 hh
theorem ct_X2_beginMove_mv {G : ZG} {M : ZM} {W : Nat → Nat → Nat} {B : ZA} (hC : zC M W B) (hW : zWf B) {d h : Nat} {s : Int32} (hv : zVal B 3 d) (hh : h ≤ 7) (hs : zOn s 3) {m : Nat} (hm : B.1 16 = nI m) (hm9 : zVal B 9 m) : zMet G mX2_beginMove [.ref (W 10 0), .int (nI (d)), .int (nI (h)), .int (s)] M (zthr zISE M) := by
  refine zbody zyX2_beginMove [some (.ref (W 10 0)), some (.int (nI (d))), some (.int (nI (h))), some (.int (s)), none] rfl (Nat.le_of_ble_eq_true rfl) (by intro v hv; simp only [List.mem_cons, List.not_mem_nil, or_false] at hv; rcases hv with rfl | rfl | rfl | rfl <;> rfl) (fun E K => ?_)
  obtain ⟨⟨D, hB⟩, hF, hU⟩ := id hW
  have hS : zFm M W B M := zFm.rf
  refine zq_iload_n K dX2_beginMove_0 rfl rfl ?_
  refine zq_callS (As := [.int (nI (h))]) K dX2_beginMove_1 zyX2_needHash zm_X2_139 zsX2_needHash rfl (by decide) rfl rfl (Nat.le_of_ble_eq_true rfl) (Nat.le_of_ble_eq_true rfl) (ct_X2_needHash (nI h) M) (znd_r (fun hh9 => ?_)) (znd_x (fun hh9 => ?_)) (Nat.le_refl _)
  · refine zq_iload_n K dX2_beginMove_4 rfl rfl ?_
    refine zq_callS (As := [.int (s)]) K dX2_beginMove_5 zyX2_needServer zm_X2_182 zsX2_needServer rfl (by decide) rfl rfl (Nat.le_of_ble_eq_true rfl) (Nat.le_of_ble_eq_true rfl) (ct_X2_needServer s M) (znd_r (fun hs9 => ?_)) (znd_x (fun hs9 => ?_)) (Nat.le_refl _)
    · refine zq_aload_n K dX2_beginMove_8 rfl rfl ?_
      refine zq_iload_n K dX2_beginMove_9 rfl rfl ?_
      refine zq_callV (As := [.int (nI (d))]) K dX2_beginMove_10 zyX2_needDirectory zm_X2_36 ziX2_needDirectory zvX2_needDirectory zclX2 rfl (by decide) rfl rfl (Nat.le_of_ble_eq_true rfl) (Nat.le_of_ble_eq_true rfl) hC.x.1 (ct_X2_needDirectory_1 hC hv) (zone_r ?_) zone_x (Nat.le_refl _)
      refine zq_iload_n K dX2_beginMove_13 rfl rfl ?_
      refine zq_callV (As := [.int (nI (h))]) K dX2_beginMove_14 zyX0_fragmentAt zm_X2_142 ziX0_fragmentAt zvX0_fragmentAt zclX0 rfl (by decide) rfl rfl (Nat.le_of_ble_eq_true rfl) (Nat.le_of_ble_eq_true rfl) (hC.d hv).1 (ct_X0_fragmentAt8 hC hv (show h < 8 by omega)) (zone_r ?_) zone_x (Nat.le_refl _)
      refine zq_astore K dX2_beginMove_17 (by decide) ?_
      refine zq_aload_n K dX2_beginMove_19 rfl rfl ?_
      refine zq_callV (As := []) K dX2_beginMove_20 zyX2_needNoMove zm_X2_188 ziX2_needNoMove zvX2_needNoMove zclX2 rfl (by decide) rfl rfl (Nat.le_of_ble_eq_true rfl) (Nat.le_of_ble_eq_true rfl) hC.x.1 (ct_X2_needNoMove_1 hC hm hm9) zthr_r (zthr_x ?_) (Nat.le_refl _)
      exact zx_out K ⟨rfl, rfl⟩
    · exact absurd hs hs9
  · exact absurd ⟨h, hh, rfl⟩ hh9
theorem ct_X2_beginMove_same {G : ZG} {M : ZM} {W : Nat → Nat → Nat} {B : ZA} (hC : zC M W B) (hW : zWf B) {d h : Nat} {s : Int32} (hv : zVal B 3 d) (hh : h ≤ 7) (hs : zOn s 3) (hm : B.1 16 = -1) (he : zsv B (8 * d + zfg (B.2 10) d h) = s) : zMet G mX2_beginMove [.ref (W 10 0), .int (nI (d)), .int (nI (h)), .int (s)] M (zthr zISE M) := by
  refine zbody zyX2_beginMove [some (.ref (W 10 0)), some (.int (nI (d))), some (.int (nI (h))), some (.int (s)), none] rfl (Nat.le_of_ble_eq_true rfl) (by intro v hv; simp only [List.mem_cons, List.not_mem_nil, or_false] at hv; rcases hv with rfl | rfl | rfl | rfl <;> rfl) (fun E K => ?_)
  obtain ⟨⟨D, hB⟩, hF, hU⟩ := id hW
  have hS : zFm M W B M := zFm.rf
  refine zq_iload_n K dX2_beginMove_0 rfl rfl ?_
  refine zq_callS (As := [.int (nI (h))]) K dX2_beginMove_1 zyX2_needHash zm_X2_139 zsX2_needHash rfl (by decide) rfl rfl (Nat.le_of_ble_eq_true rfl) (Nat.le_of_ble_eq_true rfl) (ct_X2_needHash (nI h) M) (znd_r (fun hh9 => ?_)) (znd_x (fun hh9 => ?_)) (Nat.le_refl _)
  · refine zq_iload_n K dX2_beginMove_4 rfl rfl ?_
    refine zq_callS (As := [.int (s)]) K dX2_beginMove_5 zyX2_needServer zm_X2_182 zsX2_needServer rfl (by decide) rfl rfl (Nat.le_of_ble_eq_true rfl) (Nat.le_of_ble_eq_true rfl) (ct_X2_needServer s M) (znd_r (fun hs9 => ?_)) (znd_x (fun hs9 => ?_)) (Nat.le_refl _)
    · refine zq_aload_n K dX2_beginMove_8 rfl rfl ?_
      refine zq_iload_n K dX2_beginMove_9 rfl rfl ?_
      refine zq_callV (As := [.int (nI (d))]) K dX2_beginMove_10 zyX2_needDirectory zm_X2_36 ziX2_needDirectory zvX2_needDirectory zclX2 rfl (by decide) rfl rfl (Nat.le_of_ble_eq_true rfl) (Nat.le_of_ble_eq_true rfl) hC.x.1 (ct_X2_needDirectory_1 hC hv) (zone_r ?_) zone_x (Nat.le_refl _)
      refine zq_iload_n K dX2_beginMove_13 rfl rfl ?_
      refine zq_callV (As := [.int (nI (h))]) K dX2_beginMove_14 zyX0_fragmentAt zm_X2_142 ziX0_fragmentAt zvX0_fragmentAt zclX0 rfl (by decide) rfl rfl (Nat.le_of_ble_eq_true rfl) (Nat.le_of_ble_eq_true rfl) (hC.d hv).1 (ct_X0_fragmentAt8 hC hv (show h < 8 by omega)) (zone_r ?_) zone_x (Nat.le_refl _)
      refine zq_astore K dX2_beginMove_17 (by decide) ?_
      refine zq_aload_n K dX2_beginMove_19 rfl rfl ?_
      refine zq_callV (As := []) K dX2_beginMove_20 zyX2_needNoMove zm_X2_188 ziX2_needNoMove zvX2_needNoMove zclX2 rfl (by decide) rfl rfl (Nat.le_of_ble_eq_true rfl) (Nat.le_of_ble_eq_true rfl) hC.x.1 (ct_X2_needNoMove_0 hC hm) (zone_r ?_) zone_x (Nat.le_refl _)
      refine zq_aload_n K dX2_beginMove_23 rfl rfl ?_
      refine zq_aload K dX2_beginMove_24 rfl ?_
      refine zq_callV (As := [.ref (W 9 (8 * d + zfg (B.2 10) d h))]) K dX2_beginMove_26 zyX2_serverOfFragment zm_X2_178 ziX2_serverOfFragment zvX2_serverOfFragment zclX2 rfl (by decide) rfl rfl (Nat.le_of_ble_eq_true rfl) (Nat.le_of_ble_eq_true rfl) hC.x.1 (ct_X2_serverOfFragment hC (zVal.fg hv hF (show h < 8 by omega)) hF hU) (zone_r ?_) zone_x (Nat.le_refl _)
      refine zq_iload_n K dX2_beginMove_29 rfl rfl ?_
      refine zq_icmp_ne K 43 dX2_beginMove_30 (by decide) (fun h30 => absurd he h30) (fun h30 => ?_)
      exact zq_throw K (text := "it is the server of the fragment") zthISE (by decide +kernel) dX2_beginMove_33 dX2_beginMove_36 dX2_beginMove_37 dX2_beginMove_39 dX2_beginMove_42 (by decide) (Nat.le_of_ble_eq_true rfl) (Nat.le_of_ble_eq_true rfl) ⟨rfl, rfl⟩
    · exact absurd hs hs9
  · exact absurd ⟨h, hh, rfl⟩ hh9
theorem ct_X2_beginMove_ok {G : ZG} {M : ZM} {W : Nat → Nat → Nat} {B : ZA} (hC : zC M W B) (hW : zWf B) {d h : Nat} {s : Int32} (hv : zVal B 3 d) (hh : h ≤ 7) (hs : zOn s 3) (hm : B.1 16 = -1) (he : ¬ zsv B (8 * d + zfg (B.2 10) d h) = s) : zMet G mX2_beginMove [.ref (W 10 0), .int (nI (d)), .int (nI (h)), .int (s)] M (zCP W M B none (zMo B (nI (8 * d + zfg (B.2 10) d h)) s)) := by
  refine zbody zyX2_beginMove [some (.ref (W 10 0)), some (.int (nI (d))), some (.int (nI (h))), some (.int (s)), none] rfl (Nat.le_of_ble_eq_true rfl) (by intro v hv; simp only [List.mem_cons, List.not_mem_nil, or_false] at hv; rcases hv with rfl | rfl | rfl | rfl <;> rfl) (fun E K => ?_)
  obtain ⟨⟨D, hB⟩, hF, hU⟩ := id hW
  have hS : zFm M W B M := zFm.rf
  refine zq_iload_n K dX2_beginMove_0 rfl rfl ?_
  refine zq_callS (As := [.int (nI (h))]) K dX2_beginMove_1 zyX2_needHash zm_X2_139 zsX2_needHash rfl (by decide) rfl rfl (Nat.le_of_ble_eq_true rfl) (Nat.le_of_ble_eq_true rfl) (ct_X2_needHash (nI h) M) (znd_r (fun hh9 => ?_)) (znd_x (fun hh9 => ?_)) (Nat.le_refl _)
  · refine zq_iload_n K dX2_beginMove_4 rfl rfl ?_
    refine zq_callS (As := [.int (s)]) K dX2_beginMove_5 zyX2_needServer zm_X2_182 zsX2_needServer rfl (by decide) rfl rfl (Nat.le_of_ble_eq_true rfl) (Nat.le_of_ble_eq_true rfl) (ct_X2_needServer s M) (znd_r (fun hs9 => ?_)) (znd_x (fun hs9 => ?_)) (Nat.le_refl _)
    · refine zq_aload_n K dX2_beginMove_8 rfl rfl ?_
      refine zq_iload_n K dX2_beginMove_9 rfl rfl ?_
      refine zq_callV (As := [.int (nI (d))]) K dX2_beginMove_10 zyX2_needDirectory zm_X2_36 ziX2_needDirectory zvX2_needDirectory zclX2 rfl (by decide) rfl rfl (Nat.le_of_ble_eq_true rfl) (Nat.le_of_ble_eq_true rfl) hC.x.1 (ct_X2_needDirectory_1 hC hv) (zone_r ?_) zone_x (Nat.le_refl _)
      refine zq_iload_n K dX2_beginMove_13 rfl rfl ?_
      refine zq_callV (As := [.int (nI (h))]) K dX2_beginMove_14 zyX0_fragmentAt zm_X2_142 ziX0_fragmentAt zvX0_fragmentAt zclX0 rfl (by decide) rfl rfl (Nat.le_of_ble_eq_true rfl) (Nat.le_of_ble_eq_true rfl) (hC.d hv).1 (ct_X0_fragmentAt8 hC hv (show h < 8 by omega)) (zone_r ?_) zone_x (Nat.le_refl _)
      refine zq_astore K dX2_beginMove_17 (by decide) ?_
      refine zq_aload_n K dX2_beginMove_19 rfl rfl ?_
      refine zq_callV (As := []) K dX2_beginMove_20 zyX2_needNoMove zm_X2_188 ziX2_needNoMove zvX2_needNoMove zclX2 rfl (by decide) rfl rfl (Nat.le_of_ble_eq_true rfl) (Nat.le_of_ble_eq_true rfl) hC.x.1 (ct_X2_needNoMove_0 hC hm) (zone_r ?_) zone_x (Nat.le_refl _)
      refine zq_aload_n K dX2_beginMove_23 rfl rfl ?_
      refine zq_aload K dX2_beginMove_24 rfl ?_
      refine zq_callV (As := [.ref (W 9 (8 * d + zfg (B.2 10) d h))]) K dX2_beginMove_26 zyX2_serverOfFragment zm_X2_178 ziX2_serverOfFragment zvX2_serverOfFragment zclX2 rfl (by decide) rfl rfl (Nat.le_of_ble_eq_true rfl) (Nat.le_of_ble_eq_true rfl) hC.x.1 (ct_X2_serverOfFragment hC (zVal.fg hv hF (show h < 8 by omega)) hF hU) (zone_r ?_) zone_x (Nat.le_refl _)
      refine zq_iload_n K dX2_beginMove_29 rfl rfl ?_
      refine zq_icmp_ne K 43 dX2_beginMove_30 (by decide) (fun h30 => ?_) (fun h30 => absurd h30 he)
      refine zq_aload_n K dX2_beginMove_43 rfl rfl ?_
      refine zq_aload K dX2_beginMove_44 rfl ?_
      refine zq_iload_n K dX2_beginMove_46 rfl rfl ?_
      refine zq_callV (As := [.ref (W 9 (8 * d + zfg (B.2 10) d h)), .int (s)]) K dX2_beginMove_47 zyX2_startMove zm_X2_193 ziX2_startMove zvX2_startMove zclX2 rfl (by decide) rfl rfl (Nat.le_of_ble_eq_true rfl) (Nat.le_of_ble_eq_true rfl) hC.x.1 (ct_X2_startMove hC (zVal.fg hv hF (show h < 8 by omega)) s) (zCP_r hS (fun _ _ h => h) (fun M hC hS => ?_)) zCP_x (Nat.le_refl _)
      exact zq_ret K dX2_beginMove_50 rfl ⟨rfl, hC, hS⟩
    · exact absurd hs hs9
  · exact absurd ⟨h, hh, rfl⟩ hh9
theorem ct_X2_stepMove_bad {G : ZG} {M : ZM} {W : Nat → Nat → Nat} {B : ZA} (hC : zC M W B) (hm : B.1 16 = -1) : zMet G mX2_stepMove [.ref (W 10 0)] M (zthr zISE M) := by
  refine zbody zyX2_stepMove [some (.ref (W 10 0))] rfl (Nat.le_of_ble_eq_true rfl) (by intro v hv; simp only [List.mem_cons, List.not_mem_nil, or_false] at hv; rcases hv with rfl <;> rfl) (fun E K => ?_)
  refine zq_aload_n K dX2_stepMove_0 rfl rfl ?_
  refine zq_getRn K dX2_stepMove_1 zclX2 (k := 7) (by decide) zf_X2_197 rfl hC.x.1 (hC.m0 hm) ?_
  refine zq_ifnonnull_n K dX2_stepMove_4 ?_
  exact zq_throw K (text := "no move goes on") zthISE (by decide +kernel) dX2_stepMove_7 dX2_stepMove_10 dX2_stepMove_11 dX2_stepMove_13 dX2_stepMove_16 (by decide) (Nat.le_of_ble_eq_true rfl) (Nat.le_of_ble_eq_true rfl) ⟨rfl, rfl⟩
theorem ct_X2_giveUpMove_bad {G : ZG} {M : ZM} {W : Nat → Nat → Nat} {B : ZA} (hC : zC M W B) (hm : B.1 16 = -1) : zMet G mX2_giveUpMove [.ref (W 10 0)] M (zthr zISE M) := by
  refine zbody zyX2_giveUpMove [some (.ref (W 10 0))] rfl (Nat.le_of_ble_eq_true rfl) (by intro v hv; simp only [List.mem_cons, List.not_mem_nil, or_false] at hv; rcases hv with rfl <;> rfl) (fun E K => ?_)
  refine zq_aload_n K dX2_giveUpMove_0 rfl rfl ?_
  refine zq_getRn K dX2_giveUpMove_1 zclX2 (k := 7) (by decide) zf_X2_197 rfl hC.x.1 (hC.m0 hm) ?_
  refine zq_ifnonnull_n K dX2_giveUpMove_4 ?_
  exact zq_throw K (text := "no move goes on") zthISE (by decide +kernel) dX2_giveUpMove_7 dX2_giveUpMove_10 dX2_giveUpMove_11 dX2_giveUpMove_13 dX2_giveUpMove_16 (by decide) (Nat.le_of_ble_eq_true rfl) (Nat.le_of_ble_eq_true rfl) ⟨rfl, rfl⟩
theorem ct_X2_giveUpMove_ok {G : ZG} {M : ZM} {W : Nat → Nat → Nat} {B : ZA} (hC : zC M W B) (hW : zWf B) {m : Nat} (hm : B.1 16 = nI m) (hm9 : zVal B 9 m) : zMet G mX2_giveUpMove [.ref (W 10 0)] M (zCP W M B (some (.int (B.1 18))) (zsc B 16 (-1))) := by
  refine zbody zyX2_giveUpMove [some (.ref (W 10 0))] rfl (Nat.le_of_ble_eq_true rfl) (by intro v hv; simp only [List.mem_cons, List.not_mem_nil, or_false] at hv; rcases hv with rfl <;> rfl) (fun E K => ?_)
  obtain ⟨⟨D, hB⟩, hF, hU⟩ := id hW
  have hS : zFm M W B M := zFm.rf
  refine zq_aload_n K dX2_giveUpMove_0 rfl rfl ?_
  refine zq_getRs K dX2_giveUpMove_1 zclX2 (k := 7) (by decide) zf_X2_197 rfl hC.x.1 (hC.m1 hm hm9.1) ?_
  refine zq_ifnonnull_r K 17 dX2_giveUpMove_4 (by decide) ?_
  refine zq_aload_n K dX2_giveUpMove_17 rfl rfl ?_
  refine zq_null K dX2_giveUpMove_18 ?_
  refine zc_pm0 K dX2_giveUpMove_19 zf_X2_197 hC hS (fun M hC hS => ?_)
  refine zq_aload_n K dX2_giveUpMove_22 rfl rfl ?_
  refine zq_getI K dX2_giveUpMove_23 zclX2 (k := 9) (by decide) zf_X2_203 rfl hC.x.1 ?_
  refine zq_top hC.x.2.2.1.2.2.2.2.2 ?_
  refine zq_top (v := B.1 18) rfl ?_
  exact zq_iret K dX2_giveUpMove_26 rfl ⟨rfl, hC, hS⟩
theorem ct_X2_stepMove_1 {G : ZG} {M : ZM} {W : Nat → Nat → Nat} {B : ZA} (hC : zC M W B) (hW : zWf B) {m : Nat} (hm : B.1 16 = nI m) (hm9 : zVal B 9 m) (h1 : B.1 18 + nI 1 = nI 1) : zMet G mX2_stepMove [.ref (W 10 0)] M (zCP W M B (some (.int (B.1 18 + nI 1))) (zra (zSt1 B) 12)) := by
  refine zbody zyX2_stepMove [some (.ref (W 10 0))] rfl (Nat.le_of_ble_eq_true rfl) (by intro v hv; simp only [List.mem_cons, List.not_mem_nil, or_false] at hv; rcases hv with rfl <;> rfl) (fun E K => ?_)
  obtain ⟨⟨D, hB⟩, hF, hU⟩ := id hW
  have hS : zFm M W B M := zFm.rf
  refine zq_aload_n K dX2_stepMove_0 rfl rfl ?_
  refine zq_getRs K dX2_stepMove_1 zclX2 (k := 7) (by decide) zf_X2_197 rfl hC.x.1 (hC.m1 hm hm9.1) ?_
  refine zq_ifnonnull_r K 17 dX2_stepMove_4 (by decide) ?_
  refine zq_aload_n K dX2_stepMove_17 rfl rfl ?_
  refine zq_dup K dX2_stepMove_18 rfl ?_
  refine zq_getI K dX2_stepMove_19 zclX2 (k := 9) (by decide) zf_X2_203 rfl hC.x.1 ?_
  refine zq_top hC.x.2.2.1.2.2.2.2.2 ?_
  refine zq_top (v := B.1 18) rfl ?_
  refine zq_iconst K dX2_stepMove_22 (v := nI 1) (by decide) ?_
  refine zq_iadd K dX2_stepMove_23 ?_
  refine zc_p2_9 K dX2_stepMove_24 zf_X2_203 hC hS (fun M hC hS => ?_)
  refine zq_aload_n K dX2_stepMove_27 rfl rfl ?_
  refine zq_getI K dX2_stepMove_28 zclX2 (k := 9) (by decide) zf_X2_203 rfl hC.x.1 ?_
  refine zq_top hC.x.2.2.1.2.2.2.2.2 ?_
  refine zq_top (v := B.1 18 + nI 1) rfl ?_
  refine zq_iconst K dX2_stepMove_31 (v := nI 1) (by decide) ?_
  refine zq_icmp_ne K 42 dX2_stepMove_32 (by decide) (fun h32 => absurd h1 h32) (fun h32 => ?_)
  refine zq_aload_n K dX2_stepMove_35 rfl rfl ?_
  refine zq_callV (As := []) K dX2_stepMove_36 zyX2_recallFrozenNames zm_X2_206 ziX2_recallFrozenNames zvX2_recallFrozenNames zclX2 rfl (by decide) rfl rfl (Nat.le_of_ble_eq_true rfl) (Nat.le_of_ble_eq_true rfl) hC.x.1 (ct_X2_recallFrozenNames (B := (zSt1 B)) hC hF hU (Or.inr ⟨m, hm, hm9⟩)) (zCP_r hS (fun _ _ h => h) (fun M hC hS => ?_)) zCP_x (Nat.le_refl _)
  refine zq_goto K 58 dX2_stepMove_39 (by decide) ?_
  refine zq_aload_n K dX2_stepMove_58 rfl rfl ?_
  refine zq_getI K dX2_stepMove_59 zclX2 (k := 9) (by decide) zf_X2_203 rfl hC.x.1 ?_
  refine zq_top hC.x.2.2.1.2.2.2.2.2 ?_
  refine zq_top (v := B.1 18 + nI 1) (congrFun (zra_sme (zSt1 B) 12).1 18) ?_
  exact zq_iret K dX2_stepMove_62 rfl ⟨rfl, hC, hS⟩
theorem ct_X2_stepMove_2 {G : ZG} {M : ZM} {W : Nat → Nat → Nat} {B : ZA} (hC : zC M W B) (hW : zWf B) {m : Nat} (hm : B.1 16 = nI m) (hm9 : zVal B 9 m) (h1 : ¬ B.1 18 + nI 1 = nI 1) : zMet G mX2_stepMove [.ref (W 10 0)] M (zCP W M B (some (.int (B.1 18 + nI 1))) (zsc (zsa (zSt1 B) 11 m (B.1 17)) 16 (-1))) := by
  refine zbody zyX2_stepMove [some (.ref (W 10 0))] rfl (Nat.le_of_ble_eq_true rfl) (by intro v hv; simp only [List.mem_cons, List.not_mem_nil, or_false] at hv; rcases hv with rfl <;> rfl) (fun E K => ?_)
  obtain ⟨⟨D, hB⟩, hF, hU⟩ := id hW
  have hS : zFm M W B M := zFm.rf
  refine zq_aload_n K dX2_stepMove_0 rfl rfl ?_
  refine zq_getRs K dX2_stepMove_1 zclX2 (k := 7) (by decide) zf_X2_197 rfl hC.x.1 (hC.m1 hm hm9.1) ?_
  refine zq_ifnonnull_r K 17 dX2_stepMove_4 (by decide) ?_
  refine zq_aload_n K dX2_stepMove_17 rfl rfl ?_
  refine zq_dup K dX2_stepMove_18 rfl ?_
  refine zq_getI K dX2_stepMove_19 zclX2 (k := 9) (by decide) zf_X2_203 rfl hC.x.1 ?_
  refine zq_top hC.x.2.2.1.2.2.2.2.2 ?_
  refine zq_top (v := B.1 18) rfl ?_
  refine zq_iconst K dX2_stepMove_22 (v := nI 1) (by decide) ?_
  refine zq_iadd K dX2_stepMove_23 ?_
  refine zc_p2_9 K dX2_stepMove_24 zf_X2_203 hC hS (fun M hC hS => ?_)
  refine zq_aload_n K dX2_stepMove_27 rfl rfl ?_
  refine zq_getI K dX2_stepMove_28 zclX2 (k := 9) (by decide) zf_X2_203 rfl hC.x.1 ?_
  refine zq_top hC.x.2.2.1.2.2.2.2.2 ?_
  refine zq_top (v := B.1 18 + nI 1) rfl ?_
  refine zq_iconst K dX2_stepMove_31 (v := nI 1) (by decide) ?_
  refine zq_icmp_ne K 42 dX2_stepMove_32 (by decide) (fun h32 => ?_) (fun h32 => absurd h32 h1)
  refine zq_aload_n K dX2_stepMove_42 rfl rfl ?_
  refine zq_getRs K dX2_stepMove_43 zclX2 (k := 7) (by decide) zf_X2_197 rfl hC.x.1 (hC.m1 hm hm9.1) ?_
  refine zq_aload_n K dX2_stepMove_46 rfl rfl ?_
  refine zq_getI K dX2_stepMove_47 zclX2 (k := 8) (by decide) zf_X2_209 rfl hC.x.1 ?_
  refine zq_top hC.x.2.2.1.2.2.2.2.1 ?_
  refine zq_top (v := B.1 17) rfl ?_
  refine zc_pown K dX2_stepMove_50 zf_X2_167 hC hS hm9 hm9 (fun M hC hS => ?_)
  refine zq_aload_n K dX2_stepMove_53 rfl rfl ?_
  refine zq_null K dX2_stepMove_54 ?_
  refine zc_pm0 K dX2_stepMove_55 zf_X2_197 hC hS (fun M hC hS => ?_)
  refine zq_aload_n K dX2_stepMove_58 rfl rfl ?_
  refine zq_getI K dX2_stepMove_59 zclX2 (k := 9) (by decide) zf_X2_203 rfl hC.x.1 ?_
  refine zq_top hC.x.2.2.1.2.2.2.2.2 ?_
  refine zq_top (v := B.1 18 + nI 1) rfl ?_
  exact zq_iret K dX2_stepMove_62 rfl ⟨rfl, hC, hS⟩
theorem ct_X2_links_bad {G : ZG} {M : ZM} {W : Nat → Nat → Nat} {B : ZA} (hC : zC M W B) {F : Nat} (hf : B.1 9 = nI F) (hF30 : F ≤ 30) {f : Int32} (h : ¬ zFn F f) : zMet G mX2_links [.ref (W 10 0), .int (f)] M (zthr zIOB M) := by
  refine zbody zyX2_links [some (.ref (W 10 0)), some (.int (f))] rfl (Nat.le_of_ble_eq_true rfl) (by intro v hv; simp only [List.mem_cons, List.not_mem_nil, or_false] at hv; rcases hv with rfl | rfl <;> rfl) (fun E K => ?_)
  refine zq_aload_n K dX2_links_0 rfl rfl ?_
  refine zq_iload_n K dX2_links_1 rfl rfl ?_
  refine zq_callV (As := [.int (f)]) K dX2_links_2 zyX2_needFile zm_X2_87 ziX2_needFile zvX2_needFile zclX2 rfl (by decide) rfl rfl (Nat.le_of_ble_eq_true rfl) (Nat.le_of_ble_eq_true rfl) hC.x.1 (ct_X2_needFile hC hf hF30 f) (znd_r (fun hff => ?_)) (znd_x (fun hff => ?_)) (Nat.le_refl _)
  · exact absurd hff h
  · exact zx_out K ⟨rfl, rfl⟩
theorem ct_X2_links_ok {G : ZG} {M : ZM} {W : Nat → Nat → Nat} {B : ZA} (hC : zC M W B) {F : Nat} (hf : B.1 9 = nI F) (hF30 : F ≤ 30) {f : Int32} (h : zFn F f) : zMet G mX2_links [.ref (W 10 0), .int (f)] M (zone (some (.int (nI (zsm (zkl B f) 12)))) M) := by
  refine zbody zyX2_links [some (.ref (W 10 0)), some (.int (f))] rfl (Nat.le_of_ble_eq_true rfl) (by intro v hv; simp only [List.mem_cons, List.not_mem_nil, or_false] at hv; rcases hv with rfl | rfl <;> rfl) (fun E K => ?_)
  refine zq_aload_n K dX2_links_0 rfl rfl ?_
  refine zq_iload_n K dX2_links_1 rfl rfl ?_
  refine zq_callV (As := [.int (f)]) K dX2_links_2 zyX2_needFile zm_X2_87 ziX2_needFile zvX2_needFile zclX2 rfl (by decide) rfl rfl (Nat.le_of_ble_eq_true rfl) (Nat.le_of_ble_eq_true rfl) hC.x.1 (ct_X2_needFile hC hf hF30 f) (znd_r (fun hff => ?_)) (znd_x (fun hff => ?_)) (Nat.le_refl _)
  · refine zq_aload_n K dX2_links_5 rfl rfl ?_
    refine zq_iload_n K dX2_links_6 rfl rfl ?_
    refine zq_callV (As := [.int (f)]) K dX2_links_7 zyX2_countLinks zm_X2_90 ziX2_countLinks zvX2_countLinks zclX2 rfl (by decide) rfl rfl (Nat.le_of_ble_eq_true rfl) (Nat.le_of_ble_eq_true rfl) hC.x.1 (ct_X2_countLinks hC f) (zone_r ?_) zone_x (Nat.le_refl _)
    exact zq_iret K dX2_links_10 rfl ⟨rfl, rfl⟩
  · exact absurd h hff
theorem ct_X2_anchor_bad {G : ZG} {M : ZM} {W : Nat → Nat → Nat} {B : ZA} (hC : zC M W B) {F : Nat} (hf : B.1 9 = nI F) (hF30 : F ≤ 30) {f : Int32} (h : ¬ zFn F f) : zMet G mX2_anchor [.ref (W 10 0), .int (f)] M (zthr zIOB M) := by
  refine zbody zyX2_anchor [some (.ref (W 10 0)), some (.int (f)), none, none, none, none, none] rfl (Nat.le_of_ble_eq_true rfl) (by intro v hv; simp only [List.mem_cons, List.not_mem_nil, or_false] at hv; rcases hv with rfl | rfl <;> rfl) (fun E K => ?_)
  refine zq_aload_n K dX2_anchor_0 rfl rfl ?_
  refine zq_iload_n K dX2_anchor_1 rfl rfl ?_
  refine zq_callV (As := [.int (f)]) K dX2_anchor_2 zyX2_needFile zm_X2_87 ziX2_needFile zvX2_needFile zclX2 rfl (by decide) rfl rfl (Nat.le_of_ble_eq_true rfl) (Nat.le_of_ble_eq_true rfl) hC.x.1 (ct_X2_needFile hC hf hF30 f) (znd_r (fun hff => ?_)) (znd_x (fun hff => ?_)) (Nat.le_refl _)
  · exact absurd hff h
  · exact zx_out K ⟨rfl, rfl⟩
/-- the oldest of the first k directories: its place and its age -/
def zac (B : ZA) (f : Int32) : Nat → Option (Nat × Int32)
  | 0 => none
  | k + 1 => if B.2 3 k = 1 then (match zOl B k f 50 with
      | none => zac B f k
      | some n => match zac B f k with
        | none => some (100 * k + n, B.2 7 (50 * k + n))
        | some p => if p.2 ≤ B.2 7 (50 * k + n) then some p else some (100 * k + n, B.2 7 (50 * k + n))) else zac B f k
def za1 : Option (Nat × Int32) → Int32
  | none => -1
  | some p => nI p.1
def za2 : Option (Nat × Int32) → Int32
  | none => nI 0
  | some p => p.2
theorem zac_lt {B : ZA} {f : Int32} : ∀ {k : Nat} {p : Nat × Int32}, zac B f k = some p → p.1 < 100 * k
  | 0, _, h => nomatch h
  | k + 1, p, h => by
    unfold zac at h
    split at h
    · split at h
      · have := zac_lt h
        omega
      · rename_i n e
        have hn := zOl_lt e
        split at h
        · cases h
          show 100 * k + n < _
          omega
        · rename_i p' e'
          have := zac_lt e'
          split at h <;> cases h
          · omega
          · show 100 * k + n < _
            omega
    · have := zac_lt h
      omega
theorem lp_X2_anchor {G : ZG} {E : ZE} (K : zOK mX2_anchor [] G E) {M : ZM} {W : Nat → Nat → Nat} {B : ZA} (hC : zC M W B) {f : Int32} {P : ZO → ZM → Prop} (hP : P (.inl (some (.int (za1 (zac B f 12))))) M) : ∀ (m k : Nat) (o5 o6 : Option Value), k + m = 12 → WW E G (zyu mX2_anchor) (zQ E G mX2_anchor P) M 0 12 [some (.ref (W 10 0)), some (.int f), some (.int (za1 (zac B f k))), some (.int (za2 (zac B f k))), some (.int (nI (k))), o5, o6] [] := by
  intro m
  induction m with
  | zero =>
    intro k o5 o6 hk
    have hk4 : k = 12 := by omega
    subst hk4
    refine zq_iload K dX2_anchor_12 rfl ?_
    refine zq_aload_n K dX2_anchor_14 rfl rfl ?_
    refine zq_getRs K dX2_anchor_15 zclX2 (k := 0) (by decide) zf_X2_11 rfl hC.x.1 hC.x.2.1.1 ?_
    refine zq_alen K dX2_anchor_18 hC.dirs.1 (by decide) ?_
    refine zq_top (v := nI 12) (congrArg nI hC.dirs.2.1) ?_
    refine zq_icmp_geN K (x := 12) (y := 12) 90 dX2_anchor_19 (by decide) ⟨by omega, by omega⟩ (fun h19 => ?_) (fun h19 => by omega)
    refine zq_iload_n K dX2_anchor_90 rfl rfl ?_
    exact zq_iret K dX2_anchor_91 rfl hP
  | succ m ih =>
    intro k o5 o6 hk
    have h99 : ∀ (z y : Int32) (o5 o6 : Option Value), za1 (zac B f (k + 1)) = z → za2 (zac B f (k + 1)) = y → WW E G (zyu mX2_anchor) (zQ E G mX2_anchor P) M 0 12 [some (.ref (W 10 0)), some (.int f), some (.int (z)), some (.int (y)), some (.int (nI (k + 1))), o5, o6] [] := by
      intro z y o5 o6 e1 e2
      subst e1
      subst e2
      exact ih (k + 1) o5 o6 (by omega)
    by_cases hl : B.2 3 k = 1
    rotate_left
    · refine zq_iload K dX2_anchor_12 rfl ?_
      refine zq_aload_n K dX2_anchor_14 rfl rfl ?_
      refine zq_getRs K dX2_anchor_15 zclX2 (k := 0) (by decide) zf_X2_11 rfl hC.x.1 hC.x.2.1.1 ?_
      refine zq_alen K dX2_anchor_18 hC.dirs.1 (by decide) ?_
      refine zq_top (v := nI 12) (congrArg nI hC.dirs.2.1) ?_
      refine zq_icmp_geN K (x := k) (y := 12) 90 dX2_anchor_19 (by decide) ⟨by omega, by omega⟩ (fun h19 => by omega) (fun h19 => ?_)
      refine zq_aload_n K dX2_anchor_22 rfl rfl ?_
      refine zq_getRs K dX2_anchor_23 zclX2 (k := 0) (by decide) zf_X2_11 rfl hC.x.1 hC.x.2.1.1 ?_
      refine zq_iload K dX2_anchor_26 rfl ?_
      refine zc_ad0 K (d := k) dX2_anchor_28 hC (show k < 12 by omega) hl rfl ?_
      refine zq_astoreN K dX2_anchor_29 (by decide) ?_
      refine zq_aloadN K dX2_anchor_31 rfl ?_
      refine zq_ifnull_n K 84 dX2_anchor_33 (by decide) ?_
      refine zq_iincN K dX2_anchor_84 rfl (by decide) ?_
      refine zq_goto K 12 dX2_anchor_87 (by decide) ?_
      exact h99 _ _ _ _ (by rw [zac, if_neg hl]) (by rw [zac, if_neg hl])
    have hv : zVal B 3 k := ⟨by omega, hl⟩
    rcases e9 : zOl B k f 50 with _ | n
    · refine zq_iload K dX2_anchor_12 rfl ?_
      refine zq_aload_n K dX2_anchor_14 rfl rfl ?_
      refine zq_getRs K dX2_anchor_15 zclX2 (k := 0) (by decide) zf_X2_11 rfl hC.x.1 hC.x.2.1.1 ?_
      refine zq_alen K dX2_anchor_18 hC.dirs.1 (by decide) ?_
      refine zq_top (v := nI 12) (congrArg nI hC.dirs.2.1) ?_
      refine zq_icmp_geN K (x := k) (y := 12) 90 dX2_anchor_19 (by decide) ⟨by omega, by omega⟩ (fun h19 => by omega) (fun h19 => ?_)
      refine zq_aload_n K dX2_anchor_22 rfl rfl ?_
      refine zq_getRs K dX2_anchor_23 zclX2 (k := 0) (by decide) zf_X2_11 rfl hC.x.1 hC.x.2.1.1 ?_
      refine zq_iload K dX2_anchor_26 rfl ?_
      refine zc_ad1 K (d := k) dX2_anchor_28 hC hv rfl ?_
      refine zq_astore K dX2_anchor_29 (by decide) ?_
      refine zq_aload K dX2_anchor_31 rfl ?_
      refine zq_ifnull_r K dX2_anchor_33 ?_
      refine zq_aload K dX2_anchor_36 rfl ?_
      refine zq_iload_n K dX2_anchor_38 rfl rfl ?_
      refine zq_callV (As := [.int (f)]) K dX2_anchor_39 zyX0_oldestLink zm_X2_222 ziX0_oldestLink zvX0_oldestLink zclX0 rfl (by decide) rfl rfl (Nat.le_of_ble_eq_true rfl) (Nat.le_of_ble_eq_true rfl) (hC.d hv).1 (show zMet G mX0_oldestLink [.ref (W 3 k), .int f] M (zone (some (.int (nI 50))) M) from by have := ct_X0_oldestLink (G := G) hC hv f; rwa [e9] at this) (zone_r ?_) zone_x (Nat.le_refl _)
      refine zq_istore K dX2_anchor_42 (by decide) ?_
      refine zq_iload K dX2_anchor_44 rfl ?_
      refine zq_bipush K dX2_anchor_46 (v := nI 50) (by decide) ?_
      refine zq_icmp_geN K (x := 50) (y := 50) 84 dX2_anchor_48 (by decide) ⟨by omega, by omega⟩ (fun h48 => ?_) (fun h48 => by omega)
      refine zq_iincN K dX2_anchor_84 rfl (by decide) ?_
      refine zq_goto K 12 dX2_anchor_87 (by decide) ?_
      exact h99 _ _ _ _ (by rw [zac, if_pos hl, e9]) (by rw [zac, if_pos hl, e9])
    · have hn := zOl_lt e9
      rcases e8 : zac B f k with _ | p
      · refine zq_iload K dX2_anchor_12 rfl ?_
        refine zq_aload_n K dX2_anchor_14 rfl rfl ?_
        refine zq_getRs K dX2_anchor_15 zclX2 (k := 0) (by decide) zf_X2_11 rfl hC.x.1 hC.x.2.1.1 ?_
        refine zq_alen K dX2_anchor_18 hC.dirs.1 (by decide) ?_
        refine zq_top (v := nI 12) (congrArg nI hC.dirs.2.1) ?_
        refine zq_icmp_geN K (x := k) (y := 12) 90 dX2_anchor_19 (by decide) ⟨by omega, by omega⟩ (fun h19 => by omega) (fun h19 => ?_)
        refine zq_aload_n K dX2_anchor_22 rfl rfl ?_
        refine zq_getRs K dX2_anchor_23 zclX2 (k := 0) (by decide) zf_X2_11 rfl hC.x.1 hC.x.2.1.1 ?_
        refine zq_iload K dX2_anchor_26 rfl ?_
        refine zc_ad1 K (d := k) dX2_anchor_28 hC hv rfl ?_
        refine zq_astore K dX2_anchor_29 (by decide) ?_
        refine zq_aload K dX2_anchor_31 rfl ?_
        refine zq_ifnull_r K dX2_anchor_33 ?_
        refine zq_aload K dX2_anchor_36 rfl ?_
        refine zq_iload_n K dX2_anchor_38 rfl rfl ?_
        refine zq_callV (As := [.int (f)]) K dX2_anchor_39 zyX0_oldestLink zm_X2_222 ziX0_oldestLink zvX0_oldestLink zclX0 rfl (by decide) rfl rfl (Nat.le_of_ble_eq_true rfl) (Nat.le_of_ble_eq_true rfl) (hC.d hv).1 (show zMet G mX0_oldestLink [.ref (W 3 k), .int f] M (zone (some (.int (nI n))) M) from by have := ct_X0_oldestLink (G := G) hC hv f; rwa [e9] at this) (zone_r ?_) zone_x (Nat.le_refl _)
        refine zq_istore K dX2_anchor_42 (by decide) ?_
        refine zq_iload K dX2_anchor_44 rfl ?_
        refine zq_bipush K dX2_anchor_46 (v := nI 50) (by decide) ?_
        refine zq_icmp_geN K (x := n) (y := 50) 84 dX2_anchor_48 (by decide) ⟨by omega, by omega⟩ (fun h48 => by omega) (fun h48 => ?_)
        refine zq_iload_n K dX2_anchor_51 rfl rfl ?_
        refine zq_iconst K dX2_anchor_52 (v := -1) (by decide) ?_
        refine zq_icmp_eq K 67 dX2_anchor_53 (by decide) (fun h53 => ?_) (fun h53 => absurd rfl h53)
        refine zq_bipush K dX2_anchor_67 (v := nI 100) (by decide) ?_
        refine zq_iload K dX2_anchor_69 rfl ?_
        refine zq_imulN K (x := 100) (y := k) dX2_anchor_71 ?_
        refine zq_iload K dX2_anchor_72 rfl ?_
        refine zq_iaddN K (x := (100) * (k)) (y := n) dX2_anchor_74 ?_
        refine zq_istore_n K dX2_anchor_75 rfl (by decide) ?_
        refine zq_aload K dX2_anchor_76 rfl ?_
        refine zq_iload K dX2_anchor_78 rfl ?_
        refine zq_callV (As := [.int (nI (n))]) K dX2_anchor_80 zyX0_ageOf zm_X2_120 ziX0_ageOf zvX0_ageOf zclX0 rfl (by decide) rfl rfl (Nat.le_of_ble_eq_true rfl) (Nat.le_of_ble_eq_true rfl) (hC.d hv).1 (ct_X0_ageOf hC hv hn) (zone_r ?_) zone_x (Nat.le_refl _)
        refine zq_istore_n K dX2_anchor_83 rfl (by decide) ?_
        refine zq_iincN K dX2_anchor_84 rfl (by decide) ?_
        refine zq_goto K 12 dX2_anchor_87 (by decide) ?_
        exact h99 _ _ _ _ (by rw [zac, if_pos hl, e9]; dsimp only; rw [e8]; rfl) (by rw [zac, if_pos hl, e9]; dsimp only; rw [e8]; rfl)
      · refine zq_iload K dX2_anchor_12 rfl ?_
        refine zq_aload_n K dX2_anchor_14 rfl rfl ?_
        refine zq_getRs K dX2_anchor_15 zclX2 (k := 0) (by decide) zf_X2_11 rfl hC.x.1 hC.x.2.1.1 ?_
        refine zq_alen K dX2_anchor_18 hC.dirs.1 (by decide) ?_
        refine zq_top (v := nI 12) (congrArg nI hC.dirs.2.1) ?_
        refine zq_icmp_geN K (x := k) (y := 12) 90 dX2_anchor_19 (by decide) ⟨by omega, by omega⟩ (fun h19 => by omega) (fun h19 => ?_)
        refine zq_aload_n K dX2_anchor_22 rfl rfl ?_
        refine zq_getRs K dX2_anchor_23 zclX2 (k := 0) (by decide) zf_X2_11 rfl hC.x.1 hC.x.2.1.1 ?_
        refine zq_iload K dX2_anchor_26 rfl ?_
        refine zc_ad1 K (d := k) dX2_anchor_28 hC hv rfl ?_
        refine zq_astore K dX2_anchor_29 (by decide) ?_
        refine zq_aload K dX2_anchor_31 rfl ?_
        refine zq_ifnull_r K dX2_anchor_33 ?_
        refine zq_aload K dX2_anchor_36 rfl ?_
        refine zq_iload_n K dX2_anchor_38 rfl rfl ?_
        refine zq_callV (As := [.int (f)]) K dX2_anchor_39 zyX0_oldestLink zm_X2_222 ziX0_oldestLink zvX0_oldestLink zclX0 rfl (by decide) rfl rfl (Nat.le_of_ble_eq_true rfl) (Nat.le_of_ble_eq_true rfl) (hC.d hv).1 (show zMet G mX0_oldestLink [.ref (W 3 k), .int f] M (zone (some (.int (nI n))) M) from by have := ct_X0_oldestLink (G := G) hC hv f; rwa [e9] at this) (zone_r ?_) zone_x (Nat.le_refl _)
        refine zq_istore K dX2_anchor_42 (by decide) ?_
        refine zq_iload K dX2_anchor_44 rfl ?_
        refine zq_bipush K dX2_anchor_46 (v := nI 50) (by decide) ?_
        refine zq_icmp_geN K (x := n) (y := 50) 84 dX2_anchor_48 (by decide) ⟨by omega, by omega⟩ (fun h48 => by omega) (fun h48 => ?_)
        refine zq_iload_n K dX2_anchor_51 rfl rfl ?_
        refine zq_iconst K dX2_anchor_52 (v := -1) (by decide) ?_
        refine zq_icmp_eq K 67 dX2_anchor_53 (by decide) (fun h53 => absurd h53 (nI_ne1 (by have := zac_lt e8; omega))) (fun h53 => ?_)
        refine zq_aload K dX2_anchor_56 rfl ?_
        refine zq_iload K dX2_anchor_58 rfl ?_
        refine zq_callV (As := [.int (nI (n))]) K dX2_anchor_60 zyX0_ageOf zm_X2_120 ziX0_ageOf zvX0_ageOf zclX0 rfl (by decide) rfl rfl (Nat.le_of_ble_eq_true rfl) (Nat.le_of_ble_eq_true rfl) (hC.d hv).1 (ct_X0_ageOf hC hv hn) (zone_r ?_) zone_x (Nat.le_refl _)
        refine zq_iload_n K dX2_anchor_63 rfl rfl ?_
        refine zq_icmp_ge K 84 dX2_anchor_64 (by decide) (fun h64 => ?_) (fun h64 => ?_)
        · refine zq_iincN K dX2_anchor_84 rfl (by decide) ?_
          refine zq_goto K 12 dX2_anchor_87 (by decide) ?_
          exact h99 _ _ _ _ (by rw [zac, if_pos hl, e9]; dsimp only; rw [e8]; dsimp only; rw [if_pos (show p.2 ≤ B.2 7 (50 * k + n) from h64)]) (by rw [zac, if_pos hl, e9]; dsimp only; rw [e8]; dsimp only; rw [if_pos (show p.2 ≤ B.2 7 (50 * k + n) from h64)])
        · refine zq_bipush K dX2_anchor_67 (v := nI 100) (by decide) ?_
          refine zq_iload K dX2_anchor_69 rfl ?_
          refine zq_imulN K (x := 100) (y := k) dX2_anchor_71 ?_
          refine zq_iload K dX2_anchor_72 rfl ?_
          refine zq_iaddN K (x := (100) * (k)) (y := n) dX2_anchor_74 ?_
          refine zq_istore_n K dX2_anchor_75 rfl (by decide) ?_
          refine zq_aload K dX2_anchor_76 rfl ?_
          refine zq_iload K dX2_anchor_78 rfl ?_
          refine zq_callV (As := [.int (nI (n))]) K dX2_anchor_80 zyX0_ageOf zm_X2_120 ziX0_ageOf zvX0_ageOf zclX0 rfl (by decide) rfl rfl (Nat.le_of_ble_eq_true rfl) (Nat.le_of_ble_eq_true rfl) (hC.d hv).1 (ct_X0_ageOf hC hv hn) (zone_r ?_) zone_x (Nat.le_refl _)
          refine zq_istore_n K dX2_anchor_83 rfl (by decide) ?_
          refine zq_iincN K dX2_anchor_84 rfl (by decide) ?_
          refine zq_goto K 12 dX2_anchor_87 (by decide) ?_
          exact h99 _ _ _ _ (by rw [zac, if_pos hl, e9]; dsimp only; rw [e8]; dsimp only; rw [if_neg (show ¬ p.2 ≤ B.2 7 (50 * k + n) from h64)]; rfl) (by rw [zac, if_pos hl, e9]; dsimp only; rw [e8]; dsimp only; rw [if_neg (show ¬ p.2 ≤ B.2 7 (50 * k + n) from h64)]; rfl)
theorem ct_X2_anchor_ok {G : ZG} {M : ZM} {W : Nat → Nat → Nat} {B : ZA} (hC : zC M W B) {F : Nat} (hf : B.1 9 = nI F) (hF30 : F ≤ 30) {f : Int32} (h : zFn F f) : zMet G mX2_anchor [.ref (W 10 0), .int (f)] M (zone (some (.int (za1 (zac B f 12)))) M) := by
  refine zbody zyX2_anchor [some (.ref (W 10 0)), some (.int (f)), none, none, none, none, none] rfl (Nat.le_of_ble_eq_true rfl) (by intro v hv; simp only [List.mem_cons, List.not_mem_nil, or_false] at hv; rcases hv with rfl | rfl <;> rfl) (fun E K => ?_)
  refine zq_aload_n K dX2_anchor_0 rfl rfl ?_
  refine zq_iload_n K dX2_anchor_1 rfl rfl ?_
  refine zq_callV (As := [.int (f)]) K dX2_anchor_2 zyX2_needFile zm_X2_87 ziX2_needFile zvX2_needFile zclX2 rfl (by decide) rfl rfl (Nat.le_of_ble_eq_true rfl) (Nat.le_of_ble_eq_true rfl) hC.x.1 (ct_X2_needFile hC hf hF30 f) (znd_r (fun hff => ?_)) (znd_x (fun hff => ?_)) (Nat.le_refl _)
  · refine zq_iconst K dX2_anchor_5 (v := -1) (by decide) ?_
    refine zq_istore_n K dX2_anchor_6 rfl (by decide) ?_
    refine zq_iconst K dX2_anchor_7 (v := nI 0) (by decide) ?_
    refine zq_istore_n K dX2_anchor_8 rfl (by decide) ?_
    refine zq_iconst K dX2_anchor_9 (v := nI 0) (by decide) ?_
    refine zq_istore K dX2_anchor_10 (by decide) ?_
    exact lp_X2_anchor K hC ⟨rfl, rfl⟩ 12 0 none none rfl
  · exact absurd h hff

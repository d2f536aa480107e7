/-! the class: calls of clients -/
def zen : Nat → String
  | 1 => zIAE
  | 2 => zIOB
  | _ => zISE
theorem ct_X2_lookup_bad {G : ZG} {M : ZM} {W : Nat → Nat → Nat} {B : ZA} (hC : zC M W B) {c d n : Int32} {k : Nat} (hk : zBad B c d n k) : zMet G mX2_lookup [.ref (W 10 0), .int (c), .int (d), .int (n)] M (zthr (zen k) M) := by
  refine zbody zyX2_lookup [some (.ref (W 10 0)), some (.int (c)), some (.int (d)), some (.int (n)), none] rfl (Nat.le_of_ble_eq_true rfl) (by intro v hv; simp only [List.mem_cons, List.not_mem_nil, or_false] at hv; rcases hv with rfl | rfl | rfl | rfl <;> rfl) (fun E K => ?_)
  refine zq_iload_n K dX2_lookup_0 rfl rfl ?_
  refine zq_callS (As := [.int (c)]) K dX2_lookup_1 zyX2_needClient zm_X2_29 zsX2_needClient rfl (by decide) rfl rfl (Nat.le_of_ble_eq_true rfl) (Nat.le_of_ble_eq_true rfl) (ct_X2_needClient c M) (znd_r (fun hc => ?_)) (znd_x (fun hc => ?_)) (Nat.le_refl _)
  · refine zq_iload_n K dX2_lookup_4 rfl rfl ?_
    refine zq_callS (As := [.int (n)]) K dX2_lookup_5 zyX2_needName zm_X2_33 zsX2_needName rfl (by decide) rfl rfl (Nat.le_of_ble_eq_true rfl) (Nat.le_of_ble_eq_true rfl) (ct_X2_needName n M) (znd_r (fun hn => ?_)) (znd_x (fun hn => ?_)) (Nat.le_refl _)
    · refine zq_aload_n K dX2_lookup_8 rfl rfl ?_
      refine zq_iload_n K dX2_lookup_9 rfl rfl ?_
      obtain ⟨rfl, hnd⟩ : k = 2 ∧ ¬ zIsD B d := by
        rcases hk with ⟨-, h1⟩ | ⟨e, -, -, h1⟩
        · exact absurd ⟨hc, hn⟩ h1
        · exact ⟨e, h1⟩
      refine zq_callV (As := [.int (d)]) K dX2_lookup_10 zyX2_needDirectory zm_X2_36 ziX2_needDirectory zvX2_needDirectory zclX2 rfl (by decide) rfl rfl (Nat.le_of_ble_eq_true rfl) (Nat.le_of_ble_eq_true rfl) hC.x.1 (ct_X2_needDirectory_0 hC hnd) zthr_r (zthr_x ?_) (Nat.le_refl _)
      exact zx_out K ⟨rfl, rfl⟩
    · rcases hk with ⟨rfl, -⟩ | ⟨-, -, h1, -⟩
      · exact zx_out K ⟨rfl, rfl⟩
      · exact absurd h1 hn
  · rcases hk with ⟨rfl, -⟩ | ⟨-, h1, -⟩
    · exact zx_out K ⟨rfl, rfl⟩
    · exact absurd h1 hc
theorem ct_X2_makeDirectory_bad {G : ZG} {M : ZM} {W : Nat → Nat → Nat} {B : ZA} (hC : zC M W B) {c d n : Int32} {k : Nat} (hk : zBad B c d n k) : zMet G mX2_makeDirectory [.ref (W 10 0), .int (c), .int (d), .int (n)] M (zthr (zen k) M) := by
  refine zbody zyX2_makeDirectory [some (.ref (W 10 0)), some (.int (c)), some (.int (d)), some (.int (n)), none, none] rfl (Nat.le_of_ble_eq_true rfl) (by intro v hv; simp only [List.mem_cons, List.not_mem_nil, or_false] at hv; rcases hv with rfl | rfl | rfl | rfl <;> rfl) (fun E K => ?_)
  refine zq_iload_n K dX2_makeDirectory_0 rfl rfl ?_
  refine zq_callS (As := [.int (c)]) K dX2_makeDirectory_1 zyX2_needClient zm_X2_29 zsX2_needClient rfl (by decide) rfl rfl (Nat.le_of_ble_eq_true rfl) (Nat.le_of_ble_eq_true rfl) (ct_X2_needClient c M) (znd_r (fun hc => ?_)) (znd_x (fun hc => ?_)) (Nat.le_refl _)
  · refine zq_iload_n K dX2_makeDirectory_4 rfl rfl ?_
    refine zq_callS (As := [.int (n)]) K dX2_makeDirectory_5 zyX2_needName zm_X2_33 zsX2_needName rfl (by decide) rfl rfl (Nat.le_of_ble_eq_true rfl) (Nat.le_of_ble_eq_true rfl) (ct_X2_needName n M) (znd_r (fun hn => ?_)) (znd_x (fun hn => ?_)) (Nat.le_refl _)
    · refine zq_aload_n K dX2_makeDirectory_8 rfl rfl ?_
      refine zq_iload_n K dX2_makeDirectory_9 rfl rfl ?_
      obtain ⟨rfl, hnd⟩ : k = 2 ∧ ¬ zIsD B d := by
        rcases hk with ⟨-, h1⟩ | ⟨e, -, -, h1⟩
        · exact absurd ⟨hc, hn⟩ h1
        · exact ⟨e, h1⟩
      refine zq_callV (As := [.int (d)]) K dX2_makeDirectory_10 zyX2_needDirectory zm_X2_36 ziX2_needDirectory zvX2_needDirectory zclX2 rfl (by decide) rfl rfl (Nat.le_of_ble_eq_true rfl) (Nat.le_of_ble_eq_true rfl) hC.x.1 (ct_X2_needDirectory_0 hC hnd) zthr_r (zthr_x ?_) (Nat.le_refl _)
      exact zx_out K ⟨rfl, rfl⟩
    · rcases hk with ⟨rfl, -⟩ | ⟨-, -, h1, -⟩
      · exact zx_out K ⟨rfl, rfl⟩
      · exact absurd h1 hn
  · rcases hk with ⟨rfl, -⟩ | ⟨-, h1, -⟩
    · exact zx_out K ⟨rfl, rfl⟩
    · exact absurd h1 hc
theorem ct_X2_makeFile_bad {G : ZG} {M : ZM} {W : Nat → Nat → Nat} {B : ZA} (hC : zC M W B) {c d n : Int32} {k : Nat} (hk : zBad B c d n k) : zMet G mX2_makeFile [.ref (W 10 0), .int (c), .int (d), .int (n)] M (zthr (zen k) M) := by
  refine zbody zyX2_makeFile [some (.ref (W 10 0)), some (.int (c)), some (.int (d)), some (.int (n)), none, none] rfl (Nat.le_of_ble_eq_true rfl) (by intro v hv; simp only [List.mem_cons, List.not_mem_nil, or_false] at hv; rcases hv with rfl | rfl | rfl | rfl <;> rfl) (fun E K => ?_)
  refine zq_iload_n K dX2_makeFile_0 rfl rfl ?_
  refine zq_callS (As := [.int (c)]) K dX2_makeFile_1 zyX2_needClient zm_X2_29 zsX2_needClient rfl (by decide) rfl rfl (Nat.le_of_ble_eq_true rfl) (Nat.le_of_ble_eq_true rfl) (ct_X2_needClient c M) (znd_r (fun hc => ?_)) (znd_x (fun hc => ?_)) (Nat.le_refl _)
  · refine zq_iload_n K dX2_makeFile_4 rfl rfl ?_
    refine zq_callS (As := [.int (n)]) K dX2_makeFile_5 zyX2_needName zm_X2_33 zsX2_needName rfl (by decide) rfl rfl (Nat.le_of_ble_eq_true rfl) (Nat.le_of_ble_eq_true rfl) (ct_X2_needName n M) (znd_r (fun hn => ?_)) (znd_x (fun hn => ?_)) (Nat.le_refl _)
    · refine zq_aload_n K dX2_makeFile_8 rfl rfl ?_
      refine zq_iload_n K dX2_makeFile_9 rfl rfl ?_
      obtain ⟨rfl, hnd⟩ : k = 2 ∧ ¬ zIsD B d := by
        rcases hk with ⟨-, h1⟩ | ⟨e, -, -, h1⟩
        · exact absurd ⟨hc, hn⟩ h1
        · exact ⟨e, h1⟩
      refine zq_callV (As := [.int (d)]) K dX2_makeFile_10 zyX2_needDirectory zm_X2_36 ziX2_needDirectory zvX2_needDirectory zclX2 rfl (by decide) rfl rfl (Nat.le_of_ble_eq_true rfl) (Nat.le_of_ble_eq_true rfl) hC.x.1 (ct_X2_needDirectory_0 hC hnd) zthr_r (zthr_x ?_) (Nat.le_refl _)
      exact zx_out K ⟨rfl, rfl⟩
    · rcases hk with ⟨rfl, -⟩ | ⟨-, -, h1, -⟩
      · exact zx_out K ⟨rfl, rfl⟩
      · exact absurd h1 hn
  · rcases hk with ⟨rfl, -⟩ | ⟨-, h1, -⟩
    · exact zx_out K ⟨rfl, rfl⟩
    · exact absurd h1 hc
theorem ct_X2_remove_bad {G : ZG} {M : ZM} {W : Nat → Nat → Nat} {B : ZA} (hC : zC M W B) {c d n : Int32} {k : Nat} (hk : zBad B c d n k) : zMet G mX2_remove [.ref (W 10 0), .int (c), .int (d), .int (n)] M (zthr (zen k) M) := by
  refine zbody zyX2_remove [some (.ref (W 10 0)), some (.int (c)), some (.int (d)), some (.int (n)), none, none, none] rfl (Nat.le_of_ble_eq_true rfl) (by intro v hv; simp only [List.mem_cons, List.not_mem_nil, or_false] at hv; rcases hv with rfl | rfl | rfl | rfl <;> rfl) (fun E K => ?_)
  refine zq_iload_n K dX2_remove_0 rfl rfl ?_
  refine zq_callS (As := [.int (c)]) K dX2_remove_1 zyX2_needClient zm_X2_29 zsX2_needClient rfl (by decide) rfl rfl (Nat.le_of_ble_eq_true rfl) (Nat.le_of_ble_eq_true rfl) (ct_X2_needClient c M) (znd_r (fun hc => ?_)) (znd_x (fun hc => ?_)) (Nat.le_refl _)
  · refine zq_iload_n K dX2_remove_4 rfl rfl ?_
    refine zq_callS (As := [.int (n)]) K dX2_remove_5 zyX2_needName zm_X2_33 zsX2_needName rfl (by decide) rfl rfl (Nat.le_of_ble_eq_true rfl) (Nat.le_of_ble_eq_true rfl) (ct_X2_needName n M) (znd_r (fun hn => ?_)) (znd_x (fun hn => ?_)) (Nat.le_refl _)
    · refine zq_aload_n K dX2_remove_8 rfl rfl ?_
      refine zq_iload_n K dX2_remove_9 rfl rfl ?_
      obtain ⟨rfl, hnd⟩ : k = 2 ∧ ¬ zIsD B d := by
        rcases hk with ⟨-, h1⟩ | ⟨e, -, -, h1⟩
        · exact absurd ⟨hc, hn⟩ h1
        · exact ⟨e, h1⟩
      refine zq_callV (As := [.int (d)]) K dX2_remove_10 zyX2_needDirectory zm_X2_36 ziX2_needDirectory zvX2_needDirectory zclX2 rfl (by decide) rfl rfl (Nat.le_of_ble_eq_true rfl) (Nat.le_of_ble_eq_true rfl) hC.x.1 (ct_X2_needDirectory_0 hC hnd) zthr_r (zthr_x ?_) (Nat.le_refl _)
      exact zx_out K ⟨rfl, rfl⟩
    · rcases hk with ⟨rfl, -⟩ | ⟨-, -, h1, -⟩
      · exact zx_out K ⟨rfl, rfl⟩
      · exact absurd h1 hn
  · rcases hk with ⟨rfl, -⟩ | ⟨-, h1, -⟩
    · exact zx_out K ⟨rfl, rfl⟩
    · exact absurd h1 hc
theorem ct_X2_link_bad {G : ZG} {M : ZM} {W : Nat → Nat → Nat} {B : ZA} (hC : zC M W B) {c d n : Int32} {k : Nat} (hk : zBad B c d n k) (f : Int32) : zMet G mX2_link [.ref (W 10 0), .int (c), .int (d), .int (n), .int (f)] M (zthr (zen k) M) := by
  refine zbody zyX2_link [some (.ref (W 10 0)), some (.int (c)), some (.int (d)), some (.int (n)), some (.int (f)), none, none] rfl (Nat.le_of_ble_eq_true rfl) (by intro v hv; simp only [List.mem_cons, List.not_mem_nil, or_false] at hv; rcases hv with rfl | rfl | rfl | rfl | rfl <;> rfl) (fun E K => ?_)
  refine zq_iload_n K dX2_link_0 rfl rfl ?_
  refine zq_callS (As := [.int (c)]) K dX2_link_1 zyX2_needClient zm_X2_29 zsX2_needClient rfl (by decide) rfl rfl (Nat.le_of_ble_eq_true rfl) (Nat.le_of_ble_eq_true rfl) (ct_X2_needClient c M) (znd_r (fun hc => ?_)) (znd_x (fun hc => ?_)) (Nat.le_refl _)
  · refine zq_iload_n K dX2_link_4 rfl rfl ?_
    refine zq_callS (As := [.int (n)]) K dX2_link_5 zyX2_needName zm_X2_33 zsX2_needName rfl (by decide) rfl rfl (Nat.le_of_ble_eq_true rfl) (Nat.le_of_ble_eq_true rfl) (ct_X2_needName n M) (znd_r (fun hn => ?_)) (znd_x (fun hn => ?_)) (Nat.le_refl _)
    · refine zq_aload_n K dX2_link_8 rfl rfl ?_
      refine zq_iload_n K dX2_link_9 rfl rfl ?_
      obtain ⟨rfl, hnd⟩ : k = 2 ∧ ¬ zIsD B d := by
        rcases hk with ⟨-, h1⟩ | ⟨e, -, -, h1⟩
        · exact absurd ⟨hc, hn⟩ h1
        · exact ⟨e, h1⟩
      refine zq_callV (As := [.int (d)]) K dX2_link_10 zyX2_needDirectory zm_X2_36 ziX2_needDirectory zvX2_needDirectory zclX2 rfl (by decide) rfl rfl (Nat.le_of_ble_eq_true rfl) (Nat.le_of_ble_eq_true rfl) hC.x.1 (ct_X2_needDirectory_0 hC hnd) zthr_r (zthr_x ?_) (Nat.le_refl _)
      exact zx_out K ⟨rfl, rfl⟩
    · rcases hk with ⟨rfl, -⟩ | ⟨-, -, h1, -⟩
      · exact zx_out K ⟨rfl, rfl⟩
      · exact absurd h1 hn
  · rcases hk with ⟨rfl, -⟩ | ⟨-, h1, -⟩
    · exact zx_out K ⟨rfl, rfl⟩
    · exact absurd h1 hc
theorem ct_X2_lookup_ok {G : ZG} {M : ZM} {W : Nat → Nat → Nat} {B : ZA} (hC : zC M W B) (hW : zWf B) {c d n : Nat} (hc : c < 4) (hv : zVal B 3 d) (hn : n < 50) : zMet G mX2_lookup [.ref (W 10 0), .int (nI (c)), .int (nI (d)), .int (nI (n))] M (zCP W M B (some (.int (B.2 6 (50 * d + n)))) (zLk B c d n)) := by
  refine zbody zyX2_lookup [some (.ref (W 10 0)), some (.int (nI (c))), some (.int (nI (d))), some (.int (nI (n))), none] rfl (Nat.le_of_ble_eq_true rfl) (by intro v hv; simp only [List.mem_cons, List.not_mem_nil, or_false] at hv; rcases hv with rfl | rfl | rfl | rfl <;> rfl) (fun E K => ?_)
  obtain ⟨⟨D, hB⟩, hF, hU⟩ := id hW
  have hS : zFm M W B M := zFm.rf
  refine zq_iload_n K dX2_lookup_0 rfl rfl ?_
  refine zq_callS (As := [.int (nI (c))]) K dX2_lookup_1 zyX2_needClient zm_X2_29 zsX2_needClient rfl (by decide) rfl rfl (Nat.le_of_ble_eq_true rfl) (Nat.le_of_ble_eq_true rfl) (ct_X2_needClient (nI c) M) (znd_r (fun hc9 => ?_)) (znd_x (fun hc9 => ?_)) (Nat.le_refl _)
  · refine zq_iload_n K dX2_lookup_4 rfl rfl ?_
    refine zq_callS (As := [.int (nI (n))]) K dX2_lookup_5 zyX2_needName zm_X2_33 zsX2_needName rfl (by decide) rfl rfl (Nat.le_of_ble_eq_true rfl) (Nat.le_of_ble_eq_true rfl) (ct_X2_needName (nI n) M) (znd_r (fun hn9 => ?_)) (znd_x (fun hn9 => ?_)) (Nat.le_refl _)
    · refine zq_aload_n K dX2_lookup_8 rfl rfl ?_
      refine zq_iload_n K dX2_lookup_9 rfl rfl ?_
      refine zq_callV (As := [.int (nI (d))]) K dX2_lookup_10 zyX2_needDirectory zm_X2_36 ziX2_needDirectory zvX2_needDirectory zclX2 rfl (by decide) rfl rfl (Nat.le_of_ble_eq_true rfl) (Nat.le_of_ble_eq_true rfl) hC.x.1 (ct_X2_needDirectory_1 hC hv) (zone_r ?_) zone_x (Nat.le_refl _)
      refine zq_astore K dX2_lookup_13 (by decide) ?_
      refine zq_aload K dX2_lookup_15 rfl ?_
      refine zq_iload_n K dX2_lookup_17 rfl rfl ?_
      refine zq_iload_n K dX2_lookup_18 rfl rfl ?_
      refine zq_aload_n K dX2_lookup_19 rfl rfl ?_
      refine zq_getI K dX2_lookup_20 zclX2 (k := 4) (by decide) zf_X2_40 rfl hC.x.1 ?_
      refine zq_top hC.x.2.2.1.2.2.2.1 ?_
      refine zq_callV (As := [.int (nI (c)), .int (nI (n)), .int (B.1 1)]) K dX2_lookup_23 zyX0_leaseRuns zm_X2_43 ziX0_leaseRuns zvX0_leaseRuns zclX0 rfl (by decide) rfl rfl (Nat.le_of_ble_eq_true rfl) (Nat.le_of_ble_eq_true rfl) (hC.d hv).1 (ct_X0_leaseRuns hC hv hc hn (B.1 1)) (zdec_r (fun hr => ?_) (fun hr => ?_)) zdec_x (Nat.le_refl _)
      · refine zq_if_eqN K (x := 1) 42 dX2_lookup_26 (by decide) (by omega) (fun h26 => by omega) (fun h26 => ?_)
        refine zq_aload_n K dX2_lookup_29 rfl rfl ?_
        refine zq_getRs K dX2_lookup_30 zclX2 (k := 6) (by decide) zf_X2_19 rfl hC.x.1 hC.x.2.1.2.2 ?_
        refine zq_iload_n K dX2_lookup_33 rfl rfl ?_
        refine zq_dup2 K dX2_lookup_34 rfl rfl ?_
        refine zc_ldcnt K (z := 2) (c := c) dX2_lookup_35 hC (by decide) rfl (by omega) ?_
        refine zq_top (v := B.2 15 c) rfl ?_
        refine zq_iconst K dX2_lookup_36 (v := nI 1) (by decide) ?_
        refine zq_iadd K dX2_lookup_37 ?_
        refine zc_stkno K (c := c) dX2_lookup_38 hC hS rfl (by omega) (fun M hC hS => ?_)
        refine zq_goto K 71 dX2_lookup_39 (by decide) ?_
        refine zq_aload K dX2_lookup_71 rfl ?_
        refine zq_iload_n K dX2_lookup_73 rfl rfl ?_
        refine zq_callV (As := [.int (nI (n))]) K dX2_lookup_74 zyX0_meaningOf zm_X2_60 ziX0_meaningOf zvX0_meaningOf zclX0 rfl (by decide) rfl rfl (Nat.le_of_ble_eq_true rfl) (Nat.le_of_ble_eq_true rfl) (hC.d hv).1 (ct_X0_meaningOf (B := zsa B 15 c (B.2 15 c + nI 1)) hC hv hn) (zone_r ?_) zone_x (Nat.le_refl _)
        exact zq_iret K dX2_lookup_77 rfl ⟨rfl, by rw [zLk, if_pos hr]; exact hC, hS⟩
      · refine zq_if_eqN K (x := 0) 42 dX2_lookup_26 (by decide) (by omega) (fun h26 => ?_) (fun h26 => by omega)
        refine zq_aload K dX2_lookup_42 rfl ?_
        refine zq_iload_n K dX2_lookup_44 rfl rfl ?_
        refine zq_callV (As := [.int (nI (n))]) K dX2_lookup_45 zyX0_fragmentOfName zm_X2_47 ziX0_fragmentOfName zvX0_fragmentOfName zclX0 rfl (by decide) rfl rfl (Nat.le_of_ble_eq_true rfl) (Nat.le_of_ble_eq_true rfl) (hC.d hv).1 (ct_X0_fragmentOfName (B := B) hC hv hn) (zone_r ?_) zone_x (Nat.le_refl _)
        refine zq_dup K dX2_lookup_48 rfl ?_
        refine zq_getI K dX2_lookup_49 zclX1 (k := 4) (by decide) zf_X2_51 rfl (hC.f (zVal.nm hF hv hn)).1 ?_
        refine zq_top (hC.f (zVal.nm hF hv hn)).2.2.2.2.2 ?_
        refine zq_top (v := B.2 12 (zfn B d n)) rfl ?_
        refine zq_iconst K dX2_lookup_52 (v := nI 1) (by decide) ?_
        refine zq_iadd K dX2_lookup_53 ?_
        refine zc_pload K dX2_lookup_54 zf_X2_51 hC hS (zVal.nm hF hv hn) (zVal.nm hF hv hn) (fun M hC hS => ?_)
        refine zq_aload K dX2_lookup_57 rfl ?_
        refine zq_iload_n K dX2_lookup_59 rfl rfl ?_
        refine zq_iload_n K dX2_lookup_60 rfl rfl ?_
        refine zq_aload_n K dX2_lookup_61 rfl rfl ?_
        refine zq_getI K dX2_lookup_62 zclX2 (k := 4) (by decide) zf_X2_40 rfl hC.x.1 ?_
        refine zq_top hC.x.2.2.1.2.2.2.1 ?_
        refine zq_top (v := B.1 1) rfl ?_
        refine zq_bipush K dX2_lookup_65 (v := nI 10) (by decide) ?_
        refine zq_iadd K dX2_lookup_67 ?_
        refine zq_callV (As := [.int (nI (c)), .int (nI (n)), .int ((B.1 1) + (nI (10)))]) K dX2_lookup_68 zyX0_setLeaseEnd zm_X2_56 ziX0_setLeaseEnd zvX0_setLeaseEnd zclX0 rfl (by decide) rfl rfl (Nat.le_of_ble_eq_true rfl) (Nat.le_of_ble_eq_true rfl) (hC.d hv).1 (ct_X0_setLeaseEnd (B := zsa B 12 (zfn B d n) (B.2 12 (zfn B d n) + nI 1)) hC hv hc hn (B.1 1 + nI 10)) (zCP_r hS (fun _ _ h => h) (fun M hC hS => ?_)) zCP_x (Nat.le_refl _)
        refine zq_aload K dX2_lookup_71 rfl ?_
        refine zq_iload_n K dX2_lookup_73 rfl rfl ?_
        refine zq_callV (As := [.int (nI (n))]) K dX2_lookup_74 zyX0_meaningOf zm_X2_60 ziX0_meaningOf zvX0_meaningOf zclX0 rfl (by decide) rfl rfl (Nat.le_of_ble_eq_true rfl) (Nat.le_of_ble_eq_true rfl) (hC.d hv).1 (ct_X0_meaningOf (B := zsa (zsa B 12 (zfn B d n) (B.2 12 (zfn B d n) + nI 1)) 13 (600 * c + (50 * d + n)) (B.1 1 + nI 10)) hC hv hn) (zone_r ?_) zone_x (Nat.le_refl _)
        exact zq_iret K dX2_lookup_77 rfl ⟨rfl, by rw [zLk, if_neg hr]; exact hC, hS⟩
    · exact absurd ⟨n, by omega, rfl⟩ hn9
  · exact absurd ⟨c, by omega, rfl⟩ hc9
/-- a new link -/
def zcl1 (B : ZA) (c : Int32) (d n : Nat) (f : Int32) : ZA := zcn (zsc B 8 (B.1 8 + nI 1)) c d n f (B.1 8 + nI 1)
theorem ct_X2_makeLink {G : ZG} {M : ZM} {W : Nat → Nat → Nat} {B : ZA} (hC : zC M W B) {d : Nat} (hv : zVal B 3 d) (hF : zFr B) {n : Nat} (hn : n < 50) (c f : Int32) : zMet G mX2_makeLink [.ref (W 10 0), .int (c), .ref (W 3 (d)), .int (nI (n)), .int (f)] M (zCP W M B none (zcl1 B c d n f)) := by
  refine zbody zyX2_makeLink [some (.ref (W 10 0)), some (.int (c)), some (.ref (W 3 (d))), some (.int (nI (n))), some (.int (f))] rfl (Nat.le_of_ble_eq_true rfl) (by intro v hv; simp only [List.mem_cons, List.not_mem_nil, or_false] at hv; rcases hv with rfl | rfl | rfl | rfl | rfl <;> rfl) (fun E K => ?_)
  have hS : zFm M W B M := zFm.rf
  refine zq_aload_n K dX2_makeLink_0 rfl rfl ?_
  refine zq_dup K dX2_makeLink_1 rfl ?_
  refine zq_getI K dX2_makeLink_2 zclX2 (k := 3) (by decide) zf_X2_253 rfl hC.x.1 ?_
  refine zq_top hC.x.2.2.1.2.2.1 ?_
  refine zq_top (v := B.1 8) rfl ?_
  refine zq_iconst K dX2_makeLink_5 (v := nI 1) (by decide) ?_
  refine zq_iadd K dX2_makeLink_6 ?_
  refine zc_p2_3 K dX2_makeLink_7 zf_X2_253 hC hS (fun M hC hS => ?_)
  refine zq_aload_n K dX2_makeLink_10 rfl rfl ?_
  refine zq_iload_n K dX2_makeLink_11 rfl rfl ?_
  refine zq_aload_n K dX2_makeLink_12 rfl rfl ?_
  refine zq_iload_n K dX2_makeLink_13 rfl rfl ?_
  refine zq_iload K dX2_makeLink_14 rfl ?_
  refine zq_aload_n K dX2_makeLink_16 rfl rfl ?_
  refine zq_getI K dX2_makeLink_17 zclX2 (k := 3) (by decide) zf_X2_253 rfl hC.x.1 ?_
  refine zq_top hC.x.2.2.1.2.2.1 ?_
  refine zq_top (v := B.1 8 + nI 1) rfl ?_
  refine zq_callV (As := [.int (c), .ref (W 3 (d)), .int (nI (n)), .int (f), .int (B.1 8 + nI 1)]) K dX2_makeLink_20 zyX2_changeName zm_X2_75 ziX2_changeName zvX2_changeName zclX2 rfl (by decide) rfl rfl (Nat.le_of_ble_eq_true rfl) (Nat.le_of_ble_eq_true rfl) hC.x.1 (ct_X2_changeName (B := zsc B 8 (B.1 8 + nI 1)) hC hv hF hn c f (B.1 8 + nI 1)) (zCP_r hS (fun _ _ h => h) (fun M hC hS => ?_)) zCP_x (Nat.le_refl _)
  exact zq_ret K dX2_makeLink_23 rfl ⟨rfl, hC, hS⟩
theorem ct_X2_makeFile_no {G : ZG} {M : ZM} {W : Nat → Nat → Nat} {B : ZA} (hC : zC M W B) (hW : zWf B) {c d n : Nat} (hc : c < 4) (hv : zVal B 3 d) (hn : n < 50) (hM : zMw B) {F : Nat} (hf : B.1 9 = nI F) (hF30 : F ≤ 30) (h : zBz B d n ∨ F = 30) : zMet G mX2_makeFile [.ref (W 10 0), .int (nI (c)), .int (nI (d)), .int (nI (n))] M (zthr zISE M) := by
  refine zbody zyX2_makeFile [some (.ref (W 10 0)), some (.int (nI (c))), some (.int (nI (d))), some (.int (nI (n))), none, none] rfl (Nat.le_of_ble_eq_true rfl) (by intro v hv; simp only [List.mem_cons, List.not_mem_nil, or_false] at hv; rcases hv with rfl | rfl | rfl | rfl <;> rfl) (fun E K => ?_)
  obtain ⟨⟨D, hB⟩, hF, hU⟩ := id hW
  have hS : zFm M W B M := zFm.rf
  refine zq_iload_n K dX2_makeFile_0 rfl rfl ?_
  refine zq_callS (As := [.int (nI (c))]) K dX2_makeFile_1 zyX2_needClient zm_X2_29 zsX2_needClient rfl (by decide) rfl rfl (Nat.le_of_ble_eq_true rfl) (Nat.le_of_ble_eq_true rfl) (ct_X2_needClient (nI c) M) (znd_r (fun hc9 => ?_)) (znd_x (fun hc9 => ?_)) (Nat.le_refl _)
  · refine zq_iload_n K dX2_makeFile_4 rfl rfl ?_
    refine zq_callS (As := [.int (nI (n))]) K dX2_makeFile_5 zyX2_needName zm_X2_33 zsX2_needName rfl (by decide) rfl rfl (Nat.le_of_ble_eq_true rfl) (Nat.le_of_ble_eq_true rfl) (ct_X2_needName (nI n) M) (znd_r (fun hn9 => ?_)) (znd_x (fun hn9 => ?_)) (Nat.le_refl _)
    · refine zq_aload_n K dX2_makeFile_8 rfl rfl ?_
      refine zq_iload_n K dX2_makeFile_9 rfl rfl ?_
      refine zq_callV (As := [.int (nI (d))]) K dX2_makeFile_10 zyX2_needDirectory zm_X2_36 ziX2_needDirectory zvX2_needDirectory zclX2 rfl (by decide) rfl rfl (Nat.le_of_ble_eq_true rfl) (Nat.le_of_ble_eq_true rfl) hC.x.1 (ct_X2_needDirectory_1 hC hv) (zone_r ?_) zone_x (Nat.le_refl _)
      refine zq_astore K dX2_makeFile_13 (by decide) ?_
      refine zq_aload_n K dX2_makeFile_15 rfl rfl ?_
      refine zq_aload K dX2_makeFile_16 rfl ?_
      refine zq_iload_n K dX2_makeFile_18 rfl rfl ?_
      refine zq_callV (As := [.ref (W 3 d), .int (nI (n))]) K dX2_makeFile_19 zyX2_needFree zm_X2_64 ziX2_needFree zvX2_needFree zclX2 rfl (by decide) rfl rfl (Nat.le_of_ble_eq_true rfl) (Nat.le_of_ble_eq_true rfl) hC.x.1 (ct_X2_needFree hC hv hn hF hU hM) (znd_r (fun hz => ?_)) (znd_x (fun hz => ?_)) (Nat.le_refl _)
      · refine zq_aload_n K dX2_makeFile_22 rfl rfl ?_
        refine zq_getI K dX2_makeFile_23 zclX2 (k := 2) (by decide) zf_X2_79 rfl hC.x.1 ?_
        refine zq_top hC.x.2.2.1.2.1 ?_
        refine zq_top (v := nI (F)) hf ?_
        refine zq_bipush K dX2_makeFile_26 (v := nI 30) (by decide) ?_
        refine zq_icmp_ltN K (x := F) (y := 30) 41 dX2_makeFile_28 (by decide) ⟨by omega, by omega⟩ (fun h28 => ?_) (fun h28 => ?_)
        · rcases h with h | h
          · exact absurd h hz
          · omega
        · exact zq_throw K (text := "there were 30 files") zthISE (by decide +kernel) dX2_makeFile_31 dX2_makeFile_34 dX2_makeFile_35 dX2_makeFile_37 dX2_makeFile_40 (by decide) (Nat.le_of_ble_eq_true rfl) (Nat.le_of_ble_eq_true rfl) ⟨rfl, rfl⟩
      · exact zx_out K ⟨rfl, rfl⟩
    · exact absurd ⟨n, by omega, rfl⟩ hn9
  · exact absurd ⟨c, by omega, rfl⟩ hc9
theorem ct_X2_makeFile_ok {G : ZG} {M : ZM} {W : Nat → Nat → Nat} {B : ZA} (hC : zC M W B) (hW : zWf B) {c d n : Nat} (hc : c < 4) (hv : zVal B 3 d) (hn : n < 50) (hM : zMw B) {F : Nat} (hf : B.1 9 = nI F) (hF30 : F ≤ 30) (h : ¬ zBz B d n) (hlt : F < 30) : zMet G mX2_makeFile [.ref (W 10 0), .int (nI (c)), .int (nI (d)), .int (nI (n))] M (zCP W M B (some (.int (nI F))) (zcl1 (zsc B 9 (nI (F + 1))) (nI c) d n (nI F))) := by
  refine zbody zyX2_makeFile [some (.ref (W 10 0)), some (.int (nI (c))), some (.int (nI (d))), some (.int (nI (n))), none, none] rfl (Nat.le_of_ble_eq_true rfl) (by intro v hv; simp only [List.mem_cons, List.not_mem_nil, or_false] at hv; rcases hv with rfl | rfl | rfl | rfl <;> rfl) (fun E K => ?_)
  obtain ⟨⟨D, hB⟩, hF, hU⟩ := id hW
  have hS : zFm M W B M := zFm.rf
  refine zq_iload_n K dX2_makeFile_0 rfl rfl ?_
  refine zq_callS (As := [.int (nI (c))]) K dX2_makeFile_1 zyX2_needClient zm_X2_29 zsX2_needClient rfl (by decide) rfl rfl (Nat.le_of_ble_eq_true rfl) (Nat.le_of_ble_eq_true rfl) (ct_X2_needClient (nI c) M) (znd_r (fun hc9 => ?_)) (znd_x (fun hc9 => ?_)) (Nat.le_refl _)
  · refine zq_iload_n K dX2_makeFile_4 rfl rfl ?_
    refine zq_callS (As := [.int (nI (n))]) K dX2_makeFile_5 zyX2_needName zm_X2_33 zsX2_needName rfl (by decide) rfl rfl (Nat.le_of_ble_eq_true rfl) (Nat.le_of_ble_eq_true rfl) (ct_X2_needName (nI n) M) (znd_r (fun hn9 => ?_)) (znd_x (fun hn9 => ?_)) (Nat.le_refl _)
    · refine zq_aload_n K dX2_makeFile_8 rfl rfl ?_
      refine zq_iload_n K dX2_makeFile_9 rfl rfl ?_
      refine zq_callV (As := [.int (nI (d))]) K dX2_makeFile_10 zyX2_needDirectory zm_X2_36 ziX2_needDirectory zvX2_needDirectory zclX2 rfl (by decide) rfl rfl (Nat.le_of_ble_eq_true rfl) (Nat.le_of_ble_eq_true rfl) hC.x.1 (ct_X2_needDirectory_1 hC hv) (zone_r ?_) zone_x (Nat.le_refl _)
      refine zq_astore K dX2_makeFile_13 (by decide) ?_
      refine zq_aload_n K dX2_makeFile_15 rfl rfl ?_
      refine zq_aload K dX2_makeFile_16 rfl ?_
      refine zq_iload_n K dX2_makeFile_18 rfl rfl ?_
      refine zq_callV (As := [.ref (W 3 d), .int (nI (n))]) K dX2_makeFile_19 zyX2_needFree zm_X2_64 ziX2_needFree zvX2_needFree zclX2 rfl (by decide) rfl rfl (Nat.le_of_ble_eq_true rfl) (Nat.le_of_ble_eq_true rfl) hC.x.1 (ct_X2_needFree hC hv hn hF hU hM) (znd_r (fun hz => ?_)) (znd_x (fun hz => ?_)) (Nat.le_refl _)
      · refine zq_aload_n K dX2_makeFile_22 rfl rfl ?_
        refine zq_getI K dX2_makeFile_23 zclX2 (k := 2) (by decide) zf_X2_79 rfl hC.x.1 ?_
        refine zq_top hC.x.2.2.1.2.1 ?_
        refine zq_top (v := nI (F)) hf ?_
        refine zq_bipush K dX2_makeFile_26 (v := nI 30) (by decide) ?_
        refine zq_icmp_ltN K (x := F) (y := 30) 41 dX2_makeFile_28 (by decide) ⟨by omega, by omega⟩ (fun h28 => ?_) (fun h28 => by omega)
        refine zq_aload_n K dX2_makeFile_41 rfl rfl ?_
        refine zq_getI K dX2_makeFile_42 zclX2 (k := 2) (by decide) zf_X2_79 rfl hC.x.1 ?_
        refine zq_top hC.x.2.2.1.2.1 ?_
        refine zq_top (v := nI (F)) hf ?_
        refine zq_istore K dX2_makeFile_45 (by decide) ?_
        refine zq_aload_n K dX2_makeFile_47 rfl rfl ?_
        refine zq_dup K dX2_makeFile_48 rfl ?_
        refine zq_getI K dX2_makeFile_49 zclX2 (k := 2) (by decide) zf_X2_79 rfl hC.x.1 ?_
        refine zq_top hC.x.2.2.1.2.1 ?_
        refine zq_top (v := nI (F)) hf ?_
        refine zq_iconst K dX2_makeFile_52 (v := nI 1) (by decide) ?_
        refine zq_iaddN K (x := F) (y := 1) dX2_makeFile_53 ?_
        refine zc_p2_2 K dX2_makeFile_54 zf_X2_79 hC hS (fun M hC hS => ?_)
        refine zq_aload_n K dX2_makeFile_57 rfl rfl ?_
        refine zq_iload_n K dX2_makeFile_58 rfl rfl ?_
        refine zq_aload K dX2_makeFile_59 rfl ?_
        refine zq_iload_n K dX2_makeFile_61 rfl rfl ?_
        refine zq_iload K dX2_makeFile_62 rfl ?_
        refine zq_callV (As := [.int (nI (c)), .ref (W 3 d), .int (nI (n)), .int (nI (F))]) K dX2_makeFile_64 zyX2_makeLink zm_X2_84 ziX2_makeLink zvX2_makeLink zclX2 rfl (by decide) rfl rfl (Nat.le_of_ble_eq_true rfl) (Nat.le_of_ble_eq_true rfl) hC.x.1 (ct_X2_makeLink (B := zsc B 9 (nI (F + 1))) hC hv hF hn (nI c) (nI F)) (zCP_r hS (fun _ _ h => h) (fun M hC hS => ?_)) zCP_x (Nat.le_refl _)
        refine zq_iload K dX2_makeFile_67 rfl ?_
        exact zq_iret K dX2_makeFile_69 rfl ⟨rfl, hC, hS⟩
      · exact absurd h hz
    · exact absurd ⟨n, by omega, rfl⟩ hn9
  · exact absurd ⟨c, by omega, rfl⟩ hc9
theorem zkl_le (B : ZA) (f : Int32) : ∀ k, zsm (zkl B f) k ≤ 50 * k := zsm_le (fun d => by
  unfold zkl
  split
  · exact zcN_le _ 50
  · omega)
theorem zkt_le (B : ZA) (c : Nat) : ∀ k, zsm (zkt B c) k ≤ 50 * k := zsm_le (fun d => by
  unfold zkt
  split
  · exact zcN_le _ 50
  · omega)
theorem ct_X2_link_2 {G : ZG} {M : ZM} {W : Nat → Nat → Nat} {B : ZA} (hC : zC M W B) (hW : zWf B) {c d n : Nat} (hc : c < 4) (hv : zVal B 3 d) (hn : n < 50) (hM : zMw B) {F : Nat} (hf : B.1 9 = nI F) (hF30 : F ≤ 30) (f : Int32) (h : ¬ (zFn F f ∧ 0 < zsm (zkl B f) 12)) : zMet G mX2_link [.ref (W 10 0), .int (nI (c)), .int (nI (d)), .int (nI (n)), .int (f)] M (zthr zIOB M) := by
  refine zbody zyX2_link [some (.ref (W 10 0)), some (.int (nI (c))), some (.int (nI (d))), some (.int (nI (n))), some (.int (f)), none, none] rfl (Nat.le_of_ble_eq_true rfl) (by intro v hv; simp only [List.mem_cons, List.not_mem_nil, or_false] at hv; rcases hv with rfl | rfl | rfl | rfl | rfl <;> rfl) (fun E K => ?_)
  obtain ⟨⟨D, hB⟩, hF, hU⟩ := id hW
  have hS : zFm M W B M := zFm.rf
  refine zq_iload_n K dX2_link_0 rfl rfl ?_
  refine zq_callS (As := [.int (nI (c))]) K dX2_link_1 zyX2_needClient zm_X2_29 zsX2_needClient rfl (by decide) rfl rfl (Nat.le_of_ble_eq_true rfl) (Nat.le_of_ble_eq_true rfl) (ct_X2_needClient (nI c) M) (znd_r (fun hc9 => ?_)) (znd_x (fun hc9 => ?_)) (Nat.le_refl _)
  · refine zq_iload_n K dX2_link_4 rfl rfl ?_
    refine zq_callS (As := [.int (nI (n))]) K dX2_link_5 zyX2_needName zm_X2_33 zsX2_needName rfl (by decide) rfl rfl (Nat.le_of_ble_eq_true rfl) (Nat.le_of_ble_eq_true rfl) (ct_X2_needName (nI n) M) (znd_r (fun hn9 => ?_)) (znd_x (fun hn9 => ?_)) (Nat.le_refl _)
    · refine zq_aload_n K dX2_link_8 rfl rfl ?_
      refine zq_iload_n K dX2_link_9 rfl rfl ?_
      refine zq_callV (As := [.int (nI (d))]) K dX2_link_10 zyX2_needDirectory zm_X2_36 ziX2_needDirectory zvX2_needDirectory zclX2 rfl (by decide) rfl rfl (Nat.le_of_ble_eq_true rfl) (Nat.le_of_ble_eq_true rfl) hC.x.1 (ct_X2_needDirectory_1 hC hv) (zone_r ?_) zone_x (Nat.le_refl _)
      refine zq_astore K dX2_link_13 (by decide) ?_
      refine zq_aload_n K dX2_link_15 rfl rfl ?_
      refine zq_iload K dX2_link_16 rfl ?_
      refine zq_callV (As := [.int (f)]) K dX2_link_18 zyX2_needFile zm_X2_87 ziX2_needFile zvX2_needFile zclX2 rfl (by decide) rfl rfl (Nat.le_of_ble_eq_true rfl) (Nat.le_of_ble_eq_true rfl) hC.x.1 (ct_X2_needFile hC hf hF30 f) (znd_r (fun hff => ?_)) (znd_x (fun hff => ?_)) (Nat.le_refl _)
      · refine zq_aload_n K dX2_link_21 rfl rfl ?_
        refine zq_iload K dX2_link_22 rfl ?_
        refine zq_callV (As := [.int (f)]) K dX2_link_24 zyX2_countLinks zm_X2_90 ziX2_countLinks zvX2_countLinks zclX2 rfl (by decide) rfl rfl (Nat.le_of_ble_eq_true rfl) (Nat.le_of_ble_eq_true rfl) hC.x.1 (ct_X2_countLinks hC f) (zone_r ?_) zone_x (Nat.le_refl _)
        refine zq_istore K dX2_link_27 (by decide) ?_
        refine zq_iload K dX2_link_29 rfl ?_
        refine zq_if_neN K (x := zsm (zkl B f) 12) 44 dX2_link_31 (by decide) (by have := zkl_le B f 12; omega) (fun h31 => ?_) (fun h31 => ?_)
        · exact absurd ⟨hff, by omega⟩ h
        · exact zq_throw K (text := "the file is gone") zthIOB (by decide +kernel) dX2_link_34 dX2_link_37 dX2_link_38 dX2_link_40 dX2_link_43 (by decide) (Nat.le_of_ble_eq_true rfl) (Nat.le_of_ble_eq_true rfl) ⟨rfl, rfl⟩
      · exact zx_out K ⟨rfl, rfl⟩
    · exact absurd ⟨n, by omega, rfl⟩ hn9
  · exact absurd ⟨c, by omega, rfl⟩ hc9
theorem ct_X2_link_3 {G : ZG} {M : ZM} {W : Nat → Nat → Nat} {B : ZA} (hC : zC M W B) (hW : zWf B) {c d n : Nat} (hc : c < 4) (hv : zVal B 3 d) (hn : n < 50) (hM : zMw B) {F : Nat} (hf : B.1 9 = nI F) (hF30 : F ≤ 30) (f : Int32) (h : zFn F f ∧ 0 < zsm (zkl B f) 12) (h3 : zBz B d n) : zMet G mX2_link [.ref (W 10 0), .int (nI (c)), .int (nI (d)), .int (nI (n)), .int (f)] M (zthr zISE M) := by
  refine zbody zyX2_link [some (.ref (W 10 0)), some (.int (nI (c))), some (.int (nI (d))), some (.int (nI (n))), some (.int (f)), none, none] rfl (Nat.le_of_ble_eq_true rfl) (by intro v hv; simp only [List.mem_cons, List.not_mem_nil, or_false] at hv; rcases hv with rfl | rfl | rfl | rfl | rfl <;> rfl) (fun E K => ?_)
  obtain ⟨⟨D, hB⟩, hF, hU⟩ := id hW
  have hS : zFm M W B M := zFm.rf
  refine zq_iload_n K dX2_link_0 rfl rfl ?_
  refine zq_callS (As := [.int (nI (c))]) K dX2_link_1 zyX2_needClient zm_X2_29 zsX2_needClient rfl (by decide) rfl rfl (Nat.le_of_ble_eq_true rfl) (Nat.le_of_ble_eq_true rfl) (ct_X2_needClient (nI c) M) (znd_r (fun hc9 => ?_)) (znd_x (fun hc9 => ?_)) (Nat.le_refl _)
  · refine zq_iload_n K dX2_link_4 rfl rfl ?_
    refine zq_callS (As := [.int (nI (n))]) K dX2_link_5 zyX2_needName zm_X2_33 zsX2_needName rfl (by decide) rfl rfl (Nat.le_of_ble_eq_true rfl) (Nat.le_of_ble_eq_true rfl) (ct_X2_needName (nI n) M) (znd_r (fun hn9 => ?_)) (znd_x (fun hn9 => ?_)) (Nat.le_refl _)
    · refine zq_aload_n K dX2_link_8 rfl rfl ?_
      refine zq_iload_n K dX2_link_9 rfl rfl ?_
      refine zq_callV (As := [.int (nI (d))]) K dX2_link_10 zyX2_needDirectory zm_X2_36 ziX2_needDirectory zvX2_needDirectory zclX2 rfl (by decide) rfl rfl (Nat.le_of_ble_eq_true rfl) (Nat.le_of_ble_eq_true rfl) hC.x.1 (ct_X2_needDirectory_1 hC hv) (zone_r ?_) zone_x (Nat.le_refl _)
      refine zq_astore K dX2_link_13 (by decide) ?_
      refine zq_aload_n K dX2_link_15 rfl rfl ?_
      refine zq_iload K dX2_link_16 rfl ?_
      refine zq_callV (As := [.int (f)]) K dX2_link_18 zyX2_needFile zm_X2_87 ziX2_needFile zvX2_needFile zclX2 rfl (by decide) rfl rfl (Nat.le_of_ble_eq_true rfl) (Nat.le_of_ble_eq_true rfl) hC.x.1 (ct_X2_needFile hC hf hF30 f) (znd_r (fun hff => ?_)) (znd_x (fun hff => ?_)) (Nat.le_refl _)
      · refine zq_aload_n K dX2_link_21 rfl rfl ?_
        refine zq_iload K dX2_link_22 rfl ?_
        refine zq_callV (As := [.int (f)]) K dX2_link_24 zyX2_countLinks zm_X2_90 ziX2_countLinks zvX2_countLinks zclX2 rfl (by decide) rfl rfl (Nat.le_of_ble_eq_true rfl) (Nat.le_of_ble_eq_true rfl) hC.x.1 (ct_X2_countLinks hC f) (zone_r ?_) zone_x (Nat.le_refl _)
        refine zq_istore K dX2_link_27 (by decide) ?_
        refine zq_iload K dX2_link_29 rfl ?_
        refine zq_if_neN K (x := zsm (zkl B f) 12) 44 dX2_link_31 (by decide) (by have := zkl_le B f 12; omega) (fun h31 => ?_) (fun h31 => ?_)
        · refine zq_aload_n K dX2_link_44 rfl rfl ?_
          refine zq_aload K dX2_link_45 rfl ?_
          refine zq_iload_n K dX2_link_47 rfl rfl ?_
          refine zq_callV (As := [.ref (W 3 d), .int (nI (n))]) K dX2_link_48 zyX2_needFree zm_X2_64 ziX2_needFree zvX2_needFree zclX2 rfl (by decide) rfl rfl (Nat.le_of_ble_eq_true rfl) (Nat.le_of_ble_eq_true rfl) hC.x.1 (ct_X2_needFree hC hv hn hF hU hM) (znd_r (fun hz => ?_)) (znd_x (fun hz => ?_)) (Nat.le_refl _)
          · exact absurd h3 hz
          · exact zx_out K ⟨rfl, rfl⟩
        · omega
      · exact absurd h.1 hff
    · exact absurd ⟨n, by omega, rfl⟩ hn9
  · exact absurd ⟨c, by omega, rfl⟩ hc9
theorem ct_X2_link_ok {G : ZG} {M : ZM} {W : Nat → Nat → Nat} {B : ZA} (hC : zC M W B) (hW : zWf B) {c d n : Nat} (hc : c < 4) (hv : zVal B 3 d) (hn : n < 50) (hM : zMw B) {F : Nat} (hf : B.1 9 = nI F) (hF30 : F ≤ 30) (f : Int32) (h : zFn F f ∧ 0 < zsm (zkl B f) 12) (h3 : ¬ zBz B d n) : zMet G mX2_link [.ref (W 10 0), .int (nI (c)), .int (nI (d)), .int (nI (n)), .int (f)] M (zCP W M B (some (.int (nI (zsm (zkl B f) 12 + 1)))) (zcl1 B (nI c) d n f)) := by
  refine zbody zyX2_link [some (.ref (W 10 0)), some (.int (nI (c))), some (.int (nI (d))), some (.int (nI (n))), some (.int (f)), none, none] rfl (Nat.le_of_ble_eq_true rfl) (by intro v hv; simp only [List.mem_cons, List.not_mem_nil, or_false] at hv; rcases hv with rfl | rfl | rfl | rfl | rfl <;> rfl) (fun E K => ?_)
  obtain ⟨⟨D, hB⟩, hF, hU⟩ := id hW
  have hS : zFm M W B M := zFm.rf
  refine zq_iload_n K dX2_link_0 rfl rfl ?_
  refine zq_callS (As := [.int (nI (c))]) K dX2_link_1 zyX2_needClient zm_X2_29 zsX2_needClient rfl (by decide) rfl rfl (Nat.le_of_ble_eq_true rfl) (Nat.le_of_ble_eq_true rfl) (ct_X2_needClient (nI c) M) (znd_r (fun hc9 => ?_)) (znd_x (fun hc9 => ?_)) (Nat.le_refl _)
  · refine zq_iload_n K dX2_link_4 rfl rfl ?_
    refine zq_callS (As := [.int (nI (n))]) K dX2_link_5 zyX2_needName zm_X2_33 zsX2_needName rfl (by decide) rfl rfl (Nat.le_of_ble_eq_true rfl) (Nat.le_of_ble_eq_true rfl) (ct_X2_needName (nI n) M) (znd_r (fun hn9 => ?_)) (znd_x (fun hn9 => ?_)) (Nat.le_refl _)
    · refine zq_aload_n K dX2_link_8 rfl rfl ?_
      refine zq_iload_n K dX2_link_9 rfl rfl ?_
      refine zq_callV (As := [.int (nI (d))]) K dX2_link_10 zyX2_needDirectory zm_X2_36 ziX2_needDirectory zvX2_needDirectory zclX2 rfl (by decide) rfl rfl (Nat.le_of_ble_eq_true rfl) (Nat.le_of_ble_eq_true rfl) hC.x.1 (ct_X2_needDirectory_1 hC hv) (zone_r ?_) zone_x (Nat.le_refl _)
      refine zq_astore K dX2_link_13 (by decide) ?_
      refine zq_aload_n K dX2_link_15 rfl rfl ?_
      refine zq_iload K dX2_link_16 rfl ?_
      refine zq_callV (As := [.int (f)]) K dX2_link_18 zyX2_needFile zm_X2_87 ziX2_needFile zvX2_needFile zclX2 rfl (by decide) rfl rfl (Nat.le_of_ble_eq_true rfl) (Nat.le_of_ble_eq_true rfl) hC.x.1 (ct_X2_needFile hC hf hF30 f) (znd_r (fun hff => ?_)) (znd_x (fun hff => ?_)) (Nat.le_refl _)
      · refine zq_aload_n K dX2_link_21 rfl rfl ?_
        refine zq_iload K dX2_link_22 rfl ?_
        refine zq_callV (As := [.int (f)]) K dX2_link_24 zyX2_countLinks zm_X2_90 ziX2_countLinks zvX2_countLinks zclX2 rfl (by decide) rfl rfl (Nat.le_of_ble_eq_true rfl) (Nat.le_of_ble_eq_true rfl) hC.x.1 (ct_X2_countLinks hC f) (zone_r ?_) zone_x (Nat.le_refl _)
        refine zq_istore K dX2_link_27 (by decide) ?_
        refine zq_iload K dX2_link_29 rfl ?_
        refine zq_if_neN K (x := zsm (zkl B f) 12) 44 dX2_link_31 (by decide) (by have := zkl_le B f 12; omega) (fun h31 => ?_) (fun h31 => ?_)
        · refine zq_aload_n K dX2_link_44 rfl rfl ?_
          refine zq_aload K dX2_link_45 rfl ?_
          refine zq_iload_n K dX2_link_47 rfl rfl ?_
          refine zq_callV (As := [.ref (W 3 d), .int (nI (n))]) K dX2_link_48 zyX2_needFree zm_X2_64 ziX2_needFree zvX2_needFree zclX2 rfl (by decide) rfl rfl (Nat.le_of_ble_eq_true rfl) (Nat.le_of_ble_eq_true rfl) hC.x.1 (ct_X2_needFree hC hv hn hF hU hM) (znd_r (fun hz => ?_)) (znd_x (fun hz => ?_)) (Nat.le_refl _)
          · refine zq_aload_n K dX2_link_51 rfl rfl ?_
            refine zq_iload_n K dX2_link_52 rfl rfl ?_
            refine zq_aload K dX2_link_53 rfl ?_
            refine zq_iload_n K dX2_link_55 rfl rfl ?_
            refine zq_iload K dX2_link_56 rfl ?_
            refine zq_callV (As := [.int (nI (c)), .ref (W 3 d), .int (nI (n)), .int (f)]) K dX2_link_58 zyX2_makeLink zm_X2_84 ziX2_makeLink zvX2_makeLink zclX2 rfl (by decide) rfl rfl (Nat.le_of_ble_eq_true rfl) (Nat.le_of_ble_eq_true rfl) hC.x.1 (ct_X2_makeLink hC hv hF hn (nI c) f) (zCP_r hS (fun _ _ h => h) (fun M hC hS => ?_)) zCP_x (Nat.le_refl _)
            refine zq_iload K dX2_link_61 rfl ?_
            refine zq_iconst K dX2_link_63 (v := nI 1) (by decide) ?_
            refine zq_iaddN K (x := zsm (zkl B f) 12) (y := 1) dX2_link_64 ?_
            exact zq_iret K dX2_link_65 rfl ⟨rfl, hC, hS⟩
          · exact absurd h3 hz
        · omega
      · exact absurd h.1 hff
    · exact absurd ⟨n, by omega, rfl⟩ hn9
  · exact absurd ⟨c, by omega, rfl⟩ hc9
theorem znd_i {p q : Prop} {v : Option Value} {X : String} {M : ZM} (h : p ↔ q) : znd p v X M = znd q v X M := by rw [propext h]
theorem ct_X2_needRemovable {G : ZG} {M : ZM} {W : Nat → Nat → Nat} {B : ZA} (hC : zC M W B) (hM : zMw B) {d : Nat} (hv : zVal B 3 d) : zMet G mX2_needRemovable [.ref (W 10 0), .ref (W 3 (d))] M (znd (¬ zHd B d) none zISE M) := by
  rcases hM with h0 | ⟨m, h1, h2⟩
  · rw [znd_i (q := ¬ 0 < zcN (zpu B d) 50) (by unfold zHd; rw [h0]; exact ⟨fun z y => z (Or.inl y), fun z y => y.elim z (fun y => y.1 rfl)⟩)]
    exact ct_X2_needRemovable_0 hC hv h0
  · have h3 := h2.1
    rw [znd_i (q := ¬ (0 < zcN (zpu B d) 50 ∨ m / 8 = d)) (by unfold zHd; rw [h1, nI_clamp (by omega)]; exact ⟨fun z y => z (y.imp id (fun y => ⟨nI_ne1 (by omega), rfl, y⟩)), fun z y => z (y.imp id (fun y => y.2.2))⟩)]
    exact ct_X2_needRemovable_1 hC hv h1 h2
theorem zFr.dr {B : ZA} {e : Nat} (h : zFr B) : zFr (zsa B 3 e (nI 0)) := by
  refine ⟨fun d h1 h2 => ?_, h.2⟩
  rw [zsa_2] at h2
  split at h2
  · exact absurd h2 (by decide)
  · exact h.1 d h1 h2
theorem zVal.ne {B : ZA} {d e : Nat} (h : zVal B 3 d) (hne : ¬ d = e) : zVal (zsa B 3 e (nI 0)) 3 d := ⟨h.1, by rw [zsa_2, if_neg (fun z => hne z.2)]; exact h.2⟩
theorem ct_X2_remove_no {G : ZG} {M : ZM} {W : Nat → Nat → Nat} {B : ZA} (hC : zC M W B) (hW : zWf B) {c d n : Nat} (hc : c < 4) (hv : zVal B 3 d) (hn : n < 50) (hM : zMw B) (h : B.2 6 (50 * d + n) = -1 ∨ zfz B (zfn B d n) = true) : zMet G mX2_remove [.ref (W 10 0), .int (nI (c)), .int (nI (d)), .int (nI (n))] M (zthr zISE M) := by
  refine zbody zyX2_remove [some (.ref (W 10 0)), some (.int (nI (c))), some (.int (nI (d))), some (.int (nI (n))), none, none, none] rfl (Nat.le_of_ble_eq_true rfl) (by intro v hv; simp only [List.mem_cons, List.not_mem_nil, or_false] at hv; rcases hv with rfl | rfl | rfl | rfl <;> rfl) (fun E K => ?_)
  obtain ⟨⟨D, hB⟩, hF, hU⟩ := id hW
  have hS : zFm M W B M := zFm.rf
  refine zq_iload_n K dX2_remove_0 rfl rfl ?_
  refine zq_callS (As := [.int (nI (c))]) K dX2_remove_1 zyX2_needClient zm_X2_29 zsX2_needClient rfl (by decide) rfl rfl (Nat.le_of_ble_eq_true rfl) (Nat.le_of_ble_eq_true rfl) (ct_X2_needClient (nI c) M) (znd_r (fun hc9 => ?_)) (znd_x (fun hc9 => ?_)) (Nat.le_refl _)
  · refine zq_iload_n K dX2_remove_4 rfl rfl ?_
    refine zq_callS (As := [.int (nI (n))]) K dX2_remove_5 zyX2_needName zm_X2_33 zsX2_needName rfl (by decide) rfl rfl (Nat.le_of_ble_eq_true rfl) (Nat.le_of_ble_eq_true rfl) (ct_X2_needName (nI n) M) (znd_r (fun hn9 => ?_)) (znd_x (fun hn9 => ?_)) (Nat.le_refl _)
    · refine zq_aload_n K dX2_remove_8 rfl rfl ?_
      refine zq_iload_n K dX2_remove_9 rfl rfl ?_
      refine zq_callV (As := [.int (nI (d))]) K dX2_remove_10 zyX2_needDirectory zm_X2_36 ziX2_needDirectory zvX2_needDirectory zclX2 rfl (by decide) rfl rfl (Nat.le_of_ble_eq_true rfl) (Nat.le_of_ble_eq_true rfl) hC.x.1 (ct_X2_needDirectory_1 hC hv) (zone_r ?_) zone_x (Nat.le_refl _)
      refine zq_astore K dX2_remove_13 (by decide) ?_
      refine zq_aload_n K dX2_remove_15 rfl rfl ?_
      refine zq_aload K dX2_remove_16 rfl ?_
      refine zq_iload_n K dX2_remove_18 rfl rfl ?_
      refine zq_callV (As := [.ref (W 3 d), .int (nI (n))]) K dX2_remove_19 zyX2_needTaken zm_X2_98 ziX2_needTaken zvX2_needTaken zclX2 rfl (by decide) rfl rfl (Nat.le_of_ble_eq_true rfl) (Nat.le_of_ble_eq_true rfl) hC.x.1 (ct_X2_needTaken hC hv hn hF hU hM) (znd_r (fun ht => ?_)) (znd_x (fun ht => ?_)) (Nat.le_refl _)
      · exact absurd h (fun z => z.elim ht.1 ht.2)
      · exact zx_out K ⟨rfl, rfl⟩
    · exact absurd ⟨n, by omega, rfl⟩ hn9
  · exact absurd ⟨c, by omega, rfl⟩ hc9
theorem ct_X2_remove_file {G : ZG} {M : ZM} {W : Nat → Nat → Nat} {B : ZA} (hC : zC M W B) (hW : zWf B) {c d n : Nat} (hc : c < 4) (hv : zVal B 3 d) (hn : n < 50) (hM : zMw B) (h : ¬ B.2 6 (50 * d + n) = -1 ∧ ¬ zfz B (zfn B d n) = true) (h2 : -2 < B.2 6 (50 * d + n)) : zMet G mX2_remove [.ref (W 10 0), .int (nI (c)), .int (nI (d)), .int (nI (n))] M (zCP W M B (some (.int (B.2 6 (50 * d + n)))) (zcn B (nI c) d n (-1) (nI 0))) := by
  refine zbody zyX2_remove [some (.ref (W 10 0)), some (.int (nI (c))), some (.int (nI (d))), some (.int (nI (n))), none, none, none] rfl (Nat.le_of_ble_eq_true rfl) (by intro v hv; simp only [List.mem_cons, List.not_mem_nil, or_false] at hv; rcases hv with rfl | rfl | rfl | rfl <;> rfl) (fun E K => ?_)
  obtain ⟨⟨D, hB⟩, hF, hU⟩ := id hW
  have hS : zFm M W B M := zFm.rf
  refine zq_iload_n K dX2_remove_0 rfl rfl ?_
  refine zq_callS (As := [.int (nI (c))]) K dX2_remove_1 zyX2_needClient zm_X2_29 zsX2_needClient rfl (by decide) rfl rfl (Nat.le_of_ble_eq_true rfl) (Nat.le_of_ble_eq_true rfl) (ct_X2_needClient (nI c) M) (znd_r (fun hc9 => ?_)) (znd_x (fun hc9 => ?_)) (Nat.le_refl _)
  · refine zq_iload_n K dX2_remove_4 rfl rfl ?_
    refine zq_callS (As := [.int (nI (n))]) K dX2_remove_5 zyX2_needName zm_X2_33 zsX2_needName rfl (by decide) rfl rfl (Nat.le_of_ble_eq_true rfl) (Nat.le_of_ble_eq_true rfl) (ct_X2_needName (nI n) M) (znd_r (fun hn9 => ?_)) (znd_x (fun hn9 => ?_)) (Nat.le_refl _)
    · refine zq_aload_n K dX2_remove_8 rfl rfl ?_
      refine zq_iload_n K dX2_remove_9 rfl rfl ?_
      refine zq_callV (As := [.int (nI (d))]) K dX2_remove_10 zyX2_needDirectory zm_X2_36 ziX2_needDirectory zvX2_needDirectory zclX2 rfl (by decide) rfl rfl (Nat.le_of_ble_eq_true rfl) (Nat.le_of_ble_eq_true rfl) hC.x.1 (ct_X2_needDirectory_1 hC hv) (zone_r ?_) zone_x (Nat.le_refl _)
      refine zq_astore K dX2_remove_13 (by decide) ?_
      refine zq_aload_n K dX2_remove_15 rfl rfl ?_
      refine zq_aload K dX2_remove_16 rfl ?_
      refine zq_iload_n K dX2_remove_18 rfl rfl ?_
      refine zq_callV (As := [.ref (W 3 d), .int (nI (n))]) K dX2_remove_19 zyX2_needTaken zm_X2_98 ziX2_needTaken zvX2_needTaken zclX2 rfl (by decide) rfl rfl (Nat.le_of_ble_eq_true rfl) (Nat.le_of_ble_eq_true rfl) hC.x.1 (ct_X2_needTaken hC hv hn hF hU hM) (znd_r (fun ht => ?_)) (znd_x (fun ht => ?_)) (Nat.le_refl _)
      · refine zq_aload K dX2_remove_22 rfl ?_
        refine zq_iload_n K dX2_remove_24 rfl rfl ?_
        refine zq_callV (As := [.int (nI (n))]) K dX2_remove_25 zyX0_meaningOf zm_X2_60 ziX0_meaningOf zvX0_meaningOf zclX0 rfl (by decide) rfl rfl (Nat.le_of_ble_eq_true rfl) (Nat.le_of_ble_eq_true rfl) (hC.d hv).1 (ct_X0_meaningOf hC hv hn) (zone_r ?_) zone_x (Nat.le_refl _)
        refine zq_istore K dX2_remove_28 (by decide) ?_
        refine zq_aload_n K dX2_remove_30 rfl rfl ?_
        refine zq_iload K dX2_remove_31 rfl ?_
        refine zq_callV (As := [.int (B.2 6 (50 * d + n))]) K dX2_remove_33 zyX2_directoryMeant zm_X2_101 ziX2_directoryMeant zvX2_directoryMeant zclX2 rfl (by decide) rfl rfl (Nat.le_of_ble_eq_true rfl) (Nat.le_of_ble_eq_true rfl) hC.x.1 (ct_X2_directoryMeant_0 hC h2) (zone_r ?_) zone_x (Nat.le_refl _)
        refine zq_astoreN K dX2_remove_36 (by decide) ?_
        refine zq_aloadN K dX2_remove_38 rfl ?_
        refine zq_ifnull_n K 58 dX2_remove_40 (by decide) ?_
        refine zq_aload_n K dX2_remove_58 rfl rfl ?_
        refine zq_iload_n K dX2_remove_59 rfl rfl ?_
        refine zq_aload K dX2_remove_60 rfl ?_
        refine zq_iload_n K dX2_remove_62 rfl rfl ?_
        refine zq_iconst K dX2_remove_63 (v := -1) (by decide) ?_
        refine zq_iconst K dX2_remove_64 (v := nI 0) (by decide) ?_
        refine zq_callV (As := [.int (nI (c)), .ref (W 3 d), .int (nI (n)), .int (-1), .int (nI (0))]) K dX2_remove_65 zyX2_changeName zm_X2_75 ziX2_changeName zvX2_changeName zclX2 rfl (by decide) rfl rfl (Nat.le_of_ble_eq_true rfl) (Nat.le_of_ble_eq_true rfl) hC.x.1 (ct_X2_changeName hC hv hF hn (nI c) (-1) (nI 0)) (zCP_r hS (fun _ _ h => h) (fun M hC hS => ?_)) zCP_x (Nat.le_refl _)
        refine zq_iload K dX2_remove_68 rfl ?_
        exact zq_iret K dX2_remove_70 rfl ⟨rfl, hC, hS⟩
      · exact absurd h ht
    · exact absurd ⟨n, by omega, rfl⟩ hn9
  · exact absurd ⟨c, by omega, rfl⟩ hc9
theorem ct_X2_remove_held {G : ZG} {M : ZM} {W : Nat → Nat → Nat} {B : ZA} (hC : zC M W B) (hW : zWf B) {c d n : Nat} (hc : c < 4) (hv : zVal B 3 d) (hn : n < 50) (hM : zMw B) (h : ¬ B.2 6 (50 * d + n) = -1 ∧ ¬ zfz B (zfn B d n) = true) {e : Nat} (he : zVal B 3 e) (h2 : B.2 6 (50 * d + n) = -2 - nI e) (h3 : zHd B e) : zMet G mX2_remove [.ref (W 10 0), .int (nI (c)), .int (nI (d)), .int (nI (n))] M (zthr zISE M) := by
  refine zbody zyX2_remove [some (.ref (W 10 0)), some (.int (nI (c))), some (.int (nI (d))), some (.int (nI (n))), none, none, none] rfl (Nat.le_of_ble_eq_true rfl) (by intro v hv; simp only [List.mem_cons, List.not_mem_nil, or_false] at hv; rcases hv with rfl | rfl | rfl | rfl <;> rfl) (fun E K => ?_)
  obtain ⟨⟨D, hB⟩, hF, hU⟩ := id hW
  have hS : zFm M W B M := zFm.rf
  refine zq_iload_n K dX2_remove_0 rfl rfl ?_
  refine zq_callS (As := [.int (nI (c))]) K dX2_remove_1 zyX2_needClient zm_X2_29 zsX2_needClient rfl (by decide) rfl rfl (Nat.le_of_ble_eq_true rfl) (Nat.le_of_ble_eq_true rfl) (ct_X2_needClient (nI c) M) (znd_r (fun hc9 => ?_)) (znd_x (fun hc9 => ?_)) (Nat.le_refl _)
  · refine zq_iload_n K dX2_remove_4 rfl rfl ?_
    refine zq_callS (As := [.int (nI (n))]) K dX2_remove_5 zyX2_needName zm_X2_33 zsX2_needName rfl (by decide) rfl rfl (Nat.le_of_ble_eq_true rfl) (Nat.le_of_ble_eq_true rfl) (ct_X2_needName (nI n) M) (znd_r (fun hn9 => ?_)) (znd_x (fun hn9 => ?_)) (Nat.le_refl _)
    · refine zq_aload_n K dX2_remove_8 rfl rfl ?_
      refine zq_iload_n K dX2_remove_9 rfl rfl ?_
      refine zq_callV (As := [.int (nI (d))]) K dX2_remove_10 zyX2_needDirectory zm_X2_36 ziX2_needDirectory zvX2_needDirectory zclX2 rfl (by decide) rfl rfl (Nat.le_of_ble_eq_true rfl) (Nat.le_of_ble_eq_true rfl) hC.x.1 (ct_X2_needDirectory_1 hC hv) (zone_r ?_) zone_x (Nat.le_refl _)
      refine zq_astore K dX2_remove_13 (by decide) ?_
      refine zq_aload_n K dX2_remove_15 rfl rfl ?_
      refine zq_aload K dX2_remove_16 rfl ?_
      refine zq_iload_n K dX2_remove_18 rfl rfl ?_
      refine zq_callV (As := [.ref (W 3 d), .int (nI (n))]) K dX2_remove_19 zyX2_needTaken zm_X2_98 ziX2_needTaken zvX2_needTaken zclX2 rfl (by decide) rfl rfl (Nat.le_of_ble_eq_true rfl) (Nat.le_of_ble_eq_true rfl) hC.x.1 (ct_X2_needTaken hC hv hn hF hU hM) (znd_r (fun ht => ?_)) (znd_x (fun ht => ?_)) (Nat.le_refl _)
      · refine zq_aload K dX2_remove_22 rfl ?_
        refine zq_iload_n K dX2_remove_24 rfl rfl ?_
        refine zq_callV (As := [.int (nI (n))]) K dX2_remove_25 zyX0_meaningOf zm_X2_60 ziX0_meaningOf zvX0_meaningOf zclX0 rfl (by decide) rfl rfl (Nat.le_of_ble_eq_true rfl) (Nat.le_of_ble_eq_true rfl) (hC.d hv).1 (show zMet G mX0_meaningOf [.ref (W 3 d), .int (nI n)] M (zone (some (.int (-2 - nI e))) M) from by have := ct_X0_meaningOf (G := G) hC hv hn; rwa [h2] at this) (zone_r ?_) zone_x (Nat.le_refl _)
        refine zq_istore K dX2_remove_28 (by decide) ?_
        refine zq_aload_n K dX2_remove_30 rfl rfl ?_
        refine zq_iload K dX2_remove_31 rfl ?_
        refine zq_callV (As := [.int (-2 - nI e)]) K dX2_remove_33 zyX2_directoryMeant zm_X2_101 ziX2_directoryMeant zvX2_directoryMeant zclX2 rfl (by decide) rfl rfl (Nat.le_of_ble_eq_true rfl) (Nat.le_of_ble_eq_true rfl) hC.x.1 (ct_X2_directoryMeant_1 hC he) (zone_r ?_) zone_x (Nat.le_refl _)
        refine zq_astore K dX2_remove_36 (by decide) ?_
        refine zq_aload K dX2_remove_38 rfl ?_
        refine zq_ifnull_r K dX2_remove_40 ?_
        refine zq_aload_n K dX2_remove_43 rfl rfl ?_
        refine zq_aload K dX2_remove_44 rfl ?_
        refine zq_callV (As := [.ref (W 3 e)]) K dX2_remove_46 zyX2_needRemovable zm_X2_104 ziX2_needRemovable zvX2_needRemovable zclX2 rfl (by decide) rfl rfl (Nat.le_of_ble_eq_true rfl) (Nat.le_of_ble_eq_true rfl) hC.x.1 (ct_X2_needRemovable hC hM he) (znd_r (fun hr => ?_)) (znd_x (fun hr => ?_)) (Nat.le_refl _)
        · exact absurd h3 hr
        · exact zx_out K ⟨rfl, rfl⟩
      · exact absurd h ht
    · exact absurd ⟨n, by omega, rfl⟩ hn9
  · exact absurd ⟨c, by omega, rfl⟩ hc9
theorem ct_X2_remove_dir {G : ZG} {M : ZM} {W : Nat → Nat → Nat} {B : ZA} (hC : zC M W B) (hW : zWf B) {c d n : Nat} (hc : c < 4) (hv : zVal B 3 d) (hn : n < 50) (hM : zMw B) (h : ¬ B.2 6 (50 * d + n) = -1 ∧ ¬ zfz B (zfn B d n) = true) {e : Nat} (he : zVal B 3 e) (h2 : B.2 6 (50 * d + n) = -2 - nI e) (h3 : ¬ zHd B e) (hne : ¬ d = e) : zMet G mX2_remove [.ref (W 10 0), .int (nI (c)), .int (nI (d)), .int (nI (n))] M (zCP W M B (some (.int (-2 - nI e))) (zcn (zsa B 3 e (nI 0)) (nI c) d n (-1) (nI 0))) := by
  refine zbody zyX2_remove [some (.ref (W 10 0)), some (.int (nI (c))), some (.int (nI (d))), some (.int (nI (n))), none, none, none] rfl (Nat.le_of_ble_eq_true rfl) (by intro v hv; simp only [List.mem_cons, List.not_mem_nil, or_false] at hv; rcases hv with rfl | rfl | rfl | rfl <;> rfl) (fun E K => ?_)
  obtain ⟨⟨D, hB⟩, hF, hU⟩ := id hW
  have hS : zFm M W B M := zFm.rf
  refine zq_iload_n K dX2_remove_0 rfl rfl ?_
  refine zq_callS (As := [.int (nI (c))]) K dX2_remove_1 zyX2_needClient zm_X2_29 zsX2_needClient rfl (by decide) rfl rfl (Nat.le_of_ble_eq_true rfl) (Nat.le_of_ble_eq_true rfl) (ct_X2_needClient (nI c) M) (znd_r (fun hc9 => ?_)) (znd_x (fun hc9 => ?_)) (Nat.le_refl _)
  · refine zq_iload_n K dX2_remove_4 rfl rfl ?_
    refine zq_callS (As := [.int (nI (n))]) K dX2_remove_5 zyX2_needName zm_X2_33 zsX2_needName rfl (by decide) rfl rfl (Nat.le_of_ble_eq_true rfl) (Nat.le_of_ble_eq_true rfl) (ct_X2_needName (nI n) M) (znd_r (fun hn9 => ?_)) (znd_x (fun hn9 => ?_)) (Nat.le_refl _)
    · refine zq_aload_n K dX2_remove_8 rfl rfl ?_
      refine zq_iload_n K dX2_remove_9 rfl rfl ?_
      refine zq_callV (As := [.int (nI (d))]) K dX2_remove_10 zyX2_needDirectory zm_X2_36 ziX2_needDirectory zvX2_needDirectory zclX2 rfl (by decide) rfl rfl (Nat.le_of_ble_eq_true rfl) (Nat.le_of_ble_eq_true rfl) hC.x.1 (ct_X2_needDirectory_1 hC hv) (zone_r ?_) zone_x (Nat.le_refl _)
      refine zq_astore K dX2_remove_13 (by decide) ?_
      refine zq_aload_n K dX2_remove_15 rfl rfl ?_
      refine zq_aload K dX2_remove_16 rfl ?_
      refine zq_iload_n K dX2_remove_18 rfl rfl ?_
      refine zq_callV (As := [.ref (W 3 d), .int (nI (n))]) K dX2_remove_19 zyX2_needTaken zm_X2_98 ziX2_needTaken zvX2_needTaken zclX2 rfl (by decide) rfl rfl (Nat.le_of_ble_eq_true rfl) (Nat.le_of_ble_eq_true rfl) hC.x.1 (ct_X2_needTaken hC hv hn hF hU hM) (znd_r (fun ht => ?_)) (znd_x (fun ht => ?_)) (Nat.le_refl _)
      · refine zq_aload K dX2_remove_22 rfl ?_
        refine zq_iload_n K dX2_remove_24 rfl rfl ?_
        refine zq_callV (As := [.int (nI (n))]) K dX2_remove_25 zyX0_meaningOf zm_X2_60 ziX0_meaningOf zvX0_meaningOf zclX0 rfl (by decide) rfl rfl (Nat.le_of_ble_eq_true rfl) (Nat.le_of_ble_eq_true rfl) (hC.d hv).1 (show zMet G mX0_meaningOf [.ref (W 3 d), .int (nI n)] M (zone (some (.int (-2 - nI e))) M) from by have := ct_X0_meaningOf (G := G) hC hv hn; rwa [h2] at this) (zone_r ?_) zone_x (Nat.le_refl _)
        refine zq_istore K dX2_remove_28 (by decide) ?_
        refine zq_aload_n K dX2_remove_30 rfl rfl ?_
        refine zq_iload K dX2_remove_31 rfl ?_
        refine zq_callV (As := [.int (-2 - nI e)]) K dX2_remove_33 zyX2_directoryMeant zm_X2_101 ziX2_directoryMeant zvX2_directoryMeant zclX2 rfl (by decide) rfl rfl (Nat.le_of_ble_eq_true rfl) (Nat.le_of_ble_eq_true rfl) hC.x.1 (ct_X2_directoryMeant_1 hC he) (zone_r ?_) zone_x (Nat.le_refl _)
        refine zq_astore K dX2_remove_36 (by decide) ?_
        refine zq_aload K dX2_remove_38 rfl ?_
        refine zq_ifnull_r K dX2_remove_40 ?_
        refine zq_aload_n K dX2_remove_43 rfl rfl ?_
        refine zq_aload K dX2_remove_44 rfl ?_
        refine zq_callV (As := [.ref (W 3 e)]) K dX2_remove_46 zyX2_needRemovable zm_X2_104 ziX2_needRemovable zvX2_needRemovable zclX2 rfl (by decide) rfl rfl (Nat.le_of_ble_eq_true rfl) (Nat.le_of_ble_eq_true rfl) hC.x.1 (ct_X2_needRemovable hC hM he) (znd_r (fun hr => ?_)) (znd_x (fun hr => ?_)) (Nat.le_refl _)
        · refine zq_aload_n K dX2_remove_49 rfl rfl ?_
          refine zq_aload K dX2_remove_50 rfl ?_
          refine zq_getI K dX2_remove_52 zclX0 (k := 0) (by decide) zf_X2_108 rfl (hC.d he).1 ?_
          refine zq_top (hC.d he).2.1 ?_
          refine zq_callV (As := [.int (nI (e))]) K dX2_remove_55 zyX2_dropDirectory zm_X2_111 ziX2_dropDirectory zvX2_dropDirectory zclX2 rfl (by decide) rfl rfl (Nat.le_of_ble_eq_true rfl) (Nat.le_of_ble_eq_true rfl) hC.x.1 (ct_X2_dropDirectory hC he) (zCP_r hS (fun _ _ h => h) (fun M hC hS => ?_)) zCP_x (Nat.le_refl _)
          refine zq_aload_n K dX2_remove_58 rfl rfl ?_
          refine zq_iload_n K dX2_remove_59 rfl rfl ?_
          refine zq_aload K dX2_remove_60 rfl ?_
          refine zq_iload_n K dX2_remove_62 rfl rfl ?_
          refine zq_iconst K dX2_remove_63 (v := -1) (by decide) ?_
          refine zq_iconst K dX2_remove_64 (v := nI 0) (by decide) ?_
          refine zq_callV (As := [.int (nI (c)), .ref (W 3 d), .int (nI (n)), .int (-1), .int (nI (0))]) K dX2_remove_65 zyX2_changeName zm_X2_75 ziX2_changeName zvX2_changeName zclX2 rfl (by decide) rfl rfl (Nat.le_of_ble_eq_true rfl) (Nat.le_of_ble_eq_true rfl) hC.x.1 (ct_X2_changeName (B := zsa B 3 e (nI 0)) hC (hv.ne hne) hF.dr hn (nI c) (-1) (nI 0)) (zCP_r hS (fun _ _ h => h.dr) (fun M hC hS => ?_)) zCP_x (Nat.le_refl _)
          refine zq_iload K dX2_remove_68 rfl ?_
          exact zq_iret K dX2_remove_70 rfl ⟨rfl, hC, hS⟩
        · exact absurd h3 hr
      · exact absurd h ht
    · exact absurd ⟨n, by omega, rfl⟩ hn9
  · exact absurd ⟨c, by omega, rfl⟩ hc9
theorem ct_X2_pass_bad {G : ZG} {M : ZM} {W : Nat → Nat → Nat} {B : ZA} (hC : zC M W B) {m : Int32} (h : ¬ (nI 1 ≤ m ∧ m ≤ nI 100)) : zMet G mX2_pass [.ref (W 10 0), .int (m)] M (zthr zIAE M) := by
  refine zbody zyX2_pass [some (.ref (W 10 0)), some (.int (m))] rfl (Nat.le_of_ble_eq_true rfl) (by intro v hv; simp only [List.mem_cons, List.not_mem_nil, or_false] at hv; rcases hv with rfl | rfl <;> rfl) (fun E K => ?_)
  refine zq_iload_n K dX2_pass_0 rfl rfl ?_
  refine zq_iconst K dX2_pass_1 (v := nI 1) (by decide) ?_
  refine zq_icmp_lt K 11 dX2_pass_2 (by decide) (fun h2 => ?_) (fun h2 => ?_)
  · exact zq_throw K (text := "minutes is out of range") zthIAE (by decide +kernel) dX2_pass_11 dX2_pass_14 dX2_pass_15 dX2_pass_17 dX2_pass_20 (by decide) (Nat.le_of_ble_eq_true rfl) (Nat.le_of_ble_eq_true rfl) ⟨rfl, rfl⟩
  · refine zq_iload_n K dX2_pass_5 rfl rfl ?_
    refine zq_bipush K dX2_pass_6 (v := nI 100) (by decide) ?_
    refine zq_icmp_le K 21 dX2_pass_8 (by decide) (fun h8 => ?_) (fun h8 => ?_)
    · exact absurd ⟨Int32.not_lt.mp h2, h8⟩ h
    · exact zq_throw K (text := "minutes is out of range") zthIAE (by decide +kernel) dX2_pass_11 dX2_pass_14 dX2_pass_15 dX2_pass_17 dX2_pass_20 (by decide) (Nat.le_of_ble_eq_true rfl) (Nat.le_of_ble_eq_true rfl) ⟨rfl, rfl⟩
theorem ct_X2_pass_ok {G : ZG} {M : ZM} {W : Nat → Nat → Nat} {B : ZA} (hC : zC M W B) {m : Int32} (h : nI 1 ≤ m ∧ m ≤ nI 100) : zMet G mX2_pass [.ref (W 10 0), .int (m)] M (zCP W M B (some (.int (B.1 1 + m))) (zsc B 1 (B.1 1 + m))) := by
  refine zbody zyX2_pass [some (.ref (W 10 0)), some (.int (m))] rfl (Nat.le_of_ble_eq_true rfl) (by intro v hv; simp only [List.mem_cons, List.not_mem_nil, or_false] at hv; rcases hv with rfl | rfl <;> rfl) (fun E K => ?_)
  have hS : zFm M W B M := zFm.rf
  refine zq_iload_n K dX2_pass_0 rfl rfl ?_
  refine zq_iconst K dX2_pass_1 (v := nI 1) (by decide) ?_
  refine zq_icmp_lt K 11 dX2_pass_2 (by decide) (fun h2 => absurd h2 (Int32.not_lt.mpr h.1)) (fun h2 => ?_)
  refine zq_iload_n K dX2_pass_5 rfl rfl ?_
  refine zq_bipush K dX2_pass_6 (v := nI 100) (by decide) ?_
  refine zq_icmp_le K 21 dX2_pass_8 (by decide) (fun h8 => ?_) (fun h8 => absurd h.2 h8)
  refine zq_aload_n K dX2_pass_21 rfl rfl ?_
  refine zq_dup K dX2_pass_22 rfl ?_
  refine zq_getI K dX2_pass_23 zclX2 (k := 4) (by decide) zf_X2_40 rfl hC.x.1 ?_
  refine zq_top hC.x.2.2.1.2.2.2.1 ?_
  refine zq_top (v := B.1 1) rfl ?_
  refine zq_iload_n K dX2_pass_26 rfl rfl ?_
  refine zq_iadd K dX2_pass_27 ?_
  refine zc_p2_4 K dX2_pass_28 zf_X2_40 hC hS (fun M hC hS => ?_)
  refine zq_aload_n K dX2_pass_31 rfl rfl ?_
  refine zq_getI K dX2_pass_32 zclX2 (k := 4) (by decide) zf_X2_40 rfl hC.x.1 ?_
  refine zq_top hC.x.2.2.1.2.2.2.1 ?_
  refine zq_top (v := B.1 1 + m) rfl ?_
  exact zq_iret K dX2_pass_35 rfl ⟨rfl, hC, hS⟩

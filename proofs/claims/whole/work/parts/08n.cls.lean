/-! the class: calls of clients -/
def zen : Nat → String
  | 1 => zIAE
  | 2 => zIOB
  | _ => zISE
theorem ct_X2_lookup_bad {G : ZG} {M : ZM} {W : Nat → Nat → Nat} {B : ZA} (hC : zC M W B) {c d n : Int32} {k : Nat} (hk : zBad B c d n k) : zMet G mX2_lookup [.ref (W 10 0), .int (c), .int (d), .int (n)] M (zthr (zen k) M) := by
  refine zbody zyX2_lookup [some (.ref (W 10 0)), some (.int (c)), some (.int (d)), some (.int (n)), none] rfl (Nat.le_of_ble_eq_true rfl) (by intro v hv; simp only [List.mem_cons, List.not_mem_nil, or_false] at hv; rcases hv with rfl | rfl | rfl | rfl <;> rfl) (fun E K => ?_)
  refine zq_iload_n K dX2_lookup_0 rfl rfl ?_
  refine zq_callS (As := [.int (c)]) K dX2_lookup_1 zyX2_needClient zm_X2_29 zsX2_needClient rfl (by decide) rfl rfl (Nat.le_of_ble_eq_true rfl) (Nat.le_of_ble_eq_true rfl) (ct_X2_needClient c M) (znd_r (fun hc => ?_)) (znd_x (fun hc => ?_)) (Nat.le_refl _)
  · refine zq_iload_n K dX2_lookup_4 rfl rfl ?_
    refine zq_callS (As := [.int (n)]) K dX2_lookup_5 zyX2_needName zm_X2_33 zsX2_needName rfl (by decide) rfl rfl (Nat.le_of_ble_eq_true rfl) (Nat.le_of_ble_eq_true rfl) (ct_X2_needName n M) (znd_r (fun hn => ?_)) (znd_x (fun hn => ?_)) (Nat.le_refl _)
    · refine zq_aload_n K dX2_lookup_8 rfl rfl ?_
      refine zq_iload_n K dX2_lookup_9 rfl rfl ?_
      obtain ⟨rfl, hnd⟩ : k = 2 ∧ ¬ zIsD B d := by
        rcases hk with ⟨-, h1⟩ | ⟨e, -, -, h1⟩
        · exact absurd ⟨hc, hn⟩ h1
        · exact ⟨e, h1⟩
      refine zq_callV (As := [.int (d)]) K dX2_lookup_10 zyX2_needDirectory zm_X2_36 ziX2_needDirectory zvX2_needDirectory zclX2 rfl (by decide) rfl rfl (Nat.le_of_ble_eq_true rfl) (Nat.le_of_ble_eq_true rfl) hC.x.1 (ct_X2_needDirectory_0 hC hnd) zthr_r (zthr_x ?_) (Nat.le_refl _)
      exact zx_out K ⟨rfl, rfl⟩
    · rcases hk with ⟨rfl, -⟩ | ⟨-, -, h1, -⟩
      · exact zx_out K ⟨rfl, rfl⟩
      · exact absurd h1 hn
  · rcases hk with ⟨rfl, -⟩ | ⟨-, h1, -⟩
    · exact zx_out K ⟨rfl, rfl⟩
    · exact absurd h1 hc
theorem ct_X2_makeDirectory_bad {G : ZG} {M : ZM} {W : Nat → Nat → Nat} {B : ZA} (hC : zC M W B) {c d n : Int32} {k : Nat} (hk : zBad B c d n k) : zMet G mX2_makeDirectory [.ref (W 10 0), .int (c), .int (d), .int (n)] M (zthr (zen k) M) := by
  refine zbody zyX2_makeDirectory [some (.ref (W 10 0)), some (.int (c)), some (.int (d)), some (.int (n)), none, none] rfl (Nat.le_of_ble_eq_true rfl) (by intro v hv; simp only [List.mem_cons, List.not_mem_nil, or_false] at hv; rcases hv with rfl | rfl | rfl | rfl <;> rfl) (fun E K => ?_)
  refine zq_iload_n K dX2_makeDirectory_0 rfl rfl ?_
  refine zq_callS (As := [.int (c)]) K dX2_makeDirectory_1 zyX2_needClient zm_X2_29 zsX2_needClient rfl (by decide) rfl rfl (Nat.le_of_ble_eq_true rfl) (Nat.le_of_ble_eq_true rfl) (ct_X2_needClient c M) (znd_r (fun hc => ?_)) (znd_x (fun hc => ?_)) (Nat.le_refl _)
  · refine zq_iload_n K dX2_makeDirectory_4 rfl rfl ?_
    refine zq_callS (As := [.int (n)]) K dX2_makeDirectory_5 zyX2_needName zm_X2_33 zsX2_needName rfl (by decide) rfl rfl (Nat.le_of_ble_eq_true rfl) (Nat.le_of_ble_eq_true rfl) (ct_X2_needName n M) (znd_r (fun hn => ?_)) (znd_x (fun hn => ?_)) (Nat.le_refl _)
    · refine zq_aload_n K dX2_makeDirectory_8 rfl rfl ?_
      refine zq_iload_n K dX2_makeDirectory_9 rfl rfl ?_
      obtain ⟨rfl, hnd⟩ : k = 2 ∧ ¬ zIsD B d := by
        rcases hk with ⟨-, h1⟩ | ⟨e, -, -, h1⟩
        · exact absurd ⟨hc, hn⟩ h1
        · exact ⟨e, h1⟩
      refine zq_callV (As := [.int (d)]) K dX2_makeDirectory_10 zyX2_needDirectory zm_X2_36 ziX2_needDirectory zvX2_needDirectory zclX2 rfl (by decide) rfl rfl (Nat.le_of_ble_eq_true rfl) (Nat.le_of_ble_eq_true rfl) hC.x.1 (ct_X2_needDirectory_0 hC hnd) zthr_r (zthr_x ?_) (Nat.le_refl _)
      exact zx_out K ⟨rfl, rfl⟩
    · rcases hk with ⟨rfl, -⟩ | ⟨-, -, h1, -⟩
      · exact zx_out K ⟨rfl, rfl⟩
      · exact absurd h1 hn
  · rcases hk with ⟨rfl, -⟩ | ⟨-, h1, -⟩
    · exact zx_out K ⟨rfl, rfl⟩
    · exact absurd h1 hc
theorem ct_X2_makeFile_bad {G : ZG} {M : ZM} {W : Nat → Nat → Nat} {B : ZA} (hC : zC M W B) {c d n : Int32} {k : Nat} (hk : zBad B c d n k) : zMet G mX2_makeFile [.ref (W 10 0), .int (c), .int (d), .int (n)] M (zthr (zen k) M) := by
  refine zbody zyX2_makeFile [some (.ref (W 10 0)), some (.int (c)), some (.int (d)), some (.int (n)), none, none] rfl (Nat.le_of_ble_eq_true rfl) (by intro v hv; simp only [List.mem_cons, List.not_mem_nil, or_false] at hv; rcases hv with rfl | rfl | rfl | rfl <;> rfl) (fun E K => ?_)
  refine zq_iload_n K dX2_makeFile_0 rfl rfl ?_
  refine zq_callS (As := [.int (c)]) K dX2_makeFile_1 zyX2_needClient zm_X2_29 zsX2_needClient rfl (by decide) rfl rfl (Nat.le_of_ble_eq_true rfl) (Nat.le_of_ble_eq_true rfl) (ct_X2_needClient c M) (znd_r (fun hc => ?_)) (znd_x (fun hc => ?_)) (Nat.le_refl _)
  · refine zq_iload_n K dX2_makeFile_4 rfl rfl ?_
    refine zq_callS (As := [.int (n)]) K dX2_makeFile_5 zyX2_needName zm_X2_33 zsX2_needName rfl (by decide) rfl rfl (Nat.le_of_ble_eq_true rfl) (Nat.le_of_ble_eq_true rfl) (ct_X2_needName n M) (znd_r (fun hn => ?_)) (znd_x (fun hn => ?_)) (Nat.le_refl _)
    · refine zq_aload_n K dX2_makeFile_8 rfl rfl ?_
      refine zq_iload_n K dX2_makeFile_9 rfl rfl ?_
      obtain ⟨rfl, hnd⟩ : k = 2 ∧ ¬ zIsD B d := by
        rcases hk with ⟨-, h1⟩ | ⟨e, -, -, h1⟩
        · exact absurd ⟨hc, hn⟩ h1
        · exact ⟨e, h1⟩
      refine zq_callV (As := [.int (d)]) K dX2_makeFile_10 zyX2_needDirectory zm_X2_36 ziX2_needDirectory zvX2_needDirectory zclX2 rfl (by decide) rfl rfl (Nat.le_of_ble_eq_true rfl) (Nat.le_of_ble_eq_true rfl) hC.x.1 (ct_X2_needDirectory_0 hC hnd) zthr_r (zthr_x ?_) (Nat.le_refl _)
      exact zx_out K ⟨rfl, rfl⟩
    · rcases hk with ⟨rfl, -⟩ | ⟨-, -, h1, -⟩
      · exact zx_out K ⟨rfl, rfl⟩
      · exact absurd h1 hn
  · rcases hk with ⟨rfl, -⟩ | ⟨-, h1, -⟩
    · exact zx_out K ⟨rfl, rfl⟩
    · exact absurd h1 hc
theorem ct_X2_remove_bad {G : ZG} {M : ZM} {W : Nat → Nat → Nat} {B : ZA} (hC : zC M W B) {c d n : Int32} {k : Nat} (hk : zBad B c d n k) : zMet G mX2_remove [.ref (W 10 0), .int (c), .int (d), .int (n)] M (zthr (zen k) M) := by
  refine zbody zyX2_remove [some (.ref (W 10 0)), some (.int (c)), some (.int (d)), some (.int (n)), none, none, none] rfl (Nat.le_of_ble_eq_true rfl) (by intro v hv; simp only [List.mem_cons, List.not_mem_nil, or_false] at hv; rcases hv with rfl | rfl | rfl | rfl <;> rfl) (fun E K => ?_)
  refine zq_iload_n K dX2_remove_0 rfl rfl ?_
  refine zq_callS (As := [.int (c)]) K dX2_remove_1 zyX2_needClient zm_X2_29 zsX2_needClient rfl (by decide) rfl rfl (Nat.le_of_ble_eq_true rfl) (Nat.le_of_ble_eq_true rfl) (ct_X2_needClient c M) (znd_r (fun hc => ?_)) (znd_x (fun hc => ?_)) (Nat.le_refl _)
  · refine zq_iload_n K dX2_remove_4 rfl rfl ?_
    refine zq_callS (As := [.int (n)]) K dX2_remove_5 zyX2_needName zm_X2_33 zsX2_needName rfl (by decide) rfl rfl (Nat.le_of_ble_eq_true rfl) (Nat.le_of_ble_eq_true rfl) (ct_X2_needName n M) (znd_r (fun hn => ?_)) (znd_x (fun hn => ?_)) (Nat.le_refl _)
    · refine zq_aload_n K dX2_remove_8 rfl rfl ?_
      refine zq_iload_n K dX2_remove_9 rfl rfl ?_
      obtain ⟨rfl, hnd⟩ : k = 2 ∧ ¬ zIsD B d := by
        rcases hk with ⟨-, h1⟩ | ⟨e, -, -, h1⟩
        · exact absurd ⟨hc, hn⟩ h1
        · exact ⟨e, h1⟩
      refine zq_callV (As := [.int (d)]) K dX2_remove_10 zyX2_needDirectory zm_X2_36 ziX2_needDirectory zvX2_needDirectory zclX2 rfl (by decide) rfl rfl (Nat.le_of_ble_eq_true rfl) (Nat.le_of_ble_eq_true rfl) hC.x.1 (ct_X2_needDirectory_0 hC hnd) zthr_r (zthr_x ?_) (Nat.le_refl _)
      exact zx_out K ⟨rfl, rfl⟩
    · rcases hk with ⟨rfl, -⟩ | ⟨-, -, h1, -⟩
      · exact zx_out K ⟨rfl, rfl⟩
      · exact absurd h1 hn
  · rcases hk with ⟨rfl, -⟩ | ⟨-, h1, -⟩
    · exact zx_out K ⟨rfl, rfl⟩
    · exact absurd h1 hc
theorem ct_X2_link_bad {G : ZG} {M : ZM} {W : Nat → Nat → Nat} {B : ZA} (hC : zC M W B) {c d n : Int32} {k : Nat} (hk : zBad B c d n k) (f : Int32) : zMet G mX2_link [.ref (W 10 0), .int (c), .int (d), .int (n), .int (f)] M (zthr (zen k) M) := by
  refine zbody zyX2_link [some (.ref (W 10 0)), some (.int (c)), some (.int (d)), some (.int (n)), some (.int (f)), none, none] rfl (Nat.le_of_ble_eq_true rfl) (by intro v hv; simp only [List.mem_cons, List.not_mem_nil, or_false] at hv; rcases hv with rfl | rfl | rfl | rfl | rfl <;> rfl) (fun E K => ?_)
  refine zq_iload_n K dX2_link_0 rfl rfl ?_
  refine zq_callS (As := [.int (c)]) K dX2_link_1 zyX2_needClient zm_X2_29 zsX2_needClient rfl (by decide) rfl rfl (Nat.le_of_ble_eq_true rfl) (Nat.le_of_ble_eq_true rfl) (ct_X2_needClient c M) (znd_r (fun hc => ?_)) (znd_x (fun hc => ?_)) (Nat.le_refl _)
  · refine zq_iload_n K dX2_link_4 rfl rfl ?_
    refine zq_callS (As := [.int (n)]) K dX2_link_5 zyX2_needName zm_X2_33 zsX2_needName rfl (by decide) rfl rfl (Nat.le_of_ble_eq_true rfl) (Nat.le_of_ble_eq_true rfl) (ct_X2_needName n M) (znd_r (fun hn => ?_)) (znd_x (fun hn => ?_)) (Nat.le_refl _)
    · refine zq_aload_n K dX2_link_8 rfl rfl ?_
      refine zq_iload_n K dX2_link_9 rfl rfl ?_
      obtain ⟨rfl, hnd⟩ : k = 2 ∧ ¬ zIsD B d := by
        rcases hk with ⟨-, h1⟩ | ⟨e, -, -, h1⟩
        · exact absurd ⟨hc, hn⟩ h1
        · exact ⟨e, h1⟩
      refine zq_callV (As := [.int (d)]) K dX2_link_10 zyX2_needDirectory zm_X2_36 ziX2_needDirectory zvX2_needDirectory zclX2 rfl (by decide) rfl rfl (Nat.le_of_ble_eq_true rfl) (Nat.le_of_ble_eq_true rfl) hC.x.1 (ct_X2_needDirectory_0 hC hnd) zthr_r (zthr_x ?_) (Nat.le_refl _)
      exact zx_out K ⟨rfl, rfl⟩
    · rcases hk with ⟨rfl, -⟩ | ⟨-, -, h1, -⟩
      · exact zx_out K ⟨rfl, rfl⟩
      · exact absurd h1 hn
  · rcases hk with ⟨rfl, -⟩ | ⟨-, h1, -⟩
    · exact zx_out K ⟨rfl, rfl⟩
    · exact absurd h1 hc
theorem ct_X2_lookup_ok {G : ZG} {M : ZM} {W : Nat → Nat → Nat} {B : ZA} (hC : zC M W B) (hW : zWf B) {c d n : Nat} (hc : c < 4) (hv : zVal B 3 d) (hn : n < 50) : zMet G mX2_lookup [.ref (W 10 0), .int (nI (c)), .int (nI (d)), .int (nI (n))] M (zCP W M B (some (.int (B.2 6 (50 * d + n)))) (zLk B c d n)) := by
  refine zbody zyX2_lookup [some (.ref (W 10 0)), some (.int (nI (c))), some (.int (nI (d))), some (.int (nI (n))), none] rfl (Nat.le_of_ble_eq_true rfl) (by intro v hv; simp only [List.mem_cons, List.not_mem_nil, or_false] at hv; rcases hv with rfl | rfl | rfl | rfl <;> rfl) (fun E K => ?_)
  obtain ⟨⟨D, hB⟩, hF, hU⟩ := id hW
  have hS : zFm M W B M := zFm.rf
  refine zq_iload_n K dX2_lookup_0 rfl rfl ?_
  refine zq_callS (As := [.int (nI (c))]) K dX2_lookup_1 zyX2_needClient zm_X2_29 zsX2_needClient rfl (by decide) rfl rfl (Nat.le_of_ble_eq_true rfl) (Nat.le_of_ble_eq_true rfl) (ct_X2_needClient (nI c) M) (znd_r (fun hc9 => ?_)) (znd_x (fun hc9 => ?_)) (Nat.le_refl _)
  · refine zq_iload_n K dX2_lookup_4 rfl rfl ?_
    refine zq_callS (As := [.int (nI (n))]) K dX2_lookup_5 zyX2_needName zm_X2_33 zsX2_needName rfl (by decide) rfl rfl (Nat.le_of_ble_eq_true rfl) (Nat.le_of_ble_eq_true rfl) (ct_X2_needName (nI n) M) (znd_r (fun hn9 => ?_)) (znd_x (fun hn9 => ?_)) (Nat.le_refl _)
    · refine zq_aload_n K dX2_lookup_8 rfl rfl ?_
      refine zq_iload_n K dX2_lookup_9 rfl rfl ?_
      refine zq_callV (As := [.int (nI (d))]) K dX2_lookup_10 zyX2_needDirectory zm_X2_36 ziX2_needDirectory zvX2_needDirectory zclX2 rfl (by decide) rfl rfl (Nat.le_of_ble_eq_true rfl) (Nat.le_of_ble_eq_true rfl) hC.x.1 (ct_X2_needDirectory_1 hC hv) (zone_r ?_) zone_x (Nat.le_refl _)
      refine zq_astore K dX2_lookup_13 (by decide) ?_
      refine zq_aload K dX2_lookup_15 rfl ?_
      refine zq_iload_n K dX2_lookup_17 rfl rfl ?_
      refine zq_iload_n K dX2_lookup_18 rfl rfl ?_
      refine zq_aload_n K dX2_lookup_19 rfl rfl ?_
      refine zq_getI K dX2_lookup_20 zclX2 (k := 4) (by decide) zf_X2_40 rfl hC.x.1 ?_
      refine zq_top hC.x.2.2.1.2.2.2.1 ?_
      refine zq_callV (As := [.int (nI (c)), .int (nI (n)), .int (B.1 1)]) K dX2_lookup_23 zyX0_leaseRuns zm_X2_43 ziX0_leaseRuns zvX0_leaseRuns zclX0 rfl (by decide) rfl rfl (Nat.le_of_ble_eq_true rfl) (Nat.le_of_ble_eq_true rfl) (hC.d hv).1 (ct_X0_leaseRuns hC hv hc hn (B.1 1)) (zdec_r (fun hr => ?_) (fun hr => ?_)) zdec_x (Nat.le_refl _)
      · refine zq_if_eqN K (x := 1) 42 dX2_lookup_26 (by decide) (by omega) (fun h26 => by omega) (fun h26 => ?_)
        refine zq_aload_n K dX2_lookup_29 rfl rfl ?_
        refine zq_getRs K dX2_lookup_30 zclX2 (k := 6) (by decide) zf_X2_19 rfl hC.x.1 hC.x.2.1.2.2 ?_
        refine zq_iload_n K dX2_lookup_33 rfl rfl ?_
        refine zq_dup2 K dX2_lookup_34 rfl rfl ?_
        refine zc_ldcnt K (z := 2) (c := c) dX2_lookup_35 hC (by decide) rfl (by omega) ?_
        refine zq_top (v := B.2 15 c) rfl ?_
        refine zq_iconst K dX2_lookup_36 (v := nI 1) (by decide) ?_
        refine zq_iadd K dX2_lookup_37 ?_
        refine zc_stkno K (c := c) dX2_lookup_38 hC hS rfl (by omega) (fun M hC hS => ?_)
        refine zq_goto K 71 dX2_lookup_39 (by decide) ?_
        refine zq_aload K dX2_lookup_71 rfl ?_
        refine zq_iload_n K dX2_lookup_73 rfl rfl ?_
        refine zq_callV (As := [.int (nI (n))]) K dX2_lookup_74 zyX0_meaningOf zm_X2_60 ziX0_meaningOf zvX0_meaningOf zclX0 rfl (by decide) rfl rfl (Nat.le_of_ble_eq_true rfl) (Nat.le_of_ble_eq_true rfl) (hC.d hv).1 (ct_X0_meaningOf (B := zsa B 15 c (B.2 15 c + nI 1)) hC hv hn) (zone_r ?_) zone_x (Nat.le_refl _)
        exact zq_iret K dX2_lookup_77 rfl ⟨rfl, by rw [zLk, if_pos hr]; exact hC, hS⟩
      · refine zq_if_eqN K (x := 0) 42 dX2_lookup_26 (by decide) (by omega) (fun h26 => ?_) (fun h26 => by omega)
        refine zq_aload K dX2_lookup_42 rfl ?_
        refine zq_iload_n K dX2_lookup_44 rfl rfl ?_
        refine zq_callV (As := [.int (nI (n))]) K dX2_lookup_45 zyX0_fragmentOfName zm_X2_47 ziX0_fragmentOfName zvX0_fragmentOfName zclX0 rfl (by decide) rfl rfl (Nat.le_of_ble_eq_true rfl) (Nat.le_of_ble_eq_true rfl) (hC.d hv).1 (ct_X0_fragmentOfName (B := B) hC hv hn) (zone_r ?_) zone_x (Nat.le_refl _)
        refine zq_dup K dX2_lookup_48 rfl ?_
        refine zq_getI K dX2_lookup_49 zclX1 (k := 4) (by decide) zf_X2_51 rfl (hC.f (zVal.nm hF hv hn)).1 ?_
        refine zq_top (hC.f (zVal.nm hF hv hn)).2.2.2.2.2 ?_
        refine zq_top (v := B.2 12 (zfn B d n)) rfl ?_
        refine zq_iconst K dX2_lookup_52 (v := nI 1) (by decide) ?_
        refine zq_iadd K dX2_lookup_53 ?_
        refine zc_pload K dX2_lookup_54 zf_X2_51 hC hS (zVal.nm hF hv hn) (zVal.nm hF hv hn) (fun M hC hS => ?_)
        refine zq_aload K dX2_lookup_57 rfl ?_
        refine zq_iload_n K dX2_lookup_59 rfl rfl ?_
        refine zq_iload_n K dX2_lookup_60 rfl rfl ?_
        refine zq_aload_n K dX2_lookup_61 rfl rfl ?_
        refine zq_getI K dX2_lookup_62 zclX2 (k := 4) (by decide) zf_X2_40 rfl hC.x.1 ?_
        refine zq_top hC.x.2.2.1.2.2.2.1 ?_
        refine zq_top (v := B.1 1) rfl ?_
        refine zq_bipush K dX2_lookup_65 (v := nI 10) (by decide) ?_
        refine zq_iadd K dX2_lookup_67 ?_
        refine zq_callV (As := [.int (nI (c)), .int (nI (n)), .int ((B.1 1) + (nI (10)))]) K dX2_lookup_68 zyX0_setLeaseEnd zm_X2_56 ziX0_setLeaseEnd zvX0_setLeaseEnd zclX0 rfl (by decide) rfl rfl (Nat.le_of_ble_eq_true rfl) (Nat.le_of_ble_eq_true rfl) (hC.d hv).1 (ct_X0_setLeaseEnd (B := zsa B 12 (zfn B d n) (B.2 12 (zfn B d n) + nI 1)) hC hv hc hn (B.1 1 + nI 10)) (zCP_r hS (fun _ _ h => h) (fun M hC hS => ?_)) zCP_x (Nat.le_refl _)
        refine zq_aload K dX2_lookup_71 rfl ?_
        refine zq_iload_n K dX2_lookup_73 rfl rfl ?_
        refine zq_callV (As := [.int (nI (n))]) K dX2_lookup_74 zyX0_meaningOf zm_X2_60 ziX0_meaningOf zvX0_meaningOf zclX0 rfl (by decide) rfl rfl (Nat.le_of_ble_eq_true rfl) (Nat.le_of_ble_eq_true rfl) (hC.d hv).1 (ct_X0_meaningOf (B := zsa (zsa B 12 (zfn B d n) (B.2 12 (zfn B d n) + nI 1)) 13 (600 * c + (50 * d + n)) (B.1 1 + nI 10)) hC hv hn) (zone_r ?_) zone_x (Nat.le_refl _)
        exact zq_iret K dX2_lookup_77 rfl ⟨rfl, by rw [zLk, if_neg hr]; exact hC, hS⟩
    · exact absurd ⟨n, by omega, rfl⟩ hn9
  · exact absurd ⟨c, by omega, rfl⟩ hc9
/-- a new link -/
def zcl1 (B : ZA) (c : Int32) (d n : Nat) (f : Int32) : ZA := zcn (zsc B 8 (B.1 8 + nI 1)) c d n f (B.1 8 + nI 1)

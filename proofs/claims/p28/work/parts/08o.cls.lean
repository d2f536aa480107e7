/-! the class: rename -/
theorem zcn_1 (B : ZA) (c : Int32) (d n : Nat) (m g : Int32) : (zcn B c d n m g).1 = B.1 := (zel_sme _ _ _ 4).1
theorem zcn_n (B : ZA) (c : Int32) (d n : Nat) (m g : Int32) {i : Nat} (h6 : i ≠ 6) (h7 : i ≠ 7) (h12 : i ≠ 12) (h13 : i ≠ 13) (h14 : i ≠ 14) : (zcn B c d n m g).2 i = B.2 i := by
  unfold zcn
  rw [(zel_sme _ _ _ 4).2 i h13 h14, zsa_n _ _ _ _ _ h12, zsa_n _ _ _ _ _ h7, zsa_n _ _ _ _ _ h6]
theorem zcn_val {B : ZA} {c : Int32} {d n : Nat} {m g : Int32} {i j : Nat} : zVal (zcn B c d n m g) i j ↔ zVal B i j := zVal.cg (zcn_n B c d n m g (by decide) (by decide) (by decide) (by decide) (by decide)) (zcn_n B c d n m g (by decide) (by decide) (by decide) (by decide) (by decide))
theorem zcn_fr {B : ZA} {c : Int32} {d n : Nat} {m g : Int32} (h : zFr B) : zFr (zcn B c d n m g) := by
  unfold zFr
  rw [zcn_n B c d n m g (by decide) (by decide) (by decide) (by decide) (by decide), zcn_n B c d n m g (by decide) (by decide) (by decide) (by decide) (by decide), zcn_n B c d n m g (by decide) (by decide) (by decide) (by decide) (by decide)]
  exact h
theorem ct_X2_rename_1 {G : ZG} {M : ZM} {W : Nat → Nat → Nat} {B : ZA} (hC : zC M W B) {c d n t o : Int32} (h : ¬ (zOn c 3 ∧ zOn n 49 ∧ zOn o 49)) : zMet G mX2_rename [.ref (W 10 0), .int (c), .int (d), .int (n), .int (t), .int (o)] M (zthr zIAE M) := by
  refine zbody zyX2_rename [some (.ref (W 10 0)), some (.int (c)), some (.int (d)), some (.int (n)), some (.int (t)), some (.int (o)), none, none, none, none, none] rfl (Nat.le_of_ble_eq_true rfl) (by intro v hv; simp only [List.mem_cons, List.not_mem_nil, or_false] at hv; rcases hv with rfl | rfl | rfl | rfl | rfl | rfl <;> rfl) (fun E K => ?_)
  refine zq_iload_n K dX2_rename_0 rfl rfl ?_
  refine zq_callS (As := [.int (c)]) K dX2_rename_1 zyX2_needClient zm_X2_29 zsX2_needClient rfl (by decide) rfl rfl (Nat.le_of_ble_eq_true rfl) (Nat.le_of_ble_eq_true rfl) (ct_X2_needClient c M) (znd_r (fun hc => ?_)) (znd_x (fun hc => ?_)) (Nat.le_refl _)
  · refine zq_iload_n K dX2_rename_4 rfl rfl ?_
    refine zq_callS (As := [.int (n)]) K dX2_rename_5 zyX2_needName zm_X2_33 zsX2_needName rfl (by decide) rfl rfl (Nat.le_of_ble_eq_true rfl) (Nat.le_of_ble_eq_true rfl) (ct_X2_needName n M) (znd_r (fun hn => ?_)) (znd_x (fun hn => ?_)) (Nat.le_refl _)
    · refine zq_iload K dX2_rename_8 rfl ?_
      refine zq_callS (As := [.int (o)]) K dX2_rename_10 zyX2_needName zm_X2_33 zsX2_needName rfl (by decide) rfl rfl (Nat.le_of_ble_eq_true rfl) (Nat.le_of_ble_eq_true rfl) (ct_X2_needName o M) (znd_r (fun ho => ?_)) (znd_x (fun ho => ?_)) (Nat.le_refl _)
      · exact absurd ⟨hc, hn, ho⟩ h
      · exact zx_out K ⟨rfl, rfl⟩
    · exact zx_out K ⟨rfl, rfl⟩
  · exact zx_out K ⟨rfl, rfl⟩
theorem ct_X2_rename_2a {G : ZG} {M : ZM} {W : Nat → Nat → Nat} {B : ZA} (hC : zC M W B) {c n o : Nat} {d t : Int32} (hc : c < 4) (hn : n < 50) (ho : o < 50) (h : ¬ zIsD B d) : zMet G mX2_rename [.ref (W 10 0), .int (nI (c)), .int (d), .int (nI (n)), .int (t), .int (nI (o))] M (zthr zIOB M) := by
  refine zbody zyX2_rename [some (.ref (W 10 0)), some (.int (nI (c))), some (.int (d)), some (.int (nI (n))), some (.int (t)), some (.int (nI (o))), none, none, none, none, none] rfl (Nat.le_of_ble_eq_true rfl) (by intro v hv; simp only [List.mem_cons, List.not_mem_nil, or_false] at hv; rcases hv with rfl | rfl | rfl | rfl | rfl | rfl <;> rfl) (fun E K => ?_)
  refine zq_iload_n K dX2_rename_0 rfl rfl ?_
  refine zq_callS (As := [.int (nI (c))]) K dX2_rename_1 zyX2_needClient zm_X2_29 zsX2_needClient rfl (by decide) rfl rfl (Nat.le_of_ble_eq_true rfl) (Nat.le_of_ble_eq_true rfl) (ct_X2_needClient (nI c) M) (znd_r (fun hc9 => ?_)) (znd_x (fun hc9 => ?_)) (Nat.le_refl _)
  · refine zq_iload_n K dX2_rename_4 rfl rfl ?_
    refine zq_callS (As := [.int (nI (n))]) K dX2_rename_5 zyX2_needName zm_X2_33 zsX2_needName rfl (by decide) rfl rfl (Nat.le_of_ble_eq_true rfl) (Nat.le_of_ble_eq_true rfl) (ct_X2_needName (nI n) M) (znd_r (fun hn9 => ?_)) (znd_x (fun hn9 => ?_)) (Nat.le_refl _)
    · refine zq_iload K dX2_rename_8 rfl ?_
      refine zq_callS (As := [.int (nI (o))]) K dX2_rename_10 zyX2_needName zm_X2_33 zsX2_needName rfl (by decide) rfl rfl (Nat.le_of_ble_eq_true rfl) (Nat.le_of_ble_eq_true rfl) (ct_X2_needName (nI o) M) (znd_r (fun ho9 => ?_)) (znd_x (fun ho9 => ?_)) (Nat.le_refl _)
      · refine zq_aload_n K dX2_rename_13 rfl rfl ?_
        refine zq_iload_n K dX2_rename_14 rfl rfl ?_
        refine zq_callV (As := [.int (d)]) K dX2_rename_15 zyX2_needDirectory zm_X2_36 ziX2_needDirectory zvX2_needDirectory zclX2 rfl (by decide) rfl rfl (Nat.le_of_ble_eq_true rfl) (Nat.le_of_ble_eq_true rfl) hC.x.1 (ct_X2_needDirectory_0 hC h) zthr_r (zthr_x ?_) (Nat.le_refl _)
        exact zx_out K ⟨rfl, rfl⟩
      · exact absurd ⟨o, by omega, rfl⟩ ho9
    · exact absurd ⟨n, by omega, rfl⟩ hn9
  · exact absurd ⟨c, by omega, rfl⟩ hc9
theorem ct_X2_rename_2b {G : ZG} {M : ZM} {W : Nat → Nat → Nat} {B : ZA} (hC : zC M W B) {c d n o : Nat} {t : Int32} (hc : c < 4) (hv : zVal B 3 d) (hn : n < 50) (ho : o < 50) (h : ¬ zIsD B t) : zMet G mX2_rename [.ref (W 10 0), .int (nI (c)), .int (nI (d)), .int (nI (n)), .int (t), .int (nI (o))] M (zthr zIOB M) := by
  refine zbody zyX2_rename [some (.ref (W 10 0)), some (.int (nI (c))), some (.int (nI (d))), some (.int (nI (n))), some (.int (t)), some (.int (nI (o))), none, none, none, none, none] rfl (Nat.le_of_ble_eq_true rfl) (by intro v hv; simp only [List.mem_cons, List.not_mem_nil, or_false] at hv; rcases hv with rfl | rfl | rfl | rfl | rfl | rfl <;> rfl) (fun E K => ?_)
  refine zq_iload_n K dX2_rename_0 rfl rfl ?_
  refine zq_callS (As := [.int (nI (c))]) K dX2_rename_1 zyX2_needClient zm_X2_29 zsX2_needClient rfl (by decide) rfl rfl (Nat.le_of_ble_eq_true rfl) (Nat.le_of_ble_eq_true rfl) (ct_X2_needClient (nI c) M) (znd_r (fun hc9 => ?_)) (znd_x (fun hc9 => ?_)) (Nat.le_refl _)
  · refine zq_iload_n K dX2_rename_4 rfl rfl ?_
    refine zq_callS (As := [.int (nI (n))]) K dX2_rename_5 zyX2_needName zm_X2_33 zsX2_needName rfl (by decide) rfl rfl (Nat.le_of_ble_eq_true rfl) (Nat.le_of_ble_eq_true rfl) (ct_X2_needName (nI n) M) (znd_r (fun hn9 => ?_)) (znd_x (fun hn9 => ?_)) (Nat.le_refl _)
    · refine zq_iload K dX2_rename_8 rfl ?_
      refine zq_callS (As := [.int (nI (o))]) K dX2_rename_10 zyX2_needName zm_X2_33 zsX2_needName rfl (by decide) rfl rfl (Nat.le_of_ble_eq_true rfl) (Nat.le_of_ble_eq_true rfl) (ct_X2_needName (nI o) M) (znd_r (fun ho9 => ?_)) (znd_x (fun ho9 => ?_)) (Nat.le_refl _)
      · refine zq_aload_n K dX2_rename_13 rfl rfl ?_
        refine zq_iload_n K dX2_rename_14 rfl rfl ?_
        refine zq_callV (As := [.int (nI (d))]) K dX2_rename_15 zyX2_needDirectory zm_X2_36 ziX2_needDirectory zvX2_needDirectory zclX2 rfl (by decide) rfl rfl (Nat.le_of_ble_eq_true rfl) (Nat.le_of_ble_eq_true rfl) hC.x.1 (ct_X2_needDirectory_1 hC hv) (zone_r ?_) zone_x (Nat.le_refl _)
        refine zq_astore K dX2_rename_18 (by decide) ?_
        refine zq_aload_n K dX2_rename_20 rfl rfl ?_
        refine zq_iload K dX2_rename_21 rfl ?_
        refine zq_callV (As := [.int (t)]) K dX2_rename_23 zyX2_needDirectory zm_X2_36 ziX2_needDirectory zvX2_needDirectory zclX2 rfl (by decide) rfl rfl (Nat.le_of_ble_eq_true rfl) (Nat.le_of_ble_eq_true rfl) hC.x.1 (ct_X2_needDirectory_0 hC h) zthr_r (zthr_x ?_) (Nat.le_refl _)
        exact zx_out K ⟨rfl, rfl⟩
      · exact absurd ⟨o, by omega, rfl⟩ ho9
    · exact absurd ⟨n, by omega, rfl⟩ hn9
  · exact absurd ⟨c, by omega, rfl⟩ hc9
theorem ct_X2_rename_no {G : ZG} {M : ZM} {W : Nat → Nat → Nat} {B : ZA} (hC : zC M W B) (hW : zWf B) (hM : zMw B) {c d n t o : Nat} (hc : c < 4) (hv : zVal B 3 d) (hn : n < 50) (hvt : zVal B 3 t) (ho : o < 50) (h : ¬ (¬ B.2 6 (50 * d + n) = -1 ∧ ¬ zfz B (zfn B d n) = true) ∨ zBz B t o) : zMet G mX2_rename [.ref (W 10 0), .int (nI (c)), .int (nI (d)), .int (nI (n)), .int (nI (t)), .int (nI (o))] M (zthr zISE M) := by
  refine zbody zyX2_rename [some (.ref (W 10 0)), some (.int (nI (c))), some (.int (nI (d))), some (.int (nI (n))), some (.int (nI (t))), some (.int (nI (o))), none, none, none, none, none] rfl (Nat.le_of_ble_eq_true rfl) (by intro v hv; simp only [List.mem_cons, List.not_mem_nil, or_false] at hv; rcases hv with rfl | rfl | rfl | rfl | rfl | rfl <;> rfl) (fun E K => ?_)
  obtain ⟨⟨D, hB⟩, hF, hU⟩ := id hW
  have hS : zFm M W B M := zFm.rf
  refine zq_iload_n K dX2_rename_0 rfl rfl ?_
  refine zq_callS (As := [.int (nI (c))]) K dX2_rename_1 zyX2_needClient zm_X2_29 zsX2_needClient rfl (by decide) rfl rfl (Nat.le_of_ble_eq_true rfl) (Nat.le_of_ble_eq_true rfl) (ct_X2_needClient (nI c) M) (znd_r (fun hc9 => ?_)) (znd_x (fun hc9 => ?_)) (Nat.le_refl _)
  · refine zq_iload_n K dX2_rename_4 rfl rfl ?_
    refine zq_callS (As := [.int (nI (n))]) K dX2_rename_5 zyX2_needName zm_X2_33 zsX2_needName rfl (by decide) rfl rfl (Nat.le_of_ble_eq_true rfl) (Nat.le_of_ble_eq_true rfl) (ct_X2_needName (nI n) M) (znd_r (fun hn9 => ?_)) (znd_x (fun hn9 => ?_)) (Nat.le_refl _)
    · refine zq_iload K dX2_rename_8 rfl ?_
      refine zq_callS (As := [.int (nI (o))]) K dX2_rename_10 zyX2_needName zm_X2_33 zsX2_needName rfl (by decide) rfl rfl (Nat.le_of_ble_eq_true rfl) (Nat.le_of_ble_eq_true rfl) (ct_X2_needName (nI o) M) (znd_r (fun ho9 => ?_)) (znd_x (fun ho9 => ?_)) (Nat.le_refl _)
      · refine zq_aload_n K dX2_rename_13 rfl rfl ?_
        refine zq_iload_n K dX2_rename_14 rfl rfl ?_
        refine zq_callV (As := [.int (nI (d))]) K dX2_rename_15 zyX2_needDirectory zm_X2_36 ziX2_needDirectory zvX2_needDirectory zclX2 rfl (by decide) rfl rfl (Nat.le_of_ble_eq_true rfl) (Nat.le_of_ble_eq_true rfl) hC.x.1 (ct_X2_needDirectory_1 hC hv) (zone_r ?_) zone_x (Nat.le_refl _)
        refine zq_astore K dX2_rename_18 (by decide) ?_
        refine zq_aload_n K dX2_rename_20 rfl rfl ?_
        refine zq_iload K dX2_rename_21 rfl ?_
        refine zq_callV (As := [.int (nI (t))]) K dX2_rename_23 zyX2_needDirectory zm_X2_36 ziX2_needDirectory zvX2_needDirectory zclX2 rfl (by decide) rfl rfl (Nat.le_of_ble_eq_true rfl) (Nat.le_of_ble_eq_true rfl) hC.x.1 (ct_X2_needDirectory_1 hC hvt) (zone_r ?_) zone_x (Nat.le_refl _)
        refine zq_astore K dX2_rename_26 (by decide) ?_
        refine zq_aload_n K dX2_rename_28 rfl rfl ?_
        refine zq_aload K dX2_rename_29 rfl ?_
        refine zq_iload_n K dX2_rename_31 rfl rfl ?_
        refine zq_callV (As := [.ref (W 3 d), .int (nI (n))]) K dX2_rename_32 zyX2_needTaken zm_X2_98 ziX2_needTaken zvX2_needTaken zclX2 rfl (by decide) rfl rfl (Nat.le_of_ble_eq_true rfl) (Nat.le_of_ble_eq_true rfl) hC.x.1 (ct_X2_needTaken hC hv hn hF hU hM) (znd_r (fun ht => ?_)) (znd_x (fun ht => ?_)) (Nat.le_refl _)
        · refine zq_aload_n K dX2_rename_35 rfl rfl ?_
          refine zq_aload K dX2_rename_36 rfl ?_
          refine zq_iload K dX2_rename_38 rfl ?_
          refine zq_callV (As := [.ref (W 3 t), .int (nI (o))]) K dX2_rename_40 zyX2_needFree zm_X2_64 ziX2_needFree zvX2_needFree zclX2 rfl (by decide) rfl rfl (Nat.le_of_ble_eq_true rfl) (Nat.le_of_ble_eq_true rfl) hC.x.1 (ct_X2_needFree hC hvt ho hF hU hM) (znd_r (fun hz => ?_)) (znd_x (fun hz => ?_)) (Nat.le_refl _)
          · exact absurd h (fun z => z.elim (fun y => y ht) (fun y => hz y))
          · exact zx_out K ⟨rfl, rfl⟩
        · exact zx_out K ⟨rfl, rfl⟩
      · exact absurd ⟨o, by omega, rfl⟩ ho9
    · exact absurd ⟨n, by omega, rfl⟩ hn9
  · exact absurd ⟨c, by omega, rfl⟩ hc9
theorem ct_X2_rename_file {G : ZG} {M : ZM} {W : Nat → Nat → Nat} {B : ZA} (hC : zC M W B) (hW : zWf B) (hM : zMw B) {c d n t o : Nat} (hc : c < 4) (hv : zVal B 3 d) (hn : n < 50) (hvt : zVal B 3 t) (ho : o < 50) (h1 : ¬ B.2 6 (50 * d + n) = -1 ∧ ¬ zfz B (zfn B d n) = true) (h2 : ¬ zBz B t o) (h3 : -2 < B.2 6 (50 * d + n)) : zMet G mX2_rename [.ref (W 10 0), .int (nI (c)), .int (nI (d)), .int (nI (n)), .int (nI (t)), .int (nI (o))] M (zCP W M B none (zcn (zcn B (nI c) d n (-1) (nI 0)) (nI c) t o (B.2 6 (50 * d + n)) (B.2 7 (50 * d + n)))) := by
  refine zbody zyX2_rename [some (.ref (W 10 0)), some (.int (nI (c))), some (.int (nI (d))), some (.int (nI (n))), some (.int (nI (t))), some (.int (nI (o))), none, none, none, none, none] rfl (Nat.le_of_ble_eq_true rfl) (by intro v hv; simp only [List.mem_cons, List.not_mem_nil, or_false] at hv; rcases hv with rfl | rfl | rfl | rfl | rfl | rfl <;> rfl) (fun E K => ?_)
  obtain ⟨⟨D, hB⟩, hF, hU⟩ := id hW
  have hS : zFm M W B M := zFm.rf
  refine zq_iload_n K dX2_rename_0 rfl rfl ?_
  refine zq_callS (As := [.int (nI (c))]) K dX2_rename_1 zyX2_needClient zm_X2_29 zsX2_needClient rfl (by decide) rfl rfl (Nat.le_of_ble_eq_true rfl) (Nat.le_of_ble_eq_true rfl) (ct_X2_needClient (nI c) M) (znd_r (fun hc9 => ?_)) (znd_x (fun hc9 => ?_)) (Nat.le_refl _)
  · refine zq_iload_n K dX2_rename_4 rfl rfl ?_
    refine zq_callS (As := [.int (nI (n))]) K dX2_rename_5 zyX2_needName zm_X2_33 zsX2_needName rfl (by decide) rfl rfl (Nat.le_of_ble_eq_true rfl) (Nat.le_of_ble_eq_true rfl) (ct_X2_needName (nI n) M) (znd_r (fun hn9 => ?_)) (znd_x (fun hn9 => ?_)) (Nat.le_refl _)
    · refine zq_iload K dX2_rename_8 rfl ?_
      refine zq_callS (As := [.int (nI (o))]) K dX2_rename_10 zyX2_needName zm_X2_33 zsX2_needName rfl (by decide) rfl rfl (Nat.le_of_ble_eq_true rfl) (Nat.le_of_ble_eq_true rfl) (ct_X2_needName (nI o) M) (znd_r (fun ho9 => ?_)) (znd_x (fun ho9 => ?_)) (Nat.le_refl _)
      · refine zq_aload_n K dX2_rename_13 rfl rfl ?_
        refine zq_iload_n K dX2_rename_14 rfl rfl ?_
        refine zq_callV (As := [.int (nI (d))]) K dX2_rename_15 zyX2_needDirectory zm_X2_36 ziX2_needDirectory zvX2_needDirectory zclX2 rfl (by decide) rfl rfl (Nat.le_of_ble_eq_true rfl) (Nat.le_of_ble_eq_true rfl) hC.x.1 (ct_X2_needDirectory_1 hC hv) (zone_r ?_) zone_x (Nat.le_refl _)
        refine zq_astore K dX2_rename_18 (by decide) ?_
        refine zq_aload_n K dX2_rename_20 rfl rfl ?_
        refine zq_iload K dX2_rename_21 rfl ?_
        refine zq_callV (As := [.int (nI (t))]) K dX2_rename_23 zyX2_needDirectory zm_X2_36 ziX2_needDirectory zvX2_needDirectory zclX2 rfl (by decide) rfl rfl (Nat.le_of_ble_eq_true rfl) (Nat.le_of_ble_eq_true rfl) hC.x.1 (ct_X2_needDirectory_1 hC hvt) (zone_r ?_) zone_x (Nat.le_refl _)
        refine zq_astore K dX2_rename_26 (by decide) ?_
        refine zq_aload_n K dX2_rename_28 rfl rfl ?_
        refine zq_aload K dX2_rename_29 rfl ?_
        refine zq_iload_n K dX2_rename_31 rfl rfl ?_
        refine zq_callV (As := [.ref (W 3 d), .int (nI (n))]) K dX2_rename_32 zyX2_needTaken zm_X2_98 ziX2_needTaken zvX2_needTaken zclX2 rfl (by decide) rfl rfl (Nat.le_of_ble_eq_true rfl) (Nat.le_of_ble_eq_true rfl) hC.x.1 (ct_X2_needTaken hC hv hn hF hU hM) (znd_r (fun ht => ?_)) (znd_x (fun ht => ?_)) (Nat.le_refl _)
        · refine zq_aload_n K dX2_rename_35 rfl rfl ?_
          refine zq_aload K dX2_rename_36 rfl ?_
          refine zq_iload K dX2_rename_38 rfl ?_
          refine zq_callV (As := [.ref (W 3 t), .int (nI (o))]) K dX2_rename_40 zyX2_needFree zm_X2_64 ziX2_needFree zvX2_needFree zclX2 rfl (by decide) rfl rfl (Nat.le_of_ble_eq_true rfl) (Nat.le_of_ble_eq_true rfl) hC.x.1 (ct_X2_needFree hC hvt ho hF hU hM) (znd_r (fun hz => ?_)) (znd_x (fun hz => ?_)) (Nat.le_refl _)
          · refine zq_aload K dX2_rename_43 rfl ?_
            refine zq_iload_n K dX2_rename_45 rfl rfl ?_
            refine zq_callV (As := [.int (nI (n))]) K dX2_rename_46 zyX0_meaningOf zm_X2_60 ziX0_meaningOf zvX0_meaningOf zclX0 rfl (by decide) rfl rfl (Nat.le_of_ble_eq_true rfl) (Nat.le_of_ble_eq_true rfl) (hC.d hv).1 (ct_X0_meaningOf hC hv hn) (zone_r ?_) zone_x (Nat.le_refl _)
            refine zq_istore K dX2_rename_49 (by decide) ?_
            refine zq_aload_n K dX2_rename_51 rfl rfl ?_
            refine zq_iload K dX2_rename_52 rfl ?_
            refine zq_callV (As := [.int (B.2 6 (50 * d + n))]) K dX2_rename_54 zyX2_directoryMeant zm_X2_101 ziX2_directoryMeant zvX2_directoryMeant zclX2 rfl (by decide) rfl rfl (Nat.le_of_ble_eq_true rfl) (Nat.le_of_ble_eq_true rfl) hC.x.1 (ct_X2_directoryMeant_0 hC h3) (zone_r ?_) zone_x (Nat.le_refl _)
            refine zq_astoreN K dX2_rename_57 (by decide) ?_
            refine zq_aloadN K dX2_rename_59 rfl ?_
            refine zq_ifnull_n K 84 dX2_rename_61 (by decide) ?_
            refine zq_aload K dX2_rename_84 rfl ?_
            refine zq_iload_n K dX2_rename_86 rfl rfl ?_
            refine zq_callV (As := [.int (nI (n))]) K dX2_rename_87 zyX0_ageOf zm_X2_120 ziX0_ageOf zvX0_ageOf zclX0 rfl (by decide) rfl rfl (Nat.le_of_ble_eq_true rfl) (Nat.le_of_ble_eq_true rfl) (hC.d hv).1 (ct_X0_ageOf hC hv hn) (zone_r ?_) zone_x (Nat.le_refl _)
            refine zq_istore K dX2_rename_90 (by decide) ?_
            refine zq_aload_n K dX2_rename_92 rfl rfl ?_
            refine zq_iload_n K dX2_rename_93 rfl rfl ?_
            refine zq_aload K dX2_rename_94 rfl ?_
            refine zq_iload_n K dX2_rename_96 rfl rfl ?_
            refine zq_iconst K dX2_rename_97 (v := -1) (by decide) ?_
            refine zq_iconst K dX2_rename_98 (v := nI 0) (by decide) ?_
            refine zq_callV (As := [.int (nI (c)), .ref (W 3 d), .int (nI (n)), .int (-1), .int (nI (0))]) K dX2_rename_99 zyX2_changeName zm_X2_75 ziX2_changeName zvX2_changeName zclX2 rfl (by decide) rfl rfl (Nat.le_of_ble_eq_true rfl) (Nat.le_of_ble_eq_true rfl) hC.x.1 (ct_X2_changeName hC hv hF hn (nI c) (-1) (nI 0)) (zCP_r hS (fun _ _ h => h) (fun M hC hS => ?_)) zCP_x (Nat.le_refl _)
            refine zq_aload_n K dX2_rename_102 rfl rfl ?_
            refine zq_iload_n K dX2_rename_103 rfl rfl ?_
            refine zq_aload K dX2_rename_104 rfl ?_
            refine zq_iload K dX2_rename_106 rfl ?_
            refine zq_iload K dX2_rename_108 rfl ?_
            refine zq_iload K dX2_rename_110 rfl ?_
            refine zq_callV (As := [.int (nI (c)), .ref (W 3 t), .int (nI (o)), .int (B.2 6 (50 * d + n)), .int (B.2 7 (50 * d + n))]) K dX2_rename_112 zyX2_changeName zm_X2_75 ziX2_changeName zvX2_changeName zclX2 rfl (by decide) rfl rfl (Nat.le_of_ble_eq_true rfl) (Nat.le_of_ble_eq_true rfl) hC.x.1 (ct_X2_changeName (B := (zcn B (nI c) d n (-1) (nI 0))) hC (zcn_val.mpr hvt) (zcn_fr hF) ho (nI c) (B.2 6 (50 * d + n)) (B.2 7 (50 * d + n))) (zCP_r hS (fun _ _ h => zcn_val.mp h) (fun M hC hS => ?_)) zCP_x (Nat.le_refl _)
            refine zq_aloadN K dX2_rename_115 rfl ?_
            refine zq_ifnull_n K 134 dX2_rename_117 (by decide) ?_
            exact zq_ret K dX2_rename_134 rfl ⟨rfl, hC, hS⟩
          · exact absurd h2 hz
        · exact absurd h1 ht
      · exact absurd ⟨o, by omega, rfl⟩ ho9
    · exact absurd ⟨n, by omega, rfl⟩ hn9
  · exact absurd ⟨c, by omega, rfl⟩ hc9
theorem ct_X2_rename_bel {G : ZG} {M : ZM} {W : Nat → Nat → Nat} {B : ZA} (hC : zC M W B) (hW : zWf B) (hM : zMw B) {c d n t o : Nat} (hc : c < 4) (hv : zVal B 3 d) (hn : n < 50) (hvt : zVal B 3 t) (ho : o < 50) (h1 : ¬ B.2 6 (50 * d + n) = -1 ∧ ¬ zfz B (zfn B d n) = true) (h2 : ¬ zBz B t o) {e : Nat} (he : zVal B 3 e) (h3 : B.2 6 (50 * d + n) = -2 - nI e) (h4 : zblN B 11 t e = true) : zMet G mX2_rename [.ref (W 10 0), .int (nI (c)), .int (nI (d)), .int (nI (n)), .int (nI (t)), .int (nI (o))] M (zthr zISE M) := by
  refine zbody zyX2_rename [some (.ref (W 10 0)), some (.int (nI (c))), some (.int (nI (d))), some (.int (nI (n))), some (.int (nI (t))), some (.int (nI (o))), none, none, none, none, none] rfl (Nat.le_of_ble_eq_true rfl) (by intro v hv; simp only [List.mem_cons, List.not_mem_nil, or_false] at hv; rcases hv with rfl | rfl | rfl | rfl | rfl | rfl <;> rfl) (fun E K => ?_)
  obtain ⟨⟨D, hB⟩, hF, hU⟩ := id hW
  have hS : zFm M W B M := zFm.rf
  refine zq_iload_n K dX2_rename_0 rfl rfl ?_
  refine zq_callS (As := [.int (nI (c))]) K dX2_rename_1 zyX2_needClient zm_X2_29 zsX2_needClient rfl (by decide) rfl rfl (Nat.le_of_ble_eq_true rfl) (Nat.le_of_ble_eq_true rfl) (ct_X2_needClient (nI c) M) (znd_r (fun hc9 => ?_)) (znd_x (fun hc9 => ?_)) (Nat.le_refl _)
  · refine zq_iload_n K dX2_rename_4 rfl rfl ?_
    refine zq_callS (As := [.int (nI (n))]) K dX2_rename_5 zyX2_needName zm_X2_33 zsX2_needName rfl (by decide) rfl rfl (Nat.le_of_ble_eq_true rfl) (Nat.le_of_ble_eq_true rfl) (ct_X2_needName (nI n) M) (znd_r (fun hn9 => ?_)) (znd_x (fun hn9 => ?_)) (Nat.le_refl _)
    · refine zq_iload K dX2_rename_8 rfl ?_
      refine zq_callS (As := [.int (nI (o))]) K dX2_rename_10 zyX2_needName zm_X2_33 zsX2_needName rfl (by decide) rfl rfl (Nat.le_of_ble_eq_true rfl) (Nat.le_of_ble_eq_true rfl) (ct_X2_needName (nI o) M) (znd_r (fun ho9 => ?_)) (znd_x (fun ho9 => ?_)) (Nat.le_refl _)
      · refine zq_aload_n K dX2_rename_13 rfl rfl ?_
        refine zq_iload_n K dX2_rename_14 rfl rfl ?_
        refine zq_callV (As := [.int (nI (d))]) K dX2_rename_15 zyX2_needDirectory zm_X2_36 ziX2_needDirectory zvX2_needDirectory zclX2 rfl (by decide) rfl rfl (Nat.le_of_ble_eq_true rfl) (Nat.le_of_ble_eq_true rfl) hC.x.1 (ct_X2_needDirectory_1 hC hv) (zone_r ?_) zone_x (Nat.le_refl _)
        refine zq_astore K dX2_rename_18 (by decide) ?_
        refine zq_aload_n K dX2_rename_20 rfl rfl ?_
        refine zq_iload K dX2_rename_21 rfl ?_
        refine zq_callV (As := [.int (nI (t))]) K dX2_rename_23 zyX2_needDirectory zm_X2_36 ziX2_needDirectory zvX2_needDirectory zclX2 rfl (by decide) rfl rfl (Nat.le_of_ble_eq_true rfl) (Nat.le_of_ble_eq_true rfl) hC.x.1 (ct_X2_needDirectory_1 hC hvt) (zone_r ?_) zone_x (Nat.le_refl _)
        refine zq_astore K dX2_rename_26 (by decide) ?_
        refine zq_aload_n K dX2_rename_28 rfl rfl ?_
        refine zq_aload K dX2_rename_29 rfl ?_
        refine zq_iload_n K dX2_rename_31 rfl rfl ?_
        refine zq_callV (As := [.ref (W 3 d), .int (nI (n))]) K dX2_rename_32 zyX2_needTaken zm_X2_98 ziX2_needTaken zvX2_needTaken zclX2 rfl (by decide) rfl rfl (Nat.le_of_ble_eq_true rfl) (Nat.le_of_ble_eq_true rfl) hC.x.1 (ct_X2_needTaken hC hv hn hF hU hM) (znd_r (fun ht => ?_)) (znd_x (fun ht => ?_)) (Nat.le_refl _)
        · refine zq_aload_n K dX2_rename_35 rfl rfl ?_
          refine zq_aload K dX2_rename_36 rfl ?_
          refine zq_iload K dX2_rename_38 rfl ?_
          refine zq_callV (As := [.ref (W 3 t), .int (nI (o))]) K dX2_rename_40 zyX2_needFree zm_X2_64 ziX2_needFree zvX2_needFree zclX2 rfl (by decide) rfl rfl (Nat.le_of_ble_eq_true rfl) (Nat.le_of_ble_eq_true rfl) hC.x.1 (ct_X2_needFree hC hvt ho hF hU hM) (znd_r (fun hz => ?_)) (znd_x (fun hz => ?_)) (Nat.le_refl _)
          · refine zq_aload K dX2_rename_43 rfl ?_
            refine zq_iload_n K dX2_rename_45 rfl rfl ?_
            refine zq_callV (As := [.int (nI (n))]) K dX2_rename_46 zyX0_meaningOf zm_X2_60 ziX0_meaningOf zvX0_meaningOf zclX0 rfl (by decide) rfl rfl (Nat.le_of_ble_eq_true rfl) (Nat.le_of_ble_eq_true rfl) (hC.d hv).1 (show zMet G mX0_meaningOf [.ref (W 3 d), .int (nI n)] M (zone (some (.int (-2 - nI e))) M) from by have := ct_X0_meaningOf (G := G) hC hv hn; rwa [h3] at this) (zone_r ?_) zone_x (Nat.le_refl _)
            refine zq_istore K dX2_rename_49 (by decide) ?_
            refine zq_aload_n K dX2_rename_51 rfl rfl ?_
            refine zq_iload K dX2_rename_52 rfl ?_
            refine zq_callV (As := [.int (-2 - nI e)]) K dX2_rename_54 zyX2_directoryMeant zm_X2_101 ziX2_directoryMeant zvX2_directoryMeant zclX2 rfl (by decide) rfl rfl (Nat.le_of_ble_eq_true rfl) (Nat.le_of_ble_eq_true rfl) hC.x.1 (ct_X2_directoryMeant_1 hC he) (zone_r ?_) zone_x (Nat.le_refl _)
            refine zq_astore K dX2_rename_57 (by decide) ?_
            refine zq_aload K dX2_rename_59 rfl ?_
            refine zq_ifnull_r K dX2_rename_61 ?_
            refine zq_aload K dX2_rename_64 rfl ?_
            refine zq_aload K dX2_rename_66 rfl ?_
            refine zq_callV (As := [.ref (W 3 e)]) K dX2_rename_68 zyX0_isWithin zm_X2_114 ziX0_isWithin zvX0_isWithin zclX0 rfl (by decide) rfl rfl (Nat.le_of_ble_eq_true rfl) (Nat.le_of_ble_eq_true rfl) (hC.d hvt).1 (ct_X0_isWithin hC hvt he (hU t hvt.1 hvt.2)) (zdec_r (fun hw => ?_) (fun hw => ?_)) zdec_x (Nat.le_refl _)
            · refine zq_if_eqN K (x := 1) 84 dX2_rename_71 (by decide) (by omega) (fun h71 => by omega) (fun h71 => ?_)
              exact zq_throw K (text := "the target is the directory or below it") zthISE (by decide +kernel) dX2_rename_74 dX2_rename_77 dX2_rename_78 dX2_rename_80 dX2_rename_83 (by decide) (Nat.le_of_ble_eq_true rfl) (Nat.le_of_ble_eq_true rfl) ⟨rfl, rfl⟩
            · refine zq_if_eqN K (x := 0) 84 dX2_rename_71 (by decide) (by omega) (fun h71 => ?_) (fun h71 => by omega)
              exact absurd h4 hw
          · exact absurd h2 hz
        · exact absurd h1 ht
      · exact absurd ⟨o, by omega, rfl⟩ ho9
    · exact absurd ⟨n, by omega, rfl⟩ hn9
  · exact absurd ⟨c, by omega, rfl⟩ hc9
theorem ct_X2_rename_dir {G : ZG} {M : ZM} {W : Nat → Nat → Nat} {B : ZA} (hC : zC M W B) (hW : zWf B) (hM : zMw B) {c d n t o : Nat} (hc : c < 4) (hv : zVal B 3 d) (hn : n < 50) (hvt : zVal B 3 t) (ho : o < 50) (h1 : ¬ B.2 6 (50 * d + n) = -1 ∧ ¬ zfz B (zfn B d n) = true) (h2 : ¬ zBz B t o) {e : Nat} (he : zVal B 3 e) (h3 : B.2 6 (50 * d + n) = -2 - nI e) (h4 : ¬ zblN B 11 t e = true) (he0 : ¬ e = 0) : zMet G mX2_rename [.ref (W 10 0), .int (nI (c)), .int (nI (d)), .int (nI (n)), .int (nI (t)), .int (nI (o))] M (zCP W M B none (zsa (zsa (zcn (zcn B (nI c) d n (-1) (nI 0)) (nI c) t o (-2 - nI e) (B.2 7 (50 * d + n))) 4 e (nI t)) 5 e (nI o))) := by
  refine zbody zyX2_rename [some (.ref (W 10 0)), some (.int (nI (c))), some (.int (nI (d))), some (.int (nI (n))), some (.int (nI (t))), some (.int (nI (o))), none, none, none, none, none] rfl (Nat.le_of_ble_eq_true rfl) (by intro v hv; simp only [List.mem_cons, List.not_mem_nil, or_false] at hv; rcases hv with rfl | rfl | rfl | rfl | rfl | rfl <;> rfl) (fun E K => ?_)
  obtain ⟨⟨D, hB⟩, hF, hU⟩ := id hW
  have hS : zFm M W B M := zFm.rf
  refine zq_iload_n K dX2_rename_0 rfl rfl ?_
  refine zq_callS (As := [.int (nI (c))]) K dX2_rename_1 zyX2_needClient zm_X2_29 zsX2_needClient rfl (by decide) rfl rfl (Nat.le_of_ble_eq_true rfl) (Nat.le_of_ble_eq_true rfl) (ct_X2_needClient (nI c) M) (znd_r (fun hc9 => ?_)) (znd_x (fun hc9 => ?_)) (Nat.le_refl _)
  · refine zq_iload_n K dX2_rename_4 rfl rfl ?_
    refine zq_callS (As := [.int (nI (n))]) K dX2_rename_5 zyX2_needName zm_X2_33 zsX2_needName rfl (by decide) rfl rfl (Nat.le_of_ble_eq_true rfl) (Nat.le_of_ble_eq_true rfl) (ct_X2_needName (nI n) M) (znd_r (fun hn9 => ?_)) (znd_x (fun hn9 => ?_)) (Nat.le_refl _)
    · refine zq_iload K dX2_rename_8 rfl ?_
      refine zq_callS (As := [.int (nI (o))]) K dX2_rename_10 zyX2_needName zm_X2_33 zsX2_needName rfl (by decide) rfl rfl (Nat.le_of_ble_eq_true rfl) (Nat.le_of_ble_eq_true rfl) (ct_X2_needName (nI o) M) (znd_r (fun ho9 => ?_)) (znd_x (fun ho9 => ?_)) (Nat.le_refl _)
      · refine zq_aload_n K dX2_rename_13 rfl rfl ?_
        refine zq_iload_n K dX2_rename_14 rfl rfl ?_
        refine zq_callV (As := [.int (nI (d))]) K dX2_rename_15 zyX2_needDirectory zm_X2_36 ziX2_needDirectory zvX2_needDirectory zclX2 rfl (by decide) rfl rfl (Nat.le_of_ble_eq_true rfl) (Nat.le_of_ble_eq_true rfl) hC.x.1 (ct_X2_needDirectory_1 hC hv) (zone_r ?_) zone_x (Nat.le_refl _)
        refine zq_astore K dX2_rename_18 (by decide) ?_
        refine zq_aload_n K dX2_rename_20 rfl rfl ?_
        refine zq_iload K dX2_rename_21 rfl ?_
        refine zq_callV (As := [.int (nI (t))]) K dX2_rename_23 zyX2_needDirectory zm_X2_36 ziX2_needDirectory zvX2_needDirectory zclX2 rfl (by decide) rfl rfl (Nat.le_of_ble_eq_true rfl) (Nat.le_of_ble_eq_true rfl) hC.x.1 (ct_X2_needDirectory_1 hC hvt) (zone_r ?_) zone_x (Nat.le_refl _)
        refine zq_astore K dX2_rename_26 (by decide) ?_
        refine zq_aload_n K dX2_rename_28 rfl rfl ?_
        refine zq_aload K dX2_rename_29 rfl ?_
        refine zq_iload_n K dX2_rename_31 rfl rfl ?_
        refine zq_callV (As := [.ref (W 3 d), .int (nI (n))]) K dX2_rename_32 zyX2_needTaken zm_X2_98 ziX2_needTaken zvX2_needTaken zclX2 rfl (by decide) rfl rfl (Nat.le_of_ble_eq_true rfl) (Nat.le_of_ble_eq_true rfl) hC.x.1 (ct_X2_needTaken hC hv hn hF hU hM) (znd_r (fun ht => ?_)) (znd_x (fun ht => ?_)) (Nat.le_refl _)
        · refine zq_aload_n K dX2_rename_35 rfl rfl ?_
          refine zq_aload K dX2_rename_36 rfl ?_
          refine zq_iload K dX2_rename_38 rfl ?_
          refine zq_callV (As := [.ref (W 3 t), .int (nI (o))]) K dX2_rename_40 zyX2_needFree zm_X2_64 ziX2_needFree zvX2_needFree zclX2 rfl (by decide) rfl rfl (Nat.le_of_ble_eq_true rfl) (Nat.le_of_ble_eq_true rfl) hC.x.1 (ct_X2_needFree hC hvt ho hF hU hM) (znd_r (fun hz => ?_)) (znd_x (fun hz => ?_)) (Nat.le_refl _)
          · refine zq_aload K dX2_rename_43 rfl ?_
            refine zq_iload_n K dX2_rename_45 rfl rfl ?_
            refine zq_callV (As := [.int (nI (n))]) K dX2_rename_46 zyX0_meaningOf zm_X2_60 ziX0_meaningOf zvX0_meaningOf zclX0 rfl (by decide) rfl rfl (Nat.le_of_ble_eq_true rfl) (Nat.le_of_ble_eq_true rfl) (hC.d hv).1 (show zMet G mX0_meaningOf [.ref (W 3 d), .int (nI n)] M (zone (some (.int (-2 - nI e))) M) from by have := ct_X0_meaningOf (G := G) hC hv hn; rwa [h3] at this) (zone_r ?_) zone_x (Nat.le_refl _)
            refine zq_istore K dX2_rename_49 (by decide) ?_
            refine zq_aload_n K dX2_rename_51 rfl rfl ?_
            refine zq_iload K dX2_rename_52 rfl ?_
            refine zq_callV (As := [.int (-2 - nI e)]) K dX2_rename_54 zyX2_directoryMeant zm_X2_101 ziX2_directoryMeant zvX2_directoryMeant zclX2 rfl (by decide) rfl rfl (Nat.le_of_ble_eq_true rfl) (Nat.le_of_ble_eq_true rfl) hC.x.1 (ct_X2_directoryMeant_1 hC he) (zone_r ?_) zone_x (Nat.le_refl _)
            refine zq_astore K dX2_rename_57 (by decide) ?_
            refine zq_aload K dX2_rename_59 rfl ?_
            refine zq_ifnull_r K dX2_rename_61 ?_
            refine zq_aload K dX2_rename_64 rfl ?_
            refine zq_aload K dX2_rename_66 rfl ?_
            refine zq_callV (As := [.ref (W 3 e)]) K dX2_rename_68 zyX0_isWithin zm_X2_114 ziX0_isWithin zvX0_isWithin zclX0 rfl (by decide) rfl rfl (Nat.le_of_ble_eq_true rfl) (Nat.le_of_ble_eq_true rfl) (hC.d hvt).1 (ct_X0_isWithin hC hvt he (hU t hvt.1 hvt.2)) (zdec_r (fun hw => ?_) (fun hw => ?_)) zdec_x (Nat.le_refl _)
            · refine zq_if_eqN K (x := 1) 84 dX2_rename_71 (by decide) (by omega) (fun h71 => by omega) (fun h71 => ?_)
              exact absurd hw h4
            · refine zq_if_eqN K (x := 0) 84 dX2_rename_71 (by decide) (by omega) (fun h71 => ?_) (fun h71 => by omega)
              refine zq_aload K dX2_rename_84 rfl ?_
              refine zq_iload_n K dX2_rename_86 rfl rfl ?_
              refine zq_callV (As := [.int (nI (n))]) K dX2_rename_87 zyX0_ageOf zm_X2_120 ziX0_ageOf zvX0_ageOf zclX0 rfl (by decide) rfl rfl (Nat.le_of_ble_eq_true rfl) (Nat.le_of_ble_eq_true rfl) (hC.d hv).1 (ct_X0_ageOf hC hv hn) (zone_r ?_) zone_x (Nat.le_refl _)
              refine zq_istore K dX2_rename_90 (by decide) ?_
              refine zq_aload_n K dX2_rename_92 rfl rfl ?_
              refine zq_iload_n K dX2_rename_93 rfl rfl ?_
              refine zq_aload K dX2_rename_94 rfl ?_
              refine zq_iload_n K dX2_rename_96 rfl rfl ?_
              refine zq_iconst K dX2_rename_97 (v := -1) (by decide) ?_
              refine zq_iconst K dX2_rename_98 (v := nI 0) (by decide) ?_
              refine zq_callV (As := [.int (nI (c)), .ref (W 3 d), .int (nI (n)), .int (-1), .int (nI (0))]) K dX2_rename_99 zyX2_changeName zm_X2_75 ziX2_changeName zvX2_changeName zclX2 rfl (by decide) rfl rfl (Nat.le_of_ble_eq_true rfl) (Nat.le_of_ble_eq_true rfl) hC.x.1 (ct_X2_changeName hC hv hF hn (nI c) (-1) (nI 0)) (zCP_r hS (fun _ _ h => h) (fun M hC hS => ?_)) zCP_x (Nat.le_refl _)
              refine zq_aload_n K dX2_rename_102 rfl rfl ?_
              refine zq_iload_n K dX2_rename_103 rfl rfl ?_
              refine zq_aload K dX2_rename_104 rfl ?_
              refine zq_iload K dX2_rename_106 rfl ?_
              refine zq_iload K dX2_rename_108 rfl ?_
              refine zq_iload K dX2_rename_110 rfl ?_
              refine zq_callV (As := [.int (nI (c)), .ref (W 3 t), .int (nI (o)), .int (-2 - nI e), .int (B.2 7 (50 * d + n))]) K dX2_rename_112 zyX2_changeName zm_X2_75 ziX2_changeName zvX2_changeName zclX2 rfl (by decide) rfl rfl (Nat.le_of_ble_eq_true rfl) (Nat.le_of_ble_eq_true rfl) hC.x.1 (ct_X2_changeName (B := (zcn B (nI c) d n (-1) (nI 0))) hC (zcn_val.mpr hvt) (zcn_fr hF) ho (nI c) (-2 - nI e) (B.2 7 (50 * d + n))) (zCP_r hS (fun _ _ h => zcn_val.mp h) (fun M hC hS => ?_)) zCP_x (Nat.le_refl _)
              refine zq_aload K dX2_rename_115 rfl ?_
              refine zq_ifnull_r K dX2_rename_117 ?_
              refine zq_aload K dX2_rename_120 rfl ?_
              refine zq_aload K dX2_rename_122 rfl ?_
              have he2 : zVal (zcn (zcn B (nI c) d n (-1) (nI 0)) (nI c) t o (-2 - nI e) (B.2 7 (50 * d + n))) 3 e := zcn_val.mpr (zcn_val.mpr he)
              refine zc_ppar K dX2_rename_124 zf_X2_123 hC hS he2 he he0 hvt.1 (fun M hC hS => ?_)
              have he3 : zVal (zsa (zcn (zcn B (nI c) d n (-1) (nI 0)) (nI c) t o (-2 - nI e) (B.2 7 (50 * d + n))) 4 e (nI t)) 3 e := (zVal.cg (zsa_n _ _ _ _ _ (by decide)) (zsa_n _ _ _ _ _ (by decide))).mpr he2
              refine zq_aload K dX2_rename_127 rfl ?_
              refine zq_iload K dX2_rename_129 rfl ?_
              refine zc_pnam K dX2_rename_131 zf_X2_127 hC hS he3 he (fun M hC hS => ?_)
              exact zq_ret K dX2_rename_134 rfl ⟨rfl, hC, hS⟩
          · exact absurd h2 hz
        · exact absurd h1 ht
      · exact absurd ⟨o, by omega, rfl⟩ ho9
    · exact absurd ⟨n, by omega, rfl⟩ hn9
  · exact absurd ⟨c, by omega, rfl⟩ hc9


theorem ct_X3_rename_free {G : ZG} {M : ZM} {x : Nat} {q : Nat → Nat} {w : Int32} {A : ZA} (hR : zR M x q w A) (hW : zWf A) {c d n e m : Nat} (hc : c < 4) (hd : d < 12) (hl : A.2 3 d = 1) (hn : n < 50) (hd2 : e < 12) (hl2 : A.2 3 e = 1) (hn2 : m < 50) (h : A.2 6 (50 * d + n) = -1) : zMet G mX3_rename [.ref (x), .int (nI (c)), .int (nI (d)), .int (nI (n)), .int (nI (e)), .int (nI (m))] M (zRP x q M none (nI 3) A) := by
  refine zbody zyX3_rename [some (.ref (x)), some (.int (nI (c))), some (.int (nI (d))), some (.int (nI (n))), some (.int (nI (e))), some (.int (nI (m))), none, none, none] rfl (Nat.le_of_ble_eq_true rfl) (by intro v hv; simp only [List.mem_cons, List.not_mem_nil, or_false] at hv; rcases hv with rfl | rfl | rfl | rfl | rfl | rfl <;> rfl) (fun E K => ?_)
  obtain ⟨⟨D, hB⟩, hF, hU⟩ := id hW
  have hS : zSm x q M M := zSm.rf
  refine zq_iload_n K dX3_rename_0 rfl rfl ?_
  refine zq_callS (As := [.int (nI (c))]) K dX3_rename_1 zyX3_isClient zm_X3_93 zsX3_isClient rfl (by decide) rfl rfl (Nat.le_of_ble_eq_true rfl) (Nat.le_of_ble_eq_true rfl) (ct_X3_isClient (nI c) M) (zdec_r (fun yc => ?_) (fun yc => ?_)) zdec_x (Nat.le_refl _)
  · refine zq_if_eqN K (x := 1) 26 dX3_rename_4 (by decide) (by omega) (fun h4 => by omega) (fun h4 => ?_)
    refine zq_iload_n K dX3_rename_7 rfl rfl ?_
    refine zq_callS (As := [.int (nI (n))]) K dX3_rename_8 zyX3_isName zm_X3_96 zsX3_isName rfl (by decide) rfl rfl (Nat.le_of_ble_eq_true rfl) (Nat.le_of_ble_eq_true rfl) (ct_X3_isName (nI n) M) (zdec_r (fun yn => ?_) (fun yn => ?_)) zdec_x (Nat.le_refl _)
    · refine zq_if_eqN K (x := 1) 26 dX3_rename_11 (by decide) (by omega) (fun h11 => by omega) (fun h11 => ?_)
      refine zq_iload K dX3_rename_14 rfl ?_
      refine zq_callS (As := [.int (nI (m))]) K dX3_rename_16 zyX3_isName zm_X3_96 zsX3_isName rfl (by decide) rfl rfl (Nat.le_of_ble_eq_true rfl) (Nat.le_of_ble_eq_true rfl) (ct_X3_isName (nI m) M) (zdec_r (fun ym => ?_) (fun ym => ?_)) zdec_x (Nat.le_refl _)
      · refine zq_if_eqN K (x := 1) 26 dX3_rename_19 (by decide) (by omega) (fun h19 => by omega) (fun h19 => ?_)
        refine zq_iconst K dX3_rename_22 (v := nI 1) (by decide) ?_
        refine zq_goto K 27 dX3_rename_23 (by decide) ?_
        refine zq_istore K dX3_rename_27 (by decide) ?_
        refine zq_aload_n K dX3_rename_29 rfl rfl ?_
        refine zq_iload K dX3_rename_30 rfl ?_
        refine zq_if_neN K (x := 1) 39 dX3_rename_32 (by decide) (by omega) (fun h32 => ?_) (fun h32 => by omega)
        refine zq_aload_n K dX3_rename_39 rfl rfl ?_
        refine zq_iload_n K dX3_rename_40 rfl rfl ?_
        refine zq_callV (As := [.int (nI (d))]) K dX3_rename_41 zyX3_isDirectory zm_X3_99 ziX3_isDirectory zvX3_isDirectory zclX3 rfl (by decide) rfl rfl (Nat.le_of_ble_eq_true rfl) (Nat.le_of_ble_eq_true rfl) hR.1 (ct_X3_isDirectory hR hB (nI d)) (zdec_r (fun yd => ?_) (fun yd => ?_)) zdec_x (Nat.le_refl _)
        · refine zq_if_eqN K (x := 1) 56 dX3_rename_44 (by decide) (by omega) (fun h44 => by omega) (fun h44 => ?_)
          refine zq_aload_n K dX3_rename_47 rfl rfl ?_
          refine zq_iload K dX3_rename_48 rfl ?_
          refine zq_callV (As := [.int (nI (e))]) K dX3_rename_50 zyX3_isDirectory zm_X3_99 ziX3_isDirectory zvX3_isDirectory zclX3 rfl (by decide) rfl rfl (Nat.le_of_ble_eq_true rfl) (Nat.le_of_ble_eq_true rfl) hR.1 (ct_X3_isDirectory hR hB (nI e)) (zdec_r (fun ye => ?_) (fun ye => ?_)) zdec_x (Nat.le_refl _)
          · refine zq_if_neN K (x := 1) 60 dX3_rename_53 (by decide) (by omega) (fun h53 => ?_) (fun h53 => by omega)
            refine zq_iconst K dX3_rename_60 (v := nI 0) (by decide) ?_
            refine zm_pth K dX3_rename_61 zf_X3_55 hR hS (fun M hR hS => ?_)
            refine zq_aload_n K dX3_rename_64 rfl rfl ?_
            refine zm_th K dX3_rename_65 zf_X3_55 hR ?_
            refine zq_if_leN K (x := 0) 72 dX3_rename_68 (by decide) (by omega) (fun h68 => ?_) (fun h68 => by omega)
            refine zq_aload_n K dX3_rename_72 rfl rfl ?_
            refine zm_ar K dX3_rename_73 zf_X3_24 (k := 6) (by decide) hR ?_
            refine zq_iload_n K dX3_rename_76 rfl rfl ?_
            refine zq_iload_n K dX3_rename_77 rfl rfl ?_
            refine zq_callS (As := [.int (nI (d)), .int (nI (n))]) K dX3_rename_78 zyX3_at zm_X3_87 zsX3_at rfl (by decide) rfl rfl (Nat.le_of_ble_eq_true rfl) (Nat.le_of_ble_eq_true rfl) (ct_X3_at d n _) (zone_r ?_) zone_x (Nat.le_refl _)
            refine zm_ld K (50 * d + n) dX3_rename_81 (k := 6) (by decide) hR rfl (show 50 * d + n < 600 by omega) ?_
            refine zq_istore K dX3_rename_82 (by decide) ?_
            refine zq_iload K dX3_rename_84 rfl ?_
            refine zq_iconst K dX3_rename_86 (v := -1) (by decide) ?_
            refine zq_icmp_eq K 126 dX3_rename_87 (by decide) (fun h87 => ?_) (fun h87 => absurd h h87)
            refine zq_iconst K dX3_rename_126 (v := nI 1) (by decide) ?_
            refine zq_goto K 131 dX3_rename_127 (by decide) ?_
            refine zq_istore K dX3_rename_131 (by decide) ?_
            refine zq_aload_n K dX3_rename_133 rfl rfl ?_
            refine zq_iload K dX3_rename_134 rfl ?_
            refine zq_if_neN K (x := 1) 159 dX3_rename_136 (by decide) (by omega) (fun h136 => ?_) (fun h136 => by omega)
            refine zq_iconst K dX3_rename_159 (v := nI 3) (by decide) ?_
            refine zq_goto K 164 dX3_rename_160 (by decide) ?_
            refine zm_pth K dX3_rename_164 zf_X3_55 hR hS (fun M hR hS => ?_)
            refine zq_aload_n K dX3_rename_167 rfl rfl ?_
            refine zm_th K dX3_rename_168 zf_X3_55 hR ?_
            refine zq_if_leN K (x := 3) 175 dX3_rename_171 (by decide) (by omega) (fun h171 => by omega) (fun h171 => ?_)
            exact zq_ret K dX3_rename_174 rfl ⟨rfl, hR, hS⟩
          · refine zq_if_neN K (x := 0) 60 dX3_rename_53 (by decide) (by omega) (fun h53 => by omega) (fun h53 => ?_)
            exact absurd ⟨e, hd2, rfl, hl2⟩ ye
        · refine zq_if_eqN K (x := 0) 56 dX3_rename_44 (by decide) (by omega) (fun h44 => ?_) (fun h44 => by omega)
          exact absurd ⟨d, hd, rfl, hl⟩ yd
      · refine zq_if_eqN K (x := 0) 26 dX3_rename_19 (by decide) (by omega) (fun h19 => ?_) (fun h19 => by omega)
        exact absurd ⟨m, by omega, rfl⟩ ym
    · refine zq_if_eqN K (x := 0) 26 dX3_rename_11 (by decide) (by omega) (fun h11 => ?_) (fun h11 => by omega)
      exact absurd ⟨n, by omega, rfl⟩ yn
  · refine zq_if_eqN K (x := 0) 26 dX3_rename_4 (by decide) (by omega) (fun h4 => ?_) (fun h4 => by omega)
    exact absurd ⟨c, by omega, rfl⟩ yc
theorem ct_X3_rename_taken {G : ZG} {M : ZM} {x : Nat} {q : Nat → Nat} {w : Int32} {A : ZA} (hR : zR M x q w A) (hW : zWf A) {c d n e m : Nat} (hc : c < 4) (hd : d < 12) (hl : A.2 3 d = 1) (hn : n < 50) (hd2 : e < 12) (hl2 : A.2 3 e = 1) (hn2 : m < 50) (h : ¬ A.2 6 (50 * d + n) = -1) (h' : ¬ A.2 6 (50 * e + m) = -1) : zMet G mX3_rename [.ref (x), .int (nI (c)), .int (nI (d)), .int (nI (n)), .int (nI (e)), .int (nI (m))] M (zRP x q M none (nI 3) A) := by
  refine zbody zyX3_rename [some (.ref (x)), some (.int (nI (c))), some (.int (nI (d))), some (.int (nI (n))), some (.int (nI (e))), some (.int (nI (m))), none, none, none] rfl (Nat.le_of_ble_eq_true rfl) (by intro v hv; simp only [List.mem_cons, List.not_mem_nil, or_false] at hv; rcases hv with rfl | rfl | rfl | rfl | rfl | rfl <;> rfl) (fun E K => ?_)
  obtain ⟨⟨D, hB⟩, hF, hU⟩ := id hW
  have hS : zSm x q M M := zSm.rf
  refine zq_iload_n K dX3_rename_0 rfl rfl ?_
  refine zq_callS (As := [.int (nI (c))]) K dX3_rename_1 zyX3_isClient zm_X3_93 zsX3_isClient rfl (by decide) rfl rfl (Nat.le_of_ble_eq_true rfl) (Nat.le_of_ble_eq_true rfl) (ct_X3_isClient (nI c) M) (zdec_r (fun yc => ?_) (fun yc => ?_)) zdec_x (Nat.le_refl _)
  · refine zq_if_eqN K (x := 1) 26 dX3_rename_4 (by decide) (by omega) (fun h4 => by omega) (fun h4 => ?_)
    refine zq_iload_n K dX3_rename_7 rfl rfl ?_
    refine zq_callS (As := [.int (nI (n))]) K dX3_rename_8 zyX3_isName zm_X3_96 zsX3_isName rfl (by decide) rfl rfl (Nat.le_of_ble_eq_true rfl) (Nat.le_of_ble_eq_true rfl) (ct_X3_isName (nI n) M) (zdec_r (fun yn => ?_) (fun yn => ?_)) zdec_x (Nat.le_refl _)
    · refine zq_if_eqN K (x := 1) 26 dX3_rename_11 (by decide) (by omega) (fun h11 => by omega) (fun h11 => ?_)
      refine zq_iload K dX3_rename_14 rfl ?_
      refine zq_callS (As := [.int (nI (m))]) K dX3_rename_16 zyX3_isName zm_X3_96 zsX3_isName rfl (by decide) rfl rfl (Nat.le_of_ble_eq_true rfl) (Nat.le_of_ble_eq_true rfl) (ct_X3_isName (nI m) M) (zdec_r (fun ym => ?_) (fun ym => ?_)) zdec_x (Nat.le_refl _)
      · refine zq_if_eqN K (x := 1) 26 dX3_rename_19 (by decide) (by omega) (fun h19 => by omega) (fun h19 => ?_)
        refine zq_iconst K dX3_rename_22 (v := nI 1) (by decide) ?_
        refine zq_goto K 27 dX3_rename_23 (by decide) ?_
        refine zq_istore K dX3_rename_27 (by decide) ?_
        refine zq_aload_n K dX3_rename_29 rfl rfl ?_
        refine zq_iload K dX3_rename_30 rfl ?_
        refine zq_if_neN K (x := 1) 39 dX3_rename_32 (by decide) (by omega) (fun h32 => ?_) (fun h32 => by omega)
        refine zq_aload_n K dX3_rename_39 rfl rfl ?_
        refine zq_iload_n K dX3_rename_40 rfl rfl ?_
        refine zq_callV (As := [.int (nI (d))]) K dX3_rename_41 zyX3_isDirectory zm_X3_99 ziX3_isDirectory zvX3_isDirectory zclX3 rfl (by decide) rfl rfl (Nat.le_of_ble_eq_true rfl) (Nat.le_of_ble_eq_true rfl) hR.1 (ct_X3_isDirectory hR hB (nI d)) (zdec_r (fun yd => ?_) (fun yd => ?_)) zdec_x (Nat.le_refl _)
        · refine zq_if_eqN K (x := 1) 56 dX3_rename_44 (by decide) (by omega) (fun h44 => by omega) (fun h44 => ?_)
          refine zq_aload_n K dX3_rename_47 rfl rfl ?_
          refine zq_iload K dX3_rename_48 rfl ?_
          refine zq_callV (As := [.int (nI (e))]) K dX3_rename_50 zyX3_isDirectory zm_X3_99 ziX3_isDirectory zvX3_isDirectory zclX3 rfl (by decide) rfl rfl (Nat.le_of_ble_eq_true rfl) (Nat.le_of_ble_eq_true rfl) hR.1 (ct_X3_isDirectory hR hB (nI e)) (zdec_r (fun ye => ?_) (fun ye => ?_)) zdec_x (Nat.le_refl _)
          · refine zq_if_neN K (x := 1) 60 dX3_rename_53 (by decide) (by omega) (fun h53 => ?_) (fun h53 => by omega)
            refine zq_iconst K dX3_rename_60 (v := nI 0) (by decide) ?_
            refine zm_pth K dX3_rename_61 zf_X3_55 hR hS (fun M hR hS => ?_)
            refine zq_aload_n K dX3_rename_64 rfl rfl ?_
            refine zm_th K dX3_rename_65 zf_X3_55 hR ?_
            refine zq_if_leN K (x := 0) 72 dX3_rename_68 (by decide) (by omega) (fun h68 => ?_) (fun h68 => by omega)
            refine zq_aload_n K dX3_rename_72 rfl rfl ?_
            refine zm_ar K dX3_rename_73 zf_X3_24 (k := 6) (by decide) hR ?_
            refine zq_iload_n K dX3_rename_76 rfl rfl ?_
            refine zq_iload_n K dX3_rename_77 rfl rfl ?_
            refine zq_callS (As := [.int (nI (d)), .int (nI (n))]) K dX3_rename_78 zyX3_at zm_X3_87 zsX3_at rfl (by decide) rfl rfl (Nat.le_of_ble_eq_true rfl) (Nat.le_of_ble_eq_true rfl) (ct_X3_at d n _) (zone_r ?_) zone_x (Nat.le_refl _)
            refine zm_ld K (50 * d + n) dX3_rename_81 (k := 6) (by decide) hR rfl (show 50 * d + n < 600 by omega) ?_
            refine zq_istore K dX3_rename_82 (by decide) ?_
            refine zq_iload K dX3_rename_84 rfl ?_
            refine zq_iconst K dX3_rename_86 (v := -1) (by decide) ?_
            refine zq_icmp_eq K 126 dX3_rename_87 (by decide) (fun h87 => absurd h87 h) (fun h87 => ?_)
            refine zq_aload_n K dX3_rename_90 rfl rfl ?_
            refine zm_ar K dX3_rename_91 zf_X3_24 (k := 6) (by decide) hR ?_
            refine zq_iload K dX3_rename_94 rfl ?_
            refine zq_iload K dX3_rename_96 rfl ?_
            refine zq_callS (As := [.int (nI (e)), .int (nI (m))]) K dX3_rename_98 zyX3_at zm_X3_87 zsX3_at rfl (by decide) rfl rfl (Nat.le_of_ble_eq_true rfl) (Nat.le_of_ble_eq_true rfl) (ct_X3_at e m _) (zone_r ?_) zone_x (Nat.le_refl _)
            refine zm_ld K (50 * e + m) dX3_rename_101 (k := 6) (by decide) hR rfl (show 50 * e + m < 600 by omega) ?_
            refine zq_iconst K dX3_rename_102 (v := -1) (by decide) ?_
            refine zq_icmp_ne K 126 dX3_rename_103 (by decide) (fun h103 => ?_) (fun h103 => absurd h103 h')
            refine zq_iconst K dX3_rename_126 (v := nI 1) (by decide) ?_
            refine zq_goto K 131 dX3_rename_127 (by decide) ?_
            refine zq_istore K dX3_rename_131 (by decide) ?_
            refine zq_aload_n K dX3_rename_133 rfl rfl ?_
            refine zq_iload K dX3_rename_134 rfl ?_
            refine zq_if_neN K (x := 1) 159 dX3_rename_136 (by decide) (by omega) (fun h136 => ?_) (fun h136 => by omega)
            refine zq_iconst K dX3_rename_159 (v := nI 3) (by decide) ?_
            refine zq_goto K 164 dX3_rename_160 (by decide) ?_
            refine zm_pth K dX3_rename_164 zf_X3_55 hR hS (fun M hR hS => ?_)
            refine zq_aload_n K dX3_rename_167 rfl rfl ?_
            refine zm_th K dX3_rename_168 zf_X3_55 hR ?_
            refine zq_if_leN K (x := 3) 175 dX3_rename_171 (by decide) (by omega) (fun h171 => by omega) (fun h171 => ?_)
            exact zq_ret K dX3_rename_174 rfl ⟨rfl, hR, hS⟩
          · refine zq_if_neN K (x := 0) 60 dX3_rename_53 (by decide) (by omega) (fun h53 => by omega) (fun h53 => ?_)
            exact absurd ⟨e, hd2, rfl, hl2⟩ ye
        · refine zq_if_eqN K (x := 0) 56 dX3_rename_44 (by decide) (by omega) (fun h44 => ?_) (fun h44 => by omega)
          exact absurd ⟨d, hd, rfl, hl⟩ yd
      · refine zq_if_eqN K (x := 0) 26 dX3_rename_19 (by decide) (by omega) (fun h19 => ?_) (fun h19 => by omega)
        exact absurd ⟨m, by omega, rfl⟩ ym
    · refine zq_if_eqN K (x := 0) 26 dX3_rename_11 (by decide) (by omega) (fun h11 => ?_) (fun h11 => by omega)
      exact absurd ⟨n, by omega, rfl⟩ yn
  · refine zq_if_eqN K (x := 0) 26 dX3_rename_4 (by decide) (by omega) (fun h4 => ?_) (fun h4 => by omega)
    exact absurd ⟨c, by omega, rfl⟩ yc
theorem ct_X3_rename_fz {G : ZG} {M : ZM} {x : Nat} {q : Nat → Nat} {w : Int32} {A : ZA} (hR : zR M x q w A) (hW : zWf A) {c d n e m : Nat} (hc : c < 4) (hd : d < 12) (hl : A.2 3 d = 1) (hn : n < 50) (hd2 : e < 12) (hl2 : A.2 3 e = 1) (hn2 : m < 50) {f : Nat} (hf : f < 30) (hs : A.2 6 (50 * d + n) = nI f) (h' : A.2 6 (50 * e + m) = -1) (h : zfz A (zfn A d n) = true ∨ zfz A (zfn A e m) = true) : zMet G mX3_rename [.ref (x), .int (nI (c)), .int (nI (d)), .int (nI (n)), .int (nI (e)), .int (nI (m))] M (zRP x q M none (nI 3) A) := by
  refine zbody zyX3_rename [some (.ref (x)), some (.int (nI (c))), some (.int (nI (d))), some (.int (nI (n))), some (.int (nI (e))), some (.int (nI (m))), none, none, none] rfl (Nat.le_of_ble_eq_true rfl) (by intro v hv; simp only [List.mem_cons, List.not_mem_nil, or_false] at hv; rcases hv with rfl | rfl | rfl | rfl | rfl | rfl <;> rfl) (fun E K => ?_)
  obtain ⟨⟨D, hB⟩, hF, hU⟩ := id hW
  have hS : zSm x q M M := zSm.rf
  refine zq_iload_n K dX3_rename_0 rfl rfl ?_
  refine zq_callS (As := [.int (nI (c))]) K dX3_rename_1 zyX3_isClient zm_X3_93 zsX3_isClient rfl (by decide) rfl rfl (Nat.le_of_ble_eq_true rfl) (Nat.le_of_ble_eq_true rfl) (ct_X3_isClient (nI c) M) (zdec_r (fun yc => ?_) (fun yc => ?_)) zdec_x (Nat.le_refl _)
  · refine zq_if_eqN K (x := 1) 26 dX3_rename_4 (by decide) (by omega) (fun h4 => by omega) (fun h4 => ?_)
    refine zq_iload_n K dX3_rename_7 rfl rfl ?_
    refine zq_callS (As := [.int (nI (n))]) K dX3_rename_8 zyX3_isName zm_X3_96 zsX3_isName rfl (by decide) rfl rfl (Nat.le_of_ble_eq_true rfl) (Nat.le_of_ble_eq_true rfl) (ct_X3_isName (nI n) M) (zdec_r (fun yn => ?_) (fun yn => ?_)) zdec_x (Nat.le_refl _)
    · refine zq_if_eqN K (x := 1) 26 dX3_rename_11 (by decide) (by omega) (fun h11 => by omega) (fun h11 => ?_)
      refine zq_iload K dX3_rename_14 rfl ?_
      refine zq_callS (As := [.int (nI (m))]) K dX3_rename_16 zyX3_isName zm_X3_96 zsX3_isName rfl (by decide) rfl rfl (Nat.le_of_ble_eq_true rfl) (Nat.le_of_ble_eq_true rfl) (ct_X3_isName (nI m) M) (zdec_r (fun ym => ?_) (fun ym => ?_)) zdec_x (Nat.le_refl _)
      · refine zq_if_eqN K (x := 1) 26 dX3_rename_19 (by decide) (by omega) (fun h19 => by omega) (fun h19 => ?_)
        refine zq_iconst K dX3_rename_22 (v := nI 1) (by decide) ?_
        refine zq_goto K 27 dX3_rename_23 (by decide) ?_
        refine zq_istore K dX3_rename_27 (by decide) ?_
        refine zq_aload_n K dX3_rename_29 rfl rfl ?_
        refine zq_iload K dX3_rename_30 rfl ?_
        refine zq_if_neN K (x := 1) 39 dX3_rename_32 (by decide) (by omega) (fun h32 => ?_) (fun h32 => by omega)
        refine zq_aload_n K dX3_rename_39 rfl rfl ?_
        refine zq_iload_n K dX3_rename_40 rfl rfl ?_
        refine zq_callV (As := [.int (nI (d))]) K dX3_rename_41 zyX3_isDirectory zm_X3_99 ziX3_isDirectory zvX3_isDirectory zclX3 rfl (by decide) rfl rfl (Nat.le_of_ble_eq_true rfl) (Nat.le_of_ble_eq_true rfl) hR.1 (ct_X3_isDirectory hR hB (nI d)) (zdec_r (fun yd => ?_) (fun yd => ?_)) zdec_x (Nat.le_refl _)
        · refine zq_if_eqN K (x := 1) 56 dX3_rename_44 (by decide) (by omega) (fun h44 => by omega) (fun h44 => ?_)
          refine zq_aload_n K dX3_rename_47 rfl rfl ?_
          refine zq_iload K dX3_rename_48 rfl ?_
          refine zq_callV (As := [.int (nI (e))]) K dX3_rename_50 zyX3_isDirectory zm_X3_99 ziX3_isDirectory zvX3_isDirectory zclX3 rfl (by decide) rfl rfl (Nat.le_of_ble_eq_true rfl) (Nat.le_of_ble_eq_true rfl) hR.1 (ct_X3_isDirectory hR hB (nI e)) (zdec_r (fun ye => ?_) (fun ye => ?_)) zdec_x (Nat.le_refl _)
          · refine zq_if_neN K (x := 1) 60 dX3_rename_53 (by decide) (by omega) (fun h53 => ?_) (fun h53 => by omega)
            refine zq_iconst K dX3_rename_60 (v := nI 0) (by decide) ?_
            refine zm_pth K dX3_rename_61 zf_X3_55 hR hS (fun M hR hS => ?_)
            refine zq_aload_n K dX3_rename_64 rfl rfl ?_
            refine zm_th K dX3_rename_65 zf_X3_55 hR ?_
            refine zq_if_leN K (x := 0) 72 dX3_rename_68 (by decide) (by omega) (fun h68 => ?_) (fun h68 => by omega)
            refine zq_aload_n K dX3_rename_72 rfl rfl ?_
            refine zm_ar K dX3_rename_73 zf_X3_24 (k := 6) (by decide) hR ?_
            refine zq_iload_n K dX3_rename_76 rfl rfl ?_
            refine zq_iload_n K dX3_rename_77 rfl rfl ?_
            refine zq_callS (As := [.int (nI (d)), .int (nI (n))]) K dX3_rename_78 zyX3_at zm_X3_87 zsX3_at rfl (by decide) rfl rfl (Nat.le_of_ble_eq_true rfl) (Nat.le_of_ble_eq_true rfl) (ct_X3_at d n _) (zone_r ?_) zone_x (Nat.le_refl _)
            refine zm_ld K (50 * d + n) dX3_rename_81 (k := 6) (by decide) hR rfl (show 50 * d + n < 600 by omega) ?_
            refine zq_top (v := nI (f)) hs ?_
            refine zq_istore K dX3_rename_82 (by decide) ?_
            refine zq_iload K dX3_rename_84 rfl ?_
            refine zq_iconst K dX3_rename_86 (v := -1) (by decide) ?_
            refine zq_icmp_eq K 126 dX3_rename_87 (by decide) (fun h87 => absurd h87 (zfv' f hf).2) (fun h87 => ?_)
            refine zq_aload_n K dX3_rename_90 rfl rfl ?_
            refine zm_ar K dX3_rename_91 zf_X3_24 (k := 6) (by decide) hR ?_
            refine zq_iload K dX3_rename_94 rfl ?_
            refine zq_iload K dX3_rename_96 rfl ?_
            refine zq_callS (As := [.int (nI (e)), .int (nI (m))]) K dX3_rename_98 zyX3_at zm_X3_87 zsX3_at rfl (by decide) rfl rfl (Nat.le_of_ble_eq_true rfl) (Nat.le_of_ble_eq_true rfl) (ct_X3_at e m _) (zone_r ?_) zone_x (Nat.le_refl _)
            refine zm_ld K (50 * e + m) dX3_rename_101 (k := 6) (by decide) hR rfl (show 50 * e + m < 600 by omega) ?_
            refine zq_iconst K dX3_rename_102 (v := -1) (by decide) ?_
            refine zq_icmp_ne K 126 dX3_rename_103 (by decide) (fun h103 => absurd h' h103) (fun h103 => ?_)
            refine zq_iload K dX3_rename_106 rfl ?_
            refine zq_iconst K dX3_rename_108 (v := -1) (by decide) ?_
            refine zq_icmp_ge K 130 dX3_rename_109 (by decide) (fun h109 => ?_) (fun h109 => absurd (zfv' f hf).1 h109)
            refine zq_iconst K dX3_rename_130 (v := nI 0) (by decide) ?_
            refine zq_istore K dX3_rename_131 (by decide) ?_
            refine zq_aload_n K dX3_rename_133 rfl rfl ?_
            refine zq_iload K dX3_rename_134 rfl ?_
            refine zq_if_neN K (x := 0) 159 dX3_rename_136 (by decide) (by omega) (fun h136 => by omega) (fun h136 => ?_)
            refine zq_aload_n K dX3_rename_139 rfl rfl ?_
            refine zq_iload_n K dX3_rename_140 rfl rfl ?_
            refine zq_iload_n K dX3_rename_141 rfl rfl ?_
            refine zq_callV (As := [.int (nI (d)), .int (nI (n))]) K dX3_rename_142 zyX3_isFrozenName zm_X3_106 ziX3_isFrozenName zvX3_isFrozenName zclX3 rfl (by decide) rfl rfl (Nat.le_of_ble_eq_true rfl) (Nat.le_of_ble_eq_true rfl) hR.1 (ct_X3_isFrozenName hR hF (hU d hd hl) hd hl hn) (zdec_r (fun z1 => ?_) (fun z1 => ?_)) zdec_x (Nat.le_refl _)
            · refine zq_if_neN K (x := 1) 159 dX3_rename_145 (by decide) (by omega) (fun h145 => ?_) (fun h145 => by omega)
              refine zq_iconst K dX3_rename_159 (v := nI 3) (by decide) ?_
              refine zq_goto K 164 dX3_rename_160 (by decide) ?_
              refine zm_pth K dX3_rename_164 zf_X3_55 hR hS (fun M hR hS => ?_)
              refine zq_aload_n K dX3_rename_167 rfl rfl ?_
              refine zm_th K dX3_rename_168 zf_X3_55 hR ?_
              refine zq_if_leN K (x := 3) 175 dX3_rename_171 (by decide) (by omega) (fun h171 => by omega) (fun h171 => ?_)
              exact zq_ret K dX3_rename_174 rfl ⟨rfl, hR, hS⟩
            · refine zq_if_neN K (x := 0) 159 dX3_rename_145 (by decide) (by omega) (fun h145 => by omega) (fun h145 => ?_)
              refine zq_aload_n K dX3_rename_148 rfl rfl ?_
              refine zq_iload K dX3_rename_149 rfl ?_
              refine zq_iload K dX3_rename_151 rfl ?_
              refine zq_callV (As := [.int (nI (e)), .int (nI (m))]) K dX3_rename_153 zyX3_isFrozenName zm_X3_106 ziX3_isFrozenName zvX3_isFrozenName zclX3 rfl (by decide) rfl rfl (Nat.le_of_ble_eq_true rfl) (Nat.le_of_ble_eq_true rfl) hR.1 (ct_X3_isFrozenName hR hF (hU e hd2 hl2) hd2 hl2 hn2) (zdec_r (fun z2 => ?_) (fun z2 => ?_)) zdec_x (Nat.le_refl _)
              · refine zq_if_eqN K (x := 1) 163 dX3_rename_156 (by decide) (by omega) (fun h156 => by omega) (fun h156 => ?_)
                refine zq_iconst K dX3_rename_159 (v := nI 3) (by decide) ?_
                refine zq_goto K 164 dX3_rename_160 (by decide) ?_
                refine zm_pth K dX3_rename_164 zf_X3_55 hR hS (fun M hR hS => ?_)
                refine zq_aload_n K dX3_rename_167 rfl rfl ?_
                refine zm_th K dX3_rename_168 zf_X3_55 hR ?_
                refine zq_if_leN K (x := 3) 175 dX3_rename_171 (by decide) (by omega) (fun h171 => by omega) (fun h171 => ?_)
                exact zq_ret K dX3_rename_174 rfl ⟨rfl, hR, hS⟩
              · exact absurd h (fun z => z.elim z1 z2)
          · refine zq_if_neN K (x := 0) 60 dX3_rename_53 (by decide) (by omega) (fun h53 => by omega) (fun h53 => ?_)
            exact absurd ⟨e, hd2, rfl, hl2⟩ ye
        · refine zq_if_eqN K (x := 0) 56 dX3_rename_44 (by decide) (by omega) (fun h44 => ?_) (fun h44 => by omega)
          exact absurd ⟨d, hd, rfl, hl⟩ yd
      · refine zq_if_eqN K (x := 0) 26 dX3_rename_19 (by decide) (by omega) (fun h19 => ?_) (fun h19 => by omega)
        exact absurd ⟨m, by omega, rfl⟩ ym
    · refine zq_if_eqN K (x := 0) 26 dX3_rename_11 (by decide) (by omega) (fun h11 => ?_) (fun h11 => by omega)
      exact absurd ⟨n, by omega, rfl⟩ yn
  · refine zq_if_eqN K (x := 0) 26 dX3_rename_4 (by decide) (by omega) (fun h4 => ?_) (fun h4 => by omega)
    exact absurd ⟨c, by omega, rfl⟩ yc
theorem zEn_2 (A : ZA) (a : Nat) (ex : Int32) {i : Nat} (h1 : i ≠ 13) (h2 : i ≠ 14) : ∀ k, (zEn A a ex k).2 i = A.2 i
  | 0 => rfl
  | k + 1 => by
    show (zsa (zsa _ 14 k _) 13 _ _).2 i = _
    rw [zsa_n _ _ _ _ _ h1, zsa_n _ _ _ _ _ h2]
    exact zEn_2 A a ex h1 h2 k
theorem zCh_2 (A : ZA) (c : Int32) (d n : Nat) {i : Nat} (h0 : i ≠ 12) (h1 : i ≠ 13) (h2 : i ≠ 14) : (zCh A c d n).2 i = A.2 i := by
  unfold zCh
  rw [zEn_2 _ _ _ h1 h2, zsa_n _ _ _ _ _ h0]
theorem zCh_f0 {A : ZA} {c : Int32} {d n e : Nat} (hF : zFr A) (he : e < 12) (hl : A.2 3 e = 1) : ¬ (zCh A c d n).2 10 (8 * e) = 0 := by
  rw [zCh_2 _ _ _ _ (by decide) (by decide) (by decide)]
  exact hF.1 e he hl
theorem ct_X3_rename_ok {G : ZG} {M : ZM} {x : Nat} {q : Nat → Nat} {w : Int32} {A : ZA} (hR : zR M x q w A) (hW : zWf A) {c d n e m : Nat} (hc : c < 4) (hd : d < 12) (hl : A.2 3 d = 1) (hn : n < 50) (hd2 : e < 12) (hl2 : A.2 3 e = 1) (hn2 : m < 50) {f : Nat} (hf : f < 30) (hs : A.2 6 (50 * d + n) = nI f) (h' : A.2 6 (50 * e + m) = -1) (h : ¬ (zfz A (zfn A d n) = true ∨ zfz A (zfn A e m) = true)) : zMet G mX3_rename [.ref (x), .int (nI (c)), .int (nI (d)), .int (nI (n)), .int (nI (e)), .int (nI (m))] M (zRP x q M none (nI 0) (zRn A c d n e m)) := by
  refine zbody zyX3_rename [some (.ref (x)), some (.int (nI (c))), some (.int (nI (d))), some (.int (nI (n))), some (.int (nI (e))), some (.int (nI (m))), none, none, none] rfl (Nat.le_of_ble_eq_true rfl) (by intro v hv; simp only [List.mem_cons, List.not_mem_nil, or_false] at hv; rcases hv with rfl | rfl | rfl | rfl | rfl | rfl <;> rfl) (fun E K => ?_)
  obtain ⟨⟨D, hB⟩, hF, hU⟩ := id hW
  have hS : zSm x q M M := zSm.rf
  refine zq_iload_n K dX3_rename_0 rfl rfl ?_
  refine zq_callS (As := [.int (nI (c))]) K dX3_rename_1 zyX3_isClient zm_X3_93 zsX3_isClient rfl (by decide) rfl rfl (Nat.le_of_ble_eq_true rfl) (Nat.le_of_ble_eq_true rfl) (ct_X3_isClient (nI c) M) (zdec_r (fun yc => ?_) (fun yc => ?_)) zdec_x (Nat.le_refl _)
  · refine zq_if_eqN K (x := 1) 26 dX3_rename_4 (by decide) (by omega) (fun h4 => by omega) (fun h4 => ?_)
    refine zq_iload_n K dX3_rename_7 rfl rfl ?_
    refine zq_callS (As := [.int (nI (n))]) K dX3_rename_8 zyX3_isName zm_X3_96 zsX3_isName rfl (by decide) rfl rfl (Nat.le_of_ble_eq_true rfl) (Nat.le_of_ble_eq_true rfl) (ct_X3_isName (nI n) M) (zdec_r (fun yn => ?_) (fun yn => ?_)) zdec_x (Nat.le_refl _)
    · refine zq_if_eqN K (x := 1) 26 dX3_rename_11 (by decide) (by omega) (fun h11 => by omega) (fun h11 => ?_)
      refine zq_iload K dX3_rename_14 rfl ?_
      refine zq_callS (As := [.int (nI (m))]) K dX3_rename_16 zyX3_isName zm_X3_96 zsX3_isName rfl (by decide) rfl rfl (Nat.le_of_ble_eq_true rfl) (Nat.le_of_ble_eq_true rfl) (ct_X3_isName (nI m) M) (zdec_r (fun ym => ?_) (fun ym => ?_)) zdec_x (Nat.le_refl _)
      · refine zq_if_eqN K (x := 1) 26 dX3_rename_19 (by decide) (by omega) (fun h19 => by omega) (fun h19 => ?_)
        refine zq_iconst K dX3_rename_22 (v := nI 1) (by decide) ?_
        refine zq_goto K 27 dX3_rename_23 (by decide) ?_
        refine zq_istore K dX3_rename_27 (by decide) ?_
        refine zq_aload_n K dX3_rename_29 rfl rfl ?_
        refine zq_iload K dX3_rename_30 rfl ?_
        refine zq_if_neN K (x := 1) 39 dX3_rename_32 (by decide) (by omega) (fun h32 => ?_) (fun h32 => by omega)
        refine zq_aload_n K dX3_rename_39 rfl rfl ?_
        refine zq_iload_n K dX3_rename_40 rfl rfl ?_
        refine zq_callV (As := [.int (nI (d))]) K dX3_rename_41 zyX3_isDirectory zm_X3_99 ziX3_isDirectory zvX3_isDirectory zclX3 rfl (by decide) rfl rfl (Nat.le_of_ble_eq_true rfl) (Nat.le_of_ble_eq_true rfl) hR.1 (ct_X3_isDirectory hR hB (nI d)) (zdec_r (fun yd => ?_) (fun yd => ?_)) zdec_x (Nat.le_refl _)
        · refine zq_if_eqN K (x := 1) 56 dX3_rename_44 (by decide) (by omega) (fun h44 => by omega) (fun h44 => ?_)
          refine zq_aload_n K dX3_rename_47 rfl rfl ?_
          refine zq_iload K dX3_rename_48 rfl ?_
          refine zq_callV (As := [.int (nI (e))]) K dX3_rename_50 zyX3_isDirectory zm_X3_99 ziX3_isDirectory zvX3_isDirectory zclX3 rfl (by decide) rfl rfl (Nat.le_of_ble_eq_true rfl) (Nat.le_of_ble_eq_true rfl) hR.1 (ct_X3_isDirectory hR hB (nI e)) (zdec_r (fun ye => ?_) (fun ye => ?_)) zdec_x (Nat.le_refl _)
          · refine zq_if_neN K (x := 1) 60 dX3_rename_53 (by decide) (by omega) (fun h53 => ?_) (fun h53 => by omega)
            refine zq_iconst K dX3_rename_60 (v := nI 0) (by decide) ?_
            refine zm_pth K dX3_rename_61 zf_X3_55 hR hS (fun M hR hS => ?_)
            refine zq_aload_n K dX3_rename_64 rfl rfl ?_
            refine zm_th K dX3_rename_65 zf_X3_55 hR ?_
            refine zq_if_leN K (x := 0) 72 dX3_rename_68 (by decide) (by omega) (fun h68 => ?_) (fun h68 => by omega)
            refine zq_aload_n K dX3_rename_72 rfl rfl ?_
            refine zm_ar K dX3_rename_73 zf_X3_24 (k := 6) (by decide) hR ?_
            refine zq_iload_n K dX3_rename_76 rfl rfl ?_
            refine zq_iload_n K dX3_rename_77 rfl rfl ?_
            refine zq_callS (As := [.int (nI (d)), .int (nI (n))]) K dX3_rename_78 zyX3_at zm_X3_87 zsX3_at rfl (by decide) rfl rfl (Nat.le_of_ble_eq_true rfl) (Nat.le_of_ble_eq_true rfl) (ct_X3_at d n _) (zone_r ?_) zone_x (Nat.le_refl _)
            refine zm_ld K (50 * d + n) dX3_rename_81 (k := 6) (by decide) hR rfl (show 50 * d + n < 600 by omega) ?_
            refine zq_top (v := nI (f)) hs ?_
            refine zq_istore K dX3_rename_82 (by decide) ?_
            refine zq_iload K dX3_rename_84 rfl ?_
            refine zq_iconst K dX3_rename_86 (v := -1) (by decide) ?_
            refine zq_icmp_eq K 126 dX3_rename_87 (by decide) (fun h87 => absurd h87 (zfv' f hf).2) (fun h87 => ?_)
            refine zq_aload_n K dX3_rename_90 rfl rfl ?_
            refine zm_ar K dX3_rename_91 zf_X3_24 (k := 6) (by decide) hR ?_
            refine zq_iload K dX3_rename_94 rfl ?_
            refine zq_iload K dX3_rename_96 rfl ?_
            refine zq_callS (As := [.int (nI (e)), .int (nI (m))]) K dX3_rename_98 zyX3_at zm_X3_87 zsX3_at rfl (by decide) rfl rfl (Nat.le_of_ble_eq_true rfl) (Nat.le_of_ble_eq_true rfl) (ct_X3_at e m _) (zone_r ?_) zone_x (Nat.le_refl _)
            refine zm_ld K (50 * e + m) dX3_rename_101 (k := 6) (by decide) hR rfl (show 50 * e + m < 600 by omega) ?_
            refine zq_iconst K dX3_rename_102 (v := -1) (by decide) ?_
            refine zq_icmp_ne K 126 dX3_rename_103 (by decide) (fun h103 => absurd h' h103) (fun h103 => ?_)
            refine zq_iload K dX3_rename_106 rfl ?_
            refine zq_iconst K dX3_rename_108 (v := -1) (by decide) ?_
            refine zq_icmp_ge K 130 dX3_rename_109 (by decide) (fun h109 => ?_) (fun h109 => absurd (zfv' f hf).1 h109)
            refine zq_iconst K dX3_rename_130 (v := nI 0) (by decide) ?_
            refine zq_istore K dX3_rename_131 (by decide) ?_
            refine zq_aload_n K dX3_rename_133 rfl rfl ?_
            refine zq_iload K dX3_rename_134 rfl ?_
            refine zq_if_neN K (x := 0) 159 dX3_rename_136 (by decide) (by omega) (fun h136 => by omega) (fun h136 => ?_)
            refine zq_aload_n K dX3_rename_139 rfl rfl ?_
            refine zq_iload_n K dX3_rename_140 rfl rfl ?_
            refine zq_iload_n K dX3_rename_141 rfl rfl ?_
            refine zq_callV (As := [.int (nI (d)), .int (nI (n))]) K dX3_rename_142 zyX3_isFrozenName zm_X3_106 ziX3_isFrozenName zvX3_isFrozenName zclX3 rfl (by decide) rfl rfl (Nat.le_of_ble_eq_true rfl) (Nat.le_of_ble_eq_true rfl) hR.1 (ct_X3_isFrozenName hR hF (hU d hd hl) hd hl hn) (zdec_r (fun z1 => ?_) (fun z1 => ?_)) zdec_x (Nat.le_refl _)
            · exact absurd (Or.inl z1) h
            · refine zq_if_neN K (x := 0) 159 dX3_rename_145 (by decide) (by omega) (fun h145 => by omega) (fun h145 => ?_)
              refine zq_aload_n K dX3_rename_148 rfl rfl ?_
              refine zq_iload K dX3_rename_149 rfl ?_
              refine zq_iload K dX3_rename_151 rfl ?_
              refine zq_callV (As := [.int (nI (e)), .int (nI (m))]) K dX3_rename_153 zyX3_isFrozenName zm_X3_106 ziX3_isFrozenName zvX3_isFrozenName zclX3 rfl (by decide) rfl rfl (Nat.le_of_ble_eq_true rfl) (Nat.le_of_ble_eq_true rfl) hR.1 (ct_X3_isFrozenName hR hF (hU e hd2 hl2) hd2 hl2 hn2) (zdec_r (fun z2 => ?_) (fun z2 => ?_)) zdec_x (Nat.le_refl _)
              · exact absurd (Or.inr z2) h
              · refine zq_if_eqN K (x := 0) 163 dX3_rename_156 (by decide) (by omega) (fun h156 => ?_) (fun h156 => by omega)
                refine zq_iconst K dX3_rename_163 (v := nI 0) (by decide) ?_
                refine zm_pth K dX3_rename_164 zf_X3_55 hR hS (fun M hR hS => ?_)
                refine zq_aload_n K dX3_rename_167 rfl rfl ?_
                refine zm_th K dX3_rename_168 zf_X3_55 hR ?_
                refine zq_if_leN K (x := 0) 175 dX3_rename_171 (by decide) (by omega) (fun h171 => ?_) (fun h171 => by omega)
                refine zq_aload_n K dX3_rename_175 rfl rfl ?_
                refine zq_iload_n K dX3_rename_176 rfl rfl ?_
                refine zq_iload_n K dX3_rename_177 rfl rfl ?_
                refine zq_iload_n K dX3_rename_178 rfl rfl ?_
                refine zq_callV (As := [.int (nI (c)), .int (nI (d)), .int (nI (n))]) K dX3_rename_179 zyX3_changes zm_X3_112 ziX3_changes zvX3_changes zclX3 rfl (by decide) rfl rfl (Nat.le_of_ble_eq_true rfl) (Nat.le_of_ble_eq_true rfl) hR.1 (ct_X3_changes hR (nI c) hd hn (hF.1 d hd hl)) (zRP_r hS (fun M hR hS => ?_)) zRP_x (Nat.le_refl _)
                refine zq_aload_n K dX3_rename_182 rfl rfl ?_
                refine zq_iload_n K dX3_rename_183 rfl rfl ?_
                refine zq_iload K dX3_rename_184 rfl ?_
                refine zq_iload K dX3_rename_186 rfl ?_
                refine zq_callV (As := [.int (nI (c)), .int (nI (e)), .int (nI (m))]) K dX3_rename_188 zyX3_changes zm_X3_112 ziX3_changes zvX3_changes zclX3 rfl (by decide) rfl rfl (Nat.le_of_ble_eq_true rfl) (Nat.le_of_ble_eq_true rfl) hR.1 (ct_X3_changes hR (nI c) hd2 hn2 (zCh_f0 hF hd2 hl2)) (zRP_r hS (fun M hR hS => ?_)) zRP_x (Nat.le_refl _)
                refine zq_aload_n K dX3_rename_191 rfl rfl ?_
                refine zm_ar K dX3_rename_192 zf_X3_24 (k := 6) (by decide) hR ?_
                refine zq_iload_n K dX3_rename_195 rfl rfl ?_
                refine zq_iload_n K dX3_rename_196 rfl rfl ?_
                refine zq_callS (As := [.int (nI (d)), .int (nI (n))]) K dX3_rename_197 zyX3_at zm_X3_87 zsX3_at rfl (by decide) rfl rfl (Nat.le_of_ble_eq_true rfl) (Nat.le_of_ble_eq_true rfl) (ct_X3_at d n _) (zone_r ?_) zone_x (Nat.le_refl _)
                refine zq_iconst K dX3_rename_200 (v := -1) (by decide) ?_
                refine zm_st K (50 * d + n) dX3_rename_201 (k := 6) (by decide) hR hS rfl (show 50 * d + n < 600 by omega) (fun M hR hS => ?_)
                refine zq_aload_n K dX3_rename_202 rfl rfl ?_
                refine zm_ar K dX3_rename_203 zf_X3_24 (k := 6) (by decide) hR ?_
                refine zq_iload K dX3_rename_206 rfl ?_
                refine zq_iload K dX3_rename_208 rfl ?_
                refine zq_callS (As := [.int (nI (e)), .int (nI (m))]) K dX3_rename_210 zyX3_at zm_X3_87 zsX3_at rfl (by decide) rfl rfl (Nat.le_of_ble_eq_true rfl) (Nat.le_of_ble_eq_true rfl) (ct_X3_at e m _) (zone_r ?_) zone_x (Nat.le_refl _)
                refine zq_iload K dX3_rename_213 rfl ?_
                refine zq_top (v := A.2 6 (50 * d + n)) hs.symm ?_
                refine zm_st K (50 * e + m) dX3_rename_215 (k := 6) (by decide) hR hS rfl (show 50 * e + m < 600 by omega) (fun M hR hS => ?_)
                refine zq_aload_n K dX3_rename_216 rfl rfl ?_
                refine zm_ar K dX3_rename_217 zf_X3_27 (k := 7) (by decide) hR ?_
                refine zq_iload K dX3_rename_220 rfl ?_
                refine zq_iload K dX3_rename_222 rfl ?_
                refine zq_callS (As := [.int (nI (e)), .int (nI (m))]) K dX3_rename_224 zyX3_at zm_X3_87 zsX3_at rfl (by decide) rfl rfl (Nat.le_of_ble_eq_true rfl) (Nat.le_of_ble_eq_true rfl) (ct_X3_at e m _) (zone_r ?_) zone_x (Nat.le_refl _)
                refine zq_aload_n K dX3_rename_227 rfl rfl ?_
                refine zm_ar K dX3_rename_228 zf_X3_27 (k := 7) (by decide) hR ?_
                refine zq_iload_n K dX3_rename_231 rfl rfl ?_
                refine zq_iload_n K dX3_rename_232 rfl rfl ?_
                refine zq_callS (As := [.int (nI (d)), .int (nI (n))]) K dX3_rename_233 zyX3_at zm_X3_87 zsX3_at rfl (by decide) rfl rfl (Nat.le_of_ble_eq_true rfl) (Nat.le_of_ble_eq_true rfl) (ct_X3_at d n _) (zone_r ?_) zone_x (Nat.le_refl _)
                refine zm_ld K (50 * d + n) dX3_rename_236 (k := 7) (by decide) hR rfl (show 50 * d + n < 600 by omega) ?_
                refine zq_top (v := A.2 7 (50 * d + n)) (by rw [zsa_n _ _ _ _ _ (by decide), zsa_n _ _ _ _ _ (by decide), zCh_2 _ _ _ _ (by decide) (by decide) (by decide), zCh_2 _ _ _ _ (by decide) (by decide) (by decide)]) ?_
                refine zm_st K (50 * e + m) dX3_rename_237 (k := 7) (by decide) hR hS rfl (show 50 * e + m < 600 by omega) (fun M hR hS => ?_)
                refine zq_iload K dX3_rename_238 rfl ?_
                refine zq_iconst K dX3_rename_240 (v := -1) (by decide) ?_
                refine zq_icmp_ge K 268 dX3_rename_241 (by decide) (fun h241 => ?_) (fun h241 => absurd (zfv' f hf).1 h241)
                exact zq_ret K dX3_rename_268 rfl ⟨rfl, hR, hS⟩
          · refine zq_if_neN K (x := 0) 60 dX3_rename_53 (by decide) (by omega) (fun h53 => by omega) (fun h53 => ?_)
            exact absurd ⟨e, hd2, rfl, hl2⟩ ye
        · refine zq_if_eqN K (x := 0) 56 dX3_rename_44 (by decide) (by omega) (fun h44 => ?_) (fun h44 => by omega)
          exact absurd ⟨d, hd, rfl, hl⟩ yd
      · refine zq_if_eqN K (x := 0) 26 dX3_rename_19 (by decide) (by omega) (fun h19 => ?_) (fun h19 => by omega)
        exact absurd ⟨m, by omega, rfl⟩ ym
    · refine zq_if_eqN K (x := 0) 26 dX3_rename_11 (by decide) (by omega) (fun h11 => ?_) (fun h11 => by omega)
      exact absurd ⟨n, by omega, rfl⟩ yn
  · refine zq_if_eqN K (x := 0) 26 dX3_rename_4 (by decide) (by omega) (fun h4 => ?_) (fun h4 => by omega)
    exact absurd ⟨c, by omega, rfl⟩ yc
theorem ct_X3_rename_below {G : ZG} {M : ZM} {x : Nat} {q : Nat → Nat} {w : Int32} {A : ZA} (hR : zR M x q w A) (hW : zWf A) {c d n e m : Nat} (hc : c < 4) (hd : d < 12) (hl : A.2 3 d = 1) (hn : n < 50) (hd2 : e < 12) (hl2 : A.2 3 e = 1) (hn2 : m < 50) {e' : Nat} (he : e' < 12) (hs : A.2 6 (50 * d + n) = -2 - nI e') (h' : A.2 6 (50 * e + m) = -1) (h : zblN A 11 e e' = true) : zMet G mX3_rename [.ref (x), .int (nI (c)), .int (nI (d)), .int (nI (n)), .int (nI (e)), .int (nI (m))] M (zRP x q M none (nI 3) A) := by
  refine zbody zyX3_rename [some (.ref (x)), some (.int (nI (c))), some (.int (nI (d))), some (.int (nI (n))), some (.int (nI (e))), some (.int (nI (m))), none, none, none] rfl (Nat.le_of_ble_eq_true rfl) (by intro v hv; simp only [List.mem_cons, List.not_mem_nil, or_false] at hv; rcases hv with rfl | rfl | rfl | rfl | rfl | rfl <;> rfl) (fun E K => ?_)
  obtain ⟨⟨D, hB⟩, hF, hU⟩ := id hW
  have hS : zSm x q M M := zSm.rf
  refine zq_iload_n K dX3_rename_0 rfl rfl ?_
  refine zq_callS (As := [.int (nI (c))]) K dX3_rename_1 zyX3_isClient zm_X3_93 zsX3_isClient rfl (by decide) rfl rfl (Nat.le_of_ble_eq_true rfl) (Nat.le_of_ble_eq_true rfl) (ct_X3_isClient (nI c) M) (zdec_r (fun yc => ?_) (fun yc => ?_)) zdec_x (Nat.le_refl _)
  · refine zq_if_eqN K (x := 1) 26 dX3_rename_4 (by decide) (by omega) (fun h4 => by omega) (fun h4 => ?_)
    refine zq_iload_n K dX3_rename_7 rfl rfl ?_
    refine zq_callS (As := [.int (nI (n))]) K dX3_rename_8 zyX3_isName zm_X3_96 zsX3_isName rfl (by decide) rfl rfl (Nat.le_of_ble_eq_true rfl) (Nat.le_of_ble_eq_true rfl) (ct_X3_isName (nI n) M) (zdec_r (fun yn => ?_) (fun yn => ?_)) zdec_x (Nat.le_refl _)
    · refine zq_if_eqN K (x := 1) 26 dX3_rename_11 (by decide) (by omega) (fun h11 => by omega) (fun h11 => ?_)
      refine zq_iload K dX3_rename_14 rfl ?_
      refine zq_callS (As := [.int (nI (m))]) K dX3_rename_16 zyX3_isName zm_X3_96 zsX3_isName rfl (by decide) rfl rfl (Nat.le_of_ble_eq_true rfl) (Nat.le_of_ble_eq_true rfl) (ct_X3_isName (nI m) M) (zdec_r (fun ym => ?_) (fun ym => ?_)) zdec_x (Nat.le_refl _)
      · refine zq_if_eqN K (x := 1) 26 dX3_rename_19 (by decide) (by omega) (fun h19 => by omega) (fun h19 => ?_)
        refine zq_iconst K dX3_rename_22 (v := nI 1) (by decide) ?_
        refine zq_goto K 27 dX3_rename_23 (by decide) ?_
        refine zq_istore K dX3_rename_27 (by decide) ?_
        refine zq_aload_n K dX3_rename_29 rfl rfl ?_
        refine zq_iload K dX3_rename_30 rfl ?_
        refine zq_if_neN K (x := 1) 39 dX3_rename_32 (by decide) (by omega) (fun h32 => ?_) (fun h32 => by omega)
        refine zq_aload_n K dX3_rename_39 rfl rfl ?_
        refine zq_iload_n K dX3_rename_40 rfl rfl ?_
        refine zq_callV (As := [.int (nI (d))]) K dX3_rename_41 zyX3_isDirectory zm_X3_99 ziX3_isDirectory zvX3_isDirectory zclX3 rfl (by decide) rfl rfl (Nat.le_of_ble_eq_true rfl) (Nat.le_of_ble_eq_true rfl) hR.1 (ct_X3_isDirectory hR hB (nI d)) (zdec_r (fun yd => ?_) (fun yd => ?_)) zdec_x (Nat.le_refl _)
        · refine zq_if_eqN K (x := 1) 56 dX3_rename_44 (by decide) (by omega) (fun h44 => by omega) (fun h44 => ?_)
          refine zq_aload_n K dX3_rename_47 rfl rfl ?_
          refine zq_iload K dX3_rename_48 rfl ?_
          refine zq_callV (As := [.int (nI (e))]) K dX3_rename_50 zyX3_isDirectory zm_X3_99 ziX3_isDirectory zvX3_isDirectory zclX3 rfl (by decide) rfl rfl (Nat.le_of_ble_eq_true rfl) (Nat.le_of_ble_eq_true rfl) hR.1 (ct_X3_isDirectory hR hB (nI e)) (zdec_r (fun ye => ?_) (fun ye => ?_)) zdec_x (Nat.le_refl _)
          · refine zq_if_neN K (x := 1) 60 dX3_rename_53 (by decide) (by omega) (fun h53 => ?_) (fun h53 => by omega)
            refine zq_iconst K dX3_rename_60 (v := nI 0) (by decide) ?_
            refine zm_pth K dX3_rename_61 zf_X3_55 hR hS (fun M hR hS => ?_)
            refine zq_aload_n K dX3_rename_64 rfl rfl ?_
            refine zm_th K dX3_rename_65 zf_X3_55 hR ?_
            refine zq_if_leN K (x := 0) 72 dX3_rename_68 (by decide) (by omega) (fun h68 => ?_) (fun h68 => by omega)
            refine zq_aload_n K dX3_rename_72 rfl rfl ?_
            refine zm_ar K dX3_rename_73 zf_X3_24 (k := 6) (by decide) hR ?_
            refine zq_iload_n K dX3_rename_76 rfl rfl ?_
            refine zq_iload_n K dX3_rename_77 rfl rfl ?_
            refine zq_callS (As := [.int (nI (d)), .int (nI (n))]) K dX3_rename_78 zyX3_at zm_X3_87 zsX3_at rfl (by decide) rfl rfl (Nat.le_of_ble_eq_true rfl) (Nat.le_of_ble_eq_true rfl) (ct_X3_at d n _) (zone_r ?_) zone_x (Nat.le_refl _)
            refine zm_ld K (50 * d + n) dX3_rename_81 (k := 6) (by decide) hR rfl (show 50 * d + n < 600 by omega) ?_
            refine zq_top (v := -2 - nI e') hs ?_
            refine zq_istore K dX3_rename_82 (by decide) ?_
            refine zq_iload K dX3_rename_84 rfl ?_
            refine zq_iconst K dX3_rename_86 (v := -1) (by decide) ?_
            refine zq_icmp_eq K 126 dX3_rename_87 (by decide) (fun h87 => absurd h87 (zdv e' he).2.2) (fun h87 => ?_)
            refine zq_aload_n K dX3_rename_90 rfl rfl ?_
            refine zm_ar K dX3_rename_91 zf_X3_24 (k := 6) (by decide) hR ?_
            refine zq_iload K dX3_rename_94 rfl ?_
            refine zq_iload K dX3_rename_96 rfl ?_
            refine zq_callS (As := [.int (nI (e)), .int (nI (m))]) K dX3_rename_98 zyX3_at zm_X3_87 zsX3_at rfl (by decide) rfl rfl (Nat.le_of_ble_eq_true rfl) (Nat.le_of_ble_eq_true rfl) (ct_X3_at e m _) (zone_r ?_) zone_x (Nat.le_refl _)
            refine zm_ld K (50 * e + m) dX3_rename_101 (k := 6) (by decide) hR rfl (show 50 * e + m < 600 by omega) ?_
            refine zq_iconst K dX3_rename_102 (v := -1) (by decide) ?_
            refine zq_icmp_ne K 126 dX3_rename_103 (by decide) (fun h103 => absurd h' h103) (fun h103 => ?_)
            refine zq_iload K dX3_rename_106 rfl ?_
            refine zq_iconst K dX3_rename_108 (v := -1) (by decide) ?_
            refine zq_icmp_ge K 130 dX3_rename_109 (by decide) (fun h109 => absurd h109 (zdv e' he).1) (fun h109 => ?_)
            refine zq_aload_n K dX3_rename_112 rfl rfl ?_
            refine zq_iload K dX3_rename_113 rfl ?_
            refine zq_bipush K dX3_rename_115 (v := -2) (by decide) ?_
            refine zq_iload K dX3_rename_117 rfl ?_
            refine zq_isub K dX3_rename_119 ?_
            refine zq_top (v := nI (e')) (zdv e' he).2.1 ?_
            refine zq_callV (As := [.int (nI (e)), .int (nI (e'))]) K dX3_rename_120 zyX3_isBelow zm_X3_136 ziX3_isBelow zvX3_isBelow zclX3 rfl (by decide) rfl rfl (Nat.le_of_ble_eq_true rfl) (Nat.le_of_ble_eq_true rfl) hR.1 (ct_X3_isBelow hR hd2 he (hU e hd2 hl2)) (zdec_r (fun yb => ?_) (fun yb => ?_)) zdec_x (Nat.le_refl _)
            · refine zq_if_eqN K (x := 1) 130 dX3_rename_123 (by decide) (by omega) (fun h123 => by omega) (fun h123 => ?_)
              refine zq_iconst K dX3_rename_126 (v := nI 1) (by decide) ?_
              refine zq_goto K 131 dX3_rename_127 (by decide) ?_
              refine zq_istore K dX3_rename_131 (by decide) ?_
              refine zq_aload_n K dX3_rename_133 rfl rfl ?_
              refine zq_iload K dX3_rename_134 rfl ?_
              refine zq_if_neN K (x := 1) 159 dX3_rename_136 (by decide) (by omega) (fun h136 => ?_) (fun h136 => by omega)
              refine zq_iconst K dX3_rename_159 (v := nI 3) (by decide) ?_
              refine zq_goto K 164 dX3_rename_160 (by decide) ?_
              refine zm_pth K dX3_rename_164 zf_X3_55 hR hS (fun M hR hS => ?_)
              refine zq_aload_n K dX3_rename_167 rfl rfl ?_
              refine zm_th K dX3_rename_168 zf_X3_55 hR ?_
              refine zq_if_leN K (x := 3) 175 dX3_rename_171 (by decide) (by omega) (fun h171 => by omega) (fun h171 => ?_)
              exact zq_ret K dX3_rename_174 rfl ⟨rfl, hR, hS⟩
            · exact absurd h yb
          · refine zq_if_neN K (x := 0) 60 dX3_rename_53 (by decide) (by omega) (fun h53 => by omega) (fun h53 => ?_)
            exact absurd ⟨e, hd2, rfl, hl2⟩ ye
        · refine zq_if_eqN K (x := 0) 56 dX3_rename_44 (by decide) (by omega) (fun h44 => ?_) (fun h44 => by omega)
          exact absurd ⟨d, hd, rfl, hl⟩ yd
      · refine zq_if_eqN K (x := 0) 26 dX3_rename_19 (by decide) (by omega) (fun h19 => ?_) (fun h19 => by omega)
        exact absurd ⟨m, by omega, rfl⟩ ym
    · refine zq_if_eqN K (x := 0) 26 dX3_rename_11 (by decide) (by omega) (fun h11 => ?_) (fun h11 => by omega)
      exact absurd ⟨n, by omega, rfl⟩ yn
  · refine zq_if_eqN K (x := 0) 26 dX3_rename_4 (by decide) (by omega) (fun h4 => ?_) (fun h4 => by omega)
    exact absurd ⟨c, by omega, rfl⟩ yc
theorem ct_X3_rename_dfz {G : ZG} {M : ZM} {x : Nat} {q : Nat → Nat} {w : Int32} {A : ZA} (hR : zR M x q w A) (hW : zWf A) {c d n e m : Nat} (hc : c < 4) (hd : d < 12) (hl : A.2 3 d = 1) (hn : n < 50) (hd2 : e < 12) (hl2 : A.2 3 e = 1) (hn2 : m < 50) {e' : Nat} (he : e' < 12) (hs : A.2 6 (50 * d + n) = -2 - nI e') (h' : A.2 6 (50 * e + m) = -1) (hb : ¬ zblN A 11 e e' = true) (h : zfz A (zfn A d n) = true ∨ zfz A (zfn A e m) = true) : zMet G mX3_rename [.ref (x), .int (nI (c)), .int (nI (d)), .int (nI (n)), .int (nI (e)), .int (nI (m))] M (zRP x q M none (nI 3) A) := by
  refine zbody zyX3_rename [some (.ref (x)), some (.int (nI (c))), some (.int (nI (d))), some (.int (nI (n))), some (.int (nI (e))), some (.int (nI (m))), none, none, none] rfl (Nat.le_of_ble_eq_true rfl) (by intro v hv; simp only [List.mem_cons, List.not_mem_nil, or_false] at hv; rcases hv with rfl | rfl | rfl | rfl | rfl | rfl <;> rfl) (fun E K => ?_)
  obtain ⟨⟨D, hB⟩, hF, hU⟩ := id hW
  have hS : zSm x q M M := zSm.rf
  refine zq_iload_n K dX3_rename_0 rfl rfl ?_
  refine zq_callS (As := [.int (nI (c))]) K dX3_rename_1 zyX3_isClient zm_X3_93 zsX3_isClient rfl (by decide) rfl rfl (Nat.le_of_ble_eq_true rfl) (Nat.le_of_ble_eq_true rfl) (ct_X3_isClient (nI c) M) (zdec_r (fun yc => ?_) (fun yc => ?_)) zdec_x (Nat.le_refl _)
  · refine zq_if_eqN K (x := 1) 26 dX3_rename_4 (by decide) (by omega) (fun h4 => by omega) (fun h4 => ?_)
    refine zq_iload_n K dX3_rename_7 rfl rfl ?_
    refine zq_callS (As := [.int (nI (n))]) K dX3_rename_8 zyX3_isName zm_X3_96 zsX3_isName rfl (by decide) rfl rfl (Nat.le_of_ble_eq_true rfl) (Nat.le_of_ble_eq_true rfl) (ct_X3_isName (nI n) M) (zdec_r (fun yn => ?_) (fun yn => ?_)) zdec_x (Nat.le_refl _)
    · refine zq_if_eqN K (x := 1) 26 dX3_rename_11 (by decide) (by omega) (fun h11 => by omega) (fun h11 => ?_)
      refine zq_iload K dX3_rename_14 rfl ?_
      refine zq_callS (As := [.int (nI (m))]) K dX3_rename_16 zyX3_isName zm_X3_96 zsX3_isName rfl (by decide) rfl rfl (Nat.le_of_ble_eq_true rfl) (Nat.le_of_ble_eq_true rfl) (ct_X3_isName (nI m) M) (zdec_r (fun ym => ?_) (fun ym => ?_)) zdec_x (Nat.le_refl _)
      · refine zq_if_eqN K (x := 1) 26 dX3_rename_19 (by decide) (by omega) (fun h19 => by omega) (fun h19 => ?_)
        refine zq_iconst K dX3_rename_22 (v := nI 1) (by decide) ?_
        refine zq_goto K 27 dX3_rename_23 (by decide) ?_
        refine zq_istore K dX3_rename_27 (by decide) ?_
        refine zq_aload_n K dX3_rename_29 rfl rfl ?_
        refine zq_iload K dX3_rename_30 rfl ?_
        refine zq_if_neN K (x := 1) 39 dX3_rename_32 (by decide) (by omega) (fun h32 => ?_) (fun h32 => by omega)
        refine zq_aload_n K dX3_rename_39 rfl rfl ?_
        refine zq_iload_n K dX3_rename_40 rfl rfl ?_
        refine zq_callV (As := [.int (nI (d))]) K dX3_rename_41 zyX3_isDirectory zm_X3_99 ziX3_isDirectory zvX3_isDirectory zclX3 rfl (by decide) rfl rfl (Nat.le_of_ble_eq_true rfl) (Nat.le_of_ble_eq_true rfl) hR.1 (ct_X3_isDirectory hR hB (nI d)) (zdec_r (fun yd => ?_) (fun yd => ?_)) zdec_x (Nat.le_refl _)
        · refine zq_if_eqN K (x := 1) 56 dX3_rename_44 (by decide) (by omega) (fun h44 => by omega) (fun h44 => ?_)
          refine zq_aload_n K dX3_rename_47 rfl rfl ?_
          refine zq_iload K dX3_rename_48 rfl ?_
          refine zq_callV (As := [.int (nI (e))]) K dX3_rename_50 zyX3_isDirectory zm_X3_99 ziX3_isDirectory zvX3_isDirectory zclX3 rfl (by decide) rfl rfl (Nat.le_of_ble_eq_true rfl) (Nat.le_of_ble_eq_true rfl) hR.1 (ct_X3_isDirectory hR hB (nI e)) (zdec_r (fun ye => ?_) (fun ye => ?_)) zdec_x (Nat.le_refl _)
          · refine zq_if_neN K (x := 1) 60 dX3_rename_53 (by decide) (by omega) (fun h53 => ?_) (fun h53 => by omega)
            refine zq_iconst K dX3_rename_60 (v := nI 0) (by decide) ?_
            refine zm_pth K dX3_rename_61 zf_X3_55 hR hS (fun M hR hS => ?_)
            refine zq_aload_n K dX3_rename_64 rfl rfl ?_
            refine zm_th K dX3_rename_65 zf_X3_55 hR ?_
            refine zq_if_leN K (x := 0) 72 dX3_rename_68 (by decide) (by omega) (fun h68 => ?_) (fun h68 => by omega)
            refine zq_aload_n K dX3_rename_72 rfl rfl ?_
            refine zm_ar K dX3_rename_73 zf_X3_24 (k := 6) (by decide) hR ?_
            refine zq_iload_n K dX3_rename_76 rfl rfl ?_
            refine zq_iload_n K dX3_rename_77 rfl rfl ?_
            refine zq_callS (As := [.int (nI (d)), .int (nI (n))]) K dX3_rename_78 zyX3_at zm_X3_87 zsX3_at rfl (by decide) rfl rfl (Nat.le_of_ble_eq_true rfl) (Nat.le_of_ble_eq_true rfl) (ct_X3_at d n _) (zone_r ?_) zone_x (Nat.le_refl _)
            refine zm_ld K (50 * d + n) dX3_rename_81 (k := 6) (by decide) hR rfl (show 50 * d + n < 600 by omega) ?_
            refine zq_top (v := -2 - nI e') hs ?_
            refine zq_istore K dX3_rename_82 (by decide) ?_
            refine zq_iload K dX3_rename_84 rfl ?_
            refine zq_iconst K dX3_rename_86 (v := -1) (by decide) ?_
            refine zq_icmp_eq K 126 dX3_rename_87 (by decide) (fun h87 => absurd h87 (zdv e' he).2.2) (fun h87 => ?_)
            refine zq_aload_n K dX3_rename_90 rfl rfl ?_
            refine zm_ar K dX3_rename_91 zf_X3_24 (k := 6) (by decide) hR ?_
            refine zq_iload K dX3_rename_94 rfl ?_
            refine zq_iload K dX3_rename_96 rfl ?_
            refine zq_callS (As := [.int (nI (e)), .int (nI (m))]) K dX3_rename_98 zyX3_at zm_X3_87 zsX3_at rfl (by decide) rfl rfl (Nat.le_of_ble_eq_true rfl) (Nat.le_of_ble_eq_true rfl) (ct_X3_at e m _) (zone_r ?_) zone_x (Nat.le_refl _)
            refine zm_ld K (50 * e + m) dX3_rename_101 (k := 6) (by decide) hR rfl (show 50 * e + m < 600 by omega) ?_
            refine zq_iconst K dX3_rename_102 (v := -1) (by decide) ?_
            refine zq_icmp_ne K 126 dX3_rename_103 (by decide) (fun h103 => absurd h' h103) (fun h103 => ?_)
            refine zq_iload K dX3_rename_106 rfl ?_
            refine zq_iconst K dX3_rename_108 (v := -1) (by decide) ?_
            refine zq_icmp_ge K 130 dX3_rename_109 (by decide) (fun h109 => absurd h109 (zdv e' he).1) (fun h109 => ?_)
            refine zq_aload_n K dX3_rename_112 rfl rfl ?_
            refine zq_iload K dX3_rename_113 rfl ?_
            refine zq_bipush K dX3_rename_115 (v := -2) (by decide) ?_
            refine zq_iload K dX3_rename_117 rfl ?_
            refine zq_isub K dX3_rename_119 ?_
            refine zq_top (v := nI (e')) (zdv e' he).2.1 ?_
            refine zq_callV (As := [.int (nI (e)), .int (nI (e'))]) K dX3_rename_120 zyX3_isBelow zm_X3_136 ziX3_isBelow zvX3_isBelow zclX3 rfl (by decide) rfl rfl (Nat.le_of_ble_eq_true rfl) (Nat.le_of_ble_eq_true rfl) hR.1 (ct_X3_isBelow hR hd2 he (hU e hd2 hl2)) (zdec_r (fun yb => ?_) (fun yb => ?_)) zdec_x (Nat.le_refl _)
            · exact absurd yb hb
            · refine zq_if_eqN K (x := 0) 130 dX3_rename_123 (by decide) (by omega) (fun h123 => ?_) (fun h123 => by omega)
              refine zq_iconst K dX3_rename_130 (v := nI 0) (by decide) ?_
              refine zq_istore K dX3_rename_131 (by decide) ?_
              refine zq_aload_n K dX3_rename_133 rfl rfl ?_
              refine zq_iload K dX3_rename_134 rfl ?_
              refine zq_if_neN K (x := 0) 159 dX3_rename_136 (by decide) (by omega) (fun h136 => by omega) (fun h136 => ?_)
              refine zq_aload_n K dX3_rename_139 rfl rfl ?_
              refine zq_iload_n K dX3_rename_140 rfl rfl ?_
              refine zq_iload_n K dX3_rename_141 rfl rfl ?_
              refine zq_callV (As := [.int (nI (d)), .int (nI (n))]) K dX3_rename_142 zyX3_isFrozenName zm_X3_106 ziX3_isFrozenName zvX3_isFrozenName zclX3 rfl (by decide) rfl rfl (Nat.le_of_ble_eq_true rfl) (Nat.le_of_ble_eq_true rfl) hR.1 (ct_X3_isFrozenName hR hF (hU d hd hl) hd hl hn) (zdec_r (fun z1 => ?_) (fun z1 => ?_)) zdec_x (Nat.le_refl _)
              · refine zq_if_neN K (x := 1) 159 dX3_rename_145 (by decide) (by omega) (fun h145 => ?_) (fun h145 => by omega)
                refine zq_iconst K dX3_rename_159 (v := nI 3) (by decide) ?_
                refine zq_goto K 164 dX3_rename_160 (by decide) ?_
                refine zm_pth K dX3_rename_164 zf_X3_55 hR hS (fun M hR hS => ?_)
                refine zq_aload_n K dX3_rename_167 rfl rfl ?_
                refine zm_th K dX3_rename_168 zf_X3_55 hR ?_
                refine zq_if_leN K (x := 3) 175 dX3_rename_171 (by decide) (by omega) (fun h171 => by omega) (fun h171 => ?_)
                exact zq_ret K dX3_rename_174 rfl ⟨rfl, hR, hS⟩
              · refine zq_if_neN K (x := 0) 159 dX3_rename_145 (by decide) (by omega) (fun h145 => by omega) (fun h145 => ?_)
                refine zq_aload_n K dX3_rename_148 rfl rfl ?_
                refine zq_iload K dX3_rename_149 rfl ?_
                refine zq_iload K dX3_rename_151 rfl ?_
                refine zq_callV (As := [.int (nI (e)), .int (nI (m))]) K dX3_rename_153 zyX3_isFrozenName zm_X3_106 ziX3_isFrozenName zvX3_isFrozenName zclX3 rfl (by decide) rfl rfl (Nat.le_of_ble_eq_true rfl) (Nat.le_of_ble_eq_true rfl) hR.1 (ct_X3_isFrozenName hR hF (hU e hd2 hl2) hd2 hl2 hn2) (zdec_r (fun z2 => ?_) (fun z2 => ?_)) zdec_x (Nat.le_refl _)
                · refine zq_if_eqN K (x := 1) 163 dX3_rename_156 (by decide) (by omega) (fun h156 => by omega) (fun h156 => ?_)
                  refine zq_iconst K dX3_rename_159 (v := nI 3) (by decide) ?_
                  refine zq_goto K 164 dX3_rename_160 (by decide) ?_
                  refine zm_pth K dX3_rename_164 zf_X3_55 hR hS (fun M hR hS => ?_)
                  refine zq_aload_n K dX3_rename_167 rfl rfl ?_
                  refine zm_th K dX3_rename_168 zf_X3_55 hR ?_
                  refine zq_if_leN K (x := 3) 175 dX3_rename_171 (by decide) (by omega) (fun h171 => by omega) (fun h171 => ?_)
                  exact zq_ret K dX3_rename_174 rfl ⟨rfl, hR, hS⟩
                · exact absurd h (fun z => z.elim z1 z2)
          · refine zq_if_neN K (x := 0) 60 dX3_rename_53 (by decide) (by omega) (fun h53 => by omega) (fun h53 => ?_)
            exact absurd ⟨e, hd2, rfl, hl2⟩ ye
        · refine zq_if_eqN K (x := 0) 56 dX3_rename_44 (by decide) (by omega) (fun h44 => ?_) (fun h44 => by omega)
          exact absurd ⟨d, hd, rfl, hl⟩ yd
      · refine zq_if_eqN K (x := 0) 26 dX3_rename_19 (by decide) (by omega) (fun h19 => ?_) (fun h19 => by omega)
        exact absurd ⟨m, by omega, rfl⟩ ym
    · refine zq_if_eqN K (x := 0) 26 dX3_rename_11 (by decide) (by omega) (fun h11 => ?_) (fun h11 => by omega)
      exact absurd ⟨n, by omega, rfl⟩ yn
  · refine zq_if_eqN K (x := 0) 26 dX3_rename_4 (by decide) (by omega) (fun h4 => ?_) (fun h4 => by omega)
    exact absurd ⟨c, by omega, rfl⟩ yc
theorem ct_X3_rename_dok {G : ZG} {M : ZM} {x : Nat} {q : Nat → Nat} {w : Int32} {A : ZA} (hR : zR M x q w A) (hW : zWf A) {c d n e m : Nat} (hc : c < 4) (hd : d < 12) (hl : A.2 3 d = 1) (hn : n < 50) (hd2 : e < 12) (hl2 : A.2 3 e = 1) (hn2 : m < 50) {e' : Nat} (he : e' < 12) (hs : A.2 6 (50 * d + n) = -2 - nI e') (h' : A.2 6 (50 * e + m) = -1) (hb : ¬ zblN A 11 e e' = true) (h : ¬ (zfz A (zfn A d n) = true ∨ zfz A (zfn A e m) = true)) : zMet G mX3_rename [.ref (x), .int (nI (c)), .int (nI (d)), .int (nI (n)), .int (nI (e)), .int (nI (m))] M (zRP x q M none (nI 0) (zRe A c d n e m e')) := by
  refine zbody zyX3_rename [some (.ref (x)), some (.int (nI (c))), some (.int (nI (d))), some (.int (nI (n))), some (.int (nI (e))), some (.int (nI (m))), none, none, none] rfl (Nat.le_of_ble_eq_true rfl) (by intro v hv; simp only [List.mem_cons, List.not_mem_nil, or_false] at hv; rcases hv with rfl | rfl | rfl | rfl | rfl | rfl <;> rfl) (fun E K => ?_)
  obtain ⟨⟨D, hB⟩, hF, hU⟩ := id hW
  have hS : zSm x q M M := zSm.rf
  refine zq_iload_n K dX3_rename_0 rfl rfl ?_
  refine zq_callS (As := [.int (nI (c))]) K dX3_rename_1 zyX3_isClient zm_X3_93 zsX3_isClient rfl (by decide) rfl rfl (Nat.le_of_ble_eq_true rfl) (Nat.le_of_ble_eq_true rfl) (ct_X3_isClient (nI c) M) (zdec_r (fun yc => ?_) (fun yc => ?_)) zdec_x (Nat.le_refl _)
  · refine zq_if_eqN K (x := 1) 26 dX3_rename_4 (by decide) (by omega) (fun h4 => by omega) (fun h4 => ?_)
    refine zq_iload_n K dX3_rename_7 rfl rfl ?_
    refine zq_callS (As := [.int (nI (n))]) K dX3_rename_8 zyX3_isName zm_X3_96 zsX3_isName rfl (by decide) rfl rfl (Nat.le_of_ble_eq_true rfl) (Nat.le_of_ble_eq_true rfl) (ct_X3_isName (nI n) M) (zdec_r (fun yn => ?_) (fun yn => ?_)) zdec_x (Nat.le_refl _)
    · refine zq_if_eqN K (x := 1) 26 dX3_rename_11 (by decide) (by omega) (fun h11 => by omega) (fun h11 => ?_)
      refine zq_iload K dX3_rename_14 rfl ?_
      refine zq_callS (As := [.int (nI (m))]) K dX3_rename_16 zyX3_isName zm_X3_96 zsX3_isName rfl (by decide) rfl rfl (Nat.le_of_ble_eq_true rfl) (Nat.le_of_ble_eq_true rfl) (ct_X3_isName (nI m) M) (zdec_r (fun ym => ?_) (fun ym => ?_)) zdec_x (Nat.le_refl _)
      · refine zq_if_eqN K (x := 1) 26 dX3_rename_19 (by decide) (by omega) (fun h19 => by omega) (fun h19 => ?_)
        refine zq_iconst K dX3_rename_22 (v := nI 1) (by decide) ?_
        refine zq_goto K 27 dX3_rename_23 (by decide) ?_
        refine zq_istore K dX3_rename_27 (by decide) ?_
        refine zq_aload_n K dX3_rename_29 rfl rfl ?_
        refine zq_iload K dX3_rename_30 rfl ?_
        refine zq_if_neN K (x := 1) 39 dX3_rename_32 (by decide) (by omega) (fun h32 => ?_) (fun h32 => by omega)
        refine zq_aload_n K dX3_rename_39 rfl rfl ?_
        refine zq_iload_n K dX3_rename_40 rfl rfl ?_
        refine zq_callV (As := [.int (nI (d))]) K dX3_rename_41 zyX3_isDirectory zm_X3_99 ziX3_isDirectory zvX3_isDirectory zclX3 rfl (by decide) rfl rfl (Nat.le_of_ble_eq_true rfl) (Nat.le_of_ble_eq_true rfl) hR.1 (ct_X3_isDirectory hR hB (nI d)) (zdec_r (fun yd => ?_) (fun yd => ?_)) zdec_x (Nat.le_refl _)
        · refine zq_if_eqN K (x := 1) 56 dX3_rename_44 (by decide) (by omega) (fun h44 => by omega) (fun h44 => ?_)
          refine zq_aload_n K dX3_rename_47 rfl rfl ?_
          refine zq_iload K dX3_rename_48 rfl ?_
          refine zq_callV (As := [.int (nI (e))]) K dX3_rename_50 zyX3_isDirectory zm_X3_99 ziX3_isDirectory zvX3_isDirectory zclX3 rfl (by decide) rfl rfl (Nat.le_of_ble_eq_true rfl) (Nat.le_of_ble_eq_true rfl) hR.1 (ct_X3_isDirectory hR hB (nI e)) (zdec_r (fun ye => ?_) (fun ye => ?_)) zdec_x (Nat.le_refl _)
          · refine zq_if_neN K (x := 1) 60 dX3_rename_53 (by decide) (by omega) (fun h53 => ?_) (fun h53 => by omega)
            refine zq_iconst K dX3_rename_60 (v := nI 0) (by decide) ?_
            refine zm_pth K dX3_rename_61 zf_X3_55 hR hS (fun M hR hS => ?_)
            refine zq_aload_n K dX3_rename_64 rfl rfl ?_
            refine zm_th K dX3_rename_65 zf_X3_55 hR ?_
            refine zq_if_leN K (x := 0) 72 dX3_rename_68 (by decide) (by omega) (fun h68 => ?_) (fun h68 => by omega)
            refine zq_aload_n K dX3_rename_72 rfl rfl ?_
            refine zm_ar K dX3_rename_73 zf_X3_24 (k := 6) (by decide) hR ?_
            refine zq_iload_n K dX3_rename_76 rfl rfl ?_
            refine zq_iload_n K dX3_rename_77 rfl rfl ?_
            refine zq_callS (As := [.int (nI (d)), .int (nI (n))]) K dX3_rename_78 zyX3_at zm_X3_87 zsX3_at rfl (by decide) rfl rfl (Nat.le_of_ble_eq_true rfl) (Nat.le_of_ble_eq_true rfl) (ct_X3_at d n _) (zone_r ?_) zone_x (Nat.le_refl _)
            refine zm_ld K (50 * d + n) dX3_rename_81 (k := 6) (by decide) hR rfl (show 50 * d + n < 600 by omega) ?_
            refine zq_top (v := -2 - nI e') hs ?_
            refine zq_istore K dX3_rename_82 (by decide) ?_
            refine zq_iload K dX3_rename_84 rfl ?_
            refine zq_iconst K dX3_rename_86 (v := -1) (by decide) ?_
            refine zq_icmp_eq K 126 dX3_rename_87 (by decide) (fun h87 => absurd h87 (zdv e' he).2.2) (fun h87 => ?_)
            refine zq_aload_n K dX3_rename_90 rfl rfl ?_
            refine zm_ar K dX3_rename_91 zf_X3_24 (k := 6) (by decide) hR ?_
            refine zq_iload K dX3_rename_94 rfl ?_
            refine zq_iload K dX3_rename_96 rfl ?_
            refine zq_callS (As := [.int (nI (e)), .int (nI (m))]) K dX3_rename_98 zyX3_at zm_X3_87 zsX3_at rfl (by decide) rfl rfl (Nat.le_of_ble_eq_true rfl) (Nat.le_of_ble_eq_true rfl) (ct_X3_at e m _) (zone_r ?_) zone_x (Nat.le_refl _)
            refine zm_ld K (50 * e + m) dX3_rename_101 (k := 6) (by decide) hR rfl (show 50 * e + m < 600 by omega) ?_
            refine zq_iconst K dX3_rename_102 (v := -1) (by decide) ?_
            refine zq_icmp_ne K 126 dX3_rename_103 (by decide) (fun h103 => absurd h' h103) (fun h103 => ?_)
            refine zq_iload K dX3_rename_106 rfl ?_
            refine zq_iconst K dX3_rename_108 (v := -1) (by decide) ?_
            refine zq_icmp_ge K 130 dX3_rename_109 (by decide) (fun h109 => absurd h109 (zdv e' he).1) (fun h109 => ?_)
            refine zq_aload_n K dX3_rename_112 rfl rfl ?_
            refine zq_iload K dX3_rename_113 rfl ?_
            refine zq_bipush K dX3_rename_115 (v := -2) (by decide) ?_
            refine zq_iload K dX3_rename_117 rfl ?_
            refine zq_isub K dX3_rename_119 ?_
            refine zq_top (v := nI (e')) (zdv e' he).2.1 ?_
            refine zq_callV (As := [.int (nI (e)), .int (nI (e'))]) K dX3_rename_120 zyX3_isBelow zm_X3_136 ziX3_isBelow zvX3_isBelow zclX3 rfl (by decide) rfl rfl (Nat.le_of_ble_eq_true rfl) (Nat.le_of_ble_eq_true rfl) hR.1 (ct_X3_isBelow hR hd2 he (hU e hd2 hl2)) (zdec_r (fun yb => ?_) (fun yb => ?_)) zdec_x (Nat.le_refl _)
            · exact absurd yb hb
            · refine zq_if_eqN K (x := 0) 130 dX3_rename_123 (by decide) (by omega) (fun h123 => ?_) (fun h123 => by omega)
              refine zq_iconst K dX3_rename_130 (v := nI 0) (by decide) ?_
              refine zq_istore K dX3_rename_131 (by decide) ?_
              refine zq_aload_n K dX3_rename_133 rfl rfl ?_
              refine zq_iload K dX3_rename_134 rfl ?_
              refine zq_if_neN K (x := 0) 159 dX3_rename_136 (by decide) (by omega) (fun h136 => by omega) (fun h136 => ?_)
              refine zq_aload_n K dX3_rename_139 rfl rfl ?_
              refine zq_iload_n K dX3_rename_140 rfl rfl ?_
              refine zq_iload_n K dX3_rename_141 rfl rfl ?_
              refine zq_callV (As := [.int (nI (d)), .int (nI (n))]) K dX3_rename_142 zyX3_isFrozenName zm_X3_106 ziX3_isFrozenName zvX3_isFrozenName zclX3 rfl (by decide) rfl rfl (Nat.le_of_ble_eq_true rfl) (Nat.le_of_ble_eq_true rfl) hR.1 (ct_X3_isFrozenName hR hF (hU d hd hl) hd hl hn) (zdec_r (fun z1 => ?_) (fun z1 => ?_)) zdec_x (Nat.le_refl _)
              · exact absurd (Or.inl z1) h
              · refine zq_if_neN K (x := 0) 159 dX3_rename_145 (by decide) (by omega) (fun h145 => by omega) (fun h145 => ?_)
                refine zq_aload_n K dX3_rename_148 rfl rfl ?_
                refine zq_iload K dX3_rename_149 rfl ?_
                refine zq_iload K dX3_rename_151 rfl ?_
                refine zq_callV (As := [.int (nI (e)), .int (nI (m))]) K dX3_rename_153 zyX3_isFrozenName zm_X3_106 ziX3_isFrozenName zvX3_isFrozenName zclX3 rfl (by decide) rfl rfl (Nat.le_of_ble_eq_true rfl) (Nat.le_of_ble_eq_true rfl) hR.1 (ct_X3_isFrozenName hR hF (hU e hd2 hl2) hd2 hl2 hn2) (zdec_r (fun z2 => ?_) (fun z2 => ?_)) zdec_x (Nat.le_refl _)
                · exact absurd (Or.inr z2) h
                · refine zq_if_eqN K (x := 0) 163 dX3_rename_156 (by decide) (by omega) (fun h156 => ?_) (fun h156 => by omega)
                  refine zq_iconst K dX3_rename_163 (v := nI 0) (by decide) ?_
                  refine zm_pth K dX3_rename_164 zf_X3_55 hR hS (fun M hR hS => ?_)
                  refine zq_aload_n K dX3_rename_167 rfl rfl ?_
                  refine zm_th K dX3_rename_168 zf_X3_55 hR ?_
                  refine zq_if_leN K (x := 0) 175 dX3_rename_171 (by decide) (by omega) (fun h171 => ?_) (fun h171 => by omega)
                  refine zq_aload_n K dX3_rename_175 rfl rfl ?_
                  refine zq_iload_n K dX3_rename_176 rfl rfl ?_
                  refine zq_iload_n K dX3_rename_177 rfl rfl ?_
                  refine zq_iload_n K dX3_rename_178 rfl rfl ?_
                  refine zq_callV (As := [.int (nI (c)), .int (nI (d)), .int (nI (n))]) K dX3_rename_179 zyX3_changes zm_X3_112 ziX3_changes zvX3_changes zclX3 rfl (by decide) rfl rfl (Nat.le_of_ble_eq_true rfl) (Nat.le_of_ble_eq_true rfl) hR.1 (ct_X3_changes hR (nI c) hd hn (hF.1 d hd hl)) (zRP_r hS (fun M hR hS => ?_)) zRP_x (Nat.le_refl _)
                  refine zq_aload_n K dX3_rename_182 rfl rfl ?_
                  refine zq_iload_n K dX3_rename_183 rfl rfl ?_
                  refine zq_iload K dX3_rename_184 rfl ?_
                  refine zq_iload K dX3_rename_186 rfl ?_
                  refine zq_callV (As := [.int (nI (c)), .int (nI (e)), .int (nI (m))]) K dX3_rename_188 zyX3_changes zm_X3_112 ziX3_changes zvX3_changes zclX3 rfl (by decide) rfl rfl (Nat.le_of_ble_eq_true rfl) (Nat.le_of_ble_eq_true rfl) hR.1 (ct_X3_changes hR (nI c) hd2 hn2 (zCh_f0 hF hd2 hl2)) (zRP_r hS (fun M hR hS => ?_)) zRP_x (Nat.le_refl _)
                  refine zq_aload_n K dX3_rename_191 rfl rfl ?_
                  refine zm_ar K dX3_rename_192 zf_X3_24 (k := 6) (by decide) hR ?_
                  refine zq_iload_n K dX3_rename_195 rfl rfl ?_
                  refine zq_iload_n K dX3_rename_196 rfl rfl ?_
                  refine zq_callS (As := [.int (nI (d)), .int (nI (n))]) K dX3_rename_197 zyX3_at zm_X3_87 zsX3_at rfl (by decide) rfl rfl (Nat.le_of_ble_eq_true rfl) (Nat.le_of_ble_eq_true rfl) (ct_X3_at d n _) (zone_r ?_) zone_x (Nat.le_refl _)
                  refine zq_iconst K dX3_rename_200 (v := -1) (by decide) ?_
                  refine zm_st K (50 * d + n) dX3_rename_201 (k := 6) (by decide) hR hS rfl (show 50 * d + n < 600 by omega) (fun M hR hS => ?_)
                  refine zq_aload_n K dX3_rename_202 rfl rfl ?_
                  refine zm_ar K dX3_rename_203 zf_X3_24 (k := 6) (by decide) hR ?_
                  refine zq_iload K dX3_rename_206 rfl ?_
                  refine zq_iload K dX3_rename_208 rfl ?_
                  refine zq_callS (As := [.int (nI (e)), .int (nI (m))]) K dX3_rename_210 zyX3_at zm_X3_87 zsX3_at rfl (by decide) rfl rfl (Nat.le_of_ble_eq_true rfl) (Nat.le_of_ble_eq_true rfl) (ct_X3_at e m _) (zone_r ?_) zone_x (Nat.le_refl _)
                  refine zq_iload K dX3_rename_213 rfl ?_
                  refine zq_top (v := A.2 6 (50 * d + n)) hs.symm ?_
                  refine zm_st K (50 * e + m) dX3_rename_215 (k := 6) (by decide) hR hS rfl (show 50 * e + m < 600 by omega) (fun M hR hS => ?_)
                  refine zq_aload_n K dX3_rename_216 rfl rfl ?_
                  refine zm_ar K dX3_rename_217 zf_X3_27 (k := 7) (by decide) hR ?_
                  refine zq_iload K dX3_rename_220 rfl ?_
                  refine zq_iload K dX3_rename_222 rfl ?_
                  refine zq_callS (As := [.int (nI (e)), .int (nI (m))]) K dX3_rename_224 zyX3_at zm_X3_87 zsX3_at rfl (by decide) rfl rfl (Nat.le_of_ble_eq_true rfl) (Nat.le_of_ble_eq_true rfl) (ct_X3_at e m _) (zone_r ?_) zone_x (Nat.le_refl _)
                  refine zq_aload_n K dX3_rename_227 rfl rfl ?_
                  refine zm_ar K dX3_rename_228 zf_X3_27 (k := 7) (by decide) hR ?_
                  refine zq_iload_n K dX3_rename_231 rfl rfl ?_
                  refine zq_iload_n K dX3_rename_232 rfl rfl ?_
                  refine zq_callS (As := [.int (nI (d)), .int (nI (n))]) K dX3_rename_233 zyX3_at zm_X3_87 zsX3_at rfl (by decide) rfl rfl (Nat.le_of_ble_eq_true rfl) (Nat.le_of_ble_eq_true rfl) (ct_X3_at d n _) (zone_r ?_) zone_x (Nat.le_refl _)
                  refine zm_ld K (50 * d + n) dX3_rename_236 (k := 7) (by decide) hR rfl (show 50 * d + n < 600 by omega) ?_
                  refine zq_top (v := A.2 7 (50 * d + n)) (by rw [zsa_n _ _ _ _ _ (by decide), zsa_n _ _ _ _ _ (by decide), zCh_2 _ _ _ _ (by decide) (by decide) (by decide), zCh_2 _ _ _ _ (by decide) (by decide) (by decide)]) ?_
                  refine zm_st K (50 * e + m) dX3_rename_237 (k := 7) (by decide) hR hS rfl (show 50 * e + m < 600 by omega) (fun M hR hS => ?_)
                  refine zq_iload K dX3_rename_238 rfl ?_
                  refine zq_iconst K dX3_rename_240 (v := -1) (by decide) ?_
                  refine zq_icmp_ge K 268 dX3_rename_241 (by decide) (fun h241 => absurd h241 (zdv e' he).1) (fun h241 => ?_)
                  refine zq_aload_n K dX3_rename_244 rfl rfl ?_
                  refine zm_ar K dX3_rename_245 zf_X3_17 (k := 4) (by decide) hR ?_
                  refine zq_bipush K dX3_rename_248 (v := -2) (by decide) ?_
                  refine zq_iload K dX3_rename_250 rfl ?_
                  refine zq_isub K dX3_rename_252 ?_
                  refine zq_top (v := nI (e')) (zdv e' he).2.1 ?_
                  refine zq_iload K dX3_rename_253 rfl ?_
                  refine zm_st K (e') dX3_rename_255 (k := 4) (by decide) hR hS rfl (show e' < 12 by omega) (fun M hR hS => ?_)
                  refine zq_aload_n K dX3_rename_256 rfl rfl ?_
                  refine zm_ar K dX3_rename_257 zf_X3_21 (k := 5) (by decide) hR ?_
                  refine zq_bipush K dX3_rename_260 (v := -2) (by decide) ?_
                  refine zq_iload K dX3_rename_262 rfl ?_
                  refine zq_isub K dX3_rename_264 ?_
                  refine zq_top (v := nI (e')) (zdv e' he).2.1 ?_
                  refine zq_iload K dX3_rename_265 rfl ?_
                  refine zm_st K (e') dX3_rename_267 (k := 5) (by decide) hR hS rfl (show e' < 12 by omega) (fun M hR hS => ?_)
                  exact zq_ret K dX3_rename_268 rfl ⟨rfl, hR, hS⟩
          · refine zq_if_neN K (x := 0) 60 dX3_rename_53 (by decide) (by omega) (fun h53 => by omega) (fun h53 => ?_)
            exact absurd ⟨e, hd2, rfl, hl2⟩ ye
        · refine zq_if_eqN K (x := 0) 56 dX3_rename_44 (by decide) (by omega) (fun h44 => ?_) (fun h44 => by omega)
          exact absurd ⟨d, hd, rfl, hl⟩ yd
      · refine zq_if_eqN K (x := 0) 26 dX3_rename_19 (by decide) (by omega) (fun h19 => ?_) (fun h19 => by omega)
        exact absurd ⟨m, by omega, rfl⟩ ym
    · refine zq_if_eqN K (x := 0) 26 dX3_rename_11 (by decide) (by omega) (fun h11 => ?_) (fun h11 => by omega)
      exact absurd ⟨n, by omega, rfl⟩ yn
  · refine zq_if_eqN K (x := 0) 26 dX3_rename_4 (by decide) (by omega) (fun h4 => ?_) (fun h4 => by omega)
    exact absurd ⟨c, by omega, rfl⟩ yc

/-! the law's body: its loop -/
theorem zlaw_lt {t L : Nat} (ht : t ≤ 512) (hL : L ≤ 3072) (h : L < 6 * t + 6) : nI L - nI 6 < nI (6 * t) := by
  rw [Int32.lt_iff_toInt_lt, pk_sub_toInt (by omega) (by omega), nI_toInt (by omega)]
  omega
/-- the law's loop -/
theorem lp_law {tb : List ExceptionTableEntry} {E : ZE} {G : ZG} {Q : State → Prop} (K : zOK mL_law tb G E) {b0 Ls : Nat} {xs : Nat → Int32} (hX : zScr E G b0 Ls xs) (hLs : Ls ≤ 3072) {c x out : Nat} (kx : ∀ M b L, WW E G (zyu mL_law) Q M b 1769 L []) : ∀ (n t : Nat) (M : ZM) (b : Nat) (o5 o6 : Option Value), t + n = 512 → zLS M c x out t → 15 * n ≤ b → WW E G (zyu mL_law) Q M b 23 [some (.ref b0), some (.ref c), some (.ref x), some (.ref out), some (.int (nI (6 * t))), o5, o6] [] := by
  intro n
  induction n with
  | zero =>
    intro t M b o5 o6 hn hP hb
    refine zq_iload K dL_law_23 rfl ?_
    refine zq_aload_n K dL_law_25 rfl rfl ?_
    refine zq_slen K hX dL_law_26 ?_
    refine zq_bipush K dL_law_27 (v := nI 6) (by decide) ?_
    refine zq_isub K dL_law_29 ?_
    refine zq_icmp_gt K 1769 dL_law_30 (by decide) (fun _ => kx _ _ _) (fun hge => absurd (zlaw_lt (t := t) (L := Ls) (by omega) (by omega) (by omega)) hge)
  | succ n ih =>
    intro t M b o5 o6 hn hP hb
    refine zq_iload K dL_law_23 rfl ?_
    refine zq_aload_n K dL_law_25 rfl rfl ?_
    refine zq_slen K hX dL_law_26 ?_
    refine zq_bipush K dL_law_27 (v := nI 6) (by decide) ?_
    refine zq_isub K dL_law_29 ?_
    refine zq_icmp_gt K 1769 dL_law_30 (by decide) (fun _ => kx _ _ _) (fun hge => ?_)
    have hi : 6 * t + 6 ≤ Ls := Nat.not_lt.mp (fun z => hge (zlaw_lt (t := t) (L := Ls) (by omega) (by omega) z))
    refine zq_aload_n K dL_law_33 rfl rfl ?_
    refine zq_iload K dL_law_34 rfl ?_
    refine zq_sld K hX (6 * t) dL_law_36 rfl (by omega) (by omega) ?_
    refine zq_bipush K dL_law_37 (v := nI 31) (by decide) ?_
    refine zq_iand K dL_law_39 ?_
    obtain ⟨j, hj, ej⟩ := pk_andE (xs (6 * t)) (m := nI 31) 5 (by decide)
    refine zq_top (v := nI j) ej ?_
    have hb15 : 15 ≤ b := by omega
    have kk : ∀ M' b' o5 o6, b ≤ b' + 15 → zLS M' c x out (t + 1) → WW E G (zyu mL_law) Q M' b' 1763 [some (.ref b0), some (.ref c), some (.ref x), some (.ref out), some (.int (nI (6 * t))), o5, o6] [] := by
      intro M' b' o5 o6 hb' hP'
      refine zq_iinc K dL_law_1763 rfl (v := nI (6 * (t + 1))) (by rw [Nat.mul_succ, ← nI_add]; rfl) (by decide) ?_
      refine zq_goto K 23 dL_law_1766 (by decide) ?_
      exact ih (t + 1) M' b' o5 o6 (by omega) hP' (by omega)
    by_cases h25 : j < 25
    · have ht : t ≤ 600 := by omega
      have : j = 0 ∨ j = 1 ∨ j = 2 ∨ j = 3 ∨ j = 4 ∨ j = 5 ∨ j = 6 ∨ j = 7 ∨ j = 8 ∨ j = 9 ∨ j = 10 ∨ j = 11 ∨ j = 12 ∨ j = 13 ∨ j = 14 ∨ j = 15 ∨ j = 16 ∨ j = 17 ∨ j = 18 ∨ j = 19 ∨ j = 20 ∨ j = 21 ∨ j = 22 ∨ j = 23 ∨ j = 24 := by omega
      rcases this with rfl | rfl | rfl | rfl | rfl | rfl | rfl | rfl | rfl | rfl | rfl | rfl | rfl | rfl | rfl | rfl | rfl | rfl | rfl | rfl | rfl | rfl | rfl | rfl | rfl
      · exact zq_tabIn K (off := 116) 156 dL_law_40 (by decide) (by decide) (by decide) (by decide) (cs_lookup K hX hLs hi hP ht hb15 kk)
      · exact zq_tabIn K (off := 196) 236 dL_law_40 (by decide) (by decide) (by decide) (by decide) (cs_makeDirectory K hX hLs hi hP ht hb15 kk)
      · exact zq_tabIn K (off := 276) 316 dL_law_40 (by decide) (by decide) (by decide) (by decide) (cs_makeFile K hX hLs hi hP ht hb15 kk)
      · exact zq_tabIn K (off := 356) 396 dL_law_40 (by decide) (by decide) (by decide) (by decide) (cs_link K hX hLs hi hP ht hb15 kk)
      · exact zq_tabIn K (off := 448) 488 dL_law_40 (by decide) (by decide) (by decide) (by decide) (cs_remove K hX hLs hi hP ht hb15 kk)
      · exact zq_tabIn K (off := 528) 568 dL_law_40 (by decide) (by decide) (by decide) (by decide) (cs_rename K hX hLs hi hP ht hb15 kk)
      · exact zq_tabIn K (off := 612) 652 dL_law_40 (by decide) (by decide) (by decide) (by decide) (cs_pass K hX hLs hi hP ht hb15 kk)
      · exact zq_tabIn K (off := 668) 708 dL_law_40 (by decide) (by decide) (by decide) (by decide) (cs_leases K hX hLs hi hP ht hb15 kk)
      · exact zq_tabIn K (off := 724) 764 dL_law_40 (by decide) (by decide) (by decide) (by decide) (cs_recalls K hX hLs hi hP ht hb15 kk)
      · exact zq_tabIn K (off := 780) 820 dL_law_40 (by decide) (by decide) (by decide) (by decide) (cs_known K hX hLs hi hP ht hb15 kk)
      · exact zq_tabIn K (off := 836) 876 dL_law_40 (by decide) (by decide) (by decide) (by decide) (cs_split K hX hLs hi hP ht hb15 kk)
      · exact zq_tabIn K (off := 904) 944 dL_law_40 (by decide) (by decide) (by decide) (by decide) (cs_merge K hX hLs hi hP ht hb15 kk)
      · exact zq_tabIn K (off := 972) 1012 dL_law_40 (by decide) (by decide) (by decide) (by decide) (cs_fragments K hX hLs hi hP ht hb15 kk)
      · exact zq_tabIn K (off := 1028) 1068 dL_law_40 (by decide) (by decide) (by decide) (by decide) (cs_serverOf K hX hLs hi hP ht hb15 kk)
      · exact zq_tabIn K (off := 1096) 1136 dL_law_40 (by decide) (by decide) (by decide) (by decide) (cs_ownerOf K hX hLs hi hP ht hb15 kk)
      · exact zq_tabIn K (off := 1164) 1204 dL_law_40 (by decide) (by decide) (by decide) (by decide) (cs_load K hX hLs hi hP ht hb15 kk)
      · exact zq_tabIn K (off := 1220) 1260 dL_law_40 (by decide) (by decide) (by decide) (by decide) (cs_beginMove K hX hLs hi hP ht hb15 kk)
      · exact zq_tabIn K (off := 1280) 1320 dL_law_40 (by decide) (by decide) (by decide) (by decide) (cs_stepMove K hX hLs hi hP ht hb15 kk)
      · exact zq_tabIn K (off := 1324) 1364 dL_law_40 (by decide) (by decide) (by decide) (by decide) (cs_giveUpMove K hX hLs hi hP ht hb15 kk)
      · exact zq_tabIn K (off := 1368) 1408 dL_law_40 (by decide) (by decide) (by decide) (by decide) (cs_isFrozen K hX hLs hi hP ht hb15 kk)
      · exact zq_tabIn K (off := 1443) 1483 dL_law_40 (by decide) (by decide) (by decide) (by decide) (cs_balance K hX hLs hi hP ht hb15 kk)
      · exact zq_tabIn K (off := 1487) 1527 dL_law_40 (by decide) (by decide) (by decide) (by decide) (cs_links K hX hLs hi hP ht hb15 kk)
      · exact zq_tabIn K (off := 1543) 1583 dL_law_40 (by decide) (by decide) (by decide) (by decide) (cs_anchor K hX hLs hi hP ht hb15 kk)
      · exact zq_tabIn K (off := 1599) 1639 dL_law_40 (by decide) (by decide) (by decide) (by decide) (cs_byTree K hX hLs hi hP ht hb15 kk)
      · exact zq_tabIn K (off := 1667) 1707 dL_law_40 (by decide) (by decide) (by decide) (by decide) (cs_size K hX hLs hi hP ht hb15 kk)
    · refine zq_tabOut K 1763 dL_law_40 (Or.inr (by rw [nI_toInt (show j < 2 ^ 31 by omega)]; omega)) (by decide) (kk M b o5 o6 (by omega) ?_)
      obtain ⟨W, B, q, w, A, g1, g2⟩ := hP
      exact ⟨W, B, q, w, A, g1, g2.nx⟩

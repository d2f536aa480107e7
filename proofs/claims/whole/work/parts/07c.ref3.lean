/-! the reference: names are looked up, made -/
theorem zOn_N {n : Int32} {k : Nat} (h : zOn n k) : ∃ j, j < k + 1 ∧ n = nI j := h.elim fun j hj => ⟨j, by omega, hj.2⟩
/-- client, directory and name are good: c', d', n' -/
def zGd (A : ZA) (c d n : Int32) (c' d' n' : Nat) : Prop := c = nI c' ∧ c' < 4 ∧ d = nI d' ∧ d' < 12 ∧ A.2 3 d' = 1 ∧ n = nI n' ∧ n' < 50
/-- they are not: 1 or 2 -/
def zBad (A : ZA) (c d n : Int32) (k : Nat) : Prop := (k = 1 ∧ ¬ (zOn c 3 ∧ zOn n 49)) ∨ (k = 2 ∧ zOn c 3 ∧ zOn n 49 ∧ ¬ zIsD A d)
theorem zGd_or (A : ZA) (c d n : Int32) : (∃ k, zBad A c d n k) ∨ ∃ c' d' n', zGd A c d n c' d' n' := by
  by_cases h1 : zOn c 3 ∧ zOn n 49
  · by_cases h2 : zIsD A d
    · obtain ⟨⟨c', hc, ec⟩, ⟨n', hn, en⟩⟩ := h1
      obtain ⟨d', hd, ed, hl⟩ := h2
      exact Or.inr ⟨c', d', n', ec, by omega, ed, hd, hl, en, by omega⟩
    · exact Or.inl ⟨2, Or.inr ⟨rfl, h1.1, h1.2, h2⟩⟩
  · exact Or.inl ⟨1, Or.inl ⟨rfl, h1⟩⟩
theorem zBad_k {A : ZA} {c d n : Int32} {k : Nat} (h : zBad A c d n k) : 0 < k ∧ k < 3 := by
  rcases h with ⟨rfl, -⟩ | ⟨rfl, -⟩ <;> omega
theorem zGd_i {A : ZA} {c d n : Int32} {c' d' n' : Nat} (h : zGd A c d n c' d' n') : zOn c 3 ∧ zOn n 49 ∧ zIsD A d :=
  ⟨⟨c', by have := h.2.1; omega, h.1⟩, ⟨n', by have := h.2.2.2.2.2.2; omega, h.2.2.2.2.2.1⟩, ⟨d', h.2.2.2.1, h.2.2.1, h.2.2.2.2.1⟩⟩
theorem ct_X3_barsName_bad {G : ZG} {M : ZM} {x : Nat} {q : Nat → Nat} {w : Int32} {A : ZA} (hR : zR M x q w A) {D : Nat} (hB : zBas A D) {c d n : Int32} {k : Nat} (h : zBad A c d n k) : zMet G mX3_barsName [.ref (x), .int (c), .int (d), .int (n)] M (zone (some (.int (nI k))) M) := by
  refine zbody zyX3_barsName [some (.ref (x)), some (.int (c)), some (.int (d)), some (.int (n))] rfl (Nat.le_of_ble_eq_true rfl) (by intro v hv; simp only [List.mem_cons, List.not_mem_nil, or_false] at hv; rcases hv with rfl | rfl | rfl | rfl <;> rfl) (fun E K => ?_)
  refine zq_iload_n K dX3_barsName_0 rfl rfl ?_
  refine zq_callS (As := [.int (c)]) K dX3_barsName_1 zyX3_isClient zm_X3_93 zsX3_isClient rfl (by decide) rfl rfl (Nat.le_of_ble_eq_true rfl) (Nat.le_of_ble_eq_true rfl) (ct_X3_isClient c M) (zdec_r (fun hc => ?_) (fun hc => ?_)) zdec_x (Nat.le_refl _)
  · refine zq_if_eqN K (x := 1) 14 dX3_barsName_4 (by decide) (by omega) (fun h4 => by omega) (fun h4 => ?_)
    refine zq_iload_n K dX3_barsName_7 rfl rfl ?_
    refine zq_callS (As := [.int (n)]) K dX3_barsName_8 zyX3_isName zm_X3_96 zsX3_isName rfl (by decide) rfl rfl (Nat.le_of_ble_eq_true rfl) (Nat.le_of_ble_eq_true rfl) (ct_X3_isName n M) (zdec_r (fun hn => ?_) (fun hn => ?_)) zdec_x (Nat.le_refl _)
    · refine zq_if_neN K (x := 1) 18 dX3_barsName_11 (by decide) (by omega) (fun h11 => ?_) (fun h11 => by omega)
      refine zq_aload_n K dX3_barsName_18 rfl rfl ?_
      refine zq_iload_n K dX3_barsName_19 rfl rfl ?_
      refine zq_callV (As := [.int (d)]) K dX3_barsName_20 zyX3_isDirectory zm_X3_99 ziX3_isDirectory zvX3_isDirectory zclX3 rfl (by decide) rfl rfl (Nat.le_of_ble_eq_true rfl) (Nat.le_of_ble_eq_true rfl) hR.1 (ct_X3_isDirectory hR hB d) (zdec_r (fun hd => ?_) (fun hd => ?_)) zdec_x (Nat.le_refl _)
      · refine zq_if_eqN K (x := 1) 30 dX3_barsName_23 (by decide) (by omega) (fun h23 => by omega) (fun h23 => ?_)
        rcases h with ⟨-, h⟩ | ⟨-, -, -, h⟩
        · exact absurd ⟨hc, hn⟩ h
        · exact absurd hd h
      · refine zq_if_eqN K (x := 0) 30 dX3_barsName_23 (by decide) (by omega) (fun h23 => ?_) (fun h23 => by omega)
        obtain ⟨rfl, h2⟩ | ⟨rfl, -⟩ := h; exact absurd ⟨hc, hn⟩ h2
        refine zq_iconst K dX3_barsName_30 (v := nI 2) (by decide) ?_
        exact zq_iret K dX3_barsName_31 rfl ⟨rfl, rfl⟩
    · refine zq_if_neN K (x := 0) 18 dX3_barsName_11 (by decide) (by omega) (fun h11 => by omega) (fun h11 => ?_)
      obtain ⟨rfl, -⟩ | ⟨rfl, -, h2, -⟩ := h; rotate_left; exact absurd h2 hn
      refine zq_iconst K dX3_barsName_14 (v := nI 1) (by decide) ?_
      refine zq_goto K 31 dX3_barsName_15 (by decide) ?_
      exact zq_iret K dX3_barsName_31 rfl ⟨rfl, rfl⟩
  · refine zq_if_eqN K (x := 0) 14 dX3_barsName_4 (by decide) (by omega) (fun h4 => ?_) (fun h4 => by omega)
    obtain ⟨rfl, -⟩ | ⟨rfl, h2, -⟩ := h; rotate_left; exact absurd h2 hc
    refine zq_iconst K dX3_barsName_14 (v := nI 1) (by decide) ?_
    refine zq_goto K 31 dX3_barsName_15 (by decide) ?_
    exact zq_iret K dX3_barsName_31 rfl ⟨rfl, rfl⟩
theorem ct_X3_barsName_ok {G : ZG} {M : ZM} {x : Nat} {q : Nat → Nat} {w : Int32} {A : ZA} (hR : zR M x q w A) {D : Nat} (hB : zBas A D) {c d n : Int32} {c' d' n' : Nat} (h : zGd A c d n c' d' n') : zMet G mX3_barsName [.ref (x), .int (c), .int (d), .int (n)] M (zone (some (.int (nI 0))) M) := by
  refine zbody zyX3_barsName [some (.ref (x)), some (.int (c)), some (.int (d)), some (.int (n))] rfl (Nat.le_of_ble_eq_true rfl) (by intro v hv; simp only [List.mem_cons, List.not_mem_nil, or_false] at hv; rcases hv with rfl | rfl | rfl | rfl <;> rfl) (fun E K => ?_)
  refine zq_iload_n K dX3_barsName_0 rfl rfl ?_
  refine zq_callS (As := [.int (c)]) K dX3_barsName_1 zyX3_isClient zm_X3_93 zsX3_isClient rfl (by decide) rfl rfl (Nat.le_of_ble_eq_true rfl) (Nat.le_of_ble_eq_true rfl) (ct_X3_isClient c M) (zdec_r (fun hc => ?_) (fun hc => ?_)) zdec_x (Nat.le_refl _)
  · refine zq_if_eqN K (x := 1) 14 dX3_barsName_4 (by decide) (by omega) (fun h4 => by omega) (fun h4 => ?_)
    refine zq_iload_n K dX3_barsName_7 rfl rfl ?_
    refine zq_callS (As := [.int (n)]) K dX3_barsName_8 zyX3_isName zm_X3_96 zsX3_isName rfl (by decide) rfl rfl (Nat.le_of_ble_eq_true rfl) (Nat.le_of_ble_eq_true rfl) (ct_X3_isName n M) (zdec_r (fun hn => ?_) (fun hn => ?_)) zdec_x (Nat.le_refl _)
    · refine zq_if_neN K (x := 1) 18 dX3_barsName_11 (by decide) (by omega) (fun h11 => ?_) (fun h11 => by omega)
      refine zq_aload_n K dX3_barsName_18 rfl rfl ?_
      refine zq_iload_n K dX3_barsName_19 rfl rfl ?_
      refine zq_callV (As := [.int (d)]) K dX3_barsName_20 zyX3_isDirectory zm_X3_99 ziX3_isDirectory zvX3_isDirectory zclX3 rfl (by decide) rfl rfl (Nat.le_of_ble_eq_true rfl) (Nat.le_of_ble_eq_true rfl) hR.1 (ct_X3_isDirectory hR hB d) (zdec_r (fun hd => ?_) (fun hd => ?_)) zdec_x (Nat.le_refl _)
      · refine zq_if_eqN K (x := 1) 30 dX3_barsName_23 (by decide) (by omega) (fun h23 => by omega) (fun h23 => ?_)
        refine zq_iconst K dX3_barsName_26 (v := nI 0) (by decide) ?_
        refine zq_goto K 31 dX3_barsName_27 (by decide) ?_
        exact zq_iret K dX3_barsName_31 rfl ⟨rfl, rfl⟩
      · refine zq_if_eqN K (x := 0) 30 dX3_barsName_23 (by decide) (by omega) (fun h23 => ?_) (fun h23 => by omega)
        exact absurd (zGd_i h).2.2 hd
    · refine zq_if_neN K (x := 0) 18 dX3_barsName_11 (by decide) (by omega) (fun h11 => by omega) (fun h11 => ?_)
      exact absurd (zGd_i h).2.1 hn
  · refine zq_if_eqN K (x := 0) 14 dX3_barsName_4 (by decide) (by omega) (fun h4 => ?_) (fun h4 => by omega)
    exact absurd (zGd_i h).1 hc
/-- what the reference rests on -/
def zWf (A : ZA) : Prop := (∃ D, zBas A D) ∧ zFr A ∧ ∀ d, d < 12 → A.2 3 d = 1 → zDp A 11 d
/-- the name is taken, or its fragment frozen -/
def zBz (A : ZA) (d n : Nat) : Prop := ¬ A.2 6 (50 * d + n) = -1 ∨ zfz A (zfn A d n) = true
/-- .. whether a name can be made: 0, or why not -/
def zNw (A : ZA) (c d n : Int32) (k : Nat) : Prop := zBad A c d n k ∨ ∃ c' d' n', zGd A c d n c' d' n' ∧ ((k = 3 ∧ zBz A d' n') ∨ (k = 0 ∧ ¬ zBz A d' n'))
theorem ct_X3_barsNew_bad {G : ZG} {M : ZM} {x : Nat} {q : Nat → Nat} {w : Int32} {A : ZA} (hR : zR M x q w A) (hW : zWf A) {c d n : Int32} {k : Nat} (h : zBad A c d n k) : zMet G mX3_barsNew [.ref (x), .int (c), .int (d), .int (n)] M (zone (some (.int (nI k))) M) := by
  refine zbody zyX3_barsNew [some (.ref (x)), some (.int (c)), some (.int (d)), some (.int (n)), none] rfl (Nat.le_of_ble_eq_true rfl) (by intro v hv; simp only [List.mem_cons, List.not_mem_nil, or_false] at hv; rcases hv with rfl | rfl | rfl | rfl <;> rfl) (fun E K => ?_)
  obtain ⟨⟨D, hB⟩, hF, hU⟩ := hW
  have hk := zBad_k h
  refine zq_aload_n K dX3_barsNew_0 rfl rfl ?_
  refine zq_iload_n K dX3_barsNew_1 rfl rfl ?_
  refine zq_iload_n K dX3_barsNew_2 rfl rfl ?_
  refine zq_iload_n K dX3_barsNew_3 rfl rfl ?_
  refine zq_callV (As := [.int (c), .int (d), .int (n)]) K dX3_barsNew_4 zyX3_barsName zm_X3_102 ziX3_barsName zvX3_barsName zclX3 rfl (by decide) rfl rfl (Nat.le_of_ble_eq_true rfl) (Nat.le_of_ble_eq_true rfl) hR.1 (ct_X3_barsName_bad hR hB h) (zone_r ?_) zone_x (Nat.le_refl _)
  refine zq_istore K dX3_barsNew_7 (by decide) ?_
  refine zq_iload K dX3_barsNew_9 rfl ?_
  refine zq_if_leN K (x := k) 19 dX3_barsNew_11 (by decide) (by omega) (fun h11 => by omega) (fun h11 => ?_)
  refine zq_iload K dX3_barsNew_14 rfl ?_
  refine zq_goto K 47 dX3_barsNew_16 (by decide) ?_
  exact zq_iret K dX3_barsNew_47 rfl ⟨rfl, rfl⟩
theorem ct_X3_barsNew_no {G : ZG} {M : ZM} {x : Nat} {q : Nat → Nat} {w : Int32} {A : ZA} (hR : zR M x q w A) (hW : zWf A) {c' d' n' : Nat} (hc : c' < 4) (hd : d' < 12) (hl : A.2 3 d' = 1) (hn : n' < 50) (h : zBz A d' n') : zMet G mX3_barsNew [.ref (x), .int (nI (c')), .int (nI (d')), .int (nI (n'))] M (zone (some (.int (nI 3))) M) := by
  refine zbody zyX3_barsNew [some (.ref (x)), some (.int (nI (c'))), some (.int (nI (d'))), some (.int (nI (n'))), none] rfl (Nat.le_of_ble_eq_true rfl) (by intro v hv; simp only [List.mem_cons, List.not_mem_nil, or_false] at hv; rcases hv with rfl | rfl | rfl | rfl <;> rfl) (fun E K => ?_)
  obtain ⟨⟨D, hB⟩, hF, hU⟩ := id hW
  have hg : zGd A (nI c') (nI d') (nI n') c' d' n' := ⟨rfl, hc, rfl, hd, hl, rfl, hn⟩
  have hS : zSm x q M M := zSm.rf
  refine zq_aload_n K dX3_barsNew_0 rfl rfl ?_
  refine zq_iload_n K dX3_barsNew_1 rfl rfl ?_
  refine zq_iload_n K dX3_barsNew_2 rfl rfl ?_
  refine zq_iload_n K dX3_barsNew_3 rfl rfl ?_
  refine zq_callV (As := [.int (nI (c')), .int (nI (d')), .int (nI (n'))]) K dX3_barsNew_4 zyX3_barsName zm_X3_102 ziX3_barsName zvX3_barsName zclX3 rfl (by decide) rfl rfl (Nat.le_of_ble_eq_true rfl) (Nat.le_of_ble_eq_true rfl) hR.1 (ct_X3_barsName_ok hR hB hg) (zone_r ?_) zone_x (Nat.le_refl _)
  refine zq_istore K dX3_barsNew_7 (by decide) ?_
  refine zq_iload K dX3_barsNew_9 rfl ?_
  refine zq_if_leN K (x := 0) 19 dX3_barsNew_11 (by decide) (by omega) (fun h11 => ?_) (fun h11 => by omega)
  refine zq_aload_n K dX3_barsNew_19 rfl rfl ?_
  refine zm_ar K dX3_barsNew_20 zf_X3_24 (k := 6) (by decide) hR ?_
  refine zq_iload_n K dX3_barsNew_23 rfl rfl ?_
  refine zq_iload_n K dX3_barsNew_24 rfl rfl ?_
  refine zq_callS (As := [.int (nI (d')), .int (nI (n'))]) K dX3_barsNew_25 zyX3_at zm_X3_87 zsX3_at rfl (by decide) rfl rfl (Nat.le_of_ble_eq_true rfl) (Nat.le_of_ble_eq_true rfl) (ct_X3_at d' n' _) (zone_r ?_) zone_x (Nat.le_refl _)
  refine zm_ld K (50 * d' + n') dX3_barsNew_28 (k := 6) (by decide) hR rfl (show 50 * d' + n' < 600 by omega) ?_
  refine zq_iconst K dX3_barsNew_29 (v := -1) (by decide) ?_
  refine zq_icmp_ne K 42 dX3_barsNew_30 (by decide) (fun h30 => ?_) (fun h30 => ?_)
  · refine zq_iconst K dX3_barsNew_42 (v := nI 3) (by decide) ?_
    refine zq_goto K 47 dX3_barsNew_43 (by decide) ?_
    exact zq_iret K dX3_barsNew_47 rfl ⟨rfl, rfl⟩
  · refine zq_aload_n K dX3_barsNew_33 rfl rfl ?_
    refine zq_iload_n K dX3_barsNew_34 rfl rfl ?_
    refine zq_iload_n K dX3_barsNew_35 rfl rfl ?_
    refine zq_callV (As := [.int (nI (d')), .int (nI (n'))]) K dX3_barsNew_36 zyX3_isFrozenName zm_X3_106 ziX3_isFrozenName zvX3_isFrozenName zclX3 rfl (by decide) rfl rfl (Nat.le_of_ble_eq_true rfl) (Nat.le_of_ble_eq_true rfl) hR.1 (ct_X3_isFrozenName hR hF (hU d' hd hl) hd hl hn) (zdec_r (fun hz => ?_) (fun hz => ?_)) zdec_x (Nat.le_refl _)
    · refine zq_if_eqN K (x := 1) 46 dX3_barsNew_39 (by decide) (by omega) (fun h39 => by omega) (fun h39 => ?_)
      refine zq_iconst K dX3_barsNew_42 (v := nI 3) (by decide) ?_
      refine zq_goto K 47 dX3_barsNew_43 (by decide) ?_
      exact zq_iret K dX3_barsNew_47 rfl ⟨rfl, rfl⟩
    · exact absurd h (fun z => z.elim (fun y => y h30) hz)
theorem ct_X3_barsNew_ok {G : ZG} {M : ZM} {x : Nat} {q : Nat → Nat} {w : Int32} {A : ZA} (hR : zR M x q w A) (hW : zWf A) {c' d' n' : Nat} (hc : c' < 4) (hd : d' < 12) (hl : A.2 3 d' = 1) (hn : n' < 50) (h : ¬ zBz A d' n') : zMet G mX3_barsNew [.ref (x), .int (nI (c')), .int (nI (d')), .int (nI (n'))] M (zone (some (.int (nI 0))) M) := by
  refine zbody zyX3_barsNew [some (.ref (x)), some (.int (nI (c'))), some (.int (nI (d'))), some (.int (nI (n'))), none] rfl (Nat.le_of_ble_eq_true rfl) (by intro v hv; simp only [List.mem_cons, List.not_mem_nil, or_false] at hv; rcases hv with rfl | rfl | rfl | rfl <;> rfl) (fun E K => ?_)
  obtain ⟨⟨D, hB⟩, hF, hU⟩ := id hW
  have hg : zGd A (nI c') (nI d') (nI n') c' d' n' := ⟨rfl, hc, rfl, hd, hl, rfl, hn⟩
  have hS : zSm x q M M := zSm.rf
  refine zq_aload_n K dX3_barsNew_0 rfl rfl ?_
  refine zq_iload_n K dX3_barsNew_1 rfl rfl ?_
  refine zq_iload_n K dX3_barsNew_2 rfl rfl ?_
  refine zq_iload_n K dX3_barsNew_3 rfl rfl ?_
  refine zq_callV (As := [.int (nI (c')), .int (nI (d')), .int (nI (n'))]) K dX3_barsNew_4 zyX3_barsName zm_X3_102 ziX3_barsName zvX3_barsName zclX3 rfl (by decide) rfl rfl (Nat.le_of_ble_eq_true rfl) (Nat.le_of_ble_eq_true rfl) hR.1 (ct_X3_barsName_ok hR hB hg) (zone_r ?_) zone_x (Nat.le_refl _)
  refine zq_istore K dX3_barsNew_7 (by decide) ?_
  refine zq_iload K dX3_barsNew_9 rfl ?_
  refine zq_if_leN K (x := 0) 19 dX3_barsNew_11 (by decide) (by omega) (fun h11 => ?_) (fun h11 => by omega)
  refine zq_aload_n K dX3_barsNew_19 rfl rfl ?_
  refine zm_ar K dX3_barsNew_20 zf_X3_24 (k := 6) (by decide) hR ?_
  refine zq_iload_n K dX3_barsNew_23 rfl rfl ?_
  refine zq_iload_n K dX3_barsNew_24 rfl rfl ?_
  refine zq_callS (As := [.int (nI (d')), .int (nI (n'))]) K dX3_barsNew_25 zyX3_at zm_X3_87 zsX3_at rfl (by decide) rfl rfl (Nat.le_of_ble_eq_true rfl) (Nat.le_of_ble_eq_true rfl) (ct_X3_at d' n' _) (zone_r ?_) zone_x (Nat.le_refl _)
  refine zm_ld K (50 * d' + n') dX3_barsNew_28 (k := 6) (by decide) hR rfl (show 50 * d' + n' < 600 by omega) ?_
  refine zq_iconst K dX3_barsNew_29 (v := -1) (by decide) ?_
  refine zq_icmp_ne K 42 dX3_barsNew_30 (by decide) (fun h30 => ?_) (fun h30 => ?_)
  · exact absurd (Or.inl h30) h
  · refine zq_aload_n K dX3_barsNew_33 rfl rfl ?_
    refine zq_iload_n K dX3_barsNew_34 rfl rfl ?_
    refine zq_iload_n K dX3_barsNew_35 rfl rfl ?_
    refine zq_callV (As := [.int (nI (d')), .int (nI (n'))]) K dX3_barsNew_36 zyX3_isFrozenName zm_X3_106 ziX3_isFrozenName zvX3_isFrozenName zclX3 rfl (by decide) rfl rfl (Nat.le_of_ble_eq_true rfl) (Nat.le_of_ble_eq_true rfl) hR.1 (ct_X3_isFrozenName hR hF (hU d' hd hl) hd hl hn) (zdec_r (fun hz => ?_) (fun hz => ?_)) zdec_x (Nat.le_refl _)
    · exact absurd (Or.inr hz) h
    · refine zq_if_eqN K (x := 0) 46 dX3_barsNew_39 (by decide) (by omega) (fun h39 => ?_) (fun h39 => by omega)
      refine zq_iconst K dX3_barsNew_46 (v := nI 0) (by decide) ?_
      exact zq_iret K dX3_barsNew_47 rfl ⟨rfl, rfl⟩
theorem ct_X3_lookup_bad {G : ZG} {M : ZM} {x : Nat} {q : Nat → Nat} {w : Int32} {A : ZA} (hR : zR M x q w A) (hW : zWf A) {c d n : Int32} {k : Nat} (h : zBad A c d n k) : zMet G mX3_lookup [.ref (x), .int (c), .int (d), .int (n)] M (zRP x q M (some (.int (nI 0))) (nI k) A) := by
  refine zbody zyX3_lookup [some (.ref (x)), some (.int (c)), some (.int (d)), some (.int (n)), none] rfl (Nat.le_of_ble_eq_true rfl) (by intro v hv; simp only [List.mem_cons, List.not_mem_nil, or_false] at hv; rcases hv with rfl | rfl | rfl | rfl <;> rfl) (fun E K => ?_)
  obtain ⟨⟨D, hB⟩, hF, hU⟩ := hW
  have hk := zBad_k h
  have hS : zSm x q M M := zSm.rf
  refine zq_aload_n K dX3_lookup_0 rfl rfl ?_
  refine zq_aload_n K dX3_lookup_1 rfl rfl ?_
  refine zq_iload_n K dX3_lookup_2 rfl rfl ?_
  refine zq_iload_n K dX3_lookup_3 rfl rfl ?_
  refine zq_iload_n K dX3_lookup_4 rfl rfl ?_
  refine zq_callV (As := [.int (c), .int (d), .int (n)]) K dX3_lookup_5 zyX3_barsName zm_X3_102 ziX3_barsName zvX3_barsName zclX3 rfl (by decide) rfl rfl (Nat.le_of_ble_eq_true rfl) (Nat.le_of_ble_eq_true rfl) hR.1 (ct_X3_barsName_bad hR hB h) (zone_r ?_) zone_x (Nat.le_refl _)
  refine zm_pth K dX3_lookup_8 zf_X3_55 hR hS (fun M hR hS => ?_)
  refine zq_aload_n K dX3_lookup_11 rfl rfl ?_
  refine zm_th K dX3_lookup_12 zf_X3_55 hR ?_
  refine zq_if_leN K (x := k) 20 dX3_lookup_15 (by decide) (by omega) (fun h15 => by omega) (fun h15 => ?_)
  refine zq_iconst K dX3_lookup_18 (v := nI 0) (by decide) ?_
  exact zq_iret K dX3_lookup_19 rfl ⟨rfl, hR, hS⟩
def zLk (A : ZA) (c d n : Nat) : ZA := if A.1 1 < A.2 13 (600 * c + (50 * d + n)) then zsa A 15 c (A.2 15 c + nI 1) else zsa (zsa A 12 (zfn A d n) (A.2 12 (zfn A d n) + nI 1)) 13 (600 * c + (50 * d + n)) (A.1 1 + nI 10)
theorem ct_X3_lookup_ok {G : ZG} {M : ZM} {x : Nat} {q : Nat → Nat} {w : Int32} {A : ZA} (hR : zR M x q w A) (hW : zWf A) {c' d' n' : Nat} (hc : c' < 4) (hd : d' < 12) (hl : A.2 3 d' = 1) (hn : n' < 50) : zMet G mX3_lookup [.ref (x), .int (nI (c')), .int (nI (d')), .int (nI (n'))] M (zRP x q M (some (.int (A.2 6 (50 * d' + n')))) (nI 0) (zLk A c' d' n')) := by
  refine zbody zyX3_lookup [some (.ref (x)), some (.int (nI (c'))), some (.int (nI (d'))), some (.int (nI (n'))), none] rfl (Nat.le_of_ble_eq_true rfl) (by intro v hv; simp only [List.mem_cons, List.not_mem_nil, or_false] at hv; rcases hv with rfl | rfl | rfl | rfl <;> rfl) (fun E K => ?_)
  obtain ⟨⟨D, hB⟩, hF, hU⟩ := id hW
  have hg : zGd A (nI c') (nI d') (nI n') c' d' n' := ⟨rfl, hc, rfl, hd, hl, rfl, hn⟩
  have hS : zSm x q M M := zSm.rf
  refine zq_aload_n K dX3_lookup_0 rfl rfl ?_
  refine zq_aload_n K dX3_lookup_1 rfl rfl ?_
  refine zq_iload_n K dX3_lookup_2 rfl rfl ?_
  refine zq_iload_n K dX3_lookup_3 rfl rfl ?_
  refine zq_iload_n K dX3_lookup_4 rfl rfl ?_
  refine zq_callV (As := [.int (nI (c')), .int (nI (d')), .int (nI (n'))]) K dX3_lookup_5 zyX3_barsName zm_X3_102 ziX3_barsName zvX3_barsName zclX3 rfl (by decide) rfl rfl (Nat.le_of_ble_eq_true rfl) (Nat.le_of_ble_eq_true rfl) hR.1 (ct_X3_barsName_ok hR hB hg) (zone_r ?_) zone_x (Nat.le_refl _)
  refine zm_pth K dX3_lookup_8 zf_X3_55 hR hS (fun M hR hS => ?_)
  refine zq_aload_n K dX3_lookup_11 rfl rfl ?_
  refine zm_th K dX3_lookup_12 zf_X3_55 hR ?_
  refine zq_if_leN K (x := 0) 20 dX3_lookup_15 (by decide) (by omega) (fun h15 => ?_) (fun h15 => by omega)
  refine zq_iload_n K dX3_lookup_20 rfl rfl ?_
  refine zq_iload_n K dX3_lookup_21 rfl rfl ?_
  refine zq_callS (As := [.int (nI (d')), .int (nI (n'))]) K dX3_lookup_22 zyX3_at zm_X3_87 zsX3_at rfl (by decide) rfl rfl (Nat.le_of_ble_eq_true rfl) (Nat.le_of_ble_eq_true rfl) (ct_X3_at d' n' _) (zone_r ?_) zone_x (Nat.le_refl _)
  refine zq_istore K dX3_lookup_25 (by decide) ?_
  refine zq_aload_n K dX3_lookup_27 rfl rfl ?_
  refine zq_iload_n K dX3_lookup_28 rfl rfl ?_
  refine zq_iload K dX3_lookup_29 rfl ?_
  refine zq_callV (As := [.int (nI (c')), .int (nI (50 * d' + n'))]) K dX3_lookup_31 zyX3_runs zm_X3_83 ziX3_runs zvX3_runs zclX3 rfl (by decide) rfl rfl (Nat.le_of_ble_eq_true rfl) (Nat.le_of_ble_eq_true rfl) hR.1 (ct_X3_runs hR (a := 50 * d' + n') hc (by omega)) (zdec_r (fun hr => ?_) (fun hr => ?_)) zdec_x (Nat.le_refl _)
  · refine zq_if_eqN K (x := 1) 50 dX3_lookup_34 (by decide) (by omega) (fun h34 => by omega) (fun h34 => ?_)
    refine zq_aload_n K dX3_lookup_37 rfl rfl ?_
    refine zm_ar K dX3_lookup_38 zf_X3_45 (k := 15) (by decide) hR ?_
    refine zq_iload_n K dX3_lookup_41 rfl rfl ?_
    refine zq_dup2 K dX3_lookup_42 rfl rfl ?_
    refine zm_ld K (c') dX3_lookup_43 (k := 15) (by decide) hR rfl (show c' < 4 by omega) ?_
    refine zq_iconst K dX3_lookup_44 (v := nI 1) (by decide) ?_
    refine zq_iadd K dX3_lookup_45 ?_
    refine zm_st K (c') dX3_lookup_46 (k := 15) (by decide) hR hS rfl (show c' < 4 by omega) (fun M hR hS => ?_)
    refine zq_goto K 85 dX3_lookup_47 (by decide) ?_
    refine zq_aload_n K dX3_lookup_85 rfl rfl ?_
    refine zm_ar K dX3_lookup_86 zf_X3_24 (k := 6) (by decide) hR ?_
    refine zq_iload K dX3_lookup_89 rfl ?_
    refine zm_ld K (50 * d' + n') dX3_lookup_91 (k := 6) (by decide) hR rfl (show 50 * d' + n' < 600 by omega) ?_
    refine zq_top (v := A.2 6 (50 * d' + n')) rfl ?_
    exact zq_iret K dX3_lookup_92 rfl ⟨rfl, by unfold zLk; rw [if_pos hr]; exact hR, hS⟩
  · refine zq_if_eqN K (x := 0) 50 dX3_lookup_34 (by decide) (by omega) (fun h34 => ?_) (fun h34 => by omega)
    refine zq_aload_n K dX3_lookup_50 rfl rfl ?_
    refine zm_ar K dX3_lookup_51 zf_X3_36 (k := 12) (by decide) hR ?_
    refine zq_aload_n K dX3_lookup_54 rfl rfl ?_
    refine zq_iload_n K dX3_lookup_55 rfl rfl ?_
    refine zq_iload_n K dX3_lookup_56 rfl rfl ?_
    have h96 := zfn_lt A (d := d') (n := n') hd
    refine zq_callV (As := [.int (nI (d')), .int (nI (n'))]) K dX3_lookup_57 zyX3_fragmentOfName zm_X3_70 ziX3_fragmentOfName zvX3_fragmentOfName zclX3 rfl (by decide) rfl rfl (Nat.le_of_ble_eq_true rfl) (Nat.le_of_ble_eq_true rfl) hR.1 (ct_X3_fragmentOfName hR hd hn (hF.1 d' hd hl)) (zone_r ?_) zone_x (Nat.le_refl _)
    refine zq_dup2 K dX3_lookup_60 rfl rfl ?_
    refine zm_ld K (zfn A d' n') dX3_lookup_61 (k := 12) (by decide) hR rfl (show zfn A d' n' < 96 by omega) ?_
    refine zq_iconst K dX3_lookup_62 (v := nI 1) (by decide) ?_
    refine zq_iadd K dX3_lookup_63 ?_
    refine zm_st K (zfn A d' n') dX3_lookup_64 (k := 12) (by decide) hR hS rfl (show zfn A d' n' < 96 by omega) (fun M hR hS => ?_)
    refine zq_aload_n K dX3_lookup_65 rfl rfl ?_
    refine zm_ar K dX3_lookup_66 zf_X3_39 (k := 13) (by decide) hR ?_
    refine zq_sipush K dX3_lookup_69 (v := nI 600) (by decide) ?_
    refine zq_iload_n K dX3_lookup_72 rfl rfl ?_
    refine zq_imulN K (x := 600) (y := c') dX3_lookup_73 ?_
    refine zq_iload K dX3_lookup_74 rfl ?_
    refine zq_iaddN K (x := (600) * (c')) (y := 50 * d' + n') dX3_lookup_76 ?_
    refine zq_aload_n K dX3_lookup_77 rfl rfl ?_
    refine zm_sc K dX3_lookup_78 zf_X3_80 (k := 1) (by decide) hR ?_
    refine zq_bipush K dX3_lookup_81 (v := nI 10) (by decide) ?_
    refine zq_iadd K dX3_lookup_83 ?_
    refine zm_st K (((600) * (c')) + (50 * d' + n')) dX3_lookup_84 (k := 13) (by decide) hR hS rfl (show ((600) * (c')) + (50 * d' + n') < 2400 by omega) (fun M hR hS => ?_)
    refine zq_aload_n K dX3_lookup_85 rfl rfl ?_
    refine zm_ar K dX3_lookup_86 zf_X3_24 (k := 6) (by decide) hR ?_
    refine zq_iload K dX3_lookup_89 rfl ?_
    refine zm_ld K (50 * d' + n') dX3_lookup_91 (k := 6) (by decide) hR rfl (show 50 * d' + n' < 600 by omega) ?_
    refine zq_top (v := A.2 6 (50 * d' + n')) rfl ?_
    exact zq_iret K dX3_lookup_92 rfl ⟨rfl, by unfold zLk; rw [if_neg hr]; exact hR, hS⟩
/-- the directory d begins, its fragment with the owner o: the first k hashes -/
def zBg (A : ZA) (d : Nat) (o : Int32) : Nat → ZA
  | 0 => zsa A 3 d (nI 1)
  | k + 1 => zsa (zsa (zsa (zBg A d o k) 10 (8 * d + k) (if k = 0 then nI 8 else nI 0)) 11 (8 * d + k) (if k = 0 then o else -1)) 12 (8 * d + k) (nI 0)
theorem lp_X3_begins {G : ZG} {E : ZE} (K : zOK mX3_begins [] G E) {M0 : ZM} {x : Nat} {q : Nat → Nat} {w : Int32} {A : ZA} {d : Nat} (hd : d < 12) (o : Int32) {P : ZO → ZM → Prop} (hP : ∀ M, zR M x q w (zBg A d o 8) → zSm x q M0 M → P (.inl none) M) : ∀ (n k : Nat), k + n = 8 → ∀ (M : ZM), zR M x q w (zBg A d o k) → zSm x q M0 M → WW E G (zyu mX3_begins) (zQ E G mX3_begins P) M 0 9 [some (.ref x), some (.int (nI d)), some (.int o), some (.int (nI k))] [] := by
  intro n
  induction n with
  | zero =>
    intro k hk M hR hS
    have hk8 : k = 8 := by omega
    subst hk8
    refine zq_iload_n K dX3_begins_9 rfl rfl ?_
    refine zq_bipush K dX3_begins_10 (v := nI 8) (by decide) ?_
    refine zq_icmp_geN K (x := 8) (y := 8) 74 dX3_begins_12 (by decide) ⟨by omega, by omega⟩ (fun h12 => ?_) (fun h12 => by omega)
    exact zq_ret K dX3_begins_74 rfl (hP M hR hS)
  | succ n ih =>
    intro k hk M hR hS
    refine zq_iload_n K dX3_begins_9 rfl rfl ?_
    refine zq_bipush K dX3_begins_10 (v := nI 8) (by decide) ?_
    refine zq_icmp_geN K (x := k) (y := 8) 74 dX3_begins_12 (by decide) ⟨by omega, by omega⟩ (fun h12 => by omega) (fun h12 => ?_)
    refine zq_aload_n K dX3_begins_15 rfl rfl ?_
    refine zm_ar K dX3_begins_16 zf_X3_30 (k := 10) (by decide) hR ?_
    refine zq_bipush K dX3_begins_19 (v := nI 8) (by decide) ?_
    refine zq_iload_n K dX3_begins_21 rfl rfl ?_
    refine zq_imulN K (x := 8) (y := d) dX3_begins_22 ?_
    refine zq_iload_n K dX3_begins_23 rfl rfl ?_
    refine zq_iaddN K (x := (8) * (d)) (y := k) dX3_begins_24 ?_
    refine zq_iload_n K dX3_begins_25 rfl rfl ?_
    refine zq_if_neN K (x := k) 34 dX3_begins_26 (by decide) (by omega) (fun h26 => ?_) (fun h26 => ?_)
    · refine zq_iconst K dX3_begins_34 (v := nI 0) (by decide) ?_
      refine zq_top (v := (if k = 0 then nI 8 else nI 0)) (if_neg h26).symm ?_
      refine zm_st K (((8) * (d)) + (k)) dX3_begins_35 (k := 10) (by decide) hR hS rfl (show ((8) * (d)) + (k) < 96 by omega) (fun M hR hS => ?_)
      refine zq_aload_n K dX3_begins_36 rfl rfl ?_
      refine zm_ar K dX3_begins_37 zf_X3_33 (k := 11) (by decide) hR ?_
      refine zq_bipush K dX3_begins_40 (v := nI 8) (by decide) ?_
      refine zq_iload_n K dX3_begins_42 rfl rfl ?_
      refine zq_imulN K (x := 8) (y := d) dX3_begins_43 ?_
      refine zq_iload_n K dX3_begins_44 rfl rfl ?_
      refine zq_iaddN K (x := (8) * (d)) (y := k) dX3_begins_45 ?_
      refine zq_iload_n K dX3_begins_46 rfl rfl ?_
      refine zq_if_neN K (x := k) 54 dX3_begins_47 (by decide) (by omega) (fun h47 => ?_) (fun h47 => ?_)
      · refine zq_iconst K dX3_begins_54 (v := -1) (by decide) ?_
        refine zq_top (v := (if k = 0 then o else -1)) (if_neg h47).symm ?_
        refine zm_st K (((8) * (d)) + (k)) dX3_begins_55 (k := 11) (by decide) hR hS rfl (show ((8) * (d)) + (k) < 96 by omega) (fun M hR hS => ?_)
        refine zq_aload_n K dX3_begins_56 rfl rfl ?_
        refine zm_ar K dX3_begins_57 zf_X3_36 (k := 12) (by decide) hR ?_
        refine zq_bipush K dX3_begins_60 (v := nI 8) (by decide) ?_
        refine zq_iload_n K dX3_begins_62 rfl rfl ?_
        refine zq_imulN K (x := 8) (y := d) dX3_begins_63 ?_
        refine zq_iload_n K dX3_begins_64 rfl rfl ?_
        refine zq_iaddN K (x := (8) * (d)) (y := k) dX3_begins_65 ?_
        refine zq_iconst K dX3_begins_66 (v := nI 0) (by decide) ?_
        refine zm_st K (((8) * (d)) + (k)) dX3_begins_67 (k := 12) (by decide) hR hS rfl (show ((8) * (d)) + (k) < 96 by omega) (fun M hR hS => ?_)
        refine zq_iincN K dX3_begins_68 rfl (by decide) ?_
        refine zq_goto K 9 dX3_begins_71 (by decide) ?_
        exact ih (k + 1) (by omega) M hR hS
      · refine zq_iload_n K dX3_begins_50 rfl rfl ?_
        refine zq_goto K 55 dX3_begins_51 (by decide) ?_
        refine zq_top (v := (if k = 0 then o else -1)) (if_pos h47).symm ?_
        refine zm_st K (((8) * (d)) + (k)) dX3_begins_55 (k := 11) (by decide) hR hS rfl (show ((8) * (d)) + (k) < 96 by omega) (fun M hR hS => ?_)
        refine zq_aload_n K dX3_begins_56 rfl rfl ?_
        refine zm_ar K dX3_begins_57 zf_X3_36 (k := 12) (by decide) hR ?_
        refine zq_bipush K dX3_begins_60 (v := nI 8) (by decide) ?_
        refine zq_iload_n K dX3_begins_62 rfl rfl ?_
        refine zq_imulN K (x := 8) (y := d) dX3_begins_63 ?_
        refine zq_iload_n K dX3_begins_64 rfl rfl ?_
        refine zq_iaddN K (x := (8) * (d)) (y := k) dX3_begins_65 ?_
        refine zq_iconst K dX3_begins_66 (v := nI 0) (by decide) ?_
        refine zm_st K (((8) * (d)) + (k)) dX3_begins_67 (k := 12) (by decide) hR hS rfl (show ((8) * (d)) + (k) < 96 by omega) (fun M hR hS => ?_)
        refine zq_iincN K dX3_begins_68 rfl (by decide) ?_
        refine zq_goto K 9 dX3_begins_71 (by decide) ?_
        exact ih (k + 1) (by omega) M hR hS
    · refine zq_bipush K dX3_begins_29 (v := nI 8) (by decide) ?_
      refine zq_goto K 35 dX3_begins_31 (by decide) ?_
      refine zq_top (v := (if k = 0 then nI 8 else nI 0)) (if_pos h26).symm ?_
      refine zm_st K (((8) * (d)) + (k)) dX3_begins_35 (k := 10) (by decide) hR hS rfl (show ((8) * (d)) + (k) < 96 by omega) (fun M hR hS => ?_)
      refine zq_aload_n K dX3_begins_36 rfl rfl ?_
      refine zm_ar K dX3_begins_37 zf_X3_33 (k := 11) (by decide) hR ?_
      refine zq_bipush K dX3_begins_40 (v := nI 8) (by decide) ?_
      refine zq_iload_n K dX3_begins_42 rfl rfl ?_
      refine zq_imulN K (x := 8) (y := d) dX3_begins_43 ?_
      refine zq_iload_n K dX3_begins_44 rfl rfl ?_
      refine zq_iaddN K (x := (8) * (d)) (y := k) dX3_begins_45 ?_
      refine zq_iload_n K dX3_begins_46 rfl rfl ?_
      refine zq_if_neN K (x := k) 54 dX3_begins_47 (by decide) (by omega) (fun h47 => ?_) (fun h47 => ?_)
      · refine zq_iconst K dX3_begins_54 (v := -1) (by decide) ?_
        refine zq_top (v := (if k = 0 then o else -1)) (if_neg h47).symm ?_
        refine zm_st K (((8) * (d)) + (k)) dX3_begins_55 (k := 11) (by decide) hR hS rfl (show ((8) * (d)) + (k) < 96 by omega) (fun M hR hS => ?_)
        refine zq_aload_n K dX3_begins_56 rfl rfl ?_
        refine zm_ar K dX3_begins_57 zf_X3_36 (k := 12) (by decide) hR ?_
        refine zq_bipush K dX3_begins_60 (v := nI 8) (by decide) ?_
        refine zq_iload_n K dX3_begins_62 rfl rfl ?_
        refine zq_imulN K (x := 8) (y := d) dX3_begins_63 ?_
        refine zq_iload_n K dX3_begins_64 rfl rfl ?_
        refine zq_iaddN K (x := (8) * (d)) (y := k) dX3_begins_65 ?_
        refine zq_iconst K dX3_begins_66 (v := nI 0) (by decide) ?_
        refine zm_st K (((8) * (d)) + (k)) dX3_begins_67 (k := 12) (by decide) hR hS rfl (show ((8) * (d)) + (k) < 96 by omega) (fun M hR hS => ?_)
        refine zq_iincN K dX3_begins_68 rfl (by decide) ?_
        refine zq_goto K 9 dX3_begins_71 (by decide) ?_
        exact ih (k + 1) (by omega) M hR hS
      · refine zq_iload_n K dX3_begins_50 rfl rfl ?_
        refine zq_goto K 55 dX3_begins_51 (by decide) ?_
        refine zq_top (v := (if k = 0 then o else -1)) (if_pos h47).symm ?_
        refine zm_st K (((8) * (d)) + (k)) dX3_begins_55 (k := 11) (by decide) hR hS rfl (show ((8) * (d)) + (k) < 96 by omega) (fun M hR hS => ?_)
        refine zq_aload_n K dX3_begins_56 rfl rfl ?_
        refine zm_ar K dX3_begins_57 zf_X3_36 (k := 12) (by decide) hR ?_
        refine zq_bipush K dX3_begins_60 (v := nI 8) (by decide) ?_
        refine zq_iload_n K dX3_begins_62 rfl rfl ?_
        refine zq_imulN K (x := 8) (y := d) dX3_begins_63 ?_
        refine zq_iload_n K dX3_begins_64 rfl rfl ?_
        refine zq_iaddN K (x := (8) * (d)) (y := k) dX3_begins_65 ?_
        refine zq_iconst K dX3_begins_66 (v := nI 0) (by decide) ?_
        refine zm_st K (((8) * (d)) + (k)) dX3_begins_67 (k := 12) (by decide) hR hS rfl (show ((8) * (d)) + (k) < 96 by omega) (fun M hR hS => ?_)
        refine zq_iincN K dX3_begins_68 rfl (by decide) ?_
        refine zq_goto K 9 dX3_begins_71 (by decide) ?_
        exact ih (k + 1) (by omega) M hR hS
theorem ct_X3_begins {G : ZG} {M : ZM} {x : Nat} {q : Nat → Nat} {w : Int32} {A : ZA} (hR : zR M x q w A) {d : Nat} (hd : d < 12) (o : Int32) : zMet G mX3_begins [.ref (x), .int (nI (d)), .int (o)] M (zRP x q M none w (zBg A d o 8)) := by
  refine zbody zyX3_begins [some (.ref (x)), some (.int (nI (d))), some (.int (o)), none] rfl (Nat.le_of_ble_eq_true rfl) (by intro v hv; simp only [List.mem_cons, List.not_mem_nil, or_false] at hv; rcases hv with rfl | rfl | rfl <;> rfl) (fun E K => ?_)
  have hS : zSm x q M M := zSm.rf
  refine zq_aload_n K dX3_begins_0 rfl rfl ?_
  refine zm_ar K dX3_begins_1 zf_X3_13 (k := 3) (by decide) hR ?_
  refine zq_iload_n K dX3_begins_4 rfl rfl ?_
  refine zq_iconst K dX3_begins_5 (v := nI 1) (by decide) ?_
  refine zm_sz K (d) dX3_begins_6 hR hS rfl (show d < 12 by omega) (by decide) (fun M hR hS => ?_)
  refine zq_iconst K dX3_begins_7 (v := nI 0) (by decide) ?_
  refine zq_istore_n K dX3_begins_8 rfl (by decide) ?_
  exact lp_X3_begins K hd o (fun M hR hS => ⟨rfl, hR, hS⟩) 8 0 rfl M hR hS
/-- a directory D is made -/
def zMk (A : ZA) (c d n D : Nat) : ZA := zBg (zsa (zsa (zsa (zCh (zsc A 2 (nI (D + 1))) (nI c) d n) 6 (50 * d + n) (-2 - nI D)) 4 D (nI d)) 5 D (nI n)) D (-1) 8
theorem zFr_sc {A : ZA} {k : Nat} {v : Int32} (h : zFr A) : zFr (zsc A k v) := h
theorem ct_X3_makeDirectory_bad {G : ZG} {M : ZM} {x : Nat} {q : Nat → Nat} {w : Int32} {A : ZA} (hR : zR M x q w A) (hW : zWf A) {c d n : Int32} {k : Nat} (h : zBad A c d n k) : zMet G mX3_makeDirectory [.ref (x), .int (c), .int (d), .int (n)] M (zRP x q M (some (.int (nI 0))) (nI k) A) := by
  refine zbody zyX3_makeDirectory [some (.ref (x)), some (.int (c)), some (.int (d)), some (.int (n)), none] rfl (Nat.le_of_ble_eq_true rfl) (by intro v hv; simp only [List.mem_cons, List.not_mem_nil, or_false] at hv; rcases hv with rfl | rfl | rfl | rfl <;> rfl) (fun E K => ?_)
  have hk := zBad_k h
  have hS : zSm x q M M := zSm.rf
  refine zq_aload_n K dX3_makeDirectory_0 rfl rfl ?_
  refine zq_aload_n K dX3_makeDirectory_1 rfl rfl ?_
  refine zq_iload_n K dX3_makeDirectory_2 rfl rfl ?_
  refine zq_iload_n K dX3_makeDirectory_3 rfl rfl ?_
  refine zq_iload_n K dX3_makeDirectory_4 rfl rfl ?_
  refine zq_callV (As := [.int (c), .int (d), .int (n)]) K dX3_makeDirectory_5 zyX3_barsNew zm_X3_109 ziX3_barsNew zvX3_barsNew zclX3 rfl (by decide) rfl rfl (Nat.le_of_ble_eq_true rfl) (Nat.le_of_ble_eq_true rfl) hR.1 (ct_X3_barsNew_bad hR hW h) (zone_r ?_) zone_x (Nat.le_refl _)
  refine zm_pth K dX3_makeDirectory_8 zf_X3_55 hR hS (fun M hR hS => ?_)
  refine zq_aload_n K dX3_makeDirectory_11 rfl rfl ?_
  refine zq_aload_n K dX3_makeDirectory_12 rfl rfl ?_
  refine zm_th K dX3_makeDirectory_13 zf_X3_55 hR ?_
  refine zq_if_neN K (x := k) 32 dX3_makeDirectory_16 (by decide) (by omega) (fun h16 => ?_) (fun h16 => by omega)
  refine zq_aload_n K dX3_makeDirectory_32 rfl rfl ?_
  refine zm_th K dX3_makeDirectory_33 zf_X3_55 hR ?_
  refine zm_pth K dX3_makeDirectory_36 zf_X3_55 hR hS (fun M hR hS => ?_)
  refine zq_aload_n K dX3_makeDirectory_39 rfl rfl ?_
  refine zm_th K dX3_makeDirectory_40 zf_X3_55 hR ?_
  refine zq_if_leN K (x := k) 48 dX3_makeDirectory_43 (by decide) (by omega) (fun h43 => by omega) (fun h43 => ?_)
  refine zq_iconst K dX3_makeDirectory_46 (v := nI 0) (by decide) ?_
  exact zq_iret K dX3_makeDirectory_47 rfl ⟨rfl, hR, hS⟩
theorem ct_X3_makeDirectory_no {G : ZG} {M : ZM} {x : Nat} {q : Nat → Nat} {w : Int32} {A : ZA} (hR : zR M x q w A) (hW : zWf A) {c' d' n' : Nat} (hc : c' < 4) (hd : d' < 12) (hl : A.2 3 d' = 1) (hn : n' < 50) (h : zBz A d' n') : zMet G mX3_makeDirectory [.ref (x), .int (nI (c')), .int (nI (d')), .int (nI (n'))] M (zRP x q M (some (.int (nI 0))) (nI 3) A) := by
  refine zbody zyX3_makeDirectory [some (.ref (x)), some (.int (nI (c'))), some (.int (nI (d'))), some (.int (nI (n'))), none] rfl (Nat.le_of_ble_eq_true rfl) (by intro v hv; simp only [List.mem_cons, List.not_mem_nil, or_false] at hv; rcases hv with rfl | rfl | rfl | rfl <;> rfl) (fun E K => ?_)
  obtain ⟨⟨D, hB⟩, hF, hU⟩ := id hW
  have hg : zGd A (nI c') (nI d') (nI n') c' d' n' := ⟨rfl, hc, rfl, hd, hl, rfl, hn⟩
  have hS : zSm x q M M := zSm.rf
  refine zq_aload_n K dX3_makeDirectory_0 rfl rfl ?_
  refine zq_aload_n K dX3_makeDirectory_1 rfl rfl ?_
  refine zq_iload_n K dX3_makeDirectory_2 rfl rfl ?_
  refine zq_iload_n K dX3_makeDirectory_3 rfl rfl ?_
  refine zq_iload_n K dX3_makeDirectory_4 rfl rfl ?_
  refine zq_callV (As := [.int (nI (c')), .int (nI (d')), .int (nI (n'))]) K dX3_makeDirectory_5 zyX3_barsNew zm_X3_109 ziX3_barsNew zvX3_barsNew zclX3 rfl (by decide) rfl rfl (Nat.le_of_ble_eq_true rfl) (Nat.le_of_ble_eq_true rfl) hR.1 (ct_X3_barsNew_no hR hW hc hd hl hn h) (zone_r ?_) zone_x (Nat.le_refl _)
  refine zm_pth K dX3_makeDirectory_8 zf_X3_55 hR hS (fun M hR hS => ?_)
  refine zq_aload_n K dX3_makeDirectory_11 rfl rfl ?_
  refine zq_aload_n K dX3_makeDirectory_12 rfl rfl ?_
  refine zm_th K dX3_makeDirectory_13 zf_X3_55 hR ?_
  refine zq_if_neN K (x := 3) 32 dX3_makeDirectory_16 (by decide) (by omega) (fun h16 => ?_) (fun h16 => by omega)
  refine zq_aload_n K dX3_makeDirectory_32 rfl rfl ?_
  refine zm_th K dX3_makeDirectory_33 zf_X3_55 hR ?_
  refine zm_pth K dX3_makeDirectory_36 zf_X3_55 hR hS (fun M hR hS => ?_)
  refine zq_aload_n K dX3_makeDirectory_39 rfl rfl ?_
  refine zm_th K dX3_makeDirectory_40 zf_X3_55 hR ?_
  refine zq_if_leN K (x := 3) 48 dX3_makeDirectory_43 (by decide) (by omega) (fun h43 => by omega) (fun h43 => ?_)
  refine zq_iconst K dX3_makeDirectory_46 (v := nI 0) (by decide) ?_
  exact zq_iret K dX3_makeDirectory_47 rfl ⟨rfl, hR, hS⟩
theorem ct_X3_makeDirectory_full {G : ZG} {M : ZM} {x : Nat} {q : Nat → Nat} {w : Int32} {A : ZA} (hR : zR M x q w A) (hW : zWf A) {c' d' n' : Nat} (hc : c' < 4) (hd : d' < 12) (hl : A.2 3 d' = 1) (hn : n' < 50) (h : ¬ zBz A d' n') (h12 : A.1 2 = nI 12) : zMet G mX3_makeDirectory [.ref (x), .int (nI (c')), .int (nI (d')), .int (nI (n'))] M (zRP x q M (some (.int (nI 0))) (nI 3) A) := by
  refine zbody zyX3_makeDirectory [some (.ref (x)), some (.int (nI (c'))), some (.int (nI (d'))), some (.int (nI (n'))), none] rfl (Nat.le_of_ble_eq_true rfl) (by intro v hv; simp only [List.mem_cons, List.not_mem_nil, or_false] at hv; rcases hv with rfl | rfl | rfl | rfl <;> rfl) (fun E K => ?_)
  obtain ⟨⟨D, hB⟩, hF, hU⟩ := id hW
  have hg : zGd A (nI c') (nI d') (nI n') c' d' n' := ⟨rfl, hc, rfl, hd, hl, rfl, hn⟩
  have hS : zSm x q M M := zSm.rf
  refine zq_aload_n K dX3_makeDirectory_0 rfl rfl ?_
  refine zq_aload_n K dX3_makeDirectory_1 rfl rfl ?_
  refine zq_iload_n K dX3_makeDirectory_2 rfl rfl ?_
  refine zq_iload_n K dX3_makeDirectory_3 rfl rfl ?_
  refine zq_iload_n K dX3_makeDirectory_4 rfl rfl ?_
  refine zq_callV (As := [.int (nI (c')), .int (nI (d')), .int (nI (n'))]) K dX3_makeDirectory_5 zyX3_barsNew zm_X3_109 ziX3_barsNew zvX3_barsNew zclX3 rfl (by decide) rfl rfl (Nat.le_of_ble_eq_true rfl) (Nat.le_of_ble_eq_true rfl) hR.1 (ct_X3_barsNew_ok hR hW hc hd hl hn h) (zone_r ?_) zone_x (Nat.le_refl _)
  refine zm_pth K dX3_makeDirectory_8 zf_X3_55 hR hS (fun M hR hS => ?_)
  refine zq_aload_n K dX3_makeDirectory_11 rfl rfl ?_
  refine zq_aload_n K dX3_makeDirectory_12 rfl rfl ?_
  refine zm_th K dX3_makeDirectory_13 zf_X3_55 hR ?_
  refine zq_if_neN K (x := 0) 32 dX3_makeDirectory_16 (by decide) (by omega) (fun h16 => by omega) (fun h16 => ?_)
  refine zq_aload_n K dX3_makeDirectory_19 rfl rfl ?_
  refine zm_sc K dX3_makeDirectory_20 zf_X3_7 (k := 2) (by decide) hR ?_
  refine zq_top (v := nI (12)) h12 ?_
  refine zq_bipush K dX3_makeDirectory_23 (v := nI 12) (by decide) ?_
  refine zq_icmp_neN K (x := 12) (y := 12) 32 dX3_makeDirectory_25 (by decide) ⟨by omega, by omega⟩ (fun h25 => by omega) (fun h25 => ?_)
  refine zq_iconst K dX3_makeDirectory_28 (v := nI 3) (by decide) ?_
  refine zq_goto K 36 dX3_makeDirectory_29 (by decide) ?_
  refine zm_pth K dX3_makeDirectory_36 zf_X3_55 hR hS (fun M hR hS => ?_)
  refine zq_aload_n K dX3_makeDirectory_39 rfl rfl ?_
  refine zm_th K dX3_makeDirectory_40 zf_X3_55 hR ?_
  refine zq_if_leN K (x := 3) 48 dX3_makeDirectory_43 (by decide) (by omega) (fun h43 => by omega) (fun h43 => ?_)
  refine zq_iconst K dX3_makeDirectory_46 (v := nI 0) (by decide) ?_
  exact zq_iret K dX3_makeDirectory_47 rfl ⟨rfl, hR, hS⟩
theorem ct_X3_makeDirectory_ok {G : ZG} {M : ZM} {x : Nat} {q : Nat → Nat} {w : Int32} {A : ZA} (hR : zR M x q w A) (hW : zWf A) {c' d' n' D : Nat} (hc : c' < 4) (hd : d' < 12) (hl : A.2 3 d' = 1) (hn : n' < 50) (h : ¬ zBz A d' n') (hD : A.1 2 = nI D) (hD12 : D < 12) : zMet G mX3_makeDirectory [.ref (x), .int (nI (c')), .int (nI (d')), .int (nI (n'))] M (zRP x q M (some (.int (nI D))) (nI 0) (zMk A c' d' n' D)) := by
  refine zbody zyX3_makeDirectory [some (.ref (x)), some (.int (nI (c'))), some (.int (nI (d'))), some (.int (nI (n'))), none] rfl (Nat.le_of_ble_eq_true rfl) (by intro v hv; simp only [List.mem_cons, List.not_mem_nil, or_false] at hv; rcases hv with rfl | rfl | rfl | rfl <;> rfl) (fun E K => ?_)
  obtain ⟨hB, hF, hU⟩ := id hW
  have hS : zSm x q M M := zSm.rf
  refine zq_aload_n K dX3_makeDirectory_0 rfl rfl ?_
  refine zq_aload_n K dX3_makeDirectory_1 rfl rfl ?_
  refine zq_iload_n K dX3_makeDirectory_2 rfl rfl ?_
  refine zq_iload_n K dX3_makeDirectory_3 rfl rfl ?_
  refine zq_iload_n K dX3_makeDirectory_4 rfl rfl ?_
  refine zq_callV (As := [.int (nI (c')), .int (nI (d')), .int (nI (n'))]) K dX3_makeDirectory_5 zyX3_barsNew zm_X3_109 ziX3_barsNew zvX3_barsNew zclX3 rfl (by decide) rfl rfl (Nat.le_of_ble_eq_true rfl) (Nat.le_of_ble_eq_true rfl) hR.1 (ct_X3_barsNew_ok hR hW hc hd hl hn h) (zone_r ?_) zone_x (Nat.le_refl _)
  refine zm_pth K dX3_makeDirectory_8 zf_X3_55 hR hS (fun M hR hS => ?_)
  refine zq_aload_n K dX3_makeDirectory_11 rfl rfl ?_
  refine zq_aload_n K dX3_makeDirectory_12 rfl rfl ?_
  refine zm_th K dX3_makeDirectory_13 zf_X3_55 hR ?_
  refine zq_if_neN K (x := 0) 32 dX3_makeDirectory_16 (by decide) (by omega) (fun h16 => by omega) (fun h16 => ?_)
  refine zq_aload_n K dX3_makeDirectory_19 rfl rfl ?_
  refine zm_sc K dX3_makeDirectory_20 zf_X3_7 (k := 2) (by decide) hR ?_
  refine zq_top (v := nI (D)) hD ?_
  refine zq_bipush K dX3_makeDirectory_23 (v := nI 12) (by decide) ?_
  refine zq_icmp_neN K (x := D) (y := 12) 32 dX3_makeDirectory_25 (by decide) ⟨by omega, by omega⟩ (fun h25 => ?_) (fun h25 => by omega)
  refine zq_aload_n K dX3_makeDirectory_32 rfl rfl ?_
  refine zm_th K dX3_makeDirectory_33 zf_X3_55 hR ?_
  refine zm_pth K dX3_makeDirectory_36 zf_X3_55 hR hS (fun M hR hS => ?_)
  refine zq_aload_n K dX3_makeDirectory_39 rfl rfl ?_
  refine zm_th K dX3_makeDirectory_40 zf_X3_55 hR ?_
  refine zq_if_leN K (x := 0) 48 dX3_makeDirectory_43 (by decide) (by omega) (fun h43 => ?_) (fun h43 => by omega)
  refine zq_aload_n K dX3_makeDirectory_48 rfl rfl ?_
  refine zm_sc K dX3_makeDirectory_49 zf_X3_7 (k := 2) (by decide) hR ?_
  refine zq_top (v := nI (D)) hD ?_
  refine zq_istore K dX3_makeDirectory_52 (by decide) ?_
  refine zq_aload_n K dX3_makeDirectory_54 rfl rfl ?_
  refine zq_dup K dX3_makeDirectory_55 rfl ?_
  refine zm_sc K dX3_makeDirectory_56 zf_X3_7 (k := 2) (by decide) hR ?_
  refine zq_top (v := nI (D)) hD ?_
  refine zq_iconst K dX3_makeDirectory_59 (v := nI 1) (by decide) ?_
  refine zq_iaddN K (x := D) (y := 1) dX3_makeDirectory_60 ?_
  refine zm_psc K dX3_makeDirectory_61 zf_X3_7 (k := 2) (by decide) hR hS (fun M hR hS => ?_)
  refine zq_aload_n K dX3_makeDirectory_64 rfl rfl ?_
  refine zq_iload_n K dX3_makeDirectory_65 rfl rfl ?_
  refine zq_iload_n K dX3_makeDirectory_66 rfl rfl ?_
  refine zq_iload_n K dX3_makeDirectory_67 rfl rfl ?_
  refine zq_callV (As := [.int (nI (c')), .int (nI (d')), .int (nI (n'))]) K dX3_makeDirectory_68 zyX3_changes zm_X3_112 ziX3_changes zvX3_changes zclX3 rfl (by decide) rfl rfl (Nat.le_of_ble_eq_true rfl) (Nat.le_of_ble_eq_true rfl) hR.1 (ct_X3_changes hR (nI c') hd hn (hF.1 d' hd hl)) (zRP_r hS (fun M hR hS => ?_)) zRP_x (Nat.le_refl _)
  refine zq_aload_n K dX3_makeDirectory_71 rfl rfl ?_
  refine zm_ar K dX3_makeDirectory_72 zf_X3_24 (k := 6) (by decide) hR ?_
  refine zq_iload_n K dX3_makeDirectory_75 rfl rfl ?_
  refine zq_iload_n K dX3_makeDirectory_76 rfl rfl ?_
  refine zq_callS (As := [.int (nI (d')), .int (nI (n'))]) K dX3_makeDirectory_77 zyX3_at zm_X3_87 zsX3_at rfl (by decide) rfl rfl (Nat.le_of_ble_eq_true rfl) (Nat.le_of_ble_eq_true rfl) (ct_X3_at d' n' _) (zone_r ?_) zone_x (Nat.le_refl _)
  refine zq_bipush K dX3_makeDirectory_80 (v := -2) (by decide) ?_
  refine zq_iload K dX3_makeDirectory_82 rfl ?_
  refine zq_isub K dX3_makeDirectory_84 ?_
  refine zm_st K (50 * d' + n') dX3_makeDirectory_85 (k := 6) (by decide) hR hS rfl (show 50 * d' + n' < 600 by omega) (fun M hR hS => ?_)
  refine zq_aload_n K dX3_makeDirectory_86 rfl rfl ?_
  refine zm_ar K dX3_makeDirectory_87 zf_X3_17 (k := 4) (by decide) hR ?_
  refine zq_iload K dX3_makeDirectory_90 rfl ?_
  refine zq_iload_n K dX3_makeDirectory_92 rfl rfl ?_
  refine zm_st K (D) dX3_makeDirectory_93 (k := 4) (by decide) hR hS rfl (show D < 12 by omega) (fun M hR hS => ?_)
  refine zq_aload_n K dX3_makeDirectory_94 rfl rfl ?_
  refine zm_ar K dX3_makeDirectory_95 zf_X3_21 (k := 5) (by decide) hR ?_
  refine zq_iload K dX3_makeDirectory_98 rfl ?_
  refine zq_iload_n K dX3_makeDirectory_100 rfl rfl ?_
  refine zm_st K (D) dX3_makeDirectory_101 (k := 5) (by decide) hR hS rfl (show D < 12 by omega) (fun M hR hS => ?_)
  refine zq_aload_n K dX3_makeDirectory_102 rfl rfl ?_
  refine zq_iload K dX3_makeDirectory_103 rfl ?_
  refine zq_iconst K dX3_makeDirectory_105 (v := -1) (by decide) ?_
  refine zq_callV (As := [.int (nI (D)), .int (-1)]) K dX3_makeDirectory_106 zyX3_begins zm_X3_51 ziX3_begins zvX3_begins zclX3 rfl (by decide) rfl rfl (Nat.le_of_ble_eq_true rfl) (Nat.le_of_ble_eq_true rfl) hR.1 (ct_X3_begins hR hD12 (-1)) (zRP_r hS (fun M hR hS => ?_)) zRP_x (Nat.le_refl _)
  refine zq_iload K dX3_makeDirectory_109 rfl ?_
  exact zq_iret K dX3_makeDirectory_111 rfl ⟨rfl, hR, hS⟩
def zLn (A : ZA) (a : Nat) (f : Int32) : ZA := zsc (zsa (zsa A 6 a f) 7 a (A.1 8)) 8 (A.1 8 + nI 1)
theorem ct_X3_links {G : ZG} {M : ZM} {x : Nat} {q : Nat → Nat} {w : Int32} {A : ZA} (hR : zR M x q w A) {a : Nat} (ha : a < 600) (f : Int32) : zMet G mX3_links [.ref (x), .int (nI (a)), .int (f)] M (zRP x q M none w (zLn A a f)) := by
  refine zbody zyX3_links [some (.ref (x)), some (.int (nI (a))), some (.int (f))] rfl (Nat.le_of_ble_eq_true rfl) (by intro v hv; simp only [List.mem_cons, List.not_mem_nil, or_false] at hv; rcases hv with rfl | rfl | rfl <;> rfl) (fun E K => ?_)
  have hS : zSm x q M M := zSm.rf
  refine zq_aload_n K dX3_links_0 rfl rfl ?_
  refine zm_ar K dX3_links_1 zf_X3_24 (k := 6) (by decide) hR ?_
  refine zq_iload_n K dX3_links_4 rfl rfl ?_
  refine zq_iload_n K dX3_links_5 rfl rfl ?_
  refine zm_st K (a) dX3_links_6 (k := 6) (by decide) hR hS rfl (show a < 600 by omega) (fun M hR hS => ?_)
  refine zq_aload_n K dX3_links_7 rfl rfl ?_
  refine zm_ar K dX3_links_8 zf_X3_27 (k := 7) (by decide) hR ?_
  refine zq_iload_n K dX3_links_11 rfl rfl ?_
  refine zq_aload_n K dX3_links_12 rfl rfl ?_
  refine zm_sc K dX3_links_13 zf_X3_116 (k := 8) (by decide) hR ?_
  refine zq_top (v := A.1 8) rfl ?_
  refine zm_st K (a) dX3_links_16 (k := 7) (by decide) hR hS rfl (show a < 600 by omega) (fun M hR hS => ?_)
  refine zq_aload_n K dX3_links_17 rfl rfl ?_
  refine zq_dup K dX3_links_18 rfl ?_
  refine zm_sc K dX3_links_19 zf_X3_116 (k := 8) (by decide) hR ?_
  refine zq_top (v := A.1 8) rfl ?_
  refine zq_iconst K dX3_links_22 (v := nI 1) (by decide) ?_
  refine zq_iadd K dX3_links_23 ?_
  refine zm_psc K dX3_links_24 zf_X3_116 (k := 8) (by decide) hR hS (fun M hR hS => ?_)
  exact zq_ret K dX3_links_27 rfl ⟨rfl, hR, hS⟩
def zMf (A : ZA) (c d n F : Nat) : ZA := zsc (zLn (zCh A (nI c) d n) (50 * d + n) (nI F)) 9 (nI (F + 1))
theorem ct_X3_makeFile_bad {G : ZG} {M : ZM} {x : Nat} {q : Nat → Nat} {w : Int32} {A : ZA} (hR : zR M x q w A) (hW : zWf A) {c d n : Int32} {k : Nat} (h : zBad A c d n k) : zMet G mX3_makeFile [.ref (x), .int (c), .int (d), .int (n)] M (zRP x q M (some (.int (nI 0))) (nI k) A) := by
  refine zbody zyX3_makeFile [some (.ref (x)), some (.int (c)), some (.int (d)), some (.int (n))] rfl (Nat.le_of_ble_eq_true rfl) (by intro v hv; simp only [List.mem_cons, List.not_mem_nil, or_false] at hv; rcases hv with rfl | rfl | rfl | rfl <;> rfl) (fun E K => ?_)
  have hk := zBad_k h
  have hS : zSm x q M M := zSm.rf
  refine zq_aload_n K dX3_makeFile_0 rfl rfl ?_
  refine zq_aload_n K dX3_makeFile_1 rfl rfl ?_
  refine zq_iload_n K dX3_makeFile_2 rfl rfl ?_
  refine zq_iload_n K dX3_makeFile_3 rfl rfl ?_
  refine zq_iload_n K dX3_makeFile_4 rfl rfl ?_
  refine zq_callV (As := [.int (c), .int (d), .int (n)]) K dX3_makeFile_5 zyX3_barsNew zm_X3_109 ziX3_barsNew zvX3_barsNew zclX3 rfl (by decide) rfl rfl (Nat.le_of_ble_eq_true rfl) (Nat.le_of_ble_eq_true rfl) hR.1 (ct_X3_barsNew_bad hR hW h) (zone_r ?_) zone_x (Nat.le_refl _)
  refine zm_pth K dX3_makeFile_8 zf_X3_55 hR hS (fun M hR hS => ?_)
  refine zq_aload_n K dX3_makeFile_11 rfl rfl ?_
  refine zq_aload_n K dX3_makeFile_12 rfl rfl ?_
  refine zm_th K dX3_makeFile_13 zf_X3_55 hR ?_
  refine zq_if_neN K (x := k) 32 dX3_makeFile_16 (by decide) (by omega) (fun h16 => ?_) (fun h16 => by omega)
  refine zq_aload_n K dX3_makeFile_32 rfl rfl ?_
  refine zm_th K dX3_makeFile_33 zf_X3_55 hR ?_
  refine zm_pth K dX3_makeFile_36 zf_X3_55 hR hS (fun M hR hS => ?_)
  refine zq_aload_n K dX3_makeFile_39 rfl rfl ?_
  refine zm_th K dX3_makeFile_40 zf_X3_55 hR ?_
  refine zq_if_leN K (x := k) 48 dX3_makeFile_43 (by decide) (by omega) (fun h43 => by omega) (fun h43 => ?_)
  refine zq_iconst K dX3_makeFile_46 (v := nI 0) (by decide) ?_
  exact zq_iret K dX3_makeFile_47 rfl ⟨rfl, hR, hS⟩
theorem ct_X3_makeFile_no {G : ZG} {M : ZM} {x : Nat} {q : Nat → Nat} {w : Int32} {A : ZA} (hR : zR M x q w A) (hW : zWf A) {c' d' n' : Nat} (hc : c' < 4) (hd : d' < 12) (hl : A.2 3 d' = 1) (hn : n' < 50) (h : zBz A d' n') : zMet G mX3_makeFile [.ref (x), .int (nI (c')), .int (nI (d')), .int (nI (n'))] M (zRP x q M (some (.int (nI 0))) (nI 3) A) := by
  refine zbody zyX3_makeFile [some (.ref (x)), some (.int (nI (c'))), some (.int (nI (d'))), some (.int (nI (n')))] rfl (Nat.le_of_ble_eq_true rfl) (by intro v hv; simp only [List.mem_cons, List.not_mem_nil, or_false] at hv; rcases hv with rfl | rfl | rfl | rfl <;> rfl) (fun E K => ?_)
  obtain ⟨⟨D, hB⟩, hF, hU⟩ := id hW
  have hg : zGd A (nI c') (nI d') (nI n') c' d' n' := ⟨rfl, hc, rfl, hd, hl, rfl, hn⟩
  have hS : zSm x q M M := zSm.rf
  refine zq_aload_n K dX3_makeFile_0 rfl rfl ?_
  refine zq_aload_n K dX3_makeFile_1 rfl rfl ?_
  refine zq_iload_n K dX3_makeFile_2 rfl rfl ?_
  refine zq_iload_n K dX3_makeFile_3 rfl rfl ?_
  refine zq_iload_n K dX3_makeFile_4 rfl rfl ?_
  refine zq_callV (As := [.int (nI (c')), .int (nI (d')), .int (nI (n'))]) K dX3_makeFile_5 zyX3_barsNew zm_X3_109 ziX3_barsNew zvX3_barsNew zclX3 rfl (by decide) rfl rfl (Nat.le_of_ble_eq_true rfl) (Nat.le_of_ble_eq_true rfl) hR.1 (ct_X3_barsNew_no hR hW hc hd hl hn h) (zone_r ?_) zone_x (Nat.le_refl _)
  refine zm_pth K dX3_makeFile_8 zf_X3_55 hR hS (fun M hR hS => ?_)
  refine zq_aload_n K dX3_makeFile_11 rfl rfl ?_
  refine zq_aload_n K dX3_makeFile_12 rfl rfl ?_
  refine zm_th K dX3_makeFile_13 zf_X3_55 hR ?_
  refine zq_if_neN K (x := 3) 32 dX3_makeFile_16 (by decide) (by omega) (fun h16 => ?_) (fun h16 => by omega)
  refine zq_aload_n K dX3_makeFile_32 rfl rfl ?_
  refine zm_th K dX3_makeFile_33 zf_X3_55 hR ?_
  refine zm_pth K dX3_makeFile_36 zf_X3_55 hR hS (fun M hR hS => ?_)
  refine zq_aload_n K dX3_makeFile_39 rfl rfl ?_
  refine zm_th K dX3_makeFile_40 zf_X3_55 hR ?_
  refine zq_if_leN K (x := 3) 48 dX3_makeFile_43 (by decide) (by omega) (fun h43 => by omega) (fun h43 => ?_)
  refine zq_iconst K dX3_makeFile_46 (v := nI 0) (by decide) ?_
  exact zq_iret K dX3_makeFile_47 rfl ⟨rfl, hR, hS⟩
theorem ct_X3_makeFile_full {G : ZG} {M : ZM} {x : Nat} {q : Nat → Nat} {w : Int32} {A : ZA} (hR : zR M x q w A) (hW : zWf A) {c' d' n' : Nat} (hc : c' < 4) (hd : d' < 12) (hl : A.2 3 d' = 1) (hn : n' < 50) (h : ¬ zBz A d' n') (h30 : A.1 9 = nI 30) : zMet G mX3_makeFile [.ref (x), .int (nI (c')), .int (nI (d')), .int (nI (n'))] M (zRP x q M (some (.int (nI 0))) (nI 3) A) := by
  refine zbody zyX3_makeFile [some (.ref (x)), some (.int (nI (c'))), some (.int (nI (d'))), some (.int (nI (n')))] rfl (Nat.le_of_ble_eq_true rfl) (by intro v hv; simp only [List.mem_cons, List.not_mem_nil, or_false] at hv; rcases hv with rfl | rfl | rfl | rfl <;> rfl) (fun E K => ?_)
  obtain ⟨⟨D, hB⟩, hF, hU⟩ := id hW
  have hg : zGd A (nI c') (nI d') (nI n') c' d' n' := ⟨rfl, hc, rfl, hd, hl, rfl, hn⟩
  have hS : zSm x q M M := zSm.rf
  refine zq_aload_n K dX3_makeFile_0 rfl rfl ?_
  refine zq_aload_n K dX3_makeFile_1 rfl rfl ?_
  refine zq_iload_n K dX3_makeFile_2 rfl rfl ?_
  refine zq_iload_n K dX3_makeFile_3 rfl rfl ?_
  refine zq_iload_n K dX3_makeFile_4 rfl rfl ?_
  refine zq_callV (As := [.int (nI (c')), .int (nI (d')), .int (nI (n'))]) K dX3_makeFile_5 zyX3_barsNew zm_X3_109 ziX3_barsNew zvX3_barsNew zclX3 rfl (by decide) rfl rfl (Nat.le_of_ble_eq_true rfl) (Nat.le_of_ble_eq_true rfl) hR.1 (ct_X3_barsNew_ok hR hW hc hd hl hn h) (zone_r ?_) zone_x (Nat.le_refl _)
  refine zm_pth K dX3_makeFile_8 zf_X3_55 hR hS (fun M hR hS => ?_)
  refine zq_aload_n K dX3_makeFile_11 rfl rfl ?_
  refine zq_aload_n K dX3_makeFile_12 rfl rfl ?_
  refine zm_th K dX3_makeFile_13 zf_X3_55 hR ?_
  refine zq_if_neN K (x := 0) 32 dX3_makeFile_16 (by decide) (by omega) (fun h16 => by omega) (fun h16 => ?_)
  refine zq_aload_n K dX3_makeFile_19 rfl rfl ?_
  refine zm_sc K dX3_makeFile_20 zf_X3_119 (k := 9) (by decide) hR ?_
  refine zq_top (v := nI (30)) h30 ?_
  refine zq_bipush K dX3_makeFile_23 (v := nI 30) (by decide) ?_
  refine zq_icmp_neN K (x := 30) (y := 30) 32 dX3_makeFile_25 (by decide) ⟨by omega, by omega⟩ (fun h25 => by omega) (fun h25 => ?_)
  refine zq_iconst K dX3_makeFile_28 (v := nI 3) (by decide) ?_
  refine zq_goto K 36 dX3_makeFile_29 (by decide) ?_
  refine zm_pth K dX3_makeFile_36 zf_X3_55 hR hS (fun M hR hS => ?_)
  refine zq_aload_n K dX3_makeFile_39 rfl rfl ?_
  refine zm_th K dX3_makeFile_40 zf_X3_55 hR ?_
  refine zq_if_leN K (x := 3) 48 dX3_makeFile_43 (by decide) (by omega) (fun h43 => by omega) (fun h43 => ?_)
  refine zq_iconst K dX3_makeFile_46 (v := nI 0) (by decide) ?_
  exact zq_iret K dX3_makeFile_47 rfl ⟨rfl, hR, hS⟩
theorem zEn_1 (A : ZA) (a : Nat) (ex : Int32) : ∀ k, (zEn A a ex k).1 = A.1
  | 0 => rfl
  | k + 1 => zEn_1 A a ex k
theorem zCh_1 (A : ZA) (c : Int32) (d n : Nat) : (zCh A c d n).1 = A.1 := zEn_1 _ _ _ _
theorem ct_X3_makeFile_ok {G : ZG} {M : ZM} {x : Nat} {q : Nat → Nat} {w : Int32} {A : ZA} (hR : zR M x q w A) (hW : zWf A) {c' d' n' : Nat} (hc : c' < 4) (hd : d' < 12) (hl : A.2 3 d' = 1) (hn : n' < 50) {F : Nat} (h : ¬ zBz A d' n') (hf : A.1 9 = nI F) (hF30 : F < 30) : zMet G mX3_makeFile [.ref (x), .int (nI (c')), .int (nI (d')), .int (nI (n'))] M (zRP x q M (some (.int (nI F))) (nI 0) (zMf A c' d' n' F)) := by
  refine zbody zyX3_makeFile [some (.ref (x)), some (.int (nI (c'))), some (.int (nI (d'))), some (.int (nI (n')))] rfl (Nat.le_of_ble_eq_true rfl) (by intro v hv; simp only [List.mem_cons, List.not_mem_nil, or_false] at hv; rcases hv with rfl | rfl | rfl | rfl <;> rfl) (fun E K => ?_)
  obtain ⟨⟨D, hB⟩, hF, hU⟩ := id hW
  have hg : zGd A (nI c') (nI d') (nI n') c' d' n' := ⟨rfl, hc, rfl, hd, hl, rfl, hn⟩
  have hS : zSm x q M M := zSm.rf
  refine zq_aload_n K dX3_makeFile_0 rfl rfl ?_
  refine zq_aload_n K dX3_makeFile_1 rfl rfl ?_
  refine zq_iload_n K dX3_makeFile_2 rfl rfl ?_
  refine zq_iload_n K dX3_makeFile_3 rfl rfl ?_
  refine zq_iload_n K dX3_makeFile_4 rfl rfl ?_
  refine zq_callV (As := [.int (nI (c')), .int (nI (d')), .int (nI (n'))]) K dX3_makeFile_5 zyX3_barsNew zm_X3_109 ziX3_barsNew zvX3_barsNew zclX3 rfl (by decide) rfl rfl (Nat.le_of_ble_eq_true rfl) (Nat.le_of_ble_eq_true rfl) hR.1 (ct_X3_barsNew_ok hR hW hc hd hl hn h) (zone_r ?_) zone_x (Nat.le_refl _)
  refine zm_pth K dX3_makeFile_8 zf_X3_55 hR hS (fun M hR hS => ?_)
  refine zq_aload_n K dX3_makeFile_11 rfl rfl ?_
  refine zq_aload_n K dX3_makeFile_12 rfl rfl ?_
  refine zm_th K dX3_makeFile_13 zf_X3_55 hR ?_
  refine zq_if_neN K (x := 0) 32 dX3_makeFile_16 (by decide) (by omega) (fun h16 => by omega) (fun h16 => ?_)
  refine zq_aload_n K dX3_makeFile_19 rfl rfl ?_
  refine zm_sc K dX3_makeFile_20 zf_X3_119 (k := 9) (by decide) hR ?_
  refine zq_top (v := nI (F)) hf ?_
  refine zq_bipush K dX3_makeFile_23 (v := nI 30) (by decide) ?_
  refine zq_icmp_neN K (x := F) (y := 30) 32 dX3_makeFile_25 (by decide) ⟨by omega, by omega⟩ (fun h25 => ?_) (fun h25 => by omega)
  refine zq_aload_n K dX3_makeFile_32 rfl rfl ?_
  refine zm_th K dX3_makeFile_33 zf_X3_55 hR ?_
  refine zm_pth K dX3_makeFile_36 zf_X3_55 hR hS (fun M hR hS => ?_)
  refine zq_aload_n K dX3_makeFile_39 rfl rfl ?_
  refine zm_th K dX3_makeFile_40 zf_X3_55 hR ?_
  refine zq_if_leN K (x := 0) 48 dX3_makeFile_43 (by decide) (by omega) (fun h43 => ?_) (fun h43 => by omega)
  refine zq_aload_n K dX3_makeFile_48 rfl rfl ?_
  refine zq_iload_n K dX3_makeFile_49 rfl rfl ?_
  refine zq_iload_n K dX3_makeFile_50 rfl rfl ?_
  refine zq_iload_n K dX3_makeFile_51 rfl rfl ?_
  refine zq_callV (As := [.int (nI (c')), .int (nI (d')), .int (nI (n'))]) K dX3_makeFile_52 zyX3_changes zm_X3_112 ziX3_changes zvX3_changes zclX3 rfl (by decide) rfl rfl (Nat.le_of_ble_eq_true rfl) (Nat.le_of_ble_eq_true rfl) hR.1 (ct_X3_changes hR (nI c') hd hn (hF.1 d' hd hl)) (zRP_r hS (fun M hR hS => ?_)) zRP_x (Nat.le_refl _)
  refine zq_aload_n K dX3_makeFile_55 rfl rfl ?_
  refine zq_iload_n K dX3_makeFile_56 rfl rfl ?_
  refine zq_iload_n K dX3_makeFile_57 rfl rfl ?_
  refine zq_callS (As := [.int (nI (d')), .int (nI (n'))]) K dX3_makeFile_58 zyX3_at zm_X3_87 zsX3_at rfl (by decide) rfl rfl (Nat.le_of_ble_eq_true rfl) (Nat.le_of_ble_eq_true rfl) (ct_X3_at d' n' _) (zone_r ?_) zone_x (Nat.le_refl _)
  refine zq_aload_n K dX3_makeFile_61 rfl rfl ?_
  refine zm_sc K dX3_makeFile_62 zf_X3_119 (k := 9) (by decide) hR ?_
  refine zq_top (v := nI (F)) (by rw [zCh_1]; exact hf) ?_
  refine zq_callV (As := [.int (nI (50 * d' + n')), .int (nI (F))]) K dX3_makeFile_65 zyX3_links zm_X3_122 ziX3_links zvX3_links zclX3 rfl (by decide) rfl rfl (Nat.le_of_ble_eq_true rfl) (Nat.le_of_ble_eq_true rfl) hR.1 (ct_X3_links hR (a := 50 * d' + n') (by omega) (nI F)) (zRP_r hS (fun M hR hS => ?_)) zRP_x (Nat.le_refl _)
  refine zq_aload_n K dX3_makeFile_68 rfl rfl ?_
  refine zq_dup K dX3_makeFile_69 rfl ?_
  refine zm_sc K dX3_makeFile_70 zf_X3_119 (k := 9) (by decide) hR ?_
  refine zq_top (v := nI (F)) (show (zCh A (nI c') d' n').1 9 = nI F by rw [zCh_1]; exact hf) ?_
  refine zq_iconst K dX3_makeFile_73 (v := nI 1) (by decide) ?_
  refine zq_iaddN K (x := F) (y := 1) dX3_makeFile_74 ?_
  refine zm_psc K dX3_makeFile_75 zf_X3_119 (k := 9) (by decide) hR hS (fun M hR hS => ?_)
  refine zq_aload_n K dX3_makeFile_78 rfl rfl ?_
  refine zm_sc K dX3_makeFile_79 zf_X3_119 (k := 9) (by decide) hR ?_
  refine zq_top (v := nI (F + 1)) rfl ?_
  refine zq_iconst K dX3_makeFile_82 (v := nI 1) (by decide) ?_
  refine zq_isubN K (x := F + 1) (y := 1) dX3_makeFile_83 (by omega) ?_
  exact zq_iret K dX3_makeFile_84 rfl ⟨rfl, hR, hS⟩

/-! the law: one turn -/
abbrev mL_law : ZY := (yL_law, cL_law, 16, some .boolean, 9, 16000)
section ZLW
variable {A A2 : ZA} {T U V : Nat → Int32} {d n D F d2 n2 : Nat}
theorem zTm.t1 (h : zTm A T U V) (hd : d < 12) (hn : n < 5) {v : Int32} (e6 : ∀ j, A2.2 6 j = if j = 50 * d + n then v else A.2 6 j) : ∀ k, k < 60 → zup T (5 * d + n) v k = A2.2 6 (50 * (k / 5) + k % 5) := fun k hk => by
  rw [e6, zup_e]
  by_cases z : k = 5 * d + n
  · rw [if_pos z, if_pos (by omega)]
  · rw [if_neg z, if_neg (by omega)]
    exact h.1 k hk
theorem zTm.u1 (h : zTm A T U V) (hd : d < 12) (hn : n < 5) {v : Int32} (e7 : ∀ j, A2.2 7 j = if j = 50 * d + n then v else A.2 7 j) : ∀ k, k < 60 → zup U (5 * d + n) v k = A2.2 7 (50 * (k / 5) + k % 5) := fun k hk => by
  rw [e7, zup_e]
  by_cases z : k = 5 * d + n
  · rw [if_pos z, if_pos (by omega)]
  · rw [if_neg z, if_neg (by omega)]
    exact h.2.1 k hk
theorem zTm.mk (h : zTm A T U V) (hd : d < 12) (hn : n < 5) (e1 : ∀ k, A2.1 k = if k = 2 then nI (D + 1) else A.1 k) (e6 : ∀ j, A2.2 6 j = if j = 50 * d + n then -2 - nI D else A.2 6 j) (e7 : ∀ j, A2.2 7 j = A.2 7 j) : zTm A2 (zup T (5 * d + n) (-2 - nI D)) U (zup V 0 (nI (D + 1))) :=
  ⟨h.t1 hd hn e6, fun k hk => by rw [e7]; exact h.2.1 k hk, by rw [e1]; rfl, by rw [e1, zup_n (by decide)]; exact h.2.2.2.1, by rw [e1, zup_n (by decide)]; exact h.2.2.2.2⟩
theorem zTm.mf (h : zTm A T U V) (hd : d < 12) (hn : n < 5) (e1 : ∀ k, A2.1 k = if k = 9 then nI (F + 1) else if k = 8 then A.1 8 + nI 1 else A.1 k) (e6 : ∀ j, A2.2 6 j = if j = 50 * d + n then nI F else A.2 6 j) (e7 : ∀ j, A2.2 7 j = if j = 50 * d + n then A.1 8 else A.2 7 j) : zTm A2 (zup T (5 * d + n) (nI F)) (zup U (5 * d + n) (A.1 8)) (zup (zup V 1 (nI (F + 1))) 2 (A.1 8 + nI 1)) :=
  ⟨h.t1 hd hn e6, h.u1 hd hn e7, by rw [e1, zup_n (by decide), zup_n (by decide)]; exact h.2.2.1, by rw [e1, zup_n (by decide)]; rfl, by rw [e1]; rfl⟩
theorem zTm.lk (h : zTm A T U V) (hd : d < 12) (hn : n < 5) {f : Int32} (e1 : ∀ k, A2.1 k = if k = 8 then A.1 8 + nI 1 else A.1 k) (e6 : ∀ j, A2.2 6 j = if j = 50 * d + n then f else A.2 6 j) (e7 : ∀ j, A2.2 7 j = if j = 50 * d + n then A.1 8 else A.2 7 j) : zTm A2 (zup T (5 * d + n) f) (zup U (5 * d + n) (A.1 8)) (zup V 2 (A.1 8 + nI 1)) :=
  ⟨h.t1 hd hn e6, h.u1 hd hn e7, by rw [e1, zup_n (by decide)]; exact h.2.2.1, by rw [e1, zup_n (by decide)]; exact h.2.2.2.1, by rw [e1]; rfl⟩
theorem zTm.rm (h : zTm A T U V) (hd : d < 12) (hn : n < 5) (e1 : ∀ k, A2.1 k = A.1 k) (e6 : ∀ j, A2.2 6 j = if j = 50 * d + n then -1 else A.2 6 j) (e7 : ∀ j, A2.2 7 j = A.2 7 j) : zTm A2 (zup T (5 * d + n) (-1)) U V :=
  ⟨h.t1 hd hn e6, fun k hk => by rw [e7]; exact h.2.1 k hk, by rw [e1]; exact h.2.2.1, by rw [e1]; exact h.2.2.2.1, by rw [e1]; exact h.2.2.2.2⟩
theorem zTm.rn (h : zTm A T U V) (hd : d < 12) (hn : n < 5) (hd2 : d2 < 12) (hn2 : n2 < 5) (hne : ¬ (d = d2 ∧ n = n2)) (e1 : ∀ k, A2.1 k = A.1 k) (e6 : ∀ j, A2.2 6 j = if j = 50 * d2 + n2 then A.2 6 (50 * d + n) else if j = 50 * d + n then -1 else A.2 6 j) (e7 : ∀ j, A2.2 7 j = if j = 50 * d2 + n2 then A.2 7 (50 * d + n) else A.2 7 j) : zTm A2 (zup (zup T (5 * d2 + n2) (A.2 6 (50 * d + n))) (5 * d + n) (-1)) (zup U (5 * d2 + n2) (U (5 * d + n))) V := by
  refine ⟨fun k hk => ?_, h.u1 hd2 hn2 (fun j => ?_), by rw [e1]; exact h.2.2.1, by rw [e1]; exact h.2.2.2.1, by rw [e1]; exact h.2.2.2.2⟩
  · rw [e6, zup_e, zup_e]
    by_cases z : k = 5 * d + n
    · rw [if_pos z, if_neg (by omega), if_pos (by omega)]
    · rw [if_neg z]
      by_cases z2 : k = 5 * d2 + n2
      · rw [if_pos z2, if_pos (by omega)]
      · rw [if_neg z2, if_neg (by omega), if_neg (by omega)]
        exact h.1 k hk
  · rw [e7, h.2.1 (5 * d + n) (by omega), show 50 * ((5 * d + n) / 5) + (5 * d + n) % 5 = 50 * d + n by omega]
theorem zTm.ps (h : zTm A T U V) (e1 : ∀ k, ¬ k = 1 → A2.1 k = A.1 k) (e2 : A2.2 = A.2) : zTm A2 T U V := by
  refine ⟨by rw [e2]; exact h.1, by rw [e2]; exact h.2.1, by rw [e1 2 (by decide)]; exact h.2.2.1, by rw [e1 9 (by decide)]; exact h.2.2.2.1, by rw [e1 8 (by decide)]; exact h.2.2.2.2⟩
end ZLW
theorem zBe_r {c tr ag tt t : Nat} {T U V : Nat → Int32} {E : ZE} {G : ZG} {u : Nat} {Q : State → Prop} {pc n : Nat} {L : List (Option Value)} {S : List Value} (kk : ∀ (M' : ZM) (W : Nat → Nat → Nat) (B A : ZA), zSe M' W B c tr ag tt → zRo M' tr ag tt T U V → zIv A B (t + 5) → zTm A T U V → WW E G u Q M' n (pc + 3) L (.int (nI 1) :: S)) : ∀ (v' : Option Value) (M' : ZM), zBe c tr ag tt t T U V (.inl v') M' → WW E G u Q M' n (pc + 3) L (v'.toList ++ S) := by
  rintro v' M' ⟨e, W, B, A, h1, h2, h3, h4⟩
  cases e
  exact kk M' W B A h1 h2 h3 h4
theorem zBe_x {c tr ag tt t : Nat} {T U V : Nat → Int32} {E : ZE} {G : ZG} {u : Nat} {Q : State → Prop} {pc n : Nat} {L : List (Option Value)} : ∀ (En : String) (M' : ZM), zBe c tr ag tt t T U V (.inr En) M' → XX E G u Q M' n pc L En := by
  rintro En M' ⟨e, -⟩
  cases e
/-- before the turn u -/
def zLV (M : ZM) (c tr ag tt u : Nat) : Prop := ∃ (W : Nat → Nat → Nat) (B A : ZA) (T U V : Nat → Int32) (t : Nat), zSe M W B c tr ag tt ∧ zRo M tr ag tt T U V ∧ zIv A B t ∧ t ≤ 6 * u ∧ zTm A T U V
theorem th_629 {tb : List ExceptionTableEntry} {G : ZG} {E : ZE} {Q : State → Prop} (K : zOK mL_law tb G E) {c tr ag tt u wh cl d n : Nat} {v w : Int32} {M : ZM} {W : Nat → Nat → Nat} {B A : ZA} {t : Nat} {T U V : Nat → Int32} (hS : zSe M W B c tr ag tt) (hR : zRo M tr ag tt T U V) (hI : zIv A B t) (hT : zTm A T U V) (hu : t ≤ 6 * u + 1) (hu70 : u < 70) (hcl : cl < 4) {b : Nat} (hb : 200 ≤ b) {l14 l15 : Option Value} (kx : ∀ (M' : ZM) (b' : Nat) (l14 : Option Value), zLV M' c tr ag tt (u + 1) → b ≤ b' + 200 → WW E G (zyu mL_law) Q M' b' 678 [some (.ref (G.2.2.1 6)), some (.ref (c)), some (.ref (tr)), some (.ref (ag)), some (.ref (tt)), some (.int (nI (u))), some (.int (v)), some (.int (w)), some (.int (nI (wh))), some (.int (nI (cl))), some (.int (nI (d))), some (.int (nI (n))), some (.int (nI (5 * d + n))), some (.int (nI (1))), l14, l15] []) : WW E G (zyu mL_law) Q M b 629 [some (.ref (G.2.2.1 6)), some (.ref (c)), some (.ref (tr)), some (.ref (ag)), some (.ref (tt)), some (.int (nI (u))), some (.int (v)), some (.int (w)), some (.int (nI (wh))), some (.int (nI (cl))), some (.int (nI (d))), some (.int (nI (n))), some (.int (nI (5 * d + n))), some (.int (nI (1))), l14, l15] [] := by
  obtain ⟨D, F, L9, hD, hD1, hD12, hF, hF30, -, -, hal⟩ := hI.n
  have hV0 : V 0 = nI D := by rw [hT.2.2.1]; exact hD
  have hV1 : V 1 = nI F := by rw [hT.2.2.2.1]; exact hF
  have hV2 : V 2 = A.1 8 := hT.2.2.2.2
  have hsh : zlw ((w) >>> ((nI (18)) &&& 31)) (D) < D := zlw_lt _ hD1
  refine zq_iload K dL_law_629 rfl ?_
  refine zq_bipush K dL_law_631 (v := nI 18) (by decide) ?_
  refine zq_ishr K dL_law_633 ?_
  refine zq_aload K dL_law_634 rfl ?_
  refine zq_iconst K dL_law_636 (v := nI 0) (by decide) ?_
  refine zl_ld K (0) dL_law_637 hR.2.2 rfl (by decide) (by decide) ?_
  refine zq_top (v := nI (D)) hV0 ?_
  refine zq_callS (As := [.int ((w) >>> ((nI (18)) &&& 31)), .int (nI (D))]) K dL_law_638 zyL_low zm_L_41 zsL_low rfl (by decide) rfl rfl (Nat.le_of_ble_eq_true rfl) (Nat.zero_le _) (ct_L_low M _ ⟨by omega, by omega⟩) (zone_r ?_) zone_x (Nat.le_refl _)
  refine zq_istore K dL_law_641 (by decide) ?_
  refine zq_iload K dL_law_643 rfl ?_
  refine zq_if_eqN K (x := 1) 676 dL_law_645 (by decide) (by omega) (fun h645 => by omega) (fun h645 => ?_)
  refine zq_aload_n K dL_law_648 rfl rfl ?_
  refine zq_aload_n K dL_law_649 rfl rfl ?_
  refine zq_aload_n K dL_law_650 rfl rfl ?_
  refine zq_aload K dL_law_651 rfl ?_
  refine zq_aload_n K dL_law_653 rfl rfl ?_
  refine zq_iload K dL_law_654 rfl ?_
  refine zq_callS (As := [.ref (tr), .int (nI (zlw ((w) >>> ((nI (18)) &&& 31)) (D)))]) K dL_law_656 zyL_isThere zm_L_44 zsL_isThere rfl (by decide) rfl rfl (Nat.le_of_ble_eq_true rfl) (Nat.zero_le _) (ct_L_isThere hR.1 (by omega)) (zdec_r (fun h656 => ?_) (fun h656 => ?_)) zdec_x (Nat.le_refl _)
  · refine zq_if_eqN K (x := 1) 667 dL_law_659 (by decide) (by omega) (fun h659 => by omega) (fun h659 => ?_)
    refine zq_iload K dL_law_662 rfl ?_
    refine zq_goto K 668 dL_law_664 (by decide) ?_
    refine zq_iload K dL_law_668 rfl ?_
    refine zq_callS (As := [.ref (c), .ref (tr), .ref (ag), .ref (tt), .int (nI (zlw ((w) >>> ((nI (18)) &&& 31)) (D))), .int (nI (cl))]) K dL_law_670 zyL_isAsBeside zm_L_72 zsL_isAsBeside rfl (by decide) rfl rfl (Nat.le_of_ble_eq_true rfl) (by show 200 ≤ b - 0 - 0; omega) (ct_L_isAsBeside hS hR hI hT (by omega) (by omega) ((hT.th hI (by omega)).mp h656) hcl) (zBe_r (fun M W B A hS hR hI hT => ?_)) zBe_x (Nat.le_refl _)
    refine zq_if_neN K (x := 1) 678 dL_law_673 (by decide) (by omega) (fun h673 => ?_) (fun h673 => by omega)
    exact kx M _ _ ⟨W, B, A, T, U, V, t + 5, hS, hR, hI, by omega, hT⟩ (by show b ≤ b - 0 - 0 - 200 + 200; omega)
  · refine zq_if_eqN K (x := 0) 667 dL_law_659 (by decide) (by omega) (fun h659 => ?_) (fun h659 => by omega)
    refine zq_iconst K dL_law_667 (v := nI 0) (by decide) ?_
    refine zq_iload K dL_law_668 rfl ?_
    refine zq_callS (As := [.ref (c), .ref (tr), .ref (ag), .ref (tt), .int (nI (0)), .int (nI (cl))]) K dL_law_670 zyL_isAsBeside zm_L_72 zsL_isAsBeside rfl (by decide) rfl rfl (Nat.le_of_ble_eq_true rfl) (by show 200 ≤ b - 0 - 0; omega) (ct_L_isAsBeside hS hR hI hT (by omega) (by decide) hI.2.2.2 hcl) (zBe_r (fun M W B A hS hR hI hT => ?_)) zBe_x (Nat.le_refl _)
    refine zq_if_neN K (x := 1) 678 dL_law_673 (by decide) (by omega) (fun h673 => ?_) (fun h673 => by omega)
    exact kx M _ _ ⟨W, B, A, T, U, V, t + 5, hS, hR, hI, by omega, hT⟩ (by show b ≤ b - 0 - 0 - 200 + 200; omega)
theorem th_608 {tb : List ExceptionTableEntry} {G : ZG} {E : ZE} {Q : State → Prop} (K : zOK mL_law tb G E) {c tr ag tt u wh cl d n : Nat} {v w : Int32} {M : ZM} {W : Nat → Nat → Nat} {B A : ZA} {t : Nat} {T U V : Nat → Int32} (hS : zSe M W B c tr ag tt) (hR : zRo M tr ag tt T U V) (hI : zIv A B t) (hT : zTm A T U V) (ht : t ≤ 500) (hwh : wh < 10) (hcl : cl < 4) (hd : d < 12) (hv : A.2 3 d = 1) (hn : n < 5) {b : Nat} (hb : 15 ≤ b) {l14 l15 : Option Value} (kk : ∀ (M' : ZM) (W' : Nat → Nat → Nat) (B' A' : ZA) (t' : Nat) (T' U' V' : Nat → Int32) (b' : Nat) (l14 l15 : Option Value), zSe M' W' B' c tr ag tt → zRo M' tr ag tt T' U' V' → zIv A' B' t' → zTm A' T' U' V' → t' ≤ t + 1 → b ≤ b' + 15 → WW E G (zyu mL_law) Q M' b' 629 [some (.ref (G.2.2.1 6)), some (.ref (c)), some (.ref (tr)), some (.ref (ag)), some (.ref (tt)), some (.int (nI (u))), some (.int (v)), some (.int (w)), some (.int (nI (wh))), some (.int (nI (cl))), some (.int (nI (d))), some (.int (nI (n))), some (.int (nI (5 * d + n))), some (.int (nI (1))), l14, l15] [])  : WW E G (zyu mL_law) Q M b 608 [some (.ref (G.2.2.1 6)), some (.ref (c)), some (.ref (tr)), some (.ref (ag)), some (.ref (tt)), some (.int (nI (u))), some (.int (v)), some (.int (w)), some (.int (nI (wh))), some (.int (nI (cl))), some (.int (nI (d))), some (.int (nI (n))), some (.int (nI (5 * d + n))), some (.int (nI (1))), l14, l15] [] := by
  obtain ⟨D, F, L9, hD, hD1, hD12, hF, hF30, -, -, hal⟩ := hI.n
  have hV0 : V 0 = nI D := by rw [hT.2.2.1]; exact hD
  have hV1 : V 1 = nI F := by rw [hT.2.2.2.1]; exact hF
  have hV2 : V 2 = A.1 8 := hT.2.2.2.2
  refine zq_iload K dL_law_608 rfl ?_
  refine zq_bipush K dL_law_610 (v := nI 8) (by decide) ?_
  refine zq_icmp_neN K (x := wh) (y := 8) 629 dL_law_612 (by decide) ⟨by omega, by omega⟩ (fun h612 => ?_) (fun h612 => ?_)
  · exact kk M W B A t T U V _ _ _ hS hR hI hT (by omega) (by omega)
  · refine zq_aload_n K dL_law_615 rfl rfl ?_
    refine zq_iconst K dL_law_616 (v := nI 1) (by decide) ?_
    refine zq_iload K dL_law_617 rfl ?_
    refine zq_bipush K dL_law_619 (v := nI 8) (by decide) ?_
    refine zq_callS (As := [.int (w), .int (nI (8))]) K dL_law_621 zyL_low zm_L_41 zsL_low rfl (by decide) rfl rfl (Nat.le_of_ble_eq_true rfl) (Nat.zero_le _) (ct_L_low M _ ⟨by omega, by omega⟩) (zone_r ?_) zone_x (Nat.le_refl _)
    refine zq_iaddN K (x := 1) (y := zlw (w) (8)) dL_law_624 ?_
    have hz8 := zlw_lt w (show 0 < 8 by decide)
    obtain ⟨A2, B2, hcall, hI2, e1, e2⟩ := pm_pass hI (by omega) (m := (1) + (zlw (w) (8))) (by omega) (by omega)
    refine zq_callV (As := [.int (nI ((1) + (zlw (w) (8))))]) K dL_law_625 zyX2_pass zm_L_69 ziX2_pass zvX2_pass zclX2 rfl (by decide) rfl rfl (Nat.le_of_ble_eq_true rfl) (by show 1 ≤ b - 0; omega) hS.o (zcw hS (hcall G M W hS.1)) (zK_r hS hR (fun M W hS hR => ?_)) zCW_x (Nat.le_refl _)
    refine zq_pop K dL_law_628 rfl ?_
    exact kk M W B2 A2 (t + 1) _ _ _ _ _ _ hS hR hI2 (hT.ps e1 e2) (Nat.le_refl _) (by show b ≤ b - 0 - 1 + 15; omega)
theorem th_521 {tb : List ExceptionTableEntry} {G : ZG} {E : ZE} {Q : State → Prop} (K : zOK mL_law tb G E) {c tr ag tt u wh cl d n : Nat} {v w : Int32} {M : ZM} {W : Nat → Nat → Nat} {B A : ZA} {t : Nat} {T U V : Nat → Int32} (hS : zSe M W B c tr ag tt) (hR : zRo M tr ag tt T U V) (hI : zIv A B t) (hT : zTm A T U V) (ht : t ≤ 500) (hwh : wh < 10) (hcl : cl < 4) (hd : d < 12) (hv : A.2 3 d = 1) (hn : n < 5) {b : Nat} (hb : 15 ≤ b) {l15 : Option Value} (kk : ∀ (M' : ZM) (W' : Nat → Nat → Nat) (B' A' : ZA) (t' : Nat) (T' U' V' : Nat → Int32) (b' : Nat) (l14 l15 : Option Value), zSe M' W' B' c tr ag tt → zRo M' tr ag tt T' U' V' → zIv A' B' t' → zTm A' T' U' V' → t' ≤ t + 1 → b ≤ b' + 15 → WW E G (zyu mL_law) Q M' b' 629 [some (.ref (G.2.2.1 6)), some (.ref (c)), some (.ref (tr)), some (.ref (ag)), some (.ref (tt)), some (.int (nI (u))), some (.int (v)), some (.int (w)), some (.int (nI (wh))), some (.int (nI (cl))), some (.int (nI (d))), some (.int (nI (n))), some (.int (nI (5 * d + n))), some (.int (nI (1))), l14, l15] []) {tg : Nat} (htg : tg < 12) (hvt : A.2 3 tg = 1) (hna : ¬ A.2 6 (50 * d + n) = -1) : WW E G (zyu mL_law) Q M b 521 [some (.ref (G.2.2.1 6)), some (.ref (c)), some (.ref (tr)), some (.ref (ag)), some (.ref (tt)), some (.int (nI (u))), some (.int (v)), some (.int (w)), some (.int (nI (wh))), some (.int (nI (cl))), some (.int (nI (d))), some (.int (nI (n))), some (.int (nI (5 * d + n))), some (.int (nI (1))), some (.int (nI (tg))), l15] [] := by
  obtain ⟨D, F, L9, hD, hD1, hD12, hF, hF30, -, -, hal⟩ := hI.n
  have hV0 : V 0 = nI D := by rw [hT.2.2.1]; exact hD
  have hV1 : V 1 = nI F := by rw [hT.2.2.2.1]; exact hF
  have hV2 : V 2 = A.1 8 := hT.2.2.2.2
  have hnm : zlw ((w) >>> ((nI (14)) &&& 31)) (5) < 5 := zlw_lt _ (by decide)
  refine zq_iconst K dL_law_521 (v := nI 5) (by decide) ?_
  refine zq_iload K dL_law_522 rfl ?_
  refine zq_imulN K (x := 5) (y := tg) dL_law_524 ?_
  refine zq_iload K dL_law_525 rfl ?_
  refine zq_bipush K dL_law_527 (v := nI 14) (by decide) ?_
  refine zq_ishr K dL_law_529 ?_
  refine zq_iconst K dL_law_530 (v := nI 5) (by decide) ?_
  refine zq_callS (As := [.int ((w) >>> ((nI (14)) &&& 31)), .int (nI (5))]) K dL_law_531 zyL_low zm_L_41 zsL_low rfl (by decide) rfl rfl (Nat.le_of_ble_eq_true rfl) (Nat.zero_le _) (ct_L_low M _ ⟨by omega, by omega⟩) (zone_r ?_) zone_x (Nat.le_refl _)
  refine zq_iaddN K (x := (5) * (tg)) (y := zlw ((w) >>> ((nI (14)) &&& 31)) (5)) dL_law_534 ?_
  refine zq_istore K dL_law_535 (by decide) ?_
  refine zq_aload_n K dL_law_537 rfl rfl ?_
  refine zq_iload K dL_law_538 rfl ?_
  refine zl_ld K (((5) * (tg)) + (zlw ((w) >>> ((nI (14)) &&& 31)) (5))) dL_law_540 hR.1 rfl (by omega) (by decide) ?_
  refine zq_top (v := A.2 6 (50 * tg + (zlw ((w) >>> ((nI (14)) &&& 31)) (5)))) (hT.at htg hnm) ?_
  refine zq_iconst K dL_law_541 (v := -1) (by decide) ?_
  refine zq_icmp_ne K 605 dL_law_542 (by decide) (fun h542 => ?_) (fun h542 => ?_)
  · refine zq_goto K 629 dL_law_605 (by decide) ?_
    exact kk M W B A t T U V _ _ _ hS hR hI hT (by omega) (by show b ≤ b - 0 + 15; omega)
  · have hne : ¬ (d = tg ∧ n = zlw ((w) >>> ((nI (14)) &&& 31)) (5)) := fun z => hna (by rw [z.1, z.2]; exact h542)
    refine zq_aload_n K dL_law_545 rfl rfl ?_
    refine zq_iload K dL_law_546 rfl ?_
    refine zl_ld K (5 * d + n) dL_law_548 hR.1 rfl (by omega) (by decide) ?_
    refine zq_top (v := A.2 6 (50 * d + n)) (hT.at hd hn) ?_
    refine zq_if_ge K 568 dL_law_549 (by decide) (fun h549 => ?_) (fun h549 => ?_)
    · rcases hI.sn hF hF30 hd (n := n) (by omega) with g | ⟨f, q1, q2⟩ | ⟨e, q1, q2, q3, q4, q5, q6⟩
      · exact absurd g hna
      rotate_left
      · exact absurd (Int32.le_trans (show (-1 : Int32) ≤ 0 by decide) (by rw [q4] at h549; exact h549)) (zdv e q1).1
      refine zq_aload_n K dL_law_568 rfl rfl ?_
      refine zq_iload K dL_law_569 rfl ?_
      refine zq_iload K dL_law_571 rfl ?_
      refine zq_iload K dL_law_573 rfl ?_
      refine zq_iload K dL_law_575 rfl ?_
      refine zq_iload K dL_law_577 rfl ?_
      refine zq_iconst K dL_law_579 (v := nI 5) (by decide) ?_
      refine zq_iremN K (x := ((5) * (tg)) + (zlw ((w) >>> ((nI (14)) &&& 31)) (5))) (y := 5) dL_law_580 ⟨by omega, by decide, by decide⟩ ?_
      refine zq_top (v := nI (zlw ((w) >>> ((nI (14)) &&& 31)) (5))) (congrArg nI (by omega)) ?_
      obtain ⟨A2, B2, hcall, hI2, e1, e6, e7⟩ := pm_renameFile hI (by omega) hcl hd hv hn htg hvt hnm hF hF30 q1 q2 h542
      refine zq_callV (As := [.int (nI (cl)), .int (nI (d)), .int (nI (n)), .int (nI (tg)), .int (nI (zlw ((w) >>> ((nI (14)) &&& 31)) (5)))]) K dL_law_581 zyX2_rename zm_L_65 ziX2_rename zvX2_rename zclX2 rfl (by decide) rfl rfl (Nat.le_of_ble_eq_true rfl) (by show 8 ≤ b - 0; omega) hS.o (zcw hS (hcall G M W hS.1)) (zK_r hS hR (fun M W hS hR => ?_)) zCW_x (Nat.le_refl _)
      refine zq_aload_n K dL_law_584 rfl rfl ?_
      refine zq_iload K dL_law_585 rfl ?_
      refine zq_aload_n K dL_law_587 rfl rfl ?_
      refine zq_iload K dL_law_588 rfl ?_
      refine zl_ld K (5 * d + n) dL_law_590 hR.1 rfl (by omega) (by decide) ?_
      refine zq_top (v := A.2 6 (50 * d + n)) (hT.at hd hn) ?_
      refine zst_t K (((5) * (tg)) + (zlw ((w) >>> ((nI (14)) &&& 31)) (5))) dL_law_591 hS hR rfl (by omega) (fun M hS hR => ?_)
      refine zq_aload_n K dL_law_592 rfl rfl ?_
      refine zq_iload K dL_law_593 rfl ?_
      refine zq_aload_n K dL_law_595 rfl rfl ?_
      refine zq_iload K dL_law_596 rfl ?_
      refine zl_ld K (5 * d + n) dL_law_598 hR.2.1 rfl (by omega) (by decide) ?_
      refine zst_a K (((5) * (tg)) + (zlw ((w) >>> ((nI (14)) &&& 31)) (5))) dL_law_599 hS hR rfl (by omega) (fun M hS hR => ?_)
      refine zq_aload_n K dL_law_600 rfl rfl ?_
      refine zq_iload K dL_law_601 rfl ?_
      refine zq_iconst K dL_law_603 (v := -1) (by decide) ?_
      refine zst_t K (5 * d + n) dL_law_604 hS hR rfl (by omega) (fun M hS hR => ?_)
      refine zq_goto K 629 dL_law_605 (by decide) ?_
      exact kk M W B2 A2 (t + 1) _ _ _ _ _ _ hS hR hI2 (hT.rn hd hn htg hnm hne e1 e6 e7) (Nat.le_refl _) (by show b ≤ b - 0 - 8 + 15; omega)
    · rcases hI.sn hF hF30 hd (n := n) (by omega) with g | ⟨f, q1, q2⟩ | ⟨e, q1, q2, q3, q4, q5, q6⟩
      · exact absurd g hna
      · exact absurd (by rw [q2]; exact nI_pos' (by omega)) h549
      refine zq_aload_n K dL_law_552 rfl rfl ?_
      refine zq_iload K dL_law_553 rfl ?_
      refine zq_bipush K dL_law_555 (v := -2) (by decide) ?_
      refine zq_aload_n K dL_law_557 rfl rfl ?_
      refine zq_iload K dL_law_558 rfl ?_
      refine zl_ld K (5 * d + n) dL_law_560 hR.1 rfl (by omega) (by decide) ?_
      refine zq_top (v := A.2 6 (50 * d + n)) (hT.at hd hn) ?_
      refine zq_isub K dL_law_561 ?_
      refine zq_top (v := nI (e)) (by rw [q4]; exact (zdv e q1).2.1) ?_
      refine zq_callS (As := [.ref (tr), .int (nI (tg)), .int (nI (e))]) K dL_law_562 zyL_isBelow zm_L_61 zsL_isBelow rfl (by decide) rfl rfl (Nat.le_of_ble_eq_true rfl) (Nat.zero_le _) (ct_L_isBelow hR.1 (fun y k1 k2 k3 => hT.ab hI k1 k2 k3) htg (hI.dp htg hvt) hvt q1) (zdec_r (fun h562 => ?_) (fun h562 => ?_)) zdec_x (Nat.le_refl _)
      · refine zq_if_neN K (x := 1) 605 dL_law_565 (by decide) (by omega) (fun h565 => ?_) (fun h565 => by omega)
        refine zq_goto K 629 dL_law_605 (by decide) ?_
        exact kk M W B A t T U V _ _ _ hS hR hI hT (by omega) (by show b ≤ b - 0 - 0 + 15; omega)
      · refine zq_if_neN K (x := 0) 605 dL_law_565 (by decide) (by omega) (fun h565 => by omega) (fun h565 => ?_)
        refine zq_aload_n K dL_law_568 rfl rfl ?_
        refine zq_iload K dL_law_569 rfl ?_
        refine zq_iload K dL_law_571 rfl ?_
        refine zq_iload K dL_law_573 rfl ?_
        refine zq_iload K dL_law_575 rfl ?_
        refine zq_iload K dL_law_577 rfl ?_
        refine zq_iconst K dL_law_579 (v := nI 5) (by decide) ?_
        refine zq_iremN K (x := ((5) * (tg)) + (zlw ((w) >>> ((nI (14)) &&& 31)) (5))) (y := 5) dL_law_580 ⟨by omega, by decide, by decide⟩ ?_
        refine zq_top (v := nI (zlw ((w) >>> ((nI (14)) &&& 31)) (5))) (congrArg nI (by omega)) ?_
        obtain ⟨A2, B2, hcall, hI2, e1, e6, e7⟩ := pm_renameDir hI (by omega) hcl hd hv hn htg hvt hnm q1 q2 q3 q4 q5 q6 h542 h562
        refine zq_callV (As := [.int (nI (cl)), .int (nI (d)), .int (nI (n)), .int (nI (tg)), .int (nI (zlw ((w) >>> ((nI (14)) &&& 31)) (5)))]) K dL_law_581 zyX2_rename zm_L_65 ziX2_rename zvX2_rename zclX2 rfl (by decide) rfl rfl (Nat.le_of_ble_eq_true rfl) (by show 8 ≤ b - 0 - 0; omega) hS.o (zcw hS (hcall G M W hS.1)) (zK_r hS hR (fun M W hS hR => ?_)) zCW_x (Nat.le_refl _)
        refine zq_aload_n K dL_law_584 rfl rfl ?_
        refine zq_iload K dL_law_585 rfl ?_
        refine zq_aload_n K dL_law_587 rfl rfl ?_
        refine zq_iload K dL_law_588 rfl ?_
        refine zl_ld K (5 * d + n) dL_law_590 hR.1 rfl (by omega) (by decide) ?_
        refine zq_top (v := A.2 6 (50 * d + n)) (hT.at hd hn) ?_
        refine zst_t K (((5) * (tg)) + (zlw ((w) >>> ((nI (14)) &&& 31)) (5))) dL_law_591 hS hR rfl (by omega) (fun M hS hR => ?_)
        refine zq_aload_n K dL_law_592 rfl rfl ?_
        refine zq_iload K dL_law_593 rfl ?_
        refine zq_aload_n K dL_law_595 rfl rfl ?_
        refine zq_iload K dL_law_596 rfl ?_
        refine zl_ld K (5 * d + n) dL_law_598 hR.2.1 rfl (by omega) (by decide) ?_
        refine zst_a K (((5) * (tg)) + (zlw ((w) >>> ((nI (14)) &&& 31)) (5))) dL_law_599 hS hR rfl (by omega) (fun M hS hR => ?_)
        refine zq_aload_n K dL_law_600 rfl rfl ?_
        refine zq_iload K dL_law_601 rfl ?_
        refine zq_iconst K dL_law_603 (v := -1) (by decide) ?_
        refine zst_t K (5 * d + n) dL_law_604 hS hR rfl (by omega) (fun M hS hR => ?_)
        refine zq_goto K 629 dL_law_605 (by decide) ?_
        exact kk M W B2 A2 (t + 1) _ _ _ _ _ _ hS hR hI2 (hT.rn hd hn htg hnm hne e1 e6 e7) (Nat.le_refl _) (by show b ≤ b - 0 - 0 - 8 + 15; omega)
theorem th_475 {tb : List ExceptionTableEntry} {G : ZG} {E : ZE} {Q : State → Prop} (K : zOK mL_law tb G E) {c tr ag tt u wh cl d n : Nat} {v w : Int32} {M : ZM} {W : Nat → Nat → Nat} {B A : ZA} {t : Nat} {T U V : Nat → Int32} (hS : zSe M W B c tr ag tt) (hR : zRo M tr ag tt T U V) (hI : zIv A B t) (hT : zTm A T U V) (ht : t ≤ 500) (hwh : wh < 10) (hcl : cl < 4) (hd : d < 12) (hv : A.2 3 d = 1) (hn : n < 5) {b : Nat} (hb : 15 ≤ b) {l14 l15 : Option Value} (kk : ∀ (M' : ZM) (W' : Nat → Nat → Nat) (B' A' : ZA) (t' : Nat) (T' U' V' : Nat → Int32) (b' : Nat) (l14 l15 : Option Value), zSe M' W' B' c tr ag tt → zRo M' tr ag tt T' U' V' → zIv A' B' t' → zTm A' T' U' V' → t' ≤ t + 1 → b ≤ b' + 15 → WW E G (zyu mL_law) Q M' b' 629 [some (.ref (G.2.2.1 6)), some (.ref (c)), some (.ref (tr)), some (.ref (ag)), some (.ref (tt)), some (.int (nI (u))), some (.int (v)), some (.int (w)), some (.int (nI (wh))), some (.int (nI (cl))), some (.int (nI (d))), some (.int (nI (n))), some (.int (nI (5 * d + n))), some (.int (nI (1))), l14, l15] [])  : WW E G (zyu mL_law) Q M b 475 [some (.ref (G.2.2.1 6)), some (.ref (c)), some (.ref (tr)), some (.ref (ag)), some (.ref (tt)), some (.int (nI (u))), some (.int (v)), some (.int (w)), some (.int (nI (wh))), some (.int (nI (cl))), some (.int (nI (d))), some (.int (nI (n))), some (.int (nI (5 * d + n))), some (.int (nI (1))), l14, l15] [] := by
  obtain ⟨D, F, L9, hD, hD1, hD12, hF, hF30, -, -, hal⟩ := hI.n
  have hV0 : V 0 = nI D := by rw [hT.2.2.1]; exact hD
  have hV1 : V 1 = nI F := by rw [hT.2.2.2.1]; exact hF
  have hV2 : V 2 = A.1 8 := hT.2.2.2.2
  refine zq_iload K dL_law_475 rfl ?_
  refine zq_bipush K dL_law_477 (v := nI 8) (by decide) ?_
  refine zq_icmp_geN K (x := wh) (y := 8) 608 dL_law_479 (by decide) ⟨by omega, by omega⟩ (fun h479 => ?_) (fun h479 => ?_)
  · exact th_608 K hS hR hI hT ht hwh hcl hd hv hn hb kk
  · refine zq_aload_n K dL_law_482 rfl rfl ?_
    refine zq_iload K dL_law_483 rfl ?_
    refine zl_ld K (5 * d + n) dL_law_485 hR.1 rfl (by omega) (by decide) ?_
    refine zq_top (v := A.2 6 (50 * d + n)) (hT.at hd hn) ?_
    refine zq_iconst K dL_law_486 (v := -1) (by decide) ?_
    refine zq_icmp_eq K 608 dL_law_487 (by decide) (fun h487 => ?_) (fun h487 => ?_)
    · exact th_608 K hS hR hI hT ht hwh hcl hd hv hn hb kk
    · refine zq_iload K dL_law_490 rfl ?_
      refine zq_bipush K dL_law_492 (v := nI 9) (by decide) ?_
      refine zq_ishr K dL_law_494 ?_
      refine zq_aload K dL_law_495 rfl ?_
      refine zq_iconst K dL_law_497 (v := nI 0) (by decide) ?_
      refine zl_ld K (0) dL_law_498 hR.2.2 rfl (by decide) (by decide) ?_
      refine zq_top (v := nI (D)) hV0 ?_
      refine zq_callS (As := [.int ((w) >>> ((nI (9)) &&& 31)), .int (nI (D))]) K dL_law_499 zyL_low zm_L_41 zsL_low rfl (by decide) rfl rfl (Nat.le_of_ble_eq_true rfl) (Nat.zero_le _) (ct_L_low M _ ⟨by omega, by omega⟩) (zone_r ?_) zone_x (Nat.le_refl _)
      refine zq_istore K dL_law_502 (by decide) ?_
      refine zq_aload_n K dL_law_504 rfl rfl ?_
      refine zq_iload K dL_law_505 rfl ?_
      have htg0 : zlw ((w) >>> ((nI (9)) &&& 31)) (D) < D := zlw_lt _ hD1
      refine zq_callS (As := [.ref (tr), .int (nI (zlw ((w) >>> ((nI (9)) &&& 31)) (D)))]) K dL_law_507 zyL_isThere zm_L_44 zsL_isThere rfl (by decide) rfl rfl (Nat.le_of_ble_eq_true rfl) (Nat.zero_le _) (ct_L_isThere hR.1 (by omega)) (zdec_r (fun h507 => ?_) (fun h507 => ?_)) zdec_x (Nat.le_refl _)
      · refine zq_if_eqN K (x := 1) 518 dL_law_510 (by decide) (by omega) (fun h510 => by omega) (fun h510 => ?_)
        refine zq_iload K dL_law_513 rfl ?_
        refine zq_goto K 519 dL_law_515 (by decide) ?_
        refine zq_istore K dL_law_519 (by decide) ?_
        exact th_521 K hS hR hI hT ht hwh hcl hd hv hn (by show 15 ≤ b - 0 - 0; omega) (fun M' W' B' A' t' T' U' V' b' l14 l15 h1 h2 h3 h4 h5 h6 => kk M' W' B' A' t' T' U' V' b' l14 l15 h1 h2 h3 h4 h5 (by have h7 : b - 0 - 0 ≤ b' + 15 := h6; omega)) (by omega) ((hT.th hI (by omega)).mp h507) h487
      · refine zq_if_eqN K (x := 0) 518 dL_law_510 (by decide) (by omega) (fun h510 => ?_) (fun h510 => by omega)
        refine zq_iconst K dL_law_518 (v := nI 0) (by decide) ?_
        refine zq_istore K dL_law_519 (by decide) ?_
        exact th_521 K hS hR hI hT ht hwh hcl hd hv hn (by show 15 ≤ b - 0 - 0; omega) (fun M' W' B' A' t' T' U' V' b' l14 l15 h1 h2 h3 h4 h5 h6 => kk M' W' B' A' t' T' U' V' b' l14 l15 h1 h2 h3 h4 h5 (by have h7 : b - 0 - 0 ≤ b' + 15 := h6; omega)) (by decide) hI.2.2.2 h487
theorem th_408 {tb : List ExceptionTableEntry} {G : ZG} {E : ZE} {Q : State → Prop} (K : zOK mL_law tb G E) {c tr ag tt u wh cl d n : Nat} {v w : Int32} {M : ZM} {W : Nat → Nat → Nat} {B A : ZA} {t : Nat} {T U V : Nat → Int32} (hS : zSe M W B c tr ag tt) (hR : zRo M tr ag tt T U V) (hI : zIv A B t) (hT : zTm A T U V) (ht : t ≤ 500) (hwh : wh < 10) (hcl : cl < 4) (hd : d < 12) (hv : A.2 3 d = 1) (hn : n < 5) {b : Nat} (hb : 15 ≤ b) {l14 l15 : Option Value} (kk : ∀ (M' : ZM) (W' : Nat → Nat → Nat) (B' A' : ZA) (t' : Nat) (T' U' V' : Nat → Int32) (b' : Nat) (l14 l15 : Option Value), zSe M' W' B' c tr ag tt → zRo M' tr ag tt T' U' V' → zIv A' B' t' → zTm A' T' U' V' → t' ≤ t + 1 → b ≤ b' + 15 → WW E G (zyu mL_law) Q M' b' 629 [some (.ref (G.2.2.1 6)), some (.ref (c)), some (.ref (tr)), some (.ref (ag)), some (.ref (tt)), some (.int (nI (u))), some (.int (v)), some (.int (w)), some (.int (nI (wh))), some (.int (nI (cl))), some (.int (nI (d))), some (.int (nI (n))), some (.int (nI (5 * d + n))), some (.int (nI (1))), l14, l15] [])  : WW E G (zyu mL_law) Q M b 408 [some (.ref (G.2.2.1 6)), some (.ref (c)), some (.ref (tr)), some (.ref (ag)), some (.ref (tt)), some (.int (nI (u))), some (.int (v)), some (.int (w)), some (.int (nI (wh))), some (.int (nI (cl))), some (.int (nI (d))), some (.int (nI (n))), some (.int (nI (5 * d + n))), some (.int (nI (1))), l14, l15] [] := by
  obtain ⟨D, F, L9, hD, hD1, hD12, hF, hF30, -, -, hal⟩ := hI.n
  have hV0 : V 0 = nI D := by rw [hT.2.2.1]; exact hD
  have hV1 : V 1 = nI F := by rw [hT.2.2.2.1]; exact hF
  have hV2 : V 2 = A.1 8 := hT.2.2.2.2
  refine zq_iload K dL_law_408 rfl ?_
  refine zq_iconst K dL_law_410 (v := nI 5) (by decide) ?_
  refine zq_icmp_neN K (x := wh) (y := 5) 475 dL_law_411 (by decide) ⟨by omega, by omega⟩ (fun h411 => ?_) (fun h411 => ?_)
  · exact th_475 K hS hR hI hT ht hwh hcl hd hv hn hb kk
  · refine zq_aload_n K dL_law_414 rfl rfl ?_
    refine zq_iload K dL_law_415 rfl ?_
    refine zl_ld K (5 * d + n) dL_law_417 hR.1 rfl (by omega) (by decide) ?_
    refine zq_top (v := A.2 6 (50 * d + n)) (hT.at hd hn) ?_
    refine zq_iconst K dL_law_418 (v := -1) (by decide) ?_
    refine zq_icmp_eq K 475 dL_law_419 (by decide) (fun h419 => ?_) (fun h419 => ?_)
    · exact th_475 K hS hR hI hT ht hwh hcl hd hv hn hb kk
    · refine zq_aload_n K dL_law_422 rfl rfl ?_
      refine zq_iload K dL_law_423 rfl ?_
      refine zl_ld K (5 * d + n) dL_law_425 hR.1 rfl (by omega) (by decide) ?_
      refine zq_top (v := A.2 6 (50 * d + n)) (hT.at hd hn) ?_
      refine zq_if_ge K 443 dL_law_426 (by decide) (fun h426 => ?_) (fun h426 => ?_)
      · rcases hI.sn hF hF30 hd (n := n) (by omega) with g | ⟨f, q1, q2⟩ | ⟨e, q1, q2, q3, q4, q5, q6⟩
        · exact absurd g h419
        rotate_left
        · exact absurd (Int32.le_trans (show (-1 : Int32) ≤ 0 by decide) (by rw [q4] at h426; exact h426)) (zdv e q1).1
        refine zq_aload_n K dL_law_443 rfl rfl ?_
        refine zq_iload K dL_law_444 rfl ?_
        refine zq_iload K dL_law_446 rfl ?_
        refine zq_iload K dL_law_448 rfl ?_
        obtain ⟨A2, B2, hcall, hI2, e1, e6, e7⟩ := pm_removeFile hI (by omega) hcl hd hv hn (f := f) (by omega) q2
        refine zq_callV (As := [.int (nI (cl)), .int (nI (d)), .int (nI (n))]) K dL_law_450 zyX2_remove zm_L_58 ziX2_remove zvX2_remove zclX2 rfl (by decide) rfl rfl (Nat.le_of_ble_eq_true rfl) (by show 6 ≤ b; omega) hS.o (zcw hS (hcall G M W hS.1)) (zK_r hS hR (fun M W hS hR => ?_)) zCW_x (Nat.le_refl _)
        refine zq_aload_n K dL_law_453 rfl rfl ?_
        refine zq_iload K dL_law_454 rfl ?_
        refine zl_ld K (5 * d + n) dL_law_456 hR.1 rfl (by omega) (by decide) ?_
        refine zq_top (v := A.2 6 (50 * d + n)) (hT.at hd hn) ?_
        refine zq_icmp_ne K 464 dL_law_457 (by decide) (fun h457 => absurd rfl h457) (fun h457 => ?_)
        refine zq_iconst K dL_law_460 (v := nI 1) (by decide) ?_
        refine zq_goto K 465 dL_law_461 (by decide) ?_
        refine zq_istore K dL_law_465 (by decide) ?_
        refine zq_aload_n K dL_law_467 rfl rfl ?_
        refine zq_iload K dL_law_468 rfl ?_
        refine zq_iconst K dL_law_470 (v := -1) (by decide) ?_
        refine zst_t K (5 * d + n) dL_law_471 hS hR rfl (by omega) (fun M hS hR => ?_)
        refine zq_goto K 629 dL_law_472 (by decide) ?_
        exact kk M W B2 A2 (t + 1) _ _ _ _ _ _ hS hR hI2 (hT.rm hd hn e1 e6 e7) (Nat.le_refl _) (by show b ≤ b - 6 + 15; omega)
      · rcases hI.sn hF hF30 hd (n := n) (by omega) with g | ⟨f, q1, q2⟩ | ⟨e, q1, q2, q3, q4, q5, q6⟩
        · exact absurd g h419
        · exact absurd (by rw [q2]; exact nI_pos' (by omega)) h426
        refine zq_aload_n K dL_law_429 rfl rfl ?_
        refine zq_bipush K dL_law_430 (v := -2) (by decide) ?_
        refine zq_aload_n K dL_law_432 rfl rfl ?_
        refine zq_iload K dL_law_433 rfl ?_
        refine zl_ld K (5 * d + n) dL_law_435 hR.1 rfl (by omega) (by decide) ?_
        refine zq_top (v := A.2 6 (50 * d + n)) (hT.at hd hn) ?_
        refine zq_isub K dL_law_436 ?_
        refine zq_top (v := nI (e)) (by rw [q4]; exact (zdv e q1).2.1) ?_
        refine zq_callS (As := [.ref (tr), .int (nI (e))]) K dL_law_437 zyL_used zm_L_14 zsL_used rfl (by decide) rfl rfl (Nat.le_of_ble_eq_true rfl) (Nat.zero_le _) (ct_L_used hR.1 q1) (zone_r ?_) zone_x (Nat.le_refl _)
        have hz9 := zcN_le (zpq T e) 5
        refine zq_if_neN K (x := zcN (zpq T e) 5) 475 dL_law_440 (by decide) (by omega) (fun h440 => ?_) (fun h440 => ?_)
        · exact th_475 K hS hR hI hT ht hwh hcl hd hv hn (by show 15 ≤ b - 0; omega) (fun M' W' B' A' t' T' U' V' b' l14 l15 h1 h2 h3 h4 h5 h6 => kk M' W' B' A' t' T' U' V' b' l14 l15 h1 h2 h3 h4 h5 (by have h7 : b - 0 ≤ b' + 15 := h6; omega))
        · refine zq_aload_n K dL_law_443 rfl rfl ?_
          refine zq_iload K dL_law_444 rfl ?_
          refine zq_iload K dL_law_446 rfl ?_
          refine zq_iload K dL_law_448 rfl ?_
          obtain ⟨A2, B2, hcall, hI2, e1, e6, e7⟩ := pm_removeDir hI (by omega) hcl hd hv hn q1 q2 q3 q4 q5 q6 (by rw [hT.us hI q1]; exact h440)
          refine zq_callV (As := [.int (nI (cl)), .int (nI (d)), .int (nI (n))]) K dL_law_450 zyX2_remove zm_L_58 ziX2_remove zvX2_remove zclX2 rfl (by decide) rfl rfl (Nat.le_of_ble_eq_true rfl) (by show 6 ≤ b - 0; omega) hS.o (zcw hS (hcall G M W hS.1)) (zK_r hS hR (fun M W hS hR => ?_)) zCW_x (Nat.le_refl _)
          refine zq_aload_n K dL_law_453 rfl rfl ?_
          refine zq_iload K dL_law_454 rfl ?_
          refine zl_ld K (5 * d + n) dL_law_456 hR.1 rfl (by omega) (by decide) ?_
          refine zq_top (v := A.2 6 (50 * d + n)) (hT.at hd hn) ?_
          refine zq_icmp_ne K 464 dL_law_457 (by decide) (fun h457 => absurd rfl h457) (fun h457 => ?_)
          refine zq_iconst K dL_law_460 (v := nI 1) (by decide) ?_
          refine zq_goto K 465 dL_law_461 (by decide) ?_
          refine zq_istore K dL_law_465 (by decide) ?_
          refine zq_aload_n K dL_law_467 rfl rfl ?_
          refine zq_iload K dL_law_468 rfl ?_
          refine zq_iconst K dL_law_470 (v := -1) (by decide) ?_
          refine zst_t K (5 * d + n) dL_law_471 hS hR rfl (by omega) (fun M hS hR => ?_)
          refine zq_goto K 629 dL_law_472 (by decide) ?_
          exact kk M W B2 A2 (t + 1) _ _ _ _ _ _ hS hR hI2 (hT.rm hd hn e1 e6 e7) (Nat.le_refl _) (by show b ≤ b - 0 - 6 + 15; omega)
theorem th_301 {tb : List ExceptionTableEntry} {G : ZG} {E : ZE} {Q : State → Prop} (K : zOK mL_law tb G E) {c tr ag tt u wh cl d n : Nat} {v w : Int32} {M : ZM} {W : Nat → Nat → Nat} {B A : ZA} {t : Nat} {T U V : Nat → Int32} (hS : zSe M W B c tr ag tt) (hR : zRo M tr ag tt T U V) (hI : zIv A B t) (hT : zTm A T U V) (ht : t ≤ 500) (hwh : wh < 10) (hcl : cl < 4) (hd : d < 12) (hv : A.2 3 d = 1) (hn : n < 5) {b : Nat} (hb : 15 ≤ b) {l14 l15 : Option Value} (kk : ∀ (M' : ZM) (W' : Nat → Nat → Nat) (B' A' : ZA) (t' : Nat) (T' U' V' : Nat → Int32) (b' : Nat) (l14 l15 : Option Value), zSe M' W' B' c tr ag tt → zRo M' tr ag tt T' U' V' → zIv A' B' t' → zTm A' T' U' V' → t' ≤ t + 1 → b ≤ b' + 15 → WW E G (zyu mL_law) Q M' b' 629 [some (.ref (G.2.2.1 6)), some (.ref (c)), some (.ref (tr)), some (.ref (ag)), some (.ref (tt)), some (.int (nI (u))), some (.int (v)), some (.int (w)), some (.int (nI (wh))), some (.int (nI (cl))), some (.int (nI (d))), some (.int (nI (n))), some (.int (nI (5 * d + n))), some (.int (nI (1))), l14, l15] [])  : WW E G (zyu mL_law) Q M b 301 [some (.ref (G.2.2.1 6)), some (.ref (c)), some (.ref (tr)), some (.ref (ag)), some (.ref (tt)), some (.int (nI (u))), some (.int (v)), some (.int (w)), some (.int (nI (wh))), some (.int (nI (cl))), some (.int (nI (d))), some (.int (nI (n))), some (.int (nI (5 * d + n))), some (.int (nI (1))), l14, l15] [] := by
  obtain ⟨D, F, L9, hD, hD1, hD12, hF, hF30, -, -, hal⟩ := hI.n
  have hV0 : V 0 = nI D := by rw [hT.2.2.1]; exact hD
  have hV1 : V 1 = nI F := by rw [hT.2.2.2.1]; exact hF
  have hV2 : V 2 = A.1 8 := hT.2.2.2.2
  refine zq_iload K dL_law_301 rfl ?_
  refine zq_iconst K dL_law_303 (v := nI 4) (by decide) ?_
  refine zq_icmp_neN K (x := wh) (y := 4) 408 dL_law_304 (by decide) ⟨by omega, by omega⟩ (fun h304 => ?_) (fun h304 => ?_)
  · exact th_408 K hS hR hI hT ht hwh hcl hd hv hn hb kk
  · refine zq_aload K dL_law_307 rfl ?_
    refine zq_iconst K dL_law_309 (v := nI 1) (by decide) ?_
    refine zl_ld K (1) dL_law_310 hR.2.2 rfl (by decide) (by decide) ?_
    refine zq_top (v := nI (F)) hV1 ?_
    refine zq_if_leN K (x := F) 408 dL_law_311 (by decide) (by omega) (fun h311 => ?_) (fun h311 => ?_)
    · exact th_408 K hS hR hI hT ht hwh hcl hd hv hn hb kk
    · refine zq_aload_n K dL_law_314 rfl rfl ?_
      refine zq_iload K dL_law_315 rfl ?_
      refine zl_ld K (5 * d + n) dL_law_317 hR.1 rfl (by omega) (by decide) ?_
      refine zq_top (v := A.2 6 (50 * d + n)) (hT.at hd hn) ?_
      refine zq_iconst K dL_law_318 (v := -1) (by decide) ?_
      refine zq_icmp_ne K 408 dL_law_319 (by decide) (fun h319 => ?_) (fun h319 => ?_)
      · exact th_408 K hS hR hI hT ht hwh hcl hd hv hn hb kk
      · refine zq_aload_n K dL_law_322 rfl rfl ?_
        refine zq_iload K dL_law_323 rfl ?_
        refine zq_bipush K dL_law_325 (v := nI 9) (by decide) ?_
        refine zq_ishr K dL_law_327 ?_
        refine zq_aload K dL_law_328 rfl ?_
        refine zq_iconst K dL_law_330 (v := nI 1) (by decide) ?_
        refine zl_ld K (1) dL_law_331 hR.2.2 rfl (by decide) (by decide) ?_
        refine zq_top (v := nI (F)) hV1 ?_
        have hfl : zlw ((w) >>> ((nI (9)) &&& 31)) (F) < F := zlw_lt _ h311
        refine zq_callS (As := [.int ((w) >>> ((nI (9)) &&& 31)), .int (nI (F))]) K dL_law_332 zyL_low zm_L_41 zsL_low rfl (by decide) rfl rfl (Nat.le_of_ble_eq_true rfl) (Nat.zero_le _) (ct_L_low M _ ⟨by omega, by omega⟩) (zone_r ?_) zone_x (Nat.le_refl _)
        refine zq_callS (As := [.ref (tr), .int (nI (zlw ((w) >>> ((nI (9)) &&& 31)) (F)))]) K dL_law_335 zyL_count zm_L_31 zsL_count rfl (by decide) rfl rfl (Nat.le_of_ble_eq_true rfl) (Nat.zero_le _) (ct_L_count hR.1 (nI (zlw ((w) >>> ((nI (9)) &&& 31)) (F)))) (zone_r ?_) zone_x (Nat.le_refl _)
        have hz9 := zcN_le (zpc T (nI (zlw ((w) >>> ((nI (9)) &&& 31)) (F)))) 60
        refine zq_if_leN K (x := zcN (zpc T (nI (zlw ((w) >>> ((nI (9)) &&& 31)) (F)))) 60) 408 dL_law_338 (by decide) (by omega) (fun h338 => ?_) (fun h338 => ?_)
        · exact th_408 K hS hR hI hT ht hwh hcl hd hv hn (by show 15 ≤ b - 0 - 0; omega) (fun M' W' B' A' t' T' U' V' b' l14 l15 h1 h2 h3 h4 h5 h6 => kk M' W' B' A' t' T' U' V' b' l14 l15 h1 h2 h3 h4 h5 (by have h7 : b - 0 - 0 ≤ b' + 15 := h6; omega))
        · refine zq_iload K dL_law_341 rfl ?_
          refine zq_bipush K dL_law_343 (v := nI 9) (by decide) ?_
          refine zq_ishr K dL_law_345 ?_
          refine zq_aload K dL_law_346 rfl ?_
          refine zq_iconst K dL_law_348 (v := nI 1) (by decide) ?_
          refine zl_ld K (1) dL_law_349 hR.2.2 rfl (by decide) (by decide) ?_
          refine zq_top (v := nI (F)) hV1 ?_
          refine zq_callS (As := [.int ((w) >>> ((nI (9)) &&& 31)), .int (nI (F))]) K dL_law_350 zyL_low zm_L_41 zsL_low rfl (by decide) rfl rfl (Nat.le_of_ble_eq_true rfl) (Nat.zero_le _) (ct_L_low M _ ⟨by omega, by omega⟩) (zone_r ?_) zone_x (Nat.le_refl _)
          refine zq_istore K dL_law_353 (by decide) ?_
          refine zq_aload_n K dL_law_355 rfl rfl ?_
          refine zq_iload K dL_law_356 rfl ?_
          refine zq_iload K dL_law_358 rfl ?_
          refine zst_t K (5 * d + n) dL_law_360 hS hR rfl (by omega) (fun M hS hR => ?_)
          refine zq_aload_n K dL_law_361 rfl rfl ?_
          refine zq_iload K dL_law_362 rfl ?_
          refine zq_aload K dL_law_364 rfl ?_
          refine zq_iconst K dL_law_366 (v := nI 2) (by decide) ?_
          refine zl_ld K (2) dL_law_367 hR.2.2 rfl (by decide) (by decide) ?_
          refine zq_top (v := A.1 8) hV2 ?_
          refine zst_a K (5 * d + n) dL_law_368 hS hR rfl (by omega) (fun M hS hR => ?_)
          refine zq_aload K dL_law_369 rfl ?_
          refine zq_iconst K dL_law_371 (v := nI 2) (by decide) ?_
          refine zq_dup2 K dL_law_372 rfl rfl ?_
          refine zl_ld K (2) dL_law_373 hR.2.2 rfl (by decide) (by decide) ?_
          refine zq_top (v := A.1 8) hV2 ?_
          refine zq_iconst K dL_law_374 (v := nI 1) (by decide) ?_
          refine zq_iadd K dL_law_375 ?_
          refine zst_n K (2) dL_law_376 hS hR rfl (by decide) (fun M hS hR => ?_)
          refine zq_aload_n K dL_law_377 rfl rfl ?_
          refine zq_iload K dL_law_378 rfl ?_
          refine zq_iload K dL_law_380 rfl ?_
          refine zq_iload K dL_law_382 rfl ?_
          refine zq_iload K dL_law_384 rfl ?_
          obtain ⟨A2, B2, hcall, hI2, e1, e6, e7⟩ := pm_link hI (by omega) hcl hd hv hn hF hF30 hfl (by rw [hT.ct hI (by omega)]; exact h338) h319
          have hT2 := hT.lk hd hn e1 e6 e7
          refine zq_callV (As := [.int (nI (cl)), .int (nI (d)), .int (nI (n)), .int (nI (zlw ((w) >>> ((nI (9)) &&& 31)) (F)))]) K dL_law_386 zyX2_link zm_L_54 ziX2_link zvX2_link zclX2 rfl (by decide) rfl rfl (Nat.le_of_ble_eq_true rfl) (by show 6 ≤ b - 0 - 0 - 0; omega) hS.o (zcw hS (hcall G M W hS.1)) (zK_r hS hR (fun M W hS hR => ?_)) zCW_x (Nat.le_refl _)
          refine zq_top (v := nI (zcN (zpc (zup T (5 * d + n) (nI (zlw ((w) >>> ((nI (9)) &&& 31)) (F)))) (nI (zlw ((w) >>> ((nI (9)) &&& 31)) (F)))) 60)) (congrArg nI (hT2.ct hI2 (by omega))) ?_
          refine zq_aload_n K dL_law_389 rfl rfl ?_
          refine zq_iload K dL_law_390 rfl ?_
          refine zq_callS (As := [.ref (tr), .int (nI (zlw ((w) >>> ((nI (9)) &&& 31)) (F)))]) K dL_law_392 zyL_count zm_L_31 zsL_count rfl (by decide) rfl rfl (Nat.le_of_ble_eq_true rfl) (Nat.zero_le _) (ct_L_count hR.1 (nI (zlw ((w) >>> ((nI (9)) &&& 31)) (F)))) (zone_r ?_) zone_x (Nat.le_refl _)
          have hz8 := zcN_le (zpc (zup T (5 * d + n) (nI (zlw ((w) >>> ((nI (9)) &&& 31)) (F)))) (nI (zlw ((w) >>> ((nI (9)) &&& 31)) (F)))) 60
          refine zq_icmp_neN K (x := zcN (zpc (zup T (5 * d + n) (nI (zlw ((w) >>> ((nI (9)) &&& 31)) (F)))) (nI (zlw ((w) >>> ((nI (9)) &&& 31)) (F)))) 60) (y := zcN (zpc (zup T (5 * d + n) (nI (zlw ((w) >>> ((nI (9)) &&& 31)) (F)))) (nI (zlw ((w) >>> ((nI (9)) &&& 31)) (F)))) 60) 402 dL_law_395 (by decide) ⟨by omega, by omega⟩ (fun h395 => by omega) (fun h395 => ?_)
          refine zq_iconst K dL_law_398 (v := nI 1) (by decide) ?_
          refine zq_goto K 403 dL_law_399 (by decide) ?_
          refine zq_istore K dL_law_403 (by decide) ?_
          refine zq_goto K 629 dL_law_405 (by decide) ?_
          exact kk M W B2 A2 (t + 1) _ _ _ _ _ _ hS hR hI2 hT2 (Nat.le_refl _) (by show b ≤ b - 0 - 0 - 0 - 6 - 0 + 15; omega)
theorem th_219 {tb : List ExceptionTableEntry} {G : ZG} {E : ZE} {Q : State → Prop} (K : zOK mL_law tb G E) {c tr ag tt u wh cl d n : Nat} {v w : Int32} {M : ZM} {W : Nat → Nat → Nat} {B A : ZA} {t : Nat} {T U V : Nat → Int32} (hS : zSe M W B c tr ag tt) (hR : zRo M tr ag tt T U V) (hI : zIv A B t) (hT : zTm A T U V) (ht : t ≤ 500) (hwh : wh < 10) (hcl : cl < 4) (hd : d < 12) (hv : A.2 3 d = 1) (hn : n < 5) {b : Nat} (hb : 15 ≤ b) {l14 l15 : Option Value} (kk : ∀ (M' : ZM) (W' : Nat → Nat → Nat) (B' A' : ZA) (t' : Nat) (T' U' V' : Nat → Int32) (b' : Nat) (l14 l15 : Option Value), zSe M' W' B' c tr ag tt → zRo M' tr ag tt T' U' V' → zIv A' B' t' → zTm A' T' U' V' → t' ≤ t + 1 → b ≤ b' + 15 → WW E G (zyu mL_law) Q M' b' 629 [some (.ref (G.2.2.1 6)), some (.ref (c)), some (.ref (tr)), some (.ref (ag)), some (.ref (tt)), some (.int (nI (u))), some (.int (v)), some (.int (w)), some (.int (nI (wh))), some (.int (nI (cl))), some (.int (nI (d))), some (.int (nI (n))), some (.int (nI (5 * d + n))), some (.int (nI (1))), l14, l15] [])  : WW E G (zyu mL_law) Q M b 219 [some (.ref (G.2.2.1 6)), some (.ref (c)), some (.ref (tr)), some (.ref (ag)), some (.ref (tt)), some (.int (nI (u))), some (.int (v)), some (.int (w)), some (.int (nI (wh))), some (.int (nI (cl))), some (.int (nI (d))), some (.int (nI (n))), some (.int (nI (5 * d + n))), some (.int (nI (1))), l14, l15] [] := by
  obtain ⟨D, F, L9, hD, hD1, hD12, hF, hF30, -, -, hal⟩ := hI.n
  have hV0 : V 0 = nI D := by rw [hT.2.2.1]; exact hD
  have hV1 : V 1 = nI F := by rw [hT.2.2.2.1]; exact hF
  have hV2 : V 2 = A.1 8 := hT.2.2.2.2
  refine zq_iload K dL_law_219 rfl ?_
  refine zq_iconst K dL_law_221 (v := nI 4) (by decide) ?_
  refine zq_icmp_geN K (x := wh) (y := 4) 301 dL_law_222 (by decide) ⟨by omega, by omega⟩ (fun h222 => ?_) (fun h222 => ?_)
  · exact th_301 K hS hR hI hT ht hwh hcl hd hv hn hb kk
  · refine zq_aload K dL_law_225 rfl ?_
    refine zq_iconst K dL_law_227 (v := nI 1) (by decide) ?_
    refine zl_ld K (1) dL_law_228 hR.2.2 rfl (by decide) (by decide) ?_
    refine zq_top (v := nI (F)) hV1 ?_
    refine zq_bipush K dL_law_229 (v := nI 30) (by decide) ?_
    refine zq_icmp_geN K (x := F) (y := 30) 301 dL_law_231 (by decide) ⟨by omega, by omega⟩ (fun h231 => ?_) (fun h231 => ?_)
    · exact th_301 K hS hR hI hT ht hwh hcl hd hv hn hb kk
    · refine zq_aload_n K dL_law_234 rfl rfl ?_
      refine zq_iload K dL_law_235 rfl ?_
      refine zl_ld K (5 * d + n) dL_law_237 hR.1 rfl (by omega) (by decide) ?_
      refine zq_top (v := A.2 6 (50 * d + n)) (hT.at hd hn) ?_
      refine zq_iconst K dL_law_238 (v := -1) (by decide) ?_
      refine zq_icmp_ne K 301 dL_law_239 (by decide) (fun h239 => ?_) (fun h239 => ?_)
      · exact th_301 K hS hR hI hT ht hwh hcl hd hv hn hb kk
      · refine zq_aload_n K dL_law_242 rfl rfl ?_
        refine zq_iload K dL_law_243 rfl ?_
        refine zq_iload K dL_law_245 rfl ?_
        refine zq_iload K dL_law_247 rfl ?_
        obtain ⟨A2, B2, hcall, hI2, e1, e6, e7⟩ := pm_makeFile hI (by omega) hcl hd hv hn hF h231 h239
        refine zq_callV (As := [.int (nI (cl)), .int (nI (d)), .int (nI (n))]) K dL_law_249 zyX2_makeFile zm_L_51 ziX2_makeFile zvX2_makeFile zclX2 rfl (by decide) rfl rfl (Nat.le_of_ble_eq_true rfl) (by show 5 ≤ b; omega) hS.o (zcw hS (hcall G M W hS.1)) (zK_r hS hR (fun M W hS hR => ?_)) zCW_x (Nat.le_refl _)
        refine zq_aload K dL_law_252 rfl ?_
        refine zq_iconst K dL_law_254 (v := nI 1) (by decide) ?_
        refine zl_ld K (1) dL_law_255 hR.2.2 rfl (by decide) (by decide) ?_
        refine zq_top (v := nI (F)) hV1 ?_
        refine zq_icmp_neN K (x := F) (y := F) 263 dL_law_256 (by decide) ⟨by omega, by omega⟩ (fun h256 => by omega) (fun h256 => ?_)
        refine zq_iconst K dL_law_259 (v := nI 1) (by decide) ?_
        refine zq_goto K 264 dL_law_260 (by decide) ?_
        refine zq_istore K dL_law_264 (by decide) ?_
        refine zq_aload_n K dL_law_266 rfl rfl ?_
        refine zq_iload K dL_law_267 rfl ?_
        refine zq_aload K dL_law_269 rfl ?_
        refine zq_iconst K dL_law_271 (v := nI 1) (by decide) ?_
        refine zl_ld K (1) dL_law_272 hR.2.2 rfl (by decide) (by decide) ?_
        refine zq_top (v := nI (F)) hV1 ?_
        refine zst_t K (5 * d + n) dL_law_273 hS hR rfl (by omega) (fun M hS hR => ?_)
        refine zq_aload_n K dL_law_274 rfl rfl ?_
        refine zq_iload K dL_law_275 rfl ?_
        refine zq_aload K dL_law_277 rfl ?_
        refine zq_iconst K dL_law_279 (v := nI 2) (by decide) ?_
        refine zl_ld K (2) dL_law_280 hR.2.2 rfl (by decide) (by decide) ?_
        refine zq_top (v := A.1 8) hV2 ?_
        refine zst_a K (5 * d + n) dL_law_281 hS hR rfl (by omega) (fun M hS hR => ?_)
        refine zq_aload K dL_law_282 rfl ?_
        refine zq_iconst K dL_law_284 (v := nI 1) (by decide) ?_
        refine zq_dup2 K dL_law_285 rfl rfl ?_
        refine zl_ld K (1) dL_law_286 hR.2.2 rfl (by decide) (by decide) ?_
        refine zq_top (v := nI (F)) hV1 ?_
        refine zq_iconst K dL_law_287 (v := nI 1) (by decide) ?_
        refine zq_iaddN K (x := F) (y := 1) dL_law_288 ?_
        refine zst_n K (1) dL_law_289 hS hR rfl (by decide) (fun M hS hR => ?_)
        refine zq_aload K dL_law_290 rfl ?_
        refine zq_iconst K dL_law_292 (v := nI 2) (by decide) ?_
        refine zq_dup2 K dL_law_293 rfl rfl ?_
        refine zl_ld K (2) dL_law_294 hR.2.2 rfl (by decide) (by decide) ?_
        refine zq_top (v := A.1 8) ((zup_n (by decide)).trans hV2) ?_
        refine zq_iconst K dL_law_295 (v := nI 1) (by decide) ?_
        refine zq_iadd K dL_law_296 ?_
        refine zst_n K (2) dL_law_297 hS hR rfl (by decide) (fun M hS hR => ?_)
        refine zq_goto K 629 dL_law_298 (by decide) ?_
        exact kk M W B2 A2 (t + 1) _ _ _ _ _ _ hS hR hI2 (hT.mf hd hn e1 e6 e7) (Nat.le_refl _) (by show b ≤ b - 5 + 15; omega)
theorem th_150 {tb : List ExceptionTableEntry} {G : ZG} {E : ZE} {Q : State → Prop} (K : zOK mL_law tb G E) {c tr ag tt u wh cl d n : Nat} {v w : Int32} {M : ZM} {W : Nat → Nat → Nat} {B A : ZA} {t : Nat} {T U V : Nat → Int32} (hS : zSe M W B c tr ag tt) (hR : zRo M tr ag tt T U V) (hI : zIv A B t) (hT : zTm A T U V) (ht : t ≤ 500) (hwh : wh < 10) (hcl : cl < 4) (hd : d < 12) (hv : A.2 3 d = 1) (hn : n < 5) {b : Nat} (hb : 15 ≤ b) {l14 l15 : Option Value} (kk : ∀ (M' : ZM) (W' : Nat → Nat → Nat) (B' A' : ZA) (t' : Nat) (T' U' V' : Nat → Int32) (b' : Nat) (l14 l15 : Option Value), zSe M' W' B' c tr ag tt → zRo M' tr ag tt T' U' V' → zIv A' B' t' → zTm A' T' U' V' → t' ≤ t + 1 → b ≤ b' + 15 → WW E G (zyu mL_law) Q M' b' 629 [some (.ref (G.2.2.1 6)), some (.ref (c)), some (.ref (tr)), some (.ref (ag)), some (.ref (tt)), some (.int (nI (u))), some (.int (v)), some (.int (w)), some (.int (nI (wh))), some (.int (nI (cl))), some (.int (nI (d))), some (.int (nI (n))), some (.int (nI (5 * d + n))), some (.int (nI (1))), l14, l15] [])  : WW E G (zyu mL_law) Q M b 150 [some (.ref (G.2.2.1 6)), some (.ref (c)), some (.ref (tr)), some (.ref (ag)), some (.ref (tt)), some (.int (nI (u))), some (.int (v)), some (.int (w)), some (.int (nI (wh))), some (.int (nI (cl))), some (.int (nI (d))), some (.int (nI (n))), some (.int (nI (5 * d + n))), some (.int (nI (1))), l14, l15] [] := by
  obtain ⟨D, F, L9, hD, hD1, hD12, hF, hF30, -, -, hal⟩ := hI.n
  have hV0 : V 0 = nI D := by rw [hT.2.2.1]; exact hD
  have hV1 : V 1 = nI F := by rw [hT.2.2.2.1]; exact hF
  have hV2 : V 2 = A.1 8 := hT.2.2.2.2
  refine zq_iload K dL_law_150 rfl ?_
  refine zq_iconst K dL_law_152 (v := nI 2) (by decide) ?_
  refine zq_icmp_geN K (x := wh) (y := 2) 219 dL_law_153 (by decide) ⟨by omega, by omega⟩ (fun h153 => ?_) (fun h153 => ?_)
  · exact th_219 K hS hR hI hT ht hwh hcl hd hv hn hb kk
  · refine zq_aload K dL_law_156 rfl ?_
    refine zq_iconst K dL_law_158 (v := nI 0) (by decide) ?_
    refine zl_ld K (0) dL_law_159 hR.2.2 rfl (by decide) (by decide) ?_
    refine zq_top (v := nI (D)) hV0 ?_
    refine zq_bipush K dL_law_160 (v := nI 12) (by decide) ?_
    refine zq_icmp_geN K (x := D) (y := 12) 219 dL_law_162 (by decide) ⟨by omega, by omega⟩ (fun h162 => ?_) (fun h162 => ?_)
    · exact th_219 K hS hR hI hT ht hwh hcl hd hv hn hb kk
    · refine zq_aload_n K dL_law_165 rfl rfl ?_
      refine zq_iload K dL_law_166 rfl ?_
      refine zl_ld K (5 * d + n) dL_law_168 hR.1 rfl (by omega) (by decide) ?_
      refine zq_top (v := A.2 6 (50 * d + n)) (hT.at hd hn) ?_
      refine zq_iconst K dL_law_169 (v := -1) (by decide) ?_
      refine zq_icmp_ne K 219 dL_law_170 (by decide) (fun h170 => ?_) (fun h170 => ?_)
      · exact th_219 K hS hR hI hT ht hwh hcl hd hv hn hb kk
      · refine zq_aload_n K dL_law_173 rfl rfl ?_
        refine zq_iload K dL_law_174 rfl ?_
        refine zq_iload K dL_law_176 rfl ?_
        refine zq_iload K dL_law_178 rfl ?_
        obtain ⟨A2, B2, hcall, hI2, e1, e6, e7⟩ := pm_makeDirectory hI (by omega) hcl hd hv hn hD h162 h170
        refine zq_callV (As := [.int (nI (cl)), .int (nI (d)), .int (nI (n))]) K dL_law_180 zyX2_makeDirectory zm_L_48 ziX2_makeDirectory zvX2_makeDirectory zclX2 rfl (by decide) rfl rfl (Nat.le_of_ble_eq_true rfl) (by show 15 ≤ b; omega) hS.o (zcw hS (hcall G M W hS.1)) (zK_r hS hR (fun M W hS hR => ?_)) zCW_x (Nat.le_refl _)
        refine zq_aload K dL_law_183 rfl ?_
        refine zq_iconst K dL_law_185 (v := nI 0) (by decide) ?_
        refine zl_ld K (0) dL_law_186 hR.2.2 rfl (by decide) (by decide) ?_
        refine zq_top (v := nI (D)) hV0 ?_
        refine zq_icmp_neN K (x := D) (y := D) 194 dL_law_187 (by decide) ⟨by omega, by omega⟩ (fun h187 => by omega) (fun h187 => ?_)
        refine zq_iconst K dL_law_190 (v := nI 1) (by decide) ?_
        refine zq_goto K 195 dL_law_191 (by decide) ?_
        refine zq_istore K dL_law_195 (by decide) ?_
        refine zq_aload_n K dL_law_197 rfl rfl ?_
        refine zq_iload K dL_law_198 rfl ?_
        refine zq_bipush K dL_law_200 (v := -2) (by decide) ?_
        refine zq_aload K dL_law_202 rfl ?_
        refine zq_iconst K dL_law_204 (v := nI 0) (by decide) ?_
        refine zl_ld K (0) dL_law_205 hR.2.2 rfl (by decide) (by decide) ?_
        refine zq_top (v := nI (D)) hV0 ?_
        refine zq_isub K dL_law_206 ?_
        refine zst_t K (5 * d + n) dL_law_207 hS hR rfl (by omega) (fun M hS hR => ?_)
        refine zq_aload K dL_law_208 rfl ?_
        refine zq_iconst K dL_law_210 (v := nI 0) (by decide) ?_
        refine zq_dup2 K dL_law_211 rfl rfl ?_
        refine zl_ld K (0) dL_law_212 hR.2.2 rfl (by decide) (by decide) ?_
        refine zq_top (v := nI (D)) hV0 ?_
        refine zq_iconst K dL_law_213 (v := nI 1) (by decide) ?_
        refine zq_iaddN K (x := D) (y := 1) dL_law_214 ?_
        refine zst_n K (0) dL_law_215 hS hR rfl (by decide) (fun M hS hR => ?_)
        refine zq_goto K 629 dL_law_216 (by decide) ?_
        exact kk M W B2 A2 (t + 1) _ _ _ _ _ _ hS hR hI2 (hT.mk hd hn e1 e6 e7) (Nat.le_refl _) (by show b ≤ b - 15 + 15; omega)
theorem th_128 {tb : List ExceptionTableEntry} {G : ZG} {E : ZE} {Q : State → Prop} (K : zOK mL_law tb G E) {c tr ag tt u wh cl d : Nat} {v w : Int32} {M : ZM} {W : Nat → Nat → Nat} {B A : ZA} {t : Nat} {T U V : Nat → Int32} (hS : zSe M W B c tr ag tt) (hR : zRo M tr ag tt T U V) (hI : zIv A B t) (hT : zTm A T U V) (ht : t ≤ 6 * u) (hu70 : u < 70) (hwh : wh < 10) (hcl : cl < 4) (hd : d < 12) (hv : A.2 3 d = 1) {b : Nat} (hb : 216 ≤ b) {l11 l12 l13 l14 l15 : Option Value} (kx : ∀ (M' : ZM) (b' : Nat) (n : Nat) (l14 l15 : Option Value), zLV M' c tr ag tt (u + 1) → b ≤ b' + 216 → WW E G (zyu mL_law) Q M' b' 678 [some (.ref (G.2.2.1 6)), some (.ref (c)), some (.ref (tr)), some (.ref (ag)), some (.ref (tt)), some (.int (nI (u))), some (.int (v)), some (.int (w)), some (.int (nI (wh))), some (.int (nI (cl))), some (.int (nI (d))), some (.int (nI (n))), some (.int (nI (5 * d + n))), some (.int (nI (1))), l14, l15] []) : WW E G (zyu mL_law) Q M b 128 [some (.ref (G.2.2.1 6)), some (.ref (c)), some (.ref (tr)), some (.ref (ag)), some (.ref (tt)), some (.int (nI (u))), some (.int (v)), some (.int (w)), some (.int (nI (wh))), some (.int (nI (cl))), some (.int (nI (d))), l11, l12, l13, l14, l15] [] := by
  refine zq_iload K dL_law_128 rfl ?_
  refine zq_iconst K dL_law_130 (v := nI 5) (by decide) ?_
  refine zq_ishr K dL_law_131 ?_
  refine zq_iconst K dL_law_132 (v := nI 5) (by decide) ?_
  refine zq_callS (As := [.int ((w) >>> ((nI (5)) &&& 31)), .int (nI (5))]) K dL_law_133 zyL_low zm_L_41 zsL_low rfl (by decide) rfl rfl (Nat.le_of_ble_eq_true rfl) (Nat.zero_le _) (ct_L_low M _ ⟨by omega, by omega⟩) (zone_r ?_) zone_x (Nat.le_refl _)
  refine zq_istore K dL_law_136 (by decide) ?_
  refine zq_iconst K dL_law_138 (v := nI 5) (by decide) ?_
  refine zq_iload K dL_law_139 rfl ?_
  refine zq_imulN K (x := 5) (y := d) dL_law_141 ?_
  refine zq_iload K dL_law_142 rfl ?_
  refine zq_iaddN K (x := (5) * (d)) (y := zlw ((w) >>> ((nI (5)) &&& 31)) (5)) dL_law_144 ?_
  refine zq_istore K dL_law_145 (by decide) ?_
  refine zq_iconst K dL_law_147 (v := nI 1) (by decide) ?_
  refine zq_istore K dL_law_148 (by decide) ?_
  refine th_150 K hS hR hI hT (by omega) hwh hcl hd hv (zlw_lt _ (by decide)) (by show 15 ≤ b - 0; omega) (fun M' W' B' A' t' T' U' V' b' l14 l15 h1 h2 h3 h4 h5 h6 => ?_)
  have h7 : b - 0 ≤ b' + 15 := h6
  exact th_629 K h1 h2 h3 h4 (by omega) hu70 hcl (by omega) (fun M2 b2 l14 g1 g2 => kx M2 b2 _ l14 _ g1 (by omega))
theorem th_59 {tb : List ExceptionTableEntry} {G : ZG} {E : ZE} {Q : State → Prop} (K : zOK mL_law tb G E) {c tr ag tt u : Nat} {Ls : Nat} {xs : Nat → Int32} (hX : zX0 G Ls xs) (hLs : Ls ≤ 260) {M : ZM} (hP : zLV M c tr ag tt u) (hu70 : u < 70) {b : Nat} (hb : 216 ≤ b) {l6 l7 l8 l9 l10 l11 l12 l13 l14 l15 : Option Value} (kx : ∀ (M' : ZM) (b' : Nat) (l6 l7 l8 l9 l10 l11 l12 l13 l14 l15 : Option Value), zLV M' c tr ag tt (u + 1) → b ≤ b' + 216 → WW E G (zyu mL_law) Q M' b' 678 [some (.ref (G.2.2.1 6)), some (.ref (c)), some (.ref (tr)), some (.ref (ag)), some (.ref (tt)), some (.int (nI (u))), l6, l7, l8, l9, l10, l11, l12, l13, l14, l15] []) : WW E G (zyu mL_law) Q M b 59 [some (.ref (G.2.2.1 6)), some (.ref (c)), some (.ref (tr)), some (.ref (ag)), some (.ref (tt)), some (.int (nI (u))), l6, l7, l8, l9, l10, l11, l12, l13, l14, l15] [] := by
  obtain ⟨W, B, A, T, U, V, t, hS, hR, hI, ht, hT⟩ := hP
  obtain ⟨D, F, L9, hD, hD1, hD12, hF, hF30, -, -, hal⟩ := hI.n
  have hV0 : V 0 = nI D := by rw [hT.2.2.1]; exact hD
  have hV1 : V 1 = nI F := by rw [hT.2.2.2.1]; exact hF
  have hV2 : V 2 = A.1 8 := hT.2.2.2.2
  refine zq_aload_n K dL_law_59 rfl rfl ?_
  refine zq_iconst K dL_law_60 (v := nI 2) (by decide) ?_
  refine zq_iload K dL_law_61 rfl ?_
  refine zq_imulN K (x := 2) (y := u) dL_law_63 ?_
  refine zq_callS (As := [.ref (G.2.2.1 6), .int (nI ((2) * (u)))]) K dL_law_64 zyL_cell zm_L_38 zsL_cell rfl (by decide) rfl rfl (Nat.le_of_ble_eq_true rfl) (Nat.zero_le _) (ct_L_cell hX hLs (by omega)) (zone_r ?_) zone_x (Nat.le_refl _)
  generalize zcv Ls xs ((2) * (u)) = v
  refine zq_istore K dL_law_67 (by decide) ?_
  refine zq_aload_n K dL_law_69 rfl rfl ?_
  refine zq_iconst K dL_law_70 (v := nI 2) (by decide) ?_
  refine zq_iload K dL_law_71 rfl ?_
  refine zq_imulN K (x := 2) (y := u) dL_law_73 ?_
  refine zq_iconst K dL_law_74 (v := nI 1) (by decide) ?_
  refine zq_iaddN K (x := (2) * (u)) (y := 1) dL_law_75 ?_
  refine zq_callS (As := [.ref (G.2.2.1 6), .int (nI (((2) * (u)) + (1)))]) K dL_law_76 zyL_cell zm_L_38 zsL_cell rfl (by decide) rfl rfl (Nat.le_of_ble_eq_true rfl) (Nat.zero_le _) (ct_L_cell hX hLs (by omega)) (zone_r ?_) zone_x (Nat.le_refl _)
  generalize zcv Ls xs (((2) * (u)) + (1)) = w
  refine zq_istore K dL_law_79 (by decide) ?_
  refine zq_iload K dL_law_81 rfl ?_
  refine zq_bipush K dL_law_83 (v := nI 10) (by decide) ?_
  refine zq_callS (As := [.int (v), .int (nI (10))]) K dL_law_85 zyL_low zm_L_41 zsL_low rfl (by decide) rfl rfl (Nat.le_of_ble_eq_true rfl) (Nat.zero_le _) (ct_L_low M _ ⟨by omega, by omega⟩) (zone_r ?_) zone_x (Nat.le_refl _)
  refine zq_istore K dL_law_88 (by decide) ?_
  refine zq_iload K dL_law_90 rfl ?_
  refine zq_iconst K dL_law_92 (v := nI 4) (by decide) ?_
  refine zq_ishr K dL_law_93 ?_
  refine zq_iconst K dL_law_94 (v := nI 4) (by decide) ?_
  refine zq_callS (As := [.int ((v) >>> ((nI (4)) &&& 31)), .int (nI (4))]) K dL_law_95 zyL_low zm_L_41 zsL_low rfl (by decide) rfl rfl (Nat.le_of_ble_eq_true rfl) (Nat.zero_le _) (ct_L_low M _ ⟨by omega, by omega⟩) (zone_r ?_) zone_x (Nat.le_refl _)
  refine zq_istore K dL_law_98 (by decide) ?_
  refine zq_iload K dL_law_100 rfl ?_
  refine zq_aload K dL_law_102 rfl ?_
  refine zq_iconst K dL_law_104 (v := nI 0) (by decide) ?_
  refine zl_ld K (0) dL_law_105 hR.2.2 rfl (by decide) (by decide) ?_
  refine zq_top (v := nI (D)) hV0 ?_
  refine zq_callS (As := [.int (w), .int (nI (D))]) K dL_law_106 zyL_low zm_L_41 zsL_low rfl (by decide) rfl rfl (Nat.le_of_ble_eq_true rfl) (Nat.zero_le _) (ct_L_low M _ ⟨by omega, by omega⟩) (zone_r ?_) zone_x (Nat.le_refl _)
  refine zq_istore K dL_law_109 (by decide) ?_
  refine zq_aload_n K dL_law_111 rfl rfl ?_
  refine zq_iload K dL_law_112 rfl ?_
  have hdd : zlw (w) (D) < D := zlw_lt _ hD1
  refine zq_callS (As := [.ref (tr), .int (nI (zlw (w) (D)))]) K dL_law_114 zyL_isThere zm_L_44 zsL_isThere rfl (by decide) rfl rfl (Nat.le_of_ble_eq_true rfl) (Nat.zero_le _) (ct_L_isThere hR.1 (by omega)) (zdec_r (fun h114 => ?_) (fun h114 => ?_)) zdec_x (Nat.le_refl _)
  · refine zq_if_eqN K (x := 1) 125 dL_law_117 (by decide) (by omega) (fun h117 => by omega) (fun h117 => ?_)
    refine zq_iload K dL_law_120 rfl ?_
    refine zq_goto K 126 dL_law_122 (by decide) ?_
    refine zq_istore K dL_law_126 (by decide) ?_
    exact th_128 K hS hR hI hT ht hu70 (zlw_lt _ (by decide)) (zlw_lt _ (by decide)) (by omega) ((hT.th hI (by omega)).mp h114) (by show 216 ≤ b - 0 - 0 - 0 - 0 - 0 - 0; omega) (fun M' b' n l14 l15 g1 g2 => kx M' b' _ _ _ _ _ _ _ _ l14 l15 g1 (by have g3 : b - 0 - 0 - 0 - 0 - 0 - 0 ≤ b' + 216 := g2; omega))
  · refine zq_if_eqN K (x := 0) 125 dL_law_117 (by decide) (by omega) (fun h117 => ?_) (fun h117 => by omega)
    refine zq_iconst K dL_law_125 (v := nI 0) (by decide) ?_
    refine zq_istore K dL_law_126 (by decide) ?_
    exact th_128 K hS hR hI hT ht hu70 (zlw_lt _ (by decide)) (zlw_lt _ (by decide)) (by decide) hI.2.2.2 (by show 216 ≤ b - 0 - 0 - 0 - 0 - 0 - 0; omega) (fun M' b' n l14 l15 g1 g2 => kx M' b' _ _ _ _ _ _ _ _ l14 l15 g1 (by have g3 : b - 0 - 0 - 0 - 0 - 0 - 0 ≤ b' + 216 := g2; omega))
theorem lp_law {tb : List ExceptionTableEntry} {G : ZG} {E : ZE} {Q : State → Prop} (K : zOK mL_law tb G E) {c tr ag tt : Nat} {Ls : Nat} {xs : Nat → Int32} (hX : zX0 G Ls xs) (hLs : Ls ≤ 260) (kx : ∀ (M : ZM) (b : Nat) (L : List (Option Value)), WW E G (zyu mL_law) Q M b 684 L []) : ∀ (m u : Nat) (M : ZM) (b : Nat) (l6 l7 l8 l9 l10 l11 l12 l13 l14 l15 : Option Value), u + m = 70 → zLV M c tr ag tt u → 216 * m ≤ b → WW E G (zyu mL_law) Q M b 52 [some (.ref (G.2.2.1 6)), some (.ref (c)), some (.ref (tr)), some (.ref (ag)), some (.ref (tt)), some (.int (nI (u))), l6, l7, l8, l9, l10, l11, l12, l13, l14, l15] [] := by
  intro m
  induction m with
  | zero =>
    intro u M b l6 l7 l8 l9 l10 l11 l12 l13 l14 l15 hm hP hb
    have hu4 : u = 70 := by omega
    subst hu4
    refine zq_iload K dL_law_52 rfl ?_
    refine zq_bipush K dL_law_54 (v := nI 70) (by decide) ?_
    refine zq_icmp_geN K (x := 70) (y := 70) 684 dL_law_56 (by decide) ⟨by omega, by omega⟩ (fun h56 => ?_) (fun h56 => by omega)
    exact kx _ _ _
  | succ m ih =>
    intro u M b l6 l7 l8 l9 l10 l11 l12 l13 l14 l15 hm hP hb
    refine zq_iload K dL_law_52 rfl ?_
    refine zq_bipush K dL_law_54 (v := nI 70) (by decide) ?_
    refine zq_icmp_geN K (x := u) (y := 70) 684 dL_law_56 (by decide) ⟨by omega, by omega⟩ (fun h56 => by omega) (fun h56 => ?_)
    refine th_59 K hX hLs hP (by omega) (by omega) (fun M' b' l6 l7 l8 l9 l10 l11 l12 l13 l14 l15 g1 g2 => ?_)
    refine zq_iincN K dL_law_678 rfl (by decide) ?_
    refine zq_goto K 52 dL_law_681 (by decide) ?_
    exact ih (u + 1) M' b' _ _ _ _ _ _ _ _ _ _ (by omega) g1 (by omega)

/-! the class: directories -/
theorem zOn_p {n : Int32} {k : Nat} (hk : k < 2 ^ 30) (h0 : ¬ n < 0) (h1 : n < nI (k + 1)) : zOn n k := by
  obtain ⟨j, hj, rfl⟩ := nI_of h0
  exact ⟨j, by have := (nI_ltI hj (by omega)).mp h1; omega, rfl⟩
theorem zOn_n0 {n : Int32} {k : Nat} (hk : k < 2 ^ 30) (h0 : n < 0) : ¬ zOn n k := by
  rintro ⟨j, hj, rfl⟩
  exact nI_pos (by omega) h0
theorem zOn_n1 {n : Int32} {k : Nat} (hk : k < 2 ^ 30) (h1 : ¬ n < nI (k + 1)) : ¬ zOn n k := by
  rintro ⟨j, hj, rfl⟩
  exact h1 (nI_lt (by omega) (by omega))
theorem zltge {a b : Int32} (h : b ≤ a) : ¬ a < b := Int32.not_lt.mpr h
theorem zgelt {a b : Int32} (h : ¬ b ≤ a) : a < b := Int32.not_le.mp h
theorem ct_X0_isName {G : ZG} (n : Int32) (M : ZM) : zMet G mX0_isName [.int (n)] M (zdec (zOn n 49) M) := by
  refine zbody zyX0_isName [some (.int (n))] rfl (Nat.le_of_ble_eq_true rfl) (by intro v hv; simp only [List.mem_cons, List.not_mem_nil, or_false] at hv; rcases hv with rfl <;> rfl) (fun E K => ?_)
  refine zq_iload_n K dX0_isName_0 rfl rfl ?_
  refine zq_if_lt K 14 dX0_isName_1 (by decide) (fun h1 => ?_) (fun h1 => ?_)
  · refine zq_iconst K dX0_isName_14 (v := nI 0) (by decide) ?_
    exact zq_zret K dX0_isName_15 rfl (by decide) (zdec_0 (zOn_n0 (by decide) h1))
  · refine zq_iload_n K dX0_isName_4 rfl rfl ?_
    refine zq_bipush K dX0_isName_5 (v := nI 50) (by decide) ?_
    refine zq_icmp_ge K 14 dX0_isName_7 (by decide) (fun h7 => ?_) (fun h7 => ?_)
    · refine zq_iconst K dX0_isName_14 (v := nI 0) (by decide) ?_
      exact zq_zret K dX0_isName_15 rfl (by decide) (zdec_0 (zOn_n1 (by decide) (zltge h7)))
    · refine zq_iconst K dX0_isName_10 (v := nI 1) (by decide) ?_
      refine zq_goto K 15 dX0_isName_11 (by decide) ?_
      exact zq_zret K dX0_isName_15 rfl (by decide) (zdec_1 (zOn_p (by decide) h1 (zgelt h7)))
theorem ct_X0_isClient {G : ZG} (n : Int32) (M : ZM) : zMet G mX0_isClient [.int (n)] M (zdec (zOn n 3) M) := by
  refine zbody zyX0_isClient [some (.int (n))] rfl (Nat.le_of_ble_eq_true rfl) (by intro v hv; simp only [List.mem_cons, List.not_mem_nil, or_false] at hv; rcases hv with rfl <;> rfl) (fun E K => ?_)
  refine zq_iload_n K dX0_isClient_0 rfl rfl ?_
  refine zq_if_lt K 13 dX0_isClient_1 (by decide) (fun h1 => ?_) (fun h1 => ?_)
  · refine zq_iconst K dX0_isClient_13 (v := nI 0) (by decide) ?_
    exact zq_zret K dX0_isClient_14 rfl (by decide) (zdec_0 (zOn_n0 (by decide) h1))
  · refine zq_iload_n K dX0_isClient_4 rfl rfl ?_
    refine zq_iconst K dX0_isClient_5 (v := nI 4) (by decide) ?_
    refine zq_icmp_ge K 13 dX0_isClient_6 (by decide) (fun h6 => ?_) (fun h6 => ?_)
    · refine zq_iconst K dX0_isClient_13 (v := nI 0) (by decide) ?_
      exact zq_zret K dX0_isClient_14 rfl (by decide) (zdec_0 (zOn_n1 (by decide) (zltge h6)))
    · refine zq_iconst K dX0_isClient_9 (v := nI 1) (by decide) ?_
      refine zq_goto K 14 dX0_isClient_10 (by decide) ?_
      exact zq_zret K dX0_isClient_14 rfl (by decide) (zdec_1 (zOn_p (by decide) h1 (zgelt h6)))
theorem ct_X0_meaningOf {G : ZG} {M : ZM} {W : Nat → Nat → Nat} {B : ZA} (hC : zC M W B) {d : Nat} (hv : zVal B 3 d) {n : Nat} (hn : n < 50) : zMet G mX0_meaningOf [.ref (W 3 (d)), .int (nI (n))] M (zone (some (.int (B.2 6 (50 * d + n)))) M) := by
  refine zbody zyX0_meaningOf [some (.ref (W 3 (d))), some (.int (nI (n)))] rfl (Nat.le_of_ble_eq_true rfl) (by intro v hv; simp only [List.mem_cons, List.not_mem_nil, or_false] at hv; rcases hv with rfl | rfl <;> rfl) (fun E K => ?_)
  refine zq_iload_n K dX0_meaningOf_0 rfl rfl ?_
  refine zq_callS (As := [.int (nI (n))]) K dX0_meaningOf_1 zyX0_isName zm_X0_43 zsX0_isName rfl (by decide) rfl rfl (Nat.le_of_ble_eq_true rfl) (Nat.le_of_ble_eq_true rfl) (ct_X0_isName (nI n) M) (zdec_r (fun yn => ?_) (fun yn => ?_)) zdec_x (Nat.le_refl _)
  · refine zq_if_eqN K (x := 1) 16 dX0_meaningOf_4 (by decide) (by omega) (fun h4 => by omega) (fun h4 => ?_)
    refine zq_aload_n K dX0_meaningOf_7 rfl rfl ?_
    refine zq_getRs K dX0_meaningOf_8 zclX0 (k := 3) (by decide) zf_X0_9 rfl (hC.d hv).1 (hC.d hv).2.2.2.2.1 ?_
    refine zq_iload_n K dX0_meaningOf_11 rfl rfl ?_
    refine zc_ldmea K (n := n) dX0_meaningOf_12 hC hv rfl (by omega) ?_
    refine zq_goto K 17 dX0_meaningOf_13 (by decide) ?_
    exact zq_iret K dX0_meaningOf_17 rfl ⟨rfl, rfl⟩
  · refine zq_if_eqN K (x := 0) 16 dX0_meaningOf_4 (by decide) (by omega) (fun h4 => ?_) (fun h4 => by omega)
    exact absurd ⟨n, by omega, rfl⟩ yn
theorem ct_X0_ageOf {G : ZG} {M : ZM} {W : Nat → Nat → Nat} {B : ZA} (hC : zC M W B) {d : Nat} (hv : zVal B 3 d) {n : Nat} (hn : n < 50) : zMet G mX0_ageOf [.ref (W 3 (d)), .int (nI (n))] M (zone (some (.int (B.2 7 (50 * d + n)))) M) := by
  refine zbody zyX0_ageOf [some (.ref (W 3 (d))), some (.int (nI (n)))] rfl (Nat.le_of_ble_eq_true rfl) (by intro v hv; simp only [List.mem_cons, List.not_mem_nil, or_false] at hv; rcases hv with rfl | rfl <;> rfl) (fun E K => ?_)
  refine zq_iload_n K dX0_ageOf_0 rfl rfl ?_
  refine zq_callS (As := [.int (nI (n))]) K dX0_ageOf_1 zyX0_isName zm_X0_43 zsX0_isName rfl (by decide) rfl rfl (Nat.le_of_ble_eq_true rfl) (Nat.le_of_ble_eq_true rfl) (ct_X0_isName (nI n) M) (zdec_r (fun yn => ?_) (fun yn => ?_)) zdec_x (Nat.le_refl _)
  · refine zq_if_eqN K (x := 1) 16 dX0_ageOf_4 (by decide) (by omega) (fun h4 => by omega) (fun h4 => ?_)
    refine zq_aload_n K dX0_ageOf_7 rfl rfl ?_
    refine zq_getRs K dX0_ageOf_8 zclX0 (k := 4) (by decide) zf_X0_15 rfl (hC.d hv).1 (hC.d hv).2.2.2.2.2.1 ?_
    refine zq_iload_n K dX0_ageOf_11 rfl rfl ?_
    refine zc_ldage K (n := n) dX0_ageOf_12 hC hv rfl (by omega) ?_
    refine zq_goto K 17 dX0_ageOf_13 (by decide) ?_
    exact zq_iret K dX0_ageOf_17 rfl ⟨rfl, rfl⟩
  · refine zq_if_eqN K (x := 0) 16 dX0_ageOf_4 (by decide) (by omega) (fun h4 => ?_) (fun h4 => by omega)
    exact absurd ⟨n, by omega, rfl⟩ yn
theorem ct_X0_setMeaning {G : ZG} {M : ZM} {W : Nat → Nat → Nat} {B : ZA} (hC : zC M W B) {d : Nat} (hv : zVal B 3 d) {n : Nat} (hn : n < 50) (m g : Int32) : zMet G mX0_setMeaning [.ref (W 3 (d)), .int (nI (n)), .int (m), .int (g)] M (zCP W M B none (zsa (zsa B 6 (50 * d + n) m) 7 (50 * d + n) g)) := by
  refine zbody zyX0_setMeaning [some (.ref (W 3 (d))), some (.int (nI (n))), some (.int (m)), some (.int (g))] rfl (Nat.le_of_ble_eq_true rfl) (by intro v hv; simp only [List.mem_cons, List.not_mem_nil, or_false] at hv; rcases hv with rfl | rfl | rfl | rfl <;> rfl) (fun E K => ?_)
  have hS : zFm M W B M := zFm.rf
  refine zq_iload_n K dX0_setMeaning_0 rfl rfl ?_
  refine zq_callS (As := [.int (nI (n))]) K dX0_setMeaning_1 zyX0_isName zm_X0_43 zsX0_isName rfl (by decide) rfl rfl (Nat.le_of_ble_eq_true rfl) (Nat.le_of_ble_eq_true rfl) (ct_X0_isName (nI n) M) (zdec_r (fun yn => ?_) (fun yn => ?_)) zdec_x (Nat.le_refl _)
  · refine zq_if_eqN K (x := 1) 21 dX0_setMeaning_4 (by decide) (by omega) (fun h4 => by omega) (fun h4 => ?_)
    refine zq_aload_n K dX0_setMeaning_7 rfl rfl ?_
    refine zq_getRs K dX0_setMeaning_8 zclX0 (k := 3) (by decide) zf_X0_9 rfl (hC.d hv).1 (hC.d hv).2.2.2.2.1 ?_
    refine zq_iload_n K dX0_setMeaning_11 rfl rfl ?_
    refine zq_iload_n K dX0_setMeaning_12 rfl rfl ?_
    refine zc_stmea K (n := n) dX0_setMeaning_13 hC hS hv hv rfl (by omega) (fun M hC hS => ?_)
    refine zq_aload_n K dX0_setMeaning_14 rfl rfl ?_
    refine zq_getRs K dX0_setMeaning_15 zclX0 (k := 4) (by decide) zf_X0_15 rfl (hC.d hv).1 (hC.d hv).2.2.2.2.2.1 ?_
    refine zq_iload_n K dX0_setMeaning_18 rfl rfl ?_
    refine zq_iload_n K dX0_setMeaning_19 rfl rfl ?_
    refine zc_stage K (n := n) dX0_setMeaning_20 hC hS hv hv rfl (by omega) (fun M hC hS => ?_)
    exact zq_ret K dX0_setMeaning_21 rfl ⟨rfl, hC, hS⟩
  · refine zq_if_eqN K (x := 0) 21 dX0_setMeaning_4 (by decide) (by omega) (fun h4 => ?_) (fun h4 => by omega)
    exact absurd ⟨n, by omega, rfl⟩ yn
theorem lp_X0_countTaken {G : ZG} {E : ZE} (K : zOK mX0_countTaken [] G E) {M : ZM} {W : Nat → Nat → Nat} {B : ZA} (hC : zC M W B) {d : Nat} (hv : zVal B 3 d) {P : ZO → ZM → Prop} (hP : P (.inl (some (.int (nI (zcN (zpu B d) 50))))) M) : ∀ (n k : Nat), k + n = 50 → WW E G (zyu mX0_countTaken) (zQ E G mX0_countTaken P) M 0 4 [some (.ref (W 3 (d))), some (.int (nI (zcN (zpu B d) k))), some (.int (nI (k)))] [] := by
  intro n
  induction n with
  | zero =>
    intro k hk
    have hk4 : k = 50 := by omega
    subst hk4
    refine zq_iload_n K dX0_countTaken_4 rfl rfl ?_
    refine zq_bipush K dX0_countTaken_5 (v := nI 50) (by decide) ?_
    refine zq_icmp_geN K (x := 50) (y := 50) 29 dX0_countTaken_7 (by decide) ⟨by omega, by omega⟩ (fun h7 => ?_) (fun h7 => by omega)
    refine zq_iload_n K dX0_countTaken_29 rfl rfl ?_
    exact zq_iret K dX0_countTaken_30 rfl hP
  | succ n ih =>
    intro k hk
    have hz := zcN_le (zpu B d) k
    refine zq_iload_n K dX0_countTaken_4 rfl rfl ?_
    refine zq_bipush K dX0_countTaken_5 (v := nI 50) (by decide) ?_
    refine zq_icmp_geN K (x := k) (y := 50) 29 dX0_countTaken_7 (by decide) ⟨by omega, by omega⟩ (fun h7 => by omega) (fun h7 => ?_)
    refine zq_aload_n K dX0_countTaken_10 rfl rfl ?_
    refine zq_getRs K dX0_countTaken_11 zclX0 (k := 3) (by decide) zf_X0_9 rfl (hC.d hv).1 (hC.d hv).2.2.2.2.1 ?_
    refine zq_iload_n K dX0_countTaken_14 rfl rfl ?_
    refine zc_ldmea K (n := k) dX0_countTaken_15 hC hv rfl (by omega) ?_
    refine zq_iconst K dX0_countTaken_16 (v := -1) (by decide) ?_
    refine zq_icmp_eq K 23 dX0_countTaken_17 (by decide) (fun h17 => ?_) (fun h17 => ?_)
    · refine zq_iincN K dX0_countTaken_23 rfl (by decide) ?_
      refine zq_goto K 4 dX0_countTaken_26 (by decide) ?_
      rw [show zcN (zpu B d) k = zcN (zpu B d) (k + 1) from (zcN_f (by unfold zpu; rw [decide_eq_true h17]; exact Bool.false_ne_true)).symm]
      exact ih (k + 1) (by omega)
    · refine zq_iincN K dX0_countTaken_20 rfl (by decide) ?_
      refine zq_iincN K dX0_countTaken_23 rfl (by decide) ?_
      refine zq_goto K 4 dX0_countTaken_26 (by decide) ?_
      rw [show zcN (zpu B d) k + 1 = zcN (zpu B d) (k + 1) from (zcN_t (by unfold zpu; rw [decide_eq_false h17]; rfl)).symm]
      exact ih (k + 1) (by omega)
theorem ct_X0_countTaken {G : ZG} {M : ZM} {W : Nat → Nat → Nat} {B : ZA} (hC : zC M W B) {d : Nat} (hv : zVal B 3 d) : zMet G mX0_countTaken [.ref (W 3 (d))] M (zone (some (.int (nI (zcN (zpu B d) 50)))) M) := by
  refine zbody zyX0_countTaken [some (.ref (W 3 (d))), none, none] rfl (Nat.le_of_ble_eq_true rfl) (by intro v hv; simp only [List.mem_cons, List.not_mem_nil, or_false] at hv; rcases hv with rfl <;> rfl) (fun E K => ?_)
  refine zq_iconst K dX0_countTaken_0 (v := nI 0) (by decide) ?_
  refine zq_istore_n K dX0_countTaken_1 rfl (by decide) ?_
  refine zq_iconst K dX0_countTaken_2 (v := nI 0) (by decide) ?_
  refine zq_istore_n K dX0_countTaken_3 rfl (by decide) ?_
  exact lp_X0_countTaken K hC hv ⟨rfl, rfl⟩ 50 0 rfl
def zpf (B : ZA) (d : Nat) (f : Int32) : Nat → Bool := fun n => decide (B.2 6 (50 * d + n) = f)
theorem lp_X0_countLinksTo {G : ZG} {E : ZE} (K : zOK mX0_countLinksTo [] G E) {M : ZM} {W : Nat → Nat → Nat} {B : ZA} (hC : zC M W B) {d : Nat} (hv : zVal B 3 d) {f : Int32} {P : ZO → ZM → Prop} (hP : P (.inl (some (.int (nI (zcN (zpf B d f) 50))))) M) : ∀ (n k : Nat), k + n = 50 → WW E G (zyu mX0_countLinksTo) (zQ E G mX0_countLinksTo P) M 0 4 [some (.ref (W 3 (d))), some (.int (f)), some (.int (nI (zcN (zpf B d f) k))), some (.int (nI (k)))] [] := by
  intro n
  induction n with
  | zero =>
    intro k hk
    have hk4 : k = 50 := by omega
    subst hk4
    refine zq_iload_n K dX0_countLinksTo_4 rfl rfl ?_
    refine zq_bipush K dX0_countLinksTo_5 (v := nI 50) (by decide) ?_
    refine zq_icmp_geN K (x := 50) (y := 50) 29 dX0_countLinksTo_7 (by decide) ⟨by omega, by omega⟩ (fun h7 => ?_) (fun h7 => by omega)
    refine zq_iload_n K dX0_countLinksTo_29 rfl rfl ?_
    exact zq_iret K dX0_countLinksTo_30 rfl hP
  | succ n ih =>
    intro k hk
    have hz := zcN_le (zpf B d f) k
    refine zq_iload_n K dX0_countLinksTo_4 rfl rfl ?_
    refine zq_bipush K dX0_countLinksTo_5 (v := nI 50) (by decide) ?_
    refine zq_icmp_geN K (x := k) (y := 50) 29 dX0_countLinksTo_7 (by decide) ⟨by omega, by omega⟩ (fun h7 => by omega) (fun h7 => ?_)
    refine zq_aload_n K dX0_countLinksTo_10 rfl rfl ?_
    refine zq_getRs K dX0_countLinksTo_11 zclX0 (k := 3) (by decide) zf_X0_9 rfl (hC.d hv).1 (hC.d hv).2.2.2.2.1 ?_
    refine zq_iload_n K dX0_countLinksTo_14 rfl rfl ?_
    refine zc_ldmea K (n := k) dX0_countLinksTo_15 hC hv rfl (by omega) ?_
    refine zq_iload_n K dX0_countLinksTo_16 rfl rfl ?_
    refine zq_icmp_ne K 23 dX0_countLinksTo_17 (by decide) (fun h17 => ?_) (fun h17 => ?_)
    · refine zq_iincN K dX0_countLinksTo_23 rfl (by decide) ?_
      refine zq_goto K 4 dX0_countLinksTo_26 (by decide) ?_
      rw [show zcN (zpf B d f) k = zcN (zpf B d f) (k + 1) from (zcN_f (fun z => h17 (of_decide_eq_true z))).symm]
      exact ih (k + 1) (by omega)
    · refine zq_iincN K dX0_countLinksTo_20 rfl (by decide) ?_
      refine zq_iincN K dX0_countLinksTo_23 rfl (by decide) ?_
      refine zq_goto K 4 dX0_countLinksTo_26 (by decide) ?_
      rw [show zcN (zpf B d f) k + 1 = zcN (zpf B d f) (k + 1) from (zcN_t (decide_eq_true h17)).symm]
      exact ih (k + 1) (by omega)
theorem ct_X0_countLinksTo {G : ZG} {M : ZM} {W : Nat → Nat → Nat} {B : ZA} (hC : zC M W B) {d : Nat} (hv : zVal B 3 d) (f : Int32) : zMet G mX0_countLinksTo [.ref (W 3 (d)), .int (f)] M (zone (some (.int (nI (zcN (zpf B d f) 50)))) M) := by
  refine zbody zyX0_countLinksTo [some (.ref (W 3 (d))), some (.int (f)), none, none] rfl (Nat.le_of_ble_eq_true rfl) (by intro v hv; simp only [List.mem_cons, List.not_mem_nil, or_false] at hv; rcases hv with rfl | rfl <;> rfl) (fun E K => ?_)
  refine zq_iconst K dX0_countLinksTo_0 (v := nI 0) (by decide) ?_
  refine zq_istore_n K dX0_countLinksTo_1 rfl (by decide) ?_
  refine zq_iconst K dX0_countLinksTo_2 (v := nI 0) (by decide) ?_
  refine zq_istore_n K dX0_countLinksTo_3 rfl (by decide) ?_
  exact lp_X0_countLinksTo K hC hv ⟨rfl, rfl⟩ 50 0 rfl
/-- the oldest link to f among the first k names -/
def zOl (B : ZA) (d : Nat) (f : Int32) : Nat → Option Nat
  | 0 => none
  | k + 1 => if B.2 6 (50 * d + k) = f then (match zOl B d f k with
      | none => some k
      | some j => if B.2 7 (50 * d + j) ≤ B.2 7 (50 * d + k) then some j else some k) else zOl B d f k
theorem zOl_lt {A : ZA} {d : Nat} {f : Int32} : ∀ {k j : Nat}, zOl A d f k = some j → j < k
  | 0, j, h => nomatch h
  | k + 1, j, h => by
    unfold zOl at h
    split at h
    · split at h
      · cases h
        omega
      · rename_i j' e
        have h9 := zOl_lt e
        split at h <;> cases h <;> omega
    · have := zOl_lt h
      omega
/-- its name, 50 for none -/
def zo5 : Option Nat → Nat
  | none => 50
  | some j => j
theorem lp_X0_oldestLink {G : ZG} {E : ZE} (K : zOK mX0_oldestLink [] G E) {M : ZM} {W : Nat → Nat → Nat} {B : ZA} (hC : zC M W B) {d : Nat} (hv : zVal B 3 d) {f : Int32} {P : ZO → ZM → Prop} (hP : P (.inl (some (.int (nI (zo5 (zOl B d f 50)))))) M) : ∀ (n k : Nat), k + n = 50 → WW E G (zyu mX0_oldestLink) (zQ E G mX0_oldestLink P) M 0 5 [some (.ref (W 3 (d))), some (.int (f)), some (.int (nI (zo5 (zOl B d f k)))), some (.int (nI (k)))] [] := by
  intro n
  induction n with
  | zero =>
    intro k hk
    have hk4 : k = 50 := by omega
    subst hk4
    refine zq_iload_n K dX0_oldestLink_5 rfl rfl ?_
    refine zq_bipush K dX0_oldestLink_6 (v := nI 50) (by decide) ?_
    refine zq_icmp_geN K (x := 50) (y := 50) 50 dX0_oldestLink_8 (by decide) ⟨by omega, by omega⟩ (fun h8 => ?_) (fun h8 => by omega)
    refine zq_iload_n K dX0_oldestLink_50 rfl rfl ?_
    exact zq_iret K dX0_oldestLink_51 rfl hP
  | succ n ih =>
    intro k hk
    have h99 : ∀ (z : Nat), zo5 (zOl B d f (k + 1)) = z → WW E G (zyu mX0_oldestLink) (zQ E G mX0_oldestLink P) M 0 5 [some (.ref (W 3 (d))), some (.int (f)), some (.int (nI (z))), some (.int (nI (k + 1)))] [] := by
      intro z e
      subst e
      exact ih (k + 1) (by omega)
    rcases e9 : zOl B d f k with _ | j
    · refine zq_iload_n K dX0_oldestLink_5 rfl rfl ?_
      refine zq_bipush K dX0_oldestLink_6 (v := nI 50) (by decide) ?_
      refine zq_icmp_geN K (x := k) (y := 50) 50 dX0_oldestLink_8 (by decide) ⟨by omega, by omega⟩ (fun h8 => by omega) (fun h8 => ?_)
      refine zq_aload_n K dX0_oldestLink_11 rfl rfl ?_
      refine zq_getRs K dX0_oldestLink_12 zclX0 (k := 3) (by decide) zf_X0_9 rfl (hC.d hv).1 (hC.d hv).2.2.2.2.1 ?_
      refine zq_iload_n K dX0_oldestLink_15 rfl rfl ?_
      refine zc_ldmea K (n := k) dX0_oldestLink_16 hC hv rfl (by omega) ?_
      refine zq_iload_n K dX0_oldestLink_17 rfl rfl ?_
      refine zq_icmp_ne K 44 dX0_oldestLink_18 (by decide) (fun h18 => ?_) (fun h18 => ?_)
      · refine zq_iincN K dX0_oldestLink_44 rfl (by decide) ?_
        refine zq_goto K 5 dX0_oldestLink_47 (by decide) ?_
        exact h99 _ (by rw [zOl, if_neg h18, e9])
      · refine zq_iload_n K dX0_oldestLink_21 rfl rfl ?_
        refine zq_bipush K dX0_oldestLink_22 (v := nI 50) (by decide) ?_
        refine zq_icmp_eqN K (x := 50) (y := 50) 42 dX0_oldestLink_24 (by decide) ⟨by omega, by omega⟩ (fun h24 => ?_) (fun h24 => by omega)
        refine zq_iload_n K dX0_oldestLink_42 rfl rfl ?_
        refine zq_istore_n K dX0_oldestLink_43 rfl (by decide) ?_
        refine zq_iincN K dX0_oldestLink_44 rfl (by decide) ?_
        refine zq_goto K 5 dX0_oldestLink_47 (by decide) ?_
        exact h99 _ (by rw [zOl, if_pos h18, e9]; rfl)
    · have hj9 := zOl_lt e9
      refine zq_iload_n K dX0_oldestLink_5 rfl rfl ?_
      refine zq_bipush K dX0_oldestLink_6 (v := nI 50) (by decide) ?_
      refine zq_icmp_geN K (x := k) (y := 50) 50 dX0_oldestLink_8 (by decide) ⟨by omega, by omega⟩ (fun h8 => by omega) (fun h8 => ?_)
      refine zq_aload_n K dX0_oldestLink_11 rfl rfl ?_
      refine zq_getRs K dX0_oldestLink_12 zclX0 (k := 3) (by decide) zf_X0_9 rfl (hC.d hv).1 (hC.d hv).2.2.2.2.1 ?_
      refine zq_iload_n K dX0_oldestLink_15 rfl rfl ?_
      refine zc_ldmea K (n := k) dX0_oldestLink_16 hC hv rfl (by omega) ?_
      refine zq_iload_n K dX0_oldestLink_17 rfl rfl ?_
      refine zq_icmp_ne K 44 dX0_oldestLink_18 (by decide) (fun h18 => ?_) (fun h18 => ?_)
      · refine zq_iincN K dX0_oldestLink_44 rfl (by decide) ?_
        refine zq_goto K 5 dX0_oldestLink_47 (by decide) ?_
        exact h99 _ (by rw [zOl, if_neg h18, e9])
      · refine zq_iload_n K dX0_oldestLink_21 rfl rfl ?_
        refine zq_bipush K dX0_oldestLink_22 (v := nI 50) (by decide) ?_
        refine zq_icmp_eqN K (x := j) (y := 50) 42 dX0_oldestLink_24 (by decide) ⟨by omega, by omega⟩ (fun h24 => by omega) (fun h24 => ?_)
        refine zq_aload_n K dX0_oldestLink_27 rfl rfl ?_
        refine zq_getRs K dX0_oldestLink_28 zclX0 (k := 4) (by decide) zf_X0_15 rfl (hC.d hv).1 (hC.d hv).2.2.2.2.2.1 ?_
        refine zq_iload_n K dX0_oldestLink_31 rfl rfl ?_
        refine zc_ldage K (n := k) dX0_oldestLink_32 hC hv rfl (by omega) ?_
        refine zq_aload_n K dX0_oldestLink_33 rfl rfl ?_
        refine zq_getRs K dX0_oldestLink_34 zclX0 (k := 4) (by decide) zf_X0_15 rfl (hC.d hv).1 (hC.d hv).2.2.2.2.2.1 ?_
        refine zq_iload_n K dX0_oldestLink_37 rfl rfl ?_
        refine zc_ldage K (n := j) dX0_oldestLink_38 hC hv rfl (by omega) ?_
        refine zq_icmp_ge K 44 dX0_oldestLink_39 (by decide) (fun h39 => ?_) (fun h39 => ?_)
        · refine zq_iincN K dX0_oldestLink_44 rfl (by decide) ?_
          refine zq_goto K 5 dX0_oldestLink_47 (by decide) ?_
          exact h99 _ (by rw [zOl, if_pos h18, e9]; dsimp only; rw [if_pos h39])
        · refine zq_iload_n K dX0_oldestLink_42 rfl rfl ?_
          refine zq_istore_n K dX0_oldestLink_43 rfl (by decide) ?_
          refine zq_iincN K dX0_oldestLink_44 rfl (by decide) ?_
          refine zq_goto K 5 dX0_oldestLink_47 (by decide) ?_
          exact h99 _ (by rw [zOl, if_pos h18, e9]; dsimp only; rw [if_neg h39]; rfl)
theorem ct_X0_oldestLink {G : ZG} {M : ZM} {W : Nat → Nat → Nat} {B : ZA} (hC : zC M W B) {d : Nat} (hv : zVal B 3 d) (f : Int32) : zMet G mX0_oldestLink [.ref (W 3 (d)), .int (f)] M (zone (some (.int (nI (zo5 (zOl B d f 50))))) M) := by
  refine zbody zyX0_oldestLink [some (.ref (W 3 (d))), some (.int (f)), none, none] rfl (Nat.le_of_ble_eq_true rfl) (by intro v hv; simp only [List.mem_cons, List.not_mem_nil, or_false] at hv; rcases hv with rfl | rfl <;> rfl) (fun E K => ?_)
  refine zq_bipush K dX0_oldestLink_0 (v := nI 50) (by decide) ?_
  refine zq_istore_n K dX0_oldestLink_2 rfl (by decide) ?_
  refine zq_iconst K dX0_oldestLink_3 (v := nI 0) (by decide) ?_
  refine zq_istore_n K dX0_oldestLink_4 rfl (by decide) ?_
  exact lp_X0_oldestLink K hC hv ⟨rfl, rfl⟩ 50 0 rfl
theorem ct_X0_leaseRuns {G : ZG} {M : ZM} {W : Nat → Nat → Nat} {B : ZA} (hC : zC M W B) {d : Nat} (hv : zVal B 3 d) {c n : Nat} (hc : c < 4) (hn : n < 50) (t : Int32) : zMet G mX0_leaseRuns [.ref (W 3 (d)), .int (nI (c)), .int (nI (n)), .int (t)] M (zdec (t < B.2 13 (600 * c + (50 * d + n))) M) := by
  refine zbody zyX0_leaseRuns [some (.ref (W 3 (d))), some (.int (nI (c))), some (.int (nI (n))), some (.int (t))] rfl (Nat.le_of_ble_eq_true rfl) (by intro v hv; simp only [List.mem_cons, List.not_mem_nil, or_false] at hv; rcases hv with rfl | rfl | rfl | rfl <;> rfl) (fun E K => ?_)
  refine zq_iload_n K dX0_leaseRuns_0 rfl rfl ?_
  refine zq_callS (As := [.int (nI (c))]) K dX0_leaseRuns_1 zyX0_isClient zm_X0_47 zsX0_isClient rfl (by decide) rfl rfl (Nat.le_of_ble_eq_true rfl) (Nat.le_of_ble_eq_true rfl) (ct_X0_isClient (nI c) M) (zdec_r (fun yc => ?_) (fun yc => ?_)) zdec_x (Nat.le_refl _)
  · refine zq_if_eqN K (x := 1) 30 dX0_leaseRuns_4 (by decide) (by omega) (fun h4 => by omega) (fun h4 => ?_)
    refine zq_iload_n K dX0_leaseRuns_7 rfl rfl ?_
    refine zq_callS (As := [.int (nI (n))]) K dX0_leaseRuns_8 zyX0_isName zm_X0_43 zsX0_isName rfl (by decide) rfl rfl (Nat.le_of_ble_eq_true rfl) (Nat.le_of_ble_eq_true rfl) (ct_X0_isName (nI n) M) (zdec_r (fun yn => ?_) (fun yn => ?_)) zdec_x (Nat.le_refl _)
    · refine zq_if_eqN K (x := 1) 30 dX0_leaseRuns_11 (by decide) (by omega) (fun h11 => by omega) (fun h11 => ?_)
      refine zq_aload_n K dX0_leaseRuns_14 rfl rfl ?_
      refine zq_getRs K dX0_leaseRuns_15 zclX0 (k := 5) (by decide) zf_X0_20 rfl (hC.d hv).1 (hC.d hv).2.2.2.2.2.2.1 ?_
      refine zq_iload_n K dX0_leaseRuns_18 rfl rfl ?_
      refine zc_al K (d := d) (c := c) dX0_leaseRuns_19 hC hv (by omega) rfl ?_
      refine zq_iload_n K dX0_leaseRuns_20 rfl rfl ?_
      refine zc_ldrow K (d := d) (c := c) (n := n) dX0_leaseRuns_21 hC hv (by omega) rfl (by omega) ?_
      refine zq_iload_n K dX0_leaseRuns_22 rfl rfl ?_
      refine zq_icmp_le K 30 dX0_leaseRuns_23 (by decide) (fun h23 => ?_) (fun h23 => ?_)
      · refine zq_iconst K dX0_leaseRuns_30 (v := nI 0) (by decide) ?_
        exact zq_zret K dX0_leaseRuns_31 rfl (by decide) (zdec_0 (fun z => Int32.not_le.mpr z h23))
      · refine zq_iconst K dX0_leaseRuns_26 (v := nI 1) (by decide) ?_
        refine zq_goto K 31 dX0_leaseRuns_27 (by decide) ?_
        exact zq_zret K dX0_leaseRuns_31 rfl (by decide) (zdec_1 (Int32.not_le.mp h23))
    · refine zq_if_eqN K (x := 0) 30 dX0_leaseRuns_11 (by decide) (by omega) (fun h11 => ?_) (fun h11 => by omega)
      exact absurd ⟨n, by omega, rfl⟩ yn
  · refine zq_if_eqN K (x := 0) 30 dX0_leaseRuns_4 (by decide) (by omega) (fun h4 => ?_) (fun h4 => by omega)
    exact absurd ⟨c, by omega, rfl⟩ yc
theorem ct_X0_setLeaseEnd {G : ZG} {M : ZM} {W : Nat → Nat → Nat} {B : ZA} (hC : zC M W B) {d : Nat} (hv : zVal B 3 d) {c n : Nat} (hc : c < 4) (hn : n < 50) (v : Int32) : zMet G mX0_setLeaseEnd [.ref (W 3 (d)), .int (nI (c)), .int (nI (n)), .int (v)] M (zCP W M B none (zsa B 13 (600 * c + (50 * d + n)) v)) := by
  refine zbody zyX0_setLeaseEnd [some (.ref (W 3 (d))), some (.int (nI (c))), some (.int (nI (n))), some (.int (v))] rfl (Nat.le_of_ble_eq_true rfl) (by intro v hv; simp only [List.mem_cons, List.not_mem_nil, or_false] at hv; rcases hv with rfl | rfl | rfl | rfl <;> rfl) (fun E K => ?_)
  have hS : zFm M W B M := zFm.rf
  refine zq_iload_n K dX0_setLeaseEnd_0 rfl rfl ?_
  refine zq_callS (As := [.int (nI (c))]) K dX0_setLeaseEnd_1 zyX0_isClient zm_X0_47 zsX0_isClient rfl (by decide) rfl rfl (Nat.le_of_ble_eq_true rfl) (Nat.le_of_ble_eq_true rfl) (ct_X0_isClient (nI c) M) (zdec_r (fun yc => ?_) (fun yc => ?_)) zdec_x (Nat.le_refl _)
  · refine zq_if_eqN K (x := 1) 23 dX0_setLeaseEnd_4 (by decide) (by omega) (fun h4 => by omega) (fun h4 => ?_)
    refine zq_iload_n K dX0_setLeaseEnd_7 rfl rfl ?_
    refine zq_callS (As := [.int (nI (n))]) K dX0_setLeaseEnd_8 zyX0_isName zm_X0_43 zsX0_isName rfl (by decide) rfl rfl (Nat.le_of_ble_eq_true rfl) (Nat.le_of_ble_eq_true rfl) (ct_X0_isName (nI n) M) (zdec_r (fun yn => ?_) (fun yn => ?_)) zdec_x (Nat.le_refl _)
    · refine zq_if_eqN K (x := 1) 23 dX0_setLeaseEnd_11 (by decide) (by omega) (fun h11 => by omega) (fun h11 => ?_)
      refine zq_aload_n K dX0_setLeaseEnd_14 rfl rfl ?_
      refine zq_getRs K dX0_setLeaseEnd_15 zclX0 (k := 5) (by decide) zf_X0_20 rfl (hC.d hv).1 (hC.d hv).2.2.2.2.2.2.1 ?_
      refine zq_iload_n K dX0_setLeaseEnd_18 rfl rfl ?_
      refine zc_al K (d := d) (c := c) dX0_setLeaseEnd_19 hC hv (by omega) rfl ?_
      refine zq_iload_n K dX0_setLeaseEnd_20 rfl rfl ?_
      refine zq_iload_n K dX0_setLeaseEnd_21 rfl rfl ?_
      refine zc_strow K (d := d) (c := c) (n := n) dX0_setLeaseEnd_22 hC hS hv hv (by omega) rfl (by omega) (fun M hC hS => ?_)
      exact zq_ret K dX0_setLeaseEnd_23 rfl ⟨rfl, hC, hS⟩
    · refine zq_if_eqN K (x := 0) 23 dX0_setLeaseEnd_11 (by decide) (by omega) (fun h11 => ?_) (fun h11 => by omega)
      exact absurd ⟨n, by omega, rfl⟩ yn
  · refine zq_if_eqN K (x := 0) 23 dX0_setLeaseEnd_4 (by decide) (by omega) (fun h4 => ?_) (fun h4 => by omega)
    exact absurd ⟨c, by omega, rfl⟩ yc
def zpt (B : ZA) (c d : Nat) (t : Int32) : Nat → Bool := fun n => decide (t < B.2 13 (600 * c + (50 * d + n)))
theorem ct_X0_fragmentAt {G : ZG} {M : ZM} {W : Nat → Nat → Nat} {B : ZA} (hC : zC M W B) {d : Nat} (hv : zVal B 3 d) {h : Nat} (hh : h < 2 ^ 31) : zMet G mX0_fragmentAt [.ref (W 3 (d)), .int (nI (h))] M (zone (some (.ref (W 9 (8 * d + zfg (B.2 10) d (h % 8))))) M) := by
  refine zbody zyX0_fragmentAt [some (.ref (W 3 (d))), some (.int (nI (h)))] rfl (Nat.le_of_ble_eq_true rfl) (by intro v hv; simp only [List.mem_cons, List.not_mem_nil, or_false] at hv; rcases hv with rfl | rfl <;> rfl) (fun E K => ?_)
  refine zq_aload_n K dX0_fragmentAt_0 rfl rfl ?_
  refine zq_getRs K dX0_fragmentAt_1 zclX0 (k := 6) (by decide) zf_X0_25 rfl (hC.d hv).1 (hC.d hv).2.2.2.2.2.2.2 ?_
  refine zq_iload_n K dX0_fragmentAt_4 rfl rfl ?_
  refine zq_bipush K dX0_fragmentAt_5 (v := nI 7) (by decide) ?_
  refine zq_iand K dX0_fragmentAt_7 ?_
  refine zq_top (v := nI (h % 8)) (pk_andN (by omega) 3 (by decide)) ?_
  refine zc_ah K (d := d) (h := h % 8) dX0_fragmentAt_8 hC hv (Nat.mod_lt _ (by decide)) rfl ?_
  exact zq_aret K dX0_fragmentAt_9 rfl (Or.inr ⟨_, rfl⟩) ⟨rfl, rfl⟩
theorem ct_X0_fragmentAt8 {G : ZG} {M : ZM} {W : Nat → Nat → Nat} {B : ZA} (hC : zC M W B) {d : Nat} (hv : zVal B 3 d) {h : Nat} (hh : h < 8) : zMet G mX0_fragmentAt [.ref (W 3 (d)), .int (nI (h))] M (zone (some (.ref (W 9 (8 * d + zfg (B.2 10) d h)))) M) := by
  have h1 := ct_X0_fragmentAt (G := G) hC hv (h := h) (by omega)
  rwa [Nat.mod_eq_of_lt hh] at h1
theorem ct_X0_fragmentOfName {G : ZG} {M : ZM} {W : Nat → Nat → Nat} {B : ZA} (hC : zC M W B) {d : Nat} (hv : zVal B 3 d) {n : Nat} (hn : n < 50) : zMet G mX0_fragmentOfName [.ref (W 3 (d)), .int (nI (n))] M (zone (some (.ref (W 9 (zfn B d n)))) M) := by
  refine zbody zyX0_fragmentOfName [some (.ref (W 3 (d))), some (.int (nI (n)))] rfl (Nat.le_of_ble_eq_true rfl) (by intro v hv; simp only [List.mem_cons, List.not_mem_nil, or_false] at hv; rcases hv with rfl | rfl <;> rfl) (fun E K => ?_)
  refine zq_aload_n K dX0_fragmentOfName_0 rfl rfl ?_
  refine zq_iconst K dX0_fragmentOfName_1 (v := nI 5) (by decide) ?_
  refine zq_iload_n K dX0_fragmentOfName_2 rfl rfl ?_
  refine zq_imulN K (x := 5) (y := n) dX0_fragmentOfName_3 ?_
  refine zq_iconst K dX0_fragmentOfName_4 (v := nI 3) (by decide) ?_
  refine zq_iaddN K (x := (5) * (n)) (y := 3) dX0_fragmentOfName_5 ?_
  refine zq_callV (As := [.int (nI (((5) * (n)) + (3)))]) K dX0_fragmentOfName_6 zyX0_fragmentAt zm_X0_54 ziX0_fragmentAt zvX0_fragmentAt zclX0 rfl (by decide) rfl rfl (Nat.le_of_ble_eq_true rfl) (Nat.le_of_ble_eq_true rfl) (hC.d hv).1 (ct_X0_fragmentAt hC hv (show 5 * n + 3 < 2 ^ 31 by omega)) (zone_r ?_) zone_x (Nat.le_refl _)
  exact zq_aret K dX0_fragmentOfName_9 rfl (Or.inr ⟨_, rfl⟩) ⟨rfl, rfl⟩
theorem zfg_self {s : Nat → Int32} {d h : Nat} (h1 : ¬ s (8 * d + h) = 0) : zfg s d h = h := by
  cases h with
  | zero => rfl
  | succ h => unfold zfg; rw [if_neg h1]
theorem zfg_lt {s : Nat → Int32} {d h : Nat} (h1 : s (8 * d + h) = 0) (h0 : ¬ h = 0) : zfg s d h < h := by
  cases h with
  | zero => exact absurd rfl h0
  | succ h =>
    unfold zfg
    rw [if_pos h1]
    have := zfg_le s d h
    omega
def zpz (B : ZA) (d : Nat) : Nat → Bool := fun h => !decide (B.2 10 (8 * d + h) = 0)

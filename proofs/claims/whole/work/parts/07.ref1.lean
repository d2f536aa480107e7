/-! the reference: small questions -/
/-- n is one of 0 to k -/
def zOn (n : Int32) (k : Nat) : Prop := ∃ j : Nat, j ≤ k ∧ n = nI j
theorem zOn_iff {n : Int32} {k : Nat} (hk : k < 2 ^ 31) : (nI 0 ≤ n ∧ n ≤ nI k) ↔ zOn n k := by
  constructor
  · rintro ⟨h1, h2⟩
    obtain ⟨j, hj, rfl⟩ := nI_of (x := n) (Int32.not_lt.mpr (by rw [← nI_0]; exact h1))
    exact ⟨j, (nI_leI hj hk).mp h2, rfl⟩
  · rintro ⟨j, hj, rfl⟩
    exact ⟨(nI_leI (by decide) (by omega)).mpr (Nat.zero_le _), (nI_leI (by omega) hk).mpr hj⟩
/-- how many directories there were, which are there -/
def zBas (A : ZA) (D : Nat) : Prop := A.1 2 = nI D ∧ 1 ≤ D ∧ D ≤ 12 ∧ ∀ j, j < 12 → (A.2 3 j = 1 ∧ j < D) ∨ A.2 3 j = 0
/-- d is a directory -/
def zIsD (A : ZA) (d : Int32) : Prop := ∃ j : Nat, j < 12 ∧ d = nI j ∧ A.2 3 j = 1
theorem one_ne0 : ¬ (1 : Int32) = 0 := by decide

theorem ct_X3_in {G : ZG} (v lo hi : Int32) (M : ZM) : zMet G mX3_in [.int (v), .int (lo), .int (hi)] M (zdec (lo ≤ v ∧ v ≤ hi) M) := by
  refine zbody zyX3_in [some (.int (v)), some (.int (lo)), some (.int (hi))] rfl (Nat.le_of_ble_eq_true rfl) (by intro v hv; simp only [List.mem_cons, List.not_mem_nil, or_false] at hv; rcases hv with rfl | rfl | rfl <;> rfl) (fun E K => ?_)
  refine zq_iload_n K dX3_in_0 rfl rfl ?_
  refine zq_iload_n K dX3_in_1 rfl rfl ?_
  refine zq_icmp_lt K 14 dX3_in_2 (by decide) (fun h2 => ?_) (fun h2 => ?_)
  · refine zq_iconst K dX3_in_14 (v := nI 0) (by decide) ?_
    exact zq_zret K dX3_in_15 rfl (by decide) (zdec_0 (fun z => Int32.not_le.mpr h2 z.1))
  · refine zq_iload_n K dX3_in_5 rfl rfl ?_
    refine zq_iload_n K dX3_in_6 rfl rfl ?_
    refine zq_icmp_gt K 14 dX3_in_7 (by decide) (fun h7 => ?_) (fun h7 => ?_)
    · refine zq_iconst K dX3_in_14 (v := nI 0) (by decide) ?_
      exact zq_zret K dX3_in_15 rfl (by decide) (zdec_0 (fun z => Int32.not_le.mpr h7 z.2))
    · refine zq_iconst K dX3_in_10 (v := nI 1) (by decide) ?_
      refine zq_goto K 15 dX3_in_11 (by decide) ?_
      exact zq_zret K dX3_in_15 rfl (by decide) (zdec_1 ⟨Int32.not_lt.mp h2, Int32.not_lt.mp h7⟩)
theorem ct_X3_isName {G : ZG} (v : Int32) (M : ZM) : zMet G mX3_isName [.int (v)] M (zdec (zOn v 49) M) := by
  refine zbody zyX3_isName [some (.int (v))] rfl (Nat.le_of_ble_eq_true rfl) (by intro v hv; simp only [List.mem_cons, List.not_mem_nil, or_false] at hv; rcases hv with rfl <;> rfl) (fun E K => ?_)
  refine zq_iload_n K dX3_isName_0 rfl rfl ?_
  refine zq_iconst K dX3_isName_1 (v := nI 0) (by decide) ?_
  refine zq_bipush K dX3_isName_2 (v := nI 49) (by decide) ?_
  refine zq_callS (As := [.int (v), .int (nI (0)), .int (nI (49))]) K dX3_isName_4 zyX3_in zm_X3_58 zsX3_in rfl (by decide) rfl rfl (Nat.le_of_ble_eq_true rfl) (Nat.le_of_ble_eq_true rfl) (ct_X3_in v (nI 0) (nI 49) M) (zdec_r (fun h => ?_) (fun h => ?_)) zdec_x (Nat.le_refl _)
  · exact zq_zret K dX3_isName_7 rfl (by decide) (zdec_1 ((zOn_iff (by decide)).mp h))
  · exact zq_zret K dX3_isName_7 rfl (by decide) (zdec_0 (fun z => h ((zOn_iff (by decide)).mpr z)))
theorem ct_X3_isHash {G : ZG} (v : Int32) (M : ZM) : zMet G mX3_isHash [.int (v)] M (zdec (zOn v 7) M) := by
  refine zbody zyX3_isHash [some (.int (v))] rfl (Nat.le_of_ble_eq_true rfl) (by intro v hv; simp only [List.mem_cons, List.not_mem_nil, or_false] at hv; rcases hv with rfl <;> rfl) (fun E K => ?_)
  refine zq_iload_n K dX3_isHash_0 rfl rfl ?_
  refine zq_iconst K dX3_isHash_1 (v := nI 0) (by decide) ?_
  refine zq_bipush K dX3_isHash_2 (v := nI 7) (by decide) ?_
  refine zq_callS (As := [.int (v), .int (nI (0)), .int (nI (7))]) K dX3_isHash_4 zyX3_in zm_X3_58 zsX3_in rfl (by decide) rfl rfl (Nat.le_of_ble_eq_true rfl) (Nat.le_of_ble_eq_true rfl) (ct_X3_in v (nI 0) (nI 7) M) (zdec_r (fun h => ?_) (fun h => ?_)) zdec_x (Nat.le_refl _)
  · exact zq_zret K dX3_isHash_7 rfl (by decide) (zdec_1 ((zOn_iff (by decide)).mp h))
  · exact zq_zret K dX3_isHash_7 rfl (by decide) (zdec_0 (fun z => h ((zOn_iff (by decide)).mpr z)))
theorem ct_X3_isClient {G : ZG} (v : Int32) (M : ZM) : zMet G mX3_isClient [.int (v)] M (zdec (zOn v 3) M) := by
  refine zbody zyX3_isClient [some (.int (v))] rfl (Nat.le_of_ble_eq_true rfl) (by intro v hv; simp only [List.mem_cons, List.not_mem_nil, or_false] at hv; rcases hv with rfl <;> rfl) (fun E K => ?_)
  refine zq_iload_n K dX3_isClient_0 rfl rfl ?_
  refine zq_iconst K dX3_isClient_1 (v := nI 0) (by decide) ?_
  refine zq_iconst K dX3_isClient_2 (v := nI 3) (by decide) ?_
  refine zq_callS (As := [.int (v), .int (nI (0)), .int (nI (3))]) K dX3_isClient_3 zyX3_in zm_X3_58 zsX3_in rfl (by decide) rfl rfl (Nat.le_of_ble_eq_true rfl) (Nat.le_of_ble_eq_true rfl) (ct_X3_in v (nI 0) (nI 3) M) (zdec_r (fun h => ?_) (fun h => ?_)) zdec_x (Nat.le_refl _)
  · exact zq_zret K dX3_isClient_6 rfl (by decide) (zdec_1 ((zOn_iff (by decide)).mp h))
  · exact zq_zret K dX3_isClient_6 rfl (by decide) (zdec_0 (fun z => h ((zOn_iff (by decide)).mpr z)))
theorem ct_X3_isDirectory {G : ZG} {M : ZM} {x : Nat} {q : Nat → Nat} {w : Int32} {A : ZA} (hR : zR M x q w A) {D : Nat} (hB : zBas A D) (d : Int32) : zMet G mX3_isDirectory [.ref (x), .int (d)] M (zdec (zIsD A d) M) := by
  refine zbody zyX3_isDirectory [some (.ref (x)), some (.int (d))] rfl (Nat.le_of_ble_eq_true rfl) (by intro v hv; simp only [List.mem_cons, List.not_mem_nil, or_false] at hv; rcases hv with rfl | rfl <;> rfl) (fun E K => ?_)
  obtain ⟨hB1, hB2, hB3, hB4⟩ := hB
  refine zq_iload_n K dX3_isDirectory_0 rfl rfl ?_
  refine zq_iconst K dX3_isDirectory_1 (v := nI 0) (by decide) ?_
  refine zq_aload_n K dX3_isDirectory_2 rfl rfl ?_
  refine zm_sc K dX3_isDirectory_3 zf_X3_7 (k := 2) (by decide) hR ?_
  refine zq_top (v := nI (D)) hB1 ?_
  refine zq_iconst K dX3_isDirectory_6 (v := nI 1) (by decide) ?_
  refine zq_isubN K (x := D) (y := 1) dX3_isDirectory_7 (by omega) ?_
  refine zq_callS (As := [.int (d), .int (nI (0)), .int (nI ((D) - (1)))]) K dX3_isDirectory_8 zyX3_in zm_X3_58 zsX3_in rfl (by decide) rfl rfl (Nat.le_of_ble_eq_true rfl) (Nat.le_of_ble_eq_true rfl) (ct_X3_in d (nI 0) (nI (D - 1)) M) (zdec_r (fun h => ?_) (fun h => ?_)) zdec_x (Nat.le_refl _)
  · refine zq_if_eqN K (x := 1) 27 dX3_isDirectory_11 (by decide) (by omega) (fun h11 => by omega) (fun h11 => ?_)
    obtain ⟨j, hj, rfl⟩ := (zOn_iff (by omega)).mp h
    refine zq_aload_n K dX3_isDirectory_14 rfl rfl ?_
    refine zm_ar K dX3_isDirectory_15 zf_X3_13 (k := 3) (by decide) hR ?_
    refine zq_iload_n K dX3_isDirectory_18 rfl rfl ?_
    refine zm_lz K (j) dX3_isDirectory_19 hR rfl (show j < 12 by omega) ?_
    refine zq_if_eq K 27 dX3_isDirectory_20 (by decide) (fun h20 => ?_) (fun h20 => ?_)
    · refine zq_iconst K dX3_isDirectory_27 (v := nI 0) (by decide) ?_
      exact zq_zret K dX3_isDirectory_28 rfl (by decide) (zdec_0 (fun z => by obtain ⟨i, hi, e, h1⟩ := z; have e2 : j = i := (nI_eq (by omega) (by omega)).mp e; subst e2; rw [h20] at h1; exact absurd h1 (by decide)))
    · refine zq_iconst K dX3_isDirectory_23 (v := nI 1) (by decide) ?_
      refine zq_goto K 28 dX3_isDirectory_24 (by decide) ?_
      exact zq_zret K dX3_isDirectory_28 rfl (by decide) (zdec_1 ⟨j, by omega, rfl, ((hB4 j (by omega)).resolve_right h20).1⟩)
  · refine zq_if_eqN K (x := 0) 27 dX3_isDirectory_11 (by decide) (by omega) (fun h11 => ?_) (fun h11 => by omega)
    refine zq_iconst K dX3_isDirectory_27 (v := nI 0) (by decide) ?_
    exact zq_zret K dX3_isDirectory_28 rfl (by decide) (zdec_0 (fun z => h ((zOn_iff (by omega)).mpr (by obtain ⟨i, hi, e, h1⟩ := z; refine ⟨i, ?_, e⟩; exact (hB4 i hi).elim (fun z => by omega) (fun h3 => absurd (h1.symm.trans h3) one_ne0)))))
theorem ct_X3_at {G : ZG} (d n : Nat) (M : ZM) : zMet G mX3_at [.int (nI (d)), .int (nI (n))] M (zone (some (.int (nI (50 * d + n)))) M) := by
  refine zbody zyX3_at [some (.int (nI (d))), some (.int (nI (n)))] rfl (Nat.le_of_ble_eq_true rfl) (by intro v hv; simp only [List.mem_cons, List.not_mem_nil, or_false] at hv; rcases hv with rfl | rfl <;> rfl) (fun E K => ?_)
  refine zq_bipush K dX3_at_0 (v := nI 50) (by decide) ?_
  refine zq_iload_n K dX3_at_2 rfl rfl ?_
  refine zq_imulN K (x := 50) (y := d) dX3_at_3 ?_
  refine zq_iload_n K dX3_at_4 rfl rfl ?_
  refine zq_iaddN K (x := (50) * (d)) (y := n) dX3_at_5 ?_
  exact zq_iret K dX3_at_6 rfl ⟨rfl, rfl⟩
theorem ct_X3_hash {G : ZG} (n : Nat) (hn : n < 50) (M : ZM) : zMet G mX3_hash [.int (nI (n))] M (zone (some (.int (nI ((5 * n + 3) % 8)))) M) := by
  refine zbody zyX3_hash [some (.int (nI (n)))] rfl (Nat.le_of_ble_eq_true rfl) (by intro v hv; simp only [List.mem_cons, List.not_mem_nil, or_false] at hv; rcases hv with rfl <;> rfl) (fun E K => ?_)
  refine zq_iconst K dX3_hash_0 (v := nI 5) (by decide) ?_
  refine zq_iload_n K dX3_hash_1 rfl rfl ?_
  refine zq_imulN K (x := 5) (y := n) dX3_hash_2 ?_
  refine zq_iconst K dX3_hash_3 (v := nI 3) (by decide) ?_
  refine zq_iaddN K (x := (5) * (n)) (y := 3) dX3_hash_4 ?_
  refine zq_bipush K dX3_hash_5 (v := nI 8) (by decide) ?_
  refine zq_iremN K (x := ((5) * (n)) + (3)) (y := 8) dX3_hash_7 (by omega) ?_
  exact zq_iret K dX3_hash_8 rfl ⟨rfl, rfl⟩
theorem ct_X3_thrown {G : ZG} {M : ZM} {x : Nat} {q : Nat → Nat} {w : Int32} {A : ZA} (hR : zR M x q w A) : zMet G mX3_thrown [.ref (x)] M (zone (some (.int w)) M) := by
  refine zbody zyX3_thrown [some (.ref (x))] rfl (Nat.le_of_ble_eq_true rfl) (by intro v hv; simp only [List.mem_cons, List.not_mem_nil, or_false] at hv; rcases hv with rfl <;> rfl) (fun E K => ?_)
  refine zq_aload_n K dX3_thrown_0 rfl rfl ?_
  refine zm_th K dX3_thrown_1 zf_X3_55 hR ?_
  exact zq_iret K dX3_thrown_4 rfl ⟨rfl, rfl⟩
theorem ct_X3_fails {G : ZG} {M : ZM} {x : Nat} {q : Nat → Nat} {w : Int32} {A : ZA} (hR : zR M x q w A) (c : Int32) : zMet G mX3_fails [.ref (x), .int (c)] M (zRP x q M (some (.int (nI 0))) c A) := by
  refine zbody zyX3_fails [some (.ref (x)), some (.int (c))] rfl (Nat.le_of_ble_eq_true rfl) (by intro v hv; simp only [List.mem_cons, List.not_mem_nil, or_false] at hv; rcases hv with rfl | rfl <;> rfl) (fun E K => ?_)
  have hS : zSm x q M M := zSm.rf
  refine zq_aload_n K dX3_fails_0 rfl rfl ?_
  refine zq_iload_n K dX3_fails_1 rfl rfl ?_
  refine zm_pth K dX3_fails_2 zf_X3_55 hR hS (fun M hR hS => ?_)
  refine zq_iconst K dX3_fails_5 (v := nI 0) (by decide) ?_
  exact zq_iret K dX3_fails_6 rfl ⟨rfl, hR, hS⟩
/-- where the fragment begins that has the hash h: the last place up to h with a size -/
def zfg (s : Nat → Int32) (d : Nat) : Nat → Nat
  | 0 => 0
  | h + 1 => if s (8 * d + (h + 1)) = 0 then zfg s d h else h + 1
theorem zfg_le (s : Nat → Int32) (d : Nat) : ∀ h, zfg s d h ≤ h
  | 0 => Nat.le_refl _
  | h + 1 => by
    unfold zfg
    split
    · exact Nat.le_succ_of_le (zfg_le s d h)
    · exact Nat.le_refl _
theorem lp_X3_fragment {G : ZG} {E : ZE} (K : zOK mX3_fragment [] G E) {M : ZM} {x : Nat} {q : Nat → Nat} {w : Int32} {A : ZA} (hR : zR M x q w A) {d : Nat} (hd : d < 12) (h0 : ¬ A.2 10 (8 * d) = 0) {u b : Nat} {Q : State → Prop} {y z : Int32} : ∀ h, h < 8 → WW E G u Q M b 22 [some (.ref x), some (.int y), some (.int z), some (.int (nI (8 * d + zfg (A.2 10) d h)))] [] → WW E G u Q M b 7 [some (.ref x), some (.int y), some (.int z), some (.int (nI (8 * d + h)))] [] := by
  intro h
  induction h with
  | zero =>
    intro hh kk
    refine zq_aload_n K dX3_fragment_7 rfl rfl ?_
    refine zm_ar K dX3_fragment_8 zf_X3_30 (k := 10) (by decide) hR ?_
    refine zq_iload_n K dX3_fragment_11 rfl rfl ?_
    refine zm_ld K (8 * d + 0) dX3_fragment_12 (k := 10) (by decide) hR rfl (show 8 * d + 0 < 96 by omega) ?_
    refine zq_if_ne K 22 dX3_fragment_13 (by decide) (fun h13 => ?_) (fun h13 => absurd h13 h0)
    exact kk
  | succ h ih =>
    intro hh kk
    refine zq_aload_n K dX3_fragment_7 rfl rfl ?_
    refine zm_ar K dX3_fragment_8 zf_X3_30 (k := 10) (by decide) hR ?_
    refine zq_iload_n K dX3_fragment_11 rfl rfl ?_
    refine zm_ld K (8 * d + (h + 1)) dX3_fragment_12 (k := 10) (by decide) hR rfl (show 8 * d + (h + 1) < 96 by omega) ?_
    refine zq_if_ne K 22 dX3_fragment_13 (by decide) (fun h13 => ?_) (fun h13 => ?_)
    · rw [show zfg (A.2 10) d (h + 1) = h + 1 from if_neg h13] at kk
      exact kk
    · refine zq_iinc K dX3_fragment_16 rfl (v := nI (8 * d + h)) (pk_m1 (8 * d + h)) (by decide) ?_
      refine zq_goto K 7 dX3_fragment_19 (by decide) ?_
      rw [show zfg (A.2 10) d (h + 1) = zfg (A.2 10) d h from if_pos h13] at kk
      exact ih (by omega) kk
theorem ct_X3_fragment {G : ZG} {M : ZM} {x : Nat} {q : Nat → Nat} {w : Int32} {A : ZA} (hR : zR M x q w A) {d h : Nat} (hd : d < 12) (hh : h < 8) (h0 : ¬ A.2 10 (8 * d) = 0) : zMet G mX3_fragment [.ref (x), .int (nI (d)), .int (nI (h))] M (zone (some (.int (nI (8 * d + zfg (A.2 10) d h)))) M) := by
  refine zbody zyX3_fragment [some (.ref (x)), some (.int (nI (d))), some (.int (nI (h))), none] rfl (Nat.le_of_ble_eq_true rfl) (by intro v hv; simp only [List.mem_cons, List.not_mem_nil, or_false] at hv; rcases hv with rfl | rfl | rfl <;> rfl) (fun E K => ?_)
  refine zq_bipush K dX3_fragment_0 (v := nI 8) (by decide) ?_
  refine zq_iload_n K dX3_fragment_2 rfl rfl ?_
  refine zq_imulN K (x := 8) (y := d) dX3_fragment_3 ?_
  refine zq_iload_n K dX3_fragment_4 rfl rfl ?_
  refine zq_iaddN K (x := (8) * (d)) (y := h) dX3_fragment_5 ?_
  refine zq_istore_n K dX3_fragment_6 rfl (by decide) ?_
  refine lp_X3_fragment K hR hd h0 h hh ?_
  exact zq_iload_n K dX3_fragment_22 rfl rfl (zq_iret K dX3_fragment_23 rfl ⟨rfl, rfl⟩)
/-- the hash of a name -/
def zhs (n : Nat) : Nat := (5 * n + 3) % 8
theorem zhs_lt (n : Nat) : zhs n < 8 := Nat.mod_lt _ (by decide)
/-- the fragment of a name: 8 times the directory, and the beginning -/
def zfn (A : ZA) (d n : Nat) : Nat := 8 * d + zfg (A.2 10) d (zhs n)
theorem zfn_lt (A : ZA) {d n : Nat} (hd : d < 12) : zfn A d n < 96 := by
  have h1 := zfg_le (A.2 10) d (zhs n)
  have h2 := zhs_lt n
  unfold zfn
  omega
theorem zfn_div (A : ZA) (d n : Nat) : zfn A d n / 8 = d := by
  have h1 := zfg_le (A.2 10) d (zhs n)
  have h2 := zhs_lt n
  unfold zfn
  omega
theorem ct_X3_fragmentOfName {G : ZG} {M : ZM} {x : Nat} {q : Nat → Nat} {w : Int32} {A : ZA} (hR : zR M x q w A) {d n : Nat} (hd : d < 12) (hn : n < 50) (h0 : ¬ A.2 10 (8 * d) = 0) : zMet G mX3_fragmentOfName [.ref (x), .int (nI (d)), .int (nI (n))] M (zone (some (.int (nI (zfn A d n)))) M) := by
  refine zbody zyX3_fragmentOfName [some (.ref (x)), some (.int (nI (d))), some (.int (nI (n)))] rfl (Nat.le_of_ble_eq_true rfl) (by intro v hv; simp only [List.mem_cons, List.not_mem_nil, or_false] at hv; rcases hv with rfl | rfl | rfl <;> rfl) (fun E K => ?_)
  refine zq_aload_n K dX3_fragmentOfName_0 rfl rfl ?_
  refine zq_iload_n K dX3_fragmentOfName_1 rfl rfl ?_
  refine zq_iload_n K dX3_fragmentOfName_2 rfl rfl ?_
  refine zq_callS (As := [.int (nI (n))]) K dX3_fragmentOfName_3 zyX3_hash zm_X3_62 zsX3_hash rfl (by decide) rfl rfl (Nat.le_of_ble_eq_true rfl) (Nat.le_of_ble_eq_true rfl) (ct_X3_hash n hn M) (zone_r ?_) zone_x (Nat.le_refl _)
  refine zq_callV (As := [.int (nI (d)), .int (nI (zhs n))]) K dX3_fragmentOfName_6 zyX3_fragment zm_X3_66 ziX3_fragment zvX3_fragment zclX3 rfl (by decide) rfl rfl (Nat.le_of_ble_eq_true rfl) (Nat.le_of_ble_eq_true rfl) hR.1 (ct_X3_fragment hR hd (zhs_lt n) h0) (zone_r ?_) zone_x (Nat.le_refl _)
  exact zq_iret K dX3_fragmentOfName_9 rfl ⟨rfl, rfl⟩
theorem ct_X3_runs {G : ZG} {M : ZM} {x : Nat} {q : Nat → Nat} {w : Int32} {A : ZA} (hR : zR M x q w A) {c a : Nat} (hc : c < 4) (ha : a < 600) : zMet G mX3_runs [.ref (x), .int (nI (c)), .int (nI (a))] M (zdec (A.1 1 < A.2 13 (600 * c + a)) M) := by
  refine zbody zyX3_runs [some (.ref (x)), some (.int (nI (c))), some (.int (nI (a)))] rfl (Nat.le_of_ble_eq_true rfl) (by intro v hv; simp only [List.mem_cons, List.not_mem_nil, or_false] at hv; rcases hv with rfl | rfl | rfl <;> rfl) (fun E K => ?_)
  refine zq_aload_n K dX3_runs_0 rfl rfl ?_
  refine zm_ar K dX3_runs_1 zf_X3_39 (k := 13) (by decide) hR ?_
  refine zq_sipush K dX3_runs_4 (v := nI 600) (by decide) ?_
  refine zq_iload_n K dX3_runs_7 rfl rfl ?_
  refine zq_imulN K (x := 600) (y := c) dX3_runs_8 ?_
  refine zq_iload_n K dX3_runs_9 rfl rfl ?_
  refine zq_iaddN K (x := (600) * (c)) (y := a) dX3_runs_10 ?_
  refine zm_ld K (((600) * (c)) + (a)) dX3_runs_11 (k := 13) (by decide) hR rfl (show ((600) * (c)) + (a) < 2400 by omega) ?_
  refine zq_aload_n K dX3_runs_12 rfl rfl ?_
  refine zm_sc K dX3_runs_13 zf_X3_80 (k := 1) (by decide) hR ?_
  refine zq_icmp_le K 23 dX3_runs_16 (by decide) (fun h16 => ?_) (fun h16 => ?_)
  · refine zq_iconst K dX3_runs_23 (v := nI 0) (by decide) ?_
    exact zq_zret K dX3_runs_24 rfl (by decide) (zdec_0 (fun z => Int32.not_lt.mpr h16 z))
  · refine zq_iconst K dX3_runs_19 (v := nI 1) (by decide) ?_
    refine zq_goto K 24 dX3_runs_20 (by decide) ?_
    exact zq_zret K dX3_runs_24 rfl (by decide) (zdec_1 (Int32.not_le.mp h16))

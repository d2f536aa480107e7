/-! the class: loads -/
/-- the load of the server s in the first k slots -/
def zlc (B : ZA) (s : Int32) : Nat → Int32
  | 0 => nI 0
  | k + 1 => if zVf B k ∧ zsv B k = s then zlc B s k + B.2 12 k else zlc B s k
/-- the heaviest of the first k slots -/
def zh4 (B : ZA) : Option Nat → Int32
  | none => nI 0
  | some j => B.2 12 j
def zhv (B : ZA) (s m : Int32) : Nat → Option Nat
  | 0 => none
  | k + 1 => if zVf B k ∧ ¬ B.2 12 k ≤ zh4 B (zhv B s m k) ∧ ¬ m < B.2 12 k ∧ zsv B k = s then some k else zhv B s m k
theorem zhv_ok {B : ZA} {s m : Int32} : ∀ {k j : Nat}, zhv B s m k = some j → j < k ∧ zVf B j
  | 0, j, h => nomatch h
  | k + 1, j, h => by
    unfold zhv at h
    split at h
    · rename_i h1
      cases h
      exact ⟨by omega, h1.1⟩
    · have := zhv_ok h
      exact ⟨by omega, this.2⟩
def zhL (B : ZA) : Nat → ZA
  | 0 => B
  | k + 1 => if zVf B k then zsa (zhL B k) 12 k ((zhL B k).2 12 k / nI 2) else zhL B k
theorem zhL_1 (B : ZA) : ∀ k, (zhL B k).1 = B.1
  | 0 => rfl
  | k + 1 => by
    unfold zhL
    split
    · exact zhL_1 B k
    · exact zhL_1 B k
theorem zhL_n (B : ZA) {i : Nat} (hi : i ≠ 12) : ∀ k, (zhL B k).2 i = B.2 i
  | 0 => rfl
  | k + 1 => by
    unfold zhL
    split
    · rw [zsa_n _ _ _ _ _ hi]
      exact zhL_n B hi k
    · exact zhL_n B hi k
/-- a fragment, or none, as a value -/
def zvf (W : Nat → Nat → Nat) : Option Nat → Value
  | none => .null
  | some j => .ref (W 9 j)
theorem ct_X2_needRemovable_0 {G : ZG} {M : ZM} {W : Nat → Nat → Nat} {B : ZA} (hC : zC M W B) {d : Nat} (hv : zVal B 3 d) (hm : B.1 16 = -1) : zMet G mX2_needRemovable [.ref (W 10 0), .ref (W 3 (d))] M (znd (¬ 0 < zcN (zpu B d) 50) none zISE M) := by
  refine zbody zyX2_needRemovable [some (.ref (W 10 0)), some (.ref (W 3 (d)))] rfl (Nat.le_of_ble_eq_true rfl) (by intro v hv; simp only [List.mem_cons, List.not_mem_nil, or_false] at hv; rcases hv with rfl | rfl <;> rfl) (fun E K => ?_)
  refine zq_aload_n K dX2_needRemovable_0 rfl rfl ?_
  refine zq_callV (As := []) K dX2_needRemovable_1 zyX0_countTaken zm_X2_225 ziX0_countTaken zvX0_countTaken zclX0 rfl (by decide) rfl rfl (Nat.le_of_ble_eq_true rfl) (Nat.le_of_ble_eq_true rfl) (hC.d hv).1 (ct_X0_countTaken hC hv) (zone_r ?_) zone_x (Nat.le_refl _)
  refine zq_if_leN K (x := zcN (zpu B d) 50) 17 dX2_needRemovable_4 (by decide) (by have := zcN_le (zpu B d) 50; omega) (fun h4 => ?_) (fun h4 => ?_)
  · refine zq_aload_n K dX2_needRemovable_17 rfl rfl ?_
    refine zq_getRn K dX2_needRemovable_18 zclX2 (k := 7) (by decide) zf_X2_197 rfl hC.x.1 (hC.m0 hm) ?_
    refine zq_ifnull_n K 48 dX2_needRemovable_21 (by decide) ?_
    exact zq_ret K dX2_needRemovable_48 rfl ⟨rfl, Or.inl ⟨by omega, rfl⟩⟩
  · exact zq_throw K (text := "the directory is not empty") zthISE (by decide +kernel) dX2_needRemovable_7 dX2_needRemovable_10 dX2_needRemovable_11 dX2_needRemovable_13 dX2_needRemovable_16 (by decide) (Nat.le_of_ble_eq_true rfl) (Nat.le_of_ble_eq_true rfl) ⟨rfl, Or.inr ⟨fun z => z (by omega), rfl⟩⟩
theorem ct_X2_needRemovable_1 {G : ZG} {M : ZM} {W : Nat → Nat → Nat} {B : ZA} (hC : zC M W B) {d : Nat} (hv : zVal B 3 d) {m : Nat} (hm : B.1 16 = nI m) (hv9 : zVal B 9 m) : zMet G mX2_needRemovable [.ref (W 10 0), .ref (W 3 (d))] M (znd (¬ (0 < zcN (zpu B d) 50 ∨ m / 8 = d)) none zISE M) := by
  refine zbody zyX2_needRemovable [some (.ref (W 10 0)), some (.ref (W 3 (d)))] rfl (Nat.le_of_ble_eq_true rfl) (by intro v hv; simp only [List.mem_cons, List.not_mem_nil, or_false] at hv; rcases hv with rfl | rfl <;> rfl) (fun E K => ?_)
  refine zq_aload_n K dX2_needRemovable_0 rfl rfl ?_
  refine zq_callV (As := []) K dX2_needRemovable_1 zyX0_countTaken zm_X2_225 ziX0_countTaken zvX0_countTaken zclX0 rfl (by decide) rfl rfl (Nat.le_of_ble_eq_true rfl) (Nat.le_of_ble_eq_true rfl) (hC.d hv).1 (ct_X0_countTaken hC hv) (zone_r ?_) zone_x (Nat.le_refl _)
  refine zq_if_leN K (x := zcN (zpu B d) 50) 17 dX2_needRemovable_4 (by decide) (by have := zcN_le (zpu B d) 50; omega) (fun h4 => ?_) (fun h4 => ?_)
  · refine zq_aload_n K dX2_needRemovable_17 rfl rfl ?_
    refine zq_getRs K dX2_needRemovable_18 zclX2 (k := 7) (by decide) zf_X2_197 rfl hC.x.1 (hC.m1 hm hv9.1) ?_
    refine zq_ifnull_r K dX2_needRemovable_21 ?_
    refine zq_aload_n K dX2_needRemovable_24 rfl rfl ?_
    refine zq_getRs K dX2_needRemovable_25 zclX2 (k := 7) (by decide) zf_X2_197 rfl hC.x.1 (hC.m1 hm hv9.1) ?_
    refine zq_getI K dX2_needRemovable_28 zclX1 (k := 0) (by decide) zf_X2_219 rfl (hC.f hv9).1 ?_
    refine zq_top (hC.f hv9).2.1 ?_
    refine zq_aload_n K dX2_needRemovable_31 rfl rfl ?_
    refine zq_getI K dX2_needRemovable_32 zclX0 (k := 0) (by decide) zf_X2_108 rfl (hC.d hv).1 ?_
    refine zq_top (hC.d hv).2.1 ?_
    refine zq_icmp_neN K (x := (m) / 8) (y := d) 48 dX2_needRemovable_35 (by decide) ⟨by have := hv9.1; omega, by have := hv.1; omega⟩ (fun h35 => ?_) (fun h35 => ?_)
    · exact zq_ret K dX2_needRemovable_48 rfl ⟨rfl, Or.inl ⟨fun z => z.elim (fun y => by omega) (fun y => by omega), rfl⟩⟩
    · exact zq_throw K (text := "a fragment of the directory moves") zthISE (by decide +kernel) dX2_needRemovable_38 dX2_needRemovable_41 dX2_needRemovable_42 dX2_needRemovable_44 dX2_needRemovable_47 (by decide) (Nat.le_of_ble_eq_true rfl) (Nat.le_of_ble_eq_true rfl) ⟨rfl, Or.inr ⟨fun z => z (Or.inr (by omega)), rfl⟩⟩
  · exact zq_throw K (text := "the directory is not empty") zthISE (by decide +kernel) dX2_needRemovable_7 dX2_needRemovable_10 dX2_needRemovable_11 dX2_needRemovable_13 dX2_needRemovable_16 (by decide) (Nat.le_of_ble_eq_true rfl) (Nat.le_of_ble_eq_true rfl) ⟨rfl, Or.inr ⟨fun z => z (Or.inl (by omega)), rfl⟩⟩


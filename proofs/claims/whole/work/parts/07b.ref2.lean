/-! the reference: ends, changes, who serves, what is frozen -/
/-- the parent's number, and the name there -/
def zpar (A : ZA) (d : Nat) : Nat := (A.2 4 d).toNatClampNeg
def znam (A : ZA) (d : Nat) : Nat := (A.2 5 d).toNatClampNeg
def zinh (A : ZA) (f : Nat) : Nat := zfn A (zpar A (f / 8)) (znam A (f / 8))
/-- the directory d hangs at a name of a directory that is there -/
def zUp (A : ZA) (d : Nat) : Prop := A.2 4 d = nI (zpar A d) ∧ zpar A d < 12 ∧ A.2 3 (zpar A d) = 1 ∧ A.2 5 d = nI (znam A d) ∧ znam A d < 50
/-- from d it goes up to the root in at most k steps -/
def zDp (A : ZA) : Nat → Nat → Prop
  | 0, d => d = 0
  | k + 1, d => d = 0 ∨ (zUp A d ∧ zDp A k (zpar A d))
/-- directories that are there have their first fragment; fragments of the root have owners -/
def zFr (A : ZA) : Prop := (∀ d, d < 12 → A.2 3 d = 1 → ¬ A.2 10 (8 * d) = 0) ∧ ∀ h, h < 8 → ¬ A.2 10 h = 0 → ¬ A.2 11 h = -1
def zsvN (A : ZA) : Nat → Nat → Int32
  | 0, _ => nI 0
  | k + 1, f => if A.2 11 f = -1 then zsvN A k (zinh A f) else A.2 11 f
def zfzN (A : ZA) : Nat → Nat → Bool
  | 0, _ => false
  | k + 1, f => if ¬ A.1 16 = -1 ∧ nI f = A.1 16 then true else if A.2 11 f = -1 then zfzN A k (zinh A f) else false
def zsv (A : ZA) (f : Nat) : Int32 := zsvN A 12 f
def zfz (A : ZA) (f : Nat) : Bool := zfzN A 12 f
theorem zfg_ne {s : Nat → Int32} {d : Nat} (h0 : ¬ s (8 * d) = 0) : ∀ h, ¬ s (8 * d + zfg s d h) = 0
  | 0 => h0
  | h + 1 => by
    unfold zfg
    split
    · exact zfg_ne h0 h
    · assumption
theorem zinh_ok {A : ZA} (hF : zFr A) {f : Nat} (hu : zUp A (f / 8)) : zinh A f < 96 ∧ zinh A f / 8 = zpar A (f / 8) ∧ ¬ A.2 10 (zinh A f) = 0 ∧ A.2 3 (zinh A f / 8) = 1 := by
  have h1 := zfn_div A (zpar A (f / 8)) (znam A (f / 8))
  refine ⟨zfn_lt A hu.2.1, h1, zfg_ne (hF.1 _ hu.2.1 hu.2.2.1) _, ?_⟩
  rw [show zinh A f / 8 = zpar A (f / 8) from h1]
  exact hu.2.2.1
theorem ct_X3_inherited {G : ZG} {M : ZM} {x : Nat} {q : Nat → Nat} {w : Int32} {A : ZA} (hR : zR M x q w A) {f : Nat} (hf : f < 96) (hF : zFr A) (hu : zUp A (f / 8)) : zMet G mX3_inherited [.ref (x), .int (nI (f))] M (zone (some (.int (nI (zinh A f)))) M) := by
  refine zbody zyX3_inherited [some (.ref (x)), some (.int (nI (f))), none] rfl (Nat.le_of_ble_eq_true rfl) (by intro v hv; simp only [List.mem_cons, List.not_mem_nil, or_false] at hv; rcases hv with rfl | rfl <;> rfl) (fun E K => ?_)
  refine zq_iload_n K dX3_inherited_0 rfl rfl ?_
  refine zq_bipush K dX3_inherited_1 (v := nI 8) (by decide) ?_
  refine zq_idivN K (x := f) (y := 8) dX3_inherited_3 (by omega) ?_
  refine zq_istore_n K dX3_inherited_4 rfl (by decide) ?_
  refine zq_aload_n K dX3_inherited_5 rfl rfl ?_
  refine zq_aload_n K dX3_inherited_6 rfl rfl ?_
  refine zm_ar K dX3_inherited_7 zf_X3_17 (k := 4) (by decide) hR ?_
  refine zq_iload_n K dX3_inherited_10 rfl rfl ?_
  refine zm_ld K ((f) / (8)) dX3_inherited_11 (k := 4) (by decide) hR rfl (show (f) / (8) < 12 by omega) ?_
  refine zq_top (v := nI (zpar A (f / 8))) hu.1 ?_
  refine zq_aload_n K dX3_inherited_12 rfl rfl ?_
  refine zm_ar K dX3_inherited_13 zf_X3_21 (k := 5) (by decide) hR ?_
  refine zq_iload_n K dX3_inherited_16 rfl rfl ?_
  refine zm_ld K ((f) / (8)) dX3_inherited_17 (k := 5) (by decide) hR rfl (show (f) / (8) < 12 by omega) ?_
  refine zq_top (v := nI (znam A (f / 8))) hu.2.2.2.1 ?_
  refine zq_callV (As := [.int (nI (zpar A (f / 8))), .int (nI (znam A (f / 8)))]) K dX3_inherited_18 zyX3_fragmentOfName zm_X3_70 ziX3_fragmentOfName zvX3_fragmentOfName zclX3 rfl (by decide) rfl rfl (Nat.le_of_ble_eq_true rfl) (Nat.le_of_ble_eq_true rfl) hR.1 (ct_X3_fragmentOfName hR hu.2.1 hu.2.2.2.2 (hF.1 _ hu.2.1 hu.2.2.1)) (zone_r ?_) zone_x (Nat.le_refl _)
  exact zq_iret K dX3_inherited_21 rfl ⟨rfl, rfl⟩
theorem zDp_up {A : ZA} {k f : Nat} (hF : zFr A) (hx : zDp A (k + 1) (f / 8)) (h3 : f < 96) (h4 : ¬ A.2 10 f = 0) (h9 : A.2 11 f = -1) : zUp A (f / 8) ∧ zDp A k (zpar A (f / 8)) :=
  hx.resolve_left (fun e => hF.2 f (by omega) h4 h9)
theorem zDp_0 {A : ZA} {f : Nat} (hF : zFr A) (hx : zDp A 0 (f / 8)) (h3 : f < 96) (h4 : ¬ A.2 10 f = 0) : ¬ A.2 11 f = -1 :=
  hF.2 f (by have h : f / 8 = 0 := hx; omega) h4
theorem lp_X3_server {G : ZG} {E : ZE} (K : zOK mX3_server [] G E) {M : ZM} {x : Nat} {q : Nat → Nat} {w : Int32} {A : ZA} (hR : zR M x q w A) (hF : zFr A) {Q : State → Prop} {y : Int32} : ∀ (k f : Nat), zDp A k (f / 8) → f < 96 → ¬ A.2 10 f = 0 → (∀ L, WW E G (zyu mX3_server) Q M 0 27 L [.int (zsvN A (k + 1) f)]) → WW E G (zyu mX3_server) Q M 0 2 [some (.ref x), some (.int y), some (.int (nI f))] [] := by
  intro k
  induction k with
  | zero =>
    intro f hx h3 h4 kk
    have h0 := zDp_0 hF hx h3 h4
    rw [show zsvN A (0 + 1) f = A.2 11 f from if_neg h0] at kk
    refine zq_aload_n K dX3_server_2 rfl rfl ?_
    refine zm_ar K dX3_server_3 zf_X3_33 (k := 11) (by decide) hR ?_
    refine zq_iload_n K dX3_server_6 rfl rfl ?_
    refine zm_ld K (f) dX3_server_7 (k := 11) (by decide) hR rfl (show f < 96 by omega) ?_
    refine zq_iconst K dX3_server_8 (v := -1) (by decide) ?_
    refine zq_icmp_ne K 21 dX3_server_9 (by decide) (fun h9 => ?_) (fun h9 => ?_)
    · refine zq_aload_n K dX3_server_21 rfl rfl ?_
      refine zm_ar K dX3_server_22 zf_X3_33 (k := 11) (by decide) hR ?_
      refine zq_iload_n K dX3_server_25 rfl rfl ?_
      refine zm_ld K (f) dX3_server_26 (k := 11) (by decide) hR rfl (show f < 96 by omega) ?_
      exact kk _
    · exact absurd h9 h0
  | succ k ih =>
    intro f hx h3 h4 kk
    refine zq_aload_n K dX3_server_2 rfl rfl ?_
    refine zm_ar K dX3_server_3 zf_X3_33 (k := 11) (by decide) hR ?_
    refine zq_iload_n K dX3_server_6 rfl rfl ?_
    refine zm_ld K (f) dX3_server_7 (k := 11) (by decide) hR rfl (show f < 96 by omega) ?_
    refine zq_iconst K dX3_server_8 (v := -1) (by decide) ?_
    refine zq_icmp_ne K 21 dX3_server_9 (by decide) (fun h9 => ?_) (fun h9 => ?_)
    · rw [show zsvN A (k + 1 + 1) f = A.2 11 f from if_neg h9] at kk
      refine zq_aload_n K dX3_server_21 rfl rfl ?_
      refine zm_ar K dX3_server_22 zf_X3_33 (k := 11) (by decide) hR ?_
      refine zq_iload_n K dX3_server_25 rfl rfl ?_
      refine zm_ld K (f) dX3_server_26 (k := 11) (by decide) hR rfl (show f < 96 by omega) ?_
      exact kk _
    · obtain ⟨hu, hx1⟩ := zDp_up hF hx h3 h4 h9
      obtain ⟨z1, z2, z3, z4⟩ := zinh_ok hF hu
      rw [show zsvN A (k + 1 + 1) f = zsvN A (k + 1) (zinh A f) from if_pos h9] at kk
      refine zq_aload_n K dX3_server_12 rfl rfl ?_
      refine zq_iload_n K dX3_server_13 rfl rfl ?_
      refine zq_callV (As := [.int (nI (f))]) K dX3_server_14 zyX3_inherited zm_X3_73 ziX3_inherited zvX3_inherited zclX3 rfl (by decide) rfl rfl (Nat.le_of_ble_eq_true rfl) (Nat.le_of_ble_eq_true rfl) hR.1 (ct_X3_inherited hR h3 hF hu) (zone_r ?_) zone_x (Nat.le_refl _)
      refine zq_istore_n K dX3_server_17 rfl (by decide) ?_
      refine zq_goto K 2 dX3_server_18 (by decide) ?_
      exact ih (zinh A f) (by rw [z2]; exact hx1) z1 z3 kk
theorem ct_X3_server {G : ZG} {M : ZM} {x : Nat} {q : Nat → Nat} {w : Int32} {A : ZA} (hR : zR M x q w A) {f : Nat} (hF : zFr A) (hx : zDp A 11 (f / 8)) (h3 : f < 96) (h4 : ¬ A.2 10 f = 0) : zMet G mX3_server [.ref (x), .int (nI (f))] M (zone (some (.int (zsv A f))) M) := by
  refine zbody zyX3_server [some (.ref (x)), some (.int (nI (f))), none] rfl (Nat.le_of_ble_eq_true rfl) (by intro v hv; simp only [List.mem_cons, List.not_mem_nil, or_false] at hv; rcases hv with rfl | rfl <;> rfl) (fun E K => ?_)
  refine zq_iload_n K dX3_server_0 rfl rfl ?_
  refine zq_istore_n K dX3_server_1 rfl (by decide) ?_
  exact lp_X3_server K hR hF 11 f hx h3 h4 (fun L => zq_iret K dX3_server_27 rfl ⟨rfl, rfl⟩)
theorem zfzN_no {A : ZA} (h : A.1 16 = -1) : ∀ k f, zfzN A k f = false
  | 0, _ => rfl
  | k + 1, f => by
    unfold zfzN
    rw [if_neg (fun z => z.1 h)]
    split
    · exact zfzN_no h k _
    · rfl
theorem zfzN_at {A : ZA} {f : Nat} (h : ¬ A.1 16 = -1) (e : nI f = A.1 16) (k : Nat) : zfzN A (k + 1) f = true := by
  unfold zfzN
  rw [if_pos ⟨h, e⟩]
theorem zfzN_own {A : ZA} {f : Nat} (e : ¬ nI f = A.1 16) (h : ¬ A.2 11 f = -1) (k : Nat) : zfzN A (k + 1) f = false := by
  unfold zfzN
  rw [if_neg (fun z => e z.2), if_neg h]
theorem zfzN_up {A : ZA} {f : Nat} (e : ¬ nI f = A.1 16) (h : A.2 11 f = -1) (k : Nat) : zfzN A (k + 1) f = zfzN A k (zinh A f) := by
  rw [zfzN, if_neg (fun z => e z.2), if_pos h]
theorem lp_X3_frozen {G : ZG} {E : ZE} (K : zOK mX3_frozen [] G E) {M : ZM} {x : Nat} {q : Nat → Nat} {w : Int32} {A : ZA} (hR : zR M x q w A) (hF : zFr A) {y : Int32} {P : ZO → ZM → Prop} : ∀ (k f : Nat), zDp A k (f / 8) → f < 96 → ¬ A.2 10 f = 0 → (zfzN A (k + 1) f = true → P (.inl (some (.int (nI 1)))) M) → (zfzN A (k + 1) f = false → P (.inl (some (.int (nI 0)))) M) → WW E G (zyu mX3_frozen) (zQ E G mX3_frozen P) M 0 2 [some (.ref x), some (.int y), some (.int (nI f))] [] := by
  intro k
  induction k with
  | zero =>
    intro f hx h3 h4 k1 k0
    have h0 := zDp_0 hF hx h3 h4
    refine zq_aload_n K dX3_frozen_2 rfl rfl ?_
    refine zm_sc K dX3_frozen_3 zf_X3_48 (k := 16) (by decide) hR ?_
    refine zq_iconst K dX3_frozen_6 (v := -1) (by decide) ?_
    refine zq_icmp_eq K 37 dX3_frozen_7 (by decide) (fun h7 => ?_) (fun h7 => ?_)
    · refine zq_aload_n K dX3_frozen_37 rfl rfl ?_
      refine zm_sc K dX3_frozen_38 zf_X3_48 (k := 16) (by decide) hR ?_
      refine zq_iconst K dX3_frozen_41 (v := -1) (by decide) ?_
      refine zq_icmp_eq K 57 dX3_frozen_42 (by decide) (fun h42 => ?_) (fun h42 => absurd h7 h42)
      refine zq_iconst K dX3_frozen_57 (v := nI 0) (by decide) ?_
      exact zq_zret K dX3_frozen_58 rfl (by decide) (k0 (zfzN_no h7 _ _))
    · refine zq_iload_n K dX3_frozen_10 rfl rfl ?_
      refine zq_aload_n K dX3_frozen_11 rfl rfl ?_
      refine zm_sc K dX3_frozen_12 zf_X3_48 (k := 16) (by decide) hR ?_
      refine zq_icmp_eq K 37 dX3_frozen_15 (by decide) (fun h15 => ?_) (fun h15 => ?_)
      · refine zq_aload_n K dX3_frozen_37 rfl rfl ?_
        refine zm_sc K dX3_frozen_38 zf_X3_48 (k := 16) (by decide) hR ?_
        refine zq_iconst K dX3_frozen_41 (v := -1) (by decide) ?_
        refine zq_icmp_eq K 57 dX3_frozen_42 (by decide) (fun h42 => absurd h42 h7) (fun h42 => ?_)
        refine zq_iload_n K dX3_frozen_45 rfl rfl ?_
        refine zq_aload_n K dX3_frozen_46 rfl rfl ?_
        refine zm_sc K dX3_frozen_47 zf_X3_48 (k := 16) (by decide) hR ?_
        refine zq_icmp_ne K 57 dX3_frozen_50 (by decide) (fun z => absurd h15 z) (fun z => ?_)
        refine zq_iconst K dX3_frozen_53 (v := nI 1) (by decide) ?_
        refine zq_goto K 58 dX3_frozen_54 (by decide) ?_
        exact zq_zret K dX3_frozen_58 rfl (by decide) (k1 (zfzN_at h7 h15 _))
      · refine zq_aload_n K dX3_frozen_18 rfl rfl ?_
        refine zm_ar K dX3_frozen_19 zf_X3_33 (k := 11) (by decide) hR ?_
        refine zq_iload_n K dX3_frozen_22 rfl rfl ?_
        refine zm_ld K (f) dX3_frozen_23 (k := 11) (by decide) hR rfl (show f < 96 by omega) ?_
        refine zq_iconst K dX3_frozen_24 (v := -1) (by decide) ?_
        refine zq_icmp_ne K 37 dX3_frozen_25 (by decide) (fun h25 => ?_) (fun h25 => ?_)
        · refine zq_aload_n K dX3_frozen_37 rfl rfl ?_
          refine zm_sc K dX3_frozen_38 zf_X3_48 (k := 16) (by decide) hR ?_
          refine zq_iconst K dX3_frozen_41 (v := -1) (by decide) ?_
          refine zq_icmp_eq K 57 dX3_frozen_42 (by decide) (fun h42 => absurd h42 h7) (fun h42 => ?_)
          refine zq_iload_n K dX3_frozen_45 rfl rfl ?_
          refine zq_aload_n K dX3_frozen_46 rfl rfl ?_
          refine zm_sc K dX3_frozen_47 zf_X3_48 (k := 16) (by decide) hR ?_
          refine zq_icmp_ne K 57 dX3_frozen_50 (by decide) (fun z => ?_) (fun z => absurd z h15)
          refine zq_iconst K dX3_frozen_57 (v := nI 0) (by decide) ?_
          exact zq_zret K dX3_frozen_58 rfl (by decide) (k0 (zfzN_own h15 h25 _))
        · exact absurd h25 h0
  | succ k ih =>
    intro f hx h3 h4 k1 k0
    refine zq_aload_n K dX3_frozen_2 rfl rfl ?_
    refine zm_sc K dX3_frozen_3 zf_X3_48 (k := 16) (by decide) hR ?_
    refine zq_iconst K dX3_frozen_6 (v := -1) (by decide) ?_
    refine zq_icmp_eq K 37 dX3_frozen_7 (by decide) (fun h7 => ?_) (fun h7 => ?_)
    · refine zq_aload_n K dX3_frozen_37 rfl rfl ?_
      refine zm_sc K dX3_frozen_38 zf_X3_48 (k := 16) (by decide) hR ?_
      refine zq_iconst K dX3_frozen_41 (v := -1) (by decide) ?_
      refine zq_icmp_eq K 57 dX3_frozen_42 (by decide) (fun h42 => ?_) (fun h42 => absurd h7 h42)
      refine zq_iconst K dX3_frozen_57 (v := nI 0) (by decide) ?_
      exact zq_zret K dX3_frozen_58 rfl (by decide) (k0 (zfzN_no h7 _ _))
    · refine zq_iload_n K dX3_frozen_10 rfl rfl ?_
      refine zq_aload_n K dX3_frozen_11 rfl rfl ?_
      refine zm_sc K dX3_frozen_12 zf_X3_48 (k := 16) (by decide) hR ?_
      refine zq_icmp_eq K 37 dX3_frozen_15 (by decide) (fun h15 => ?_) (fun h15 => ?_)
      · refine zq_aload_n K dX3_frozen_37 rfl rfl ?_
        refine zm_sc K dX3_frozen_38 zf_X3_48 (k := 16) (by decide) hR ?_
        refine zq_iconst K dX3_frozen_41 (v := -1) (by decide) ?_
        refine zq_icmp_eq K 57 dX3_frozen_42 (by decide) (fun h42 => absurd h42 h7) (fun h42 => ?_)
        refine zq_iload_n K dX3_frozen_45 rfl rfl ?_
        refine zq_aload_n K dX3_frozen_46 rfl rfl ?_
        refine zm_sc K dX3_frozen_47 zf_X3_48 (k := 16) (by decide) hR ?_
        refine zq_icmp_ne K 57 dX3_frozen_50 (by decide) (fun z => absurd h15 z) (fun z => ?_)
        refine zq_iconst K dX3_frozen_53 (v := nI 1) (by decide) ?_
        refine zq_goto K 58 dX3_frozen_54 (by decide) ?_
        exact zq_zret K dX3_frozen_58 rfl (by decide) (k1 (zfzN_at h7 h15 _))
      · refine zq_aload_n K dX3_frozen_18 rfl rfl ?_
        refine zm_ar K dX3_frozen_19 zf_X3_33 (k := 11) (by decide) hR ?_
        refine zq_iload_n K dX3_frozen_22 rfl rfl ?_
        refine zm_ld K (f) dX3_frozen_23 (k := 11) (by decide) hR rfl (show f < 96 by omega) ?_
        refine zq_iconst K dX3_frozen_24 (v := -1) (by decide) ?_
        refine zq_icmp_ne K 37 dX3_frozen_25 (by decide) (fun h25 => ?_) (fun h25 => ?_)
        · refine zq_aload_n K dX3_frozen_37 rfl rfl ?_
          refine zm_sc K dX3_frozen_38 zf_X3_48 (k := 16) (by decide) hR ?_
          refine zq_iconst K dX3_frozen_41 (v := -1) (by decide) ?_
          refine zq_icmp_eq K 57 dX3_frozen_42 (by decide) (fun h42 => absurd h42 h7) (fun h42 => ?_)
          refine zq_iload_n K dX3_frozen_45 rfl rfl ?_
          refine zq_aload_n K dX3_frozen_46 rfl rfl ?_
          refine zm_sc K dX3_frozen_47 zf_X3_48 (k := 16) (by decide) hR ?_
          refine zq_icmp_ne K 57 dX3_frozen_50 (by decide) (fun z => ?_) (fun z => absurd z h15)
          refine zq_iconst K dX3_frozen_57 (v := nI 0) (by decide) ?_
          exact zq_zret K dX3_frozen_58 rfl (by decide) (k0 (zfzN_own h15 h25 _))
        · obtain ⟨hu, hx1⟩ := zDp_up hF hx h3 h4 h25
          obtain ⟨z1, z2, z3, z4⟩ := zinh_ok hF hu
          refine zq_aload_n K dX3_frozen_28 rfl rfl ?_
          refine zq_iload_n K dX3_frozen_29 rfl rfl ?_
          refine zq_callV (As := [.int (nI (f))]) K dX3_frozen_30 zyX3_inherited zm_X3_73 ziX3_inherited zvX3_inherited zclX3 rfl (by decide) rfl rfl (Nat.le_of_ble_eq_true rfl) (Nat.le_of_ble_eq_true rfl) hR.1 (ct_X3_inherited hR h3 hF hu) (zone_r ?_) zone_x (Nat.le_refl _)
          refine zq_istore_n K dX3_frozen_33 rfl (by decide) ?_
          refine zq_goto K 2 dX3_frozen_34 (by decide) ?_
          exact ih (zinh A f) (by rw [z2]; exact hx1) z1 z3 (fun z => k1 ((zfzN_up h15 h25 _).trans z)) (fun z => k0 ((zfzN_up h15 h25 _).trans z))
theorem ct_X3_frozen {G : ZG} {M : ZM} {x : Nat} {q : Nat → Nat} {w : Int32} {A : ZA} (hR : zR M x q w A) {f : Nat} (hF : zFr A) (hx : zDp A 11 (f / 8)) (h3 : f < 96) (h4 : ¬ A.2 10 f = 0) : zMet G mX3_frozen [.ref (x), .int (nI (f))] M (zdec (zfz A f = true) M) := by
  refine zbody zyX3_frozen [some (.ref (x)), some (.int (nI (f))), none] rfl (Nat.le_of_ble_eq_true rfl) (by intro v hv; simp only [List.mem_cons, List.not_mem_nil, or_false] at hv; rcases hv with rfl | rfl <;> rfl) (fun E K => ?_)
  refine zq_iload_n K dX3_frozen_0 rfl rfl ?_
  refine zq_istore_n K dX3_frozen_1 rfl (by decide) ?_
  exact lp_X3_frozen K hR hF 11 f hx h3 h4 (fun h => zdec_1 h) (fun h => zdec_0 (fun z => Bool.false_ne_true (h.symm.trans z)))
theorem ct_X3_isFrozenName {G : ZG} {M : ZM} {x : Nat} {q : Nat → Nat} {w : Int32} {A : ZA} (hR : zR M x q w A) {d n : Nat} (hF : zFr A) (hx : zDp A 11 d) (hd : d < 12) (hl : A.2 3 d = 1) (hn : n < 50) : zMet G mX3_isFrozenName [.ref (x), .int (nI (d)), .int (nI (n))] M (zdec (zfz A (zfn A d n) = true) M) := by
  refine zbody zyX3_isFrozenName [some (.ref (x)), some (.int (nI (d))), some (.int (nI (n)))] rfl (Nat.le_of_ble_eq_true rfl) (by intro v hv; simp only [List.mem_cons, List.not_mem_nil, or_false] at hv; rcases hv with rfl | rfl | rfl <;> rfl) (fun E K => ?_)
  refine zq_aload_n K dX3_isFrozenName_0 rfl rfl ?_
  refine zq_aload_n K dX3_isFrozenName_1 rfl rfl ?_
  refine zq_iload_n K dX3_isFrozenName_2 rfl rfl ?_
  refine zq_iload_n K dX3_isFrozenName_3 rfl rfl ?_
  refine zq_callV (As := [.int (nI (d)), .int (nI (n))]) K dX3_isFrozenName_4 zyX3_fragmentOfName zm_X3_70 ziX3_fragmentOfName zvX3_fragmentOfName zclX3 rfl (by decide) rfl rfl (Nat.le_of_ble_eq_true rfl) (Nat.le_of_ble_eq_true rfl) hR.1 (ct_X3_fragmentOfName hR hd hn (hF.1 d hd hl)) (zone_r ?_) zone_x (Nat.le_refl _)
  refine zq_callV (As := [.int (nI (zfn A d n))]) K dX3_isFrozenName_7 zyX3_frozen zm_X3_76 ziX3_frozen zvX3_frozen zclX3 rfl (by decide) rfl rfl (Nat.le_of_ble_eq_true rfl) (Nat.le_of_ble_eq_true rfl) hR.1 (ct_X3_frozen hR hF (by rw [zfn_div]; exact hx) (zfn_lt A hd) (zfg_ne (hF.1 d hd hl) _)) (zdec_r (fun h => ?_) (fun h => ?_)) zdec_x (Nat.le_refl _)
  · exact zq_zret K dX3_isFrozenName_10 rfl (by decide) (zdec_1 h)
  · exact zq_zret K dX3_isFrozenName_10 rfl (by decide) (zdec_0 h)
/-- all leases on a name end; those of others than ex are recalled: for the first k clients -/
def zEn (A : ZA) (a : Nat) (ex : Int32) : Nat → ZA
  | 0 => A
  | k + 1 => zsa (zsa (zEn A a ex k) 14 k ((zEn A a ex k).2 14 k + (if ¬ nI k = ex ∧ (zEn A a ex k).1 1 < (zEn A a ex k).2 13 (600 * k + a) then nI 1 else nI 0))) 13 (600 * k + a) (nI 0)
theorem lp_X3_ends {G : ZG} {E : ZE} (K : zOK mX3_ends [] G E) {M0 : ZM} {x : Nat} {q : Nat → Nat} {w : Int32} {A : ZA} {a : Nat} (ha : a < 600) (ex : Int32) {P : ZO → ZM → Prop} (hP : ∀ M, zR M x q w (zEn A a ex 4) → zSm x q M0 M → P (.inl none) M) : ∀ (n k : Nat), k + n = 4 → ∀ (M : ZM), zR M x q w (zEn A a ex k) → zSm x q M0 M → WW E G (zyu mX3_ends) (zQ E G mX3_ends P) M 0 2 [some (.ref x), some (.int (nI a)), some (.int ex), some (.int (nI k))] [] := by
  intro n
  induction n with
  | zero =>
    intro k hk M hR hS
    have hk4 : k = 4 := by omega
    subst hk4
    refine zq_iload_n K dX3_ends_2 rfl rfl ?_
    refine zq_iconst K dX3_ends_3 (v := nI 4) (by decide) ?_
    refine zq_icmp_geN K (x := 4) (y := 4) 54 dX3_ends_4 (by decide) ⟨by omega, by omega⟩ (fun h4 => ?_) (fun h4 => by omega)
    exact zq_ret K dX3_ends_54 rfl (hP M hR hS)
  | succ n ih =>
    intro k hk M hR hS
    refine zq_iload_n K dX3_ends_2 rfl rfl ?_
    refine zq_iconst K dX3_ends_3 (v := nI 4) (by decide) ?_
    refine zq_icmp_geN K (x := k) (y := 4) 54 dX3_ends_4 (by decide) ⟨by omega, by omega⟩ (fun h4 => by omega) (fun h4 => ?_)
    refine zq_aload_n K dX3_ends_7 rfl rfl ?_
    refine zm_ar K dX3_ends_8 zf_X3_42 (k := 14) (by decide) hR ?_
    refine zq_iload_n K dX3_ends_11 rfl rfl ?_
    refine zq_dup2 K dX3_ends_12 rfl rfl ?_
    refine zm_ld K (k) dX3_ends_13 (k := 14) (by decide) hR rfl (show k < 4 by omega) ?_
    refine zq_iload_n K dX3_ends_14 rfl rfl ?_
    refine zq_iload_n K dX3_ends_15 rfl rfl ?_
    refine zq_icmp_eq K 32 dX3_ends_16 (by decide) (fun h16 => ?_) (fun h16 => ?_)
    · refine zq_iconst K dX3_ends_32 (v := nI 0) (by decide) ?_
      refine zq_top (v := (if ¬ nI k = ex ∧ (zEn A a ex k).1 1 < (zEn A a ex k).2 13 (600 * k + a) then nI 1 else nI 0)) (if_neg (fun z => z.1 h16)).symm ?_
      refine zq_iadd K dX3_ends_33 ?_
      refine zm_st K (k) dX3_ends_34 (k := 14) (by decide) hR hS rfl (show k < 4 by omega) (fun M hR hS => ?_)
      refine zq_aload_n K dX3_ends_35 rfl rfl ?_
      refine zm_ar K dX3_ends_36 zf_X3_39 (k := 13) (by decide) hR ?_
      refine zq_sipush K dX3_ends_39 (v := nI 600) (by decide) ?_
      refine zq_iload_n K dX3_ends_42 rfl rfl ?_
      refine zq_imulN K (x := 600) (y := k) dX3_ends_43 ?_
      refine zq_iload_n K dX3_ends_44 rfl rfl ?_
      refine zq_iaddN K (x := (600) * (k)) (y := a) dX3_ends_45 ?_
      refine zq_iconst K dX3_ends_46 (v := nI 0) (by decide) ?_
      refine zm_st K (((600) * (k)) + (a)) dX3_ends_47 (k := 13) (by decide) hR hS rfl (show ((600) * (k)) + (a) < 2400 by omega) (fun M hR hS => ?_)
      refine zq_iincN K dX3_ends_48 rfl (by decide) ?_
      refine zq_goto K 2 dX3_ends_51 (by decide) ?_
      exact ih (k + 1) (by omega) M hR hS
    · refine zq_aload_n K dX3_ends_19 rfl rfl ?_
      refine zq_iload_n K dX3_ends_20 rfl rfl ?_
      refine zq_iload_n K dX3_ends_21 rfl rfl ?_
      refine zq_callV (As := [.int (nI (k)), .int (nI (a))]) K dX3_ends_22 zyX3_runs zm_X3_83 ziX3_runs zvX3_runs zclX3 rfl (by decide) rfl rfl (Nat.le_of_ble_eq_true rfl) (Nat.le_of_ble_eq_true rfl) hR.1 (ct_X3_runs hR (c := k) (a := a) (by omega) ha) (zdec_r (fun h22 => ?_) (fun h22 => ?_)) zdec_x (Nat.le_refl _)
      · refine zq_if_eqN K (x := 1) 32 dX3_ends_25 (by decide) (by omega) (fun h25 => by omega) (fun h25 => ?_)
        refine zq_iconst K dX3_ends_28 (v := nI 1) (by decide) ?_
        refine zq_goto K 33 dX3_ends_29 (by decide) ?_
        refine zq_top (v := (if ¬ nI k = ex ∧ (zEn A a ex k).1 1 < (zEn A a ex k).2 13 (600 * k + a) then nI 1 else nI 0)) (if_pos ⟨h16, h22⟩).symm ?_
        refine zq_iadd K dX3_ends_33 ?_
        refine zm_st K (k) dX3_ends_34 (k := 14) (by decide) hR hS rfl (show k < 4 by omega) (fun M hR hS => ?_)
        refine zq_aload_n K dX3_ends_35 rfl rfl ?_
        refine zm_ar K dX3_ends_36 zf_X3_39 (k := 13) (by decide) hR ?_
        refine zq_sipush K dX3_ends_39 (v := nI 600) (by decide) ?_
        refine zq_iload_n K dX3_ends_42 rfl rfl ?_
        refine zq_imulN K (x := 600) (y := k) dX3_ends_43 ?_
        refine zq_iload_n K dX3_ends_44 rfl rfl ?_
        refine zq_iaddN K (x := (600) * (k)) (y := a) dX3_ends_45 ?_
        refine zq_iconst K dX3_ends_46 (v := nI 0) (by decide) ?_
        refine zm_st K (((600) * (k)) + (a)) dX3_ends_47 (k := 13) (by decide) hR hS rfl (show ((600) * (k)) + (a) < 2400 by omega) (fun M hR hS => ?_)
        refine zq_iincN K dX3_ends_48 rfl (by decide) ?_
        refine zq_goto K 2 dX3_ends_51 (by decide) ?_
        exact ih (k + 1) (by omega) M hR hS
      · refine zq_if_eqN K (x := 0) 32 dX3_ends_25 (by decide) (by omega) (fun h25 => ?_) (fun h25 => by omega)
        refine zq_iconst K dX3_ends_32 (v := nI 0) (by decide) ?_
        refine zq_top (v := (if ¬ nI k = ex ∧ (zEn A a ex k).1 1 < (zEn A a ex k).2 13 (600 * k + a) then nI 1 else nI 0)) (if_neg (fun z => h22 z.2)).symm ?_
        refine zq_iadd K dX3_ends_33 ?_
        refine zm_st K (k) dX3_ends_34 (k := 14) (by decide) hR hS rfl (show k < 4 by omega) (fun M hR hS => ?_)
        refine zq_aload_n K dX3_ends_35 rfl rfl ?_
        refine zm_ar K dX3_ends_36 zf_X3_39 (k := 13) (by decide) hR ?_
        refine zq_sipush K dX3_ends_39 (v := nI 600) (by decide) ?_
        refine zq_iload_n K dX3_ends_42 rfl rfl ?_
        refine zq_imulN K (x := 600) (y := k) dX3_ends_43 ?_
        refine zq_iload_n K dX3_ends_44 rfl rfl ?_
        refine zq_iaddN K (x := (600) * (k)) (y := a) dX3_ends_45 ?_
        refine zq_iconst K dX3_ends_46 (v := nI 0) (by decide) ?_
        refine zm_st K (((600) * (k)) + (a)) dX3_ends_47 (k := 13) (by decide) hR hS rfl (show ((600) * (k)) + (a) < 2400 by omega) (fun M hR hS => ?_)
        refine zq_iincN K dX3_ends_48 rfl (by decide) ?_
        refine zq_goto K 2 dX3_ends_51 (by decide) ?_
        exact ih (k + 1) (by omega) M hR hS
theorem ct_X3_ends {G : ZG} {M : ZM} {x : Nat} {q : Nat → Nat} {w : Int32} {A : ZA} (hR : zR M x q w A) {a : Nat} (ha : a < 600) (ex : Int32) : zMet G mX3_ends [.ref (x), .int (nI (a)), .int (ex)] M (zRP x q M none w (zEn A a ex 4)) := by
  refine zbody zyX3_ends [some (.ref (x)), some (.int (nI (a))), some (.int (ex)), none] rfl (Nat.le_of_ble_eq_true rfl) (by intro v hv; simp only [List.mem_cons, List.not_mem_nil, or_false] at hv; rcases hv with rfl | rfl | rfl <;> rfl) (fun E K => ?_)
  have hS : zSm x q M M := zSm.rf
  refine zq_iconst K dX3_ends_0 (v := nI 0) (by decide) ?_
  refine zq_istore_n K dX3_ends_1 rfl (by decide) ?_
  exact lp_X3_ends K ha ex (fun M hR hS => ⟨rfl, hR, hS⟩) 4 0 rfl M hR hS
/-- a client changes a name -/
def zCh (A : ZA) (c : Int32) (d n : Nat) : ZA := zEn (zsa A 12 (zfn A d n) (A.2 12 (zfn A d n) + nI 1)) (50 * d + n) c 4
theorem ct_X3_changes {G : ZG} {M : ZM} {x : Nat} {q : Nat → Nat} {w : Int32} {A : ZA} (hR : zR M x q w A) {d n : Nat} (c : Int32) (hd : d < 12) (hn : n < 50) (h0 : ¬ A.2 10 (8 * d) = 0) : zMet G mX3_changes [.ref (x), .int (c), .int (nI (d)), .int (nI (n))] M (zRP x q M none w (zCh A c d n)) := by
  refine zbody zyX3_changes [some (.ref (x)), some (.int (c)), some (.int (nI (d))), some (.int (nI (n)))] rfl (Nat.le_of_ble_eq_true rfl) (by intro v hv; simp only [List.mem_cons, List.not_mem_nil, or_false] at hv; rcases hv with rfl | rfl | rfl | rfl <;> rfl) (fun E K => ?_)
  have hS : zSm x q M M := zSm.rf
  refine zq_aload_n K dX3_changes_0 rfl rfl ?_
  refine zm_ar K dX3_changes_1 zf_X3_36 (k := 12) (by decide) hR ?_
  refine zq_aload_n K dX3_changes_4 rfl rfl ?_
  refine zq_iload_n K dX3_changes_5 rfl rfl ?_
  refine zq_iload_n K dX3_changes_6 rfl rfl ?_
  have h96 := zfn_lt A (d := d) (n := n) hd
  refine zq_callV (As := [.int (nI (d)), .int (nI (n))]) K dX3_changes_7 zyX3_fragmentOfName zm_X3_70 ziX3_fragmentOfName zvX3_fragmentOfName zclX3 rfl (by decide) rfl rfl (Nat.le_of_ble_eq_true rfl) (Nat.le_of_ble_eq_true rfl) hR.1 (ct_X3_fragmentOfName hR hd hn h0) (zone_r ?_) zone_x (Nat.le_refl _)
  refine zq_dup2 K dX3_changes_10 rfl rfl ?_
  refine zm_ld K (zfn A d n) dX3_changes_11 (k := 12) (by decide) hR rfl (show zfn A d n < 96 by omega) ?_
  refine zq_iconst K dX3_changes_12 (v := nI 1) (by decide) ?_
  refine zq_iadd K dX3_changes_13 ?_
  refine zm_st K (zfn A d n) dX3_changes_14 (k := 12) (by decide) hR hS rfl (show zfn A d n < 96 by omega) (fun M hR hS => ?_)
  refine zq_aload_n K dX3_changes_15 rfl rfl ?_
  refine zq_iload_n K dX3_changes_16 rfl rfl ?_
  refine zq_iload_n K dX3_changes_17 rfl rfl ?_
  refine zq_callS (As := [.int (nI (d)), .int (nI (n))]) K dX3_changes_18 zyX3_at zm_X3_87 zsX3_at rfl (by decide) rfl rfl (Nat.le_of_ble_eq_true rfl) (Nat.le_of_ble_eq_true rfl) (ct_X3_at d n _) (zone_r ?_) zone_x (Nat.le_refl _)
  refine zq_iload_n K dX3_changes_21 rfl rfl ?_
  refine zq_callV (As := [.int (nI (50 * d + n)), .int (c)]) K dX3_changes_22 zyX3_ends zm_X3_90 ziX3_ends zvX3_ends zclX3 rfl (by decide) rfl rfl (Nat.le_of_ble_eq_true rfl) (Nat.le_of_ble_eq_true rfl) hR.1 (ct_X3_ends hR (show 50 * d + n < 600 by omega) c) (zRP_r hS (fun M hR hS => ?_)) zRP_x (Nat.le_refl _)
  exact zq_ret K dX3_changes_25 rfl ⟨rfl, hR, hS⟩

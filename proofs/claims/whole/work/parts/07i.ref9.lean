/-! the reference: anchor, a new one -/
theorem zdvI (n : Nat) (c0 : ClassId) (M : ZM) (a : Nat) : vp_cell c0 (zct (zw M a (0 + 5) n) a (0 + 5)) = arrV c0 n (fun _ => defaultValue .int) := by
  have e : zct (zw M a 5 n) a 5 = (n, .inl fun _ => 0) := by
    unfold zct
    rw [zn_w, if_pos rfl, if_pos (Or.inl rfl), show zi (zw M a 5 n) a = fun _ => 0 from funext fun j => by rw [zi_w, if_pos rfl]]
  rw [e]
  rfl
theorem zq_newI {t : ZY} {tb : List ExceptionTableEntry} {E : ZE} {G : ZG} {u : Nat} {Q : State → Prop} {M : ZM} {b pc : Nat} {L : List (Option Value)} {S : List Value} (K : zOK t tb G E) (n k : Nat) (hd : decode (zyc t) pc = .ok (.newarray .int, 2)) (hn : n ≤ 65536) (hb : 1 ≤ k ∧ n ≤ 64 * k ∧ k ≤ b) (hu : u ≤ zyu t) (kk : ∀ a, zk M a = 0 → WW E G u Q (zw M a 5 n) (b - k) (pc + 2) L (.ref a :: S)) : WW E G u Q M b pc L (.int (nI n) :: S) :=
  zq_newarr K 0 n hd rfl rfl (by decide) (fun C h => nomatch h) (zt 110 (by decide +kernel) rfl) rfl hn (zdvI n) k hb hu (by decide) kk
theorem zdvZ (n : Nat) (c0 : ClassId) (M : ZM) (a : Nat) : vp_cell c0 (zct (zw M a (1 + 5) n) a (1 + 5)) = arrV c0 n (fun _ => defaultValue .boolean) := by
  have e : zct (zw M a 6 n) a 6 = (n, .inl fun _ => 0) := by
    unfold zct
    rw [zn_w, if_pos rfl, if_pos (Or.inr rfl), show zi (zw M a 6 n) a = fun _ => 0 from funext fun j => by rw [zi_w, if_pos rfl]]
  rw [e]
  rfl
theorem zq_newZ {t : ZY} {tb : List ExceptionTableEntry} {E : ZE} {G : ZG} {u : Nat} {Q : State → Prop} {M : ZM} {b pc : Nat} {L : List (Option Value)} {S : List Value} (K : zOK t tb G E) (n k : Nat) (hd : decode (zyc t) pc = .ok (.newarray .boolean, 2)) (hn : n ≤ 65536) (hb : 1 ≤ k ∧ n ≤ 64 * k ∧ k ≤ b) (hu : u ≤ zyu t) (kk : ∀ a, zk M a = 0 → WW E G u Q (zw M a 6 n) (b - k) (pc + 2) L (.ref a :: S)) : WW E G u Q M b pc L (.int (nI n) :: S) :=
  zq_newarr K 1 n hd rfl rfl (by decide) (fun C h => nomatch h) (zt 713 (by decide +kernel) rfl) rfl hn (zdvZ n) k hb hu (by decide) kk
theorem zdvJ (n : Nat) (c0 : ClassId) (M : ZM) (a : Nat) : vp_cell c0 (zct (zw M a (2 + 5) n) a (2 + 5)) = arrV c0 n (fun _ => defaultValue .long) := by
  have e : zct (zw M a 7 n) a 7 = (n, .inr (.inl fun _ => 0)) := by
    unfold zct
    rw [zn_w, if_pos rfl, if_neg (by decide), if_pos rfl, show zj (zw M a 7 n) a = fun _ => 0 from funext fun j => by rw [zj_w, if_pos rfl]]
  rw [e]
  rfl
theorem zq_newJ {t : ZY} {tb : List ExceptionTableEntry} {E : ZE} {G : ZG} {u : Nat} {Q : State → Prop} {M : ZM} {b pc : Nat} {L : List (Option Value)} {S : List Value} (K : zOK t tb G E) (n k : Nat) (hd : decode (zyc t) pc = .ok (.newarray .long, 2)) (hn : n ≤ 65536) (hb : 1 ≤ k ∧ n ≤ 64 * k ∧ k ≤ b) (hu : u ≤ zyu t) (kk : ∀ a, zk M a = 0 → WW E G u Q (zw M a 7 n) (b - k) (pc + 2) L (.ref a :: S)) : WW E G u Q M b pc L (.int (nI n) :: S) :=
  zq_newarr K 2 n hd rfl rfl (by decide) (fun C h => nomatch h) (zt 932 (by decide +kernel) rfl) rfl hn (zdvJ n) k hb hu (by decide) kk
/-- the youngest place of f among the first k -/
def zAn (A : ZA) (f : Int32) : Nat → Option Nat
  | 0 => none
  | k + 1 => if A.2 6 k = f then (match zAn A f k with
      | none => some k
      | some j => if A.2 7 j ≤ A.2 7 k then some j else some k) else zAn A f k
theorem zAn_lt {A : ZA} {f : Int32} : ∀ {k j : Nat}, zAn A f k = some j → j < k
  | 0, j, h => nomatch h
  | k + 1, j, h => by
    unfold zAn at h
    split at h
    · split at h
      · cases h
        omega
      · rename_i j' e
        have h9 := zAn_lt e
        split at h <;> cases h <;> omega
    · have := zAn_lt h
      omega
def zAv : Option Nat → Int32
  | none => -1
  | some i => nI (100 * (i / 50) + i % 50)
theorem lp_X3_anc2 {G : ZG} {E : ZE} (K : zOK mX3_anchor [] G E) {M : ZM} {x : Nat} {q : Nat → Nat} {A : ZA} {f : Int32} (hR : zR M x q (nI 0) A) {Q : State → Prop} (kk : WW E G (zyu mX3_anchor) Q M 0 83 [some (.ref x), some (.int f), some (.int (zo1 (zAn A f 600))), some (.int (nI 600))] []) : ∀ (n k : Nat), k + n = 600 → WW E G (zyu mX3_anchor) Q M 0 27 [some (.ref x), some (.int f), some (.int (zo1 (zAn A f k))), some (.int (nI k))] [] := by
  intro n
  induction n with
  | zero =>
    intro k hk
    have hk4 : k = 600 := by omega
    subst hk4
    refine zq_iload_n K dX3_anchor_27 rfl rfl ?_
    refine zq_sipush K dX3_anchor_28 (v := nI 600) (by decide) ?_
    refine zq_icmp_geN K (x := 600) (y := 600) 83 dX3_anchor_31 (by decide) ⟨by omega, by omega⟩ (fun h31 => ?_) (fun h31 => by omega)
    exact kk
  | succ n ih =>
    intro k hk
    have h99 : ∀ (z : Int32), zo1 (zAn A f (k + 1)) = z → WW E G (zyu mX3_anchor) Q M 0 27 [some (.ref x), some (.int f), some (.int z), some (.int (nI (k + 1)))] [] := by
      intro z e
      subst e
      exact ih (k + 1) (by omega)
    rcases e9 : zAn A f k with _ | j
    · refine zq_iload_n K dX3_anchor_27 rfl rfl ?_
      refine zq_sipush K dX3_anchor_28 (v := nI 600) (by decide) ?_
      refine zq_icmp_geN K (x := k) (y := 600) 83 dX3_anchor_31 (by decide) ⟨by omega, by omega⟩ (fun h31 => by omega) (fun h31 => ?_)
      refine zq_aload_n K dX3_anchor_34 rfl rfl ?_
      refine zm_th K dX3_anchor_35 zf_X3_55 hR ?_
      refine zq_if_neN K (x := 0) 83 dX3_anchor_38 (by decide) (by omega) (fun h38 => by omega) (fun h38 => ?_)
      refine zq_aload_n K dX3_anchor_41 rfl rfl ?_
      refine zm_ar K dX3_anchor_42 zf_X3_24 (k := 6) (by decide) hR ?_
      refine zq_iload_n K dX3_anchor_45 rfl rfl ?_
      refine zm_ld K (k) dX3_anchor_46 (k := 6) (by decide) hR rfl (show k < 600 by omega) ?_
      refine zq_iload_n K dX3_anchor_47 rfl rfl ?_
      refine zq_icmp_ne K 75 dX3_anchor_48 (by decide) (fun h48 => ?_) (fun h48 => ?_)
      · refine zq_iload_n K dX3_anchor_75 rfl rfl ?_
        refine zq_istore_n K dX3_anchor_76 rfl (by decide) ?_
        refine zq_iincN K dX3_anchor_77 rfl (by decide) ?_
        refine zq_goto K 27 dX3_anchor_80 (by decide) ?_
        exact h99 _ (by rw [zAn, if_neg h48, e9])
      · refine zq_iload_n K dX3_anchor_51 rfl rfl ?_
        refine zq_iconst K dX3_anchor_52 (v := -1) (by decide) ?_
        refine zq_icmp_eq K 71 dX3_anchor_53 (by decide) (fun h53 => ?_) (fun h53 => absurd rfl h53)
        refine zq_iload_n K dX3_anchor_71 rfl rfl ?_
        refine zq_goto K 76 dX3_anchor_72 (by decide) ?_
        refine zq_istore_n K dX3_anchor_76 rfl (by decide) ?_
        refine zq_iincN K dX3_anchor_77 rfl (by decide) ?_
        refine zq_goto K 27 dX3_anchor_80 (by decide) ?_
        exact h99 _ (by rw [zAn, if_pos h48, e9]; rfl)
    · refine zq_iload_n K dX3_anchor_27 rfl rfl ?_
      refine zq_sipush K dX3_anchor_28 (v := nI 600) (by decide) ?_
      refine zq_icmp_geN K (x := k) (y := 600) 83 dX3_anchor_31 (by decide) ⟨by omega, by omega⟩ (fun h31 => by omega) (fun h31 => ?_)
      refine zq_aload_n K dX3_anchor_34 rfl rfl ?_
      refine zm_th K dX3_anchor_35 zf_X3_55 hR ?_
      refine zq_if_neN K (x := 0) 83 dX3_anchor_38 (by decide) (by omega) (fun h38 => by omega) (fun h38 => ?_)
      refine zq_aload_n K dX3_anchor_41 rfl rfl ?_
      refine zm_ar K dX3_anchor_42 zf_X3_24 (k := 6) (by decide) hR ?_
      refine zq_iload_n K dX3_anchor_45 rfl rfl ?_
      refine zm_ld K (k) dX3_anchor_46 (k := 6) (by decide) hR rfl (show k < 600 by omega) ?_
      refine zq_iload_n K dX3_anchor_47 rfl rfl ?_
      refine zq_icmp_ne K 75 dX3_anchor_48 (by decide) (fun h48 => ?_) (fun h48 => ?_)
      · refine zq_iload_n K dX3_anchor_75 rfl rfl ?_
        refine zq_istore_n K dX3_anchor_76 rfl (by decide) ?_
        refine zq_iincN K dX3_anchor_77 rfl (by decide) ?_
        refine zq_goto K 27 dX3_anchor_80 (by decide) ?_
        exact h99 _ (by rw [zAn, if_neg h48, e9])
      · refine zq_iload_n K dX3_anchor_51 rfl rfl ?_
        refine zq_iconst K dX3_anchor_52 (v := -1) (by decide) ?_
        refine zq_icmp_eq K 71 dX3_anchor_53 (by decide) (fun h53 => absurd h53 (nI_ne1 (by have := zAn_lt e9; omega))) (fun h53 => ?_)
        refine zq_aload_n K dX3_anchor_56 rfl rfl ?_
        refine zm_ar K dX3_anchor_57 zf_X3_27 (k := 7) (by decide) hR ?_
        refine zq_iload_n K dX3_anchor_60 rfl rfl ?_
        refine zm_ld K (k) dX3_anchor_61 (k := 7) (by decide) hR rfl (show k < 600 by omega) ?_
        refine zq_aload_n K dX3_anchor_62 rfl rfl ?_
        refine zm_ar K dX3_anchor_63 zf_X3_27 (k := 7) (by decide) hR ?_
        refine zq_iload_n K dX3_anchor_66 rfl rfl ?_
        have hj9 := zAn_lt e9
        refine zm_ld K (j) dX3_anchor_67 (k := 7) (by decide) hR rfl (show j < 600 by omega) ?_
        refine zq_icmp_ge K 75 dX3_anchor_68 (by decide) (fun h68 => ?_) (fun h68 => ?_)
        · refine zq_iload_n K dX3_anchor_75 rfl rfl ?_
          refine zq_istore_n K dX3_anchor_76 rfl (by decide) ?_
          refine zq_iincN K dX3_anchor_77 rfl (by decide) ?_
          refine zq_goto K 27 dX3_anchor_80 (by decide) ?_
          exact h99 _ (by rw [zAn, if_pos h48, e9]; dsimp only; rw [if_pos h68])
        · refine zq_iload_n K dX3_anchor_71 rfl rfl ?_
          refine zq_goto K 76 dX3_anchor_72 (by decide) ?_
          refine zq_istore_n K dX3_anchor_76 rfl (by decide) ?_
          refine zq_iincN K dX3_anchor_77 rfl (by decide) ?_
          refine zq_goto K 27 dX3_anchor_80 (by decide) ?_
          exact h99 _ (by rw [zAn, if_pos h48, e9]; dsimp only; rw [if_neg h68]; rfl)
theorem ct_X3_anchor_bad {G : ZG} {M : ZM} {x : Nat} {q : Nat → Nat} {w : Int32} {A : ZA} (hR : zR M x q w A) {F : Nat} (hf : A.1 9 = nI F) (hF : F ≤ 30) {f : Int32} (h : ¬ zFn F f) : zMet G mX3_anchor [.ref (x), .int (f)] M (zRP x q M (some (.int (nI 0))) (nI 1) A) := by
  refine zbody zyX3_anchor [some (.ref (x)), some (.int (f)), none, none] rfl (Nat.le_of_ble_eq_true rfl) (by intro v hv; simp only [List.mem_cons, List.not_mem_nil, or_false] at hv; rcases hv with rfl | rfl <;> rfl) (fun E K => ?_)
  have hS : zSm x q M M := zSm.rf
  refine zq_aload_n K dX3_anchor_0 rfl rfl ?_
  refine zq_iload_n K dX3_anchor_1 rfl rfl ?_
  refine zq_iconst K dX3_anchor_2 (v := nI 0) (by decide) ?_
  refine zq_aload_n K dX3_anchor_3 rfl rfl ?_
  refine zm_sc K dX3_anchor_4 zf_X3_119 (k := 9) (by decide) hR ?_
  refine zq_top (v := nI (F)) hf ?_
  refine zq_iconst K dX3_anchor_7 (v := nI 1) (by decide) ?_
  refine zq_isub K dX3_anchor_8 ?_
  refine zq_callS (As := [.int (f), .int (nI (0)), .int (nI F - nI 1)]) K dX3_anchor_9 zyX3_in zm_X3_58 zsX3_in rfl (by decide) rfl rfl (Nat.le_of_ble_eq_true rfl) (Nat.le_of_ble_eq_true rfl) (ct_X3_in f (nI 0) (nI F - nI 1) _) (zdec_r (fun yf => ?_) (fun yf => ?_)) zdec_x (Nat.le_refl _)
  · refine zq_if_eqN K (x := 1) 19 dX3_anchor_12 (by decide) (by omega) (fun h12 => by omega) (fun h12 => ?_)
    exact absurd ((zFn_iff hF).mp yf) h
  · refine zq_if_eqN K (x := 0) 19 dX3_anchor_12 (by decide) (by omega) (fun h12 => ?_) (fun h12 => by omega)
    refine zq_iconst K dX3_anchor_19 (v := nI 1) (by decide) ?_
    refine zm_pth K dX3_anchor_20 zf_X3_55 hR hS (fun M hR hS => ?_)
    refine zq_iconst K dX3_anchor_23 (v := -1) (by decide) ?_
    refine zq_istore_n K dX3_anchor_24 rfl (by decide) ?_
    refine zq_iconst K dX3_anchor_25 (v := nI 0) (by decide) ?_
    refine zq_istore_n K dX3_anchor_26 rfl (by decide) ?_
    refine zq_iload_n K dX3_anchor_27 rfl rfl ?_
    refine zq_sipush K dX3_anchor_28 (v := nI 600) (by decide) ?_
    refine zq_icmp_geN K (x := 0) (y := 600) 83 dX3_anchor_31 (by decide) ⟨by omega, by omega⟩ (fun h31 => by omega) (fun h31 => ?_)
    refine zq_aload_n K dX3_anchor_34 rfl rfl ?_
    refine zm_th K dX3_anchor_35 zf_X3_55 hR ?_
    refine zq_if_neN K (x := 1) 83 dX3_anchor_38 (by decide) (by omega) (fun h38 => ?_) (fun h38 => by omega)
    refine zq_aload_n K dX3_anchor_83 rfl rfl ?_
    refine zm_th K dX3_anchor_84 zf_X3_55 hR ?_
    refine zq_if_leN K (x := 1) 94 dX3_anchor_87 (by decide) (by omega) (fun h87 => by omega) (fun h87 => ?_)
    refine zq_iconst K dX3_anchor_90 (v := nI 0) (by decide) ?_
    refine zq_goto K 115 dX3_anchor_91 (by decide) ?_
    exact zq_iret K dX3_anchor_115 rfl ⟨rfl, hR, hS⟩
theorem ct_X3_anchor_none {G : ZG} {M : ZM} {x : Nat} {q : Nat → Nat} {w : Int32} {A : ZA} (hR : zR M x q w A) {F : Nat} (hf : A.1 9 = nI F) (hF : F ≤ 30) {f : Int32} (h : zFn F f) (ho : zAn A f 600 = none) : zMet G mX3_anchor [.ref (x), .int (f)] M (zRP x q M (some (.int (-1))) (nI 0) A) := by
  refine zbody zyX3_anchor [some (.ref (x)), some (.int (f)), none, none] rfl (Nat.le_of_ble_eq_true rfl) (by intro v hv; simp only [List.mem_cons, List.not_mem_nil, or_false] at hv; rcases hv with rfl | rfl <;> rfl) (fun E K => ?_)
  have hS : zSm x q M M := zSm.rf
  refine zq_aload_n K dX3_anchor_0 rfl rfl ?_
  refine zq_iload_n K dX3_anchor_1 rfl rfl ?_
  refine zq_iconst K dX3_anchor_2 (v := nI 0) (by decide) ?_
  refine zq_aload_n K dX3_anchor_3 rfl rfl ?_
  refine zm_sc K dX3_anchor_4 zf_X3_119 (k := 9) (by decide) hR ?_
  refine zq_top (v := nI (F)) hf ?_
  refine zq_iconst K dX3_anchor_7 (v := nI 1) (by decide) ?_
  refine zq_isub K dX3_anchor_8 ?_
  refine zq_callS (As := [.int (f), .int (nI (0)), .int (nI F - nI 1)]) K dX3_anchor_9 zyX3_in zm_X3_58 zsX3_in rfl (by decide) rfl rfl (Nat.le_of_ble_eq_true rfl) (Nat.le_of_ble_eq_true rfl) (ct_X3_in f (nI 0) (nI F - nI 1) _) (zdec_r (fun yf => ?_) (fun yf => ?_)) zdec_x (Nat.le_refl _)
  · refine zq_if_eqN K (x := 1) 19 dX3_anchor_12 (by decide) (by omega) (fun h12 => by omega) (fun h12 => ?_)
    refine zq_iconst K dX3_anchor_15 (v := nI 0) (by decide) ?_
    refine zq_goto K 20 dX3_anchor_16 (by decide) ?_
    refine zm_pth K dX3_anchor_20 zf_X3_55 hR hS (fun M hR hS => ?_)
    refine zq_iconst K dX3_anchor_23 (v := -1) (by decide) ?_
    refine zq_istore_n K dX3_anchor_24 rfl (by decide) ?_
    refine zq_iconst K dX3_anchor_25 (v := nI 0) (by decide) ?_
    refine zq_istore_n K dX3_anchor_26 rfl (by decide) ?_
    refine lp_X3_anc2 K hR ?_ 600 0 rfl
    rw [ho]
    refine zq_aload_n K dX3_anchor_83 rfl rfl ?_
    refine zm_th K dX3_anchor_84 zf_X3_55 hR ?_
    refine zq_if_leN K (x := 0) 94 dX3_anchor_87 (by decide) (by omega) (fun h87 => ?_) (fun h87 => by omega)
    refine zq_iload_n K dX3_anchor_94 rfl rfl ?_
    refine zq_iconst K dX3_anchor_95 (v := -1) (by decide) ?_
    refine zq_icmp_ne K 103 dX3_anchor_96 (by decide) (fun h96 => absurd rfl h96) (fun h96 => ?_)
    refine zq_iconst K dX3_anchor_99 (v := -1) (by decide) ?_
    refine zq_goto K 115 dX3_anchor_100 (by decide) ?_
    exact zq_iret K dX3_anchor_115 rfl ⟨rfl, hR, hS⟩
  · refine zq_if_eqN K (x := 0) 19 dX3_anchor_12 (by decide) (by omega) (fun h12 => ?_) (fun h12 => by omega)
    exact absurd ((zFn_iff hF).mpr h) yf
theorem ct_X3_anchor_some {G : ZG} {M : ZM} {x : Nat} {q : Nat → Nat} {w : Int32} {A : ZA} (hR : zR M x q w A) {F : Nat} (hf : A.1 9 = nI F) (hF : F ≤ 30) {f : Int32} (h : zFn F f) {i : Nat} (ho : zAn A f 600 = some i) : zMet G mX3_anchor [.ref (x), .int (f)] M (zRP x q M (some (.int (zAv (some i)))) (nI 0) A) := by
  refine zbody zyX3_anchor [some (.ref (x)), some (.int (f)), none, none] rfl (Nat.le_of_ble_eq_true rfl) (by intro v hv; simp only [List.mem_cons, List.not_mem_nil, or_false] at hv; rcases hv with rfl | rfl <;> rfl) (fun E K => ?_)
  have hS : zSm x q M M := zSm.rf
  refine zq_aload_n K dX3_anchor_0 rfl rfl ?_
  refine zq_iload_n K dX3_anchor_1 rfl rfl ?_
  refine zq_iconst K dX3_anchor_2 (v := nI 0) (by decide) ?_
  refine zq_aload_n K dX3_anchor_3 rfl rfl ?_
  refine zm_sc K dX3_anchor_4 zf_X3_119 (k := 9) (by decide) hR ?_
  refine zq_top (v := nI (F)) hf ?_
  refine zq_iconst K dX3_anchor_7 (v := nI 1) (by decide) ?_
  refine zq_isub K dX3_anchor_8 ?_
  refine zq_callS (As := [.int (f), .int (nI (0)), .int (nI F - nI 1)]) K dX3_anchor_9 zyX3_in zm_X3_58 zsX3_in rfl (by decide) rfl rfl (Nat.le_of_ble_eq_true rfl) (Nat.le_of_ble_eq_true rfl) (ct_X3_in f (nI 0) (nI F - nI 1) _) (zdec_r (fun yf => ?_) (fun yf => ?_)) zdec_x (Nat.le_refl _)
  · refine zq_if_eqN K (x := 1) 19 dX3_anchor_12 (by decide) (by omega) (fun h12 => by omega) (fun h12 => ?_)
    refine zq_iconst K dX3_anchor_15 (v := nI 0) (by decide) ?_
    refine zq_goto K 20 dX3_anchor_16 (by decide) ?_
    refine zm_pth K dX3_anchor_20 zf_X3_55 hR hS (fun M hR hS => ?_)
    refine zq_iconst K dX3_anchor_23 (v := -1) (by decide) ?_
    refine zq_istore_n K dX3_anchor_24 rfl (by decide) ?_
    refine zq_iconst K dX3_anchor_25 (v := nI 0) (by decide) ?_
    refine zq_istore_n K dX3_anchor_26 rfl (by decide) ?_
    refine lp_X3_anc2 K hR ?_ 600 0 rfl
    rw [ho]
    have hi := zAn_lt ho
    refine zq_aload_n K dX3_anchor_83 rfl rfl ?_
    refine zm_th K dX3_anchor_84 zf_X3_55 hR ?_
    refine zq_if_leN K (x := 0) 94 dX3_anchor_87 (by decide) (by omega) (fun h87 => ?_) (fun h87 => by omega)
    refine zq_iload_n K dX3_anchor_94 rfl rfl ?_
    refine zq_iconst K dX3_anchor_95 (v := -1) (by decide) ?_
    refine zq_icmp_ne K 103 dX3_anchor_96 (by decide) (fun h96 => ?_) (fun h96 => absurd h96 (nI_ne1 (by omega)))
    refine zq_bipush K dX3_anchor_103 (v := nI 100) (by decide) ?_
    refine zq_iload_n K dX3_anchor_105 rfl rfl ?_
    refine zq_bipush K dX3_anchor_106 (v := nI 50) (by decide) ?_
    refine zq_idivN K (x := i) (y := 50) dX3_anchor_108 (by omega) ?_
    refine zq_imulN K (x := 100) (y := (i) / (50)) dX3_anchor_109 ?_
    refine zq_iload_n K dX3_anchor_110 rfl rfl ?_
    refine zq_bipush K dX3_anchor_111 (v := nI 50) (by decide) ?_
    refine zq_iremN K (x := i) (y := 50) dX3_anchor_113 (by omega) ?_
    refine zq_iaddN K (x := (100) * ((i) / (50))) (y := (i) % (50)) dX3_anchor_114 ?_
    exact zq_iret K dX3_anchor_115 rfl ⟨rfl, hR, hS⟩
  · refine zq_if_eqN K (x := 0) 19 dX3_anchor_12 (by decide) (by omega) (fun h12 => ?_) (fun h12 => by omega)
    exact absurd ((zFn_iff hF).mpr h) yf
/-- a new reference with its rows up to n -/
def zNx (M0 M : ZM) (x : Nat) (q : Nat → Nat) (n : Nat) : Prop := zk M x = 4 ∧ (∀ k, zar k = true → k < n → zr M x k = some (q k) ∧ zk M (q k) = (if k = 3 then 6 else 5) ∧ zn M (q k) = zln k ∧ (∀ j, zi M (q k) j = 0) ∧ zk M0 (q k) = 0) ∧ (∀ k, zi M x k = if k = 2 then 1 else 0) ∧ (∀ j k, zar j = true → zar k = true → j < n → k < n → q j = q k → j = k) ∧ ∀ a, ¬ zk M0 a = 0 → a ≠ x → zsame M0 M a
theorem zNx.gap {M0 M : ZM} {x : Nat} {q : Nat → Nat} {n m : Nat} (h : zNx M0 M x q n) (g : ∀ k, k < 19 → zar k = true → k < m → k < n) (hm : m < 19) : zNx M0 M x q m :=
  ⟨h.1, fun k h1 h2 => h.2.1 k h1 (g k (by omega) h1 h2), h.2.2.1, fun j k h1 h2 h3 h4 => h.2.2.2.1 j k h1 h2 (g j (by omega) h1 h3) (g k (by omega) h2 h4), h.2.2.2.2⟩
theorem zNx.kw {M0 M : ZM} {x : Nat} {q : Nat → Nat} {n a kd l : Nat} (h : zNx M0 M x q n) (ha : zk M a = 0) : zk (zw M a kd l) x = 4 := by
  rw [zk_w, if_neg (fun e => by rw [← e, h.1] at ha; exact absurd ha (by decide))]
  exact h.1
theorem zNx.go {M0 M : ZM} {x : Nat} {q : Nat → Nat} {n a kd l : Nat} (h : zNx M0 M x q n) (ha : zk M a = 0) (hn : zar n = true) (hk : kd = if n = 3 then 6 else 5) (hl : l = zln n) : zNx M0 (zsr (zw M a kd l) x n (some a)) x (zo q n a) (n + 1) := by
  have hax : a ≠ x := fun e => by rw [e, h.1] at ha; exact absurd ha (by decide)
  have h0 : zk M0 a = 0 := by
    by_cases e : zk M0 a = 0
    · exact e
    · have := (h.2.2.2.2 a e hax).1
      omega
  have hq : ∀ k, zar k = true → k < n → q k ≠ a := fun k h1 h2 e => by
    have h3 := (h.2.1 k h1 h2).2.1
    rw [e, ha] at h3
    split at h3 <;> omega
  refine ⟨h.kw (l := l) ha, fun k h1 h2 => ?_, fun k => ?_, fun j k h1 h2 h3 h4 e => ?_, fun b h1 h2 => ?_⟩
  · by_cases e : k = n
    · subst e
      rw [show zo q k a k = a from if_pos rfl]
      exact ⟨by rw [zr_r, if_pos ⟨rfl, rfl⟩], by rw [zk_r, zk_w, if_pos rfl, hk], by rw [zn_r, zn_w, if_pos rfl, hl], fun j => by rw [zi_r, zi_w, if_pos rfl], h0⟩
    · obtain ⟨g1, g2, g3, g4, g5⟩ := h.2.1 k h1 (by omega)
      have hne := hq k h1 (by omega)
      rw [show zo q n a k = q k from if_neg e]
      exact ⟨by rw [zr_r, if_neg (fun z => e z.2), zr_w, if_neg (fun z => hax z.symm)]; exact g1, by rw [zk_r, zk_w, if_neg hne]; exact g2, by rw [zn_r, zn_w, if_neg hne]; exact g3, fun j => by rw [zi_r, zi_w, if_neg hne]; exact g4 j, g5⟩
  · rw [zi_r, zi_w, if_neg (fun z => hax z.symm)]
    exact h.2.2.1 k
  · by_cases e1 : j = n
    · by_cases e2 : k = n
      · rw [e1, e2]
      · rw [e1, show zo q n a n = a from if_pos rfl, show zo q n a k = q k from if_neg e2] at e
        exact absurd e.symm (hq k h2 (by omega))
    · by_cases e2 : k = n
      · rw [e2, show zo q n a n = a from if_pos rfl, show zo q n a j = q j from if_neg e1] at e
        exact absurd e (hq j h1 (by omega))
      · rw [show zo q n a j = q j from if_neg e1, show zo q n a k = q k from if_neg e2] at e
        exact h.2.2.2.1 j k h1 h2 (by omega) (by omega) e
  · have g := h.2.2.2.2 b h1 h2
    have hba : b ≠ a := fun e => h1 (e ▸ h0)
    exact g.tr ((zsame.w hba).tr (zsame.r h2))
theorem zNx_r {E : ZE} {G : ZG} {u : Nat} {Q : State → Prop} {M0 M : ZM} {b pc : Nat} {L : List (Option Value)} {S : List Value} {x : Nat} {q : Nat → Nat} {a kd l : Nat} (n m : Nat) (h : zNx M0 M x q n) (ha : zk M a = 0) (hn : zar n = true ∧ (kd = if n = 3 then 6 else 5) ∧ l = zln n) (g : (∀ k, k < 19 → zar k = true → k < m → k < n + 1) ∧ m < 19) (kk : ∀ M' q', zNx M0 M' x q' m → WW E G u Q M' b pc L S) : WW E G u Q (zsr (zw M a kd l) x n (some a)) b pc L S := kk _ _ ((h.go ha hn.1 hn.2.1 hn.2.2).gap g.1 g.2)
def zA1 : ZA := (fun k => if k = 2 then 1 else 0, fun _ _ => 0)
theorem zNx.R {M0 M : ZM} {x : Nat} {q : Nat → Nat} (h : zNx M0 M x q 16) : zR M x q (nI 0) zA1 := by
  have hz : ∀ k, zar k = true → k < 16 := fun k hk => by
    unfold zar at hk
    simp only [Bool.or_eq_true, Bool.and_eq_true, decide_eq_true_eq] at hk
    omega
  exact ⟨h.1, fun k hk => ⟨(h.2.1 k hk (hz k hk)).1, (h.2.1 k hk (hz k hk)).2.1, (h.2.1 k hk (hz k hk)).2.2.1, (h.2.1 k hk (hz k hk)).2.2.2.1⟩, ⟨by rw [h.2.2.1]; rfl, fun k _ _ => h.2.2.1 k⟩, fun j k h1 h2 => h.2.2.2.1 j k h1 h2 (hz j h1) (hz k h2)⟩
theorem zNx.b {M : ZM} {x : Nat} (hx : zk M x = 4) (hz : ∀ k, zi M x k = 0) : zNx M (zsi M x 2 (nI 1)) x id 3 := by
  have h3 : ∀ k, zar k = true → ¬ k < 3 := fun k h1 h2 => by
    unfold zar at h1
    simp only [Bool.or_eq_true, Bool.and_eq_true, decide_eq_true_eq] at h1
    omega
  refine ⟨hx, fun k h1 h2 => absurd h2 (h3 k h1), fun k => ?_, fun j k h1 _ h4 => absurd h4 (h3 j h1), fun a _ h2 => zsame.i h2⟩
  rw [zi_i]
  by_cases e : k = 2
  · rw [if_pos ⟨rfl, e⟩, if_pos e]
    rfl
  · rw [if_neg (fun z => e z.2), if_neg e]
    exact hz k
def zNs : Nat → ZA
  | 0 => zsc zA1 16 (-1)
  | k + 1 => zsa (zNs k) 6 k (-1)
/-- the reference at its beginning -/
def zA0 : ZA := zBg (zNs 600) 0 (nI 0) 8
def zNR (x : Nat) (M : ZM) : ZO → ZM → Prop := fun o M' => o = .inl none ∧ ∃ q, zR M' x q (nI 0) zA0 ∧ (∀ k, zar k = true → zk M (q k) = 0) ∧ ∀ a, ¬ zk M a = 0 → a ≠ x → zsame M M' a
theorem lp_X3_init {G : ZG} {E : ZE} (K : zOK mX3_init [] G E) {M0 : ZM} {x : Nat} {q : Nat → Nat} {u b : Nat} {Q : State → Prop} (kk : ∀ M, zR M x q (nI 0) (zNs 600) → zSm x q M0 M → WW E G u Q M b 125 [some (.ref x), some (.int (nI 600))] []) : ∀ (n k : Nat), k + n = 600 → ∀ M, zR M x q (nI 0) (zNs k) → zSm x q M0 M → WW E G u Q M b 105 [some (.ref x), some (.int (nI k))] [] := by
  intro n
  induction n with
  | zero =>
    intro k hk M hR hS
    have hk4 : k = 600 := by omega
    subst hk4
    refine zq_iload_n K dX3_init_105 rfl rfl ?_
    refine zq_sipush K dX3_init_106 (v := nI 600) (by decide) ?_
    refine zq_icmp_geN K (x := 600) (y := 600) 125 dX3_init_109 (by decide) ⟨by omega, by omega⟩ (fun h109 => ?_) (fun h109 => by omega)
    exact kk M hR hS
  | succ n ih =>
    intro k hk M hR hS
    refine zq_iload_n K dX3_init_105 rfl rfl ?_
    refine zq_sipush K dX3_init_106 (v := nI 600) (by decide) ?_
    refine zq_icmp_geN K (x := k) (y := 600) 125 dX3_init_109 (by decide) ⟨by omega, by omega⟩ (fun h109 => by omega) (fun h109 => ?_)
    refine zq_aload_n K dX3_init_112 rfl rfl ?_
    refine zm_ar K dX3_init_113 zf_X3_24 (k := 6) (by decide) hR ?_
    refine zq_iload_n K dX3_init_116 rfl rfl ?_
    refine zq_iconst K dX3_init_117 (v := -1) (by decide) ?_
    refine zm_st K (k) dX3_init_118 (k := 6) (by decide) hR hS rfl (show k < 600 by omega) (fun M hR hS => ?_)
    refine zq_iincN K dX3_init_119 rfl (by decide) ?_
    refine zq_goto K 105 dX3_init_122 (by decide) ?_
    exact ih (k + 1) (by omega) M hR hS
theorem ct_X3_init {G : ZG} {M : ZM} {x : Nat} (hx : zk M x = 4) (hz : ∀ k, zi M x k = 0) : zMet G mX3_init [.ref (x)] M (zNR x M) := by
  refine zbody zyX3_init [some (.ref (x)), none] rfl (Nat.le_of_ble_eq_true rfl) (by intro v hv; simp only [List.mem_cons, List.not_mem_nil, or_false] at hv; rcases hv with rfl <;> rfl) (fun E K => ?_)
  refine zq_aload_n K dX3_init_0 rfl rfl ?_
  refine zq_objInit K dX3_init_1 zm_X3_1 (zt 67 (by decide +kernel) rfl) (zt 68 (by decide +kernel) rfl) (Nat.le_of_ble_eq_true rfl) (by decide) ?_
  refine zq_aload_n K dX3_init_4 rfl rfl ?_
  refine zq_iconst K dX3_init_5 (v := nI 1) (by decide) ?_
  refine zq_putI K dX3_init_6 zclX3 (k := 2) (by decide) zf_X3_7 (Or.inl rfl) rfl rfl hx ?_
  have hN := zNx.b hx hz
  refine zq_aload_n K dX3_init_9 rfl rfl ?_
  refine zq_bipush K dX3_init_10 (v := nI 12) (by decide) ?_
  refine zq_newZ K (12) 1 dX3_init_12 (by decide) ⟨by decide, by decide, by decide⟩ (Nat.le_refl _) (fun a3 ha3 => ?_)
  refine zq_putRs K dX3_init_14 zclX3 (k := 3) (by decide) zf_X3_13 (Or.inr ⟨rfl, rfl⟩) (fun r => by cases r <;> exact ⟨rfl, rfl⟩) rfl (hN.kw ha3) ?_
  refine zNx_r 3 4 hN ha3 (by decide) (by decide) (fun M4 q4 hN => ?_)
  refine zq_aload_n K dX3_init_17 rfl rfl ?_
  refine zq_bipush K dX3_init_18 (v := nI 12) (by decide) ?_
  refine zq_newI K (12) 1 dX3_init_20 (by decide) ⟨by decide, by decide, by decide⟩ (Nat.le_refl _) (fun a4 ha4 => ?_)
  refine zq_putRs K dX3_init_22 zclX3 (k := 4) (by decide) zf_X3_17 (Or.inr ⟨rfl, rfl⟩) (fun r => by cases r <;> exact ⟨rfl, rfl⟩) rfl (hN.kw ha4) ?_
  refine zNx_r 4 5 hN ha4 (by decide) (by decide) (fun M4 q4 hN => ?_)
  refine zq_aload_n K dX3_init_25 rfl rfl ?_
  refine zq_bipush K dX3_init_26 (v := nI 12) (by decide) ?_
  refine zq_newI K (12) 1 dX3_init_28 (by decide) ⟨by decide, by decide, by decide⟩ (Nat.le_refl _) (fun a5 ha5 => ?_)
  refine zq_putRs K dX3_init_30 zclX3 (k := 5) (by decide) zf_X3_21 (Or.inr ⟨rfl, rfl⟩) (fun r => by cases r <;> exact ⟨rfl, rfl⟩) rfl (hN.kw ha5) ?_
  refine zNx_r 5 6 hN ha5 (by decide) (by decide) (fun M4 q4 hN => ?_)
  refine zq_aload_n K dX3_init_33 rfl rfl ?_
  refine zq_sipush K dX3_init_34 (v := nI 600) (by decide) ?_
  refine zq_newI K (600) 10 dX3_init_37 (by decide) ⟨by decide, by decide, by decide⟩ (Nat.le_refl _) (fun a6 ha6 => ?_)
  refine zq_putRs K dX3_init_39 zclX3 (k := 6) (by decide) zf_X3_24 (Or.inr ⟨rfl, rfl⟩) (fun r => by cases r <;> exact ⟨rfl, rfl⟩) rfl (hN.kw ha6) ?_
  refine zNx_r 6 7 hN ha6 (by decide) (by decide) (fun M4 q4 hN => ?_)
  refine zq_aload_n K dX3_init_42 rfl rfl ?_
  refine zq_sipush K dX3_init_43 (v := nI 600) (by decide) ?_
  refine zq_newI K (600) 10 dX3_init_46 (by decide) ⟨by decide, by decide, by decide⟩ (Nat.le_refl _) (fun a7 ha7 => ?_)
  refine zq_putRs K dX3_init_48 zclX3 (k := 7) (by decide) zf_X3_27 (Or.inr ⟨rfl, rfl⟩) (fun r => by cases r <;> exact ⟨rfl, rfl⟩) rfl (hN.kw ha7) ?_
  refine zNx_r 7 10 hN ha7 (by decide) (by decide) (fun M4 q4 hN => ?_)
  refine zq_aload_n K dX3_init_51 rfl rfl ?_
  refine zq_bipush K dX3_init_52 (v := nI 96) (by decide) ?_
  refine zq_newI K (96) 2 dX3_init_54 (by decide) ⟨by decide, by decide, by decide⟩ (Nat.le_refl _) (fun a10 ha10 => ?_)
  refine zq_putRs K dX3_init_56 zclX3 (k := 10) (by decide) zf_X3_30 (Or.inr ⟨rfl, rfl⟩) (fun r => by cases r <;> exact ⟨rfl, rfl⟩) rfl (hN.kw ha10) ?_
  refine zNx_r 10 11 hN ha10 (by decide) (by decide) (fun M4 q4 hN => ?_)
  refine zq_aload_n K dX3_init_59 rfl rfl ?_
  refine zq_bipush K dX3_init_60 (v := nI 96) (by decide) ?_
  refine zq_newI K (96) 2 dX3_init_62 (by decide) ⟨by decide, by decide, by decide⟩ (Nat.le_refl _) (fun a11 ha11 => ?_)
  refine zq_putRs K dX3_init_64 zclX3 (k := 11) (by decide) zf_X3_33 (Or.inr ⟨rfl, rfl⟩) (fun r => by cases r <;> exact ⟨rfl, rfl⟩) rfl (hN.kw ha11) ?_
  refine zNx_r 11 12 hN ha11 (by decide) (by decide) (fun M4 q4 hN => ?_)
  refine zq_aload_n K dX3_init_67 rfl rfl ?_
  refine zq_bipush K dX3_init_68 (v := nI 96) (by decide) ?_
  refine zq_newI K (96) 2 dX3_init_70 (by decide) ⟨by decide, by decide, by decide⟩ (Nat.le_refl _) (fun a12 ha12 => ?_)
  refine zq_putRs K dX3_init_72 zclX3 (k := 12) (by decide) zf_X3_36 (Or.inr ⟨rfl, rfl⟩) (fun r => by cases r <;> exact ⟨rfl, rfl⟩) rfl (hN.kw ha12) ?_
  refine zNx_r 12 13 hN ha12 (by decide) (by decide) (fun M4 q4 hN => ?_)
  refine zq_aload_n K dX3_init_75 rfl rfl ?_
  refine zq_sipush K dX3_init_76 (v := nI 2400) (by decide) ?_
  refine zq_newI K (2400) 38 dX3_init_79 (by decide) ⟨by decide, by decide, by decide⟩ (Nat.le_refl _) (fun a13 ha13 => ?_)
  refine zq_putRs K dX3_init_81 zclX3 (k := 13) (by decide) zf_X3_39 (Or.inr ⟨rfl, rfl⟩) (fun r => by cases r <;> exact ⟨rfl, rfl⟩) rfl (hN.kw ha13) ?_
  refine zNx_r 13 14 hN ha13 (by decide) (by decide) (fun M4 q4 hN => ?_)
  refine zq_aload_n K dX3_init_84 rfl rfl ?_
  refine zq_iconst K dX3_init_85 (v := nI 4) (by decide) ?_
  refine zq_newI K (4) 1 dX3_init_86 (by decide) ⟨by decide, by decide, by decide⟩ (Nat.le_refl _) (fun a14 ha14 => ?_)
  refine zq_putRs K dX3_init_88 zclX3 (k := 14) (by decide) zf_X3_42 (Or.inr ⟨rfl, rfl⟩) (fun r => by cases r <;> exact ⟨rfl, rfl⟩) rfl (hN.kw ha14) ?_
  refine zNx_r 14 15 hN ha14 (by decide) (by decide) (fun M4 q4 hN => ?_)
  refine zq_aload_n K dX3_init_91 rfl rfl ?_
  refine zq_iconst K dX3_init_92 (v := nI 4) (by decide) ?_
  refine zq_newI K (4) 1 dX3_init_93 (by decide) ⟨by decide, by decide, by decide⟩ (Nat.le_refl _) (fun a15 ha15 => ?_)
  refine zq_putRs K dX3_init_95 zclX3 (k := 15) (by decide) zf_X3_45 (Or.inr ⟨rfl, rfl⟩) (fun r => by cases r <;> exact ⟨rfl, rfl⟩) rfl (hN.kw ha15) ?_
  refine zNx_r 15 16 hN ha15 (by decide) (by decide) (fun M4 q4 hN => ?_)
  have hR := hN.R
  have hS := zSm.rf (x := x) (q := q4) (M := M4)
  have hQ : ∀ k, zar k = true → zk M (q4 k) = 0 := fun k hk => (hN.2.1 k hk (by unfold zar at hk; simp only [Bool.or_eq_true, Bool.and_eq_true, decide_eq_true_eq] at hk; omega)).2.2.2.2
  have hF := hN.2.2.2.2
  refine zq_aload_n K dX3_init_98 rfl rfl ?_
  refine zq_iconst K dX3_init_99 (v := -1) (by decide) ?_
  refine zm_psc K dX3_init_100 zf_X3_48 (k := 16) (by decide) hR hS (fun M hR hS => ?_)
  refine zq_iconst K dX3_init_103 (v := nI 0) (by decide) ?_
  refine zq_istore_n K dX3_init_104 rfl (by decide) ?_
  refine lp_X3_init K (fun M hR hS => ?_) 600 0 rfl _ hR hS
  refine zq_aload_n K dX3_init_125 rfl rfl ?_
  refine zq_iconst K dX3_init_126 (v := nI 0) (by decide) ?_
  refine zq_iconst K dX3_init_127 (v := nI 0) (by decide) ?_
  refine zq_callV (As := [.int (nI (0)), .int (nI (0))]) K dX3_init_128 zyX3_begins zm_X3_51 ziX3_begins zvX3_begins zclX3 rfl (by decide) rfl rfl (Nat.le_of_ble_eq_true rfl) (Nat.le_of_ble_eq_true rfl) hR.1 (ct_X3_begins hR (d := 0) (by omega) (nI 0)) (zRP_r hS (fun M hR hS => ?_)) zRP_x (Nat.le_refl _)
  exact zq_ret K dX3_init_131 rfl ⟨rfl, _, hR, fun k hk => hQ k hk, fun a h1 h2 => (hF a h1 h2).tr (hS a h2 (fun k hk e => h1 (e ▸ hQ k hk)))⟩

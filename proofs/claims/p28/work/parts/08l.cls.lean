/-! the class: new directories -/
section ZANW
variable {t : ZY} {tb : List ExceptionTableEntry} {E : ZE} {G : ZG} {u : Nat} {Q : State → Prop} {M : ZM} {b pc : Nat} {L : List (Option Value)} {S : List Value}
theorem zq_anewF (K : zOK t tb G E) {idx : Nat} (hd : decode (zyc t) pc = .ok (.anewarray idx, 3)) (hl : Cond.classLink (zyn t).cls idx RX1 ∈ zTs) (hb : 1 ≤ b) (hu : u ≤ zyu t) (kk : ∀ a, zk M a = 0 → WW E G u Q (zw M a 9 8) (b - 1) (pc + 3) L (.ref a :: S)) : WW E G u Q M b pc L (.int (nI 8) :: S) :=
  zq_anew K 4 8 hd rfl (by decide) (fun s h => h.2.2.2.2.2.2.2.1) hl rfl (by decide) hb hu kk
theorem zq_anewD (K : zOK t tb G E) {idx : Nat} (hd : decode (zyc t) pc = .ok (.anewarray idx, 3)) (hl : Cond.classLink (zyn t).cls idx RX0 ∈ zTs) (hb : 1 ≤ b) (hu : u ≤ zyu t) (kk : ∀ a, zk M a = 0 → WW E G u Q (zw M a 8 12) (b - 1) (pc + 3) L (.ref a :: S)) : WW E G u Q M b pc L (.int (nI 12) :: S) :=
  zq_anew K 3 12 hd rfl (by decide) (fun s h => h.2.2.2.2.2.2.1) hl rfl (by decide) hb hu kk
theorem zq_mna50 (K : zOK t tb G E) {idx : Nat} (hd : decode (zyc t) pc = .ok (.multianewarray idx 2, 4)) (hl : Cond.classLink (zyn t).cls idx "[[I" ∈ zTs) (hb : 5 ≤ b) (hu : u ≤ zyu t)
    (kk : ∀ (q : Nat) (r : Nat → Nat), zk M q = 0 → (∀ i, i < 4 → zk M (r i) = 0 ∧ r i ≠ q) → (∀ i j, i < 4 → j < 4 → r i = r j → i = j) → WW E G u Q (zmn M q r 50) (b - 5) (pc + 4) L (.ref q :: S)) : WW E G u Q M b pc L (.int (nI 50) :: .int (nI 4) :: S) :=
  zq_mna K 50 hd hl (zt 68 (by decide +kernel) rfl) rfl rfl (by decide) hb hu kk
end ZANW
/-- what a new directory x consists of: at the new addresses nu 0 .. nu 8 -/
def zDi (M0 M : ZM) (x : Nat) (nu : Nat → Nat) (D : Nat) (pr : Option Nat) (n o : Int32) : Prop :=
  ((∀ i, i < 9 → zk M0 (nu i) = 0 ∧ nu i ≠ x) ∧ (∀ i j, i < 9 → j < 9 → nu i = nu j → i = j) ∧ ∀ y, ¬ zk M0 y = 0 → y ≠ x → zsame M0 M y)
  ∧ (zk M x = 1 ∧ zi M x 0 = nI D ∧ zr M x 1 = pr ∧ zi M x 2 = n ∧ zr M x 3 = some (nu 0) ∧ zr M x 4 = some (nu 1) ∧ zr M x 5 = some (nu 2) ∧ zr M x 6 = some (nu 3))
  ∧ (zk M (nu 0) = 5 ∧ zn M (nu 0) = 50 ∧ ∀ k, k < 50 → zi M (nu 0) k = -1) ∧ (zk M (nu 1) = 5 ∧ zn M (nu 1) = 50 ∧ ∀ k, k < 50 → zi M (nu 1) k = 0)
  ∧ (zk M (nu 2) = 10 ∧ zn M (nu 2) = 4 ∧ ∀ c, c < 4 → zr M (nu 2) c = some (nu (5 + c))) ∧ (∀ c, c < 4 → zk M (nu (5 + c)) = 5 ∧ zn M (nu (5 + c)) = 50 ∧ ∀ k, k < 50 → zi M (nu (5 + c)) k = 0)
  ∧ (zk M (nu 3) = 9 ∧ zn M (nu 3) = 8 ∧ ∀ h, h < 8 → zr M (nu 3) h = some (nu 4)) ∧ (zk M (nu 4) = 2 ∧ zi M (nu 4) 0 = nI D ∧ zi M (nu 4) 1 = nI 0 ∧ zi M (nu 4) 2 = nI 8 ∧ zi M (nu 4) 3 = o ∧ zi M (nu 4) 4 = nI 0)
/-- the row a is filled: its first k places -/
def zFi (M M' : ZM) (a k : Nat) (v : Int32) : Prop := (∀ y, y ≠ a → zsame M M' y) ∧ zk M' a = zk M a ∧ zn M' a = zn M a ∧ ∀ j, zi M' a j = if j < k then v else zi M a j
def zFj (M M' : ZM) (a k f : Nat) : Prop := (∀ y, y ≠ a → zsame M M' y) ∧ zk M' a = zk M a ∧ zn M' a = zn M a ∧ ∀ j, zr M' a j = if j < k then some f else zr M a j
theorem zsame.mn {M : ZM} {q : Nat} {r : Nat → Nat} {k y : Nat} (hq : y ≠ q) (hr : ∀ i, i < 4 → y ≠ r i) : zsame M (zmn M q r k) y := by
  have r0 := hr 0 (by omega)
  have r1 := hr 1 (by omega)
  have r2 := hr 2 (by omega)
  have r3 := hr 3 (by omega)
  exact ⟨by rw [zmn_k]; simp only [r0, r1, r2, r3, hq, if_false], by rw [zmn_n]; simp only [r0, r1, r2, r3, hq, if_false], fun j => by rw [zmn_i]; simp only [r0, r1, r2, r3, hq, if_false], fun j => by rw [zmn_r]; simp only [r0, r1, r2, r3, hq, false_and, if_false], fun j => by rw [zmn_j]; simp only [r0, r1, r2, r3, hq, if_false]⟩
theorem lp_X0_f1 {G : ZG} {E : ZE} (K : zOK mX0_init [] G E) {M0 : ZM} {x a u b : Nat} {v1 v2 v3 v4 : Value} (hx : zk M0 x = 1) (hxa : zr M0 x 3 = some a) (ha : zk M0 a = 5) (hn : zn M0 a = 50) {Q : State → Prop} (kk : ∀ M, zFi M0 M a 50 (-1) → WW E G u Q M b 79 [some (.ref x), some v1, some v2, some v3, some v4, some (.int (nI (50))), none] []) : ∀ (m k : Nat), k + m = 50 → ∀ M, zFi M0 M a k (-1) → WW E G u Q M b 58 [some (.ref x), some v1, some v2, some v3, some v4, some (.int (nI (k))), none] [] := by
  intro m
  induction m with
  | zero =>
    intro k hk M hM
    have hk4 : k = 50 := by omega
    subst hk4
    refine zq_iload K dX0_init_58 rfl ?_
    refine zq_bipush K dX0_init_60 (v := nI 50) (by decide) ?_
    refine zq_icmp_geN K (x := 50) (y := 50) 79 dX0_init_62 (by decide) ⟨by omega, by omega⟩ (fun h62 => ?_) (fun h62 => by omega)
    exact kk M hM
  | succ m ih =>
    intro k hk M hM
    have hxa' : x ≠ a := fun e => by rw [e, ha] at hx; exact absurd hx (by decide)
    obtain ⟨g1, g2, g3, g4⟩ := hM
    have hx' : zk M x = 1 := (g1 x hxa').1.trans hx
    have hr' : zr M x 3 = some a := ((g1 x hxa').2.2.2.1 _).trans hxa
    refine zq_iload K dX0_init_58 rfl ?_
    refine zq_bipush K dX0_init_60 (v := nI 50) (by decide) ?_
    refine zq_icmp_geN K (x := k) (y := 50) 79 dX0_init_62 (by decide) ⟨by omega, by omega⟩ (fun h62 => by omega) (fun h62 => ?_)
    refine zq_aload_n K dX0_init_65 rfl rfl ?_
    refine zq_getRs K dX0_init_66 zclX0 (k := 3) (by decide) zf_X0_9 rfl hx' hr' ?_
    refine zq_iload K dX0_init_69 rfl ?_
    refine zq_iconst K dX0_init_71 (v := -1) (by decide) ?_
    refine zq_iast K (k) dX0_init_72 (g2.trans ha) rfl (by rw [g3, hn]; omega) (by rw [g3, hn]; decide) ?_
    refine zq_iincN K dX0_init_73 rfl (by decide) ?_
    refine zq_goto K 58 dX0_init_76 (by decide) ?_
    refine ih (k + 1) (by omega) _ ⟨fun y hy => (g1 y hy).tr (zsame.i hy), g2, g3, fun j => ?_⟩
    rw [zi_i]
    by_cases e : j = k
    · rw [if_pos ⟨rfl, e⟩, if_pos (by omega)]
    · rw [if_neg (fun z => e z.2), g4]
      exact ite_congr (propext (by omega)) (fun _ => rfl) (fun _ => rfl)
theorem lp_X0_f2 {G : ZG} {E : ZE} (K : zOK mX0_init [] G E) {M0 : ZM} {x a u b : Nat} {v1 v2 v3 v4 : Value} {f : Nat} (hx : zk M0 x = 1) (hxa : zr M0 x 6 = some a) (ha : zk M0 a = 9) (hn : zn M0 a = 8) (hf : zk M0 f = 2) {Q : State → Prop} (kk : ∀ M, zFj M0 M a 8 f → WW E G u Q M b 120 [some (.ref x), some v1, some v2, some v3, some v4, some (.ref f), some (.int (nI (8)))] []) : ∀ (m k : Nat), k + m = 8 → ∀ M, zFj M0 M a k f → WW E G u Q M b 98 [some (.ref x), some v1, some v2, some v3, some v4, some (.ref f), some (.int (nI (k)))] [] := by
  intro m
  induction m with
  | zero =>
    intro k hk M hM
    have hk4 : k = 8 := by omega
    subst hk4
    refine zq_iload K dX0_init_98 rfl ?_
    refine zq_bipush K dX0_init_100 (v := nI 8) (by decide) ?_
    refine zq_icmp_geN K (x := 8) (y := 8) 120 dX0_init_102 (by decide) ⟨by omega, by omega⟩ (fun h102 => ?_) (fun h102 => by omega)
    exact kk M hM
  | succ m ih =>
    intro k hk M hM
    have hxa' : x ≠ a := fun e => by rw [e, ha] at hx; exact absurd hx (by decide)
    obtain ⟨g1, g2, g3, g4⟩ := hM
    have hx' : zk M x = 1 := (g1 x hxa').1.trans hx
    have hr' : zr M x 6 = some a := ((g1 x hxa').2.2.2.1 _).trans hxa
    have hfa : f ≠ a := fun e => by rw [e, ha] at hf; exact absurd hf (by decide)
    have hf' : zk M f = 2 := (g1 f hfa).1.trans hf
    refine zq_iload K dX0_init_98 rfl ?_
    refine zq_bipush K dX0_init_100 (v := nI 8) (by decide) ?_
    refine zq_icmp_geN K (x := k) (y := 8) 120 dX0_init_102 (by decide) ⟨by omega, by omega⟩ (fun h102 => by omega) (fun h102 => ?_)
    refine zq_aload_n K dX0_init_105 rfl rfl ?_
    refine zq_getRs K dX0_init_106 zclX0 (k := 6) (by decide) zf_X0_25 rfl hx' hr' ?_
    refine zq_iload K dX0_init_109 rfl ?_
    refine zq_aload K dX0_init_111 rfl ?_
    refine zq_aast K (k) dX0_init_113 zclX1 (g2.trans ha) ⟨rfl, by decide⟩ hf' rfl (by rw [g3, hn]; omega) (by rw [g3, hn]; decide) ?_
    refine zq_iincN K dX0_init_114 rfl (by decide) ?_
    refine zq_goto K 98 dX0_init_117 (by decide) ?_
    refine ih (k + 1) (by omega) _ ⟨fun y hy => (g1 y hy).tr (zsame.r hy), g2, g3, fun j => ?_⟩
    rw [zr_r]
    by_cases e : j = k
    · rw [if_pos ⟨rfl, e⟩, if_pos (by omega)]
    · rw [if_neg (fun z => e z.2), g4]
      exact ite_congr (propext (by omega)) (fun _ => rfl) (fun _ => rfl)
theorem ct_X0_init_0 {G : ZG} {M : ZM} {x : Nat} (hx : zk M x = 1) (D : Nat) (n o : Int32) : zMet G mX0_init [.ref (x), .int (nI (D)), .null, .int (n), .int (o)] M (zPP (fun M' => ∃ nu, zDi M M' x nu D (none) n o) none) := by
  refine zbody zyX0_init [some (.ref (x)), some (.int (nI (D))), some (.null), some (.int (n)), some (.int (o)), none, none] rfl (Nat.le_of_ble_eq_true rfl) (by intro v hv; simp only [List.mem_cons, List.not_mem_nil, or_false] at hv; rcases hv with rfl | rfl | rfl | rfl | rfl <;> rfl) (fun E K => ?_)
  refine zq_aload_n K dX0_init_0 rfl rfl ?_
  refine zq_objInit K dX0_init_1 zm_X0_3 (zt 31 (by decide +kernel) rfl) (zt 32 (by decide +kernel) rfl) (Nat.le_of_ble_eq_true rfl) (by decide) ?_
  refine zq_aload_n K dX0_init_4 rfl rfl ?_
  refine zq_bipush K dX0_init_5 (v := nI 50) (by decide) ?_
  refine zq_newI K (50) 1 dX0_init_7 (by decide) ⟨by decide, by decide, by decide⟩ (Nat.le_refl _) (fun a1 ha1 => ?_)
  have n_a1_x : a1 ≠ x := fun e => by rw [e, hx] at ha1; exact absurd ha1 (by decide)
  have kx : zk (zw M a1 5 50) x = 1 := by rw [zk_w, if_neg n_a1_x.symm]; exact hx
  refine zq_putRs K dX0_init_9 zclX0 (k := 3) (by decide) zf_X0_9 (Or.inr ⟨rfl, rfl⟩) (fun r => by cases r <;> exact ⟨rfl, rfl⟩) rfl kx ?_
  refine zq_aload_n K dX0_init_12 rfl rfl ?_
  refine zq_bipush K dX0_init_13 (v := nI 50) (by decide) ?_
  refine zq_newI K (50) 1 dX0_init_15 (by decide) ⟨by decide, by decide, by decide⟩ (Nat.le_refl _) (fun a2 ha2 => ?_)
  rw [zk_r, zk_w] at ha2
  have n_a2_a1 : a2 ≠ a1 := fun e => by rw [if_pos e] at ha2; exact absurd ha2 (by decide)
  rw [if_neg n_a2_a1] at ha2
  have n_a2_x : a2 ≠ x := fun e => by rw [e, hx] at ha2; exact absurd ha2 (by decide)
  have kx2 : zk (zw (zsr (zw M a1 5 50) x 3 (some a1)) a2 5 50) x = 1 := by rw [zk_w, if_neg n_a2_x.symm]; exact kx
  refine zq_putRs K dX0_init_17 zclX0 (k := 4) (by decide) zf_X0_15 (Or.inr ⟨rfl, rfl⟩) (fun r => by cases r <;> exact ⟨rfl, rfl⟩) rfl kx2 ?_
  refine zq_aload_n K dX0_init_20 rfl rfl ?_
  refine zq_iconst K dX0_init_21 (v := nI 4) (by decide) ?_
  refine zq_bipush K dX0_init_22 (v := nI 50) (by decide) ?_
  refine zq_mna50 K dX0_init_24 zc_X0_18 (by decide) (Nat.le_refl _) (fun q r hq hr hrj => ?_)
  have hq4 : ∀ i, i < 4 → zk M (r i) = 0 ∧ r i ≠ a1 ∧ r i ≠ a2 := fun i hi => by
    have h := (hr i hi).1
    rw [zk_r, zk_w] at h
    have e2 : r i ≠ a2 := fun e => by rw [if_pos e] at h; exact absurd h (by decide)
    rw [if_neg e2, zk_r, zk_w] at h
    have e1 : r i ≠ a1 := fun e => by rw [if_pos e] at h; exact absurd h (by decide)
    rw [if_neg e1] at h
    exact ⟨h, e1, e2⟩
  rw [zk_r, zk_w] at hq
  have n_q_a2 : q ≠ a2 := fun e => by rw [if_pos e] at hq; exact absurd hq (by decide)
  rw [if_neg n_q_a2, zk_r, zk_w] at hq
  have n_q_a1 : q ≠ a1 := fun e => by rw [if_pos e] at hq; exact absurd hq (by decide)
  rw [if_neg n_q_a1] at hq
  have n_q_x : q ≠ x := fun e => by rw [e, hx] at hq; exact absurd hq (by decide)
  have n_r_q : ∀ i, i < 4 → r i ≠ q := fun i hi => (hr i hi).2
  have n_r_a1 : ∀ i, i < 4 → r i ≠ a1 := fun i hi => (hq4 i hi).2.1
  have n_r_a2 : ∀ i, i < 4 → r i ≠ a2 := fun i hi => (hq4 i hi).2.2
  have n_r_x : ∀ i, i < 4 → r i ≠ x := fun i hi e => by have h := (hq4 i hi).1; rw [e, hx] at h; exact absurd h (by decide)
  have kx3 : zk (zmn (zsr (zw (zsr (zw M a1 5 50) x 3 (some a1)) a2 5 50) x 4 (some a2)) q r 50) x = 1 := by rw [zmn_k, if_neg (n_r_x 3 (by decide)).symm, if_neg (n_r_x 2 (by decide)).symm, if_neg (n_r_x 1 (by decide)).symm, if_neg (n_r_x 0 (by decide)).symm, if_neg n_q_x.symm]; exact kx2
  refine zq_putRs K dX0_init_28 zclX0 (k := 5) (by decide) zf_X0_20 (Or.inr ⟨rfl, rfl⟩) (fun r => by cases r <;> exact ⟨rfl, rfl⟩) rfl kx3 ?_
  refine zq_aload_n K dX0_init_31 rfl rfl ?_
  refine zq_bipush K dX0_init_32 (v := nI 8) (by decide) ?_
  refine zq_anewF K dX0_init_34 zc_X0_23 (by decide) (Nat.le_refl _) (fun ah hah => ?_)
  rw [zk_r, zmn_k] at hah
  have n_ah_r3 : ah ≠ r 3 := fun e => by rw [if_pos e] at hah; exact absurd hah (by decide)
  rw [if_neg n_ah_r3] at hah
  have n_ah_r2 : ah ≠ r 2 := fun e => by rw [if_pos e] at hah; exact absurd hah (by decide)
  rw [if_neg n_ah_r2] at hah
  have n_ah_r1 : ah ≠ r 1 := fun e => by rw [if_pos e] at hah; exact absurd hah (by decide)
  rw [if_neg n_ah_r1] at hah
  have n_ah_r0 : ah ≠ r 0 := fun e => by rw [if_pos e] at hah; exact absurd hah (by decide)
  rw [if_neg n_ah_r0] at hah
  have n_ah_q : ah ≠ q := fun e => by rw [if_pos e] at hah; exact absurd hah (by decide)
  rw [if_neg n_ah_q, zk_r, zk_w] at hah
  have n_ah_a2 : ah ≠ a2 := fun e => by rw [if_pos e] at hah; exact absurd hah (by decide)
  rw [if_neg n_ah_a2, zk_r, zk_w] at hah
  have n_ah_a1 : ah ≠ a1 := fun e => by rw [if_pos e] at hah; exact absurd hah (by decide)
  rw [if_neg n_ah_a1] at hah
  have n_ah_x : ah ≠ x := fun e => by rw [e, hx] at hah; exact absurd hah (by decide)
  have kx4 : zk (zw (zsr (zmn (zsr (zw (zsr (zw M a1 5 50) x 3 (some a1)) a2 5 50) x 4 (some a2)) q r 50) x 5 (some q)) ah 9 8) x = 1 := by rw [zk_w, if_neg n_ah_x.symm]; exact kx3
  refine zq_putRs K dX0_init_37 zclX0 (k := 6) (by decide) zf_X0_25 (Or.inr ⟨rfl, rfl⟩) (fun r => by cases r <;> exact ⟨rfl, rfl⟩) rfl kx4 ?_
  refine zq_aload_n K dX0_init_40 rfl rfl ?_
  refine zq_iload_n K dX0_init_41 rfl rfl ?_
  refine zq_putI K dX0_init_42 zclX0 (k := 0) (by decide) zf_X0_29 (Or.inr ⟨rfl, rfl⟩) rfl rfl kx4 ?_
  refine zq_aload_n K dX0_init_45 rfl rfl ?_
  refine zq_aload_nN K dX0_init_46 rfl rfl ?_
  refine zq_putRn K dX0_init_47 zclX0 (k := 1) (by decide) zf_X0_33 (Or.inl rfl) (fun r => by cases r <;> exact ⟨rfl, rfl⟩) rfl kx4 ?_
  refine zq_aload_n K dX0_init_50 rfl rfl ?_
  refine zq_iload_n K dX0_init_51 rfl rfl ?_
  refine zq_putI K dX0_init_52 zclX0 (k := 2) (by decide) zf_X0_37 (Or.inl rfl) rfl rfl kx4 ?_
  refine zq_iconst K dX0_init_55 (v := nI 0) (by decide) ?_
  refine zq_istore K dX0_init_56 (by decide) ?_
  have f1k : zk (zsi (zsr (zsi (zsr (zw (zsr (zmn (zsr (zw (zsr (zw M a1 5 50) x 3 (some a1)) a2 5 50) x 4 (some a2)) q r 50) x 5 (some q)) ah 9 8) x 6 (some ah)) x 0 (nI D)) x 1 (none)) x 2 n) a1 = 5 := by rw [zk_i, zk_r, zk_i, zk_r, zk_w, if_neg (n_ah_a1).symm, zk_r, zmn_k, if_neg (n_r_a1 3 (by decide)).symm, if_neg (n_r_a1 2 (by decide)).symm, if_neg (n_r_a1 1 (by decide)).symm, if_neg (n_r_a1 0 (by decide)).symm, if_neg (n_q_a1).symm, zk_r, zk_w, if_neg (n_a2_a1).symm, zk_r, zk_w, if_pos rfl]
  have f1n : zn (zsi (zsr (zsi (zsr (zw (zsr (zmn (zsr (zw (zsr (zw M a1 5 50) x 3 (some a1)) a2 5 50) x 4 (some a2)) q r 50) x 5 (some q)) ah 9 8) x 6 (some ah)) x 0 (nI D)) x 1 (none)) x 2 n) a1 = 50 := by rw [zn_i, zn_r, zn_i, zn_r, zn_w, if_neg (n_ah_a1).symm, zn_r, zmn_n, if_neg (n_r_a1 3 (by decide)).symm, if_neg (n_r_a1 2 (by decide)).symm, if_neg (n_r_a1 1 (by decide)).symm, if_neg (n_r_a1 0 (by decide)).symm, if_neg (n_q_a1).symm, zn_r, zn_w, if_neg (n_a2_a1).symm, zn_r, zn_w, if_pos rfl]
  have f2k : zk (zsi (zsr (zsi (zsr (zw (zsr (zmn (zsr (zw (zsr (zw M a1 5 50) x 3 (some a1)) a2 5 50) x 4 (some a2)) q r 50) x 5 (some q)) ah 9 8) x 6 (some ah)) x 0 (nI D)) x 1 (none)) x 2 n) a2 = 5 := by rw [zk_i, zk_r, zk_i, zk_r, zk_w, if_neg (n_ah_a2).symm, zk_r, zmn_k, if_neg (n_r_a2 3 (by decide)).symm, if_neg (n_r_a2 2 (by decide)).symm, if_neg (n_r_a2 1 (by decide)).symm, if_neg (n_r_a2 0 (by decide)).symm, if_neg (n_q_a2).symm, zk_r, zk_w, if_pos rfl]
  have f2n : zn (zsi (zsr (zsi (zsr (zw (zsr (zmn (zsr (zw (zsr (zw M a1 5 50) x 3 (some a1)) a2 5 50) x 4 (some a2)) q r 50) x 5 (some q)) ah 9 8) x 6 (some ah)) x 0 (nI D)) x 1 (none)) x 2 n) a2 = 50 := by rw [zn_i, zn_r, zn_i, zn_r, zn_w, if_neg (n_ah_a2).symm, zn_r, zmn_n, if_neg (n_r_a2 3 (by decide)).symm, if_neg (n_r_a2 2 (by decide)).symm, if_neg (n_r_a2 1 (by decide)).symm, if_neg (n_r_a2 0 (by decide)).symm, if_neg (n_q_a2).symm, zn_r, zn_w, if_pos rfl]
  have f2i : ∀ j, zi (zsi (zsr (zsi (zsr (zw (zsr (zmn (zsr (zw (zsr (zw M a1 5 50) x 3 (some a1)) a2 5 50) x 4 (some a2)) q r 50) x 5 (some q)) ah 9 8) x 6 (some ah)) x 0 (nI D)) x 1 (none)) x 2 n) a2 j = 0 := fun j => by rw [zi_i, if_neg (fun z => (n_a2_x) z.1), zi_r, zi_i, if_neg (fun z => (n_a2_x) z.1), zi_r, zi_w, if_neg (n_ah_a2).symm, zi_r, zmn_i, if_neg (n_r_a2 3 (by decide)).symm, if_neg (n_r_a2 2 (by decide)).symm, if_neg (n_r_a2 1 (by decide)).symm, if_neg (n_r_a2 0 (by decide)).symm, if_neg (n_q_a2).symm, zi_r, zi_w, if_pos rfl]
  have fqk : zk (zsi (zsr (zsi (zsr (zw (zsr (zmn (zsr (zw (zsr (zw M a1 5 50) x 3 (some a1)) a2 5 50) x 4 (some a2)) q r 50) x 5 (some q)) ah 9 8) x 6 (some ah)) x 0 (nI D)) x 1 (none)) x 2 n) q = 10 := by rw [zk_i, zk_r, zk_i, zk_r, zk_w, if_neg (n_ah_q).symm, zk_r, zmn_k, if_neg (n_r_q 3 (by decide)).symm, if_neg (n_r_q 2 (by decide)).symm, if_neg (n_r_q 1 (by decide)).symm, if_neg (n_r_q 0 (by decide)).symm, if_pos rfl]
  have fqn : zn (zsi (zsr (zsi (zsr (zw (zsr (zmn (zsr (zw (zsr (zw M a1 5 50) x 3 (some a1)) a2 5 50) x 4 (some a2)) q r 50) x 5 (some q)) ah 9 8) x 6 (some ah)) x 0 (nI D)) x 1 (none)) x 2 n) q = 4 := by rw [zn_i, zn_r, zn_i, zn_r, zn_w, if_neg (n_ah_q).symm, zn_r, zmn_n, if_neg (n_r_q 3 (by decide)).symm, if_neg (n_r_q 2 (by decide)).symm, if_neg (n_r_q 1 (by decide)).symm, if_neg (n_r_q 0 (by decide)).symm, if_pos rfl]
  have fq0 : zr (zsi (zsr (zsi (zsr (zw (zsr (zmn (zsr (zw (zsr (zw M a1 5 50) x 3 (some a1)) a2 5 50) x 4 (some a2)) q r 50) x 5 (some q)) ah 9 8) x 6 (some ah)) x 0 (nI D)) x 1 (none)) x 2 n) q 0 = some (r 0) := by rw [zr_i, zr_r, if_neg (fun z => (n_q_x) z.1), zr_i, zr_r, if_neg (fun z => (n_q_x) z.1), zr_w, if_neg (n_ah_q).symm, zr_r, if_neg (fun z => (n_q_x) z.1), zmn_r, if_neg (fun z => absurd z.2 (by decide)), if_neg (fun z => absurd z.2 (by decide)), if_neg (fun z => absurd z.2 (by decide)), if_pos ⟨rfl, rfl⟩]
  have fq1 : zr (zsi (zsr (zsi (zsr (zw (zsr (zmn (zsr (zw (zsr (zw M a1 5 50) x 3 (some a1)) a2 5 50) x 4 (some a2)) q r 50) x 5 (some q)) ah 9 8) x 6 (some ah)) x 0 (nI D)) x 1 (none)) x 2 n) q 1 = some (r 1) := by rw [zr_i, zr_r, if_neg (fun z => (n_q_x) z.1), zr_i, zr_r, if_neg (fun z => (n_q_x) z.1), zr_w, if_neg (n_ah_q).symm, zr_r, if_neg (fun z => (n_q_x) z.1), zmn_r, if_neg (fun z => absurd z.2 (by decide)), if_neg (fun z => absurd z.2 (by decide)), if_pos ⟨rfl, rfl⟩]
  have fq2 : zr (zsi (zsr (zsi (zsr (zw (zsr (zmn (zsr (zw (zsr (zw M a1 5 50) x 3 (some a1)) a2 5 50) x 4 (some a2)) q r 50) x 5 (some q)) ah 9 8) x 6 (some ah)) x 0 (nI D)) x 1 (none)) x 2 n) q 2 = some (r 2) := by rw [zr_i, zr_r, if_neg (fun z => (n_q_x) z.1), zr_i, zr_r, if_neg (fun z => (n_q_x) z.1), zr_w, if_neg (n_ah_q).symm, zr_r, if_neg (fun z => (n_q_x) z.1), zmn_r, if_neg (fun z => absurd z.2 (by decide)), if_pos ⟨rfl, rfl⟩]
  have fq3 : zr (zsi (zsr (zsi (zsr (zw (zsr (zmn (zsr (zw (zsr (zw M a1 5 50) x 3 (some a1)) a2 5 50) x 4 (some a2)) q r 50) x 5 (some q)) ah 9 8) x 6 (some ah)) x 0 (nI D)) x 1 (none)) x 2 n) q 3 = some (r 3) := by rw [zr_i, zr_r, if_neg (fun z => (n_q_x) z.1), zr_i, zr_r, if_neg (fun z => (n_q_x) z.1), zr_w, if_neg (n_ah_q).symm, zr_r, if_neg (fun z => (n_q_x) z.1), zmn_r, if_pos ⟨rfl, rfl⟩]
  have fr0k : zk (zsi (zsr (zsi (zsr (zw (zsr (zmn (zsr (zw (zsr (zw M a1 5 50) x 3 (some a1)) a2 5 50) x 4 (some a2)) q r 50) x 5 (some q)) ah 9 8) x 6 (some ah)) x 0 (nI D)) x 1 (none)) x 2 n) (r 0) = 5 := by rw [zk_i, zk_r, zk_i, zk_r, zk_w, if_neg n_ah_r0.symm, zk_r, zmn_k, if_neg (fun e => absurd (hrj 0 3 (by decide) (by decide) e) (by decide)), if_neg (fun e => absurd (hrj 0 2 (by decide) (by decide) e) (by decide)), if_neg (fun e => absurd (hrj 0 1 (by decide) (by decide) e) (by decide)), if_pos rfl]
  have fr0n : zn (zsi (zsr (zsi (zsr (zw (zsr (zmn (zsr (zw (zsr (zw M a1 5 50) x 3 (some a1)) a2 5 50) x 4 (some a2)) q r 50) x 5 (some q)) ah 9 8) x 6 (some ah)) x 0 (nI D)) x 1 (none)) x 2 n) (r 0) = 50 := by rw [zn_i, zn_r, zn_i, zn_r, zn_w, if_neg n_ah_r0.symm, zn_r, zmn_n, if_neg (fun e => absurd (hrj 0 3 (by decide) (by decide) e) (by decide)), if_neg (fun e => absurd (hrj 0 2 (by decide) (by decide) e) (by decide)), if_neg (fun e => absurd (hrj 0 1 (by decide) (by decide) e) (by decide)), if_pos rfl]
  have fr0i : ∀ j, zi (zsi (zsr (zsi (zsr (zw (zsr (zmn (zsr (zw (zsr (zw M a1 5 50) x 3 (some a1)) a2 5 50) x 4 (some a2)) q r 50) x 5 (some q)) ah 9 8) x 6 (some ah)) x 0 (nI D)) x 1 (none)) x 2 n) (r 0) j = 0 := fun j => by rw [zi_i, if_neg (fun z => (n_r_x 0 (by decide)) z.1), zi_r, zi_i, if_neg (fun z => (n_r_x 0 (by decide)) z.1), zi_r, zi_w, if_neg n_ah_r0.symm, zi_r, zmn_i, if_neg (fun e => absurd (hrj 0 3 (by decide) (by decide) e) (by decide)), if_neg (fun e => absurd (hrj 0 2 (by decide) (by decide) e) (by decide)), if_neg (fun e => absurd (hrj 0 1 (by decide) (by decide) e) (by decide)), if_pos rfl]
  have fr1k : zk (zsi (zsr (zsi (zsr (zw (zsr (zmn (zsr (zw (zsr (zw M a1 5 50) x 3 (some a1)) a2 5 50) x 4 (some a2)) q r 50) x 5 (some q)) ah 9 8) x 6 (some ah)) x 0 (nI D)) x 1 (none)) x 2 n) (r 1) = 5 := by rw [zk_i, zk_r, zk_i, zk_r, zk_w, if_neg n_ah_r1.symm, zk_r, zmn_k, if_neg (fun e => absurd (hrj 1 3 (by decide) (by decide) e) (by decide)), if_neg (fun e => absurd (hrj 1 2 (by decide) (by decide) e) (by decide)), if_pos rfl]
  have fr1n : zn (zsi (zsr (zsi (zsr (zw (zsr (zmn (zsr (zw (zsr (zw M a1 5 50) x 3 (some a1)) a2 5 50) x 4 (some a2)) q r 50) x 5 (some q)) ah 9 8) x 6 (some ah)) x 0 (nI D)) x 1 (none)) x 2 n) (r 1) = 50 := by rw [zn_i, zn_r, zn_i, zn_r, zn_w, if_neg n_ah_r1.symm, zn_r, zmn_n, if_neg (fun e => absurd (hrj 1 3 (by decide) (by decide) e) (by decide)), if_neg (fun e => absurd (hrj 1 2 (by decide) (by decide) e) (by decide)), if_pos rfl]
  have fr1i : ∀ j, zi (zsi (zsr (zsi (zsr (zw (zsr (zmn (zsr (zw (zsr (zw M a1 5 50) x 3 (some a1)) a2 5 50) x 4 (some a2)) q r 50) x 5 (some q)) ah 9 8) x 6 (some ah)) x 0 (nI D)) x 1 (none)) x 2 n) (r 1) j = 0 := fun j => by rw [zi_i, if_neg (fun z => (n_r_x 1 (by decide)) z.1), zi_r, zi_i, if_neg (fun z => (n_r_x 1 (by decide)) z.1), zi_r, zi_w, if_neg n_ah_r1.symm, zi_r, zmn_i, if_neg (fun e => absurd (hrj 1 3 (by decide) (by decide) e) (by decide)), if_neg (fun e => absurd (hrj 1 2 (by decide) (by decide) e) (by decide)), if_pos rfl]
  have fr2k : zk (zsi (zsr (zsi (zsr (zw (zsr (zmn (zsr (zw (zsr (zw M a1 5 50) x 3 (some a1)) a2 5 50) x 4 (some a2)) q r 50) x 5 (some q)) ah 9 8) x 6 (some ah)) x 0 (nI D)) x 1 (none)) x 2 n) (r 2) = 5 := by rw [zk_i, zk_r, zk_i, zk_r, zk_w, if_neg n_ah_r2.symm, zk_r, zmn_k, if_neg (fun e => absurd (hrj 2 3 (by decide) (by decide) e) (by decide)), if_pos rfl]
  have fr2n : zn (zsi (zsr (zsi (zsr (zw (zsr (zmn (zsr (zw (zsr (zw M a1 5 50) x 3 (some a1)) a2 5 50) x 4 (some a2)) q r 50) x 5 (some q)) ah 9 8) x 6 (some ah)) x 0 (nI D)) x 1 (none)) x 2 n) (r 2) = 50 := by rw [zn_i, zn_r, zn_i, zn_r, zn_w, if_neg n_ah_r2.symm, zn_r, zmn_n, if_neg (fun e => absurd (hrj 2 3 (by decide) (by decide) e) (by decide)), if_pos rfl]
  have fr2i : ∀ j, zi (zsi (zsr (zsi (zsr (zw (zsr (zmn (zsr (zw (zsr (zw M a1 5 50) x 3 (some a1)) a2 5 50) x 4 (some a2)) q r 50) x 5 (some q)) ah 9 8) x 6 (some ah)) x 0 (nI D)) x 1 (none)) x 2 n) (r 2) j = 0 := fun j => by rw [zi_i, if_neg (fun z => (n_r_x 2 (by decide)) z.1), zi_r, zi_i, if_neg (fun z => (n_r_x 2 (by decide)) z.1), zi_r, zi_w, if_neg n_ah_r2.symm, zi_r, zmn_i, if_neg (fun e => absurd (hrj 2 3 (by decide) (by decide) e) (by decide)), if_pos rfl]
  have fr3k : zk (zsi (zsr (zsi (zsr (zw (zsr (zmn (zsr (zw (zsr (zw M a1 5 50) x 3 (some a1)) a2 5 50) x 4 (some a2)) q r 50) x 5 (some q)) ah 9 8) x 6 (some ah)) x 0 (nI D)) x 1 (none)) x 2 n) (r 3) = 5 := by rw [zk_i, zk_r, zk_i, zk_r, zk_w, if_neg n_ah_r3.symm, zk_r, zmn_k, if_pos rfl]
  have fr3n : zn (zsi (zsr (zsi (zsr (zw (zsr (zmn (zsr (zw (zsr (zw M a1 5 50) x 3 (some a1)) a2 5 50) x 4 (some a2)) q r 50) x 5 (some q)) ah 9 8) x 6 (some ah)) x 0 (nI D)) x 1 (none)) x 2 n) (r 3) = 50 := by rw [zn_i, zn_r, zn_i, zn_r, zn_w, if_neg n_ah_r3.symm, zn_r, zmn_n, if_pos rfl]
  have fr3i : ∀ j, zi (zsi (zsr (zsi (zsr (zw (zsr (zmn (zsr (zw (zsr (zw M a1 5 50) x 3 (some a1)) a2 5 50) x 4 (some a2)) q r 50) x 5 (some q)) ah 9 8) x 6 (some ah)) x 0 (nI D)) x 1 (none)) x 2 n) (r 3) j = 0 := fun j => by rw [zi_i, if_neg (fun z => (n_r_x 3 (by decide)) z.1), zi_r, zi_i, if_neg (fun z => (n_r_x 3 (by decide)) z.1), zi_r, zi_w, if_neg n_ah_r3.symm, zi_r, zmn_i, if_pos rfl]
  have fhk : zk (zsi (zsr (zsi (zsr (zw (zsr (zmn (zsr (zw (zsr (zw M a1 5 50) x 3 (some a1)) a2 5 50) x 4 (some a2)) q r 50) x 5 (some q)) ah 9 8) x 6 (some ah)) x 0 (nI D)) x 1 (none)) x 2 n) ah = 9 := by rw [zk_i, zk_r, zk_i, zk_r, zk_w, if_pos rfl]
  have fhn : zn (zsi (zsr (zsi (zsr (zw (zsr (zmn (zsr (zw (zsr (zw M a1 5 50) x 3 (some a1)) a2 5 50) x 4 (some a2)) q r 50) x 5 (some q)) ah 9 8) x 6 (some ah)) x 0 (nI D)) x 1 (none)) x 2 n) ah = 8 := by rw [zn_i, zn_r, zn_i, zn_r, zn_w, if_pos rfl]
  have fxk : zk (zsi (zsr (zsi (zsr (zw (zsr (zmn (zsr (zw (zsr (zw M a1 5 50) x 3 (some a1)) a2 5 50) x 4 (some a2)) q r 50) x 5 (some q)) ah 9 8) x 6 (some ah)) x 0 (nI D)) x 1 (none)) x 2 n) x = 1 := kx4
  have fx0 : zi (zsi (zsr (zsi (zsr (zw (zsr (zmn (zsr (zw (zsr (zw M a1 5 50) x 3 (some a1)) a2 5 50) x 4 (some a2)) q r 50) x 5 (some q)) ah 9 8) x 6 (some ah)) x 0 (nI D)) x 1 (none)) x 2 n) x 0 = nI D := by rw [zi_i, if_neg (fun z => absurd z.2 (by decide)), zi_r, zi_i, if_pos ⟨rfl, rfl⟩]
  have fx1 : zr (zsi (zsr (zsi (zsr (zw (zsr (zmn (zsr (zw (zsr (zw M a1 5 50) x 3 (some a1)) a2 5 50) x 4 (some a2)) q r 50) x 5 (some q)) ah 9 8) x 6 (some ah)) x 0 (nI D)) x 1 (none)) x 2 n) x 1 = none := by rw [zr_i, zr_r, if_pos ⟨rfl, rfl⟩]
  have fx2 : zi (zsi (zsr (zsi (zsr (zw (zsr (zmn (zsr (zw (zsr (zw M a1 5 50) x 3 (some a1)) a2 5 50) x 4 (some a2)) q r 50) x 5 (some q)) ah 9 8) x 6 (some ah)) x 0 (nI D)) x 1 (none)) x 2 n) x 2 = n := by rw [zi_i, if_pos ⟨rfl, rfl⟩]
  have fx3 : zr (zsi (zsr (zsi (zsr (zw (zsr (zmn (zsr (zw (zsr (zw M a1 5 50) x 3 (some a1)) a2 5 50) x 4 (some a2)) q r 50) x 5 (some q)) ah 9 8) x 6 (some ah)) x 0 (nI D)) x 1 (none)) x 2 n) x 3 = some a1 := by rw [zr_i, zr_r, if_neg (fun z => absurd z.2 (by decide)), zr_i, zr_r, if_neg (fun z => absurd z.2 (by decide)), zr_w, if_neg (n_ah_x).symm, zr_r, if_neg (fun z => absurd z.2 (by decide)), zmn_r, if_neg (fun z => (n_q_x).symm z.1), if_neg (fun z => (n_q_x).symm z.1), if_neg (fun z => (n_q_x).symm z.1), if_neg (fun z => (n_q_x).symm z.1), if_neg (n_r_x 3 (by decide)).symm, if_neg (n_r_x 2 (by decide)).symm, if_neg (n_r_x 1 (by decide)).symm, if_neg (n_r_x 0 (by decide)).symm, if_neg (n_q_x).symm, zr_r, if_neg (fun z => absurd z.2 (by decide)), zr_w, if_neg (n_a2_x).symm, zr_r, if_pos ⟨rfl, rfl⟩]
  have fx4 : zr (zsi (zsr (zsi (zsr (zw (zsr (zmn (zsr (zw (zsr (zw M a1 5 50) x 3 (some a1)) a2 5 50) x 4 (some a2)) q r 50) x 5 (some q)) ah 9 8) x 6 (some ah)) x 0 (nI D)) x 1 (none)) x 2 n) x 4 = some a2 := by rw [zr_i, zr_r, if_neg (fun z => absurd z.2 (by decide)), zr_i, zr_r, if_neg (fun z => absurd z.2 (by decide)), zr_w, if_neg (n_ah_x).symm, zr_r, if_neg (fun z => absurd z.2 (by decide)), zmn_r, if_neg (fun z => (n_q_x).symm z.1), if_neg (fun z => (n_q_x).symm z.1), if_neg (fun z => (n_q_x).symm z.1), if_neg (fun z => (n_q_x).symm z.1), if_neg (n_r_x 3 (by decide)).symm, if_neg (n_r_x 2 (by decide)).symm, if_neg (n_r_x 1 (by decide)).symm, if_neg (n_r_x 0 (by decide)).symm, if_neg (n_q_x).symm, zr_r, if_pos ⟨rfl, rfl⟩]
  have fx5 : zr (zsi (zsr (zsi (zsr (zw (zsr (zmn (zsr (zw (zsr (zw M a1 5 50) x 3 (some a1)) a2 5 50) x 4 (some a2)) q r 50) x 5 (some q)) ah 9 8) x 6 (some ah)) x 0 (nI D)) x 1 (none)) x 2 n) x 5 = some q := by rw [zr_i, zr_r, if_neg (fun z => absurd z.2 (by decide)), zr_i, zr_r, if_neg (fun z => absurd z.2 (by decide)), zr_w, if_neg (n_ah_x).symm, zr_r, if_pos ⟨rfl, rfl⟩]
  have fx6 : zr (zsi (zsr (zsi (zsr (zw (zsr (zmn (zsr (zw (zsr (zw M a1 5 50) x 3 (some a1)) a2 5 50) x 4 (some a2)) q r 50) x 5 (some q)) ah 9 8) x 6 (some ah)) x 0 (nI D)) x 1 (none)) x 2 n) x 6 = some ah := by rw [zr_i, zr_r, if_neg (fun z => absurd z.2 (by decide)), zr_i, zr_r, if_pos ⟨rfl, rfl⟩]
  have ffr : ∀ y, ¬ zk M y = 0 → y ≠ x → zsame M (zsi (zsr (zsi (zsr (zw (zsr (zmn (zsr (zw (zsr (zw M a1 5 50) x 3 (some a1)) a2 5 50) x 4 (some a2)) q r 50) x 5 (some q)) ah 9 8) x 6 (some ah)) x 0 (nI D)) x 1 (none)) x 2 n) y := fun y hy hyx => by
    have m1 : y ≠ a1 := fun e => hy (e ▸ ha1)
    have m2 : y ≠ a2 := fun e => hy (e ▸ ha2)
    have m3 : y ≠ q := fun e => hy (e ▸ hq)
    have m4 : y ≠ ah := fun e => hy (e ▸ hah)
    have mr : ∀ i, i < 4 → y ≠ r i := fun i hi e => hy (e ▸ (hq4 i hi).1)
    have s1 : zsame M (zsr (zw (zsr (zw M a1 5 50) x 3 (some a1)) a2 5 50) x 4 (some a2)) y := (((zsame.w m1).tr (zsame.r hyx)).tr (zsame.w m2)).tr (zsame.r hyx)
    have s2 : zsame (zsr (zw (zsr (zw M a1 5 50) x 3 (some a1)) a2 5 50) x 4 (some a2)) (zmn (zsr (zw (zsr (zw M a1 5 50) x 3 (some a1)) a2 5 50) x 4 (some a2)) q r 50) y := zsame.mn m3 mr
    exact s1.tr (s2.tr ((((((zsame.r hyx).tr (zsame.w m4)).tr (zsame.r hyx)).tr (zsame.i hyx)).tr (zsame.r hyx)).tr (zsame.i hyx)))
  generalize (zsi (zsr (zsi (zsr (zw (zsr (zmn (zsr (zw (zsr (zw M a1 5 50) x 3 (some a1)) a2 5 50) x 4 (some a2)) q r 50) x 5 (some q)) ah 9 8) x 6 (some ah)) x 0 (nI D)) x 1 (none)) x 2 n) = M5 at *
  refine lp_X0_f1 K fxk fx3 f1k f1n (fun M6 h6 => ?_) 50 0 rfl M5 ⟨fun _ _ => zsame.rf, rfl, rfl, fun j => by rw [if_neg (by omega)]⟩
  obtain ⟨u1, u2, u3, u4⟩ := h6
  refine zq_new K dX0_init_79 zclX1 zc_X0_23 (by decide) (by decide) (Nat.le_of_ble_eq_true rfl) (Nat.le_refl _) (fun f hf => ?_)
  have hf0 : zk M6 f = 0 := hf
  refine zq_dup K dX0_init_82 rfl ?_
  refine zq_iload_n K dX0_init_83 rfl rfl ?_
  refine zq_iconst K dX0_init_84 (v := nI 0) (by decide) ?_
  refine zq_bipush K dX0_init_85 (v := nI 8) (by decide) ?_
  refine zq_iload K dX0_init_87 rfl ?_
  refine zq_iconst K dX0_init_89 (v := nI 0) (by decide) ?_
  refine zq_callI (As := [.int (nI (D)), .int (nI (0)), .int (nI (8)), .int (o), .int (nI (0))]) K dX0_init_90 zyX1_init rfl rfl zm_X0_40 ziX1_init (by decide) rfl rfl (Nat.le_of_ble_eq_true rfl) (Nat.le_of_ble_eq_true rfl) (ct_X1_init (show zk (zw M6 f 2 0) f = 2 from by rw [zk_w, if_pos rfl]) (nI D) (nI 0) (nI 8) o (nI 0)) (zone_r ?_) zone_x (Nat.le_refl _)
  refine zq_astore K dX0_init_93 (by decide) ?_
  refine zq_iconst K dX0_init_95 (v := nI 0) (by decide) ?_
  refine zq_istore K dX0_init_96 (by decide) ?_
  have nf : ∀ y, ¬ zk M5 y = 0 → f ≠ y := fun y hy e => by
    by_cases e1 : y = a1
    · rw [e, e1, u2, f1k] at hf0; exact absurd hf0 (by decide)
    · rw [e, (u1 y e1).1] at hf0; exact hy hf0
  have s7 : ∀ y, y ≠ f → zsame M6 (zsi (zsi (zsi (zsi (zsi (zw M6 f 2 0) f 0 (nI D)) f 1 (nI 0)) f 2 (nI 8)) f 3 o) f 4 (nI 0)) y := fun y hy => (zsame.w hy).tr ((zsame.i hy).tr ((zsame.i hy).tr ((zsame.i hy).tr ((zsame.i hy).tr (zsame.i hy)))))
  have nxf : x ≠ f := (nf x (by rw [fxk]; decide)).symm
  have nhf : ah ≠ f := (nf ah (by rw [fhk]; decide)).symm
  have nh1 : ah ≠ a1 := n_ah_a1
  have nx1 : x ≠ a1 := n_a1_x.symm
  have q0 : zk (zsi (zsi (zsi (zsi (zsi (zw M6 f 2 0) f 0 (nI D)) f 1 (nI 0)) f 2 (nI 8)) f 3 o) f 4 (nI 0)) f = 2 ∧ zi (zsi (zsi (zsi (zsi (zsi (zw M6 f 2 0) f 0 (nI D)) f 1 (nI 0)) f 2 (nI 8)) f 3 o) f 4 (nI 0)) f 0 = nI D ∧ zi (zsi (zsi (zsi (zsi (zsi (zw M6 f 2 0) f 0 (nI D)) f 1 (nI 0)) f 2 (nI 8)) f 3 o) f 4 (nI 0)) f 1 = nI 0 ∧ zi (zsi (zsi (zsi (zsi (zsi (zw M6 f 2 0) f 0 (nI D)) f 1 (nI 0)) f 2 (nI 8)) f 3 o) f 4 (nI 0)) f 2 = nI 8 ∧ zi (zsi (zsi (zsi (zsi (zsi (zw M6 f 2 0) f 0 (nI D)) f 1 (nI 0)) f 2 (nI 8)) f 3 o) f 4 (nI 0)) f 3 = o ∧ zi (zsi (zsi (zsi (zsi (zsi (zw M6 f 2 0) f 0 (nI D)) f 1 (nI 0)) f 2 (nI 8)) f 3 o) f 4 (nI 0)) f 4 = nI 0 := ⟨by rw [zk_i, zk_i, zk_i, zk_i, zk_i, zk_w, if_pos rfl], by rw [zi_i, if_neg (fun z => absurd z.2 (by decide)), zi_i, if_neg (fun z => absurd z.2 (by decide)), zi_i, if_neg (fun z => absurd z.2 (by decide)), zi_i, if_neg (fun z => absurd z.2 (by decide)), zi_i, if_pos ⟨rfl, rfl⟩], by rw [zi_i, if_neg (fun z => absurd z.2 (by decide)), zi_i, if_neg (fun z => absurd z.2 (by decide)), zi_i, if_neg (fun z => absurd z.2 (by decide)), zi_i, if_pos ⟨rfl, rfl⟩], by rw [zi_i, if_neg (fun z => absurd z.2 (by decide)), zi_i, if_neg (fun z => absurd z.2 (by decide)), zi_i, if_pos ⟨rfl, rfl⟩], by rw [zi_i, if_neg (fun z => absurd z.2 (by decide)), zi_i, if_pos ⟨rfl, rfl⟩], by rw [zi_i, if_pos ⟨rfl, rfl⟩]⟩
  generalize (zsi (zsi (zsi (zsi (zsi (zw M6 f 2 0) f 0 (nI D)) f 1 (nI 0)) f 2 (nI 8)) f 3 o) f 4 (nI 0)) = M7 at *
  have t7 : ∀ y, y ≠ a1 → y ≠ f → zsame M5 M7 y := fun y h1 h2 => (u1 y h1).tr (s7 y h2)
  refine lp_X0_f2 K (((t7 x nx1 nxf).1).trans fxk) (((t7 x nx1 nxf).2.2.2.1 6).trans fx6) (((t7 ah nh1 nhf).1).trans fhk) (((t7 ah nh1 nhf).2.1).trans fhn) q0.1 (fun M8 h8 => ?_) 8 0 rfl M7 ⟨fun _ _ => zsame.rf, rfl, rfl, fun j => by rw [if_neg (by omega)]⟩
  obtain ⟨w1, w2, w3, w4⟩ := h8
  have t8 : ∀ y, y ≠ a1 → y ≠ f → y ≠ ah → zsame M5 M8 y := fun y h1 h2 h3 => (t7 y h1 h2).tr (w1 y h3)
  have nf1 : f ≠ a1 := nf a1 (by rw [f1k]; decide)
  have nf2 : f ≠ a2 := nf a2 (by rw [f2k]; decide)
  have nfq : f ≠ q := nf q (by rw [fqk]; decide)
  have nfr0 : f ≠ r 0 := nf (r 0) (by rw [fr0k]; decide)
  have nfr1 : f ≠ r 1 := nf (r 1) (by rw [fr1k]; decide)
  have nfr2 : f ≠ r 2 := nf (r 2) (by rw [fr2k]; decide)
  have nfr3 : f ≠ r 3 := nf (r 3) (by rw [fr3k]; decide)
  have hfM : zk M f = 0 := by
    by_cases e : zk M f = 0
    · exact e
    · exact absurd rfl (nf f (by rw [(ffr f e nxf.symm).1]; exact e))
  have s1 := (s7 a1 nf1.symm).tr (w1 a1 nh1.symm)
  have sf := w1 f nhf.symm
  have sx := t8 x nx1 nxf n_ah_x.symm
  have s2 := t8 a2 n_a2_a1 nf2.symm n_ah_a2.symm
  have sq := t8 q n_q_a1 nfq.symm n_ah_q.symm
  have sr0 := t8 (r 0) (n_r_a1 0 (by decide)) nfr0.symm n_ah_r0.symm
  have sr1 := t8 (r 1) (n_r_a1 1 (by decide)) nfr1.symm n_ah_r1.symm
  have sr2 := t8 (r 2) (n_r_a1 2 (by decide)) nfr2.symm n_ah_r2.symm
  have sr3 := t8 (r 3) (n_r_a1 3 (by decide)) nfr3.symm n_ah_r3.symm
  have hin : ∀ i j, i < 9 → j < 9 → (fun i => if i = 0 then a1 else if i = 1 then a2 else if i = 2 then q else if i = 3 then ah else if i = 4 then f else r (i - 5)) i = (fun i => if i = 0 then a1 else if i = 1 then a2 else if i = 2 then q else if i = 3 then ah else if i = 4 then f else r (i - 5)) j → i = j := fun i j hi hj e => match i, j, hi, hj, e with
    | 0, 0, _, _, e => rfl
    | 0, 1, _, _, e => absurd e (n_a2_a1).symm
    | 0, 2, _, _, e => absurd e (n_q_a1).symm
    | 0, 3, _, _, e => absurd e (n_ah_a1).symm
    | 0, 4, _, _, e => absurd e nf1.symm
    | 0, 5, _, _, e => absurd e (n_r_a1 0 (by decide)).symm
    | 0, 6, _, _, e => absurd e (n_r_a1 1 (by decide)).symm
    | 0, 7, _, _, e => absurd e (n_r_a1 2 (by decide)).symm
    | 0, 8, _, _, e => absurd e (n_r_a1 3 (by decide)).symm
    | 1, 0, _, _, e => absurd e (n_a2_a1)
    | 1, 1, _, _, e => rfl
    | 1, 2, _, _, e => absurd e (n_q_a2).symm
    | 1, 3, _, _, e => absurd e (n_ah_a2).symm
    | 1, 4, _, _, e => absurd e nf2.symm
    | 1, 5, _, _, e => absurd e (n_r_a2 0 (by decide)).symm
    | 1, 6, _, _, e => absurd e (n_r_a2 1 (by decide)).symm
    | 1, 7, _, _, e => absurd e (n_r_a2 2 (by decide)).symm
    | 1, 8, _, _, e => absurd e (n_r_a2 3 (by decide)).symm
    | 2, 0, _, _, e => absurd e (n_q_a1)
    | 2, 1, _, _, e => absurd e (n_q_a2)
    | 2, 2, _, _, e => rfl
    | 2, 3, _, _, e => absurd e (n_ah_q).symm
    | 2, 4, _, _, e => absurd e nfq.symm
    | 2, 5, _, _, e => absurd e (n_r_q 0 (by decide)).symm
    | 2, 6, _, _, e => absurd e (n_r_q 1 (by decide)).symm
    | 2, 7, _, _, e => absurd e (n_r_q 2 (by decide)).symm
    | 2, 8, _, _, e => absurd e (n_r_q 3 (by decide)).symm
    | 3, 0, _, _, e => absurd e (n_ah_a1)
    | 3, 1, _, _, e => absurd e (n_ah_a2)
    | 3, 2, _, _, e => absurd e (n_ah_q)
    | 3, 3, _, _, e => rfl
    | 3, 4, _, _, e => absurd e nhf
    | 3, 5, _, _, e => absurd e n_ah_r0
    | 3, 6, _, _, e => absurd e n_ah_r1
    | 3, 7, _, _, e => absurd e n_ah_r2
    | 3, 8, _, _, e => absurd e n_ah_r3
    | 4, 0, _, _, e => absurd e nf1
    | 4, 1, _, _, e => absurd e nf2
    | 4, 2, _, _, e => absurd e nfq
    | 4, 3, _, _, e => absurd e nhf.symm
    | 4, 4, _, _, e => rfl
    | 4, 5, _, _, e => absurd e nfr0
    | 4, 6, _, _, e => absurd e nfr1
    | 4, 7, _, _, e => absurd e nfr2
    | 4, 8, _, _, e => absurd e nfr3
    | 5, 0, _, _, e => absurd e (n_r_a1 0 (by decide))
    | 5, 1, _, _, e => absurd e (n_r_a2 0 (by decide))
    | 5, 2, _, _, e => absurd e (n_r_q 0 (by decide))
    | 5, 3, _, _, e => absurd e n_ah_r0.symm
    | 5, 4, _, _, e => absurd e nfr0.symm
    | 5, 5, _, _, e => rfl
    | 5, 6, _, _, e => absurd e (fun e => absurd (hrj 0 1 (by decide) (by decide) e) (by decide))
    | 5, 7, _, _, e => absurd e (fun e => absurd (hrj 0 2 (by decide) (by decide) e) (by decide))
    | 5, 8, _, _, e => absurd e (fun e => absurd (hrj 0 3 (by decide) (by decide) e) (by decide))
    | 6, 0, _, _, e => absurd e (n_r_a1 1 (by decide))
    | 6, 1, _, _, e => absurd e (n_r_a2 1 (by decide))
    | 6, 2, _, _, e => absurd e (n_r_q 1 (by decide))
    | 6, 3, _, _, e => absurd e n_ah_r1.symm
    | 6, 4, _, _, e => absurd e nfr1.symm
    | 6, 5, _, _, e => absurd e (fun e => absurd (hrj 1 0 (by decide) (by decide) e) (by decide))
    | 6, 6, _, _, e => rfl
    | 6, 7, _, _, e => absurd e (fun e => absurd (hrj 1 2 (by decide) (by decide) e) (by decide))
    | 6, 8, _, _, e => absurd e (fun e => absurd (hrj 1 3 (by decide) (by decide) e) (by decide))
    | 7, 0, _, _, e => absurd e (n_r_a1 2 (by decide))
    | 7, 1, _, _, e => absurd e (n_r_a2 2 (by decide))
    | 7, 2, _, _, e => absurd e (n_r_q 2 (by decide))
    | 7, 3, _, _, e => absurd e n_ah_r2.symm
    | 7, 4, _, _, e => absurd e nfr2.symm
    | 7, 5, _, _, e => absurd e (fun e => absurd (hrj 2 0 (by decide) (by decide) e) (by decide))
    | 7, 6, _, _, e => absurd e (fun e => absurd (hrj 2 1 (by decide) (by decide) e) (by decide))
    | 7, 7, _, _, e => rfl
    | 7, 8, _, _, e => absurd e (fun e => absurd (hrj 2 3 (by decide) (by decide) e) (by decide))
    | 8, 0, _, _, e => absurd e (n_r_a1 3 (by decide))
    | 8, 1, _, _, e => absurd e (n_r_a2 3 (by decide))
    | 8, 2, _, _, e => absurd e (n_r_q 3 (by decide))
    | 8, 3, _, _, e => absurd e n_ah_r3.symm
    | 8, 4, _, _, e => absurd e nfr3.symm
    | 8, 5, _, _, e => absurd e (fun e => absurd (hrj 3 0 (by decide) (by decide) e) (by decide))
    | 8, 6, _, _, e => absurd e (fun e => absurd (hrj 3 1 (by decide) (by decide) e) (by decide))
    | 8, 7, _, _, e => absurd e (fun e => absurd (hrj 3 2 (by decide) (by decide) e) (by decide))
    | 8, 8, _, _, e => rfl
    | i + 9, _, hi, _, _ => absurd hi (by omega)
    | _, j + 9, _, hj, _ => absurd hj (by omega)
  have hfre : ∀ i, i < 9 → zk M ((fun i => if i = 0 then a1 else if i = 1 then a2 else if i = 2 then q else if i = 3 then ah else if i = 4 then f else r (i - 5)) i) = 0 ∧ (fun i => if i = 0 then a1 else if i = 1 then a2 else if i = 2 then q else if i = 3 then ah else if i = 4 then f else r (i - 5)) i ≠ x := fun i hi => match i, hi with
    | 0, _ => ⟨ha1, n_a1_x⟩
    | 1, _ => ⟨ha2, n_a2_x⟩
    | 2, _ => ⟨hq, n_q_x⟩
    | 3, _ => ⟨hah, n_ah_x⟩
    | 4, _ => ⟨hfM, nxf.symm⟩
    | 5, _ => ⟨(hq4 0 (by decide)).1, n_r_x 0 (by decide)⟩
    | 6, _ => ⟨(hq4 1 (by decide)).1, n_r_x 1 (by decide)⟩
    | 7, _ => ⟨(hq4 2 (by decide)).1, n_r_x 2 (by decide)⟩
    | 8, _ => ⟨(hq4 3 (by decide)).1, n_r_x 3 (by decide)⟩
    | i + 9, hi => absurd hi (by omega)
  have fin : zDi M M8 x (fun i => if i = 0 then a1 else if i = 1 then a2 else if i = 2 then q else if i = 3 then ah else if i = 4 then f else r (i - 5)) D (none) n o := by
    refine ⟨⟨hfre, hin, fun y hy hyx => (ffr y hy hyx).tr (t8 y (fun e => hy (e ▸ ha1)) (fun e => hy (e ▸ hfM)) (fun e => hy (e ▸ hah)))⟩, ⟨sx.1.trans fxk, (sx.2.2.1 0).trans fx0, (sx.2.2.2.1 1).trans fx1, (sx.2.2.1 2).trans fx2, (sx.2.2.2.1 3).trans fx3, (sx.2.2.2.1 4).trans fx4, (sx.2.2.2.1 5).trans fx5, (sx.2.2.2.1 6).trans fx6⟩, ⟨s1.1.trans (u2.trans f1k), s1.2.1.trans (u3.trans f1n), fun k hk => (s1.2.2.1 k).trans (by rw [u4, if_pos hk])⟩, ⟨s2.1.trans f2k, s2.2.1.trans f2n, fun k _ => (s2.2.2.1 k).trans (f2i k)⟩, ⟨sq.1.trans fqk, sq.2.1.trans fqn, ?_⟩, ?_, ⟨w2.trans ((t7 ah nh1 nhf).1.trans fhk), w3.trans ((t7 ah nh1 nhf).2.1.trans fhn), fun h hh => (w4 h).trans (if_pos hh)⟩, ⟨sf.1.trans q0.1, (sf.2.2.1 0).trans q0.2.1, (sf.2.2.1 1).trans q0.2.2.1, (sf.2.2.1 2).trans q0.2.2.2.1, (sf.2.2.1 3).trans q0.2.2.2.2.1, (sf.2.2.1 4).trans q0.2.2.2.2.2⟩⟩
    · exact fun c hc => match c, hc with
      | 0, _ => (sq.2.2.2.1 0).trans fq0
      | 1, _ => (sq.2.2.2.1 1).trans fq1
      | 2, _ => (sq.2.2.2.1 2).trans fq2
      | 3, _ => (sq.2.2.2.1 3).trans fq3
      | c + 4, hc => absurd hc (by omega)
    · exact fun c hc => match c, hc with
      | 0, _ => ⟨sr0.1.trans fr0k, sr0.2.1.trans fr0n, fun k _ => (sr0.2.2.1 k).trans (fr0i k)⟩
      | 1, _ => ⟨sr1.1.trans fr1k, sr1.2.1.trans fr1n, fun k _ => (sr1.2.2.1 k).trans (fr1i k)⟩
      | 2, _ => ⟨sr2.1.trans fr2k, sr2.2.1.trans fr2n, fun k _ => (sr2.2.2.1 k).trans (fr2i k)⟩
      | 3, _ => ⟨sr3.1.trans fr3k, sr3.2.1.trans fr3n, fun k _ => (sr3.2.2.1 k).trans (fr3i k)⟩
      | c + 4, hc => absurd hc (by omega)
  exact zq_ret K dX0_init_120 rfl ⟨rfl, _, fin⟩
theorem ct_X0_init_1 {G : ZG} {M : ZM} {x : Nat} (hx : zk M x = 1) (D : Nat) (p : Nat) (n o : Int32) : zMet G mX0_init [.ref (x), .int (nI (D)), .ref (p), .int (n), .int (o)] M (zPP (fun M' => ∃ nu, zDi M M' x nu D (some p) n o) none) := by
  refine zbody zyX0_init [some (.ref (x)), some (.int (nI (D))), some (.ref (p)), some (.int (n)), some (.int (o)), none, none] rfl (Nat.le_of_ble_eq_true rfl) (by intro v hv; simp only [List.mem_cons, List.not_mem_nil, or_false] at hv; rcases hv with rfl | rfl | rfl | rfl | rfl <;> rfl) (fun E K => ?_)
  refine zq_aload_n K dX0_init_0 rfl rfl ?_
  refine zq_objInit K dX0_init_1 zm_X0_3 (zt 31 (by decide +kernel) rfl) (zt 32 (by decide +kernel) rfl) (Nat.le_of_ble_eq_true rfl) (by decide) ?_
  refine zq_aload_n K dX0_init_4 rfl rfl ?_
  refine zq_bipush K dX0_init_5 (v := nI 50) (by decide) ?_
  refine zq_newI K (50) 1 dX0_init_7 (by decide) ⟨by decide, by decide, by decide⟩ (Nat.le_refl _) (fun a1 ha1 => ?_)
  have n_a1_x : a1 ≠ x := fun e => by rw [e, hx] at ha1; exact absurd ha1 (by decide)
  have kx : zk (zw M a1 5 50) x = 1 := by rw [zk_w, if_neg n_a1_x.symm]; exact hx
  refine zq_putRs K dX0_init_9 zclX0 (k := 3) (by decide) zf_X0_9 (Or.inr ⟨rfl, rfl⟩) (fun r => by cases r <;> exact ⟨rfl, rfl⟩) rfl kx ?_
  refine zq_aload_n K dX0_init_12 rfl rfl ?_
  refine zq_bipush K dX0_init_13 (v := nI 50) (by decide) ?_
  refine zq_newI K (50) 1 dX0_init_15 (by decide) ⟨by decide, by decide, by decide⟩ (Nat.le_refl _) (fun a2 ha2 => ?_)
  rw [zk_r, zk_w] at ha2
  have n_a2_a1 : a2 ≠ a1 := fun e => by rw [if_pos e] at ha2; exact absurd ha2 (by decide)
  rw [if_neg n_a2_a1] at ha2
  have n_a2_x : a2 ≠ x := fun e => by rw [e, hx] at ha2; exact absurd ha2 (by decide)
  have kx2 : zk (zw (zsr (zw M a1 5 50) x 3 (some a1)) a2 5 50) x = 1 := by rw [zk_w, if_neg n_a2_x.symm]; exact kx
  refine zq_putRs K dX0_init_17 zclX0 (k := 4) (by decide) zf_X0_15 (Or.inr ⟨rfl, rfl⟩) (fun r => by cases r <;> exact ⟨rfl, rfl⟩) rfl kx2 ?_
  refine zq_aload_n K dX0_init_20 rfl rfl ?_
  refine zq_iconst K dX0_init_21 (v := nI 4) (by decide) ?_
  refine zq_bipush K dX0_init_22 (v := nI 50) (by decide) ?_
  refine zq_mna50 K dX0_init_24 zc_X0_18 (by decide) (Nat.le_refl _) (fun q r hq hr hrj => ?_)
  have hq4 : ∀ i, i < 4 → zk M (r i) = 0 ∧ r i ≠ a1 ∧ r i ≠ a2 := fun i hi => by
    have h := (hr i hi).1
    rw [zk_r, zk_w] at h
    have e2 : r i ≠ a2 := fun e => by rw [if_pos e] at h; exact absurd h (by decide)
    rw [if_neg e2, zk_r, zk_w] at h
    have e1 : r i ≠ a1 := fun e => by rw [if_pos e] at h; exact absurd h (by decide)
    rw [if_neg e1] at h
    exact ⟨h, e1, e2⟩
  rw [zk_r, zk_w] at hq
  have n_q_a2 : q ≠ a2 := fun e => by rw [if_pos e] at hq; exact absurd hq (by decide)
  rw [if_neg n_q_a2, zk_r, zk_w] at hq
  have n_q_a1 : q ≠ a1 := fun e => by rw [if_pos e] at hq; exact absurd hq (by decide)
  rw [if_neg n_q_a1] at hq
  have n_q_x : q ≠ x := fun e => by rw [e, hx] at hq; exact absurd hq (by decide)
  have n_r_q : ∀ i, i < 4 → r i ≠ q := fun i hi => (hr i hi).2
  have n_r_a1 : ∀ i, i < 4 → r i ≠ a1 := fun i hi => (hq4 i hi).2.1
  have n_r_a2 : ∀ i, i < 4 → r i ≠ a2 := fun i hi => (hq4 i hi).2.2
  have n_r_x : ∀ i, i < 4 → r i ≠ x := fun i hi e => by have h := (hq4 i hi).1; rw [e, hx] at h; exact absurd h (by decide)
  have kx3 : zk (zmn (zsr (zw (zsr (zw M a1 5 50) x 3 (some a1)) a2 5 50) x 4 (some a2)) q r 50) x = 1 := by rw [zmn_k, if_neg (n_r_x 3 (by decide)).symm, if_neg (n_r_x 2 (by decide)).symm, if_neg (n_r_x 1 (by decide)).symm, if_neg (n_r_x 0 (by decide)).symm, if_neg n_q_x.symm]; exact kx2
  refine zq_putRs K dX0_init_28 zclX0 (k := 5) (by decide) zf_X0_20 (Or.inr ⟨rfl, rfl⟩) (fun r => by cases r <;> exact ⟨rfl, rfl⟩) rfl kx3 ?_
  refine zq_aload_n K dX0_init_31 rfl rfl ?_
  refine zq_bipush K dX0_init_32 (v := nI 8) (by decide) ?_
  refine zq_anewF K dX0_init_34 zc_X0_23 (by decide) (Nat.le_refl _) (fun ah hah => ?_)
  rw [zk_r, zmn_k] at hah
  have n_ah_r3 : ah ≠ r 3 := fun e => by rw [if_pos e] at hah; exact absurd hah (by decide)
  rw [if_neg n_ah_r3] at hah
  have n_ah_r2 : ah ≠ r 2 := fun e => by rw [if_pos e] at hah; exact absurd hah (by decide)
  rw [if_neg n_ah_r2] at hah
  have n_ah_r1 : ah ≠ r 1 := fun e => by rw [if_pos e] at hah; exact absurd hah (by decide)
  rw [if_neg n_ah_r1] at hah
  have n_ah_r0 : ah ≠ r 0 := fun e => by rw [if_pos e] at hah; exact absurd hah (by decide)
  rw [if_neg n_ah_r0] at hah
  have n_ah_q : ah ≠ q := fun e => by rw [if_pos e] at hah; exact absurd hah (by decide)
  rw [if_neg n_ah_q, zk_r, zk_w] at hah
  have n_ah_a2 : ah ≠ a2 := fun e => by rw [if_pos e] at hah; exact absurd hah (by decide)
  rw [if_neg n_ah_a2, zk_r, zk_w] at hah
  have n_ah_a1 : ah ≠ a1 := fun e => by rw [if_pos e] at hah; exact absurd hah (by decide)
  rw [if_neg n_ah_a1] at hah
  have n_ah_x : ah ≠ x := fun e => by rw [e, hx] at hah; exact absurd hah (by decide)
  have kx4 : zk (zw (zsr (zmn (zsr (zw (zsr (zw M a1 5 50) x 3 (some a1)) a2 5 50) x 4 (some a2)) q r 50) x 5 (some q)) ah 9 8) x = 1 := by rw [zk_w, if_neg n_ah_x.symm]; exact kx3
  refine zq_putRs K dX0_init_37 zclX0 (k := 6) (by decide) zf_X0_25 (Or.inr ⟨rfl, rfl⟩) (fun r => by cases r <;> exact ⟨rfl, rfl⟩) rfl kx4 ?_
  refine zq_aload_n K dX0_init_40 rfl rfl ?_
  refine zq_iload_n K dX0_init_41 rfl rfl ?_
  refine zq_putI K dX0_init_42 zclX0 (k := 0) (by decide) zf_X0_29 (Or.inr ⟨rfl, rfl⟩) rfl rfl kx4 ?_
  refine zq_aload_n K dX0_init_45 rfl rfl ?_
  refine zq_aload_n K dX0_init_46 rfl rfl ?_
  refine zq_putRs K dX0_init_47 zclX0 (k := 1) (by decide) zf_X0_33 (Or.inl rfl) (fun r => by cases r <;> exact ⟨rfl, rfl⟩) rfl kx4 ?_
  refine zq_aload_n K dX0_init_50 rfl rfl ?_
  refine zq_iload_n K dX0_init_51 rfl rfl ?_
  refine zq_putI K dX0_init_52 zclX0 (k := 2) (by decide) zf_X0_37 (Or.inl rfl) rfl rfl kx4 ?_
  refine zq_iconst K dX0_init_55 (v := nI 0) (by decide) ?_
  refine zq_istore K dX0_init_56 (by decide) ?_
  have f1k : zk (zsi (zsr (zsi (zsr (zw (zsr (zmn (zsr (zw (zsr (zw M a1 5 50) x 3 (some a1)) a2 5 50) x 4 (some a2)) q r 50) x 5 (some q)) ah 9 8) x 6 (some ah)) x 0 (nI D)) x 1 (some p)) x 2 n) a1 = 5 := by rw [zk_i, zk_r, zk_i, zk_r, zk_w, if_neg (n_ah_a1).symm, zk_r, zmn_k, if_neg (n_r_a1 3 (by decide)).symm, if_neg (n_r_a1 2 (by decide)).symm, if_neg (n_r_a1 1 (by decide)).symm, if_neg (n_r_a1 0 (by decide)).symm, if_neg (n_q_a1).symm, zk_r, zk_w, if_neg (n_a2_a1).symm, zk_r, zk_w, if_pos rfl]
  have f1n : zn (zsi (zsr (zsi (zsr (zw (zsr (zmn (zsr (zw (zsr (zw M a1 5 50) x 3 (some a1)) a2 5 50) x 4 (some a2)) q r 50) x 5 (some q)) ah 9 8) x 6 (some ah)) x 0 (nI D)) x 1 (some p)) x 2 n) a1 = 50 := by rw [zn_i, zn_r, zn_i, zn_r, zn_w, if_neg (n_ah_a1).symm, zn_r, zmn_n, if_neg (n_r_a1 3 (by decide)).symm, if_neg (n_r_a1 2 (by decide)).symm, if_neg (n_r_a1 1 (by decide)).symm, if_neg (n_r_a1 0 (by decide)).symm, if_neg (n_q_a1).symm, zn_r, zn_w, if_neg (n_a2_a1).symm, zn_r, zn_w, if_pos rfl]
  have f2k : zk (zsi (zsr (zsi (zsr (zw (zsr (zmn (zsr (zw (zsr (zw M a1 5 50) x 3 (some a1)) a2 5 50) x 4 (some a2)) q r 50) x 5 (some q)) ah 9 8) x 6 (some ah)) x 0 (nI D)) x 1 (some p)) x 2 n) a2 = 5 := by rw [zk_i, zk_r, zk_i, zk_r, zk_w, if_neg (n_ah_a2).symm, zk_r, zmn_k, if_neg (n_r_a2 3 (by decide)).symm, if_neg (n_r_a2 2 (by decide)).symm, if_neg (n_r_a2 1 (by decide)).symm, if_neg (n_r_a2 0 (by decide)).symm, if_neg (n_q_a2).symm, zk_r, zk_w, if_pos rfl]
  have f2n : zn (zsi (zsr (zsi (zsr (zw (zsr (zmn (zsr (zw (zsr (zw M a1 5 50) x 3 (some a1)) a2 5 50) x 4 (some a2)) q r 50) x 5 (some q)) ah 9 8) x 6 (some ah)) x 0 (nI D)) x 1 (some p)) x 2 n) a2 = 50 := by rw [zn_i, zn_r, zn_i, zn_r, zn_w, if_neg (n_ah_a2).symm, zn_r, zmn_n, if_neg (n_r_a2 3 (by decide)).symm, if_neg (n_r_a2 2 (by decide)).symm, if_neg (n_r_a2 1 (by decide)).symm, if_neg (n_r_a2 0 (by decide)).symm, if_neg (n_q_a2).symm, zn_r, zn_w, if_pos rfl]
  have f2i : ∀ j, zi (zsi (zsr (zsi (zsr (zw (zsr (zmn (zsr (zw (zsr (zw M a1 5 50) x 3 (some a1)) a2 5 50) x 4 (some a2)) q r 50) x 5 (some q)) ah 9 8) x 6 (some ah)) x 0 (nI D)) x 1 (some p)) x 2 n) a2 j = 0 := fun j => by rw [zi_i, if_neg (fun z => (n_a2_x) z.1), zi_r, zi_i, if_neg (fun z => (n_a2_x) z.1), zi_r, zi_w, if_neg (n_ah_a2).symm, zi_r, zmn_i, if_neg (n_r_a2 3 (by decide)).symm, if_neg (n_r_a2 2 (by decide)).symm, if_neg (n_r_a2 1 (by decide)).symm, if_neg (n_r_a2 0 (by decide)).symm, if_neg (n_q_a2).symm, zi_r, zi_w, if_pos rfl]
  have fqk : zk (zsi (zsr (zsi (zsr (zw (zsr (zmn (zsr (zw (zsr (zw M a1 5 50) x 3 (some a1)) a2 5 50) x 4 (some a2)) q r 50) x 5 (some q)) ah 9 8) x 6 (some ah)) x 0 (nI D)) x 1 (some p)) x 2 n) q = 10 := by rw [zk_i, zk_r, zk_i, zk_r, zk_w, if_neg (n_ah_q).symm, zk_r, zmn_k, if_neg (n_r_q 3 (by decide)).symm, if_neg (n_r_q 2 (by decide)).symm, if_neg (n_r_q 1 (by decide)).symm, if_neg (n_r_q 0 (by decide)).symm, if_pos rfl]
  have fqn : zn (zsi (zsr (zsi (zsr (zw (zsr (zmn (zsr (zw (zsr (zw M a1 5 50) x 3 (some a1)) a2 5 50) x 4 (some a2)) q r 50) x 5 (some q)) ah 9 8) x 6 (some ah)) x 0 (nI D)) x 1 (some p)) x 2 n) q = 4 := by rw [zn_i, zn_r, zn_i, zn_r, zn_w, if_neg (n_ah_q).symm, zn_r, zmn_n, if_neg (n_r_q 3 (by decide)).symm, if_neg (n_r_q 2 (by decide)).symm, if_neg (n_r_q 1 (by decide)).symm, if_neg (n_r_q 0 (by decide)).symm, if_pos rfl]
  have fq0 : zr (zsi (zsr (zsi (zsr (zw (zsr (zmn (zsr (zw (zsr (zw M a1 5 50) x 3 (some a1)) a2 5 50) x 4 (some a2)) q r 50) x 5 (some q)) ah 9 8) x 6 (some ah)) x 0 (nI D)) x 1 (some p)) x 2 n) q 0 = some (r 0) := by rw [zr_i, zr_r, if_neg (fun z => (n_q_x) z.1), zr_i, zr_r, if_neg (fun z => (n_q_x) z.1), zr_w, if_neg (n_ah_q).symm, zr_r, if_neg (fun z => (n_q_x) z.1), zmn_r, if_neg (fun z => absurd z.2 (by decide)), if_neg (fun z => absurd z.2 (by decide)), if_neg (fun z => absurd z.2 (by decide)), if_pos ⟨rfl, rfl⟩]
  have fq1 : zr (zsi (zsr (zsi (zsr (zw (zsr (zmn (zsr (zw (zsr (zw M a1 5 50) x 3 (some a1)) a2 5 50) x 4 (some a2)) q r 50) x 5 (some q)) ah 9 8) x 6 (some ah)) x 0 (nI D)) x 1 (some p)) x 2 n) q 1 = some (r 1) := by rw [zr_i, zr_r, if_neg (fun z => (n_q_x) z.1), zr_i, zr_r, if_neg (fun z => (n_q_x) z.1), zr_w, if_neg (n_ah_q).symm, zr_r, if_neg (fun z => (n_q_x) z.1), zmn_r, if_neg (fun z => absurd z.2 (by decide)), if_neg (fun z => absurd z.2 (by decide)), if_pos ⟨rfl, rfl⟩]
  have fq2 : zr (zsi (zsr (zsi (zsr (zw (zsr (zmn (zsr (zw (zsr (zw M a1 5 50) x 3 (some a1)) a2 5 50) x 4 (some a2)) q r 50) x 5 (some q)) ah 9 8) x 6 (some ah)) x 0 (nI D)) x 1 (some p)) x 2 n) q 2 = some (r 2) := by rw [zr_i, zr_r, if_neg (fun z => (n_q_x) z.1), zr_i, zr_r, if_neg (fun z => (n_q_x) z.1), zr_w, if_neg (n_ah_q).symm, zr_r, if_neg (fun z => (n_q_x) z.1), zmn_r, if_neg (fun z => absurd z.2 (by decide)), if_pos ⟨rfl, rfl⟩]
  have fq3 : zr (zsi (zsr (zsi (zsr (zw (zsr (zmn (zsr (zw (zsr (zw M a1 5 50) x 3 (some a1)) a2 5 50) x 4 (some a2)) q r 50) x 5 (some q)) ah 9 8) x 6 (some ah)) x 0 (nI D)) x 1 (some p)) x 2 n) q 3 = some (r 3) := by rw [zr_i, zr_r, if_neg (fun z => (n_q_x) z.1), zr_i, zr_r, if_neg (fun z => (n_q_x) z.1), zr_w, if_neg (n_ah_q).symm, zr_r, if_neg (fun z => (n_q_x) z.1), zmn_r, if_pos ⟨rfl, rfl⟩]
  have fr0k : zk (zsi (zsr (zsi (zsr (zw (zsr (zmn (zsr (zw (zsr (zw M a1 5 50) x 3 (some a1)) a2 5 50) x 4 (some a2)) q r 50) x 5 (some q)) ah 9 8) x 6 (some ah)) x 0 (nI D)) x 1 (some p)) x 2 n) (r 0) = 5 := by rw [zk_i, zk_r, zk_i, zk_r, zk_w, if_neg n_ah_r0.symm, zk_r, zmn_k, if_neg (fun e => absurd (hrj 0 3 (by decide) (by decide) e) (by decide)), if_neg (fun e => absurd (hrj 0 2 (by decide) (by decide) e) (by decide)), if_neg (fun e => absurd (hrj 0 1 (by decide) (by decide) e) (by decide)), if_pos rfl]
  have fr0n : zn (zsi (zsr (zsi (zsr (zw (zsr (zmn (zsr (zw (zsr (zw M a1 5 50) x 3 (some a1)) a2 5 50) x 4 (some a2)) q r 50) x 5 (some q)) ah 9 8) x 6 (some ah)) x 0 (nI D)) x 1 (some p)) x 2 n) (r 0) = 50 := by rw [zn_i, zn_r, zn_i, zn_r, zn_w, if_neg n_ah_r0.symm, zn_r, zmn_n, if_neg (fun e => absurd (hrj 0 3 (by decide) (by decide) e) (by decide)), if_neg (fun e => absurd (hrj 0 2 (by decide) (by decide) e) (by decide)), if_neg (fun e => absurd (hrj 0 1 (by decide) (by decide) e) (by decide)), if_pos rfl]
  have fr0i : ∀ j, zi (zsi (zsr (zsi (zsr (zw (zsr (zmn (zsr (zw (zsr (zw M a1 5 50) x 3 (some a1)) a2 5 50) x 4 (some a2)) q r 50) x 5 (some q)) ah 9 8) x 6 (some ah)) x 0 (nI D)) x 1 (some p)) x 2 n) (r 0) j = 0 := fun j => by rw [zi_i, if_neg (fun z => (n_r_x 0 (by decide)) z.1), zi_r, zi_i, if_neg (fun z => (n_r_x 0 (by decide)) z.1), zi_r, zi_w, if_neg n_ah_r0.symm, zi_r, zmn_i, if_neg (fun e => absurd (hrj 0 3 (by decide) (by decide) e) (by decide)), if_neg (fun e => absurd (hrj 0 2 (by decide) (by decide) e) (by decide)), if_neg (fun e => absurd (hrj 0 1 (by decide) (by decide) e) (by decide)), if_pos rfl]
  have fr1k : zk (zsi (zsr (zsi (zsr (zw (zsr (zmn (zsr (zw (zsr (zw M a1 5 50) x 3 (some a1)) a2 5 50) x 4 (some a2)) q r 50) x 5 (some q)) ah 9 8) x 6 (some ah)) x 0 (nI D)) x 1 (some p)) x 2 n) (r 1) = 5 := by rw [zk_i, zk_r, zk_i, zk_r, zk_w, if_neg n_ah_r1.symm, zk_r, zmn_k, if_neg (fun e => absurd (hrj 1 3 (by decide) (by decide) e) (by decide)), if_neg (fun e => absurd (hrj 1 2 (by decide) (by decide) e) (by decide)), if_pos rfl]
  have fr1n : zn (zsi (zsr (zsi (zsr (zw (zsr (zmn (zsr (zw (zsr (zw M a1 5 50) x 3 (some a1)) a2 5 50) x 4 (some a2)) q r 50) x 5 (some q)) ah 9 8) x 6 (some ah)) x 0 (nI D)) x 1 (some p)) x 2 n) (r 1) = 50 := by rw [zn_i, zn_r, zn_i, zn_r, zn_w, if_neg n_ah_r1.symm, zn_r, zmn_n, if_neg (fun e => absurd (hrj 1 3 (by decide) (by decide) e) (by decide)), if_neg (fun e => absurd (hrj 1 2 (by decide) (by decide) e) (by decide)), if_pos rfl]
  have fr1i : ∀ j, zi (zsi (zsr (zsi (zsr (zw (zsr (zmn (zsr (zw (zsr (zw M a1 5 50) x 3 (some a1)) a2 5 50) x 4 (some a2)) q r 50) x 5 (some q)) ah 9 8) x 6 (some ah)) x 0 (nI D)) x 1 (some p)) x 2 n) (r 1) j = 0 := fun j => by rw [zi_i, if_neg (fun z => (n_r_x 1 (by decide)) z.1), zi_r, zi_i, if_neg (fun z => (n_r_x 1 (by decide)) z.1), zi_r, zi_w, if_neg n_ah_r1.symm, zi_r, zmn_i, if_neg (fun e => absurd (hrj 1 3 (by decide) (by decide) e) (by decide)), if_neg (fun e => absurd (hrj 1 2 (by decide) (by decide) e) (by decide)), if_pos rfl]
  have fr2k : zk (zsi (zsr (zsi (zsr (zw (zsr (zmn (zsr (zw (zsr (zw M a1 5 50) x 3 (some a1)) a2 5 50) x 4 (some a2)) q r 50) x 5 (some q)) ah 9 8) x 6 (some ah)) x 0 (nI D)) x 1 (some p)) x 2 n) (r 2) = 5 := by rw [zk_i, zk_r, zk_i, zk_r, zk_w, if_neg n_ah_r2.symm, zk_r, zmn_k, if_neg (fun e => absurd (hrj 2 3 (by decide) (by decide) e) (by decide)), if_pos rfl]
  have fr2n : zn (zsi (zsr (zsi (zsr (zw (zsr (zmn (zsr (zw (zsr (zw M a1 5 50) x 3 (some a1)) a2 5 50) x 4 (some a2)) q r 50) x 5 (some q)) ah 9 8) x 6 (some ah)) x 0 (nI D)) x 1 (some p)) x 2 n) (r 2) = 50 := by rw [zn_i, zn_r, zn_i, zn_r, zn_w, if_neg n_ah_r2.symm, zn_r, zmn_n, if_neg (fun e => absurd (hrj 2 3 (by decide) (by decide) e) (by decide)), if_pos rfl]
  have fr2i : ∀ j, zi (zsi (zsr (zsi (zsr (zw (zsr (zmn (zsr (zw (zsr (zw M a1 5 50) x 3 (some a1)) a2 5 50) x 4 (some a2)) q r 50) x 5 (some q)) ah 9 8) x 6 (some ah)) x 0 (nI D)) x 1 (some p)) x 2 n) (r 2) j = 0 := fun j => by rw [zi_i, if_neg (fun z => (n_r_x 2 (by decide)) z.1), zi_r, zi_i, if_neg (fun z => (n_r_x 2 (by decide)) z.1), zi_r, zi_w, if_neg n_ah_r2.symm, zi_r, zmn_i, if_neg (fun e => absurd (hrj 2 3 (by decide) (by decide) e) (by decide)), if_pos rfl]
  have fr3k : zk (zsi (zsr (zsi (zsr (zw (zsr (zmn (zsr (zw (zsr (zw M a1 5 50) x 3 (some a1)) a2 5 50) x 4 (some a2)) q r 50) x 5 (some q)) ah 9 8) x 6 (some ah)) x 0 (nI D)) x 1 (some p)) x 2 n) (r 3) = 5 := by rw [zk_i, zk_r, zk_i, zk_r, zk_w, if_neg n_ah_r3.symm, zk_r, zmn_k, if_pos rfl]
  have fr3n : zn (zsi (zsr (zsi (zsr (zw (zsr (zmn (zsr (zw (zsr (zw M a1 5 50) x 3 (some a1)) a2 5 50) x 4 (some a2)) q r 50) x 5 (some q)) ah 9 8) x 6 (some ah)) x 0 (nI D)) x 1 (some p)) x 2 n) (r 3) = 50 := by rw [zn_i, zn_r, zn_i, zn_r, zn_w, if_neg n_ah_r3.symm, zn_r, zmn_n, if_pos rfl]
  have fr3i : ∀ j, zi (zsi (zsr (zsi (zsr (zw (zsr (zmn (zsr (zw (zsr (zw M a1 5 50) x 3 (some a1)) a2 5 50) x 4 (some a2)) q r 50) x 5 (some q)) ah 9 8) x 6 (some ah)) x 0 (nI D)) x 1 (some p)) x 2 n) (r 3) j = 0 := fun j => by rw [zi_i, if_neg (fun z => (n_r_x 3 (by decide)) z.1), zi_r, zi_i, if_neg (fun z => (n_r_x 3 (by decide)) z.1), zi_r, zi_w, if_neg n_ah_r3.symm, zi_r, zmn_i, if_pos rfl]
  have fhk : zk (zsi (zsr (zsi (zsr (zw (zsr (zmn (zsr (zw (zsr (zw M a1 5 50) x 3 (some a1)) a2 5 50) x 4 (some a2)) q r 50) x 5 (some q)) ah 9 8) x 6 (some ah)) x 0 (nI D)) x 1 (some p)) x 2 n) ah = 9 := by rw [zk_i, zk_r, zk_i, zk_r, zk_w, if_pos rfl]
  have fhn : zn (zsi (zsr (zsi (zsr (zw (zsr (zmn (zsr (zw (zsr (zw M a1 5 50) x 3 (some a1)) a2 5 50) x 4 (some a2)) q r 50) x 5 (some q)) ah 9 8) x 6 (some ah)) x 0 (nI D)) x 1 (some p)) x 2 n) ah = 8 := by rw [zn_i, zn_r, zn_i, zn_r, zn_w, if_pos rfl]
  have fxk : zk (zsi (zsr (zsi (zsr (zw (zsr (zmn (zsr (zw (zsr (zw M a1 5 50) x 3 (some a1)) a2 5 50) x 4 (some a2)) q r 50) x 5 (some q)) ah 9 8) x 6 (some ah)) x 0 (nI D)) x 1 (some p)) x 2 n) x = 1 := kx4
  have fx0 : zi (zsi (zsr (zsi (zsr (zw (zsr (zmn (zsr (zw (zsr (zw M a1 5 50) x 3 (some a1)) a2 5 50) x 4 (some a2)) q r 50) x 5 (some q)) ah 9 8) x 6 (some ah)) x 0 (nI D)) x 1 (some p)) x 2 n) x 0 = nI D := by rw [zi_i, if_neg (fun z => absurd z.2 (by decide)), zi_r, zi_i, if_pos ⟨rfl, rfl⟩]
  have fx1 : zr (zsi (zsr (zsi (zsr (zw (zsr (zmn (zsr (zw (zsr (zw M a1 5 50) x 3 (some a1)) a2 5 50) x 4 (some a2)) q r 50) x 5 (some q)) ah 9 8) x 6 (some ah)) x 0 (nI D)) x 1 (some p)) x 2 n) x 1 = some p := by rw [zr_i, zr_r, if_pos ⟨rfl, rfl⟩]
  have fx2 : zi (zsi (zsr (zsi (zsr (zw (zsr (zmn (zsr (zw (zsr (zw M a1 5 50) x 3 (some a1)) a2 5 50) x 4 (some a2)) q r 50) x 5 (some q)) ah 9 8) x 6 (some ah)) x 0 (nI D)) x 1 (some p)) x 2 n) x 2 = n := by rw [zi_i, if_pos ⟨rfl, rfl⟩]
  have fx3 : zr (zsi (zsr (zsi (zsr (zw (zsr (zmn (zsr (zw (zsr (zw M a1 5 50) x 3 (some a1)) a2 5 50) x 4 (some a2)) q r 50) x 5 (some q)) ah 9 8) x 6 (some ah)) x 0 (nI D)) x 1 (some p)) x 2 n) x 3 = some a1 := by rw [zr_i, zr_r, if_neg (fun z => absurd z.2 (by decide)), zr_i, zr_r, if_neg (fun z => absurd z.2 (by decide)), zr_w, if_neg (n_ah_x).symm, zr_r, if_neg (fun z => absurd z.2 (by decide)), zmn_r, if_neg (fun z => (n_q_x).symm z.1), if_neg (fun z => (n_q_x).symm z.1), if_neg (fun z => (n_q_x).symm z.1), if_neg (fun z => (n_q_x).symm z.1), if_neg (n_r_x 3 (by decide)).symm, if_neg (n_r_x 2 (by decide)).symm, if_neg (n_r_x 1 (by decide)).symm, if_neg (n_r_x 0 (by decide)).symm, if_neg (n_q_x).symm, zr_r, if_neg (fun z => absurd z.2 (by decide)), zr_w, if_neg (n_a2_x).symm, zr_r, if_pos ⟨rfl, rfl⟩]
  have fx4 : zr (zsi (zsr (zsi (zsr (zw (zsr (zmn (zsr (zw (zsr (zw M a1 5 50) x 3 (some a1)) a2 5 50) x 4 (some a2)) q r 50) x 5 (some q)) ah 9 8) x 6 (some ah)) x 0 (nI D)) x 1 (some p)) x 2 n) x 4 = some a2 := by rw [zr_i, zr_r, if_neg (fun z => absurd z.2 (by decide)), zr_i, zr_r, if_neg (fun z => absurd z.2 (by decide)), zr_w, if_neg (n_ah_x).symm, zr_r, if_neg (fun z => absurd z.2 (by decide)), zmn_r, if_neg (fun z => (n_q_x).symm z.1), if_neg (fun z => (n_q_x).symm z.1), if_neg (fun z => (n_q_x).symm z.1), if_neg (fun z => (n_q_x).symm z.1), if_neg (n_r_x 3 (by decide)).symm, if_neg (n_r_x 2 (by decide)).symm, if_neg (n_r_x 1 (by decide)).symm, if_neg (n_r_x 0 (by decide)).symm, if_neg (n_q_x).symm, zr_r, if_pos ⟨rfl, rfl⟩]
  have fx5 : zr (zsi (zsr (zsi (zsr (zw (zsr (zmn (zsr (zw (zsr (zw M a1 5 50) x 3 (some a1)) a2 5 50) x 4 (some a2)) q r 50) x 5 (some q)) ah 9 8) x 6 (some ah)) x 0 (nI D)) x 1 (some p)) x 2 n) x 5 = some q := by rw [zr_i, zr_r, if_neg (fun z => absurd z.2 (by decide)), zr_i, zr_r, if_neg (fun z => absurd z.2 (by decide)), zr_w, if_neg (n_ah_x).symm, zr_r, if_pos ⟨rfl, rfl⟩]
  have fx6 : zr (zsi (zsr (zsi (zsr (zw (zsr (zmn (zsr (zw (zsr (zw M a1 5 50) x 3 (some a1)) a2 5 50) x 4 (some a2)) q r 50) x 5 (some q)) ah 9 8) x 6 (some ah)) x 0 (nI D)) x 1 (some p)) x 2 n) x 6 = some ah := by rw [zr_i, zr_r, if_neg (fun z => absurd z.2 (by decide)), zr_i, zr_r, if_pos ⟨rfl, rfl⟩]
  have ffr : ∀ y, ¬ zk M y = 0 → y ≠ x → zsame M (zsi (zsr (zsi (zsr (zw (zsr (zmn (zsr (zw (zsr (zw M a1 5 50) x 3 (some a1)) a2 5 50) x 4 (some a2)) q r 50) x 5 (some q)) ah 9 8) x 6 (some ah)) x 0 (nI D)) x 1 (some p)) x 2 n) y := fun y hy hyx => by
    have m1 : y ≠ a1 := fun e => hy (e ▸ ha1)
    have m2 : y ≠ a2 := fun e => hy (e ▸ ha2)
    have m3 : y ≠ q := fun e => hy (e ▸ hq)
    have m4 : y ≠ ah := fun e => hy (e ▸ hah)
    have mr : ∀ i, i < 4 → y ≠ r i := fun i hi e => hy (e ▸ (hq4 i hi).1)
    have s1 : zsame M (zsr (zw (zsr (zw M a1 5 50) x 3 (some a1)) a2 5 50) x 4 (some a2)) y := (((zsame.w m1).tr (zsame.r hyx)).tr (zsame.w m2)).tr (zsame.r hyx)
    have s2 : zsame (zsr (zw (zsr (zw M a1 5 50) x 3 (some a1)) a2 5 50) x 4 (some a2)) (zmn (zsr (zw (zsr (zw M a1 5 50) x 3 (some a1)) a2 5 50) x 4 (some a2)) q r 50) y := zsame.mn m3 mr
    exact s1.tr (s2.tr ((((((zsame.r hyx).tr (zsame.w m4)).tr (zsame.r hyx)).tr (zsame.i hyx)).tr (zsame.r hyx)).tr (zsame.i hyx)))
  generalize (zsi (zsr (zsi (zsr (zw (zsr (zmn (zsr (zw (zsr (zw M a1 5 50) x 3 (some a1)) a2 5 50) x 4 (some a2)) q r 50) x 5 (some q)) ah 9 8) x 6 (some ah)) x 0 (nI D)) x 1 (some p)) x 2 n) = M5 at *
  refine lp_X0_f1 K fxk fx3 f1k f1n (fun M6 h6 => ?_) 50 0 rfl M5 ⟨fun _ _ => zsame.rf, rfl, rfl, fun j => by rw [if_neg (by omega)]⟩
  obtain ⟨u1, u2, u3, u4⟩ := h6
  refine zq_new K dX0_init_79 zclX1 zc_X0_23 (by decide) (by decide) (Nat.le_of_ble_eq_true rfl) (Nat.le_refl _) (fun f hf => ?_)
  have hf0 : zk M6 f = 0 := hf
  refine zq_dup K dX0_init_82 rfl ?_
  refine zq_iload_n K dX0_init_83 rfl rfl ?_
  refine zq_iconst K dX0_init_84 (v := nI 0) (by decide) ?_
  refine zq_bipush K dX0_init_85 (v := nI 8) (by decide) ?_
  refine zq_iload K dX0_init_87 rfl ?_
  refine zq_iconst K dX0_init_89 (v := nI 0) (by decide) ?_
  refine zq_callI (As := [.int (nI (D)), .int (nI (0)), .int (nI (8)), .int (o), .int (nI (0))]) K dX0_init_90 zyX1_init rfl rfl zm_X0_40 ziX1_init (by decide) rfl rfl (Nat.le_of_ble_eq_true rfl) (Nat.le_of_ble_eq_true rfl) (ct_X1_init (show zk (zw M6 f 2 0) f = 2 from by rw [zk_w, if_pos rfl]) (nI D) (nI 0) (nI 8) o (nI 0)) (zone_r ?_) zone_x (Nat.le_refl _)
  refine zq_astore K dX0_init_93 (by decide) ?_
  refine zq_iconst K dX0_init_95 (v := nI 0) (by decide) ?_
  refine zq_istore K dX0_init_96 (by decide) ?_
  have nf : ∀ y, ¬ zk M5 y = 0 → f ≠ y := fun y hy e => by
    by_cases e1 : y = a1
    · rw [e, e1, u2, f1k] at hf0; exact absurd hf0 (by decide)
    · rw [e, (u1 y e1).1] at hf0; exact hy hf0
  have s7 : ∀ y, y ≠ f → zsame M6 (zsi (zsi (zsi (zsi (zsi (zw M6 f 2 0) f 0 (nI D)) f 1 (nI 0)) f 2 (nI 8)) f 3 o) f 4 (nI 0)) y := fun y hy => (zsame.w hy).tr ((zsame.i hy).tr ((zsame.i hy).tr ((zsame.i hy).tr ((zsame.i hy).tr (zsame.i hy)))))
  have nxf : x ≠ f := (nf x (by rw [fxk]; decide)).symm
  have nhf : ah ≠ f := (nf ah (by rw [fhk]; decide)).symm
  have nh1 : ah ≠ a1 := n_ah_a1
  have nx1 : x ≠ a1 := n_a1_x.symm
  have q0 : zk (zsi (zsi (zsi (zsi (zsi (zw M6 f 2 0) f 0 (nI D)) f 1 (nI 0)) f 2 (nI 8)) f 3 o) f 4 (nI 0)) f = 2 ∧ zi (zsi (zsi (zsi (zsi (zsi (zw M6 f 2 0) f 0 (nI D)) f 1 (nI 0)) f 2 (nI 8)) f 3 o) f 4 (nI 0)) f 0 = nI D ∧ zi (zsi (zsi (zsi (zsi (zsi (zw M6 f 2 0) f 0 (nI D)) f 1 (nI 0)) f 2 (nI 8)) f 3 o) f 4 (nI 0)) f 1 = nI 0 ∧ zi (zsi (zsi (zsi (zsi (zsi (zw M6 f 2 0) f 0 (nI D)) f 1 (nI 0)) f 2 (nI 8)) f 3 o) f 4 (nI 0)) f 2 = nI 8 ∧ zi (zsi (zsi (zsi (zsi (zsi (zw M6 f 2 0) f 0 (nI D)) f 1 (nI 0)) f 2 (nI 8)) f 3 o) f 4 (nI 0)) f 3 = o ∧ zi (zsi (zsi (zsi (zsi (zsi (zw M6 f 2 0) f 0 (nI D)) f 1 (nI 0)) f 2 (nI 8)) f 3 o) f 4 (nI 0)) f 4 = nI 0 := ⟨by rw [zk_i, zk_i, zk_i, zk_i, zk_i, zk_w, if_pos rfl], by rw [zi_i, if_neg (fun z => absurd z.2 (by decide)), zi_i, if_neg (fun z => absurd z.2 (by decide)), zi_i, if_neg (fun z => absurd z.2 (by decide)), zi_i, if_neg (fun z => absurd z.2 (by decide)), zi_i, if_pos ⟨rfl, rfl⟩], by rw [zi_i, if_neg (fun z => absurd z.2 (by decide)), zi_i, if_neg (fun z => absurd z.2 (by decide)), zi_i, if_neg (fun z => absurd z.2 (by decide)), zi_i, if_pos ⟨rfl, rfl⟩], by rw [zi_i, if_neg (fun z => absurd z.2 (by decide)), zi_i, if_neg (fun z => absurd z.2 (by decide)), zi_i, if_pos ⟨rfl, rfl⟩], by rw [zi_i, if_neg (fun z => absurd z.2 (by decide)), zi_i, if_pos ⟨rfl, rfl⟩], by rw [zi_i, if_pos ⟨rfl, rfl⟩]⟩
  generalize (zsi (zsi (zsi (zsi (zsi (zw M6 f 2 0) f 0 (nI D)) f 1 (nI 0)) f 2 (nI 8)) f 3 o) f 4 (nI 0)) = M7 at *
  have t7 : ∀ y, y ≠ a1 → y ≠ f → zsame M5 M7 y := fun y h1 h2 => (u1 y h1).tr (s7 y h2)
  refine lp_X0_f2 K (((t7 x nx1 nxf).1).trans fxk) (((t7 x nx1 nxf).2.2.2.1 6).trans fx6) (((t7 ah nh1 nhf).1).trans fhk) (((t7 ah nh1 nhf).2.1).trans fhn) q0.1 (fun M8 h8 => ?_) 8 0 rfl M7 ⟨fun _ _ => zsame.rf, rfl, rfl, fun j => by rw [if_neg (by omega)]⟩
  obtain ⟨w1, w2, w3, w4⟩ := h8
  have t8 : ∀ y, y ≠ a1 → y ≠ f → y ≠ ah → zsame M5 M8 y := fun y h1 h2 h3 => (t7 y h1 h2).tr (w1 y h3)
  have nf1 : f ≠ a1 := nf a1 (by rw [f1k]; decide)
  have nf2 : f ≠ a2 := nf a2 (by rw [f2k]; decide)
  have nfq : f ≠ q := nf q (by rw [fqk]; decide)
  have nfr0 : f ≠ r 0 := nf (r 0) (by rw [fr0k]; decide)
  have nfr1 : f ≠ r 1 := nf (r 1) (by rw [fr1k]; decide)
  have nfr2 : f ≠ r 2 := nf (r 2) (by rw [fr2k]; decide)
  have nfr3 : f ≠ r 3 := nf (r 3) (by rw [fr3k]; decide)
  have hfM : zk M f = 0 := by
    by_cases e : zk M f = 0
    · exact e
    · exact absurd rfl (nf f (by rw [(ffr f e nxf.symm).1]; exact e))
  have s1 := (s7 a1 nf1.symm).tr (w1 a1 nh1.symm)
  have sf := w1 f nhf.symm
  have sx := t8 x nx1 nxf n_ah_x.symm
  have s2 := t8 a2 n_a2_a1 nf2.symm n_ah_a2.symm
  have sq := t8 q n_q_a1 nfq.symm n_ah_q.symm
  have sr0 := t8 (r 0) (n_r_a1 0 (by decide)) nfr0.symm n_ah_r0.symm
  have sr1 := t8 (r 1) (n_r_a1 1 (by decide)) nfr1.symm n_ah_r1.symm
  have sr2 := t8 (r 2) (n_r_a1 2 (by decide)) nfr2.symm n_ah_r2.symm
  have sr3 := t8 (r 3) (n_r_a1 3 (by decide)) nfr3.symm n_ah_r3.symm
  have hin : ∀ i j, i < 9 → j < 9 → (fun i => if i = 0 then a1 else if i = 1 then a2 else if i = 2 then q else if i = 3 then ah else if i = 4 then f else r (i - 5)) i = (fun i => if i = 0 then a1 else if i = 1 then a2 else if i = 2 then q else if i = 3 then ah else if i = 4 then f else r (i - 5)) j → i = j := fun i j hi hj e => match i, j, hi, hj, e with
    | 0, 0, _, _, e => rfl
    | 0, 1, _, _, e => absurd e (n_a2_a1).symm
    | 0, 2, _, _, e => absurd e (n_q_a1).symm
    | 0, 3, _, _, e => absurd e (n_ah_a1).symm
    | 0, 4, _, _, e => absurd e nf1.symm
    | 0, 5, _, _, e => absurd e (n_r_a1 0 (by decide)).symm
    | 0, 6, _, _, e => absurd e (n_r_a1 1 (by decide)).symm
    | 0, 7, _, _, e => absurd e (n_r_a1 2 (by decide)).symm
    | 0, 8, _, _, e => absurd e (n_r_a1 3 (by decide)).symm
    | 1, 0, _, _, e => absurd e (n_a2_a1)
    | 1, 1, _, _, e => rfl
    | 1, 2, _, _, e => absurd e (n_q_a2).symm
    | 1, 3, _, _, e => absurd e (n_ah_a2).symm
    | 1, 4, _, _, e => absurd e nf2.symm
    | 1, 5, _, _, e => absurd e (n_r_a2 0 (by decide)).symm
    | 1, 6, _, _, e => absurd e (n_r_a2 1 (by decide)).symm
    | 1, 7, _, _, e => absurd e (n_r_a2 2 (by decide)).symm
    | 1, 8, _, _, e => absurd e (n_r_a2 3 (by decide)).symm
    | 2, 0, _, _, e => absurd e (n_q_a1)
    | 2, 1, _, _, e => absurd e (n_q_a2)
    | 2, 2, _, _, e => rfl
    | 2, 3, _, _, e => absurd e (n_ah_q).symm
    | 2, 4, _, _, e => absurd e nfq.symm
    | 2, 5, _, _, e => absurd e (n_r_q 0 (by decide)).symm
    | 2, 6, _, _, e => absurd e (n_r_q 1 (by decide)).symm
    | 2, 7, _, _, e => absurd e (n_r_q 2 (by decide)).symm
    | 2, 8, _, _, e => absurd e (n_r_q 3 (by decide)).symm
    | 3, 0, _, _, e => absurd e (n_ah_a1)
    | 3, 1, _, _, e => absurd e (n_ah_a2)
    | 3, 2, _, _, e => absurd e (n_ah_q)
    | 3, 3, _, _, e => rfl
    | 3, 4, _, _, e => absurd e nhf
    | 3, 5, _, _, e => absurd e n_ah_r0
    | 3, 6, _, _, e => absurd e n_ah_r1
    | 3, 7, _, _, e => absurd e n_ah_r2
    | 3, 8, _, _, e => absurd e n_ah_r3
    | 4, 0, _, _, e => absurd e nf1
    | 4, 1, _, _, e => absurd e nf2
    | 4, 2, _, _, e => absurd e nfq
    | 4, 3, _, _, e => absurd e nhf.symm
    | 4, 4, _, _, e => rfl
    | 4, 5, _, _, e => absurd e nfr0
    | 4, 6, _, _, e => absurd e nfr1
    | 4, 7, _, _, e => absurd e nfr2
    | 4, 8, _, _, e => absurd e nfr3
    | 5, 0, _, _, e => absurd e (n_r_a1 0 (by decide))
    | 5, 1, _, _, e => absurd e (n_r_a2 0 (by decide))
    | 5, 2, _, _, e => absurd e (n_r_q 0 (by decide))
    | 5, 3, _, _, e => absurd e n_ah_r0.symm
    | 5, 4, _, _, e => absurd e nfr0.symm
    | 5, 5, _, _, e => rfl
    | 5, 6, _, _, e => absurd e (fun e => absurd (hrj 0 1 (by decide) (by decide) e) (by decide))
    | 5, 7, _, _, e => absurd e (fun e => absurd (hrj 0 2 (by decide) (by decide) e) (by decide))
    | 5, 8, _, _, e => absurd e (fun e => absurd (hrj 0 3 (by decide) (by decide) e) (by decide))
    | 6, 0, _, _, e => absurd e (n_r_a1 1 (by decide))
    | 6, 1, _, _, e => absurd e (n_r_a2 1 (by decide))
    | 6, 2, _, _, e => absurd e (n_r_q 1 (by decide))
    | 6, 3, _, _, e => absurd e n_ah_r1.symm
    | 6, 4, _, _, e => absurd e nfr1.symm
    | 6, 5, _, _, e => absurd e (fun e => absurd (hrj 1 0 (by decide) (by decide) e) (by decide))
    | 6, 6, _, _, e => rfl
    | 6, 7, _, _, e => absurd e (fun e => absurd (hrj 1 2 (by decide) (by decide) e) (by decide))
    | 6, 8, _, _, e => absurd e (fun e => absurd (hrj 1 3 (by decide) (by decide) e) (by decide))
    | 7, 0, _, _, e => absurd e (n_r_a1 2 (by decide))
    | 7, 1, _, _, e => absurd e (n_r_a2 2 (by decide))
    | 7, 2, _, _, e => absurd e (n_r_q 2 (by decide))
    | 7, 3, _, _, e => absurd e n_ah_r2.symm
    | 7, 4, _, _, e => absurd e nfr2.symm
    | 7, 5, _, _, e => absurd e (fun e => absurd (hrj 2 0 (by decide) (by decide) e) (by decide))
    | 7, 6, _, _, e => absurd e (fun e => absurd (hrj 2 1 (by decide) (by decide) e) (by decide))
    | 7, 7, _, _, e => rfl
    | 7, 8, _, _, e => absurd e (fun e => absurd (hrj 2 3 (by decide) (by decide) e) (by decide))
    | 8, 0, _, _, e => absurd e (n_r_a1 3 (by decide))
    | 8, 1, _, _, e => absurd e (n_r_a2 3 (by decide))
    | 8, 2, _, _, e => absurd e (n_r_q 3 (by decide))
    | 8, 3, _, _, e => absurd e n_ah_r3.symm
    | 8, 4, _, _, e => absurd e nfr3.symm
    | 8, 5, _, _, e => absurd e (fun e => absurd (hrj 3 0 (by decide) (by decide) e) (by decide))
    | 8, 6, _, _, e => absurd e (fun e => absurd (hrj 3 1 (by decide) (by decide) e) (by decide))
    | 8, 7, _, _, e => absurd e (fun e => absurd (hrj 3 2 (by decide) (by decide) e) (by decide))
    | 8, 8, _, _, e => rfl
    | i + 9, _, hi, _, _ => absurd hi (by omega)
    | _, j + 9, _, hj, _ => absurd hj (by omega)
  have hfre : ∀ i, i < 9 → zk M ((fun i => if i = 0 then a1 else if i = 1 then a2 else if i = 2 then q else if i = 3 then ah else if i = 4 then f else r (i - 5)) i) = 0 ∧ (fun i => if i = 0 then a1 else if i = 1 then a2 else if i = 2 then q else if i = 3 then ah else if i = 4 then f else r (i - 5)) i ≠ x := fun i hi => match i, hi with
    | 0, _ => ⟨ha1, n_a1_x⟩
    | 1, _ => ⟨ha2, n_a2_x⟩
    | 2, _ => ⟨hq, n_q_x⟩
    | 3, _ => ⟨hah, n_ah_x⟩
    | 4, _ => ⟨hfM, nxf.symm⟩
    | 5, _ => ⟨(hq4 0 (by decide)).1, n_r_x 0 (by decide)⟩
    | 6, _ => ⟨(hq4 1 (by decide)).1, n_r_x 1 (by decide)⟩
    | 7, _ => ⟨(hq4 2 (by decide)).1, n_r_x 2 (by decide)⟩
    | 8, _ => ⟨(hq4 3 (by decide)).1, n_r_x 3 (by decide)⟩
    | i + 9, hi => absurd hi (by omega)
  have fin : zDi M M8 x (fun i => if i = 0 then a1 else if i = 1 then a2 else if i = 2 then q else if i = 3 then ah else if i = 4 then f else r (i - 5)) D (some p) n o := by
    refine ⟨⟨hfre, hin, fun y hy hyx => (ffr y hy hyx).tr (t8 y (fun e => hy (e ▸ ha1)) (fun e => hy (e ▸ hfM)) (fun e => hy (e ▸ hah)))⟩, ⟨sx.1.trans fxk, (sx.2.2.1 0).trans fx0, (sx.2.2.2.1 1).trans fx1, (sx.2.2.1 2).trans fx2, (sx.2.2.2.1 3).trans fx3, (sx.2.2.2.1 4).trans fx4, (sx.2.2.2.1 5).trans fx5, (sx.2.2.2.1 6).trans fx6⟩, ⟨s1.1.trans (u2.trans f1k), s1.2.1.trans (u3.trans f1n), fun k hk => (s1.2.2.1 k).trans (by rw [u4, if_pos hk])⟩, ⟨s2.1.trans f2k, s2.2.1.trans f2n, fun k _ => (s2.2.2.1 k).trans (f2i k)⟩, ⟨sq.1.trans fqk, sq.2.1.trans fqn, ?_⟩, ?_, ⟨w2.trans ((t7 ah nh1 nhf).1.trans fhk), w3.trans ((t7 ah nh1 nhf).2.1.trans fhn), fun h hh => (w4 h).trans (if_pos hh)⟩, ⟨sf.1.trans q0.1, (sf.2.2.1 0).trans q0.2.1, (sf.2.2.1 1).trans q0.2.2.1, (sf.2.2.1 2).trans q0.2.2.2.1, (sf.2.2.1 3).trans q0.2.2.2.2.1, (sf.2.2.1 4).trans q0.2.2.2.2.2⟩⟩
    · exact fun c hc => match c, hc with
      | 0, _ => (sq.2.2.2.1 0).trans fq0
      | 1, _ => (sq.2.2.2.1 1).trans fq1
      | 2, _ => (sq.2.2.2.1 2).trans fq2
      | 3, _ => (sq.2.2.2.1 3).trans fq3
      | c + 4, hc => absurd hc (by omega)
    · exact fun c hc => match c, hc with
      | 0, _ => ⟨sr0.1.trans fr0k, sr0.2.1.trans fr0n, fun k _ => (sr0.2.2.1 k).trans (fr0i k)⟩
      | 1, _ => ⟨sr1.1.trans fr1k, sr1.2.1.trans fr1n, fun k _ => (sr1.2.2.1 k).trans (fr1i k)⟩
      | 2, _ => ⟨sr2.1.trans fr2k, sr2.2.1.trans fr2n, fun k _ => (sr2.2.2.1 k).trans (fr2i k)⟩
      | 3, _ => ⟨sr3.1.trans fr3k, sr3.2.1.trans fr3n, fun k _ => (sr3.2.2.1 k).trans (fr3i k)⟩
      | c + 4, hc => absurd hc (by omega)
  exact zq_ret K dX0_init_120 rfl ⟨rfl, _, fin⟩


/-! p28: rows for the law's own rows of numbers and for the script; the object and the law's rows apart -/
/-- a row of n numbers -/
def zAr (M : ZM) (a n : Nat) (f : Nat → Int32) : Prop := zk M a = 5 ∧ zn M a = n ∧ ∀ j, j < n → zi M a j = f j
def zup (f : Nat → Int32) (k : Nat) (v : Int32) : Nat → Int32 := fun j => if j = k then v else f j
theorem zup_s {f : Nat → Int32} {k : Nat} {v : Int32} : zup f k v k = v := if_pos rfl
theorem zup_n {f : Nat → Int32} {k j : Nat} {v : Int32} (h : j ≠ k) : zup f k v j = f j := if_neg h
theorem zup_e {f : Nat → Int32} {k j : Nat} {v : Int32} : zup f k v j = if j = k then v else f j := rfl
/-- the script: where it lies, how long it is, what it holds -/
def zX0 (G : ZG) (Ls : Nat) (xs : Nat → Int32) : Prop := G.2.2.1 6 < G.2.2.2.size ∧ ∃ scr : Cell, G.2.2.2[G.2.2.1 6]? = some scr ∧ scr.vm ≠ .unknown ∧ scr.slots.size = Ls ∧ ∀ j : Nat, j < Ls → scr.slots[j]? = some (.int (xs j))
section ZLA2
variable {t : ZY} {tb : List ExceptionTableEntry} {E : ZE} {G : ZG} {u : Nat} {Q : State → Prop} {M M' : ZM} {b pc : Nat} {L : List (Option Value)} {S : List Value}
theorem zAr.same {a n : Nat} {f : Nat → Int32} (h : zAr M a n f) (g : zsame M M' a) : zAr M' a n f := ⟨g.1.trans h.1, g.2.1.trans h.2.1, fun j hj => (g.2.2.1 j).trans (h.2.2 j hj)⟩
theorem zAr.cg {a n : Nat} {f f' : Nat → Int32} (h : zAr M a n f) (g : ∀ j, j < n → f j = f' j) : zAr M a n f' := ⟨h.1, h.2.1, fun j hj => (h.2.2 j hj).trans (g j hj)⟩
theorem zAr.up {a n k : Nat} {f : Nat → Int32} {v : Int32} (h : zAr M a n f) : zAr (zsi M a k v) a n (zup f k v) := by
  refine ⟨h.1, h.2.1, fun j hj => ?_⟩
  rw [zi_i, zup_e]
  by_cases e : j = k
  · rw [if_pos ⟨rfl, e⟩, if_pos e]
  · rw [if_neg (fun z => e z.2), if_neg e]
    exact h.2.2 j hj
theorem zl_ld (K : zOK t tb G E) {a n : Nat} {f : Nat → Int32} {i : Int32} (j : Nat) (hd : decode (zyc t) pc = .ok (.iaload, 1)) (h : zAr M a n f) (hi : i = nI j) (hj : j < n) (hn : n < 2 ^ 31) (kk : WW E G u Q M b (pc + 1) L (.int (f j) :: S)) : WW E G u Q M b pc L (.int i :: .ref a :: S) := by
  refine zq_iald K j hd h.1 hi (by rw [h.2.1]; exact hj) (by rw [h.2.1]; exact hn) ?_
  rw [h.2.2 j hj]
  exact kk
theorem zq_ishr (K : zOK t tb G E) {x y : Int32} (hd : decode (zyc t) pc = .ok (.ishr, 1)) (k : WW E G u Q M b (pc + 1) L (.int (x >>> (y &&& 31)) :: S)) : WW E G u Q M b pc L (.int y :: .int x :: S) := by
  obtain ⟨p, e, R, s, m, args, below, meth, c⟩ := E
  exact fun H locs ls cells slots h1 h2 h3 h4 h5 h6 => lv_ishr K.1 K.2.1 hd (k H locs ls cells slots h1 h2 h3 h4 h5 h6)
theorem zq_ldcI (K : zOK t tb G E) {index : Nat} {v : Int32} (hd : decode (zyc t) pc = .ok (.ldc index, 2)) (hw : Cond.constant (zyn t).cls index v ∈ zTs) (k : WW E G u Q M b (pc + 2) L (.int v :: S)) : WW E G u Q M b pc L S := by
  obtain ⟨p, e, R, s, m, args, below, meth, c⟩ := E
  exact fun H locs ls cells slots h1 h2 h3 h4 h5 h6 => lv_ldc K.1 K.2.1 K.2.2.2.2.1 (K.2.2.2.2.2.2.1 _ hw) hd (k H locs ls cells slots h1 h2 h3 h4 h5 h6)
/-- the script lies in the old heap -/
def zScr (E : ZE) (G : ZG) (b0 Ls : Nat) (xs : Nat → Int32) : Prop := match E with
  | (_, _, _, s, _, _, _, _, _) => va_X b0 Ls xs s G.2.2.2 ∧ b0 < G.2.2.2.size
theorem zX0.scr {Ls : Nat} {xs : Nat → Int32} (h : zX0 G Ls xs) (K : zOK t tb G E) : zScr E G (G.2.2.1 6) Ls xs := by
  obtain ⟨p, e, R, s, m, args, below, meth, c⟩ := E
  obtain ⟨h1, scr, h2, h3, h4, h5⟩ := h
  exact ⟨⟨scr, h2, K.2.2.2.2.2.2.2.1.2.2.2.2.2.2.2.2.2.2.2 scr h2, h3, h4, h5⟩, h1⟩
theorem zq_sld (K : zOK t tb G E) {b0 Ls : Nat} {xs : Nat → Int32} (hX : zScr E G b0 Ls xs) {i : Int32} (j : Nat) (hd : decode (zyc t) pc = .ok (.iaload, 1)) (hi : i = nI j) (hj : j < Ls) (hL : Ls < 2 ^ 31) (kk : WW E G u Q M b (pc + 1) L (.int (xs j) :: S)) : WW E G u Q M b pc L (.int i :: .ref b0 :: S) := by
  subst hi
  obtain ⟨p, e, R, s, m, args, below, meth, c⟩ := E
  intro H locs ls cells slots h1 h2 h3 h4 h5 h6
  have e1 : (nI j).toNatClampNeg = j := nI_clamp (by omega)
  have k := kk H locs ls cells slots h1 h2 h3 h4 h5 h6
  rw [← e1] at k
  exact va_sld (A := zfr G) K.1 K.2.1 hX.1 hX.2 (Nat.not_le.mpr hX.2) ⟨h1.1, fun q hq _ => h1.2.1 q hq, h3⟩ (vp_in_nI hj hL) hd k
theorem zq_slen (K : zOK t tb G E) {b0 Ls : Nat} {xs : Nat → Int32} (hX : zScr E G b0 Ls xs) (hd : decode (zyc t) pc = .ok (.arraylength, 1)) (kk : WW E G u Q M b (pc + 1) L (.int (nI Ls) :: S)) : WW E G u Q M b pc L (.ref b0 :: S) := by
  obtain ⟨p, e, R, s, m, args, below, meth, c⟩ := E
  intro H locs ls cells slots h1 h2 h3 h4 h5 h6
  exact va_slen (A := zfr G) K.1 K.2.1 hX.1 hX.2 (Nat.not_le.mpr hX.2) ⟨h1.1, fun q hq _ => h1.2.1 q hq, h3⟩ hd (kk H locs ls cells slots h1 h2 h3 h4 h5 h6)
/-- the object c and the law's three rows lie apart -/
def zSe (M : ZM) (W : Nat → Nat → Nat) (B : ZA) (c tr ag tt : Nat) : Prop := zC M W B ∧ W 10 0 = c ∧ (∀ i j, zVal B i j → W i j ≠ tr ∧ W i j ≠ ag ∧ W i j ≠ tt) ∧ tr ≠ ag ∧ tr ≠ tt ∧ ag ≠ tt
/-- the three rows hold T, U, V -/
def zRo (M : ZM) (tr ag tt : Nat) (T U V : Nat → Int32) : Prop := zAr M tr 60 T ∧ zAr M ag 60 U ∧ zAr M tt 3 V
variable {W : Nat → Nat → Nat} {B B' : ZA} {c tr ag tt : Nat} {T U V : Nat → Int32}
theorem zSe.o (h : zSe M W B c tr ag tt) : zk M c = 3 := by
  rw [← h.2.1]
  exact h.1.x.1
theorem zcw {y : ZY} {As : List Value} {P : ZO → ZM → Prop} (h : zSe M W B c tr ag tt) (g : zMet G y (.ref (W 10 0) :: As) M P) : zMet G y (.ref c :: As) M P := by
  rw [← h.2.1]
  exact g
theorem zSe.call {v : Option Value} {o : ZO} (h : zSe M W B c tr ag tt) (r : zRo M tr ag tt T U V) (g : zCW W M B v B' o M') : o = .inl v ∧ ∃ W', zSe M' W' B' c tr ag tt ∧ zRo M' tr ag tt T U V := by
  obtain ⟨hC, hc, hs, n1, n2, n3⟩ := h
  obtain ⟨r1, r2, r3⟩ := r
  obtain ⟨e, W', g1, g2, g3, g4⟩ := g
  have f : ∀ a, ¬ zk M a = 0 → (∀ i j, zVal B i j → a ≠ W i j) → zsame M M' a := g2
  have z1 : ¬ zk M tr = 0 := by rw [r1.1]; decide
  have z2 : ¬ zk M ag = 0 := by rw [r2.1]; decide
  have z3 : ¬ zk M tt = 0 := by rw [r3.1]; decide
  refine ⟨e, W', ⟨g1, g3.trans hc, fun i j hv => ?_, n1, n2, n3⟩, r1.same (f _ z1 (fun i j hv e => (hs i j hv).1 e.symm)), r2.same (f _ z2 (fun i j hv e => (hs i j hv).2.1 e.symm)), r3.same (f _ z3 (fun i j hv e => (hs i j hv).2.2 e.symm))⟩
  rcases g4 i j hv with ⟨k1, k2⟩ | k1
  · rw [k2]
    exact hs i j k1
  · exact ⟨fun q => z1 (by rw [← q]; exact k1), fun q => z2 (by rw [← q]; exact k1), fun q => z3 (by rw [← q]; exact k1)⟩
theorem zSe.wr {a k : Nat} {v : Int32} (h : zSe M W B c tr ag tt) (ha : a = tr ∨ a = ag ∨ a = tt) : zSe (zsi M a k v) W B c tr ag tt := by
  refine ⟨h.1.same (fun i j hv => zsame.i (fun e => ?_)), h.2⟩
  have g := h.2.2.1 i j hv
  rcases ha with ha | ha | ha
  · exact g.1 (e.trans ha)
  · exact g.2.1 (e.trans ha)
  · exact g.2.2 (e.trans ha)
/-- the class's call has come back -/
theorem zK_r {v : Option Value} {n : Nat} (h : zSe M W B c tr ag tt) (r : zRo M tr ag tt T U V) (kk : ∀ M' W', zSe M' W' B' c tr ag tt → zRo M' tr ag tt T U V → WW E G u Q M' n (pc + 3) L (v.toList ++ S)) : ∀ (v' : Option Value) (M' : ZM), zCW W M B v B' (.inl v') M' → WW E G u Q M' n (pc + 3) L (v'.toList ++ S) := by
  intro v' M' g
  obtain ⟨e, W', h', r'⟩ := h.call r g
  cases e
  exact kk M' W' h' r'
theorem zst_t (K : zOK t tb G E) {i v : Int32} (j : Nat) (hd : decode (zyc t) pc = .ok (.iastore, 1)) (h : zSe M W B c tr ag tt) (r : zRo M tr ag tt T U V) (hi : i = nI j) (hj : j < 60) (kk : ∀ M', zSe M' W B c tr ag tt → zRo M' tr ag tt (zup T j v) U V → WW E G u Q M' b (pc + 1) L S) : WW E G u Q M b pc L (.int v :: .int i :: .ref tr :: S) := by
  refine zq_iast K j hd r.1.1 hi (by rw [r.1.2.1]; exact hj) (by rw [r.1.2.1]; decide) ?_
  exact kk _ (h.wr (Or.inl rfl)) ⟨r.1.up, r.2.1.same (zsame.i (fun e => h.2.2.2.1 e.symm)), r.2.2.same (zsame.i (fun e => h.2.2.2.2.1 e.symm))⟩
theorem zst_a (K : zOK t tb G E) {i v : Int32} (j : Nat) (hd : decode (zyc t) pc = .ok (.iastore, 1)) (h : zSe M W B c tr ag tt) (r : zRo M tr ag tt T U V) (hi : i = nI j) (hj : j < 60) (kk : ∀ M', zSe M' W B c tr ag tt → zRo M' tr ag tt T (zup U j v) V → WW E G u Q M' b (pc + 1) L S) : WW E G u Q M b pc L (.int v :: .int i :: .ref ag :: S) := by
  refine zq_iast K j hd r.2.1.1 hi (by rw [r.2.1.2.1]; exact hj) (by rw [r.2.1.2.1]; decide) ?_
  exact kk _ (h.wr (Or.inr (Or.inl rfl))) ⟨r.1.same (zsame.i h.2.2.2.1), r.2.1.up, r.2.2.same (zsame.i (fun e => h.2.2.2.2.2 e.symm))⟩
theorem zst_n (K : zOK t tb G E) {i v : Int32} (j : Nat) (hd : decode (zyc t) pc = .ok (.iastore, 1)) (h : zSe M W B c tr ag tt) (r : zRo M tr ag tt T U V) (hi : i = nI j) (hj : j < 3) (kk : ∀ M', zSe M' W B c tr ag tt → zRo M' tr ag tt T U (zup V j v) → WW E G u Q M' b (pc + 1) L S) : WW E G u Q M b pc L (.int v :: .int i :: .ref tt :: S) := by
  refine zq_iast K j hd r.2.2.1 hi (by rw [r.2.2.2.1]; exact hj) (by rw [r.2.2.2.1]; decide) ?_
  exact kk _ (h.wr (Or.inr (Or.inr rfl))) ⟨r.1.same (zsame.i h.2.2.2.2.1), r.2.1.same (zsame.i h.2.2.2.2.2), r.2.2.up⟩
end ZLA2
/-! the law's own methods: words -/
/-- what 'low' answers -/
def zlw (v : Int32) (n : Nat) : Nat := (v.toBitVec.toNat % 2 ^ 31) % n
theorem zlw_lt (v : Int32) {n : Nat} (hn : 0 < n) : zlw v n < n := Nat.mod_lt _ hn
/-- what 'cell' answers -/
def zcv (Ls : Nat) (xs : Nat → Int32) (k : Nat) : Int32 := if k < Ls then xs k else nI (7919 * (k + 3) * (k + 11))
def zbn (b : Bool) : Nat := if b = true then 1 else 0
theorem zbn_le (b : Bool) : zbn b ≤ 1 := by cases b <;> decide
theorem zbn_1 {b : Bool} (h : ¬ zbn b = 0) : b = true := by
  cases b
  · exact absurd rfl h
  · rfl
theorem zbn_0 {b : Bool} (h : zbn b = 0) : b = false := by
  cases b
  · rfl
  · exact absurd h (by decide)
/-- is d there, as far as the first k cells tell -/
def zth (T : Nat → Int32) (d : Nat) : Nat → Bool
  | 0 => decide (d = 0)
  | k + 1 => zth T d k || decide (T k = -2 - nI d)
theorem zth_i (T : Nat → Int32) (d : Nat) : ∀ n, zth T d n = true ↔ (d = 0 ∨ ∃ k, k < n ∧ T k = -2 - nI d)
  | 0 => by
    rw [zth, decide_eq_true_iff]
    exact ⟨Or.inl, fun h => h.elim id (fun ⟨k, hk, _⟩ => absurd hk (Nat.not_lt_zero k))⟩
  | n + 1 => by
    rw [zth, Bool.or_eq_true, decide_eq_true_iff, zth_i T d n]
    constructor
    · rintro ((h | ⟨k, hk, h⟩) | h)
      · exact Or.inl h
      · exact Or.inr ⟨k, by omega, h⟩
      · exact Or.inr ⟨n, by omega, h⟩
    · rintro (h | ⟨k, hk, h⟩)
      · exact Or.inl (Or.inl h)
      · by_cases e : k = n
        · exact Or.inr (by rw [← e]; exact h)
        · exact Or.inl (Or.inr ⟨k, by omega, h⟩)
/-- the directory above x, as far as the first k cells tell -/
def zab (T : Nat → Int32) (x : Nat) : Nat → Nat
  | 0 => 0
  | k + 1 => if T k = -2 - nI x then k / 5 else zab T x k
theorem zab_lt (T : Nat → Int32) (x : Nat) : ∀ k, k ≤ 60 → zab T x k < 12
  | 0, _ => by rw [zab]; decide
  | k + 1, h => by
    rw [zab]
    split
    · omega
    · exact zab_lt T x k (by omega)
/-- names that stand for something, of the law's five; cells that hold f -/
def zpq (T : Nat → Int32) (d : Nat) : Nat → Bool := fun n => !decide (T (5 * d + n) = -1)
def zpc (T : Nat → Int32) (f : Int32) : Nat → Bool := fun k => decide (T k = f)
/-- the oldest link to f among the first k cells -/
def zol (T U : Nat → Int32) (f : Int32) : Nat → Option Nat
  | 0 => none
  | k + 1 => if T k = f then (match zol T U f k with
    | none => some k
    | some i => if U k < U i then some k else some i) else zol T U f k
def zoi : Option Nat → Int32
  | none => -1
  | some k => nI k
theorem zol_lt {T U : Nat → Int32} {f : Int32} : ∀ {k j : Nat}, zol T U f k = some j → j < k
  | 0, _, h => nomatch h
  | k + 1, j, h => by
    unfold zol at h
    split at h
    · split at h
      · cases h; omega
      · rename_i i hi
        split at h
        · cases h; omega
        · cases h; have := zol_lt hi; omega
    · have := zol_lt h; omega

/-! the law: rows of its own -/
abbrev mL_law : ZY := (yL_law, cL_law, 7, some .boolean, 11, 85000)
section ZLR
variable {t : ZY} {tb : List ExceptionTableEntry} {E : ZE} {G : ZG} {u : Nat} {Q : State → Prop} {M : ZM} {b pc : Nat} {L : List (Option Value)} {S : List Value}
/-- the script lies in the old heap -/
def zScr (E : ZE) (G : ZG) (b0 Ls : Nat) (xs : Nat → Int32) : Prop := match E with
  | (_, _, _, s, _, _, _, _, _) => va_X b0 Ls xs s G.2.2.2 ∧ b0 < G.2.2.2.size
theorem zq_sld (K : zOK t tb G E) {b0 Ls : Nat} {xs : Nat → Int32} (hX : zScr E G b0 Ls xs) {i : Int32} (j : Nat) (hd : decode (zyc t) pc = .ok (.iaload, 1)) (hi : i = nI j) (hj : j < Ls) (hL : Ls < 2 ^ 31) (kk : WW E G u Q M b (pc + 1) L (.int (xs j) :: S)) : WW E G u Q M b pc L (.int i :: .ref b0 :: S) := by
  subst hi
  obtain ⟨p, e, R, s, m, args, below, meth, c⟩ := E
  intro H locs ls cells slots h1 h2 h3 h4 h5 h6
  have e1 : (nI j).toNatClampNeg = j := nI_clamp (by omega)
  have k := kk H locs ls cells slots h1 h2 h3 h4 h5 h6
  rw [← e1] at k
  exact va_sld (A := zfr G) K.1 K.2.1 hX.1 hX.2 (Nat.not_le.mpr hX.2) ⟨h1.1, fun q hq _ => h1.2.1 q hq, h3⟩ (vp_in_nI hj hL) hd k
theorem zq_slen (K : zOK t tb G E) {b0 Ls : Nat} {xs : Nat → Int32} (hX : zScr E G b0 Ls xs) (hd : decode (zyc t) pc = .ok (.arraylength, 1)) (kk : WW E G u Q M b (pc + 1) L (.int (nI Ls) :: S)) : WW E G u Q M b pc L (.ref b0 :: S) := by
  obtain ⟨p, e, R, s, m, args, below, meth, c⟩ := E
  intro H locs ls cells slots h1 h2 h3 h4 h5 h6
  exact va_slen (A := zfr G) K.1 K.2.1 hX.1 hX.2 (Nat.not_le.mpr hX.2) ⟨h1.1, fun q hq _ => h1.2.1 q hq, h3⟩ hd (kk H locs ls cells slots h1 h2 h3 h4 h5 h6)
theorem zq_tabIn (K : zOK t tb G E) {dflt lo hi : Int} {offs : Array Int} {len : Nat} {x : Int32} {off : Int} (tgt : Nat) (hd : decode (zyc t) pc = .ok (.tableswitch dflt lo hi offs, len)) (h1 : ¬ x.toInt < lo) (h2 : ¬ hi < x.toInt) (ho : offs[(x.toInt - lo).toNat]? = some off) (ht : (pc : Int) + off = (tgt : Int)) (k : WW E G u Q M b tgt L S) : WW E G u Q M b pc L (.int x :: S) := by
  obtain ⟨p, e, R, s, m, args, below, meth, c⟩ := E
  exact fun H locs ls cells slots g1 g2 g3 g4 g5 g6 => lv_tableIn K.1 K.2.1 hd h1 h2 ho ht (k H locs ls cells slots g1 g2 g3 g4 g5 g6)
theorem zq_tabOut (K : zOK t tb G E) {dflt lo hi : Int} {offs : Array Int} {len : Nat} {x : Int32} (tgt : Nat) (hd : decode (zyc t) pc = .ok (.tableswitch dflt lo hi offs, len)) (h : x.toInt < lo ∨ hi < x.toInt) (ht : (pc : Int) + dflt = (tgt : Int)) (k : WW E G u Q M b tgt L S) : WW E G u Q M b pc L (.int x :: S) := by
  obtain ⟨p, e, R, s, m, args, below, meth, c⟩ := E
  exact fun H locs ls cells slots g1 g2 g3 g4 g5 g6 => lv_tableOut K.1 K.2.1 hd h ht (k H locs ls cells slots g1 g2 g3 g4 g5 g6)
theorem zcmp_eq {a b : Int64} (h : a = b) : lg_cmp a b = nI 0 := by
  subst h
  unfold lg_cmp
  rw [if_neg (show ¬ a > a from Int64.lt_irrefl), if_pos rfl]
  rfl
end ZLR

section ZCS
variable {t : ZY} {tb : List ExceptionTableEntry} {E : ZE} {G : ZG} {u : Nat} {Q : State → Prop} {M M0 : ZM} {b pc : Nat} {L : List (Option Value)} {S : List Value} {W : Nat → Nat → Nat} {B B0 : ZA} {P P' : ZO → ZM → Prop}
theorem zc_stmea (K : zOK t tb G E) {d n : Nat} {i v : Int32} (hd : decode (zyc t) pc = .ok (.iastore, 1)) (hC : zC M W B) (hS : zFm M0 W B0 M) (hv : zVal B 3 d) (hv0 : zVal B0 3 d) (hi : i = nI n) (hn : n < 50) (kk : ∀ M', zC M' W (zsa B 6 (50 * d + n) v) → zFm M0 W B0 M' → WW E G u Q M' b (pc + 1) L S) : WW E G u Q M b pc L (.int v :: .int i :: .ref (W 4 d) :: S) :=
  zq_iast K n hd (hC.mea hv).1 hi (by rw [(hC.mea hv).2.1]; exact hn) (by rw [(hC.mea hv).2.1]; decide) (kk _ (hC.u_mea hv hn) (hS.one (i := 4) (j := d) hv0 (fun a h => zsame.i h)))
theorem zc_stage (K : zOK t tb G E) {d n : Nat} {i v : Int32} (hd : decode (zyc t) pc = .ok (.iastore, 1)) (hC : zC M W B) (hS : zFm M0 W B0 M) (hv : zVal B 3 d) (hv0 : zVal B0 3 d) (hi : i = nI n) (hn : n < 50) (kk : ∀ M', zC M' W (zsa B 7 (50 * d + n) v) → zFm M0 W B0 M' → WW E G u Q M' b (pc + 1) L S) : WW E G u Q M b pc L (.int v :: .int i :: .ref (W 5 d) :: S) :=
  zq_iast K n hd (hC.age hv).1 hi (by rw [(hC.age hv).2.1]; exact hn) (by rw [(hC.age hv).2.1]; decide) (kk _ (hC.u_age hv hn) (hS.one (i := 5) (j := d) hv0 (fun a h => zsame.i h)))
theorem zc_strow (K : zOK t tb G E) {d c n : Nat} {i v : Int32} (hd : decode (zyc t) pc = .ok (.iastore, 1)) (hC : zC M W B) (hS : zFm M0 W B0 M) (hv : zVal B 3 d) (hv0 : zVal B0 3 d) (hc : c < 4) (hi : i = nI n) (hn : n < 50) (kk : ∀ M', zC M' W (zsa B 13 (600 * c + (50 * d + n)) v) → zFm M0 W B0 M' → WW E G u Q M' b (pc + 1) L S) : WW E G u Q M b pc L (.int v :: .int i :: .ref (W 7 (4 * d + c)) :: S) :=
  zq_iast K n hd (hC.row (hv.r hc)).1 hi (by rw [(hC.row (hv.r hc)).2.1]; exact hn) (by rw [(hC.row (hv.r hc)).2.1]; decide) (kk _ (hC.u_row hv hc hn) (hS.one (i := 7) (j := 4 * d + c) (hv0.r hc) (fun a h => zsame.i h)))
theorem zc_strec (K : zOK t tb G E) {c : Nat} {i v : Int32} (hd : decode (zyc t) pc = .ok (.iastore, 1)) (hC : zC M W B) (hS : zFm M0 W B0 M) (hi : i = nI c) (hc : c < 4) (kk : ∀ M', zC M' W (zsa B 14 c v) → zFm M0 W B0 M' → WW E G u Q M' b (pc + 1) L S) : WW E G u Q M b pc L (.int v :: .int i :: .ref (W 1 0) :: S) := by
  have h := hC.cnt (i := 1) (by decide)
  exact zq_iast K c hd h.1 hi (by rw [h.2.1]; exact hc) (by rw [h.2.1]; decide) (kk _ (hC.u_rec hc) (hS.one (i := 1) (j := 0) ⟨by decide, rfl⟩ (fun a h => zsame.i h)))
theorem zc_stkno (K : zOK t tb G E) {c : Nat} {i v : Int32} (hd : decode (zyc t) pc = .ok (.iastore, 1)) (hC : zC M W B) (hS : zFm M0 W B0 M) (hi : i = nI c) (hc : c < 4) (kk : ∀ M', zC M' W (zsa B 15 c v) → zFm M0 W B0 M' → WW E G u Q M' b (pc + 1) L S) : WW E G u Q M b pc L (.int v :: .int i :: .ref (W 2 0) :: S) := by
  have h := hC.cnt (i := 2) (by decide)
  exact zq_iast K c hd h.1 hi (by rw [h.2.1]; exact hc) (by rw [h.2.1]; decide) (kk _ (hC.u_kno hc) (hS.one (i := 2) (j := 0) ⟨by decide, rfl⟩ (fun a h => zsame.i h)))
theorem zc_ppar (K : zOK t tb G E) {index d e : Nat} (hd : decode (zyc t) pc = .ok (.putfield index, 3)) (hw : Cond.fieldLink (zyn t).cls index (TX0 1).1 (TX0 1).2.1 (TX0 1).2.2.1 ∈ zTs) (hC : zC M W B) (hS : zFm M0 W B0 M) (hv : zVal B 3 d) (hv0 : zVal B0 3 d) (hd0 : ¬ d = 0) (he : e < 12) (kk : ∀ M', zC M' W (zsa B 4 d (nI e)) → zFm M0 W B0 M' → WW E G u Q M' b (pc + 3) L S) : WW E G u Q M b pc L (.ref (W 3 e) :: .ref (W 3 d) :: S) :=
  zq_putRs K hd zclX0 (k := 1) (by decide) hw (Or.inl rfl) (fun r => by cases r <;> exact ⟨rfl, rfl⟩) rfl (hC.d hv).1 (kk _ (hC.u_par hv hd0 he rfl) (hS.one (i := 3) (j := d) hv0 (fun a h => zsame.r h)))
theorem zc_pnam (K : zOK t tb G E) {index d : Nat} {v : Int32} (hd : decode (zyc t) pc = .ok (.putfield index, 3)) (hw : Cond.fieldLink (zyn t).cls index (TX0 2).1 (TX0 2).2.1 (TX0 2).2.2.1 ∈ zTs) (hC : zC M W B) (hS : zFm M0 W B0 M) (hv : zVal B 3 d) (hv0 : zVal B0 3 d) (kk : ∀ M', zC M' W (zsa B 5 d v) → zFm M0 W B0 M' → WW E G u Q M' b (pc + 3) L S) : WW E G u Q M b pc L (.int v :: .ref (W 3 d) :: S) :=
  zq_putI K hd zclX0 (k := 2) (by decide) hw (Or.inl rfl) rfl rfl (hC.d hv).1 (kk _ (hC.u_nam hv) (hS.one (i := 3) (j := d) hv0 (fun a h => zsame.i h)))
theorem zc_pown (K : zOK t tb G E) {index f : Nat} {v : Int32} (hd : decode (zyc t) pc = .ok (.putfield index, 3)) (hw : Cond.fieldLink (zyn t).cls index (TX1 3).1 (TX1 3).2.1 (TX1 3).2.2.1 ∈ zTs) (hC : zC M W B) (hS : zFm M0 W B0 M) (hv : zVal B 9 f) (hv0 : zVal B0 9 f) (kk : ∀ M', zC M' W (zsa B 11 f v) → zFm M0 W B0 M' → WW E G u Q M' b (pc + 3) L S) : WW E G u Q M b pc L (.int v :: .ref (W 9 f) :: S) :=
  zq_putI K hd zclX1 (k := 3) (by decide) hw (Or.inl rfl) rfl rfl (hC.f hv).1 (kk _ (hC.u_own hv) (hS.one (i := 9) (j := f) hv0 (fun a h => zsame.i h)))
theorem zc_pload (K : zOK t tb G E) {index f : Nat} {v : Int32} (hd : decode (zyc t) pc = .ok (.putfield index, 3)) (hw : Cond.fieldLink (zyn t).cls index (TX1 4).1 (TX1 4).2.1 (TX1 4).2.2.1 ∈ zTs) (hC : zC M W B) (hS : zFm M0 W B0 M) (hv : zVal B 9 f) (hv0 : zVal B0 9 f) (kk : ∀ M', zC M' W (zsa B 12 f v) → zFm M0 W B0 M' → WW E G u Q M' b (pc + 3) L S) : WW E G u Q M b pc L (.int v :: .ref (W 9 f) :: S) :=
  zq_putI K hd zclX1 (k := 4) (by decide) hw (Or.inl rfl) rfl rfl (hC.f hv).1 (kk _ (hC.u_load hv) (hS.one (i := 9) (j := f) hv0 (fun a h => zsame.i h)))
theorem zVal.fg {d h : Nat} (hv : zVal B 3 d) (hF : zFr B) (hh : h < 8) : zVal B 9 (8 * d + zfg (B.2 10) d h) := by
  have h1 := zfg_le (B.2 10) d h
  have h2 := hF.1 d hv.1 hv.2
  have h3 := hv.1
  exact ⟨by omega, by rw [show (8 * d + zfg (B.2 10) d h) / 8 = d by omega]; exact hv.2, zfg_ne h2 h⟩
/-- a call that changes the class's objects -/
def zCP (W : Nat → Nat → Nat) (M : ZM) (B : ZA) (v : Option Value) (B' : ZA) : ZO → ZM → Prop := fun o M' => o = .inl v ∧ zC M' W B' ∧ zFm M W B M'
theorem zCP_r {v : Option Value} {n : Nat} {B' : ZA} (hS : zFm M0 W B0 M) (hs : ∀ i j, zVal B i j → zVal B0 i j) (k : ∀ M', zC M' W B' → zFm M0 W B0 M' → WW E G u Q M' n (pc + 3) L (v.toList ++ S)) : ∀ (v' : Option Value) (M' : ZM), zCP W M B v B' (.inl v') M' → WW E G u Q M' n (pc + 3) L (v'.toList ++ S) := by
  rintro v' M' ⟨h1, h2, h3⟩
  cases h1
  exact k M' h2 (hS.tr h3 hs)
theorem zCP_x {v : Option Value} {n : Nat} {B' : ZA} : ∀ (En : String) (M' : ZM), zCP W M B v B' (.inr En) M' → XX E G u Q M' n pc L En := by
  rintro En M' ⟨h1, -⟩
  cases h1
/-- a call that comes back where p, and throws X else -/
def znd (p : Prop) (v : Option Value) (X : String) (M : ZM) : ZO → ZM → Prop := fun o M' => M' = M ∧ ((p ∧ o = .inl v) ∨ (¬ p ∧ o = .inr X))
theorem znd_r {p : Prop} {v : Option Value} {X : String} {n : Nat} (k : p → WW E G u Q M n (pc + 3) L (v.toList ++ S)) : ∀ (v' : Option Value) (M' : ZM), znd p v X M (.inl v') M' → WW E G u Q M' n (pc + 3) L (v'.toList ++ S) := by
  rintro v' M' ⟨rfl, ⟨h, e⟩ | ⟨-, e⟩⟩
  · cases e
    exact k h
  · cases e
theorem znd_x {p : Prop} {v : Option Value} {X : String} {n : Nat} (k : ¬ p → XX E G u Q M n pc L X) : ∀ (En : String) (M' : ZM), znd p v X M (.inr En) M' → XX E G u Q M' n pc L En := by
  rintro En M' ⟨rfl, ⟨-, e⟩ | ⟨h, e⟩⟩
  · cases e
  · cases e
    exact k h
abbrev zIAE : String := "java/lang/IllegalArgumentException"
abbrev zIOB : String := "java/lang/IndexOutOfBoundsException"
abbrev zISE : String := "java/lang/IllegalStateException"
end ZCS

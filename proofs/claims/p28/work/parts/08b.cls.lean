section ZCR
variable {t : ZY} {tb : List ExceptionTableEntry} {E : ZE} {G : ZG} {u : Nat} {Q : State → Prop} {M M0 : ZM} {b pc : Nat} {L : List (Option Value)} {S : List Value} {W : Nat → Nat → Nat} {B B0 : ZA}
theorem zC.x (h : zC M W B) : zk M (W 10 0) = 3 ∧ (zr M (W 10 0) 0 = some (W 0 0) ∧ zr M (W 10 0) 5 = some (W 1 0) ∧ zr M (W 10 0) 6 = some (W 2 0)) ∧ (zi M (W 10 0) 1 = B.1 2 ∧ zi M (W 10 0) 2 = B.1 9 ∧ zi M (W 10 0) 3 = B.1 8 ∧ zi M (W 10 0) 4 = B.1 1 ∧ zi M (W 10 0) 8 = B.1 17 ∧ zi M (W 10 0) 9 = B.1 18) ∧ (zr M (W 10 0) 7 = if B.1 16 = -1 then none else some (W 9 (B.1 16).toNatClampNeg)) := h.1 10 0 ⟨by decide, rfl⟩
theorem zC.dirs (h : zC M W B) : zk M (W 0 0) = 8 ∧ zn M (W 0 0) = 12 ∧ ∀ d, d < 12 → zr M (W 0 0) d = if B.2 3 d = 1 then some (W 3 d) else none := h.1 0 0 ⟨by decide, rfl⟩
theorem zC.cnt (h : zC M W B) {i : Nat} (hi : i = 1 ∨ i = 2) : zk M (W i 0) = 5 ∧ zn M (W i 0) = 4 ∧ ∀ c, c < 4 → zi M (W i 0) c = B.2 (13 + i) c := by
  rcases hi with rfl | rfl
  · exact h.1 1 0 ⟨by decide, rfl⟩
  · exact h.1 2 0 ⟨by decide, rfl⟩
theorem zC.d (h : zC M W B) {j : Nat} (hv : zVal B 3 j) : zk M (W 3 j) = 1 ∧ zi M (W 3 j) 0 = nI j ∧ (zr M (W 3 j) 1 = if j = 0 then none else some (W 3 (zpar B j))) ∧ zi M (W 3 j) 2 = B.2 5 j ∧ zr M (W 3 j) 3 = some (W 4 j) ∧ zr M (W 3 j) 4 = some (W 5 j) ∧ zr M (W 3 j) 5 = some (W 6 j) ∧ zr M (W 3 j) 6 = some (W 8 j) := h.1 3 j hv
theorem zC.mea (h : zC M W B) {j : Nat} (hv : zVal B 3 j) : zk M (W 4 j) = 5 ∧ zn M (W 4 j) = 50 ∧ ∀ n, n < 50 → zi M (W 4 j) n = B.2 6 (50 * j + n) := h.1 4 j hv
theorem zC.age (h : zC M W B) {j : Nat} (hv : zVal B 3 j) : zk M (W 5 j) = 5 ∧ zn M (W 5 j) = 50 ∧ ∀ n, n < 50 → zi M (W 5 j) n = B.2 7 (50 * j + n) := h.1 5 j hv
theorem zC.lea (h : zC M W B) {j : Nat} (hv : zVal B 3 j) : zk M (W 6 j) = 10 ∧ zn M (W 6 j) = 4 ∧ ∀ c, c < 4 → zr M (W 6 j) c = some (W 7 (4 * j + c)) := h.1 6 j hv
theorem zC.row (h : zC M W B) {j : Nat} (hv : zVal B 7 j) : zk M (W 7 j) = 5 ∧ zn M (W 7 j) = 50 ∧ ∀ n, n < 50 → zi M (W 7 j) n = B.2 13 (600 * (j % 4) + (50 * (j / 4) + n)) := h.1 7 j hv
theorem zC.has (h : zC M W B) {j : Nat} (hv : zVal B 3 j) : zk M (W 8 j) = 9 ∧ zn M (W 8 j) = 8 ∧ ∀ i, i < 8 → zr M (W 8 j) i = some (W 9 (8 * j + zfg (B.2 10) j i)) := h.1 8 j hv
theorem zC.f (h : zC M W B) {j : Nat} (hv : zVal B 9 j) : zk M (W 9 j) = 2 ∧ zi M (W 9 j) 0 = nI (j / 8) ∧ zi M (W 9 j) 1 = nI (j % 8) ∧ zi M (W 9 j) 2 = B.2 10 j ∧ zi M (W 9 j) 3 = B.2 11 j ∧ zi M (W 9 j) 4 = B.2 12 j := h.1 9 j hv
theorem zVal.r {d c : Nat} (h : zVal B 3 d) (hc : c < 4) : zVal B 7 (4 * d + c) := ⟨by have := h.1; omega, by rw [show (4 * d + c) / 4 = d by omega]; exact h.2⟩
theorem zC.m0 (h : zC M W B) (hm : B.1 16 = -1) : zr M (W 10 0) 7 = none := by rw [h.x.2.2.2, if_pos hm]
theorem zC.m1 (h : zC M W B) {f : Nat} (hm : B.1 16 = nI f) (hf : f < 96) : zr M (W 10 0) 7 = some (W 9 f) := by rw [h.x.2.2.2, hm, if_neg (nI_ne1 (by omega)), nI_clamp (by omega)]
theorem zC.p0 (h : zC M W B) (hv : zVal B 3 0) : zr M (W 3 0) 1 = none := by rw [(h.d hv).2.2.1, if_pos rfl]
theorem zC.p1 (h : zC M W B) {d : Nat} (hv : zVal B 3 d) (hd : ¬ d = 0) : zr M (W 3 d) 1 = some (W 3 (zpar B d)) := by rw [(h.d hv).2.2.1, if_neg hd]
theorem zC.a1 (h : zC M W B) {d : Nat} (hv : zVal B 3 d) : zr M (W 0 0) d = some (W 3 d) := by rw [h.dirs.2.2 d hv.1, if_pos hv.2]
theorem zC.a0 (h : zC M W B) {d : Nat} (hd : d < 12) (hv : ¬ B.2 3 d = 1) : zr M (W 0 0) d = none := by rw [h.dirs.2.2 d hd, if_neg hv]
theorem zc_ldmea (K : zOK t tb G E) {i : Int32} (hd : decode (zyc t) pc = .ok (.iaload, 1)) (hC : zC M W B) {d n : Nat} (hv : zVal B 3 d) (hi : i = nI n) (hn : n < 50) (kk : WW E G u Q M b (pc + 1) L (.int (B.2 6 (50 * d + n)) :: S)) : WW E G u Q M b pc L (.int i :: .ref (W 4 d) :: S) :=
  zq_iald K n hd (hC.mea hv).1 hi (by rw [(hC.mea hv).2.1]; exact hn) (by rw [(hC.mea hv).2.1]; decide) (by rw [(hC.mea hv).2.2 n hn]; exact kk)
theorem zc_ldage (K : zOK t tb G E) {i : Int32} (hd : decode (zyc t) pc = .ok (.iaload, 1)) (hC : zC M W B) {d n : Nat} (hv : zVal B 3 d) (hi : i = nI n) (hn : n < 50) (kk : WW E G u Q M b (pc + 1) L (.int (B.2 7 (50 * d + n)) :: S)) : WW E G u Q M b pc L (.int i :: .ref (W 5 d) :: S) :=
  zq_iald K n hd (hC.age hv).1 hi (by rw [(hC.age hv).2.1]; exact hn) (by rw [(hC.age hv).2.1]; decide) (by rw [(hC.age hv).2.2 n hn]; exact kk)
theorem zc_ldrow (K : zOK t tb G E) {i : Int32} (hd : decode (zyc t) pc = .ok (.iaload, 1)) (hC : zC M W B) {d c n : Nat} (hv : zVal B 3 d) (hc : c < 4) (hi : i = nI n) (hn : n < 50) (kk : WW E G u Q M b (pc + 1) L (.int (B.2 13 (600 * c + (50 * d + n))) :: S)) : WW E G u Q M b pc L (.int i :: .ref (W 7 (4 * d + c)) :: S) := by
  obtain ⟨h1, h2, h3⟩ := hC.row (hv.r hc)
  refine zq_iald K n hd h1 hi (by rw [h2]; exact hn) (by rw [h2]; decide) ?_
  rw [h3 n hn, show (4 * d + c) % 4 = c by omega, show (4 * d + c) / 4 = d by omega]
  exact kk
theorem zc_ldcnt (K : zOK t tb G E) {i : Int32} (hd : decode (zyc t) pc = .ok (.iaload, 1)) (hC : zC M W B) {z c : Nat} (hz : z = 1 ∨ z = 2) (hi : i = nI c) (hc : c < 4) (kk : WW E G u Q M b (pc + 1) L (.int (B.2 (13 + z) c) :: S)) : WW E G u Q M b pc L (.int i :: .ref (W z 0) :: S) := by
  obtain ⟨h1, h2, h3⟩ := hC.cnt hz
  refine zq_iald K c hd h1 hi (by rw [h2]; exact hc) (by rw [h2]; decide) ?_
  rw [h3 c hc]
  exact kk
theorem zc_ad1 (K : zOK t tb G E) {i : Int32} (hd : decode (zyc t) pc = .ok (.aaload, 1)) (hC : zC M W B) {d : Nat} (hv : zVal B 3 d) (hi : i = nI d) (kk : WW E G u Q M b (pc + 1) L (.ref (W 3 d) :: S)) : WW E G u Q M b pc L (.int i :: .ref (W 0 0) :: S) :=
  zq_aalds K d hd hC.dirs.1 (by decide) hi (by rw [hC.dirs.2.1]; exact hv.1) (by rw [hC.dirs.2.1]; decide) (hC.a1 hv) kk
theorem zc_ad0 (K : zOK t tb G E) {i : Int32} (hd : decode (zyc t) pc = .ok (.aaload, 1)) (hC : zC M W B) {d : Nat} (h12 : d < 12) (hv : ¬ B.2 3 d = 1) (hi : i = nI d) (kk : WW E G u Q M b (pc + 1) L (.null :: S)) : WW E G u Q M b pc L (.int i :: .ref (W 0 0) :: S) :=
  zq_aaldn K d hd hC.dirs.1 (by decide) hi (by rw [hC.dirs.2.1]; exact h12) (by rw [hC.dirs.2.1]; decide) (hC.a0 h12 hv) kk
theorem zc_al (K : zOK t tb G E) {i : Int32} (hd : decode (zyc t) pc = .ok (.aaload, 1)) (hC : zC M W B) {d c : Nat} (hv : zVal B 3 d) (hc : c < 4) (hi : i = nI c) (kk : WW E G u Q M b (pc + 1) L (.ref (W 7 (4 * d + c)) :: S)) : WW E G u Q M b pc L (.int i :: .ref (W 6 d) :: S) :=
  zq_aalds K c hd (hC.lea hv).1 (by decide) hi (by rw [(hC.lea hv).2.1]; exact hc) (by rw [(hC.lea hv).2.1]; decide) ((hC.lea hv).2.2 c hc) kk
theorem zc_ah (K : zOK t tb G E) {i : Int32} (hd : decode (zyc t) pc = .ok (.aaload, 1)) (hC : zC M W B) {d h : Nat} (hv : zVal B 3 d) (hh : h < 8) (hi : i = nI h) (kk : WW E G u Q M b (pc + 1) L (.ref (W 9 (8 * d + zfg (B.2 10) d h)) :: S)) : WW E G u Q M b pc L (.int i :: .ref (W 8 d) :: S) :=
  zq_aalds K h hd (hC.has hv).1 (by decide) hi (by rw [(hC.has hv).2.1]; exact hh) (by rw [(hC.has hv).2.1]; decide) ((hC.has hv).2.2 h hh) kk
theorem zOb.sc {s s' : Nat → Int32} {z : Nat → Nat → Int32} : ∀ {i j : Nat}, i < 10 → zOb M W (s, z) i j → zOb M W (s', z) i j
  | 0, _, _, h => h
  | 1, _, _, h => h
  | 2, _, _, h => h
  | 3, _, _, h => h
  | 4, _, _, h => h
  | 5, _, _, h => h
  | 6, _, _, h => h
  | 7, _, _, h => h
  | 8, _, _, h => h
  | 9, _, _, h => h
  | i + 10, _, h, _ => absurd h (by omega)
theorem zOb.scx {k : Nat} {v : Int32} {i j : Nat} (hne : ¬ (i = 10 ∧ j = 0)) (hv : zVal B i j) (h : zOb M W B i j) : zOb M W (zsc B k v) i j := by
  refine zOb.sc (s := B.1) ?_ h
  have h1 := hv.lt
  by_cases e : i = 10
  · subst e
    exact absurd ⟨rfl, hv.2⟩ hne
  · omega
theorem zVal.sc {k : Nat} {v : Int32} {i j : Nat} (h : zVal (zsc B k v) i j) : zVal B i j := h
theorem zc_p2_1 (K : zOK t tb G E) {index : Nat} {v : Int32} (hd : decode (zyc t) pc = .ok (.putfield index, 3)) (hw : Cond.fieldLink (zyn t).cls index (TX2 1).1 (TX2 1).2.1 (TX2 1).2.2.1 ∈ zTs) (hC : zC M W B) (hS : zFm M0 W B0 M) (kk : ∀ M', zC M' W (zsc B 2 v) → zFm M0 W B0 M' → WW E G u Q M' b (pc + 3) L S) : WW E G u Q M b pc L (.int v :: .ref (W 10 0) :: S) :=
  zq_putI K hd zclX2 (by decide) hw (Or.inl rfl) rfl rfl hC.x.1 (kk _ (hC.upd 10 0 ⟨by decide, rfl⟩ (fun a h => zsame.i h) (fun _ _ h => h) (fun i j hne hv h => zOb.scx hne hv h) (fun h => ⟨h.1, h.2.1, ⟨by rw [zi_i, if_pos ⟨rfl, rfl⟩]; rfl, by rw [zi_i, if_neg (fun z => absurd z.2 (by decide))]; exact h.2.2.1.2.1, by rw [zi_i, if_neg (fun z => absurd z.2 (by decide))]; exact h.2.2.1.2.2.1, by rw [zi_i, if_neg (fun z => absurd z.2 (by decide))]; exact h.2.2.1.2.2.2.1, by rw [zi_i, if_neg (fun z => absurd z.2 (by decide))]; exact h.2.2.1.2.2.2.2.1, by rw [zi_i, if_neg (fun z => absurd z.2 (by decide))]; exact h.2.2.1.2.2.2.2.2⟩, h.2.2.2⟩)) (hS.one (i := 10) (j := 0) ⟨by decide, rfl⟩ (fun a h => zsame.i h)))
theorem zc_p2_2 (K : zOK t tb G E) {index : Nat} {v : Int32} (hd : decode (zyc t) pc = .ok (.putfield index, 3)) (hw : Cond.fieldLink (zyn t).cls index (TX2 2).1 (TX2 2).2.1 (TX2 2).2.2.1 ∈ zTs) (hC : zC M W B) (hS : zFm M0 W B0 M) (kk : ∀ M', zC M' W (zsc B 9 v) → zFm M0 W B0 M' → WW E G u Q M' b (pc + 3) L S) : WW E G u Q M b pc L (.int v :: .ref (W 10 0) :: S) :=
  zq_putI K hd zclX2 (by decide) hw (Or.inl rfl) rfl rfl hC.x.1 (kk _ (hC.upd 10 0 ⟨by decide, rfl⟩ (fun a h => zsame.i h) (fun _ _ h => h) (fun i j hne hv h => zOb.scx hne hv h) (fun h => ⟨h.1, h.2.1, ⟨by rw [zi_i, if_neg (fun z => absurd z.2 (by decide))]; exact h.2.2.1.1, by rw [zi_i, if_pos ⟨rfl, rfl⟩]; rfl, by rw [zi_i, if_neg (fun z => absurd z.2 (by decide))]; exact h.2.2.1.2.2.1, by rw [zi_i, if_neg (fun z => absurd z.2 (by decide))]; exact h.2.2.1.2.2.2.1, by rw [zi_i, if_neg (fun z => absurd z.2 (by decide))]; exact h.2.2.1.2.2.2.2.1, by rw [zi_i, if_neg (fun z => absurd z.2 (by decide))]; exact h.2.2.1.2.2.2.2.2⟩, h.2.2.2⟩)) (hS.one (i := 10) (j := 0) ⟨by decide, rfl⟩ (fun a h => zsame.i h)))
theorem zc_p2_3 (K : zOK t tb G E) {index : Nat} {v : Int32} (hd : decode (zyc t) pc = .ok (.putfield index, 3)) (hw : Cond.fieldLink (zyn t).cls index (TX2 3).1 (TX2 3).2.1 (TX2 3).2.2.1 ∈ zTs) (hC : zC M W B) (hS : zFm M0 W B0 M) (kk : ∀ M', zC M' W (zsc B 8 v) → zFm M0 W B0 M' → WW E G u Q M' b (pc + 3) L S) : WW E G u Q M b pc L (.int v :: .ref (W 10 0) :: S) :=
  zq_putI K hd zclX2 (by decide) hw (Or.inl rfl) rfl rfl hC.x.1 (kk _ (hC.upd 10 0 ⟨by decide, rfl⟩ (fun a h => zsame.i h) (fun _ _ h => h) (fun i j hne hv h => zOb.scx hne hv h) (fun h => ⟨h.1, h.2.1, ⟨by rw [zi_i, if_neg (fun z => absurd z.2 (by decide))]; exact h.2.2.1.1, by rw [zi_i, if_neg (fun z => absurd z.2 (by decide))]; exact h.2.2.1.2.1, by rw [zi_i, if_pos ⟨rfl, rfl⟩]; rfl, by rw [zi_i, if_neg (fun z => absurd z.2 (by decide))]; exact h.2.2.1.2.2.2.1, by rw [zi_i, if_neg (fun z => absurd z.2 (by decide))]; exact h.2.2.1.2.2.2.2.1, by rw [zi_i, if_neg (fun z => absurd z.2 (by decide))]; exact h.2.2.1.2.2.2.2.2⟩, h.2.2.2⟩)) (hS.one (i := 10) (j := 0) ⟨by decide, rfl⟩ (fun a h => zsame.i h)))
theorem zc_p2_4 (K : zOK t tb G E) {index : Nat} {v : Int32} (hd : decode (zyc t) pc = .ok (.putfield index, 3)) (hw : Cond.fieldLink (zyn t).cls index (TX2 4).1 (TX2 4).2.1 (TX2 4).2.2.1 ∈ zTs) (hC : zC M W B) (hS : zFm M0 W B0 M) (kk : ∀ M', zC M' W (zsc B 1 v) → zFm M0 W B0 M' → WW E G u Q M' b (pc + 3) L S) : WW E G u Q M b pc L (.int v :: .ref (W 10 0) :: S) :=
  zq_putI K hd zclX2 (by decide) hw (Or.inl rfl) rfl rfl hC.x.1 (kk _ (hC.upd 10 0 ⟨by decide, rfl⟩ (fun a h => zsame.i h) (fun _ _ h => h) (fun i j hne hv h => zOb.scx hne hv h) (fun h => ⟨h.1, h.2.1, ⟨by rw [zi_i, if_neg (fun z => absurd z.2 (by decide))]; exact h.2.2.1.1, by rw [zi_i, if_neg (fun z => absurd z.2 (by decide))]; exact h.2.2.1.2.1, by rw [zi_i, if_neg (fun z => absurd z.2 (by decide))]; exact h.2.2.1.2.2.1, by rw [zi_i, if_pos ⟨rfl, rfl⟩]; rfl, by rw [zi_i, if_neg (fun z => absurd z.2 (by decide))]; exact h.2.2.1.2.2.2.2.1, by rw [zi_i, if_neg (fun z => absurd z.2 (by decide))]; exact h.2.2.1.2.2.2.2.2⟩, h.2.2.2⟩)) (hS.one (i := 10) (j := 0) ⟨by decide, rfl⟩ (fun a h => zsame.i h)))
theorem zc_p2_8 (K : zOK t tb G E) {index : Nat} {v : Int32} (hd : decode (zyc t) pc = .ok (.putfield index, 3)) (hw : Cond.fieldLink (zyn t).cls index (TX2 8).1 (TX2 8).2.1 (TX2 8).2.2.1 ∈ zTs) (hC : zC M W B) (hS : zFm M0 W B0 M) (kk : ∀ M', zC M' W (zsc B 17 v) → zFm M0 W B0 M' → WW E G u Q M' b (pc + 3) L S) : WW E G u Q M b pc L (.int v :: .ref (W 10 0) :: S) :=
  zq_putI K hd zclX2 (by decide) hw (Or.inl rfl) rfl rfl hC.x.1 (kk _ (hC.upd 10 0 ⟨by decide, rfl⟩ (fun a h => zsame.i h) (fun _ _ h => h) (fun i j hne hv h => zOb.scx hne hv h) (fun h => ⟨h.1, h.2.1, ⟨by rw [zi_i, if_neg (fun z => absurd z.2 (by decide))]; exact h.2.2.1.1, by rw [zi_i, if_neg (fun z => absurd z.2 (by decide))]; exact h.2.2.1.2.1, by rw [zi_i, if_neg (fun z => absurd z.2 (by decide))]; exact h.2.2.1.2.2.1, by rw [zi_i, if_neg (fun z => absurd z.2 (by decide))]; exact h.2.2.1.2.2.2.1, by rw [zi_i, if_pos ⟨rfl, rfl⟩]; rfl, by rw [zi_i, if_neg (fun z => absurd z.2 (by decide))]; exact h.2.2.1.2.2.2.2.2⟩, h.2.2.2⟩)) (hS.one (i := 10) (j := 0) ⟨by decide, rfl⟩ (fun a h => zsame.i h)))
theorem zc_p2_9 (K : zOK t tb G E) {index : Nat} {v : Int32} (hd : decode (zyc t) pc = .ok (.putfield index, 3)) (hw : Cond.fieldLink (zyn t).cls index (TX2 9).1 (TX2 9).2.1 (TX2 9).2.2.1 ∈ zTs) (hC : zC M W B) (hS : zFm M0 W B0 M) (kk : ∀ M', zC M' W (zsc B 18 v) → zFm M0 W B0 M' → WW E G u Q M' b (pc + 3) L S) : WW E G u Q M b pc L (.int v :: .ref (W 10 0) :: S) :=
  zq_putI K hd zclX2 (by decide) hw (Or.inl rfl) rfl rfl hC.x.1 (kk _ (hC.upd 10 0 ⟨by decide, rfl⟩ (fun a h => zsame.i h) (fun _ _ h => h) (fun i j hne hv h => zOb.scx hne hv h) (fun h => ⟨h.1, h.2.1, ⟨by rw [zi_i, if_neg (fun z => absurd z.2 (by decide))]; exact h.2.2.1.1, by rw [zi_i, if_neg (fun z => absurd z.2 (by decide))]; exact h.2.2.1.2.1, by rw [zi_i, if_neg (fun z => absurd z.2 (by decide))]; exact h.2.2.1.2.2.1, by rw [zi_i, if_neg (fun z => absurd z.2 (by decide))]; exact h.2.2.1.2.2.2.1, by rw [zi_i, if_neg (fun z => absurd z.2 (by decide))]; exact h.2.2.1.2.2.2.2.1, by rw [zi_i, if_pos ⟨rfl, rfl⟩]; rfl⟩, h.2.2.2⟩)) (hS.one (i := 10) (j := 0) ⟨by decide, rfl⟩ (fun a h => zsame.i h)))
theorem zc_pm0 (K : zOK t tb G E) {index : Nat} (hd : decode (zyc t) pc = .ok (.putfield index, 3)) (hw : Cond.fieldLink (zyn t).cls index (TX2 7).1 (TX2 7).2.1 (TX2 7).2.2.1 ∈ zTs) (hC : zC M W B) (hS : zFm M0 W B0 M) (kk : ∀ M', zC M' W (zsc B 16 (-1)) → zFm M0 W B0 M' → WW E G u Q M' b (pc + 3) L S) : WW E G u Q M b pc L (.null :: .ref (W 10 0) :: S) :=
  zq_putRn K hd zclX2 (k := 7) (by decide) hw (Or.inl rfl) (fun r => by cases r <;> exact ⟨rfl, rfl⟩) rfl hC.x.1 (kk _ (hC.upd 10 0 ⟨by decide, rfl⟩ (fun a h => zsame.r h) (fun _ _ h => h) (fun i j hne hv h => zOb.scx hne hv h) (fun h => ⟨h.1, ⟨by rw [zr_r, if_neg (fun z => absurd z.2 (by decide))]; exact h.2.1.1, by rw [zr_r, if_neg (fun z => absurd z.2 (by decide))]; exact h.2.1.2.1, by rw [zr_r, if_neg (fun z => absurd z.2 (by decide))]; exact h.2.1.2.2⟩, h.2.2.1, by rw [zr_r, if_pos ⟨rfl, rfl⟩]; rfl⟩)) (hS.one (i := 10) (j := 0) ⟨by decide, rfl⟩ (fun a h => zsame.r h)))
theorem zc_pm1 (K : zOK t tb G E) {index f : Nat} (hd : decode (zyc t) pc = .ok (.putfield index, 3)) (hw : Cond.fieldLink (zyn t).cls index (TX2 7).1 (TX2 7).2.1 (TX2 7).2.2.1 ∈ zTs) (hC : zC M W B) (hS : zFm M0 W B0 M) (hf : f < 96) (kk : ∀ M', zC M' W (zsc B 16 (nI f)) → zFm M0 W B0 M' → WW E G u Q M' b (pc + 3) L S) : WW E G u Q M b pc L (.ref (W 9 f) :: .ref (W 10 0) :: S) :=
  zq_putRs K hd zclX2 (k := 7) (by decide) hw (Or.inl rfl) (fun r => by cases r <;> exact ⟨rfl, rfl⟩) rfl hC.x.1 (kk _ (hC.upd 10 0 ⟨by decide, rfl⟩ (fun a h => zsame.r h) (fun _ _ h => h) (fun i j hne hv h => zOb.scx hne hv h) (fun h => ⟨h.1, ⟨by rw [zr_r, if_neg (fun z => absurd z.2 (by decide))]; exact h.2.1.1, by rw [zr_r, if_neg (fun z => absurd z.2 (by decide))]; exact h.2.1.2.1, by rw [zr_r, if_neg (fun z => absurd z.2 (by decide))]; exact h.2.1.2.2⟩, h.2.2.1, by rw [zr_r, if_pos ⟨rfl, rfl⟩, show (zsc B 16 (nI f)).1 16 = nI f from rfl, if_neg (nI_ne1 (by omega)), nI_clamp (by omega)]⟩)) (hS.one (i := 10) (j := 0) ⟨by decide, rfl⟩ (fun a h => zsame.r h)))
theorem zC.u_mea {v : Int32} {d n : Nat} (hv : zVal B 3 d) (hn : n < 50) (hC : zC M W B) : zC (zsi M (W 4 d) n v) W (zsa B 6 (50 * d + n) v) := by
  refine hC.upd (4) (d) hv (fun a h => zsame.i h) (fun _ _ h => h) ?_ (fun h => (by
    refine ⟨h.1, h.2.1, fun k hk => ?_⟩
    rw [zi_i, zsa_2]
    by_cases e : k = n
    · rw [if_pos ⟨rfl, e⟩, if_pos ⟨rfl, by rw [e]⟩]
    · rw [if_neg (fun z => e z.2), if_neg (fun z => e (by have := z.2; omega))]
      exact h.2.2 k hk))
  exact fun i j => match i, j with
    | 0, j => fun hne hv h => h
    | 1, j => fun hne hv h => h
    | 2, j => fun hne hv h => h
    | 3, j => fun hne hv h => h
    | 4, j => fun hne hv h => (by
      refine ⟨h.1, h.2.1, fun k hk => ?_⟩
      rw [zsa_2, if_neg (fun z => hne ⟨rfl, by have := z.2; omega⟩)]
      exact h.2.2 k hk)
    | 5, j => fun hne hv h => h
    | 6, j => fun hne hv h => h
    | 7, j => fun hne hv h => h
    | 8, j => fun hne hv h => h
    | 9, j => fun hne hv h => h
    | 10, j => fun hne hv h => h
    | i + 11, j => fun hne hv h => absurd hv.lt (by omega)
theorem zC.u_age {v : Int32} {d n : Nat} (hv : zVal B 3 d) (hn : n < 50) (hC : zC M W B) : zC (zsi M (W 5 d) n v) W (zsa B 7 (50 * d + n) v) := by
  refine hC.upd (5) (d) hv (fun a h => zsame.i h) (fun _ _ h => h) ?_ (fun h => (by
    refine ⟨h.1, h.2.1, fun k hk => ?_⟩
    rw [zi_i, zsa_2]
    by_cases e : k = n
    · rw [if_pos ⟨rfl, e⟩, if_pos ⟨rfl, by rw [e]⟩]
    · rw [if_neg (fun z => e z.2), if_neg (fun z => e (by have := z.2; omega))]
      exact h.2.2 k hk))
  exact fun i j => match i, j with
    | 0, j => fun hne hv h => h
    | 1, j => fun hne hv h => h
    | 2, j => fun hne hv h => h
    | 3, j => fun hne hv h => h
    | 4, j => fun hne hv h => h
    | 5, j => fun hne hv h => (by
      refine ⟨h.1, h.2.1, fun k hk => ?_⟩
      rw [zsa_2, if_neg (fun z => hne ⟨rfl, by have := z.2; omega⟩)]
      exact h.2.2 k hk)
    | 6, j => fun hne hv h => h
    | 7, j => fun hne hv h => h
    | 8, j => fun hne hv h => h
    | 9, j => fun hne hv h => h
    | 10, j => fun hne hv h => h
    | i + 11, j => fun hne hv h => absurd hv.lt (by omega)
theorem zC.u_rec {v : Int32} {c : Nat} (hc : c < 4) (hC : zC M W B) : zC (zsi M (W 1 0) c v) W (zsa B 14 c v) := by
  refine hC.upd (1) (0) ⟨by decide, rfl⟩ (fun a h => zsame.i h) (fun _ _ h => h) ?_ (fun h => (by
    refine ⟨h.1, h.2.1, fun k hk => ?_⟩
    rw [zi_i, zsa_2]
    by_cases e : k = c
    · rw [if_pos ⟨rfl, e⟩, if_pos ⟨rfl, by rw [e]⟩]
    · rw [if_neg (fun z => e z.2), if_neg (fun z => e (by have := z.2; omega))]
      exact h.2.2 k hk))
  exact fun i j => match i, j with
    | 0, j => fun hne hv h => h
    | 1, j => fun hne hv h => absurd ⟨rfl, hv.2⟩ hne
    | 2, j => fun hne hv h => h
    | 3, j => fun hne hv h => h
    | 4, j => fun hne hv h => h
    | 5, j => fun hne hv h => h
    | 6, j => fun hne hv h => h
    | 7, j => fun hne hv h => h
    | 8, j => fun hne hv h => h
    | 9, j => fun hne hv h => h
    | 10, j => fun hne hv h => h
    | i + 11, j => fun hne hv h => absurd hv.lt (by omega)
theorem zC.u_kno {v : Int32} {c : Nat} (hc : c < 4) (hC : zC M W B) : zC (zsi M (W 2 0) c v) W (zsa B 15 c v) := by
  refine hC.upd (2) (0) ⟨by decide, rfl⟩ (fun a h => zsame.i h) (fun _ _ h => h) ?_ (fun h => (by
    refine ⟨h.1, h.2.1, fun k hk => ?_⟩
    rw [zi_i, zsa_2]
    by_cases e : k = c
    · rw [if_pos ⟨rfl, e⟩, if_pos ⟨rfl, by rw [e]⟩]
    · rw [if_neg (fun z => e z.2), if_neg (fun z => e (by have := z.2; omega))]
      exact h.2.2 k hk))
  exact fun i j => match i, j with
    | 0, j => fun hne hv h => h
    | 1, j => fun hne hv h => h
    | 2, j => fun hne hv h => absurd ⟨rfl, hv.2⟩ hne
    | 3, j => fun hne hv h => h
    | 4, j => fun hne hv h => h
    | 5, j => fun hne hv h => h
    | 6, j => fun hne hv h => h
    | 7, j => fun hne hv h => h
    | 8, j => fun hne hv h => h
    | 9, j => fun hne hv h => h
    | 10, j => fun hne hv h => h
    | i + 11, j => fun hne hv h => absurd hv.lt (by omega)
theorem zC.u_row {v : Int32} {d c n : Nat} (hv : zVal B 3 d) (hc : c < 4) (hn : n < 50) (hC : zC M W B) : zC (zsi M (W 7 (4 * d + c)) n v) W (zsa B 13 (600 * c + (50 * d + n)) v) := by
  obtain ⟨hd12, hl12⟩ := id hv
  refine hC.upd (7) (4 * d + c) (hv.r hc) (fun a h => zsame.i h) (fun _ _ h => h) ?_ (fun h => (by
    obtain ⟨h1, h2, h3⟩ := h
    refine ⟨h1, h2, fun k hk => ?_⟩
    rw [zi_i, zsa_2]
    by_cases e : k = n
    · rw [if_pos ⟨rfl, e⟩, if_pos ⟨rfl, by rw [e, show (4 * d + c) % 4 = c by omega, show (4 * d + c) / 4 = d by omega]⟩]
    · rw [if_neg (fun z => e z.2), if_neg (fun z => e (by have := z.2; omega))]
      exact h3 k hk))
  exact fun i j => match i, j with
    | 0, j => fun hne hv h => h
    | 1, j => fun hne hv h => h
    | 2, j => fun hne hv h => h
    | 3, j => fun hne hv h => h
    | 4, j => fun hne hv h => h
    | 5, j => fun hne hv h => h
    | 6, j => fun hne hv h => h
    | 7, j => fun hne hv h => (by
      obtain ⟨h1, h2, h3⟩ := h
      obtain ⟨v1, v2⟩ := hv
      refine ⟨h1, h2, fun k hk => ?_⟩
      rw [zsa_2, if_neg (fun z => hne ⟨rfl, by have := z.2; omega⟩)]
      exact h3 k hk)
    | 8, j => fun hne hv h => h
    | 9, j => fun hne hv h => h
    | 10, j => fun hne hv h => h
    | i + 11, j => fun hne hv h => absurd hv.lt (by omega)
theorem zC.u_own {v : Int32} {f : Nat} (hv : zVal B 9 f) (hC : zC M W B) : zC (zsi M (W 9 f) 3 v) W (zsa B 11 f v) := by
  refine hC.upd (9) (f) hv (fun a h => zsame.i h) (fun _ _ h => h) ?_ (fun h => ⟨h.1, (by rw [zi_i, if_neg (fun z => absurd z.2 (by decide))]; exact h.2.1), (by rw [zi_i, if_neg (fun z => absurd z.2 (by decide))]; exact h.2.2.1), (by rw [zi_i, if_neg (fun z => absurd z.2 (by decide))]; exact h.2.2.2.1), (by rw [zi_i, if_pos ⟨rfl, rfl⟩, zsa_2, if_pos ⟨rfl, rfl⟩]), (by rw [zi_i, if_neg (fun z => absurd z.2 (by decide))]; exact h.2.2.2.2.2)⟩)
  exact fun i j => match i, j with
    | 0, j => fun hne hv h => h
    | 1, j => fun hne hv h => h
    | 2, j => fun hne hv h => h
    | 3, j => fun hne hv h => h
    | 4, j => fun hne hv h => h
    | 5, j => fun hne hv h => h
    | 6, j => fun hne hv h => h
    | 7, j => fun hne hv h => h
    | 8, j => fun hne hv h => h
    | 9, j => fun hne hv h => ⟨h.1, h.2.1, h.2.2.1, h.2.2.2.1, (by rw [zsa_2, if_neg (fun z => hne ⟨rfl, z.2⟩)]; exact h.2.2.2.2.1), h.2.2.2.2.2⟩
    | 10, j => fun hne hv h => h
    | i + 11, j => fun hne hv h => absurd hv.lt (by omega)
theorem zC.u_load {v : Int32} {f : Nat} (hv : zVal B 9 f) (hC : zC M W B) : zC (zsi M (W 9 f) 4 v) W (zsa B 12 f v) := by
  refine hC.upd (9) (f) hv (fun a h => zsame.i h) (fun _ _ h => h) ?_ (fun h => ⟨h.1, (by rw [zi_i, if_neg (fun z => absurd z.2 (by decide))]; exact h.2.1), (by rw [zi_i, if_neg (fun z => absurd z.2 (by decide))]; exact h.2.2.1), (by rw [zi_i, if_neg (fun z => absurd z.2 (by decide))]; exact h.2.2.2.1), (by rw [zi_i, if_neg (fun z => absurd z.2 (by decide))]; exact h.2.2.2.2.1), (by rw [zi_i, if_pos ⟨rfl, rfl⟩, zsa_2, if_pos ⟨rfl, rfl⟩])⟩)
  exact fun i j => match i, j with
    | 0, j => fun hne hv h => h
    | 1, j => fun hne hv h => h
    | 2, j => fun hne hv h => h
    | 3, j => fun hne hv h => h
    | 4, j => fun hne hv h => h
    | 5, j => fun hne hv h => h
    | 6, j => fun hne hv h => h
    | 7, j => fun hne hv h => h
    | 8, j => fun hne hv h => h
    | 9, j => fun hne hv h => ⟨h.1, h.2.1, h.2.2.1, h.2.2.2.1, h.2.2.2.2.1, (by rw [zsa_2, if_neg (fun z => hne ⟨rfl, z.2⟩)]; exact h.2.2.2.2.2)⟩
    | 10, j => fun hne hv h => h
    | i + 11, j => fun hne hv h => absurd hv.lt (by omega)
theorem zC.u_nam {v : Int32} {d : Nat} (hv : zVal B 3 d) (hC : zC M W B) : zC (zsi M (W 3 d) 2 v) W (zsa B 5 d v) := by
  refine hC.upd (3) (d) hv (fun a h => zsame.i h) (fun _ _ h => h) ?_ (fun h => ⟨h.1, (by rw [zi_i, if_neg (fun z => absurd z.2 (by decide))]; exact h.2.1), h.2.2.1, (by rw [zi_i, if_pos ⟨rfl, rfl⟩, zsa_2, if_pos ⟨rfl, rfl⟩]), h.2.2.2.2.1, h.2.2.2.2.2.1, h.2.2.2.2.2.2.1, h.2.2.2.2.2.2.2⟩)
  exact fun i j => match i, j with
    | 0, j => fun hne hv h => h
    | 1, j => fun hne hv h => h
    | 2, j => fun hne hv h => h
    | 3, j => fun hne hv h => ⟨h.1, h.2.1, h.2.2.1, (by rw [zsa_2, if_neg (fun z => hne ⟨rfl, z.2⟩)]; exact h.2.2.2.1), h.2.2.2.2.1, h.2.2.2.2.2.1, h.2.2.2.2.2.2.1, h.2.2.2.2.2.2.2⟩
    | 4, j => fun hne hv h => h
    | 5, j => fun hne hv h => h
    | 6, j => fun hne hv h => h
    | 7, j => fun hne hv h => h
    | 8, j => fun hne hv h => h
    | 9, j => fun hne hv h => h
    | 10, j => fun hne hv h => h
    | i + 11, j => fun hne hv h => absurd hv.lt (by omega)
theorem zOb.par {s : Nat → Int32} {z z' : Nat → Nat → Int32} {d : Nat} (hk : ∀ k, k ≠ 4 → z' k = z k) (h4 : ∀ j, j ≠ d → z' 4 j = z 4 j) : ∀ {i j : Nat}, zVal (s, z) i j → ¬ (i = 3 ∧ j = d) → zOb M W (s, z) i j → zOb M W (s, z') i j
  | 0, j, _, _, h => ⟨h.1, h.2.1, fun c hc => by rw [h.2.2 c hc]; show (if z 3 c = 1 then _ else _) = (if z' 3 c = 1 then _ else _); rw [hk 3 (by decide)]⟩
  | 1, j, _, _, h => ⟨h.1, h.2.1, fun c hc => by rw [h.2.2 c hc]; exact (congrFun (hk 14 (by decide)) c).symm⟩
  | 2, j, _, _, h => ⟨h.1, h.2.1, fun c hc => by rw [h.2.2 c hc]; exact (congrFun (hk 15 (by decide)) c).symm⟩
  | 3, j, _, hne, h => by
    have e5 := hk 5 (by decide)
    have e6 : zpar (s, z') j = zpar (s, z) j := by unfold zpar; exact congrArg Int32.toNatClampNeg (h4 j (fun z => hne ⟨rfl, z⟩))
    exact ⟨h.1, h.2.1, by rw [e6]; exact h.2.2.1, by rw [h.2.2.2.1]; exact (congrFun e5 j).symm, h.2.2.2.2⟩
  | 4, j, _, _, h => ⟨h.1, h.2.1, fun c hc => by rw [h.2.2 c hc]; exact (congrFun (hk 6 (by decide)) _).symm⟩
  | 5, j, _, _, h => ⟨h.1, h.2.1, fun c hc => by rw [h.2.2 c hc]; exact (congrFun (hk 7 (by decide)) _).symm⟩
  | 6, j, _, _, h => ⟨h.1, h.2.1, h.2.2⟩
  | 7, j, _, _, h => ⟨h.1, h.2.1, fun c hc => by rw [h.2.2 c hc]; exact (congrFun (hk 13 (by decide)) _).symm⟩
  | 8, j, _, _, h => ⟨h.1, h.2.1, fun c hc => by rw [h.2.2 c hc]; show some (W 9 (8 * j + zfg (z 10) j c)) = some (W 9 (8 * j + zfg (z' 10) j c)); rw [hk 10 (by decide)]⟩
  | 9, j, _, _, h => ⟨h.1, h.2.1, h.2.2.1, h.2.2.2.1.trans (congrFun (hk 10 (by decide)) j).symm, h.2.2.2.2.1.trans (congrFun (hk 11 (by decide)) j).symm, h.2.2.2.2.2.trans (congrFun (hk 12 (by decide)) j).symm⟩
  | 10, j, _, _, h => ⟨h.1, h.2.1, h.2.2.1, h.2.2.2⟩
  | i + 11, _, hv, _, _ => absurd hv.lt (by omega)
theorem zOb.par1 {v : Int32} {d e : Nat} (hd0 : ¬ d = 0) (he : e < 12) (ev : v = nI e) (h : zOb M W B 3 d) : zOb (zsr M (W 3 d) 1 (some (W 3 e))) W (zsa B 4 d v) 3 d := by
  have e1 : zpar (zsa B 4 d v) d = e := by unfold zpar; rw [zsa_2, if_pos ⟨rfl, rfl⟩, ev, nI_clamp (by omega)]
  obtain ⟨h1, h2, h3, h4, h5, h6, h7, h8⟩ := h
  refine ⟨h1, h2, ?_, h4, ?_, ?_, ?_, ?_⟩
  · rw [zr_r, if_pos ⟨rfl, rfl⟩, if_neg hd0, e1]
  all_goals rw [zr_r, if_neg (fun z => absurd z.2 (by decide))]; assumption
theorem zC.u_par {v : Int32} {d e : Nat} (hv : zVal B 3 d) (hd0 : ¬ d = 0) (he : e < 12) (ev : v = nI e) (hC : zC M W B) : zC (zsr M (W 3 d) 1 (some (W 3 e))) W (zsa B 4 d v) :=
  hC.upd 3 d hv (fun a h => zsame.r h) (fun _ _ h => h) (fun i j hne hv h => zOb.par (s := B.1) (z := B.2) (z' := (zsa B 4 d v).2) (d := d) (fun k hk => zsa_n B 4 d v k hk) (fun j hj => by rw [zsa_2, if_neg (fun z => hj z.2)]) hv hne h) (fun h => zOb.par1 hd0 he ev h)
end ZCR

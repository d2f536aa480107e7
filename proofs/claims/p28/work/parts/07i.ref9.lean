/-! the reference: anchor, a new one -/
theorem zdvI (n : Nat) (c0 : ClassId) (M : ZM) (a : Nat) : vp_cell c0 (zct (zw M a (0 + 5) n) a (0 + 5)) = arrV c0 n (fun _ => defaultValue .int) := by
  have e : zct (zw M a 5 n) a 5 = (n, .inl fun _ => 0) := by
    unfold zct
    rw [zn_w, if_pos rfl, if_pos (Or.inl rfl), show zi (zw M a 5 n) a = fun _ => 0 from funext fun j => by rw [zi_w, if_pos rfl]]
  rw [e]
  rfl
theorem zq_newI {t : ZY} {tb : List ExceptionTableEntry} {E : ZE} {G : ZG} {u : Nat} {Q : State → Prop} {M : ZM} {b pc : Nat} {L : List (Option Value)} {S : List Value} (K : zOK t tb G E) (n k : Nat) (hd : decode (zyc t) pc = .ok (.newarray .int, 2)) (hn : n ≤ 65536) (hb : 1 ≤ k ∧ n ≤ 64 * k ∧ k ≤ b) (hu : u ≤ zyu t) (kk : ∀ a, zk M a = 0 → WW E G u Q (zw M a 5 n) (b - k) (pc + 2) L (.ref a :: S)) : WW E G u Q M b pc L (.int (nI n) :: S) :=
  zq_newarr K 0 n hd rfl rfl (by decide) (fun C h => nomatch h) (zt 68 (by decide +kernel) rfl) rfl hn (zdvI n) k hb hu (by decide) kk
theorem zdvZ (n : Nat) (c0 : ClassId) (M : ZM) (a : Nat) : vp_cell c0 (zct (zw M a (1 + 5) n) a (1 + 5)) = arrV c0 n (fun _ => defaultValue .boolean) := by
  have e : zct (zw M a 6 n) a 6 = (n, .inl fun _ => 0) := by
    unfold zct
    rw [zn_w, if_pos rfl, if_pos (Or.inr rfl), show zi (zw M a 6 n) a = fun _ => 0 from funext fun j => by rw [zi_w, if_pos rfl]]
  rw [e]
  rfl
theorem zdvJ (n : Nat) (c0 : ClassId) (M : ZM) (a : Nat) : vp_cell c0 (zct (zw M a (2 + 5) n) a (2 + 5)) = arrV c0 n (fun _ => defaultValue .long) := by
  have e : zct (zw M a 7 n) a 7 = (n, .inr (.inl fun _ => 0)) := by
    unfold zct
    rw [zn_w, if_pos rfl, if_neg (by decide), if_pos rfl, show zj (zw M a 7 n) a = fun _ => 0 from funext fun j => by rw [zj_w, if_pos rfl]]
  rw [e]
  rfl
/-- the youngest place of f among the first k -/
def zAn (A : ZA) (f : Int32) : Nat → Option Nat
  | 0 => none
  | k + 1 => if A.2 6 k = f then (match zAn A f k with
      | none => some k
      | some j => if A.2 7 j ≤ A.2 7 k then some j else some k) else zAn A f k
theorem zAn_lt {A : ZA} {f : Int32} : ∀ {k j : Nat}, zAn A f k = some j → j < k
  | 0, j, h => nomatch h
  | k + 1, j, h => by
    unfold zAn at h
    split at h
    · split at h
      · cases h
        omega
      · rename_i j' e
        have h9 := zAn_lt e
        split at h <;> cases h <;> omega
    · have := zAn_lt h
      omega
def zAv : Option Nat → Int32
  | none => -1
  | some i => nI (100 * (i / 50) + i % 50)
/-- a new reference with its rows up to n -/
def zNx (M0 M : ZM) (x : Nat) (q : Nat → Nat) (n : Nat) : Prop := zk M x = 4 ∧ (∀ k, zar k = true → k < n → zr M x k = some (q k) ∧ zk M (q k) = (if k = 3 then 6 else 5) ∧ zn M (q k) = zln k ∧ (∀ j, zi M (q k) j = 0) ∧ zk M0 (q k) = 0) ∧ (∀ k, zi M x k = if k = 2 then 1 else 0) ∧ (∀ j k, zar j = true → zar k = true → j < n → k < n → q j = q k → j = k) ∧ ∀ a, ¬ zk M0 a = 0 → a ≠ x → zsame M0 M a
theorem zNx.gap {M0 M : ZM} {x : Nat} {q : Nat → Nat} {n m : Nat} (h : zNx M0 M x q n) (g : ∀ k, k < 19 → zar k = true → k < m → k < n) (hm : m < 19) : zNx M0 M x q m :=
  ⟨h.1, fun k h1 h2 => h.2.1 k h1 (g k (by omega) h1 h2), h.2.2.1, fun j k h1 h2 h3 h4 => h.2.2.2.1 j k h1 h2 (g j (by omega) h1 h3) (g k (by omega) h2 h4), h.2.2.2.2⟩
theorem zNx.kw {M0 M : ZM} {x : Nat} {q : Nat → Nat} {n a kd l : Nat} (h : zNx M0 M x q n) (ha : zk M a = 0) : zk (zw M a kd l) x = 4 := by
  rw [zk_w, if_neg (fun e => by rw [← e, h.1] at ha; exact absurd ha (by decide))]
  exact h.1
theorem zNx.go {M0 M : ZM} {x : Nat} {q : Nat → Nat} {n a kd l : Nat} (h : zNx M0 M x q n) (ha : zk M a = 0) (hn : zar n = true) (hk : kd = if n = 3 then 6 else 5) (hl : l = zln n) : zNx M0 (zsr (zw M a kd l) x n (some a)) x (zo q n a) (n + 1) := by
  have hax : a ≠ x := fun e => by rw [e, h.1] at ha; exact absurd ha (by decide)
  have h0 : zk M0 a = 0 := by
    by_cases e : zk M0 a = 0
    · exact e
    · have := (h.2.2.2.2 a e hax).1
      omega
  have hq : ∀ k, zar k = true → k < n → q k ≠ a := fun k h1 h2 e => by
    have h3 := (h.2.1 k h1 h2).2.1
    rw [e, ha] at h3
    split at h3 <;> omega
  refine ⟨h.kw (l := l) ha, fun k h1 h2 => ?_, fun k => ?_, fun j k h1 h2 h3 h4 e => ?_, fun b h1 h2 => ?_⟩
  · by_cases e : k = n
    · subst e
      rw [show zo q k a k = a from if_pos rfl]
      exact ⟨by rw [zr_r, if_pos ⟨rfl, rfl⟩], by rw [zk_r, zk_w, if_pos rfl, hk], by rw [zn_r, zn_w, if_pos rfl, hl], fun j => by rw [zi_r, zi_w, if_pos rfl], h0⟩
    · obtain ⟨g1, g2, g3, g4, g5⟩ := h.2.1 k h1 (by omega)
      have hne := hq k h1 (by omega)
      rw [show zo q n a k = q k from if_neg e]
      exact ⟨by rw [zr_r, if_neg (fun z => e z.2), zr_w, if_neg (fun z => hax z.symm)]; exact g1, by rw [zk_r, zk_w, if_neg hne]; exact g2, by rw [zn_r, zn_w, if_neg hne]; exact g3, fun j => by rw [zi_r, zi_w, if_neg hne]; exact g4 j, g5⟩
  · rw [zi_r, zi_w, if_neg (fun z => hax z.symm)]
    exact h.2.2.1 k
  · by_cases e1 : j = n
    · by_cases e2 : k = n
      · rw [e1, e2]
      · rw [e1, show zo q n a n = a from if_pos rfl, show zo q n a k = q k from if_neg e2] at e
        exact absurd e.symm (hq k h2 (by omega))
    · by_cases e2 : k = n
      · rw [e2, show zo q n a n = a from if_pos rfl, show zo q n a j = q j from if_neg e1] at e
        exact absurd e (hq j h1 (by omega))
      · rw [show zo q n a j = q j from if_neg e1, show zo q n a k = q k from if_neg e2] at e
        exact h.2.2.2.1 j k h1 h2 (by omega) (by omega) e
  · have g := h.2.2.2.2 b h1 h2
    have hba : b ≠ a := fun e => h1 (e ▸ h0)
    exact g.tr ((zsame.w hba).tr (zsame.r h2))
theorem zNx_r {E : ZE} {G : ZG} {u : Nat} {Q : State → Prop} {M0 M : ZM} {b pc : Nat} {L : List (Option Value)} {S : List Value} {x : Nat} {q : Nat → Nat} {a kd l : Nat} (n m : Nat) (h : zNx M0 M x q n) (ha : zk M a = 0) (hn : zar n = true ∧ (kd = if n = 3 then 6 else 5) ∧ l = zln n) (g : (∀ k, k < 19 → zar k = true → k < m → k < n + 1) ∧ m < 19) (kk : ∀ M' q', zNx M0 M' x q' m → WW E G u Q M' b pc L S) : WW E G u Q (zsr (zw M a kd l) x n (some a)) b pc L S := kk _ _ ((h.go ha hn.1 hn.2.1 hn.2.2).gap g.1 g.2)
def zA1 : ZA := (fun k => if k = 2 then 1 else 0, fun _ _ => 0)
theorem zNx.R {M0 M : ZM} {x : Nat} {q : Nat → Nat} (h : zNx M0 M x q 16) : zR M x q (nI 0) zA1 := by
  have hz : ∀ k, zar k = true → k < 16 := fun k hk => by
    unfold zar at hk
    simp only [Bool.or_eq_true, Bool.and_eq_true, decide_eq_true_eq] at hk
    omega
  exact ⟨h.1, fun k hk => ⟨(h.2.1 k hk (hz k hk)).1, (h.2.1 k hk (hz k hk)).2.1, (h.2.1 k hk (hz k hk)).2.2.1, (h.2.1 k hk (hz k hk)).2.2.2.1⟩, ⟨by rw [h.2.2.1]; rfl, fun k _ _ => h.2.2.1 k⟩, fun j k h1 h2 => h.2.2.2.1 j k h1 h2 (hz j h1) (hz k h2)⟩
theorem zNx.b {M : ZM} {x : Nat} (hx : zk M x = 4) (hz : ∀ k, zi M x k = 0) : zNx M (zsi M x 2 (nI 1)) x id 3 := by
  have h3 : ∀ k, zar k = true → ¬ k < 3 := fun k h1 h2 => by
    unfold zar at h1
    simp only [Bool.or_eq_true, Bool.and_eq_true, decide_eq_true_eq] at h1
    omega
  refine ⟨hx, fun k h1 h2 => absurd h2 (h3 k h1), fun k => ?_, fun j k h1 _ h4 => absurd h4 (h3 j h1), fun a _ h2 => zsame.i h2⟩
  rw [zi_i]
  by_cases e : k = 2
  · rw [if_pos ⟨rfl, e⟩, if_pos e]
    rfl
  · rw [if_neg (fun z => e z.2), if_neg e]
    exact hz k
def zNs : Nat → ZA
  | 0 => zsc zA1 16 (-1)
  | k + 1 => zsa (zNs k) 6 k (-1)
/-- the reference at its beginning -/
def zA0 : ZA := zBg (zNs 600) 0 (nI 0) 8
def zNR (x : Nat) (M : ZM) : ZO → ZM → Prop := fun o M' => o = .inl none ∧ ∃ q, zR M' x q (nI 0) zA0 ∧ (∀ k, zar k = true → zk M (q k) = 0) ∧ ∀ a, ¬ zk M a = 0 → a ≠ x → zsame M M' a

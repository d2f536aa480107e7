/-! the class: new fragments -/
theorem ct_X1_init {G : ZG} {M : ZM} {a : Nat} (ha : zk M a = 2) (v0 v1 v2 v3 v4 : Int32) : zMet G mX1_init [.ref (a), .int (v0), .int (v1), .int (v2), .int (v3), .int (v4)] M (zone none (zsi (zsi (zsi (zsi (zsi M a 0 v0) a 1 v1) a 2 v2) a 3 v3) a 4 v4)) := by
  refine zbody zyX1_init [some (.ref (a)), some (.int (v0)), some (.int (v1)), some (.int (v2)), some (.int (v3)), some (.int (v4))] rfl (Nat.le_of_ble_eq_true rfl) (by intro v hv; simp only [List.mem_cons, List.not_mem_nil, or_false] at hv; rcases hv with rfl | rfl | rfl | rfl | rfl | rfl <;> rfl) (fun E K => ?_)
  refine zq_aload_n K dX1_init_0 rfl rfl ?_
  refine zq_objInit K dX1_init_1 zm_X1_1 (zt 31 (by decide +kernel) rfl) (zt 32 (by decide +kernel) rfl) (Nat.le_of_ble_eq_true rfl) (by decide) ?_
  refine zq_aload_n K dX1_init_4 rfl rfl ?_
  refine zq_iload_n K dX1_init_5 rfl rfl ?_
  refine zq_putI K dX1_init_6 zclX1 (k := 0) (by decide) zf_X1_7 (Or.inr ⟨rfl, rfl⟩) rfl rfl ha ?_
  refine zq_aload_n K dX1_init_9 rfl rfl ?_
  refine zq_iload_n K dX1_init_10 rfl rfl ?_
  refine zq_putI K dX1_init_11 zclX1 (k := 1) (by decide) zf_X1_13 (Or.inr ⟨rfl, rfl⟩) rfl rfl ha ?_
  refine zq_aload_n K dX1_init_14 rfl rfl ?_
  refine zq_iload_n K dX1_init_15 rfl rfl ?_
  refine zq_putI K dX1_init_16 zclX1 (k := 2) (by decide) zf_X1_16 (Or.inl rfl) rfl rfl ha ?_
  refine zq_aload_n K dX1_init_19 rfl rfl ?_
  refine zq_iload K dX1_init_20 rfl ?_
  refine zq_putI K dX1_init_22 zclX1 (k := 3) (by decide) zf_X1_19 (Or.inl rfl) rfl rfl ha ?_
  refine zq_aload_n K dX1_init_25 rfl rfl ?_
  refine zq_iload K dX1_init_26 rfl ?_
  refine zq_putI K dX1_init_28 zclX1 (k := 4) (by decide) zf_X1_22 (Or.inl rfl) rfl rfl ha ?_
  exact zq_ret K dX1_init_31 rfl ⟨rfl, rfl⟩
/-- the fragment a, from b to b + s, stands in the first k places of the row r -/
def zPB (M M' : ZM) (r a b s k : Nat) : Prop := (∀ y, y ≠ r → zsame M M' y) ∧ zk M' r = 9 ∧ zn M' r = 8 ∧ ∀ h, zr M' r h = if h < k ∧ b ≤ h ∧ h < b + s then some a else zr M r h

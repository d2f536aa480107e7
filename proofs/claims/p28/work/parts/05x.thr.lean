theorem zthw {own : String} {ic : Nat} {X : String} (h : (vx_atS own ic X zNm).all (fun w => (decide (w ∈ lw_tbl) && goodWord w) || (decide (w = .castable X X) || zDecl.any (fun F => decide (w = .declares ⟨F, "<init>", "(Ljava/lang/String;)V"⟩)))) = true) : ∀ w ∈ vx_atS own ic X zNm, w ∈ zTs ∨ w = .castable X X ∨ ∃ F ∈ zDecl, w = .declares ⟨F, "<init>", "(Ljava/lang/String;)V"⟩ := by
  intro w hw
  have h1 := List.all_eq_true.mp h w hw
  simp only [Bool.or_eq_true, Bool.and_eq_true, decide_eq_true_eq, List.any_eq_true] at h1
  rcases h1 with h1 | h1 | h1
  · exact Or.inl (List.mem_filter.mpr h1)
  · exact Or.inr (Or.inl h1)
  · exact Or.inr (Or.inr h1)
theorem zthIAE : zTh RX2 130 134 "java/lang/IllegalArgumentException" := ⟨by decide +kernel, zt 130 (by decide +kernel) rfl, zt 22 (by decide +kernel) rfl, zthw (by decide +kernel), by decide +kernel, by decide +kernel⟩
theorem zthIOB : zTh RX2 93 97 "java/lang/IndexOutOfBoundsException" := ⟨by decide +kernel, zt 210 (by decide +kernel) rfl, zt 23 (by decide +kernel) rfl, zthw (by decide +kernel), by decide +kernel, by decide +kernel⟩
theorem zthISE : zTh RX2 68 72 "java/lang/IllegalStateException" := ⟨by decide +kernel, zt 253 (by decide +kernel) rfl, zt 24 (by decide +kernel) rfl, zthw (by decide +kernel), by decide +kernel, by decide +kernel⟩

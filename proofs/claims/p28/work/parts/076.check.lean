/-! EVERY METHOD: what the twin says of it, it does -/
def tbOk (y : Nat) : Bool := (tbl y).all fun c => c.2.all fun q => chkI (mB y) (mC y) (mL y) (mR y) q.1 q.2
set_option maxRecDepth 100000 in
theorem tb_ok0 : ((List.range 12).map (fun k => 0 + k)).all tbOk = true := by decide +kernel
set_option maxRecDepth 100000 in
theorem tb_ok1 : ((List.range 12).map (fun k => 12 + k)).all tbOk = true := by decide +kernel
set_option maxRecDepth 100000 in
theorem tb_ok2 : ((List.range 12).map (fun k => 24 + k)).all tbOk = true := by decide +kernel
set_option maxRecDepth 100000 in
theorem tb_ok3 : ((List.range 12).map (fun k => 36 + k)).all tbOk = true := by decide +kernel
set_option maxRecDepth 100000 in
theorem tb_ok4 : ((List.range 12).map (fun k => 48 + k)).all tbOk = true := by decide +kernel
set_option maxRecDepth 100000 in
theorem tb_ok5 : ((List.range 12).map (fun k => 60 + k)).all tbOk = true := by decide +kernel
set_option maxRecDepth 100000 in
theorem tb_ok6 : ((List.range 6).map (fun k => 72 + k)).all tbOk = true := by decide +kernel
theorem tb_of {n c y : Nat} (h : ((List.range n).map (fun k => c + k)).all tbOk = true) (h1 : c ≤ y) (h2 : y < c + n) : tbOk y = true := List.all_eq_true.mp h y (List.mem_map.mpr ⟨y - c, List.mem_range.mpr (by omega), by omega⟩)
theorem tb_ok {y : Nat} (h : y < NMs) : tbOk y = true := by
  have h : y < 78 := h
  rcases (show (0 ≤ y ∧ y < 12) ∨ (12 ≤ y ∧ y < 24) ∨ (24 ≤ y ∧ y < 36) ∨ (36 ≤ y ∧ y < 48) ∨ (48 ≤ y ∧ y < 60) ∨ (60 ≤ y ∧ y < 72) ∨ (72 ≤ y ∧ y < 78) by omega) with ⟨a, b⟩ | ⟨a, b⟩ | ⟨a, b⟩ | ⟨a, b⟩ | ⟨a, b⟩ | ⟨a, b⟩ | ⟨a, b⟩
  · exact tb_of tb_ok0 a b
  · exact tb_of tb_ok1 a b
  · exact tb_of tb_ok2 a b
  · exact tb_of tb_ok3 a b
  · exact tb_of tb_ok4 a b
  · exact tb_of tb_ok5 a b
  · exact tb_of tb_ok6 a b

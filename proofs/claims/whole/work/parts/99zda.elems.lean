/-! WHAT IS KNOWN AT THE START: THE BYTES OF THE TEXT, 16 AT A TIME -/
def vTm : Term := .string "TrainCollector$Reader" 106
set_option maxRecDepth 100000 in
theorem st_e0 : ∀ j, j < 16 → Cond.eq (.elem (.field vTm "java/lang/String" "value" "[B") (.int (Int32.ofNat (0 + j)))) (.int (xSb.getD (0 + j) 0)) ∈ flatC (Jvm.Cond.and given_1 narrow_1) := by decide +kernel
set_option maxRecDepth 100000 in
theorem st_e1 : ∀ j, j < 16 → Cond.eq (.elem (.field vTm "java/lang/String" "value" "[B") (.int (Int32.ofNat (16 + j)))) (.int (xSb.getD (16 + j) 0)) ∈ flatC (Jvm.Cond.and given_1 narrow_1) := by decide +kernel
set_option maxRecDepth 100000 in
theorem st_e2 : ∀ j, j < 16 → Cond.eq (.elem (.field vTm "java/lang/String" "value" "[B") (.int (Int32.ofNat (32 + j)))) (.int (xSb.getD (32 + j) 0)) ∈ flatC (Jvm.Cond.and given_1 narrow_1) := by decide +kernel
set_option maxRecDepth 100000 in
theorem st_e3 : ∀ j, j < 16 → Cond.eq (.elem (.field vTm "java/lang/String" "value" "[B") (.int (Int32.ofNat (48 + j)))) (.int (xSb.getD (48 + j) 0)) ∈ flatC (Jvm.Cond.and given_1 narrow_1) := by decide +kernel
set_option maxRecDepth 100000 in
theorem st_e4 : ∀ j, j < 16 → Cond.eq (.elem (.field vTm "java/lang/String" "value" "[B") (.int (Int32.ofNat (64 + j)))) (.int (xSb.getD (64 + j) 0)) ∈ flatC (Jvm.Cond.and given_1 narrow_1) := by decide +kernel
set_option maxRecDepth 100000 in
theorem st_e5 : ∀ j, j < 16 → Cond.eq (.elem (.field vTm "java/lang/String" "value" "[B") (.int (Int32.ofNat (80 + j)))) (.int (xSb.getD (80 + j) 0)) ∈ flatC (Jvm.Cond.and given_1 narrow_1) := by decide +kernel
set_option maxRecDepth 100000 in
theorem st_e6 : ∀ j, j < 16 → Cond.eq (.elem (.field vTm "java/lang/String" "value" "[B") (.int (Int32.ofNat (96 + j)))) (.int (xSb.getD (96 + j) 0)) ∈ flatC (Jvm.Cond.and given_1 narrow_1) := by decide +kernel
set_option maxRecDepth 100000 in
theorem st_e7 : ∀ j, j < 16 → Cond.eq (.elem (.field vTm "java/lang/String" "value" "[B") (.int (Int32.ofNat (112 + j)))) (.int (xSb.getD (112 + j) 0)) ∈ flatC (Jvm.Cond.and given_1 narrow_1) := by decide +kernel
set_option maxRecDepth 100000 in
theorem st_e8 : ∀ j, j < 16 → Cond.eq (.elem (.field vTm "java/lang/String" "value" "[B") (.int (Int32.ofNat (128 + j)))) (.int (xSb.getD (128 + j) 0)) ∈ flatC (Jvm.Cond.and given_1 narrow_1) := by decide +kernel
theorem st_elems (j : Nat) (hj : j < 144) : Cond.eq (.elem (.field vTm "java/lang/String" "value" "[B") (.int (Int32.ofNat (j)))) (.int (xSb.getD (j) 0)) ∈ flatC (Jvm.Cond.and given_1 narrow_1) := by
  by_cases h0 : j < 16
  · have h := st_e0 (j - 0) (by omega)
    rw [show 0 + (j - 0) = j by omega] at h
    exact h
  by_cases h1 : j < 32
  · have h := st_e1 (j - 16) (by omega)
    rw [show 16 + (j - 16) = j by omega] at h
    exact h
  by_cases h2 : j < 48
  · have h := st_e2 (j - 32) (by omega)
    rw [show 32 + (j - 32) = j by omega] at h
    exact h
  by_cases h3 : j < 64
  · have h := st_e3 (j - 48) (by omega)
    rw [show 48 + (j - 48) = j by omega] at h
    exact h
  by_cases h4 : j < 80
  · have h := st_e4 (j - 64) (by omega)
    rw [show 64 + (j - 64) = j by omega] at h
    exact h
  by_cases h5 : j < 96
  · have h := st_e5 (j - 80) (by omega)
    rw [show 80 + (j - 80) = j by omega] at h
    exact h
  by_cases h6 : j < 112
  · have h := st_e6 (j - 96) (by omega)
    rw [show 96 + (j - 96) = j by omega] at h
    exact h
  by_cases h7 : j < 128
  · have h := st_e7 (j - 112) (by omega)
    rw [show 112 + (j - 112) = j by omega] at h
    exact h
  have h := st_e8 (j - 128) (by omega)
  rw [show 128 + (j - 128) = j by omega] at h
  exact h

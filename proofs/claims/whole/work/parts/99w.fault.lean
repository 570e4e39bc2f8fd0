/-- fault, on both sides -/
theorem k_fault (x kd p : Int32) : mX12_fault x kd p = mX11_fault x kd p := by
  unfold mX12_fault mX11_fault
  rfl

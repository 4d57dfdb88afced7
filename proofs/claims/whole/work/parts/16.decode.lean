def ux_chk1 (q : ux_J) (m : ux_Ms) : Bool := ux_chkI m.2.1 0 q.1
set_option maxRecDepth 20000 in
theorem uxI_chk : ux_all2 ux_chk1 uxJ uxMs = true := by decide +kernel

set_option maxRecDepth 20000 in
theorem uxG_0 : ux_chkG uxL0 "UnitDesk" = true := by decide +kernel
set_option maxRecDepth 20000 in
theorem uxG_1 : ux_chkG uxL1 "UnitDesk$Compiler" = true := by decide +kernel
set_option maxRecDepth 20000 in
theorem uxG_2 : ux_chkG uxL2 "UnitDesk$Image" = true := by decide +kernel
set_option maxRecDepth 20000 in
theorem uxG_3 : ux_chkG uxL3 "UnitDesk$Machine" = true := by decide +kernel
set_option maxRecDepth 20000 in
theorem uxG_4 : ux_chkG uxL4 "UnitDesk$Shelf" = true := by decide +kernel
set_option maxRecDepth 20000 in
theorem uxG_5 : ux_chkG uxL5 "UnitDesk$Text" = true := by decide +kernel
set_option maxRecDepth 20000 in
theorem uxG_6 : ux_chkG uxL6 "UnitDesk$Unit" = true := by decide +kernel
set_option maxRecDepth 20000 in
theorem uxG_7 : ux_chkG uxL7 "UnitDeskModel" = true := by decide +kernel
set_option maxRecDepth 20000 in
theorem uxG_8 : ux_chkG uxL8 "UnitDesk$Signature" = true := by decide +kernel
set_option maxRecDepth 20000 in
theorem uxG_9 : ux_chkG uxL9 "UnitDeskLaw" = true := by decide +kernel

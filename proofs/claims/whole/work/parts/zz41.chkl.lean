/-! THE LAW'S ENTRIES HOLD -/
set_option maxRecDepth 100000 in
theorem mk_l0 : mo0_0.all (m_chk me0) = true := by decide +kernel
set_option maxRecDepth 100000 in
theorem mk_l1 : mo0_1.all (m_chk me0) = true := by decide +kernel
set_option maxRecDepth 100000 in
theorem mk_l2 : mo0_2.all (m_chk me0) = true := by decide +kernel
set_option maxRecDepth 100000 in
theorem mk_l3 : mo0_3.all (m_chk me0) = true := by decide +kernel
set_option maxRecDepth 100000 in
theorem mk_l4 : mo0_4.all (m_chk me0) = true := by decide +kernel
set_option maxRecDepth 100000 in
theorem mk_l5 : mo0_5.all (m_chk me0) = true := by decide +kernel
set_option maxRecDepth 100000 in
theorem mk_l6 : mo0_6.all (m_chk me0) = true := by decide +kernel
set_option maxRecDepth 100000 in
theorem mk_l7 : mo0_7.all (m_chk me0) = true := by decide +kernel
set_option maxRecDepth 100000 in
theorem mk_l8 : mo0_8.all (m_chk me0) = true := by decide +kernel
set_option maxRecDepth 100000 in
theorem mk_l9 : mo0_9.all (m_chk me0) = true := by decide +kernel
set_option maxRecDepth 100000 in
theorem mk_l10 : mo0_10.all (m_chk me0) = true := by decide +kernel
set_option maxRecDepth 100000 in
theorem mk_l11 : mo0_11.all (m_chk me0) = true := by decide +kernel
set_option maxRecDepth 100000 in
theorem mk_l12 : mo0_12.all (m_chk me0) = true := by decide +kernel
set_option maxRecDepth 100000 in
theorem mk_l13 : mo0_13.all (m_chk me0) = true := by decide +kernel
set_option maxRecDepth 100000 in
theorem mk_l14 : mo0_14.all (m_chk me0) = true := by decide +kernel
set_option maxRecDepth 100000 in
theorem mk_l15 : mo0_15.all (m_chk me0) = true := by decide +kernel
set_option maxRecDepth 100000 in
theorem mk_l16 : mo0_16.all (m_chk me0) = true := by decide +kernel
set_option maxRecDepth 100000 in
theorem mk_l17 : mo0_17.all (m_chk me0) = true := by decide +kernel
set_option maxRecDepth 100000 in
theorem mk_l18 : mo0_18.all (m_chk me0) = true := by decide +kernel
set_option maxRecDepth 100000 in
theorem mk_l19 : mo0_19.all (m_chk me0) = true := by decide +kernel
set_option maxRecDepth 100000 in
theorem mk_l20 : mo0_20.all (m_chk me0) = true := by decide +kernel
set_option maxRecDepth 100000 in
theorem mk_l21 : mo0_21.all (m_chk me0) = true := by decide +kernel
set_option maxRecDepth 100000 in
theorem mk_l22 : mo0_22.all (m_chk me0) = true := by decide +kernel
set_option maxRecDepth 100000 in
theorem mk_l23 : mo0_23.all (m_chk me0) = true := by decide +kernel
set_option maxRecDepth 100000 in
theorem mk_l24 : mo0_24.all (m_chk me0) = true := by decide +kernel
set_option maxRecDepth 100000 in
theorem mk_l25 : mo0_25.all (m_chk me0) = true := by decide +kernel
set_option maxRecDepth 100000 in
theorem mk_l26 : mo0_26.all (m_chk me0) = true := by decide +kernel
set_option maxRecDepth 100000 in
theorem mk_l27 : mo0_27.all (m_chk me0) = true := by decide +kernel
set_option maxRecDepth 100000 in
theorem mk_l28 : mo0_28.all (m_chk me0) = true := by decide +kernel

/-! THE ENTRIES HOLD, by the kernel (written by program: wip/whole/gen/chk.py) -/
theorem mk_c0 : m_chc "NoteHouse$Claims" mF0 565 136 [576, 578, 580, 582] = true := by decide +kernel
theorem mk_c1 : m_chc "NoteHouse$Houses" mF1 244 131 [284, 286, 288, 290, 292, 294, 296, 298, 300, 302, 304, 306, 308] = true := by decide +kernel
theorem mk_c2 : m_chc "NoteHouse$Land" mF2 226 130 [236, 238, 240] = true := by decide +kernel
theorem mk_c3 : m_chc "NoteHouse$Notes" mF3 444 135 [476, 478, 480, 482, 484, 486, 488, 490, 492, 494, 496, 498, 500] = true := by decide +kernel
theorem mk_c4 : m_chc "NoteHouse$Papers" mF4 312 132 [366, 368, 370, 372, 374, 376, 378, 380, 382, 384, 386, 388, 390, 392, 394, 396] = true := by decide +kernel
theorem mk_c5 : m_chc "NoteHouse$Reader" mF5 586 137 [607, 609, 611, 613, 615, 617, 619, 621, 623, 625, 627] = true := by decide +kernel
theorem mk_c6 : m_chc "NoteHouse$Records" mF6 155 127 [177, 179, 181, 183, 185, 187] = true := by decide +kernel
theorem mk_c7 : m_chc "NoteHouse$Seasons" mF7 434 134 [440] = true := by decide +kernel
theorem mk_c8 : m_chc "NoteHouse$Texts" mF8 192 128 [204, 206, 208, 210, 212, 214, 216] = true := by decide +kernel
theorem mk_c9 : m_chc "NoteHouse$Trades" mF9 401 133 [420, 422, 424, 426, 428, 430] = true := by decide +kernel
theorem mk_c10 : m_chc "NoteHouse$World" mF10 220 129 [532, 534, 536, 538, 540, 542, 544, 546, 548, 550, 552, 554, 556, 558, 560] = true := by decide +kernel
theorem mk_c11 : m_chc "NoteHouse" mF11 147 126 [642, 644, 646, 648, 650, 652, 654, 656, 658, 660, 662, 664] = true := by decide +kernel
theorem mk_c12 : m_chc "NoteHouseModel" mF12 1483 138 [1523, 1525, 1527, 1529, 1531, 1533, 1535, 1537, 1539, 1541, 1543, 1545, 1547, 1549, 1551, 1553, 1555, 1557, 1559, 1561, 1563, 1565, 1567, 1569, 1571, 1573, 1575, 1577, 1579, 1581, 1583] = true := by decide +kernel
noncomputable def mk_G0 : List (mMe × List (Nat × mOp)) := [(me1, mo1), (me2, mo2), (me3, mo3), (me4, mo4), (me5, mo5), (me6, mo6), (me7, mo7), (me8, mo8), (me9, mo9), (me10, mo10), (me11, mo11), (me12, mo12), (me13, mo13), (me14, mo14), (me15, mo15), (me16, mo16), (me17, mo17), (me18, mo18), (me19, mo19), (me20, mo20), (me21, mo21), (me22, mo22), (me23, mo23), (me24, mo24), (me25, mo25), (me26, mo26), (me27, mo27), (me28, mo28), (me29, mo29), (me30, mo30), (me31, mo31), (me32, mo32)]
set_option maxRecDepth 100000 in
theorem mk_g0 : mk_G0.all (fun p => p.2.all (m_chk p.1)) = true := by decide +kernel
noncomputable def mk_G1 : List (mMe × List (Nat × mOp)) := [(me33, mo33), (me34, mo34), (me35, mo35), (me36, mo36), (me37, mo37), (me38, mo38), (me39, mo39), (me40, mo40), (me41, mo41), (me42, mo42), (me43, mo43), (me44, mo44), (me45, mo45), (me46, mo46), (me47, mo47), (me48, mo48), (me49, mo49), (me50, mo50), (me51, mo51), (me52, mo52), (me53, mo53), (me54, mo54), (me55, mo55), (me56, mo56), (me57, mo57), (me58, mo58)]
set_option maxRecDepth 100000 in
theorem mk_g1 : mk_G1.all (fun p => p.2.all (m_chk p.1)) = true := by decide +kernel
noncomputable def mk_G2 : List (mMe × List (Nat × mOp)) := [(me59, mo59), (me60, mo60), (me61, mo61), (me62, mo62), (me63, mo63), (me64, mo64), (me65, mo65), (me66, mo66), (me67, mo67), (me68, mo68), (me69, mo69), (me70, mo70), (me71, mo71), (me72, mo72), (me73, mo73), (me74, mo74), (me75, mo75), (me76, mo76), (me77, mo77), (me78, mo78), (me79, mo79), (me80, mo80), (me81, mo81), (me82, mo82), (me83, mo83), (me84, mo84), (me85, mo85), (me86, mo86)]
set_option maxRecDepth 100000 in
theorem mk_g2 : mk_G2.all (fun p => p.2.all (m_chk p.1)) = true := by decide +kernel
noncomputable def mk_G3 : List (mMe × List (Nat × mOp)) := [(me87, mo87), (me88, mo88), (me89, mo89), (me90, mo90), (me91, mo91), (me92, mo92), (me93, mo93), (me94, mo94), (me95, mo95), (me96, mo96), (me97, mo97), (me98, mo98), (me99, mo99), (me100, mo100), (me101, mo101), (me102, mo102), (me103, mo103), (me104, mo104), (me105, mo105), (me106, mo106), (me107, mo107), (me108, mo108), (me109, mo109), (me110, mo110), (me111, mo111), (me112, mo112), (me113, mo113), (me114, mo114), (me115, mo115), (me116, mo116), (me117, mo117), (me118, mo118), (me119, mo119), (me120, mo120), (me121, mo121)]
set_option maxRecDepth 100000 in
theorem mk_g3 : mk_G3.all (fun p => p.2.all (m_chk p.1)) = true := by decide +kernel
noncomputable def mk_G4 : List (mMe × List (Nat × mOp)) := [(me122, mo122), (me123, mo123), (me124, mo124), (me125, mo125), (me126, mo126), (me127, mo127), (me128, mo128), (me129, mo129), (me130, mo130), (me131, mo131), (me132, mo132), (me133, mo133), (me134, mo134), (me135, mo135), (me136, mo136), (me137, mo137), (me138, mo138), (me139, mo139), (me140, mo140), (me141, mo141), (me142, mo142), (me143, mo143), (me144, mo144), (me145, mo145), (me146, mo146), (me147, mo147), (me148, mo148), (me149, mo149), (me150, mo150), (me151, mo151), (me152, mo152)]
set_option maxRecDepth 100000 in
theorem mk_g4 : mk_G4.all (fun p => p.2.all (m_chk p.1)) = true := by decide +kernel
noncomputable def mk_G5 : List (mMe × List (Nat × mOp)) := [(me153, mo153), (me154, mo154), (me155, mo155), (me156, mo156), (me157, mo157), (me158, mo158), (me159, mo159), (me160, mo160), (me161, mo161), (me162, mo162), (me163, mo163), (me164, mo164), (me165, mo165), (me166, mo166), (me167, mo167), (me168, mo168), (me169, mo169), (me170, mo170), (me171, mo171), (me172, mo172), (me173, mo173), (me174, mo174), (me175, mo175), (me176, mo176), (me177, mo177), (me178, mo178), (me179, mo179), (me180, mo180)]
set_option maxRecDepth 100000 in
theorem mk_g5 : mk_G5.all (fun p => p.2.all (m_chk p.1)) = true := by decide +kernel
noncomputable def mk_G6 : List (mMe × List (Nat × mOp)) := [(me181, mo181), (me182, mo182), (me183, mo183), (me184, mo184), (me185, mo185), (me186, mo186), (me187, mo187), (me188, mo188), (me189, mo189), (me190, mo190), (me191, mo191), (me192, mo192), (me193, mo193), (me194, mo194), (me195, mo195), (me196, mo196), (me197, mo197), (me198, mo198), (me199, mo199), (me200, mo200), (me201, mo201), (me202, mo202), (me203, mo203), (me204, mo204), (me205, mo205), (me206, mo206), (me207, mo207)]
set_option maxRecDepth 100000 in
theorem mk_g6 : mk_G6.all (fun p => p.2.all (m_chk p.1)) = true := by decide +kernel
noncomputable def mk_G7 : List (mMe × List (Nat × mOp)) := [(me208, mo208), (me209, mo209), (me210, mo210), (me211, mo211), (me212, mo212), (me213, mo213), (me214, mo214), (me215, mo215), (me216, mo216), (me217, mo217), (me218, mo218), (me219, mo219), (me220, mo220), (me221, mo221), (me222, mo222), (me223, mo223), (me224, mo224), (me225, mo225), (me226, mo226), (me227, mo227), (me228, mo228), (me229, mo229), (me230, mo230), (me231, mo231), (me232, mo232), (me233, mo233), (me234, mo234), (me235, mo235), (me236, mo236)]
set_option maxRecDepth 100000 in
theorem mk_g7 : mk_G7.all (fun p => p.2.all (m_chk p.1)) = true := by decide +kernel
noncomputable def mk_G8 : List (mMe × List (Nat × mOp)) := [(me237, mo237), (me238, mo238), (me239, mo239), (me240, mo240), (me241, mo241), (me242, mo242), (me243, mo243), (me244, mo244), (me245, mo245), (me246, mo246), (me247, mo247), (me248, mo248), (me249, mo249), (me250, mo250), (me251, mo251), (me252, mo252), (me253, mo253), (me254, mo254), (me255, mo255), (me256, mo256)]
set_option maxRecDepth 100000 in
theorem mk_g8 : mk_G8.all (fun p => p.2.all (m_chk p.1)) = true := by decide +kernel
noncomputable def mk_G9 : List (mMe × List (Nat × mOp)) := [(me257, mo257), (me258, mo258), (me259, mo259), (me260, mo260), (me261, mo261), (me262, mo262), (me263, mo263), (me264, mo264), (me265, mo265), (me266, mo266), (me267, mo267), (me268, mo268), (me269, mo269), (me270, mo270), (me271, mo271), (me272, mo272), (me273, mo273), (me274, mo274), (me275, mo275), (me276, mo276), (me277, mo277), (me278, mo278), (me279, mo279), (me280, mo280), (me281, mo281)]
set_option maxRecDepth 100000 in
theorem mk_g9 : mk_G9.all (fun p => p.2.all (m_chk p.1)) = true := by decide +kernel
noncomputable def mk_G10 : List (mMe × List (Nat × mOp)) := [(me282, mo282), (me283, mo283), (me284, mo284), (me285, mo285), (me286, mo286), (me287, mo287), (me288, mo288), (me289, mo289), (me290, mo290), (me291, mo291), (me292, mo292), (me293, mo293), (me294, mo294), (me295, mo295), (me296, mo296), (me297, mo297), (me298, mo298), (me299, mo299), (me300, mo300), (me301, mo301), (me302, mo302), (me303, mo303), (me304, mo304), (me305, mo305), (me306, mo306), (me307, mo307)]
set_option maxRecDepth 100000 in
theorem mk_g10 : mk_G10.all (fun p => p.2.all (m_chk p.1)) = true := by decide +kernel
noncomputable def mk_G11 : List (mMe × List (Nat × mOp)) := [(me308, mo308), (me309, mo309), (me310, mo310), (me311, mo311), (me312, mo312), (me313, mo313), (me314, mo314), (me315, mo315), (me316, mo316), (me317, mo317), (me318, mo318), (me319, mo319), (me320, mo320), (me321, mo321), (me322, mo322), (me323, mo323), (me324, mo324)]
set_option maxRecDepth 100000 in
theorem mk_g11 : mk_G11.all (fun p => p.2.all (m_chk p.1)) = true := by decide +kernel
noncomputable def mk_G12 : List (mMe × List (Nat × mOp)) := [(me325, mo325), (me326, mo326), (me327, mo327), (me328, mo328), (me329, mo329), (me330, mo330), (me331, mo331), (me332, mo332), (me333, mo333), (me334, mo334), (me335, mo335), (me336, mo336), (me337, mo337), (me338, mo338), (me339, mo339), (me340, mo340)]
set_option maxRecDepth 100000 in
theorem mk_g12 : mk_G12.all (fun p => p.2.all (m_chk p.1)) = true := by decide +kernel

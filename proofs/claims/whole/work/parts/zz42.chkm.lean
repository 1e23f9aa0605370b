/-! THE METHODS' WORDS HOLD -/
set_option maxRecDepth 100000 in
theorem mk_m0 : [me1, me2, me3, me4, me5].all m_chm = true := by decide +kernel
set_option maxRecDepth 100000 in
theorem mk_m1 : [me6, me7, me8, me9, me10].all m_chm = true := by decide +kernel
set_option maxRecDepth 100000 in
theorem mk_m2 : [me11, me12, me13, me14, me15].all m_chm = true := by decide +kernel
set_option maxRecDepth 100000 in
theorem mk_m3 : [me16, me17, me18, me19, me20].all m_chm = true := by decide +kernel
set_option maxRecDepth 100000 in
theorem mk_m4 : [me21, me22, me23, me24, me25].all m_chm = true := by decide +kernel
set_option maxRecDepth 100000 in
theorem mk_m5 : [me26, me27, me28, me29, me30].all m_chm = true := by decide +kernel
set_option maxRecDepth 100000 in
theorem mk_m6 : [me31, me32, me33, me34, me35].all m_chm = true := by decide +kernel
set_option maxRecDepth 100000 in
theorem mk_m7 : [me36, me37, me38, me39, me40].all m_chm = true := by decide +kernel
set_option maxRecDepth 100000 in
theorem mk_m8 : [me41, me42, me43, me44, me45].all m_chm = true := by decide +kernel
set_option maxRecDepth 100000 in
theorem mk_m9 : [me46, me47, me48, me49, me50].all m_chm = true := by decide +kernel
set_option maxRecDepth 100000 in
theorem mk_m10 : [me51, me52, me53, me54, me55].all m_chm = true := by decide +kernel
set_option maxRecDepth 100000 in
theorem mk_m11 : [me56, me57, me58, me59, me60].all m_chm = true := by decide +kernel
set_option maxRecDepth 100000 in
theorem mk_m12 : [me61, me62, me63, me64, me65].all m_chm = true := by decide +kernel
set_option maxRecDepth 100000 in
theorem mk_m13 : [me66, me67, me68, me69, me70].all m_chm = true := by decide +kernel
set_option maxRecDepth 100000 in
theorem mk_m14 : [me71, me72, me73, me74, me75].all m_chm = true := by decide +kernel
set_option maxRecDepth 100000 in
theorem mk_m15 : [me76, me77, me78, me79, me80].all m_chm = true := by decide +kernel
set_option maxRecDepth 100000 in
theorem mk_m16 : [me81, me82, me83, me84, me85].all m_chm = true := by decide +kernel
set_option maxRecDepth 100000 in
theorem mk_m17 : [me86, me87, me88, me89, me90].all m_chm = true := by decide +kernel
set_option maxRecDepth 100000 in
theorem mk_m18 : [me91, me92, me93, me94, me95].all m_chm = true := by decide +kernel
set_option maxRecDepth 100000 in
theorem mk_m19 : [me96, me97, me98, me99, me100].all m_chm = true := by decide +kernel
set_option maxRecDepth 100000 in
theorem mk_m20 : [me101, me102, me103, me104, me105].all m_chm = true := by decide +kernel
set_option maxRecDepth 100000 in
theorem mk_m21 : [me106, me107, me108, me109, me110].all m_chm = true := by decide +kernel
set_option maxRecDepth 100000 in
theorem mk_m22 : [me111, me112, me113, me114, me115].all m_chm = true := by decide +kernel
set_option maxRecDepth 100000 in
theorem mk_m23 : [me116, me117, me118, me119, me120].all m_chm = true := by decide +kernel
set_option maxRecDepth 100000 in
theorem mk_m24 : [me121, me122, me123, me124, me125].all m_chm = true := by decide +kernel
set_option maxRecDepth 100000 in
theorem mk_m25 : [me126, me127, me128, me129, me130].all m_chm = true := by decide +kernel
set_option maxRecDepth 100000 in
theorem mk_m26 : [me131, me132, me133, me134, me135].all m_chm = true := by decide +kernel
set_option maxRecDepth 100000 in
theorem mk_m27 : [me136, me137, me138, me139, me140].all m_chm = true := by decide +kernel
set_option maxRecDepth 100000 in
theorem mk_m28 : [me141, me142, me143, me144, me145].all m_chm = true := by decide +kernel
set_option maxRecDepth 100000 in
theorem mk_m29 : [me146, me147, me148, me149, me150].all m_chm = true := by decide +kernel
set_option maxRecDepth 100000 in
theorem mk_m30 : [me151, me152, me153, me154, me155].all m_chm = true := by decide +kernel
set_option maxRecDepth 100000 in
theorem mk_m31 : [me156, me157, me158, me159, me160].all m_chm = true := by decide +kernel
set_option maxRecDepth 100000 in
theorem mk_m32 : [me161, me162, me163, me164, me165].all m_chm = true := by decide +kernel
set_option maxRecDepth 100000 in
theorem mk_m33 : [me166, me167, me168, me169, me170].all m_chm = true := by decide +kernel
set_option maxRecDepth 100000 in
theorem mk_m34 : [me171, me172, me173, me174, me175].all m_chm = true := by decide +kernel
set_option maxRecDepth 100000 in
theorem mk_m35 : [me176, me177, me178, me179, me180].all m_chm = true := by decide +kernel
set_option maxRecDepth 100000 in
theorem mk_m36 : [me181, me182, me183, me184, me185].all m_chm = true := by decide +kernel
set_option maxRecDepth 100000 in
theorem mk_m37 : [me186, me187, me188, me189, me190].all m_chm = true := by decide +kernel
set_option maxRecDepth 100000 in
theorem mk_m38 : [me191, me192, me193, me194, me195].all m_chm = true := by decide +kernel
set_option maxRecDepth 100000 in
theorem mk_m39 : [me196, me197, me198, me199, me200].all m_chm = true := by decide +kernel
set_option maxRecDepth 100000 in
theorem mk_m40 : [me201, me202, me203, me204, me205].all m_chm = true := by decide +kernel
set_option maxRecDepth 100000 in
theorem mk_m41 : [me206, me207, me208, me209, me210].all m_chm = true := by decide +kernel
set_option maxRecDepth 100000 in
theorem mk_m42 : [me211, me212, me213, me214, me215].all m_chm = true := by decide +kernel
set_option maxRecDepth 100000 in
theorem mk_m43 : [me216, me217, me218, me219, me220].all m_chm = true := by decide +kernel
set_option maxRecDepth 100000 in
theorem mk_m44 : [me221, me222, me223, me224, me225].all m_chm = true := by decide +kernel
set_option maxRecDepth 100000 in
theorem mk_m45 : [me226, me227, me228, me229, me230].all m_chm = true := by decide +kernel
set_option maxRecDepth 100000 in
theorem mk_m46 : [me231, me232, me233, me234, me235].all m_chm = true := by decide +kernel
set_option maxRecDepth 100000 in
theorem mk_m47 : [me236, me237, me238, me239, me240].all m_chm = true := by decide +kernel
set_option maxRecDepth 100000 in
theorem mk_m48 : [me241, me242, me243, me244, me245].all m_chm = true := by decide +kernel
set_option maxRecDepth 100000 in
theorem mk_m49 : [me246, me247, me248, me249, me250].all m_chm = true := by decide +kernel
set_option maxRecDepth 100000 in
theorem mk_m50 : [me251, me252, me253, me254, me255].all m_chm = true := by decide +kernel
set_option maxRecDepth 100000 in
theorem mk_m51 : [me256, me257, me258, me259, me260].all m_chm = true := by decide +kernel
set_option maxRecDepth 100000 in
theorem mk_m52 : [me261, me262, me263, me264, me265].all m_chm = true := by decide +kernel
set_option maxRecDepth 100000 in
theorem mk_m53 : [me266, me267, me268, me269, me270].all m_chm = true := by decide +kernel
set_option maxRecDepth 100000 in
theorem mk_m54 : [me271, me272, me273, me274, me275].all m_chm = true := by decide +kernel
set_option maxRecDepth 100000 in
theorem mk_m55 : [me276, me277, me278, me279, me280].all m_chm = true := by decide +kernel
set_option maxRecDepth 100000 in
theorem mk_m56 : [me281, me282, me283, me284, me285].all m_chm = true := by decide +kernel
set_option maxRecDepth 100000 in
theorem mk_m57 : [me286, me287, me288, me289, me290].all m_chm = true := by decide +kernel
set_option maxRecDepth 100000 in
theorem mk_m58 : [me291, me292, me293, me294, me295].all m_chm = true := by decide +kernel
set_option maxRecDepth 100000 in
theorem mk_m59 : [me296, me297, me298, me299, me300].all m_chm = true := by decide +kernel
set_option maxRecDepth 100000 in
theorem mk_m60 : [me301, me302, me303, me304, me305].all m_chm = true := by decide +kernel
set_option maxRecDepth 100000 in
theorem mk_m61 : [me306, me307, me308, me309, me310].all m_chm = true := by decide +kernel
set_option maxRecDepth 100000 in
theorem mk_m62 : [me311, me312, me313, me314, me315].all m_chm = true := by decide +kernel
set_option maxRecDepth 100000 in
theorem mk_m63 : [me316, me317, me318, me319, me320].all m_chm = true := by decide +kernel
set_option maxRecDepth 100000 in
theorem mk_m64 : [me321, me322, me323, me324, me325].all m_chm = true := by decide +kernel
set_option maxRecDepth 100000 in
theorem mk_m65 : [me326, me327, me328, me329, me330].all m_chm = true := by decide +kernel
set_option maxRecDepth 100000 in
theorem mk_m66 : [me331, me332, me333, me334, me335].all m_chm = true := by decide +kernel
set_option maxRecDepth 100000 in
theorem mk_m67 : [me336, me337, me338, me339, me340].all m_chm = true := by decide +kernel

/-! WHAT THE SIMULATION ASKS OF THE TABLES -/
set_option maxRecDepth 100000 in
theorem mk_zip : mMT.zip mOT = (me0, mo0) :: (mk_G0 ++ (mk_G1 ++ (mk_G2 ++ (mk_G3 ++ (mk_G4 ++ (mk_G5 ++ (mk_G6 ++ (mk_G7 ++ (mk_G8 ++ (mk_G9 ++ (mk_G10 ++ (mk_G11 ++ (mk_G12))))))))))))) := rfl
theorem mk_law : mo0.all (m_chk me0) = true := by
  show (mo0_0 ++ (mo0_1 ++ (mo0_2 ++ (mo0_3 ++ (mo0_4 ++ (mo0_5 ++ (mo0_6 ++ (mo0_7 ++ (mo0_8 ++ (mo0_9 ++ (mo0_10 ++ (mo0_11 ++ (mo0_12 ++ (mo0_13 ++ (mo0_14 ++ (mo0_15 ++ (mo0_16 ++ (mo0_17 ++ (mo0_18 ++ (mo0_19 ++ (mo0_20 ++ (mo0_21 ++ (mo0_22 ++ (mo0_23 ++ (mo0_24 ++ (mo0_25 ++ (mo0_26 ++ (mo0_27 ++ (mo0_28))))))))))))))))))))))))))))).all (m_chk me0) = true
  simp only [List.all_append, mk_l0, mk_l1, mk_l2, mk_l3, mk_l4, mk_l5, mk_l6, mk_l7, mk_l8, mk_l9, mk_l10, mk_l11, mk_l12, mk_l13, mk_l14, mk_l15, mk_l16, mk_l17, mk_l18, mk_l19, mk_l20, mk_l21, mk_l22, mk_l23, mk_l24, mk_l25, mk_l26, mk_l27, mk_l28, Bool.and_self]
theorem mk_all : (mMT.zip mOT).all (fun p => p.2.all (m_chk p.1)) = true := by
  rw [mk_zip]
  simp only [List.all_cons, List.all_append, mk_law, mk_g0, mk_g1, mk_g2, mk_g3, mk_g4, mk_g5, mk_g6, mk_g7, mk_g8, mk_g9, mk_g10, mk_g11, mk_g12, Bool.and_self]
theorem m_fnd_mem : ∀ (l : List (Nat × mOp)) (pc : Nat) (op : mOp), m_fnd l pc = some op → (pc, op) ∈ l
  | [], _, _, h => by cases h
  | (q, x) :: l, pc, op, h => by
    unfold m_fnd at h
    split at h
    · rename_i e
      cases h
      rw [e]
      exact List.mem_cons_self
    · exact List.mem_cons_of_mem _ (m_fnd_mem l pc op h)
theorem mh_HO : m_HO := by
  intro mi me pc op hme hop
  unfold m_op at hop
  have hmem := m_fnd_mem _ _ _ hop
  rw [List.getD_eq_getElem?_getD] at hmem
  cases hmo : mOT[mi]? with
  | none => rw [hmo] at hmem; cases hmem
  | some mo =>
    rw [hmo] at hmem
    have hz : (mMT.zip mOT)[mi]? = some (me, mo) := by rw [List.getElem?_zip_eq_some]; exact ⟨hme, hmo⟩
    have h1 := List.all_eq_true.mp mk_all _ (List.mem_of_getElem? hz)
    exact List.all_eq_true.mp h1 _ hmem
set_option maxRecDepth 100000 in
theorem mk_split : mMT = me0 :: ([me1, me2, me3, me4, me5] ++ ([me6, me7, me8, me9, me10] ++ ([me11, me12, me13, me14, me15] ++ ([me16, me17, me18, me19, me20] ++ ([me21, me22, me23, me24, me25] ++ ([me26, me27, me28, me29, me30] ++ ([me31, me32, me33, me34, me35] ++ ([me36, me37, me38, me39, me40] ++ ([me41, me42, me43, me44, me45] ++ ([me46, me47, me48, me49, me50] ++ ([me51, me52, me53, me54, me55] ++ ([me56, me57, me58, me59, me60] ++ ([me61, me62, me63, me64, me65] ++ ([me66, me67, me68, me69, me70] ++ ([me71, me72, me73, me74, me75] ++ ([me76, me77, me78, me79, me80] ++ ([me81, me82, me83, me84, me85] ++ ([me86, me87, me88, me89, me90] ++ ([me91, me92, me93, me94, me95] ++ ([me96, me97, me98, me99, me100] ++ ([me101, me102, me103, me104, me105] ++ ([me106, me107, me108, me109, me110] ++ ([me111, me112, me113, me114, me115] ++ ([me116, me117, me118, me119, me120] ++ ([me121, me122, me123, me124, me125] ++ ([me126, me127, me128, me129, me130] ++ ([me131, me132, me133, me134, me135] ++ ([me136, me137, me138, me139, me140] ++ ([me141, me142, me143, me144, me145] ++ ([me146, me147, me148, me149, me150] ++ ([me151, me152, me153, me154, me155] ++ ([me156, me157, me158, me159, me160] ++ ([me161, me162, me163, me164, me165] ++ ([me166, me167, me168, me169, me170] ++ ([me171, me172, me173, me174, me175] ++ ([me176, me177, me178, me179, me180] ++ ([me181, me182, me183, me184, me185] ++ ([me186, me187, me188, me189, me190] ++ ([me191, me192, me193, me194, me195] ++ ([me196, me197, me198, me199, me200] ++ ([me201, me202, me203, me204, me205] ++ ([me206, me207, me208, me209, me210] ++ ([me211, me212, me213, me214, me215] ++ ([me216, me217, me218, me219, me220] ++ ([me221, me222, me223, me224, me225] ++ ([me226, me227, me228, me229, me230] ++ ([me231, me232, me233, me234, me235] ++ ([me236, me237, me238, me239, me240] ++ ([me241, me242, me243, me244, me245] ++ ([me246, me247, me248, me249, me250] ++ ([me251, me252, me253, me254, me255] ++ ([me256, me257, me258, me259, me260] ++ ([me261, me262, me263, me264, me265] ++ ([me266, me267, me268, me269, me270] ++ ([me271, me272, me273, me274, me275] ++ ([me276, me277, me278, me279, me280] ++ ([me281, me282, me283, me284, me285] ++ ([me286, me287, me288, me289, me290] ++ ([me291, me292, me293, me294, me295] ++ ([me296, me297, me298, me299, me300] ++ ([me301, me302, me303, me304, me305] ++ ([me306, me307, me308, me309, me310] ++ ([me311, me312, me313, me314, me315] ++ ([me316, me317, me318, me319, me320] ++ ([me321, me322, me323, me324, me325] ++ ([me326, me327, me328, me329, me330] ++ ([me331, me332, me333, me334, me335] ++ ([me336, me337, me338, me339, me340])))))))))))))))))))))))))))))))))))))))))))))))))))))))))))))))))))) := rfl
theorem mh_HM : m_HM := by
  intro a me hme ha
  have hall : ([me1, me2, me3, me4, me5] ++ ([me6, me7, me8, me9, me10] ++ ([me11, me12, me13, me14, me15] ++ ([me16, me17, me18, me19, me20] ++ ([me21, me22, me23, me24, me25] ++ ([me26, me27, me28, me29, me30] ++ ([me31, me32, me33, me34, me35] ++ ([me36, me37, me38, me39, me40] ++ ([me41, me42, me43, me44, me45] ++ ([me46, me47, me48, me49, me50] ++ ([me51, me52, me53, me54, me55] ++ ([me56, me57, me58, me59, me60] ++ ([me61, me62, me63, me64, me65] ++ ([me66, me67, me68, me69, me70] ++ ([me71, me72, me73, me74, me75] ++ ([me76, me77, me78, me79, me80] ++ ([me81, me82, me83, me84, me85] ++ ([me86, me87, me88, me89, me90] ++ ([me91, me92, me93, me94, me95] ++ ([me96, me97, me98, me99, me100] ++ ([me101, me102, me103, me104, me105] ++ ([me106, me107, me108, me109, me110] ++ ([me111, me112, me113, me114, me115] ++ ([me116, me117, me118, me119, me120] ++ ([me121, me122, me123, me124, me125] ++ ([me126, me127, me128, me129, me130] ++ ([me131, me132, me133, me134, me135] ++ ([me136, me137, me138, me139, me140] ++ ([me141, me142, me143, me144, me145] ++ ([me146, me147, me148, me149, me150] ++ ([me151, me152, me153, me154, me155] ++ ([me156, me157, me158, me159, me160] ++ ([me161, me162, me163, me164, me165] ++ ([me166, me167, me168, me169, me170] ++ ([me171, me172, me173, me174, me175] ++ ([me176, me177, me178, me179, me180] ++ ([me181, me182, me183, me184, me185] ++ ([me186, me187, me188, me189, me190] ++ ([me191, me192, me193, me194, me195] ++ ([me196, me197, me198, me199, me200] ++ ([me201, me202, me203, me204, me205] ++ ([me206, me207, me208, me209, me210] ++ ([me211, me212, me213, me214, me215] ++ ([me216, me217, me218, me219, me220] ++ ([me221, me222, me223, me224, me225] ++ ([me226, me227, me228, me229, me230] ++ ([me231, me232, me233, me234, me235] ++ ([me236, me237, me238, me239, me240] ++ ([me241, me242, me243, me244, me245] ++ ([me246, me247, me248, me249, me250] ++ ([me251, me252, me253, me254, me255] ++ ([me256, me257, me258, me259, me260] ++ ([me261, me262, me263, me264, me265] ++ ([me266, me267, me268, me269, me270] ++ ([me271, me272, me273, me274, me275] ++ ([me276, me277, me278, me279, me280] ++ ([me281, me282, me283, me284, me285] ++ ([me286, me287, me288, me289, me290] ++ ([me291, me292, me293, me294, me295] ++ ([me296, me297, me298, me299, me300] ++ ([me301, me302, me303, me304, me305] ++ ([me306, me307, me308, me309, me310] ++ ([me311, me312, me313, me314, me315] ++ ([me316, me317, me318, me319, me320] ++ ([me321, me322, me323, me324, me325] ++ ([me326, me327, me328, me329, me330] ++ ([me331, me332, me333, me334, me335] ++ ([me336, me337, me338, me339, me340])))))))))))))))))))))))))))))))))))))))))))))))))))))))))))))))))))).all m_chm = true := by
    simp only [List.all_append, mk_m0, mk_m1, mk_m2, mk_m3, mk_m4, mk_m5, mk_m6, mk_m7, mk_m8, mk_m9, mk_m10, mk_m11, mk_m12, mk_m13, mk_m14, mk_m15, mk_m16, mk_m17, mk_m18, mk_m19, mk_m20, mk_m21, mk_m22, mk_m23, mk_m24, mk_m25, mk_m26, mk_m27, mk_m28, mk_m29, mk_m30, mk_m31, mk_m32, mk_m33, mk_m34, mk_m35, mk_m36, mk_m37, mk_m38, mk_m39, mk_m40, mk_m41, mk_m42, mk_m43, mk_m44, mk_m45, mk_m46, mk_m47, mk_m48, mk_m49, mk_m50, mk_m51, mk_m52, mk_m53, mk_m54, mk_m55, mk_m56, mk_m57, mk_m58, mk_m59, mk_m60, mk_m61, mk_m62, mk_m63, mk_m64, mk_m65, mk_m66, mk_m67, Bool.and_self]
  rw [mk_split] at hme
  cases a with
  | zero => exact absurd rfl ha
  | succ a =>
    rw [List.getElem?_cons_succ] at hme
    exact List.all_eq_true.mp hall _ (List.mem_of_getElem? hme)
theorem mh_HA : Cond.arrayOver (.object "NoteHouse$World") ∈ lw_tbl := List.mem_of_getElem? (i := 563) (by decide +kernel)
theorem mh_HW : m_HW := by
  intro w hw
  rcases List.mem_cons.mp hw with rfl | hw
  · exact mc_w_of (q := 152) (by decide +kernel)
  rcases List.mem_cons.mp hw with rfl | hw
  · exact mc_w_of (q := 153) (by decide +kernel)
  rcases List.mem_cons.mp hw with rfl | hw
  · exact mc_w_of (q := 1231) (by decide +kernel)
  rcases List.mem_cons.mp hw with rfl | hw
  · exact mc_w_of (q := 1230) (by decide +kernel)
  rcases List.mem_cons.mp hw with rfl | hw
  · exact mc_w_of (q := 144) (by decide +kernel)
  · cases hw
theorem mh_cls {Cn : String} {fl : mFl} {q1 q2 : Nat} {qs : List Nat} (h : m_chc Cn fl q1 q2 qs = true) (h2 : (List.range fl.length).all (fun a => (List.range fl.length).all (fun b => decide (a = b) || decide ((m_T fl a).2.1 ≠ (m_T fl b).2.1))) = true) (h3 : (List.range fl.length).all (fun k => m_okf (m_T fl k).2.2.1) = true) (h4 : (List.range fl.length).all (fun a => (List.range fl.length).all (fun b => !(decide (m_fki (m_T fl a).2.2.1 = 2) && decide (m_fki (m_T fl b).2.2.1 = 2)) || decide (a = b))) = true) :
    (∀ w ∈ u_ws Cn (m_T fl) fl.length, w ∈ lw_tbl ∧ goodWord w = true) ∧ (∀ a, a < fl.length → ∀ b, b < fl.length → a ≠ b → (m_T fl a).2.1 ≠ (m_T fl b).2.1) ∧
  (Cond.instantiable Cn fl.length ∈ lw_tbl ∧ goodWord (Cond.instantiable Cn fl.length) = true) ∧ (Cond.initialized Cn ∈ lw_tbl ∧ goodWord (Cond.initialized Cn) = true) ∧ (∀ k, k < fl.length → m_okf (m_T fl k).2.2.1 = true) ∧ (∀ i j, i < fl.length → j < fl.length → m_fki (m_T fl i).2.2.1 = 2 → m_fki (m_T fl j).2.2.1 = 2 → i = j) := by
  simp only [m_chc, Bool.and_eq_true, decide_eq_true_eq] at h
  obtain ⟨⟨⟨g1, g2⟩, g3⟩, g4⟩ := h
  refine ⟨fun w hw => ?_, fun a ha b hb hab => ?_, mc_w_of g1, mc_w_of g2, fun k hk => List.all_eq_true.mp h3 k (List.mem_range.mpr hk), fun i j hi hj e1 e2 => ?_⟩
  · obtain ⟨k, hk, rfl⟩ := List.mem_map.mp hw
    have hk := List.mem_range.mp hk
    have h5 := List.all_eq_true.mp g4 k (List.mem_range.mpr hk)
    have hfk : fl[k]? = some fl[k] := List.getElem?_eq_getElem hk
    have hqk : qs[k]? = some (qs[k]'(by omega)) := List.getElem?_eq_getElem (by omega)
    rw [hfk, hqk] at h5
    have h6 := mc_w_of h5
    unfold u_lay
    rw [(m_T_of hfk).1]
    exact h6
  · have h5 := List.all_eq_true.mp (List.all_eq_true.mp h2 a (List.mem_range.mpr ha)) b (List.mem_range.mpr hb)
    simp only [Bool.or_eq_true, decide_eq_true_eq] at h5
    exact h5.resolve_left hab
  · have h5 := List.all_eq_true.mp (List.all_eq_true.mp h4 i (List.mem_range.mpr hi)) j (List.mem_range.mpr hj)
    simp only [Bool.or_eq_true, Bool.not_eq_true', Bool.and_eq_false_iff, decide_eq_false_iff_not, decide_eq_true_eq] at h5
    rcases h5 with (h5 | h5) | h5
    · exact absurd e1 h5
    · exact absurd e2 h5
    · exact h5
theorem mh_HC : m_HC := by
  intro ci Cn fl h
  have hlt := m_CF_lt h
  match ci, hlt, h with
  | 0, _, h => cases h; exact mh_cls mk_c0 (by decide +kernel) (by decide +kernel) (by decide +kernel)
  | 1, _, h => cases h; exact mh_cls mk_c1 (by decide +kernel) (by decide +kernel) (by decide +kernel)
  | 2, _, h => cases h; exact mh_cls mk_c2 (by decide +kernel) (by decide +kernel) (by decide +kernel)
  | 3, _, h => cases h; exact mh_cls mk_c3 (by decide +kernel) (by decide +kernel) (by decide +kernel)
  | 4, _, h => cases h; exact mh_cls mk_c4 (by decide +kernel) (by decide +kernel) (by decide +kernel)
  | 5, _, h => cases h; exact mh_cls mk_c5 (by decide +kernel) (by decide +kernel) (by decide +kernel)
  | 6, _, h => cases h; exact mh_cls mk_c6 (by decide +kernel) (by decide +kernel) (by decide +kernel)
  | 7, _, h => cases h; exact mh_cls mk_c7 (by decide +kernel) (by decide +kernel) (by decide +kernel)
  | 8, _, h => cases h; exact mh_cls mk_c8 (by decide +kernel) (by decide +kernel) (by decide +kernel)
  | 9, _, h => cases h; exact mh_cls mk_c9 (by decide +kernel) (by decide +kernel) (by decide +kernel)
  | 10, _, h => cases h; exact mh_cls mk_c10 (by decide +kernel) (by decide +kernel) (by decide +kernel)
  | 11, _, h => cases h; exact mh_cls mk_c11 (by decide +kernel) (by decide +kernel) (by decide +kernel)
  | 12, _, h => cases h; exact mh_cls mk_c12 (by decide +kernel) (by decide +kernel) (by decide +kernel)
  | n + 13, hlt, _ => exact absurd hlt (by omega)

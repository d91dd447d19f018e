/-! ===== the law: one small machine over both pictures ===== -/
abbrev lS : Type := xS × rf_M
def lw_hk (L : Nat) (xs : Nat → Int32) : mH lS := fun ins st s a b k => match ins with
  | .arraylength => (match st with
    | .inr (some 50) :: st' => k (.inl (nI L) :: st') s a b
    | _ => False)
  | .iaload => (match st with
    | .inl i :: .inr (some 50) :: st' => vp_in i L ∧ k (.inl (xs i.toNatClampNeg) :: st') s a b
    | _ => False)
  | _ => False
theorem lw_hk_mono (L : Nat) (xs : Nat → Int32) : mH_mono (lw_hk L xs) := by
  intro ins st s a b k k' h h1
  unfold lw_hk at *
  split at h1
  · split at h1
    · exact h _ _ _ _ h1
    · exact h1.elim
  · split at h1
    · exact ⟨h1.1, h _ _ _ _ h1.2⟩
    · exact h1.elim
  · exact h1.elim
/-- a call of the class, a call of the reference -/
def lw_PX (P : mP xS) : mP lS := fun as s mc ms ret => ∃ (is : List Int32) (Q1 : Int32 → xS → Prop), as = .inr (some 0) :: is.map .inl ∧ P as s.1 mc ms (mI Q1) ∧ ∀ v σ', Q1 v σ' → ret (some (.inl v)) (σ', s.2)
def lw_PM (P : mP rf_M) : mP lS := fun as s mc ms ret => ∃ (is : List Int32) (Q1 : Int32 → rf_M → Prop), as = .inr (some 39) :: is.map .inl ∧ P as s.2 mc ms (mI Q1) ∧ ∀ v μ', Q1 v μ' → ret (some (.inl v)) (s.1, μ')
def cd_law : mC := [(18, .iload_n 3, 1), (19, .aload_n 0, 1), (20, .arraylength, 1), (21, .iconst 5, 1), (22, .isub, 1), (23, .if_icmp .gt 647, 3), (26, .aload_n 0, 1), (27, .iload_n 3, 1), (28, .iaload, 1), (29, .bipush 31, 2), (31, .iand, 1), (32, .tableswitch 632 0 17 #[88, 121, 144, 167, 200, 243, 296, 319, 352, 375, 408, 451, 494, 517, 530, 563, 586, 609], 88), (120, .aload_n 1, 1), (121, .aload_n 0, 1), (122, .iload_n 3, 1), (123, .iconst 1, 1), (124, .iadd, 1), (125, .iaload, 1), (126, .aload_n 0, 1), (127, .iload_n 3, 1), (128, .iconst 2, 1), (129, .iadd, 1), (130, .iaload, 1), (131, .invokevirtual 13, 3), (134, .aload_n 2, 1), (135, .aload_n 0, 1), (136, .iload_n 3, 1), (137, .iconst 1, 1), (138, .iadd, 1), (139, .iaload, 1), (140, .aload_n 0, 1), (141, .iload_n 3, 1), (142, .iconst 2, 1), (143, .iadd, 1), (144, .iaload, 1), (145, .invokevirtual 17, 3), (148, .if_icmp .eq 516, 3), (151, .iconst 0, 1), (152, .ireturn, 1), (153, .aload_n 1, 1), (154, .aload_n 0, 1), (155, .iload_n 3, 1), (156, .iconst 1, 1), (157, .iadd, 1), (158, .iaload, 1), (159, .invokevirtual 18, 3), (162, .aload_n 2, 1), (163, .aload_n 0, 1), (164, .iload_n 3, 1), (165, .iconst 1, 1), (166, .iadd, 1), (167, .iaload, 1), (168, .invokevirtual 22, 3), (171, .if_icmp .eq 493, 3), (174, .iconst 0, 1), (175, .ireturn, 1), (176, .aload_n 1, 1), (177, .aload_n 0, 1), (178, .iload_n 3, 1), (179, .iconst 1, 1), (180, .iadd, 1), (181, .iaload, 1), (182, .invokevirtual 23, 3), (185, .aload_n 2, 1), (186, .aload_n 0, 1), (187, .iload_n 3, 1), (188, .iconst 1, 1), (189, .iadd, 1), (190, .iaload, 1), (191, .invokevirtual 26, 3), (194, .if_icmp .eq 470, 3), (197, .iconst 0, 1), (198, .ireturn, 1), (199, .aload_n 1, 1), (200, .aload_n 0, 1), (201, .iload_n 3, 1), (202, .iconst 1, 1), (203, .iadd, 1), (204, .iaload, 1), (205, .aload_n 0, 1), (206, .iload_n 3, 1), (207, .iconst 2, 1), (208, .iadd, 1), (209, .iaload, 1), (210, .invokevirtual 27, 3), (213, .aload_n 2, 1), (214, .aload_n 0, 1), (215, .iload_n 3, 1), (216, .iconst 1, 1), (217, .iadd, 1), (218, .iaload, 1), (219, .aload_n 0, 1), (220, .iload_n 3, 1), (221, .iconst 2, 1), (222, .iadd, 1), (223, .iaload, 1), (224, .invokevirtual 30, 3), (227, .if_icmp .eq 437, 3), (230, .iconst 0, 1), (231, .ireturn, 1), (232, .aload_n 1, 1), (233, .aload_n 0, 1), (234, .iload_n 3, 1), (235, .iconst 1, 1), (236, .iadd, 1), (237, .iaload, 1), (238, .aload_n 0, 1), (239, .iload_n 3, 1), (240, .iconst 2, 1), (241, .iadd, 1), (242, .iaload, 1), (243, .aload_n 0, 1), (244, .iload_n 3, 1), (245, .iconst 3, 1), (246, .iadd, 1), (247, .iaload, 1), (248, .invokevirtual 31, 3), (251, .aload_n 2, 1), (252, .aload_n 0, 1), (253, .iload_n 3, 1), (254, .iconst 1, 1), (255, .iadd, 1), (256, .iaload, 1), (257, .aload_n 0, 1), (258, .iload_n 3, 1), (259, .iconst 2, 1), (260, .iadd, 1), (261, .iaload, 1), (262, .aload_n 0, 1), (263, .iload_n 3, 1), (264, .iconst 3, 1), (265, .iadd, 1), (266, .iaload, 1), (267, .invokevirtual 35, 3), (270, .if_icmp .eq 394, 3), (273, .iconst 0, 1), (274, .ireturn, 1), (275, .aload_n 1, 1), (276, .aload_n 0, 1), (277, .iload_n 3, 1), (278, .iconst 1, 1), (279, .iadd, 1), (280, .iaload, 1), (281, .aload_n 0, 1), (282, .iload_n 3, 1), (283, .iconst 2, 1), (284, .iadd, 1), (285, .iaload, 1), (286, .aload_n 0, 1), (287, .iload_n 3, 1), (288, .iconst 3, 1), (289, .iadd, 1), (290, .iaload, 1), (291, .aload_n 0, 1), (292, .iload_n 3, 1), (293, .iconst 4, 1), (294, .iadd, 1), (295, .iaload, 1), (296, .invokevirtual 36, 3), (299, .aload_n 2, 1), (300, .aload_n 0, 1), (301, .iload_n 3, 1), (302, .iconst 1, 1), (303, .iadd, 1), (304, .iaload, 1), (305, .aload_n 0, 1), (306, .iload_n 3, 1), (307, .iconst 2, 1), (308, .iadd, 1), (309, .iaload, 1), (310, .aload_n 0, 1), (311, .iload_n 3, 1), (312, .iconst 3, 1), (313, .iadd, 1), (314, .iaload, 1), (315, .aload_n 0, 1), (316, .iload_n 3, 1), (317, .iconst 4, 1), (318, .iadd, 1), (319, .iaload, 1), (320, .invokevirtual 40, 3), (323, .if_icmp .eq 341, 3), (326, .iconst 0, 1), (327, .ireturn, 1), (328, .aload_n 1, 1), (329, .aload_n 0, 1), (330, .iload_n 3, 1), (331, .iconst 1, 1), (332, .iadd, 1), (333, .iaload, 1), (334, .invokevirtual 41, 3), (337, .aload_n 2, 1), (338, .aload_n 0, 1), (339, .iload_n 3, 1), (340, .iconst 1, 1), (341, .iadd, 1), (342, .iaload, 1), (343, .invokevirtual 44, 3), (346, .if_icmp .eq 318, 3), (349, .iconst 0, 1), (350, .ireturn, 1), (351, .aload_n 1, 1), (352, .aload_n 0, 1), (353, .iload_n 3, 1), (354, .iconst 1, 1), (355, .iadd, 1), (356, .iaload, 1), (357, .aload_n 0, 1), (358, .iload_n 3, 1), (359, .iconst 2, 1), (360, .iadd, 1), (361, .iaload, 1), (362, .invokevirtual 45, 3), (365, .aload_n 2, 1), (366, .aload_n 0, 1), (367, .iload_n 3, 1), (368, .iconst 1, 1), (369, .iadd, 1), (370, .iaload, 1), (371, .aload_n 0, 1), (372, .iload_n 3, 1), (373, .iconst 2, 1), (374, .iadd, 1), (375, .iaload, 1), (376, .invokevirtual 48, 3), (379, .if_icmp .eq 285, 3), (382, .iconst 0, 1), (383, .ireturn, 1), (384, .aload_n 1, 1), (385, .aload_n 0, 1), (386, .iload_n 3, 1), (387, .iconst 1, 1), (388, .iadd, 1), (389, .iaload, 1), (390, .invokevirtual 49, 3), (393, .aload_n 2, 1), (394, .aload_n 0, 1), (395, .iload_n 3, 1), (396, .iconst 1, 1), (397, .iadd, 1), (398, .iaload, 1), (399, .invokevirtual 52, 3), (402, .if_icmp .eq 262, 3), (405, .iconst 0, 1), (406, .ireturn, 1), (407, .aload_n 1, 1), (408, .aload_n 0, 1), (409, .iload_n 3, 1), (410, .iconst 1, 1), (411, .iadd, 1), (412, .iaload, 1), (413, .aload_n 0, 1), (414, .iload_n 3, 1), (415, .iconst 2, 1), (416, .iadd, 1), (417, .iaload, 1), (418, .invokevirtual 53, 3), (421, .aload_n 2, 1), (422, .aload_n 0, 1), (423, .iload_n 3, 1), (424, .iconst 1, 1), (425, .iadd, 1), (426, .iaload, 1), (427, .aload_n 0, 1), (428, .iload_n 3, 1), (429, .iconst 2, 1), (430, .iadd, 1), (431, .iaload, 1), (432, .invokevirtual 56, 3), (435, .if_icmp .eq 229, 3), (438, .iconst 0, 1), (439, .ireturn, 1), (440, .aload_n 1, 1), (441, .aload_n 0, 1), (442, .iload_n 3, 1), (443, .iconst 1, 1), (444, .iadd, 1), (445, .iaload, 1), (446, .aload_n 0, 1), (447, .iload_n 3, 1), (448, .iconst 2, 1), (449, .iadd, 1), (450, .iaload, 1), (451, .aload_n 0, 1), (452, .iload_n 3, 1), (453, .iconst 3, 1), (454, .iadd, 1), (455, .iaload, 1), (456, .invokevirtual 57, 3), (459, .aload_n 2, 1), (460, .aload_n 0, 1), (461, .iload_n 3, 1), (462, .iconst 1, 1), (463, .iadd, 1), (464, .iaload, 1), (465, .aload_n 0, 1), (466, .iload_n 3, 1), (467, .iconst 2, 1), (468, .iadd, 1), (469, .iaload, 1), (470, .aload_n 0, 1), (471, .iload_n 3, 1), (472, .iconst 3, 1), (473, .iadd, 1), (474, .iaload, 1), (475, .invokevirtual 60, 3), (478, .if_icmp .eq 186, 3), (481, .iconst 0, 1), (482, .ireturn, 1), (483, .aload_n 1, 1), (484, .aload_n 0, 1), (485, .iload_n 3, 1), (486, .iconst 1, 1), (487, .iadd, 1), (488, .iaload, 1), (489, .aload_n 0, 1), (490, .iload_n 3, 1), (491, .iconst 2, 1), (492, .iadd, 1), (493, .iaload, 1), (494, .aload_n 0, 1), (495, .iload_n 3, 1), (496, .iconst 3, 1), (497, .iadd, 1), (498, .iaload, 1), (499, .invokevirtual 61, 3), (502, .aload_n 2, 1), (503, .aload_n 0, 1), (504, .iload_n 3, 1), (505, .iconst 1, 1), (506, .iadd, 1), (507, .iaload, 1), (508, .aload_n 0, 1), (509, .iload_n 3, 1), (510, .iconst 2, 1), (511, .iadd, 1), (512, .iaload, 1), (513, .aload_n 0, 1), (514, .iload_n 3, 1), (515, .iconst 3, 1), (516, .iadd, 1), (517, .iaload, 1), (518, .invokevirtual 64, 3), (521, .if_icmp .eq 143, 3), (524, .iconst 0, 1), (525, .ireturn, 1), (526, .aload_n 1, 1), (527, .aload_n 0, 1), (528, .iload_n 3, 1), (529, .iconst 1, 1), (530, .iadd, 1), (531, .iaload, 1), (532, .invokevirtual 65, 3), (535, .aload_n 2, 1), (536, .aload_n 0, 1), (537, .iload_n 3, 1), (538, .iconst 1, 1), (539, .iadd, 1), (540, .iaload, 1), (541, .invokevirtual 68, 3), (544, .if_icmp .eq 120, 3), (547, .iconst 0, 1), (548, .ireturn, 1), (549, .aload_n 1, 1), (550, .invokevirtual 69, 3), (553, .aload_n 2, 1), (554, .invokevirtual 73, 3), (557, .if_icmp .eq 107, 3), (560, .iconst 0, 1), (561, .ireturn, 1), (562, .aload_n 1, 1), (563, .aload_n 0, 1), (564, .iload_n 3, 1), (565, .iconst 1, 1), (566, .iadd, 1), (567, .iaload, 1), (568, .aload_n 0, 1), (569, .iload_n 3, 1), (570, .iconst 2, 1), (571, .iadd, 1), (572, .iaload, 1), (573, .invokevirtual 74, 3), (576, .aload_n 2, 1), (577, .aload_n 0, 1), (578, .iload_n 3, 1), (579, .iconst 1, 1), (580, .iadd, 1), (581, .iaload, 1), (582, .aload_n 0, 1), (583, .iload_n 3, 1), (584, .iconst 2, 1), (585, .iadd, 1), (586, .iaload, 1), (587, .invokevirtual 77, 3), (590, .if_icmp .eq 74, 3), (593, .iconst 0, 1), (594, .ireturn, 1), (595, .aload_n 1, 1), (596, .aload_n 0, 1), (597, .iload_n 3, 1), (598, .iconst 1, 1), (599, .iadd, 1), (600, .iaload, 1), (601, .invokevirtual 78, 3), (604, .aload_n 2, 1), (605, .aload_n 0, 1), (606, .iload_n 3, 1), (607, .iconst 1, 1), (608, .iadd, 1), (609, .iaload, 1), (610, .invokevirtual 81, 3), (613, .if_icmp .eq 51, 3), (616, .iconst 0, 1), (617, .ireturn, 1), (618, .aload_n 1, 1), (619, .aload_n 0, 1), (620, .iload_n 3, 1), (621, .iconst 1, 1), (622, .iadd, 1), (623, .iaload, 1), (624, .invokevirtual 82, 3), (627, .aload_n 2, 1), (628, .aload_n 0, 1), (629, .iload_n 3, 1), (630, .iconst 1, 1), (631, .iadd, 1), (632, .iaload, 1), (633, .invokevirtual 85, 3), (636, .if_icmp .eq 28, 3), (639, .iconst 0, 1), (640, .ireturn, 1), (641, .aload_n 1, 1), (642, .aload_n 0, 1), (643, .iload_n 3, 1), (644, .iconst 1, 1), (645, .iadd, 1), (646, .iaload, 1), (647, .invokevirtual 86, 3), (650, .aload_n 2, 1), (651, .aload_n 0, 1), (652, .iload_n 3, 1), (653, .iconst 1, 1), (654, .iadd, 1), (655, .iaload, 1), (656, .invokevirtual 89, 3), (659, .if_icmp .eq 5, 3), (662, .iconst 0, 1), (663, .ireturn, 1), (664, .iinc 3 5, 3), (667, .goto (-649), 3), (670, .iconst 1, 1), (671, .ireturn, 1)]
def sp_law : mQ lS := [((0, 13), 3, 1, lw_PX P_X6_rule), ((0, 17), 3, 1, lw_PM P_rule), ((0, 18), 2, 1, lw_PX P_X6_say), ((0, 22), 2, 1, lw_PM P_say), ((0, 23), 2, 4, lw_PX P_X6_put), ((0, 26), 2, 1, lw_PM P_put), ((0, 27), 3, 1, lw_PX P_X6_copy), ((0, 30), 3, 1, lw_PM P_copy), ((0, 31), 4, 4, lw_PX P_X6_join), ((0, 35), 4, 1, lw_PM P_join), ((0, 36), 5, 4, lw_PX P_X6_cut), ((0, 40), 5, 1, lw_PM P_cut), ((0, 41), 2, 4, lw_PX P_X6_flat), ((0, 44), 2, 1, lw_PM P_flat), ((0, 45), 3, 1, lw_PX P_X6_sign), ((0, 48), 3, 1, lw_PM P_sign), ((0, 49), 2, 1, lw_PX P_X6_hash), ((0, 52), 2, 1, lw_PM P_hash), ((0, 53), 3, 1, lw_PX P_X6_told), ((0, 56), 3, 1, lw_PM P_told), ((0, 57), 4, 1, lw_PX P_X6_piece), ((0, 60), 4, 1, lw_PM P_piece), ((0, 61), 4, 1, lw_PX P_X6_alike), ((0, 64), 4, 1, lw_PM P_alike), ((0, 65), 2, 1, lw_PX P_X6_intern), ((0, 68), 2, 1, lw_PM P_intern), ((0, 69), 1, 1, lw_PX P_X6_sweep), ((0, 73), 1, 1, lw_PM P_sweep), ((0, 74), 3, 1, lw_PX P_X6_entry), ((0, 77), 3, 1, lw_PM P_entry), ((0, 78), 2, 1, lw_PX P_X6_count), ((0, 81), 2, 1, lw_PM P_count), ((0, 82), 2, 1, lw_PX P_X6_image), ((0, 85), 2, 1, lw_PM P_image), ((0, 86), 2, 1, lw_PX P_X6_restore), ((0, 89), 2, 1, lw_PM P_restore)]
theorem cd_law_ck : mm_chk cL_law cd_law = true := by decide +kernel
def W_law (L : Nat) (xs : Nat → Int32) (ret : Option mV → lS → Prop) : mX lS → Prop := mm_W 2 cd_law (lw_hk L xs) sp_law ret
abbrev lL (y : Int32) : List (Option mV) := [some (.inr (some 50)), some (.inr (some 0)), some (.inr (some 39)), some (.inl y)]
section LR
variable (L : Nat) (xs : Nat → Int32) (ret : Option mV → lS → Prop) (s : lS) (a b : Nat)
theorem r_law_18 (y : Int32) : W_law L xs ret (18, lL y, [], s, a, b) = W_law L xs ret (19, lL y, [.inl y], s, a, b) := mm_W_eq (lw_hk_mono L xs) _
theorem r_law_19 (y x0 : Int32) : W_law L xs ret (19, lL y, [.inl x0], s, a, b) = W_law L xs ret (20, lL y, [.inr (some 50), .inl x0], s, a, b) := mm_W_eq (lw_hk_mono L xs) _
theorem r_law_20 (y x1 : Int32) : W_law L xs ret (20, lL y, [.inr (some 50), .inl x1], s, a, b) = W_law L xs ret (21, lL y, [.inl (nI L), .inl x1], s, a, b) := mm_W_eq (lw_hk_mono L xs) _
theorem r_law_21 (y x0 x1 : Int32) : W_law L xs ret (21, lL y, [.inl x0, .inl x1], s, a, b) = W_law L xs ret (22, lL y, [.inl (nI 5), .inl x0, .inl x1], s, a, b) := mm_W_eq (lw_hk_mono L xs) _
theorem r_law_22 (y x0 x1 x2 : Int32) : W_law L xs ret (22, lL y, [.inl x0, .inl x1, .inl x2], s, a, b) = W_law L xs ret (23, lL y, [.inl (x1 - x0), .inl x2], s, a, b) := mm_W_eq (lw_hk_mono L xs) _
theorem r_law_23 (y x0 x1 : Int32) : W_law L xs ret (23, lL y, [.inl x0, .inl x1], s, a, b) = ((x0 < x1 → W_law L xs ret (670, lL y, [], s, a, b)) ∧ (¬ x0 < x1 → W_law L xs ret (26, lL y, [], s, a, b))) := mm_W_eq (lw_hk_mono L xs) _
theorem r_law_26 (y : Int32) : W_law L xs ret (26, lL y, [], s, a, b) = W_law L xs ret (27, lL y, [.inr (some 50)], s, a, b) := mm_W_eq (lw_hk_mono L xs) _
theorem r_law_27 (y : Int32) : W_law L xs ret (27, lL y, [.inr (some 50)], s, a, b) = W_law L xs ret (28, lL y, [.inl y, .inr (some 50)], s, a, b) := mm_W_eq (lw_hk_mono L xs) _
theorem r_law_28 (y x0 : Int32) : W_law L xs ret (28, lL y, [.inl x0, .inr (some 50)], s, a, b) = (vp_in x0 L ∧ W_law L xs ret (29, lL y, [.inl (xs x0.toNatClampNeg)], s, a, b)) := mm_W_eq (lw_hk_mono L xs) _
theorem r_law_29 (y x0 : Int32) : W_law L xs ret (29, lL y, [.inl x0], s, a, b) = W_law L xs ret (31, lL y, [.inl (nI 31), .inl x0], s, a, b) := mm_W_eq (lw_hk_mono L xs) _
theorem r_law_31 (y x0 x1 : Int32) : W_law L xs ret (31, lL y, [.inl x0, .inl x1], s, a, b) = W_law L xs ret (32, lL y, [.inl (x1 &&& x0)], s, a, b) := mm_W_eq (lw_hk_mono L xs) _
theorem r_law_32 (y x0 : Int32) : W_law L xs ret (32, lL y, [.inl x0], s, a, b) = (((x0.toInt < 0 ∨ 17 < x0.toInt) → W_law L xs ret (664, lL y, [], s, a, b)) ∧ (x0.toInt = 0 → W_law L xs ret (120, lL y, [], s, a, b)) ∧ (x0.toInt = 1 → W_law L xs ret (153, lL y, [], s, a, b)) ∧ (x0.toInt = 2 → W_law L xs ret (176, lL y, [], s, a, b)) ∧ (x0.toInt = 3 → W_law L xs ret (199, lL y, [], s, a, b)) ∧ (x0.toInt = 4 → W_law L xs ret (232, lL y, [], s, a, b)) ∧ (x0.toInt = 5 → W_law L xs ret (275, lL y, [], s, a, b)) ∧ (x0.toInt = 6 → W_law L xs ret (328, lL y, [], s, a, b)) ∧ (x0.toInt = 7 → W_law L xs ret (351, lL y, [], s, a, b)) ∧ (x0.toInt = 8 → W_law L xs ret (384, lL y, [], s, a, b)) ∧ (x0.toInt = 9 → W_law L xs ret (407, lL y, [], s, a, b)) ∧ (x0.toInt = 10 → W_law L xs ret (440, lL y, [], s, a, b)) ∧ (x0.toInt = 11 → W_law L xs ret (483, lL y, [], s, a, b)) ∧ (x0.toInt = 12 → W_law L xs ret (526, lL y, [], s, a, b)) ∧ (x0.toInt = 13 → W_law L xs ret (549, lL y, [], s, a, b)) ∧ (x0.toInt = 14 → W_law L xs ret (562, lL y, [], s, a, b)) ∧ (x0.toInt = 15 → W_law L xs ret (595, lL y, [], s, a, b)) ∧ (x0.toInt = 16 → W_law L xs ret (618, lL y, [], s, a, b)) ∧ (x0.toInt = 17 → W_law L xs ret (641, lL y, [], s, a, b)) ∧ True) := mm_W_eq (lw_hk_mono L xs) _
theorem r_law_641 (y : Int32) : W_law L xs ret (641, lL y, [], s, a, b) = W_law L xs ret (642, lL y, [.inr (some 0)], s, a, b) := mm_W_eq (lw_hk_mono L xs) _
theorem r_law_642 (y : Int32) : W_law L xs ret (642, lL y, [.inr (some 0)], s, a, b) = W_law L xs ret (643, lL y, [.inr (some 50), .inr (some 0)], s, a, b) := mm_W_eq (lw_hk_mono L xs) _
theorem r_law_643 (y : Int32) : W_law L xs ret (643, lL y, [.inr (some 50), .inr (some 0)], s, a, b) = W_law L xs ret (644, lL y, [.inl y, .inr (some 50), .inr (some 0)], s, a, b) := mm_W_eq (lw_hk_mono L xs) _
theorem r_law_644 (y x0 : Int32) : W_law L xs ret (644, lL y, [.inl x0, .inr (some 50), .inr (some 0)], s, a, b) = W_law L xs ret (645, lL y, [.inl (nI 1), .inl x0, .inr (some 50), .inr (some 0)], s, a, b) := mm_W_eq (lw_hk_mono L xs) _
theorem r_law_645 (y x0 x1 : Int32) : W_law L xs ret (645, lL y, [.inl x0, .inl x1, .inr (some 50), .inr (some 0)], s, a, b) = W_law L xs ret (646, lL y, [.inl (x1 + x0), .inr (some 50), .inr (some 0)], s, a, b) := mm_W_eq (lw_hk_mono L xs) _
theorem r_law_646 (y x0 : Int32) : W_law L xs ret (646, lL y, [.inl x0, .inr (some 50), .inr (some 0)], s, a, b) = (vp_in x0 L ∧ W_law L xs ret (647, lL y, [.inl (xs x0.toNatClampNeg), .inr (some 0)], s, a, b)) := mm_W_eq (lw_hk_mono L xs) _
theorem r_law_647 (y x0 : Int32) : W_law L xs ret (647, lL y, [.inl x0, .inr (some 0)], s, a, b) = (∃ Q0 : Int32 → lS → Prop, lw_PX P_X6_restore [.inr (some 0), .inl x0] s 0 0 (mI Q0) ∧ ∀ r s', Q0 r s' → W_law L xs ret (650, lL y, [.inl r], s', a, b)) := mm_W_eq (lw_hk_mono L xs) _
theorem r_law_650 (y x0 : Int32) : W_law L xs ret (650, lL y, [.inl x0], s, a, b) = W_law L xs ret (651, lL y, [.inr (some 39), .inl x0], s, a, b) := mm_W_eq (lw_hk_mono L xs) _
theorem r_law_651 (y x1 : Int32) : W_law L xs ret (651, lL y, [.inr (some 39), .inl x1], s, a, b) = W_law L xs ret (652, lL y, [.inr (some 50), .inr (some 39), .inl x1], s, a, b) := mm_W_eq (lw_hk_mono L xs) _
theorem r_law_652 (y x2 : Int32) : W_law L xs ret (652, lL y, [.inr (some 50), .inr (some 39), .inl x2], s, a, b) = W_law L xs ret (653, lL y, [.inl y, .inr (some 50), .inr (some 39), .inl x2], s, a, b) := mm_W_eq (lw_hk_mono L xs) _
theorem r_law_653 (y x0 x3 : Int32) : W_law L xs ret (653, lL y, [.inl x0, .inr (some 50), .inr (some 39), .inl x3], s, a, b) = W_law L xs ret (654, lL y, [.inl (nI 1), .inl x0, .inr (some 50), .inr (some 39), .inl x3], s, a, b) := mm_W_eq (lw_hk_mono L xs) _
theorem r_law_654 (y x0 x1 x4 : Int32) : W_law L xs ret (654, lL y, [.inl x0, .inl x1, .inr (some 50), .inr (some 39), .inl x4], s, a, b) = W_law L xs ret (655, lL y, [.inl (x1 + x0), .inr (some 50), .inr (some 39), .inl x4], s, a, b) := mm_W_eq (lw_hk_mono L xs) _
theorem r_law_655 (y x0 x3 : Int32) : W_law L xs ret (655, lL y, [.inl x0, .inr (some 50), .inr (some 39), .inl x3], s, a, b) = (vp_in x0 L ∧ W_law L xs ret (656, lL y, [.inl (xs x0.toNatClampNeg), .inr (some 39), .inl x3], s, a, b)) := mm_W_eq (lw_hk_mono L xs) _
theorem r_law_656 (y x0 x2 : Int32) : W_law L xs ret (656, lL y, [.inl x0, .inr (some 39), .inl x2], s, a, b) = (∃ Q0 : Int32 → lS → Prop, lw_PM P_restore [.inr (some 39), .inl x0] s 0 0 (mI Q0) ∧ ∀ r s', Q0 r s' → W_law L xs ret (659, lL y, [.inl r, .inl x2], s', a, b)) := mm_W_eq (lw_hk_mono L xs) _
theorem r_law_659 (y x0 x1 : Int32) : W_law L xs ret (659, lL y, [.inl x0, .inl x1], s, a, b) = ((x1 = x0 → W_law L xs ret (664, lL y, [], s, a, b)) ∧ (¬ x1 = x0 → W_law L xs ret (662, lL y, [], s, a, b))) := mm_W_eq (lw_hk_mono L xs) _
theorem r_law_662 (y : Int32) : W_law L xs ret (662, lL y, [], s, a, b) = W_law L xs ret (663, lL y, [.inl (nI 0)], s, a, b) := mm_W_eq (lw_hk_mono L xs) _
theorem r_law_663 (y x0 : Int32) : W_law L xs ret (663, lL y, [.inl x0], s, a, b) = ((x0 = 0 ∨ x0 = 1) ∧ ret (some (.inl x0)) s) := mm_W_eq (lw_hk_mono L xs) _
theorem r_law_664 (y : Int32) : W_law L xs ret (664, lL y, [], s, a, b) = W_law L xs ret (667, lL (y + nI 5), [], s, a, b) := mm_W_eq (lw_hk_mono L xs) _
set_option maxRecDepth 100000 in
theorem r_law_667 (y : Int32) : W_law L xs ret (667, lL y, [], s, a, b) = W_law L xs ret (18, lL y, [], s, a, b) := mm_W_eq (lw_hk_mono L xs) _
theorem r_law_618 (y : Int32) : W_law L xs ret (618, lL y, [], s, a, b) = W_law L xs ret (619, lL y, [.inr (some 0)], s, a, b) := mm_W_eq (lw_hk_mono L xs) _
theorem r_law_619 (y : Int32) : W_law L xs ret (619, lL y, [.inr (some 0)], s, a, b) = W_law L xs ret (620, lL y, [.inr (some 50), .inr (some 0)], s, a, b) := mm_W_eq (lw_hk_mono L xs) _
theorem r_law_620 (y : Int32) : W_law L xs ret (620, lL y, [.inr (some 50), .inr (some 0)], s, a, b) = W_law L xs ret (621, lL y, [.inl y, .inr (some 50), .inr (some 0)], s, a, b) := mm_W_eq (lw_hk_mono L xs) _
theorem r_law_621 (y x0 : Int32) : W_law L xs ret (621, lL y, [.inl x0, .inr (some 50), .inr (some 0)], s, a, b) = W_law L xs ret (622, lL y, [.inl (nI 1), .inl x0, .inr (some 50), .inr (some 0)], s, a, b) := mm_W_eq (lw_hk_mono L xs) _
theorem r_law_622 (y x0 x1 : Int32) : W_law L xs ret (622, lL y, [.inl x0, .inl x1, .inr (some 50), .inr (some 0)], s, a, b) = W_law L xs ret (623, lL y, [.inl (x1 + x0), .inr (some 50), .inr (some 0)], s, a, b) := mm_W_eq (lw_hk_mono L xs) _
theorem r_law_623 (y x0 : Int32) : W_law L xs ret (623, lL y, [.inl x0, .inr (some 50), .inr (some 0)], s, a, b) = (vp_in x0 L ∧ W_law L xs ret (624, lL y, [.inl (xs x0.toNatClampNeg), .inr (some 0)], s, a, b)) := mm_W_eq (lw_hk_mono L xs) _
theorem r_law_624 (y x0 : Int32) : W_law L xs ret (624, lL y, [.inl x0, .inr (some 0)], s, a, b) = (∃ Q0 : Int32 → lS → Prop, lw_PX P_X6_image [.inr (some 0), .inl x0] s 0 0 (mI Q0) ∧ ∀ r s', Q0 r s' → W_law L xs ret (627, lL y, [.inl r], s', a, b)) := mm_W_eq (lw_hk_mono L xs) _
theorem r_law_627 (y x0 : Int32) : W_law L xs ret (627, lL y, [.inl x0], s, a, b) = W_law L xs ret (628, lL y, [.inr (some 39), .inl x0], s, a, b) := mm_W_eq (lw_hk_mono L xs) _
theorem r_law_628 (y x1 : Int32) : W_law L xs ret (628, lL y, [.inr (some 39), .inl x1], s, a, b) = W_law L xs ret (629, lL y, [.inr (some 50), .inr (some 39), .inl x1], s, a, b) := mm_W_eq (lw_hk_mono L xs) _
theorem r_law_629 (y x2 : Int32) : W_law L xs ret (629, lL y, [.inr (some 50), .inr (some 39), .inl x2], s, a, b) = W_law L xs ret (630, lL y, [.inl y, .inr (some 50), .inr (some 39), .inl x2], s, a, b) := mm_W_eq (lw_hk_mono L xs) _
theorem r_law_630 (y x0 x3 : Int32) : W_law L xs ret (630, lL y, [.inl x0, .inr (some 50), .inr (some 39), .inl x3], s, a, b) = W_law L xs ret (631, lL y, [.inl (nI 1), .inl x0, .inr (some 50), .inr (some 39), .inl x3], s, a, b) := mm_W_eq (lw_hk_mono L xs) _
theorem r_law_631 (y x0 x1 x4 : Int32) : W_law L xs ret (631, lL y, [.inl x0, .inl x1, .inr (some 50), .inr (some 39), .inl x4], s, a, b) = W_law L xs ret (632, lL y, [.inl (x1 + x0), .inr (some 50), .inr (some 39), .inl x4], s, a, b) := mm_W_eq (lw_hk_mono L xs) _
theorem r_law_632 (y x0 x3 : Int32) : W_law L xs ret (632, lL y, [.inl x0, .inr (some 50), .inr (some 39), .inl x3], s, a, b) = (vp_in x0 L ∧ W_law L xs ret (633, lL y, [.inl (xs x0.toNatClampNeg), .inr (some 39), .inl x3], s, a, b)) := mm_W_eq (lw_hk_mono L xs) _
theorem r_law_633 (y x0 x2 : Int32) : W_law L xs ret (633, lL y, [.inl x0, .inr (some 39), .inl x2], s, a, b) = (∃ Q0 : Int32 → lS → Prop, lw_PM P_image [.inr (some 39), .inl x0] s 0 0 (mI Q0) ∧ ∀ r s', Q0 r s' → W_law L xs ret (636, lL y, [.inl r, .inl x2], s', a, b)) := mm_W_eq (lw_hk_mono L xs) _
theorem r_law_636 (y x0 x1 : Int32) : W_law L xs ret (636, lL y, [.inl x0, .inl x1], s, a, b) = ((x1 = x0 → W_law L xs ret (664, lL y, [], s, a, b)) ∧ (¬ x1 = x0 → W_law L xs ret (639, lL y, [], s, a, b))) := mm_W_eq (lw_hk_mono L xs) _
theorem r_law_639 (y : Int32) : W_law L xs ret (639, lL y, [], s, a, b) = W_law L xs ret (640, lL y, [.inl (nI 0)], s, a, b) := mm_W_eq (lw_hk_mono L xs) _
theorem r_law_640 (y x0 : Int32) : W_law L xs ret (640, lL y, [.inl x0], s, a, b) = ((x0 = 0 ∨ x0 = 1) ∧ ret (some (.inl x0)) s) := mm_W_eq (lw_hk_mono L xs) _
theorem r_law_595 (y : Int32) : W_law L xs ret (595, lL y, [], s, a, b) = W_law L xs ret (596, lL y, [.inr (some 0)], s, a, b) := mm_W_eq (lw_hk_mono L xs) _
theorem r_law_596 (y : Int32) : W_law L xs ret (596, lL y, [.inr (some 0)], s, a, b) = W_law L xs ret (597, lL y, [.inr (some 50), .inr (some 0)], s, a, b) := mm_W_eq (lw_hk_mono L xs) _
theorem r_law_597 (y : Int32) : W_law L xs ret (597, lL y, [.inr (some 50), .inr (some 0)], s, a, b) = W_law L xs ret (598, lL y, [.inl y, .inr (some 50), .inr (some 0)], s, a, b) := mm_W_eq (lw_hk_mono L xs) _
theorem r_law_598 (y x0 : Int32) : W_law L xs ret (598, lL y, [.inl x0, .inr (some 50), .inr (some 0)], s, a, b) = W_law L xs ret (599, lL y, [.inl (nI 1), .inl x0, .inr (some 50), .inr (some 0)], s, a, b) := mm_W_eq (lw_hk_mono L xs) _
theorem r_law_599 (y x0 x1 : Int32) : W_law L xs ret (599, lL y, [.inl x0, .inl x1, .inr (some 50), .inr (some 0)], s, a, b) = W_law L xs ret (600, lL y, [.inl (x1 + x0), .inr (some 50), .inr (some 0)], s, a, b) := mm_W_eq (lw_hk_mono L xs) _
theorem r_law_600 (y x0 : Int32) : W_law L xs ret (600, lL y, [.inl x0, .inr (some 50), .inr (some 0)], s, a, b) = (vp_in x0 L ∧ W_law L xs ret (601, lL y, [.inl (xs x0.toNatClampNeg), .inr (some 0)], s, a, b)) := mm_W_eq (lw_hk_mono L xs) _
theorem r_law_601 (y x0 : Int32) : W_law L xs ret (601, lL y, [.inl x0, .inr (some 0)], s, a, b) = (∃ Q0 : Int32 → lS → Prop, lw_PX P_X6_count [.inr (some 0), .inl x0] s 0 0 (mI Q0) ∧ ∀ r s', Q0 r s' → W_law L xs ret (604, lL y, [.inl r], s', a, b)) := mm_W_eq (lw_hk_mono L xs) _
theorem r_law_604 (y x0 : Int32) : W_law L xs ret (604, lL y, [.inl x0], s, a, b) = W_law L xs ret (605, lL y, [.inr (some 39), .inl x0], s, a, b) := mm_W_eq (lw_hk_mono L xs) _
theorem r_law_605 (y x1 : Int32) : W_law L xs ret (605, lL y, [.inr (some 39), .inl x1], s, a, b) = W_law L xs ret (606, lL y, [.inr (some 50), .inr (some 39), .inl x1], s, a, b) := mm_W_eq (lw_hk_mono L xs) _
theorem r_law_606 (y x2 : Int32) : W_law L xs ret (606, lL y, [.inr (some 50), .inr (some 39), .inl x2], s, a, b) = W_law L xs ret (607, lL y, [.inl y, .inr (some 50), .inr (some 39), .inl x2], s, a, b) := mm_W_eq (lw_hk_mono L xs) _
theorem r_law_607 (y x0 x3 : Int32) : W_law L xs ret (607, lL y, [.inl x0, .inr (some 50), .inr (some 39), .inl x3], s, a, b) = W_law L xs ret (608, lL y, [.inl (nI 1), .inl x0, .inr (some 50), .inr (some 39), .inl x3], s, a, b) := mm_W_eq (lw_hk_mono L xs) _
theorem r_law_608 (y x0 x1 x4 : Int32) : W_law L xs ret (608, lL y, [.inl x0, .inl x1, .inr (some 50), .inr (some 39), .inl x4], s, a, b) = W_law L xs ret (609, lL y, [.inl (x1 + x0), .inr (some 50), .inr (some 39), .inl x4], s, a, b) := mm_W_eq (lw_hk_mono L xs) _
theorem r_law_609 (y x0 x3 : Int32) : W_law L xs ret (609, lL y, [.inl x0, .inr (some 50), .inr (some 39), .inl x3], s, a, b) = (vp_in x0 L ∧ W_law L xs ret (610, lL y, [.inl (xs x0.toNatClampNeg), .inr (some 39), .inl x3], s, a, b)) := mm_W_eq (lw_hk_mono L xs) _
theorem r_law_610 (y x0 x2 : Int32) : W_law L xs ret (610, lL y, [.inl x0, .inr (some 39), .inl x2], s, a, b) = (∃ Q0 : Int32 → lS → Prop, lw_PM P_count [.inr (some 39), .inl x0] s 0 0 (mI Q0) ∧ ∀ r s', Q0 r s' → W_law L xs ret (613, lL y, [.inl r, .inl x2], s', a, b)) := mm_W_eq (lw_hk_mono L xs) _
theorem r_law_613 (y x0 x1 : Int32) : W_law L xs ret (613, lL y, [.inl x0, .inl x1], s, a, b) = ((x1 = x0 → W_law L xs ret (664, lL y, [], s, a, b)) ∧ (¬ x1 = x0 → W_law L xs ret (616, lL y, [], s, a, b))) := mm_W_eq (lw_hk_mono L xs) _
theorem r_law_616 (y : Int32) : W_law L xs ret (616, lL y, [], s, a, b) = W_law L xs ret (617, lL y, [.inl (nI 0)], s, a, b) := mm_W_eq (lw_hk_mono L xs) _
theorem r_law_617 (y x0 : Int32) : W_law L xs ret (617, lL y, [.inl x0], s, a, b) = ((x0 = 0 ∨ x0 = 1) ∧ ret (some (.inl x0)) s) := mm_W_eq (lw_hk_mono L xs) _
theorem r_law_562 (y : Int32) : W_law L xs ret (562, lL y, [], s, a, b) = W_law L xs ret (563, lL y, [.inr (some 0)], s, a, b) := mm_W_eq (lw_hk_mono L xs) _
theorem r_law_563 (y : Int32) : W_law L xs ret (563, lL y, [.inr (some 0)], s, a, b) = W_law L xs ret (564, lL y, [.inr (some 50), .inr (some 0)], s, a, b) := mm_W_eq (lw_hk_mono L xs) _
theorem r_law_564 (y : Int32) : W_law L xs ret (564, lL y, [.inr (some 50), .inr (some 0)], s, a, b) = W_law L xs ret (565, lL y, [.inl y, .inr (some 50), .inr (some 0)], s, a, b) := mm_W_eq (lw_hk_mono L xs) _
theorem r_law_565 (y x0 : Int32) : W_law L xs ret (565, lL y, [.inl x0, .inr (some 50), .inr (some 0)], s, a, b) = W_law L xs ret (566, lL y, [.inl (nI 1), .inl x0, .inr (some 50), .inr (some 0)], s, a, b) := mm_W_eq (lw_hk_mono L xs) _
theorem r_law_566 (y x0 x1 : Int32) : W_law L xs ret (566, lL y, [.inl x0, .inl x1, .inr (some 50), .inr (some 0)], s, a, b) = W_law L xs ret (567, lL y, [.inl (x1 + x0), .inr (some 50), .inr (some 0)], s, a, b) := mm_W_eq (lw_hk_mono L xs) _
theorem r_law_567 (y x0 : Int32) : W_law L xs ret (567, lL y, [.inl x0, .inr (some 50), .inr (some 0)], s, a, b) = (vp_in x0 L ∧ W_law L xs ret (568, lL y, [.inl (xs x0.toNatClampNeg), .inr (some 0)], s, a, b)) := mm_W_eq (lw_hk_mono L xs) _
theorem r_law_568 (y x0 : Int32) : W_law L xs ret (568, lL y, [.inl x0, .inr (some 0)], s, a, b) = W_law L xs ret (569, lL y, [.inr (some 50), .inl x0, .inr (some 0)], s, a, b) := mm_W_eq (lw_hk_mono L xs) _
theorem r_law_569 (y x1 : Int32) : W_law L xs ret (569, lL y, [.inr (some 50), .inl x1, .inr (some 0)], s, a, b) = W_law L xs ret (570, lL y, [.inl y, .inr (some 50), .inl x1, .inr (some 0)], s, a, b) := mm_W_eq (lw_hk_mono L xs) _
theorem r_law_570 (y x0 x2 : Int32) : W_law L xs ret (570, lL y, [.inl x0, .inr (some 50), .inl x2, .inr (some 0)], s, a, b) = W_law L xs ret (571, lL y, [.inl (nI 2), .inl x0, .inr (some 50), .inl x2, .inr (some 0)], s, a, b) := mm_W_eq (lw_hk_mono L xs) _
theorem r_law_571 (y x0 x1 x3 : Int32) : W_law L xs ret (571, lL y, [.inl x0, .inl x1, .inr (some 50), .inl x3, .inr (some 0)], s, a, b) = W_law L xs ret (572, lL y, [.inl (x1 + x0), .inr (some 50), .inl x3, .inr (some 0)], s, a, b) := mm_W_eq (lw_hk_mono L xs) _
theorem r_law_572 (y x0 x2 : Int32) : W_law L xs ret (572, lL y, [.inl x0, .inr (some 50), .inl x2, .inr (some 0)], s, a, b) = (vp_in x0 L ∧ W_law L xs ret (573, lL y, [.inl (xs x0.toNatClampNeg), .inl x2, .inr (some 0)], s, a, b)) := mm_W_eq (lw_hk_mono L xs) _
theorem r_law_573 (y x0 x1 : Int32) : W_law L xs ret (573, lL y, [.inl x0, .inl x1, .inr (some 0)], s, a, b) = (∃ Q0 : Int32 → lS → Prop, lw_PX P_X6_entry [.inr (some 0), .inl x1, .inl x0] s 0 0 (mI Q0) ∧ ∀ r s', Q0 r s' → W_law L xs ret (576, lL y, [.inl r], s', a, b)) := mm_W_eq (lw_hk_mono L xs) _
theorem r_law_576 (y x0 : Int32) : W_law L xs ret (576, lL y, [.inl x0], s, a, b) = W_law L xs ret (577, lL y, [.inr (some 39), .inl x0], s, a, b) := mm_W_eq (lw_hk_mono L xs) _
theorem r_law_577 (y x1 : Int32) : W_law L xs ret (577, lL y, [.inr (some 39), .inl x1], s, a, b) = W_law L xs ret (578, lL y, [.inr (some 50), .inr (some 39), .inl x1], s, a, b) := mm_W_eq (lw_hk_mono L xs) _
theorem r_law_578 (y x2 : Int32) : W_law L xs ret (578, lL y, [.inr (some 50), .inr (some 39), .inl x2], s, a, b) = W_law L xs ret (579, lL y, [.inl y, .inr (some 50), .inr (some 39), .inl x2], s, a, b) := mm_W_eq (lw_hk_mono L xs) _
theorem r_law_579 (y x0 x3 : Int32) : W_law L xs ret (579, lL y, [.inl x0, .inr (some 50), .inr (some 39), .inl x3], s, a, b) = W_law L xs ret (580, lL y, [.inl (nI 1), .inl x0, .inr (some 50), .inr (some 39), .inl x3], s, a, b) := mm_W_eq (lw_hk_mono L xs) _
theorem r_law_580 (y x0 x1 x4 : Int32) : W_law L xs ret (580, lL y, [.inl x0, .inl x1, .inr (some 50), .inr (some 39), .inl x4], s, a, b) = W_law L xs ret (581, lL y, [.inl (x1 + x0), .inr (some 50), .inr (some 39), .inl x4], s, a, b) := mm_W_eq (lw_hk_mono L xs) _
theorem r_law_581 (y x0 x3 : Int32) : W_law L xs ret (581, lL y, [.inl x0, .inr (some 50), .inr (some 39), .inl x3], s, a, b) = (vp_in x0 L ∧ W_law L xs ret (582, lL y, [.inl (xs x0.toNatClampNeg), .inr (some 39), .inl x3], s, a, b)) := mm_W_eq (lw_hk_mono L xs) _
theorem r_law_582 (y x0 x2 : Int32) : W_law L xs ret (582, lL y, [.inl x0, .inr (some 39), .inl x2], s, a, b) = W_law L xs ret (583, lL y, [.inr (some 50), .inl x0, .inr (some 39), .inl x2], s, a, b) := mm_W_eq (lw_hk_mono L xs) _
theorem r_law_583 (y x1 x3 : Int32) : W_law L xs ret (583, lL y, [.inr (some 50), .inl x1, .inr (some 39), .inl x3], s, a, b) = W_law L xs ret (584, lL y, [.inl y, .inr (some 50), .inl x1, .inr (some 39), .inl x3], s, a, b) := mm_W_eq (lw_hk_mono L xs) _
theorem r_law_584 (y x0 x2 x4 : Int32) : W_law L xs ret (584, lL y, [.inl x0, .inr (some 50), .inl x2, .inr (some 39), .inl x4], s, a, b) = W_law L xs ret (585, lL y, [.inl (nI 2), .inl x0, .inr (some 50), .inl x2, .inr (some 39), .inl x4], s, a, b) := mm_W_eq (lw_hk_mono L xs) _
theorem r_law_585 (y x0 x1 x3 x5 : Int32) : W_law L xs ret (585, lL y, [.inl x0, .inl x1, .inr (some 50), .inl x3, .inr (some 39), .inl x5], s, a, b) = W_law L xs ret (586, lL y, [.inl (x1 + x0), .inr (some 50), .inl x3, .inr (some 39), .inl x5], s, a, b) := mm_W_eq (lw_hk_mono L xs) _
theorem r_law_586 (y x0 x2 x4 : Int32) : W_law L xs ret (586, lL y, [.inl x0, .inr (some 50), .inl x2, .inr (some 39), .inl x4], s, a, b) = (vp_in x0 L ∧ W_law L xs ret (587, lL y, [.inl (xs x0.toNatClampNeg), .inl x2, .inr (some 39), .inl x4], s, a, b)) := mm_W_eq (lw_hk_mono L xs) _
theorem r_law_587 (y x0 x1 x3 : Int32) : W_law L xs ret (587, lL y, [.inl x0, .inl x1, .inr (some 39), .inl x3], s, a, b) = (∃ Q0 : Int32 → lS → Prop, lw_PM P_entry [.inr (some 39), .inl x1, .inl x0] s 0 0 (mI Q0) ∧ ∀ r s', Q0 r s' → W_law L xs ret (590, lL y, [.inl r, .inl x3], s', a, b)) := mm_W_eq (lw_hk_mono L xs) _
theorem r_law_590 (y x0 x1 : Int32) : W_law L xs ret (590, lL y, [.inl x0, .inl x1], s, a, b) = ((x1 = x0 → W_law L xs ret (664, lL y, [], s, a, b)) ∧ (¬ x1 = x0 → W_law L xs ret (593, lL y, [], s, a, b))) := mm_W_eq (lw_hk_mono L xs) _
theorem r_law_593 (y : Int32) : W_law L xs ret (593, lL y, [], s, a, b) = W_law L xs ret (594, lL y, [.inl (nI 0)], s, a, b) := mm_W_eq (lw_hk_mono L xs) _
theorem r_law_594 (y x0 : Int32) : W_law L xs ret (594, lL y, [.inl x0], s, a, b) = ((x0 = 0 ∨ x0 = 1) ∧ ret (some (.inl x0)) s) := mm_W_eq (lw_hk_mono L xs) _
theorem r_law_549 (y : Int32) : W_law L xs ret (549, lL y, [], s, a, b) = W_law L xs ret (550, lL y, [.inr (some 0)], s, a, b) := mm_W_eq (lw_hk_mono L xs) _
theorem r_law_550 (y : Int32) : W_law L xs ret (550, lL y, [.inr (some 0)], s, a, b) = (∃ Q0 : Int32 → lS → Prop, lw_PX P_X6_sweep [.inr (some 0)] s 0 0 (mI Q0) ∧ ∀ r s', Q0 r s' → W_law L xs ret (553, lL y, [.inl r], s', a, b)) := mm_W_eq (lw_hk_mono L xs) _
theorem r_law_553 (y x0 : Int32) : W_law L xs ret (553, lL y, [.inl x0], s, a, b) = W_law L xs ret (554, lL y, [.inr (some 39), .inl x0], s, a, b) := mm_W_eq (lw_hk_mono L xs) _
theorem r_law_554 (y x1 : Int32) : W_law L xs ret (554, lL y, [.inr (some 39), .inl x1], s, a, b) = (∃ Q0 : Int32 → lS → Prop, lw_PM P_sweep [.inr (some 39)] s 0 0 (mI Q0) ∧ ∀ r s', Q0 r s' → W_law L xs ret (557, lL y, [.inl r, .inl x1], s', a, b)) := mm_W_eq (lw_hk_mono L xs) _
theorem r_law_557 (y x0 x1 : Int32) : W_law L xs ret (557, lL y, [.inl x0, .inl x1], s, a, b) = ((x1 = x0 → W_law L xs ret (664, lL y, [], s, a, b)) ∧ (¬ x1 = x0 → W_law L xs ret (560, lL y, [], s, a, b))) := mm_W_eq (lw_hk_mono L xs) _
theorem r_law_560 (y : Int32) : W_law L xs ret (560, lL y, [], s, a, b) = W_law L xs ret (561, lL y, [.inl (nI 0)], s, a, b) := mm_W_eq (lw_hk_mono L xs) _
theorem r_law_561 (y x0 : Int32) : W_law L xs ret (561, lL y, [.inl x0], s, a, b) = ((x0 = 0 ∨ x0 = 1) ∧ ret (some (.inl x0)) s) := mm_W_eq (lw_hk_mono L xs) _
theorem r_law_526 (y : Int32) : W_law L xs ret (526, lL y, [], s, a, b) = W_law L xs ret (527, lL y, [.inr (some 0)], s, a, b) := mm_W_eq (lw_hk_mono L xs) _
theorem r_law_527 (y : Int32) : W_law L xs ret (527, lL y, [.inr (some 0)], s, a, b) = W_law L xs ret (528, lL y, [.inr (some 50), .inr (some 0)], s, a, b) := mm_W_eq (lw_hk_mono L xs) _
theorem r_law_528 (y : Int32) : W_law L xs ret (528, lL y, [.inr (some 50), .inr (some 0)], s, a, b) = W_law L xs ret (529, lL y, [.inl y, .inr (some 50), .inr (some 0)], s, a, b) := mm_W_eq (lw_hk_mono L xs) _
theorem r_law_529 (y x0 : Int32) : W_law L xs ret (529, lL y, [.inl x0, .inr (some 50), .inr (some 0)], s, a, b) = W_law L xs ret (530, lL y, [.inl (nI 1), .inl x0, .inr (some 50), .inr (some 0)], s, a, b) := mm_W_eq (lw_hk_mono L xs) _
theorem r_law_530 (y x0 x1 : Int32) : W_law L xs ret (530, lL y, [.inl x0, .inl x1, .inr (some 50), .inr (some 0)], s, a, b) = W_law L xs ret (531, lL y, [.inl (x1 + x0), .inr (some 50), .inr (some 0)], s, a, b) := mm_W_eq (lw_hk_mono L xs) _
theorem r_law_531 (y x0 : Int32) : W_law L xs ret (531, lL y, [.inl x0, .inr (some 50), .inr (some 0)], s, a, b) = (vp_in x0 L ∧ W_law L xs ret (532, lL y, [.inl (xs x0.toNatClampNeg), .inr (some 0)], s, a, b)) := mm_W_eq (lw_hk_mono L xs) _
theorem r_law_532 (y x0 : Int32) : W_law L xs ret (532, lL y, [.inl x0, .inr (some 0)], s, a, b) = (∃ Q0 : Int32 → lS → Prop, lw_PX P_X6_intern [.inr (some 0), .inl x0] s 0 0 (mI Q0) ∧ ∀ r s', Q0 r s' → W_law L xs ret (535, lL y, [.inl r], s', a, b)) := mm_W_eq (lw_hk_mono L xs) _
theorem r_law_535 (y x0 : Int32) : W_law L xs ret (535, lL y, [.inl x0], s, a, b) = W_law L xs ret (536, lL y, [.inr (some 39), .inl x0], s, a, b) := mm_W_eq (lw_hk_mono L xs) _
theorem r_law_536 (y x1 : Int32) : W_law L xs ret (536, lL y, [.inr (some 39), .inl x1], s, a, b) = W_law L xs ret (537, lL y, [.inr (some 50), .inr (some 39), .inl x1], s, a, b) := mm_W_eq (lw_hk_mono L xs) _
theorem r_law_537 (y x2 : Int32) : W_law L xs ret (537, lL y, [.inr (some 50), .inr (some 39), .inl x2], s, a, b) = W_law L xs ret (538, lL y, [.inl y, .inr (some 50), .inr (some 39), .inl x2], s, a, b) := mm_W_eq (lw_hk_mono L xs) _
theorem r_law_538 (y x0 x3 : Int32) : W_law L xs ret (538, lL y, [.inl x0, .inr (some 50), .inr (some 39), .inl x3], s, a, b) = W_law L xs ret (539, lL y, [.inl (nI 1), .inl x0, .inr (some 50), .inr (some 39), .inl x3], s, a, b) := mm_W_eq (lw_hk_mono L xs) _
theorem r_law_539 (y x0 x1 x4 : Int32) : W_law L xs ret (539, lL y, [.inl x0, .inl x1, .inr (some 50), .inr (some 39), .inl x4], s, a, b) = W_law L xs ret (540, lL y, [.inl (x1 + x0), .inr (some 50), .inr (some 39), .inl x4], s, a, b) := mm_W_eq (lw_hk_mono L xs) _
theorem r_law_540 (y x0 x3 : Int32) : W_law L xs ret (540, lL y, [.inl x0, .inr (some 50), .inr (some 39), .inl x3], s, a, b) = (vp_in x0 L ∧ W_law L xs ret (541, lL y, [.inl (xs x0.toNatClampNeg), .inr (some 39), .inl x3], s, a, b)) := mm_W_eq (lw_hk_mono L xs) _
theorem r_law_541 (y x0 x2 : Int32) : W_law L xs ret (541, lL y, [.inl x0, .inr (some 39), .inl x2], s, a, b) = (∃ Q0 : Int32 → lS → Prop, lw_PM P_intern [.inr (some 39), .inl x0] s 0 0 (mI Q0) ∧ ∀ r s', Q0 r s' → W_law L xs ret (544, lL y, [.inl r, .inl x2], s', a, b)) := mm_W_eq (lw_hk_mono L xs) _
theorem r_law_544 (y x0 x1 : Int32) : W_law L xs ret (544, lL y, [.inl x0, .inl x1], s, a, b) = ((x1 = x0 → W_law L xs ret (664, lL y, [], s, a, b)) ∧ (¬ x1 = x0 → W_law L xs ret (547, lL y, [], s, a, b))) := mm_W_eq (lw_hk_mono L xs) _
theorem r_law_547 (y : Int32) : W_law L xs ret (547, lL y, [], s, a, b) = W_law L xs ret (548, lL y, [.inl (nI 0)], s, a, b) := mm_W_eq (lw_hk_mono L xs) _
theorem r_law_548 (y x0 : Int32) : W_law L xs ret (548, lL y, [.inl x0], s, a, b) = ((x0 = 0 ∨ x0 = 1) ∧ ret (some (.inl x0)) s) := mm_W_eq (lw_hk_mono L xs) _
theorem r_law_483 (y : Int32) : W_law L xs ret (483, lL y, [], s, a, b) = W_law L xs ret (484, lL y, [.inr (some 0)], s, a, b) := mm_W_eq (lw_hk_mono L xs) _
theorem r_law_484 (y : Int32) : W_law L xs ret (484, lL y, [.inr (some 0)], s, a, b) = W_law L xs ret (485, lL y, [.inr (some 50), .inr (some 0)], s, a, b) := mm_W_eq (lw_hk_mono L xs) _
theorem r_law_485 (y : Int32) : W_law L xs ret (485, lL y, [.inr (some 50), .inr (some 0)], s, a, b) = W_law L xs ret (486, lL y, [.inl y, .inr (some 50), .inr (some 0)], s, a, b) := mm_W_eq (lw_hk_mono L xs) _
theorem r_law_486 (y x0 : Int32) : W_law L xs ret (486, lL y, [.inl x0, .inr (some 50), .inr (some 0)], s, a, b) = W_law L xs ret (487, lL y, [.inl (nI 1), .inl x0, .inr (some 50), .inr (some 0)], s, a, b) := mm_W_eq (lw_hk_mono L xs) _
theorem r_law_487 (y x0 x1 : Int32) : W_law L xs ret (487, lL y, [.inl x0, .inl x1, .inr (some 50), .inr (some 0)], s, a, b) = W_law L xs ret (488, lL y, [.inl (x1 + x0), .inr (some 50), .inr (some 0)], s, a, b) := mm_W_eq (lw_hk_mono L xs) _
theorem r_law_488 (y x0 : Int32) : W_law L xs ret (488, lL y, [.inl x0, .inr (some 50), .inr (some 0)], s, a, b) = (vp_in x0 L ∧ W_law L xs ret (489, lL y, [.inl (xs x0.toNatClampNeg), .inr (some 0)], s, a, b)) := mm_W_eq (lw_hk_mono L xs) _
theorem r_law_489 (y x0 : Int32) : W_law L xs ret (489, lL y, [.inl x0, .inr (some 0)], s, a, b) = W_law L xs ret (490, lL y, [.inr (some 50), .inl x0, .inr (some 0)], s, a, b) := mm_W_eq (lw_hk_mono L xs) _
theorem r_law_490 (y x1 : Int32) : W_law L xs ret (490, lL y, [.inr (some 50), .inl x1, .inr (some 0)], s, a, b) = W_law L xs ret (491, lL y, [.inl y, .inr (some 50), .inl x1, .inr (some 0)], s, a, b) := mm_W_eq (lw_hk_mono L xs) _
theorem r_law_491 (y x0 x2 : Int32) : W_law L xs ret (491, lL y, [.inl x0, .inr (some 50), .inl x2, .inr (some 0)], s, a, b) = W_law L xs ret (492, lL y, [.inl (nI 2), .inl x0, .inr (some 50), .inl x2, .inr (some 0)], s, a, b) := mm_W_eq (lw_hk_mono L xs) _
theorem r_law_492 (y x0 x1 x3 : Int32) : W_law L xs ret (492, lL y, [.inl x0, .inl x1, .inr (some 50), .inl x3, .inr (some 0)], s, a, b) = W_law L xs ret (493, lL y, [.inl (x1 + x0), .inr (some 50), .inl x3, .inr (some 0)], s, a, b) := mm_W_eq (lw_hk_mono L xs) _
theorem r_law_493 (y x0 x2 : Int32) : W_law L xs ret (493, lL y, [.inl x0, .inr (some 50), .inl x2, .inr (some 0)], s, a, b) = (vp_in x0 L ∧ W_law L xs ret (494, lL y, [.inl (xs x0.toNatClampNeg), .inl x2, .inr (some 0)], s, a, b)) := mm_W_eq (lw_hk_mono L xs) _
theorem r_law_494 (y x0 x1 : Int32) : W_law L xs ret (494, lL y, [.inl x0, .inl x1, .inr (some 0)], s, a, b) = W_law L xs ret (495, lL y, [.inr (some 50), .inl x0, .inl x1, .inr (some 0)], s, a, b) := mm_W_eq (lw_hk_mono L xs) _
theorem r_law_495 (y x1 x2 : Int32) : W_law L xs ret (495, lL y, [.inr (some 50), .inl x1, .inl x2, .inr (some 0)], s, a, b) = W_law L xs ret (496, lL y, [.inl y, .inr (some 50), .inl x1, .inl x2, .inr (some 0)], s, a, b) := mm_W_eq (lw_hk_mono L xs) _
theorem r_law_496 (y x0 x2 x3 : Int32) : W_law L xs ret (496, lL y, [.inl x0, .inr (some 50), .inl x2, .inl x3, .inr (some 0)], s, a, b) = W_law L xs ret (497, lL y, [.inl (nI 3), .inl x0, .inr (some 50), .inl x2, .inl x3, .inr (some 0)], s, a, b) := mm_W_eq (lw_hk_mono L xs) _
theorem r_law_497 (y x0 x1 x3 x4 : Int32) : W_law L xs ret (497, lL y, [.inl x0, .inl x1, .inr (some 50), .inl x3, .inl x4, .inr (some 0)], s, a, b) = W_law L xs ret (498, lL y, [.inl (x1 + x0), .inr (some 50), .inl x3, .inl x4, .inr (some 0)], s, a, b) := mm_W_eq (lw_hk_mono L xs) _
theorem r_law_498 (y x0 x2 x3 : Int32) : W_law L xs ret (498, lL y, [.inl x0, .inr (some 50), .inl x2, .inl x3, .inr (some 0)], s, a, b) = (vp_in x0 L ∧ W_law L xs ret (499, lL y, [.inl (xs x0.toNatClampNeg), .inl x2, .inl x3, .inr (some 0)], s, a, b)) := mm_W_eq (lw_hk_mono L xs) _
theorem r_law_499 (y x0 x1 x2 : Int32) : W_law L xs ret (499, lL y, [.inl x0, .inl x1, .inl x2, .inr (some 0)], s, a, b) = (∃ Q0 : Int32 → lS → Prop, lw_PX P_X6_alike [.inr (some 0), .inl x2, .inl x1, .inl x0] s 0 0 (mI Q0) ∧ ∀ r s', Q0 r s' → W_law L xs ret (502, lL y, [.inl r], s', a, b)) := mm_W_eq (lw_hk_mono L xs) _
theorem r_law_502 (y x0 : Int32) : W_law L xs ret (502, lL y, [.inl x0], s, a, b) = W_law L xs ret (503, lL y, [.inr (some 39), .inl x0], s, a, b) := mm_W_eq (lw_hk_mono L xs) _
theorem r_law_503 (y x1 : Int32) : W_law L xs ret (503, lL y, [.inr (some 39), .inl x1], s, a, b) = W_law L xs ret (504, lL y, [.inr (some 50), .inr (some 39), .inl x1], s, a, b) := mm_W_eq (lw_hk_mono L xs) _
theorem r_law_504 (y x2 : Int32) : W_law L xs ret (504, lL y, [.inr (some 50), .inr (some 39), .inl x2], s, a, b) = W_law L xs ret (505, lL y, [.inl y, .inr (some 50), .inr (some 39), .inl x2], s, a, b) := mm_W_eq (lw_hk_mono L xs) _
theorem r_law_505 (y x0 x3 : Int32) : W_law L xs ret (505, lL y, [.inl x0, .inr (some 50), .inr (some 39), .inl x3], s, a, b) = W_law L xs ret (506, lL y, [.inl (nI 1), .inl x0, .inr (some 50), .inr (some 39), .inl x3], s, a, b) := mm_W_eq (lw_hk_mono L xs) _
theorem r_law_506 (y x0 x1 x4 : Int32) : W_law L xs ret (506, lL y, [.inl x0, .inl x1, .inr (some 50), .inr (some 39), .inl x4], s, a, b) = W_law L xs ret (507, lL y, [.inl (x1 + x0), .inr (some 50), .inr (some 39), .inl x4], s, a, b) := mm_W_eq (lw_hk_mono L xs) _
theorem r_law_507 (y x0 x3 : Int32) : W_law L xs ret (507, lL y, [.inl x0, .inr (some 50), .inr (some 39), .inl x3], s, a, b) = (vp_in x0 L ∧ W_law L xs ret (508, lL y, [.inl (xs x0.toNatClampNeg), .inr (some 39), .inl x3], s, a, b)) := mm_W_eq (lw_hk_mono L xs) _
theorem r_law_508 (y x0 x2 : Int32) : W_law L xs ret (508, lL y, [.inl x0, .inr (some 39), .inl x2], s, a, b) = W_law L xs ret (509, lL y, [.inr (some 50), .inl x0, .inr (some 39), .inl x2], s, a, b) := mm_W_eq (lw_hk_mono L xs) _
theorem r_law_509 (y x1 x3 : Int32) : W_law L xs ret (509, lL y, [.inr (some 50), .inl x1, .inr (some 39), .inl x3], s, a, b) = W_law L xs ret (510, lL y, [.inl y, .inr (some 50), .inl x1, .inr (some 39), .inl x3], s, a, b) := mm_W_eq (lw_hk_mono L xs) _
theorem r_law_510 (y x0 x2 x4 : Int32) : W_law L xs ret (510, lL y, [.inl x0, .inr (some 50), .inl x2, .inr (some 39), .inl x4], s, a, b) = W_law L xs ret (511, lL y, [.inl (nI 2), .inl x0, .inr (some 50), .inl x2, .inr (some 39), .inl x4], s, a, b) := mm_W_eq (lw_hk_mono L xs) _
theorem r_law_511 (y x0 x1 x3 x5 : Int32) : W_law L xs ret (511, lL y, [.inl x0, .inl x1, .inr (some 50), .inl x3, .inr (some 39), .inl x5], s, a, b) = W_law L xs ret (512, lL y, [.inl (x1 + x0), .inr (some 50), .inl x3, .inr (some 39), .inl x5], s, a, b) := mm_W_eq (lw_hk_mono L xs) _
theorem r_law_512 (y x0 x2 x4 : Int32) : W_law L xs ret (512, lL y, [.inl x0, .inr (some 50), .inl x2, .inr (some 39), .inl x4], s, a, b) = (vp_in x0 L ∧ W_law L xs ret (513, lL y, [.inl (xs x0.toNatClampNeg), .inl x2, .inr (some 39), .inl x4], s, a, b)) := mm_W_eq (lw_hk_mono L xs) _
theorem r_law_513 (y x0 x1 x3 : Int32) : W_law L xs ret (513, lL y, [.inl x0, .inl x1, .inr (some 39), .inl x3], s, a, b) = W_law L xs ret (514, lL y, [.inr (some 50), .inl x0, .inl x1, .inr (some 39), .inl x3], s, a, b) := mm_W_eq (lw_hk_mono L xs) _
theorem r_law_514 (y x1 x2 x4 : Int32) : W_law L xs ret (514, lL y, [.inr (some 50), .inl x1, .inl x2, .inr (some 39), .inl x4], s, a, b) = W_law L xs ret (515, lL y, [.inl y, .inr (some 50), .inl x1, .inl x2, .inr (some 39), .inl x4], s, a, b) := mm_W_eq (lw_hk_mono L xs) _
theorem r_law_515 (y x0 x2 x3 x5 : Int32) : W_law L xs ret (515, lL y, [.inl x0, .inr (some 50), .inl x2, .inl x3, .inr (some 39), .inl x5], s, a, b) = W_law L xs ret (516, lL y, [.inl (nI 3), .inl x0, .inr (some 50), .inl x2, .inl x3, .inr (some 39), .inl x5], s, a, b) := mm_W_eq (lw_hk_mono L xs) _
theorem r_law_516 (y x0 x1 x3 x4 x6 : Int32) : W_law L xs ret (516, lL y, [.inl x0, .inl x1, .inr (some 50), .inl x3, .inl x4, .inr (some 39), .inl x6], s, a, b) = W_law L xs ret (517, lL y, [.inl (x1 + x0), .inr (some 50), .inl x3, .inl x4, .inr (some 39), .inl x6], s, a, b) := mm_W_eq (lw_hk_mono L xs) _
theorem r_law_517 (y x0 x2 x3 x5 : Int32) : W_law L xs ret (517, lL y, [.inl x0, .inr (some 50), .inl x2, .inl x3, .inr (some 39), .inl x5], s, a, b) = (vp_in x0 L ∧ W_law L xs ret (518, lL y, [.inl (xs x0.toNatClampNeg), .inl x2, .inl x3, .inr (some 39), .inl x5], s, a, b)) := mm_W_eq (lw_hk_mono L xs) _
theorem r_law_518 (y x0 x1 x2 x4 : Int32) : W_law L xs ret (518, lL y, [.inl x0, .inl x1, .inl x2, .inr (some 39), .inl x4], s, a, b) = (∃ Q0 : Int32 → lS → Prop, lw_PM P_alike [.inr (some 39), .inl x2, .inl x1, .inl x0] s 0 0 (mI Q0) ∧ ∀ r s', Q0 r s' → W_law L xs ret (521, lL y, [.inl r, .inl x4], s', a, b)) := mm_W_eq (lw_hk_mono L xs) _
theorem r_law_521 (y x0 x1 : Int32) : W_law L xs ret (521, lL y, [.inl x0, .inl x1], s, a, b) = ((x1 = x0 → W_law L xs ret (664, lL y, [], s, a, b)) ∧ (¬ x1 = x0 → W_law L xs ret (524, lL y, [], s, a, b))) := mm_W_eq (lw_hk_mono L xs) _
theorem r_law_524 (y : Int32) : W_law L xs ret (524, lL y, [], s, a, b) = W_law L xs ret (525, lL y, [.inl (nI 0)], s, a, b) := mm_W_eq (lw_hk_mono L xs) _
theorem r_law_525 (y x0 : Int32) : W_law L xs ret (525, lL y, [.inl x0], s, a, b) = ((x0 = 0 ∨ x0 = 1) ∧ ret (some (.inl x0)) s) := mm_W_eq (lw_hk_mono L xs) _
theorem r_law_440 (y : Int32) : W_law L xs ret (440, lL y, [], s, a, b) = W_law L xs ret (441, lL y, [.inr (some 0)], s, a, b) := mm_W_eq (lw_hk_mono L xs) _
theorem r_law_441 (y : Int32) : W_law L xs ret (441, lL y, [.inr (some 0)], s, a, b) = W_law L xs ret (442, lL y, [.inr (some 50), .inr (some 0)], s, a, b) := mm_W_eq (lw_hk_mono L xs) _
theorem r_law_442 (y : Int32) : W_law L xs ret (442, lL y, [.inr (some 50), .inr (some 0)], s, a, b) = W_law L xs ret (443, lL y, [.inl y, .inr (some 50), .inr (some 0)], s, a, b) := mm_W_eq (lw_hk_mono L xs) _
theorem r_law_443 (y x0 : Int32) : W_law L xs ret (443, lL y, [.inl x0, .inr (some 50), .inr (some 0)], s, a, b) = W_law L xs ret (444, lL y, [.inl (nI 1), .inl x0, .inr (some 50), .inr (some 0)], s, a, b) := mm_W_eq (lw_hk_mono L xs) _
theorem r_law_444 (y x0 x1 : Int32) : W_law L xs ret (444, lL y, [.inl x0, .inl x1, .inr (some 50), .inr (some 0)], s, a, b) = W_law L xs ret (445, lL y, [.inl (x1 + x0), .inr (some 50), .inr (some 0)], s, a, b) := mm_W_eq (lw_hk_mono L xs) _
theorem r_law_445 (y x0 : Int32) : W_law L xs ret (445, lL y, [.inl x0, .inr (some 50), .inr (some 0)], s, a, b) = (vp_in x0 L ∧ W_law L xs ret (446, lL y, [.inl (xs x0.toNatClampNeg), .inr (some 0)], s, a, b)) := mm_W_eq (lw_hk_mono L xs) _
theorem r_law_446 (y x0 : Int32) : W_law L xs ret (446, lL y, [.inl x0, .inr (some 0)], s, a, b) = W_law L xs ret (447, lL y, [.inr (some 50), .inl x0, .inr (some 0)], s, a, b) := mm_W_eq (lw_hk_mono L xs) _
theorem r_law_447 (y x1 : Int32) : W_law L xs ret (447, lL y, [.inr (some 50), .inl x1, .inr (some 0)], s, a, b) = W_law L xs ret (448, lL y, [.inl y, .inr (some 50), .inl x1, .inr (some 0)], s, a, b) := mm_W_eq (lw_hk_mono L xs) _
theorem r_law_448 (y x0 x2 : Int32) : W_law L xs ret (448, lL y, [.inl x0, .inr (some 50), .inl x2, .inr (some 0)], s, a, b) = W_law L xs ret (449, lL y, [.inl (nI 2), .inl x0, .inr (some 50), .inl x2, .inr (some 0)], s, a, b) := mm_W_eq (lw_hk_mono L xs) _
theorem r_law_449 (y x0 x1 x3 : Int32) : W_law L xs ret (449, lL y, [.inl x0, .inl x1, .inr (some 50), .inl x3, .inr (some 0)], s, a, b) = W_law L xs ret (450, lL y, [.inl (x1 + x0), .inr (some 50), .inl x3, .inr (some 0)], s, a, b) := mm_W_eq (lw_hk_mono L xs) _
theorem r_law_450 (y x0 x2 : Int32) : W_law L xs ret (450, lL y, [.inl x0, .inr (some 50), .inl x2, .inr (some 0)], s, a, b) = (vp_in x0 L ∧ W_law L xs ret (451, lL y, [.inl (xs x0.toNatClampNeg), .inl x2, .inr (some 0)], s, a, b)) := mm_W_eq (lw_hk_mono L xs) _
theorem r_law_451 (y x0 x1 : Int32) : W_law L xs ret (451, lL y, [.inl x0, .inl x1, .inr (some 0)], s, a, b) = W_law L xs ret (452, lL y, [.inr (some 50), .inl x0, .inl x1, .inr (some 0)], s, a, b) := mm_W_eq (lw_hk_mono L xs) _
theorem r_law_452 (y x1 x2 : Int32) : W_law L xs ret (452, lL y, [.inr (some 50), .inl x1, .inl x2, .inr (some 0)], s, a, b) = W_law L xs ret (453, lL y, [.inl y, .inr (some 50), .inl x1, .inl x2, .inr (some 0)], s, a, b) := mm_W_eq (lw_hk_mono L xs) _
theorem r_law_453 (y x0 x2 x3 : Int32) : W_law L xs ret (453, lL y, [.inl x0, .inr (some 50), .inl x2, .inl x3, .inr (some 0)], s, a, b) = W_law L xs ret (454, lL y, [.inl (nI 3), .inl x0, .inr (some 50), .inl x2, .inl x3, .inr (some 0)], s, a, b) := mm_W_eq (lw_hk_mono L xs) _
theorem r_law_454 (y x0 x1 x3 x4 : Int32) : W_law L xs ret (454, lL y, [.inl x0, .inl x1, .inr (some 50), .inl x3, .inl x4, .inr (some 0)], s, a, b) = W_law L xs ret (455, lL y, [.inl (x1 + x0), .inr (some 50), .inl x3, .inl x4, .inr (some 0)], s, a, b) := mm_W_eq (lw_hk_mono L xs) _
theorem r_law_455 (y x0 x2 x3 : Int32) : W_law L xs ret (455, lL y, [.inl x0, .inr (some 50), .inl x2, .inl x3, .inr (some 0)], s, a, b) = (vp_in x0 L ∧ W_law L xs ret (456, lL y, [.inl (xs x0.toNatClampNeg), .inl x2, .inl x3, .inr (some 0)], s, a, b)) := mm_W_eq (lw_hk_mono L xs) _
theorem r_law_456 (y x0 x1 x2 : Int32) : W_law L xs ret (456, lL y, [.inl x0, .inl x1, .inl x2, .inr (some 0)], s, a, b) = (∃ Q0 : Int32 → lS → Prop, lw_PX P_X6_piece [.inr (some 0), .inl x2, .inl x1, .inl x0] s 0 0 (mI Q0) ∧ ∀ r s', Q0 r s' → W_law L xs ret (459, lL y, [.inl r], s', a, b)) := mm_W_eq (lw_hk_mono L xs) _
theorem r_law_459 (y x0 : Int32) : W_law L xs ret (459, lL y, [.inl x0], s, a, b) = W_law L xs ret (460, lL y, [.inr (some 39), .inl x0], s, a, b) := mm_W_eq (lw_hk_mono L xs) _
theorem r_law_460 (y x1 : Int32) : W_law L xs ret (460, lL y, [.inr (some 39), .inl x1], s, a, b) = W_law L xs ret (461, lL y, [.inr (some 50), .inr (some 39), .inl x1], s, a, b) := mm_W_eq (lw_hk_mono L xs) _
theorem r_law_461 (y x2 : Int32) : W_law L xs ret (461, lL y, [.inr (some 50), .inr (some 39), .inl x2], s, a, b) = W_law L xs ret (462, lL y, [.inl y, .inr (some 50), .inr (some 39), .inl x2], s, a, b) := mm_W_eq (lw_hk_mono L xs) _
theorem r_law_462 (y x0 x3 : Int32) : W_law L xs ret (462, lL y, [.inl x0, .inr (some 50), .inr (some 39), .inl x3], s, a, b) = W_law L xs ret (463, lL y, [.inl (nI 1), .inl x0, .inr (some 50), .inr (some 39), .inl x3], s, a, b) := mm_W_eq (lw_hk_mono L xs) _
theorem r_law_463 (y x0 x1 x4 : Int32) : W_law L xs ret (463, lL y, [.inl x0, .inl x1, .inr (some 50), .inr (some 39), .inl x4], s, a, b) = W_law L xs ret (464, lL y, [.inl (x1 + x0), .inr (some 50), .inr (some 39), .inl x4], s, a, b) := mm_W_eq (lw_hk_mono L xs) _
theorem r_law_464 (y x0 x3 : Int32) : W_law L xs ret (464, lL y, [.inl x0, .inr (some 50), .inr (some 39), .inl x3], s, a, b) = (vp_in x0 L ∧ W_law L xs ret (465, lL y, [.inl (xs x0.toNatClampNeg), .inr (some 39), .inl x3], s, a, b)) := mm_W_eq (lw_hk_mono L xs) _
theorem r_law_465 (y x0 x2 : Int32) : W_law L xs ret (465, lL y, [.inl x0, .inr (some 39), .inl x2], s, a, b) = W_law L xs ret (466, lL y, [.inr (some 50), .inl x0, .inr (some 39), .inl x2], s, a, b) := mm_W_eq (lw_hk_mono L xs) _
theorem r_law_466 (y x1 x3 : Int32) : W_law L xs ret (466, lL y, [.inr (some 50), .inl x1, .inr (some 39), .inl x3], s, a, b) = W_law L xs ret (467, lL y, [.inl y, .inr (some 50), .inl x1, .inr (some 39), .inl x3], s, a, b) := mm_W_eq (lw_hk_mono L xs) _
theorem r_law_467 (y x0 x2 x4 : Int32) : W_law L xs ret (467, lL y, [.inl x0, .inr (some 50), .inl x2, .inr (some 39), .inl x4], s, a, b) = W_law L xs ret (468, lL y, [.inl (nI 2), .inl x0, .inr (some 50), .inl x2, .inr (some 39), .inl x4], s, a, b) := mm_W_eq (lw_hk_mono L xs) _
theorem r_law_468 (y x0 x1 x3 x5 : Int32) : W_law L xs ret (468, lL y, [.inl x0, .inl x1, .inr (some 50), .inl x3, .inr (some 39), .inl x5], s, a, b) = W_law L xs ret (469, lL y, [.inl (x1 + x0), .inr (some 50), .inl x3, .inr (some 39), .inl x5], s, a, b) := mm_W_eq (lw_hk_mono L xs) _
theorem r_law_469 (y x0 x2 x4 : Int32) : W_law L xs ret (469, lL y, [.inl x0, .inr (some 50), .inl x2, .inr (some 39), .inl x4], s, a, b) = (vp_in x0 L ∧ W_law L xs ret (470, lL y, [.inl (xs x0.toNatClampNeg), .inl x2, .inr (some 39), .inl x4], s, a, b)) := mm_W_eq (lw_hk_mono L xs) _
theorem r_law_470 (y x0 x1 x3 : Int32) : W_law L xs ret (470, lL y, [.inl x0, .inl x1, .inr (some 39), .inl x3], s, a, b) = W_law L xs ret (471, lL y, [.inr (some 50), .inl x0, .inl x1, .inr (some 39), .inl x3], s, a, b) := mm_W_eq (lw_hk_mono L xs) _
theorem r_law_471 (y x1 x2 x4 : Int32) : W_law L xs ret (471, lL y, [.inr (some 50), .inl x1, .inl x2, .inr (some 39), .inl x4], s, a, b) = W_law L xs ret (472, lL y, [.inl y, .inr (some 50), .inl x1, .inl x2, .inr (some 39), .inl x4], s, a, b) := mm_W_eq (lw_hk_mono L xs) _
theorem r_law_472 (y x0 x2 x3 x5 : Int32) : W_law L xs ret (472, lL y, [.inl x0, .inr (some 50), .inl x2, .inl x3, .inr (some 39), .inl x5], s, a, b) = W_law L xs ret (473, lL y, [.inl (nI 3), .inl x0, .inr (some 50), .inl x2, .inl x3, .inr (some 39), .inl x5], s, a, b) := mm_W_eq (lw_hk_mono L xs) _
theorem r_law_473 (y x0 x1 x3 x4 x6 : Int32) : W_law L xs ret (473, lL y, [.inl x0, .inl x1, .inr (some 50), .inl x3, .inl x4, .inr (some 39), .inl x6], s, a, b) = W_law L xs ret (474, lL y, [.inl (x1 + x0), .inr (some 50), .inl x3, .inl x4, .inr (some 39), .inl x6], s, a, b) := mm_W_eq (lw_hk_mono L xs) _
theorem r_law_474 (y x0 x2 x3 x5 : Int32) : W_law L xs ret (474, lL y, [.inl x0, .inr (some 50), .inl x2, .inl x3, .inr (some 39), .inl x5], s, a, b) = (vp_in x0 L ∧ W_law L xs ret (475, lL y, [.inl (xs x0.toNatClampNeg), .inl x2, .inl x3, .inr (some 39), .inl x5], s, a, b)) := mm_W_eq (lw_hk_mono L xs) _
theorem r_law_475 (y x0 x1 x2 x4 : Int32) : W_law L xs ret (475, lL y, [.inl x0, .inl x1, .inl x2, .inr (some 39), .inl x4], s, a, b) = (∃ Q0 : Int32 → lS → Prop, lw_PM P_piece [.inr (some 39), .inl x2, .inl x1, .inl x0] s 0 0 (mI Q0) ∧ ∀ r s', Q0 r s' → W_law L xs ret (478, lL y, [.inl r, .inl x4], s', a, b)) := mm_W_eq (lw_hk_mono L xs) _
theorem r_law_478 (y x0 x1 : Int32) : W_law L xs ret (478, lL y, [.inl x0, .inl x1], s, a, b) = ((x1 = x0 → W_law L xs ret (664, lL y, [], s, a, b)) ∧ (¬ x1 = x0 → W_law L xs ret (481, lL y, [], s, a, b))) := mm_W_eq (lw_hk_mono L xs) _
theorem r_law_481 (y : Int32) : W_law L xs ret (481, lL y, [], s, a, b) = W_law L xs ret (482, lL y, [.inl (nI 0)], s, a, b) := mm_W_eq (lw_hk_mono L xs) _
theorem r_law_482 (y x0 : Int32) : W_law L xs ret (482, lL y, [.inl x0], s, a, b) = ((x0 = 0 ∨ x0 = 1) ∧ ret (some (.inl x0)) s) := mm_W_eq (lw_hk_mono L xs) _
theorem r_law_407 (y : Int32) : W_law L xs ret (407, lL y, [], s, a, b) = W_law L xs ret (408, lL y, [.inr (some 0)], s, a, b) := mm_W_eq (lw_hk_mono L xs) _
theorem r_law_408 (y : Int32) : W_law L xs ret (408, lL y, [.inr (some 0)], s, a, b) = W_law L xs ret (409, lL y, [.inr (some 50), .inr (some 0)], s, a, b) := mm_W_eq (lw_hk_mono L xs) _
theorem r_law_409 (y : Int32) : W_law L xs ret (409, lL y, [.inr (some 50), .inr (some 0)], s, a, b) = W_law L xs ret (410, lL y, [.inl y, .inr (some 50), .inr (some 0)], s, a, b) := mm_W_eq (lw_hk_mono L xs) _
theorem r_law_410 (y x0 : Int32) : W_law L xs ret (410, lL y, [.inl x0, .inr (some 50), .inr (some 0)], s, a, b) = W_law L xs ret (411, lL y, [.inl (nI 1), .inl x0, .inr (some 50), .inr (some 0)], s, a, b) := mm_W_eq (lw_hk_mono L xs) _
theorem r_law_411 (y x0 x1 : Int32) : W_law L xs ret (411, lL y, [.inl x0, .inl x1, .inr (some 50), .inr (some 0)], s, a, b) = W_law L xs ret (412, lL y, [.inl (x1 + x0), .inr (some 50), .inr (some 0)], s, a, b) := mm_W_eq (lw_hk_mono L xs) _
theorem r_law_412 (y x0 : Int32) : W_law L xs ret (412, lL y, [.inl x0, .inr (some 50), .inr (some 0)], s, a, b) = (vp_in x0 L ∧ W_law L xs ret (413, lL y, [.inl (xs x0.toNatClampNeg), .inr (some 0)], s, a, b)) := mm_W_eq (lw_hk_mono L xs) _
theorem r_law_413 (y x0 : Int32) : W_law L xs ret (413, lL y, [.inl x0, .inr (some 0)], s, a, b) = W_law L xs ret (414, lL y, [.inr (some 50), .inl x0, .inr (some 0)], s, a, b) := mm_W_eq (lw_hk_mono L xs) _
theorem r_law_414 (y x1 : Int32) : W_law L xs ret (414, lL y, [.inr (some 50), .inl x1, .inr (some 0)], s, a, b) = W_law L xs ret (415, lL y, [.inl y, .inr (some 50), .inl x1, .inr (some 0)], s, a, b) := mm_W_eq (lw_hk_mono L xs) _
theorem r_law_415 (y x0 x2 : Int32) : W_law L xs ret (415, lL y, [.inl x0, .inr (some 50), .inl x2, .inr (some 0)], s, a, b) = W_law L xs ret (416, lL y, [.inl (nI 2), .inl x0, .inr (some 50), .inl x2, .inr (some 0)], s, a, b) := mm_W_eq (lw_hk_mono L xs) _
theorem r_law_416 (y x0 x1 x3 : Int32) : W_law L xs ret (416, lL y, [.inl x0, .inl x1, .inr (some 50), .inl x3, .inr (some 0)], s, a, b) = W_law L xs ret (417, lL y, [.inl (x1 + x0), .inr (some 50), .inl x3, .inr (some 0)], s, a, b) := mm_W_eq (lw_hk_mono L xs) _
theorem r_law_417 (y x0 x2 : Int32) : W_law L xs ret (417, lL y, [.inl x0, .inr (some 50), .inl x2, .inr (some 0)], s, a, b) = (vp_in x0 L ∧ W_law L xs ret (418, lL y, [.inl (xs x0.toNatClampNeg), .inl x2, .inr (some 0)], s, a, b)) := mm_W_eq (lw_hk_mono L xs) _
theorem r_law_418 (y x0 x1 : Int32) : W_law L xs ret (418, lL y, [.inl x0, .inl x1, .inr (some 0)], s, a, b) = (∃ Q0 : Int32 → lS → Prop, lw_PX P_X6_told [.inr (some 0), .inl x1, .inl x0] s 0 0 (mI Q0) ∧ ∀ r s', Q0 r s' → W_law L xs ret (421, lL y, [.inl r], s', a, b)) := mm_W_eq (lw_hk_mono L xs) _
theorem r_law_421 (y x0 : Int32) : W_law L xs ret (421, lL y, [.inl x0], s, a, b) = W_law L xs ret (422, lL y, [.inr (some 39), .inl x0], s, a, b) := mm_W_eq (lw_hk_mono L xs) _
theorem r_law_422 (y x1 : Int32) : W_law L xs ret (422, lL y, [.inr (some 39), .inl x1], s, a, b) = W_law L xs ret (423, lL y, [.inr (some 50), .inr (some 39), .inl x1], s, a, b) := mm_W_eq (lw_hk_mono L xs) _
theorem r_law_423 (y x2 : Int32) : W_law L xs ret (423, lL y, [.inr (some 50), .inr (some 39), .inl x2], s, a, b) = W_law L xs ret (424, lL y, [.inl y, .inr (some 50), .inr (some 39), .inl x2], s, a, b) := mm_W_eq (lw_hk_mono L xs) _
theorem r_law_424 (y x0 x3 : Int32) : W_law L xs ret (424, lL y, [.inl x0, .inr (some 50), .inr (some 39), .inl x3], s, a, b) = W_law L xs ret (425, lL y, [.inl (nI 1), .inl x0, .inr (some 50), .inr (some 39), .inl x3], s, a, b) := mm_W_eq (lw_hk_mono L xs) _
theorem r_law_425 (y x0 x1 x4 : Int32) : W_law L xs ret (425, lL y, [.inl x0, .inl x1, .inr (some 50), .inr (some 39), .inl x4], s, a, b) = W_law L xs ret (426, lL y, [.inl (x1 + x0), .inr (some 50), .inr (some 39), .inl x4], s, a, b) := mm_W_eq (lw_hk_mono L xs) _
theorem r_law_426 (y x0 x3 : Int32) : W_law L xs ret (426, lL y, [.inl x0, .inr (some 50), .inr (some 39), .inl x3], s, a, b) = (vp_in x0 L ∧ W_law L xs ret (427, lL y, [.inl (xs x0.toNatClampNeg), .inr (some 39), .inl x3], s, a, b)) := mm_W_eq (lw_hk_mono L xs) _
theorem r_law_427 (y x0 x2 : Int32) : W_law L xs ret (427, lL y, [.inl x0, .inr (some 39), .inl x2], s, a, b) = W_law L xs ret (428, lL y, [.inr (some 50), .inl x0, .inr (some 39), .inl x2], s, a, b) := mm_W_eq (lw_hk_mono L xs) _
theorem r_law_428 (y x1 x3 : Int32) : W_law L xs ret (428, lL y, [.inr (some 50), .inl x1, .inr (some 39), .inl x3], s, a, b) = W_law L xs ret (429, lL y, [.inl y, .inr (some 50), .inl x1, .inr (some 39), .inl x3], s, a, b) := mm_W_eq (lw_hk_mono L xs) _
theorem r_law_429 (y x0 x2 x4 : Int32) : W_law L xs ret (429, lL y, [.inl x0, .inr (some 50), .inl x2, .inr (some 39), .inl x4], s, a, b) = W_law L xs ret (430, lL y, [.inl (nI 2), .inl x0, .inr (some 50), .inl x2, .inr (some 39), .inl x4], s, a, b) := mm_W_eq (lw_hk_mono L xs) _
theorem r_law_430 (y x0 x1 x3 x5 : Int32) : W_law L xs ret (430, lL y, [.inl x0, .inl x1, .inr (some 50), .inl x3, .inr (some 39), .inl x5], s, a, b) = W_law L xs ret (431, lL y, [.inl (x1 + x0), .inr (some 50), .inl x3, .inr (some 39), .inl x5], s, a, b) := mm_W_eq (lw_hk_mono L xs) _
theorem r_law_431 (y x0 x2 x4 : Int32) : W_law L xs ret (431, lL y, [.inl x0, .inr (some 50), .inl x2, .inr (some 39), .inl x4], s, a, b) = (vp_in x0 L ∧ W_law L xs ret (432, lL y, [.inl (xs x0.toNatClampNeg), .inl x2, .inr (some 39), .inl x4], s, a, b)) := mm_W_eq (lw_hk_mono L xs) _
theorem r_law_432 (y x0 x1 x3 : Int32) : W_law L xs ret (432, lL y, [.inl x0, .inl x1, .inr (some 39), .inl x3], s, a, b) = (∃ Q0 : Int32 → lS → Prop, lw_PM P_told [.inr (some 39), .inl x1, .inl x0] s 0 0 (mI Q0) ∧ ∀ r s', Q0 r s' → W_law L xs ret (435, lL y, [.inl r, .inl x3], s', a, b)) := mm_W_eq (lw_hk_mono L xs) _
theorem r_law_435 (y x0 x1 : Int32) : W_law L xs ret (435, lL y, [.inl x0, .inl x1], s, a, b) = ((x1 = x0 → W_law L xs ret (664, lL y, [], s, a, b)) ∧ (¬ x1 = x0 → W_law L xs ret (438, lL y, [], s, a, b))) := mm_W_eq (lw_hk_mono L xs) _
theorem r_law_438 (y : Int32) : W_law L xs ret (438, lL y, [], s, a, b) = W_law L xs ret (439, lL y, [.inl (nI 0)], s, a, b) := mm_W_eq (lw_hk_mono L xs) _
theorem r_law_439 (y x0 : Int32) : W_law L xs ret (439, lL y, [.inl x0], s, a, b) = ((x0 = 0 ∨ x0 = 1) ∧ ret (some (.inl x0)) s) := mm_W_eq (lw_hk_mono L xs) _
theorem r_law_384 (y : Int32) : W_law L xs ret (384, lL y, [], s, a, b) = W_law L xs ret (385, lL y, [.inr (some 0)], s, a, b) := mm_W_eq (lw_hk_mono L xs) _
theorem r_law_385 (y : Int32) : W_law L xs ret (385, lL y, [.inr (some 0)], s, a, b) = W_law L xs ret (386, lL y, [.inr (some 50), .inr (some 0)], s, a, b) := mm_W_eq (lw_hk_mono L xs) _
theorem r_law_386 (y : Int32) : W_law L xs ret (386, lL y, [.inr (some 50), .inr (some 0)], s, a, b) = W_law L xs ret (387, lL y, [.inl y, .inr (some 50), .inr (some 0)], s, a, b) := mm_W_eq (lw_hk_mono L xs) _
theorem r_law_387 (y x0 : Int32) : W_law L xs ret (387, lL y, [.inl x0, .inr (some 50), .inr (some 0)], s, a, b) = W_law L xs ret (388, lL y, [.inl (nI 1), .inl x0, .inr (some 50), .inr (some 0)], s, a, b) := mm_W_eq (lw_hk_mono L xs) _
theorem r_law_388 (y x0 x1 : Int32) : W_law L xs ret (388, lL y, [.inl x0, .inl x1, .inr (some 50), .inr (some 0)], s, a, b) = W_law L xs ret (389, lL y, [.inl (x1 + x0), .inr (some 50), .inr (some 0)], s, a, b) := mm_W_eq (lw_hk_mono L xs) _
theorem r_law_389 (y x0 : Int32) : W_law L xs ret (389, lL y, [.inl x0, .inr (some 50), .inr (some 0)], s, a, b) = (vp_in x0 L ∧ W_law L xs ret (390, lL y, [.inl (xs x0.toNatClampNeg), .inr (some 0)], s, a, b)) := mm_W_eq (lw_hk_mono L xs) _
theorem r_law_390 (y x0 : Int32) : W_law L xs ret (390, lL y, [.inl x0, .inr (some 0)], s, a, b) = (∃ Q0 : Int32 → lS → Prop, lw_PX P_X6_hash [.inr (some 0), .inl x0] s 0 0 (mI Q0) ∧ ∀ r s', Q0 r s' → W_law L xs ret (393, lL y, [.inl r], s', a, b)) := mm_W_eq (lw_hk_mono L xs) _
theorem r_law_393 (y x0 : Int32) : W_law L xs ret (393, lL y, [.inl x0], s, a, b) = W_law L xs ret (394, lL y, [.inr (some 39), .inl x0], s, a, b) := mm_W_eq (lw_hk_mono L xs) _
theorem r_law_394 (y x1 : Int32) : W_law L xs ret (394, lL y, [.inr (some 39), .inl x1], s, a, b) = W_law L xs ret (395, lL y, [.inr (some 50), .inr (some 39), .inl x1], s, a, b) := mm_W_eq (lw_hk_mono L xs) _
theorem r_law_395 (y x2 : Int32) : W_law L xs ret (395, lL y, [.inr (some 50), .inr (some 39), .inl x2], s, a, b) = W_law L xs ret (396, lL y, [.inl y, .inr (some 50), .inr (some 39), .inl x2], s, a, b) := mm_W_eq (lw_hk_mono L xs) _
theorem r_law_396 (y x0 x3 : Int32) : W_law L xs ret (396, lL y, [.inl x0, .inr (some 50), .inr (some 39), .inl x3], s, a, b) = W_law L xs ret (397, lL y, [.inl (nI 1), .inl x0, .inr (some 50), .inr (some 39), .inl x3], s, a, b) := mm_W_eq (lw_hk_mono L xs) _
theorem r_law_397 (y x0 x1 x4 : Int32) : W_law L xs ret (397, lL y, [.inl x0, .inl x1, .inr (some 50), .inr (some 39), .inl x4], s, a, b) = W_law L xs ret (398, lL y, [.inl (x1 + x0), .inr (some 50), .inr (some 39), .inl x4], s, a, b) := mm_W_eq (lw_hk_mono L xs) _
theorem r_law_398 (y x0 x3 : Int32) : W_law L xs ret (398, lL y, [.inl x0, .inr (some 50), .inr (some 39), .inl x3], s, a, b) = (vp_in x0 L ∧ W_law L xs ret (399, lL y, [.inl (xs x0.toNatClampNeg), .inr (some 39), .inl x3], s, a, b)) := mm_W_eq (lw_hk_mono L xs) _
theorem r_law_399 (y x0 x2 : Int32) : W_law L xs ret (399, lL y, [.inl x0, .inr (some 39), .inl x2], s, a, b) = (∃ Q0 : Int32 → lS → Prop, lw_PM P_hash [.inr (some 39), .inl x0] s 0 0 (mI Q0) ∧ ∀ r s', Q0 r s' → W_law L xs ret (402, lL y, [.inl r, .inl x2], s', a, b)) := mm_W_eq (lw_hk_mono L xs) _
theorem r_law_402 (y x0 x1 : Int32) : W_law L xs ret (402, lL y, [.inl x0, .inl x1], s, a, b) = ((x1 = x0 → W_law L xs ret (664, lL y, [], s, a, b)) ∧ (¬ x1 = x0 → W_law L xs ret (405, lL y, [], s, a, b))) := mm_W_eq (lw_hk_mono L xs) _
theorem r_law_405 (y : Int32) : W_law L xs ret (405, lL y, [], s, a, b) = W_law L xs ret (406, lL y, [.inl (nI 0)], s, a, b) := mm_W_eq (lw_hk_mono L xs) _
theorem r_law_406 (y x0 : Int32) : W_law L xs ret (406, lL y, [.inl x0], s, a, b) = ((x0 = 0 ∨ x0 = 1) ∧ ret (some (.inl x0)) s) := mm_W_eq (lw_hk_mono L xs) _
theorem r_law_351 (y : Int32) : W_law L xs ret (351, lL y, [], s, a, b) = W_law L xs ret (352, lL y, [.inr (some 0)], s, a, b) := mm_W_eq (lw_hk_mono L xs) _
theorem r_law_352 (y : Int32) : W_law L xs ret (352, lL y, [.inr (some 0)], s, a, b) = W_law L xs ret (353, lL y, [.inr (some 50), .inr (some 0)], s, a, b) := mm_W_eq (lw_hk_mono L xs) _
theorem r_law_353 (y : Int32) : W_law L xs ret (353, lL y, [.inr (some 50), .inr (some 0)], s, a, b) = W_law L xs ret (354, lL y, [.inl y, .inr (some 50), .inr (some 0)], s, a, b) := mm_W_eq (lw_hk_mono L xs) _
theorem r_law_354 (y x0 : Int32) : W_law L xs ret (354, lL y, [.inl x0, .inr (some 50), .inr (some 0)], s, a, b) = W_law L xs ret (355, lL y, [.inl (nI 1), .inl x0, .inr (some 50), .inr (some 0)], s, a, b) := mm_W_eq (lw_hk_mono L xs) _
theorem r_law_355 (y x0 x1 : Int32) : W_law L xs ret (355, lL y, [.inl x0, .inl x1, .inr (some 50), .inr (some 0)], s, a, b) = W_law L xs ret (356, lL y, [.inl (x1 + x0), .inr (some 50), .inr (some 0)], s, a, b) := mm_W_eq (lw_hk_mono L xs) _
theorem r_law_356 (y x0 : Int32) : W_law L xs ret (356, lL y, [.inl x0, .inr (some 50), .inr (some 0)], s, a, b) = (vp_in x0 L ∧ W_law L xs ret (357, lL y, [.inl (xs x0.toNatClampNeg), .inr (some 0)], s, a, b)) := mm_W_eq (lw_hk_mono L xs) _
theorem r_law_357 (y x0 : Int32) : W_law L xs ret (357, lL y, [.inl x0, .inr (some 0)], s, a, b) = W_law L xs ret (358, lL y, [.inr (some 50), .inl x0, .inr (some 0)], s, a, b) := mm_W_eq (lw_hk_mono L xs) _
theorem r_law_358 (y x1 : Int32) : W_law L xs ret (358, lL y, [.inr (some 50), .inl x1, .inr (some 0)], s, a, b) = W_law L xs ret (359, lL y, [.inl y, .inr (some 50), .inl x1, .inr (some 0)], s, a, b) := mm_W_eq (lw_hk_mono L xs) _
theorem r_law_359 (y x0 x2 : Int32) : W_law L xs ret (359, lL y, [.inl x0, .inr (some 50), .inl x2, .inr (some 0)], s, a, b) = W_law L xs ret (360, lL y, [.inl (nI 2), .inl x0, .inr (some 50), .inl x2, .inr (some 0)], s, a, b) := mm_W_eq (lw_hk_mono L xs) _
theorem r_law_360 (y x0 x1 x3 : Int32) : W_law L xs ret (360, lL y, [.inl x0, .inl x1, .inr (some 50), .inl x3, .inr (some 0)], s, a, b) = W_law L xs ret (361, lL y, [.inl (x1 + x0), .inr (some 50), .inl x3, .inr (some 0)], s, a, b) := mm_W_eq (lw_hk_mono L xs) _
theorem r_law_361 (y x0 x2 : Int32) : W_law L xs ret (361, lL y, [.inl x0, .inr (some 50), .inl x2, .inr (some 0)], s, a, b) = (vp_in x0 L ∧ W_law L xs ret (362, lL y, [.inl (xs x0.toNatClampNeg), .inl x2, .inr (some 0)], s, a, b)) := mm_W_eq (lw_hk_mono L xs) _
theorem r_law_362 (y x0 x1 : Int32) : W_law L xs ret (362, lL y, [.inl x0, .inl x1, .inr (some 0)], s, a, b) = (∃ Q0 : Int32 → lS → Prop, lw_PX P_X6_sign [.inr (some 0), .inl x1, .inl x0] s 0 0 (mI Q0) ∧ ∀ r s', Q0 r s' → W_law L xs ret (365, lL y, [.inl r], s', a, b)) := mm_W_eq (lw_hk_mono L xs) _
theorem r_law_365 (y x0 : Int32) : W_law L xs ret (365, lL y, [.inl x0], s, a, b) = W_law L xs ret (366, lL y, [.inr (some 39), .inl x0], s, a, b) := mm_W_eq (lw_hk_mono L xs) _
theorem r_law_366 (y x1 : Int32) : W_law L xs ret (366, lL y, [.inr (some 39), .inl x1], s, a, b) = W_law L xs ret (367, lL y, [.inr (some 50), .inr (some 39), .inl x1], s, a, b) := mm_W_eq (lw_hk_mono L xs) _
theorem r_law_367 (y x2 : Int32) : W_law L xs ret (367, lL y, [.inr (some 50), .inr (some 39), .inl x2], s, a, b) = W_law L xs ret (368, lL y, [.inl y, .inr (some 50), .inr (some 39), .inl x2], s, a, b) := mm_W_eq (lw_hk_mono L xs) _
theorem r_law_368 (y x0 x3 : Int32) : W_law L xs ret (368, lL y, [.inl x0, .inr (some 50), .inr (some 39), .inl x3], s, a, b) = W_law L xs ret (369, lL y, [.inl (nI 1), .inl x0, .inr (some 50), .inr (some 39), .inl x3], s, a, b) := mm_W_eq (lw_hk_mono L xs) _
theorem r_law_369 (y x0 x1 x4 : Int32) : W_law L xs ret (369, lL y, [.inl x0, .inl x1, .inr (some 50), .inr (some 39), .inl x4], s, a, b) = W_law L xs ret (370, lL y, [.inl (x1 + x0), .inr (some 50), .inr (some 39), .inl x4], s, a, b) := mm_W_eq (lw_hk_mono L xs) _
theorem r_law_370 (y x0 x3 : Int32) : W_law L xs ret (370, lL y, [.inl x0, .inr (some 50), .inr (some 39), .inl x3], s, a, b) = (vp_in x0 L ∧ W_law L xs ret (371, lL y, [.inl (xs x0.toNatClampNeg), .inr (some 39), .inl x3], s, a, b)) := mm_W_eq (lw_hk_mono L xs) _
theorem r_law_371 (y x0 x2 : Int32) : W_law L xs ret (371, lL y, [.inl x0, .inr (some 39), .inl x2], s, a, b) = W_law L xs ret (372, lL y, [.inr (some 50), .inl x0, .inr (some 39), .inl x2], s, a, b) := mm_W_eq (lw_hk_mono L xs) _
theorem r_law_372 (y x1 x3 : Int32) : W_law L xs ret (372, lL y, [.inr (some 50), .inl x1, .inr (some 39), .inl x3], s, a, b) = W_law L xs ret (373, lL y, [.inl y, .inr (some 50), .inl x1, .inr (some 39), .inl x3], s, a, b) := mm_W_eq (lw_hk_mono L xs) _
theorem r_law_373 (y x0 x2 x4 : Int32) : W_law L xs ret (373, lL y, [.inl x0, .inr (some 50), .inl x2, .inr (some 39), .inl x4], s, a, b) = W_law L xs ret (374, lL y, [.inl (nI 2), .inl x0, .inr (some 50), .inl x2, .inr (some 39), .inl x4], s, a, b) := mm_W_eq (lw_hk_mono L xs) _
theorem r_law_374 (y x0 x1 x3 x5 : Int32) : W_law L xs ret (374, lL y, [.inl x0, .inl x1, .inr (some 50), .inl x3, .inr (some 39), .inl x5], s, a, b) = W_law L xs ret (375, lL y, [.inl (x1 + x0), .inr (some 50), .inl x3, .inr (some 39), .inl x5], s, a, b) := mm_W_eq (lw_hk_mono L xs) _
theorem r_law_375 (y x0 x2 x4 : Int32) : W_law L xs ret (375, lL y, [.inl x0, .inr (some 50), .inl x2, .inr (some 39), .inl x4], s, a, b) = (vp_in x0 L ∧ W_law L xs ret (376, lL y, [.inl (xs x0.toNatClampNeg), .inl x2, .inr (some 39), .inl x4], s, a, b)) := mm_W_eq (lw_hk_mono L xs) _
theorem r_law_376 (y x0 x1 x3 : Int32) : W_law L xs ret (376, lL y, [.inl x0, .inl x1, .inr (some 39), .inl x3], s, a, b) = (∃ Q0 : Int32 → lS → Prop, lw_PM P_sign [.inr (some 39), .inl x1, .inl x0] s 0 0 (mI Q0) ∧ ∀ r s', Q0 r s' → W_law L xs ret (379, lL y, [.inl r, .inl x3], s', a, b)) := mm_W_eq (lw_hk_mono L xs) _
theorem r_law_379 (y x0 x1 : Int32) : W_law L xs ret (379, lL y, [.inl x0, .inl x1], s, a, b) = ((x1 = x0 → W_law L xs ret (664, lL y, [], s, a, b)) ∧ (¬ x1 = x0 → W_law L xs ret (382, lL y, [], s, a, b))) := mm_W_eq (lw_hk_mono L xs) _
theorem r_law_382 (y : Int32) : W_law L xs ret (382, lL y, [], s, a, b) = W_law L xs ret (383, lL y, [.inl (nI 0)], s, a, b) := mm_W_eq (lw_hk_mono L xs) _
theorem r_law_383 (y x0 : Int32) : W_law L xs ret (383, lL y, [.inl x0], s, a, b) = ((x0 = 0 ∨ x0 = 1) ∧ ret (some (.inl x0)) s) := mm_W_eq (lw_hk_mono L xs) _
theorem r_law_328 (y : Int32) : W_law L xs ret (328, lL y, [], s, a, b) = W_law L xs ret (329, lL y, [.inr (some 0)], s, a, b) := mm_W_eq (lw_hk_mono L xs) _
theorem r_law_329 (y : Int32) : W_law L xs ret (329, lL y, [.inr (some 0)], s, a, b) = W_law L xs ret (330, lL y, [.inr (some 50), .inr (some 0)], s, a, b) := mm_W_eq (lw_hk_mono L xs) _
theorem r_law_330 (y : Int32) : W_law L xs ret (330, lL y, [.inr (some 50), .inr (some 0)], s, a, b) = W_law L xs ret (331, lL y, [.inl y, .inr (some 50), .inr (some 0)], s, a, b) := mm_W_eq (lw_hk_mono L xs) _
theorem r_law_331 (y x0 : Int32) : W_law L xs ret (331, lL y, [.inl x0, .inr (some 50), .inr (some 0)], s, a, b) = W_law L xs ret (332, lL y, [.inl (nI 1), .inl x0, .inr (some 50), .inr (some 0)], s, a, b) := mm_W_eq (lw_hk_mono L xs) _
theorem r_law_332 (y x0 x1 : Int32) : W_law L xs ret (332, lL y, [.inl x0, .inl x1, .inr (some 50), .inr (some 0)], s, a, b) = W_law L xs ret (333, lL y, [.inl (x1 + x0), .inr (some 50), .inr (some 0)], s, a, b) := mm_W_eq (lw_hk_mono L xs) _
theorem r_law_333 (y x0 : Int32) : W_law L xs ret (333, lL y, [.inl x0, .inr (some 50), .inr (some 0)], s, a, b) = (vp_in x0 L ∧ W_law L xs ret (334, lL y, [.inl (xs x0.toNatClampNeg), .inr (some 0)], s, a, b)) := mm_W_eq (lw_hk_mono L xs) _
theorem r_law_334 (y x0 : Int32) : W_law L xs ret (334, lL y, [.inl x0, .inr (some 0)], s, a, b) = (∃ (ca cb : Nat) (Q0 : Int32 → lS → Prop), ca ≤ a ∧ cb ≤ b ∧ lw_PX P_X6_flat [.inr (some 0), .inl x0] s ca cb (mI Q0) ∧ ∀ r s', Q0 r s' → W_law L xs ret (337, lL y, [.inl r], s', a - ca, b - cb)) := mm_W_eq (lw_hk_mono L xs) _
theorem r_law_337 (y x0 : Int32) : W_law L xs ret (337, lL y, [.inl x0], s, a, b) = W_law L xs ret (338, lL y, [.inr (some 39), .inl x0], s, a, b) := mm_W_eq (lw_hk_mono L xs) _
theorem r_law_338 (y x1 : Int32) : W_law L xs ret (338, lL y, [.inr (some 39), .inl x1], s, a, b) = W_law L xs ret (339, lL y, [.inr (some 50), .inr (some 39), .inl x1], s, a, b) := mm_W_eq (lw_hk_mono L xs) _
theorem r_law_339 (y x2 : Int32) : W_law L xs ret (339, lL y, [.inr (some 50), .inr (some 39), .inl x2], s, a, b) = W_law L xs ret (340, lL y, [.inl y, .inr (some 50), .inr (some 39), .inl x2], s, a, b) := mm_W_eq (lw_hk_mono L xs) _
theorem r_law_340 (y x0 x3 : Int32) : W_law L xs ret (340, lL y, [.inl x0, .inr (some 50), .inr (some 39), .inl x3], s, a, b) = W_law L xs ret (341, lL y, [.inl (nI 1), .inl x0, .inr (some 50), .inr (some 39), .inl x3], s, a, b) := mm_W_eq (lw_hk_mono L xs) _
theorem r_law_341 (y x0 x1 x4 : Int32) : W_law L xs ret (341, lL y, [.inl x0, .inl x1, .inr (some 50), .inr (some 39), .inl x4], s, a, b) = W_law L xs ret (342, lL y, [.inl (x1 + x0), .inr (some 50), .inr (some 39), .inl x4], s, a, b) := mm_W_eq (lw_hk_mono L xs) _
theorem r_law_342 (y x0 x3 : Int32) : W_law L xs ret (342, lL y, [.inl x0, .inr (some 50), .inr (some 39), .inl x3], s, a, b) = (vp_in x0 L ∧ W_law L xs ret (343, lL y, [.inl (xs x0.toNatClampNeg), .inr (some 39), .inl x3], s, a, b)) := mm_W_eq (lw_hk_mono L xs) _
theorem r_law_343 (y x0 x2 : Int32) : W_law L xs ret (343, lL y, [.inl x0, .inr (some 39), .inl x2], s, a, b) = (∃ Q0 : Int32 → lS → Prop, lw_PM P_flat [.inr (some 39), .inl x0] s 0 0 (mI Q0) ∧ ∀ r s', Q0 r s' → W_law L xs ret (346, lL y, [.inl r, .inl x2], s', a, b)) := mm_W_eq (lw_hk_mono L xs) _
theorem r_law_346 (y x0 x1 : Int32) : W_law L xs ret (346, lL y, [.inl x0, .inl x1], s, a, b) = ((x1 = x0 → W_law L xs ret (664, lL y, [], s, a, b)) ∧ (¬ x1 = x0 → W_law L xs ret (349, lL y, [], s, a, b))) := mm_W_eq (lw_hk_mono L xs) _
theorem r_law_349 (y : Int32) : W_law L xs ret (349, lL y, [], s, a, b) = W_law L xs ret (350, lL y, [.inl (nI 0)], s, a, b) := mm_W_eq (lw_hk_mono L xs) _
theorem r_law_350 (y x0 : Int32) : W_law L xs ret (350, lL y, [.inl x0], s, a, b) = ((x0 = 0 ∨ x0 = 1) ∧ ret (some (.inl x0)) s) := mm_W_eq (lw_hk_mono L xs) _
theorem r_law_275 (y : Int32) : W_law L xs ret (275, lL y, [], s, a, b) = W_law L xs ret (276, lL y, [.inr (some 0)], s, a, b) := mm_W_eq (lw_hk_mono L xs) _
theorem r_law_276 (y : Int32) : W_law L xs ret (276, lL y, [.inr (some 0)], s, a, b) = W_law L xs ret (277, lL y, [.inr (some 50), .inr (some 0)], s, a, b) := mm_W_eq (lw_hk_mono L xs) _
theorem r_law_277 (y : Int32) : W_law L xs ret (277, lL y, [.inr (some 50), .inr (some 0)], s, a, b) = W_law L xs ret (278, lL y, [.inl y, .inr (some 50), .inr (some 0)], s, a, b) := mm_W_eq (lw_hk_mono L xs) _
theorem r_law_278 (y x0 : Int32) : W_law L xs ret (278, lL y, [.inl x0, .inr (some 50), .inr (some 0)], s, a, b) = W_law L xs ret (279, lL y, [.inl (nI 1), .inl x0, .inr (some 50), .inr (some 0)], s, a, b) := mm_W_eq (lw_hk_mono L xs) _
theorem r_law_279 (y x0 x1 : Int32) : W_law L xs ret (279, lL y, [.inl x0, .inl x1, .inr (some 50), .inr (some 0)], s, a, b) = W_law L xs ret (280, lL y, [.inl (x1 + x0), .inr (some 50), .inr (some 0)], s, a, b) := mm_W_eq (lw_hk_mono L xs) _
theorem r_law_280 (y x0 : Int32) : W_law L xs ret (280, lL y, [.inl x0, .inr (some 50), .inr (some 0)], s, a, b) = (vp_in x0 L ∧ W_law L xs ret (281, lL y, [.inl (xs x0.toNatClampNeg), .inr (some 0)], s, a, b)) := mm_W_eq (lw_hk_mono L xs) _
theorem r_law_281 (y x0 : Int32) : W_law L xs ret (281, lL y, [.inl x0, .inr (some 0)], s, a, b) = W_law L xs ret (282, lL y, [.inr (some 50), .inl x0, .inr (some 0)], s, a, b) := mm_W_eq (lw_hk_mono L xs) _
theorem r_law_282 (y x1 : Int32) : W_law L xs ret (282, lL y, [.inr (some 50), .inl x1, .inr (some 0)], s, a, b) = W_law L xs ret (283, lL y, [.inl y, .inr (some 50), .inl x1, .inr (some 0)], s, a, b) := mm_W_eq (lw_hk_mono L xs) _
theorem r_law_283 (y x0 x2 : Int32) : W_law L xs ret (283, lL y, [.inl x0, .inr (some 50), .inl x2, .inr (some 0)], s, a, b) = W_law L xs ret (284, lL y, [.inl (nI 2), .inl x0, .inr (some 50), .inl x2, .inr (some 0)], s, a, b) := mm_W_eq (lw_hk_mono L xs) _
theorem r_law_284 (y x0 x1 x3 : Int32) : W_law L xs ret (284, lL y, [.inl x0, .inl x1, .inr (some 50), .inl x3, .inr (some 0)], s, a, b) = W_law L xs ret (285, lL y, [.inl (x1 + x0), .inr (some 50), .inl x3, .inr (some 0)], s, a, b) := mm_W_eq (lw_hk_mono L xs) _
theorem r_law_285 (y x0 x2 : Int32) : W_law L xs ret (285, lL y, [.inl x0, .inr (some 50), .inl x2, .inr (some 0)], s, a, b) = (vp_in x0 L ∧ W_law L xs ret (286, lL y, [.inl (xs x0.toNatClampNeg), .inl x2, .inr (some 0)], s, a, b)) := mm_W_eq (lw_hk_mono L xs) _
theorem r_law_286 (y x0 x1 : Int32) : W_law L xs ret (286, lL y, [.inl x0, .inl x1, .inr (some 0)], s, a, b) = W_law L xs ret (287, lL y, [.inr (some 50), .inl x0, .inl x1, .inr (some 0)], s, a, b) := mm_W_eq (lw_hk_mono L xs) _
theorem r_law_287 (y x1 x2 : Int32) : W_law L xs ret (287, lL y, [.inr (some 50), .inl x1, .inl x2, .inr (some 0)], s, a, b) = W_law L xs ret (288, lL y, [.inl y, .inr (some 50), .inl x1, .inl x2, .inr (some 0)], s, a, b) := mm_W_eq (lw_hk_mono L xs) _
theorem r_law_288 (y x0 x2 x3 : Int32) : W_law L xs ret (288, lL y, [.inl x0, .inr (some 50), .inl x2, .inl x3, .inr (some 0)], s, a, b) = W_law L xs ret (289, lL y, [.inl (nI 3), .inl x0, .inr (some 50), .inl x2, .inl x3, .inr (some 0)], s, a, b) := mm_W_eq (lw_hk_mono L xs) _
theorem r_law_289 (y x0 x1 x3 x4 : Int32) : W_law L xs ret (289, lL y, [.inl x0, .inl x1, .inr (some 50), .inl x3, .inl x4, .inr (some 0)], s, a, b) = W_law L xs ret (290, lL y, [.inl (x1 + x0), .inr (some 50), .inl x3, .inl x4, .inr (some 0)], s, a, b) := mm_W_eq (lw_hk_mono L xs) _
theorem r_law_290 (y x0 x2 x3 : Int32) : W_law L xs ret (290, lL y, [.inl x0, .inr (some 50), .inl x2, .inl x3, .inr (some 0)], s, a, b) = (vp_in x0 L ∧ W_law L xs ret (291, lL y, [.inl (xs x0.toNatClampNeg), .inl x2, .inl x3, .inr (some 0)], s, a, b)) := mm_W_eq (lw_hk_mono L xs) _
theorem r_law_291 (y x0 x1 x2 : Int32) : W_law L xs ret (291, lL y, [.inl x0, .inl x1, .inl x2, .inr (some 0)], s, a, b) = W_law L xs ret (292, lL y, [.inr (some 50), .inl x0, .inl x1, .inl x2, .inr (some 0)], s, a, b) := mm_W_eq (lw_hk_mono L xs) _
theorem r_law_292 (y x1 x2 x3 : Int32) : W_law L xs ret (292, lL y, [.inr (some 50), .inl x1, .inl x2, .inl x3, .inr (some 0)], s, a, b) = W_law L xs ret (293, lL y, [.inl y, .inr (some 50), .inl x1, .inl x2, .inl x3, .inr (some 0)], s, a, b) := mm_W_eq (lw_hk_mono L xs) _
theorem r_law_293 (y x0 x2 x3 x4 : Int32) : W_law L xs ret (293, lL y, [.inl x0, .inr (some 50), .inl x2, .inl x3, .inl x4, .inr (some 0)], s, a, b) = W_law L xs ret (294, lL y, [.inl (nI 4), .inl x0, .inr (some 50), .inl x2, .inl x3, .inl x4, .inr (some 0)], s, a, b) := mm_W_eq (lw_hk_mono L xs) _
theorem r_law_294 (y x0 x1 x3 x4 x5 : Int32) : W_law L xs ret (294, lL y, [.inl x0, .inl x1, .inr (some 50), .inl x3, .inl x4, .inl x5, .inr (some 0)], s, a, b) = W_law L xs ret (295, lL y, [.inl (x1 + x0), .inr (some 50), .inl x3, .inl x4, .inl x5, .inr (some 0)], s, a, b) := mm_W_eq (lw_hk_mono L xs) _
theorem r_law_295 (y x0 x2 x3 x4 : Int32) : W_law L xs ret (295, lL y, [.inl x0, .inr (some 50), .inl x2, .inl x3, .inl x4, .inr (some 0)], s, a, b) = (vp_in x0 L ∧ W_law L xs ret (296, lL y, [.inl (xs x0.toNatClampNeg), .inl x2, .inl x3, .inl x4, .inr (some 0)], s, a, b)) := mm_W_eq (lw_hk_mono L xs) _
theorem r_law_296 (y x0 x1 x2 x3 : Int32) : W_law L xs ret (296, lL y, [.inl x0, .inl x1, .inl x2, .inl x3, .inr (some 0)], s, a, b) = (∃ (ca cb : Nat) (Q0 : Int32 → lS → Prop), ca ≤ a ∧ cb ≤ b ∧ lw_PX P_X6_cut [.inr (some 0), .inl x3, .inl x2, .inl x1, .inl x0] s ca cb (mI Q0) ∧ ∀ r s', Q0 r s' → W_law L xs ret (299, lL y, [.inl r], s', a - ca, b - cb)) := mm_W_eq (lw_hk_mono L xs) _
theorem r_law_299 (y x0 : Int32) : W_law L xs ret (299, lL y, [.inl x0], s, a, b) = W_law L xs ret (300, lL y, [.inr (some 39), .inl x0], s, a, b) := mm_W_eq (lw_hk_mono L xs) _
theorem r_law_300 (y x1 : Int32) : W_law L xs ret (300, lL y, [.inr (some 39), .inl x1], s, a, b) = W_law L xs ret (301, lL y, [.inr (some 50), .inr (some 39), .inl x1], s, a, b) := mm_W_eq (lw_hk_mono L xs) _
theorem r_law_301 (y x2 : Int32) : W_law L xs ret (301, lL y, [.inr (some 50), .inr (some 39), .inl x2], s, a, b) = W_law L xs ret (302, lL y, [.inl y, .inr (some 50), .inr (some 39), .inl x2], s, a, b) := mm_W_eq (lw_hk_mono L xs) _
theorem r_law_302 (y x0 x3 : Int32) : W_law L xs ret (302, lL y, [.inl x0, .inr (some 50), .inr (some 39), .inl x3], s, a, b) = W_law L xs ret (303, lL y, [.inl (nI 1), .inl x0, .inr (some 50), .inr (some 39), .inl x3], s, a, b) := mm_W_eq (lw_hk_mono L xs) _
theorem r_law_303 (y x0 x1 x4 : Int32) : W_law L xs ret (303, lL y, [.inl x0, .inl x1, .inr (some 50), .inr (some 39), .inl x4], s, a, b) = W_law L xs ret (304, lL y, [.inl (x1 + x0), .inr (some 50), .inr (some 39), .inl x4], s, a, b) := mm_W_eq (lw_hk_mono L xs) _
theorem r_law_304 (y x0 x3 : Int32) : W_law L xs ret (304, lL y, [.inl x0, .inr (some 50), .inr (some 39), .inl x3], s, a, b) = (vp_in x0 L ∧ W_law L xs ret (305, lL y, [.inl (xs x0.toNatClampNeg), .inr (some 39), .inl x3], s, a, b)) := mm_W_eq (lw_hk_mono L xs) _
theorem r_law_305 (y x0 x2 : Int32) : W_law L xs ret (305, lL y, [.inl x0, .inr (some 39), .inl x2], s, a, b) = W_law L xs ret (306, lL y, [.inr (some 50), .inl x0, .inr (some 39), .inl x2], s, a, b) := mm_W_eq (lw_hk_mono L xs) _
theorem r_law_306 (y x1 x3 : Int32) : W_law L xs ret (306, lL y, [.inr (some 50), .inl x1, .inr (some 39), .inl x3], s, a, b) = W_law L xs ret (307, lL y, [.inl y, .inr (some 50), .inl x1, .inr (some 39), .inl x3], s, a, b) := mm_W_eq (lw_hk_mono L xs) _
theorem r_law_307 (y x0 x2 x4 : Int32) : W_law L xs ret (307, lL y, [.inl x0, .inr (some 50), .inl x2, .inr (some 39), .inl x4], s, a, b) = W_law L xs ret (308, lL y, [.inl (nI 2), .inl x0, .inr (some 50), .inl x2, .inr (some 39), .inl x4], s, a, b) := mm_W_eq (lw_hk_mono L xs) _
theorem r_law_308 (y x0 x1 x3 x5 : Int32) : W_law L xs ret (308, lL y, [.inl x0, .inl x1, .inr (some 50), .inl x3, .inr (some 39), .inl x5], s, a, b) = W_law L xs ret (309, lL y, [.inl (x1 + x0), .inr (some 50), .inl x3, .inr (some 39), .inl x5], s, a, b) := mm_W_eq (lw_hk_mono L xs) _
theorem r_law_309 (y x0 x2 x4 : Int32) : W_law L xs ret (309, lL y, [.inl x0, .inr (some 50), .inl x2, .inr (some 39), .inl x4], s, a, b) = (vp_in x0 L ∧ W_law L xs ret (310, lL y, [.inl (xs x0.toNatClampNeg), .inl x2, .inr (some 39), .inl x4], s, a, b)) := mm_W_eq (lw_hk_mono L xs) _
theorem r_law_310 (y x0 x1 x3 : Int32) : W_law L xs ret (310, lL y, [.inl x0, .inl x1, .inr (some 39), .inl x3], s, a, b) = W_law L xs ret (311, lL y, [.inr (some 50), .inl x0, .inl x1, .inr (some 39), .inl x3], s, a, b) := mm_W_eq (lw_hk_mono L xs) _
theorem r_law_311 (y x1 x2 x4 : Int32) : W_law L xs ret (311, lL y, [.inr (some 50), .inl x1, .inl x2, .inr (some 39), .inl x4], s, a, b) = W_law L xs ret (312, lL y, [.inl y, .inr (some 50), .inl x1, .inl x2, .inr (some 39), .inl x4], s, a, b) := mm_W_eq (lw_hk_mono L xs) _
theorem r_law_312 (y x0 x2 x3 x5 : Int32) : W_law L xs ret (312, lL y, [.inl x0, .inr (some 50), .inl x2, .inl x3, .inr (some 39), .inl x5], s, a, b) = W_law L xs ret (313, lL y, [.inl (nI 3), .inl x0, .inr (some 50), .inl x2, .inl x3, .inr (some 39), .inl x5], s, a, b) := mm_W_eq (lw_hk_mono L xs) _
theorem r_law_313 (y x0 x1 x3 x4 x6 : Int32) : W_law L xs ret (313, lL y, [.inl x0, .inl x1, .inr (some 50), .inl x3, .inl x4, .inr (some 39), .inl x6], s, a, b) = W_law L xs ret (314, lL y, [.inl (x1 + x0), .inr (some 50), .inl x3, .inl x4, .inr (some 39), .inl x6], s, a, b) := mm_W_eq (lw_hk_mono L xs) _
theorem r_law_314 (y x0 x2 x3 x5 : Int32) : W_law L xs ret (314, lL y, [.inl x0, .inr (some 50), .inl x2, .inl x3, .inr (some 39), .inl x5], s, a, b) = (vp_in x0 L ∧ W_law L xs ret (315, lL y, [.inl (xs x0.toNatClampNeg), .inl x2, .inl x3, .inr (some 39), .inl x5], s, a, b)) := mm_W_eq (lw_hk_mono L xs) _
theorem r_law_315 (y x0 x1 x2 x4 : Int32) : W_law L xs ret (315, lL y, [.inl x0, .inl x1, .inl x2, .inr (some 39), .inl x4], s, a, b) = W_law L xs ret (316, lL y, [.inr (some 50), .inl x0, .inl x1, .inl x2, .inr (some 39), .inl x4], s, a, b) := mm_W_eq (lw_hk_mono L xs) _
theorem r_law_316 (y x1 x2 x3 x5 : Int32) : W_law L xs ret (316, lL y, [.inr (some 50), .inl x1, .inl x2, .inl x3, .inr (some 39), .inl x5], s, a, b) = W_law L xs ret (317, lL y, [.inl y, .inr (some 50), .inl x1, .inl x2, .inl x3, .inr (some 39), .inl x5], s, a, b) := mm_W_eq (lw_hk_mono L xs) _
theorem r_law_317 (y x0 x2 x3 x4 x6 : Int32) : W_law L xs ret (317, lL y, [.inl x0, .inr (some 50), .inl x2, .inl x3, .inl x4, .inr (some 39), .inl x6], s, a, b) = W_law L xs ret (318, lL y, [.inl (nI 4), .inl x0, .inr (some 50), .inl x2, .inl x3, .inl x4, .inr (some 39), .inl x6], s, a, b) := mm_W_eq (lw_hk_mono L xs) _
theorem r_law_318 (y x0 x1 x3 x4 x5 x7 : Int32) : W_law L xs ret (318, lL y, [.inl x0, .inl x1, .inr (some 50), .inl x3, .inl x4, .inl x5, .inr (some 39), .inl x7], s, a, b) = W_law L xs ret (319, lL y, [.inl (x1 + x0), .inr (some 50), .inl x3, .inl x4, .inl x5, .inr (some 39), .inl x7], s, a, b) := mm_W_eq (lw_hk_mono L xs) _
theorem r_law_319 (y x0 x2 x3 x4 x6 : Int32) : W_law L xs ret (319, lL y, [.inl x0, .inr (some 50), .inl x2, .inl x3, .inl x4, .inr (some 39), .inl x6], s, a, b) = (vp_in x0 L ∧ W_law L xs ret (320, lL y, [.inl (xs x0.toNatClampNeg), .inl x2, .inl x3, .inl x4, .inr (some 39), .inl x6], s, a, b)) := mm_W_eq (lw_hk_mono L xs) _
theorem r_law_320 (y x0 x1 x2 x3 x5 : Int32) : W_law L xs ret (320, lL y, [.inl x0, .inl x1, .inl x2, .inl x3, .inr (some 39), .inl x5], s, a, b) = (∃ Q0 : Int32 → lS → Prop, lw_PM P_cut [.inr (some 39), .inl x3, .inl x2, .inl x1, .inl x0] s 0 0 (mI Q0) ∧ ∀ r s', Q0 r s' → W_law L xs ret (323, lL y, [.inl r, .inl x5], s', a, b)) := mm_W_eq (lw_hk_mono L xs) _
theorem r_law_323 (y x0 x1 : Int32) : W_law L xs ret (323, lL y, [.inl x0, .inl x1], s, a, b) = ((x1 = x0 → W_law L xs ret (664, lL y, [], s, a, b)) ∧ (¬ x1 = x0 → W_law L xs ret (326, lL y, [], s, a, b))) := mm_W_eq (lw_hk_mono L xs) _
theorem r_law_326 (y : Int32) : W_law L xs ret (326, lL y, [], s, a, b) = W_law L xs ret (327, lL y, [.inl (nI 0)], s, a, b) := mm_W_eq (lw_hk_mono L xs) _
theorem r_law_327 (y x0 : Int32) : W_law L xs ret (327, lL y, [.inl x0], s, a, b) = ((x0 = 0 ∨ x0 = 1) ∧ ret (some (.inl x0)) s) := mm_W_eq (lw_hk_mono L xs) _
theorem r_law_232 (y : Int32) : W_law L xs ret (232, lL y, [], s, a, b) = W_law L xs ret (233, lL y, [.inr (some 0)], s, a, b) := mm_W_eq (lw_hk_mono L xs) _
theorem r_law_233 (y : Int32) : W_law L xs ret (233, lL y, [.inr (some 0)], s, a, b) = W_law L xs ret (234, lL y, [.inr (some 50), .inr (some 0)], s, a, b) := mm_W_eq (lw_hk_mono L xs) _
theorem r_law_234 (y : Int32) : W_law L xs ret (234, lL y, [.inr (some 50), .inr (some 0)], s, a, b) = W_law L xs ret (235, lL y, [.inl y, .inr (some 50), .inr (some 0)], s, a, b) := mm_W_eq (lw_hk_mono L xs) _
theorem r_law_235 (y x0 : Int32) : W_law L xs ret (235, lL y, [.inl x0, .inr (some 50), .inr (some 0)], s, a, b) = W_law L xs ret (236, lL y, [.inl (nI 1), .inl x0, .inr (some 50), .inr (some 0)], s, a, b) := mm_W_eq (lw_hk_mono L xs) _
theorem r_law_236 (y x0 x1 : Int32) : W_law L xs ret (236, lL y, [.inl x0, .inl x1, .inr (some 50), .inr (some 0)], s, a, b) = W_law L xs ret (237, lL y, [.inl (x1 + x0), .inr (some 50), .inr (some 0)], s, a, b) := mm_W_eq (lw_hk_mono L xs) _
theorem r_law_237 (y x0 : Int32) : W_law L xs ret (237, lL y, [.inl x0, .inr (some 50), .inr (some 0)], s, a, b) = (vp_in x0 L ∧ W_law L xs ret (238, lL y, [.inl (xs x0.toNatClampNeg), .inr (some 0)], s, a, b)) := mm_W_eq (lw_hk_mono L xs) _
theorem r_law_238 (y x0 : Int32) : W_law L xs ret (238, lL y, [.inl x0, .inr (some 0)], s, a, b) = W_law L xs ret (239, lL y, [.inr (some 50), .inl x0, .inr (some 0)], s, a, b) := mm_W_eq (lw_hk_mono L xs) _
theorem r_law_239 (y x1 : Int32) : W_law L xs ret (239, lL y, [.inr (some 50), .inl x1, .inr (some 0)], s, a, b) = W_law L xs ret (240, lL y, [.inl y, .inr (some 50), .inl x1, .inr (some 0)], s, a, b) := mm_W_eq (lw_hk_mono L xs) _
theorem r_law_240 (y x0 x2 : Int32) : W_law L xs ret (240, lL y, [.inl x0, .inr (some 50), .inl x2, .inr (some 0)], s, a, b) = W_law L xs ret (241, lL y, [.inl (nI 2), .inl x0, .inr (some 50), .inl x2, .inr (some 0)], s, a, b) := mm_W_eq (lw_hk_mono L xs) _
theorem r_law_241 (y x0 x1 x3 : Int32) : W_law L xs ret (241, lL y, [.inl x0, .inl x1, .inr (some 50), .inl x3, .inr (some 0)], s, a, b) = W_law L xs ret (242, lL y, [.inl (x1 + x0), .inr (some 50), .inl x3, .inr (some 0)], s, a, b) := mm_W_eq (lw_hk_mono L xs) _
theorem r_law_242 (y x0 x2 : Int32) : W_law L xs ret (242, lL y, [.inl x0, .inr (some 50), .inl x2, .inr (some 0)], s, a, b) = (vp_in x0 L ∧ W_law L xs ret (243, lL y, [.inl (xs x0.toNatClampNeg), .inl x2, .inr (some 0)], s, a, b)) := mm_W_eq (lw_hk_mono L xs) _
theorem r_law_243 (y x0 x1 : Int32) : W_law L xs ret (243, lL y, [.inl x0, .inl x1, .inr (some 0)], s, a, b) = W_law L xs ret (244, lL y, [.inr (some 50), .inl x0, .inl x1, .inr (some 0)], s, a, b) := mm_W_eq (lw_hk_mono L xs) _
theorem r_law_244 (y x1 x2 : Int32) : W_law L xs ret (244, lL y, [.inr (some 50), .inl x1, .inl x2, .inr (some 0)], s, a, b) = W_law L xs ret (245, lL y, [.inl y, .inr (some 50), .inl x1, .inl x2, .inr (some 0)], s, a, b) := mm_W_eq (lw_hk_mono L xs) _
theorem r_law_245 (y x0 x2 x3 : Int32) : W_law L xs ret (245, lL y, [.inl x0, .inr (some 50), .inl x2, .inl x3, .inr (some 0)], s, a, b) = W_law L xs ret (246, lL y, [.inl (nI 3), .inl x0, .inr (some 50), .inl x2, .inl x3, .inr (some 0)], s, a, b) := mm_W_eq (lw_hk_mono L xs) _
theorem r_law_246 (y x0 x1 x3 x4 : Int32) : W_law L xs ret (246, lL y, [.inl x0, .inl x1, .inr (some 50), .inl x3, .inl x4, .inr (some 0)], s, a, b) = W_law L xs ret (247, lL y, [.inl (x1 + x0), .inr (some 50), .inl x3, .inl x4, .inr (some 0)], s, a, b) := mm_W_eq (lw_hk_mono L xs) _
theorem r_law_247 (y x0 x2 x3 : Int32) : W_law L xs ret (247, lL y, [.inl x0, .inr (some 50), .inl x2, .inl x3, .inr (some 0)], s, a, b) = (vp_in x0 L ∧ W_law L xs ret (248, lL y, [.inl (xs x0.toNatClampNeg), .inl x2, .inl x3, .inr (some 0)], s, a, b)) := mm_W_eq (lw_hk_mono L xs) _
theorem r_law_248 (y x0 x1 x2 : Int32) : W_law L xs ret (248, lL y, [.inl x0, .inl x1, .inl x2, .inr (some 0)], s, a, b) = (∃ (ca cb : Nat) (Q0 : Int32 → lS → Prop), ca ≤ a ∧ cb ≤ b ∧ lw_PX P_X6_join [.inr (some 0), .inl x2, .inl x1, .inl x0] s ca cb (mI Q0) ∧ ∀ r s', Q0 r s' → W_law L xs ret (251, lL y, [.inl r], s', a - ca, b - cb)) := mm_W_eq (lw_hk_mono L xs) _
theorem r_law_251 (y x0 : Int32) : W_law L xs ret (251, lL y, [.inl x0], s, a, b) = W_law L xs ret (252, lL y, [.inr (some 39), .inl x0], s, a, b) := mm_W_eq (lw_hk_mono L xs) _
theorem r_law_252 (y x1 : Int32) : W_law L xs ret (252, lL y, [.inr (some 39), .inl x1], s, a, b) = W_law L xs ret (253, lL y, [.inr (some 50), .inr (some 39), .inl x1], s, a, b) := mm_W_eq (lw_hk_mono L xs) _
theorem r_law_253 (y x2 : Int32) : W_law L xs ret (253, lL y, [.inr (some 50), .inr (some 39), .inl x2], s, a, b) = W_law L xs ret (254, lL y, [.inl y, .inr (some 50), .inr (some 39), .inl x2], s, a, b) := mm_W_eq (lw_hk_mono L xs) _
theorem r_law_254 (y x0 x3 : Int32) : W_law L xs ret (254, lL y, [.inl x0, .inr (some 50), .inr (some 39), .inl x3], s, a, b) = W_law L xs ret (255, lL y, [.inl (nI 1), .inl x0, .inr (some 50), .inr (some 39), .inl x3], s, a, b) := mm_W_eq (lw_hk_mono L xs) _
theorem r_law_255 (y x0 x1 x4 : Int32) : W_law L xs ret (255, lL y, [.inl x0, .inl x1, .inr (some 50), .inr (some 39), .inl x4], s, a, b) = W_law L xs ret (256, lL y, [.inl (x1 + x0), .inr (some 50), .inr (some 39), .inl x4], s, a, b) := mm_W_eq (lw_hk_mono L xs) _
theorem r_law_256 (y x0 x3 : Int32) : W_law L xs ret (256, lL y, [.inl x0, .inr (some 50), .inr (some 39), .inl x3], s, a, b) = (vp_in x0 L ∧ W_law L xs ret (257, lL y, [.inl (xs x0.toNatClampNeg), .inr (some 39), .inl x3], s, a, b)) := mm_W_eq (lw_hk_mono L xs) _
theorem r_law_257 (y x0 x2 : Int32) : W_law L xs ret (257, lL y, [.inl x0, .inr (some 39), .inl x2], s, a, b) = W_law L xs ret (258, lL y, [.inr (some 50), .inl x0, .inr (some 39), .inl x2], s, a, b) := mm_W_eq (lw_hk_mono L xs) _
theorem r_law_258 (y x1 x3 : Int32) : W_law L xs ret (258, lL y, [.inr (some 50), .inl x1, .inr (some 39), .inl x3], s, a, b) = W_law L xs ret (259, lL y, [.inl y, .inr (some 50), .inl x1, .inr (some 39), .inl x3], s, a, b) := mm_W_eq (lw_hk_mono L xs) _
theorem r_law_259 (y x0 x2 x4 : Int32) : W_law L xs ret (259, lL y, [.inl x0, .inr (some 50), .inl x2, .inr (some 39), .inl x4], s, a, b) = W_law L xs ret (260, lL y, [.inl (nI 2), .inl x0, .inr (some 50), .inl x2, .inr (some 39), .inl x4], s, a, b) := mm_W_eq (lw_hk_mono L xs) _
theorem r_law_260 (y x0 x1 x3 x5 : Int32) : W_law L xs ret (260, lL y, [.inl x0, .inl x1, .inr (some 50), .inl x3, .inr (some 39), .inl x5], s, a, b) = W_law L xs ret (261, lL y, [.inl (x1 + x0), .inr (some 50), .inl x3, .inr (some 39), .inl x5], s, a, b) := mm_W_eq (lw_hk_mono L xs) _
theorem r_law_261 (y x0 x2 x4 : Int32) : W_law L xs ret (261, lL y, [.inl x0, .inr (some 50), .inl x2, .inr (some 39), .inl x4], s, a, b) = (vp_in x0 L ∧ W_law L xs ret (262, lL y, [.inl (xs x0.toNatClampNeg), .inl x2, .inr (some 39), .inl x4], s, a, b)) := mm_W_eq (lw_hk_mono L xs) _
theorem r_law_262 (y x0 x1 x3 : Int32) : W_law L xs ret (262, lL y, [.inl x0, .inl x1, .inr (some 39), .inl x3], s, a, b) = W_law L xs ret (263, lL y, [.inr (some 50), .inl x0, .inl x1, .inr (some 39), .inl x3], s, a, b) := mm_W_eq (lw_hk_mono L xs) _
theorem r_law_263 (y x1 x2 x4 : Int32) : W_law L xs ret (263, lL y, [.inr (some 50), .inl x1, .inl x2, .inr (some 39), .inl x4], s, a, b) = W_law L xs ret (264, lL y, [.inl y, .inr (some 50), .inl x1, .inl x2, .inr (some 39), .inl x4], s, a, b) := mm_W_eq (lw_hk_mono L xs) _
theorem r_law_264 (y x0 x2 x3 x5 : Int32) : W_law L xs ret (264, lL y, [.inl x0, .inr (some 50), .inl x2, .inl x3, .inr (some 39), .inl x5], s, a, b) = W_law L xs ret (265, lL y, [.inl (nI 3), .inl x0, .inr (some 50), .inl x2, .inl x3, .inr (some 39), .inl x5], s, a, b) := mm_W_eq (lw_hk_mono L xs) _
theorem r_law_265 (y x0 x1 x3 x4 x6 : Int32) : W_law L xs ret (265, lL y, [.inl x0, .inl x1, .inr (some 50), .inl x3, .inl x4, .inr (some 39), .inl x6], s, a, b) = W_law L xs ret (266, lL y, [.inl (x1 + x0), .inr (some 50), .inl x3, .inl x4, .inr (some 39), .inl x6], s, a, b) := mm_W_eq (lw_hk_mono L xs) _
theorem r_law_266 (y x0 x2 x3 x5 : Int32) : W_law L xs ret (266, lL y, [.inl x0, .inr (some 50), .inl x2, .inl x3, .inr (some 39), .inl x5], s, a, b) = (vp_in x0 L ∧ W_law L xs ret (267, lL y, [.inl (xs x0.toNatClampNeg), .inl x2, .inl x3, .inr (some 39), .inl x5], s, a, b)) := mm_W_eq (lw_hk_mono L xs) _
theorem r_law_267 (y x0 x1 x2 x4 : Int32) : W_law L xs ret (267, lL y, [.inl x0, .inl x1, .inl x2, .inr (some 39), .inl x4], s, a, b) = (∃ Q0 : Int32 → lS → Prop, lw_PM P_join [.inr (some 39), .inl x2, .inl x1, .inl x0] s 0 0 (mI Q0) ∧ ∀ r s', Q0 r s' → W_law L xs ret (270, lL y, [.inl r, .inl x4], s', a, b)) := mm_W_eq (lw_hk_mono L xs) _
theorem r_law_270 (y x0 x1 : Int32) : W_law L xs ret (270, lL y, [.inl x0, .inl x1], s, a, b) = ((x1 = x0 → W_law L xs ret (664, lL y, [], s, a, b)) ∧ (¬ x1 = x0 → W_law L xs ret (273, lL y, [], s, a, b))) := mm_W_eq (lw_hk_mono L xs) _
theorem r_law_273 (y : Int32) : W_law L xs ret (273, lL y, [], s, a, b) = W_law L xs ret (274, lL y, [.inl (nI 0)], s, a, b) := mm_W_eq (lw_hk_mono L xs) _
theorem r_law_274 (y x0 : Int32) : W_law L xs ret (274, lL y, [.inl x0], s, a, b) = ((x0 = 0 ∨ x0 = 1) ∧ ret (some (.inl x0)) s) := mm_W_eq (lw_hk_mono L xs) _
theorem r_law_199 (y : Int32) : W_law L xs ret (199, lL y, [], s, a, b) = W_law L xs ret (200, lL y, [.inr (some 0)], s, a, b) := mm_W_eq (lw_hk_mono L xs) _
theorem r_law_200 (y : Int32) : W_law L xs ret (200, lL y, [.inr (some 0)], s, a, b) = W_law L xs ret (201, lL y, [.inr (some 50), .inr (some 0)], s, a, b) := mm_W_eq (lw_hk_mono L xs) _
theorem r_law_201 (y : Int32) : W_law L xs ret (201, lL y, [.inr (some 50), .inr (some 0)], s, a, b) = W_law L xs ret (202, lL y, [.inl y, .inr (some 50), .inr (some 0)], s, a, b) := mm_W_eq (lw_hk_mono L xs) _
theorem r_law_202 (y x0 : Int32) : W_law L xs ret (202, lL y, [.inl x0, .inr (some 50), .inr (some 0)], s, a, b) = W_law L xs ret (203, lL y, [.inl (nI 1), .inl x0, .inr (some 50), .inr (some 0)], s, a, b) := mm_W_eq (lw_hk_mono L xs) _
theorem r_law_203 (y x0 x1 : Int32) : W_law L xs ret (203, lL y, [.inl x0, .inl x1, .inr (some 50), .inr (some 0)], s, a, b) = W_law L xs ret (204, lL y, [.inl (x1 + x0), .inr (some 50), .inr (some 0)], s, a, b) := mm_W_eq (lw_hk_mono L xs) _
theorem r_law_204 (y x0 : Int32) : W_law L xs ret (204, lL y, [.inl x0, .inr (some 50), .inr (some 0)], s, a, b) = (vp_in x0 L ∧ W_law L xs ret (205, lL y, [.inl (xs x0.toNatClampNeg), .inr (some 0)], s, a, b)) := mm_W_eq (lw_hk_mono L xs) _
theorem r_law_205 (y x0 : Int32) : W_law L xs ret (205, lL y, [.inl x0, .inr (some 0)], s, a, b) = W_law L xs ret (206, lL y, [.inr (some 50), .inl x0, .inr (some 0)], s, a, b) := mm_W_eq (lw_hk_mono L xs) _
theorem r_law_206 (y x1 : Int32) : W_law L xs ret (206, lL y, [.inr (some 50), .inl x1, .inr (some 0)], s, a, b) = W_law L xs ret (207, lL y, [.inl y, .inr (some 50), .inl x1, .inr (some 0)], s, a, b) := mm_W_eq (lw_hk_mono L xs) _
theorem r_law_207 (y x0 x2 : Int32) : W_law L xs ret (207, lL y, [.inl x0, .inr (some 50), .inl x2, .inr (some 0)], s, a, b) = W_law L xs ret (208, lL y, [.inl (nI 2), .inl x0, .inr (some 50), .inl x2, .inr (some 0)], s, a, b) := mm_W_eq (lw_hk_mono L xs) _
theorem r_law_208 (y x0 x1 x3 : Int32) : W_law L xs ret (208, lL y, [.inl x0, .inl x1, .inr (some 50), .inl x3, .inr (some 0)], s, a, b) = W_law L xs ret (209, lL y, [.inl (x1 + x0), .inr (some 50), .inl x3, .inr (some 0)], s, a, b) := mm_W_eq (lw_hk_mono L xs) _
theorem r_law_209 (y x0 x2 : Int32) : W_law L xs ret (209, lL y, [.inl x0, .inr (some 50), .inl x2, .inr (some 0)], s, a, b) = (vp_in x0 L ∧ W_law L xs ret (210, lL y, [.inl (xs x0.toNatClampNeg), .inl x2, .inr (some 0)], s, a, b)) := mm_W_eq (lw_hk_mono L xs) _
theorem r_law_210 (y x0 x1 : Int32) : W_law L xs ret (210, lL y, [.inl x0, .inl x1, .inr (some 0)], s, a, b) = (∃ Q0 : Int32 → lS → Prop, lw_PX P_X6_copy [.inr (some 0), .inl x1, .inl x0] s 0 0 (mI Q0) ∧ ∀ r s', Q0 r s' → W_law L xs ret (213, lL y, [.inl r], s', a, b)) := mm_W_eq (lw_hk_mono L xs) _
theorem r_law_213 (y x0 : Int32) : W_law L xs ret (213, lL y, [.inl x0], s, a, b) = W_law L xs ret (214, lL y, [.inr (some 39), .inl x0], s, a, b) := mm_W_eq (lw_hk_mono L xs) _
theorem r_law_214 (y x1 : Int32) : W_law L xs ret (214, lL y, [.inr (some 39), .inl x1], s, a, b) = W_law L xs ret (215, lL y, [.inr (some 50), .inr (some 39), .inl x1], s, a, b) := mm_W_eq (lw_hk_mono L xs) _
theorem r_law_215 (y x2 : Int32) : W_law L xs ret (215, lL y, [.inr (some 50), .inr (some 39), .inl x2], s, a, b) = W_law L xs ret (216, lL y, [.inl y, .inr (some 50), .inr (some 39), .inl x2], s, a, b) := mm_W_eq (lw_hk_mono L xs) _
theorem r_law_216 (y x0 x3 : Int32) : W_law L xs ret (216, lL y, [.inl x0, .inr (some 50), .inr (some 39), .inl x3], s, a, b) = W_law L xs ret (217, lL y, [.inl (nI 1), .inl x0, .inr (some 50), .inr (some 39), .inl x3], s, a, b) := mm_W_eq (lw_hk_mono L xs) _
theorem r_law_217 (y x0 x1 x4 : Int32) : W_law L xs ret (217, lL y, [.inl x0, .inl x1, .inr (some 50), .inr (some 39), .inl x4], s, a, b) = W_law L xs ret (218, lL y, [.inl (x1 + x0), .inr (some 50), .inr (some 39), .inl x4], s, a, b) := mm_W_eq (lw_hk_mono L xs) _
theorem r_law_218 (y x0 x3 : Int32) : W_law L xs ret (218, lL y, [.inl x0, .inr (some 50), .inr (some 39), .inl x3], s, a, b) = (vp_in x0 L ∧ W_law L xs ret (219, lL y, [.inl (xs x0.toNatClampNeg), .inr (some 39), .inl x3], s, a, b)) := mm_W_eq (lw_hk_mono L xs) _
theorem r_law_219 (y x0 x2 : Int32) : W_law L xs ret (219, lL y, [.inl x0, .inr (some 39), .inl x2], s, a, b) = W_law L xs ret (220, lL y, [.inr (some 50), .inl x0, .inr (some 39), .inl x2], s, a, b) := mm_W_eq (lw_hk_mono L xs) _
theorem r_law_220 (y x1 x3 : Int32) : W_law L xs ret (220, lL y, [.inr (some 50), .inl x1, .inr (some 39), .inl x3], s, a, b) = W_law L xs ret (221, lL y, [.inl y, .inr (some 50), .inl x1, .inr (some 39), .inl x3], s, a, b) := mm_W_eq (lw_hk_mono L xs) _
theorem r_law_221 (y x0 x2 x4 : Int32) : W_law L xs ret (221, lL y, [.inl x0, .inr (some 50), .inl x2, .inr (some 39), .inl x4], s, a, b) = W_law L xs ret (222, lL y, [.inl (nI 2), .inl x0, .inr (some 50), .inl x2, .inr (some 39), .inl x4], s, a, b) := mm_W_eq (lw_hk_mono L xs) _
theorem r_law_222 (y x0 x1 x3 x5 : Int32) : W_law L xs ret (222, lL y, [.inl x0, .inl x1, .inr (some 50), .inl x3, .inr (some 39), .inl x5], s, a, b) = W_law L xs ret (223, lL y, [.inl (x1 + x0), .inr (some 50), .inl x3, .inr (some 39), .inl x5], s, a, b) := mm_W_eq (lw_hk_mono L xs) _
theorem r_law_223 (y x0 x2 x4 : Int32) : W_law L xs ret (223, lL y, [.inl x0, .inr (some 50), .inl x2, .inr (some 39), .inl x4], s, a, b) = (vp_in x0 L ∧ W_law L xs ret (224, lL y, [.inl (xs x0.toNatClampNeg), .inl x2, .inr (some 39), .inl x4], s, a, b)) := mm_W_eq (lw_hk_mono L xs) _
theorem r_law_224 (y x0 x1 x3 : Int32) : W_law L xs ret (224, lL y, [.inl x0, .inl x1, .inr (some 39), .inl x3], s, a, b) = (∃ Q0 : Int32 → lS → Prop, lw_PM P_copy [.inr (some 39), .inl x1, .inl x0] s 0 0 (mI Q0) ∧ ∀ r s', Q0 r s' → W_law L xs ret (227, lL y, [.inl r, .inl x3], s', a, b)) := mm_W_eq (lw_hk_mono L xs) _
theorem r_law_227 (y x0 x1 : Int32) : W_law L xs ret (227, lL y, [.inl x0, .inl x1], s, a, b) = ((x1 = x0 → W_law L xs ret (664, lL y, [], s, a, b)) ∧ (¬ x1 = x0 → W_law L xs ret (230, lL y, [], s, a, b))) := mm_W_eq (lw_hk_mono L xs) _
theorem r_law_230 (y : Int32) : W_law L xs ret (230, lL y, [], s, a, b) = W_law L xs ret (231, lL y, [.inl (nI 0)], s, a, b) := mm_W_eq (lw_hk_mono L xs) _
theorem r_law_231 (y x0 : Int32) : W_law L xs ret (231, lL y, [.inl x0], s, a, b) = ((x0 = 0 ∨ x0 = 1) ∧ ret (some (.inl x0)) s) := mm_W_eq (lw_hk_mono L xs) _
theorem r_law_176 (y : Int32) : W_law L xs ret (176, lL y, [], s, a, b) = W_law L xs ret (177, lL y, [.inr (some 0)], s, a, b) := mm_W_eq (lw_hk_mono L xs) _
theorem r_law_177 (y : Int32) : W_law L xs ret (177, lL y, [.inr (some 0)], s, a, b) = W_law L xs ret (178, lL y, [.inr (some 50), .inr (some 0)], s, a, b) := mm_W_eq (lw_hk_mono L xs) _
theorem r_law_178 (y : Int32) : W_law L xs ret (178, lL y, [.inr (some 50), .inr (some 0)], s, a, b) = W_law L xs ret (179, lL y, [.inl y, .inr (some 50), .inr (some 0)], s, a, b) := mm_W_eq (lw_hk_mono L xs) _
theorem r_law_179 (y x0 : Int32) : W_law L xs ret (179, lL y, [.inl x0, .inr (some 50), .inr (some 0)], s, a, b) = W_law L xs ret (180, lL y, [.inl (nI 1), .inl x0, .inr (some 50), .inr (some 0)], s, a, b) := mm_W_eq (lw_hk_mono L xs) _
theorem r_law_180 (y x0 x1 : Int32) : W_law L xs ret (180, lL y, [.inl x0, .inl x1, .inr (some 50), .inr (some 0)], s, a, b) = W_law L xs ret (181, lL y, [.inl (x1 + x0), .inr (some 50), .inr (some 0)], s, a, b) := mm_W_eq (lw_hk_mono L xs) _
theorem r_law_181 (y x0 : Int32) : W_law L xs ret (181, lL y, [.inl x0, .inr (some 50), .inr (some 0)], s, a, b) = (vp_in x0 L ∧ W_law L xs ret (182, lL y, [.inl (xs x0.toNatClampNeg), .inr (some 0)], s, a, b)) := mm_W_eq (lw_hk_mono L xs) _
theorem r_law_182 (y x0 : Int32) : W_law L xs ret (182, lL y, [.inl x0, .inr (some 0)], s, a, b) = (∃ (ca cb : Nat) (Q0 : Int32 → lS → Prop), ca ≤ a ∧ cb ≤ b ∧ lw_PX P_X6_put [.inr (some 0), .inl x0] s ca cb (mI Q0) ∧ ∀ r s', Q0 r s' → W_law L xs ret (185, lL y, [.inl r], s', a - ca, b - cb)) := mm_W_eq (lw_hk_mono L xs) _
theorem r_law_185 (y x0 : Int32) : W_law L xs ret (185, lL y, [.inl x0], s, a, b) = W_law L xs ret (186, lL y, [.inr (some 39), .inl x0], s, a, b) := mm_W_eq (lw_hk_mono L xs) _
theorem r_law_186 (y x1 : Int32) : W_law L xs ret (186, lL y, [.inr (some 39), .inl x1], s, a, b) = W_law L xs ret (187, lL y, [.inr (some 50), .inr (some 39), .inl x1], s, a, b) := mm_W_eq (lw_hk_mono L xs) _
theorem r_law_187 (y x2 : Int32) : W_law L xs ret (187, lL y, [.inr (some 50), .inr (some 39), .inl x2], s, a, b) = W_law L xs ret (188, lL y, [.inl y, .inr (some 50), .inr (some 39), .inl x2], s, a, b) := mm_W_eq (lw_hk_mono L xs) _
theorem r_law_188 (y x0 x3 : Int32) : W_law L xs ret (188, lL y, [.inl x0, .inr (some 50), .inr (some 39), .inl x3], s, a, b) = W_law L xs ret (189, lL y, [.inl (nI 1), .inl x0, .inr (some 50), .inr (some 39), .inl x3], s, a, b) := mm_W_eq (lw_hk_mono L xs) _
theorem r_law_189 (y x0 x1 x4 : Int32) : W_law L xs ret (189, lL y, [.inl x0, .inl x1, .inr (some 50), .inr (some 39), .inl x4], s, a, b) = W_law L xs ret (190, lL y, [.inl (x1 + x0), .inr (some 50), .inr (some 39), .inl x4], s, a, b) := mm_W_eq (lw_hk_mono L xs) _
theorem r_law_190 (y x0 x3 : Int32) : W_law L xs ret (190, lL y, [.inl x0, .inr (some 50), .inr (some 39), .inl x3], s, a, b) = (vp_in x0 L ∧ W_law L xs ret (191, lL y, [.inl (xs x0.toNatClampNeg), .inr (some 39), .inl x3], s, a, b)) := mm_W_eq (lw_hk_mono L xs) _
theorem r_law_191 (y x0 x2 : Int32) : W_law L xs ret (191, lL y, [.inl x0, .inr (some 39), .inl x2], s, a, b) = (∃ Q0 : Int32 → lS → Prop, lw_PM P_put [.inr (some 39), .inl x0] s 0 0 (mI Q0) ∧ ∀ r s', Q0 r s' → W_law L xs ret (194, lL y, [.inl r, .inl x2], s', a, b)) := mm_W_eq (lw_hk_mono L xs) _
theorem r_law_194 (y x0 x1 : Int32) : W_law L xs ret (194, lL y, [.inl x0, .inl x1], s, a, b) = ((x1 = x0 → W_law L xs ret (664, lL y, [], s, a, b)) ∧ (¬ x1 = x0 → W_law L xs ret (197, lL y, [], s, a, b))) := mm_W_eq (lw_hk_mono L xs) _
theorem r_law_197 (y : Int32) : W_law L xs ret (197, lL y, [], s, a, b) = W_law L xs ret (198, lL y, [.inl (nI 0)], s, a, b) := mm_W_eq (lw_hk_mono L xs) _
theorem r_law_198 (y x0 : Int32) : W_law L xs ret (198, lL y, [.inl x0], s, a, b) = ((x0 = 0 ∨ x0 = 1) ∧ ret (some (.inl x0)) s) := mm_W_eq (lw_hk_mono L xs) _
theorem r_law_153 (y : Int32) : W_law L xs ret (153, lL y, [], s, a, b) = W_law L xs ret (154, lL y, [.inr (some 0)], s, a, b) := mm_W_eq (lw_hk_mono L xs) _
theorem r_law_154 (y : Int32) : W_law L xs ret (154, lL y, [.inr (some 0)], s, a, b) = W_law L xs ret (155, lL y, [.inr (some 50), .inr (some 0)], s, a, b) := mm_W_eq (lw_hk_mono L xs) _
theorem r_law_155 (y : Int32) : W_law L xs ret (155, lL y, [.inr (some 50), .inr (some 0)], s, a, b) = W_law L xs ret (156, lL y, [.inl y, .inr (some 50), .inr (some 0)], s, a, b) := mm_W_eq (lw_hk_mono L xs) _
theorem r_law_156 (y x0 : Int32) : W_law L xs ret (156, lL y, [.inl x0, .inr (some 50), .inr (some 0)], s, a, b) = W_law L xs ret (157, lL y, [.inl (nI 1), .inl x0, .inr (some 50), .inr (some 0)], s, a, b) := mm_W_eq (lw_hk_mono L xs) _
theorem r_law_157 (y x0 x1 : Int32) : W_law L xs ret (157, lL y, [.inl x0, .inl x1, .inr (some 50), .inr (some 0)], s, a, b) = W_law L xs ret (158, lL y, [.inl (x1 + x0), .inr (some 50), .inr (some 0)], s, a, b) := mm_W_eq (lw_hk_mono L xs) _
theorem r_law_158 (y x0 : Int32) : W_law L xs ret (158, lL y, [.inl x0, .inr (some 50), .inr (some 0)], s, a, b) = (vp_in x0 L ∧ W_law L xs ret (159, lL y, [.inl (xs x0.toNatClampNeg), .inr (some 0)], s, a, b)) := mm_W_eq (lw_hk_mono L xs) _
theorem r_law_159 (y x0 : Int32) : W_law L xs ret (159, lL y, [.inl x0, .inr (some 0)], s, a, b) = (∃ Q0 : Int32 → lS → Prop, lw_PX P_X6_say [.inr (some 0), .inl x0] s 0 0 (mI Q0) ∧ ∀ r s', Q0 r s' → W_law L xs ret (162, lL y, [.inl r], s', a, b)) := mm_W_eq (lw_hk_mono L xs) _
theorem r_law_162 (y x0 : Int32) : W_law L xs ret (162, lL y, [.inl x0], s, a, b) = W_law L xs ret (163, lL y, [.inr (some 39), .inl x0], s, a, b) := mm_W_eq (lw_hk_mono L xs) _
theorem r_law_163 (y x1 : Int32) : W_law L xs ret (163, lL y, [.inr (some 39), .inl x1], s, a, b) = W_law L xs ret (164, lL y, [.inr (some 50), .inr (some 39), .inl x1], s, a, b) := mm_W_eq (lw_hk_mono L xs) _
theorem r_law_164 (y x2 : Int32) : W_law L xs ret (164, lL y, [.inr (some 50), .inr (some 39), .inl x2], s, a, b) = W_law L xs ret (165, lL y, [.inl y, .inr (some 50), .inr (some 39), .inl x2], s, a, b) := mm_W_eq (lw_hk_mono L xs) _
theorem r_law_165 (y x0 x3 : Int32) : W_law L xs ret (165, lL y, [.inl x0, .inr (some 50), .inr (some 39), .inl x3], s, a, b) = W_law L xs ret (166, lL y, [.inl (nI 1), .inl x0, .inr (some 50), .inr (some 39), .inl x3], s, a, b) := mm_W_eq (lw_hk_mono L xs) _
theorem r_law_166 (y x0 x1 x4 : Int32) : W_law L xs ret (166, lL y, [.inl x0, .inl x1, .inr (some 50), .inr (some 39), .inl x4], s, a, b) = W_law L xs ret (167, lL y, [.inl (x1 + x0), .inr (some 50), .inr (some 39), .inl x4], s, a, b) := mm_W_eq (lw_hk_mono L xs) _
theorem r_law_167 (y x0 x3 : Int32) : W_law L xs ret (167, lL y, [.inl x0, .inr (some 50), .inr (some 39), .inl x3], s, a, b) = (vp_in x0 L ∧ W_law L xs ret (168, lL y, [.inl (xs x0.toNatClampNeg), .inr (some 39), .inl x3], s, a, b)) := mm_W_eq (lw_hk_mono L xs) _
theorem r_law_168 (y x0 x2 : Int32) : W_law L xs ret (168, lL y, [.inl x0, .inr (some 39), .inl x2], s, a, b) = (∃ Q0 : Int32 → lS → Prop, lw_PM P_say [.inr (some 39), .inl x0] s 0 0 (mI Q0) ∧ ∀ r s', Q0 r s' → W_law L xs ret (171, lL y, [.inl r, .inl x2], s', a, b)) := mm_W_eq (lw_hk_mono L xs) _
theorem r_law_171 (y x0 x1 : Int32) : W_law L xs ret (171, lL y, [.inl x0, .inl x1], s, a, b) = ((x1 = x0 → W_law L xs ret (664, lL y, [], s, a, b)) ∧ (¬ x1 = x0 → W_law L xs ret (174, lL y, [], s, a, b))) := mm_W_eq (lw_hk_mono L xs) _
theorem r_law_174 (y : Int32) : W_law L xs ret (174, lL y, [], s, a, b) = W_law L xs ret (175, lL y, [.inl (nI 0)], s, a, b) := mm_W_eq (lw_hk_mono L xs) _
theorem r_law_175 (y x0 : Int32) : W_law L xs ret (175, lL y, [.inl x0], s, a, b) = ((x0 = 0 ∨ x0 = 1) ∧ ret (some (.inl x0)) s) := mm_W_eq (lw_hk_mono L xs) _
theorem r_law_120 (y : Int32) : W_law L xs ret (120, lL y, [], s, a, b) = W_law L xs ret (121, lL y, [.inr (some 0)], s, a, b) := mm_W_eq (lw_hk_mono L xs) _
theorem r_law_121 (y : Int32) : W_law L xs ret (121, lL y, [.inr (some 0)], s, a, b) = W_law L xs ret (122, lL y, [.inr (some 50), .inr (some 0)], s, a, b) := mm_W_eq (lw_hk_mono L xs) _
theorem r_law_122 (y : Int32) : W_law L xs ret (122, lL y, [.inr (some 50), .inr (some 0)], s, a, b) = W_law L xs ret (123, lL y, [.inl y, .inr (some 50), .inr (some 0)], s, a, b) := mm_W_eq (lw_hk_mono L xs) _
theorem r_law_123 (y x0 : Int32) : W_law L xs ret (123, lL y, [.inl x0, .inr (some 50), .inr (some 0)], s, a, b) = W_law L xs ret (124, lL y, [.inl (nI 1), .inl x0, .inr (some 50), .inr (some 0)], s, a, b) := mm_W_eq (lw_hk_mono L xs) _
theorem r_law_124 (y x0 x1 : Int32) : W_law L xs ret (124, lL y, [.inl x0, .inl x1, .inr (some 50), .inr (some 0)], s, a, b) = W_law L xs ret (125, lL y, [.inl (x1 + x0), .inr (some 50), .inr (some 0)], s, a, b) := mm_W_eq (lw_hk_mono L xs) _
theorem r_law_125 (y x0 : Int32) : W_law L xs ret (125, lL y, [.inl x0, .inr (some 50), .inr (some 0)], s, a, b) = (vp_in x0 L ∧ W_law L xs ret (126, lL y, [.inl (xs x0.toNatClampNeg), .inr (some 0)], s, a, b)) := mm_W_eq (lw_hk_mono L xs) _
theorem r_law_126 (y x0 : Int32) : W_law L xs ret (126, lL y, [.inl x0, .inr (some 0)], s, a, b) = W_law L xs ret (127, lL y, [.inr (some 50), .inl x0, .inr (some 0)], s, a, b) := mm_W_eq (lw_hk_mono L xs) _
theorem r_law_127 (y x1 : Int32) : W_law L xs ret (127, lL y, [.inr (some 50), .inl x1, .inr (some 0)], s, a, b) = W_law L xs ret (128, lL y, [.inl y, .inr (some 50), .inl x1, .inr (some 0)], s, a, b) := mm_W_eq (lw_hk_mono L xs) _
theorem r_law_128 (y x0 x2 : Int32) : W_law L xs ret (128, lL y, [.inl x0, .inr (some 50), .inl x2, .inr (some 0)], s, a, b) = W_law L xs ret (129, lL y, [.inl (nI 2), .inl x0, .inr (some 50), .inl x2, .inr (some 0)], s, a, b) := mm_W_eq (lw_hk_mono L xs) _
theorem r_law_129 (y x0 x1 x3 : Int32) : W_law L xs ret (129, lL y, [.inl x0, .inl x1, .inr (some 50), .inl x3, .inr (some 0)], s, a, b) = W_law L xs ret (130, lL y, [.inl (x1 + x0), .inr (some 50), .inl x3, .inr (some 0)], s, a, b) := mm_W_eq (lw_hk_mono L xs) _
theorem r_law_130 (y x0 x2 : Int32) : W_law L xs ret (130, lL y, [.inl x0, .inr (some 50), .inl x2, .inr (some 0)], s, a, b) = (vp_in x0 L ∧ W_law L xs ret (131, lL y, [.inl (xs x0.toNatClampNeg), .inl x2, .inr (some 0)], s, a, b)) := mm_W_eq (lw_hk_mono L xs) _
theorem r_law_131 (y x0 x1 : Int32) : W_law L xs ret (131, lL y, [.inl x0, .inl x1, .inr (some 0)], s, a, b) = (∃ Q0 : Int32 → lS → Prop, lw_PX P_X6_rule [.inr (some 0), .inl x1, .inl x0] s 0 0 (mI Q0) ∧ ∀ r s', Q0 r s' → W_law L xs ret (134, lL y, [.inl r], s', a, b)) := mm_W_eq (lw_hk_mono L xs) _
theorem r_law_134 (y x0 : Int32) : W_law L xs ret (134, lL y, [.inl x0], s, a, b) = W_law L xs ret (135, lL y, [.inr (some 39), .inl x0], s, a, b) := mm_W_eq (lw_hk_mono L xs) _
theorem r_law_135 (y x1 : Int32) : W_law L xs ret (135, lL y, [.inr (some 39), .inl x1], s, a, b) = W_law L xs ret (136, lL y, [.inr (some 50), .inr (some 39), .inl x1], s, a, b) := mm_W_eq (lw_hk_mono L xs) _
theorem r_law_136 (y x2 : Int32) : W_law L xs ret (136, lL y, [.inr (some 50), .inr (some 39), .inl x2], s, a, b) = W_law L xs ret (137, lL y, [.inl y, .inr (some 50), .inr (some 39), .inl x2], s, a, b) := mm_W_eq (lw_hk_mono L xs) _
theorem r_law_137 (y x0 x3 : Int32) : W_law L xs ret (137, lL y, [.inl x0, .inr (some 50), .inr (some 39), .inl x3], s, a, b) = W_law L xs ret (138, lL y, [.inl (nI 1), .inl x0, .inr (some 50), .inr (some 39), .inl x3], s, a, b) := mm_W_eq (lw_hk_mono L xs) _
theorem r_law_138 (y x0 x1 x4 : Int32) : W_law L xs ret (138, lL y, [.inl x0, .inl x1, .inr (some 50), .inr (some 39), .inl x4], s, a, b) = W_law L xs ret (139, lL y, [.inl (x1 + x0), .inr (some 50), .inr (some 39), .inl x4], s, a, b) := mm_W_eq (lw_hk_mono L xs) _
theorem r_law_139 (y x0 x3 : Int32) : W_law L xs ret (139, lL y, [.inl x0, .inr (some 50), .inr (some 39), .inl x3], s, a, b) = (vp_in x0 L ∧ W_law L xs ret (140, lL y, [.inl (xs x0.toNatClampNeg), .inr (some 39), .inl x3], s, a, b)) := mm_W_eq (lw_hk_mono L xs) _
theorem r_law_140 (y x0 x2 : Int32) : W_law L xs ret (140, lL y, [.inl x0, .inr (some 39), .inl x2], s, a, b) = W_law L xs ret (141, lL y, [.inr (some 50), .inl x0, .inr (some 39), .inl x2], s, a, b) := mm_W_eq (lw_hk_mono L xs) _
theorem r_law_141 (y x1 x3 : Int32) : W_law L xs ret (141, lL y, [.inr (some 50), .inl x1, .inr (some 39), .inl x3], s, a, b) = W_law L xs ret (142, lL y, [.inl y, .inr (some 50), .inl x1, .inr (some 39), .inl x3], s, a, b) := mm_W_eq (lw_hk_mono L xs) _
theorem r_law_142 (y x0 x2 x4 : Int32) : W_law L xs ret (142, lL y, [.inl x0, .inr (some 50), .inl x2, .inr (some 39), .inl x4], s, a, b) = W_law L xs ret (143, lL y, [.inl (nI 2), .inl x0, .inr (some 50), .inl x2, .inr (some 39), .inl x4], s, a, b) := mm_W_eq (lw_hk_mono L xs) _
theorem r_law_143 (y x0 x1 x3 x5 : Int32) : W_law L xs ret (143, lL y, [.inl x0, .inl x1, .inr (some 50), .inl x3, .inr (some 39), .inl x5], s, a, b) = W_law L xs ret (144, lL y, [.inl (x1 + x0), .inr (some 50), .inl x3, .inr (some 39), .inl x5], s, a, b) := mm_W_eq (lw_hk_mono L xs) _
theorem r_law_144 (y x0 x2 x4 : Int32) : W_law L xs ret (144, lL y, [.inl x0, .inr (some 50), .inl x2, .inr (some 39), .inl x4], s, a, b) = (vp_in x0 L ∧ W_law L xs ret (145, lL y, [.inl (xs x0.toNatClampNeg), .inl x2, .inr (some 39), .inl x4], s, a, b)) := mm_W_eq (lw_hk_mono L xs) _
theorem r_law_145 (y x0 x1 x3 : Int32) : W_law L xs ret (145, lL y, [.inl x0, .inl x1, .inr (some 39), .inl x3], s, a, b) = (∃ Q0 : Int32 → lS → Prop, lw_PM P_rule [.inr (some 39), .inl x1, .inl x0] s 0 0 (mI Q0) ∧ ∀ r s', Q0 r s' → W_law L xs ret (148, lL y, [.inl r, .inl x3], s', a, b)) := mm_W_eq (lw_hk_mono L xs) _
theorem r_law_148 (y x0 x1 : Int32) : W_law L xs ret (148, lL y, [.inl x0, .inl x1], s, a, b) = ((x1 = x0 → W_law L xs ret (664, lL y, [], s, a, b)) ∧ (¬ x1 = x0 → W_law L xs ret (151, lL y, [], s, a, b))) := mm_W_eq (lw_hk_mono L xs) _
theorem r_law_151 (y : Int32) : W_law L xs ret (151, lL y, [], s, a, b) = W_law L xs ret (152, lL y, [.inl (nI 0)], s, a, b) := mm_W_eq (lw_hk_mono L xs) _
theorem r_law_152 (y x0 : Int32) : W_law L xs ret (152, lL y, [.inl x0], s, a, b) = ((x0 = 0 ∨ x0 = 1) ∧ ret (some (.inl x0)) s) := mm_W_eq (lw_hk_mono L xs) _
theorem r_law_670 (y : Int32) : W_law L xs ret (670, lL y, [], s, a, b) = W_law L xs ret (671, lL y, [.inl (nI 1)], s, a, b) := mm_W_eq (lw_hk_mono L xs) _
theorem r_law_671 (y x0 : Int32) : W_law L xs ret (671, lL y, [.inl x0], s, a, b) = ((x0 = 0 ∨ x0 = 1) ∧ ret (some (.inl x0)) s) := mm_W_eq (lw_hk_mono L xs) _
end LR
theorem JI_up {N : Nat} {σ : xS} {μ : rf_M} (h : JI N σ μ) : JI (N + 1) σ μ := by
  obtain ⟨T, ι, B, sq, e, sl, im, en, nu, ev, dr, sm, dp, lo, tn, st, sp, h1, h2, h3, h4⟩ := h
  exact ⟨T, ι, B, sq, e, sl, im, en, nu, ev, dr, sm, dp, lo, tn, st, sp, h1, h2, by omega, by omega⟩
section LC
variable {L : Nat} {xs : Nat → Int32} {ret : Option mV → lS → Prop} {N i a b : Nat} {σ : xS} {μ : rf_M}
set_option maxHeartbeats 2000000 in
theorem lc_rule (hL : L ≤ 2560) (hi : i + 5 ≤ L) (hN : N < 512) (h : JI N σ μ) (ha : 1100 ≤ a) (hb : 13000 ≤ b) (K : ∀ σ' μ' a' b', a ≤ a' + 1100 → b ≤ b' + 13000 → JI (N + 1) σ' μ' → W_law L xs ret (664, lL (nI i), [], (σ', μ'), a', b')) : W_law L xs ret (120, lL (nI i), [], (σ, μ), a, b) := by
  obtain ⟨Q1, hX, hR⟩ := stp_rule h (xs (i + 1)) (xs (i + 2))
  rw [r_law_120]
  simp only [r_law_121, r_law_122, r_law_123, r_law_124, r_law_125, r_law_126, r_law_127, r_law_128, r_law_129, r_law_130, r_law_131, nI_add, vp_in_i (show i + 1 < 2 ^ 31 by omega), vp_in_i (show i + 2 < 2 ^ 31 by omega), nI_clamp (show i + 1 < 2 ^ 31 by omega), nI_clamp (show i + 2 < 2 ^ 31 by omega)]
  refine ⟨by omega, ⟨by omega, ⟨fun r s' => Q1 r s'.1 ∧ s'.2 = μ, ⟨[(xs (i + 1)), (xs (i + 2))], Q1, rfl, hX, fun v σ' hq => by rw [mI_e]; exact ⟨hq, rfl⟩⟩, ?_⟩⟩⟩
  rintro r ⟨σ1, μ1⟩ ⟨h1, h2⟩
  dsimp only at h1 h2
  subst h2
  obtain ⟨Q2, hP, hE⟩ := hR r σ1 h1
  rw [r_law_134]
  simp only [r_law_135, r_law_136, r_law_137, r_law_138, r_law_139, r_law_140, r_law_141, r_law_142, r_law_143, r_law_144, r_law_145, nI_add, vp_in_i (show i + 1 < 2 ^ 31 by omega), vp_in_i (show i + 2 < 2 ^ 31 by omega), nI_clamp (show i + 1 < 2 ^ 31 by omega), nI_clamp (show i + 2 < 2 ^ 31 by omega)]
  refine ⟨by omega, ⟨by omega, ⟨fun r s' => Q2 r s'.2 ∧ s'.1 = σ1, ⟨[(xs (i + 1)), (xs (i + 2))], Q2, rfl, hP, fun v σ' hq => by rw [mI_e]; exact ⟨hq, rfl⟩⟩, ?_⟩⟩⟩
  rintro r' ⟨σ2, μ2⟩ ⟨k1, k2⟩
  dsimp only at k1 k2
  subst k2
  obtain ⟨rfl, hJ⟩ := hE r' μ2 k1
  rw [r_law_148]
  exact ⟨fun _ => K _ _ _ _ (by omega) (by omega) hJ, fun z => absurd rfl z⟩
set_option maxHeartbeats 2000000 in
theorem lc_say (hL : L ≤ 2560) (hi : i + 5 ≤ L) (hN : N < 512) (h : JI N σ μ) (ha : 1100 ≤ a) (hb : 13000 ≤ b) (K : ∀ σ' μ' a' b', a ≤ a' + 1100 → b ≤ b' + 13000 → JI (N + 1) σ' μ' → W_law L xs ret (664, lL (nI i), [], (σ', μ'), a', b')) : W_law L xs ret (153, lL (nI i), [], (σ, μ), a, b) := by
  obtain ⟨Q1, hX, hR⟩ := stp_say h (xs (i + 1))
  rw [r_law_153]
  simp only [r_law_154, r_law_155, r_law_156, r_law_157, r_law_158, r_law_159, nI_add, vp_in_i (show i + 1 < 2 ^ 31 by omega), nI_clamp (show i + 1 < 2 ^ 31 by omega)]
  refine ⟨by omega, ⟨fun r s' => Q1 r s'.1 ∧ s'.2 = μ, ⟨[(xs (i + 1))], Q1, rfl, hX, fun v σ' hq => by rw [mI_e]; exact ⟨hq, rfl⟩⟩, ?_⟩⟩
  rintro r ⟨σ1, μ1⟩ ⟨h1, h2⟩
  dsimp only at h1 h2
  subst h2
  obtain ⟨Q2, hP, hE⟩ := hR r σ1 h1
  rw [r_law_162]
  simp only [r_law_163, r_law_164, r_law_165, r_law_166, r_law_167, r_law_168, nI_add, vp_in_i (show i + 1 < 2 ^ 31 by omega), nI_clamp (show i + 1 < 2 ^ 31 by omega)]
  refine ⟨by omega, ⟨fun r s' => Q2 r s'.2 ∧ s'.1 = σ1, ⟨[(xs (i + 1))], Q2, rfl, hP, fun v σ' hq => by rw [mI_e]; exact ⟨hq, rfl⟩⟩, ?_⟩⟩
  rintro r' ⟨σ2, μ2⟩ ⟨k1, k2⟩
  dsimp only at k1 k2
  subst k2
  obtain ⟨rfl, hJ⟩ := hE r' μ2 k1
  rw [r_law_171]
  exact ⟨fun _ => K _ _ _ _ (by omega) (by omega) hJ, fun z => absurd rfl z⟩
set_option maxHeartbeats 2000000 in
theorem lc_put (hL : L ≤ 2560) (hi : i + 5 ≤ L) (hN : N < 512) (h : JI N σ μ) (ha : 1100 ≤ a) (hb : 13000 ≤ b) (K : ∀ σ' μ' a' b', a ≤ a' + 1100 → b ≤ b' + 13000 → JI (N + 1) σ' μ' → W_law L xs ret (664, lL (nI i), [], (σ', μ'), a', b')) : W_law L xs ret (176, lL (nI i), [], (σ, μ), a, b) := by
  obtain ⟨Q1, hX, hR⟩ := stp_put h (xs (i + 1))
  rw [r_law_176]
  simp only [r_law_177, r_law_178, r_law_179, r_law_180, r_law_181, r_law_182, nI_add, vp_in_i (show i + 1 < 2 ^ 31 by omega), nI_clamp (show i + 1 < 2 ^ 31 by omega)]
  refine ⟨by omega, ⟨1100, 13000, fun r s' => Q1 r s'.1 ∧ s'.2 = μ, ha, hb, ⟨[(xs (i + 1))], Q1, rfl, hX, fun v σ' hq => by rw [mI_e]; exact ⟨hq, rfl⟩⟩, ?_⟩⟩
  rintro r ⟨σ1, μ1⟩ ⟨h1, h2⟩
  dsimp only at h1 h2
  subst h2
  obtain ⟨Q2, hP, hE⟩ := hR r σ1 h1
  rw [r_law_185]
  simp only [r_law_186, r_law_187, r_law_188, r_law_189, r_law_190, r_law_191, nI_add, vp_in_i (show i + 1 < 2 ^ 31 by omega), nI_clamp (show i + 1 < 2 ^ 31 by omega)]
  refine ⟨by omega, ⟨fun r s' => Q2 r s'.2 ∧ s'.1 = σ1, ⟨[(xs (i + 1))], Q2, rfl, hP, fun v σ' hq => by rw [mI_e]; exact ⟨hq, rfl⟩⟩, ?_⟩⟩
  rintro r' ⟨σ2, μ2⟩ ⟨k1, k2⟩
  dsimp only at k1 k2
  subst k2
  obtain ⟨rfl, hJ⟩ := hE r' μ2 k1
  rw [r_law_194]
  exact ⟨fun _ => K _ _ _ _ (by omega) (by omega) hJ, fun z => absurd rfl z⟩
set_option maxHeartbeats 2000000 in
theorem lc_copy (hL : L ≤ 2560) (hi : i + 5 ≤ L) (hN : N < 512) (h : JI N σ μ) (ha : 1100 ≤ a) (hb : 13000 ≤ b) (K : ∀ σ' μ' a' b', a ≤ a' + 1100 → b ≤ b' + 13000 → JI (N + 1) σ' μ' → W_law L xs ret (664, lL (nI i), [], (σ', μ'), a', b')) : W_law L xs ret (199, lL (nI i), [], (σ, μ), a, b) := by
  obtain ⟨Q1, hX, hR⟩ := stp_copy h (xs (i + 1)) (xs (i + 2))
  rw [r_law_199]
  simp only [r_law_200, r_law_201, r_law_202, r_law_203, r_law_204, r_law_205, r_law_206, r_law_207, r_law_208, r_law_209, r_law_210, nI_add, vp_in_i (show i + 1 < 2 ^ 31 by omega), vp_in_i (show i + 2 < 2 ^ 31 by omega), nI_clamp (show i + 1 < 2 ^ 31 by omega), nI_clamp (show i + 2 < 2 ^ 31 by omega)]
  refine ⟨by omega, ⟨by omega, ⟨fun r s' => Q1 r s'.1 ∧ s'.2 = μ, ⟨[(xs (i + 1)), (xs (i + 2))], Q1, rfl, hX, fun v σ' hq => by rw [mI_e]; exact ⟨hq, rfl⟩⟩, ?_⟩⟩⟩
  rintro r ⟨σ1, μ1⟩ ⟨h1, h2⟩
  dsimp only at h1 h2
  subst h2
  obtain ⟨Q2, hP, hE⟩ := hR r σ1 h1
  rw [r_law_213]
  simp only [r_law_214, r_law_215, r_law_216, r_law_217, r_law_218, r_law_219, r_law_220, r_law_221, r_law_222, r_law_223, r_law_224, nI_add, vp_in_i (show i + 1 < 2 ^ 31 by omega), vp_in_i (show i + 2 < 2 ^ 31 by omega), nI_clamp (show i + 1 < 2 ^ 31 by omega), nI_clamp (show i + 2 < 2 ^ 31 by omega)]
  refine ⟨by omega, ⟨by omega, ⟨fun r s' => Q2 r s'.2 ∧ s'.1 = σ1, ⟨[(xs (i + 1)), (xs (i + 2))], Q2, rfl, hP, fun v σ' hq => by rw [mI_e]; exact ⟨hq, rfl⟩⟩, ?_⟩⟩⟩
  rintro r' ⟨σ2, μ2⟩ ⟨k1, k2⟩
  dsimp only at k1 k2
  subst k2
  obtain ⟨rfl, hJ⟩ := hE r' μ2 k1
  rw [r_law_227]
  exact ⟨fun _ => K _ _ _ _ (by omega) (by omega) hJ, fun z => absurd rfl z⟩
set_option maxHeartbeats 2000000 in
theorem lc_join (hL : L ≤ 2560) (hi : i + 5 ≤ L) (hN : N < 512) (h : JI N σ μ) (ha : 1100 ≤ a) (hb : 13000 ≤ b) (K : ∀ σ' μ' a' b', a ≤ a' + 1100 → b ≤ b' + 13000 → JI (N + 1) σ' μ' → W_law L xs ret (664, lL (nI i), [], (σ', μ'), a', b')) : W_law L xs ret (232, lL (nI i), [], (σ, μ), a, b) := by
  obtain ⟨Q1, hX, hR⟩ := stp_join h (by omega) (xs (i + 1)) (xs (i + 2)) (xs (i + 3))
  rw [r_law_232]
  simp only [r_law_233, r_law_234, r_law_235, r_law_236, r_law_237, r_law_238, r_law_239, r_law_240, r_law_241, r_law_242, r_law_243, r_law_244, r_law_245, r_law_246, r_law_247, r_law_248, nI_add, vp_in_i (show i + 1 < 2 ^ 31 by omega), vp_in_i (show i + 2 < 2 ^ 31 by omega), vp_in_i (show i + 3 < 2 ^ 31 by omega), nI_clamp (show i + 1 < 2 ^ 31 by omega), nI_clamp (show i + 2 < 2 ^ 31 by omega), nI_clamp (show i + 3 < 2 ^ 31 by omega)]
  refine ⟨by omega, ⟨by omega, ⟨by omega, ⟨1100, 13000, fun r s' => Q1 r s'.1 ∧ s'.2 = μ, ha, hb, ⟨[(xs (i + 1)), (xs (i + 2)), (xs (i + 3))], Q1, rfl, hX, fun v σ' hq => by rw [mI_e]; exact ⟨hq, rfl⟩⟩, ?_⟩⟩⟩⟩
  rintro r ⟨σ1, μ1⟩ ⟨h1, h2⟩
  dsimp only at h1 h2
  subst h2
  obtain ⟨Q2, hP, hE⟩ := hR r σ1 h1
  rw [r_law_251]
  simp only [r_law_252, r_law_253, r_law_254, r_law_255, r_law_256, r_law_257, r_law_258, r_law_259, r_law_260, r_law_261, r_law_262, r_law_263, r_law_264, r_law_265, r_law_266, r_law_267, nI_add, vp_in_i (show i + 1 < 2 ^ 31 by omega), vp_in_i (show i + 2 < 2 ^ 31 by omega), vp_in_i (show i + 3 < 2 ^ 31 by omega), nI_clamp (show i + 1 < 2 ^ 31 by omega), nI_clamp (show i + 2 < 2 ^ 31 by omega), nI_clamp (show i + 3 < 2 ^ 31 by omega)]
  refine ⟨by omega, ⟨by omega, ⟨by omega, ⟨fun r s' => Q2 r s'.2 ∧ s'.1 = σ1, ⟨[(xs (i + 1)), (xs (i + 2)), (xs (i + 3))], Q2, rfl, hP, fun v σ' hq => by rw [mI_e]; exact ⟨hq, rfl⟩⟩, ?_⟩⟩⟩⟩
  rintro r' ⟨σ2, μ2⟩ ⟨k1, k2⟩
  dsimp only at k1 k2
  subst k2
  obtain ⟨rfl, hJ⟩ := hE r' μ2 k1
  rw [r_law_270]
  exact ⟨fun _ => K _ _ _ _ (by omega) (by omega) hJ, fun z => absurd rfl z⟩
set_option maxHeartbeats 2000000 in
theorem lc_cut (hL : L ≤ 2560) (hi : i + 5 ≤ L) (hN : N < 512) (h : JI N σ μ) (ha : 1100 ≤ a) (hb : 13000 ≤ b) (K : ∀ σ' μ' a' b', a ≤ a' + 1100 → b ≤ b' + 13000 → JI (N + 1) σ' μ' → W_law L xs ret (664, lL (nI i), [], (σ', μ'), a', b')) : W_law L xs ret (275, lL (nI i), [], (σ, μ), a, b) := by
  obtain ⟨Q1, hX, hR⟩ := stp_cut h (by omega) (xs (i + 1)) (xs (i + 2)) (xs (i + 3)) (xs (i + 4))
  rw [r_law_275]
  simp only [r_law_276, r_law_277, r_law_278, r_law_279, r_law_280, r_law_281, r_law_282, r_law_283, r_law_284, r_law_285, r_law_286, r_law_287, r_law_288, r_law_289, r_law_290, r_law_291, r_law_292, r_law_293, r_law_294, r_law_295, r_law_296, nI_add, vp_in_i (show i + 1 < 2 ^ 31 by omega), vp_in_i (show i + 2 < 2 ^ 31 by omega), vp_in_i (show i + 3 < 2 ^ 31 by omega), vp_in_i (show i + 4 < 2 ^ 31 by omega), nI_clamp (show i + 1 < 2 ^ 31 by omega), nI_clamp (show i + 2 < 2 ^ 31 by omega), nI_clamp (show i + 3 < 2 ^ 31 by omega), nI_clamp (show i + 4 < 2 ^ 31 by omega)]
  refine ⟨by omega, ⟨by omega, ⟨by omega, ⟨by omega, ⟨1100, 13000, fun r s' => Q1 r s'.1 ∧ s'.2 = μ, ha, hb, ⟨[(xs (i + 1)), (xs (i + 2)), (xs (i + 3)), (xs (i + 4))], Q1, rfl, hX, fun v σ' hq => by rw [mI_e]; exact ⟨hq, rfl⟩⟩, ?_⟩⟩⟩⟩⟩
  rintro r ⟨σ1, μ1⟩ ⟨h1, h2⟩
  dsimp only at h1 h2
  subst h2
  obtain ⟨Q2, hP, hE⟩ := hR r σ1 h1
  rw [r_law_299]
  simp only [r_law_300, r_law_301, r_law_302, r_law_303, r_law_304, r_law_305, r_law_306, r_law_307, r_law_308, r_law_309, r_law_310, r_law_311, r_law_312, r_law_313, r_law_314, r_law_315, r_law_316, r_law_317, r_law_318, r_law_319, r_law_320, nI_add, vp_in_i (show i + 1 < 2 ^ 31 by omega), vp_in_i (show i + 2 < 2 ^ 31 by omega), vp_in_i (show i + 3 < 2 ^ 31 by omega), vp_in_i (show i + 4 < 2 ^ 31 by omega), nI_clamp (show i + 1 < 2 ^ 31 by omega), nI_clamp (show i + 2 < 2 ^ 31 by omega), nI_clamp (show i + 3 < 2 ^ 31 by omega), nI_clamp (show i + 4 < 2 ^ 31 by omega)]
  refine ⟨by omega, ⟨by omega, ⟨by omega, ⟨by omega, ⟨fun r s' => Q2 r s'.2 ∧ s'.1 = σ1, ⟨[(xs (i + 1)), (xs (i + 2)), (xs (i + 3)), (xs (i + 4))], Q2, rfl, hP, fun v σ' hq => by rw [mI_e]; exact ⟨hq, rfl⟩⟩, ?_⟩⟩⟩⟩⟩
  rintro r' ⟨σ2, μ2⟩ ⟨k1, k2⟩
  dsimp only at k1 k2
  subst k2
  obtain ⟨rfl, hJ⟩ := hE r' μ2 k1
  rw [r_law_323]
  exact ⟨fun _ => K _ _ _ _ (by omega) (by omega) hJ, fun z => absurd rfl z⟩
set_option maxHeartbeats 2000000 in
theorem lc_flat (hL : L ≤ 2560) (hi : i + 5 ≤ L) (hN : N < 512) (h : JI N σ μ) (ha : 1100 ≤ a) (hb : 13000 ≤ b) (K : ∀ σ' μ' a' b', a ≤ a' + 1100 → b ≤ b' + 13000 → JI (N + 1) σ' μ' → W_law L xs ret (664, lL (nI i), [], (σ', μ'), a', b')) : W_law L xs ret (328, lL (nI i), [], (σ, μ), a, b) := by
  obtain ⟨Q1, hX, hR⟩ := stp_flat h (xs (i + 1))
  rw [r_law_328]
  simp only [r_law_329, r_law_330, r_law_331, r_law_332, r_law_333, r_law_334, nI_add, vp_in_i (show i + 1 < 2 ^ 31 by omega), nI_clamp (show i + 1 < 2 ^ 31 by omega)]
  refine ⟨by omega, ⟨1100, 13000, fun r s' => Q1 r s'.1 ∧ s'.2 = μ, ha, hb, ⟨[(xs (i + 1))], Q1, rfl, hX, fun v σ' hq => by rw [mI_e]; exact ⟨hq, rfl⟩⟩, ?_⟩⟩
  rintro r ⟨σ1, μ1⟩ ⟨h1, h2⟩
  dsimp only at h1 h2
  subst h2
  obtain ⟨Q2, hP, hE⟩ := hR r σ1 h1
  rw [r_law_337]
  simp only [r_law_338, r_law_339, r_law_340, r_law_341, r_law_342, r_law_343, nI_add, vp_in_i (show i + 1 < 2 ^ 31 by omega), nI_clamp (show i + 1 < 2 ^ 31 by omega)]
  refine ⟨by omega, ⟨fun r s' => Q2 r s'.2 ∧ s'.1 = σ1, ⟨[(xs (i + 1))], Q2, rfl, hP, fun v σ' hq => by rw [mI_e]; exact ⟨hq, rfl⟩⟩, ?_⟩⟩
  rintro r' ⟨σ2, μ2⟩ ⟨k1, k2⟩
  dsimp only at k1 k2
  subst k2
  obtain ⟨rfl, hJ⟩ := hE r' μ2 k1
  rw [r_law_346]
  exact ⟨fun _ => K _ _ _ _ (by omega) (by omega) hJ, fun z => absurd rfl z⟩
set_option maxHeartbeats 2000000 in
theorem lc_sign (hL : L ≤ 2560) (hi : i + 5 ≤ L) (hN : N < 512) (h : JI N σ μ) (ha : 1100 ≤ a) (hb : 13000 ≤ b) (K : ∀ σ' μ' a' b', a ≤ a' + 1100 → b ≤ b' + 13000 → JI (N + 1) σ' μ' → W_law L xs ret (664, lL (nI i), [], (σ', μ'), a', b')) : W_law L xs ret (351, lL (nI i), [], (σ, μ), a, b) := by
  obtain ⟨Q1, hX, hR⟩ := stp_sign h (xs (i + 1)) (xs (i + 2))
  rw [r_law_351]
  simp only [r_law_352, r_law_353, r_law_354, r_law_355, r_law_356, r_law_357, r_law_358, r_law_359, r_law_360, r_law_361, r_law_362, nI_add, vp_in_i (show i + 1 < 2 ^ 31 by omega), vp_in_i (show i + 2 < 2 ^ 31 by omega), nI_clamp (show i + 1 < 2 ^ 31 by omega), nI_clamp (show i + 2 < 2 ^ 31 by omega)]
  refine ⟨by omega, ⟨by omega, ⟨fun r s' => Q1 r s'.1 ∧ s'.2 = μ, ⟨[(xs (i + 1)), (xs (i + 2))], Q1, rfl, hX, fun v σ' hq => by rw [mI_e]; exact ⟨hq, rfl⟩⟩, ?_⟩⟩⟩
  rintro r ⟨σ1, μ1⟩ ⟨h1, h2⟩
  dsimp only at h1 h2
  subst h2
  obtain ⟨Q2, hP, hE⟩ := hR r σ1 h1
  rw [r_law_365]
  simp only [r_law_366, r_law_367, r_law_368, r_law_369, r_law_370, r_law_371, r_law_372, r_law_373, r_law_374, r_law_375, r_law_376, nI_add, vp_in_i (show i + 1 < 2 ^ 31 by omega), vp_in_i (show i + 2 < 2 ^ 31 by omega), nI_clamp (show i + 1 < 2 ^ 31 by omega), nI_clamp (show i + 2 < 2 ^ 31 by omega)]
  refine ⟨by omega, ⟨by omega, ⟨fun r s' => Q2 r s'.2 ∧ s'.1 = σ1, ⟨[(xs (i + 1)), (xs (i + 2))], Q2, rfl, hP, fun v σ' hq => by rw [mI_e]; exact ⟨hq, rfl⟩⟩, ?_⟩⟩⟩
  rintro r' ⟨σ2, μ2⟩ ⟨k1, k2⟩
  dsimp only at k1 k2
  subst k2
  obtain ⟨rfl, hJ⟩ := hE r' μ2 k1
  rw [r_law_379]
  exact ⟨fun _ => K _ _ _ _ (by omega) (by omega) hJ, fun z => absurd rfl z⟩
set_option maxHeartbeats 2000000 in
theorem lc_hash (hL : L ≤ 2560) (hi : i + 5 ≤ L) (hN : N < 512) (h : JI N σ μ) (ha : 1100 ≤ a) (hb : 13000 ≤ b) (K : ∀ σ' μ' a' b', a ≤ a' + 1100 → b ≤ b' + 13000 → JI (N + 1) σ' μ' → W_law L xs ret (664, lL (nI i), [], (σ', μ'), a', b')) : W_law L xs ret (384, lL (nI i), [], (σ, μ), a, b) := by
  obtain ⟨Q1, hX, hR⟩ := stp_hash h (xs (i + 1))
  rw [r_law_384]
  simp only [r_law_385, r_law_386, r_law_387, r_law_388, r_law_389, r_law_390, nI_add, vp_in_i (show i + 1 < 2 ^ 31 by omega), nI_clamp (show i + 1 < 2 ^ 31 by omega)]
  refine ⟨by omega, ⟨fun r s' => Q1 r s'.1 ∧ s'.2 = μ, ⟨[(xs (i + 1))], Q1, rfl, hX, fun v σ' hq => by rw [mI_e]; exact ⟨hq, rfl⟩⟩, ?_⟩⟩
  rintro r ⟨σ1, μ1⟩ ⟨h1, h2⟩
  dsimp only at h1 h2
  subst h2
  obtain ⟨Q2, hP, hE⟩ := hR r σ1 h1
  rw [r_law_393]
  simp only [r_law_394, r_law_395, r_law_396, r_law_397, r_law_398, r_law_399, nI_add, vp_in_i (show i + 1 < 2 ^ 31 by omega), nI_clamp (show i + 1 < 2 ^ 31 by omega)]
  refine ⟨by omega, ⟨fun r s' => Q2 r s'.2 ∧ s'.1 = σ1, ⟨[(xs (i + 1))], Q2, rfl, hP, fun v σ' hq => by rw [mI_e]; exact ⟨hq, rfl⟩⟩, ?_⟩⟩
  rintro r' ⟨σ2, μ2⟩ ⟨k1, k2⟩
  dsimp only at k1 k2
  subst k2
  obtain ⟨rfl, hJ⟩ := hE r' μ2 k1
  rw [r_law_402]
  exact ⟨fun _ => K _ _ _ _ (by omega) (by omega) hJ, fun z => absurd rfl z⟩
set_option maxHeartbeats 2000000 in
theorem lc_told (hL : L ≤ 2560) (hi : i + 5 ≤ L) (hN : N < 512) (h : JI N σ μ) (ha : 1100 ≤ a) (hb : 13000 ≤ b) (K : ∀ σ' μ' a' b', a ≤ a' + 1100 → b ≤ b' + 13000 → JI (N + 1) σ' μ' → W_law L xs ret (664, lL (nI i), [], (σ', μ'), a', b')) : W_law L xs ret (407, lL (nI i), [], (σ, μ), a, b) := by
  obtain ⟨Q1, hX, hR⟩ := stp_told h (by omega) (xs (i + 1)) (xs (i + 2))
  rw [r_law_407]
  simp only [r_law_408, r_law_409, r_law_410, r_law_411, r_law_412, r_law_413, r_law_414, r_law_415, r_law_416, r_law_417, r_law_418, nI_add, vp_in_i (show i + 1 < 2 ^ 31 by omega), vp_in_i (show i + 2 < 2 ^ 31 by omega), nI_clamp (show i + 1 < 2 ^ 31 by omega), nI_clamp (show i + 2 < 2 ^ 31 by omega)]
  refine ⟨by omega, ⟨by omega, ⟨fun r s' => Q1 r s'.1 ∧ s'.2 = μ, ⟨[(xs (i + 1)), (xs (i + 2))], Q1, rfl, hX, fun v σ' hq => by rw [mI_e]; exact ⟨hq, rfl⟩⟩, ?_⟩⟩⟩
  rintro r ⟨σ1, μ1⟩ ⟨h1, h2⟩
  dsimp only at h1 h2
  subst h2
  obtain ⟨Q2, hP, hE⟩ := hR r σ1 h1
  rw [r_law_421]
  simp only [r_law_422, r_law_423, r_law_424, r_law_425, r_law_426, r_law_427, r_law_428, r_law_429, r_law_430, r_law_431, r_law_432, nI_add, vp_in_i (show i + 1 < 2 ^ 31 by omega), vp_in_i (show i + 2 < 2 ^ 31 by omega), nI_clamp (show i + 1 < 2 ^ 31 by omega), nI_clamp (show i + 2 < 2 ^ 31 by omega)]
  refine ⟨by omega, ⟨by omega, ⟨fun r s' => Q2 r s'.2 ∧ s'.1 = σ1, ⟨[(xs (i + 1)), (xs (i + 2))], Q2, rfl, hP, fun v σ' hq => by rw [mI_e]; exact ⟨hq, rfl⟩⟩, ?_⟩⟩⟩
  rintro r' ⟨σ2, μ2⟩ ⟨k1, k2⟩
  dsimp only at k1 k2
  subst k2
  obtain ⟨rfl, hJ⟩ := hE r' μ2 k1
  rw [r_law_435]
  exact ⟨fun _ => K _ _ _ _ (by omega) (by omega) hJ, fun z => absurd rfl z⟩
set_option maxHeartbeats 2000000 in
theorem lc_piece (hL : L ≤ 2560) (hi : i + 5 ≤ L) (hN : N < 512) (h : JI N σ μ) (ha : 1100 ≤ a) (hb : 13000 ≤ b) (K : ∀ σ' μ' a' b', a ≤ a' + 1100 → b ≤ b' + 13000 → JI (N + 1) σ' μ' → W_law L xs ret (664, lL (nI i), [], (σ', μ'), a', b')) : W_law L xs ret (440, lL (nI i), [], (σ, μ), a, b) := by
  obtain ⟨Q1, hX, hR⟩ := stp_piece h (xs (i + 1)) (xs (i + 2)) (xs (i + 3))
  rw [r_law_440]
  simp only [r_law_441, r_law_442, r_law_443, r_law_444, r_law_445, r_law_446, r_law_447, r_law_448, r_law_449, r_law_450, r_law_451, r_law_452, r_law_453, r_law_454, r_law_455, r_law_456, nI_add, vp_in_i (show i + 1 < 2 ^ 31 by omega), vp_in_i (show i + 2 < 2 ^ 31 by omega), vp_in_i (show i + 3 < 2 ^ 31 by omega), nI_clamp (show i + 1 < 2 ^ 31 by omega), nI_clamp (show i + 2 < 2 ^ 31 by omega), nI_clamp (show i + 3 < 2 ^ 31 by omega)]
  refine ⟨by omega, ⟨by omega, ⟨by omega, ⟨fun r s' => Q1 r s'.1 ∧ s'.2 = μ, ⟨[(xs (i + 1)), (xs (i + 2)), (xs (i + 3))], Q1, rfl, hX, fun v σ' hq => by rw [mI_e]; exact ⟨hq, rfl⟩⟩, ?_⟩⟩⟩⟩
  rintro r ⟨σ1, μ1⟩ ⟨h1, h2⟩
  dsimp only at h1 h2
  subst h2
  obtain ⟨Q2, hP, hE⟩ := hR r σ1 h1
  rw [r_law_459]
  simp only [r_law_460, r_law_461, r_law_462, r_law_463, r_law_464, r_law_465, r_law_466, r_law_467, r_law_468, r_law_469, r_law_470, r_law_471, r_law_472, r_law_473, r_law_474, r_law_475, nI_add, vp_in_i (show i + 1 < 2 ^ 31 by omega), vp_in_i (show i + 2 < 2 ^ 31 by omega), vp_in_i (show i + 3 < 2 ^ 31 by omega), nI_clamp (show i + 1 < 2 ^ 31 by omega), nI_clamp (show i + 2 < 2 ^ 31 by omega), nI_clamp (show i + 3 < 2 ^ 31 by omega)]
  refine ⟨by omega, ⟨by omega, ⟨by omega, ⟨fun r s' => Q2 r s'.2 ∧ s'.1 = σ1, ⟨[(xs (i + 1)), (xs (i + 2)), (xs (i + 3))], Q2, rfl, hP, fun v σ' hq => by rw [mI_e]; exact ⟨hq, rfl⟩⟩, ?_⟩⟩⟩⟩
  rintro r' ⟨σ2, μ2⟩ ⟨k1, k2⟩
  dsimp only at k1 k2
  subst k2
  obtain ⟨rfl, hJ⟩ := hE r' μ2 k1
  rw [r_law_478]
  exact ⟨fun _ => K _ _ _ _ (by omega) (by omega) hJ, fun z => absurd rfl z⟩
set_option maxHeartbeats 2000000 in
theorem lc_alike (hL : L ≤ 2560) (hi : i + 5 ≤ L) (hN : N < 512) (h : JI N σ μ) (ha : 1100 ≤ a) (hb : 13000 ≤ b) (K : ∀ σ' μ' a' b', a ≤ a' + 1100 → b ≤ b' + 13000 → JI (N + 1) σ' μ' → W_law L xs ret (664, lL (nI i), [], (σ', μ'), a', b')) : W_law L xs ret (483, lL (nI i), [], (σ, μ), a, b) := by
  obtain ⟨Q1, hX, hR⟩ := stp_alike h (xs (i + 1)) (xs (i + 2)) (xs (i + 3))
  rw [r_law_483]
  simp only [r_law_484, r_law_485, r_law_486, r_law_487, r_law_488, r_law_489, r_law_490, r_law_491, r_law_492, r_law_493, r_law_494, r_law_495, r_law_496, r_law_497, r_law_498, r_law_499, nI_add, vp_in_i (show i + 1 < 2 ^ 31 by omega), vp_in_i (show i + 2 < 2 ^ 31 by omega), vp_in_i (show i + 3 < 2 ^ 31 by omega), nI_clamp (show i + 1 < 2 ^ 31 by omega), nI_clamp (show i + 2 < 2 ^ 31 by omega), nI_clamp (show i + 3 < 2 ^ 31 by omega)]
  refine ⟨by omega, ⟨by omega, ⟨by omega, ⟨fun r s' => Q1 r s'.1 ∧ s'.2 = μ, ⟨[(xs (i + 1)), (xs (i + 2)), (xs (i + 3))], Q1, rfl, hX, fun v σ' hq => by rw [mI_e]; exact ⟨hq, rfl⟩⟩, ?_⟩⟩⟩⟩
  rintro r ⟨σ1, μ1⟩ ⟨h1, h2⟩
  dsimp only at h1 h2
  subst h2
  obtain ⟨Q2, hP, hE⟩ := hR r σ1 h1
  rw [r_law_502]
  simp only [r_law_503, r_law_504, r_law_505, r_law_506, r_law_507, r_law_508, r_law_509, r_law_510, r_law_511, r_law_512, r_law_513, r_law_514, r_law_515, r_law_516, r_law_517, r_law_518, nI_add, vp_in_i (show i + 1 < 2 ^ 31 by omega), vp_in_i (show i + 2 < 2 ^ 31 by omega), vp_in_i (show i + 3 < 2 ^ 31 by omega), nI_clamp (show i + 1 < 2 ^ 31 by omega), nI_clamp (show i + 2 < 2 ^ 31 by omega), nI_clamp (show i + 3 < 2 ^ 31 by omega)]
  refine ⟨by omega, ⟨by omega, ⟨by omega, ⟨fun r s' => Q2 r s'.2 ∧ s'.1 = σ1, ⟨[(xs (i + 1)), (xs (i + 2)), (xs (i + 3))], Q2, rfl, hP, fun v σ' hq => by rw [mI_e]; exact ⟨hq, rfl⟩⟩, ?_⟩⟩⟩⟩
  rintro r' ⟨σ2, μ2⟩ ⟨k1, k2⟩
  dsimp only at k1 k2
  subst k2
  obtain ⟨rfl, hJ⟩ := hE r' μ2 k1
  rw [r_law_521]
  exact ⟨fun _ => K _ _ _ _ (by omega) (by omega) hJ, fun z => absurd rfl z⟩
set_option maxHeartbeats 2000000 in
theorem lc_intern (hL : L ≤ 2560) (hi : i + 5 ≤ L) (hN : N < 512) (h : JI N σ μ) (ha : 1100 ≤ a) (hb : 13000 ≤ b) (K : ∀ σ' μ' a' b', a ≤ a' + 1100 → b ≤ b' + 13000 → JI (N + 1) σ' μ' → W_law L xs ret (664, lL (nI i), [], (σ', μ'), a', b')) : W_law L xs ret (526, lL (nI i), [], (σ, μ), a, b) := by
  obtain ⟨Q1, hX, hR⟩ := stp_intern h (xs (i + 1))
  rw [r_law_526]
  simp only [r_law_527, r_law_528, r_law_529, r_law_530, r_law_531, r_law_532, nI_add, vp_in_i (show i + 1 < 2 ^ 31 by omega), nI_clamp (show i + 1 < 2 ^ 31 by omega)]
  refine ⟨by omega, ⟨fun r s' => Q1 r s'.1 ∧ s'.2 = μ, ⟨[(xs (i + 1))], Q1, rfl, hX, fun v σ' hq => by rw [mI_e]; exact ⟨hq, rfl⟩⟩, ?_⟩⟩
  rintro r ⟨σ1, μ1⟩ ⟨h1, h2⟩
  dsimp only at h1 h2
  subst h2
  obtain ⟨Q2, hP, hE⟩ := hR r σ1 h1
  rw [r_law_535]
  simp only [r_law_536, r_law_537, r_law_538, r_law_539, r_law_540, r_law_541, nI_add, vp_in_i (show i + 1 < 2 ^ 31 by omega), nI_clamp (show i + 1 < 2 ^ 31 by omega)]
  refine ⟨by omega, ⟨fun r s' => Q2 r s'.2 ∧ s'.1 = σ1, ⟨[(xs (i + 1))], Q2, rfl, hP, fun v σ' hq => by rw [mI_e]; exact ⟨hq, rfl⟩⟩, ?_⟩⟩
  rintro r' ⟨σ2, μ2⟩ ⟨k1, k2⟩
  dsimp only at k1 k2
  subst k2
  obtain ⟨rfl, hJ⟩ := hE r' μ2 k1
  rw [r_law_544]
  exact ⟨fun _ => K _ _ _ _ (by omega) (by omega) hJ, fun z => absurd rfl z⟩
set_option maxHeartbeats 2000000 in
theorem lc_sweep (hL : L ≤ 2560) (hi : i + 5 ≤ L) (hN : N < 512) (h : JI N σ μ) (ha : 1100 ≤ a) (hb : 13000 ≤ b) (K : ∀ σ' μ' a' b', a ≤ a' + 1100 → b ≤ b' + 13000 → JI (N + 1) σ' μ' → W_law L xs ret (664, lL (nI i), [], (σ', μ'), a', b')) : W_law L xs ret (549, lL (nI i), [], (σ, μ), a, b) := by
  obtain ⟨Q1, hX, hR⟩ := stp_sweep h (by omega) 
  rw [r_law_549]
  simp only [r_law_550]
  refine ⟨fun r s' => Q1 r s'.1 ∧ s'.2 = μ, ⟨[], Q1, rfl, hX, fun v σ' hq => by rw [mI_e]; exact ⟨hq, rfl⟩⟩, ?_⟩
  rintro r ⟨σ1, μ1⟩ ⟨h1, h2⟩
  dsimp only at h1 h2
  subst h2
  obtain ⟨Q2, hP, hE⟩ := hR r σ1 h1
  rw [r_law_553]
  simp only [r_law_554]
  refine ⟨fun r s' => Q2 r s'.2 ∧ s'.1 = σ1, ⟨[], Q2, rfl, hP, fun v σ' hq => by rw [mI_e]; exact ⟨hq, rfl⟩⟩, ?_⟩
  rintro r' ⟨σ2, μ2⟩ ⟨k1, k2⟩
  dsimp only at k1 k2
  subst k2
  obtain ⟨rfl, hJ⟩ := hE r' μ2 k1
  rw [r_law_557]
  exact ⟨fun _ => K _ _ _ _ (by omega) (by omega) hJ, fun z => absurd rfl z⟩
set_option maxHeartbeats 2000000 in
theorem lc_entry (hL : L ≤ 2560) (hi : i + 5 ≤ L) (hN : N < 512) (h : JI N σ μ) (ha : 1100 ≤ a) (hb : 13000 ≤ b) (K : ∀ σ' μ' a' b', a ≤ a' + 1100 → b ≤ b' + 13000 → JI (N + 1) σ' μ' → W_law L xs ret (664, lL (nI i), [], (σ', μ'), a', b')) : W_law L xs ret (562, lL (nI i), [], (σ, μ), a, b) := by
  obtain ⟨Q1, hX, hR⟩ := stp_entry h (xs (i + 1)) (xs (i + 2))
  rw [r_law_562]
  simp only [r_law_563, r_law_564, r_law_565, r_law_566, r_law_567, r_law_568, r_law_569, r_law_570, r_law_571, r_law_572, r_law_573, nI_add, vp_in_i (show i + 1 < 2 ^ 31 by omega), vp_in_i (show i + 2 < 2 ^ 31 by omega), nI_clamp (show i + 1 < 2 ^ 31 by omega), nI_clamp (show i + 2 < 2 ^ 31 by omega)]
  refine ⟨by omega, ⟨by omega, ⟨fun r s' => Q1 r s'.1 ∧ s'.2 = μ, ⟨[(xs (i + 1)), (xs (i + 2))], Q1, rfl, hX, fun v σ' hq => by rw [mI_e]; exact ⟨hq, rfl⟩⟩, ?_⟩⟩⟩
  rintro r ⟨σ1, μ1⟩ ⟨h1, h2⟩
  dsimp only at h1 h2
  subst h2
  obtain ⟨Q2, hP, hE⟩ := hR r σ1 h1
  rw [r_law_576]
  simp only [r_law_577, r_law_578, r_law_579, r_law_580, r_law_581, r_law_582, r_law_583, r_law_584, r_law_585, r_law_586, r_law_587, nI_add, vp_in_i (show i + 1 < 2 ^ 31 by omega), vp_in_i (show i + 2 < 2 ^ 31 by omega), nI_clamp (show i + 1 < 2 ^ 31 by omega), nI_clamp (show i + 2 < 2 ^ 31 by omega)]
  refine ⟨by omega, ⟨by omega, ⟨fun r s' => Q2 r s'.2 ∧ s'.1 = σ1, ⟨[(xs (i + 1)), (xs (i + 2))], Q2, rfl, hP, fun v σ' hq => by rw [mI_e]; exact ⟨hq, rfl⟩⟩, ?_⟩⟩⟩
  rintro r' ⟨σ2, μ2⟩ ⟨k1, k2⟩
  dsimp only at k1 k2
  subst k2
  obtain ⟨rfl, hJ⟩ := hE r' μ2 k1
  rw [r_law_590]
  exact ⟨fun _ => K _ _ _ _ (by omega) (by omega) hJ, fun z => absurd rfl z⟩
set_option maxHeartbeats 2000000 in
theorem lc_count (hL : L ≤ 2560) (hi : i + 5 ≤ L) (hN : N < 512) (h : JI N σ μ) (ha : 1100 ≤ a) (hb : 13000 ≤ b) (K : ∀ σ' μ' a' b', a ≤ a' + 1100 → b ≤ b' + 13000 → JI (N + 1) σ' μ' → W_law L xs ret (664, lL (nI i), [], (σ', μ'), a', b')) : W_law L xs ret (595, lL (nI i), [], (σ, μ), a, b) := by
  obtain ⟨Q1, hX, hR⟩ := stp_count h (by omega) (xs (i + 1))
  rw [r_law_595]
  simp only [r_law_596, r_law_597, r_law_598, r_law_599, r_law_600, r_law_601, nI_add, vp_in_i (show i + 1 < 2 ^ 31 by omega), nI_clamp (show i + 1 < 2 ^ 31 by omega)]
  refine ⟨by omega, ⟨fun r s' => Q1 r s'.1 ∧ s'.2 = μ, ⟨[(xs (i + 1))], Q1, rfl, hX, fun v σ' hq => by rw [mI_e]; exact ⟨hq, rfl⟩⟩, ?_⟩⟩
  rintro r ⟨σ1, μ1⟩ ⟨h1, h2⟩
  dsimp only at h1 h2
  subst h2
  obtain ⟨Q2, hP, hE⟩ := hR r σ1 h1
  rw [r_law_604]
  simp only [r_law_605, r_law_606, r_law_607, r_law_608, r_law_609, r_law_610, nI_add, vp_in_i (show i + 1 < 2 ^ 31 by omega), nI_clamp (show i + 1 < 2 ^ 31 by omega)]
  refine ⟨by omega, ⟨fun r s' => Q2 r s'.2 ∧ s'.1 = σ1, ⟨[(xs (i + 1))], Q2, rfl, hP, fun v σ' hq => by rw [mI_e]; exact ⟨hq, rfl⟩⟩, ?_⟩⟩
  rintro r' ⟨σ2, μ2⟩ ⟨k1, k2⟩
  dsimp only at k1 k2
  subst k2
  obtain ⟨rfl, hJ⟩ := hE r' μ2 k1
  rw [r_law_613]
  exact ⟨fun _ => K _ _ _ _ (by omega) (by omega) hJ, fun z => absurd rfl z⟩
set_option maxHeartbeats 2000000 in
theorem lc_image (hL : L ≤ 2560) (hi : i + 5 ≤ L) (hN : N < 512) (h : JI N σ μ) (ha : 1100 ≤ a) (hb : 13000 ≤ b) (K : ∀ σ' μ' a' b', a ≤ a' + 1100 → b ≤ b' + 13000 → JI (N + 1) σ' μ' → W_law L xs ret (664, lL (nI i), [], (σ', μ'), a', b')) : W_law L xs ret (618, lL (nI i), [], (σ, μ), a, b) := by
  obtain ⟨Q1, hX, hR⟩ := stp_image h (xs (i + 1))
  rw [r_law_618]
  simp only [r_law_619, r_law_620, r_law_621, r_law_622, r_law_623, r_law_624, nI_add, vp_in_i (show i + 1 < 2 ^ 31 by omega), nI_clamp (show i + 1 < 2 ^ 31 by omega)]
  refine ⟨by omega, ⟨fun r s' => Q1 r s'.1 ∧ s'.2 = μ, ⟨[(xs (i + 1))], Q1, rfl, hX, fun v σ' hq => by rw [mI_e]; exact ⟨hq, rfl⟩⟩, ?_⟩⟩
  rintro r ⟨σ1, μ1⟩ ⟨h1, h2⟩
  dsimp only at h1 h2
  subst h2
  obtain ⟨Q2, hP, hE⟩ := hR r σ1 h1
  rw [r_law_627]
  simp only [r_law_628, r_law_629, r_law_630, r_law_631, r_law_632, r_law_633, nI_add, vp_in_i (show i + 1 < 2 ^ 31 by omega), nI_clamp (show i + 1 < 2 ^ 31 by omega)]
  refine ⟨by omega, ⟨fun r s' => Q2 r s'.2 ∧ s'.1 = σ1, ⟨[(xs (i + 1))], Q2, rfl, hP, fun v σ' hq => by rw [mI_e]; exact ⟨hq, rfl⟩⟩, ?_⟩⟩
  rintro r' ⟨σ2, μ2⟩ ⟨k1, k2⟩
  dsimp only at k1 k2
  subst k2
  obtain ⟨rfl, hJ⟩ := hE r' μ2 k1
  rw [r_law_636]
  exact ⟨fun _ => K _ _ _ _ (by omega) (by omega) hJ, fun z => absurd rfl z⟩
set_option maxHeartbeats 2000000 in
theorem lc_restore (hL : L ≤ 2560) (hi : i + 5 ≤ L) (hN : N < 512) (h : JI N σ μ) (ha : 1100 ≤ a) (hb : 13000 ≤ b) (K : ∀ σ' μ' a' b', a ≤ a' + 1100 → b ≤ b' + 13000 → JI (N + 1) σ' μ' → W_law L xs ret (664, lL (nI i), [], (σ', μ'), a', b')) : W_law L xs ret (641, lL (nI i), [], (σ, μ), a, b) := by
  obtain ⟨Q1, hX, hR⟩ := stp_restore h (xs (i + 1))
  rw [r_law_641]
  simp only [r_law_642, r_law_643, r_law_644, r_law_645, r_law_646, r_law_647, nI_add, vp_in_i (show i + 1 < 2 ^ 31 by omega), nI_clamp (show i + 1 < 2 ^ 31 by omega)]
  refine ⟨by omega, ⟨fun r s' => Q1 r s'.1 ∧ s'.2 = μ, ⟨[(xs (i + 1))], Q1, rfl, hX, fun v σ' hq => by rw [mI_e]; exact ⟨hq, rfl⟩⟩, ?_⟩⟩
  rintro r ⟨σ1, μ1⟩ ⟨h1, h2⟩
  dsimp only at h1 h2
  subst h2
  obtain ⟨Q2, hP, hE⟩ := hR r σ1 h1
  rw [r_law_650]
  simp only [r_law_651, r_law_652, r_law_653, r_law_654, r_law_655, r_law_656, nI_add, vp_in_i (show i + 1 < 2 ^ 31 by omega), nI_clamp (show i + 1 < 2 ^ 31 by omega)]
  refine ⟨by omega, ⟨fun r s' => Q2 r s'.2 ∧ s'.1 = σ1, ⟨[(xs (i + 1))], Q2, rfl, hP, fun v σ' hq => by rw [mI_e]; exact ⟨hq, rfl⟩⟩, ?_⟩⟩
  rintro r' ⟨σ2, μ2⟩ ⟨k1, k2⟩
  dsimp only at k1 k2
  subst k2
  obtain ⟨rfl, hJ⟩ := hE r' μ2 k1
  rw [r_law_659]
  exact ⟨fun _ => K _ _ _ _ (by omega) (by omega) hJ, fun z => absurd rfl z⟩
set_option maxHeartbeats 4000000 in
theorem law_loop (hL : L ≤ 2560) (K : ∀ s, ret (some (.inl (nI 1))) s) : ∀ y : Nat × xS × rf_M × Nat × Nat, (y.1 ≤ 512 ∧ JI y.1 y.2.1 y.2.2.1 ∧ 1100 * (512 - y.1) ≤ y.2.2.2.1 ∧ 13000 * (512 - y.1) ≤ y.2.2.2.2) → W_law L xs ret (18, lL (nI (5 * y.1)), [], (y.2.1, y.2.2.1), y.2.2.2.1, y.2.2.2.2) := by
  refine mm_loop _ _ (fun y => 512 - y.1) ?_
  rintro ⟨N, σ, μ, a, b⟩ ⟨h1, h2, h3, h4⟩ ih
  dsimp only at h1 h2 h3 h4 ⊢
  rw [r_law_18]
  simp only [r_law_19, r_law_20, r_law_21, r_law_22, r_law_23]
  refine ⟨fun _ => ?_, fun hle => ?_⟩
  · rw [r_law_670, r_law_671]
    exact ⟨Or.inr (by decide), K _⟩
  · have hi : 5 * N + 5 ≤ L := by
      have h5 := mt (fun q : (nI L - nI 5).toInt < (nI (5 * N)).toInt => Int32.lt_iff_toInt_lt.mpr q) hle
      rw [pk_sub_toInt (by omega) (by omega), nI_toInt (by omega)] at h5
      omega
    have hN : N < 512 := by omega
    have step : ∀ σ' μ' a' b', a ≤ a' + 1100 → b ≤ b' + 13000 → JI (N + 1) σ' μ' → W_law L xs ret (664, lL (nI (5 * N)), [], (σ', μ'), a', b') := by
      intro σ' μ' a' b' g1 g2 g3
      rw [r_law_664, r_law_667, nI_add]
      exact ih (N + 1, σ', μ', a', b') ⟨by dsimp only; omega, g3, by dsimp only; omega, by dsimp only; omega⟩ (by dsimp only; omega)
    have ha : 1100 ≤ a := by omega
    have hb : 13000 ≤ b := by omega
    rw [r_law_26]
    simp only [r_law_27, r_law_28, r_law_29, r_law_31, r_law_32, vp_in_i (show 5 * N < 2 ^ 31 by omega)]
    refine ⟨by omega, fun _ => step _ _ _ _ (by omega) (by omega) (JI_up h2), fun _ => lc_rule hL hi hN h2 ha hb step, fun _ => lc_say hL hi hN h2 ha hb step, fun _ => lc_put hL hi hN h2 ha hb step, fun _ => lc_copy hL hi hN h2 ha hb step, fun _ => lc_join hL hi hN h2 ha hb step, fun _ => lc_cut hL hi hN h2 ha hb step, fun _ => lc_flat hL hi hN h2 ha hb step, fun _ => lc_sign hL hi hN h2 ha hb step, fun _ => lc_hash hL hi hN h2 ha hb step, fun _ => lc_told hL hi hN h2 ha hb step, fun _ => lc_piece hL hi hN h2 ha hb step, fun _ => lc_alike hL hi hN h2 ha hb step, fun _ => lc_intern hL hi hN h2 ha hb step, fun _ => lc_sweep hL hi hN h2 ha hb step, fun _ => lc_entry hL hi hN h2 ha hb step, fun _ => lc_count hL hi hN h2 ha hb step, fun _ => lc_image hL hi hN h2 ha hb step, fun _ => lc_restore hL hi hN h2 ha hb step, trivial⟩
end LC
def lw_B (sl : List Nat) : Nat := sl.foldr (fun a b => a + b + 1) 0
theorem lw_B_lt : ∀ (sl : List Nat), ∀ c ∈ sl, c < lw_B sl
  | [], c, h => by simp at h
  | a :: r, c, h => by
    rcases List.mem_cons.mp h with rfl | h
    · show c < c + lw_B r + 1; omega
    · have := lw_B_lt r c h
      show c < a + lw_B r + 1; omega
/-- both at their start -/
theorem JI_start {σ : xS} {μ : rf_M} {sl : List Nat} (hX : XS σ (fun c => if c ∈ sl then some (.inl []) else none) sl (fun _ => none) [] [] 0 [] 8 6 4 0 0 []) (hnd : sl.Nodup) (h8 : sl.length = 8) (hM : MS0 μ) : JI 0 σ μ := by
  obtain ⟨ι, a1, ⟨⟨o1, o2⟩, o3, c1, c2, c3⟩, a3, a4⟩ := hM
  have hT : ∀ c v, (fun c => if c ∈ sl then some (.inl []) else none : sT) c = some v → c ∈ sl ∧ v = .inl [] := fun c v hc => by
    dsimp only at hc
    split at hc
    · exact ⟨by assumption, (Option.some.inj hc).symm⟩
    · cases hc
  generalize hTT : (fun c => if c ∈ sl then some (.inl []) else none : sT) = T at hX hT
  have hT2 : ∀ c ∈ sl, T c = some (.inl []) := fun c hc => by rw [← hTT]; simp [hc]
  have ix : ∀ j c, sl[j]? = some c → (rl_ix sl c).getD 0 = j := by
    intro j c hj
    have hjl := (List.getElem?_eq_some_iff.mp hj).1
    cases hx : rl_ix sl c with
    | none => exact absurd hx (rl_ix_n (by omega) hj)
    | some k => exact rl_uq hnd (rl_ix_s hx).2 hj
  have hw : ∀ c, T c ≠ none → wf T 13 c := fun c hc => by
    obtain ⟨v, hv⟩ := Option.ne_none_iff_exists'.mp hc
    obtain ⟨-, rfl⟩ := hT c v hv
    exact (wf_leaf hv).mpr ⟨by simp, by simp⟩
  have at_ : ∀ c ∈ sl, ∃ j, j < 8 ∧ sl[j]? = some c := fun c hc => by
    obtain ⟨j, hj, e⟩ := List.getElem_of_mem hc
    exact ⟨j, by omega, by rw [List.getElem?_eq_getElem hj, e]⟩
  refine ⟨T, fun x => ι ((rl_ix sl x).getD 0), lw_B sl, 20472, 16, sl, fun _ => none, [], [], 0, [], 8, 6, 4, 0, 0, [], hX, ⟨RR_ren a1 ?_ ?_ hw ?_, ⟨⟨h8, ?_⟩, ?_, c1, c2, c3⟩, ?_, a4⟩, Nat.le_refl _, Nat.le_refl _⟩
  · intro x v hv
    obtain ⟨hx, rfl⟩ := hT x v hv
    obtain ⟨j, hj, e⟩ := at_ x hx
    rw [ix j x e]
    show lvs 8 j = some (.inl [])
    unfold lvs
    rw [if_pos hj]
  · intro x y hx hy hxy
    obtain ⟨v, hv⟩ := Option.ne_none_iff_exists'.mp hx
    obtain ⟨v', hv'⟩ := Option.ne_none_iff_exists'.mp hy
    obtain ⟨j, hj, e⟩ := at_ x (hT x v hv).1
    obtain ⟨k, hk, e'⟩ := at_ y (hT y v' hv').1
    rw [ix j x e, ix k y e'] at hxy
    subst hxy
    exact Option.some.inj (e.symm.trans e')
  · intro c hc
    cases hv : T c with
    | none => rfl
    | some v => have := lw_B_lt sl c (hT c v hv).1; omega
  · intro j x hj
    rw [List.getElem?_map] at hj
    cases he : sl[j]? with
    | none => rw [he] at hj; cases hj
    | some c =>
      rw [he] at hj
      have hj := Option.some.inj hj
      subst hj
      have hjl := (List.getElem?_eq_some_iff.mp he).1
      dsimp only
      rw [ix j c he]
      exact o2 j _ (by rw [List.getElem?_map, List.getElem?_range (by omega)]; rfl)
  · exact fun k hk => o3 k hk |>.elim (fun z => Or.inl z) (fun ⟨l, z, _⟩ => by cases z)
  · intro r hr
    have hr : r ∈ sl := by simpa [rts] using hr
    exact (wf_leaf (hT2 r hr)).mpr ⟨by simp, by simp⟩

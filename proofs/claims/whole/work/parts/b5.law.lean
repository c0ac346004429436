/-! ===== the law: its loop ===== -/
set_option maxRecDepth 100000
def tL_law_0 : List IE := [(0, .new 7, 3, 0, 0), (3, .dup, 1, 0, 0), (4, .invokespecial 9, 3, 0, 0), (7, .astore_n 1, 1, 0, 0), (8, .new 10, 3, 0, 0), (11, .dup, 1, 0, 0), (12, .invokespecial 12, 3, 0, 0), (15, .astore_n 2, 1, 0, 0), (16, .iconst 0, 1, 0, 0), (17, .istore_n 3, 1, 0, 0), (18, .iload_n 3, 1, 0, 0), (19, .aload_n 0, 1, 0, 0), (20, .arraylength, 1, 0, 0), (21, .bipush 6, 2, 6, 0), (23, .isub, 1, 0, 0), (24, .if_icmp .gt 1319, 3, 0, 1343), (27, .aload_n 0, 1, 0, 0), (28, .iload_n 3, 1, 0, 0), (29, .iaload, 1, 0, 0), (30, .bipush 63, 2, 63, 0), (32, .iand, 1, 0, 0), (33, .tableswitch 1304 0 32 #[147, 200, 249, 282, 335, 394, 427, 470, 503, 546, 589, 632, 655, 679, 713, 756, 819, 842, 855, 878, 915, 948, 971, 1004, 1027, 1060, 1083, 1116, 1149, 1182, 1195, 1228, 1271], 147, 0, 0), (180, .aload_n 1, 1, 0, 0), (181, .aload_n 0, 1, 0, 0), (182, .iload_n 3, 1, 0, 0), (183, .iconst 1, 1, 1, 0), (184, .iadd, 1, 0, 0), (185, .iaload, 1, 0, 0), (186, .aload_n 0, 1, 0, 0), (187, .iload_n 3, 1, 0, 0), (188, .iconst 2, 1, 2, 0), (189, .iadd, 1, 0, 0), (190, .iaload, 1, 0, 0), (191, .aload_n 0, 1, 0, 0), (192, .iload_n 3, 1, 0, 0), (193, .iconst 3, 1, 3, 0), (194, .iadd, 1, 0, 0), (195, .iaload, 1, 0, 0), (196, .aload_n 0, 1, 0, 0), (197, .iload_n 3, 1, 0, 0), (198, .iconst 4, 1, 4, 0), (199, .iadd, 1, 0, 0), (200, .iaload, 1, 0, 0), (201, .invokevirtual 13, 3, 0, 0), (204, .aload_n 2, 1, 0, 0), (205, .aload_n 0, 1, 0, 0), (206, .iload_n 3, 1, 0, 0), (207, .iconst 1, 1, 1, 0), (208, .iadd, 1, 0, 0), (209, .iaload, 1, 0, 0), (210, .aload_n 0, 1, 0, 0), (211, .iload_n 3, 1, 0, 0), (212, .iconst 2, 1, 2, 0), (213, .iadd, 1, 0, 0), (214, .iaload, 1, 0, 0), (215, .aload_n 0, 1, 0, 0), (216, .iload_n 3, 1, 0, 0), (217, .iconst 3, 1, 3, 0), (218, .iadd, 1, 0, 0), (219, .iaload, 1, 0, 0)]
theorem dcL_law_0 : (∀ x ∈ tL_law_0, decode cL_law x.1 = .ok (x.2.1, x.2.2.1)) ∧ ∀ x ∈ tL_law_0, numOK x = true := ⟨by decide +kernel, by decide +kernel⟩
def tL_law_1 : List IE := [(220, .aload_n 0, 1, 0, 0), (221, .iload_n 3, 1, 0, 0), (222, .iconst 4, 1, 4, 0), (223, .iadd, 1, 0, 0), (224, .iaload, 1, 0, 0), (225, .invokevirtual 17, 3, 0, 0), (228, .if_icmp .eq 1109, 3, 0, 1337), (231, .iconst 0, 1, 0, 0), (232, .ireturn, 1, 0, 0), (233, .aload_n 1, 1, 0, 0), (234, .aload_n 0, 1, 0, 0), (235, .iload_n 3, 1, 0, 0), (236, .iconst 1, 1, 1, 0), (237, .iadd, 1, 0, 0), (238, .iaload, 1, 0, 0), (239, .aload_n 0, 1, 0, 0), (240, .iload_n 3, 1, 0, 0), (241, .iconst 2, 1, 2, 0), (242, .iadd, 1, 0, 0), (243, .iaload, 1, 0, 0), (244, .ifCond .eq 7, 3, 0, 251), (247, .iconst 1, 1, 1, 0), (248, .goto 4, 3, 0, 252), (251, .iconst 0, 1, 0, 0), (252, .invokevirtual 18, 3, 0, 0), (255, .aload_n 2, 1, 0, 0), (256, .aload_n 0, 1, 0, 0), (257, .iload_n 3, 1, 0, 0), (258, .iconst 1, 1, 1, 0), (259, .iadd, 1, 0, 0), (260, .iaload, 1, 0, 0), (261, .aload_n 0, 1, 0, 0), (262, .iload_n 3, 1, 0, 0), (263, .iconst 2, 1, 2, 0), (264, .iadd, 1, 0, 0), (265, .iaload, 1, 0, 0), (266, .ifCond .eq 7, 3, 0, 273), (269, .iconst 1, 1, 1, 0), (270, .goto 4, 3, 0, 274), (273, .iconst 0, 1, 0, 0), (274, .invokevirtual 22, 3, 0, 0), (277, .if_icmp .eq 1060, 3, 0, 1337), (280, .iconst 0, 1, 0, 0), (281, .ireturn, 1, 0, 0), (282, .aload_n 1, 1, 0, 0), (283, .aload_n 0, 1, 0, 0), (284, .iload_n 3, 1, 0, 0), (285, .iconst 1, 1, 1, 0), (286, .iadd, 1, 0, 0), (287, .iaload, 1, 0, 0), (288, .aload_n 0, 1, 0, 0), (289, .iload_n 3, 1, 0, 0), (290, .iconst 2, 1, 2, 0), (291, .iadd, 1, 0, 0), (292, .iaload, 1, 0, 0), (293, .invokevirtual 23, 3, 0, 0), (296, .aload_n 2, 1, 0, 0), (297, .aload_n 0, 1, 0, 0), (298, .iload_n 3, 1, 0, 0), (299, .iconst 1, 1, 1, 0)]
theorem dcL_law_1 : (∀ x ∈ tL_law_1, decode cL_law x.1 = .ok (x.2.1, x.2.2.1)) ∧ ∀ x ∈ tL_law_1, numOK x = true := ⟨by decide +kernel, by decide +kernel⟩
def tL_law_2 : List IE := [(300, .iadd, 1, 0, 0), (301, .iaload, 1, 0, 0), (302, .aload_n 0, 1, 0, 0), (303, .iload_n 3, 1, 0, 0), (304, .iconst 2, 1, 2, 0), (305, .iadd, 1, 0, 0), (306, .iaload, 1, 0, 0), (307, .invokevirtual 27, 3, 0, 0), (310, .if_icmp .eq 1027, 3, 0, 1337), (313, .iconst 0, 1, 0, 0), (314, .ireturn, 1, 0, 0), (315, .aload_n 1, 1, 0, 0), (316, .aload_n 0, 1, 0, 0), (317, .iload_n 3, 1, 0, 0), (318, .iconst 1, 1, 1, 0), (319, .iadd, 1, 0, 0), (320, .iaload, 1, 0, 0), (321, .aload_n 0, 1, 0, 0), (322, .iload_n 3, 1, 0, 0), (323, .iconst 2, 1, 2, 0), (324, .iadd, 1, 0, 0), (325, .iaload, 1, 0, 0), (326, .aload_n 0, 1, 0, 0), (327, .iload_n 3, 1, 0, 0), (328, .iconst 3, 1, 3, 0), (329, .iadd, 1, 0, 0), (330, .iaload, 1, 0, 0), (331, .aload_n 0, 1, 0, 0), (332, .iload_n 3, 1, 0, 0), (333, .iconst 4, 1, 4, 0), (334, .iadd, 1, 0, 0), (335, .iaload, 1, 0, 0), (336, .invokevirtual 28, 3, 0, 0), (339, .aload_n 2, 1, 0, 0), (340, .aload_n 0, 1, 0, 0), (341, .iload_n 3, 1, 0, 0), (342, .iconst 1, 1, 1, 0), (343, .iadd, 1, 0, 0), (344, .iaload, 1, 0, 0), (345, .aload_n 0, 1, 0, 0), (346, .iload_n 3, 1, 0, 0), (347, .iconst 2, 1, 2, 0), (348, .iadd, 1, 0, 0), (349, .iaload, 1, 0, 0), (350, .aload_n 0, 1, 0, 0), (351, .iload_n 3, 1, 0, 0), (352, .iconst 3, 1, 3, 0), (353, .iadd, 1, 0, 0), (354, .iaload, 1, 0, 0), (355, .aload_n 0, 1, 0, 0), (356, .iload_n 3, 1, 0, 0), (357, .iconst 4, 1, 4, 0), (358, .iadd, 1, 0, 0), (359, .iaload, 1, 0, 0), (360, .invokevirtual 31, 3, 0, 0), (363, .if_icmp .eq 974, 3, 0, 1337), (366, .iconst 0, 1, 0, 0), (367, .ireturn, 1, 0, 0), (368, .aload_n 1, 1, 0, 0), (369, .aload_n 0, 1, 0, 0)]
theorem dcL_law_2 : (∀ x ∈ tL_law_2, decode cL_law x.1 = .ok (x.2.1, x.2.2.1)) ∧ ∀ x ∈ tL_law_2, numOK x = true := ⟨by decide +kernel, by decide +kernel⟩
def tL_law_3 : List IE := [(370, .iload_n 3, 1, 0, 0), (371, .iconst 1, 1, 1, 0), (372, .iadd, 1, 0, 0), (373, .iaload, 1, 0, 0), (374, .aload_n 0, 1, 0, 0), (375, .iload_n 3, 1, 0, 0), (376, .iconst 2, 1, 2, 0), (377, .iadd, 1, 0, 0), (378, .iaload, 1, 0, 0), (379, .aload_n 0, 1, 0, 0), (380, .iload_n 3, 1, 0, 0), (381, .iconst 3, 1, 3, 0), (382, .iadd, 1, 0, 0), (383, .iaload, 1, 0, 0), (384, .ifCond .eq 7, 3, 0, 391), (387, .iconst 1, 1, 1, 0), (388, .goto 4, 3, 0, 392), (391, .iconst 0, 1, 0, 0), (392, .invokevirtual 32, 3, 0, 0), (395, .aload_n 2, 1, 0, 0), (396, .aload_n 0, 1, 0, 0), (397, .iload_n 3, 1, 0, 0), (398, .iconst 1, 1, 1, 0), (399, .iadd, 1, 0, 0), (400, .iaload, 1, 0, 0), (401, .aload_n 0, 1, 0, 0), (402, .iload_n 3, 1, 0, 0), (403, .iconst 2, 1, 2, 0), (404, .iadd, 1, 0, 0), (405, .iaload, 1, 0, 0), (406, .aload_n 0, 1, 0, 0), (407, .iload_n 3, 1, 0, 0), (408, .iconst 3, 1, 3, 0), (409, .iadd, 1, 0, 0), (410, .iaload, 1, 0, 0), (411, .ifCond .eq 7, 3, 0, 418), (414, .iconst 1, 1, 1, 0), (415, .goto 4, 3, 0, 419), (418, .iconst 0, 1, 0, 0), (419, .invokevirtual 36, 3, 0, 0), (422, .if_icmp .eq 915, 3, 0, 1337), (425, .iconst 0, 1, 0, 0), (426, .ireturn, 1, 0, 0), (427, .aload_n 1, 1, 0, 0), (428, .aload_n 0, 1, 0, 0), (429, .iload_n 3, 1, 0, 0), (430, .iconst 1, 1, 1, 0), (431, .iadd, 1, 0, 0), (432, .iaload, 1, 0, 0), (433, .aload_n 0, 1, 0, 0), (434, .iload_n 3, 1, 0, 0), (435, .iconst 2, 1, 2, 0), (436, .iadd, 1, 0, 0), (437, .iaload, 1, 0, 0), (438, .invokevirtual 37, 3, 0, 0), (441, .aload_n 2, 1, 0, 0), (442, .aload_n 0, 1, 0, 0), (443, .iload_n 3, 1, 0, 0), (444, .iconst 1, 1, 1, 0), (445, .iadd, 1, 0, 0)]
theorem dcL_law_3 : (∀ x ∈ tL_law_3, decode cL_law x.1 = .ok (x.2.1, x.2.2.1)) ∧ ∀ x ∈ tL_law_3, numOK x = true := ⟨by decide +kernel, by decide +kernel⟩
def tL_law_4 : List IE := [(446, .iaload, 1, 0, 0), (447, .aload_n 0, 1, 0, 0), (448, .iload_n 3, 1, 0, 0), (449, .iconst 2, 1, 2, 0), (450, .iadd, 1, 0, 0), (451, .iaload, 1, 0, 0), (452, .invokevirtual 41, 3, 0, 0), (455, .if_icmp .eq 882, 3, 0, 1337), (458, .iconst 0, 1, 0, 0), (459, .ireturn, 1, 0, 0), (460, .aload_n 1, 1, 0, 0), (461, .aload_n 0, 1, 0, 0), (462, .iload_n 3, 1, 0, 0), (463, .iconst 1, 1, 1, 0), (464, .iadd, 1, 0, 0), (465, .iaload, 1, 0, 0), (466, .aload_n 0, 1, 0, 0), (467, .iload_n 3, 1, 0, 0), (468, .iconst 2, 1, 2, 0), (469, .iadd, 1, 0, 0), (470, .iaload, 1, 0, 0), (471, .aload_n 0, 1, 0, 0), (472, .iload_n 3, 1, 0, 0), (473, .iconst 3, 1, 3, 0), (474, .iadd, 1, 0, 0), (475, .iaload, 1, 0, 0), (476, .invokevirtual 42, 3, 0, 0), (479, .aload_n 2, 1, 0, 0), (480, .aload_n 0, 1, 0, 0), (481, .iload_n 3, 1, 0, 0), (482, .iconst 1, 1, 1, 0), (483, .iadd, 1, 0, 0), (484, .iaload, 1, 0, 0), (485, .aload_n 0, 1, 0, 0), (486, .iload_n 3, 1, 0, 0), (487, .iconst 2, 1, 2, 0), (488, .iadd, 1, 0, 0), (489, .iaload, 1, 0, 0), (490, .aload_n 0, 1, 0, 0), (491, .iload_n 3, 1, 0, 0), (492, .iconst 3, 1, 3, 0), (493, .iadd, 1, 0, 0), (494, .iaload, 1, 0, 0), (495, .invokevirtual 46, 3, 0, 0), (498, .if_icmp .eq 839, 3, 0, 1337), (501, .iconst 0, 1, 0, 0), (502, .ireturn, 1, 0, 0), (503, .aload_n 1, 1, 0, 0), (504, .aload_n 0, 1, 0, 0), (505, .iload_n 3, 1, 0, 0), (506, .iconst 1, 1, 1, 0), (507, .iadd, 1, 0, 0), (508, .iaload, 1, 0, 0), (509, .aload_n 0, 1, 0, 0), (510, .iload_n 3, 1, 0, 0), (511, .iconst 2, 1, 2, 0), (512, .iadd, 1, 0, 0), (513, .iaload, 1, 0, 0), (514, .invokevirtual 47, 3, 0, 0), (517, .aload_n 2, 1, 0, 0)]
theorem dcL_law_4 : (∀ x ∈ tL_law_4, decode cL_law x.1 = .ok (x.2.1, x.2.2.1)) ∧ ∀ x ∈ tL_law_4, numOK x = true := ⟨by decide +kernel, by decide +kernel⟩
def tL_law_5 : List IE := [(518, .aload_n 0, 1, 0, 0), (519, .iload_n 3, 1, 0, 0), (520, .iconst 1, 1, 1, 0), (521, .iadd, 1, 0, 0), (522, .iaload, 1, 0, 0), (523, .aload_n 0, 1, 0, 0), (524, .iload_n 3, 1, 0, 0), (525, .iconst 2, 1, 2, 0), (526, .iadd, 1, 0, 0), (527, .iaload, 1, 0, 0), (528, .invokevirtual 50, 3, 0, 0), (531, .if_icmp .eq 806, 3, 0, 1337), (534, .iconst 0, 1, 0, 0), (535, .ireturn, 1, 0, 0), (536, .aload_n 1, 1, 0, 0), (537, .aload_n 0, 1, 0, 0), (538, .iload_n 3, 1, 0, 0), (539, .iconst 1, 1, 1, 0), (540, .iadd, 1, 0, 0), (541, .iaload, 1, 0, 0), (542, .aload_n 0, 1, 0, 0), (543, .iload_n 3, 1, 0, 0), (544, .iconst 2, 1, 2, 0), (545, .iadd, 1, 0, 0), (546, .iaload, 1, 0, 0), (547, .aload_n 0, 1, 0, 0), (548, .iload_n 3, 1, 0, 0), (549, .iconst 3, 1, 3, 0), (550, .iadd, 1, 0, 0), (551, .iaload, 1, 0, 0), (552, .invokevirtual 51, 3, 0, 0), (555, .aload_n 2, 1, 0, 0), (556, .aload_n 0, 1, 0, 0), (557, .iload_n 3, 1, 0, 0), (558, .iconst 1, 1, 1, 0), (559, .iadd, 1, 0, 0), (560, .iaload, 1, 0, 0), (561, .aload_n 0, 1, 0, 0), (562, .iload_n 3, 1, 0, 0), (563, .iconst 2, 1, 2, 0), (564, .iadd, 1, 0, 0), (565, .iaload, 1, 0, 0), (566, .aload_n 0, 1, 0, 0), (567, .iload_n 3, 1, 0, 0), (568, .iconst 3, 1, 3, 0), (569, .iadd, 1, 0, 0), (570, .iaload, 1, 0, 0), (571, .invokevirtual 54, 3, 0, 0), (574, .if_icmp .eq 763, 3, 0, 1337), (577, .iconst 0, 1, 0, 0), (578, .ireturn, 1, 0, 0), (579, .aload_n 1, 1, 0, 0), (580, .aload_n 0, 1, 0, 0), (581, .iload_n 3, 1, 0, 0), (582, .iconst 1, 1, 1, 0), (583, .iadd, 1, 0, 0), (584, .iaload, 1, 0, 0), (585, .aload_n 0, 1, 0, 0), (586, .iload_n 3, 1, 0, 0), (587, .iconst 2, 1, 2, 0)]
theorem dcL_law_5 : (∀ x ∈ tL_law_5, decode cL_law x.1 = .ok (x.2.1, x.2.2.1)) ∧ ∀ x ∈ tL_law_5, numOK x = true := ⟨by decide +kernel, by decide +kernel⟩
def tL_law_6 : List IE := [(588, .iadd, 1, 0, 0), (589, .iaload, 1, 0, 0), (590, .aload_n 0, 1, 0, 0), (591, .iload_n 3, 1, 0, 0), (592, .iconst 3, 1, 3, 0), (593, .iadd, 1, 0, 0), (594, .iaload, 1, 0, 0), (595, .invokevirtual 55, 3, 0, 0), (598, .aload_n 2, 1, 0, 0), (599, .aload_n 0, 1, 0, 0), (600, .iload_n 3, 1, 0, 0), (601, .iconst 1, 1, 1, 0), (602, .iadd, 1, 0, 0), (603, .iaload, 1, 0, 0), (604, .aload_n 0, 1, 0, 0), (605, .iload_n 3, 1, 0, 0), (606, .iconst 2, 1, 2, 0), (607, .iadd, 1, 0, 0), (608, .iaload, 1, 0, 0), (609, .aload_n 0, 1, 0, 0), (610, .iload_n 3, 1, 0, 0), (611, .iconst 3, 1, 3, 0), (612, .iadd, 1, 0, 0), (613, .iaload, 1, 0, 0), (614, .invokevirtual 59, 3, 0, 0), (617, .if_icmp .eq 720, 3, 0, 1337), (620, .iconst 0, 1, 0, 0), (621, .ireturn, 1, 0, 0), (622, .aload_n 1, 1, 0, 0), (623, .aload_n 0, 1, 0, 0), (624, .iload_n 3, 1, 0, 0), (625, .iconst 1, 1, 1, 0), (626, .iadd, 1, 0, 0), (627, .iaload, 1, 0, 0), (628, .aload_n 0, 1, 0, 0), (629, .iload_n 3, 1, 0, 0), (630, .iconst 2, 1, 2, 0), (631, .iadd, 1, 0, 0), (632, .iaload, 1, 0, 0), (633, .aload_n 0, 1, 0, 0), (634, .iload_n 3, 1, 0, 0), (635, .iconst 3, 1, 3, 0), (636, .iadd, 1, 0, 0), (637, .iaload, 1, 0, 0), (638, .invokevirtual 60, 3, 0, 0), (641, .aload_n 2, 1, 0, 0), (642, .aload_n 0, 1, 0, 0), (643, .iload_n 3, 1, 0, 0), (644, .iconst 1, 1, 1, 0), (645, .iadd, 1, 0, 0), (646, .iaload, 1, 0, 0), (647, .aload_n 0, 1, 0, 0), (648, .iload_n 3, 1, 0, 0), (649, .iconst 2, 1, 2, 0), (650, .iadd, 1, 0, 0), (651, .iaload, 1, 0, 0), (652, .aload_n 0, 1, 0, 0), (653, .iload_n 3, 1, 0, 0), (654, .iconst 3, 1, 3, 0), (655, .iadd, 1, 0, 0)]
theorem dcL_law_6 : (∀ x ∈ tL_law_6, decode cL_law x.1 = .ok (x.2.1, x.2.2.1)) ∧ ∀ x ∈ tL_law_6, numOK x = true := ⟨by decide +kernel, by decide +kernel⟩
def tL_law_7 : List IE := [(656, .iaload, 1, 0, 0), (657, .invokevirtual 63, 3, 0, 0), (660, .if_icmp .eq 677, 3, 0, 1337), (663, .iconst 0, 1, 0, 0), (664, .ireturn, 1, 0, 0), (665, .aload_n 1, 1, 0, 0), (666, .aload_n 0, 1, 0, 0), (667, .iload_n 3, 1, 0, 0), (668, .iconst 1, 1, 1, 0), (669, .iadd, 1, 0, 0), (670, .iaload, 1, 0, 0), (671, .invokevirtual 64, 3, 0, 0), (674, .aload_n 2, 1, 0, 0), (675, .aload_n 0, 1, 0, 0), (676, .iload_n 3, 1, 0, 0), (677, .iconst 1, 1, 1, 0), (678, .iadd, 1, 0, 0), (679, .iaload, 1, 0, 0), (680, .invokevirtual 68, 3, 0, 0), (683, .if_icmp .eq 654, 3, 0, 1337), (686, .iconst 0, 1, 0, 0), (687, .ireturn, 1, 0, 0), (688, .aload_n 1, 1, 0, 0), (689, .aload_n 0, 1, 0, 0), (690, .iload_n 3, 1, 0, 0), (691, .iconst 1, 1, 1, 0), (692, .iadd, 1, 0, 0), (693, .iaload, 1, 0, 0), (694, .invokevirtual 69, 3, 0, 0), (697, .aload_n 2, 1, 0, 0), (698, .aload_n 0, 1, 0, 0), (699, .iload_n 3, 1, 0, 0), (700, .iconst 1, 1, 1, 0), (701, .iadd, 1, 0, 0), (702, .iaload, 1, 0, 0), (703, .invokevirtual 73, 3, 0, 0), (706, .lcmp, 1, 0, 0), (707, .ifCond .eq 630, 3, 0, 1337), (710, .iconst 0, 1, 0, 0), (711, .ireturn, 1, 0, 0), (712, .aload_n 1, 1, 0, 0), (713, .aload_n 0, 1, 0, 0), (714, .iload_n 3, 1, 0, 0), (715, .iconst 1, 1, 1, 0), (716, .iadd, 1, 0, 0), (717, .iaload, 1, 0, 0), (718, .aload_n 0, 1, 0, 0), (719, .iload_n 3, 1, 0, 0), (720, .iconst 2, 1, 2, 0), (721, .iadd, 1, 0, 0), (722, .iaload, 1, 0, 0), (723, .invokevirtual 74, 3, 0, 0), (726, .aload_n 2, 1, 0, 0), (727, .aload_n 0, 1, 0, 0), (728, .iload_n 3, 1, 0, 0), (729, .iconst 1, 1, 1, 0), (730, .iadd, 1, 0, 0), (731, .iaload, 1, 0, 0), (732, .aload_n 0, 1, 0, 0), (733, .iload_n 3, 1, 0, 0)]
theorem dcL_law_7 : (∀ x ∈ tL_law_7, decode cL_law x.1 = .ok (x.2.1, x.2.2.1)) ∧ ∀ x ∈ tL_law_7, numOK x = true := ⟨by decide +kernel, by decide +kernel⟩
def tL_law_8 : List IE := [(734, .iconst 2, 1, 2, 0), (735, .iadd, 1, 0, 0), (736, .iaload, 1, 0, 0), (737, .invokevirtual 78, 3, 0, 0), (740, .lcmp, 1, 0, 0), (741, .ifCond .eq 596, 3, 0, 1337), (744, .iconst 0, 1, 0, 0), (745, .ireturn, 1, 0, 0), (746, .aload_n 1, 1, 0, 0), (747, .aload_n 0, 1, 0, 0), (748, .iload_n 3, 1, 0, 0), (749, .iconst 1, 1, 1, 0), (750, .iadd, 1, 0, 0), (751, .iaload, 1, 0, 0), (752, .aload_n 0, 1, 0, 0), (753, .iload_n 3, 1, 0, 0), (754, .iconst 2, 1, 2, 0), (755, .iadd, 1, 0, 0), (756, .iaload, 1, 0, 0), (757, .aload_n 0, 1, 0, 0), (758, .iload_n 3, 1, 0, 0), (759, .iconst 3, 1, 3, 0), (760, .iadd, 1, 0, 0), (761, .iaload, 1, 0, 0), (762, .invokevirtual 79, 3, 0, 0), (765, .aload_n 2, 1, 0, 0), (766, .aload_n 0, 1, 0, 0), (767, .iload_n 3, 1, 0, 0), (768, .iconst 1, 1, 1, 0), (769, .iadd, 1, 0, 0), (770, .iaload, 1, 0, 0), (771, .aload_n 0, 1, 0, 0), (772, .iload_n 3, 1, 0, 0), (773, .iconst 2, 1, 2, 0), (774, .iadd, 1, 0, 0), (775, .iaload, 1, 0, 0), (776, .aload_n 0, 1, 0, 0), (777, .iload_n 3, 1, 0, 0), (778, .iconst 3, 1, 3, 0), (779, .iadd, 1, 0, 0), (780, .iaload, 1, 0, 0), (781, .invokevirtual 82, 3, 0, 0), (784, .if_icmp .eq 553, 3, 0, 1337), (787, .iconst 0, 1, 0, 0), (788, .ireturn, 1, 0, 0), (789, .aload_n 1, 1, 0, 0), (790, .aload_n 0, 1, 0, 0), (791, .iload_n 3, 1, 0, 0), (792, .iconst 1, 1, 1, 0), (793, .iadd, 1, 0, 0), (794, .iaload, 1, 0, 0), (795, .aload_n 0, 1, 0, 0), (796, .iload_n 3, 1, 0, 0), (797, .iconst 2, 1, 2, 0), (798, .iadd, 1, 0, 0), (799, .iaload, 1, 0, 0), (800, .aload_n 0, 1, 0, 0), (801, .iload_n 3, 1, 0, 0), (802, .iconst 3, 1, 3, 0), (803, .iadd, 1, 0, 0)]
theorem dcL_law_8 : (∀ x ∈ tL_law_8, decode cL_law x.1 = .ok (x.2.1, x.2.2.1)) ∧ ∀ x ∈ tL_law_8, numOK x = true := ⟨by decide +kernel, by decide +kernel⟩
def tL_law_9 : List IE := [(804, .iaload, 1, 0, 0), (805, .aload_n 0, 1, 0, 0), (806, .iload_n 3, 1, 0, 0), (807, .iconst 4, 1, 4, 0), (808, .iadd, 1, 0, 0), (809, .iaload, 1, 0, 0), (810, .aload_n 0, 1, 0, 0), (811, .iload_n 3, 1, 0, 0), (812, .iconst 5, 1, 5, 0), (813, .iadd, 1, 0, 0), (814, .iaload, 1, 0, 0), (815, .invokevirtual 83, 3, 0, 0), (818, .aload_n 2, 1, 0, 0), (819, .aload_n 0, 1, 0, 0), (820, .iload_n 3, 1, 0, 0), (821, .iconst 1, 1, 1, 0), (822, .iadd, 1, 0, 0), (823, .iaload, 1, 0, 0), (824, .aload_n 0, 1, 0, 0), (825, .iload_n 3, 1, 0, 0), (826, .iconst 2, 1, 2, 0), (827, .iadd, 1, 0, 0), (828, .iaload, 1, 0, 0), (829, .aload_n 0, 1, 0, 0), (830, .iload_n 3, 1, 0, 0), (831, .iconst 3, 1, 3, 0), (832, .iadd, 1, 0, 0), (833, .iaload, 1, 0, 0), (834, .aload_n 0, 1, 0, 0), (835, .iload_n 3, 1, 0, 0), (836, .iconst 4, 1, 4, 0), (837, .iadd, 1, 0, 0), (838, .iaload, 1, 0, 0), (839, .aload_n 0, 1, 0, 0), (840, .iload_n 3, 1, 0, 0), (841, .iconst 5, 1, 5, 0), (842, .iadd, 1, 0, 0), (843, .iaload, 1, 0, 0), (844, .invokevirtual 87, 3, 0, 0), (847, .if_icmp .eq 490, 3, 0, 1337), (850, .iconst 0, 1, 0, 0), (851, .ireturn, 1, 0, 0), (852, .aload_n 1, 1, 0, 0), (853, .aload_n 0, 1, 0, 0), (854, .iload_n 3, 1, 0, 0), (855, .iconst 1, 1, 1, 0), (856, .iadd, 1, 0, 0), (857, .iaload, 1, 0, 0), (858, .invokevirtual 88, 3, 0, 0), (861, .aload_n 2, 1, 0, 0), (862, .aload_n 0, 1, 0, 0), (863, .iload_n 3, 1, 0, 0), (864, .iconst 1, 1, 1, 0), (865, .iadd, 1, 0, 0), (866, .iaload, 1, 0, 0), (867, .invokevirtual 92, 3, 0, 0), (870, .if_icmp .eq 467, 3, 0, 1337), (873, .iconst 0, 1, 0, 0), (874, .ireturn, 1, 0, 0), (875, .aload_n 1, 1, 0, 0)]
theorem dcL_law_9 : (∀ x ∈ tL_law_9, decode cL_law x.1 = .ok (x.2.1, x.2.2.1)) ∧ ∀ x ∈ tL_law_9, numOK x = true := ⟨by decide +kernel, by decide +kernel⟩
def tL_law_10 : List IE := [(876, .invokevirtual 93, 3, 0, 0), (879, .aload_n 2, 1, 0, 0), (880, .invokevirtual 97, 3, 0, 0), (883, .if_icmp .eq 454, 3, 0, 1337), (886, .iconst 0, 1, 0, 0), (887, .ireturn, 1, 0, 0), (888, .aload_n 1, 1, 0, 0), (889, .aload_n 0, 1, 0, 0), (890, .iload_n 3, 1, 0, 0), (891, .iconst 1, 1, 1, 0), (892, .iadd, 1, 0, 0), (893, .iaload, 1, 0, 0), (894, .invokevirtual 98, 3, 0, 0), (897, .aload_n 2, 1, 0, 0), (898, .aload_n 0, 1, 0, 0), (899, .iload_n 3, 1, 0, 0), (900, .iconst 1, 1, 1, 0), (901, .iadd, 1, 0, 0), (902, .iaload, 1, 0, 0), (903, .invokevirtual 101, 3, 0, 0), (906, .if_icmp .eq 431, 3, 0, 1337), (909, .iconst 0, 1, 0, 0), (910, .ireturn, 1, 0, 0), (911, .aload_n 1, 1, 0, 0), (912, .aload_n 0, 1, 0, 0), (913, .iload_n 3, 1, 0, 0), (914, .iconst 1, 1, 1, 0), (915, .iadd, 1, 0, 0), (916, .iaload, 1, 0, 0), (917, .ifCond .eq 7, 3, 0, 924), (920, .iconst 1, 1, 1, 0), (921, .goto 4, 3, 0, 925), (924, .iconst 0, 1, 0, 0), (925, .invokevirtual 102, 3, 0, 0), (928, .aload_n 2, 1, 0, 0), (929, .aload_n 0, 1, 0, 0), (930, .iload_n 3, 1, 0, 0), (931, .iconst 1, 1, 1, 0), (932, .iadd, 1, 0, 0), (933, .iaload, 1, 0, 0), (934, .ifCond .eq 7, 3, 0, 941), (937, .iconst 1, 1, 1, 0), (938, .goto 4, 3, 0, 942), (941, .iconst 0, 1, 0, 0), (942, .invokevirtual 106, 3, 0, 0), (945, .goto 392, 3, 0, 1337), (948, .aload_n 1, 1, 0, 0), (949, .aload_n 0, 1, 0, 0), (950, .iload_n 3, 1, 0, 0), (951, .iconst 1, 1, 1, 0), (952, .iadd, 1, 0, 0), (953, .iaload, 1, 0, 0), (954, .aload_n 0, 1, 0, 0), (955, .iload_n 3, 1, 0, 0), (956, .iconst 2, 1, 2, 0), (957, .iadd, 1, 0, 0), (958, .iaload, 1, 0, 0), (959, .invokevirtual 107, 3, 0, 0), (962, .aload_n 2, 1, 0, 0), (963, .aload_n 0, 1, 0, 0)]
theorem dcL_law_10 : (∀ x ∈ tL_law_10, decode cL_law x.1 = .ok (x.2.1, x.2.2.1)) ∧ ∀ x ∈ tL_law_10, numOK x = true := ⟨by decide +kernel, by decide +kernel⟩
def tL_law_11 : List IE := [(964, .iload_n 3, 1, 0, 0), (965, .iconst 1, 1, 1, 0), (966, .iadd, 1, 0, 0), (967, .iaload, 1, 0, 0), (968, .aload_n 0, 1, 0, 0), (969, .iload_n 3, 1, 0, 0), (970, .iconst 2, 1, 2, 0), (971, .iadd, 1, 0, 0), (972, .iaload, 1, 0, 0), (973, .invokevirtual 110, 3, 0, 0), (976, .if_icmp .eq 361, 3, 0, 1337), (979, .iconst 0, 1, 0, 0), (980, .ireturn, 1, 0, 0), (981, .aload_n 1, 1, 0, 0), (982, .aload_n 0, 1, 0, 0), (983, .iload_n 3, 1, 0, 0), (984, .iconst 1, 1, 1, 0), (985, .iadd, 1, 0, 0), (986, .iaload, 1, 0, 0), (987, .invokevirtual 111, 3, 0, 0), (990, .aload_n 2, 1, 0, 0), (991, .aload_n 0, 1, 0, 0), (992, .iload_n 3, 1, 0, 0), (993, .iconst 1, 1, 1, 0), (994, .iadd, 1, 0, 0), (995, .iaload, 1, 0, 0), (996, .invokevirtual 114, 3, 0, 0), (999, .if_icmp .eq 338, 3, 0, 1337), (1002, .iconst 0, 1, 0, 0), (1003, .ireturn, 1, 0, 0), (1004, .aload_n 1, 1, 0, 0), (1005, .aload_n 0, 1, 0, 0), (1006, .iload_n 3, 1, 0, 0), (1007, .iconst 1, 1, 1, 0), (1008, .iadd, 1, 0, 0), (1009, .iaload, 1, 0, 0), (1010, .aload_n 0, 1, 0, 0), (1011, .iload_n 3, 1, 0, 0), (1012, .iconst 2, 1, 2, 0), (1013, .iadd, 1, 0, 0), (1014, .iaload, 1, 0, 0), (1015, .invokevirtual 115, 3, 0, 0), (1018, .aload_n 2, 1, 0, 0), (1019, .aload_n 0, 1, 0, 0), (1020, .iload_n 3, 1, 0, 0), (1021, .iconst 1, 1, 1, 0), (1022, .iadd, 1, 0, 0), (1023, .iaload, 1, 0, 0), (1024, .aload_n 0, 1, 0, 0), (1025, .iload_n 3, 1, 0, 0), (1026, .iconst 2, 1, 2, 0), (1027, .iadd, 1, 0, 0), (1028, .iaload, 1, 0, 0), (1029, .invokevirtual 118, 3, 0, 0), (1032, .if_icmp .eq 305, 3, 0, 1337), (1035, .iconst 0, 1, 0, 0), (1036, .ireturn, 1, 0, 0), (1037, .aload_n 1, 1, 0, 0), (1038, .aload_n 0, 1, 0, 0), (1039, .iload_n 3, 1, 0, 0)]
theorem dcL_law_11 : (∀ x ∈ tL_law_11, decode cL_law x.1 = .ok (x.2.1, x.2.2.1)) ∧ ∀ x ∈ tL_law_11, numOK x = true := ⟨by decide +kernel, by decide +kernel⟩
def tL_law_12 : List IE := [(1040, .iconst 1, 1, 1, 0), (1041, .iadd, 1, 0, 0), (1042, .iaload, 1, 0, 0), (1043, .invokevirtual 119, 3, 0, 0), (1046, .aload_n 2, 1, 0, 0), (1047, .aload_n 0, 1, 0, 0), (1048, .iload_n 3, 1, 0, 0), (1049, .iconst 1, 1, 1, 0), (1050, .iadd, 1, 0, 0), (1051, .iaload, 1, 0, 0), (1052, .invokevirtual 122, 3, 0, 0), (1055, .if_icmp .eq 282, 3, 0, 1337), (1058, .iconst 0, 1, 0, 0), (1059, .ireturn, 1, 0, 0), (1060, .aload_n 1, 1, 0, 0), (1061, .aload_n 0, 1, 0, 0), (1062, .iload_n 3, 1, 0, 0), (1063, .iconst 1, 1, 1, 0), (1064, .iadd, 1, 0, 0), (1065, .iaload, 1, 0, 0), (1066, .aload_n 0, 1, 0, 0), (1067, .iload_n 3, 1, 0, 0), (1068, .iconst 2, 1, 2, 0), (1069, .iadd, 1, 0, 0), (1070, .iaload, 1, 0, 0), (1071, .invokevirtual 123, 3, 0, 0), (1074, .aload_n 2, 1, 0, 0), (1075, .aload_n 0, 1, 0, 0), (1076, .iload_n 3, 1, 0, 0), (1077, .iconst 1, 1, 1, 0), (1078, .iadd, 1, 0, 0), (1079, .iaload, 1, 0, 0), (1080, .aload_n 0, 1, 0, 0), (1081, .iload_n 3, 1, 0, 0), (1082, .iconst 2, 1, 2, 0), (1083, .iadd, 1, 0, 0), (1084, .iaload, 1, 0, 0), (1085, .invokevirtual 126, 3, 0, 0), (1088, .if_icmp .eq 249, 3, 0, 1337), (1091, .iconst 0, 1, 0, 0), (1092, .ireturn, 1, 0, 0), (1093, .aload_n 1, 1, 0, 0), (1094, .aload_n 0, 1, 0, 0), (1095, .iload_n 3, 1, 0, 0), (1096, .iconst 1, 1, 1, 0), (1097, .iadd, 1, 0, 0), (1098, .iaload, 1, 0, 0), (1099, .invokevirtual 127, 3, 0, 0), (1102, .aload_n 2, 1, 0, 0), (1103, .aload_n 0, 1, 0, 0), (1104, .iload_n 3, 1, 0, 0), (1105, .iconst 1, 1, 1, 0), (1106, .iadd, 1, 0, 0), (1107, .iaload, 1, 0, 0), (1108, .invokevirtual 130, 3, 0, 0), (1111, .if_icmp .eq 226, 3, 0, 1337), (1114, .iconst 0, 1, 0, 0), (1115, .ireturn, 1, 0, 0), (1116, .aload_n 1, 1, 0, 0), (1117, .aload_n 0, 1, 0, 0)]
theorem dcL_law_12 : (∀ x ∈ tL_law_12, decode cL_law x.1 = .ok (x.2.1, x.2.2.1)) ∧ ∀ x ∈ tL_law_12, numOK x = true := ⟨by decide +kernel, by decide +kernel⟩
def tL_law_13 : List IE := [(1118, .iload_n 3, 1, 0, 0), (1119, .iconst 1, 1, 1, 0), (1120, .iadd, 1, 0, 0), (1121, .iaload, 1, 0, 0), (1122, .aload_n 0, 1, 0, 0), (1123, .iload_n 3, 1, 0, 0), (1124, .iconst 2, 1, 2, 0), (1125, .iadd, 1, 0, 0), (1126, .iaload, 1, 0, 0), (1127, .invokevirtual 131, 3, 0, 0), (1130, .aload_n 2, 1, 0, 0), (1131, .aload_n 0, 1, 0, 0), (1132, .iload_n 3, 1, 0, 0), (1133, .iconst 1, 1, 1, 0), (1134, .iadd, 1, 0, 0), (1135, .iaload, 1, 0, 0), (1136, .aload_n 0, 1, 0, 0), (1137, .iload_n 3, 1, 0, 0), (1138, .iconst 2, 1, 2, 0), (1139, .iadd, 1, 0, 0), (1140, .iaload, 1, 0, 0), (1141, .invokevirtual 134, 3, 0, 0), (1144, .if_icmp .eq 193, 3, 0, 1337), (1147, .iconst 0, 1, 0, 0), (1148, .ireturn, 1, 0, 0), (1149, .aload_n 1, 1, 0, 0), (1150, .aload_n 0, 1, 0, 0), (1151, .iload_n 3, 1, 0, 0), (1152, .iconst 1, 1, 1, 0), (1153, .iadd, 1, 0, 0), (1154, .iaload, 1, 0, 0), (1155, .aload_n 0, 1, 0, 0), (1156, .iload_n 3, 1, 0, 0), (1157, .iconst 2, 1, 2, 0), (1158, .iadd, 1, 0, 0), (1159, .iaload, 1, 0, 0), (1160, .invokevirtual 135, 3, 0, 0), (1163, .aload_n 2, 1, 0, 0), (1164, .aload_n 0, 1, 0, 0), (1165, .iload_n 3, 1, 0, 0), (1166, .iconst 1, 1, 1, 0), (1167, .iadd, 1, 0, 0), (1168, .iaload, 1, 0, 0), (1169, .aload_n 0, 1, 0, 0), (1170, .iload_n 3, 1, 0, 0), (1171, .iconst 2, 1, 2, 0), (1172, .iadd, 1, 0, 0), (1173, .iaload, 1, 0, 0), (1174, .invokevirtual 138, 3, 0, 0), (1177, .if_icmp .eq 160, 3, 0, 1337), (1180, .iconst 0, 1, 0, 0), (1181, .ireturn, 1, 0, 0), (1182, .aload_n 1, 1, 0, 0), (1183, .aload_n 0, 1, 0, 0), (1184, .iload_n 3, 1, 0, 0), (1185, .iconst 1, 1, 1, 0), (1186, .iadd, 1, 0, 0), (1187, .iaload, 1, 0, 0), (1188, .aload_n 0, 1, 0, 0), (1189, .iload_n 3, 1, 0, 0)]
theorem dcL_law_13 : (∀ x ∈ tL_law_13, decode cL_law x.1 = .ok (x.2.1, x.2.2.1)) ∧ ∀ x ∈ tL_law_13, numOK x = true := ⟨by decide +kernel, by decide +kernel⟩
def tL_law_14 : List IE := [(1190, .iconst 2, 1, 2, 0), (1191, .iadd, 1, 0, 0), (1192, .iaload, 1, 0, 0), (1193, .invokevirtual 139, 3, 0, 0), (1196, .aload_n 2, 1, 0, 0), (1197, .aload_n 0, 1, 0, 0), (1198, .iload_n 3, 1, 0, 0), (1199, .iconst 1, 1, 1, 0), (1200, .iadd, 1, 0, 0), (1201, .iaload, 1, 0, 0), (1202, .aload_n 0, 1, 0, 0), (1203, .iload_n 3, 1, 0, 0), (1204, .iconst 2, 1, 2, 0), (1205, .iadd, 1, 0, 0), (1206, .iaload, 1, 0, 0), (1207, .invokevirtual 142, 3, 0, 0), (1210, .if_icmp .eq 127, 3, 0, 1337), (1213, .iconst 0, 1, 0, 0), (1214, .ireturn, 1, 0, 0), (1215, .aload_n 1, 1, 0, 0), (1216, .invokevirtual 143, 3, 0, 0), (1219, .aload_n 2, 1, 0, 0), (1220, .invokevirtual 146, 3, 0, 0), (1223, .if_icmp .eq 114, 3, 0, 1337), (1226, .iconst 0, 1, 0, 0), (1227, .ireturn, 1, 0, 0), (1228, .aload_n 1, 1, 0, 0), (1229, .aload_n 0, 1, 0, 0), (1230, .iload_n 3, 1, 0, 0), (1231, .iconst 1, 1, 1, 0), (1232, .iadd, 1, 0, 0), (1233, .iaload, 1, 0, 0), (1234, .aload_n 0, 1, 0, 0), (1235, .iload_n 3, 1, 0, 0), (1236, .iconst 2, 1, 2, 0), (1237, .iadd, 1, 0, 0), (1238, .iaload, 1, 0, 0), (1239, .invokevirtual 147, 3, 0, 0), (1242, .aload_n 2, 1, 0, 0), (1243, .aload_n 0, 1, 0, 0), (1244, .iload_n 3, 1, 0, 0), (1245, .iconst 1, 1, 1, 0), (1246, .iadd, 1, 0, 0), (1247, .iaload, 1, 0, 0), (1248, .aload_n 0, 1, 0, 0), (1249, .iload_n 3, 1, 0, 0), (1250, .iconst 2, 1, 2, 0), (1251, .iadd, 1, 0, 0), (1252, .iaload, 1, 0, 0), (1253, .invokevirtual 150, 3, 0, 0), (1256, .if_icmp .eq 81, 3, 0, 1337), (1259, .iconst 0, 1, 0, 0), (1260, .ireturn, 1, 0, 0), (1261, .aload_n 1, 1, 0, 0), (1262, .aload_n 0, 1, 0, 0), (1263, .iload_n 3, 1, 0, 0), (1264, .iconst 1, 1, 1, 0), (1265, .iadd, 1, 0, 0), (1266, .iaload, 1, 0, 0), (1267, .aload_n 0, 1, 0, 0)]
theorem dcL_law_14 : (∀ x ∈ tL_law_14, decode cL_law x.1 = .ok (x.2.1, x.2.2.1)) ∧ ∀ x ∈ tL_law_14, numOK x = true := ⟨by decide +kernel, by decide +kernel⟩
def tL_law_15 : List IE := [(1268, .iload_n 3, 1, 0, 0), (1269, .iconst 2, 1, 2, 0), (1270, .iadd, 1, 0, 0), (1271, .iaload, 1, 0, 0), (1272, .aload_n 0, 1, 0, 0), (1273, .iload_n 3, 1, 0, 0), (1274, .iconst 3, 1, 3, 0), (1275, .iadd, 1, 0, 0), (1276, .iaload, 1, 0, 0), (1277, .invokevirtual 151, 3, 0, 0), (1280, .aload_n 2, 1, 0, 0), (1281, .aload_n 0, 1, 0, 0), (1282, .iload_n 3, 1, 0, 0), (1283, .iconst 1, 1, 1, 0), (1284, .iadd, 1, 0, 0), (1285, .iaload, 1, 0, 0), (1286, .aload_n 0, 1, 0, 0), (1287, .iload_n 3, 1, 0, 0), (1288, .iconst 2, 1, 2, 0), (1289, .iadd, 1, 0, 0), (1290, .iaload, 1, 0, 0), (1291, .aload_n 0, 1, 0, 0), (1292, .iload_n 3, 1, 0, 0), (1293, .iconst 3, 1, 3, 0), (1294, .iadd, 1, 0, 0), (1295, .iaload, 1, 0, 0), (1296, .invokevirtual 154, 3, 0, 0), (1299, .if_icmp .eq 38, 3, 0, 1337), (1302, .iconst 0, 1, 0, 0), (1303, .ireturn, 1, 0, 0), (1304, .aload_n 1, 1, 0, 0), (1305, .aload_n 0, 1, 0, 0), (1306, .iload_n 3, 1, 0, 0), (1307, .iconst 1, 1, 1, 0), (1308, .iadd, 1, 0, 0), (1309, .iaload, 1, 0, 0), (1310, .aload_n 0, 1, 0, 0), (1311, .iload_n 3, 1, 0, 0), (1312, .iconst 2, 1, 2, 0), (1313, .iadd, 1, 0, 0), (1314, .iaload, 1, 0, 0), (1315, .invokevirtual 155, 3, 0, 0), (1318, .aload_n 2, 1, 0, 0), (1319, .aload_n 0, 1, 0, 0), (1320, .iload_n 3, 1, 0, 0), (1321, .iconst 1, 1, 1, 0), (1322, .iadd, 1, 0, 0), (1323, .iaload, 1, 0, 0), (1324, .aload_n 0, 1, 0, 0), (1325, .iload_n 3, 1, 0, 0), (1326, .iconst 2, 1, 2, 0), (1327, .iadd, 1, 0, 0), (1328, .iaload, 1, 0, 0), (1329, .invokevirtual 158, 3, 0, 0), (1332, .if_icmp .eq 5, 3, 0, 1337), (1335, .iconst 0, 1, 0, 0), (1336, .ireturn, 1, 0, 0), (1337, .iinc 3 6, 3, 6, 0), (1340, .goto (-1322), 3, 0, 18), (1343, .iconst 1, 1, 1, 0)]
theorem dcL_law_15 : (∀ x ∈ tL_law_15, decode cL_law x.1 = .ok (x.2.1, x.2.2.1)) ∧ ∀ x ∈ tL_law_15, numOK x = true := ⟨by decide +kernel, by decide +kernel⟩
def tL_law_16 : List IE := [(1344, .ireturn, 1, 0, 0)]
theorem dcL_law_16 : (∀ x ∈ tL_law_16, decode cL_law x.1 = .ok (x.2.1, x.2.2.1)) ∧ ∀ x ∈ tL_law_16, numOK x = true := ⟨by decide +kernel, by decide +kernel⟩
def mL_law (nm : String) : MI := (ciL, ⟨RL, nm, "([I)Z"⟩, cL_law, 4, (some .boolean), 7, 1, tL_law_0 ++ (tL_law_1 ++ (tL_law_2 ++ (tL_law_3 ++ (tL_law_4 ++ (tL_law_5 ++ (tL_law_6 ++ (tL_law_7 ++ (tL_law_8 ++ (tL_law_9 ++ (tL_law_10 ++ (tL_law_11 ++ (tL_law_12 ++ (tL_law_13 ++ (tL_law_14 ++ (tL_law_15 ++ (tL_law_16)))))))))))))))))
theorem okL_law (nm : String) : OKm (mL_law nm) := ⟨okcL, Or.inl rfl, (mem_two dcL_law_0.1 (mem_two dcL_law_1.1 (mem_two dcL_law_2.1 (mem_two dcL_law_3.1 (mem_two dcL_law_4.1 (mem_two dcL_law_5.1 (mem_two dcL_law_6.1 (mem_two dcL_law_7.1 (mem_two dcL_law_8.1 (mem_two dcL_law_9.1 (mem_two dcL_law_10.1 (mem_two dcL_law_11.1 (mem_two dcL_law_12.1 (mem_two dcL_law_13.1 (mem_two dcL_law_14.1 (mem_two dcL_law_15.1 (fun x hx => dcL_law_16.1 x hx))))))))))))))))), (mem_two dcL_law_0.2 (mem_two dcL_law_1.2 (mem_two dcL_law_2.2 (mem_two dcL_law_3.2 (mem_two dcL_law_4.2 (mem_two dcL_law_5.2 (mem_two dcL_law_6.2 (mem_two dcL_law_7.2 (mem_two dcL_law_8.2 (mem_two dcL_law_9.2 (mem_two dcL_law_10.2 (mem_two dcL_law_11.2 (mem_two dcL_law_12.2 (mem_two dcL_law_13.2 (mem_two dcL_law_14.2 (mem_two dcL_law_15.2 (fun x hx => dcL_law_16.2 x hx))))))))))))))))), (show 4 ≤ 45 by decide), (show plainName RL = true by decide +kernel), rfl, fun h => by cases h⟩
def PLaw : PT := fun r _ _ _ => some (.int 1) = r
theorem vx {i n k : Nat} (h : i + 6 ≤ n) (hn : n ≤ 3072) (hk : k < 6) : vp_in (nI i + nI k) n := by rw [nI_ad]; exact vin (by omega) (by omega)
theorem le_6 {i n : Nat} (hi : i ≤ 4000) (hn : n ≤ 3072) (h : nI i ≤ nI n - 6) : i + 6 ≤ n := by
  by_cases h6 : 6 ≤ n
  · rw [show (6 : Int32) = nI 6 from rfl, nI_sb h6] at h
    have := Nat.le_of_not_lt fun q => absurd h (nI_ge (a := n - 6) (b := i) q (by omega))
    omega
  · have hh : ∀ n, n < 6 → nI n - 6 < 0 := by decide
    exact absurd (Int32.lt_of_le_of_lt h (hh n (by omega))) (nI_pos (by omega))
theorem lc_z (v : Int64) : lg_cmp v v = 0 := by unfold lg_cmp; rw [if_neg (Int64.lt_irrefl), if_pos rfl]
theorem s_asks (γ : GE) {b c : Bool} {I : AI} {J : AJ} {ls : List Ln} (hV : Inv I J b ls) (y w : Int32) : PairI γ mX11_asks mX12_asks 6 4 [.int y, .int w] b c I J := by
  cases b
  · exact s_asks79 γ hV y w
  · exact s_asks87 γ hV y w
theorem s_minutes (γ : GE) {b c : Bool} {I : AI} {J : AJ} {ls : List Ln} (hV : Inv I J b ls) (n : Int32) : PairI γ mX11_minutes mX12_minutes 7 4 [.int n] b c I J := by
  cases b
  · exact s_minutes79 γ hV n
  · exact s_minutes87 γ hV n
theorem s_rules (γ : GE) {b c : Bool} {I : AI} {J : AJ} {ls : List Ln} (hV : Inv I J b ls) : PairR γ mX11_rules mX12_rules 23 9 b c I J := by
  cases b
  · exact s_rules87 γ hV
  · exact s_rules79 γ hV
theorem lc_land (γ : GE) (nm : String) {b c : Bool} {I : AI} {J : AJ} {ls : List Ln} {i : Nat} (hV : Inv I J b ls) (hin : i + 6 ≤ g_xn γ) (hxn : g_xn γ ≤ 3072) (K : ∀ (b c : Bool) (I : AI) (J : AJ) (ls : List Ln), Inv I J b ls → Rj γ (mL_law nm) 24 143 112353 PLaw (1337, [some (.retAddr 0), some (.ref 0), some (.ref 100), some (.int (nI i))], [], (SS b c), I, J, 143, 112353)) : Rj γ (mL_law nm) 24 143 112353 PLaw (180, [some (.retAddr 0), some (.ref 0), some (.ref 100), some (.int (nI i))], [], (SS b c), I, J, 143, 112353) := by
  obtain ⟨v, Mid, h1, h2⟩ := s_land γ (c := c) hV (g_xs γ ((nI i) + 1).toNatClampNeg) (g_xs γ ((nI i) + 2).toNatClampNeg) (g_xs γ ((nI i) + 3).toNatClampNeg) (g_xs γ ((nI i) + 4).toNatClampNeg)
  refine r_run (okL_law nm) 21 (cs := [vp_in ((nI i) + 1) (g_xn γ), vp_in ((nI i) + 2) (g_xn γ), vp_in ((nI i) + 3) (g_xn γ), vp_in ((nI i) + 4) (g_xn γ)]) (σ' := (201, [some (.retAddr 0), some (.ref 0), some (.ref 100), some (.int (nI i))], [.int (g_xs γ ((nI i) + 4).toNatClampNeg), .int (g_xs γ ((nI i) + 3).toNatClampNeg), .int (g_xs γ ((nI i) + 2).toNatClampNeg), .int (g_xs γ ((nI i) + 1).toNatClampNeg), .ref 0], (SS b c), I, J, 143, 112353)) rfl ⟨(vx (k := 1) hin hxn (by decide)), (vx (k := 2) hin hxn (by decide)), (vx (k := 3) hin hxn (by decide)), (vx (k := 4) hin hxn (by decide)), trivial⟩ ?_
  refine r_callV (okL_law nm) okX11_land [.int (g_xs γ ((nI i) + 1).toNatClampNeg), .int (g_xs γ ((nI i) + 2).toNatClampNeg), .int (g_xs γ ((nI i) + 3).toNatClampNeg), .int (g_xs γ ((nI i) + 4).toNatClampNeg)] [] 0 rfl rfl rfl kkX11_land rfl rfl (by decide) rfl rfl rfl (by decide) ⟨by decide, by decide⟩ (Nat.le_of_ble_eq_true rfl) h1 (fun v1 S1 I1 J1 hp => ?_)
  obtain ⟨rfl, b1, c1, rfl, hm⟩ := hp
  obtain ⟨Ix, eIx⟩ : ∃ z, z = I1 := ⟨_, rfl⟩
  subst eIx
  obtain ⟨Jx, eJx⟩ : ∃ z, z = J1 := ⟨_, rfl⟩
  subst eJx
  show Rj _ _ _ _ _ _ (204, [some (.retAddr 0), some (.ref 0), some (.ref 100), some (.int (nI i))], [.int v], (SS b1 c1), Ix, Jx, 143, 112353)
  refine r_run (okL_law nm) 21 (cs := [vp_in ((nI i) + 1) (g_xn γ), vp_in ((nI i) + 2) (g_xn γ), vp_in ((nI i) + 3) (g_xn γ), vp_in ((nI i) + 4) (g_xn γ)]) (σ' := (225, [some (.retAddr 0), some (.ref 0), some (.ref 100), some (.int (nI i))], [.int (g_xs γ ((nI i) + 4).toNatClampNeg), .int (g_xs γ ((nI i) + 3).toNatClampNeg), .int (g_xs γ ((nI i) + 2).toNatClampNeg), .int (g_xs γ ((nI i) + 1).toNatClampNeg), .ref 100, .int v], (SS b1 c1), Ix, Jx, 143, 112353)) rfl ⟨(vx (k := 1) hin hxn (by decide)), (vx (k := 2) hin hxn (by decide)), (vx (k := 3) hin hxn (by decide)), (vx (k := 4) hin hxn (by decide)), trivial⟩ ?_
  refine r_callV (okL_law nm) okX12_land [.int (g_xs γ ((nI i) + 1).toNatClampNeg), .int (g_xs γ ((nI i) + 2).toNatClampNeg), .int (g_xs γ ((nI i) + 3).toNatClampNeg), .int (g_xs γ ((nI i) + 4).toNatClampNeg)] [.int v] 100 rfl rfl rfl kkX12_land rfl rfl (by decide) rfl rfl rfl (by decide) ⟨by decide, by decide⟩ (Nat.le_of_ble_eq_true rfl) (h2 b1 c1 Ix Jx hm) (fun v1 S1 I1 J1 hp => ?_)
  obtain ⟨rfl, b2, c2, rfl, ls2, hV2⟩ := hp
  obtain ⟨Iy, eIy⟩ : ∃ z, z = I1 := ⟨_, rfl⟩
  subst eIy
  obtain ⟨Jy, eJy⟩ : ∃ z, z = J1 := ⟨_, rfl⟩
  subst eJy
  show Rj _ _ _ _ _ _ (228, [some (.retAddr 0), some (.ref 0), some (.ref 100), some (.int (nI i))], [.int v, .int v], (SS b2 c2), Iy, Jy, 143, 112353)
  refine r_icmp (okL_law nm) rfl (fun (h228 : v = v) => ?_) (fun (h228 : ¬ v = v) => ?_)
  · exact K b2 c2 Iy Jy ls2 hV2
  · exact absurd rfl h228
theorem lc_siren (γ : GE) (nm : String) {b c : Bool} {I : AI} {J : AJ} {ls : List Ln} {i : Nat} (hV : Inv I J b ls) (hin : i + 6 ≤ g_xn γ) (hxn : g_xn γ ≤ 3072) (K : ∀ (b c : Bool) (I : AI) (J : AJ) (ls : List Ln), Inv I J b ls → Rj γ (mL_law nm) 24 143 112353 PLaw (1337, [some (.retAddr 0), some (.ref 0), some (.ref 100), some (.int (nI i))], [], (SS b c), I, J, 143, 112353)) : Rj γ (mL_law nm) 24 143 112353 PLaw (233, [some (.retAddr 0), some (.ref 0), some (.ref 100), some (.int (nI i))], [], (SS b c), I, J, 143, 112353) := by
  refine r_run (okL_law nm) 11 (cs := [vp_in ((nI i) + 1) (g_xn γ), vp_in ((nI i) + 2) (g_xn γ)]) (σ' := (244, [some (.retAddr 0), some (.ref 0), some (.ref 100), some (.int (nI i))], [.int (g_xs γ ((nI i) + 2).toNatClampNeg), .int (g_xs γ ((nI i) + 1).toNatClampNeg), .ref 0], (SS b c), I, J, 143, 112353)) rfl ⟨(vx (k := 1) hin hxn (by decide)), (vx (k := 2) hin hxn (by decide)), trivial⟩ ?_
  refine r_ifc (okL_law nm) rfl (fun (h244 : (g_xs γ ((nI i) + 2).toNatClampNeg) = (0 : Int32)) => ?_) (fun (h244 : ¬ (g_xs γ ((nI i) + 2).toNatClampNeg) = (0 : Int32)) => ?_)
  · obtain ⟨v, Mid, h1, h2⟩ := s_siren γ (c := c) hV (g_xs γ ((nI i) + 1).toNatClampNeg) false
    refine r_run (okL_law nm) 1 (cs := []) (σ' := (252, [some (.retAddr 0), some (.ref 0), some (.ref 100), some (.int (nI i))], [.int 0, .int (g_xs γ ((nI i) + 1).toNatClampNeg), .ref 0], (SS b c), I, J, 143, 112353)) rfl trivial ?_
    refine r_callV (okL_law nm) okX11_siren [.int (g_xs γ ((nI i) + 1).toNatClampNeg), .int 0] [] 0 rfl rfl rfl kkX11_siren rfl rfl (by decide) rfl rfl rfl (by decide) ⟨by decide, by decide⟩ (Nat.le_of_ble_eq_true rfl) h1 (fun v1 S1 I1 J1 hp => ?_)
    obtain ⟨rfl, b1, c1, rfl, hm⟩ := hp
    obtain ⟨Ix, eIx⟩ : ∃ z, z = I1 := ⟨_, rfl⟩
    subst eIx
    obtain ⟨Jx, eJx⟩ : ∃ z, z = J1 := ⟨_, rfl⟩
    subst eJx
    show Rj _ _ _ _ _ _ (255, [some (.retAddr 0), some (.ref 0), some (.ref 100), some (.int (nI i))], [.int v], (SS b1 c1), Ix, Jx, 143, 112353)
    refine r_run (okL_law nm) 11 (cs := [vp_in ((nI i) + 1) (g_xn γ), vp_in ((nI i) + 2) (g_xn γ)]) (σ' := (266, [some (.retAddr 0), some (.ref 0), some (.ref 100), some (.int (nI i))], [.int (g_xs γ ((nI i) + 2).toNatClampNeg), .int (g_xs γ ((nI i) + 1).toNatClampNeg), .ref 100, .int v], (SS b1 c1), Ix, Jx, 143, 112353)) rfl ⟨(vx (k := 1) hin hxn (by decide)), (vx (k := 2) hin hxn (by decide)), trivial⟩ ?_
    refine r_ifc (okL_law nm) rfl (fun (h266 : (g_xs γ ((nI i) + 2).toNatClampNeg) = (0 : Int32)) => ?_) (fun (h266 : ¬ (g_xs γ ((nI i) + 2).toNatClampNeg) = (0 : Int32)) => ?_)
    · refine r_run (okL_law nm) 1 (cs := []) (σ' := (274, [some (.retAddr 0), some (.ref 0), some (.ref 100), some (.int (nI i))], [.int 0, .int (g_xs γ ((nI i) + 1).toNatClampNeg), .ref 100, .int v], (SS b1 c1), Ix, Jx, 143, 112353)) rfl trivial ?_
      refine r_callV (okL_law nm) okX12_siren [.int (g_xs γ ((nI i) + 1).toNatClampNeg), .int 0] [.int v] 100 rfl rfl rfl kkX12_siren rfl rfl (by decide) rfl rfl rfl (by decide) ⟨by decide, by decide⟩ (Nat.le_of_ble_eq_true rfl) (h2 b1 c1 Ix Jx hm) (fun v1 S1 I1 J1 hp => ?_)
      obtain ⟨rfl, b2, c2, rfl, ls2, hV2⟩ := hp
      obtain ⟨Iy, eIy⟩ : ∃ z, z = I1 := ⟨_, rfl⟩
      subst eIy
      obtain ⟨Jy, eJy⟩ : ∃ z, z = J1 := ⟨_, rfl⟩
      subst eJy
      show Rj _ _ _ _ _ _ (277, [some (.retAddr 0), some (.ref 0), some (.ref 100), some (.int (nI i))], [.int v, .int v], (SS b2 c2), Iy, Jy, 143, 112353)
      refine r_icmp (okL_law nm) rfl (fun (h277 : v = v) => ?_) (fun (h277 : ¬ v = v) => ?_)
      · exact K b2 c2 Iy Jy ls2 hV2
      · exact absurd rfl h277
    · exact absurd h244 h266
  · obtain ⟨v, Mid, h1, h2⟩ := s_siren γ (c := c) hV (g_xs γ ((nI i) + 1).toNatClampNeg) true
    refine r_run (okL_law nm) 2 (cs := []) (σ' := (252, [some (.retAddr 0), some (.ref 0), some (.ref 100), some (.int (nI i))], [.int 1, .int (g_xs γ ((nI i) + 1).toNatClampNeg), .ref 0], (SS b c), I, J, 143, 112353)) rfl trivial ?_
    refine r_callV (okL_law nm) okX11_siren [.int (g_xs γ ((nI i) + 1).toNatClampNeg), .int 1] [] 0 rfl rfl rfl kkX11_siren rfl rfl (by decide) rfl rfl rfl (by decide) ⟨by decide, by decide⟩ (Nat.le_of_ble_eq_true rfl) h1 (fun v1 S1 I1 J1 hp => ?_)
    obtain ⟨rfl, b1, c1, rfl, hm⟩ := hp
    obtain ⟨Ix, eIx⟩ : ∃ z, z = I1 := ⟨_, rfl⟩
    subst eIx
    obtain ⟨Jx, eJx⟩ : ∃ z, z = J1 := ⟨_, rfl⟩
    subst eJx
    show Rj _ _ _ _ _ _ (255, [some (.retAddr 0), some (.ref 0), some (.ref 100), some (.int (nI i))], [.int v], (SS b1 c1), Ix, Jx, 143, 112353)
    refine r_run (okL_law nm) 11 (cs := [vp_in ((nI i) + 1) (g_xn γ), vp_in ((nI i) + 2) (g_xn γ)]) (σ' := (266, [some (.retAddr 0), some (.ref 0), some (.ref 100), some (.int (nI i))], [.int (g_xs γ ((nI i) + 2).toNatClampNeg), .int (g_xs γ ((nI i) + 1).toNatClampNeg), .ref 100, .int v], (SS b1 c1), Ix, Jx, 143, 112353)) rfl ⟨(vx (k := 1) hin hxn (by decide)), (vx (k := 2) hin hxn (by decide)), trivial⟩ ?_
    refine r_ifc (okL_law nm) rfl (fun (h266_1 : (g_xs γ ((nI i) + 2).toNatClampNeg) = (0 : Int32)) => ?_) (fun (h266_1 : ¬ (g_xs γ ((nI i) + 2).toNatClampNeg) = (0 : Int32)) => ?_)
    · exact absurd h266_1 h244
    · refine r_run (okL_law nm) 2 (cs := []) (σ' := (274, [some (.retAddr 0), some (.ref 0), some (.ref 100), some (.int (nI i))], [.int 1, .int (g_xs γ ((nI i) + 1).toNatClampNeg), .ref 100, .int v], (SS b1 c1), Ix, Jx, 143, 112353)) rfl trivial ?_
      refine r_callV (okL_law nm) okX12_siren [.int (g_xs γ ((nI i) + 1).toNatClampNeg), .int 1] [.int v] 100 rfl rfl rfl kkX12_siren rfl rfl (by decide) rfl rfl rfl (by decide) ⟨by decide, by decide⟩ (Nat.le_of_ble_eq_true rfl) (h2 b1 c1 Ix Jx hm) (fun v1 S1 I1 J1 hp => ?_)
      obtain ⟨rfl, b2, c2, rfl, ls2, hV2⟩ := hp
      obtain ⟨Iy, eIy⟩ : ∃ z, z = I1 := ⟨_, rfl⟩
      subst eIy
      obtain ⟨Jy, eJy⟩ : ∃ z, z = J1 := ⟨_, rfl⟩
      subst eJy
      show Rj _ _ _ _ _ _ (277, [some (.retAddr 0), some (.ref 0), some (.ref 100), some (.int (nI i))], [.int v, .int v], (SS b2 c2), Iy, Jy, 143, 112353)
      refine r_icmp (okL_law nm) rfl (fun (h277_1 : v = v) => ?_) (fun (h277_1 : ¬ v = v) => ?_)
      · exact K b2 c2 Iy Jy ls2 hV2
      · exact absurd rfl h277_1
theorem lc_storm (γ : GE) (nm : String) {b c : Bool} {I : AI} {J : AJ} {ls : List Ln} {i : Nat} (hV : Inv I J b ls) (hin : i + 6 ≤ g_xn γ) (hxn : g_xn γ ≤ 3072) (K : ∀ (b c : Bool) (I : AI) (J : AJ) (ls : List Ln), Inv I J b ls → Rj γ (mL_law nm) 24 143 112353 PLaw (1337, [some (.retAddr 0), some (.ref 0), some (.ref 100), some (.int (nI i))], [], (SS b c), I, J, 143, 112353)) : Rj γ (mL_law nm) 24 143 112353 PLaw (282, [some (.retAddr 0), some (.ref 0), some (.ref 100), some (.int (nI i))], [], (SS b c), I, J, 143, 112353) := by
  obtain ⟨v, Mid, h1, h2⟩ := s_storm γ (c := c) hV (g_xs γ ((nI i) + 1).toNatClampNeg) (g_xs γ ((nI i) + 2).toNatClampNeg)
  refine r_run (okL_law nm) 11 (cs := [vp_in ((nI i) + 1) (g_xn γ), vp_in ((nI i) + 2) (g_xn γ)]) (σ' := (293, [some (.retAddr 0), some (.ref 0), some (.ref 100), some (.int (nI i))], [.int (g_xs γ ((nI i) + 2).toNatClampNeg), .int (g_xs γ ((nI i) + 1).toNatClampNeg), .ref 0], (SS b c), I, J, 143, 112353)) rfl ⟨(vx (k := 1) hin hxn (by decide)), (vx (k := 2) hin hxn (by decide)), trivial⟩ ?_
  refine r_callV (okL_law nm) okX11_storm [.int (g_xs γ ((nI i) + 1).toNatClampNeg), .int (g_xs γ ((nI i) + 2).toNatClampNeg)] [] 0 rfl rfl rfl kkX11_storm rfl rfl (by decide) rfl rfl rfl (by decide) ⟨by decide, by decide⟩ (Nat.le_of_ble_eq_true rfl) h1 (fun v1 S1 I1 J1 hp => ?_)
  obtain ⟨rfl, b1, c1, rfl, hm⟩ := hp
  obtain ⟨Ix, eIx⟩ : ∃ z, z = I1 := ⟨_, rfl⟩
  subst eIx
  obtain ⟨Jx, eJx⟩ : ∃ z, z = J1 := ⟨_, rfl⟩
  subst eJx
  show Rj _ _ _ _ _ _ (296, [some (.retAddr 0), some (.ref 0), some (.ref 100), some (.int (nI i))], [.int v], (SS b1 c1), Ix, Jx, 143, 112353)
  refine r_run (okL_law nm) 11 (cs := [vp_in ((nI i) + 1) (g_xn γ), vp_in ((nI i) + 2) (g_xn γ)]) (σ' := (307, [some (.retAddr 0), some (.ref 0), some (.ref 100), some (.int (nI i))], [.int (g_xs γ ((nI i) + 2).toNatClampNeg), .int (g_xs γ ((nI i) + 1).toNatClampNeg), .ref 100, .int v], (SS b1 c1), Ix, Jx, 143, 112353)) rfl ⟨(vx (k := 1) hin hxn (by decide)), (vx (k := 2) hin hxn (by decide)), trivial⟩ ?_
  refine r_callV (okL_law nm) okX12_storm [.int (g_xs γ ((nI i) + 1).toNatClampNeg), .int (g_xs γ ((nI i) + 2).toNatClampNeg)] [.int v] 100 rfl rfl rfl kkX12_storm rfl rfl (by decide) rfl rfl rfl (by decide) ⟨by decide, by decide⟩ (Nat.le_of_ble_eq_true rfl) (h2 b1 c1 Ix Jx hm) (fun v1 S1 I1 J1 hp => ?_)
  obtain ⟨rfl, b2, c2, rfl, ls2, hV2⟩ := hp
  obtain ⟨Iy, eIy⟩ : ∃ z, z = I1 := ⟨_, rfl⟩
  subst eIy
  obtain ⟨Jy, eJy⟩ : ∃ z, z = J1 := ⟨_, rfl⟩
  subst eJy
  show Rj _ _ _ _ _ _ (310, [some (.retAddr 0), some (.ref 0), some (.ref 100), some (.int (nI i))], [.int v, .int v], (SS b2 c2), Iy, Jy, 143, 112353)
  refine r_icmp (okL_law nm) rfl (fun (h310 : v = v) => ?_) (fun (h310 : ¬ v = v) => ?_)
  · exact K b2 c2 Iy Jy ls2 hV2
  · exact absurd rfl h310
theorem lc_radar (γ : GE) (nm : String) {b c : Bool} {I : AI} {J : AJ} {ls : List Ln} {i : Nat} (hV : Inv I J b ls) (hin : i + 6 ≤ g_xn γ) (hxn : g_xn γ ≤ 3072) (K : ∀ (b c : Bool) (I : AI) (J : AJ) (ls : List Ln), Inv I J b ls → Rj γ (mL_law nm) 24 143 112353 PLaw (1337, [some (.retAddr 0), some (.ref 0), some (.ref 100), some (.int (nI i))], [], (SS b c), I, J, 143, 112353)) : Rj γ (mL_law nm) 24 143 112353 PLaw (315, [some (.retAddr 0), some (.ref 0), some (.ref 100), some (.int (nI i))], [], (SS b c), I, J, 143, 112353) := by
  obtain ⟨v, Mid, h1, h2⟩ := s_radar γ (c := c) hV (g_xs γ ((nI i) + 1).toNatClampNeg) (g_xs γ ((nI i) + 2).toNatClampNeg) (g_xs γ ((nI i) + 3).toNatClampNeg) (g_xs γ ((nI i) + 4).toNatClampNeg)
  refine r_run (okL_law nm) 21 (cs := [vp_in ((nI i) + 1) (g_xn γ), vp_in ((nI i) + 2) (g_xn γ), vp_in ((nI i) + 3) (g_xn γ), vp_in ((nI i) + 4) (g_xn γ)]) (σ' := (336, [some (.retAddr 0), some (.ref 0), some (.ref 100), some (.int (nI i))], [.int (g_xs γ ((nI i) + 4).toNatClampNeg), .int (g_xs γ ((nI i) + 3).toNatClampNeg), .int (g_xs γ ((nI i) + 2).toNatClampNeg), .int (g_xs γ ((nI i) + 1).toNatClampNeg), .ref 0], (SS b c), I, J, 143, 112353)) rfl ⟨(vx (k := 1) hin hxn (by decide)), (vx (k := 2) hin hxn (by decide)), (vx (k := 3) hin hxn (by decide)), (vx (k := 4) hin hxn (by decide)), trivial⟩ ?_
  refine r_callV (okL_law nm) okX11_radar [.int (g_xs γ ((nI i) + 1).toNatClampNeg), .int (g_xs γ ((nI i) + 2).toNatClampNeg), .int (g_xs γ ((nI i) + 3).toNatClampNeg), .int (g_xs γ ((nI i) + 4).toNatClampNeg)] [] 0 rfl rfl rfl kkX11_radar rfl rfl (by decide) rfl rfl rfl (by decide) ⟨by decide, by decide⟩ (Nat.le_of_ble_eq_true rfl) h1 (fun v1 S1 I1 J1 hp => ?_)
  obtain ⟨rfl, b1, c1, rfl, hm⟩ := hp
  obtain ⟨Ix, eIx⟩ : ∃ z, z = I1 := ⟨_, rfl⟩
  subst eIx
  obtain ⟨Jx, eJx⟩ : ∃ z, z = J1 := ⟨_, rfl⟩
  subst eJx
  show Rj _ _ _ _ _ _ (339, [some (.retAddr 0), some (.ref 0), some (.ref 100), some (.int (nI i))], [.int v], (SS b1 c1), Ix, Jx, 143, 112353)
  refine r_run (okL_law nm) 21 (cs := [vp_in ((nI i) + 1) (g_xn γ), vp_in ((nI i) + 2) (g_xn γ), vp_in ((nI i) + 3) (g_xn γ), vp_in ((nI i) + 4) (g_xn γ)]) (σ' := (360, [some (.retAddr 0), some (.ref 0), some (.ref 100), some (.int (nI i))], [.int (g_xs γ ((nI i) + 4).toNatClampNeg), .int (g_xs γ ((nI i) + 3).toNatClampNeg), .int (g_xs γ ((nI i) + 2).toNatClampNeg), .int (g_xs γ ((nI i) + 1).toNatClampNeg), .ref 100, .int v], (SS b1 c1), Ix, Jx, 143, 112353)) rfl ⟨(vx (k := 1) hin hxn (by decide)), (vx (k := 2) hin hxn (by decide)), (vx (k := 3) hin hxn (by decide)), (vx (k := 4) hin hxn (by decide)), trivial⟩ ?_
  refine r_callV (okL_law nm) okX12_radar [.int (g_xs γ ((nI i) + 1).toNatClampNeg), .int (g_xs γ ((nI i) + 2).toNatClampNeg), .int (g_xs γ ((nI i) + 3).toNatClampNeg), .int (g_xs γ ((nI i) + 4).toNatClampNeg)] [.int v] 100 rfl rfl rfl kkX12_radar rfl rfl (by decide) rfl rfl rfl (by decide) ⟨by decide, by decide⟩ (Nat.le_of_ble_eq_true rfl) (h2 b1 c1 Ix Jx hm) (fun v1 S1 I1 J1 hp => ?_)
  obtain ⟨rfl, b2, c2, rfl, ls2, hV2⟩ := hp
  obtain ⟨Iy, eIy⟩ : ∃ z, z = I1 := ⟨_, rfl⟩
  subst eIy
  obtain ⟨Jy, eJy⟩ : ∃ z, z = J1 := ⟨_, rfl⟩
  subst eJy
  show Rj _ _ _ _ _ _ (363, [some (.retAddr 0), some (.ref 0), some (.ref 100), some (.int (nI i))], [.int v, .int v], (SS b2 c2), Iy, Jy, 143, 112353)
  refine r_icmp (okL_law nm) rfl (fun (h363 : v = v) => ?_) (fun (h363 : ¬ v = v) => ?_)
  · exact K b2 c2 Iy Jy ls2 hV2
  · exact absurd rfl h363
theorem lc_blind (γ : GE) (nm : String) {b c : Bool} {I : AI} {J : AJ} {ls : List Ln} {i : Nat} (hV : Inv I J b ls) (hin : i + 6 ≤ g_xn γ) (hxn : g_xn γ ≤ 3072) (K : ∀ (b c : Bool) (I : AI) (J : AJ) (ls : List Ln), Inv I J b ls → Rj γ (mL_law nm) 24 143 112353 PLaw (1337, [some (.retAddr 0), some (.ref 0), some (.ref 100), some (.int (nI i))], [], (SS b c), I, J, 143, 112353)) : Rj γ (mL_law nm) 24 143 112353 PLaw (368, [some (.retAddr 0), some (.ref 0), some (.ref 100), some (.int (nI i))], [], (SS b c), I, J, 143, 112353) := by
  refine r_run (okL_law nm) 16 (cs := [vp_in ((nI i) + 1) (g_xn γ), vp_in ((nI i) + 2) (g_xn γ), vp_in ((nI i) + 3) (g_xn γ)]) (σ' := (384, [some (.retAddr 0), some (.ref 0), some (.ref 100), some (.int (nI i))], [.int (g_xs γ ((nI i) + 3).toNatClampNeg), .int (g_xs γ ((nI i) + 2).toNatClampNeg), .int (g_xs γ ((nI i) + 1).toNatClampNeg), .ref 0], (SS b c), I, J, 143, 112353)) rfl ⟨(vx (k := 1) hin hxn (by decide)), (vx (k := 2) hin hxn (by decide)), (vx (k := 3) hin hxn (by decide)), trivial⟩ ?_
  refine r_ifc (okL_law nm) rfl (fun (h384 : (g_xs γ ((nI i) + 3).toNatClampNeg) = (0 : Int32)) => ?_) (fun (h384 : ¬ (g_xs γ ((nI i) + 3).toNatClampNeg) = (0 : Int32)) => ?_)
  · obtain ⟨v, Mid, h1, h2⟩ := s_blind γ (c := c) hV (g_xs γ ((nI i) + 1).toNatClampNeg) (g_xs γ ((nI i) + 2).toNatClampNeg) false
    refine r_run (okL_law nm) 1 (cs := []) (σ' := (392, [some (.retAddr 0), some (.ref 0), some (.ref 100), some (.int (nI i))], [.int 0, .int (g_xs γ ((nI i) + 2).toNatClampNeg), .int (g_xs γ ((nI i) + 1).toNatClampNeg), .ref 0], (SS b c), I, J, 143, 112353)) rfl trivial ?_
    refine r_callV (okL_law nm) okX11_blind [.int (g_xs γ ((nI i) + 1).toNatClampNeg), .int (g_xs γ ((nI i) + 2).toNatClampNeg), .int 0] [] 0 rfl rfl rfl kkX11_blind rfl rfl (by decide) rfl rfl rfl (by decide) ⟨by decide, by decide⟩ (Nat.le_of_ble_eq_true rfl) h1 (fun v1 S1 I1 J1 hp => ?_)
    obtain ⟨rfl, b1, c1, rfl, hm⟩ := hp
    obtain ⟨Ix, eIx⟩ : ∃ z, z = I1 := ⟨_, rfl⟩
    subst eIx
    obtain ⟨Jx, eJx⟩ : ∃ z, z = J1 := ⟨_, rfl⟩
    subst eJx
    show Rj _ _ _ _ _ _ (395, [some (.retAddr 0), some (.ref 0), some (.ref 100), some (.int (nI i))], [.int v], (SS b1 c1), Ix, Jx, 143, 112353)
    refine r_run (okL_law nm) 16 (cs := [vp_in ((nI i) + 1) (g_xn γ), vp_in ((nI i) + 2) (g_xn γ), vp_in ((nI i) + 3) (g_xn γ)]) (σ' := (411, [some (.retAddr 0), some (.ref 0), some (.ref 100), some (.int (nI i))], [.int (g_xs γ ((nI i) + 3).toNatClampNeg), .int (g_xs γ ((nI i) + 2).toNatClampNeg), .int (g_xs γ ((nI i) + 1).toNatClampNeg), .ref 100, .int v], (SS b1 c1), Ix, Jx, 143, 112353)) rfl ⟨(vx (k := 1) hin hxn (by decide)), (vx (k := 2) hin hxn (by decide)), (vx (k := 3) hin hxn (by decide)), trivial⟩ ?_
    refine r_ifc (okL_law nm) rfl (fun (h411 : (g_xs γ ((nI i) + 3).toNatClampNeg) = (0 : Int32)) => ?_) (fun (h411 : ¬ (g_xs γ ((nI i) + 3).toNatClampNeg) = (0 : Int32)) => ?_)
    · refine r_run (okL_law nm) 1 (cs := []) (σ' := (419, [some (.retAddr 0), some (.ref 0), some (.ref 100), some (.int (nI i))], [.int 0, .int (g_xs γ ((nI i) + 2).toNatClampNeg), .int (g_xs γ ((nI i) + 1).toNatClampNeg), .ref 100, .int v], (SS b1 c1), Ix, Jx, 143, 112353)) rfl trivial ?_
      refine r_callV (okL_law nm) okX12_blind [.int (g_xs γ ((nI i) + 1).toNatClampNeg), .int (g_xs γ ((nI i) + 2).toNatClampNeg), .int 0] [.int v] 100 rfl rfl rfl kkX12_blind rfl rfl (by decide) rfl rfl rfl (by decide) ⟨by decide, by decide⟩ (Nat.le_of_ble_eq_true rfl) (h2 b1 c1 Ix Jx hm) (fun v1 S1 I1 J1 hp => ?_)
      obtain ⟨rfl, b2, c2, rfl, ls2, hV2⟩ := hp
      obtain ⟨Iy, eIy⟩ : ∃ z, z = I1 := ⟨_, rfl⟩
      subst eIy
      obtain ⟨Jy, eJy⟩ : ∃ z, z = J1 := ⟨_, rfl⟩
      subst eJy
      show Rj _ _ _ _ _ _ (422, [some (.retAddr 0), some (.ref 0), some (.ref 100), some (.int (nI i))], [.int v, .int v], (SS b2 c2), Iy, Jy, 143, 112353)
      refine r_icmp (okL_law nm) rfl (fun (h422 : v = v) => ?_) (fun (h422 : ¬ v = v) => ?_)
      · exact K b2 c2 Iy Jy ls2 hV2
      · exact absurd rfl h422
    · exact absurd h384 h411
  · obtain ⟨v, Mid, h1, h2⟩ := s_blind γ (c := c) hV (g_xs γ ((nI i) + 1).toNatClampNeg) (g_xs γ ((nI i) + 2).toNatClampNeg) true
    refine r_run (okL_law nm) 2 (cs := []) (σ' := (392, [some (.retAddr 0), some (.ref 0), some (.ref 100), some (.int (nI i))], [.int 1, .int (g_xs γ ((nI i) + 2).toNatClampNeg), .int (g_xs γ ((nI i) + 1).toNatClampNeg), .ref 0], (SS b c), I, J, 143, 112353)) rfl trivial ?_
    refine r_callV (okL_law nm) okX11_blind [.int (g_xs γ ((nI i) + 1).toNatClampNeg), .int (g_xs γ ((nI i) + 2).toNatClampNeg), .int 1] [] 0 rfl rfl rfl kkX11_blind rfl rfl (by decide) rfl rfl rfl (by decide) ⟨by decide, by decide⟩ (Nat.le_of_ble_eq_true rfl) h1 (fun v1 S1 I1 J1 hp => ?_)
    obtain ⟨rfl, b1, c1, rfl, hm⟩ := hp
    obtain ⟨Ix, eIx⟩ : ∃ z, z = I1 := ⟨_, rfl⟩
    subst eIx
    obtain ⟨Jx, eJx⟩ : ∃ z, z = J1 := ⟨_, rfl⟩
    subst eJx
    show Rj _ _ _ _ _ _ (395, [some (.retAddr 0), some (.ref 0), some (.ref 100), some (.int (nI i))], [.int v], (SS b1 c1), Ix, Jx, 143, 112353)
    refine r_run (okL_law nm) 16 (cs := [vp_in ((nI i) + 1) (g_xn γ), vp_in ((nI i) + 2) (g_xn γ), vp_in ((nI i) + 3) (g_xn γ)]) (σ' := (411, [some (.retAddr 0), some (.ref 0), some (.ref 100), some (.int (nI i))], [.int (g_xs γ ((nI i) + 3).toNatClampNeg), .int (g_xs γ ((nI i) + 2).toNatClampNeg), .int (g_xs γ ((nI i) + 1).toNatClampNeg), .ref 100, .int v], (SS b1 c1), Ix, Jx, 143, 112353)) rfl ⟨(vx (k := 1) hin hxn (by decide)), (vx (k := 2) hin hxn (by decide)), (vx (k := 3) hin hxn (by decide)), trivial⟩ ?_
    refine r_ifc (okL_law nm) rfl (fun (h411_1 : (g_xs γ ((nI i) + 3).toNatClampNeg) = (0 : Int32)) => ?_) (fun (h411_1 : ¬ (g_xs γ ((nI i) + 3).toNatClampNeg) = (0 : Int32)) => ?_)
    · exact absurd h411_1 h384
    · refine r_run (okL_law nm) 2 (cs := []) (σ' := (419, [some (.retAddr 0), some (.ref 0), some (.ref 100), some (.int (nI i))], [.int 1, .int (g_xs γ ((nI i) + 2).toNatClampNeg), .int (g_xs γ ((nI i) + 1).toNatClampNeg), .ref 100, .int v], (SS b1 c1), Ix, Jx, 143, 112353)) rfl trivial ?_
      refine r_callV (okL_law nm) okX12_blind [.int (g_xs γ ((nI i) + 1).toNatClampNeg), .int (g_xs γ ((nI i) + 2).toNatClampNeg), .int 1] [.int v] 100 rfl rfl rfl kkX12_blind rfl rfl (by decide) rfl rfl rfl (by decide) ⟨by decide, by decide⟩ (Nat.le_of_ble_eq_true rfl) (h2 b1 c1 Ix Jx hm) (fun v1 S1 I1 J1 hp => ?_)
      obtain ⟨rfl, b2, c2, rfl, ls2, hV2⟩ := hp
      obtain ⟨Iy, eIy⟩ : ∃ z, z = I1 := ⟨_, rfl⟩
      subst eIy
      obtain ⟨Jy, eJy⟩ : ∃ z, z = J1 := ⟨_, rfl⟩
      subst eJy
      show Rj _ _ _ _ _ _ (422, [some (.retAddr 0), some (.ref 0), some (.ref 100), some (.int (nI i))], [.int v, .int v], (SS b2 c2), Iy, Jy, 143, 112353)
      refine r_icmp (okL_law nm) rfl (fun (h422_1 : v = v) => ?_) (fun (h422_1 : ¬ v = v) => ?_)
      · exact K b2 c2 Iy Jy ls2 hV2
      · exact absurd rfl h422_1
theorem lc_of (γ : GE) (nm : String) {b c : Bool} {I : AI} {J : AJ} {ls : List Ln} {i : Nat} (hV : Inv I J b ls) (hin : i + 6 ≤ g_xn γ) (hxn : g_xn γ ≤ 3072) (K : ∀ (b c : Bool) (I : AI) (J : AJ) (ls : List Ln), Inv I J b ls → Rj γ (mL_law nm) 24 143 112353 PLaw (1337, [some (.retAddr 0), some (.ref 0), some (.ref 100), some (.int (nI i))], [], (SS b c), I, J, 143, 112353)) : Rj γ (mL_law nm) 24 143 112353 PLaw (427, [some (.retAddr 0), some (.ref 0), some (.ref 100), some (.int (nI i))], [], (SS b c), I, J, 143, 112353) := by
  obtain ⟨v, Mid, h1, h2⟩ := s_of γ (c := c) hV (g_xs γ ((nI i) + 1).toNatClampNeg) (g_xs γ ((nI i) + 2).toNatClampNeg)
  refine r_run (okL_law nm) 11 (cs := [vp_in ((nI i) + 1) (g_xn γ), vp_in ((nI i) + 2) (g_xn γ)]) (σ' := (438, [some (.retAddr 0), some (.ref 0), some (.ref 100), some (.int (nI i))], [.int (g_xs γ ((nI i) + 2).toNatClampNeg), .int (g_xs γ ((nI i) + 1).toNatClampNeg), .ref 0], (SS b c), I, J, 143, 112353)) rfl ⟨(vx (k := 1) hin hxn (by decide)), (vx (k := 2) hin hxn (by decide)), trivial⟩ ?_
  refine r_callV (okL_law nm) okX11_of [.int (g_xs γ ((nI i) + 1).toNatClampNeg), .int (g_xs γ ((nI i) + 2).toNatClampNeg)] [] 0 rfl rfl rfl kkX11_of rfl rfl (by decide) rfl rfl rfl (by decide) ⟨by decide, by decide⟩ (Nat.le_of_ble_eq_true rfl) h1 (fun v1 S1 I1 J1 hp => ?_)
  obtain ⟨rfl, b1, c1, rfl, hm⟩ := hp
  obtain ⟨Ix, eIx⟩ : ∃ z, z = I1 := ⟨_, rfl⟩
  subst eIx
  obtain ⟨Jx, eJx⟩ : ∃ z, z = J1 := ⟨_, rfl⟩
  subst eJx
  show Rj _ _ _ _ _ _ (441, [some (.retAddr 0), some (.ref 0), some (.ref 100), some (.int (nI i))], [.int v], (SS b1 c1), Ix, Jx, 143, 112353)
  refine r_run (okL_law nm) 11 (cs := [vp_in ((nI i) + 1) (g_xn γ), vp_in ((nI i) + 2) (g_xn γ)]) (σ' := (452, [some (.retAddr 0), some (.ref 0), some (.ref 100), some (.int (nI i))], [.int (g_xs γ ((nI i) + 2).toNatClampNeg), .int (g_xs γ ((nI i) + 1).toNatClampNeg), .ref 100, .int v], (SS b1 c1), Ix, Jx, 143, 112353)) rfl ⟨(vx (k := 1) hin hxn (by decide)), (vx (k := 2) hin hxn (by decide)), trivial⟩ ?_
  refine r_callV (okL_law nm) okX12_of [.int (g_xs γ ((nI i) + 1).toNatClampNeg), .int (g_xs γ ((nI i) + 2).toNatClampNeg)] [.int v] 100 rfl rfl rfl kkX12_of rfl rfl (by decide) rfl rfl rfl (by decide) ⟨by decide, by decide⟩ (Nat.le_of_ble_eq_true rfl) (h2 b1 c1 Ix Jx hm) (fun v1 S1 I1 J1 hp => ?_)
  obtain ⟨rfl, b2, c2, rfl, ls2, hV2⟩ := hp
  obtain ⟨Iy, eIy⟩ : ∃ z, z = I1 := ⟨_, rfl⟩
  subst eIy
  obtain ⟨Jy, eJy⟩ : ∃ z, z = J1 := ⟨_, rfl⟩
  subst eJy
  show Rj _ _ _ _ _ _ (455, [some (.retAddr 0), some (.ref 0), some (.ref 100), some (.int (nI i))], [.int v, .int v], (SS b2 c2), Iy, Jy, 143, 112353)
  refine r_icmp (okL_law nm) rfl (fun (h455 : v = v) => ?_) (fun (h455 : ¬ v = v) => ?_)
  · exact K b2 c2 Iy Jy ls2 hV2
  · exact absurd rfl h455
theorem lc_seen (γ : GE) (nm : String) {b c : Bool} {I : AI} {J : AJ} {ls : List Ln} {i : Nat} (hV : Inv I J b ls) (hin : i + 6 ≤ g_xn γ) (hxn : g_xn γ ≤ 3072) (K : ∀ (b c : Bool) (I : AI) (J : AJ) (ls : List Ln), Inv I J b ls → Rj γ (mL_law nm) 24 143 112353 PLaw (1337, [some (.retAddr 0), some (.ref 0), some (.ref 100), some (.int (nI i))], [], (SS b c), I, J, 143, 112353)) : Rj γ (mL_law nm) 24 143 112353 PLaw (460, [some (.retAddr 0), some (.ref 0), some (.ref 100), some (.int (nI i))], [], (SS b c), I, J, 143, 112353) := by
  obtain ⟨v, Mid, h1, h2⟩ := s_seen γ (c := c) hV (g_xs γ ((nI i) + 1).toNatClampNeg) (g_xs γ ((nI i) + 2).toNatClampNeg) (g_xs γ ((nI i) + 3).toNatClampNeg)
  refine r_run (okL_law nm) 16 (cs := [vp_in ((nI i) + 1) (g_xn γ), vp_in ((nI i) + 2) (g_xn γ), vp_in ((nI i) + 3) (g_xn γ)]) (σ' := (476, [some (.retAddr 0), some (.ref 0), some (.ref 100), some (.int (nI i))], [.int (g_xs γ ((nI i) + 3).toNatClampNeg), .int (g_xs γ ((nI i) + 2).toNatClampNeg), .int (g_xs γ ((nI i) + 1).toNatClampNeg), .ref 0], (SS b c), I, J, 143, 112353)) rfl ⟨(vx (k := 1) hin hxn (by decide)), (vx (k := 2) hin hxn (by decide)), (vx (k := 3) hin hxn (by decide)), trivial⟩ ?_
  refine r_callV (okL_law nm) okX11_seen [.int (g_xs γ ((nI i) + 1).toNatClampNeg), .int (g_xs γ ((nI i) + 2).toNatClampNeg), .int (g_xs γ ((nI i) + 3).toNatClampNeg)] [] 0 rfl rfl rfl kkX11_seen rfl rfl (by decide) rfl rfl rfl (by decide) ⟨by decide, by decide⟩ (Nat.le_of_ble_eq_true rfl) h1 (fun v1 S1 I1 J1 hp => ?_)
  obtain ⟨rfl, b1, c1, rfl, hm⟩ := hp
  obtain ⟨Ix, eIx⟩ : ∃ z, z = I1 := ⟨_, rfl⟩
  subst eIx
  obtain ⟨Jx, eJx⟩ : ∃ z, z = J1 := ⟨_, rfl⟩
  subst eJx
  show Rj _ _ _ _ _ _ (479, [some (.retAddr 0), some (.ref 0), some (.ref 100), some (.int (nI i))], [.int v], (SS b1 c1), Ix, Jx, 143, 112353)
  refine r_run (okL_law nm) 16 (cs := [vp_in ((nI i) + 1) (g_xn γ), vp_in ((nI i) + 2) (g_xn γ), vp_in ((nI i) + 3) (g_xn γ)]) (σ' := (495, [some (.retAddr 0), some (.ref 0), some (.ref 100), some (.int (nI i))], [.int (g_xs γ ((nI i) + 3).toNatClampNeg), .int (g_xs γ ((nI i) + 2).toNatClampNeg), .int (g_xs γ ((nI i) + 1).toNatClampNeg), .ref 100, .int v], (SS b1 c1), Ix, Jx, 143, 112353)) rfl ⟨(vx (k := 1) hin hxn (by decide)), (vx (k := 2) hin hxn (by decide)), (vx (k := 3) hin hxn (by decide)), trivial⟩ ?_
  refine r_callV (okL_law nm) okX12_seen [.int (g_xs γ ((nI i) + 1).toNatClampNeg), .int (g_xs γ ((nI i) + 2).toNatClampNeg), .int (g_xs γ ((nI i) + 3).toNatClampNeg)] [.int v] 100 rfl rfl rfl kkX12_seen rfl rfl (by decide) rfl rfl rfl (by decide) ⟨by decide, by decide⟩ (Nat.le_of_ble_eq_true rfl) (h2 b1 c1 Ix Jx hm) (fun v1 S1 I1 J1 hp => ?_)
  obtain ⟨rfl, b2, c2, rfl, ls2, hV2⟩ := hp
  obtain ⟨Iy, eIy⟩ : ∃ z, z = I1 := ⟨_, rfl⟩
  subst eIy
  obtain ⟨Jy, eJy⟩ : ∃ z, z = J1 := ⟨_, rfl⟩
  subst eJy
  show Rj _ _ _ _ _ _ (498, [some (.retAddr 0), some (.ref 0), some (.ref 100), some (.int (nI i))], [.int v, .int v], (SS b2 c2), Iy, Jy, 143, 112353)
  refine r_icmp (okL_law nm) rfl (fun (h498 : v = v) => ?_) (fun (h498 : ¬ v = v) => ?_)
  · exact K b2 c2 Iy Jy ls2 hV2
  · exact absurd rfl h498
theorem lc_bare (γ : GE) (nm : String) {b c : Bool} {I : AI} {J : AJ} {ls : List Ln} {i : Nat} (hV : Inv I J b ls) (hin : i + 6 ≤ g_xn γ) (hxn : g_xn γ ≤ 3072) (K : ∀ (b c : Bool) (I : AI) (J : AJ) (ls : List Ln), Inv I J b ls → Rj γ (mL_law nm) 24 143 112353 PLaw (1337, [some (.retAddr 0), some (.ref 0), some (.ref 100), some (.int (nI i))], [], (SS b c), I, J, 143, 112353)) : Rj γ (mL_law nm) 24 143 112353 PLaw (503, [some (.retAddr 0), some (.ref 0), some (.ref 100), some (.int (nI i))], [], (SS b c), I, J, 143, 112353) := by
  obtain ⟨v, Mid, h1, h2⟩ := s_bare γ (c := c) hV (g_xs γ ((nI i) + 1).toNatClampNeg) (g_xs γ ((nI i) + 2).toNatClampNeg)
  refine r_run (okL_law nm) 11 (cs := [vp_in ((nI i) + 1) (g_xn γ), vp_in ((nI i) + 2) (g_xn γ)]) (σ' := (514, [some (.retAddr 0), some (.ref 0), some (.ref 100), some (.int (nI i))], [.int (g_xs γ ((nI i) + 2).toNatClampNeg), .int (g_xs γ ((nI i) + 1).toNatClampNeg), .ref 0], (SS b c), I, J, 143, 112353)) rfl ⟨(vx (k := 1) hin hxn (by decide)), (vx (k := 2) hin hxn (by decide)), trivial⟩ ?_
  refine r_callV (okL_law nm) okX11_bare [.int (g_xs γ ((nI i) + 1).toNatClampNeg), .int (g_xs γ ((nI i) + 2).toNatClampNeg)] [] 0 rfl rfl rfl kkX11_bare rfl rfl (by decide) rfl rfl rfl (by decide) ⟨by decide, by decide⟩ (Nat.le_of_ble_eq_true rfl) h1 (fun v1 S1 I1 J1 hp => ?_)
  obtain ⟨rfl, b1, c1, rfl, hm⟩ := hp
  obtain ⟨Ix, eIx⟩ : ∃ z, z = I1 := ⟨_, rfl⟩
  subst eIx
  obtain ⟨Jx, eJx⟩ : ∃ z, z = J1 := ⟨_, rfl⟩
  subst eJx
  show Rj _ _ _ _ _ _ (517, [some (.retAddr 0), some (.ref 0), some (.ref 100), some (.int (nI i))], [.int v], (SS b1 c1), Ix, Jx, 143, 112353)
  refine r_run (okL_law nm) 11 (cs := [vp_in ((nI i) + 1) (g_xn γ), vp_in ((nI i) + 2) (g_xn γ)]) (σ' := (528, [some (.retAddr 0), some (.ref 0), some (.ref 100), some (.int (nI i))], [.int (g_xs γ ((nI i) + 2).toNatClampNeg), .int (g_xs γ ((nI i) + 1).toNatClampNeg), .ref 100, .int v], (SS b1 c1), Ix, Jx, 143, 112353)) rfl ⟨(vx (k := 1) hin hxn (by decide)), (vx (k := 2) hin hxn (by decide)), trivial⟩ ?_
  refine r_callV (okL_law nm) okX12_bare [.int (g_xs γ ((nI i) + 1).toNatClampNeg), .int (g_xs γ ((nI i) + 2).toNatClampNeg)] [.int v] 100 rfl rfl rfl kkX12_bare rfl rfl (by decide) rfl rfl rfl (by decide) ⟨by decide, by decide⟩ (Nat.le_of_ble_eq_true rfl) (h2 b1 c1 Ix Jx hm) (fun v1 S1 I1 J1 hp => ?_)
  obtain ⟨rfl, b2, c2, rfl, ls2, hV2⟩ := hp
  obtain ⟨Iy, eIy⟩ : ∃ z, z = I1 := ⟨_, rfl⟩
  subst eIy
  obtain ⟨Jy, eJy⟩ : ∃ z, z = J1 := ⟨_, rfl⟩
  subst eJy
  show Rj _ _ _ _ _ _ (531, [some (.retAddr 0), some (.ref 0), some (.ref 100), some (.int (nI i))], [.int v, .int v], (SS b2 c2), Iy, Jy, 143, 112353)
  refine r_icmp (okL_law nm) rfl (fun (h531 : v = v) => ?_) (fun (h531 : ¬ v = v) => ?_)
  · exact K b2 c2 Iy Jy ls2 hV2
  · exact absurd rfl h531
theorem lc_word (γ : GE) (nm : String) {b c : Bool} {I : AI} {J : AJ} {ls : List Ln} {i : Nat} (hV : Inv I J b ls) (hin : i + 6 ≤ g_xn γ) (hxn : g_xn γ ≤ 3072) (K : ∀ (b c : Bool) (I : AI) (J : AJ) (ls : List Ln), Inv I J b ls → Rj γ (mL_law nm) 24 143 112353 PLaw (1337, [some (.retAddr 0), some (.ref 0), some (.ref 100), some (.int (nI i))], [], (SS b c), I, J, 143, 112353)) : Rj γ (mL_law nm) 24 143 112353 PLaw (536, [some (.retAddr 0), some (.ref 0), some (.ref 100), some (.int (nI i))], [], (SS b c), I, J, 143, 112353) := by
  obtain ⟨v, Mid, h1, h2⟩ := s_word γ (c := c) hV (g_xs γ ((nI i) + 1).toNatClampNeg) (g_xs γ ((nI i) + 2).toNatClampNeg) (g_xs γ ((nI i) + 3).toNatClampNeg)
  refine r_run (okL_law nm) 16 (cs := [vp_in ((nI i) + 1) (g_xn γ), vp_in ((nI i) + 2) (g_xn γ), vp_in ((nI i) + 3) (g_xn γ)]) (σ' := (552, [some (.retAddr 0), some (.ref 0), some (.ref 100), some (.int (nI i))], [.int (g_xs γ ((nI i) + 3).toNatClampNeg), .int (g_xs γ ((nI i) + 2).toNatClampNeg), .int (g_xs γ ((nI i) + 1).toNatClampNeg), .ref 0], (SS b c), I, J, 143, 112353)) rfl ⟨(vx (k := 1) hin hxn (by decide)), (vx (k := 2) hin hxn (by decide)), (vx (k := 3) hin hxn (by decide)), trivial⟩ ?_
  refine r_callV (okL_law nm) okX11_word [.int (g_xs γ ((nI i) + 1).toNatClampNeg), .int (g_xs γ ((nI i) + 2).toNatClampNeg), .int (g_xs γ ((nI i) + 3).toNatClampNeg)] [] 0 rfl rfl rfl kkX11_word rfl rfl (by decide) rfl rfl rfl (by decide) ⟨by decide, by decide⟩ (Nat.le_of_ble_eq_true rfl) h1 (fun v1 S1 I1 J1 hp => ?_)
  obtain ⟨rfl, b1, c1, rfl, hm⟩ := hp
  obtain ⟨Ix, eIx⟩ : ∃ z, z = I1 := ⟨_, rfl⟩
  subst eIx
  obtain ⟨Jx, eJx⟩ : ∃ z, z = J1 := ⟨_, rfl⟩
  subst eJx
  show Rj _ _ _ _ _ _ (555, [some (.retAddr 0), some (.ref 0), some (.ref 100), some (.int (nI i))], [.int v], (SS b1 c1), Ix, Jx, 143, 112353)
  refine r_run (okL_law nm) 16 (cs := [vp_in ((nI i) + 1) (g_xn γ), vp_in ((nI i) + 2) (g_xn γ), vp_in ((nI i) + 3) (g_xn γ)]) (σ' := (571, [some (.retAddr 0), some (.ref 0), some (.ref 100), some (.int (nI i))], [.int (g_xs γ ((nI i) + 3).toNatClampNeg), .int (g_xs γ ((nI i) + 2).toNatClampNeg), .int (g_xs γ ((nI i) + 1).toNatClampNeg), .ref 100, .int v], (SS b1 c1), Ix, Jx, 143, 112353)) rfl ⟨(vx (k := 1) hin hxn (by decide)), (vx (k := 2) hin hxn (by decide)), (vx (k := 3) hin hxn (by decide)), trivial⟩ ?_
  refine r_callV (okL_law nm) okX12_word [.int (g_xs γ ((nI i) + 1).toNatClampNeg), .int (g_xs γ ((nI i) + 2).toNatClampNeg), .int (g_xs γ ((nI i) + 3).toNatClampNeg)] [.int v] 100 rfl rfl rfl kkX12_word rfl rfl (by decide) rfl rfl rfl (by decide) ⟨by decide, by decide⟩ (Nat.le_of_ble_eq_true rfl) (h2 b1 c1 Ix Jx hm) (fun v1 S1 I1 J1 hp => ?_)
  obtain ⟨rfl, b2, c2, rfl, ls2, hV2⟩ := hp
  obtain ⟨Iy, eIy⟩ : ∃ z, z = I1 := ⟨_, rfl⟩
  subst eIy
  obtain ⟨Jy, eJy⟩ : ∃ z, z = J1 := ⟨_, rfl⟩
  subst eJy
  show Rj _ _ _ _ _ _ (574, [some (.retAddr 0), some (.ref 0), some (.ref 100), some (.int (nI i))], [.int v, .int v], (SS b2 c2), Iy, Jy, 143, 112353)
  refine r_icmp (okL_law nm) rfl (fun (h574 : v = v) => ?_) (fun (h574 : ¬ v = v) => ?_)
  · exact K b2 c2 Iy Jy ls2 hV2
  · exact absurd rfl h574
theorem lc_maybe (γ : GE) (nm : String) {b c : Bool} {I : AI} {J : AJ} {ls : List Ln} {i : Nat} (hV : Inv I J b ls) (hin : i + 6 ≤ g_xn γ) (hxn : g_xn γ ≤ 3072) (K : ∀ (b c : Bool) (I : AI) (J : AJ) (ls : List Ln), Inv I J b ls → Rj γ (mL_law nm) 24 143 112353 PLaw (1337, [some (.retAddr 0), some (.ref 0), some (.ref 100), some (.int (nI i))], [], (SS b c), I, J, 143, 112353)) : Rj γ (mL_law nm) 24 143 112353 PLaw (579, [some (.retAddr 0), some (.ref 0), some (.ref 100), some (.int (nI i))], [], (SS b c), I, J, 143, 112353) := by
  obtain ⟨v, Mid, h1, h2⟩ := s_maybe γ (c := c) hV (g_xs γ ((nI i) + 1).toNatClampNeg) (g_xs γ ((nI i) + 2).toNatClampNeg) (g_xs γ ((nI i) + 3).toNatClampNeg)
  refine r_run (okL_law nm) 16 (cs := [vp_in ((nI i) + 1) (g_xn γ), vp_in ((nI i) + 2) (g_xn γ), vp_in ((nI i) + 3) (g_xn γ)]) (σ' := (595, [some (.retAddr 0), some (.ref 0), some (.ref 100), some (.int (nI i))], [.int (g_xs γ ((nI i) + 3).toNatClampNeg), .int (g_xs γ ((nI i) + 2).toNatClampNeg), .int (g_xs γ ((nI i) + 1).toNatClampNeg), .ref 0], (SS b c), I, J, 143, 112353)) rfl ⟨(vx (k := 1) hin hxn (by decide)), (vx (k := 2) hin hxn (by decide)), (vx (k := 3) hin hxn (by decide)), trivial⟩ ?_
  refine r_callV (okL_law nm) okX11_maybe [.int (g_xs γ ((nI i) + 1).toNatClampNeg), .int (g_xs γ ((nI i) + 2).toNatClampNeg), .int (g_xs γ ((nI i) + 3).toNatClampNeg)] [] 0 rfl rfl rfl kkX11_maybe rfl rfl (by decide) rfl rfl rfl (by decide) ⟨by decide, by decide⟩ (Nat.le_of_ble_eq_true rfl) h1 (fun v1 S1 I1 J1 hp => ?_)
  obtain ⟨rfl, b1, c1, rfl, hm⟩ := hp
  obtain ⟨Ix, eIx⟩ : ∃ z, z = I1 := ⟨_, rfl⟩
  subst eIx
  obtain ⟨Jx, eJx⟩ : ∃ z, z = J1 := ⟨_, rfl⟩
  subst eJx
  show Rj _ _ _ _ _ _ (598, [some (.retAddr 0), some (.ref 0), some (.ref 100), some (.int (nI i))], [.int v], (SS b1 c1), Ix, Jx, 143, 112353)
  refine r_run (okL_law nm) 16 (cs := [vp_in ((nI i) + 1) (g_xn γ), vp_in ((nI i) + 2) (g_xn γ), vp_in ((nI i) + 3) (g_xn γ)]) (σ' := (614, [some (.retAddr 0), some (.ref 0), some (.ref 100), some (.int (nI i))], [.int (g_xs γ ((nI i) + 3).toNatClampNeg), .int (g_xs γ ((nI i) + 2).toNatClampNeg), .int (g_xs γ ((nI i) + 1).toNatClampNeg), .ref 100, .int v], (SS b1 c1), Ix, Jx, 143, 112353)) rfl ⟨(vx (k := 1) hin hxn (by decide)), (vx (k := 2) hin hxn (by decide)), (vx (k := 3) hin hxn (by decide)), trivial⟩ ?_
  refine r_callV (okL_law nm) okX12_maybe [.int (g_xs γ ((nI i) + 1).toNatClampNeg), .int (g_xs γ ((nI i) + 2).toNatClampNeg), .int (g_xs γ ((nI i) + 3).toNatClampNeg)] [.int v] 100 rfl rfl rfl kkX12_maybe rfl rfl (by decide) rfl rfl rfl (by decide) ⟨by decide, by decide⟩ (Nat.le_of_ble_eq_true rfl) (h2 b1 c1 Ix Jx hm) (fun v1 S1 I1 J1 hp => ?_)
  obtain ⟨rfl, b2, c2, rfl, ls2, hV2⟩ := hp
  obtain ⟨Iy, eIy⟩ : ∃ z, z = I1 := ⟨_, rfl⟩
  subst eIy
  obtain ⟨Jy, eJy⟩ : ∃ z, z = J1 := ⟨_, rfl⟩
  subst eJy
  show Rj _ _ _ _ _ _ (617, [some (.retAddr 0), some (.ref 0), some (.ref 100), some (.int (nI i))], [.int v, .int v], (SS b2 c2), Iy, Jy, 143, 112353)
  refine r_icmp (okL_law nm) rfl (fun (h617 : v = v) => ?_) (fun (h617 : ¬ v = v) => ?_)
  · exact K b2 c2 Iy Jy ls2 hV2
  · exact absurd rfl h617
theorem lc_count (γ : GE) (nm : String) {b c : Bool} {I : AI} {J : AJ} {ls : List Ln} {i : Nat} (hV : Inv I J b ls) (hin : i + 6 ≤ g_xn γ) (hxn : g_xn γ ≤ 3072) (K : ∀ (b c : Bool) (I : AI) (J : AJ) (ls : List Ln), Inv I J b ls → Rj γ (mL_law nm) 24 143 112353 PLaw (1337, [some (.retAddr 0), some (.ref 0), some (.ref 100), some (.int (nI i))], [], (SS b c), I, J, 143, 112353)) : Rj γ (mL_law nm) 24 143 112353 PLaw (622, [some (.retAddr 0), some (.ref 0), some (.ref 100), some (.int (nI i))], [], (SS b c), I, J, 143, 112353) := by
  obtain ⟨v, Mid, h1, h2⟩ := s_count γ (c := c) hV (g_xs γ ((nI i) + 1).toNatClampNeg) (g_xs γ ((nI i) + 2).toNatClampNeg) (g_xs γ ((nI i) + 3).toNatClampNeg)
  refine r_run (okL_law nm) 16 (cs := [vp_in ((nI i) + 1) (g_xn γ), vp_in ((nI i) + 2) (g_xn γ), vp_in ((nI i) + 3) (g_xn γ)]) (σ' := (638, [some (.retAddr 0), some (.ref 0), some (.ref 100), some (.int (nI i))], [.int (g_xs γ ((nI i) + 3).toNatClampNeg), .int (g_xs γ ((nI i) + 2).toNatClampNeg), .int (g_xs γ ((nI i) + 1).toNatClampNeg), .ref 0], (SS b c), I, J, 143, 112353)) rfl ⟨(vx (k := 1) hin hxn (by decide)), (vx (k := 2) hin hxn (by decide)), (vx (k := 3) hin hxn (by decide)), trivial⟩ ?_
  refine r_callV (okL_law nm) okX11_count [.int (g_xs γ ((nI i) + 1).toNatClampNeg), .int (g_xs γ ((nI i) + 2).toNatClampNeg), .int (g_xs γ ((nI i) + 3).toNatClampNeg)] [] 0 rfl rfl rfl kkX11_count rfl rfl (by decide) rfl rfl rfl (by decide) ⟨by decide, by decide⟩ (Nat.le_of_ble_eq_true rfl) h1 (fun v1 S1 I1 J1 hp => ?_)
  obtain ⟨rfl, b1, c1, rfl, hm⟩ := hp
  obtain ⟨Ix, eIx⟩ : ∃ z, z = I1 := ⟨_, rfl⟩
  subst eIx
  obtain ⟨Jx, eJx⟩ : ∃ z, z = J1 := ⟨_, rfl⟩
  subst eJx
  show Rj _ _ _ _ _ _ (641, [some (.retAddr 0), some (.ref 0), some (.ref 100), some (.int (nI i))], [.int v], (SS b1 c1), Ix, Jx, 143, 112353)
  refine r_run (okL_law nm) 16 (cs := [vp_in ((nI i) + 1) (g_xn γ), vp_in ((nI i) + 2) (g_xn γ), vp_in ((nI i) + 3) (g_xn γ)]) (σ' := (657, [some (.retAddr 0), some (.ref 0), some (.ref 100), some (.int (nI i))], [.int (g_xs γ ((nI i) + 3).toNatClampNeg), .int (g_xs γ ((nI i) + 2).toNatClampNeg), .int (g_xs γ ((nI i) + 1).toNatClampNeg), .ref 100, .int v], (SS b1 c1), Ix, Jx, 143, 112353)) rfl ⟨(vx (k := 1) hin hxn (by decide)), (vx (k := 2) hin hxn (by decide)), (vx (k := 3) hin hxn (by decide)), trivial⟩ ?_
  refine r_callV (okL_law nm) okX12_count [.int (g_xs γ ((nI i) + 1).toNatClampNeg), .int (g_xs γ ((nI i) + 2).toNatClampNeg), .int (g_xs γ ((nI i) + 3).toNatClampNeg)] [.int v] 100 rfl rfl rfl kkX12_count rfl rfl (by decide) rfl rfl rfl (by decide) ⟨by decide, by decide⟩ (Nat.le_of_ble_eq_true rfl) (h2 b1 c1 Ix Jx hm) (fun v1 S1 I1 J1 hp => ?_)
  obtain ⟨rfl, b2, c2, rfl, ls2, hV2⟩ := hp
  obtain ⟨Iy, eIy⟩ : ∃ z, z = I1 := ⟨_, rfl⟩
  subst eIy
  obtain ⟨Jy, eJy⟩ : ∃ z, z = J1 := ⟨_, rfl⟩
  subst eJy
  show Rj _ _ _ _ _ _ (660, [some (.retAddr 0), some (.ref 0), some (.ref 100), some (.int (nI i))], [.int v, .int v], (SS b2 c2), Iy, Jy, 143, 112353)
  refine r_icmp (okL_law nm) rfl (fun (h660 : v = v) => ?_) (fun (h660 : ¬ v = v) => ?_)
  · exact K b2 c2 Iy Jy ls2 hV2
  · exact absurd rfl h660
theorem lc_quarrel (γ : GE) (nm : String) {b c : Bool} {I : AI} {J : AJ} {ls : List Ln} {i : Nat} (hV : Inv I J b ls) (hin : i + 6 ≤ g_xn γ) (hxn : g_xn γ ≤ 3072) (K : ∀ (b c : Bool) (I : AI) (J : AJ) (ls : List Ln), Inv I J b ls → Rj γ (mL_law nm) 24 143 112353 PLaw (1337, [some (.retAddr 0), some (.ref 0), some (.ref 100), some (.int (nI i))], [], (SS b c), I, J, 143, 112353)) : Rj γ (mL_law nm) 24 143 112353 PLaw (665, [some (.retAddr 0), some (.ref 0), some (.ref 100), some (.int (nI i))], [], (SS b c), I, J, 143, 112353) := by
  obtain ⟨v, Mid, h1, h2⟩ := s_quarrel γ (c := c) hV (g_xs γ ((nI i) + 1).toNatClampNeg)
  refine r_run (okL_law nm) 6 (cs := [vp_in ((nI i) + 1) (g_xn γ)]) (σ' := (671, [some (.retAddr 0), some (.ref 0), some (.ref 100), some (.int (nI i))], [.int (g_xs γ ((nI i) + 1).toNatClampNeg), .ref 0], (SS b c), I, J, 143, 112353)) rfl ⟨(vx (k := 1) hin hxn (by decide)), trivial⟩ ?_
  refine r_callV (okL_law nm) okX11_quarrel [.int (g_xs γ ((nI i) + 1).toNatClampNeg)] [] 0 rfl rfl rfl kkX11_quarrel rfl rfl (by decide) rfl rfl rfl (by decide) ⟨by decide, by decide⟩ (Nat.le_of_ble_eq_true rfl) h1 (fun v1 S1 I1 J1 hp => ?_)
  obtain ⟨rfl, b1, c1, rfl, hm⟩ := hp
  obtain ⟨Ix, eIx⟩ : ∃ z, z = I1 := ⟨_, rfl⟩
  subst eIx
  obtain ⟨Jx, eJx⟩ : ∃ z, z = J1 := ⟨_, rfl⟩
  subst eJx
  show Rj _ _ _ _ _ _ (674, [some (.retAddr 0), some (.ref 0), some (.ref 100), some (.int (nI i))], [.int v], (SS b1 c1), Ix, Jx, 143, 112353)
  refine r_run (okL_law nm) 6 (cs := [vp_in ((nI i) + 1) (g_xn γ)]) (σ' := (680, [some (.retAddr 0), some (.ref 0), some (.ref 100), some (.int (nI i))], [.int (g_xs γ ((nI i) + 1).toNatClampNeg), .ref 100, .int v], (SS b1 c1), Ix, Jx, 143, 112353)) rfl ⟨(vx (k := 1) hin hxn (by decide)), trivial⟩ ?_
  refine r_callV (okL_law nm) okX12_quarrel [.int (g_xs γ ((nI i) + 1).toNatClampNeg)] [.int v] 100 rfl rfl rfl kkX12_quarrel rfl rfl (by decide) rfl rfl rfl (by decide) ⟨by decide, by decide⟩ (Nat.le_of_ble_eq_true rfl) (h2 b1 c1 Ix Jx hm) (fun v1 S1 I1 J1 hp => ?_)
  obtain ⟨rfl, b2, c2, rfl, ls2, hV2⟩ := hp
  obtain ⟨Iy, eIy⟩ : ∃ z, z = I1 := ⟨_, rfl⟩
  subst eIy
  obtain ⟨Jy, eJy⟩ : ∃ z, z = J1 := ⟨_, rfl⟩
  subst eJy
  show Rj _ _ _ _ _ _ (683, [some (.retAddr 0), some (.ref 0), some (.ref 100), some (.int (nI i))], [.int v, .int v], (SS b2 c2), Iy, Jy, 143, 112353)
  refine r_icmp (okL_law nm) rfl (fun (h683 : v = v) => ?_) (fun (h683 : ¬ v = v) => ?_)
  · exact K b2 c2 Iy Jy ls2 hV2
  · exact absurd rfl h683
theorem lc_paths (γ : GE) (nm : String) {b c : Bool} {I : AI} {J : AJ} {ls : List Ln} {i : Nat} (hV : Inv I J b ls) (hin : i + 6 ≤ g_xn γ) (hxn : g_xn γ ≤ 3072) (K : ∀ (b c : Bool) (I : AI) (J : AJ) (ls : List Ln), Inv I J b ls → Rj γ (mL_law nm) 24 143 112353 PLaw (1337, [some (.retAddr 0), some (.ref 0), some (.ref 100), some (.int (nI i))], [], (SS b c), I, J, 143, 112353)) : Rj γ (mL_law nm) 24 143 112353 PLaw (688, [some (.retAddr 0), some (.ref 0), some (.ref 100), some (.int (nI i))], [], (SS b c), I, J, 143, 112353) := by
  obtain ⟨v, Mid, h1, h2⟩ := s_paths γ (c := c) hV (g_xs γ ((nI i) + 1).toNatClampNeg)
  refine r_run (okL_law nm) 6 (cs := [vp_in ((nI i) + 1) (g_xn γ)]) (σ' := (694, [some (.retAddr 0), some (.ref 0), some (.ref 100), some (.int (nI i))], [.int (g_xs γ ((nI i) + 1).toNatClampNeg), .ref 0], (SS b c), I, J, 143, 112353)) rfl ⟨(vx (k := 1) hin hxn (by decide)), trivial⟩ ?_
  refine r_callV (okL_law nm) okX11_paths [.int (g_xs γ ((nI i) + 1).toNatClampNeg)] [] 0 rfl rfl rfl kkX11_paths rfl rfl (by decide) rfl rfl rfl (by decide) ⟨by decide, by decide⟩ (Nat.le_of_ble_eq_true rfl) h1 (fun v1 S1 I1 J1 hp => ?_)
  obtain ⟨rfl, b1, c1, rfl, hm⟩ := hp
  obtain ⟨Ix, eIx⟩ : ∃ z, z = I1 := ⟨_, rfl⟩
  subst eIx
  obtain ⟨Jx, eJx⟩ : ∃ z, z = J1 := ⟨_, rfl⟩
  subst eJx
  show Rj _ _ _ _ _ _ (697, [some (.retAddr 0), some (.ref 0), some (.ref 100), some (.int (nI i))], [.long v], (SS b1 c1), Ix, Jx, 143, 112353)
  refine r_run (okL_law nm) 6 (cs := [vp_in ((nI i) + 1) (g_xn γ)]) (σ' := (703, [some (.retAddr 0), some (.ref 0), some (.ref 100), some (.int (nI i))], [.int (g_xs γ ((nI i) + 1).toNatClampNeg), .ref 100, .long v], (SS b1 c1), Ix, Jx, 143, 112353)) rfl ⟨(vx (k := 1) hin hxn (by decide)), trivial⟩ ?_
  refine r_callV (okL_law nm) okX12_paths [.int (g_xs γ ((nI i) + 1).toNatClampNeg)] [.long v] 100 rfl rfl rfl kkX12_paths rfl rfl (by decide) rfl rfl rfl (by decide) ⟨by decide, by decide⟩ (Nat.le_of_ble_eq_true rfl) (h2 b1 c1 Ix Jx hm) (fun v1 S1 I1 J1 hp => ?_)
  obtain ⟨rfl, b2, c2, rfl, ls2, hV2⟩ := hp
  obtain ⟨Iy, eIy⟩ : ∃ z, z = I1 := ⟨_, rfl⟩
  subst eIy
  obtain ⟨Jy, eJy⟩ : ∃ z, z = J1 := ⟨_, rfl⟩
  subst eJy
  show Rj _ _ _ _ _ _ (706, [some (.retAddr 0), some (.ref 0), some (.ref 100), some (.int (nI i))], [.long v, .long v], (SS b2 c2), Iy, Jy, 143, 112353)
  refine r_run (okL_law nm) 1 (cs := []) (σ' := (707, [some (.retAddr 0), some (.ref 0), some (.ref 100), some (.int (nI i))], [.int (lg_cmp v v)], (SS b2 c2), Iy, Jy, 143, 112353)) rfl trivial ?_
  refine r_ifc (okL_law nm) rfl (fun (h707 : (lg_cmp v v) = (0 : Int32)) => ?_) (fun (h707 : ¬ (lg_cmp v v) = (0 : Int32)) => ?_)
  · exact K b2 c2 Iy Jy ls2 hV2
  · exact absurd (lc_z v) h707
theorem lc_missed (γ : GE) (nm : String) {b c : Bool} {I : AI} {J : AJ} {ls : List Ln} {i : Nat} (hV : Inv I J b ls) (hin : i + 6 ≤ g_xn γ) (hxn : g_xn γ ≤ 3072) (K : ∀ (b c : Bool) (I : AI) (J : AJ) (ls : List Ln), Inv I J b ls → Rj γ (mL_law nm) 24 143 112353 PLaw (1337, [some (.retAddr 0), some (.ref 0), some (.ref 100), some (.int (nI i))], [], (SS b c), I, J, 143, 112353)) : Rj γ (mL_law nm) 24 143 112353 PLaw (712, [some (.retAddr 0), some (.ref 0), some (.ref 100), some (.int (nI i))], [], (SS b c), I, J, 143, 112353) := by
  obtain ⟨v, Mid, h1, h2⟩ := s_missed γ (c := c) hV (g_xs γ ((nI i) + 1).toNatClampNeg) (g_xs γ ((nI i) + 2).toNatClampNeg)
  refine r_run (okL_law nm) 11 (cs := [vp_in ((nI i) + 1) (g_xn γ), vp_in ((nI i) + 2) (g_xn γ)]) (σ' := (723, [some (.retAddr 0), some (.ref 0), some (.ref 100), some (.int (nI i))], [.int (g_xs γ ((nI i) + 2).toNatClampNeg), .int (g_xs γ ((nI i) + 1).toNatClampNeg), .ref 0], (SS b c), I, J, 143, 112353)) rfl ⟨(vx (k := 1) hin hxn (by decide)), (vx (k := 2) hin hxn (by decide)), trivial⟩ ?_
  refine r_callV (okL_law nm) okX11_missed [.int (g_xs γ ((nI i) + 1).toNatClampNeg), .int (g_xs γ ((nI i) + 2).toNatClampNeg)] [] 0 rfl rfl rfl kkX11_missed rfl rfl (by decide) rfl rfl rfl (by decide) ⟨by decide, by decide⟩ (Nat.le_of_ble_eq_true rfl) h1 (fun v1 S1 I1 J1 hp => ?_)
  obtain ⟨rfl, b1, c1, rfl, hm⟩ := hp
  obtain ⟨Ix, eIx⟩ : ∃ z, z = I1 := ⟨_, rfl⟩
  subst eIx
  obtain ⟨Jx, eJx⟩ : ∃ z, z = J1 := ⟨_, rfl⟩
  subst eJx
  show Rj _ _ _ _ _ _ (726, [some (.retAddr 0), some (.ref 0), some (.ref 100), some (.int (nI i))], [.long v], (SS b1 c1), Ix, Jx, 143, 112353)
  refine r_run (okL_law nm) 11 (cs := [vp_in ((nI i) + 1) (g_xn γ), vp_in ((nI i) + 2) (g_xn γ)]) (σ' := (737, [some (.retAddr 0), some (.ref 0), some (.ref 100), some (.int (nI i))], [.int (g_xs γ ((nI i) + 2).toNatClampNeg), .int (g_xs γ ((nI i) + 1).toNatClampNeg), .ref 100, .long v], (SS b1 c1), Ix, Jx, 143, 112353)) rfl ⟨(vx (k := 1) hin hxn (by decide)), (vx (k := 2) hin hxn (by decide)), trivial⟩ ?_
  refine r_callV (okL_law nm) okX12_missed [.int (g_xs γ ((nI i) + 1).toNatClampNeg), .int (g_xs γ ((nI i) + 2).toNatClampNeg)] [.long v] 100 rfl rfl rfl kkX12_missed rfl rfl (by decide) rfl rfl rfl (by decide) ⟨by decide, by decide⟩ (Nat.le_of_ble_eq_true rfl) (h2 b1 c1 Ix Jx hm) (fun v1 S1 I1 J1 hp => ?_)
  obtain ⟨rfl, b2, c2, rfl, ls2, hV2⟩ := hp
  obtain ⟨Iy, eIy⟩ : ∃ z, z = I1 := ⟨_, rfl⟩
  subst eIy
  obtain ⟨Jy, eJy⟩ : ∃ z, z = J1 := ⟨_, rfl⟩
  subst eJy
  show Rj _ _ _ _ _ _ (740, [some (.retAddr 0), some (.ref 0), some (.ref 100), some (.int (nI i))], [.long v, .long v], (SS b2 c2), Iy, Jy, 143, 112353)
  refine r_run (okL_law nm) 1 (cs := []) (σ' := (741, [some (.retAddr 0), some (.ref 0), some (.ref 100), some (.int (nI i))], [.int (lg_cmp v v)], (SS b2 c2), Iy, Jy, 143, 112353)) rfl trivial ?_
  refine r_ifc (okL_law nm) rfl (fun (h741 : (lg_cmp v v) = (0 : Int32)) => ?_) (fun (h741 : ¬ (lg_cmp v v) = (0 : Int32)) => ?_)
  · exact K b2 c2 Iy Jy ls2 hV2
  · exact absurd (lc_z v) h741
theorem lc_box (γ : GE) (nm : String) {b c : Bool} {I : AI} {J : AJ} {ls : List Ln} {i : Nat} (hV : Inv I J b ls) (hin : i + 6 ≤ g_xn γ) (hxn : g_xn γ ≤ 3072) (K : ∀ (b c : Bool) (I : AI) (J : AJ) (ls : List Ln), Inv I J b ls → Rj γ (mL_law nm) 24 143 112353 PLaw (1337, [some (.retAddr 0), some (.ref 0), some (.ref 100), some (.int (nI i))], [], (SS b c), I, J, 143, 112353)) : Rj γ (mL_law nm) 24 143 112353 PLaw (746, [some (.retAddr 0), some (.ref 0), some (.ref 100), some (.int (nI i))], [], (SS b c), I, J, 143, 112353) := by
  obtain ⟨v, Mid, h1, h2⟩ := s_box γ (c := c) hV (g_xs γ ((nI i) + 1).toNatClampNeg) (g_xs γ ((nI i) + 2).toNatClampNeg) (g_xs γ ((nI i) + 3).toNatClampNeg)
  refine r_run (okL_law nm) 16 (cs := [vp_in ((nI i) + 1) (g_xn γ), vp_in ((nI i) + 2) (g_xn γ), vp_in ((nI i) + 3) (g_xn γ)]) (σ' := (762, [some (.retAddr 0), some (.ref 0), some (.ref 100), some (.int (nI i))], [.int (g_xs γ ((nI i) + 3).toNatClampNeg), .int (g_xs γ ((nI i) + 2).toNatClampNeg), .int (g_xs γ ((nI i) + 1).toNatClampNeg), .ref 0], (SS b c), I, J, 143, 112353)) rfl ⟨(vx (k := 1) hin hxn (by decide)), (vx (k := 2) hin hxn (by decide)), (vx (k := 3) hin hxn (by decide)), trivial⟩ ?_
  refine r_callV (okL_law nm) okX11_box [.int (g_xs γ ((nI i) + 1).toNatClampNeg), .int (g_xs γ ((nI i) + 2).toNatClampNeg), .int (g_xs γ ((nI i) + 3).toNatClampNeg)] [] 0 rfl rfl rfl kkX11_box rfl rfl (by decide) rfl rfl rfl (by decide) ⟨by decide, by decide⟩ (Nat.le_of_ble_eq_true rfl) h1 (fun v1 S1 I1 J1 hp => ?_)
  obtain ⟨rfl, b1, c1, rfl, hm⟩ := hp
  obtain ⟨Ix, eIx⟩ : ∃ z, z = I1 := ⟨_, rfl⟩
  subst eIx
  obtain ⟨Jx, eJx⟩ : ∃ z, z = J1 := ⟨_, rfl⟩
  subst eJx
  show Rj _ _ _ _ _ _ (765, [some (.retAddr 0), some (.ref 0), some (.ref 100), some (.int (nI i))], [.int v], (SS b1 c1), Ix, Jx, 143, 112353)
  refine r_run (okL_law nm) 16 (cs := [vp_in ((nI i) + 1) (g_xn γ), vp_in ((nI i) + 2) (g_xn γ), vp_in ((nI i) + 3) (g_xn γ)]) (σ' := (781, [some (.retAddr 0), some (.ref 0), some (.ref 100), some (.int (nI i))], [.int (g_xs γ ((nI i) + 3).toNatClampNeg), .int (g_xs γ ((nI i) + 2).toNatClampNeg), .int (g_xs γ ((nI i) + 1).toNatClampNeg), .ref 100, .int v], (SS b1 c1), Ix, Jx, 143, 112353)) rfl ⟨(vx (k := 1) hin hxn (by decide)), (vx (k := 2) hin hxn (by decide)), (vx (k := 3) hin hxn (by decide)), trivial⟩ ?_
  refine r_callV (okL_law nm) okX12_box [.int (g_xs γ ((nI i) + 1).toNatClampNeg), .int (g_xs γ ((nI i) + 2).toNatClampNeg), .int (g_xs γ ((nI i) + 3).toNatClampNeg)] [.int v] 100 rfl rfl rfl kkX12_box rfl rfl (by decide) rfl rfl rfl (by decide) ⟨by decide, by decide⟩ (Nat.le_of_ble_eq_true rfl) (h2 b1 c1 Ix Jx hm) (fun v1 S1 I1 J1 hp => ?_)
  obtain ⟨rfl, b2, c2, rfl, ls2, hV2⟩ := hp
  obtain ⟨Iy, eIy⟩ : ∃ z, z = I1 := ⟨_, rfl⟩
  subst eIy
  obtain ⟨Jy, eJy⟩ : ∃ z, z = J1 := ⟨_, rfl⟩
  subst eJy
  show Rj _ _ _ _ _ _ (784, [some (.retAddr 0), some (.ref 0), some (.ref 100), some (.int (nI i))], [.int v, .int v], (SS b2 c2), Iy, Jy, 143, 112353)
  refine r_icmp (okL_law nm) rfl (fun (h784 : v = v) => ?_) (fun (h784 : ¬ v = v) => ?_)
  · exact K b2 c2 Iy Jy ls2 hV2
  · exact absurd rfl h784
theorem lc_feed (γ : GE) (nm : String) {b c : Bool} {I : AI} {J : AJ} {ls : List Ln} {i : Nat} (hV : Inv I J b ls) (hin : i + 6 ≤ g_xn γ) (hxn : g_xn γ ≤ 3072) (K : ∀ (b c : Bool) (I : AI) (J : AJ) (ls : List Ln), Inv I J b ls → Rj γ (mL_law nm) 24 143 112353 PLaw (1337, [some (.retAddr 0), some (.ref 0), some (.ref 100), some (.int (nI i))], [], (SS b c), I, J, 143, 112353)) : Rj γ (mL_law nm) 24 143 112353 PLaw (789, [some (.retAddr 0), some (.ref 0), some (.ref 100), some (.int (nI i))], [], (SS b c), I, J, 143, 112353) := by
  obtain ⟨v, Mid, h1, h2⟩ := s_feed γ (c := c) hV (g_xs γ ((nI i) + 1).toNatClampNeg) (g_xs γ ((nI i) + 2).toNatClampNeg) (g_xs γ ((nI i) + 3).toNatClampNeg) (g_xs γ ((nI i) + 4).toNatClampNeg) (g_xs γ ((nI i) + 5).toNatClampNeg)
  refine r_run (okL_law nm) 26 (cs := [vp_in ((nI i) + 1) (g_xn γ), vp_in ((nI i) + 2) (g_xn γ), vp_in ((nI i) + 3) (g_xn γ), vp_in ((nI i) + 4) (g_xn γ), vp_in ((nI i) + 5) (g_xn γ)]) (σ' := (815, [some (.retAddr 0), some (.ref 0), some (.ref 100), some (.int (nI i))], [.int (g_xs γ ((nI i) + 5).toNatClampNeg), .int (g_xs γ ((nI i) + 4).toNatClampNeg), .int (g_xs γ ((nI i) + 3).toNatClampNeg), .int (g_xs γ ((nI i) + 2).toNatClampNeg), .int (g_xs γ ((nI i) + 1).toNatClampNeg), .ref 0], (SS b c), I, J, 143, 112353)) rfl ⟨(vx (k := 1) hin hxn (by decide)), (vx (k := 2) hin hxn (by decide)), (vx (k := 3) hin hxn (by decide)), (vx (k := 4) hin hxn (by decide)), (vx (k := 5) hin hxn (by decide)), trivial⟩ ?_
  refine r_callV (okL_law nm) okX11_feed [.int (g_xs γ ((nI i) + 1).toNatClampNeg), .int (g_xs γ ((nI i) + 2).toNatClampNeg), .int (g_xs γ ((nI i) + 3).toNatClampNeg), .int (g_xs γ ((nI i) + 4).toNatClampNeg), .int (g_xs γ ((nI i) + 5).toNatClampNeg)] [] 0 rfl rfl rfl kkX11_feed rfl rfl (by decide) rfl rfl rfl (by decide) ⟨by decide, by decide⟩ (Nat.le_of_ble_eq_true rfl) h1 (fun v1 S1 I1 J1 hp => ?_)
  obtain ⟨rfl, b1, c1, rfl, hm⟩ := hp
  obtain ⟨Ix, eIx⟩ : ∃ z, z = I1 := ⟨_, rfl⟩
  subst eIx
  obtain ⟨Jx, eJx⟩ : ∃ z, z = J1 := ⟨_, rfl⟩
  subst eJx
  show Rj _ _ _ _ _ _ (818, [some (.retAddr 0), some (.ref 0), some (.ref 100), some (.int (nI i))], [.int v], (SS b1 c1), Ix, Jx, 143, 112353)
  refine r_run (okL_law nm) 26 (cs := [vp_in ((nI i) + 1) (g_xn γ), vp_in ((nI i) + 2) (g_xn γ), vp_in ((nI i) + 3) (g_xn γ), vp_in ((nI i) + 4) (g_xn γ), vp_in ((nI i) + 5) (g_xn γ)]) (σ' := (844, [some (.retAddr 0), some (.ref 0), some (.ref 100), some (.int (nI i))], [.int (g_xs γ ((nI i) + 5).toNatClampNeg), .int (g_xs γ ((nI i) + 4).toNatClampNeg), .int (g_xs γ ((nI i) + 3).toNatClampNeg), .int (g_xs γ ((nI i) + 2).toNatClampNeg), .int (g_xs γ ((nI i) + 1).toNatClampNeg), .ref 100, .int v], (SS b1 c1), Ix, Jx, 143, 112353)) rfl ⟨(vx (k := 1) hin hxn (by decide)), (vx (k := 2) hin hxn (by decide)), (vx (k := 3) hin hxn (by decide)), (vx (k := 4) hin hxn (by decide)), (vx (k := 5) hin hxn (by decide)), trivial⟩ ?_
  refine r_callV (okL_law nm) okX12_feed [.int (g_xs γ ((nI i) + 1).toNatClampNeg), .int (g_xs γ ((nI i) + 2).toNatClampNeg), .int (g_xs γ ((nI i) + 3).toNatClampNeg), .int (g_xs γ ((nI i) + 4).toNatClampNeg), .int (g_xs γ ((nI i) + 5).toNatClampNeg)] [.int v] 100 rfl rfl rfl kkX12_feed rfl rfl (by decide) rfl rfl rfl (by decide) ⟨by decide, by decide⟩ (Nat.le_of_ble_eq_true rfl) (h2 b1 c1 Ix Jx hm) (fun v1 S1 I1 J1 hp => ?_)
  obtain ⟨rfl, b2, c2, rfl, ls2, hV2⟩ := hp
  obtain ⟨Iy, eIy⟩ : ∃ z, z = I1 := ⟨_, rfl⟩
  subst eIy
  obtain ⟨Jy, eJy⟩ : ∃ z, z = J1 := ⟨_, rfl⟩
  subst eJy
  show Rj _ _ _ _ _ _ (847, [some (.retAddr 0), some (.ref 0), some (.ref 100), some (.int (nI i))], [.int v, .int v], (SS b2 c2), Iy, Jy, 143, 112353)
  refine r_icmp (okL_law nm) rfl (fun (h847 : v = v) => ?_) (fun (h847 : ¬ v = v) => ?_)
  · exact K b2 c2 Iy Jy ls2 hV2
  · exact absurd rfl h847
theorem lc_end (γ : GE) (nm : String) {b c : Bool} {I : AI} {J : AJ} {ls : List Ln} {i : Nat} (hV : Inv I J b ls) (hin : i + 6 ≤ g_xn γ) (hxn : g_xn γ ≤ 3072) (K : ∀ (b c : Bool) (I : AI) (J : AJ) (ls : List Ln), Inv I J b ls → Rj γ (mL_law nm) 24 143 112353 PLaw (1337, [some (.retAddr 0), some (.ref 0), some (.ref 100), some (.int (nI i))], [], (SS b c), I, J, 143, 112353)) : Rj γ (mL_law nm) 24 143 112353 PLaw (852, [some (.retAddr 0), some (.ref 0), some (.ref 100), some (.int (nI i))], [], (SS b c), I, J, 143, 112353) := by
  obtain ⟨v, Mid, h1, h2⟩ := s_end γ (c := c) hV (g_xs γ ((nI i) + 1).toNatClampNeg)
  refine r_run (okL_law nm) 6 (cs := [vp_in ((nI i) + 1) (g_xn γ)]) (σ' := (858, [some (.retAddr 0), some (.ref 0), some (.ref 100), some (.int (nI i))], [.int (g_xs γ ((nI i) + 1).toNatClampNeg), .ref 0], (SS b c), I, J, 143, 112353)) rfl ⟨(vx (k := 1) hin hxn (by decide)), trivial⟩ ?_
  refine r_callV (okL_law nm) okX11_end [.int (g_xs γ ((nI i) + 1).toNatClampNeg)] [] 0 rfl rfl rfl kkX11_end rfl rfl (by decide) rfl rfl rfl (by decide) ⟨by decide, by decide⟩ (Nat.le_of_ble_eq_true rfl) h1 (fun v1 S1 I1 J1 hp => ?_)
  obtain ⟨rfl, b1, c1, rfl, hm⟩ := hp
  obtain ⟨Ix, eIx⟩ : ∃ z, z = I1 := ⟨_, rfl⟩
  subst eIx
  obtain ⟨Jx, eJx⟩ : ∃ z, z = J1 := ⟨_, rfl⟩
  subst eJx
  show Rj _ _ _ _ _ _ (861, [some (.retAddr 0), some (.ref 0), some (.ref 100), some (.int (nI i))], [.int v], (SS b1 c1), Ix, Jx, 143, 112353)
  refine r_run (okL_law nm) 6 (cs := [vp_in ((nI i) + 1) (g_xn γ)]) (σ' := (867, [some (.retAddr 0), some (.ref 0), some (.ref 100), some (.int (nI i))], [.int (g_xs γ ((nI i) + 1).toNatClampNeg), .ref 100, .int v], (SS b1 c1), Ix, Jx, 143, 112353)) rfl ⟨(vx (k := 1) hin hxn (by decide)), trivial⟩ ?_
  refine r_callV (okL_law nm) okX12_end [.int (g_xs γ ((nI i) + 1).toNatClampNeg)] [.int v] 100 rfl rfl rfl kkX12_end rfl rfl (by decide) rfl rfl rfl (by decide) ⟨by decide, by decide⟩ (Nat.le_of_ble_eq_true rfl) (h2 b1 c1 Ix Jx hm) (fun v1 S1 I1 J1 hp => ?_)
  obtain ⟨rfl, b2, c2, rfl, ls2, hV2⟩ := hp
  obtain ⟨Iy, eIy⟩ : ∃ z, z = I1 := ⟨_, rfl⟩
  subst eIy
  obtain ⟨Jy, eJy⟩ : ∃ z, z = J1 := ⟨_, rfl⟩
  subst eJy
  show Rj _ _ _ _ _ _ (870, [some (.retAddr 0), some (.ref 0), some (.ref 100), some (.int (nI i))], [.int v, .int v], (SS b2 c2), Iy, Jy, 143, 112353)
  refine r_icmp (okL_law nm) rfl (fun (h870 : v = v) => ?_) (fun (h870 : ¬ v = v) => ?_)
  · exact K b2 c2 Iy Jy ls2 hV2
  · exact absurd rfl h870
theorem lc_rules (γ : GE) (nm : String) {b c : Bool} {I : AI} {J : AJ} {ls : List Ln} {i : Nat} (hV : Inv I J b ls) (hin : i + 6 ≤ g_xn γ) (hxn : g_xn γ ≤ 3072) (K : ∀ (b c : Bool) (I : AI) (J : AJ) (ls : List Ln), Inv I J b ls → Rj γ (mL_law nm) 24 143 112353 PLaw (1337, [some (.retAddr 0), some (.ref 0), some (.ref 100), some (.int (nI i))], [], (SS b c), I, J, 143, 112353)) : Rj γ (mL_law nm) 24 143 112353 PLaw (875, [some (.retAddr 0), some (.ref 0), some (.ref 100), some (.int (nI i))], [], (SS b c), I, J, 143, 112353) := by
  obtain ⟨Mid, h1, h2⟩ := s_rules γ (c := c) hV 
  refine r_run (okL_law nm) 1 (cs := []) (σ' := (876, [some (.retAddr 0), some (.ref 0), some (.ref 100), some (.int (nI i))], [.ref 0], (SS b c), I, J, 143, 112353)) rfl trivial ?_
  refine r_callV (okL_law nm) okX11_rules [] [] 0 rfl rfl rfl kkX11_rules rfl rfl (by decide) rfl rfl rfl (by decide) ⟨by decide, by decide⟩ (Nat.le_of_ble_eq_true rfl) h1 (fun v1 S1 I1 J1 hp => ?_)
  obtain ⟨v, rfl, b1, c1, rfl, hm⟩ := hp
  obtain ⟨Ix, eIx⟩ : ∃ z, z = I1 := ⟨_, rfl⟩
  subst eIx
  obtain ⟨Jx, eJx⟩ : ∃ z, z = J1 := ⟨_, rfl⟩
  subst eJx
  show Rj _ _ _ _ _ _ (879, [some (.retAddr 0), some (.ref 0), some (.ref 100), some (.int (nI i))], [.int v], (SS b1 c1), Ix, Jx, 143, 112353)
  refine r_run (okL_law nm) 1 (cs := []) (σ' := (880, [some (.retAddr 0), some (.ref 0), some (.ref 100), some (.int (nI i))], [.ref 100, .int v], (SS b1 c1), Ix, Jx, 143, 112353)) rfl trivial ?_
  refine r_callV (okL_law nm) okX12_rules [] [.int v] 100 rfl rfl rfl kkX12_rules rfl rfl (by decide) rfl rfl rfl (by decide) ⟨by decide, by decide⟩ (Nat.le_of_ble_eq_true rfl) (h2 v b1 c1 Ix Jx hm) (fun v1 S1 I1 J1 hp => ?_)
  obtain ⟨rfl, b2, c2, rfl, ls2, hV2⟩ := hp
  obtain ⟨Iy, eIy⟩ : ∃ z, z = I1 := ⟨_, rfl⟩
  subst eIy
  obtain ⟨Jy, eJy⟩ : ∃ z, z = J1 := ⟨_, rfl⟩
  subst eJy
  show Rj _ _ _ _ _ _ (883, [some (.retAddr 0), some (.ref 0), some (.ref 100), some (.int (nI i))], [.int v, .int v], (SS b2 c2), Iy, Jy, 143, 112353)
  refine r_icmp (okL_law nm) rfl (fun (h883 : v = v) => ?_) (fun (h883 : ¬ v = v) => ?_)
  · exact K b2 c2 Iy Jy ls2 hV2
  · exact absurd rfl h883
theorem lc_fault (γ : GE) (nm : String) {b c : Bool} {I : AI} {J : AJ} {ls : List Ln} {i : Nat} (hV : Inv I J b ls) (hin : i + 6 ≤ g_xn γ) (hxn : g_xn γ ≤ 3072) (K : ∀ (b c : Bool) (I : AI) (J : AJ) (ls : List Ln), Inv I J b ls → Rj γ (mL_law nm) 24 143 112353 PLaw (1337, [some (.retAddr 0), some (.ref 0), some (.ref 100), some (.int (nI i))], [], (SS b c), I, J, 143, 112353)) : Rj γ (mL_law nm) 24 143 112353 PLaw (888, [some (.retAddr 0), some (.ref 0), some (.ref 100), some (.int (nI i))], [], (SS b c), I, J, 143, 112353) := by
  obtain ⟨v, Mid, h1, h2⟩ := s_fault γ (c := c) hV (g_xs γ ((nI i) + 1).toNatClampNeg)
  refine r_run (okL_law nm) 6 (cs := [vp_in ((nI i) + 1) (g_xn γ)]) (σ' := (894, [some (.retAddr 0), some (.ref 0), some (.ref 100), some (.int (nI i))], [.int (g_xs γ ((nI i) + 1).toNatClampNeg), .ref 0], (SS b c), I, J, 143, 112353)) rfl ⟨(vx (k := 1) hin hxn (by decide)), trivial⟩ ?_
  refine r_callV (okL_law nm) okX11_fault [.int (g_xs γ ((nI i) + 1).toNatClampNeg)] [] 0 rfl rfl rfl kkX11_fault rfl rfl (by decide) rfl rfl rfl (by decide) ⟨by decide, by decide⟩ (Nat.le_of_ble_eq_true rfl) h1 (fun v1 S1 I1 J1 hp => ?_)
  obtain ⟨rfl, b1, c1, rfl, hm⟩ := hp
  obtain ⟨Ix, eIx⟩ : ∃ z, z = I1 := ⟨_, rfl⟩
  subst eIx
  obtain ⟨Jx, eJx⟩ : ∃ z, z = J1 := ⟨_, rfl⟩
  subst eJx
  show Rj _ _ _ _ _ _ (897, [some (.retAddr 0), some (.ref 0), some (.ref 100), some (.int (nI i))], [.int v], (SS b1 c1), Ix, Jx, 143, 112353)
  refine r_run (okL_law nm) 6 (cs := [vp_in ((nI i) + 1) (g_xn γ)]) (σ' := (903, [some (.retAddr 0), some (.ref 0), some (.ref 100), some (.int (nI i))], [.int (g_xs γ ((nI i) + 1).toNatClampNeg), .ref 100, .int v], (SS b1 c1), Ix, Jx, 143, 112353)) rfl ⟨(vx (k := 1) hin hxn (by decide)), trivial⟩ ?_
  refine r_callV (okL_law nm) okX12_fault [.int (g_xs γ ((nI i) + 1).toNatClampNeg)] [.int v] 100 rfl rfl rfl kkX12_fault rfl rfl (by decide) rfl rfl rfl (by decide) ⟨by decide, by decide⟩ (Nat.le_of_ble_eq_true rfl) (h2 b1 c1 Ix Jx hm) (fun v1 S1 I1 J1 hp => ?_)
  obtain ⟨rfl, b2, c2, rfl, ls2, hV2⟩ := hp
  obtain ⟨Iy, eIy⟩ : ∃ z, z = I1 := ⟨_, rfl⟩
  subst eIy
  obtain ⟨Jy, eJy⟩ : ∃ z, z = J1 := ⟨_, rfl⟩
  subst eJy
  show Rj _ _ _ _ _ _ (906, [some (.retAddr 0), some (.ref 0), some (.ref 100), some (.int (nI i))], [.int v, .int v], (SS b2 c2), Iy, Jy, 143, 112353)
  refine r_icmp (okL_law nm) rfl (fun (h906 : v = v) => ?_) (fun (h906 : ¬ v = v) => ?_)
  · exact K b2 c2 Iy Jy ls2 hV2
  · exact absurd rfl h906
theorem lc_on (γ : GE) (nm : String) {b c : Bool} {I : AI} {J : AJ} {ls : List Ln} {i : Nat} (hV : Inv I J b ls) (hin : i + 6 ≤ g_xn γ) (hxn : g_xn γ ≤ 3072) (K : ∀ (b c : Bool) (I : AI) (J : AJ) (ls : List Ln), Inv I J b ls → Rj γ (mL_law nm) 24 143 112353 PLaw (1337, [some (.retAddr 0), some (.ref 0), some (.ref 100), some (.int (nI i))], [], (SS b c), I, J, 143, 112353)) : Rj γ (mL_law nm) 24 143 112353 PLaw (911, [some (.retAddr 0), some (.ref 0), some (.ref 100), some (.int (nI i))], [], (SS b c), I, J, 143, 112353) := by
  refine r_run (okL_law nm) 6 (cs := [vp_in ((nI i) + 1) (g_xn γ)]) (σ' := (917, [some (.retAddr 0), some (.ref 0), some (.ref 100), some (.int (nI i))], [.int (g_xs γ ((nI i) + 1).toNatClampNeg), .ref 0], (SS b c), I, J, 143, 112353)) rfl ⟨(vx (k := 1) hin hxn (by decide)), trivial⟩ ?_
  refine r_ifc (okL_law nm) rfl (fun (h917 : (g_xs γ ((nI i) + 1).toNatClampNeg) = (0 : Int32)) => ?_) (fun (h917 : ¬ (g_xs γ ((nI i) + 1).toNatClampNeg) = (0 : Int32)) => ?_)
  · obtain ⟨Mid, h1, h2⟩ := s_on γ (c := c) hV false
    refine r_run (okL_law nm) 1 (cs := []) (σ' := (925, [some (.retAddr 0), some (.ref 0), some (.ref 100), some (.int (nI i))], [.int 0, .ref 0], (SS b c), I, J, 143, 112353)) rfl trivial ?_
    refine r_callV (okL_law nm) okX11_on [.int 0] [] 0 rfl rfl rfl kkX11_on rfl rfl (by decide) rfl rfl rfl (by decide) ⟨by decide, by decide⟩ (Nat.le_of_ble_eq_true rfl) h1 (fun v1 S1 I1 J1 hp => ?_)
    obtain ⟨rfl, b1, c1, rfl, hm⟩ := hp
    obtain ⟨Ix, eIx⟩ : ∃ z, z = I1 := ⟨_, rfl⟩
    subst eIx
    obtain ⟨Jx, eJx⟩ : ∃ z, z = J1 := ⟨_, rfl⟩
    subst eJx
    show Rj _ _ _ _ _ _ (928, [some (.retAddr 0), some (.ref 0), some (.ref 100), some (.int (nI i))], [], (SS b1 c1), Ix, Jx, 143, 112353)
    refine r_run (okL_law nm) 6 (cs := [vp_in ((nI i) + 1) (g_xn γ)]) (σ' := (934, [some (.retAddr 0), some (.ref 0), some (.ref 100), some (.int (nI i))], [.int (g_xs γ ((nI i) + 1).toNatClampNeg), .ref 100], (SS b1 c1), Ix, Jx, 143, 112353)) rfl ⟨(vx (k := 1) hin hxn (by decide)), trivial⟩ ?_
    refine r_ifc (okL_law nm) rfl (fun (h934 : (g_xs γ ((nI i) + 1).toNatClampNeg) = (0 : Int32)) => ?_) (fun (h934 : ¬ (g_xs γ ((nI i) + 1).toNatClampNeg) = (0 : Int32)) => ?_)
    · refine r_run (okL_law nm) 1 (cs := []) (σ' := (942, [some (.retAddr 0), some (.ref 0), some (.ref 100), some (.int (nI i))], [.int 0, .ref 100], (SS b1 c1), Ix, Jx, 143, 112353)) rfl trivial ?_
      refine r_callV (okL_law nm) okX12_on [.int 0] [] 100 rfl rfl rfl kkX12_on rfl rfl (by decide) rfl rfl rfl (by decide) ⟨by decide, by decide⟩ (Nat.le_of_ble_eq_true rfl) (h2 b1 c1 Ix Jx hm) (fun v1 S1 I1 J1 hp => ?_)
      obtain ⟨rfl, b2, c2, rfl, ls2, hV2⟩ := hp
      obtain ⟨Iy, eIy⟩ : ∃ z, z = I1 := ⟨_, rfl⟩
      subst eIy
      obtain ⟨Jy, eJy⟩ : ∃ z, z = J1 := ⟨_, rfl⟩
      subst eJy
      show Rj _ _ _ _ _ _ (945, [some (.retAddr 0), some (.ref 0), some (.ref 100), some (.int (nI i))], [], (SS b2 c2), Iy, Jy, 143, 112353)
      refine r_run (okL_law nm) 1 (cs := []) (σ' := (1337, [some (.retAddr 0), some (.ref 0), some (.ref 100), some (.int (nI i))], [], (SS b2 c2), Iy, Jy, 143, 112353)) rfl trivial ?_
      exact K b2 c2 Iy Jy ls2 hV2
    · exact absurd h917 h934
  · obtain ⟨Mid, h1, h2⟩ := s_on γ (c := c) hV true
    refine r_run (okL_law nm) 2 (cs := []) (σ' := (925, [some (.retAddr 0), some (.ref 0), some (.ref 100), some (.int (nI i))], [.int 1, .ref 0], (SS b c), I, J, 143, 112353)) rfl trivial ?_
    refine r_callV (okL_law nm) okX11_on [.int 1] [] 0 rfl rfl rfl kkX11_on rfl rfl (by decide) rfl rfl rfl (by decide) ⟨by decide, by decide⟩ (Nat.le_of_ble_eq_true rfl) h1 (fun v1 S1 I1 J1 hp => ?_)
    obtain ⟨rfl, b1, c1, rfl, hm⟩ := hp
    obtain ⟨Ix, eIx⟩ : ∃ z, z = I1 := ⟨_, rfl⟩
    subst eIx
    obtain ⟨Jx, eJx⟩ : ∃ z, z = J1 := ⟨_, rfl⟩
    subst eJx
    show Rj _ _ _ _ _ _ (928, [some (.retAddr 0), some (.ref 0), some (.ref 100), some (.int (nI i))], [], (SS b1 c1), Ix, Jx, 143, 112353)
    refine r_run (okL_law nm) 6 (cs := [vp_in ((nI i) + 1) (g_xn γ)]) (σ' := (934, [some (.retAddr 0), some (.ref 0), some (.ref 100), some (.int (nI i))], [.int (g_xs γ ((nI i) + 1).toNatClampNeg), .ref 100], (SS b1 c1), Ix, Jx, 143, 112353)) rfl ⟨(vx (k := 1) hin hxn (by decide)), trivial⟩ ?_
    refine r_ifc (okL_law nm) rfl (fun (h934_1 : (g_xs γ ((nI i) + 1).toNatClampNeg) = (0 : Int32)) => ?_) (fun (h934_1 : ¬ (g_xs γ ((nI i) + 1).toNatClampNeg) = (0 : Int32)) => ?_)
    · exact absurd h934_1 h917
    · refine r_run (okL_law nm) 2 (cs := []) (σ' := (942, [some (.retAddr 0), some (.ref 0), some (.ref 100), some (.int (nI i))], [.int 1, .ref 100], (SS b1 c1), Ix, Jx, 143, 112353)) rfl trivial ?_
      refine r_callV (okL_law nm) okX12_on [.int 1] [] 100 rfl rfl rfl kkX12_on rfl rfl (by decide) rfl rfl rfl (by decide) ⟨by decide, by decide⟩ (Nat.le_of_ble_eq_true rfl) (h2 b1 c1 Ix Jx hm) (fun v1 S1 I1 J1 hp => ?_)
      obtain ⟨rfl, b2, c2, rfl, ls2, hV2⟩ := hp
      obtain ⟨Iy, eIy⟩ : ∃ z, z = I1 := ⟨_, rfl⟩
      subst eIy
      obtain ⟨Jy, eJy⟩ : ∃ z, z = J1 := ⟨_, rfl⟩
      subst eJy
      show Rj _ _ _ _ _ _ (945, [some (.retAddr 0), some (.ref 0), some (.ref 100), some (.int (nI i))], [], (SS b2 c2), Iy, Jy, 143, 112353)
      refine r_run (okL_law nm) 1 (cs := []) (σ' := (1337, [some (.retAddr 0), some (.ref 0), some (.ref 100), some (.int (nI i))], [], (SS b2 c2), Iy, Jy, 143, 112353)) rfl trivial ?_
      exact K b2 c2 Iy Jy ls2 hV2
theorem lc_asks (γ : GE) (nm : String) {b c : Bool} {I : AI} {J : AJ} {ls : List Ln} {i : Nat} (hV : Inv I J b ls) (hin : i + 6 ≤ g_xn γ) (hxn : g_xn γ ≤ 3072) (K : ∀ (b c : Bool) (I : AI) (J : AJ) (ls : List Ln), Inv I J b ls → Rj γ (mL_law nm) 24 143 112353 PLaw (1337, [some (.retAddr 0), some (.ref 0), some (.ref 100), some (.int (nI i))], [], (SS b c), I, J, 143, 112353)) : Rj γ (mL_law nm) 24 143 112353 PLaw (948, [some (.retAddr 0), some (.ref 0), some (.ref 100), some (.int (nI i))], [], (SS b c), I, J, 143, 112353) := by
  obtain ⟨v, Mid, h1, h2⟩ := s_asks γ (c := c) hV (g_xs γ ((nI i) + 1).toNatClampNeg) (g_xs γ ((nI i) + 2).toNatClampNeg)
  refine r_run (okL_law nm) 11 (cs := [vp_in ((nI i) + 1) (g_xn γ), vp_in ((nI i) + 2) (g_xn γ)]) (σ' := (959, [some (.retAddr 0), some (.ref 0), some (.ref 100), some (.int (nI i))], [.int (g_xs γ ((nI i) + 2).toNatClampNeg), .int (g_xs γ ((nI i) + 1).toNatClampNeg), .ref 0], (SS b c), I, J, 143, 112353)) rfl ⟨(vx (k := 1) hin hxn (by decide)), (vx (k := 2) hin hxn (by decide)), trivial⟩ ?_
  refine r_callV (okL_law nm) okX11_asks [.int (g_xs γ ((nI i) + 1).toNatClampNeg), .int (g_xs γ ((nI i) + 2).toNatClampNeg)] [] 0 rfl rfl rfl kkX11_asks rfl rfl (by decide) rfl rfl rfl (by decide) ⟨by decide, by decide⟩ (Nat.le_of_ble_eq_true rfl) h1 (fun v1 S1 I1 J1 hp => ?_)
  obtain ⟨rfl, b1, c1, rfl, hm⟩ := hp
  obtain ⟨Ix, eIx⟩ : ∃ z, z = I1 := ⟨_, rfl⟩
  subst eIx
  obtain ⟨Jx, eJx⟩ : ∃ z, z = J1 := ⟨_, rfl⟩
  subst eJx
  show Rj _ _ _ _ _ _ (962, [some (.retAddr 0), some (.ref 0), some (.ref 100), some (.int (nI i))], [.int v], (SS b1 c1), Ix, Jx, 143, 112353)
  refine r_run (okL_law nm) 11 (cs := [vp_in ((nI i) + 1) (g_xn γ), vp_in ((nI i) + 2) (g_xn γ)]) (σ' := (973, [some (.retAddr 0), some (.ref 0), some (.ref 100), some (.int (nI i))], [.int (g_xs γ ((nI i) + 2).toNatClampNeg), .int (g_xs γ ((nI i) + 1).toNatClampNeg), .ref 100, .int v], (SS b1 c1), Ix, Jx, 143, 112353)) rfl ⟨(vx (k := 1) hin hxn (by decide)), (vx (k := 2) hin hxn (by decide)), trivial⟩ ?_
  refine r_callV (okL_law nm) okX12_asks [.int (g_xs γ ((nI i) + 1).toNatClampNeg), .int (g_xs γ ((nI i) + 2).toNatClampNeg)] [.int v] 100 rfl rfl rfl kkX12_asks rfl rfl (by decide) rfl rfl rfl (by decide) ⟨by decide, by decide⟩ (Nat.le_of_ble_eq_true rfl) (h2 b1 c1 Ix Jx hm) (fun v1 S1 I1 J1 hp => ?_)
  obtain ⟨rfl, b2, c2, rfl, ls2, hV2⟩ := hp
  obtain ⟨Iy, eIy⟩ : ∃ z, z = I1 := ⟨_, rfl⟩
  subst eIy
  obtain ⟨Jy, eJy⟩ : ∃ z, z = J1 := ⟨_, rfl⟩
  subst eJy
  show Rj _ _ _ _ _ _ (976, [some (.retAddr 0), some (.ref 0), some (.ref 100), some (.int (nI i))], [.int v, .int v], (SS b2 c2), Iy, Jy, 143, 112353)
  refine r_icmp (okL_law nm) rfl (fun (h976 : v = v) => ?_) (fun (h976 : ¬ v = v) => ?_)
  · exact K b2 c2 Iy Jy ls2 hV2
  · exact absurd rfl h976
theorem lc_minutes (γ : GE) (nm : String) {b c : Bool} {I : AI} {J : AJ} {ls : List Ln} {i : Nat} (hV : Inv I J b ls) (hin : i + 6 ≤ g_xn γ) (hxn : g_xn γ ≤ 3072) (K : ∀ (b c : Bool) (I : AI) (J : AJ) (ls : List Ln), Inv I J b ls → Rj γ (mL_law nm) 24 143 112353 PLaw (1337, [some (.retAddr 0), some (.ref 0), some (.ref 100), some (.int (nI i))], [], (SS b c), I, J, 143, 112353)) : Rj γ (mL_law nm) 24 143 112353 PLaw (981, [some (.retAddr 0), some (.ref 0), some (.ref 100), some (.int (nI i))], [], (SS b c), I, J, 143, 112353) := by
  obtain ⟨v, Mid, h1, h2⟩ := s_minutes γ (c := c) hV (g_xs γ ((nI i) + 1).toNatClampNeg)
  refine r_run (okL_law nm) 6 (cs := [vp_in ((nI i) + 1) (g_xn γ)]) (σ' := (987, [some (.retAddr 0), some (.ref 0), some (.ref 100), some (.int (nI i))], [.int (g_xs γ ((nI i) + 1).toNatClampNeg), .ref 0], (SS b c), I, J, 143, 112353)) rfl ⟨(vx (k := 1) hin hxn (by decide)), trivial⟩ ?_
  refine r_callV (okL_law nm) okX11_minutes [.int (g_xs γ ((nI i) + 1).toNatClampNeg)] [] 0 rfl rfl rfl kkX11_minutes rfl rfl (by decide) rfl rfl rfl (by decide) ⟨by decide, by decide⟩ (Nat.le_of_ble_eq_true rfl) h1 (fun v1 S1 I1 J1 hp => ?_)
  obtain ⟨rfl, b1, c1, rfl, hm⟩ := hp
  obtain ⟨Ix, eIx⟩ : ∃ z, z = I1 := ⟨_, rfl⟩
  subst eIx
  obtain ⟨Jx, eJx⟩ : ∃ z, z = J1 := ⟨_, rfl⟩
  subst eJx
  show Rj _ _ _ _ _ _ (990, [some (.retAddr 0), some (.ref 0), some (.ref 100), some (.int (nI i))], [.int v], (SS b1 c1), Ix, Jx, 143, 112353)
  refine r_run (okL_law nm) 6 (cs := [vp_in ((nI i) + 1) (g_xn γ)]) (σ' := (996, [some (.retAddr 0), some (.ref 0), some (.ref 100), some (.int (nI i))], [.int (g_xs γ ((nI i) + 1).toNatClampNeg), .ref 100, .int v], (SS b1 c1), Ix, Jx, 143, 112353)) rfl ⟨(vx (k := 1) hin hxn (by decide)), trivial⟩ ?_
  refine r_callV (okL_law nm) okX12_minutes [.int (g_xs γ ((nI i) + 1).toNatClampNeg)] [.int v] 100 rfl rfl rfl kkX12_minutes rfl rfl (by decide) rfl rfl rfl (by decide) ⟨by decide, by decide⟩ (Nat.le_of_ble_eq_true rfl) (h2 b1 c1 Ix Jx hm) (fun v1 S1 I1 J1 hp => ?_)
  obtain ⟨rfl, b2, c2, rfl, ls2, hV2⟩ := hp
  obtain ⟨Iy, eIy⟩ : ∃ z, z = I1 := ⟨_, rfl⟩
  subst eIy
  obtain ⟨Jy, eJy⟩ : ∃ z, z = J1 := ⟨_, rfl⟩
  subst eJy
  show Rj _ _ _ _ _ _ (999, [some (.retAddr 0), some (.ref 0), some (.ref 100), some (.int (nI i))], [.int v, .int v], (SS b2 c2), Iy, Jy, 143, 112353)
  refine r_icmp (okL_law nm) rfl (fun (h999 : v = v) => ?_) (fun (h999 : ¬ v = v) => ?_)
  · exact K b2 c2 Iy Jy ls2 hV2
  · exact absurd rfl h999
theorem lc_warn (γ : GE) (nm : String) {b c : Bool} {I : AI} {J : AJ} {ls : List Ln} {i : Nat} (hV : Inv I J b ls) (hin : i + 6 ≤ g_xn γ) (hxn : g_xn γ ≤ 3072) (K : ∀ (b c : Bool) (I : AI) (J : AJ) (ls : List Ln), Inv I J b ls → Rj γ (mL_law nm) 24 143 112353 PLaw (1337, [some (.retAddr 0), some (.ref 0), some (.ref 100), some (.int (nI i))], [], (SS b c), I, J, 143, 112353)) : Rj γ (mL_law nm) 24 143 112353 PLaw (1004, [some (.retAddr 0), some (.ref 0), some (.ref 100), some (.int (nI i))], [], (SS b c), I, J, 143, 112353) := by
  obtain ⟨v, Mid, h1, h2⟩ := s_warn γ (c := c) hV (g_xs γ ((nI i) + 1).toNatClampNeg) (g_xs γ ((nI i) + 2).toNatClampNeg)
  refine r_run (okL_law nm) 11 (cs := [vp_in ((nI i) + 1) (g_xn γ), vp_in ((nI i) + 2) (g_xn γ)]) (σ' := (1015, [some (.retAddr 0), some (.ref 0), some (.ref 100), some (.int (nI i))], [.int (g_xs γ ((nI i) + 2).toNatClampNeg), .int (g_xs γ ((nI i) + 1).toNatClampNeg), .ref 0], (SS b c), I, J, 143, 112353)) rfl ⟨(vx (k := 1) hin hxn (by decide)), (vx (k := 2) hin hxn (by decide)), trivial⟩ ?_
  refine r_callV (okL_law nm) okX11_warn [.int (g_xs γ ((nI i) + 1).toNatClampNeg), .int (g_xs γ ((nI i) + 2).toNatClampNeg)] [] 0 rfl rfl rfl kkX11_warn rfl rfl (by decide) rfl rfl rfl (by decide) ⟨by decide, by decide⟩ (Nat.le_of_ble_eq_true rfl) h1 (fun v1 S1 I1 J1 hp => ?_)
  obtain ⟨rfl, b1, c1, rfl, hm⟩ := hp
  obtain ⟨Ix, eIx⟩ : ∃ z, z = I1 := ⟨_, rfl⟩
  subst eIx
  obtain ⟨Jx, eJx⟩ : ∃ z, z = J1 := ⟨_, rfl⟩
  subst eJx
  show Rj _ _ _ _ _ _ (1018, [some (.retAddr 0), some (.ref 0), some (.ref 100), some (.int (nI i))], [.int v], (SS b1 c1), Ix, Jx, 143, 112353)
  refine r_run (okL_law nm) 11 (cs := [vp_in ((nI i) + 1) (g_xn γ), vp_in ((nI i) + 2) (g_xn γ)]) (σ' := (1029, [some (.retAddr 0), some (.ref 0), some (.ref 100), some (.int (nI i))], [.int (g_xs γ ((nI i) + 2).toNatClampNeg), .int (g_xs γ ((nI i) + 1).toNatClampNeg), .ref 100, .int v], (SS b1 c1), Ix, Jx, 143, 112353)) rfl ⟨(vx (k := 1) hin hxn (by decide)), (vx (k := 2) hin hxn (by decide)), trivial⟩ ?_
  refine r_callV (okL_law nm) okX12_warn [.int (g_xs γ ((nI i) + 1).toNatClampNeg), .int (g_xs γ ((nI i) + 2).toNatClampNeg)] [.int v] 100 rfl rfl rfl kkX12_warn rfl rfl (by decide) rfl rfl rfl (by decide) ⟨by decide, by decide⟩ (Nat.le_of_ble_eq_true rfl) (h2 b1 c1 Ix Jx hm) (fun v1 S1 I1 J1 hp => ?_)
  obtain ⟨rfl, b2, c2, rfl, ls2, hV2⟩ := hp
  obtain ⟨Iy, eIy⟩ : ∃ z, z = I1 := ⟨_, rfl⟩
  subst eIy
  obtain ⟨Jy, eJy⟩ : ∃ z, z = J1 := ⟨_, rfl⟩
  subst eJy
  show Rj _ _ _ _ _ _ (1032, [some (.retAddr 0), some (.ref 0), some (.ref 100), some (.int (nI i))], [.int v, .int v], (SS b2 c2), Iy, Jy, 143, 112353)
  refine r_icmp (okL_law nm) rfl (fun (h1032 : v = v) => ?_) (fun (h1032 : ¬ v = v) => ?_)
  · exact K b2 c2 Iy Jy ls2 hV2
  · exact absurd rfl h1032
theorem lc_lift (γ : GE) (nm : String) {b c : Bool} {I : AI} {J : AJ} {ls : List Ln} {i : Nat} (hV : Inv I J b ls) (hin : i + 6 ≤ g_xn γ) (hxn : g_xn γ ≤ 3072) (K : ∀ (b c : Bool) (I : AI) (J : AJ) (ls : List Ln), Inv I J b ls → Rj γ (mL_law nm) 24 143 112353 PLaw (1337, [some (.retAddr 0), some (.ref 0), some (.ref 100), some (.int (nI i))], [], (SS b c), I, J, 143, 112353)) : Rj γ (mL_law nm) 24 143 112353 PLaw (1037, [some (.retAddr 0), some (.ref 0), some (.ref 100), some (.int (nI i))], [], (SS b c), I, J, 143, 112353) := by
  obtain ⟨v, Mid, h1, h2⟩ := s_lift γ (c := c) hV (g_xs γ ((nI i) + 1).toNatClampNeg)
  refine r_run (okL_law nm) 6 (cs := [vp_in ((nI i) + 1) (g_xn γ)]) (σ' := (1043, [some (.retAddr 0), some (.ref 0), some (.ref 100), some (.int (nI i))], [.int (g_xs γ ((nI i) + 1).toNatClampNeg), .ref 0], (SS b c), I, J, 143, 112353)) rfl ⟨(vx (k := 1) hin hxn (by decide)), trivial⟩ ?_
  refine r_callV (okL_law nm) okX11_lift [.int (g_xs γ ((nI i) + 1).toNatClampNeg)] [] 0 rfl rfl rfl kkX11_lift rfl rfl (by decide) rfl rfl rfl (by decide) ⟨by decide, by decide⟩ (Nat.le_of_ble_eq_true rfl) h1 (fun v1 S1 I1 J1 hp => ?_)
  obtain ⟨rfl, b1, c1, rfl, hm⟩ := hp
  obtain ⟨Ix, eIx⟩ : ∃ z, z = I1 := ⟨_, rfl⟩
  subst eIx
  obtain ⟨Jx, eJx⟩ : ∃ z, z = J1 := ⟨_, rfl⟩
  subst eJx
  show Rj _ _ _ _ _ _ (1046, [some (.retAddr 0), some (.ref 0), some (.ref 100), some (.int (nI i))], [.int v], (SS b1 c1), Ix, Jx, 143, 112353)
  refine r_run (okL_law nm) 6 (cs := [vp_in ((nI i) + 1) (g_xn γ)]) (σ' := (1052, [some (.retAddr 0), some (.ref 0), some (.ref 100), some (.int (nI i))], [.int (g_xs γ ((nI i) + 1).toNatClampNeg), .ref 100, .int v], (SS b1 c1), Ix, Jx, 143, 112353)) rfl ⟨(vx (k := 1) hin hxn (by decide)), trivial⟩ ?_
  refine r_callV (okL_law nm) okX12_lift [.int (g_xs γ ((nI i) + 1).toNatClampNeg)] [.int v] 100 rfl rfl rfl kkX12_lift rfl rfl (by decide) rfl rfl rfl (by decide) ⟨by decide, by decide⟩ (Nat.le_of_ble_eq_true rfl) (h2 b1 c1 Ix Jx hm) (fun v1 S1 I1 J1 hp => ?_)
  obtain ⟨rfl, b2, c2, rfl, ls2, hV2⟩ := hp
  obtain ⟨Iy, eIy⟩ : ∃ z, z = I1 := ⟨_, rfl⟩
  subst eIy
  obtain ⟨Jy, eJy⟩ : ∃ z, z = J1 := ⟨_, rfl⟩
  subst eJy
  show Rj _ _ _ _ _ _ (1055, [some (.retAddr 0), some (.ref 0), some (.ref 100), some (.int (nI i))], [.int v, .int v], (SS b2 c2), Iy, Jy, 143, 112353)
  refine r_icmp (okL_law nm) rfl (fun (h1055 : v = v) => ?_) (fun (h1055 : ¬ v = v) => ?_)
  · exact K b2 c2 Iy Jy ls2 hV2
  · exact absurd rfl h1055
theorem lc_warning (γ : GE) (nm : String) {b c : Bool} {I : AI} {J : AJ} {ls : List Ln} {i : Nat} (hV : Inv I J b ls) (hin : i + 6 ≤ g_xn γ) (hxn : g_xn γ ≤ 3072) (K : ∀ (b c : Bool) (I : AI) (J : AJ) (ls : List Ln), Inv I J b ls → Rj γ (mL_law nm) 24 143 112353 PLaw (1337, [some (.retAddr 0), some (.ref 0), some (.ref 100), some (.int (nI i))], [], (SS b c), I, J, 143, 112353)) : Rj γ (mL_law nm) 24 143 112353 PLaw (1060, [some (.retAddr 0), some (.ref 0), some (.ref 100), some (.int (nI i))], [], (SS b c), I, J, 143, 112353) := by
  obtain ⟨v, Mid, h1, h2⟩ := s_warning γ (c := c) hV (g_xs γ ((nI i) + 1).toNatClampNeg) (g_xs γ ((nI i) + 2).toNatClampNeg)
  refine r_run (okL_law nm) 11 (cs := [vp_in ((nI i) + 1) (g_xn γ), vp_in ((nI i) + 2) (g_xn γ)]) (σ' := (1071, [some (.retAddr 0), some (.ref 0), some (.ref 100), some (.int (nI i))], [.int (g_xs γ ((nI i) + 2).toNatClampNeg), .int (g_xs γ ((nI i) + 1).toNatClampNeg), .ref 0], (SS b c), I, J, 143, 112353)) rfl ⟨(vx (k := 1) hin hxn (by decide)), (vx (k := 2) hin hxn (by decide)), trivial⟩ ?_
  refine r_callV (okL_law nm) okX11_warning [.int (g_xs γ ((nI i) + 1).toNatClampNeg), .int (g_xs γ ((nI i) + 2).toNatClampNeg)] [] 0 rfl rfl rfl kkX11_warning rfl rfl (by decide) rfl rfl rfl (by decide) ⟨by decide, by decide⟩ (Nat.le_of_ble_eq_true rfl) h1 (fun v1 S1 I1 J1 hp => ?_)
  obtain ⟨rfl, b1, c1, rfl, hm⟩ := hp
  obtain ⟨Ix, eIx⟩ : ∃ z, z = I1 := ⟨_, rfl⟩
  subst eIx
  obtain ⟨Jx, eJx⟩ : ∃ z, z = J1 := ⟨_, rfl⟩
  subst eJx
  show Rj _ _ _ _ _ _ (1074, [some (.retAddr 0), some (.ref 0), some (.ref 100), some (.int (nI i))], [.int v], (SS b1 c1), Ix, Jx, 143, 112353)
  refine r_run (okL_law nm) 11 (cs := [vp_in ((nI i) + 1) (g_xn γ), vp_in ((nI i) + 2) (g_xn γ)]) (σ' := (1085, [some (.retAddr 0), some (.ref 0), some (.ref 100), some (.int (nI i))], [.int (g_xs γ ((nI i) + 2).toNatClampNeg), .int (g_xs γ ((nI i) + 1).toNatClampNeg), .ref 100, .int v], (SS b1 c1), Ix, Jx, 143, 112353)) rfl ⟨(vx (k := 1) hin hxn (by decide)), (vx (k := 2) hin hxn (by decide)), trivial⟩ ?_
  refine r_callV (okL_law nm) okX12_warning [.int (g_xs γ ((nI i) + 1).toNatClampNeg), .int (g_xs γ ((nI i) + 2).toNatClampNeg)] [.int v] 100 rfl rfl rfl kkX12_warning rfl rfl (by decide) rfl rfl rfl (by decide) ⟨by decide, by decide⟩ (Nat.le_of_ble_eq_true rfl) (h2 b1 c1 Ix Jx hm) (fun v1 S1 I1 J1 hp => ?_)
  obtain ⟨rfl, b2, c2, rfl, ls2, hV2⟩ := hp
  obtain ⟨Iy, eIy⟩ : ∃ z, z = I1 := ⟨_, rfl⟩
  subst eIy
  obtain ⟨Jy, eJy⟩ : ∃ z, z = J1 := ⟨_, rfl⟩
  subst eJy
  show Rj _ _ _ _ _ _ (1088, [some (.retAddr 0), some (.ref 0), some (.ref 100), some (.int (nI i))], [.int v, .int v], (SS b2 c2), Iy, Jy, 143, 112353)
  refine r_icmp (okL_law nm) rfl (fun (h1088 : v = v) => ?_) (fun (h1088 : ¬ v = v) => ?_)
  · exact K b2 c2 Iy Jy ls2 hV2
  · exact absurd rfl h1088
theorem lc_look (γ : GE) (nm : String) {b c : Bool} {I : AI} {J : AJ} {ls : List Ln} {i : Nat} (hV : Inv I J b ls) (hin : i + 6 ≤ g_xn γ) (hxn : g_xn γ ≤ 3072) (K : ∀ (b c : Bool) (I : AI) (J : AJ) (ls : List Ln), Inv I J b ls → Rj γ (mL_law nm) 24 143 112353 PLaw (1337, [some (.retAddr 0), some (.ref 0), some (.ref 100), some (.int (nI i))], [], (SS b c), I, J, 143, 112353)) : Rj γ (mL_law nm) 24 143 112353 PLaw (1093, [some (.retAddr 0), some (.ref 0), some (.ref 100), some (.int (nI i))], [], (SS b c), I, J, 143, 112353) := by
  obtain ⟨v, Mid, h1, h2⟩ := s_look γ (c := c) hV (g_xs γ ((nI i) + 1).toNatClampNeg)
  refine r_run (okL_law nm) 6 (cs := [vp_in ((nI i) + 1) (g_xn γ)]) (σ' := (1099, [some (.retAddr 0), some (.ref 0), some (.ref 100), some (.int (nI i))], [.int (g_xs γ ((nI i) + 1).toNatClampNeg), .ref 0], (SS b c), I, J, 143, 112353)) rfl ⟨(vx (k := 1) hin hxn (by decide)), trivial⟩ ?_
  refine r_callV (okL_law nm) okX11_look [.int (g_xs γ ((nI i) + 1).toNatClampNeg)] [] 0 rfl rfl rfl kkX11_look rfl rfl (by decide) rfl rfl rfl (by decide) ⟨by decide, by decide⟩ (Nat.le_of_ble_eq_true rfl) h1 (fun v1 S1 I1 J1 hp => ?_)
  obtain ⟨rfl, b1, c1, rfl, hm⟩ := hp
  obtain ⟨Ix, eIx⟩ : ∃ z, z = I1 := ⟨_, rfl⟩
  subst eIx
  obtain ⟨Jx, eJx⟩ : ∃ z, z = J1 := ⟨_, rfl⟩
  subst eJx
  show Rj _ _ _ _ _ _ (1102, [some (.retAddr 0), some (.ref 0), some (.ref 100), some (.int (nI i))], [.int v], (SS b1 c1), Ix, Jx, 143, 112353)
  refine r_run (okL_law nm) 6 (cs := [vp_in ((nI i) + 1) (g_xn γ)]) (σ' := (1108, [some (.retAddr 0), some (.ref 0), some (.ref 100), some (.int (nI i))], [.int (g_xs γ ((nI i) + 1).toNatClampNeg), .ref 100, .int v], (SS b1 c1), Ix, Jx, 143, 112353)) rfl ⟨(vx (k := 1) hin hxn (by decide)), trivial⟩ ?_
  refine r_callV (okL_law nm) okX12_look [.int (g_xs γ ((nI i) + 1).toNatClampNeg)] [.int v] 100 rfl rfl rfl kkX12_look rfl rfl (by decide) rfl rfl rfl (by decide) ⟨by decide, by decide⟩ (Nat.le_of_ble_eq_true rfl) (h2 b1 c1 Ix Jx hm) (fun v1 S1 I1 J1 hp => ?_)
  obtain ⟨rfl, b2, c2, rfl, ls2, hV2⟩ := hp
  obtain ⟨Iy, eIy⟩ : ∃ z, z = I1 := ⟨_, rfl⟩
  subst eIy
  obtain ⟨Jy, eJy⟩ : ∃ z, z = J1 := ⟨_, rfl⟩
  subst eJy
  show Rj _ _ _ _ _ _ (1111, [some (.retAddr 0), some (.ref 0), some (.ref 100), some (.int (nI i))], [.int v, .int v], (SS b2 c2), Iy, Jy, 143, 112353)
  refine r_icmp (okL_law nm) rfl (fun (h1111 : v = v) => ?_) (fun (h1111 : ¬ v = v) => ?_)
  · exact K b2 c2 Iy Jy ls2 hV2
  · exact absurd rfl h1111
theorem lc_truth (γ : GE) (nm : String) {b c : Bool} {I : AI} {J : AJ} {ls : List Ln} {i : Nat} (hV : Inv I J b ls) (hin : i + 6 ≤ g_xn γ) (hxn : g_xn γ ≤ 3072) (K : ∀ (b c : Bool) (I : AI) (J : AJ) (ls : List Ln), Inv I J b ls → Rj γ (mL_law nm) 24 143 112353 PLaw (1337, [some (.retAddr 0), some (.ref 0), some (.ref 100), some (.int (nI i))], [], (SS b c), I, J, 143, 112353)) : Rj γ (mL_law nm) 24 143 112353 PLaw (1116, [some (.retAddr 0), some (.ref 0), some (.ref 100), some (.int (nI i))], [], (SS b c), I, J, 143, 112353) := by
  obtain ⟨v, Mid, h1, h2⟩ := s_truth γ (c := c) hV (g_xs γ ((nI i) + 1).toNatClampNeg) (g_xs γ ((nI i) + 2).toNatClampNeg)
  refine r_run (okL_law nm) 11 (cs := [vp_in ((nI i) + 1) (g_xn γ), vp_in ((nI i) + 2) (g_xn γ)]) (σ' := (1127, [some (.retAddr 0), some (.ref 0), some (.ref 100), some (.int (nI i))], [.int (g_xs γ ((nI i) + 2).toNatClampNeg), .int (g_xs γ ((nI i) + 1).toNatClampNeg), .ref 0], (SS b c), I, J, 143, 112353)) rfl ⟨(vx (k := 1) hin hxn (by decide)), (vx (k := 2) hin hxn (by decide)), trivial⟩ ?_
  refine r_callV (okL_law nm) okX11_truth [.int (g_xs γ ((nI i) + 1).toNatClampNeg), .int (g_xs γ ((nI i) + 2).toNatClampNeg)] [] 0 rfl rfl rfl kkX11_truth rfl rfl (by decide) rfl rfl rfl (by decide) ⟨by decide, by decide⟩ (Nat.le_of_ble_eq_true rfl) h1 (fun v1 S1 I1 J1 hp => ?_)
  obtain ⟨rfl, b1, c1, rfl, hm⟩ := hp
  obtain ⟨Ix, eIx⟩ : ∃ z, z = I1 := ⟨_, rfl⟩
  subst eIx
  obtain ⟨Jx, eJx⟩ : ∃ z, z = J1 := ⟨_, rfl⟩
  subst eJx
  show Rj _ _ _ _ _ _ (1130, [some (.retAddr 0), some (.ref 0), some (.ref 100), some (.int (nI i))], [.int v], (SS b1 c1), Ix, Jx, 143, 112353)
  refine r_run (okL_law nm) 11 (cs := [vp_in ((nI i) + 1) (g_xn γ), vp_in ((nI i) + 2) (g_xn γ)]) (σ' := (1141, [some (.retAddr 0), some (.ref 0), some (.ref 100), some (.int (nI i))], [.int (g_xs γ ((nI i) + 2).toNatClampNeg), .int (g_xs γ ((nI i) + 1).toNatClampNeg), .ref 100, .int v], (SS b1 c1), Ix, Jx, 143, 112353)) rfl ⟨(vx (k := 1) hin hxn (by decide)), (vx (k := 2) hin hxn (by decide)), trivial⟩ ?_
  refine r_callV (okL_law nm) okX12_truth [.int (g_xs γ ((nI i) + 1).toNatClampNeg), .int (g_xs γ ((nI i) + 2).toNatClampNeg)] [.int v] 100 rfl rfl rfl kkX12_truth rfl rfl (by decide) rfl rfl rfl (by decide) ⟨by decide, by decide⟩ (Nat.le_of_ble_eq_true rfl) (h2 b1 c1 Ix Jx hm) (fun v1 S1 I1 J1 hp => ?_)
  obtain ⟨rfl, b2, c2, rfl, ls2, hV2⟩ := hp
  obtain ⟨Iy, eIy⟩ : ∃ z, z = I1 := ⟨_, rfl⟩
  subst eIy
  obtain ⟨Jy, eJy⟩ : ∃ z, z = J1 := ⟨_, rfl⟩
  subst eJy
  show Rj _ _ _ _ _ _ (1144, [some (.retAddr 0), some (.ref 0), some (.ref 100), some (.int (nI i))], [.int v, .int v], (SS b2 c2), Iy, Jy, 143, 112353)
  refine r_icmp (okL_law nm) rfl (fun (h1144 : v = v) => ?_) (fun (h1144 : ¬ v = v) => ?_)
  · exact K b2 c2 Iy Jy ls2 hV2
  · exact absurd rfl h1144
theorem lc_safe (γ : GE) (nm : String) {b c : Bool} {I : AI} {J : AJ} {ls : List Ln} {i : Nat} (hV : Inv I J b ls) (hin : i + 6 ≤ g_xn γ) (hxn : g_xn γ ≤ 3072) (K : ∀ (b c : Bool) (I : AI) (J : AJ) (ls : List Ln), Inv I J b ls → Rj γ (mL_law nm) 24 143 112353 PLaw (1337, [some (.retAddr 0), some (.ref 0), some (.ref 100), some (.int (nI i))], [], (SS b c), I, J, 143, 112353)) : Rj γ (mL_law nm) 24 143 112353 PLaw (1149, [some (.retAddr 0), some (.ref 0), some (.ref 100), some (.int (nI i))], [], (SS b c), I, J, 143, 112353) := by
  obtain ⟨v, Mid, h1, h2⟩ := s_safe γ (c := c) hV (g_xs γ ((nI i) + 1).toNatClampNeg) (g_xs γ ((nI i) + 2).toNatClampNeg)
  refine r_run (okL_law nm) 11 (cs := [vp_in ((nI i) + 1) (g_xn γ), vp_in ((nI i) + 2) (g_xn γ)]) (σ' := (1160, [some (.retAddr 0), some (.ref 0), some (.ref 100), some (.int (nI i))], [.int (g_xs γ ((nI i) + 2).toNatClampNeg), .int (g_xs γ ((nI i) + 1).toNatClampNeg), .ref 0], (SS b c), I, J, 143, 112353)) rfl ⟨(vx (k := 1) hin hxn (by decide)), (vx (k := 2) hin hxn (by decide)), trivial⟩ ?_
  refine r_callV (okL_law nm) okX11_safe [.int (g_xs γ ((nI i) + 1).toNatClampNeg), .int (g_xs γ ((nI i) + 2).toNatClampNeg)] [] 0 rfl rfl rfl kkX11_safe rfl rfl (by decide) rfl rfl rfl (by decide) ⟨by decide, by decide⟩ (Nat.le_of_ble_eq_true rfl) h1 (fun v1 S1 I1 J1 hp => ?_)
  obtain ⟨rfl, b1, c1, rfl, hm⟩ := hp
  obtain ⟨Ix, eIx⟩ : ∃ z, z = I1 := ⟨_, rfl⟩
  subst eIx
  obtain ⟨Jx, eJx⟩ : ∃ z, z = J1 := ⟨_, rfl⟩
  subst eJx
  show Rj _ _ _ _ _ _ (1163, [some (.retAddr 0), some (.ref 0), some (.ref 100), some (.int (nI i))], [.int v], (SS b1 c1), Ix, Jx, 143, 112353)
  refine r_run (okL_law nm) 11 (cs := [vp_in ((nI i) + 1) (g_xn γ), vp_in ((nI i) + 2) (g_xn γ)]) (σ' := (1174, [some (.retAddr 0), some (.ref 0), some (.ref 100), some (.int (nI i))], [.int (g_xs γ ((nI i) + 2).toNatClampNeg), .int (g_xs γ ((nI i) + 1).toNatClampNeg), .ref 100, .int v], (SS b1 c1), Ix, Jx, 143, 112353)) rfl ⟨(vx (k := 1) hin hxn (by decide)), (vx (k := 2) hin hxn (by decide)), trivial⟩ ?_
  refine r_callV (okL_law nm) okX12_safe [.int (g_xs γ ((nI i) + 1).toNatClampNeg), .int (g_xs γ ((nI i) + 2).toNatClampNeg)] [.int v] 100 rfl rfl rfl kkX12_safe rfl rfl (by decide) rfl rfl rfl (by decide) ⟨by decide, by decide⟩ (Nat.le_of_ble_eq_true rfl) (h2 b1 c1 Ix Jx hm) (fun v1 S1 I1 J1 hp => ?_)
  obtain ⟨rfl, b2, c2, rfl, ls2, hV2⟩ := hp
  obtain ⟨Iy, eIy⟩ : ∃ z, z = I1 := ⟨_, rfl⟩
  subst eIy
  obtain ⟨Jy, eJy⟩ : ∃ z, z = J1 := ⟨_, rfl⟩
  subst eJy
  show Rj _ _ _ _ _ _ (1177, [some (.retAddr 0), some (.ref 0), some (.ref 100), some (.int (nI i))], [.int v, .int v], (SS b2 c2), Iy, Jy, 143, 112353)
  refine r_icmp (okL_law nm) rfl (fun (h1177 : v = v) => ?_) (fun (h1177 : ¬ v = v) => ?_)
  · exact K b2 c2 Iy Jy ls2 hV2
  · exact absurd rfl h1177
theorem lc_found (γ : GE) (nm : String) {b c : Bool} {I : AI} {J : AJ} {ls : List Ln} {i : Nat} (hV : Inv I J b ls) (hin : i + 6 ≤ g_xn γ) (hxn : g_xn γ ≤ 3072) (K : ∀ (b c : Bool) (I : AI) (J : AJ) (ls : List Ln), Inv I J b ls → Rj γ (mL_law nm) 24 143 112353 PLaw (1337, [some (.retAddr 0), some (.ref 0), some (.ref 100), some (.int (nI i))], [], (SS b c), I, J, 143, 112353)) : Rj γ (mL_law nm) 24 143 112353 PLaw (1182, [some (.retAddr 0), some (.ref 0), some (.ref 100), some (.int (nI i))], [], (SS b c), I, J, 143, 112353) := by
  obtain ⟨v, Mid, h1, h2⟩ := s_found γ (c := c) hV (g_xs γ ((nI i) + 1).toNatClampNeg) (g_xs γ ((nI i) + 2).toNatClampNeg)
  refine r_run (okL_law nm) 11 (cs := [vp_in ((nI i) + 1) (g_xn γ), vp_in ((nI i) + 2) (g_xn γ)]) (σ' := (1193, [some (.retAddr 0), some (.ref 0), some (.ref 100), some (.int (nI i))], [.int (g_xs γ ((nI i) + 2).toNatClampNeg), .int (g_xs γ ((nI i) + 1).toNatClampNeg), .ref 0], (SS b c), I, J, 143, 112353)) rfl ⟨(vx (k := 1) hin hxn (by decide)), (vx (k := 2) hin hxn (by decide)), trivial⟩ ?_
  refine r_callV (okL_law nm) okX11_found [.int (g_xs γ ((nI i) + 1).toNatClampNeg), .int (g_xs γ ((nI i) + 2).toNatClampNeg)] [] 0 rfl rfl rfl kkX11_found rfl rfl (by decide) rfl rfl rfl (by decide) ⟨by decide, by decide⟩ (Nat.le_of_ble_eq_true rfl) h1 (fun v1 S1 I1 J1 hp => ?_)
  obtain ⟨rfl, b1, c1, rfl, hm⟩ := hp
  obtain ⟨Ix, eIx⟩ : ∃ z, z = I1 := ⟨_, rfl⟩
  subst eIx
  obtain ⟨Jx, eJx⟩ : ∃ z, z = J1 := ⟨_, rfl⟩
  subst eJx
  show Rj _ _ _ _ _ _ (1196, [some (.retAddr 0), some (.ref 0), some (.ref 100), some (.int (nI i))], [.int v], (SS b1 c1), Ix, Jx, 143, 112353)
  refine r_run (okL_law nm) 11 (cs := [vp_in ((nI i) + 1) (g_xn γ), vp_in ((nI i) + 2) (g_xn γ)]) (σ' := (1207, [some (.retAddr 0), some (.ref 0), some (.ref 100), some (.int (nI i))], [.int (g_xs γ ((nI i) + 2).toNatClampNeg), .int (g_xs γ ((nI i) + 1).toNatClampNeg), .ref 100, .int v], (SS b1 c1), Ix, Jx, 143, 112353)) rfl ⟨(vx (k := 1) hin hxn (by decide)), (vx (k := 2) hin hxn (by decide)), trivial⟩ ?_
  refine r_callV (okL_law nm) okX12_found [.int (g_xs γ ((nI i) + 1).toNatClampNeg), .int (g_xs γ ((nI i) + 2).toNatClampNeg)] [.int v] 100 rfl rfl rfl kkX12_found rfl rfl (by decide) rfl rfl rfl (by decide) ⟨by decide, by decide⟩ (Nat.le_of_ble_eq_true rfl) (h2 b1 c1 Ix Jx hm) (fun v1 S1 I1 J1 hp => ?_)
  obtain ⟨rfl, b2, c2, rfl, ls2, hV2⟩ := hp
  obtain ⟨Iy, eIy⟩ : ∃ z, z = I1 := ⟨_, rfl⟩
  subst eIy
  obtain ⟨Jy, eJy⟩ : ∃ z, z = J1 := ⟨_, rfl⟩
  subst eJy
  show Rj _ _ _ _ _ _ (1210, [some (.retAddr 0), some (.ref 0), some (.ref 100), some (.int (nI i))], [.int v, .int v], (SS b2 c2), Iy, Jy, 143, 112353)
  refine r_icmp (okL_law nm) rfl (fun (h1210 : v = v) => ?_) (fun (h1210 : ¬ v = v) => ?_)
  · exact K b2 c2 Iy Jy ls2 hV2
  · exact absurd rfl h1210
theorem lc_judge (γ : GE) (nm : String) {b c : Bool} {I : AI} {J : AJ} {ls : List Ln} {i : Nat} (hV : Inv I J b ls) (hin : i + 6 ≤ g_xn γ) (hxn : g_xn γ ≤ 3072) (K : ∀ (b c : Bool) (I : AI) (J : AJ) (ls : List Ln), Inv I J b ls → Rj γ (mL_law nm) 24 143 112353 PLaw (1337, [some (.retAddr 0), some (.ref 0), some (.ref 100), some (.int (nI i))], [], (SS b c), I, J, 143, 112353)) : Rj γ (mL_law nm) 24 143 112353 PLaw (1215, [some (.retAddr 0), some (.ref 0), some (.ref 100), some (.int (nI i))], [], (SS b c), I, J, 143, 112353) := by
  obtain ⟨v, Mid, h1, h2⟩ := s_judge γ (c := c) hV 
  refine r_run (okL_law nm) 1 (cs := []) (σ' := (1216, [some (.retAddr 0), some (.ref 0), some (.ref 100), some (.int (nI i))], [.ref 0], (SS b c), I, J, 143, 112353)) rfl trivial ?_
  refine r_callV (okL_law nm) okX11_judge [] [] 0 rfl rfl rfl kkX11_judge rfl rfl (by decide) rfl rfl rfl (by decide) ⟨by decide, by decide⟩ (Nat.le_of_ble_eq_true rfl) h1 (fun v1 S1 I1 J1 hp => ?_)
  obtain ⟨rfl, b1, c1, rfl, hm⟩ := hp
  obtain ⟨Ix, eIx⟩ : ∃ z, z = I1 := ⟨_, rfl⟩
  subst eIx
  obtain ⟨Jx, eJx⟩ : ∃ z, z = J1 := ⟨_, rfl⟩
  subst eJx
  show Rj _ _ _ _ _ _ (1219, [some (.retAddr 0), some (.ref 0), some (.ref 100), some (.int (nI i))], [.int v], (SS b1 c1), Ix, Jx, 143, 112353)
  refine r_run (okL_law nm) 1 (cs := []) (σ' := (1220, [some (.retAddr 0), some (.ref 0), some (.ref 100), some (.int (nI i))], [.ref 100, .int v], (SS b1 c1), Ix, Jx, 143, 112353)) rfl trivial ?_
  refine r_callV (okL_law nm) okX12_judge [] [.int v] 100 rfl rfl rfl kkX12_judge rfl rfl (by decide) rfl rfl rfl (by decide) ⟨by decide, by decide⟩ (Nat.le_of_ble_eq_true rfl) (h2 b1 c1 Ix Jx hm) (fun v1 S1 I1 J1 hp => ?_)
  obtain ⟨rfl, b2, c2, rfl, ls2, hV2⟩ := hp
  obtain ⟨Iy, eIy⟩ : ∃ z, z = I1 := ⟨_, rfl⟩
  subst eIy
  obtain ⟨Jy, eJy⟩ : ∃ z, z = J1 := ⟨_, rfl⟩
  subst eJy
  show Rj _ _ _ _ _ _ (1223, [some (.retAddr 0), some (.ref 0), some (.ref 100), some (.int (nI i))], [.int v, .int v], (SS b2 c2), Iy, Jy, 143, 112353)
  refine r_icmp (okL_law nm) rfl (fun (h1223 : v = v) => ?_) (fun (h1223 : ¬ v = v) => ?_)
  · exact K b2 c2 Iy Jy ls2 hV2
  · exact absurd rfl h1223
theorem lc_entries (γ : GE) (nm : String) {b c : Bool} {I : AI} {J : AJ} {ls : List Ln} {i : Nat} (hV : Inv I J b ls) (hin : i + 6 ≤ g_xn γ) (hxn : g_xn γ ≤ 3072) (K : ∀ (b c : Bool) (I : AI) (J : AJ) (ls : List Ln), Inv I J b ls → Rj γ (mL_law nm) 24 143 112353 PLaw (1337, [some (.retAddr 0), some (.ref 0), some (.ref 100), some (.int (nI i))], [], (SS b c), I, J, 143, 112353)) : Rj γ (mL_law nm) 24 143 112353 PLaw (1228, [some (.retAddr 0), some (.ref 0), some (.ref 100), some (.int (nI i))], [], (SS b c), I, J, 143, 112353) := by
  obtain ⟨v, Mid, h1, h2⟩ := s_entries γ (c := c) hV (g_xs γ ((nI i) + 1).toNatClampNeg) (g_xs γ ((nI i) + 2).toNatClampNeg)
  refine r_run (okL_law nm) 11 (cs := [vp_in ((nI i) + 1) (g_xn γ), vp_in ((nI i) + 2) (g_xn γ)]) (σ' := (1239, [some (.retAddr 0), some (.ref 0), some (.ref 100), some (.int (nI i))], [.int (g_xs γ ((nI i) + 2).toNatClampNeg), .int (g_xs γ ((nI i) + 1).toNatClampNeg), .ref 0], (SS b c), I, J, 143, 112353)) rfl ⟨(vx (k := 1) hin hxn (by decide)), (vx (k := 2) hin hxn (by decide)), trivial⟩ ?_
  refine r_callV (okL_law nm) okX11_entries [.int (g_xs γ ((nI i) + 1).toNatClampNeg), .int (g_xs γ ((nI i) + 2).toNatClampNeg)] [] 0 rfl rfl rfl kkX11_entries rfl rfl (by decide) rfl rfl rfl (by decide) ⟨by decide, by decide⟩ (Nat.le_of_ble_eq_true rfl) h1 (fun v1 S1 I1 J1 hp => ?_)
  obtain ⟨rfl, b1, c1, rfl, hm⟩ := hp
  obtain ⟨Ix, eIx⟩ : ∃ z, z = I1 := ⟨_, rfl⟩
  subst eIx
  obtain ⟨Jx, eJx⟩ : ∃ z, z = J1 := ⟨_, rfl⟩
  subst eJx
  show Rj _ _ _ _ _ _ (1242, [some (.retAddr 0), some (.ref 0), some (.ref 100), some (.int (nI i))], [.int v], (SS b1 c1), Ix, Jx, 143, 112353)
  refine r_run (okL_law nm) 11 (cs := [vp_in ((nI i) + 1) (g_xn γ), vp_in ((nI i) + 2) (g_xn γ)]) (σ' := (1253, [some (.retAddr 0), some (.ref 0), some (.ref 100), some (.int (nI i))], [.int (g_xs γ ((nI i) + 2).toNatClampNeg), .int (g_xs γ ((nI i) + 1).toNatClampNeg), .ref 100, .int v], (SS b1 c1), Ix, Jx, 143, 112353)) rfl ⟨(vx (k := 1) hin hxn (by decide)), (vx (k := 2) hin hxn (by decide)), trivial⟩ ?_
  refine r_callV (okL_law nm) okX12_entries [.int (g_xs γ ((nI i) + 1).toNatClampNeg), .int (g_xs γ ((nI i) + 2).toNatClampNeg)] [.int v] 100 rfl rfl rfl kkX12_entries rfl rfl (by decide) rfl rfl rfl (by decide) ⟨by decide, by decide⟩ (Nat.le_of_ble_eq_true rfl) (h2 b1 c1 Ix Jx hm) (fun v1 S1 I1 J1 hp => ?_)
  obtain ⟨rfl, b2, c2, rfl, ls2, hV2⟩ := hp
  obtain ⟨Iy, eIy⟩ : ∃ z, z = I1 := ⟨_, rfl⟩
  subst eIy
  obtain ⟨Jy, eJy⟩ : ∃ z, z = J1 := ⟨_, rfl⟩
  subst eJy
  show Rj _ _ _ _ _ _ (1256, [some (.retAddr 0), some (.ref 0), some (.ref 100), some (.int (nI i))], [.int v, .int v], (SS b2 c2), Iy, Jy, 143, 112353)
  refine r_icmp (okL_law nm) rfl (fun (h1256 : v = v) => ?_) (fun (h1256 : ¬ v = v) => ?_)
  · exact K b2 c2 Iy Jy ls2 hV2
  · exact absurd rfl h1256
theorem lc_post (γ : GE) (nm : String) {b c : Bool} {I : AI} {J : AJ} {ls : List Ln} {i : Nat} (hV : Inv I J b ls) (hin : i + 6 ≤ g_xn γ) (hxn : g_xn γ ≤ 3072) (K : ∀ (b c : Bool) (I : AI) (J : AJ) (ls : List Ln), Inv I J b ls → Rj γ (mL_law nm) 24 143 112353 PLaw (1337, [some (.retAddr 0), some (.ref 0), some (.ref 100), some (.int (nI i))], [], (SS b c), I, J, 143, 112353)) : Rj γ (mL_law nm) 24 143 112353 PLaw (1261, [some (.retAddr 0), some (.ref 0), some (.ref 100), some (.int (nI i))], [], (SS b c), I, J, 143, 112353) := by
  obtain ⟨v, Mid, h1, h2⟩ := s_post γ (c := c) hV (g_xs γ ((nI i) + 1).toNatClampNeg) (g_xs γ ((nI i) + 2).toNatClampNeg) (g_xs γ ((nI i) + 3).toNatClampNeg)
  refine r_run (okL_law nm) 16 (cs := [vp_in ((nI i) + 1) (g_xn γ), vp_in ((nI i) + 2) (g_xn γ), vp_in ((nI i) + 3) (g_xn γ)]) (σ' := (1277, [some (.retAddr 0), some (.ref 0), some (.ref 100), some (.int (nI i))], [.int (g_xs γ ((nI i) + 3).toNatClampNeg), .int (g_xs γ ((nI i) + 2).toNatClampNeg), .int (g_xs γ ((nI i) + 1).toNatClampNeg), .ref 0], (SS b c), I, J, 143, 112353)) rfl ⟨(vx (k := 1) hin hxn (by decide)), (vx (k := 2) hin hxn (by decide)), (vx (k := 3) hin hxn (by decide)), trivial⟩ ?_
  refine r_callV (okL_law nm) okX11_post [.int (g_xs γ ((nI i) + 1).toNatClampNeg), .int (g_xs γ ((nI i) + 2).toNatClampNeg), .int (g_xs γ ((nI i) + 3).toNatClampNeg)] [] 0 rfl rfl rfl kkX11_post rfl rfl (by decide) rfl rfl rfl (by decide) ⟨by decide, by decide⟩ (Nat.le_of_ble_eq_true rfl) h1 (fun v1 S1 I1 J1 hp => ?_)
  obtain ⟨rfl, b1, c1, rfl, hm⟩ := hp
  obtain ⟨Ix, eIx⟩ : ∃ z, z = I1 := ⟨_, rfl⟩
  subst eIx
  obtain ⟨Jx, eJx⟩ : ∃ z, z = J1 := ⟨_, rfl⟩
  subst eJx
  show Rj _ _ _ _ _ _ (1280, [some (.retAddr 0), some (.ref 0), some (.ref 100), some (.int (nI i))], [.int v], (SS b1 c1), Ix, Jx, 143, 112353)
  refine r_run (okL_law nm) 16 (cs := [vp_in ((nI i) + 1) (g_xn γ), vp_in ((nI i) + 2) (g_xn γ), vp_in ((nI i) + 3) (g_xn γ)]) (σ' := (1296, [some (.retAddr 0), some (.ref 0), some (.ref 100), some (.int (nI i))], [.int (g_xs γ ((nI i) + 3).toNatClampNeg), .int (g_xs γ ((nI i) + 2).toNatClampNeg), .int (g_xs γ ((nI i) + 1).toNatClampNeg), .ref 100, .int v], (SS b1 c1), Ix, Jx, 143, 112353)) rfl ⟨(vx (k := 1) hin hxn (by decide)), (vx (k := 2) hin hxn (by decide)), (vx (k := 3) hin hxn (by decide)), trivial⟩ ?_
  refine r_callV (okL_law nm) okX12_post [.int (g_xs γ ((nI i) + 1).toNatClampNeg), .int (g_xs γ ((nI i) + 2).toNatClampNeg), .int (g_xs γ ((nI i) + 3).toNatClampNeg)] [.int v] 100 rfl rfl rfl kkX12_post rfl rfl (by decide) rfl rfl rfl (by decide) ⟨by decide, by decide⟩ (Nat.le_of_ble_eq_true rfl) (h2 b1 c1 Ix Jx hm) (fun v1 S1 I1 J1 hp => ?_)
  obtain ⟨rfl, b2, c2, rfl, ls2, hV2⟩ := hp
  obtain ⟨Iy, eIy⟩ : ∃ z, z = I1 := ⟨_, rfl⟩
  subst eIy
  obtain ⟨Jy, eJy⟩ : ∃ z, z = J1 := ⟨_, rfl⟩
  subst eJy
  show Rj _ _ _ _ _ _ (1299, [some (.retAddr 0), some (.ref 0), some (.ref 100), some (.int (nI i))], [.int v, .int v], (SS b2 c2), Iy, Jy, 143, 112353)
  refine r_icmp (okL_law nm) rfl (fun (h1299 : v = v) => ?_) (fun (h1299 : ¬ v = v) => ?_)
  · exact K b2 c2 Iy Jy ls2 hV2
  · exact absurd rfl h1299
theorem lc_posts (γ : GE) (nm : String) {b c : Bool} {I : AI} {J : AJ} {ls : List Ln} {i : Nat} (hV : Inv I J b ls) (hin : i + 6 ≤ g_xn γ) (hxn : g_xn γ ≤ 3072) (K : ∀ (b c : Bool) (I : AI) (J : AJ) (ls : List Ln), Inv I J b ls → Rj γ (mL_law nm) 24 143 112353 PLaw (1337, [some (.retAddr 0), some (.ref 0), some (.ref 100), some (.int (nI i))], [], (SS b c), I, J, 143, 112353)) : Rj γ (mL_law nm) 24 143 112353 PLaw (1304, [some (.retAddr 0), some (.ref 0), some (.ref 100), some (.int (nI i))], [], (SS b c), I, J, 143, 112353) := by
  obtain ⟨v, Mid, h1, h2⟩ := s_posts γ (c := c) hV (g_xs γ ((nI i) + 1).toNatClampNeg) (g_xs γ ((nI i) + 2).toNatClampNeg)
  refine r_run (okL_law nm) 11 (cs := [vp_in ((nI i) + 1) (g_xn γ), vp_in ((nI i) + 2) (g_xn γ)]) (σ' := (1315, [some (.retAddr 0), some (.ref 0), some (.ref 100), some (.int (nI i))], [.int (g_xs γ ((nI i) + 2).toNatClampNeg), .int (g_xs γ ((nI i) + 1).toNatClampNeg), .ref 0], (SS b c), I, J, 143, 112353)) rfl ⟨(vx (k := 1) hin hxn (by decide)), (vx (k := 2) hin hxn (by decide)), trivial⟩ ?_
  refine r_callV (okL_law nm) okX11_posts [.int (g_xs γ ((nI i) + 1).toNatClampNeg), .int (g_xs γ ((nI i) + 2).toNatClampNeg)] [] 0 rfl rfl rfl kkX11_posts rfl rfl (by decide) rfl rfl rfl (by decide) ⟨by decide, by decide⟩ (Nat.le_of_ble_eq_true rfl) h1 (fun v1 S1 I1 J1 hp => ?_)
  obtain ⟨rfl, b1, c1, rfl, hm⟩ := hp
  obtain ⟨Ix, eIx⟩ : ∃ z, z = I1 := ⟨_, rfl⟩
  subst eIx
  obtain ⟨Jx, eJx⟩ : ∃ z, z = J1 := ⟨_, rfl⟩
  subst eJx
  show Rj _ _ _ _ _ _ (1318, [some (.retAddr 0), some (.ref 0), some (.ref 100), some (.int (nI i))], [.int v], (SS b1 c1), Ix, Jx, 143, 112353)
  refine r_run (okL_law nm) 11 (cs := [vp_in ((nI i) + 1) (g_xn γ), vp_in ((nI i) + 2) (g_xn γ)]) (σ' := (1329, [some (.retAddr 0), some (.ref 0), some (.ref 100), some (.int (nI i))], [.int (g_xs γ ((nI i) + 2).toNatClampNeg), .int (g_xs γ ((nI i) + 1).toNatClampNeg), .ref 100, .int v], (SS b1 c1), Ix, Jx, 143, 112353)) rfl ⟨(vx (k := 1) hin hxn (by decide)), (vx (k := 2) hin hxn (by decide)), trivial⟩ ?_
  refine r_callV (okL_law nm) okX12_posts [.int (g_xs γ ((nI i) + 1).toNatClampNeg), .int (g_xs γ ((nI i) + 2).toNatClampNeg)] [.int v] 100 rfl rfl rfl kkX12_posts rfl rfl (by decide) rfl rfl rfl (by decide) ⟨by decide, by decide⟩ (Nat.le_of_ble_eq_true rfl) (h2 b1 c1 Ix Jx hm) (fun v1 S1 I1 J1 hp => ?_)
  obtain ⟨rfl, b2, c2, rfl, ls2, hV2⟩ := hp
  obtain ⟨Iy, eIy⟩ : ∃ z, z = I1 := ⟨_, rfl⟩
  subst eIy
  obtain ⟨Jy, eJy⟩ : ∃ z, z = J1 := ⟨_, rfl⟩
  subst eJy
  show Rj _ _ _ _ _ _ (1332, [some (.retAddr 0), some (.ref 0), some (.ref 100), some (.int (nI i))], [.int v, .int v], (SS b2 c2), Iy, Jy, 143, 112353)
  refine r_icmp (okL_law nm) rfl (fun (h1332 : v = v) => ?_) (fun (h1332 : ¬ v = v) => ?_)
  · exact K b2 c2 Iy Jy ls2 hV2
  · exact absurd rfl h1332
theorem lp_law (γ : GE) (nm : String) (hxn : g_xn γ ≤ 3072) : ∀ (m i : Nat) (b c : Bool) (I : AI) (J : AJ) (ls : List Ln), g_xn γ ≤ i + m → i ≤ 3080 → Inv I J b ls → Rj γ (mL_law nm) 24 143 112353 PLaw (18, [some (.retAddr 0), some (.ref 0), some (.ref 100), some (.int (nI i))], [], (SS b c), I, J, 143, 112353) := by
  intro m
  induction m with
  | zero =>
    intro i b c I J ls hm hi hV
    refine r_run (okL_law nm) 5 (cs := []) (σ' := (24, [some (.retAddr 0), some (.ref 0), some (.ref 100), some (.int (nI i))], [.int (nI (g_xn γ) - 6), .int (nI i)], (SS b c), I, J, 143, 112353)) rfl trivial ?_
    refine r_icmp (okL_law nm) rfl (fun _ => ?_) (fun (h : ¬ nI (g_xn γ) - 6 < nI i) => ?_)
    · refine r_run (okL_law nm) 1 (cs := []) (σ' := (1344, [some (.retAddr 0), some (.ref 0), some (.ref 100), some (.int (nI i))], [.int 1], (SS b c), I, J, 143, 112353)) rfl trivial ?_
      exact r_iret (okL_law nm) rfl rfl (by decide +kernel) (Nat.le_refl _) (Nat.le_refl _) rfl
    · have := le_6 (by omega) hxn (Int32.not_lt.mp h); omega
  | succ m ih =>
    intro i b c I J ls hm hi hV
    refine r_run (okL_law nm) 5 (cs := []) (σ' := (24, [some (.retAddr 0), some (.ref 0), some (.ref 100), some (.int (nI i))], [.int (nI (g_xn γ) - 6), .int (nI i)], (SS b c), I, J, 143, 112353)) rfl trivial ?_
    refine r_icmp (okL_law nm) rfl (fun _ => ?_) (fun (h : ¬ nI (g_xn γ) - 6 < nI i) => ?_)
    · refine r_run (okL_law nm) 1 (cs := []) (σ' := (1344, [some (.retAddr 0), some (.ref 0), some (.ref 100), some (.int (nI i))], [.int 1], (SS b c), I, J, 143, 112353)) rfl trivial ?_
      exact r_iret (okL_law nm) rfl rfl (by decide +kernel) (Nat.le_refl _) (Nat.le_refl _) rfl
    · have hin := le_6 (by omega) hxn (Int32.not_lt.mp h)
      have K : ∀ (b c : Bool) (I : AI) (J : AJ) (ls : List Ln), Inv I J b ls → Rj γ (mL_law nm) 24 143 112353 PLaw (1337, [some (.retAddr 0), some (.ref 0), some (.ref 100), some (.int (nI i))], [], (SS b c), I, J, 143, 112353) := fun b c I J ls hV => by
        refine r_run (okL_law nm) 2 (cs := []) (σ' := (18, [some (.retAddr 0), some (.ref 0), some (.ref 100), some (.int (nI i + 6))], [], (SS b c), I, J, 143, 112353)) rfl trivial ?_
        rw [show nI i + 6 = nI (i + 6) from nI_ad i 6]
        exact ih (i + 6) b c I J ls (by omega) (by omega) hV
      refine r_run (okL_law nm) 5 (cs := [vp_in (nI i) (g_xn γ)]) (σ' := (33, [some (.retAddr 0), some (.ref 0), some (.ref 100), some (.int (nI i))], [.int (g_xs γ (nI i).toNatClampNeg &&& 63)], (SS b c), I, J, 143, 112353)) rfl ⟨vin (by omega) (by omega), trivial⟩ ?_
      obtain ⟨q, hq, eq⟩ := pk_andE (g_xs γ (nI i).toNatClampNeg) (m := 63) 6 (by decide)
      rw [eq]
      rcases (by omega : q = 0 ∨ q = 1 ∨ q = 2 ∨ q = 3 ∨ q = 4 ∨ q = 5 ∨ q = 6 ∨ q = 7 ∨ q = 8 ∨ q = 9 ∨ q = 10 ∨ q = 11 ∨ q = 12 ∨ q = 13 ∨ q = 14 ∨ q = 15 ∨ q = 16 ∨ q = 17 ∨ q = 18 ∨ q = 19 ∨ q = 20 ∨ q = 21 ∨ q = 22 ∨ q = 23 ∨ q = 24 ∨ q = 25 ∨ q = 26 ∨ q = 27 ∨ q = 28 ∨ q = 29 ∨ q = 30 ∨ q = 31 ∨ q = 32 ∨ 33 ≤ q) with rfl | rfl | rfl | rfl | rfl | rfl | rfl | rfl | rfl | rfl | rfl | rfl | rfl | rfl | rfl | rfl | rfl | rfl | rfl | rfl | rfl | rfl | rfl | rfl | rfl | rfl | rfl | rfl | rfl | rfl | rfl | rfl | rfl | h33
      · refine r_tblIn (okL_law nm) rfl (by decide) (by decide) (off := 147) (tgt := 180) rfl rfl ?_
        exact lc_land γ nm hV hin hxn K
      · refine r_tblIn (okL_law nm) rfl (by decide) (by decide) (off := 200) (tgt := 233) rfl rfl ?_
        exact lc_siren γ nm hV hin hxn K
      · refine r_tblIn (okL_law nm) rfl (by decide) (by decide) (off := 249) (tgt := 282) rfl rfl ?_
        exact lc_storm γ nm hV hin hxn K
      · refine r_tblIn (okL_law nm) rfl (by decide) (by decide) (off := 282) (tgt := 315) rfl rfl ?_
        exact lc_radar γ nm hV hin hxn K
      · refine r_tblIn (okL_law nm) rfl (by decide) (by decide) (off := 335) (tgt := 368) rfl rfl ?_
        exact lc_blind γ nm hV hin hxn K
      · refine r_tblIn (okL_law nm) rfl (by decide) (by decide) (off := 394) (tgt := 427) rfl rfl ?_
        exact lc_of γ nm hV hin hxn K
      · refine r_tblIn (okL_law nm) rfl (by decide) (by decide) (off := 427) (tgt := 460) rfl rfl ?_
        exact lc_seen γ nm hV hin hxn K
      · refine r_tblIn (okL_law nm) rfl (by decide) (by decide) (off := 470) (tgt := 503) rfl rfl ?_
        exact lc_bare γ nm hV hin hxn K
      · refine r_tblIn (okL_law nm) rfl (by decide) (by decide) (off := 503) (tgt := 536) rfl rfl ?_
        exact lc_word γ nm hV hin hxn K
      · refine r_tblIn (okL_law nm) rfl (by decide) (by decide) (off := 546) (tgt := 579) rfl rfl ?_
        exact lc_maybe γ nm hV hin hxn K
      · refine r_tblIn (okL_law nm) rfl (by decide) (by decide) (off := 589) (tgt := 622) rfl rfl ?_
        exact lc_count γ nm hV hin hxn K
      · refine r_tblIn (okL_law nm) rfl (by decide) (by decide) (off := 632) (tgt := 665) rfl rfl ?_
        exact lc_quarrel γ nm hV hin hxn K
      · refine r_tblIn (okL_law nm) rfl (by decide) (by decide) (off := 655) (tgt := 688) rfl rfl ?_
        exact lc_paths γ nm hV hin hxn K
      · refine r_tblIn (okL_law nm) rfl (by decide) (by decide) (off := 679) (tgt := 712) rfl rfl ?_
        exact lc_missed γ nm hV hin hxn K
      · refine r_tblIn (okL_law nm) rfl (by decide) (by decide) (off := 713) (tgt := 746) rfl rfl ?_
        exact lc_box γ nm hV hin hxn K
      · refine r_tblIn (okL_law nm) rfl (by decide) (by decide) (off := 756) (tgt := 789) rfl rfl ?_
        exact lc_feed γ nm hV hin hxn K
      · refine r_tblIn (okL_law nm) rfl (by decide) (by decide) (off := 819) (tgt := 852) rfl rfl ?_
        exact lc_end γ nm hV hin hxn K
      · refine r_tblIn (okL_law nm) rfl (by decide) (by decide) (off := 842) (tgt := 875) rfl rfl ?_
        exact lc_rules γ nm hV hin hxn K
      · refine r_tblIn (okL_law nm) rfl (by decide) (by decide) (off := 855) (tgt := 888) rfl rfl ?_
        exact lc_fault γ nm hV hin hxn K
      · refine r_tblIn (okL_law nm) rfl (by decide) (by decide) (off := 878) (tgt := 911) rfl rfl ?_
        exact lc_on γ nm hV hin hxn K
      · refine r_tblIn (okL_law nm) rfl (by decide) (by decide) (off := 915) (tgt := 948) rfl rfl ?_
        exact lc_asks γ nm hV hin hxn K
      · refine r_tblIn (okL_law nm) rfl (by decide) (by decide) (off := 948) (tgt := 981) rfl rfl ?_
        exact lc_minutes γ nm hV hin hxn K
      · refine r_tblIn (okL_law nm) rfl (by decide) (by decide) (off := 971) (tgt := 1004) rfl rfl ?_
        exact lc_warn γ nm hV hin hxn K
      · refine r_tblIn (okL_law nm) rfl (by decide) (by decide) (off := 1004) (tgt := 1037) rfl rfl ?_
        exact lc_lift γ nm hV hin hxn K
      · refine r_tblIn (okL_law nm) rfl (by decide) (by decide) (off := 1027) (tgt := 1060) rfl rfl ?_
        exact lc_warning γ nm hV hin hxn K
      · refine r_tblIn (okL_law nm) rfl (by decide) (by decide) (off := 1060) (tgt := 1093) rfl rfl ?_
        exact lc_look γ nm hV hin hxn K
      · refine r_tblIn (okL_law nm) rfl (by decide) (by decide) (off := 1083) (tgt := 1116) rfl rfl ?_
        exact lc_truth γ nm hV hin hxn K
      · refine r_tblIn (okL_law nm) rfl (by decide) (by decide) (off := 1116) (tgt := 1149) rfl rfl ?_
        exact lc_safe γ nm hV hin hxn K
      · refine r_tblIn (okL_law nm) rfl (by decide) (by decide) (off := 1149) (tgt := 1182) rfl rfl ?_
        exact lc_found γ nm hV hin hxn K
      · refine r_tblIn (okL_law nm) rfl (by decide) (by decide) (off := 1182) (tgt := 1215) rfl rfl ?_
        exact lc_judge γ nm hV hin hxn K
      · refine r_tblIn (okL_law nm) rfl (by decide) (by decide) (off := 1195) (tgt := 1228) rfl rfl ?_
        exact lc_entries γ nm hV hin hxn K
      · refine r_tblIn (okL_law nm) rfl (by decide) (by decide) (off := 1228) (tgt := 1261) rfl rfl ?_
        exact lc_post γ nm hV hin hxn K
      · refine r_tblIn (okL_law nm) rfl (by decide) (by decide) (off := 1271) (tgt := 1304) rfl rfl ?_
        exact lc_posts γ nm hV hin hxn K
      · refine r_tblOut (okL_law nm) rfl (Or.inr ?_) (tgt := 1337) rfl ?_
        · have hh : ∀ q, q < 2 ^ 6 → 33 ≤ q → (32 : Int) < (nI q).toInt := by decide
          exact hh q hq h33
        · exact K b c I J ls hV
theorem law_all (γ : GE) (nm : String) (hxn : g_xn γ ≤ 3072) : Rj γ (mL_law nm) 24 143 112353 PLaw (0, [some (.retAddr 0), none, none, none], [], [], zI, zJ, 0, 0) := by
  refine w_new (okL_law nm) (ci := 11) (S' := KS0) (n' := 0) (k' := 1) (u' := 16) rfl rfl rfl (by decide) (by decide) rfl rfl (fun _ => rfl) (fun _ => rfl) rfl rfl ?_
  refine r_run (okL_law nm) 1 (cs := []) (σ' := (4, [some (.retAddr 0), none, none, none], [.ref 0, .ref 0], KS0, zI, zJ, 1, 16)) rfl trivial ?_
  refine r_callI (okL_law nm) okX11_init [] [.ref 0] 0 rfl rfl rfl kkX11_init rfl rfl (by decide) ⟨by decide, by decide⟩ (Nat.le_of_ble_eq_true rfl) (n_office γ) (fun v1 S1 I1 J1 hp => ?_)
  obtain ⟨rfl, rfl, rfl, rfl⟩ := hp
  show Rj _ _ _ _ _ _ (7, [some (.retAddr 0), none, none, none], [.ref 0], KS198, iK6, jK1, 100, 14614)
  refine r_run (okL_law nm) 1 (cs := []) (σ' := (8, [some (.retAddr 0), some (.ref 0), none, none], [], KS198, iK6, jK1, 100, 14614)) rfl trivial ?_
  refine w_new (okL_law nm) (ci := 12) (S' := KS199) (n' := 100) (k' := 101) (u' := 14676) rfl rfl rfl (by decide) (by decide) rfl rfl (fun _ => rfl) (fun _ => rfl) rfl rfl ?_
  refine r_run (okL_law nm) 1 (cs := []) (σ' := (12, [some (.retAddr 0), some (.ref 0), none, none], [.ref 100, .ref 100], KS199, iK6, jK1, 101, 14676)) rfl trivial ?_
  refine r_callI (okL_law nm) okX12_init [] [.ref 100] 100 rfl rfl rfl kkX12_init rfl rfl (by decide) ⟨by decide, by decide⟩ (Nat.le_of_ble_eq_true rfl) (n_ref γ) (fun v1 S1 I1 J1 hp => ?_)
  obtain ⟨rfl, rfl, rfl, rfl⟩ := hp
  show Rj _ _ _ _ _ _ (15, [some (.retAddr 0), some (.ref 0), none, none], [.ref 100], KS283, iK30, jK1, 143, 112353)
  refine r_run (okL_law nm) 3 (cs := []) (σ' := (18, [some (.retAddr 0), some (.ref 0), some (.ref 100), some (.int 0)], [], KS283, iK30, jK1, 143, 112353)) rfl trivial ?_
  rw [SS_made]
  have z := lp_law γ nm hxn (g_xn γ) 0 false false iK30 jK1 [] (by omega) (by omega) st_inv
  rw [nI_0] at z
  exact z

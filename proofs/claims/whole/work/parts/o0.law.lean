/-! THE LAW: its code, a list for each case -/
def YL_law (nm : String) : qx_Y := (⟨RL, nm, "([I)Z"⟩, code, 4, (some .boolean))
def kL_0start : List (Nat × Instr × Nat) := [(0, .new 7, 3), (3, .dup, 1), (4, .invokespecial 9, 3), (7, .astore_n 1, 1), (8, .new 10, 3), (11, .dup, 1), (12, .invokespecial 12, 3), (15, .astore_n 2, 1), (16, .iconst 0, 1), (17, .istore_n 3, 1)]
def CL_0start (nm : String) : qx_C := (RL, YL_law nm, kL_0start, lL, true)
theorem vL0_0start : qx_gd (CL_0start "law") = true := by decide +kernel
theorem vL_0start (nm : String) : qx_gd (CL_0start nm) = true := vL0_0start
theorem wL_0start (nm : String) : qx_Lk (CL_0start nm).1 (CL_0start nm).2.1 (CL_0start nm).2.2.2.1 := lL_ok (YL_law nm)
def kL_0head : List (Nat × Instr × Nat) := [(18, .iload_n 3, 1), (19, .aload_n 0, 1), (20, .arraylength, 1), (21, .bipush 6, 2), (23, .isub, 1), (24, .if_icmp .gt 1314, 3), (27, .aload_n 0, 1), (28, .iload_n 3, 1), (29, .iaload, 1), (30, .bipush 63, 2), (32, .iand, 1), (33, .tableswitch 1299 0 41 #[183, 246, 269, 282, 295, 318, 351, 384, 417, 460, 493, 516, 529, 542, 555, 588, 631, 644, 657, 670, 683, 706, 729, 752, 785, 818, 851, 874, 897, 930, 983, 1006, 1039, 1062, 1085, 1108, 1131, 1164, 1187, 1230, 1253, 1276], 183), (1338, .iconst 1, 1), (1339, .ireturn, 1)]
def CL_0head (nm : String) : qx_C := (RL, YL_law nm, kL_0head, lL, true)
theorem vL0_0head : qx_gd (CL_0head "law") = true := by decide +kernel
theorem vL_0head (nm : String) : qx_gd (CL_0head nm) = true := vL0_0head
theorem wL_0head (nm : String) : qx_Lk (CL_0head nm).1 (CL_0head nm).2.1 (CL_0head nm).2.2.2.1 := lL_ok (YL_law nm)
def kL_0inc : List (Nat × Instr × Nat) := [(1332, .iinc 3 6, 3), (1335, .goto (-1317), 3)]
def CL_0inc (nm : String) : qx_C := (RL, YL_law nm, kL_0inc, lL, true)
theorem vL0_0inc : qx_gd (CL_0inc "law") = true := by decide +kernel
theorem vL_0inc (nm : String) : qx_gd (CL_0inc nm) = true := vL0_0inc
theorem wL_0inc (nm : String) : qx_Lk (CL_0inc nm).1 (CL_0inc nm).2.1 (CL_0inc nm).2.2.2.1 := lL_ok (YL_law nm)
def kL_feed : List (Nat × Instr × Nat) := [(216, .aload_n 1, 1), (217, .aload_n 0, 1), (218, .iload_n 3, 1), (219, .iconst 1, 1), (220, .iadd, 1), (221, .iaload, 1), (222, .aload_n 0, 1), (223, .iload_n 3, 1), (224, .iconst 2, 1), (225, .iadd, 1), (226, .iaload, 1), (227, .aload_n 0, 1), (228, .iload_n 3, 1), (229, .iconst 3, 1), (230, .iadd, 1), (231, .iaload, 1), (232, .aload_n 0, 1), (233, .iload_n 3, 1), (234, .iconst 4, 1), (235, .iadd, 1), (236, .iaload, 1), (237, .aload_n 0, 1), (238, .iload_n 3, 1), (239, .iconst 5, 1), (240, .iadd, 1), (241, .iaload, 1), (242, .invokevirtual 13, 3), (245, .aload_n 2, 1), (246, .aload_n 0, 1), (247, .iload_n 3, 1), (248, .iconst 1, 1), (249, .iadd, 1), (250, .iaload, 1), (251, .aload_n 0, 1), (252, .iload_n 3, 1), (253, .iconst 2, 1), (254, .iadd, 1), (255, .iaload, 1), (256, .aload_n 0, 1), (257, .iload_n 3, 1), (258, .iconst 3, 1), (259, .iadd, 1), (260, .iaload, 1), (261, .aload_n 0, 1), (262, .iload_n 3, 1), (263, .iconst 4, 1), (264, .iadd, 1), (265, .iaload, 1), (266, .aload_n 0, 1), (267, .iload_n 3, 1), (268, .iconst 5, 1), (269, .iadd, 1), (270, .iaload, 1), (271, .invokevirtual 17, 3), (274, .if_icmp .eq 1058, 3), (277, .iconst 0, 1), (278, .ireturn, 1), (1332, .iinc 3 6, 3), (1335, .goto (-1317), 3)]
def CL_feed (nm : String) : qx_C := (RL, YL_law nm, kL_feed, lL, true)
theorem vL0_feed : qx_gd (CL_feed "law") = true := by decide +kernel
theorem vL_feed (nm : String) : qx_gd (CL_feed nm) = true := vL0_feed
theorem wL_feed (nm : String) : qx_Lk (CL_feed nm).1 (CL_feed nm).2.1 (CL_feed nm).2.2.2.1 := lL_ok (YL_law nm)
def kL_end : List (Nat × Instr × Nat) := [(279, .aload_n 1, 1), (280, .aload_n 0, 1), (281, .iload_n 3, 1), (282, .iconst 1, 1), (283, .iadd, 1), (284, .iaload, 1), (285, .invokevirtual 18, 3), (288, .aload_n 2, 1), (289, .aload_n 0, 1), (290, .iload_n 3, 1), (291, .iconst 1, 1), (292, .iadd, 1), (293, .iaload, 1), (294, .invokevirtual 22, 3), (297, .if_icmp .eq 1035, 3), (300, .iconst 0, 1), (301, .ireturn, 1), (1332, .iinc 3 6, 3), (1335, .goto (-1317), 3)]
def CL_end (nm : String) : qx_C := (RL, YL_law nm, kL_end, lL, true)
theorem vL0_end : qx_gd (CL_end "law") = true := by decide +kernel
theorem vL_end (nm : String) : qx_gd (CL_end nm) = true := vL0_end
theorem wL_end (nm : String) : qx_Lk (CL_end nm).1 (CL_end nm).2.1 (CL_end nm).2.2.2.1 := lL_ok (YL_law nm)
def kL_country : List (Nat × Instr × Nat) := [(302, .aload_n 1, 1), (303, .invokevirtual 23, 3), (306, .aload_n 2, 1), (307, .invokevirtual 27, 3), (310, .if_icmp .eq 1022, 3), (313, .iconst 0, 1), (314, .ireturn, 1), (1332, .iinc 3 6, 3), (1335, .goto (-1317), 3)]
def CL_country (nm : String) : qx_C := (RL, YL_law nm, kL_country, lL, true)
theorem vL0_country : qx_gd (CL_country "law") = true := by decide +kernel
theorem vL_country (nm : String) : qx_gd (CL_country nm) = true := vL0_country
theorem wL_country (nm : String) : qx_Lk (CL_country nm).1 (CL_country nm).2.1 (CL_country nm).2.2.2.1 := lL_ok (YL_law nm)
def kL_rule : List (Nat × Instr × Nat) := [(315, .aload_n 1, 1), (316, .invokevirtual 28, 3), (319, .aload_n 2, 1), (320, .invokevirtual 31, 3), (323, .if_icmp .eq 1009, 3), (326, .iconst 0, 1), (327, .ireturn, 1), (1332, .iinc 3 6, 3), (1335, .goto (-1317), 3)]
def CL_rule (nm : String) : qx_C := (RL, YL_law nm, kL_rule, lL, true)
theorem vL0_rule : qx_gd (CL_rule "law") = true := by decide +kernel
theorem vL_rule (nm : String) : qx_gd (CL_rule nm) = true := vL0_rule
theorem wL_rule (nm : String) : qx_Lk (CL_rule nm).1 (CL_rule nm).2.1 (CL_rule nm).2.2.2.1 := lL_ok (YL_law nm)
def kL_force : List (Nat × Instr × Nat) := [(328, .aload_n 1, 1), (329, .aload_n 0, 1), (330, .iload_n 3, 1), (331, .iconst 1, 1), (332, .iadd, 1), (333, .iaload, 1), (334, .invokevirtual 32, 3), (337, .aload_n 2, 1), (338, .aload_n 0, 1), (339, .iload_n 3, 1), (340, .iconst 1, 1), (341, .iadd, 1), (342, .iaload, 1), (343, .invokevirtual 35, 3), (346, .if_icmp .eq 986, 3), (349, .iconst 0, 1), (350, .ireturn, 1), (1332, .iinc 3 6, 3), (1335, .goto (-1317), 3)]
def CL_force (nm : String) : qx_C := (RL, YL_law nm, kL_force, lL, true)
theorem vL0_force : qx_gd (CL_force "law") = true := by decide +kernel
theorem vL_force (nm : String) : qx_gd (CL_force nm) = true := vL0_force
theorem wL_force (nm : String) : qx_Lk (CL_force nm).1 (CL_force nm).2.1 (CL_force nm).2.2.2.1 := lL_ok (YL_law nm)
def kL_person : List (Nat × Instr × Nat) := [(351, .aload_n 1, 1), (352, .aload_n 0, 1), (353, .iload_n 3, 1), (354, .iconst 1, 1), (355, .iadd, 1), (356, .iaload, 1), (357, .aload_n 0, 1), (358, .iload_n 3, 1), (359, .iconst 2, 1), (360, .iadd, 1), (361, .iaload, 1), (362, .invokevirtual 36, 3), (365, .aload_n 2, 1), (366, .aload_n 0, 1), (367, .iload_n 3, 1), (368, .iconst 1, 1), (369, .iadd, 1), (370, .iaload, 1), (371, .aload_n 0, 1), (372, .iload_n 3, 1), (373, .iconst 2, 1), (374, .iadd, 1), (375, .iaload, 1), (376, .invokevirtual 40, 3), (379, .if_icmp .eq 953, 3), (382, .iconst 0, 1), (383, .ireturn, 1), (1332, .iinc 3 6, 3), (1335, .goto (-1317), 3)]
def CL_person (nm : String) : qx_C := (RL, YL_law nm, kL_person, lL, true)
theorem vL0_person : qx_gd (CL_person "law") = true := by decide +kernel
theorem vL_person (nm : String) : qx_gd (CL_person nm) = true := vL0_person
theorem wL_person (nm : String) : qx_Lk (CL_person nm).1 (CL_person nm).2.1 (CL_person nm).2.2.2.1 := lL_ok (YL_law nm)
def kL_wish : List (Nat × Instr × Nat) := [(384, .aload_n 1, 1), (385, .aload_n 0, 1), (386, .iload_n 3, 1), (387, .iconst 1, 1), (388, .iadd, 1), (389, .iaload, 1), (390, .aload_n 0, 1), (391, .iload_n 3, 1), (392, .iconst 2, 1), (393, .iadd, 1), (394, .iaload, 1), (395, .invokevirtual 41, 3), (398, .aload_n 2, 1), (399, .aload_n 0, 1), (400, .iload_n 3, 1), (401, .iconst 1, 1), (402, .iadd, 1), (403, .iaload, 1), (404, .aload_n 0, 1), (405, .iload_n 3, 1), (406, .iconst 2, 1), (407, .iadd, 1), (408, .iaload, 1), (409, .invokevirtual 44, 3), (412, .if_icmp .eq 920, 3), (415, .iconst 0, 1), (416, .ireturn, 1), (1332, .iinc 3 6, 3), (1335, .goto (-1317), 3)]
def CL_wish (nm : String) : qx_C := (RL, YL_law nm, kL_wish, lL, true)
theorem vL0_wish : qx_gd (CL_wish "law") = true := by decide +kernel
theorem vL_wish (nm : String) : qx_gd (CL_wish nm) = true := vL0_wish
theorem wL_wish (nm : String) : qx_Lk (CL_wish nm).1 (CL_wish nm).2.1 (CL_wish nm).2.2.2.1 := lL_ok (YL_law nm)
def kL_liking : List (Nat × Instr × Nat) := [(417, .aload_n 1, 1), (418, .aload_n 0, 1), (419, .iload_n 3, 1), (420, .iconst 1, 1), (421, .iadd, 1), (422, .iaload, 1), (423, .aload_n 0, 1), (424, .iload_n 3, 1), (425, .iconst 2, 1), (426, .iadd, 1), (427, .iaload, 1), (428, .invokevirtual 45, 3), (431, .aload_n 2, 1), (432, .aload_n 0, 1), (433, .iload_n 3, 1), (434, .iconst 1, 1), (435, .iadd, 1), (436, .iaload, 1), (437, .aload_n 0, 1), (438, .iload_n 3, 1), (439, .iconst 2, 1), (440, .iadd, 1), (441, .iaload, 1), (442, .invokevirtual 48, 3), (445, .if_icmp .eq 887, 3), (448, .iconst 0, 1), (449, .ireturn, 1), (1332, .iinc 3 6, 3), (1335, .goto (-1317), 3)]
def CL_liking (nm : String) : qx_C := (RL, YL_law nm, kL_liking, lL, true)
theorem vL0_liking : qx_gd (CL_liking "law") = true := by decide +kernel
theorem vL_liking (nm : String) : qx_gd (CL_liking nm) = true := vL0_liking
theorem wL_liking (nm : String) : qx_Lk (CL_liking nm).1 (CL_liking nm).2.1 (CL_liking nm).2.2.2.1 := lL_ok (YL_law nm)
def kL_desire : List (Nat × Instr × Nat) := [(450, .aload_n 1, 1), (451, .aload_n 0, 1), (452, .iload_n 3, 1), (453, .iconst 1, 1), (454, .iadd, 1), (455, .iaload, 1), (456, .aload_n 0, 1), (457, .iload_n 3, 1), (458, .iconst 2, 1), (459, .iadd, 1), (460, .iaload, 1), (461, .aload_n 0, 1), (462, .iload_n 3, 1), (463, .iconst 3, 1), (464, .iadd, 1), (465, .iaload, 1), (466, .invokevirtual 49, 3), (469, .aload_n 2, 1), (470, .aload_n 0, 1), (471, .iload_n 3, 1), (472, .iconst 1, 1), (473, .iadd, 1), (474, .iaload, 1), (475, .aload_n 0, 1), (476, .iload_n 3, 1), (477, .iconst 2, 1), (478, .iadd, 1), (479, .iaload, 1), (480, .aload_n 0, 1), (481, .iload_n 3, 1), (482, .iconst 3, 1), (483, .iadd, 1), (484, .iaload, 1), (485, .invokevirtual 53, 3), (488, .if_icmp .eq 844, 3), (491, .iconst 0, 1), (492, .ireturn, 1), (1332, .iinc 3 6, 3), (1335, .goto (-1317), 3)]
def CL_desire (nm : String) : qx_C := (RL, YL_law nm, kL_desire, lL, true)
theorem vL0_desire : qx_gd (CL_desire "law") = true := by decide +kernel
theorem vL_desire (nm : String) : qx_gd (CL_desire nm) = true := vL0_desire
theorem wL_desire (nm : String) : qx_Lk (CL_desire nm).1 (CL_desire nm).2.1 (CL_desire nm).2.2.2.1 := lL_ok (YL_law nm)
def kL_place : List (Nat × Instr × Nat) := [(493, .aload_n 1, 1), (494, .aload_n 0, 1), (495, .iload_n 3, 1), (496, .iconst 1, 1), (497, .iadd, 1), (498, .iaload, 1), (499, .aload_n 0, 1), (500, .iload_n 3, 1), (501, .iconst 2, 1), (502, .iadd, 1), (503, .iaload, 1), (504, .invokevirtual 54, 3), (507, .aload_n 2, 1), (508, .aload_n 0, 1), (509, .iload_n 3, 1), (510, .iconst 1, 1), (511, .iadd, 1), (512, .iaload, 1), (513, .aload_n 0, 1), (514, .iload_n 3, 1), (515, .iconst 2, 1), (516, .iadd, 1), (517, .iaload, 1), (518, .invokevirtual 57, 3), (521, .if_icmp .eq 811, 3), (524, .iconst 0, 1), (525, .ireturn, 1), (1332, .iinc 3 6, 3), (1335, .goto (-1317), 3)]
def CL_place (nm : String) : qx_C := (RL, YL_law nm, kL_place, lL, true)
theorem vL0_place : qx_gd (CL_place "law") = true := by decide +kernel
theorem vL_place (nm : String) : qx_gd (CL_place nm) = true := vL0_place
theorem wL_place (nm : String) : qx_Lk (CL_place nm).1 (CL_place nm).2.1 (CL_place nm).2.2.2.1 := lL_ok (YL_law nm)
def kL_call : List (Nat × Instr × Nat) := [(526, .aload_n 1, 1), (527, .aload_n 0, 1), (528, .iload_n 3, 1), (529, .iconst 1, 1), (530, .iadd, 1), (531, .iaload, 1), (532, .invokevirtual 58, 3), (535, .aload_n 2, 1), (536, .aload_n 0, 1), (537, .iload_n 3, 1), (538, .iconst 1, 1), (539, .iadd, 1), (540, .iaload, 1), (541, .invokevirtual 61, 3), (544, .if_icmp .eq 788, 3), (547, .iconst 0, 1), (548, .ireturn, 1), (1332, .iinc 3 6, 3), (1335, .goto (-1317), 3)]
def CL_call (nm : String) : qx_C := (RL, YL_law nm, kL_call, lL, true)
theorem vL0_call : qx_gd (CL_call "law") = true := by decide +kernel
theorem vL_call (nm : String) : qx_gd (CL_call nm) = true := vL0_call
theorem wL_call (nm : String) : qx_Lk (CL_call nm).1 (CL_call nm).2.1 (CL_call nm).2.2.2.1 := lL_ok (YL_law nm)
def kL_may : List (Nat × Instr × Nat) := [(549, .aload_n 1, 1), (550, .invokevirtual 62, 3), (553, .aload_n 2, 1), (554, .invokevirtual 65, 3), (557, .if_icmp .eq 775, 3), (560, .iconst 0, 1), (561, .ireturn, 1), (1332, .iinc 3 6, 3), (1335, .goto (-1317), 3)]
def CL_may (nm : String) : qx_C := (RL, YL_law nm, kL_may, lL, true)
theorem vL0_may : qx_gd (CL_may "law") = true := by decide +kernel
theorem vL_may (nm : String) : qx_gd (CL_may nm) = true := vL0_may
theorem wL_may (nm : String) : qx_Lk (CL_may nm).1 (CL_may nm).2.1 (CL_may nm).2.2.2.1 := lL_ok (YL_law nm)
def kL_go : List (Nat × Instr × Nat) := [(562, .aload_n 1, 1), (563, .invokevirtual 66, 3), (566, .aload_n 2, 1), (567, .invokevirtual 69, 3), (570, .if_icmp .eq 762, 3), (573, .iconst 0, 1), (574, .ireturn, 1), (1332, .iinc 3 6, 3), (1335, .goto (-1317), 3)]
def CL_go (nm : String) : qx_C := (RL, YL_law nm, kL_go, lL, true)
theorem vL0_go : qx_gd (CL_go "law") = true := by decide +kernel
theorem vL_go (nm : String) : qx_gd (CL_go nm) = true := vL0_go
theorem wL_go (nm : String) : qx_Lk (CL_go nm).1 (CL_go nm).2.1 (CL_go nm).2.2.2.1 := lL_ok (YL_law nm)
def kL_undo : List (Nat × Instr × Nat) := [(575, .aload_n 1, 1), (576, .invokevirtual 70, 3), (579, .aload_n 2, 1), (580, .invokevirtual 73, 3), (583, .if_icmp .eq 749, 3), (586, .iconst 0, 1), (587, .ireturn, 1), (1332, .iinc 3 6, 3), (1335, .goto (-1317), 3)]
def CL_undo (nm : String) : qx_C := (RL, YL_law nm, kL_undo, lL, true)
theorem vL0_undo : qx_gd (CL_undo "law") = true := by decide +kernel
theorem vL_undo (nm : String) : qx_gd (CL_undo nm) = true := vL0_undo
theorem wL_undo (nm : String) : qx_Lk (CL_undo nm).1 (CL_undo nm).2.1 (CL_undo nm).2.2.2.1 := lL_ok (YL_law nm)
def kL_owes : List (Nat × Instr × Nat) := [(588, .aload_n 1, 1), (589, .aload_n 0, 1), (590, .iload_n 3, 1), (591, .iconst 1, 1), (592, .iadd, 1), (593, .iaload, 1), (594, .aload_n 0, 1), (595, .iload_n 3, 1), (596, .iconst 2, 1), (597, .iadd, 1), (598, .iaload, 1), (599, .invokevirtual 74, 3), (602, .aload_n 2, 1), (603, .aload_n 0, 1), (604, .iload_n 3, 1), (605, .iconst 1, 1), (606, .iadd, 1), (607, .iaload, 1), (608, .aload_n 0, 1), (609, .iload_n 3, 1), (610, .iconst 2, 1), (611, .iadd, 1), (612, .iaload, 1), (613, .invokevirtual 77, 3), (616, .if_icmp .eq 716, 3), (619, .iconst 0, 1), (620, .ireturn, 1), (1332, .iinc 3 6, 3), (1335, .goto (-1317), 3)]
def CL_owes (nm : String) : qx_C := (RL, YL_law nm, kL_owes, lL, true)
theorem vL0_owes : qx_gd (CL_owes "law") = true := by decide +kernel
theorem vL_owes (nm : String) : qx_gd (CL_owes nm) = true := vL0_owes
theorem wL_owes (nm : String) : qx_Lk (CL_owes nm).1 (CL_owes nm).2.1 (CL_owes nm).2.2.2.1 := lL_ok (YL_law nm)
def kL_pay : List (Nat × Instr × Nat) := [(621, .aload_n 1, 1), (622, .aload_n 0, 1), (623, .iload_n 3, 1), (624, .iconst 1, 1), (625, .iadd, 1), (626, .iaload, 1), (627, .aload_n 0, 1), (628, .iload_n 3, 1), (629, .iconst 2, 1), (630, .iadd, 1), (631, .iaload, 1), (632, .aload_n 0, 1), (633, .iload_n 3, 1), (634, .iconst 3, 1), (635, .iadd, 1), (636, .iaload, 1), (637, .invokevirtual 78, 3), (640, .aload_n 2, 1), (641, .aload_n 0, 1), (642, .iload_n 3, 1), (643, .iconst 1, 1), (644, .iadd, 1), (645, .iaload, 1), (646, .aload_n 0, 1), (647, .iload_n 3, 1), (648, .iconst 2, 1), (649, .iadd, 1), (650, .iaload, 1), (651, .aload_n 0, 1), (652, .iload_n 3, 1), (653, .iconst 3, 1), (654, .iadd, 1), (655, .iaload, 1), (656, .invokevirtual 81, 3), (659, .if_icmp .eq 673, 3), (662, .iconst 0, 1), (663, .ireturn, 1), (1332, .iinc 3 6, 3), (1335, .goto (-1317), 3)]
def CL_pay (nm : String) : qx_C := (RL, YL_law nm, kL_pay, lL, true)
theorem vL0_pay : qx_gd (CL_pay "law") = true := by decide +kernel
theorem vL_pay (nm : String) : qx_gd (CL_pay nm) = true := vL0_pay
theorem wL_pay (nm : String) : qx_Lk (CL_pay nm).1 (CL_pay nm).2.1 (CL_pay nm).2.2.2.1 := lL_ok (YL_law nm)
def kL_strike : List (Nat × Instr × Nat) := [(664, .aload_n 1, 1), (665, .invokevirtual 82, 3), (668, .aload_n 2, 1), (669, .invokevirtual 85, 3), (672, .if_icmp .eq 660, 3), (675, .iconst 0, 1), (676, .ireturn, 1), (1332, .iinc 3 6, 3), (1335, .goto (-1317), 3)]
def CL_strike (nm : String) : qx_C := (RL, YL_law nm, kL_strike, lL, true)
theorem vL0_strike : qx_gd (CL_strike "law") = true := by decide +kernel
theorem vL_strike (nm : String) : qx_gd (CL_strike nm) = true := vL0_strike
theorem wL_strike (nm : String) : qx_Lk (CL_strike nm).1 (CL_strike nm).2.1 (CL_strike nm).2.2.2.1 := lL_ok (YL_law nm)
def kL_dawn : List (Nat × Instr × Nat) := [(677, .aload_n 1, 1), (678, .invokevirtual 86, 3), (681, .aload_n 2, 1), (682, .invokevirtual 89, 3), (685, .if_icmp .eq 647, 3), (688, .iconst 0, 1), (689, .ireturn, 1), (1332, .iinc 3 6, 3), (1335, .goto (-1317), 3)]
def CL_dawn (nm : String) : qx_C := (RL, YL_law nm, kL_dawn, lL, true)
theorem vL0_dawn : qx_gd (CL_dawn "law") = true := by decide +kernel
theorem vL_dawn (nm : String) : qx_gd (CL_dawn nm) = true := vL0_dawn
theorem wL_dawn (nm : String) : qx_Lk (CL_dawn nm).1 (CL_dawn nm).2.1 (CL_dawn nm).2.2.2.1 := lL_ok (YL_law nm)
def kL_book : List (Nat × Instr × Nat) := [(690, .aload_n 1, 1), (691, .invokevirtual 90, 3), (694, .aload_n 2, 1), (695, .invokevirtual 93, 3), (698, .if_icmp .eq 634, 3), (701, .iconst 0, 1), (702, .ireturn, 1), (1332, .iinc 3 6, 3), (1335, .goto (-1317), 3)]
def CL_book (nm : String) : qx_C := (RL, YL_law nm, kL_book, lL, true)
theorem vL0_book : qx_gd (CL_book "law") = true := by decide +kernel
theorem vL_book (nm : String) : qx_gd (CL_book nm) = true := vL0_book
theorem wL_book (nm : String) : qx_Lk (CL_book nm).1 (CL_book nm).2.1 (CL_book nm).2.2.2.1 := lL_ok (YL_law nm)
def kL_burn : List (Nat × Instr × Nat) := [(703, .aload_n 1, 1), (704, .invokevirtual 94, 3), (707, .aload_n 2, 1), (708, .invokevirtual 97, 3), (711, .if_icmp .eq 621, 3), (714, .iconst 0, 1), (715, .ireturn, 1), (1332, .iinc 3 6, 3), (1335, .goto (-1317), 3)]
def CL_burn (nm : String) : qx_C := (RL, YL_law nm, kL_burn, lL, true)
theorem vL0_burn : qx_gd (CL_burn "law") = true := by decide +kernel
theorem vL_burn (nm : String) : qx_gd (CL_burn nm) = true := vL0_burn
theorem wL_burn (nm : String) : qx_Lk (CL_burn nm).1 (CL_burn nm).2.1 (CL_burn nm).2.2.2.1 := lL_ok (YL_law nm)
def kL_judged : List (Nat × Instr × Nat) := [(716, .aload_n 1, 1), (717, .aload_n 0, 1), (718, .iload_n 3, 1), (719, .iconst 1, 1), (720, .iadd, 1), (721, .iaload, 1), (722, .invokevirtual 98, 3), (725, .aload_n 2, 1), (726, .aload_n 0, 1), (727, .iload_n 3, 1), (728, .iconst 1, 1), (729, .iadd, 1), (730, .iaload, 1), (731, .invokevirtual 101, 3), (734, .if_icmp .eq 598, 3), (737, .iconst 0, 1), (738, .ireturn, 1), (1332, .iinc 3 6, 3), (1335, .goto (-1317), 3)]
def CL_judged (nm : String) : qx_C := (RL, YL_law nm, kL_judged, lL, true)
theorem vL0_judged : qx_gd (CL_judged "law") = true := by decide +kernel
theorem vL_judged (nm : String) : qx_gd (CL_judged nm) = true := vL0_judged
theorem wL_judged (nm : String) : qx_Lk (CL_judged nm).1 (CL_judged nm).2.1 (CL_judged nm).2.2.2.1 := lL_ok (YL_law nm)
def kL_then : List (Nat × Instr × Nat) := [(739, .aload_n 1, 1), (740, .aload_n 0, 1), (741, .iload_n 3, 1), (742, .iconst 1, 1), (743, .iadd, 1), (744, .iaload, 1), (745, .invokevirtual 102, 3), (748, .aload_n 2, 1), (749, .aload_n 0, 1), (750, .iload_n 3, 1), (751, .iconst 1, 1), (752, .iadd, 1), (753, .iaload, 1), (754, .invokevirtual 105, 3), (757, .if_icmp .eq 575, 3), (760, .iconst 0, 1), (761, .ireturn, 1), (1332, .iinc 3 6, 3), (1335, .goto (-1317), 3)]
def CL_then (nm : String) : qx_C := (RL, YL_law nm, kL_then, lL, true)
theorem vL0_then : qx_gd (CL_then "law") = true := by decide +kernel
theorem vL_then (nm : String) : qx_gd (CL_then nm) = true := vL0_then
theorem wL_then (nm : String) : qx_Lk (CL_then nm).1 (CL_then nm).2.1 (CL_then nm).2.2.2.1 := lL_ok (YL_law nm)
def kL_laidOut : List (Nat × Instr × Nat) := [(762, .aload_n 1, 1), (763, .aload_n 0, 1), (764, .iload_n 3, 1), (765, .iconst 1, 1), (766, .iadd, 1), (767, .iaload, 1), (768, .invokevirtual 106, 3), (771, .aload_n 2, 1), (772, .aload_n 0, 1), (773, .iload_n 3, 1), (774, .iconst 1, 1), (775, .iadd, 1), (776, .iaload, 1), (777, .invokevirtual 109, 3), (780, .if_icmp .eq 552, 3), (783, .iconst 0, 1), (784, .ireturn, 1), (1332, .iinc 3 6, 3), (1335, .goto (-1317), 3)]
def CL_laidOut (nm : String) : qx_C := (RL, YL_law nm, kL_laidOut, lL, true)
theorem vL0_laidOut : qx_gd (CL_laidOut "law") = true := by decide +kernel
theorem vL_laidOut (nm : String) : qx_gd (CL_laidOut nm) = true := vL0_laidOut
theorem wL_laidOut (nm : String) : qx_Lk (CL_laidOut nm).1 (CL_laidOut nm).2.1 (CL_laidOut nm).2.2.2.1 := lL_ok (YL_law nm)
def kL_changers : List (Nat × Instr × Nat) := [(785, .aload_n 1, 1), (786, .aload_n 0, 1), (787, .iload_n 3, 1), (788, .iconst 1, 1), (789, .iadd, 1), (790, .iaload, 1), (791, .aload_n 0, 1), (792, .iload_n 3, 1), (793, .iconst 2, 1), (794, .iadd, 1), (795, .iaload, 1), (796, .invokevirtual 110, 3), (799, .aload_n 2, 1), (800, .aload_n 0, 1), (801, .iload_n 3, 1), (802, .iconst 1, 1), (803, .iadd, 1), (804, .iaload, 1), (805, .aload_n 0, 1), (806, .iload_n 3, 1), (807, .iconst 2, 1), (808, .iadd, 1), (809, .iaload, 1), (810, .invokevirtual 113, 3), (813, .if_icmp .eq 519, 3), (816, .iconst 0, 1), (817, .ireturn, 1), (1332, .iinc 3 6, 3), (1335, .goto (-1317), 3)]
def CL_changers (nm : String) : qx_C := (RL, YL_law nm, kL_changers, lL, true)
theorem vL0_changers : qx_gd (CL_changers "law") = true := by decide +kernel
theorem vL_changers (nm : String) : qx_gd (CL_changers nm) = true := vL0_changers
theorem wL_changers (nm : String) : qx_Lk (CL_changers nm).1 (CL_changers nm).2.1 (CL_changers nm).2.2.2.1 := lL_ok (YL_law nm)
def kL_most : List (Nat × Instr × Nat) := [(818, .aload_n 1, 1), (819, .aload_n 0, 1), (820, .iload_n 3, 1), (821, .iconst 1, 1), (822, .iadd, 1), (823, .iaload, 1), (824, .aload_n 0, 1), (825, .iload_n 3, 1), (826, .iconst 2, 1), (827, .iadd, 1), (828, .iaload, 1), (829, .invokevirtual 114, 3), (832, .aload_n 2, 1), (833, .aload_n 0, 1), (834, .iload_n 3, 1), (835, .iconst 1, 1), (836, .iadd, 1), (837, .iaload, 1), (838, .aload_n 0, 1), (839, .iload_n 3, 1), (840, .iconst 2, 1), (841, .iadd, 1), (842, .iaload, 1), (843, .invokevirtual 117, 3), (846, .if_icmp .eq 486, 3), (849, .iconst 0, 1), (850, .ireturn, 1), (1332, .iinc 3 6, 3), (1335, .goto (-1317), 3)]
def CL_most (nm : String) : qx_C := (RL, YL_law nm, kL_most, lL, true)
theorem vL0_most : qx_gd (CL_most "law") = true := by decide +kernel
theorem vL_most (nm : String) : qx_gd (CL_most nm) = true := vL0_most
theorem wL_most (nm : String) : qx_Lk (CL_most nm).1 (CL_most nm).2.1 (CL_most nm).2.2.2.1 := lL_ok (YL_law nm)
def kL_mostOf : List (Nat × Instr × Nat) := [(851, .aload_n 1, 1), (852, .aload_n 0, 1), (853, .iload_n 3, 1), (854, .iconst 1, 1), (855, .iadd, 1), (856, .iaload, 1), (857, .aload_n 0, 1), (858, .iload_n 3, 1), (859, .iconst 2, 1), (860, .iadd, 1), (861, .iaload, 1), (862, .invokevirtual 118, 3), (865, .aload_n 2, 1), (866, .aload_n 0, 1), (867, .iload_n 3, 1), (868, .iconst 1, 1), (869, .iadd, 1), (870, .iaload, 1), (871, .aload_n 0, 1), (872, .iload_n 3, 1), (873, .iconst 2, 1), (874, .iadd, 1), (875, .iaload, 1), (876, .invokevirtual 121, 3), (879, .if_icmp .eq 453, 3), (882, .iconst 0, 1), (883, .ireturn, 1), (1332, .iinc 3 6, 3), (1335, .goto (-1317), 3)]
def CL_mostOf (nm : String) : qx_C := (RL, YL_law nm, kL_mostOf, lL, true)
theorem vL0_mostOf : qx_gd (CL_mostOf "law") = true := by decide +kernel
theorem vL_mostOf (nm : String) : qx_gd (CL_mostOf nm) = true := vL0_mostOf
theorem wL_mostOf (nm : String) : qx_Lk (CL_mostOf nm).1 (CL_mostOf nm).2.1 (CL_mostOf nm).2.2.2.1 := lL_ok (YL_law nm)
def kL_core : List (Nat × Instr × Nat) := [(884, .aload_n 1, 1), (885, .aload_n 0, 1), (886, .iload_n 3, 1), (887, .iconst 1, 1), (888, .iadd, 1), (889, .iaload, 1), (890, .invokevirtual 122, 3), (893, .aload_n 2, 1), (894, .aload_n 0, 1), (895, .iload_n 3, 1), (896, .iconst 1, 1), (897, .iadd, 1), (898, .iaload, 1), (899, .invokevirtual 125, 3), (902, .if_icmp .eq 430, 3), (905, .iconst 0, 1), (906, .ireturn, 1), (1332, .iinc 3 6, 3), (1335, .goto (-1317), 3)]
def CL_core (nm : String) : qx_C := (RL, YL_law nm, kL_core, lL, true)
theorem vL0_core : qx_gd (CL_core "law") = true := by decide +kernel
theorem vL_core (nm : String) : qx_gd (CL_core nm) = true := vL0_core
theorem wL_core (nm : String) : qx_Lk (CL_core nm).1 (CL_core nm).2.1 (CL_core nm).2.2.2.1 := lL_ok (YL_law nm)
def kL_blocks : List (Nat × Instr × Nat) := [(907, .aload_n 1, 1), (908, .aload_n 0, 1), (909, .iload_n 3, 1), (910, .iconst 1, 1), (911, .iadd, 1), (912, .iaload, 1), (913, .invokevirtual 126, 3), (916, .aload_n 2, 1), (917, .aload_n 0, 1), (918, .iload_n 3, 1), (919, .iconst 1, 1), (920, .iadd, 1), (921, .iaload, 1), (922, .invokevirtual 129, 3), (925, .if_icmp .eq 407, 3), (928, .iconst 0, 1), (929, .ireturn, 1), (1332, .iinc 3 6, 3), (1335, .goto (-1317), 3)]
def CL_blocks (nm : String) : qx_C := (RL, YL_law nm, kL_blocks, lL, true)
theorem vL0_blocks : qx_gd (CL_blocks "law") = true := by decide +kernel
theorem vL_blocks (nm : String) : qx_gd (CL_blocks nm) = true := vL0_blocks
theorem wL_blocks (nm : String) : qx_Lk (CL_blocks nm).1 (CL_blocks nm).2.1 (CL_blocks nm).2.2.2.1 := lL_ok (YL_law nm)
def kL_journey : List (Nat × Instr × Nat) := [(930, .aload_n 1, 1), (931, .aload_n 0, 1), (932, .iload_n 3, 1), (933, .iconst 1, 1), (934, .iadd, 1), (935, .iaload, 1), (936, .aload_n 0, 1), (937, .iload_n 3, 1), (938, .iconst 2, 1), (939, .iadd, 1), (940, .iaload, 1), (941, .invokevirtual 130, 3), (944, .aload_n 2, 1), (945, .aload_n 0, 1), (946, .iload_n 3, 1), (947, .iconst 1, 1), (948, .iadd, 1), (949, .iaload, 1), (950, .aload_n 0, 1), (951, .iload_n 3, 1), (952, .iconst 2, 1), (953, .iadd, 1), (954, .iaload, 1), (955, .invokevirtual 133, 3), (958, .if_icmp .eq 374, 3), (961, .iconst 0, 1), (962, .ireturn, 1), (1332, .iinc 3 6, 3), (1335, .goto (-1317), 3)]
def CL_journey (nm : String) : qx_C := (RL, YL_law nm, kL_journey, lL, true)
theorem vL0_journey : qx_gd (CL_journey "law") = true := by decide +kernel
theorem vL_journey (nm : String) : qx_gd (CL_journey nm) = true := vL0_journey
theorem wL_journey (nm : String) : qx_Lk (CL_journey nm).1 (CL_journey nm).2.1 (CL_journey nm).2.2.2.1 := lL_ok (YL_law nm)
def kL_row : List (Nat × Instr × Nat) := [(963, .aload_n 1, 1), (964, .aload_n 0, 1), (965, .iload_n 3, 1), (966, .iconst 1, 1), (967, .iadd, 1), (968, .iaload, 1), (969, .aload_n 0, 1), (970, .iload_n 3, 1), (971, .iconst 2, 1), (972, .iadd, 1), (973, .iaload, 1), (974, .aload_n 0, 1), (975, .iload_n 3, 1), (976, .iconst 3, 1), (977, .iadd, 1), (978, .iaload, 1), (979, .aload_n 0, 1), (980, .iload_n 3, 1), (981, .iconst 4, 1), (982, .iadd, 1), (983, .iaload, 1), (984, .invokevirtual 134, 3), (987, .aload_n 2, 1), (988, .aload_n 0, 1), (989, .iload_n 3, 1), (990, .iconst 1, 1), (991, .iadd, 1), (992, .iaload, 1), (993, .aload_n 0, 1), (994, .iload_n 3, 1), (995, .iconst 2, 1), (996, .iadd, 1), (997, .iaload, 1), (998, .aload_n 0, 1), (999, .iload_n 3, 1), (1000, .iconst 3, 1), (1001, .iadd, 1), (1002, .iaload, 1), (1003, .aload_n 0, 1), (1004, .iload_n 3, 1), (1005, .iconst 4, 1), (1006, .iadd, 1), (1007, .iaload, 1), (1008, .invokevirtual 138, 3), (1011, .if_icmp .eq 321, 3), (1014, .iconst 0, 1), (1015, .ireturn, 1), (1332, .iinc 3 6, 3), (1335, .goto (-1317), 3)]
def CL_row (nm : String) : qx_C := (RL, YL_law nm, kL_row, lL, true)
theorem vL0_row : qx_gd (CL_row "law") = true := by decide +kernel
theorem vL_row (nm : String) : qx_gd (CL_row nm) = true := vL0_row
theorem wL_row (nm : String) : qx_Lk (CL_row nm).1 (CL_row nm).2.1 (CL_row nm).2.2.2.1 := lL_ok (YL_law nm)
def kL_reached : List (Nat × Instr × Nat) := [(1016, .aload_n 1, 1), (1017, .aload_n 0, 1), (1018, .iload_n 3, 1), (1019, .iconst 1, 1), (1020, .iadd, 1), (1021, .iaload, 1), (1022, .invokevirtual 139, 3), (1025, .aload_n 2, 1), (1026, .aload_n 0, 1), (1027, .iload_n 3, 1), (1028, .iconst 1, 1), (1029, .iadd, 1), (1030, .iaload, 1), (1031, .invokevirtual 142, 3), (1034, .if_icmp .eq 298, 3), (1037, .iconst 0, 1), (1038, .ireturn, 1), (1332, .iinc 3 6, 3), (1335, .goto (-1317), 3)]
def CL_reached (nm : String) : qx_C := (RL, YL_law nm, kL_reached, lL, true)
theorem vL0_reached : qx_gd (CL_reached "law") = true := by decide +kernel
theorem vL_reached (nm : String) : qx_gd (CL_reached nm) = true := vL0_reached
theorem wL_reached (nm : String) : qx_Lk (CL_reached nm).1 (CL_reached nm).2.1 (CL_reached nm).2.2.2.1 := lL_ok (YL_law nm)
def kL_found : List (Nat × Instr × Nat) := [(1039, .aload_n 1, 1), (1040, .aload_n 0, 1), (1041, .iload_n 3, 1), (1042, .iconst 1, 1), (1043, .iadd, 1), (1044, .iaload, 1), (1045, .aload_n 0, 1), (1046, .iload_n 3, 1), (1047, .iconst 2, 1), (1048, .iadd, 1), (1049, .iaload, 1), (1050, .invokevirtual 143, 3), (1053, .aload_n 2, 1), (1054, .aload_n 0, 1), (1055, .iload_n 3, 1), (1056, .iconst 1, 1), (1057, .iadd, 1), (1058, .iaload, 1), (1059, .aload_n 0, 1), (1060, .iload_n 3, 1), (1061, .iconst 2, 1), (1062, .iadd, 1), (1063, .iaload, 1), (1064, .invokevirtual 147, 3), (1067, .if_icmp .eq 265, 3), (1070, .iconst 0, 1), (1071, .ireturn, 1), (1332, .iinc 3 6, 3), (1335, .goto (-1317), 3)]
def CL_found (nm : String) : qx_C := (RL, YL_law nm, kL_found, lL, true)
theorem vL0_found : qx_gd (CL_found "law") = true := by decide +kernel
theorem vL_found (nm : String) : qx_gd (CL_found nm) = true := vL0_found
theorem wL_found (nm : String) : qx_Lk (CL_found nm).1 (CL_found nm).2.1 (CL_found nm).2.2.2.1 := lL_ok (YL_law nm)
def kL_done : List (Nat × Instr × Nat) := [(1072, .aload_n 1, 1), (1073, .aload_n 0, 1), (1074, .iload_n 3, 1), (1075, .iconst 1, 1), (1076, .iadd, 1), (1077, .iaload, 1), (1078, .invokevirtual 148, 3), (1081, .aload_n 2, 1), (1082, .aload_n 0, 1), (1083, .iload_n 3, 1), (1084, .iconst 1, 1), (1085, .iadd, 1), (1086, .iaload, 1), (1087, .invokevirtual 151, 3), (1090, .if_icmp .eq 242, 3), (1093, .iconst 0, 1), (1094, .ireturn, 1), (1332, .iinc 3 6, 3), (1335, .goto (-1317), 3)]
def CL_done (nm : String) : qx_C := (RL, YL_law nm, kL_done, lL, true)
theorem vL0_done : qx_gd (CL_done "law") = true := by decide +kernel
theorem vL_done (nm : String) : qx_gd (CL_done nm) = true := vL0_done
theorem wL_done (nm : String) : qx_Lk (CL_done nm).1 (CL_done nm).2.1 (CL_done nm).2.2.2.1 := lL_ok (YL_law nm)
def kL_doctors : List (Nat × Instr × Nat) := [(1095, .aload_n 1, 1), (1096, .aload_n 0, 1), (1097, .iload_n 3, 1), (1098, .iconst 1, 1), (1099, .iadd, 1), (1100, .iaload, 1), (1101, .invokevirtual 152, 3), (1104, .aload_n 2, 1), (1105, .aload_n 0, 1), (1106, .iload_n 3, 1), (1107, .iconst 1, 1), (1108, .iadd, 1), (1109, .iaload, 1), (1110, .invokevirtual 155, 3), (1113, .if_icmp .eq 219, 3), (1116, .iconst 0, 1), (1117, .ireturn, 1), (1332, .iinc 3 6, 3), (1335, .goto (-1317), 3)]
def CL_doctors (nm : String) : qx_C := (RL, YL_law nm, kL_doctors, lL, true)
theorem vL0_doctors : qx_gd (CL_doctors "law") = true := by decide +kernel
theorem vL_doctors (nm : String) : qx_gd (CL_doctors nm) = true := vL0_doctors
theorem wL_doctors (nm : String) : qx_Lk (CL_doctors nm).1 (CL_doctors nm).2.1 (CL_doctors nm).2.2.2.1 := lL_ok (YL_law nm)
def kL_served : List (Nat × Instr × Nat) := [(1118, .aload_n 1, 1), (1119, .aload_n 0, 1), (1120, .iload_n 3, 1), (1121, .iconst 1, 1), (1122, .iadd, 1), (1123, .iaload, 1), (1124, .invokevirtual 156, 3), (1127, .aload_n 2, 1), (1128, .aload_n 0, 1), (1129, .iload_n 3, 1), (1130, .iconst 1, 1), (1131, .iadd, 1), (1132, .iaload, 1), (1133, .invokevirtual 159, 3), (1136, .if_icmp .eq 196, 3), (1139, .iconst 0, 1), (1140, .ireturn, 1), (1332, .iinc 3 6, 3), (1335, .goto (-1317), 3)]
def CL_served (nm : String) : qx_C := (RL, YL_law nm, kL_served, lL, true)
theorem vL0_served : qx_gd (CL_served "law") = true := by decide +kernel
theorem vL_served (nm : String) : qx_gd (CL_served nm) = true := vL0_served
theorem wL_served (nm : String) : qx_Lk (CL_served nm).1 (CL_served nm).2.1 (CL_served nm).2.2.2.1 := lL_ok (YL_law nm)
def kL_liars : List (Nat × Instr × Nat) := [(1141, .aload_n 1, 1), (1142, .aload_n 0, 1), (1143, .iload_n 3, 1), (1144, .iconst 1, 1), (1145, .iadd, 1), (1146, .iaload, 1), (1147, .invokevirtual 160, 3), (1150, .aload_n 2, 1), (1151, .aload_n 0, 1), (1152, .iload_n 3, 1), (1153, .iconst 1, 1), (1154, .iadd, 1), (1155, .iaload, 1), (1156, .invokevirtual 163, 3), (1159, .if_icmp .eq 173, 3), (1162, .iconst 0, 1), (1163, .ireturn, 1), (1332, .iinc 3 6, 3), (1335, .goto (-1317), 3)]
def CL_liars (nm : String) : qx_C := (RL, YL_law nm, kL_liars, lL, true)
theorem vL0_liars : qx_gd (CL_liars "law") = true := by decide +kernel
theorem vL_liars (nm : String) : qx_gd (CL_liars nm) = true := vL0_liars
theorem wL_liars (nm : String) : qx_Lk (CL_liars nm).1 (CL_liars nm).2.1 (CL_liars nm).2.2.2.1 := lL_ok (YL_law nm)
def kL_lie : List (Nat × Instr × Nat) := [(1164, .aload_n 1, 1), (1165, .aload_n 0, 1), (1166, .iload_n 3, 1), (1167, .iconst 1, 1), (1168, .iadd, 1), (1169, .iaload, 1), (1170, .aload_n 0, 1), (1171, .iload_n 3, 1), (1172, .iconst 2, 1), (1173, .iadd, 1), (1174, .iaload, 1), (1175, .invokevirtual 164, 3), (1178, .aload_n 2, 1), (1179, .aload_n 0, 1), (1180, .iload_n 3, 1), (1181, .iconst 1, 1), (1182, .iadd, 1), (1183, .iaload, 1), (1184, .aload_n 0, 1), (1185, .iload_n 3, 1), (1186, .iconst 2, 1), (1187, .iadd, 1), (1188, .iaload, 1), (1189, .invokevirtual 167, 3), (1192, .if_icmp .eq 140, 3), (1195, .iconst 0, 1), (1196, .ireturn, 1), (1332, .iinc 3 6, 3), (1335, .goto (-1317), 3)]
def CL_lie (nm : String) : qx_C := (RL, YL_law nm, kL_lie, lL, true)
theorem vL0_lie : qx_gd (CL_lie "law") = true := by decide +kernel
theorem vL_lie (nm : String) : qx_gd (CL_lie nm) = true := vL0_lie
theorem wL_lie (nm : String) : qx_Lk (CL_lie nm).1 (CL_lie nm).2.1 (CL_lie nm).2.2.2.1 := lL_ok (YL_law nm)
def kL_seed : List (Nat × Instr × Nat) := [(1197, .aload_n 1, 1), (1198, .aload_n 0, 1), (1199, .iload_n 3, 1), (1200, .iconst 1, 1), (1201, .iadd, 1), (1202, .iaload, 1), (1203, .invokevirtual 168, 3), (1206, .aload_n 2, 1), (1207, .aload_n 0, 1), (1208, .iload_n 3, 1), (1209, .iconst 1, 1), (1210, .iadd, 1), (1211, .iaload, 1), (1212, .invokevirtual 171, 3), (1215, .if_icmp .eq 117, 3), (1218, .iconst 0, 1), (1219, .ireturn, 1), (1332, .iinc 3 6, 3), (1335, .goto (-1317), 3)]
def CL_seed (nm : String) : qx_C := (RL, YL_law nm, kL_seed, lL, true)
theorem vL0_seed : qx_gd (CL_seed "law") = true := by decide +kernel
theorem vL_seed (nm : String) : qx_gd (CL_seed nm) = true := vL0_seed
theorem wL_seed (nm : String) : qx_Lk (CL_seed nm).1 (CL_seed nm).2.1 (CL_seed nm).2.2.2.1 := lL_ok (YL_law nm)
def kL_years : List (Nat × Instr × Nat) := [(1220, .aload_n 1, 1), (1221, .aload_n 0, 1), (1222, .iload_n 3, 1), (1223, .iconst 1, 1), (1224, .iadd, 1), (1225, .iaload, 1), (1226, .aload_n 0, 1), (1227, .iload_n 3, 1), (1228, .iconst 2, 1), (1229, .iadd, 1), (1230, .iaload, 1), (1231, .aload_n 0, 1), (1232, .iload_n 3, 1), (1233, .iconst 3, 1), (1234, .iadd, 1), (1235, .iaload, 1), (1236, .invokevirtual 172, 3), (1239, .aload_n 2, 1), (1240, .aload_n 0, 1), (1241, .iload_n 3, 1), (1242, .iconst 1, 1), (1243, .iadd, 1), (1244, .iaload, 1), (1245, .aload_n 0, 1), (1246, .iload_n 3, 1), (1247, .iconst 2, 1), (1248, .iadd, 1), (1249, .iaload, 1), (1250, .aload_n 0, 1), (1251, .iload_n 3, 1), (1252, .iconst 3, 1), (1253, .iadd, 1), (1254, .iaload, 1), (1255, .invokevirtual 175, 3), (1258, .if_icmp .eq 74, 3), (1261, .iconst 0, 1), (1262, .ireturn, 1), (1332, .iinc 3 6, 3), (1335, .goto (-1317), 3)]
def CL_years (nm : String) : qx_C := (RL, YL_law nm, kL_years, lL, true)
theorem vL0_years : qx_gd (CL_years "law") = true := by decide +kernel
theorem vL_years (nm : String) : qx_gd (CL_years nm) = true := vL0_years
theorem wL_years (nm : String) : qx_Lk (CL_years nm).1 (CL_years nm).2.1 (CL_years nm).2.2.2.1 := lL_ok (YL_law nm)
def kL_count : List (Nat × Instr × Nat) := [(1263, .aload_n 1, 1), (1264, .aload_n 0, 1), (1265, .iload_n 3, 1), (1266, .iconst 1, 1), (1267, .iadd, 1), (1268, .iaload, 1), (1269, .invokevirtual 176, 3), (1272, .aload_n 2, 1), (1273, .aload_n 0, 1), (1274, .iload_n 3, 1), (1275, .iconst 1, 1), (1276, .iadd, 1), (1277, .iaload, 1), (1278, .invokevirtual 179, 3), (1281, .if_icmp .eq 51, 3), (1284, .iconst 0, 1), (1285, .ireturn, 1), (1332, .iinc 3 6, 3), (1335, .goto (-1317), 3)]
def CL_count (nm : String) : qx_C := (RL, YL_law nm, kL_count, lL, true)
theorem vL0_count : qx_gd (CL_count "law") = true := by decide +kernel
theorem vL_count (nm : String) : qx_gd (CL_count nm) = true := vL0_count
theorem wL_count (nm : String) : qx_Lk (CL_count nm).1 (CL_count nm).2.1 (CL_count nm).2.2.2.1 := lL_ok (YL_law nm)
def kL_image : List (Nat × Instr × Nat) := [(1286, .aload_n 1, 1), (1287, .aload_n 0, 1), (1288, .iload_n 3, 1), (1289, .iconst 1, 1), (1290, .iadd, 1), (1291, .iaload, 1), (1292, .invokevirtual 180, 3), (1295, .aload_n 2, 1), (1296, .aload_n 0, 1), (1297, .iload_n 3, 1), (1298, .iconst 1, 1), (1299, .iadd, 1), (1300, .iaload, 1), (1301, .invokevirtual 183, 3), (1304, .if_icmp .eq 28, 3), (1307, .iconst 0, 1), (1308, .ireturn, 1), (1332, .iinc 3 6, 3), (1335, .goto (-1317), 3)]
def CL_image (nm : String) : qx_C := (RL, YL_law nm, kL_image, lL, true)
theorem vL0_image : qx_gd (CL_image "law") = true := by decide +kernel
theorem vL_image (nm : String) : qx_gd (CL_image nm) = true := vL0_image
theorem wL_image (nm : String) : qx_Lk (CL_image nm).1 (CL_image nm).2.1 (CL_image nm).2.2.2.1 := lL_ok (YL_law nm)
def kL_back : List (Nat × Instr × Nat) := [(1309, .aload_n 1, 1), (1310, .aload_n 0, 1), (1311, .iload_n 3, 1), (1312, .iconst 1, 1), (1313, .iadd, 1), (1314, .iaload, 1), (1315, .invokevirtual 184, 3), (1318, .aload_n 2, 1), (1319, .aload_n 0, 1), (1320, .iload_n 3, 1), (1321, .iconst 1, 1), (1322, .iadd, 1), (1323, .iaload, 1), (1324, .invokevirtual 187, 3), (1327, .if_icmp .eq 5, 3), (1330, .iconst 0, 1), (1331, .ireturn, 1), (1332, .iinc 3 6, 3), (1335, .goto (-1317), 3)]
def CL_back (nm : String) : qx_C := (RL, YL_law nm, kL_back, lL, true)
theorem vL0_back : qx_gd (CL_back "law") = true := by decide +kernel
theorem vL_back (nm : String) : qx_gd (CL_back nm) = true := vL0_back
theorem wL_back (nm : String) : qx_Lk (CL_back nm).1 (CL_back nm).2.1 (CL_back nm).2.2.2.1 := lL_ok (YL_law nm)

/-! the law's code, fetched by short chunks; laid by split306.py -/
theorem find_skip {A B : List QE} {pc M : Nat} {x : QE} (ha : A.all (fun e => decide (e.1 < M)) = true) (h : M ≤ pc) (e : B.find? (fun e => e.1 == pc) = some x) : (A ++ B).find? (fun e => e.1 == pc) = some x := by
  rw [List.find?_append]
  have hn : A.find? (fun e => e.1 == pc) = none := by
    rw [List.find?_eq_none]
    intro y hy z
    have h1 := of_decide_eq_true (List.all_eq_true.mp ha y hy)
    have h2 : y.1 = pc := eq_of_beq z
    omega
  rw [hn, Option.none_or]
  exact e
theorem find_left {A B : List QE} {pc : Nat} {x : QE} (e : A.find? (fun e => e.1 == pc) = some x) : (A ++ B).find? (fun e => e.1 == pc) = some x := by
  rw [List.find?_append, e, Option.some_or]
def v306_0_0 : List QE := [(0, .new 7, 11, 16, 0), (3, .dup, 0, 0, 0), (4, .invokespecial 9, 113, 0, 3), (7, .astore_n 1, 0, 0, 0), (8, .new 10, 12, 99, 0), (11, .dup, 0, 0, 0), (12, .invokespecial 12, 186, 0, 3), (15, .astore_n 2, 0, 0, 0), (16, .iconst 0, 0, 0, 0), (17, .istore_n 3, 0, 0, 0), (18, .iload_n 3, 0, 0, 0), (19, .aload_n 0, 0, 0, 0), (20, .arraylength, 0, 0, 0), (21, .bipush 8, 0, 0, 0), (23, .isub, 0, 0, 0), (24, .if_icmp .gt 2102, 2126, 0, 0), (27, .aload_n 0, 0, 0, 0), (28, .iload_n 3, 0, 0, 0), (29, .iaload, 0, 0, 0), (30, .bipush 63, 0, 0, 0), (32, .iand, 0, 0, 0), (33, .tableswitch 2087 0 51 #[223, 246, 269, 342, 375, 418, 461, 494, 567, 590, 603, 626, 649, 682, 705, 758, 781, 804, 891, 914, 947, 990, 1033, 1066, 1089, 1132, 1165, 1218, 1251, 1314, 1337, 1360, 1383, 1466, 1515, 1558, 1571, 1604, 1628, 1641, 1684, 1727, 1760, 1793, 1826, 1875, 1898, 1911, 1944, 1977, 2041, 2064], 0, 0, 0), (256, .aload_n 1, 0, 0, 0), (257, .aload_n 0, 0, 0, 0)]
def v306_0_1 : List QE := [(258, .iload_n 3, 0, 0, 0), (259, .iconst 1, 0, 0, 0), (260, .iadd, 0, 0, 0), (261, .iaload, 0, 0, 0), (262, .invokevirtual 13, 114, 1, 0), (265, .aload_n 2, 0, 0, 0), (266, .aload_n 0, 0, 0, 0), (267, .iload_n 3, 0, 0, 0), (268, .iconst 1, 0, 0, 0), (269, .iadd, 0, 0, 0), (270, .iaload, 0, 0, 0), (271, .invokevirtual 17, 190, 1, 0), (274, .if_icmp .eq 1846, 2120, 0, 0), (277, .iconst 0, 0, 0, 0), (278, .ireturn, 0, 0, 1), (279, .aload_n 1, 0, 0, 0), (280, .aload_n 0, 0, 0, 0), (281, .iload_n 3, 0, 0, 0), (282, .iconst 1, 0, 0, 0), (283, .iadd, 0, 0, 0), (284, .iaload, 0, 0, 0), (285, .invokevirtual 18, 115, 1, 0), (288, .aload_n 2, 0, 0, 0), (289, .aload_n 0, 0, 0, 0)]
def v306_0_2 : List QE := [(290, .iload_n 3, 0, 0, 0), (291, .iconst 1, 0, 0, 0), (292, .iadd, 0, 0, 0), (293, .iaload, 0, 0, 0), (294, .invokevirtual 22, 191, 1, 0), (297, .if_icmp .eq 1823, 2120, 0, 0), (300, .iconst 0, 0, 0, 0), (301, .ireturn, 0, 0, 1), (302, .aload_n 1, 0, 0, 0), (303, .aload_n 0, 0, 0, 0), (304, .iload_n 3, 0, 0, 0), (305, .iconst 1, 0, 0, 0), (306, .iadd, 0, 0, 0), (307, .iaload, 0, 0, 0), (308, .aload_n 0, 0, 0, 0), (309, .iload_n 3, 0, 0, 0), (310, .iconst 2, 0, 0, 0), (311, .iadd, 0, 0, 0), (312, .iaload, 0, 0, 0), (313, .aload_n 0, 0, 0, 0), (314, .iload_n 3, 0, 0, 0), (315, .iconst 3, 0, 0, 0), (316, .iadd, 0, 0, 0), (317, .iaload, 0, 0, 0)]
def v306_0_3 : List QE := [(318, .i2l, 0, 0, 0), (319, .bipush 32, 0, 0, 0), (321, .lshl, 0, 0, 0), (322, .aload_n 0, 0, 0, 0), (323, .iload_n 3, 0, 0, 0), (324, .iconst 4, 0, 0, 0), (325, .iadd, 0, 0, 0), (326, .iaload, 0, 0, 0), (327, .i2l, 0, 0, 0), (328, .ldc2_w 23, 0, 0, 4294967295), (331, .land, 0, 0, 0), (332, .lor, 0, 0, 0), (333, .invokevirtual 25, 116, 3, 0), (336, .aload_n 2, 0, 0, 0), (337, .aload_n 0, 0, 0, 0), (338, .iload_n 3, 0, 0, 0), (339, .iconst 1, 0, 0, 0), (340, .iadd, 0, 0, 0), (341, .iaload, 0, 0, 0), (342, .aload_n 0, 0, 0, 0), (343, .iload_n 3, 0, 0, 0), (344, .iconst 2, 0, 0, 0), (345, .iadd, 0, 0, 0), (346, .iaload, 0, 0, 0)]
def v306_0_4 : List QE := [(347, .aload_n 0, 0, 0, 0), (348, .iload_n 3, 0, 0, 0), (349, .iconst 3, 0, 0, 0), (350, .iadd, 0, 0, 0), (351, .iaload, 0, 0, 0), (352, .i2l, 0, 0, 0), (353, .bipush 32, 0, 0, 0), (355, .lshl, 0, 0, 0), (356, .aload_n 0, 0, 0, 0), (357, .iload_n 3, 0, 0, 0), (358, .iconst 4, 0, 0, 0), (359, .iadd, 0, 0, 0), (360, .iaload, 0, 0, 0), (361, .i2l, 0, 0, 0), (362, .ldc2_w 23, 0, 0, 4294967295), (365, .land, 0, 0, 0), (366, .lor, 0, 0, 0), (367, .invokevirtual 29, 192, 3, 0), (370, .if_icmp .eq 1750, 2120, 0, 0), (373, .iconst 0, 0, 0, 0), (374, .ireturn, 0, 0, 1), (375, .aload_n 1, 0, 0, 0), (376, .aload_n 0, 0, 0, 0), (377, .iload_n 3, 0, 0, 0)]
def v306_0_5 : List QE := [(378, .iconst 1, 0, 0, 0), (379, .iadd, 0, 0, 0), (380, .iaload, 0, 0, 0), (381, .aload_n 0, 0, 0, 0), (382, .iload_n 3, 0, 0, 0), (383, .iconst 2, 0, 0, 0), (384, .iadd, 0, 0, 0), (385, .iaload, 0, 0, 0), (386, .invokevirtual 30, 117, 2, 0), (389, .aload_n 2, 0, 0, 0), (390, .aload_n 0, 0, 0, 0), (391, .iload_n 3, 0, 0, 0), (392, .iconst 1, 0, 0, 0), (393, .iadd, 0, 0, 0), (394, .iaload, 0, 0, 0), (395, .aload_n 0, 0, 0, 0), (396, .iload_n 3, 0, 0, 0), (397, .iconst 2, 0, 0, 0), (398, .iadd, 0, 0, 0), (399, .iaload, 0, 0, 0), (400, .invokevirtual 34, 194, 2, 0), (403, .if_icmp .eq 1717, 2120, 0, 0), (406, .iconst 0, 0, 0, 0), (407, .ireturn, 0, 0, 1)]
def v306_0_6 : List QE := [(408, .aload_n 1, 0, 0, 0), (409, .aload_n 0, 0, 0, 0), (410, .iload_n 3, 0, 0, 0), (411, .iconst 1, 0, 0, 0), (412, .iadd, 0, 0, 0), (413, .iaload, 0, 0, 0), (414, .aload_n 0, 0, 0, 0), (415, .iload_n 3, 0, 0, 0), (416, .iconst 2, 0, 0, 0), (417, .iadd, 0, 0, 0), (418, .iaload, 0, 0, 0), (419, .aload_n 0, 0, 0, 0), (420, .iload_n 3, 0, 0, 0), (421, .iconst 3, 0, 0, 0), (422, .iadd, 0, 0, 0), (423, .iaload, 0, 0, 0), (424, .invokevirtual 35, 118, 3, 0), (427, .aload_n 2, 0, 0, 0), (428, .aload_n 0, 0, 0, 0), (429, .iload_n 3, 0, 0, 0), (430, .iconst 1, 0, 0, 0), (431, .iadd, 0, 0, 0), (432, .iaload, 0, 0, 0), (433, .aload_n 0, 0, 0, 0)]
def v306_0_7 : List QE := [(434, .iload_n 3, 0, 0, 0), (435, .iconst 2, 0, 0, 0), (436, .iadd, 0, 0, 0), (437, .iaload, 0, 0, 0), (438, .aload_n 0, 0, 0, 0), (439, .iload_n 3, 0, 0, 0), (440, .iconst 3, 0, 0, 0), (441, .iadd, 0, 0, 0), (442, .iaload, 0, 0, 0), (443, .invokevirtual 39, 196, 3, 0), (446, .if_icmp .eq 1674, 2120, 0, 0), (449, .iconst 0, 0, 0, 0), (450, .ireturn, 0, 0, 1), (451, .aload_n 1, 0, 0, 0), (452, .aload_n 0, 0, 0, 0), (453, .iload_n 3, 0, 0, 0), (454, .iconst 1, 0, 0, 0), (455, .iadd, 0, 0, 0), (456, .iaload, 0, 0, 0), (457, .aload_n 0, 0, 0, 0), (458, .iload_n 3, 0, 0, 0), (459, .iconst 2, 0, 0, 0), (460, .iadd, 0, 0, 0), (461, .iaload, 0, 0, 0)]
def v306_0_8 : List QE := [(462, .aload_n 0, 0, 0, 0), (463, .iload_n 3, 0, 0, 0), (464, .iconst 3, 0, 0, 0), (465, .iadd, 0, 0, 0), (466, .iaload, 0, 0, 0), (467, .invokevirtual 40, 119, 3, 0), (470, .aload_n 2, 0, 0, 0), (471, .aload_n 0, 0, 0, 0)]
set_option maxRecDepth 100000 in
theorem v306_s0 : q306_0 = v306_0_0 ++ (v306_0_1 ++ (v306_0_2 ++ (v306_0_3 ++ (v306_0_4 ++ (v306_0_5 ++ (v306_0_6 ++ (v306_0_7 ++ (v306_0_8)))))))) := rfl
theorem v306_t0 {pc : Nat} {x : QE} (h : 0 ≤ pc) (e : q306_0.find? (fun e => e.1 == pc) = some x) : fetch 306 pc = some x.2 := by
  have hq : qcode 306 = q306 := rfl
  have hf : q306.find? (fun e => e.1 == pc) = some x := by
    unfold q306
    exact find_left (find_left (find_left (find_left (find_left (find_left (find_left (e)))))))
  unfold fetch
  rw [hq, hf]
  rfl
theorem v306_u0_0 {pc : Nat} {x : QE} (h : 0 ≤ pc) (e : v306_0_0.find? (fun e => e.1 == pc) = some x) : fetch 306 pc = some x.2 := by
  refine v306_t0 (by omega) ?_
  rw [v306_s0]
  exact find_left e
theorem v306_u0_1 {pc : Nat} {x : QE} (h : 258 ≤ pc) (e : v306_0_1.find? (fun e => e.1 == pc) = some x) : fetch 306 pc = some x.2 := by
  refine v306_t0 (by omega) ?_
  rw [v306_s0]
  exact find_skip (M := 258) (by decide +kernel) (by omega) (find_left e)
theorem v306_u0_2 {pc : Nat} {x : QE} (h : 290 ≤ pc) (e : v306_0_2.find? (fun e => e.1 == pc) = some x) : fetch 306 pc = some x.2 := by
  refine v306_t0 (by omega) ?_
  rw [v306_s0]
  exact find_skip (M := 258) (by decide +kernel) (by omega) (find_skip (M := 290) (by decide +kernel) (by omega) (find_left e))
theorem v306_u0_3 {pc : Nat} {x : QE} (h : 318 ≤ pc) (e : v306_0_3.find? (fun e => e.1 == pc) = some x) : fetch 306 pc = some x.2 := by
  refine v306_t0 (by omega) ?_
  rw [v306_s0]
  exact find_skip (M := 258) (by decide +kernel) (by omega) (find_skip (M := 290) (by decide +kernel) (by omega) (find_skip (M := 318) (by decide +kernel) (by omega) (find_left e)))
theorem v306_u0_4 {pc : Nat} {x : QE} (h : 347 ≤ pc) (e : v306_0_4.find? (fun e => e.1 == pc) = some x) : fetch 306 pc = some x.2 := by
  refine v306_t0 (by omega) ?_
  rw [v306_s0]
  exact find_skip (M := 258) (by decide +kernel) (by omega) (find_skip (M := 290) (by decide +kernel) (by omega) (find_skip (M := 318) (by decide +kernel) (by omega) (find_skip (M := 347) (by decide +kernel) (by omega) (find_left e))))
theorem v306_u0_5 {pc : Nat} {x : QE} (h : 378 ≤ pc) (e : v306_0_5.find? (fun e => e.1 == pc) = some x) : fetch 306 pc = some x.2 := by
  refine v306_t0 (by omega) ?_
  rw [v306_s0]
  exact find_skip (M := 258) (by decide +kernel) (by omega) (find_skip (M := 290) (by decide +kernel) (by omega) (find_skip (M := 318) (by decide +kernel) (by omega) (find_skip (M := 347) (by decide +kernel) (by omega) (find_skip (M := 378) (by decide +kernel) (by omega) (find_left e)))))
theorem v306_u0_6 {pc : Nat} {x : QE} (h : 408 ≤ pc) (e : v306_0_6.find? (fun e => e.1 == pc) = some x) : fetch 306 pc = some x.2 := by
  refine v306_t0 (by omega) ?_
  rw [v306_s0]
  exact find_skip (M := 258) (by decide +kernel) (by omega) (find_skip (M := 290) (by decide +kernel) (by omega) (find_skip (M := 318) (by decide +kernel) (by omega) (find_skip (M := 347) (by decide +kernel) (by omega) (find_skip (M := 378) (by decide +kernel) (by omega) (find_skip (M := 408) (by decide +kernel) (by omega) (find_left e))))))
theorem v306_u0_7 {pc : Nat} {x : QE} (h : 434 ≤ pc) (e : v306_0_7.find? (fun e => e.1 == pc) = some x) : fetch 306 pc = some x.2 := by
  refine v306_t0 (by omega) ?_
  rw [v306_s0]
  exact find_skip (M := 258) (by decide +kernel) (by omega) (find_skip (M := 290) (by decide +kernel) (by omega) (find_skip (M := 318) (by decide +kernel) (by omega) (find_skip (M := 347) (by decide +kernel) (by omega) (find_skip (M := 378) (by decide +kernel) (by omega) (find_skip (M := 408) (by decide +kernel) (by omega) (find_skip (M := 434) (by decide +kernel) (by omega) (find_left e)))))))
theorem v306_u0_8 {pc : Nat} {x : QE} (h : 462 ≤ pc) (e : v306_0_8.find? (fun e => e.1 == pc) = some x) : fetch 306 pc = some x.2 := by
  refine v306_t0 (by omega) ?_
  rw [v306_s0]
  exact find_skip (M := 258) (by decide +kernel) (by omega) (find_skip (M := 290) (by decide +kernel) (by omega) (find_skip (M := 318) (by decide +kernel) (by omega) (find_skip (M := 347) (by decide +kernel) (by omega) (find_skip (M := 378) (by decide +kernel) (by omega) (find_skip (M := 408) (by decide +kernel) (by omega) (find_skip (M := 434) (by decide +kernel) (by omega) (find_skip (M := 462) (by decide +kernel) (by omega) (e))))))))
def v306_1_0 : List QE := [(472, .iload_n 3, 0, 0, 0), (473, .iconst 1, 0, 0, 0), (474, .iadd, 0, 0, 0), (475, .iaload, 0, 0, 0), (476, .aload_n 0, 0, 0, 0), (477, .iload_n 3, 0, 0, 0), (478, .iconst 2, 0, 0, 0), (479, .iadd, 0, 0, 0), (480, .iaload, 0, 0, 0), (481, .aload_n 0, 0, 0, 0), (482, .iload_n 3, 0, 0, 0), (483, .iconst 3, 0, 0, 0), (484, .iadd, 0, 0, 0), (485, .iaload, 0, 0, 0), (486, .invokevirtual 43, 201, 3, 0), (489, .if_icmp .eq 1631, 2120, 0, 0), (492, .iconst 0, 0, 0, 0), (493, .ireturn, 0, 0, 1), (494, .aload_n 1, 0, 0, 0), (495, .aload_n 0, 0, 0, 0), (496, .iload_n 3, 0, 0, 0), (497, .iconst 1, 0, 0, 0), (498, .iadd, 0, 0, 0), (499, .iaload, 0, 0, 0)]
def v306_1_1 : List QE := [(500, .aload_n 0, 0, 0, 0), (501, .iload_n 3, 0, 0, 0), (502, .iconst 2, 0, 0, 0), (503, .iadd, 0, 0, 0), (504, .iaload, 0, 0, 0), (505, .invokevirtual 44, 120, 2, 0), (508, .aload_n 2, 0, 0, 0), (509, .aload_n 0, 0, 0, 0), (510, .iload_n 3, 0, 0, 0), (511, .iconst 1, 0, 0, 0), (512, .iadd, 0, 0, 0), (513, .iaload, 0, 0, 0), (514, .aload_n 0, 0, 0, 0), (515, .iload_n 3, 0, 0, 0), (516, .iconst 2, 0, 0, 0), (517, .iadd, 0, 0, 0), (518, .iaload, 0, 0, 0), (519, .invokevirtual 47, 202, 2, 0), (522, .if_icmp .eq 1598, 2120, 0, 0), (525, .iconst 0, 0, 0, 0), (526, .ireturn, 0, 0, 1), (527, .aload_n 1, 0, 0, 0), (528, .aload_n 0, 0, 0, 0), (529, .iload_n 3, 0, 0, 0)]
def v306_1_2 : List QE := [(530, .iconst 1, 0, 0, 0), (531, .iadd, 0, 0, 0), (532, .iaload, 0, 0, 0), (533, .aload_n 0, 0, 0, 0), (534, .iload_n 3, 0, 0, 0), (535, .iconst 2, 0, 0, 0), (536, .iadd, 0, 0, 0), (537, .iaload, 0, 0, 0), (538, .aload_n 0, 0, 0, 0), (539, .iload_n 3, 0, 0, 0), (540, .iconst 3, 0, 0, 0), (541, .iadd, 0, 0, 0), (542, .iaload, 0, 0, 0), (543, .i2l, 0, 0, 0), (544, .bipush 32, 0, 0, 0), (546, .lshl, 0, 0, 0), (547, .aload_n 0, 0, 0, 0), (548, .iload_n 3, 0, 0, 0), (549, .iconst 4, 0, 0, 0), (550, .iadd, 0, 0, 0), (551, .iaload, 0, 0, 0), (552, .i2l, 0, 0, 0), (553, .ldc2_w 23, 0, 0, 4294967295), (556, .land, 0, 0, 0)]
def v306_1_3 : List QE := [(557, .lor, 0, 0, 0), (558, .invokevirtual 48, 121, 3, 0), (561, .aload_n 2, 0, 0, 0), (562, .aload_n 0, 0, 0, 0), (563, .iload_n 3, 0, 0, 0), (564, .iconst 1, 0, 0, 0), (565, .iadd, 0, 0, 0), (566, .iaload, 0, 0, 0), (567, .aload_n 0, 0, 0, 0), (568, .iload_n 3, 0, 0, 0), (569, .iconst 2, 0, 0, 0), (570, .iadd, 0, 0, 0), (571, .iaload, 0, 0, 0), (572, .aload_n 0, 0, 0, 0), (573, .iload_n 3, 0, 0, 0), (574, .iconst 3, 0, 0, 0), (575, .iadd, 0, 0, 0), (576, .iaload, 0, 0, 0), (577, .i2l, 0, 0, 0), (578, .bipush 32, 0, 0, 0), (580, .lshl, 0, 0, 0), (581, .aload_n 0, 0, 0, 0), (582, .iload_n 3, 0, 0, 0), (583, .iconst 4, 0, 0, 0)]
def v306_1_4 : List QE := [(584, .iadd, 0, 0, 0), (585, .iaload, 0, 0, 0), (586, .i2l, 0, 0, 0), (587, .ldc2_w 23, 0, 0, 4294967295), (590, .land, 0, 0, 0), (591, .lor, 0, 0, 0), (592, .invokevirtual 51, 203, 3, 0), (595, .if_icmp .eq 1525, 2120, 0, 0), (598, .iconst 0, 0, 0, 0), (599, .ireturn, 0, 0, 1), (600, .aload_n 1, 0, 0, 0), (601, .aload_n 0, 0, 0, 0), (602, .iload_n 3, 0, 0, 0), (603, .iconst 1, 0, 0, 0), (604, .iadd, 0, 0, 0), (605, .iaload, 0, 0, 0), (606, .invokevirtual 52, 122, 1, 0), (609, .aload_n 2, 0, 0, 0), (610, .aload_n 0, 0, 0, 0), (611, .iload_n 3, 0, 0, 0), (612, .iconst 1, 0, 0, 0), (613, .iadd, 0, 0, 0), (614, .iaload, 0, 0, 0), (615, .invokevirtual 55, 207, 1, 0)]
def v306_1_5 : List QE := [(618, .if_icmp .eq 1502, 2120, 0, 0), (621, .iconst 0, 0, 0, 0), (622, .ireturn, 0, 0, 1), (623, .aload_n 1, 0, 0, 0), (624, .invokevirtual 56, 123, 0, 0), (627, .aload_n 2, 0, 0, 0), (628, .invokevirtual 60, 204, 0, 0), (631, .if_icmp .eq 1489, 2120, 0, 0), (634, .iconst 0, 0, 0, 0), (635, .ireturn, 0, 0, 1), (636, .aload_n 1, 0, 0, 0), (637, .aload_n 0, 0, 0, 0), (638, .iload_n 3, 0, 0, 0), (639, .iconst 1, 0, 0, 0), (640, .iadd, 0, 0, 0), (641, .iaload, 0, 0, 0), (642, .invokevirtual 61, 124, 1, 0), (645, .aload_n 2, 0, 0, 0), (646, .aload_n 0, 0, 0, 0), (647, .iload_n 3, 0, 0, 0), (648, .iconst 1, 0, 0, 0), (649, .iadd, 0, 0, 0), (650, .iaload, 0, 0, 0), (651, .invokevirtual 64, 208, 1, 0)]
def v306_1_6 : List QE := [(654, .if_icmp .eq 1466, 2120, 0, 0), (657, .iconst 0, 0, 0, 0), (658, .ireturn, 0, 0, 1), (659, .aload_n 1, 0, 0, 0), (660, .aload_n 0, 0, 0, 0), (661, .iload_n 3, 0, 0, 0), (662, .iconst 1, 0, 0, 0), (663, .iadd, 0, 0, 0), (664, .iaload, 0, 0, 0), (665, .invokevirtual 65, 125, 1, 0), (668, .aload_n 2, 0, 0, 0), (669, .aload_n 0, 0, 0, 0), (670, .iload_n 3, 0, 0, 0), (671, .iconst 1, 0, 0, 0), (672, .iadd, 0, 0, 0), (673, .iaload, 0, 0, 0), (674, .invokevirtual 68, 209, 1, 0), (677, .if_icmp .eq 1443, 2120, 0, 0), (680, .iconst 0, 0, 0, 0), (681, .ireturn, 0, 0, 1), (682, .aload_n 1, 0, 0, 0), (683, .aload_n 0, 0, 0, 0), (684, .iload_n 3, 0, 0, 0), (685, .iconst 1, 0, 0, 0)]
def v306_1_7 : List QE := [(686, .iadd, 0, 0, 0), (687, .iaload, 0, 0, 0), (688, .aload_n 0, 0, 0, 0), (689, .iload_n 3, 0, 0, 0), (690, .iconst 2, 0, 0, 0), (691, .iadd, 0, 0, 0), (692, .iaload, 0, 0, 0), (693, .invokevirtual 69, 126, 2, 0), (696, .aload_n 2, 0, 0, 0), (697, .aload_n 0, 0, 0, 0), (698, .iload_n 3, 0, 0, 0), (699, .iconst 1, 0, 0, 0), (700, .iadd, 0, 0, 0), (701, .iaload, 0, 0, 0), (702, .aload_n 0, 0, 0, 0), (703, .iload_n 3, 0, 0, 0), (704, .iconst 2, 0, 0, 0), (705, .iadd, 0, 0, 0), (706, .iaload, 0, 0, 0), (707, .invokevirtual 72, 211, 2, 0), (710, .if_icmp .eq 1410, 2120, 0, 0), (713, .iconst 0, 0, 0, 0), (714, .ireturn, 0, 0, 1), (715, .aload_n 1, 0, 0, 0)]
def v306_1_8 : List QE := [(716, .aload_n 0, 0, 0, 0), (717, .iload_n 3, 0, 0, 0), (718, .iconst 1, 0, 0, 0), (719, .iadd, 0, 0, 0), (720, .iaload, 0, 0, 0), (721, .invokevirtual 73, 127, 1, 0), (724, .aload_n 2, 0, 0, 0), (725, .aload_n 0, 0, 0, 0)]
set_option maxRecDepth 100000 in
theorem v306_s1 : q306_1 = v306_1_0 ++ (v306_1_1 ++ (v306_1_2 ++ (v306_1_3 ++ (v306_1_4 ++ (v306_1_5 ++ (v306_1_6 ++ (v306_1_7 ++ (v306_1_8)))))))) := rfl
theorem v306_t1 {pc : Nat} {x : QE} (h : 472 ≤ pc) (e : q306_1.find? (fun e => e.1 == pc) = some x) : fetch 306 pc = some x.2 := by
  have hq : qcode 306 = q306 := rfl
  have hf : q306.find? (fun e => e.1 == pc) = some x := by
    unfold q306
    exact find_left (find_left (find_left (find_left (find_left (find_left (find_skip (A := q306_0) (M := 472) (by decide +kernel) h e))))))
  unfold fetch
  rw [hq, hf]
  rfl
theorem v306_u1_0 {pc : Nat} {x : QE} (h : 472 ≤ pc) (e : v306_1_0.find? (fun e => e.1 == pc) = some x) : fetch 306 pc = some x.2 := by
  refine v306_t1 (by omega) ?_
  rw [v306_s1]
  exact find_left e
theorem v306_u1_1 {pc : Nat} {x : QE} (h : 500 ≤ pc) (e : v306_1_1.find? (fun e => e.1 == pc) = some x) : fetch 306 pc = some x.2 := by
  refine v306_t1 (by omega) ?_
  rw [v306_s1]
  exact find_skip (M := 500) (by decide +kernel) (by omega) (find_left e)
theorem v306_u1_2 {pc : Nat} {x : QE} (h : 530 ≤ pc) (e : v306_1_2.find? (fun e => e.1 == pc) = some x) : fetch 306 pc = some x.2 := by
  refine v306_t1 (by omega) ?_
  rw [v306_s1]
  exact find_skip (M := 500) (by decide +kernel) (by omega) (find_skip (M := 530) (by decide +kernel) (by omega) (find_left e))
theorem v306_u1_3 {pc : Nat} {x : QE} (h : 557 ≤ pc) (e : v306_1_3.find? (fun e => e.1 == pc) = some x) : fetch 306 pc = some x.2 := by
  refine v306_t1 (by omega) ?_
  rw [v306_s1]
  exact find_skip (M := 500) (by decide +kernel) (by omega) (find_skip (M := 530) (by decide +kernel) (by omega) (find_skip (M := 557) (by decide +kernel) (by omega) (find_left e)))
theorem v306_u1_4 {pc : Nat} {x : QE} (h : 584 ≤ pc) (e : v306_1_4.find? (fun e => e.1 == pc) = some x) : fetch 306 pc = some x.2 := by
  refine v306_t1 (by omega) ?_
  rw [v306_s1]
  exact find_skip (M := 500) (by decide +kernel) (by omega) (find_skip (M := 530) (by decide +kernel) (by omega) (find_skip (M := 557) (by decide +kernel) (by omega) (find_skip (M := 584) (by decide +kernel) (by omega) (find_left e))))
theorem v306_u1_5 {pc : Nat} {x : QE} (h : 618 ≤ pc) (e : v306_1_5.find? (fun e => e.1 == pc) = some x) : fetch 306 pc = some x.2 := by
  refine v306_t1 (by omega) ?_
  rw [v306_s1]
  exact find_skip (M := 500) (by decide +kernel) (by omega) (find_skip (M := 530) (by decide +kernel) (by omega) (find_skip (M := 557) (by decide +kernel) (by omega) (find_skip (M := 584) (by decide +kernel) (by omega) (find_skip (M := 618) (by decide +kernel) (by omega) (find_left e)))))
theorem v306_u1_6 {pc : Nat} {x : QE} (h : 654 ≤ pc) (e : v306_1_6.find? (fun e => e.1 == pc) = some x) : fetch 306 pc = some x.2 := by
  refine v306_t1 (by omega) ?_
  rw [v306_s1]
  exact find_skip (M := 500) (by decide +kernel) (by omega) (find_skip (M := 530) (by decide +kernel) (by omega) (find_skip (M := 557) (by decide +kernel) (by omega) (find_skip (M := 584) (by decide +kernel) (by omega) (find_skip (M := 618) (by decide +kernel) (by omega) (find_skip (M := 654) (by decide +kernel) (by omega) (find_left e))))))
theorem v306_u1_7 {pc : Nat} {x : QE} (h : 686 ≤ pc) (e : v306_1_7.find? (fun e => e.1 == pc) = some x) : fetch 306 pc = some x.2 := by
  refine v306_t1 (by omega) ?_
  rw [v306_s1]
  exact find_skip (M := 500) (by decide +kernel) (by omega) (find_skip (M := 530) (by decide +kernel) (by omega) (find_skip (M := 557) (by decide +kernel) (by omega) (find_skip (M := 584) (by decide +kernel) (by omega) (find_skip (M := 618) (by decide +kernel) (by omega) (find_skip (M := 654) (by decide +kernel) (by omega) (find_skip (M := 686) (by decide +kernel) (by omega) (find_left e)))))))
theorem v306_u1_8 {pc : Nat} {x : QE} (h : 716 ≤ pc) (e : v306_1_8.find? (fun e => e.1 == pc) = some x) : fetch 306 pc = some x.2 := by
  refine v306_t1 (by omega) ?_
  rw [v306_s1]
  exact find_skip (M := 500) (by decide +kernel) (by omega) (find_skip (M := 530) (by decide +kernel) (by omega) (find_skip (M := 557) (by decide +kernel) (by omega) (find_skip (M := 584) (by decide +kernel) (by omega) (find_skip (M := 618) (by decide +kernel) (by omega) (find_skip (M := 654) (by decide +kernel) (by omega) (find_skip (M := 686) (by decide +kernel) (by omega) (find_skip (M := 716) (by decide +kernel) (by omega) (e))))))))
def v306_2_0 : List QE := [(726, .iload_n 3, 0, 0, 0), (727, .iconst 1, 0, 0, 0), (728, .iadd, 0, 0, 0), (729, .iaload, 0, 0, 0), (730, .invokevirtual 76, 212, 1, 0), (733, .if_icmp .eq 1387, 2120, 0, 0), (736, .iconst 0, 0, 0, 0), (737, .ireturn, 0, 0, 1), (738, .aload_n 1, 0, 0, 0), (739, .aload_n 0, 0, 0, 0), (740, .iload_n 3, 0, 0, 0), (741, .iconst 1, 0, 0, 0), (742, .iadd, 0, 0, 0), (743, .iaload, 0, 0, 0), (744, .aload_n 0, 0, 0, 0), (745, .iload_n 3, 0, 0, 0), (746, .iconst 2, 0, 0, 0), (747, .iadd, 0, 0, 0), (748, .iaload, 0, 0, 0), (749, .aload_n 0, 0, 0, 0), (750, .iload_n 3, 0, 0, 0), (751, .iconst 3, 0, 0, 0), (752, .iadd, 0, 0, 0), (753, .iaload, 0, 0, 0)]
def v306_2_1 : List QE := [(754, .aload_n 0, 0, 0, 0), (755, .iload_n 3, 0, 0, 0), (756, .iconst 4, 0, 0, 0), (757, .iadd, 0, 0, 0), (758, .iaload, 0, 0, 0), (759, .invokevirtual 77, 128, 4, 0), (762, .aload_n 2, 0, 0, 0), (763, .aload_n 0, 0, 0, 0), (764, .iload_n 3, 0, 0, 0), (765, .iconst 1, 0, 0, 0), (766, .iadd, 0, 0, 0), (767, .iaload, 0, 0, 0), (768, .aload_n 0, 0, 0, 0), (769, .iload_n 3, 0, 0, 0), (770, .iconst 2, 0, 0, 0), (771, .iadd, 0, 0, 0), (772, .iaload, 0, 0, 0), (773, .aload_n 0, 0, 0, 0), (774, .iload_n 3, 0, 0, 0), (775, .iconst 3, 0, 0, 0), (776, .iadd, 0, 0, 0), (777, .iaload, 0, 0, 0), (778, .aload_n 0, 0, 0, 0), (779, .iload_n 3, 0, 0, 0)]
def v306_2_2 : List QE := [(780, .iconst 4, 0, 0, 0), (781, .iadd, 0, 0, 0), (782, .iaload, 0, 0, 0), (783, .invokevirtual 81, 214, 4, 0), (786, .if_icmp .eq 1334, 2120, 0, 0), (789, .iconst 0, 0, 0, 0), (790, .ireturn, 0, 0, 1), (791, .aload_n 1, 0, 0, 0), (792, .aload_n 0, 0, 0, 0), (793, .iload_n 3, 0, 0, 0), (794, .iconst 1, 0, 0, 0), (795, .iadd, 0, 0, 0), (796, .iaload, 0, 0, 0), (797, .invokevirtual 82, 129, 1, 0), (800, .aload_n 2, 0, 0, 0), (801, .aload_n 0, 0, 0, 0), (802, .iload_n 3, 0, 0, 0), (803, .iconst 1, 0, 0, 0), (804, .iadd, 0, 0, 0), (805, .iaload, 0, 0, 0), (806, .invokevirtual 85, 215, 1, 0), (809, .if_icmp .eq 1311, 2120, 0, 0), (812, .iconst 0, 0, 0, 0), (813, .ireturn, 0, 0, 1)]
def v306_2_3 : List QE := [(814, .aload_n 1, 0, 0, 0), (815, .aload_n 0, 0, 0, 0), (816, .iload_n 3, 0, 0, 0), (817, .iconst 1, 0, 0, 0), (818, .iadd, 0, 0, 0), (819, .iaload, 0, 0, 0), (820, .invokevirtual 86, 130, 1, 0), (823, .aload_n 2, 0, 0, 0), (824, .aload_n 0, 0, 0, 0), (825, .iload_n 3, 0, 0, 0), (826, .iconst 1, 0, 0, 0), (827, .iadd, 0, 0, 0), (828, .iaload, 0, 0, 0), (829, .invokevirtual 89, 217, 1, 0), (832, .if_icmp .eq 1288, 2120, 0, 0), (835, .iconst 0, 0, 0, 0), (836, .ireturn, 0, 0, 1), (837, .aload_n 1, 0, 0, 0), (838, .aload_n 0, 0, 0, 0), (839, .iload_n 3, 0, 0, 0), (840, .iconst 1, 0, 0, 0), (841, .iadd, 0, 0, 0), (842, .iaload, 0, 0, 0), (843, .aload_n 0, 0, 0, 0)]
def v306_2_4 : List QE := [(844, .iload_n 3, 0, 0, 0), (845, .iconst 2, 0, 0, 0), (846, .iadd, 0, 0, 0), (847, .iaload, 0, 0, 0), (848, .aload_n 0, 0, 0, 0), (849, .iload_n 3, 0, 0, 0), (850, .iconst 3, 0, 0, 0), (851, .iadd, 0, 0, 0), (852, .iaload, 0, 0, 0), (853, .aload_n 0, 0, 0, 0), (854, .iload_n 3, 0, 0, 0), (855, .iconst 4, 0, 0, 0), (856, .iadd, 0, 0, 0), (857, .iaload, 0, 0, 0), (858, .aload_n 0, 0, 0, 0), (859, .iload_n 3, 0, 0, 0), (860, .iconst 5, 0, 0, 0), (861, .iadd, 0, 0, 0), (862, .iaload, 0, 0, 0), (863, .aload_n 0, 0, 0, 0), (864, .iload_n 3, 0, 0, 0), (865, .bipush 6, 0, 0, 0), (867, .iadd, 0, 0, 0), (868, .iaload, 0, 0, 0)]
def v306_2_5 : List QE := [(869, .aload_n 0, 0, 0, 0), (870, .iload_n 3, 0, 0, 0), (871, .bipush 7, 0, 0, 0), (873, .iadd, 0, 0, 0), (874, .iaload, 0, 0, 0), (875, .invokevirtual 90, 131, 7, 0), (878, .aload_n 2, 0, 0, 0), (879, .aload_n 0, 0, 0, 0), (880, .iload_n 3, 0, 0, 0), (881, .iconst 1, 0, 0, 0), (882, .iadd, 0, 0, 0), (883, .iaload, 0, 0, 0), (884, .aload_n 0, 0, 0, 0), (885, .iload_n 3, 0, 0, 0), (886, .iconst 2, 0, 0, 0), (887, .iadd, 0, 0, 0), (888, .iaload, 0, 0, 0), (889, .aload_n 0, 0, 0, 0), (890, .iload_n 3, 0, 0, 0), (891, .iconst 3, 0, 0, 0), (892, .iadd, 0, 0, 0), (893, .iaload, 0, 0, 0), (894, .aload_n 0, 0, 0, 0), (895, .iload_n 3, 0, 0, 0)]
def v306_2_6 : List QE := [(896, .iconst 4, 0, 0, 0), (897, .iadd, 0, 0, 0), (898, .iaload, 0, 0, 0), (899, .aload_n 0, 0, 0, 0), (900, .iload_n 3, 0, 0, 0), (901, .iconst 5, 0, 0, 0), (902, .iadd, 0, 0, 0), (903, .iaload, 0, 0, 0), (904, .aload_n 0, 0, 0, 0), (905, .iload_n 3, 0, 0, 0), (906, .bipush 6, 0, 0, 0), (908, .iadd, 0, 0, 0), (909, .iaload, 0, 0, 0), (910, .aload_n 0, 0, 0, 0), (911, .iload_n 3, 0, 0, 0), (912, .bipush 7, 0, 0, 0), (914, .iadd, 0, 0, 0), (915, .iaload, 0, 0, 0), (916, .invokevirtual 94, 219, 7, 0), (919, .if_icmp .eq 1201, 2120, 0, 0), (922, .iconst 0, 0, 0, 0), (923, .ireturn, 0, 0, 1), (924, .aload_n 1, 0, 0, 0), (925, .aload_n 0, 0, 0, 0)]
def v306_2_7 : List QE := [(926, .iload_n 3, 0, 0, 0), (927, .iconst 1, 0, 0, 0), (928, .iadd, 0, 0, 0), (929, .iaload, 0, 0, 0), (930, .invokevirtual 95, 132, 1, 0), (933, .aload_n 2, 0, 0, 0), (934, .aload_n 0, 0, 0, 0), (935, .iload_n 3, 0, 0, 0), (936, .iconst 1, 0, 0, 0), (937, .iadd, 0, 0, 0), (938, .iaload, 0, 0, 0), (939, .invokevirtual 98, 221, 1, 0), (942, .if_icmp .eq 1178, 2120, 0, 0), (945, .iconst 0, 0, 0, 0), (946, .ireturn, 0, 0, 1), (947, .aload_n 1, 0, 0, 0), (948, .aload_n 0, 0, 0, 0), (949, .iload_n 3, 0, 0, 0), (950, .iconst 1, 0, 0, 0), (951, .iadd, 0, 0, 0), (952, .iaload, 0, 0, 0), (953, .aload_n 0, 0, 0, 0), (954, .iload_n 3, 0, 0, 0), (955, .iconst 2, 0, 0, 0)]
def v306_2_8 : List QE := [(956, .iadd, 0, 0, 0), (957, .iaload, 0, 0, 0), (958, .invokevirtual 99, 133, 2, 0), (961, .aload_n 2, 0, 0, 0), (962, .aload_n 0, 0, 0, 0), (963, .iload_n 3, 0, 0, 0), (964, .iconst 1, 0, 0, 0), (965, .iadd, 0, 0, 0)]
set_option maxRecDepth 100000 in
theorem v306_s2 : q306_2 = v306_2_0 ++ (v306_2_1 ++ (v306_2_2 ++ (v306_2_3 ++ (v306_2_4 ++ (v306_2_5 ++ (v306_2_6 ++ (v306_2_7 ++ (v306_2_8)))))))) := rfl
theorem v306_t2 {pc : Nat} {x : QE} (h : 726 ≤ pc) (e : q306_2.find? (fun e => e.1 == pc) = some x) : fetch 306 pc = some x.2 := by
  have hq : qcode 306 = q306 := rfl
  have hf : q306.find? (fun e => e.1 == pc) = some x := by
    unfold q306
    exact find_left (find_left (find_left (find_left (find_left (find_skip (A := q306_0 ++ q306_1) (M := 726) (by decide +kernel) h e)))))
  unfold fetch
  rw [hq, hf]
  rfl
theorem v306_u2_0 {pc : Nat} {x : QE} (h : 726 ≤ pc) (e : v306_2_0.find? (fun e => e.1 == pc) = some x) : fetch 306 pc = some x.2 := by
  refine v306_t2 (by omega) ?_
  rw [v306_s2]
  exact find_left e
theorem v306_u2_1 {pc : Nat} {x : QE} (h : 754 ≤ pc) (e : v306_2_1.find? (fun e => e.1 == pc) = some x) : fetch 306 pc = some x.2 := by
  refine v306_t2 (by omega) ?_
  rw [v306_s2]
  exact find_skip (M := 754) (by decide +kernel) (by omega) (find_left e)
theorem v306_u2_2 {pc : Nat} {x : QE} (h : 780 ≤ pc) (e : v306_2_2.find? (fun e => e.1 == pc) = some x) : fetch 306 pc = some x.2 := by
  refine v306_t2 (by omega) ?_
  rw [v306_s2]
  exact find_skip (M := 754) (by decide +kernel) (by omega) (find_skip (M := 780) (by decide +kernel) (by omega) (find_left e))
theorem v306_u2_3 {pc : Nat} {x : QE} (h : 814 ≤ pc) (e : v306_2_3.find? (fun e => e.1 == pc) = some x) : fetch 306 pc = some x.2 := by
  refine v306_t2 (by omega) ?_
  rw [v306_s2]
  exact find_skip (M := 754) (by decide +kernel) (by omega) (find_skip (M := 780) (by decide +kernel) (by omega) (find_skip (M := 814) (by decide +kernel) (by omega) (find_left e)))
theorem v306_u2_4 {pc : Nat} {x : QE} (h : 844 ≤ pc) (e : v306_2_4.find? (fun e => e.1 == pc) = some x) : fetch 306 pc = some x.2 := by
  refine v306_t2 (by omega) ?_
  rw [v306_s2]
  exact find_skip (M := 754) (by decide +kernel) (by omega) (find_skip (M := 780) (by decide +kernel) (by omega) (find_skip (M := 814) (by decide +kernel) (by omega) (find_skip (M := 844) (by decide +kernel) (by omega) (find_left e))))
theorem v306_u2_5 {pc : Nat} {x : QE} (h : 869 ≤ pc) (e : v306_2_5.find? (fun e => e.1 == pc) = some x) : fetch 306 pc = some x.2 := by
  refine v306_t2 (by omega) ?_
  rw [v306_s2]
  exact find_skip (M := 754) (by decide +kernel) (by omega) (find_skip (M := 780) (by decide +kernel) (by omega) (find_skip (M := 814) (by decide +kernel) (by omega) (find_skip (M := 844) (by decide +kernel) (by omega) (find_skip (M := 869) (by decide +kernel) (by omega) (find_left e)))))
theorem v306_u2_6 {pc : Nat} {x : QE} (h : 896 ≤ pc) (e : v306_2_6.find? (fun e => e.1 == pc) = some x) : fetch 306 pc = some x.2 := by
  refine v306_t2 (by omega) ?_
  rw [v306_s2]
  exact find_skip (M := 754) (by decide +kernel) (by omega) (find_skip (M := 780) (by decide +kernel) (by omega) (find_skip (M := 814) (by decide +kernel) (by omega) (find_skip (M := 844) (by decide +kernel) (by omega) (find_skip (M := 869) (by decide +kernel) (by omega) (find_skip (M := 896) (by decide +kernel) (by omega) (find_left e))))))
theorem v306_u2_7 {pc : Nat} {x : QE} (h : 926 ≤ pc) (e : v306_2_7.find? (fun e => e.1 == pc) = some x) : fetch 306 pc = some x.2 := by
  refine v306_t2 (by omega) ?_
  rw [v306_s2]
  exact find_skip (M := 754) (by decide +kernel) (by omega) (find_skip (M := 780) (by decide +kernel) (by omega) (find_skip (M := 814) (by decide +kernel) (by omega) (find_skip (M := 844) (by decide +kernel) (by omega) (find_skip (M := 869) (by decide +kernel) (by omega) (find_skip (M := 896) (by decide +kernel) (by omega) (find_skip (M := 926) (by decide +kernel) (by omega) (find_left e)))))))
theorem v306_u2_8 {pc : Nat} {x : QE} (h : 956 ≤ pc) (e : v306_2_8.find? (fun e => e.1 == pc) = some x) : fetch 306 pc = some x.2 := by
  refine v306_t2 (by omega) ?_
  rw [v306_s2]
  exact find_skip (M := 754) (by decide +kernel) (by omega) (find_skip (M := 780) (by decide +kernel) (by omega) (find_skip (M := 814) (by decide +kernel) (by omega) (find_skip (M := 844) (by decide +kernel) (by omega) (find_skip (M := 869) (by decide +kernel) (by omega) (find_skip (M := 896) (by decide +kernel) (by omega) (find_skip (M := 926) (by decide +kernel) (by omega) (find_skip (M := 956) (by decide +kernel) (by omega) (e))))))))
def v306_3_0 : List QE := [(966, .iaload, 0, 0, 0), (967, .aload_n 0, 0, 0, 0), (968, .iload_n 3, 0, 0, 0), (969, .iconst 2, 0, 0, 0), (970, .iadd, 0, 0, 0), (971, .iaload, 0, 0, 0), (972, .invokevirtual 102, 224, 2, 0), (975, .if_icmp .eq 1145, 2120, 0, 0), (978, .iconst 0, 0, 0, 0), (979, .ireturn, 0, 0, 1), (980, .aload_n 1, 0, 0, 0), (981, .aload_n 0, 0, 0, 0), (982, .iload_n 3, 0, 0, 0), (983, .iconst 1, 0, 0, 0), (984, .iadd, 0, 0, 0), (985, .iaload, 0, 0, 0), (986, .aload_n 0, 0, 0, 0), (987, .iload_n 3, 0, 0, 0), (988, .iconst 2, 0, 0, 0), (989, .iadd, 0, 0, 0), (990, .iaload, 0, 0, 0), (991, .aload_n 0, 0, 0, 0), (992, .iload_n 3, 0, 0, 0), (993, .iconst 3, 0, 0, 0)]
def v306_3_1 : List QE := [(994, .iadd, 0, 0, 0), (995, .iaload, 0, 0, 0), (996, .invokevirtual 103, 134, 3, 0), (999, .aload_n 2, 0, 0, 0), (1000, .aload_n 0, 0, 0, 0), (1001, .iload_n 3, 0, 0, 0), (1002, .iconst 1, 0, 0, 0), (1003, .iadd, 0, 0, 0), (1004, .iaload, 0, 0, 0), (1005, .aload_n 0, 0, 0, 0), (1006, .iload_n 3, 0, 0, 0), (1007, .iconst 2, 0, 0, 0), (1008, .iadd, 0, 0, 0), (1009, .iaload, 0, 0, 0), (1010, .aload_n 0, 0, 0, 0), (1011, .iload_n 3, 0, 0, 0), (1012, .iconst 3, 0, 0, 0), (1013, .iadd, 0, 0, 0), (1014, .iaload, 0, 0, 0), (1015, .invokevirtual 106, 227, 3, 0), (1018, .if_icmp .eq 1102, 2120, 0, 0), (1021, .iconst 0, 0, 0, 0), (1022, .ireturn, 0, 0, 1), (1023, .aload_n 1, 0, 0, 0)]
def v306_3_2 : List QE := [(1024, .aload_n 0, 0, 0, 0), (1025, .iload_n 3, 0, 0, 0), (1026, .iconst 1, 0, 0, 0), (1027, .iadd, 0, 0, 0), (1028, .iaload, 0, 0, 0), (1029, .aload_n 0, 0, 0, 0), (1030, .iload_n 3, 0, 0, 0), (1031, .iconst 2, 0, 0, 0), (1032, .iadd, 0, 0, 0), (1033, .iaload, 0, 0, 0), (1034, .aload_n 0, 0, 0, 0), (1035, .iload_n 3, 0, 0, 0), (1036, .iconst 3, 0, 0, 0), (1037, .iadd, 0, 0, 0), (1038, .iaload, 0, 0, 0), (1039, .invokevirtual 107, 135, 3, 0), (1042, .aload_n 2, 0, 0, 0), (1043, .aload_n 0, 0, 0, 0), (1044, .iload_n 3, 0, 0, 0), (1045, .iconst 1, 0, 0, 0), (1046, .iadd, 0, 0, 0), (1047, .iaload, 0, 0, 0), (1048, .aload_n 0, 0, 0, 0), (1049, .iload_n 3, 0, 0, 0)]
def v306_3_3 : List QE := [(1050, .iconst 2, 0, 0, 0), (1051, .iadd, 0, 0, 0), (1052, .iaload, 0, 0, 0), (1053, .aload_n 0, 0, 0, 0), (1054, .iload_n 3, 0, 0, 0), (1055, .iconst 3, 0, 0, 0), (1056, .iadd, 0, 0, 0), (1057, .iaload, 0, 0, 0), (1058, .invokevirtual 110, 229, 3, 0), (1061, .if_icmp .eq 1059, 2120, 0, 0), (1064, .iconst 0, 0, 0, 0), (1065, .ireturn, 0, 0, 1), (1066, .aload_n 1, 0, 0, 0), (1067, .aload_n 0, 0, 0, 0), (1068, .iload_n 3, 0, 0, 0), (1069, .iconst 1, 0, 0, 0), (1070, .iadd, 0, 0, 0), (1071, .iaload, 0, 0, 0), (1072, .aload_n 0, 0, 0, 0), (1073, .iload_n 3, 0, 0, 0), (1074, .iconst 2, 0, 0, 0), (1075, .iadd, 0, 0, 0), (1076, .iaload, 0, 0, 0), (1077, .invokevirtual 111, 136, 2, 0)]
def v306_3_4 : List QE := [(1080, .aload_n 2, 0, 0, 0), (1081, .aload_n 0, 0, 0, 0), (1082, .iload_n 3, 0, 0, 0), (1083, .iconst 1, 0, 0, 0), (1084, .iadd, 0, 0, 0), (1085, .iaload, 0, 0, 0), (1086, .aload_n 0, 0, 0, 0), (1087, .iload_n 3, 0, 0, 0), (1088, .iconst 2, 0, 0, 0), (1089, .iadd, 0, 0, 0), (1090, .iaload, 0, 0, 0), (1091, .invokevirtual 114, 232, 2, 0), (1094, .if_icmp .eq 1026, 2120, 0, 0), (1097, .iconst 0, 0, 0, 0), (1098, .ireturn, 0, 0, 1), (1099, .aload_n 1, 0, 0, 0), (1100, .aload_n 0, 0, 0, 0), (1101, .iload_n 3, 0, 0, 0), (1102, .iconst 1, 0, 0, 0), (1103, .iadd, 0, 0, 0), (1104, .iaload, 0, 0, 0), (1105, .invokevirtual 115, 137, 1, 0), (1108, .aload_n 2, 0, 0, 0), (1109, .aload_n 0, 0, 0, 0)]
def v306_3_5 : List QE := [(1110, .iload_n 3, 0, 0, 0), (1111, .iconst 1, 0, 0, 0), (1112, .iadd, 0, 0, 0), (1113, .iaload, 0, 0, 0), (1114, .invokevirtual 118, 234, 1, 0), (1117, .if_icmp .eq 1003, 2120, 0, 0), (1120, .iconst 0, 0, 0, 0), (1121, .ireturn, 0, 0, 1), (1122, .aload_n 1, 0, 0, 0), (1123, .aload_n 0, 0, 0, 0), (1124, .iload_n 3, 0, 0, 0), (1125, .iconst 1, 0, 0, 0), (1126, .iadd, 0, 0, 0), (1127, .iaload, 0, 0, 0), (1128, .aload_n 0, 0, 0, 0), (1129, .iload_n 3, 0, 0, 0), (1130, .iconst 2, 0, 0, 0), (1131, .iadd, 0, 0, 0), (1132, .iaload, 0, 0, 0), (1133, .aload_n 0, 0, 0, 0), (1134, .iload_n 3, 0, 0, 0), (1135, .iconst 3, 0, 0, 0), (1136, .iadd, 0, 0, 0), (1137, .iaload, 0, 0, 0)]
def v306_3_6 : List QE := [(1138, .invokevirtual 119, 138, 3, 0), (1141, .aload_n 2, 0, 0, 0), (1142, .aload_n 0, 0, 0, 0), (1143, .iload_n 3, 0, 0, 0), (1144, .iconst 1, 0, 0, 0), (1145, .iadd, 0, 0, 0), (1146, .iaload, 0, 0, 0), (1147, .aload_n 0, 0, 0, 0), (1148, .iload_n 3, 0, 0, 0), (1149, .iconst 2, 0, 0, 0), (1150, .iadd, 0, 0, 0), (1151, .iaload, 0, 0, 0), (1152, .aload_n 0, 0, 0, 0), (1153, .iload_n 3, 0, 0, 0), (1154, .iconst 3, 0, 0, 0), (1155, .iadd, 0, 0, 0), (1156, .iaload, 0, 0, 0), (1157, .invokevirtual 122, 237, 3, 0), (1160, .if_icmp .eq 960, 2120, 0, 0), (1163, .iconst 0, 0, 0, 0), (1164, .ireturn, 0, 0, 1), (1165, .aload_n 1, 0, 0, 0), (1166, .aload_n 0, 0, 0, 0), (1167, .iload_n 3, 0, 0, 0)]
def v306_3_7 : List QE := [(1168, .iconst 1, 0, 0, 0), (1169, .iadd, 0, 0, 0), (1170, .iaload, 0, 0, 0), (1171, .aload_n 0, 0, 0, 0), (1172, .iload_n 3, 0, 0, 0), (1173, .iconst 2, 0, 0, 0), (1174, .iadd, 0, 0, 0), (1175, .iaload, 0, 0, 0), (1176, .invokevirtual 123, 139, 2, 0), (1179, .aload_n 2, 0, 0, 0), (1180, .aload_n 0, 0, 0, 0), (1181, .iload_n 3, 0, 0, 0), (1182, .iconst 1, 0, 0, 0), (1183, .iadd, 0, 0, 0), (1184, .iaload, 0, 0, 0), (1185, .aload_n 0, 0, 0, 0), (1186, .iload_n 3, 0, 0, 0), (1187, .iconst 2, 0, 0, 0), (1188, .iadd, 0, 0, 0), (1189, .iaload, 0, 0, 0), (1190, .invokevirtual 126, 238, 2, 0), (1193, .if_icmp .eq 927, 2120, 0, 0), (1196, .iconst 0, 0, 0, 0), (1197, .ireturn, 0, 0, 1)]
def v306_3_8 : List QE := [(1198, .aload_n 1, 0, 0, 0), (1199, .aload_n 0, 0, 0, 0), (1200, .iload_n 3, 0, 0, 0), (1201, .iconst 1, 0, 0, 0), (1202, .iadd, 0, 0, 0), (1203, .iaload, 0, 0, 0), (1204, .aload_n 0, 0, 0, 0), (1205, .iload_n 3, 0, 0, 0)]
set_option maxRecDepth 100000 in
theorem v306_s3 : q306_3 = v306_3_0 ++ (v306_3_1 ++ (v306_3_2 ++ (v306_3_3 ++ (v306_3_4 ++ (v306_3_5 ++ (v306_3_6 ++ (v306_3_7 ++ (v306_3_8)))))))) := rfl
theorem v306_t3 {pc : Nat} {x : QE} (h : 966 ≤ pc) (e : q306_3.find? (fun e => e.1 == pc) = some x) : fetch 306 pc = some x.2 := by
  have hq : qcode 306 = q306 := rfl
  have hf : q306.find? (fun e => e.1 == pc) = some x := by
    unfold q306
    exact find_left (find_left (find_left (find_left (find_skip (A := q306_0 ++ q306_1 ++ q306_2) (M := 966) (by decide +kernel) h e))))
  unfold fetch
  rw [hq, hf]
  rfl
theorem v306_u3_0 {pc : Nat} {x : QE} (h : 966 ≤ pc) (e : v306_3_0.find? (fun e => e.1 == pc) = some x) : fetch 306 pc = some x.2 := by
  refine v306_t3 (by omega) ?_
  rw [v306_s3]
  exact find_left e
theorem v306_u3_1 {pc : Nat} {x : QE} (h : 994 ≤ pc) (e : v306_3_1.find? (fun e => e.1 == pc) = some x) : fetch 306 pc = some x.2 := by
  refine v306_t3 (by omega) ?_
  rw [v306_s3]
  exact find_skip (M := 994) (by decide +kernel) (by omega) (find_left e)
theorem v306_u3_2 {pc : Nat} {x : QE} (h : 1024 ≤ pc) (e : v306_3_2.find? (fun e => e.1 == pc) = some x) : fetch 306 pc = some x.2 := by
  refine v306_t3 (by omega) ?_
  rw [v306_s3]
  exact find_skip (M := 994) (by decide +kernel) (by omega) (find_skip (M := 1024) (by decide +kernel) (by omega) (find_left e))
theorem v306_u3_3 {pc : Nat} {x : QE} (h : 1050 ≤ pc) (e : v306_3_3.find? (fun e => e.1 == pc) = some x) : fetch 306 pc = some x.2 := by
  refine v306_t3 (by omega) ?_
  rw [v306_s3]
  exact find_skip (M := 994) (by decide +kernel) (by omega) (find_skip (M := 1024) (by decide +kernel) (by omega) (find_skip (M := 1050) (by decide +kernel) (by omega) (find_left e)))
theorem v306_u3_4 {pc : Nat} {x : QE} (h : 1080 ≤ pc) (e : v306_3_4.find? (fun e => e.1 == pc) = some x) : fetch 306 pc = some x.2 := by
  refine v306_t3 (by omega) ?_
  rw [v306_s3]
  exact find_skip (M := 994) (by decide +kernel) (by omega) (find_skip (M := 1024) (by decide +kernel) (by omega) (find_skip (M := 1050) (by decide +kernel) (by omega) (find_skip (M := 1080) (by decide +kernel) (by omega) (find_left e))))
theorem v306_u3_5 {pc : Nat} {x : QE} (h : 1110 ≤ pc) (e : v306_3_5.find? (fun e => e.1 == pc) = some x) : fetch 306 pc = some x.2 := by
  refine v306_t3 (by omega) ?_
  rw [v306_s3]
  exact find_skip (M := 994) (by decide +kernel) (by omega) (find_skip (M := 1024) (by decide +kernel) (by omega) (find_skip (M := 1050) (by decide +kernel) (by omega) (find_skip (M := 1080) (by decide +kernel) (by omega) (find_skip (M := 1110) (by decide +kernel) (by omega) (find_left e)))))
theorem v306_u3_6 {pc : Nat} {x : QE} (h : 1138 ≤ pc) (e : v306_3_6.find? (fun e => e.1 == pc) = some x) : fetch 306 pc = some x.2 := by
  refine v306_t3 (by omega) ?_
  rw [v306_s3]
  exact find_skip (M := 994) (by decide +kernel) (by omega) (find_skip (M := 1024) (by decide +kernel) (by omega) (find_skip (M := 1050) (by decide +kernel) (by omega) (find_skip (M := 1080) (by decide +kernel) (by omega) (find_skip (M := 1110) (by decide +kernel) (by omega) (find_skip (M := 1138) (by decide +kernel) (by omega) (find_left e))))))
theorem v306_u3_7 {pc : Nat} {x : QE} (h : 1168 ≤ pc) (e : v306_3_7.find? (fun e => e.1 == pc) = some x) : fetch 306 pc = some x.2 := by
  refine v306_t3 (by omega) ?_
  rw [v306_s3]
  exact find_skip (M := 994) (by decide +kernel) (by omega) (find_skip (M := 1024) (by decide +kernel) (by omega) (find_skip (M := 1050) (by decide +kernel) (by omega) (find_skip (M := 1080) (by decide +kernel) (by omega) (find_skip (M := 1110) (by decide +kernel) (by omega) (find_skip (M := 1138) (by decide +kernel) (by omega) (find_skip (M := 1168) (by decide +kernel) (by omega) (find_left e)))))))
theorem v306_u3_8 {pc : Nat} {x : QE} (h : 1198 ≤ pc) (e : v306_3_8.find? (fun e => e.1 == pc) = some x) : fetch 306 pc = some x.2 := by
  refine v306_t3 (by omega) ?_
  rw [v306_s3]
  exact find_skip (M := 994) (by decide +kernel) (by omega) (find_skip (M := 1024) (by decide +kernel) (by omega) (find_skip (M := 1050) (by decide +kernel) (by omega) (find_skip (M := 1080) (by decide +kernel) (by omega) (find_skip (M := 1110) (by decide +kernel) (by omega) (find_skip (M := 1138) (by decide +kernel) (by omega) (find_skip (M := 1168) (by decide +kernel) (by omega) (find_skip (M := 1198) (by decide +kernel) (by omega) (e))))))))
def v306_4_0 : List QE := [(1206, .iconst 2, 0, 0, 0), (1207, .iadd, 0, 0, 0), (1208, .iaload, 0, 0, 0), (1209, .aload_n 0, 0, 0, 0), (1210, .iload_n 3, 0, 0, 0), (1211, .iconst 3, 0, 0, 0), (1212, .iadd, 0, 0, 0), (1213, .iaload, 0, 0, 0), (1214, .aload_n 0, 0, 0, 0), (1215, .iload_n 3, 0, 0, 0), (1216, .iconst 4, 0, 0, 0), (1217, .iadd, 0, 0, 0), (1218, .iaload, 0, 0, 0), (1219, .invokevirtual 127, 140, 4, 0), (1222, .aload_n 2, 0, 0, 0), (1223, .aload_n 0, 0, 0, 0), (1224, .iload_n 3, 0, 0, 0), (1225, .iconst 1, 0, 0, 0), (1226, .iadd, 0, 0, 0), (1227, .iaload, 0, 0, 0), (1228, .aload_n 0, 0, 0, 0), (1229, .iload_n 3, 0, 0, 0), (1230, .iconst 2, 0, 0, 0), (1231, .iadd, 0, 0, 0)]
def v306_4_1 : List QE := [(1232, .iaload, 0, 0, 0), (1233, .aload_n 0, 0, 0, 0), (1234, .iload_n 3, 0, 0, 0), (1235, .iconst 3, 0, 0, 0), (1236, .iadd, 0, 0, 0), (1237, .iaload, 0, 0, 0), (1238, .aload_n 0, 0, 0, 0), (1239, .iload_n 3, 0, 0, 0), (1240, .iconst 4, 0, 0, 0), (1241, .iadd, 0, 0, 0), (1242, .iaload, 0, 0, 0), (1243, .invokevirtual 130, 239, 4, 0), (1246, .if_icmp .eq 874, 2120, 0, 0), (1249, .iconst 0, 0, 0, 0), (1250, .ireturn, 0, 0, 1), (1251, .aload_n 1, 0, 0, 0), (1252, .aload_n 0, 0, 0, 0), (1253, .iload_n 3, 0, 0, 0), (1254, .iconst 1, 0, 0, 0), (1255, .iadd, 0, 0, 0), (1256, .iaload, 0, 0, 0), (1257, .aload_n 0, 0, 0, 0), (1258, .iload_n 3, 0, 0, 0), (1259, .iconst 2, 0, 0, 0)]
def v306_4_2 : List QE := [(1260, .iadd, 0, 0, 0), (1261, .iaload, 0, 0, 0), (1262, .invokevirtual 131, 141, 2, 0), (1265, .aload_n 2, 0, 0, 0), (1266, .aload_n 0, 0, 0, 0), (1267, .iload_n 3, 0, 0, 0), (1268, .iconst 1, 0, 0, 0), (1269, .iadd, 0, 0, 0), (1270, .iaload, 0, 0, 0), (1271, .aload_n 0, 0, 0, 0), (1272, .iload_n 3, 0, 0, 0), (1273, .iconst 2, 0, 0, 0), (1274, .iadd, 0, 0, 0), (1275, .iaload, 0, 0, 0), (1276, .invokevirtual 134, 240, 2, 0), (1279, .if_icmp .eq 841, 2120, 0, 0), (1282, .iconst 0, 0, 0, 0), (1283, .ireturn, 0, 0, 1), (1284, .aload_n 1, 0, 0, 0), (1285, .aload_n 0, 0, 0, 0), (1286, .iload_n 3, 0, 0, 0), (1287, .iconst 1, 0, 0, 0), (1288, .iadd, 0, 0, 0), (1289, .iaload, 0, 0, 0)]
def v306_4_3 : List QE := [(1290, .aload_n 0, 0, 0, 0), (1291, .iload_n 3, 0, 0, 0), (1292, .iconst 2, 0, 0, 0), (1293, .iadd, 0, 0, 0), (1294, .iaload, 0, 0, 0), (1295, .aload_n 0, 0, 0, 0), (1296, .iload_n 3, 0, 0, 0), (1297, .iconst 3, 0, 0, 0), (1298, .iadd, 0, 0, 0), (1299, .iaload, 0, 0, 0), (1300, .aload_n 0, 0, 0, 0), (1301, .iload_n 3, 0, 0, 0), (1302, .iconst 4, 0, 0, 0), (1303, .iadd, 0, 0, 0), (1304, .iaload, 0, 0, 0), (1305, .aload_n 0, 0, 0, 0), (1306, .iload_n 3, 0, 0, 0), (1307, .iconst 5, 0, 0, 0), (1308, .iadd, 0, 0, 0), (1309, .iaload, 0, 0, 0), (1310, .invokevirtual 135, 142, 5, 0), (1313, .aload_n 2, 0, 0, 0), (1314, .aload_n 0, 0, 0, 0), (1315, .iload_n 3, 0, 0, 0)]
def v306_4_4 : List QE := [(1316, .iconst 1, 0, 0, 0), (1317, .iadd, 0, 0, 0), (1318, .iaload, 0, 0, 0), (1319, .aload_n 0, 0, 0, 0), (1320, .iload_n 3, 0, 0, 0), (1321, .iconst 2, 0, 0, 0), (1322, .iadd, 0, 0, 0), (1323, .iaload, 0, 0, 0), (1324, .aload_n 0, 0, 0, 0), (1325, .iload_n 3, 0, 0, 0), (1326, .iconst 3, 0, 0, 0), (1327, .iadd, 0, 0, 0), (1328, .iaload, 0, 0, 0), (1329, .aload_n 0, 0, 0, 0), (1330, .iload_n 3, 0, 0, 0), (1331, .iconst 4, 0, 0, 0), (1332, .iadd, 0, 0, 0), (1333, .iaload, 0, 0, 0), (1334, .aload_n 0, 0, 0, 0), (1335, .iload_n 3, 0, 0, 0), (1336, .iconst 5, 0, 0, 0), (1337, .iadd, 0, 0, 0), (1338, .iaload, 0, 0, 0), (1339, .invokevirtual 139, 241, 5, 0)]
def v306_4_5 : List QE := [(1342, .if_icmp .eq 778, 2120, 0, 0), (1345, .iconst 0, 0, 0, 0), (1346, .ireturn, 0, 0, 1), (1347, .aload_n 1, 0, 0, 0), (1348, .aload_n 0, 0, 0, 0), (1349, .iload_n 3, 0, 0, 0), (1350, .iconst 1, 0, 0, 0), (1351, .iadd, 0, 0, 0), (1352, .iaload, 0, 0, 0), (1353, .invokevirtual 140, 143, 1, 0), (1356, .aload_n 2, 0, 0, 0), (1357, .aload_n 0, 0, 0, 0), (1358, .iload_n 3, 0, 0, 0), (1359, .iconst 1, 0, 0, 0), (1360, .iadd, 0, 0, 0), (1361, .iaload, 0, 0, 0), (1362, .invokevirtual 143, 243, 1, 0), (1365, .if_icmp .eq 755, 2120, 0, 0), (1368, .iconst 0, 0, 0, 0), (1369, .ireturn, 0, 0, 1), (1370, .aload_n 1, 0, 0, 0), (1371, .aload_n 0, 0, 0, 0), (1372, .iload_n 3, 0, 0, 0), (1373, .iconst 1, 0, 0, 0)]
def v306_4_6 : List QE := [(1374, .iadd, 0, 0, 0), (1375, .iaload, 0, 0, 0), (1376, .invokevirtual 144, 144, 1, 0), (1379, .aload_n 2, 0, 0, 0), (1380, .aload_n 0, 0, 0, 0), (1381, .iload_n 3, 0, 0, 0), (1382, .iconst 1, 0, 0, 0), (1383, .iadd, 0, 0, 0), (1384, .iaload, 0, 0, 0), (1385, .invokevirtual 147, 267, 1, 0), (1388, .if_icmp .eq 732, 2120, 0, 0), (1391, .iconst 0, 0, 0, 0), (1392, .ireturn, 0, 0, 1), (1393, .aload_n 1, 0, 0, 0), (1394, .aload_n 0, 0, 0, 0), (1395, .iload_n 3, 0, 0, 0), (1396, .iconst 1, 0, 0, 0), (1397, .iadd, 0, 0, 0), (1398, .iaload, 0, 0, 0), (1399, .invokevirtual 148, 145, 1, 0), (1402, .aload_n 2, 0, 0, 0), (1403, .aload_n 0, 0, 0, 0), (1404, .iload_n 3, 0, 0, 0), (1405, .iconst 1, 0, 0, 0)]
def v306_4_7 : List QE := [(1406, .iadd, 0, 0, 0), (1407, .iaload, 0, 0, 0), (1408, .invokevirtual 151, 269, 1, 0), (1411, .if_icmp .eq 709, 2120, 0, 0), (1414, .iconst 0, 0, 0, 0), (1415, .ireturn, 0, 0, 1), (1416, .aload_n 1, 0, 0, 0), (1417, .aload_n 0, 0, 0, 0), (1418, .iload_n 3, 0, 0, 0), (1419, .iconst 1, 0, 0, 0), (1420, .iadd, 0, 0, 0), (1421, .iaload, 0, 0, 0), (1422, .aload_n 0, 0, 0, 0), (1423, .iload_n 3, 0, 0, 0), (1424, .iconst 2, 0, 0, 0), (1425, .iadd, 0, 0, 0), (1426, .iaload, 0, 0, 0), (1427, .i2l, 0, 0, 0), (1428, .bipush 32, 0, 0, 0), (1430, .lshl, 0, 0, 0), (1431, .aload_n 0, 0, 0, 0), (1432, .iload_n 3, 0, 0, 0), (1433, .iconst 3, 0, 0, 0), (1434, .iadd, 0, 0, 0)]
def v306_4_8 : List QE := [(1435, .iaload, 0, 0, 0), (1436, .i2l, 0, 0, 0), (1437, .ldc2_w 23, 0, 0, 4294967295), (1440, .land, 0, 0, 0), (1441, .lor, 0, 0, 0), (1442, .aload_n 0, 0, 0, 0), (1443, .iload_n 3, 0, 0, 0), (1444, .iconst 4, 0, 0, 0)]
set_option maxRecDepth 100000 in
theorem v306_s4 : q306_4 = v306_4_0 ++ (v306_4_1 ++ (v306_4_2 ++ (v306_4_3 ++ (v306_4_4 ++ (v306_4_5 ++ (v306_4_6 ++ (v306_4_7 ++ (v306_4_8)))))))) := rfl
theorem v306_t4 {pc : Nat} {x : QE} (h : 1206 ≤ pc) (e : q306_4.find? (fun e => e.1 == pc) = some x) : fetch 306 pc = some x.2 := by
  have hq : qcode 306 = q306 := rfl
  have hf : q306.find? (fun e => e.1 == pc) = some x := by
    unfold q306
    exact find_left (find_left (find_left (find_skip (A := q306_0 ++ q306_1 ++ q306_2 ++ q306_3) (M := 1206) (by decide +kernel) h e)))
  unfold fetch
  rw [hq, hf]
  rfl
theorem v306_u4_0 {pc : Nat} {x : QE} (h : 1206 ≤ pc) (e : v306_4_0.find? (fun e => e.1 == pc) = some x) : fetch 306 pc = some x.2 := by
  refine v306_t4 (by omega) ?_
  rw [v306_s4]
  exact find_left e
theorem v306_u4_1 {pc : Nat} {x : QE} (h : 1232 ≤ pc) (e : v306_4_1.find? (fun e => e.1 == pc) = some x) : fetch 306 pc = some x.2 := by
  refine v306_t4 (by omega) ?_
  rw [v306_s4]
  exact find_skip (M := 1232) (by decide +kernel) (by omega) (find_left e)
theorem v306_u4_2 {pc : Nat} {x : QE} (h : 1260 ≤ pc) (e : v306_4_2.find? (fun e => e.1 == pc) = some x) : fetch 306 pc = some x.2 := by
  refine v306_t4 (by omega) ?_
  rw [v306_s4]
  exact find_skip (M := 1232) (by decide +kernel) (by omega) (find_skip (M := 1260) (by decide +kernel) (by omega) (find_left e))
theorem v306_u4_3 {pc : Nat} {x : QE} (h : 1290 ≤ pc) (e : v306_4_3.find? (fun e => e.1 == pc) = some x) : fetch 306 pc = some x.2 := by
  refine v306_t4 (by omega) ?_
  rw [v306_s4]
  exact find_skip (M := 1232) (by decide +kernel) (by omega) (find_skip (M := 1260) (by decide +kernel) (by omega) (find_skip (M := 1290) (by decide +kernel) (by omega) (find_left e)))
theorem v306_u4_4 {pc : Nat} {x : QE} (h : 1316 ≤ pc) (e : v306_4_4.find? (fun e => e.1 == pc) = some x) : fetch 306 pc = some x.2 := by
  refine v306_t4 (by omega) ?_
  rw [v306_s4]
  exact find_skip (M := 1232) (by decide +kernel) (by omega) (find_skip (M := 1260) (by decide +kernel) (by omega) (find_skip (M := 1290) (by decide +kernel) (by omega) (find_skip (M := 1316) (by decide +kernel) (by omega) (find_left e))))
theorem v306_u4_5 {pc : Nat} {x : QE} (h : 1342 ≤ pc) (e : v306_4_5.find? (fun e => e.1 == pc) = some x) : fetch 306 pc = some x.2 := by
  refine v306_t4 (by omega) ?_
  rw [v306_s4]
  exact find_skip (M := 1232) (by decide +kernel) (by omega) (find_skip (M := 1260) (by decide +kernel) (by omega) (find_skip (M := 1290) (by decide +kernel) (by omega) (find_skip (M := 1316) (by decide +kernel) (by omega) (find_skip (M := 1342) (by decide +kernel) (by omega) (find_left e)))))
theorem v306_u4_6 {pc : Nat} {x : QE} (h : 1374 ≤ pc) (e : v306_4_6.find? (fun e => e.1 == pc) = some x) : fetch 306 pc = some x.2 := by
  refine v306_t4 (by omega) ?_
  rw [v306_s4]
  exact find_skip (M := 1232) (by decide +kernel) (by omega) (find_skip (M := 1260) (by decide +kernel) (by omega) (find_skip (M := 1290) (by decide +kernel) (by omega) (find_skip (M := 1316) (by decide +kernel) (by omega) (find_skip (M := 1342) (by decide +kernel) (by omega) (find_skip (M := 1374) (by decide +kernel) (by omega) (find_left e))))))
theorem v306_u4_7 {pc : Nat} {x : QE} (h : 1406 ≤ pc) (e : v306_4_7.find? (fun e => e.1 == pc) = some x) : fetch 306 pc = some x.2 := by
  refine v306_t4 (by omega) ?_
  rw [v306_s4]
  exact find_skip (M := 1232) (by decide +kernel) (by omega) (find_skip (M := 1260) (by decide +kernel) (by omega) (find_skip (M := 1290) (by decide +kernel) (by omega) (find_skip (M := 1316) (by decide +kernel) (by omega) (find_skip (M := 1342) (by decide +kernel) (by omega) (find_skip (M := 1374) (by decide +kernel) (by omega) (find_skip (M := 1406) (by decide +kernel) (by omega) (find_left e)))))))
theorem v306_u4_8 {pc : Nat} {x : QE} (h : 1435 ≤ pc) (e : v306_4_8.find? (fun e => e.1 == pc) = some x) : fetch 306 pc = some x.2 := by
  refine v306_t4 (by omega) ?_
  rw [v306_s4]
  exact find_skip (M := 1232) (by decide +kernel) (by omega) (find_skip (M := 1260) (by decide +kernel) (by omega) (find_skip (M := 1290) (by decide +kernel) (by omega) (find_skip (M := 1316) (by decide +kernel) (by omega) (find_skip (M := 1342) (by decide +kernel) (by omega) (find_skip (M := 1374) (by decide +kernel) (by omega) (find_skip (M := 1406) (by decide +kernel) (by omega) (find_skip (M := 1435) (by decide +kernel) (by omega) (e))))))))
def v306_5_0 : List QE := [(1445, .iadd, 0, 0, 0), (1446, .iaload, 0, 0, 0), (1447, .aload_n 0, 0, 0, 0), (1448, .iload_n 3, 0, 0, 0), (1449, .iconst 5, 0, 0, 0), (1450, .iadd, 0, 0, 0), (1451, .iaload, 0, 0, 0), (1452, .invokevirtual 152, 146, 4, 0), (1455, .aload_n 2, 0, 0, 0), (1456, .aload_n 0, 0, 0, 0), (1457, .iload_n 3, 0, 0, 0), (1458, .iconst 1, 0, 0, 0), (1459, .iadd, 0, 0, 0), (1460, .iaload, 0, 0, 0), (1461, .aload_n 0, 0, 0, 0), (1462, .iload_n 3, 0, 0, 0), (1463, .iconst 2, 0, 0, 0), (1464, .iadd, 0, 0, 0), (1465, .iaload, 0, 0, 0), (1466, .i2l, 0, 0, 0), (1467, .bipush 32, 0, 0, 0), (1469, .lshl, 0, 0, 0), (1470, .aload_n 0, 0, 0, 0), (1471, .iload_n 3, 0, 0, 0)]
def v306_5_1 : List QE := [(1472, .iconst 3, 0, 0, 0), (1473, .iadd, 0, 0, 0), (1474, .iaload, 0, 0, 0), (1475, .i2l, 0, 0, 0), (1476, .ldc2_w 23, 0, 0, 4294967295), (1479, .land, 0, 0, 0), (1480, .lor, 0, 0, 0), (1481, .aload_n 0, 0, 0, 0), (1482, .iload_n 3, 0, 0, 0), (1483, .iconst 4, 0, 0, 0), (1484, .iadd, 0, 0, 0), (1485, .iaload, 0, 0, 0), (1486, .aload_n 0, 0, 0, 0), (1487, .iload_n 3, 0, 0, 0), (1488, .iconst 5, 0, 0, 0), (1489, .iadd, 0, 0, 0), (1490, .iaload, 0, 0, 0), (1491, .invokevirtual 156, 275, 4, 0), (1494, .if_icmp .eq 626, 2120, 0, 0), (1497, .iconst 0, 0, 0, 0), (1498, .ireturn, 0, 0, 1), (1499, .aload_n 1, 0, 0, 0), (1500, .aload_n 0, 0, 0, 0), (1501, .iload_n 3, 0, 0, 0)]
def v306_5_2 : List QE := [(1502, .iconst 1, 0, 0, 0), (1503, .iadd, 0, 0, 0), (1504, .iaload, 0, 0, 0), (1505, .aload_n 0, 0, 0, 0), (1506, .iload_n 3, 0, 0, 0), (1507, .iconst 2, 0, 0, 0), (1508, .iadd, 0, 0, 0), (1509, .iaload, 0, 0, 0), (1510, .ifCond .eq 7, 1517, 0, 0), (1513, .iconst 1, 0, 0, 0), (1514, .goto 4, 1518, 0, 0), (1517, .iconst 0, 0, 0, 0), (1518, .invokevirtual 157, 147, 2, 0), (1521, .aload_n 2, 0, 0, 0), (1522, .aload_n 0, 0, 0, 0), (1523, .iload_n 3, 0, 0, 0), (1524, .iconst 1, 0, 0, 0), (1525, .iadd, 0, 0, 0), (1526, .iaload, 0, 0, 0), (1527, .aload_n 0, 0, 0, 0), (1528, .iload_n 3, 0, 0, 0), (1529, .iconst 2, 0, 0, 0), (1530, .iadd, 0, 0, 0), (1531, .iaload, 0, 0, 0)]
def v306_5_3 : List QE := [(1532, .ifCond .eq 7, 1539, 0, 0), (1535, .iconst 1, 0, 0, 0), (1536, .goto 4, 1540, 0, 0), (1539, .iconst 0, 0, 0, 0), (1540, .invokevirtual 161, 276, 2, 0), (1543, .if_icmp .eq 577, 2120, 0, 0), (1546, .iconst 0, 0, 0, 0), (1547, .ireturn, 0, 0, 1), (1548, .aload_n 1, 0, 0, 0), (1549, .aload_n 0, 0, 0, 0), (1550, .iload_n 3, 0, 0, 0), (1551, .iconst 1, 0, 0, 0), (1552, .iadd, 0, 0, 0), (1553, .iaload, 0, 0, 0), (1554, .aload_n 0, 0, 0, 0), (1555, .iload_n 3, 0, 0, 0), (1556, .iconst 2, 0, 0, 0), (1557, .iadd, 0, 0, 0), (1558, .iaload, 0, 0, 0), (1559, .aload_n 0, 0, 0, 0), (1560, .iload_n 3, 0, 0, 0), (1561, .iconst 3, 0, 0, 0), (1562, .iadd, 0, 0, 0), (1563, .iaload, 0, 0, 0)]
def v306_5_4 : List QE := [(1564, .invokevirtual 162, 148, 3, 0), (1567, .aload_n 2, 0, 0, 0), (1568, .aload_n 0, 0, 0, 0), (1569, .iload_n 3, 0, 0, 0), (1570, .iconst 1, 0, 0, 0), (1571, .iadd, 0, 0, 0), (1572, .iaload, 0, 0, 0), (1573, .aload_n 0, 0, 0, 0), (1574, .iload_n 3, 0, 0, 0), (1575, .iconst 2, 0, 0, 0), (1576, .iadd, 0, 0, 0), (1577, .iaload, 0, 0, 0), (1578, .aload_n 0, 0, 0, 0), (1579, .iload_n 3, 0, 0, 0), (1580, .iconst 3, 0, 0, 0), (1581, .iadd, 0, 0, 0), (1582, .iaload, 0, 0, 0), (1583, .invokevirtual 165, 283, 3, 0), (1586, .if_icmp .eq 534, 2120, 0, 0), (1589, .iconst 0, 0, 0, 0), (1590, .ireturn, 0, 0, 1), (1591, .aload_n 1, 0, 0, 0), (1592, .invokevirtual 166, 149, 0, 0), (1595, .aload_n 2, 0, 0, 0)]
def v306_5_5 : List QE := [(1596, .invokevirtual 169, 284, 0, 0), (1599, .if_icmp .eq 521, 2120, 0, 0), (1602, .iconst 0, 0, 0, 0), (1603, .ireturn, 0, 0, 1), (1604, .aload_n 1, 0, 0, 0), (1605, .aload_n 0, 0, 0, 0), (1606, .iload_n 3, 0, 0, 0), (1607, .iconst 1, 0, 0, 0), (1608, .iadd, 0, 0, 0), (1609, .iaload, 0, 0, 0), (1610, .aload_n 0, 0, 0, 0), (1611, .iload_n 3, 0, 0, 0), (1612, .iconst 2, 0, 0, 0), (1613, .iadd, 0, 0, 0), (1614, .iaload, 0, 0, 0), (1615, .invokevirtual 170, 150, 2, 0), (1618, .aload_n 2, 0, 0, 0), (1619, .aload_n 0, 0, 0, 0), (1620, .iload_n 3, 0, 0, 0), (1621, .iconst 1, 0, 0, 0), (1622, .iadd, 0, 0, 0), (1623, .iaload, 0, 0, 0), (1624, .aload_n 0, 0, 0, 0), (1625, .iload_n 3, 0, 0, 0)]
def v306_5_6 : List QE := [(1626, .iconst 2, 0, 0, 0), (1627, .iadd, 0, 0, 0), (1628, .iaload, 0, 0, 0), (1629, .invokevirtual 174, 285, 2, 0), (1632, .if_icmp .eq 488, 2120, 0, 0), (1635, .iconst 0, 0, 0, 0), (1636, .ireturn, 0, 0, 1), (1637, .aload_n 1, 0, 0, 0), (1638, .aload_n 0, 0, 0, 0), (1639, .iload_n 3, 0, 0, 0), (1640, .iconst 1, 0, 0, 0), (1641, .iadd, 0, 0, 0), (1642, .iaload, 0, 0, 0), (1643, .invokevirtual 175, 151, 1, 0), (1646, .aload_n 2, 0, 0, 0), (1647, .aload_n 0, 0, 0, 0), (1648, .iload_n 3, 0, 0, 0), (1649, .iconst 1, 0, 0, 0), (1650, .iadd, 0, 0, 0), (1651, .iaload, 0, 0, 0), (1652, .invokevirtual 179, 287, 1, 0), (1655, .lcmp, 0, 0, 0), (1656, .ifCond .eq 464, 2120, 0, 0), (1659, .iconst 0, 0, 0, 0)]
def v306_5_7 : List QE := [(1660, .ireturn, 0, 0, 1), (1661, .aload_n 1, 0, 0, 0), (1662, .invokevirtual 180, 152, 0, 0), (1665, .aload_n 2, 0, 0, 0), (1666, .invokevirtual 183, 288, 0, 0), (1669, .if_icmp .eq 451, 2120, 0, 0), (1672, .iconst 0, 0, 0, 0), (1673, .ireturn, 0, 0, 1), (1674, .aload_n 1, 0, 0, 0), (1675, .aload_n 0, 0, 0, 0), (1676, .iload_n 3, 0, 0, 0), (1677, .iconst 1, 0, 0, 0), (1678, .iadd, 0, 0, 0), (1679, .iaload, 0, 0, 0), (1680, .aload_n 0, 0, 0, 0), (1681, .iload_n 3, 0, 0, 0), (1682, .iconst 2, 0, 0, 0), (1683, .iadd, 0, 0, 0), (1684, .iaload, 0, 0, 0), (1685, .aload_n 0, 0, 0, 0), (1686, .iload_n 3, 0, 0, 0), (1687, .iconst 3, 0, 0, 0), (1688, .iadd, 0, 0, 0), (1689, .iaload, 0, 0, 0)]
def v306_5_8 : List QE := [(1690, .invokevirtual 184, 153, 3, 0), (1693, .aload_n 2, 0, 0, 0), (1694, .aload_n 0, 0, 0, 0), (1695, .iload_n 3, 0, 0, 0), (1696, .iconst 1, 0, 0, 0), (1697, .iadd, 0, 0, 0), (1698, .iaload, 0, 0, 0), (1699, .aload_n 0, 0, 0, 0)]
set_option maxRecDepth 100000 in
theorem v306_s5 : q306_5 = v306_5_0 ++ (v306_5_1 ++ (v306_5_2 ++ (v306_5_3 ++ (v306_5_4 ++ (v306_5_5 ++ (v306_5_6 ++ (v306_5_7 ++ (v306_5_8)))))))) := rfl
theorem v306_t5 {pc : Nat} {x : QE} (h : 1445 ≤ pc) (e : q306_5.find? (fun e => e.1 == pc) = some x) : fetch 306 pc = some x.2 := by
  have hq : qcode 306 = q306 := rfl
  have hf : q306.find? (fun e => e.1 == pc) = some x := by
    unfold q306
    exact find_left (find_left (find_skip (A := q306_0 ++ q306_1 ++ q306_2 ++ q306_3 ++ q306_4) (M := 1445) (by decide +kernel) h e))
  unfold fetch
  rw [hq, hf]
  rfl
theorem v306_u5_0 {pc : Nat} {x : QE} (h : 1445 ≤ pc) (e : v306_5_0.find? (fun e => e.1 == pc) = some x) : fetch 306 pc = some x.2 := by
  refine v306_t5 (by omega) ?_
  rw [v306_s5]
  exact find_left e
theorem v306_u5_1 {pc : Nat} {x : QE} (h : 1472 ≤ pc) (e : v306_5_1.find? (fun e => e.1 == pc) = some x) : fetch 306 pc = some x.2 := by
  refine v306_t5 (by omega) ?_
  rw [v306_s5]
  exact find_skip (M := 1472) (by decide +kernel) (by omega) (find_left e)
theorem v306_u5_2 {pc : Nat} {x : QE} (h : 1502 ≤ pc) (e : v306_5_2.find? (fun e => e.1 == pc) = some x) : fetch 306 pc = some x.2 := by
  refine v306_t5 (by omega) ?_
  rw [v306_s5]
  exact find_skip (M := 1472) (by decide +kernel) (by omega) (find_skip (M := 1502) (by decide +kernel) (by omega) (find_left e))
theorem v306_u5_3 {pc : Nat} {x : QE} (h : 1532 ≤ pc) (e : v306_5_3.find? (fun e => e.1 == pc) = some x) : fetch 306 pc = some x.2 := by
  refine v306_t5 (by omega) ?_
  rw [v306_s5]
  exact find_skip (M := 1472) (by decide +kernel) (by omega) (find_skip (M := 1502) (by decide +kernel) (by omega) (find_skip (M := 1532) (by decide +kernel) (by omega) (find_left e)))
theorem v306_u5_4 {pc : Nat} {x : QE} (h : 1564 ≤ pc) (e : v306_5_4.find? (fun e => e.1 == pc) = some x) : fetch 306 pc = some x.2 := by
  refine v306_t5 (by omega) ?_
  rw [v306_s5]
  exact find_skip (M := 1472) (by decide +kernel) (by omega) (find_skip (M := 1502) (by decide +kernel) (by omega) (find_skip (M := 1532) (by decide +kernel) (by omega) (find_skip (M := 1564) (by decide +kernel) (by omega) (find_left e))))
theorem v306_u5_5 {pc : Nat} {x : QE} (h : 1596 ≤ pc) (e : v306_5_5.find? (fun e => e.1 == pc) = some x) : fetch 306 pc = some x.2 := by
  refine v306_t5 (by omega) ?_
  rw [v306_s5]
  exact find_skip (M := 1472) (by decide +kernel) (by omega) (find_skip (M := 1502) (by decide +kernel) (by omega) (find_skip (M := 1532) (by decide +kernel) (by omega) (find_skip (M := 1564) (by decide +kernel) (by omega) (find_skip (M := 1596) (by decide +kernel) (by omega) (find_left e)))))
theorem v306_u5_6 {pc : Nat} {x : QE} (h : 1626 ≤ pc) (e : v306_5_6.find? (fun e => e.1 == pc) = some x) : fetch 306 pc = some x.2 := by
  refine v306_t5 (by omega) ?_
  rw [v306_s5]
  exact find_skip (M := 1472) (by decide +kernel) (by omega) (find_skip (M := 1502) (by decide +kernel) (by omega) (find_skip (M := 1532) (by decide +kernel) (by omega) (find_skip (M := 1564) (by decide +kernel) (by omega) (find_skip (M := 1596) (by decide +kernel) (by omega) (find_skip (M := 1626) (by decide +kernel) (by omega) (find_left e))))))
theorem v306_u5_7 {pc : Nat} {x : QE} (h : 1660 ≤ pc) (e : v306_5_7.find? (fun e => e.1 == pc) = some x) : fetch 306 pc = some x.2 := by
  refine v306_t5 (by omega) ?_
  rw [v306_s5]
  exact find_skip (M := 1472) (by decide +kernel) (by omega) (find_skip (M := 1502) (by decide +kernel) (by omega) (find_skip (M := 1532) (by decide +kernel) (by omega) (find_skip (M := 1564) (by decide +kernel) (by omega) (find_skip (M := 1596) (by decide +kernel) (by omega) (find_skip (M := 1626) (by decide +kernel) (by omega) (find_skip (M := 1660) (by decide +kernel) (by omega) (find_left e)))))))
theorem v306_u5_8 {pc : Nat} {x : QE} (h : 1690 ≤ pc) (e : v306_5_8.find? (fun e => e.1 == pc) = some x) : fetch 306 pc = some x.2 := by
  refine v306_t5 (by omega) ?_
  rw [v306_s5]
  exact find_skip (M := 1472) (by decide +kernel) (by omega) (find_skip (M := 1502) (by decide +kernel) (by omega) (find_skip (M := 1532) (by decide +kernel) (by omega) (find_skip (M := 1564) (by decide +kernel) (by omega) (find_skip (M := 1596) (by decide +kernel) (by omega) (find_skip (M := 1626) (by decide +kernel) (by omega) (find_skip (M := 1660) (by decide +kernel) (by omega) (find_skip (M := 1690) (by decide +kernel) (by omega) (e))))))))
def v306_6_0 : List QE := [(1700, .iload_n 3, 0, 0, 0), (1701, .iconst 2, 0, 0, 0), (1702, .iadd, 0, 0, 0), (1703, .iaload, 0, 0, 0), (1704, .aload_n 0, 0, 0, 0), (1705, .iload_n 3, 0, 0, 0), (1706, .iconst 3, 0, 0, 0), (1707, .iadd, 0, 0, 0), (1708, .iaload, 0, 0, 0), (1709, .invokevirtual 187, 289, 3, 0), (1712, .if_icmp .eq 408, 2120, 0, 0), (1715, .iconst 0, 0, 0, 0), (1716, .ireturn, 0, 0, 1), (1717, .aload_n 1, 0, 0, 0), (1718, .aload_n 0, 0, 0, 0), (1719, .iload_n 3, 0, 0, 0), (1720, .iconst 1, 0, 0, 0), (1721, .iadd, 0, 0, 0), (1722, .iaload, 0, 0, 0), (1723, .aload_n 0, 0, 0, 0), (1724, .iload_n 3, 0, 0, 0), (1725, .iconst 2, 0, 0, 0), (1726, .iadd, 0, 0, 0), (1727, .iaload, 0, 0, 0)]
def v306_6_1 : List QE := [(1728, .aload_n 0, 0, 0, 0), (1729, .iload_n 3, 0, 0, 0), (1730, .iconst 3, 0, 0, 0), (1731, .iadd, 0, 0, 0), (1732, .iaload, 0, 0, 0), (1733, .invokevirtual 188, 154, 3, 0), (1736, .aload_n 2, 0, 0, 0), (1737, .aload_n 0, 0, 0, 0), (1738, .iload_n 3, 0, 0, 0), (1739, .iconst 1, 0, 0, 0), (1740, .iadd, 0, 0, 0), (1741, .iaload, 0, 0, 0), (1742, .aload_n 0, 0, 0, 0), (1743, .iload_n 3, 0, 0, 0), (1744, .iconst 2, 0, 0, 0), (1745, .iadd, 0, 0, 0), (1746, .iaload, 0, 0, 0), (1747, .aload_n 0, 0, 0, 0), (1748, .iload_n 3, 0, 0, 0), (1749, .iconst 3, 0, 0, 0), (1750, .iadd, 0, 0, 0), (1751, .iaload, 0, 0, 0), (1752, .invokevirtual 191, 291, 3, 0), (1755, .if_icmp .eq 365, 2120, 0, 0)]
def v306_6_2 : List QE := [(1758, .iconst 0, 0, 0, 0), (1759, .ireturn, 0, 0, 1), (1760, .aload_n 1, 0, 0, 0), (1761, .aload_n 0, 0, 0, 0), (1762, .iload_n 3, 0, 0, 0), (1763, .iconst 1, 0, 0, 0), (1764, .iadd, 0, 0, 0), (1765, .iaload, 0, 0, 0), (1766, .aload_n 0, 0, 0, 0), (1767, .iload_n 3, 0, 0, 0), (1768, .iconst 2, 0, 0, 0), (1769, .iadd, 0, 0, 0), (1770, .iaload, 0, 0, 0), (1771, .invokevirtual 192, 155, 2, 0), (1774, .aload_n 2, 0, 0, 0), (1775, .aload_n 0, 0, 0, 0), (1776, .iload_n 3, 0, 0, 0), (1777, .iconst 1, 0, 0, 0), (1778, .iadd, 0, 0, 0), (1779, .iaload, 0, 0, 0), (1780, .aload_n 0, 0, 0, 0), (1781, .iload_n 3, 0, 0, 0), (1782, .iconst 2, 0, 0, 0), (1783, .iadd, 0, 0, 0)]
def v306_6_3 : List QE := [(1784, .iaload, 0, 0, 0), (1785, .invokevirtual 195, 292, 2, 0), (1788, .if_icmp .eq 332, 2120, 0, 0), (1791, .iconst 0, 0, 0, 0), (1792, .ireturn, 0, 0, 1), (1793, .aload_n 1, 0, 0, 0), (1794, .aload_n 0, 0, 0, 0), (1795, .iload_n 3, 0, 0, 0), (1796, .iconst 1, 0, 0, 0), (1797, .iadd, 0, 0, 0), (1798, .iaload, 0, 0, 0), (1799, .aload_n 0, 0, 0, 0), (1800, .iload_n 3, 0, 0, 0), (1801, .iconst 2, 0, 0, 0), (1802, .iadd, 0, 0, 0), (1803, .iaload, 0, 0, 0), (1804, .invokevirtual 196, 156, 2, 0), (1807, .aload_n 2, 0, 0, 0), (1808, .aload_n 0, 0, 0, 0), (1809, .iload_n 3, 0, 0, 0), (1810, .iconst 1, 0, 0, 0), (1811, .iadd, 0, 0, 0), (1812, .iaload, 0, 0, 0), (1813, .aload_n 0, 0, 0, 0)]
def v306_6_4 : List QE := [(1814, .iload_n 3, 0, 0, 0), (1815, .iconst 2, 0, 0, 0), (1816, .iadd, 0, 0, 0), (1817, .iaload, 0, 0, 0), (1818, .invokevirtual 199, 296, 2, 0), (1821, .if_icmp .eq 299, 2120, 0, 0), (1824, .iconst 0, 0, 0, 0), (1825, .ireturn, 0, 0, 1), (1826, .aload_n 1, 0, 0, 0), (1827, .aload_n 0, 0, 0, 0), (1828, .iload_n 3, 0, 0, 0), (1829, .iconst 1, 0, 0, 0), (1830, .iadd, 0, 0, 0), (1831, .iaload, 0, 0, 0), (1832, .aload_n 0, 0, 0, 0), (1833, .iload_n 3, 0, 0, 0), (1834, .iconst 2, 0, 0, 0), (1835, .iadd, 0, 0, 0), (1836, .iaload, 0, 0, 0), (1837, .invokevirtual 200, 157, 2, 0), (1840, .aload_n 2, 0, 0, 0), (1841, .aload_n 0, 0, 0, 0), (1842, .iload_n 3, 0, 0, 0), (1843, .iconst 1, 0, 0, 0)]
def v306_6_5 : List QE := [(1844, .iadd, 0, 0, 0), (1845, .iaload, 0, 0, 0), (1846, .aload_n 0, 0, 0, 0), (1847, .iload_n 3, 0, 0, 0), (1848, .iconst 2, 0, 0, 0), (1849, .iadd, 0, 0, 0), (1850, .iaload, 0, 0, 0), (1851, .invokevirtual 203, 294, 2, 0), (1854, .if_icmp .eq 266, 2120, 0, 0), (1857, .iconst 0, 0, 0, 0), (1858, .ireturn, 0, 0, 1), (1859, .aload_n 1, 0, 0, 0), (1860, .aload_n 0, 0, 0, 0), (1861, .iload_n 3, 0, 0, 0), (1862, .iconst 1, 0, 0, 0), (1863, .iadd, 0, 0, 0), (1864, .iaload, 0, 0, 0), (1865, .aload_n 0, 0, 0, 0), (1866, .iload_n 3, 0, 0, 0), (1867, .iconst 2, 0, 0, 0), (1868, .iadd, 0, 0, 0), (1869, .iaload, 0, 0, 0), (1870, .ifCond .eq 7, 1877, 0, 0), (1873, .iconst 1, 0, 0, 0)]
def v306_6_6 : List QE := [(1874, .goto 4, 1878, 0, 0), (1877, .iconst 0, 0, 0, 0), (1878, .invokevirtual 204, 158, 2, 0), (1881, .aload_n 2, 0, 0, 0), (1882, .aload_n 0, 0, 0, 0), (1883, .iload_n 3, 0, 0, 0), (1884, .iconst 1, 0, 0, 0), (1885, .iadd, 0, 0, 0), (1886, .iaload, 0, 0, 0), (1887, .aload_n 0, 0, 0, 0), (1888, .iload_n 3, 0, 0, 0), (1889, .iconst 2, 0, 0, 0), (1890, .iadd, 0, 0, 0), (1891, .iaload, 0, 0, 0), (1892, .ifCond .eq 7, 1899, 0, 0), (1895, .iconst 1, 0, 0, 0), (1896, .goto 4, 1900, 0, 0), (1899, .iconst 0, 0, 0, 0), (1900, .invokevirtual 208, 297, 2, 0), (1903, .if_icmp .eq 217, 2120, 0, 0), (1906, .iconst 0, 0, 0, 0), (1907, .ireturn, 0, 0, 1), (1908, .aload_n 1, 0, 0, 0), (1909, .aload_n 0, 0, 0, 0)]
def v306_6_7 : List QE := [(1910, .iload_n 3, 0, 0, 0), (1911, .iconst 1, 0, 0, 0), (1912, .iadd, 0, 0, 0), (1913, .iaload, 0, 0, 0), (1914, .invokevirtual 209, 159, 1, 0), (1917, .aload_n 2, 0, 0, 0), (1918, .aload_n 0, 0, 0, 0), (1919, .iload_n 3, 0, 0, 0), (1920, .iconst 1, 0, 0, 0), (1921, .iadd, 0, 0, 0), (1922, .iaload, 0, 0, 0), (1923, .invokevirtual 212, 298, 1, 0), (1926, .if_icmp .eq 194, 2120, 0, 0), (1929, .iconst 0, 0, 0, 0), (1930, .ireturn, 0, 0, 1), (1931, .aload_n 1, 0, 0, 0), (1932, .invokevirtual 213, 160, 0, 0), (1935, .aload_n 2, 0, 0, 0), (1936, .invokevirtual 216, 299, 0, 0), (1939, .if_icmp .eq 181, 2120, 0, 0), (1942, .iconst 0, 0, 0, 0), (1943, .ireturn, 0, 0, 1), (1944, .aload_n 1, 0, 0, 0), (1945, .aload_n 0, 0, 0, 0)]
def v306_6_8 : List QE := [(1946, .iload_n 3, 0, 0, 0), (1947, .iconst 1, 0, 0, 0), (1948, .iadd, 0, 0, 0), (1949, .iaload, 0, 0, 0), (1950, .aload_n 0, 0, 0, 0), (1951, .iload_n 3, 0, 0, 0), (1952, .iconst 2, 0, 0, 0), (1953, .iadd, 0, 0, 0)]
set_option maxRecDepth 100000 in
theorem v306_s6 : q306_6 = v306_6_0 ++ (v306_6_1 ++ (v306_6_2 ++ (v306_6_3 ++ (v306_6_4 ++ (v306_6_5 ++ (v306_6_6 ++ (v306_6_7 ++ (v306_6_8)))))))) := rfl
theorem v306_t6 {pc : Nat} {x : QE} (h : 1700 ≤ pc) (e : q306_6.find? (fun e => e.1 == pc) = some x) : fetch 306 pc = some x.2 := by
  have hq : qcode 306 = q306 := rfl
  have hf : q306.find? (fun e => e.1 == pc) = some x := by
    unfold q306
    exact find_left (find_skip (A := q306_0 ++ q306_1 ++ q306_2 ++ q306_3 ++ q306_4 ++ q306_5) (M := 1700) (by decide +kernel) h e)
  unfold fetch
  rw [hq, hf]
  rfl
theorem v306_u6_0 {pc : Nat} {x : QE} (h : 1700 ≤ pc) (e : v306_6_0.find? (fun e => e.1 == pc) = some x) : fetch 306 pc = some x.2 := by
  refine v306_t6 (by omega) ?_
  rw [v306_s6]
  exact find_left e
theorem v306_u6_1 {pc : Nat} {x : QE} (h : 1728 ≤ pc) (e : v306_6_1.find? (fun e => e.1 == pc) = some x) : fetch 306 pc = some x.2 := by
  refine v306_t6 (by omega) ?_
  rw [v306_s6]
  exact find_skip (M := 1728) (by decide +kernel) (by omega) (find_left e)
theorem v306_u6_2 {pc : Nat} {x : QE} (h : 1758 ≤ pc) (e : v306_6_2.find? (fun e => e.1 == pc) = some x) : fetch 306 pc = some x.2 := by
  refine v306_t6 (by omega) ?_
  rw [v306_s6]
  exact find_skip (M := 1728) (by decide +kernel) (by omega) (find_skip (M := 1758) (by decide +kernel) (by omega) (find_left e))
theorem v306_u6_3 {pc : Nat} {x : QE} (h : 1784 ≤ pc) (e : v306_6_3.find? (fun e => e.1 == pc) = some x) : fetch 306 pc = some x.2 := by
  refine v306_t6 (by omega) ?_
  rw [v306_s6]
  exact find_skip (M := 1728) (by decide +kernel) (by omega) (find_skip (M := 1758) (by decide +kernel) (by omega) (find_skip (M := 1784) (by decide +kernel) (by omega) (find_left e)))
theorem v306_u6_4 {pc : Nat} {x : QE} (h : 1814 ≤ pc) (e : v306_6_4.find? (fun e => e.1 == pc) = some x) : fetch 306 pc = some x.2 := by
  refine v306_t6 (by omega) ?_
  rw [v306_s6]
  exact find_skip (M := 1728) (by decide +kernel) (by omega) (find_skip (M := 1758) (by decide +kernel) (by omega) (find_skip (M := 1784) (by decide +kernel) (by omega) (find_skip (M := 1814) (by decide +kernel) (by omega) (find_left e))))
theorem v306_u6_5 {pc : Nat} {x : QE} (h : 1844 ≤ pc) (e : v306_6_5.find? (fun e => e.1 == pc) = some x) : fetch 306 pc = some x.2 := by
  refine v306_t6 (by omega) ?_
  rw [v306_s6]
  exact find_skip (M := 1728) (by decide +kernel) (by omega) (find_skip (M := 1758) (by decide +kernel) (by omega) (find_skip (M := 1784) (by decide +kernel) (by omega) (find_skip (M := 1814) (by decide +kernel) (by omega) (find_skip (M := 1844) (by decide +kernel) (by omega) (find_left e)))))
theorem v306_u6_6 {pc : Nat} {x : QE} (h : 1874 ≤ pc) (e : v306_6_6.find? (fun e => e.1 == pc) = some x) : fetch 306 pc = some x.2 := by
  refine v306_t6 (by omega) ?_
  rw [v306_s6]
  exact find_skip (M := 1728) (by decide +kernel) (by omega) (find_skip (M := 1758) (by decide +kernel) (by omega) (find_skip (M := 1784) (by decide +kernel) (by omega) (find_skip (M := 1814) (by decide +kernel) (by omega) (find_skip (M := 1844) (by decide +kernel) (by omega) (find_skip (M := 1874) (by decide +kernel) (by omega) (find_left e))))))
theorem v306_u6_7 {pc : Nat} {x : QE} (h : 1910 ≤ pc) (e : v306_6_7.find? (fun e => e.1 == pc) = some x) : fetch 306 pc = some x.2 := by
  refine v306_t6 (by omega) ?_
  rw [v306_s6]
  exact find_skip (M := 1728) (by decide +kernel) (by omega) (find_skip (M := 1758) (by decide +kernel) (by omega) (find_skip (M := 1784) (by decide +kernel) (by omega) (find_skip (M := 1814) (by decide +kernel) (by omega) (find_skip (M := 1844) (by decide +kernel) (by omega) (find_skip (M := 1874) (by decide +kernel) (by omega) (find_skip (M := 1910) (by decide +kernel) (by omega) (find_left e)))))))
theorem v306_u6_8 {pc : Nat} {x : QE} (h : 1946 ≤ pc) (e : v306_6_8.find? (fun e => e.1 == pc) = some x) : fetch 306 pc = some x.2 := by
  refine v306_t6 (by omega) ?_
  rw [v306_s6]
  exact find_skip (M := 1728) (by decide +kernel) (by omega) (find_skip (M := 1758) (by decide +kernel) (by omega) (find_skip (M := 1784) (by decide +kernel) (by omega) (find_skip (M := 1814) (by decide +kernel) (by omega) (find_skip (M := 1844) (by decide +kernel) (by omega) (find_skip (M := 1874) (by decide +kernel) (by omega) (find_skip (M := 1910) (by decide +kernel) (by omega) (find_skip (M := 1946) (by decide +kernel) (by omega) (e))))))))
def v306_7_0 : List QE := [(1954, .iaload, 0, 0, 0), (1955, .invokevirtual 217, 161, 2, 0), (1958, .aload_n 2, 0, 0, 0), (1959, .aload_n 0, 0, 0, 0), (1960, .iload_n 3, 0, 0, 0), (1961, .iconst 1, 0, 0, 0), (1962, .iadd, 0, 0, 0), (1963, .iaload, 0, 0, 0), (1964, .aload_n 0, 0, 0, 0), (1965, .iload_n 3, 0, 0, 0), (1966, .iconst 2, 0, 0, 0), (1967, .iadd, 0, 0, 0), (1968, .iaload, 0, 0, 0), (1969, .invokevirtual 220, 300, 2, 0), (1972, .if_icmp .eq 148, 2120, 0, 0), (1975, .iconst 0, 0, 0, 0), (1976, .ireturn, 0, 0, 1), (1977, .aload_n 1, 0, 0, 0), (1978, .aload_n 0, 0, 0, 0), (1979, .iload_n 3, 0, 0, 0), (1980, .iconst 1, 0, 0, 0), (1981, .iadd, 0, 0, 0), (1982, .iaload, 0, 0, 0), (1983, .aload_n 0, 0, 0, 0)]
def v306_7_1 : List QE := [(1984, .iload_n 3, 0, 0, 0), (1985, .iconst 2, 0, 0, 0), (1986, .iadd, 0, 0, 0), (1987, .iaload, 0, 0, 0), (1988, .invokevirtual 221, 162, 2, 0), (1991, .aload_n 2, 0, 0, 0), (1992, .aload_n 0, 0, 0, 0), (1993, .iload_n 3, 0, 0, 0), (1994, .iconst 1, 0, 0, 0), (1995, .iadd, 0, 0, 0), (1996, .iaload, 0, 0, 0), (1997, .aload_n 0, 0, 0, 0), (1998, .iload_n 3, 0, 0, 0), (1999, .iconst 2, 0, 0, 0), (2000, .iadd, 0, 0, 0), (2001, .iaload, 0, 0, 0), (2002, .invokevirtual 224, 301, 2, 0), (2005, .if_icmp .eq 115, 2120, 0, 0), (2008, .iconst 0, 0, 0, 0), (2009, .ireturn, 0, 0, 1), (2010, .aload_n 1, 0, 0, 0), (2011, .aload_n 0, 0, 0, 0), (2012, .iload_n 3, 0, 0, 0), (2013, .iconst 1, 0, 0, 0)]
def v306_7_2 : List QE := [(2014, .iadd, 0, 0, 0), (2015, .iaload, 0, 0, 0), (2016, .aload_n 0, 0, 0, 0), (2017, .iload_n 3, 0, 0, 0), (2018, .iconst 2, 0, 0, 0), (2019, .iadd, 0, 0, 0), (2020, .iaload, 0, 0, 0), (2021, .i2l, 0, 0, 0), (2022, .bipush 32, 0, 0, 0), (2024, .lshl, 0, 0, 0), (2025, .aload_n 0, 0, 0, 0), (2026, .iload_n 3, 0, 0, 0), (2027, .iconst 3, 0, 0, 0), (2028, .iadd, 0, 0, 0), (2029, .iaload, 0, 0, 0), (2030, .i2l, 0, 0, 0), (2031, .ldc2_w 23, 0, 0, 4294967295), (2034, .land, 0, 0, 0), (2035, .lor, 0, 0, 0), (2036, .invokevirtual 225, 163, 2, 0), (2039, .aload_n 2, 0, 0, 0), (2040, .aload_n 0, 0, 0, 0), (2041, .iload_n 3, 0, 0, 0), (2042, .iconst 1, 0, 0, 0)]
def v306_7_3 : List QE := [(2043, .iadd, 0, 0, 0), (2044, .iaload, 0, 0, 0), (2045, .aload_n 0, 0, 0, 0), (2046, .iload_n 3, 0, 0, 0), (2047, .iconst 2, 0, 0, 0), (2048, .iadd, 0, 0, 0), (2049, .iaload, 0, 0, 0), (2050, .i2l, 0, 0, 0), (2051, .bipush 32, 0, 0, 0), (2053, .lshl, 0, 0, 0), (2054, .aload_n 0, 0, 0, 0), (2055, .iload_n 3, 0, 0, 0), (2056, .iconst 3, 0, 0, 0), (2057, .iadd, 0, 0, 0), (2058, .iaload, 0, 0, 0), (2059, .i2l, 0, 0, 0), (2060, .ldc2_w 23, 0, 0, 4294967295), (2063, .land, 0, 0, 0), (2064, .lor, 0, 0, 0), (2065, .invokevirtual 229, 303, 2, 0), (2068, .lcmp, 0, 0, 0), (2069, .ifCond .eq 51, 2120, 0, 0), (2072, .iconst 0, 0, 0, 0), (2073, .ireturn, 0, 0, 1)]
def v306_7_4 : List QE := [(2074, .aload_n 1, 0, 0, 0), (2075, .aload_n 0, 0, 0, 0), (2076, .iload_n 3, 0, 0, 0), (2077, .iconst 1, 0, 0, 0), (2078, .iadd, 0, 0, 0), (2079, .iaload, 0, 0, 0), (2080, .invokevirtual 230, 164, 1, 0), (2083, .aload_n 2, 0, 0, 0), (2084, .aload_n 0, 0, 0, 0), (2085, .iload_n 3, 0, 0, 0), (2086, .iconst 1, 0, 0, 0), (2087, .iadd, 0, 0, 0), (2088, .iaload, 0, 0, 0), (2089, .invokevirtual 233, 304, 1, 0), (2092, .if_icmp .eq 28, 2120, 0, 0), (2095, .iconst 0, 0, 0, 0), (2096, .ireturn, 0, 0, 1), (2097, .aload_n 1, 0, 0, 0), (2098, .aload_n 0, 0, 0, 0), (2099, .iload_n 3, 0, 0, 0), (2100, .iconst 1, 0, 0, 0), (2101, .iadd, 0, 0, 0), (2102, .iaload, 0, 0, 0), (2103, .invokevirtual 234, 165, 1, 0)]
def v306_7_5 : List QE := [(2106, .aload_n 2, 0, 0, 0), (2107, .aload_n 0, 0, 0, 0), (2108, .iload_n 3, 0, 0, 0), (2109, .iconst 1, 0, 0, 0), (2110, .iadd, 0, 0, 0), (2111, .iaload, 0, 0, 0), (2112, .invokevirtual 237, 305, 1, 0), (2115, .if_icmp .eq 5, 2120, 0, 0), (2118, .iconst 0, 0, 0, 0), (2119, .ireturn, 0, 0, 1), (2120, .iinc 3 8, 0, 0, 0), (2123, .goto (-2105), 18, 0, 0), (2126, .iconst 1, 0, 0, 0), (2127, .ireturn, 0, 0, 1)]
set_option maxRecDepth 100000 in
theorem v306_s7 : q306_7 = v306_7_0 ++ (v306_7_1 ++ (v306_7_2 ++ (v306_7_3 ++ (v306_7_4 ++ (v306_7_5))))) := rfl
theorem v306_t7 {pc : Nat} {x : QE} (h : 1954 ≤ pc) (e : q306_7.find? (fun e => e.1 == pc) = some x) : fetch 306 pc = some x.2 := by
  have hq : qcode 306 = q306 := rfl
  have hf : q306.find? (fun e => e.1 == pc) = some x := by
    unfold q306
    exact find_skip (A := q306_0 ++ q306_1 ++ q306_2 ++ q306_3 ++ q306_4 ++ q306_5 ++ q306_6) (M := 1954) (by decide +kernel) h e
  unfold fetch
  rw [hq, hf]
  rfl
theorem v306_u7_0 {pc : Nat} {x : QE} (h : 1954 ≤ pc) (e : v306_7_0.find? (fun e => e.1 == pc) = some x) : fetch 306 pc = some x.2 := by
  refine v306_t7 (by omega) ?_
  rw [v306_s7]
  exact find_left e
theorem v306_u7_1 {pc : Nat} {x : QE} (h : 1984 ≤ pc) (e : v306_7_1.find? (fun e => e.1 == pc) = some x) : fetch 306 pc = some x.2 := by
  refine v306_t7 (by omega) ?_
  rw [v306_s7]
  exact find_skip (M := 1984) (by decide +kernel) (by omega) (find_left e)
theorem v306_u7_2 {pc : Nat} {x : QE} (h : 2014 ≤ pc) (e : v306_7_2.find? (fun e => e.1 == pc) = some x) : fetch 306 pc = some x.2 := by
  refine v306_t7 (by omega) ?_
  rw [v306_s7]
  exact find_skip (M := 1984) (by decide +kernel) (by omega) (find_skip (M := 2014) (by decide +kernel) (by omega) (find_left e))
theorem v306_u7_3 {pc : Nat} {x : QE} (h : 2043 ≤ pc) (e : v306_7_3.find? (fun e => e.1 == pc) = some x) : fetch 306 pc = some x.2 := by
  refine v306_t7 (by omega) ?_
  rw [v306_s7]
  exact find_skip (M := 1984) (by decide +kernel) (by omega) (find_skip (M := 2014) (by decide +kernel) (by omega) (find_skip (M := 2043) (by decide +kernel) (by omega) (find_left e)))
theorem v306_u7_4 {pc : Nat} {x : QE} (h : 2074 ≤ pc) (e : v306_7_4.find? (fun e => e.1 == pc) = some x) : fetch 306 pc = some x.2 := by
  refine v306_t7 (by omega) ?_
  rw [v306_s7]
  exact find_skip (M := 1984) (by decide +kernel) (by omega) (find_skip (M := 2014) (by decide +kernel) (by omega) (find_skip (M := 2043) (by decide +kernel) (by omega) (find_skip (M := 2074) (by decide +kernel) (by omega) (find_left e))))
theorem v306_u7_5 {pc : Nat} {x : QE} (h : 2106 ≤ pc) (e : v306_7_5.find? (fun e => e.1 == pc) = some x) : fetch 306 pc = some x.2 := by
  refine v306_t7 (by omega) ?_
  rw [v306_s7]
  exact find_skip (M := 1984) (by decide +kernel) (by omega) (find_skip (M := 2014) (by decide +kernel) (by omega) (find_skip (M := 2043) (by decide +kernel) (by omega) (find_skip (M := 2074) (by decide +kernel) (by omega) (find_skip (M := 2106) (by decide +kernel) (by omega) (e)))))
theorem f306_18 : fetch 306 18 = some (.iload_n 3, 0, 0, 0) := v306_u0_0 (x := (18, .iload_n 3, 0, 0, 0)) (by decide) rfl
theorem f306_19 : fetch 306 19 = some (.aload_n 0, 0, 0, 0) := v306_u0_0 (x := (19, .aload_n 0, 0, 0, 0)) (by decide) rfl
theorem f306_20 : fetch 306 20 = some (.arraylength, 0, 0, 0) := v306_u0_0 (x := (20, .arraylength, 0, 0, 0)) (by decide) rfl
theorem f306_21 : fetch 306 21 = some (.bipush 8, 0, 0, 0) := v306_u0_0 (x := (21, .bipush 8, 0, 0, 0)) (by decide) rfl
theorem f306_23 : fetch 306 23 = some (.isub, 0, 0, 0) := v306_u0_0 (x := (23, .isub, 0, 0, 0)) (by decide) rfl
theorem f306_24 : fetch 306 24 = some (.if_icmp .gt 2102, 2126, 0, 0) := v306_u0_0 (x := (24, .if_icmp .gt 2102, 2126, 0, 0)) (by decide) rfl
theorem f306_27 : fetch 306 27 = some (.aload_n 0, 0, 0, 0) := v306_u0_0 (x := (27, .aload_n 0, 0, 0, 0)) (by decide) rfl
theorem f306_28 : fetch 306 28 = some (.iload_n 3, 0, 0, 0) := v306_u0_0 (x := (28, .iload_n 3, 0, 0, 0)) (by decide) rfl
theorem f306_29 : fetch 306 29 = some (.iaload, 0, 0, 0) := v306_u0_0 (x := (29, .iaload, 0, 0, 0)) (by decide) rfl
theorem f306_30 : fetch 306 30 = some (.bipush 63, 0, 0, 0) := v306_u0_0 (x := (30, .bipush 63, 0, 0, 0)) (by decide) rfl
theorem f306_32 : fetch 306 32 = some (.iand, 0, 0, 0) := v306_u0_0 (x := (32, .iand, 0, 0, 0)) (by decide) rfl
theorem f306_33 : fetch 306 33 = some (.tableswitch 2087 0 51 #[223, 246, 269, 342, 375, 418, 461, 494, 567, 590, 603, 626, 649, 682, 705, 758, 781, 804, 891, 914, 947, 990, 1033, 1066, 1089, 1132, 1165, 1218, 1251, 1314, 1337, 1360, 1383, 1466, 1515, 1558, 1571, 1604, 1628, 1641, 1684, 1727, 1760, 1793, 1826, 1875, 1898, 1911, 1944, 1977, 2041, 2064], 0, 0, 0) := v306_u0_0 (x := (33, .tableswitch 2087 0 51 #[223, 246, 269, 342, 375, 418, 461, 494, 567, 590, 603, 626, 649, 682, 705, 758, 781, 804, 891, 914, 947, 990, 1033, 1066, 1089, 1132, 1165, 1218, 1251, 1314, 1337, 1360, 1383, 1466, 1515, 1558, 1571, 1604, 1628, 1641, 1684, 1727, 1760, 1793, 1826, 1875, 1898, 1911, 1944, 1977, 2041, 2064], 0, 0, 0)) (by decide) rfl
theorem f306_256 : fetch 306 256 = some (.aload_n 1, 0, 0, 0) := v306_u0_0 (x := (256, .aload_n 1, 0, 0, 0)) (by decide) rfl
theorem f306_257 : fetch 306 257 = some (.aload_n 0, 0, 0, 0) := v306_u0_0 (x := (257, .aload_n 0, 0, 0, 0)) (by decide) rfl
theorem f306_258 : fetch 306 258 = some (.iload_n 3, 0, 0, 0) := v306_u0_1 (x := (258, .iload_n 3, 0, 0, 0)) (by decide) rfl
theorem f306_259 : fetch 306 259 = some (.iconst 1, 0, 0, 0) := v306_u0_1 (x := (259, .iconst 1, 0, 0, 0)) (by decide) rfl
theorem f306_260 : fetch 306 260 = some (.iadd, 0, 0, 0) := v306_u0_1 (x := (260, .iadd, 0, 0, 0)) (by decide) rfl
theorem f306_261 : fetch 306 261 = some (.iaload, 0, 0, 0) := v306_u0_1 (x := (261, .iaload, 0, 0, 0)) (by decide) rfl
theorem f306_262 : fetch 306 262 = some (.invokevirtual 13, 114, 1, 0) := v306_u0_1 (x := (262, .invokevirtual 13, 114, 1, 0)) (by decide) rfl
theorem f306_265 : fetch 306 265 = some (.aload_n 2, 0, 0, 0) := v306_u0_1 (x := (265, .aload_n 2, 0, 0, 0)) (by decide) rfl
theorem f306_266 : fetch 306 266 = some (.aload_n 0, 0, 0, 0) := v306_u0_1 (x := (266, .aload_n 0, 0, 0, 0)) (by decide) rfl
theorem f306_267 : fetch 306 267 = some (.iload_n 3, 0, 0, 0) := v306_u0_1 (x := (267, .iload_n 3, 0, 0, 0)) (by decide) rfl
theorem f306_268 : fetch 306 268 = some (.iconst 1, 0, 0, 0) := v306_u0_1 (x := (268, .iconst 1, 0, 0, 0)) (by decide) rfl
theorem f306_269 : fetch 306 269 = some (.iadd, 0, 0, 0) := v306_u0_1 (x := (269, .iadd, 0, 0, 0)) (by decide) rfl
theorem f306_270 : fetch 306 270 = some (.iaload, 0, 0, 0) := v306_u0_1 (x := (270, .iaload, 0, 0, 0)) (by decide) rfl
theorem f306_271 : fetch 306 271 = some (.invokevirtual 17, 190, 1, 0) := v306_u0_1 (x := (271, .invokevirtual 17, 190, 1, 0)) (by decide) rfl
theorem f306_274 : fetch 306 274 = some (.if_icmp .eq 1846, 2120, 0, 0) := v306_u0_1 (x := (274, .if_icmp .eq 1846, 2120, 0, 0)) (by decide) rfl
theorem f306_277 : fetch 306 277 = some (.iconst 0, 0, 0, 0) := v306_u0_1 (x := (277, .iconst 0, 0, 0, 0)) (by decide) rfl
theorem f306_278 : fetch 306 278 = some (.ireturn, 0, 0, 1) := v306_u0_1 (x := (278, .ireturn, 0, 0, 1)) (by decide) rfl
theorem f306_279 : fetch 306 279 = some (.aload_n 1, 0, 0, 0) := v306_u0_1 (x := (279, .aload_n 1, 0, 0, 0)) (by decide) rfl
theorem f306_280 : fetch 306 280 = some (.aload_n 0, 0, 0, 0) := v306_u0_1 (x := (280, .aload_n 0, 0, 0, 0)) (by decide) rfl
theorem f306_281 : fetch 306 281 = some (.iload_n 3, 0, 0, 0) := v306_u0_1 (x := (281, .iload_n 3, 0, 0, 0)) (by decide) rfl
theorem f306_282 : fetch 306 282 = some (.iconst 1, 0, 0, 0) := v306_u0_1 (x := (282, .iconst 1, 0, 0, 0)) (by decide) rfl
theorem f306_283 : fetch 306 283 = some (.iadd, 0, 0, 0) := v306_u0_1 (x := (283, .iadd, 0, 0, 0)) (by decide) rfl
theorem f306_284 : fetch 306 284 = some (.iaload, 0, 0, 0) := v306_u0_1 (x := (284, .iaload, 0, 0, 0)) (by decide) rfl
theorem f306_285 : fetch 306 285 = some (.invokevirtual 18, 115, 1, 0) := v306_u0_1 (x := (285, .invokevirtual 18, 115, 1, 0)) (by decide) rfl
theorem f306_288 : fetch 306 288 = some (.aload_n 2, 0, 0, 0) := v306_u0_1 (x := (288, .aload_n 2, 0, 0, 0)) (by decide) rfl
theorem f306_289 : fetch 306 289 = some (.aload_n 0, 0, 0, 0) := v306_u0_1 (x := (289, .aload_n 0, 0, 0, 0)) (by decide) rfl
theorem f306_290 : fetch 306 290 = some (.iload_n 3, 0, 0, 0) := v306_u0_2 (x := (290, .iload_n 3, 0, 0, 0)) (by decide) rfl
theorem f306_291 : fetch 306 291 = some (.iconst 1, 0, 0, 0) := v306_u0_2 (x := (291, .iconst 1, 0, 0, 0)) (by decide) rfl
theorem f306_292 : fetch 306 292 = some (.iadd, 0, 0, 0) := v306_u0_2 (x := (292, .iadd, 0, 0, 0)) (by decide) rfl
theorem f306_293 : fetch 306 293 = some (.iaload, 0, 0, 0) := v306_u0_2 (x := (293, .iaload, 0, 0, 0)) (by decide) rfl
theorem f306_294 : fetch 306 294 = some (.invokevirtual 22, 191, 1, 0) := v306_u0_2 (x := (294, .invokevirtual 22, 191, 1, 0)) (by decide) rfl
theorem f306_297 : fetch 306 297 = some (.if_icmp .eq 1823, 2120, 0, 0) := v306_u0_2 (x := (297, .if_icmp .eq 1823, 2120, 0, 0)) (by decide) rfl
theorem f306_300 : fetch 306 300 = some (.iconst 0, 0, 0, 0) := v306_u0_2 (x := (300, .iconst 0, 0, 0, 0)) (by decide) rfl
theorem f306_301 : fetch 306 301 = some (.ireturn, 0, 0, 1) := v306_u0_2 (x := (301, .ireturn, 0, 0, 1)) (by decide) rfl
theorem f306_302 : fetch 306 302 = some (.aload_n 1, 0, 0, 0) := v306_u0_2 (x := (302, .aload_n 1, 0, 0, 0)) (by decide) rfl
theorem f306_303 : fetch 306 303 = some (.aload_n 0, 0, 0, 0) := v306_u0_2 (x := (303, .aload_n 0, 0, 0, 0)) (by decide) rfl
theorem f306_304 : fetch 306 304 = some (.iload_n 3, 0, 0, 0) := v306_u0_2 (x := (304, .iload_n 3, 0, 0, 0)) (by decide) rfl
theorem f306_305 : fetch 306 305 = some (.iconst 1, 0, 0, 0) := v306_u0_2 (x := (305, .iconst 1, 0, 0, 0)) (by decide) rfl
theorem f306_306 : fetch 306 306 = some (.iadd, 0, 0, 0) := v306_u0_2 (x := (306, .iadd, 0, 0, 0)) (by decide) rfl
theorem f306_307 : fetch 306 307 = some (.iaload, 0, 0, 0) := v306_u0_2 (x := (307, .iaload, 0, 0, 0)) (by decide) rfl
theorem f306_308 : fetch 306 308 = some (.aload_n 0, 0, 0, 0) := v306_u0_2 (x := (308, .aload_n 0, 0, 0, 0)) (by decide) rfl
theorem f306_309 : fetch 306 309 = some (.iload_n 3, 0, 0, 0) := v306_u0_2 (x := (309, .iload_n 3, 0, 0, 0)) (by decide) rfl
theorem f306_310 : fetch 306 310 = some (.iconst 2, 0, 0, 0) := v306_u0_2 (x := (310, .iconst 2, 0, 0, 0)) (by decide) rfl
theorem f306_311 : fetch 306 311 = some (.iadd, 0, 0, 0) := v306_u0_2 (x := (311, .iadd, 0, 0, 0)) (by decide) rfl
theorem f306_312 : fetch 306 312 = some (.iaload, 0, 0, 0) := v306_u0_2 (x := (312, .iaload, 0, 0, 0)) (by decide) rfl
theorem f306_313 : fetch 306 313 = some (.aload_n 0, 0, 0, 0) := v306_u0_2 (x := (313, .aload_n 0, 0, 0, 0)) (by decide) rfl
theorem f306_314 : fetch 306 314 = some (.iload_n 3, 0, 0, 0) := v306_u0_2 (x := (314, .iload_n 3, 0, 0, 0)) (by decide) rfl
theorem f306_315 : fetch 306 315 = some (.iconst 3, 0, 0, 0) := v306_u0_2 (x := (315, .iconst 3, 0, 0, 0)) (by decide) rfl
theorem f306_316 : fetch 306 316 = some (.iadd, 0, 0, 0) := v306_u0_2 (x := (316, .iadd, 0, 0, 0)) (by decide) rfl
theorem f306_317 : fetch 306 317 = some (.iaload, 0, 0, 0) := v306_u0_2 (x := (317, .iaload, 0, 0, 0)) (by decide) rfl
theorem f306_318 : fetch 306 318 = some (.i2l, 0, 0, 0) := v306_u0_3 (x := (318, .i2l, 0, 0, 0)) (by decide) rfl
theorem f306_319 : fetch 306 319 = some (.bipush 32, 0, 0, 0) := v306_u0_3 (x := (319, .bipush 32, 0, 0, 0)) (by decide) rfl
theorem f306_321 : fetch 306 321 = some (.lshl, 0, 0, 0) := v306_u0_3 (x := (321, .lshl, 0, 0, 0)) (by decide) rfl
theorem f306_322 : fetch 306 322 = some (.aload_n 0, 0, 0, 0) := v306_u0_3 (x := (322, .aload_n 0, 0, 0, 0)) (by decide) rfl
theorem f306_323 : fetch 306 323 = some (.iload_n 3, 0, 0, 0) := v306_u0_3 (x := (323, .iload_n 3, 0, 0, 0)) (by decide) rfl
theorem f306_324 : fetch 306 324 = some (.iconst 4, 0, 0, 0) := v306_u0_3 (x := (324, .iconst 4, 0, 0, 0)) (by decide) rfl
theorem f306_325 : fetch 306 325 = some (.iadd, 0, 0, 0) := v306_u0_3 (x := (325, .iadd, 0, 0, 0)) (by decide) rfl
theorem f306_326 : fetch 306 326 = some (.iaload, 0, 0, 0) := v306_u0_3 (x := (326, .iaload, 0, 0, 0)) (by decide) rfl
theorem f306_327 : fetch 306 327 = some (.i2l, 0, 0, 0) := v306_u0_3 (x := (327, .i2l, 0, 0, 0)) (by decide) rfl
theorem f306_328 : fetch 306 328 = some (.ldc2_w 23, 0, 0, 4294967295) := v306_u0_3 (x := (328, .ldc2_w 23, 0, 0, 4294967295)) (by decide) rfl
theorem f306_331 : fetch 306 331 = some (.land, 0, 0, 0) := v306_u0_3 (x := (331, .land, 0, 0, 0)) (by decide) rfl
theorem f306_332 : fetch 306 332 = some (.lor, 0, 0, 0) := v306_u0_3 (x := (332, .lor, 0, 0, 0)) (by decide) rfl
theorem f306_333 : fetch 306 333 = some (.invokevirtual 25, 116, 3, 0) := v306_u0_3 (x := (333, .invokevirtual 25, 116, 3, 0)) (by decide) rfl
theorem f306_336 : fetch 306 336 = some (.aload_n 2, 0, 0, 0) := v306_u0_3 (x := (336, .aload_n 2, 0, 0, 0)) (by decide) rfl
theorem f306_337 : fetch 306 337 = some (.aload_n 0, 0, 0, 0) := v306_u0_3 (x := (337, .aload_n 0, 0, 0, 0)) (by decide) rfl
theorem f306_338 : fetch 306 338 = some (.iload_n 3, 0, 0, 0) := v306_u0_3 (x := (338, .iload_n 3, 0, 0, 0)) (by decide) rfl
theorem f306_339 : fetch 306 339 = some (.iconst 1, 0, 0, 0) := v306_u0_3 (x := (339, .iconst 1, 0, 0, 0)) (by decide) rfl
theorem f306_340 : fetch 306 340 = some (.iadd, 0, 0, 0) := v306_u0_3 (x := (340, .iadd, 0, 0, 0)) (by decide) rfl
theorem f306_341 : fetch 306 341 = some (.iaload, 0, 0, 0) := v306_u0_3 (x := (341, .iaload, 0, 0, 0)) (by decide) rfl
theorem f306_342 : fetch 306 342 = some (.aload_n 0, 0, 0, 0) := v306_u0_3 (x := (342, .aload_n 0, 0, 0, 0)) (by decide) rfl
theorem f306_343 : fetch 306 343 = some (.iload_n 3, 0, 0, 0) := v306_u0_3 (x := (343, .iload_n 3, 0, 0, 0)) (by decide) rfl
theorem f306_344 : fetch 306 344 = some (.iconst 2, 0, 0, 0) := v306_u0_3 (x := (344, .iconst 2, 0, 0, 0)) (by decide) rfl
theorem f306_345 : fetch 306 345 = some (.iadd, 0, 0, 0) := v306_u0_3 (x := (345, .iadd, 0, 0, 0)) (by decide) rfl
theorem f306_346 : fetch 306 346 = some (.iaload, 0, 0, 0) := v306_u0_3 (x := (346, .iaload, 0, 0, 0)) (by decide) rfl
theorem f306_347 : fetch 306 347 = some (.aload_n 0, 0, 0, 0) := v306_u0_4 (x := (347, .aload_n 0, 0, 0, 0)) (by decide) rfl
theorem f306_348 : fetch 306 348 = some (.iload_n 3, 0, 0, 0) := v306_u0_4 (x := (348, .iload_n 3, 0, 0, 0)) (by decide) rfl
theorem f306_349 : fetch 306 349 = some (.iconst 3, 0, 0, 0) := v306_u0_4 (x := (349, .iconst 3, 0, 0, 0)) (by decide) rfl
theorem f306_350 : fetch 306 350 = some (.iadd, 0, 0, 0) := v306_u0_4 (x := (350, .iadd, 0, 0, 0)) (by decide) rfl
theorem f306_351 : fetch 306 351 = some (.iaload, 0, 0, 0) := v306_u0_4 (x := (351, .iaload, 0, 0, 0)) (by decide) rfl
theorem f306_352 : fetch 306 352 = some (.i2l, 0, 0, 0) := v306_u0_4 (x := (352, .i2l, 0, 0, 0)) (by decide) rfl
theorem f306_353 : fetch 306 353 = some (.bipush 32, 0, 0, 0) := v306_u0_4 (x := (353, .bipush 32, 0, 0, 0)) (by decide) rfl
theorem f306_355 : fetch 306 355 = some (.lshl, 0, 0, 0) := v306_u0_4 (x := (355, .lshl, 0, 0, 0)) (by decide) rfl
theorem f306_356 : fetch 306 356 = some (.aload_n 0, 0, 0, 0) := v306_u0_4 (x := (356, .aload_n 0, 0, 0, 0)) (by decide) rfl
theorem f306_357 : fetch 306 357 = some (.iload_n 3, 0, 0, 0) := v306_u0_4 (x := (357, .iload_n 3, 0, 0, 0)) (by decide) rfl
theorem f306_358 : fetch 306 358 = some (.iconst 4, 0, 0, 0) := v306_u0_4 (x := (358, .iconst 4, 0, 0, 0)) (by decide) rfl
theorem f306_359 : fetch 306 359 = some (.iadd, 0, 0, 0) := v306_u0_4 (x := (359, .iadd, 0, 0, 0)) (by decide) rfl
theorem f306_360 : fetch 306 360 = some (.iaload, 0, 0, 0) := v306_u0_4 (x := (360, .iaload, 0, 0, 0)) (by decide) rfl
theorem f306_361 : fetch 306 361 = some (.i2l, 0, 0, 0) := v306_u0_4 (x := (361, .i2l, 0, 0, 0)) (by decide) rfl
theorem f306_362 : fetch 306 362 = some (.ldc2_w 23, 0, 0, 4294967295) := v306_u0_4 (x := (362, .ldc2_w 23, 0, 0, 4294967295)) (by decide) rfl
theorem f306_365 : fetch 306 365 = some (.land, 0, 0, 0) := v306_u0_4 (x := (365, .land, 0, 0, 0)) (by decide) rfl
theorem f306_366 : fetch 306 366 = some (.lor, 0, 0, 0) := v306_u0_4 (x := (366, .lor, 0, 0, 0)) (by decide) rfl
theorem f306_367 : fetch 306 367 = some (.invokevirtual 29, 192, 3, 0) := v306_u0_4 (x := (367, .invokevirtual 29, 192, 3, 0)) (by decide) rfl
theorem f306_370 : fetch 306 370 = some (.if_icmp .eq 1750, 2120, 0, 0) := v306_u0_4 (x := (370, .if_icmp .eq 1750, 2120, 0, 0)) (by decide) rfl
theorem f306_373 : fetch 306 373 = some (.iconst 0, 0, 0, 0) := v306_u0_4 (x := (373, .iconst 0, 0, 0, 0)) (by decide) rfl
theorem f306_374 : fetch 306 374 = some (.ireturn, 0, 0, 1) := v306_u0_4 (x := (374, .ireturn, 0, 0, 1)) (by decide) rfl
theorem f306_375 : fetch 306 375 = some (.aload_n 1, 0, 0, 0) := v306_u0_4 (x := (375, .aload_n 1, 0, 0, 0)) (by decide) rfl
theorem f306_376 : fetch 306 376 = some (.aload_n 0, 0, 0, 0) := v306_u0_4 (x := (376, .aload_n 0, 0, 0, 0)) (by decide) rfl
theorem f306_377 : fetch 306 377 = some (.iload_n 3, 0, 0, 0) := v306_u0_4 (x := (377, .iload_n 3, 0, 0, 0)) (by decide) rfl
theorem f306_378 : fetch 306 378 = some (.iconst 1, 0, 0, 0) := v306_u0_5 (x := (378, .iconst 1, 0, 0, 0)) (by decide) rfl
theorem f306_379 : fetch 306 379 = some (.iadd, 0, 0, 0) := v306_u0_5 (x := (379, .iadd, 0, 0, 0)) (by decide) rfl
theorem f306_380 : fetch 306 380 = some (.iaload, 0, 0, 0) := v306_u0_5 (x := (380, .iaload, 0, 0, 0)) (by decide) rfl
theorem f306_381 : fetch 306 381 = some (.aload_n 0, 0, 0, 0) := v306_u0_5 (x := (381, .aload_n 0, 0, 0, 0)) (by decide) rfl
theorem f306_382 : fetch 306 382 = some (.iload_n 3, 0, 0, 0) := v306_u0_5 (x := (382, .iload_n 3, 0, 0, 0)) (by decide) rfl
theorem f306_383 : fetch 306 383 = some (.iconst 2, 0, 0, 0) := v306_u0_5 (x := (383, .iconst 2, 0, 0, 0)) (by decide) rfl
theorem f306_384 : fetch 306 384 = some (.iadd, 0, 0, 0) := v306_u0_5 (x := (384, .iadd, 0, 0, 0)) (by decide) rfl
theorem f306_385 : fetch 306 385 = some (.iaload, 0, 0, 0) := v306_u0_5 (x := (385, .iaload, 0, 0, 0)) (by decide) rfl
theorem f306_386 : fetch 306 386 = some (.invokevirtual 30, 117, 2, 0) := v306_u0_5 (x := (386, .invokevirtual 30, 117, 2, 0)) (by decide) rfl
theorem f306_389 : fetch 306 389 = some (.aload_n 2, 0, 0, 0) := v306_u0_5 (x := (389, .aload_n 2, 0, 0, 0)) (by decide) rfl
theorem f306_390 : fetch 306 390 = some (.aload_n 0, 0, 0, 0) := v306_u0_5 (x := (390, .aload_n 0, 0, 0, 0)) (by decide) rfl
theorem f306_391 : fetch 306 391 = some (.iload_n 3, 0, 0, 0) := v306_u0_5 (x := (391, .iload_n 3, 0, 0, 0)) (by decide) rfl
theorem f306_392 : fetch 306 392 = some (.iconst 1, 0, 0, 0) := v306_u0_5 (x := (392, .iconst 1, 0, 0, 0)) (by decide) rfl
theorem f306_393 : fetch 306 393 = some (.iadd, 0, 0, 0) := v306_u0_5 (x := (393, .iadd, 0, 0, 0)) (by decide) rfl
theorem f306_394 : fetch 306 394 = some (.iaload, 0, 0, 0) := v306_u0_5 (x := (394, .iaload, 0, 0, 0)) (by decide) rfl
theorem f306_395 : fetch 306 395 = some (.aload_n 0, 0, 0, 0) := v306_u0_5 (x := (395, .aload_n 0, 0, 0, 0)) (by decide) rfl
theorem f306_396 : fetch 306 396 = some (.iload_n 3, 0, 0, 0) := v306_u0_5 (x := (396, .iload_n 3, 0, 0, 0)) (by decide) rfl
theorem f306_397 : fetch 306 397 = some (.iconst 2, 0, 0, 0) := v306_u0_5 (x := (397, .iconst 2, 0, 0, 0)) (by decide) rfl
theorem f306_398 : fetch 306 398 = some (.iadd, 0, 0, 0) := v306_u0_5 (x := (398, .iadd, 0, 0, 0)) (by decide) rfl
theorem f306_399 : fetch 306 399 = some (.iaload, 0, 0, 0) := v306_u0_5 (x := (399, .iaload, 0, 0, 0)) (by decide) rfl
theorem f306_400 : fetch 306 400 = some (.invokevirtual 34, 194, 2, 0) := v306_u0_5 (x := (400, .invokevirtual 34, 194, 2, 0)) (by decide) rfl
theorem f306_403 : fetch 306 403 = some (.if_icmp .eq 1717, 2120, 0, 0) := v306_u0_5 (x := (403, .if_icmp .eq 1717, 2120, 0, 0)) (by decide) rfl
theorem f306_406 : fetch 306 406 = some (.iconst 0, 0, 0, 0) := v306_u0_5 (x := (406, .iconst 0, 0, 0, 0)) (by decide) rfl
theorem f306_407 : fetch 306 407 = some (.ireturn, 0, 0, 1) := v306_u0_5 (x := (407, .ireturn, 0, 0, 1)) (by decide) rfl
theorem f306_408 : fetch 306 408 = some (.aload_n 1, 0, 0, 0) := v306_u0_6 (x := (408, .aload_n 1, 0, 0, 0)) (by decide) rfl
theorem f306_409 : fetch 306 409 = some (.aload_n 0, 0, 0, 0) := v306_u0_6 (x := (409, .aload_n 0, 0, 0, 0)) (by decide) rfl
theorem f306_410 : fetch 306 410 = some (.iload_n 3, 0, 0, 0) := v306_u0_6 (x := (410, .iload_n 3, 0, 0, 0)) (by decide) rfl
theorem f306_411 : fetch 306 411 = some (.iconst 1, 0, 0, 0) := v306_u0_6 (x := (411, .iconst 1, 0, 0, 0)) (by decide) rfl
theorem f306_412 : fetch 306 412 = some (.iadd, 0, 0, 0) := v306_u0_6 (x := (412, .iadd, 0, 0, 0)) (by decide) rfl
theorem f306_413 : fetch 306 413 = some (.iaload, 0, 0, 0) := v306_u0_6 (x := (413, .iaload, 0, 0, 0)) (by decide) rfl
theorem f306_414 : fetch 306 414 = some (.aload_n 0, 0, 0, 0) := v306_u0_6 (x := (414, .aload_n 0, 0, 0, 0)) (by decide) rfl
theorem f306_415 : fetch 306 415 = some (.iload_n 3, 0, 0, 0) := v306_u0_6 (x := (415, .iload_n 3, 0, 0, 0)) (by decide) rfl
theorem f306_416 : fetch 306 416 = some (.iconst 2, 0, 0, 0) := v306_u0_6 (x := (416, .iconst 2, 0, 0, 0)) (by decide) rfl
theorem f306_417 : fetch 306 417 = some (.iadd, 0, 0, 0) := v306_u0_6 (x := (417, .iadd, 0, 0, 0)) (by decide) rfl
theorem f306_418 : fetch 306 418 = some (.iaload, 0, 0, 0) := v306_u0_6 (x := (418, .iaload, 0, 0, 0)) (by decide) rfl
theorem f306_419 : fetch 306 419 = some (.aload_n 0, 0, 0, 0) := v306_u0_6 (x := (419, .aload_n 0, 0, 0, 0)) (by decide) rfl
theorem f306_420 : fetch 306 420 = some (.iload_n 3, 0, 0, 0) := v306_u0_6 (x := (420, .iload_n 3, 0, 0, 0)) (by decide) rfl
theorem f306_421 : fetch 306 421 = some (.iconst 3, 0, 0, 0) := v306_u0_6 (x := (421, .iconst 3, 0, 0, 0)) (by decide) rfl
theorem f306_422 : fetch 306 422 = some (.iadd, 0, 0, 0) := v306_u0_6 (x := (422, .iadd, 0, 0, 0)) (by decide) rfl
theorem f306_423 : fetch 306 423 = some (.iaload, 0, 0, 0) := v306_u0_6 (x := (423, .iaload, 0, 0, 0)) (by decide) rfl
theorem f306_424 : fetch 306 424 = some (.invokevirtual 35, 118, 3, 0) := v306_u0_6 (x := (424, .invokevirtual 35, 118, 3, 0)) (by decide) rfl
theorem f306_427 : fetch 306 427 = some (.aload_n 2, 0, 0, 0) := v306_u0_6 (x := (427, .aload_n 2, 0, 0, 0)) (by decide) rfl
theorem f306_428 : fetch 306 428 = some (.aload_n 0, 0, 0, 0) := v306_u0_6 (x := (428, .aload_n 0, 0, 0, 0)) (by decide) rfl
theorem f306_429 : fetch 306 429 = some (.iload_n 3, 0, 0, 0) := v306_u0_6 (x := (429, .iload_n 3, 0, 0, 0)) (by decide) rfl
theorem f306_430 : fetch 306 430 = some (.iconst 1, 0, 0, 0) := v306_u0_6 (x := (430, .iconst 1, 0, 0, 0)) (by decide) rfl
theorem f306_431 : fetch 306 431 = some (.iadd, 0, 0, 0) := v306_u0_6 (x := (431, .iadd, 0, 0, 0)) (by decide) rfl
theorem f306_432 : fetch 306 432 = some (.iaload, 0, 0, 0) := v306_u0_6 (x := (432, .iaload, 0, 0, 0)) (by decide) rfl
theorem f306_433 : fetch 306 433 = some (.aload_n 0, 0, 0, 0) := v306_u0_6 (x := (433, .aload_n 0, 0, 0, 0)) (by decide) rfl
theorem f306_434 : fetch 306 434 = some (.iload_n 3, 0, 0, 0) := v306_u0_7 (x := (434, .iload_n 3, 0, 0, 0)) (by decide) rfl
theorem f306_435 : fetch 306 435 = some (.iconst 2, 0, 0, 0) := v306_u0_7 (x := (435, .iconst 2, 0, 0, 0)) (by decide) rfl
theorem f306_436 : fetch 306 436 = some (.iadd, 0, 0, 0) := v306_u0_7 (x := (436, .iadd, 0, 0, 0)) (by decide) rfl
theorem f306_437 : fetch 306 437 = some (.iaload, 0, 0, 0) := v306_u0_7 (x := (437, .iaload, 0, 0, 0)) (by decide) rfl
theorem f306_438 : fetch 306 438 = some (.aload_n 0, 0, 0, 0) := v306_u0_7 (x := (438, .aload_n 0, 0, 0, 0)) (by decide) rfl
theorem f306_439 : fetch 306 439 = some (.iload_n 3, 0, 0, 0) := v306_u0_7 (x := (439, .iload_n 3, 0, 0, 0)) (by decide) rfl
theorem f306_440 : fetch 306 440 = some (.iconst 3, 0, 0, 0) := v306_u0_7 (x := (440, .iconst 3, 0, 0, 0)) (by decide) rfl
theorem f306_441 : fetch 306 441 = some (.iadd, 0, 0, 0) := v306_u0_7 (x := (441, .iadd, 0, 0, 0)) (by decide) rfl
theorem f306_442 : fetch 306 442 = some (.iaload, 0, 0, 0) := v306_u0_7 (x := (442, .iaload, 0, 0, 0)) (by decide) rfl
theorem f306_443 : fetch 306 443 = some (.invokevirtual 39, 196, 3, 0) := v306_u0_7 (x := (443, .invokevirtual 39, 196, 3, 0)) (by decide) rfl
theorem f306_446 : fetch 306 446 = some (.if_icmp .eq 1674, 2120, 0, 0) := v306_u0_7 (x := (446, .if_icmp .eq 1674, 2120, 0, 0)) (by decide) rfl
theorem f306_449 : fetch 306 449 = some (.iconst 0, 0, 0, 0) := v306_u0_7 (x := (449, .iconst 0, 0, 0, 0)) (by decide) rfl
theorem f306_450 : fetch 306 450 = some (.ireturn, 0, 0, 1) := v306_u0_7 (x := (450, .ireturn, 0, 0, 1)) (by decide) rfl
theorem f306_451 : fetch 306 451 = some (.aload_n 1, 0, 0, 0) := v306_u0_7 (x := (451, .aload_n 1, 0, 0, 0)) (by decide) rfl
theorem f306_452 : fetch 306 452 = some (.aload_n 0, 0, 0, 0) := v306_u0_7 (x := (452, .aload_n 0, 0, 0, 0)) (by decide) rfl
theorem f306_453 : fetch 306 453 = some (.iload_n 3, 0, 0, 0) := v306_u0_7 (x := (453, .iload_n 3, 0, 0, 0)) (by decide) rfl
theorem f306_454 : fetch 306 454 = some (.iconst 1, 0, 0, 0) := v306_u0_7 (x := (454, .iconst 1, 0, 0, 0)) (by decide) rfl
theorem f306_455 : fetch 306 455 = some (.iadd, 0, 0, 0) := v306_u0_7 (x := (455, .iadd, 0, 0, 0)) (by decide) rfl
theorem f306_456 : fetch 306 456 = some (.iaload, 0, 0, 0) := v306_u0_7 (x := (456, .iaload, 0, 0, 0)) (by decide) rfl
theorem f306_457 : fetch 306 457 = some (.aload_n 0, 0, 0, 0) := v306_u0_7 (x := (457, .aload_n 0, 0, 0, 0)) (by decide) rfl
theorem f306_458 : fetch 306 458 = some (.iload_n 3, 0, 0, 0) := v306_u0_7 (x := (458, .iload_n 3, 0, 0, 0)) (by decide) rfl
theorem f306_459 : fetch 306 459 = some (.iconst 2, 0, 0, 0) := v306_u0_7 (x := (459, .iconst 2, 0, 0, 0)) (by decide) rfl
theorem f306_460 : fetch 306 460 = some (.iadd, 0, 0, 0) := v306_u0_7 (x := (460, .iadd, 0, 0, 0)) (by decide) rfl
theorem f306_461 : fetch 306 461 = some (.iaload, 0, 0, 0) := v306_u0_7 (x := (461, .iaload, 0, 0, 0)) (by decide) rfl
theorem f306_462 : fetch 306 462 = some (.aload_n 0, 0, 0, 0) := v306_u0_8 (x := (462, .aload_n 0, 0, 0, 0)) (by decide) rfl
theorem f306_463 : fetch 306 463 = some (.iload_n 3, 0, 0, 0) := v306_u0_8 (x := (463, .iload_n 3, 0, 0, 0)) (by decide) rfl
theorem f306_464 : fetch 306 464 = some (.iconst 3, 0, 0, 0) := v306_u0_8 (x := (464, .iconst 3, 0, 0, 0)) (by decide) rfl
theorem f306_465 : fetch 306 465 = some (.iadd, 0, 0, 0) := v306_u0_8 (x := (465, .iadd, 0, 0, 0)) (by decide) rfl
theorem f306_466 : fetch 306 466 = some (.iaload, 0, 0, 0) := v306_u0_8 (x := (466, .iaload, 0, 0, 0)) (by decide) rfl
theorem f306_467 : fetch 306 467 = some (.invokevirtual 40, 119, 3, 0) := v306_u0_8 (x := (467, .invokevirtual 40, 119, 3, 0)) (by decide) rfl
theorem f306_470 : fetch 306 470 = some (.aload_n 2, 0, 0, 0) := v306_u0_8 (x := (470, .aload_n 2, 0, 0, 0)) (by decide) rfl
theorem f306_471 : fetch 306 471 = some (.aload_n 0, 0, 0, 0) := v306_u0_8 (x := (471, .aload_n 0, 0, 0, 0)) (by decide) rfl
theorem f306_472 : fetch 306 472 = some (.iload_n 3, 0, 0, 0) := v306_u1_0 (x := (472, .iload_n 3, 0, 0, 0)) (by decide) rfl
theorem f306_473 : fetch 306 473 = some (.iconst 1, 0, 0, 0) := v306_u1_0 (x := (473, .iconst 1, 0, 0, 0)) (by decide) rfl
theorem f306_474 : fetch 306 474 = some (.iadd, 0, 0, 0) := v306_u1_0 (x := (474, .iadd, 0, 0, 0)) (by decide) rfl
theorem f306_475 : fetch 306 475 = some (.iaload, 0, 0, 0) := v306_u1_0 (x := (475, .iaload, 0, 0, 0)) (by decide) rfl
theorem f306_476 : fetch 306 476 = some (.aload_n 0, 0, 0, 0) := v306_u1_0 (x := (476, .aload_n 0, 0, 0, 0)) (by decide) rfl
theorem f306_477 : fetch 306 477 = some (.iload_n 3, 0, 0, 0) := v306_u1_0 (x := (477, .iload_n 3, 0, 0, 0)) (by decide) rfl
theorem f306_478 : fetch 306 478 = some (.iconst 2, 0, 0, 0) := v306_u1_0 (x := (478, .iconst 2, 0, 0, 0)) (by decide) rfl
theorem f306_479 : fetch 306 479 = some (.iadd, 0, 0, 0) := v306_u1_0 (x := (479, .iadd, 0, 0, 0)) (by decide) rfl
theorem f306_480 : fetch 306 480 = some (.iaload, 0, 0, 0) := v306_u1_0 (x := (480, .iaload, 0, 0, 0)) (by decide) rfl
theorem f306_481 : fetch 306 481 = some (.aload_n 0, 0, 0, 0) := v306_u1_0 (x := (481, .aload_n 0, 0, 0, 0)) (by decide) rfl
theorem f306_482 : fetch 306 482 = some (.iload_n 3, 0, 0, 0) := v306_u1_0 (x := (482, .iload_n 3, 0, 0, 0)) (by decide) rfl
theorem f306_483 : fetch 306 483 = some (.iconst 3, 0, 0, 0) := v306_u1_0 (x := (483, .iconst 3, 0, 0, 0)) (by decide) rfl
theorem f306_484 : fetch 306 484 = some (.iadd, 0, 0, 0) := v306_u1_0 (x := (484, .iadd, 0, 0, 0)) (by decide) rfl
theorem f306_485 : fetch 306 485 = some (.iaload, 0, 0, 0) := v306_u1_0 (x := (485, .iaload, 0, 0, 0)) (by decide) rfl
theorem f306_486 : fetch 306 486 = some (.invokevirtual 43, 201, 3, 0) := v306_u1_0 (x := (486, .invokevirtual 43, 201, 3, 0)) (by decide) rfl
theorem f306_489 : fetch 306 489 = some (.if_icmp .eq 1631, 2120, 0, 0) := v306_u1_0 (x := (489, .if_icmp .eq 1631, 2120, 0, 0)) (by decide) rfl
theorem f306_492 : fetch 306 492 = some (.iconst 0, 0, 0, 0) := v306_u1_0 (x := (492, .iconst 0, 0, 0, 0)) (by decide) rfl
theorem f306_493 : fetch 306 493 = some (.ireturn, 0, 0, 1) := v306_u1_0 (x := (493, .ireturn, 0, 0, 1)) (by decide) rfl
theorem f306_494 : fetch 306 494 = some (.aload_n 1, 0, 0, 0) := v306_u1_0 (x := (494, .aload_n 1, 0, 0, 0)) (by decide) rfl
theorem f306_495 : fetch 306 495 = some (.aload_n 0, 0, 0, 0) := v306_u1_0 (x := (495, .aload_n 0, 0, 0, 0)) (by decide) rfl
theorem f306_496 : fetch 306 496 = some (.iload_n 3, 0, 0, 0) := v306_u1_0 (x := (496, .iload_n 3, 0, 0, 0)) (by decide) rfl
theorem f306_497 : fetch 306 497 = some (.iconst 1, 0, 0, 0) := v306_u1_0 (x := (497, .iconst 1, 0, 0, 0)) (by decide) rfl
theorem f306_498 : fetch 306 498 = some (.iadd, 0, 0, 0) := v306_u1_0 (x := (498, .iadd, 0, 0, 0)) (by decide) rfl
theorem f306_499 : fetch 306 499 = some (.iaload, 0, 0, 0) := v306_u1_0 (x := (499, .iaload, 0, 0, 0)) (by decide) rfl
theorem f306_500 : fetch 306 500 = some (.aload_n 0, 0, 0, 0) := v306_u1_1 (x := (500, .aload_n 0, 0, 0, 0)) (by decide) rfl
theorem f306_501 : fetch 306 501 = some (.iload_n 3, 0, 0, 0) := v306_u1_1 (x := (501, .iload_n 3, 0, 0, 0)) (by decide) rfl
theorem f306_502 : fetch 306 502 = some (.iconst 2, 0, 0, 0) := v306_u1_1 (x := (502, .iconst 2, 0, 0, 0)) (by decide) rfl
theorem f306_503 : fetch 306 503 = some (.iadd, 0, 0, 0) := v306_u1_1 (x := (503, .iadd, 0, 0, 0)) (by decide) rfl
theorem f306_504 : fetch 306 504 = some (.iaload, 0, 0, 0) := v306_u1_1 (x := (504, .iaload, 0, 0, 0)) (by decide) rfl
theorem f306_505 : fetch 306 505 = some (.invokevirtual 44, 120, 2, 0) := v306_u1_1 (x := (505, .invokevirtual 44, 120, 2, 0)) (by decide) rfl
theorem f306_508 : fetch 306 508 = some (.aload_n 2, 0, 0, 0) := v306_u1_1 (x := (508, .aload_n 2, 0, 0, 0)) (by decide) rfl
theorem f306_509 : fetch 306 509 = some (.aload_n 0, 0, 0, 0) := v306_u1_1 (x := (509, .aload_n 0, 0, 0, 0)) (by decide) rfl
theorem f306_510 : fetch 306 510 = some (.iload_n 3, 0, 0, 0) := v306_u1_1 (x := (510, .iload_n 3, 0, 0, 0)) (by decide) rfl
theorem f306_511 : fetch 306 511 = some (.iconst 1, 0, 0, 0) := v306_u1_1 (x := (511, .iconst 1, 0, 0, 0)) (by decide) rfl
theorem f306_512 : fetch 306 512 = some (.iadd, 0, 0, 0) := v306_u1_1 (x := (512, .iadd, 0, 0, 0)) (by decide) rfl
theorem f306_513 : fetch 306 513 = some (.iaload, 0, 0, 0) := v306_u1_1 (x := (513, .iaload, 0, 0, 0)) (by decide) rfl
theorem f306_514 : fetch 306 514 = some (.aload_n 0, 0, 0, 0) := v306_u1_1 (x := (514, .aload_n 0, 0, 0, 0)) (by decide) rfl
theorem f306_515 : fetch 306 515 = some (.iload_n 3, 0, 0, 0) := v306_u1_1 (x := (515, .iload_n 3, 0, 0, 0)) (by decide) rfl
theorem f306_516 : fetch 306 516 = some (.iconst 2, 0, 0, 0) := v306_u1_1 (x := (516, .iconst 2, 0, 0, 0)) (by decide) rfl
theorem f306_517 : fetch 306 517 = some (.iadd, 0, 0, 0) := v306_u1_1 (x := (517, .iadd, 0, 0, 0)) (by decide) rfl
theorem f306_518 : fetch 306 518 = some (.iaload, 0, 0, 0) := v306_u1_1 (x := (518, .iaload, 0, 0, 0)) (by decide) rfl
theorem f306_519 : fetch 306 519 = some (.invokevirtual 47, 202, 2, 0) := v306_u1_1 (x := (519, .invokevirtual 47, 202, 2, 0)) (by decide) rfl
theorem f306_522 : fetch 306 522 = some (.if_icmp .eq 1598, 2120, 0, 0) := v306_u1_1 (x := (522, .if_icmp .eq 1598, 2120, 0, 0)) (by decide) rfl
theorem f306_525 : fetch 306 525 = some (.iconst 0, 0, 0, 0) := v306_u1_1 (x := (525, .iconst 0, 0, 0, 0)) (by decide) rfl
theorem f306_526 : fetch 306 526 = some (.ireturn, 0, 0, 1) := v306_u1_1 (x := (526, .ireturn, 0, 0, 1)) (by decide) rfl
theorem f306_527 : fetch 306 527 = some (.aload_n 1, 0, 0, 0) := v306_u1_1 (x := (527, .aload_n 1, 0, 0, 0)) (by decide) rfl
theorem f306_528 : fetch 306 528 = some (.aload_n 0, 0, 0, 0) := v306_u1_1 (x := (528, .aload_n 0, 0, 0, 0)) (by decide) rfl
theorem f306_529 : fetch 306 529 = some (.iload_n 3, 0, 0, 0) := v306_u1_1 (x := (529, .iload_n 3, 0, 0, 0)) (by decide) rfl
theorem f306_530 : fetch 306 530 = some (.iconst 1, 0, 0, 0) := v306_u1_2 (x := (530, .iconst 1, 0, 0, 0)) (by decide) rfl
theorem f306_531 : fetch 306 531 = some (.iadd, 0, 0, 0) := v306_u1_2 (x := (531, .iadd, 0, 0, 0)) (by decide) rfl
theorem f306_532 : fetch 306 532 = some (.iaload, 0, 0, 0) := v306_u1_2 (x := (532, .iaload, 0, 0, 0)) (by decide) rfl
theorem f306_533 : fetch 306 533 = some (.aload_n 0, 0, 0, 0) := v306_u1_2 (x := (533, .aload_n 0, 0, 0, 0)) (by decide) rfl
theorem f306_534 : fetch 306 534 = some (.iload_n 3, 0, 0, 0) := v306_u1_2 (x := (534, .iload_n 3, 0, 0, 0)) (by decide) rfl
theorem f306_535 : fetch 306 535 = some (.iconst 2, 0, 0, 0) := v306_u1_2 (x := (535, .iconst 2, 0, 0, 0)) (by decide) rfl
theorem f306_536 : fetch 306 536 = some (.iadd, 0, 0, 0) := v306_u1_2 (x := (536, .iadd, 0, 0, 0)) (by decide) rfl
theorem f306_537 : fetch 306 537 = some (.iaload, 0, 0, 0) := v306_u1_2 (x := (537, .iaload, 0, 0, 0)) (by decide) rfl
theorem f306_538 : fetch 306 538 = some (.aload_n 0, 0, 0, 0) := v306_u1_2 (x := (538, .aload_n 0, 0, 0, 0)) (by decide) rfl
theorem f306_539 : fetch 306 539 = some (.iload_n 3, 0, 0, 0) := v306_u1_2 (x := (539, .iload_n 3, 0, 0, 0)) (by decide) rfl
theorem f306_540 : fetch 306 540 = some (.iconst 3, 0, 0, 0) := v306_u1_2 (x := (540, .iconst 3, 0, 0, 0)) (by decide) rfl
theorem f306_541 : fetch 306 541 = some (.iadd, 0, 0, 0) := v306_u1_2 (x := (541, .iadd, 0, 0, 0)) (by decide) rfl
theorem f306_542 : fetch 306 542 = some (.iaload, 0, 0, 0) := v306_u1_2 (x := (542, .iaload, 0, 0, 0)) (by decide) rfl
theorem f306_543 : fetch 306 543 = some (.i2l, 0, 0, 0) := v306_u1_2 (x := (543, .i2l, 0, 0, 0)) (by decide) rfl
theorem f306_544 : fetch 306 544 = some (.bipush 32, 0, 0, 0) := v306_u1_2 (x := (544, .bipush 32, 0, 0, 0)) (by decide) rfl
theorem f306_546 : fetch 306 546 = some (.lshl, 0, 0, 0) := v306_u1_2 (x := (546, .lshl, 0, 0, 0)) (by decide) rfl
theorem f306_547 : fetch 306 547 = some (.aload_n 0, 0, 0, 0) := v306_u1_2 (x := (547, .aload_n 0, 0, 0, 0)) (by decide) rfl
theorem f306_548 : fetch 306 548 = some (.iload_n 3, 0, 0, 0) := v306_u1_2 (x := (548, .iload_n 3, 0, 0, 0)) (by decide) rfl
theorem f306_549 : fetch 306 549 = some (.iconst 4, 0, 0, 0) := v306_u1_2 (x := (549, .iconst 4, 0, 0, 0)) (by decide) rfl
theorem f306_550 : fetch 306 550 = some (.iadd, 0, 0, 0) := v306_u1_2 (x := (550, .iadd, 0, 0, 0)) (by decide) rfl
theorem f306_551 : fetch 306 551 = some (.iaload, 0, 0, 0) := v306_u1_2 (x := (551, .iaload, 0, 0, 0)) (by decide) rfl
theorem f306_552 : fetch 306 552 = some (.i2l, 0, 0, 0) := v306_u1_2 (x := (552, .i2l, 0, 0, 0)) (by decide) rfl
theorem f306_553 : fetch 306 553 = some (.ldc2_w 23, 0, 0, 4294967295) := v306_u1_2 (x := (553, .ldc2_w 23, 0, 0, 4294967295)) (by decide) rfl
theorem f306_556 : fetch 306 556 = some (.land, 0, 0, 0) := v306_u1_2 (x := (556, .land, 0, 0, 0)) (by decide) rfl
theorem f306_557 : fetch 306 557 = some (.lor, 0, 0, 0) := v306_u1_3 (x := (557, .lor, 0, 0, 0)) (by decide) rfl
theorem f306_558 : fetch 306 558 = some (.invokevirtual 48, 121, 3, 0) := v306_u1_3 (x := (558, .invokevirtual 48, 121, 3, 0)) (by decide) rfl
theorem f306_561 : fetch 306 561 = some (.aload_n 2, 0, 0, 0) := v306_u1_3 (x := (561, .aload_n 2, 0, 0, 0)) (by decide) rfl
theorem f306_562 : fetch 306 562 = some (.aload_n 0, 0, 0, 0) := v306_u1_3 (x := (562, .aload_n 0, 0, 0, 0)) (by decide) rfl
theorem f306_563 : fetch 306 563 = some (.iload_n 3, 0, 0, 0) := v306_u1_3 (x := (563, .iload_n 3, 0, 0, 0)) (by decide) rfl
theorem f306_564 : fetch 306 564 = some (.iconst 1, 0, 0, 0) := v306_u1_3 (x := (564, .iconst 1, 0, 0, 0)) (by decide) rfl
theorem f306_565 : fetch 306 565 = some (.iadd, 0, 0, 0) := v306_u1_3 (x := (565, .iadd, 0, 0, 0)) (by decide) rfl
theorem f306_566 : fetch 306 566 = some (.iaload, 0, 0, 0) := v306_u1_3 (x := (566, .iaload, 0, 0, 0)) (by decide) rfl
theorem f306_567 : fetch 306 567 = some (.aload_n 0, 0, 0, 0) := v306_u1_3 (x := (567, .aload_n 0, 0, 0, 0)) (by decide) rfl
theorem f306_568 : fetch 306 568 = some (.iload_n 3, 0, 0, 0) := v306_u1_3 (x := (568, .iload_n 3, 0, 0, 0)) (by decide) rfl
theorem f306_569 : fetch 306 569 = some (.iconst 2, 0, 0, 0) := v306_u1_3 (x := (569, .iconst 2, 0, 0, 0)) (by decide) rfl
theorem f306_570 : fetch 306 570 = some (.iadd, 0, 0, 0) := v306_u1_3 (x := (570, .iadd, 0, 0, 0)) (by decide) rfl
theorem f306_571 : fetch 306 571 = some (.iaload, 0, 0, 0) := v306_u1_3 (x := (571, .iaload, 0, 0, 0)) (by decide) rfl
theorem f306_572 : fetch 306 572 = some (.aload_n 0, 0, 0, 0) := v306_u1_3 (x := (572, .aload_n 0, 0, 0, 0)) (by decide) rfl
theorem f306_573 : fetch 306 573 = some (.iload_n 3, 0, 0, 0) := v306_u1_3 (x := (573, .iload_n 3, 0, 0, 0)) (by decide) rfl
theorem f306_574 : fetch 306 574 = some (.iconst 3, 0, 0, 0) := v306_u1_3 (x := (574, .iconst 3, 0, 0, 0)) (by decide) rfl
theorem f306_575 : fetch 306 575 = some (.iadd, 0, 0, 0) := v306_u1_3 (x := (575, .iadd, 0, 0, 0)) (by decide) rfl
theorem f306_576 : fetch 306 576 = some (.iaload, 0, 0, 0) := v306_u1_3 (x := (576, .iaload, 0, 0, 0)) (by decide) rfl
theorem f306_577 : fetch 306 577 = some (.i2l, 0, 0, 0) := v306_u1_3 (x := (577, .i2l, 0, 0, 0)) (by decide) rfl
theorem f306_578 : fetch 306 578 = some (.bipush 32, 0, 0, 0) := v306_u1_3 (x := (578, .bipush 32, 0, 0, 0)) (by decide) rfl
theorem f306_580 : fetch 306 580 = some (.lshl, 0, 0, 0) := v306_u1_3 (x := (580, .lshl, 0, 0, 0)) (by decide) rfl
theorem f306_581 : fetch 306 581 = some (.aload_n 0, 0, 0, 0) := v306_u1_3 (x := (581, .aload_n 0, 0, 0, 0)) (by decide) rfl
theorem f306_582 : fetch 306 582 = some (.iload_n 3, 0, 0, 0) := v306_u1_3 (x := (582, .iload_n 3, 0, 0, 0)) (by decide) rfl
theorem f306_583 : fetch 306 583 = some (.iconst 4, 0, 0, 0) := v306_u1_3 (x := (583, .iconst 4, 0, 0, 0)) (by decide) rfl
theorem f306_584 : fetch 306 584 = some (.iadd, 0, 0, 0) := v306_u1_4 (x := (584, .iadd, 0, 0, 0)) (by decide) rfl
theorem f306_585 : fetch 306 585 = some (.iaload, 0, 0, 0) := v306_u1_4 (x := (585, .iaload, 0, 0, 0)) (by decide) rfl
theorem f306_586 : fetch 306 586 = some (.i2l, 0, 0, 0) := v306_u1_4 (x := (586, .i2l, 0, 0, 0)) (by decide) rfl
theorem f306_587 : fetch 306 587 = some (.ldc2_w 23, 0, 0, 4294967295) := v306_u1_4 (x := (587, .ldc2_w 23, 0, 0, 4294967295)) (by decide) rfl
theorem f306_590 : fetch 306 590 = some (.land, 0, 0, 0) := v306_u1_4 (x := (590, .land, 0, 0, 0)) (by decide) rfl
theorem f306_591 : fetch 306 591 = some (.lor, 0, 0, 0) := v306_u1_4 (x := (591, .lor, 0, 0, 0)) (by decide) rfl
theorem f306_592 : fetch 306 592 = some (.invokevirtual 51, 203, 3, 0) := v306_u1_4 (x := (592, .invokevirtual 51, 203, 3, 0)) (by decide) rfl
theorem f306_595 : fetch 306 595 = some (.if_icmp .eq 1525, 2120, 0, 0) := v306_u1_4 (x := (595, .if_icmp .eq 1525, 2120, 0, 0)) (by decide) rfl
theorem f306_598 : fetch 306 598 = some (.iconst 0, 0, 0, 0) := v306_u1_4 (x := (598, .iconst 0, 0, 0, 0)) (by decide) rfl
theorem f306_599 : fetch 306 599 = some (.ireturn, 0, 0, 1) := v306_u1_4 (x := (599, .ireturn, 0, 0, 1)) (by decide) rfl
theorem f306_600 : fetch 306 600 = some (.aload_n 1, 0, 0, 0) := v306_u1_4 (x := (600, .aload_n 1, 0, 0, 0)) (by decide) rfl
theorem f306_601 : fetch 306 601 = some (.aload_n 0, 0, 0, 0) := v306_u1_4 (x := (601, .aload_n 0, 0, 0, 0)) (by decide) rfl
theorem f306_602 : fetch 306 602 = some (.iload_n 3, 0, 0, 0) := v306_u1_4 (x := (602, .iload_n 3, 0, 0, 0)) (by decide) rfl
theorem f306_603 : fetch 306 603 = some (.iconst 1, 0, 0, 0) := v306_u1_4 (x := (603, .iconst 1, 0, 0, 0)) (by decide) rfl
theorem f306_604 : fetch 306 604 = some (.iadd, 0, 0, 0) := v306_u1_4 (x := (604, .iadd, 0, 0, 0)) (by decide) rfl
theorem f306_605 : fetch 306 605 = some (.iaload, 0, 0, 0) := v306_u1_4 (x := (605, .iaload, 0, 0, 0)) (by decide) rfl
theorem f306_606 : fetch 306 606 = some (.invokevirtual 52, 122, 1, 0) := v306_u1_4 (x := (606, .invokevirtual 52, 122, 1, 0)) (by decide) rfl
theorem f306_609 : fetch 306 609 = some (.aload_n 2, 0, 0, 0) := v306_u1_4 (x := (609, .aload_n 2, 0, 0, 0)) (by decide) rfl
theorem f306_610 : fetch 306 610 = some (.aload_n 0, 0, 0, 0) := v306_u1_4 (x := (610, .aload_n 0, 0, 0, 0)) (by decide) rfl
theorem f306_611 : fetch 306 611 = some (.iload_n 3, 0, 0, 0) := v306_u1_4 (x := (611, .iload_n 3, 0, 0, 0)) (by decide) rfl
theorem f306_612 : fetch 306 612 = some (.iconst 1, 0, 0, 0) := v306_u1_4 (x := (612, .iconst 1, 0, 0, 0)) (by decide) rfl
theorem f306_613 : fetch 306 613 = some (.iadd, 0, 0, 0) := v306_u1_4 (x := (613, .iadd, 0, 0, 0)) (by decide) rfl
theorem f306_614 : fetch 306 614 = some (.iaload, 0, 0, 0) := v306_u1_4 (x := (614, .iaload, 0, 0, 0)) (by decide) rfl
theorem f306_615 : fetch 306 615 = some (.invokevirtual 55, 207, 1, 0) := v306_u1_4 (x := (615, .invokevirtual 55, 207, 1, 0)) (by decide) rfl
theorem f306_618 : fetch 306 618 = some (.if_icmp .eq 1502, 2120, 0, 0) := v306_u1_5 (x := (618, .if_icmp .eq 1502, 2120, 0, 0)) (by decide) rfl
theorem f306_621 : fetch 306 621 = some (.iconst 0, 0, 0, 0) := v306_u1_5 (x := (621, .iconst 0, 0, 0, 0)) (by decide) rfl
theorem f306_622 : fetch 306 622 = some (.ireturn, 0, 0, 1) := v306_u1_5 (x := (622, .ireturn, 0, 0, 1)) (by decide) rfl
theorem f306_623 : fetch 306 623 = some (.aload_n 1, 0, 0, 0) := v306_u1_5 (x := (623, .aload_n 1, 0, 0, 0)) (by decide) rfl
theorem f306_624 : fetch 306 624 = some (.invokevirtual 56, 123, 0, 0) := v306_u1_5 (x := (624, .invokevirtual 56, 123, 0, 0)) (by decide) rfl
theorem f306_627 : fetch 306 627 = some (.aload_n 2, 0, 0, 0) := v306_u1_5 (x := (627, .aload_n 2, 0, 0, 0)) (by decide) rfl
theorem f306_628 : fetch 306 628 = some (.invokevirtual 60, 204, 0, 0) := v306_u1_5 (x := (628, .invokevirtual 60, 204, 0, 0)) (by decide) rfl
theorem f306_631 : fetch 306 631 = some (.if_icmp .eq 1489, 2120, 0, 0) := v306_u1_5 (x := (631, .if_icmp .eq 1489, 2120, 0, 0)) (by decide) rfl
theorem f306_634 : fetch 306 634 = some (.iconst 0, 0, 0, 0) := v306_u1_5 (x := (634, .iconst 0, 0, 0, 0)) (by decide) rfl
theorem f306_635 : fetch 306 635 = some (.ireturn, 0, 0, 1) := v306_u1_5 (x := (635, .ireturn, 0, 0, 1)) (by decide) rfl
theorem f306_636 : fetch 306 636 = some (.aload_n 1, 0, 0, 0) := v306_u1_5 (x := (636, .aload_n 1, 0, 0, 0)) (by decide) rfl
theorem f306_637 : fetch 306 637 = some (.aload_n 0, 0, 0, 0) := v306_u1_5 (x := (637, .aload_n 0, 0, 0, 0)) (by decide) rfl
theorem f306_638 : fetch 306 638 = some (.iload_n 3, 0, 0, 0) := v306_u1_5 (x := (638, .iload_n 3, 0, 0, 0)) (by decide) rfl
theorem f306_639 : fetch 306 639 = some (.iconst 1, 0, 0, 0) := v306_u1_5 (x := (639, .iconst 1, 0, 0, 0)) (by decide) rfl
theorem f306_640 : fetch 306 640 = some (.iadd, 0, 0, 0) := v306_u1_5 (x := (640, .iadd, 0, 0, 0)) (by decide) rfl
theorem f306_641 : fetch 306 641 = some (.iaload, 0, 0, 0) := v306_u1_5 (x := (641, .iaload, 0, 0, 0)) (by decide) rfl
theorem f306_642 : fetch 306 642 = some (.invokevirtual 61, 124, 1, 0) := v306_u1_5 (x := (642, .invokevirtual 61, 124, 1, 0)) (by decide) rfl
theorem f306_645 : fetch 306 645 = some (.aload_n 2, 0, 0, 0) := v306_u1_5 (x := (645, .aload_n 2, 0, 0, 0)) (by decide) rfl
theorem f306_646 : fetch 306 646 = some (.aload_n 0, 0, 0, 0) := v306_u1_5 (x := (646, .aload_n 0, 0, 0, 0)) (by decide) rfl
theorem f306_647 : fetch 306 647 = some (.iload_n 3, 0, 0, 0) := v306_u1_5 (x := (647, .iload_n 3, 0, 0, 0)) (by decide) rfl
theorem f306_648 : fetch 306 648 = some (.iconst 1, 0, 0, 0) := v306_u1_5 (x := (648, .iconst 1, 0, 0, 0)) (by decide) rfl
theorem f306_649 : fetch 306 649 = some (.iadd, 0, 0, 0) := v306_u1_5 (x := (649, .iadd, 0, 0, 0)) (by decide) rfl
theorem f306_650 : fetch 306 650 = some (.iaload, 0, 0, 0) := v306_u1_5 (x := (650, .iaload, 0, 0, 0)) (by decide) rfl
theorem f306_651 : fetch 306 651 = some (.invokevirtual 64, 208, 1, 0) := v306_u1_5 (x := (651, .invokevirtual 64, 208, 1, 0)) (by decide) rfl
theorem f306_654 : fetch 306 654 = some (.if_icmp .eq 1466, 2120, 0, 0) := v306_u1_6 (x := (654, .if_icmp .eq 1466, 2120, 0, 0)) (by decide) rfl
theorem f306_657 : fetch 306 657 = some (.iconst 0, 0, 0, 0) := v306_u1_6 (x := (657, .iconst 0, 0, 0, 0)) (by decide) rfl
theorem f306_658 : fetch 306 658 = some (.ireturn, 0, 0, 1) := v306_u1_6 (x := (658, .ireturn, 0, 0, 1)) (by decide) rfl
theorem f306_659 : fetch 306 659 = some (.aload_n 1, 0, 0, 0) := v306_u1_6 (x := (659, .aload_n 1, 0, 0, 0)) (by decide) rfl
theorem f306_660 : fetch 306 660 = some (.aload_n 0, 0, 0, 0) := v306_u1_6 (x := (660, .aload_n 0, 0, 0, 0)) (by decide) rfl
theorem f306_661 : fetch 306 661 = some (.iload_n 3, 0, 0, 0) := v306_u1_6 (x := (661, .iload_n 3, 0, 0, 0)) (by decide) rfl
theorem f306_662 : fetch 306 662 = some (.iconst 1, 0, 0, 0) := v306_u1_6 (x := (662, .iconst 1, 0, 0, 0)) (by decide) rfl
theorem f306_663 : fetch 306 663 = some (.iadd, 0, 0, 0) := v306_u1_6 (x := (663, .iadd, 0, 0, 0)) (by decide) rfl
theorem f306_664 : fetch 306 664 = some (.iaload, 0, 0, 0) := v306_u1_6 (x := (664, .iaload, 0, 0, 0)) (by decide) rfl
theorem f306_665 : fetch 306 665 = some (.invokevirtual 65, 125, 1, 0) := v306_u1_6 (x := (665, .invokevirtual 65, 125, 1, 0)) (by decide) rfl
theorem f306_668 : fetch 306 668 = some (.aload_n 2, 0, 0, 0) := v306_u1_6 (x := (668, .aload_n 2, 0, 0, 0)) (by decide) rfl
theorem f306_669 : fetch 306 669 = some (.aload_n 0, 0, 0, 0) := v306_u1_6 (x := (669, .aload_n 0, 0, 0, 0)) (by decide) rfl
theorem f306_670 : fetch 306 670 = some (.iload_n 3, 0, 0, 0) := v306_u1_6 (x := (670, .iload_n 3, 0, 0, 0)) (by decide) rfl
theorem f306_671 : fetch 306 671 = some (.iconst 1, 0, 0, 0) := v306_u1_6 (x := (671, .iconst 1, 0, 0, 0)) (by decide) rfl
theorem f306_672 : fetch 306 672 = some (.iadd, 0, 0, 0) := v306_u1_6 (x := (672, .iadd, 0, 0, 0)) (by decide) rfl
theorem f306_673 : fetch 306 673 = some (.iaload, 0, 0, 0) := v306_u1_6 (x := (673, .iaload, 0, 0, 0)) (by decide) rfl
theorem f306_674 : fetch 306 674 = some (.invokevirtual 68, 209, 1, 0) := v306_u1_6 (x := (674, .invokevirtual 68, 209, 1, 0)) (by decide) rfl
theorem f306_677 : fetch 306 677 = some (.if_icmp .eq 1443, 2120, 0, 0) := v306_u1_6 (x := (677, .if_icmp .eq 1443, 2120, 0, 0)) (by decide) rfl
theorem f306_680 : fetch 306 680 = some (.iconst 0, 0, 0, 0) := v306_u1_6 (x := (680, .iconst 0, 0, 0, 0)) (by decide) rfl
theorem f306_681 : fetch 306 681 = some (.ireturn, 0, 0, 1) := v306_u1_6 (x := (681, .ireturn, 0, 0, 1)) (by decide) rfl
theorem f306_682 : fetch 306 682 = some (.aload_n 1, 0, 0, 0) := v306_u1_6 (x := (682, .aload_n 1, 0, 0, 0)) (by decide) rfl
theorem f306_683 : fetch 306 683 = some (.aload_n 0, 0, 0, 0) := v306_u1_6 (x := (683, .aload_n 0, 0, 0, 0)) (by decide) rfl
theorem f306_684 : fetch 306 684 = some (.iload_n 3, 0, 0, 0) := v306_u1_6 (x := (684, .iload_n 3, 0, 0, 0)) (by decide) rfl
theorem f306_685 : fetch 306 685 = some (.iconst 1, 0, 0, 0) := v306_u1_6 (x := (685, .iconst 1, 0, 0, 0)) (by decide) rfl
theorem f306_686 : fetch 306 686 = some (.iadd, 0, 0, 0) := v306_u1_7 (x := (686, .iadd, 0, 0, 0)) (by decide) rfl
theorem f306_687 : fetch 306 687 = some (.iaload, 0, 0, 0) := v306_u1_7 (x := (687, .iaload, 0, 0, 0)) (by decide) rfl
theorem f306_688 : fetch 306 688 = some (.aload_n 0, 0, 0, 0) := v306_u1_7 (x := (688, .aload_n 0, 0, 0, 0)) (by decide) rfl
theorem f306_689 : fetch 306 689 = some (.iload_n 3, 0, 0, 0) := v306_u1_7 (x := (689, .iload_n 3, 0, 0, 0)) (by decide) rfl
theorem f306_690 : fetch 306 690 = some (.iconst 2, 0, 0, 0) := v306_u1_7 (x := (690, .iconst 2, 0, 0, 0)) (by decide) rfl
theorem f306_691 : fetch 306 691 = some (.iadd, 0, 0, 0) := v306_u1_7 (x := (691, .iadd, 0, 0, 0)) (by decide) rfl
theorem f306_692 : fetch 306 692 = some (.iaload, 0, 0, 0) := v306_u1_7 (x := (692, .iaload, 0, 0, 0)) (by decide) rfl
theorem f306_693 : fetch 306 693 = some (.invokevirtual 69, 126, 2, 0) := v306_u1_7 (x := (693, .invokevirtual 69, 126, 2, 0)) (by decide) rfl
theorem f306_696 : fetch 306 696 = some (.aload_n 2, 0, 0, 0) := v306_u1_7 (x := (696, .aload_n 2, 0, 0, 0)) (by decide) rfl
theorem f306_697 : fetch 306 697 = some (.aload_n 0, 0, 0, 0) := v306_u1_7 (x := (697, .aload_n 0, 0, 0, 0)) (by decide) rfl
theorem f306_698 : fetch 306 698 = some (.iload_n 3, 0, 0, 0) := v306_u1_7 (x := (698, .iload_n 3, 0, 0, 0)) (by decide) rfl
theorem f306_699 : fetch 306 699 = some (.iconst 1, 0, 0, 0) := v306_u1_7 (x := (699, .iconst 1, 0, 0, 0)) (by decide) rfl
theorem f306_700 : fetch 306 700 = some (.iadd, 0, 0, 0) := v306_u1_7 (x := (700, .iadd, 0, 0, 0)) (by decide) rfl
theorem f306_701 : fetch 306 701 = some (.iaload, 0, 0, 0) := v306_u1_7 (x := (701, .iaload, 0, 0, 0)) (by decide) rfl
theorem f306_702 : fetch 306 702 = some (.aload_n 0, 0, 0, 0) := v306_u1_7 (x := (702, .aload_n 0, 0, 0, 0)) (by decide) rfl
theorem f306_703 : fetch 306 703 = some (.iload_n 3, 0, 0, 0) := v306_u1_7 (x := (703, .iload_n 3, 0, 0, 0)) (by decide) rfl
theorem f306_704 : fetch 306 704 = some (.iconst 2, 0, 0, 0) := v306_u1_7 (x := (704, .iconst 2, 0, 0, 0)) (by decide) rfl
theorem f306_705 : fetch 306 705 = some (.iadd, 0, 0, 0) := v306_u1_7 (x := (705, .iadd, 0, 0, 0)) (by decide) rfl
theorem f306_706 : fetch 306 706 = some (.iaload, 0, 0, 0) := v306_u1_7 (x := (706, .iaload, 0, 0, 0)) (by decide) rfl
theorem f306_707 : fetch 306 707 = some (.invokevirtual 72, 211, 2, 0) := v306_u1_7 (x := (707, .invokevirtual 72, 211, 2, 0)) (by decide) rfl
theorem f306_710 : fetch 306 710 = some (.if_icmp .eq 1410, 2120, 0, 0) := v306_u1_7 (x := (710, .if_icmp .eq 1410, 2120, 0, 0)) (by decide) rfl
theorem f306_713 : fetch 306 713 = some (.iconst 0, 0, 0, 0) := v306_u1_7 (x := (713, .iconst 0, 0, 0, 0)) (by decide) rfl
theorem f306_714 : fetch 306 714 = some (.ireturn, 0, 0, 1) := v306_u1_7 (x := (714, .ireturn, 0, 0, 1)) (by decide) rfl
theorem f306_715 : fetch 306 715 = some (.aload_n 1, 0, 0, 0) := v306_u1_7 (x := (715, .aload_n 1, 0, 0, 0)) (by decide) rfl
theorem f306_716 : fetch 306 716 = some (.aload_n 0, 0, 0, 0) := v306_u1_8 (x := (716, .aload_n 0, 0, 0, 0)) (by decide) rfl
theorem f306_717 : fetch 306 717 = some (.iload_n 3, 0, 0, 0) := v306_u1_8 (x := (717, .iload_n 3, 0, 0, 0)) (by decide) rfl
theorem f306_718 : fetch 306 718 = some (.iconst 1, 0, 0, 0) := v306_u1_8 (x := (718, .iconst 1, 0, 0, 0)) (by decide) rfl
theorem f306_719 : fetch 306 719 = some (.iadd, 0, 0, 0) := v306_u1_8 (x := (719, .iadd, 0, 0, 0)) (by decide) rfl
theorem f306_720 : fetch 306 720 = some (.iaload, 0, 0, 0) := v306_u1_8 (x := (720, .iaload, 0, 0, 0)) (by decide) rfl
theorem f306_721 : fetch 306 721 = some (.invokevirtual 73, 127, 1, 0) := v306_u1_8 (x := (721, .invokevirtual 73, 127, 1, 0)) (by decide) rfl
theorem f306_724 : fetch 306 724 = some (.aload_n 2, 0, 0, 0) := v306_u1_8 (x := (724, .aload_n 2, 0, 0, 0)) (by decide) rfl
theorem f306_725 : fetch 306 725 = some (.aload_n 0, 0, 0, 0) := v306_u1_8 (x := (725, .aload_n 0, 0, 0, 0)) (by decide) rfl
theorem f306_726 : fetch 306 726 = some (.iload_n 3, 0, 0, 0) := v306_u2_0 (x := (726, .iload_n 3, 0, 0, 0)) (by decide) rfl
theorem f306_727 : fetch 306 727 = some (.iconst 1, 0, 0, 0) := v306_u2_0 (x := (727, .iconst 1, 0, 0, 0)) (by decide) rfl
theorem f306_728 : fetch 306 728 = some (.iadd, 0, 0, 0) := v306_u2_0 (x := (728, .iadd, 0, 0, 0)) (by decide) rfl
theorem f306_729 : fetch 306 729 = some (.iaload, 0, 0, 0) := v306_u2_0 (x := (729, .iaload, 0, 0, 0)) (by decide) rfl
theorem f306_730 : fetch 306 730 = some (.invokevirtual 76, 212, 1, 0) := v306_u2_0 (x := (730, .invokevirtual 76, 212, 1, 0)) (by decide) rfl
theorem f306_733 : fetch 306 733 = some (.if_icmp .eq 1387, 2120, 0, 0) := v306_u2_0 (x := (733, .if_icmp .eq 1387, 2120, 0, 0)) (by decide) rfl
theorem f306_736 : fetch 306 736 = some (.iconst 0, 0, 0, 0) := v306_u2_0 (x := (736, .iconst 0, 0, 0, 0)) (by decide) rfl
theorem f306_737 : fetch 306 737 = some (.ireturn, 0, 0, 1) := v306_u2_0 (x := (737, .ireturn, 0, 0, 1)) (by decide) rfl
theorem f306_738 : fetch 306 738 = some (.aload_n 1, 0, 0, 0) := v306_u2_0 (x := (738, .aload_n 1, 0, 0, 0)) (by decide) rfl
theorem f306_739 : fetch 306 739 = some (.aload_n 0, 0, 0, 0) := v306_u2_0 (x := (739, .aload_n 0, 0, 0, 0)) (by decide) rfl
theorem f306_740 : fetch 306 740 = some (.iload_n 3, 0, 0, 0) := v306_u2_0 (x := (740, .iload_n 3, 0, 0, 0)) (by decide) rfl
theorem f306_741 : fetch 306 741 = some (.iconst 1, 0, 0, 0) := v306_u2_0 (x := (741, .iconst 1, 0, 0, 0)) (by decide) rfl
theorem f306_742 : fetch 306 742 = some (.iadd, 0, 0, 0) := v306_u2_0 (x := (742, .iadd, 0, 0, 0)) (by decide) rfl
theorem f306_743 : fetch 306 743 = some (.iaload, 0, 0, 0) := v306_u2_0 (x := (743, .iaload, 0, 0, 0)) (by decide) rfl
theorem f306_744 : fetch 306 744 = some (.aload_n 0, 0, 0, 0) := v306_u2_0 (x := (744, .aload_n 0, 0, 0, 0)) (by decide) rfl
theorem f306_745 : fetch 306 745 = some (.iload_n 3, 0, 0, 0) := v306_u2_0 (x := (745, .iload_n 3, 0, 0, 0)) (by decide) rfl
theorem f306_746 : fetch 306 746 = some (.iconst 2, 0, 0, 0) := v306_u2_0 (x := (746, .iconst 2, 0, 0, 0)) (by decide) rfl
theorem f306_747 : fetch 306 747 = some (.iadd, 0, 0, 0) := v306_u2_0 (x := (747, .iadd, 0, 0, 0)) (by decide) rfl
theorem f306_748 : fetch 306 748 = some (.iaload, 0, 0, 0) := v306_u2_0 (x := (748, .iaload, 0, 0, 0)) (by decide) rfl
theorem f306_749 : fetch 306 749 = some (.aload_n 0, 0, 0, 0) := v306_u2_0 (x := (749, .aload_n 0, 0, 0, 0)) (by decide) rfl
theorem f306_750 : fetch 306 750 = some (.iload_n 3, 0, 0, 0) := v306_u2_0 (x := (750, .iload_n 3, 0, 0, 0)) (by decide) rfl
theorem f306_751 : fetch 306 751 = some (.iconst 3, 0, 0, 0) := v306_u2_0 (x := (751, .iconst 3, 0, 0, 0)) (by decide) rfl
theorem f306_752 : fetch 306 752 = some (.iadd, 0, 0, 0) := v306_u2_0 (x := (752, .iadd, 0, 0, 0)) (by decide) rfl
theorem f306_753 : fetch 306 753 = some (.iaload, 0, 0, 0) := v306_u2_0 (x := (753, .iaload, 0, 0, 0)) (by decide) rfl
theorem f306_754 : fetch 306 754 = some (.aload_n 0, 0, 0, 0) := v306_u2_1 (x := (754, .aload_n 0, 0, 0, 0)) (by decide) rfl
theorem f306_755 : fetch 306 755 = some (.iload_n 3, 0, 0, 0) := v306_u2_1 (x := (755, .iload_n 3, 0, 0, 0)) (by decide) rfl
theorem f306_756 : fetch 306 756 = some (.iconst 4, 0, 0, 0) := v306_u2_1 (x := (756, .iconst 4, 0, 0, 0)) (by decide) rfl
theorem f306_757 : fetch 306 757 = some (.iadd, 0, 0, 0) := v306_u2_1 (x := (757, .iadd, 0, 0, 0)) (by decide) rfl
theorem f306_758 : fetch 306 758 = some (.iaload, 0, 0, 0) := v306_u2_1 (x := (758, .iaload, 0, 0, 0)) (by decide) rfl
theorem f306_759 : fetch 306 759 = some (.invokevirtual 77, 128, 4, 0) := v306_u2_1 (x := (759, .invokevirtual 77, 128, 4, 0)) (by decide) rfl
theorem f306_762 : fetch 306 762 = some (.aload_n 2, 0, 0, 0) := v306_u2_1 (x := (762, .aload_n 2, 0, 0, 0)) (by decide) rfl
theorem f306_763 : fetch 306 763 = some (.aload_n 0, 0, 0, 0) := v306_u2_1 (x := (763, .aload_n 0, 0, 0, 0)) (by decide) rfl
theorem f306_764 : fetch 306 764 = some (.iload_n 3, 0, 0, 0) := v306_u2_1 (x := (764, .iload_n 3, 0, 0, 0)) (by decide) rfl
theorem f306_765 : fetch 306 765 = some (.iconst 1, 0, 0, 0) := v306_u2_1 (x := (765, .iconst 1, 0, 0, 0)) (by decide) rfl
theorem f306_766 : fetch 306 766 = some (.iadd, 0, 0, 0) := v306_u2_1 (x := (766, .iadd, 0, 0, 0)) (by decide) rfl
theorem f306_767 : fetch 306 767 = some (.iaload, 0, 0, 0) := v306_u2_1 (x := (767, .iaload, 0, 0, 0)) (by decide) rfl
theorem f306_768 : fetch 306 768 = some (.aload_n 0, 0, 0, 0) := v306_u2_1 (x := (768, .aload_n 0, 0, 0, 0)) (by decide) rfl
theorem f306_769 : fetch 306 769 = some (.iload_n 3, 0, 0, 0) := v306_u2_1 (x := (769, .iload_n 3, 0, 0, 0)) (by decide) rfl
theorem f306_770 : fetch 306 770 = some (.iconst 2, 0, 0, 0) := v306_u2_1 (x := (770, .iconst 2, 0, 0, 0)) (by decide) rfl
theorem f306_771 : fetch 306 771 = some (.iadd, 0, 0, 0) := v306_u2_1 (x := (771, .iadd, 0, 0, 0)) (by decide) rfl
theorem f306_772 : fetch 306 772 = some (.iaload, 0, 0, 0) := v306_u2_1 (x := (772, .iaload, 0, 0, 0)) (by decide) rfl
theorem f306_773 : fetch 306 773 = some (.aload_n 0, 0, 0, 0) := v306_u2_1 (x := (773, .aload_n 0, 0, 0, 0)) (by decide) rfl
theorem f306_774 : fetch 306 774 = some (.iload_n 3, 0, 0, 0) := v306_u2_1 (x := (774, .iload_n 3, 0, 0, 0)) (by decide) rfl
theorem f306_775 : fetch 306 775 = some (.iconst 3, 0, 0, 0) := v306_u2_1 (x := (775, .iconst 3, 0, 0, 0)) (by decide) rfl
theorem f306_776 : fetch 306 776 = some (.iadd, 0, 0, 0) := v306_u2_1 (x := (776, .iadd, 0, 0, 0)) (by decide) rfl
theorem f306_777 : fetch 306 777 = some (.iaload, 0, 0, 0) := v306_u2_1 (x := (777, .iaload, 0, 0, 0)) (by decide) rfl
theorem f306_778 : fetch 306 778 = some (.aload_n 0, 0, 0, 0) := v306_u2_1 (x := (778, .aload_n 0, 0, 0, 0)) (by decide) rfl
theorem f306_779 : fetch 306 779 = some (.iload_n 3, 0, 0, 0) := v306_u2_1 (x := (779, .iload_n 3, 0, 0, 0)) (by decide) rfl
theorem f306_780 : fetch 306 780 = some (.iconst 4, 0, 0, 0) := v306_u2_2 (x := (780, .iconst 4, 0, 0, 0)) (by decide) rfl
theorem f306_781 : fetch 306 781 = some (.iadd, 0, 0, 0) := v306_u2_2 (x := (781, .iadd, 0, 0, 0)) (by decide) rfl
theorem f306_782 : fetch 306 782 = some (.iaload, 0, 0, 0) := v306_u2_2 (x := (782, .iaload, 0, 0, 0)) (by decide) rfl
theorem f306_783 : fetch 306 783 = some (.invokevirtual 81, 214, 4, 0) := v306_u2_2 (x := (783, .invokevirtual 81, 214, 4, 0)) (by decide) rfl
theorem f306_786 : fetch 306 786 = some (.if_icmp .eq 1334, 2120, 0, 0) := v306_u2_2 (x := (786, .if_icmp .eq 1334, 2120, 0, 0)) (by decide) rfl
theorem f306_789 : fetch 306 789 = some (.iconst 0, 0, 0, 0) := v306_u2_2 (x := (789, .iconst 0, 0, 0, 0)) (by decide) rfl
theorem f306_790 : fetch 306 790 = some (.ireturn, 0, 0, 1) := v306_u2_2 (x := (790, .ireturn, 0, 0, 1)) (by decide) rfl
theorem f306_791 : fetch 306 791 = some (.aload_n 1, 0, 0, 0) := v306_u2_2 (x := (791, .aload_n 1, 0, 0, 0)) (by decide) rfl
theorem f306_792 : fetch 306 792 = some (.aload_n 0, 0, 0, 0) := v306_u2_2 (x := (792, .aload_n 0, 0, 0, 0)) (by decide) rfl
theorem f306_793 : fetch 306 793 = some (.iload_n 3, 0, 0, 0) := v306_u2_2 (x := (793, .iload_n 3, 0, 0, 0)) (by decide) rfl
theorem f306_794 : fetch 306 794 = some (.iconst 1, 0, 0, 0) := v306_u2_2 (x := (794, .iconst 1, 0, 0, 0)) (by decide) rfl
theorem f306_795 : fetch 306 795 = some (.iadd, 0, 0, 0) := v306_u2_2 (x := (795, .iadd, 0, 0, 0)) (by decide) rfl
theorem f306_796 : fetch 306 796 = some (.iaload, 0, 0, 0) := v306_u2_2 (x := (796, .iaload, 0, 0, 0)) (by decide) rfl
theorem f306_797 : fetch 306 797 = some (.invokevirtual 82, 129, 1, 0) := v306_u2_2 (x := (797, .invokevirtual 82, 129, 1, 0)) (by decide) rfl
theorem f306_800 : fetch 306 800 = some (.aload_n 2, 0, 0, 0) := v306_u2_2 (x := (800, .aload_n 2, 0, 0, 0)) (by decide) rfl
theorem f306_801 : fetch 306 801 = some (.aload_n 0, 0, 0, 0) := v306_u2_2 (x := (801, .aload_n 0, 0, 0, 0)) (by decide) rfl
theorem f306_802 : fetch 306 802 = some (.iload_n 3, 0, 0, 0) := v306_u2_2 (x := (802, .iload_n 3, 0, 0, 0)) (by decide) rfl
theorem f306_803 : fetch 306 803 = some (.iconst 1, 0, 0, 0) := v306_u2_2 (x := (803, .iconst 1, 0, 0, 0)) (by decide) rfl
theorem f306_804 : fetch 306 804 = some (.iadd, 0, 0, 0) := v306_u2_2 (x := (804, .iadd, 0, 0, 0)) (by decide) rfl
theorem f306_805 : fetch 306 805 = some (.iaload, 0, 0, 0) := v306_u2_2 (x := (805, .iaload, 0, 0, 0)) (by decide) rfl
theorem f306_806 : fetch 306 806 = some (.invokevirtual 85, 215, 1, 0) := v306_u2_2 (x := (806, .invokevirtual 85, 215, 1, 0)) (by decide) rfl
theorem f306_809 : fetch 306 809 = some (.if_icmp .eq 1311, 2120, 0, 0) := v306_u2_2 (x := (809, .if_icmp .eq 1311, 2120, 0, 0)) (by decide) rfl
theorem f306_812 : fetch 306 812 = some (.iconst 0, 0, 0, 0) := v306_u2_2 (x := (812, .iconst 0, 0, 0, 0)) (by decide) rfl
theorem f306_813 : fetch 306 813 = some (.ireturn, 0, 0, 1) := v306_u2_2 (x := (813, .ireturn, 0, 0, 1)) (by decide) rfl
theorem f306_814 : fetch 306 814 = some (.aload_n 1, 0, 0, 0) := v306_u2_3 (x := (814, .aload_n 1, 0, 0, 0)) (by decide) rfl
theorem f306_815 : fetch 306 815 = some (.aload_n 0, 0, 0, 0) := v306_u2_3 (x := (815, .aload_n 0, 0, 0, 0)) (by decide) rfl
theorem f306_816 : fetch 306 816 = some (.iload_n 3, 0, 0, 0) := v306_u2_3 (x := (816, .iload_n 3, 0, 0, 0)) (by decide) rfl
theorem f306_817 : fetch 306 817 = some (.iconst 1, 0, 0, 0) := v306_u2_3 (x := (817, .iconst 1, 0, 0, 0)) (by decide) rfl
theorem f306_818 : fetch 306 818 = some (.iadd, 0, 0, 0) := v306_u2_3 (x := (818, .iadd, 0, 0, 0)) (by decide) rfl
theorem f306_819 : fetch 306 819 = some (.iaload, 0, 0, 0) := v306_u2_3 (x := (819, .iaload, 0, 0, 0)) (by decide) rfl
theorem f306_820 : fetch 306 820 = some (.invokevirtual 86, 130, 1, 0) := v306_u2_3 (x := (820, .invokevirtual 86, 130, 1, 0)) (by decide) rfl
theorem f306_823 : fetch 306 823 = some (.aload_n 2, 0, 0, 0) := v306_u2_3 (x := (823, .aload_n 2, 0, 0, 0)) (by decide) rfl
theorem f306_824 : fetch 306 824 = some (.aload_n 0, 0, 0, 0) := v306_u2_3 (x := (824, .aload_n 0, 0, 0, 0)) (by decide) rfl
theorem f306_825 : fetch 306 825 = some (.iload_n 3, 0, 0, 0) := v306_u2_3 (x := (825, .iload_n 3, 0, 0, 0)) (by decide) rfl
theorem f306_826 : fetch 306 826 = some (.iconst 1, 0, 0, 0) := v306_u2_3 (x := (826, .iconst 1, 0, 0, 0)) (by decide) rfl
theorem f306_827 : fetch 306 827 = some (.iadd, 0, 0, 0) := v306_u2_3 (x := (827, .iadd, 0, 0, 0)) (by decide) rfl
theorem f306_828 : fetch 306 828 = some (.iaload, 0, 0, 0) := v306_u2_3 (x := (828, .iaload, 0, 0, 0)) (by decide) rfl
theorem f306_829 : fetch 306 829 = some (.invokevirtual 89, 217, 1, 0) := v306_u2_3 (x := (829, .invokevirtual 89, 217, 1, 0)) (by decide) rfl
theorem f306_832 : fetch 306 832 = some (.if_icmp .eq 1288, 2120, 0, 0) := v306_u2_3 (x := (832, .if_icmp .eq 1288, 2120, 0, 0)) (by decide) rfl
theorem f306_835 : fetch 306 835 = some (.iconst 0, 0, 0, 0) := v306_u2_3 (x := (835, .iconst 0, 0, 0, 0)) (by decide) rfl
theorem f306_836 : fetch 306 836 = some (.ireturn, 0, 0, 1) := v306_u2_3 (x := (836, .ireturn, 0, 0, 1)) (by decide) rfl
theorem f306_837 : fetch 306 837 = some (.aload_n 1, 0, 0, 0) := v306_u2_3 (x := (837, .aload_n 1, 0, 0, 0)) (by decide) rfl
theorem f306_838 : fetch 306 838 = some (.aload_n 0, 0, 0, 0) := v306_u2_3 (x := (838, .aload_n 0, 0, 0, 0)) (by decide) rfl
theorem f306_839 : fetch 306 839 = some (.iload_n 3, 0, 0, 0) := v306_u2_3 (x := (839, .iload_n 3, 0, 0, 0)) (by decide) rfl
theorem f306_840 : fetch 306 840 = some (.iconst 1, 0, 0, 0) := v306_u2_3 (x := (840, .iconst 1, 0, 0, 0)) (by decide) rfl
theorem f306_841 : fetch 306 841 = some (.iadd, 0, 0, 0) := v306_u2_3 (x := (841, .iadd, 0, 0, 0)) (by decide) rfl
theorem f306_842 : fetch 306 842 = some (.iaload, 0, 0, 0) := v306_u2_3 (x := (842, .iaload, 0, 0, 0)) (by decide) rfl
theorem f306_843 : fetch 306 843 = some (.aload_n 0, 0, 0, 0) := v306_u2_3 (x := (843, .aload_n 0, 0, 0, 0)) (by decide) rfl
theorem f306_844 : fetch 306 844 = some (.iload_n 3, 0, 0, 0) := v306_u2_4 (x := (844, .iload_n 3, 0, 0, 0)) (by decide) rfl
theorem f306_845 : fetch 306 845 = some (.iconst 2, 0, 0, 0) := v306_u2_4 (x := (845, .iconst 2, 0, 0, 0)) (by decide) rfl
theorem f306_846 : fetch 306 846 = some (.iadd, 0, 0, 0) := v306_u2_4 (x := (846, .iadd, 0, 0, 0)) (by decide) rfl
theorem f306_847 : fetch 306 847 = some (.iaload, 0, 0, 0) := v306_u2_4 (x := (847, .iaload, 0, 0, 0)) (by decide) rfl
theorem f306_848 : fetch 306 848 = some (.aload_n 0, 0, 0, 0) := v306_u2_4 (x := (848, .aload_n 0, 0, 0, 0)) (by decide) rfl
theorem f306_849 : fetch 306 849 = some (.iload_n 3, 0, 0, 0) := v306_u2_4 (x := (849, .iload_n 3, 0, 0, 0)) (by decide) rfl
theorem f306_850 : fetch 306 850 = some (.iconst 3, 0, 0, 0) := v306_u2_4 (x := (850, .iconst 3, 0, 0, 0)) (by decide) rfl
theorem f306_851 : fetch 306 851 = some (.iadd, 0, 0, 0) := v306_u2_4 (x := (851, .iadd, 0, 0, 0)) (by decide) rfl
theorem f306_852 : fetch 306 852 = some (.iaload, 0, 0, 0) := v306_u2_4 (x := (852, .iaload, 0, 0, 0)) (by decide) rfl
theorem f306_853 : fetch 306 853 = some (.aload_n 0, 0, 0, 0) := v306_u2_4 (x := (853, .aload_n 0, 0, 0, 0)) (by decide) rfl
theorem f306_854 : fetch 306 854 = some (.iload_n 3, 0, 0, 0) := v306_u2_4 (x := (854, .iload_n 3, 0, 0, 0)) (by decide) rfl
theorem f306_855 : fetch 306 855 = some (.iconst 4, 0, 0, 0) := v306_u2_4 (x := (855, .iconst 4, 0, 0, 0)) (by decide) rfl
theorem f306_856 : fetch 306 856 = some (.iadd, 0, 0, 0) := v306_u2_4 (x := (856, .iadd, 0, 0, 0)) (by decide) rfl
theorem f306_857 : fetch 306 857 = some (.iaload, 0, 0, 0) := v306_u2_4 (x := (857, .iaload, 0, 0, 0)) (by decide) rfl
theorem f306_858 : fetch 306 858 = some (.aload_n 0, 0, 0, 0) := v306_u2_4 (x := (858, .aload_n 0, 0, 0, 0)) (by decide) rfl
theorem f306_859 : fetch 306 859 = some (.iload_n 3, 0, 0, 0) := v306_u2_4 (x := (859, .iload_n 3, 0, 0, 0)) (by decide) rfl
theorem f306_860 : fetch 306 860 = some (.iconst 5, 0, 0, 0) := v306_u2_4 (x := (860, .iconst 5, 0, 0, 0)) (by decide) rfl
theorem f306_861 : fetch 306 861 = some (.iadd, 0, 0, 0) := v306_u2_4 (x := (861, .iadd, 0, 0, 0)) (by decide) rfl
theorem f306_862 : fetch 306 862 = some (.iaload, 0, 0, 0) := v306_u2_4 (x := (862, .iaload, 0, 0, 0)) (by decide) rfl
theorem f306_863 : fetch 306 863 = some (.aload_n 0, 0, 0, 0) := v306_u2_4 (x := (863, .aload_n 0, 0, 0, 0)) (by decide) rfl
theorem f306_864 : fetch 306 864 = some (.iload_n 3, 0, 0, 0) := v306_u2_4 (x := (864, .iload_n 3, 0, 0, 0)) (by decide) rfl
theorem f306_865 : fetch 306 865 = some (.bipush 6, 0, 0, 0) := v306_u2_4 (x := (865, .bipush 6, 0, 0, 0)) (by decide) rfl
theorem f306_867 : fetch 306 867 = some (.iadd, 0, 0, 0) := v306_u2_4 (x := (867, .iadd, 0, 0, 0)) (by decide) rfl
theorem f306_868 : fetch 306 868 = some (.iaload, 0, 0, 0) := v306_u2_4 (x := (868, .iaload, 0, 0, 0)) (by decide) rfl
theorem f306_869 : fetch 306 869 = some (.aload_n 0, 0, 0, 0) := v306_u2_5 (x := (869, .aload_n 0, 0, 0, 0)) (by decide) rfl
theorem f306_870 : fetch 306 870 = some (.iload_n 3, 0, 0, 0) := v306_u2_5 (x := (870, .iload_n 3, 0, 0, 0)) (by decide) rfl
theorem f306_871 : fetch 306 871 = some (.bipush 7, 0, 0, 0) := v306_u2_5 (x := (871, .bipush 7, 0, 0, 0)) (by decide) rfl
theorem f306_873 : fetch 306 873 = some (.iadd, 0, 0, 0) := v306_u2_5 (x := (873, .iadd, 0, 0, 0)) (by decide) rfl
theorem f306_874 : fetch 306 874 = some (.iaload, 0, 0, 0) := v306_u2_5 (x := (874, .iaload, 0, 0, 0)) (by decide) rfl
theorem f306_875 : fetch 306 875 = some (.invokevirtual 90, 131, 7, 0) := v306_u2_5 (x := (875, .invokevirtual 90, 131, 7, 0)) (by decide) rfl
theorem f306_878 : fetch 306 878 = some (.aload_n 2, 0, 0, 0) := v306_u2_5 (x := (878, .aload_n 2, 0, 0, 0)) (by decide) rfl
theorem f306_879 : fetch 306 879 = some (.aload_n 0, 0, 0, 0) := v306_u2_5 (x := (879, .aload_n 0, 0, 0, 0)) (by decide) rfl
theorem f306_880 : fetch 306 880 = some (.iload_n 3, 0, 0, 0) := v306_u2_5 (x := (880, .iload_n 3, 0, 0, 0)) (by decide) rfl
theorem f306_881 : fetch 306 881 = some (.iconst 1, 0, 0, 0) := v306_u2_5 (x := (881, .iconst 1, 0, 0, 0)) (by decide) rfl
theorem f306_882 : fetch 306 882 = some (.iadd, 0, 0, 0) := v306_u2_5 (x := (882, .iadd, 0, 0, 0)) (by decide) rfl
theorem f306_883 : fetch 306 883 = some (.iaload, 0, 0, 0) := v306_u2_5 (x := (883, .iaload, 0, 0, 0)) (by decide) rfl
theorem f306_884 : fetch 306 884 = some (.aload_n 0, 0, 0, 0) := v306_u2_5 (x := (884, .aload_n 0, 0, 0, 0)) (by decide) rfl
theorem f306_885 : fetch 306 885 = some (.iload_n 3, 0, 0, 0) := v306_u2_5 (x := (885, .iload_n 3, 0, 0, 0)) (by decide) rfl
theorem f306_886 : fetch 306 886 = some (.iconst 2, 0, 0, 0) := v306_u2_5 (x := (886, .iconst 2, 0, 0, 0)) (by decide) rfl
theorem f306_887 : fetch 306 887 = some (.iadd, 0, 0, 0) := v306_u2_5 (x := (887, .iadd, 0, 0, 0)) (by decide) rfl
theorem f306_888 : fetch 306 888 = some (.iaload, 0, 0, 0) := v306_u2_5 (x := (888, .iaload, 0, 0, 0)) (by decide) rfl
theorem f306_889 : fetch 306 889 = some (.aload_n 0, 0, 0, 0) := v306_u2_5 (x := (889, .aload_n 0, 0, 0, 0)) (by decide) rfl
theorem f306_890 : fetch 306 890 = some (.iload_n 3, 0, 0, 0) := v306_u2_5 (x := (890, .iload_n 3, 0, 0, 0)) (by decide) rfl
theorem f306_891 : fetch 306 891 = some (.iconst 3, 0, 0, 0) := v306_u2_5 (x := (891, .iconst 3, 0, 0, 0)) (by decide) rfl
theorem f306_892 : fetch 306 892 = some (.iadd, 0, 0, 0) := v306_u2_5 (x := (892, .iadd, 0, 0, 0)) (by decide) rfl
theorem f306_893 : fetch 306 893 = some (.iaload, 0, 0, 0) := v306_u2_5 (x := (893, .iaload, 0, 0, 0)) (by decide) rfl
theorem f306_894 : fetch 306 894 = some (.aload_n 0, 0, 0, 0) := v306_u2_5 (x := (894, .aload_n 0, 0, 0, 0)) (by decide) rfl
theorem f306_895 : fetch 306 895 = some (.iload_n 3, 0, 0, 0) := v306_u2_5 (x := (895, .iload_n 3, 0, 0, 0)) (by decide) rfl
theorem f306_896 : fetch 306 896 = some (.iconst 4, 0, 0, 0) := v306_u2_6 (x := (896, .iconst 4, 0, 0, 0)) (by decide) rfl
theorem f306_897 : fetch 306 897 = some (.iadd, 0, 0, 0) := v306_u2_6 (x := (897, .iadd, 0, 0, 0)) (by decide) rfl
theorem f306_898 : fetch 306 898 = some (.iaload, 0, 0, 0) := v306_u2_6 (x := (898, .iaload, 0, 0, 0)) (by decide) rfl
theorem f306_899 : fetch 306 899 = some (.aload_n 0, 0, 0, 0) := v306_u2_6 (x := (899, .aload_n 0, 0, 0, 0)) (by decide) rfl
theorem f306_900 : fetch 306 900 = some (.iload_n 3, 0, 0, 0) := v306_u2_6 (x := (900, .iload_n 3, 0, 0, 0)) (by decide) rfl
theorem f306_901 : fetch 306 901 = some (.iconst 5, 0, 0, 0) := v306_u2_6 (x := (901, .iconst 5, 0, 0, 0)) (by decide) rfl
theorem f306_902 : fetch 306 902 = some (.iadd, 0, 0, 0) := v306_u2_6 (x := (902, .iadd, 0, 0, 0)) (by decide) rfl
theorem f306_903 : fetch 306 903 = some (.iaload, 0, 0, 0) := v306_u2_6 (x := (903, .iaload, 0, 0, 0)) (by decide) rfl
theorem f306_904 : fetch 306 904 = some (.aload_n 0, 0, 0, 0) := v306_u2_6 (x := (904, .aload_n 0, 0, 0, 0)) (by decide) rfl
theorem f306_905 : fetch 306 905 = some (.iload_n 3, 0, 0, 0) := v306_u2_6 (x := (905, .iload_n 3, 0, 0, 0)) (by decide) rfl
theorem f306_906 : fetch 306 906 = some (.bipush 6, 0, 0, 0) := v306_u2_6 (x := (906, .bipush 6, 0, 0, 0)) (by decide) rfl
theorem f306_908 : fetch 306 908 = some (.iadd, 0, 0, 0) := v306_u2_6 (x := (908, .iadd, 0, 0, 0)) (by decide) rfl
theorem f306_909 : fetch 306 909 = some (.iaload, 0, 0, 0) := v306_u2_6 (x := (909, .iaload, 0, 0, 0)) (by decide) rfl
theorem f306_910 : fetch 306 910 = some (.aload_n 0, 0, 0, 0) := v306_u2_6 (x := (910, .aload_n 0, 0, 0, 0)) (by decide) rfl
theorem f306_911 : fetch 306 911 = some (.iload_n 3, 0, 0, 0) := v306_u2_6 (x := (911, .iload_n 3, 0, 0, 0)) (by decide) rfl
theorem f306_912 : fetch 306 912 = some (.bipush 7, 0, 0, 0) := v306_u2_6 (x := (912, .bipush 7, 0, 0, 0)) (by decide) rfl
theorem f306_914 : fetch 306 914 = some (.iadd, 0, 0, 0) := v306_u2_6 (x := (914, .iadd, 0, 0, 0)) (by decide) rfl
theorem f306_915 : fetch 306 915 = some (.iaload, 0, 0, 0) := v306_u2_6 (x := (915, .iaload, 0, 0, 0)) (by decide) rfl
theorem f306_916 : fetch 306 916 = some (.invokevirtual 94, 219, 7, 0) := v306_u2_6 (x := (916, .invokevirtual 94, 219, 7, 0)) (by decide) rfl
theorem f306_919 : fetch 306 919 = some (.if_icmp .eq 1201, 2120, 0, 0) := v306_u2_6 (x := (919, .if_icmp .eq 1201, 2120, 0, 0)) (by decide) rfl
theorem f306_922 : fetch 306 922 = some (.iconst 0, 0, 0, 0) := v306_u2_6 (x := (922, .iconst 0, 0, 0, 0)) (by decide) rfl
theorem f306_923 : fetch 306 923 = some (.ireturn, 0, 0, 1) := v306_u2_6 (x := (923, .ireturn, 0, 0, 1)) (by decide) rfl
theorem f306_924 : fetch 306 924 = some (.aload_n 1, 0, 0, 0) := v306_u2_6 (x := (924, .aload_n 1, 0, 0, 0)) (by decide) rfl
theorem f306_925 : fetch 306 925 = some (.aload_n 0, 0, 0, 0) := v306_u2_6 (x := (925, .aload_n 0, 0, 0, 0)) (by decide) rfl
theorem f306_926 : fetch 306 926 = some (.iload_n 3, 0, 0, 0) := v306_u2_7 (x := (926, .iload_n 3, 0, 0, 0)) (by decide) rfl
theorem f306_927 : fetch 306 927 = some (.iconst 1, 0, 0, 0) := v306_u2_7 (x := (927, .iconst 1, 0, 0, 0)) (by decide) rfl
theorem f306_928 : fetch 306 928 = some (.iadd, 0, 0, 0) := v306_u2_7 (x := (928, .iadd, 0, 0, 0)) (by decide) rfl
theorem f306_929 : fetch 306 929 = some (.iaload, 0, 0, 0) := v306_u2_7 (x := (929, .iaload, 0, 0, 0)) (by decide) rfl
theorem f306_930 : fetch 306 930 = some (.invokevirtual 95, 132, 1, 0) := v306_u2_7 (x := (930, .invokevirtual 95, 132, 1, 0)) (by decide) rfl
theorem f306_933 : fetch 306 933 = some (.aload_n 2, 0, 0, 0) := v306_u2_7 (x := (933, .aload_n 2, 0, 0, 0)) (by decide) rfl
theorem f306_934 : fetch 306 934 = some (.aload_n 0, 0, 0, 0) := v306_u2_7 (x := (934, .aload_n 0, 0, 0, 0)) (by decide) rfl
theorem f306_935 : fetch 306 935 = some (.iload_n 3, 0, 0, 0) := v306_u2_7 (x := (935, .iload_n 3, 0, 0, 0)) (by decide) rfl
theorem f306_936 : fetch 306 936 = some (.iconst 1, 0, 0, 0) := v306_u2_7 (x := (936, .iconst 1, 0, 0, 0)) (by decide) rfl
theorem f306_937 : fetch 306 937 = some (.iadd, 0, 0, 0) := v306_u2_7 (x := (937, .iadd, 0, 0, 0)) (by decide) rfl
theorem f306_938 : fetch 306 938 = some (.iaload, 0, 0, 0) := v306_u2_7 (x := (938, .iaload, 0, 0, 0)) (by decide) rfl
theorem f306_939 : fetch 306 939 = some (.invokevirtual 98, 221, 1, 0) := v306_u2_7 (x := (939, .invokevirtual 98, 221, 1, 0)) (by decide) rfl
theorem f306_942 : fetch 306 942 = some (.if_icmp .eq 1178, 2120, 0, 0) := v306_u2_7 (x := (942, .if_icmp .eq 1178, 2120, 0, 0)) (by decide) rfl
theorem f306_945 : fetch 306 945 = some (.iconst 0, 0, 0, 0) := v306_u2_7 (x := (945, .iconst 0, 0, 0, 0)) (by decide) rfl
theorem f306_946 : fetch 306 946 = some (.ireturn, 0, 0, 1) := v306_u2_7 (x := (946, .ireturn, 0, 0, 1)) (by decide) rfl
theorem f306_947 : fetch 306 947 = some (.aload_n 1, 0, 0, 0) := v306_u2_7 (x := (947, .aload_n 1, 0, 0, 0)) (by decide) rfl
theorem f306_948 : fetch 306 948 = some (.aload_n 0, 0, 0, 0) := v306_u2_7 (x := (948, .aload_n 0, 0, 0, 0)) (by decide) rfl
theorem f306_949 : fetch 306 949 = some (.iload_n 3, 0, 0, 0) := v306_u2_7 (x := (949, .iload_n 3, 0, 0, 0)) (by decide) rfl
theorem f306_950 : fetch 306 950 = some (.iconst 1, 0, 0, 0) := v306_u2_7 (x := (950, .iconst 1, 0, 0, 0)) (by decide) rfl
theorem f306_951 : fetch 306 951 = some (.iadd, 0, 0, 0) := v306_u2_7 (x := (951, .iadd, 0, 0, 0)) (by decide) rfl
theorem f306_952 : fetch 306 952 = some (.iaload, 0, 0, 0) := v306_u2_7 (x := (952, .iaload, 0, 0, 0)) (by decide) rfl
theorem f306_953 : fetch 306 953 = some (.aload_n 0, 0, 0, 0) := v306_u2_7 (x := (953, .aload_n 0, 0, 0, 0)) (by decide) rfl
theorem f306_954 : fetch 306 954 = some (.iload_n 3, 0, 0, 0) := v306_u2_7 (x := (954, .iload_n 3, 0, 0, 0)) (by decide) rfl
theorem f306_955 : fetch 306 955 = some (.iconst 2, 0, 0, 0) := v306_u2_7 (x := (955, .iconst 2, 0, 0, 0)) (by decide) rfl
theorem f306_956 : fetch 306 956 = some (.iadd, 0, 0, 0) := v306_u2_8 (x := (956, .iadd, 0, 0, 0)) (by decide) rfl
theorem f306_957 : fetch 306 957 = some (.iaload, 0, 0, 0) := v306_u2_8 (x := (957, .iaload, 0, 0, 0)) (by decide) rfl
theorem f306_958 : fetch 306 958 = some (.invokevirtual 99, 133, 2, 0) := v306_u2_8 (x := (958, .invokevirtual 99, 133, 2, 0)) (by decide) rfl
theorem f306_961 : fetch 306 961 = some (.aload_n 2, 0, 0, 0) := v306_u2_8 (x := (961, .aload_n 2, 0, 0, 0)) (by decide) rfl
theorem f306_962 : fetch 306 962 = some (.aload_n 0, 0, 0, 0) := v306_u2_8 (x := (962, .aload_n 0, 0, 0, 0)) (by decide) rfl
theorem f306_963 : fetch 306 963 = some (.iload_n 3, 0, 0, 0) := v306_u2_8 (x := (963, .iload_n 3, 0, 0, 0)) (by decide) rfl
theorem f306_964 : fetch 306 964 = some (.iconst 1, 0, 0, 0) := v306_u2_8 (x := (964, .iconst 1, 0, 0, 0)) (by decide) rfl
theorem f306_965 : fetch 306 965 = some (.iadd, 0, 0, 0) := v306_u2_8 (x := (965, .iadd, 0, 0, 0)) (by decide) rfl
theorem f306_966 : fetch 306 966 = some (.iaload, 0, 0, 0) := v306_u3_0 (x := (966, .iaload, 0, 0, 0)) (by decide) rfl
theorem f306_967 : fetch 306 967 = some (.aload_n 0, 0, 0, 0) := v306_u3_0 (x := (967, .aload_n 0, 0, 0, 0)) (by decide) rfl
theorem f306_968 : fetch 306 968 = some (.iload_n 3, 0, 0, 0) := v306_u3_0 (x := (968, .iload_n 3, 0, 0, 0)) (by decide) rfl
theorem f306_969 : fetch 306 969 = some (.iconst 2, 0, 0, 0) := v306_u3_0 (x := (969, .iconst 2, 0, 0, 0)) (by decide) rfl
theorem f306_970 : fetch 306 970 = some (.iadd, 0, 0, 0) := v306_u3_0 (x := (970, .iadd, 0, 0, 0)) (by decide) rfl
theorem f306_971 : fetch 306 971 = some (.iaload, 0, 0, 0) := v306_u3_0 (x := (971, .iaload, 0, 0, 0)) (by decide) rfl
theorem f306_972 : fetch 306 972 = some (.invokevirtual 102, 224, 2, 0) := v306_u3_0 (x := (972, .invokevirtual 102, 224, 2, 0)) (by decide) rfl
theorem f306_975 : fetch 306 975 = some (.if_icmp .eq 1145, 2120, 0, 0) := v306_u3_0 (x := (975, .if_icmp .eq 1145, 2120, 0, 0)) (by decide) rfl
theorem f306_978 : fetch 306 978 = some (.iconst 0, 0, 0, 0) := v306_u3_0 (x := (978, .iconst 0, 0, 0, 0)) (by decide) rfl
theorem f306_979 : fetch 306 979 = some (.ireturn, 0, 0, 1) := v306_u3_0 (x := (979, .ireturn, 0, 0, 1)) (by decide) rfl
theorem f306_980 : fetch 306 980 = some (.aload_n 1, 0, 0, 0) := v306_u3_0 (x := (980, .aload_n 1, 0, 0, 0)) (by decide) rfl
theorem f306_981 : fetch 306 981 = some (.aload_n 0, 0, 0, 0) := v306_u3_0 (x := (981, .aload_n 0, 0, 0, 0)) (by decide) rfl
theorem f306_982 : fetch 306 982 = some (.iload_n 3, 0, 0, 0) := v306_u3_0 (x := (982, .iload_n 3, 0, 0, 0)) (by decide) rfl
theorem f306_983 : fetch 306 983 = some (.iconst 1, 0, 0, 0) := v306_u3_0 (x := (983, .iconst 1, 0, 0, 0)) (by decide) rfl
theorem f306_984 : fetch 306 984 = some (.iadd, 0, 0, 0) := v306_u3_0 (x := (984, .iadd, 0, 0, 0)) (by decide) rfl
theorem f306_985 : fetch 306 985 = some (.iaload, 0, 0, 0) := v306_u3_0 (x := (985, .iaload, 0, 0, 0)) (by decide) rfl
theorem f306_986 : fetch 306 986 = some (.aload_n 0, 0, 0, 0) := v306_u3_0 (x := (986, .aload_n 0, 0, 0, 0)) (by decide) rfl
theorem f306_987 : fetch 306 987 = some (.iload_n 3, 0, 0, 0) := v306_u3_0 (x := (987, .iload_n 3, 0, 0, 0)) (by decide) rfl
theorem f306_988 : fetch 306 988 = some (.iconst 2, 0, 0, 0) := v306_u3_0 (x := (988, .iconst 2, 0, 0, 0)) (by decide) rfl
theorem f306_989 : fetch 306 989 = some (.iadd, 0, 0, 0) := v306_u3_0 (x := (989, .iadd, 0, 0, 0)) (by decide) rfl
theorem f306_990 : fetch 306 990 = some (.iaload, 0, 0, 0) := v306_u3_0 (x := (990, .iaload, 0, 0, 0)) (by decide) rfl
theorem f306_991 : fetch 306 991 = some (.aload_n 0, 0, 0, 0) := v306_u3_0 (x := (991, .aload_n 0, 0, 0, 0)) (by decide) rfl
theorem f306_992 : fetch 306 992 = some (.iload_n 3, 0, 0, 0) := v306_u3_0 (x := (992, .iload_n 3, 0, 0, 0)) (by decide) rfl
theorem f306_993 : fetch 306 993 = some (.iconst 3, 0, 0, 0) := v306_u3_0 (x := (993, .iconst 3, 0, 0, 0)) (by decide) rfl
theorem f306_994 : fetch 306 994 = some (.iadd, 0, 0, 0) := v306_u3_1 (x := (994, .iadd, 0, 0, 0)) (by decide) rfl
theorem f306_995 : fetch 306 995 = some (.iaload, 0, 0, 0) := v306_u3_1 (x := (995, .iaload, 0, 0, 0)) (by decide) rfl
theorem f306_996 : fetch 306 996 = some (.invokevirtual 103, 134, 3, 0) := v306_u3_1 (x := (996, .invokevirtual 103, 134, 3, 0)) (by decide) rfl
theorem f306_999 : fetch 306 999 = some (.aload_n 2, 0, 0, 0) := v306_u3_1 (x := (999, .aload_n 2, 0, 0, 0)) (by decide) rfl
theorem f306_1000 : fetch 306 1000 = some (.aload_n 0, 0, 0, 0) := v306_u3_1 (x := (1000, .aload_n 0, 0, 0, 0)) (by decide) rfl
theorem f306_1001 : fetch 306 1001 = some (.iload_n 3, 0, 0, 0) := v306_u3_1 (x := (1001, .iload_n 3, 0, 0, 0)) (by decide) rfl
theorem f306_1002 : fetch 306 1002 = some (.iconst 1, 0, 0, 0) := v306_u3_1 (x := (1002, .iconst 1, 0, 0, 0)) (by decide) rfl
theorem f306_1003 : fetch 306 1003 = some (.iadd, 0, 0, 0) := v306_u3_1 (x := (1003, .iadd, 0, 0, 0)) (by decide) rfl
theorem f306_1004 : fetch 306 1004 = some (.iaload, 0, 0, 0) := v306_u3_1 (x := (1004, .iaload, 0, 0, 0)) (by decide) rfl
theorem f306_1005 : fetch 306 1005 = some (.aload_n 0, 0, 0, 0) := v306_u3_1 (x := (1005, .aload_n 0, 0, 0, 0)) (by decide) rfl
theorem f306_1006 : fetch 306 1006 = some (.iload_n 3, 0, 0, 0) := v306_u3_1 (x := (1006, .iload_n 3, 0, 0, 0)) (by decide) rfl
theorem f306_1007 : fetch 306 1007 = some (.iconst 2, 0, 0, 0) := v306_u3_1 (x := (1007, .iconst 2, 0, 0, 0)) (by decide) rfl
theorem f306_1008 : fetch 306 1008 = some (.iadd, 0, 0, 0) := v306_u3_1 (x := (1008, .iadd, 0, 0, 0)) (by decide) rfl
theorem f306_1009 : fetch 306 1009 = some (.iaload, 0, 0, 0) := v306_u3_1 (x := (1009, .iaload, 0, 0, 0)) (by decide) rfl
theorem f306_1010 : fetch 306 1010 = some (.aload_n 0, 0, 0, 0) := v306_u3_1 (x := (1010, .aload_n 0, 0, 0, 0)) (by decide) rfl
theorem f306_1011 : fetch 306 1011 = some (.iload_n 3, 0, 0, 0) := v306_u3_1 (x := (1011, .iload_n 3, 0, 0, 0)) (by decide) rfl
theorem f306_1012 : fetch 306 1012 = some (.iconst 3, 0, 0, 0) := v306_u3_1 (x := (1012, .iconst 3, 0, 0, 0)) (by decide) rfl
theorem f306_1013 : fetch 306 1013 = some (.iadd, 0, 0, 0) := v306_u3_1 (x := (1013, .iadd, 0, 0, 0)) (by decide) rfl
theorem f306_1014 : fetch 306 1014 = some (.iaload, 0, 0, 0) := v306_u3_1 (x := (1014, .iaload, 0, 0, 0)) (by decide) rfl
theorem f306_1015 : fetch 306 1015 = some (.invokevirtual 106, 227, 3, 0) := v306_u3_1 (x := (1015, .invokevirtual 106, 227, 3, 0)) (by decide) rfl
theorem f306_1018 : fetch 306 1018 = some (.if_icmp .eq 1102, 2120, 0, 0) := v306_u3_1 (x := (1018, .if_icmp .eq 1102, 2120, 0, 0)) (by decide) rfl
theorem f306_1021 : fetch 306 1021 = some (.iconst 0, 0, 0, 0) := v306_u3_1 (x := (1021, .iconst 0, 0, 0, 0)) (by decide) rfl
theorem f306_1022 : fetch 306 1022 = some (.ireturn, 0, 0, 1) := v306_u3_1 (x := (1022, .ireturn, 0, 0, 1)) (by decide) rfl
theorem f306_1023 : fetch 306 1023 = some (.aload_n 1, 0, 0, 0) := v306_u3_1 (x := (1023, .aload_n 1, 0, 0, 0)) (by decide) rfl
theorem f306_1024 : fetch 306 1024 = some (.aload_n 0, 0, 0, 0) := v306_u3_2 (x := (1024, .aload_n 0, 0, 0, 0)) (by decide) rfl
theorem f306_1025 : fetch 306 1025 = some (.iload_n 3, 0, 0, 0) := v306_u3_2 (x := (1025, .iload_n 3, 0, 0, 0)) (by decide) rfl
theorem f306_1026 : fetch 306 1026 = some (.iconst 1, 0, 0, 0) := v306_u3_2 (x := (1026, .iconst 1, 0, 0, 0)) (by decide) rfl
theorem f306_1027 : fetch 306 1027 = some (.iadd, 0, 0, 0) := v306_u3_2 (x := (1027, .iadd, 0, 0, 0)) (by decide) rfl
theorem f306_1028 : fetch 306 1028 = some (.iaload, 0, 0, 0) := v306_u3_2 (x := (1028, .iaload, 0, 0, 0)) (by decide) rfl
theorem f306_1029 : fetch 306 1029 = some (.aload_n 0, 0, 0, 0) := v306_u3_2 (x := (1029, .aload_n 0, 0, 0, 0)) (by decide) rfl
theorem f306_1030 : fetch 306 1030 = some (.iload_n 3, 0, 0, 0) := v306_u3_2 (x := (1030, .iload_n 3, 0, 0, 0)) (by decide) rfl
theorem f306_1031 : fetch 306 1031 = some (.iconst 2, 0, 0, 0) := v306_u3_2 (x := (1031, .iconst 2, 0, 0, 0)) (by decide) rfl
theorem f306_1032 : fetch 306 1032 = some (.iadd, 0, 0, 0) := v306_u3_2 (x := (1032, .iadd, 0, 0, 0)) (by decide) rfl
theorem f306_1033 : fetch 306 1033 = some (.iaload, 0, 0, 0) := v306_u3_2 (x := (1033, .iaload, 0, 0, 0)) (by decide) rfl
theorem f306_1034 : fetch 306 1034 = some (.aload_n 0, 0, 0, 0) := v306_u3_2 (x := (1034, .aload_n 0, 0, 0, 0)) (by decide) rfl
theorem f306_1035 : fetch 306 1035 = some (.iload_n 3, 0, 0, 0) := v306_u3_2 (x := (1035, .iload_n 3, 0, 0, 0)) (by decide) rfl
theorem f306_1036 : fetch 306 1036 = some (.iconst 3, 0, 0, 0) := v306_u3_2 (x := (1036, .iconst 3, 0, 0, 0)) (by decide) rfl
theorem f306_1037 : fetch 306 1037 = some (.iadd, 0, 0, 0) := v306_u3_2 (x := (1037, .iadd, 0, 0, 0)) (by decide) rfl
theorem f306_1038 : fetch 306 1038 = some (.iaload, 0, 0, 0) := v306_u3_2 (x := (1038, .iaload, 0, 0, 0)) (by decide) rfl
theorem f306_1039 : fetch 306 1039 = some (.invokevirtual 107, 135, 3, 0) := v306_u3_2 (x := (1039, .invokevirtual 107, 135, 3, 0)) (by decide) rfl
theorem f306_1042 : fetch 306 1042 = some (.aload_n 2, 0, 0, 0) := v306_u3_2 (x := (1042, .aload_n 2, 0, 0, 0)) (by decide) rfl
theorem f306_1043 : fetch 306 1043 = some (.aload_n 0, 0, 0, 0) := v306_u3_2 (x := (1043, .aload_n 0, 0, 0, 0)) (by decide) rfl
theorem f306_1044 : fetch 306 1044 = some (.iload_n 3, 0, 0, 0) := v306_u3_2 (x := (1044, .iload_n 3, 0, 0, 0)) (by decide) rfl
theorem f306_1045 : fetch 306 1045 = some (.iconst 1, 0, 0, 0) := v306_u3_2 (x := (1045, .iconst 1, 0, 0, 0)) (by decide) rfl
theorem f306_1046 : fetch 306 1046 = some (.iadd, 0, 0, 0) := v306_u3_2 (x := (1046, .iadd, 0, 0, 0)) (by decide) rfl
theorem f306_1047 : fetch 306 1047 = some (.iaload, 0, 0, 0) := v306_u3_2 (x := (1047, .iaload, 0, 0, 0)) (by decide) rfl
theorem f306_1048 : fetch 306 1048 = some (.aload_n 0, 0, 0, 0) := v306_u3_2 (x := (1048, .aload_n 0, 0, 0, 0)) (by decide) rfl
theorem f306_1049 : fetch 306 1049 = some (.iload_n 3, 0, 0, 0) := v306_u3_2 (x := (1049, .iload_n 3, 0, 0, 0)) (by decide) rfl
theorem f306_1050 : fetch 306 1050 = some (.iconst 2, 0, 0, 0) := v306_u3_3 (x := (1050, .iconst 2, 0, 0, 0)) (by decide) rfl
theorem f306_1051 : fetch 306 1051 = some (.iadd, 0, 0, 0) := v306_u3_3 (x := (1051, .iadd, 0, 0, 0)) (by decide) rfl
theorem f306_1052 : fetch 306 1052 = some (.iaload, 0, 0, 0) := v306_u3_3 (x := (1052, .iaload, 0, 0, 0)) (by decide) rfl
theorem f306_1053 : fetch 306 1053 = some (.aload_n 0, 0, 0, 0) := v306_u3_3 (x := (1053, .aload_n 0, 0, 0, 0)) (by decide) rfl
theorem f306_1054 : fetch 306 1054 = some (.iload_n 3, 0, 0, 0) := v306_u3_3 (x := (1054, .iload_n 3, 0, 0, 0)) (by decide) rfl
theorem f306_1055 : fetch 306 1055 = some (.iconst 3, 0, 0, 0) := v306_u3_3 (x := (1055, .iconst 3, 0, 0, 0)) (by decide) rfl
theorem f306_1056 : fetch 306 1056 = some (.iadd, 0, 0, 0) := v306_u3_3 (x := (1056, .iadd, 0, 0, 0)) (by decide) rfl
theorem f306_1057 : fetch 306 1057 = some (.iaload, 0, 0, 0) := v306_u3_3 (x := (1057, .iaload, 0, 0, 0)) (by decide) rfl
theorem f306_1058 : fetch 306 1058 = some (.invokevirtual 110, 229, 3, 0) := v306_u3_3 (x := (1058, .invokevirtual 110, 229, 3, 0)) (by decide) rfl
theorem f306_1061 : fetch 306 1061 = some (.if_icmp .eq 1059, 2120, 0, 0) := v306_u3_3 (x := (1061, .if_icmp .eq 1059, 2120, 0, 0)) (by decide) rfl
theorem f306_1064 : fetch 306 1064 = some (.iconst 0, 0, 0, 0) := v306_u3_3 (x := (1064, .iconst 0, 0, 0, 0)) (by decide) rfl
theorem f306_1065 : fetch 306 1065 = some (.ireturn, 0, 0, 1) := v306_u3_3 (x := (1065, .ireturn, 0, 0, 1)) (by decide) rfl
theorem f306_1066 : fetch 306 1066 = some (.aload_n 1, 0, 0, 0) := v306_u3_3 (x := (1066, .aload_n 1, 0, 0, 0)) (by decide) rfl
theorem f306_1067 : fetch 306 1067 = some (.aload_n 0, 0, 0, 0) := v306_u3_3 (x := (1067, .aload_n 0, 0, 0, 0)) (by decide) rfl
theorem f306_1068 : fetch 306 1068 = some (.iload_n 3, 0, 0, 0) := v306_u3_3 (x := (1068, .iload_n 3, 0, 0, 0)) (by decide) rfl
theorem f306_1069 : fetch 306 1069 = some (.iconst 1, 0, 0, 0) := v306_u3_3 (x := (1069, .iconst 1, 0, 0, 0)) (by decide) rfl
theorem f306_1070 : fetch 306 1070 = some (.iadd, 0, 0, 0) := v306_u3_3 (x := (1070, .iadd, 0, 0, 0)) (by decide) rfl
theorem f306_1071 : fetch 306 1071 = some (.iaload, 0, 0, 0) := v306_u3_3 (x := (1071, .iaload, 0, 0, 0)) (by decide) rfl
theorem f306_1072 : fetch 306 1072 = some (.aload_n 0, 0, 0, 0) := v306_u3_3 (x := (1072, .aload_n 0, 0, 0, 0)) (by decide) rfl
theorem f306_1073 : fetch 306 1073 = some (.iload_n 3, 0, 0, 0) := v306_u3_3 (x := (1073, .iload_n 3, 0, 0, 0)) (by decide) rfl
theorem f306_1074 : fetch 306 1074 = some (.iconst 2, 0, 0, 0) := v306_u3_3 (x := (1074, .iconst 2, 0, 0, 0)) (by decide) rfl
theorem f306_1075 : fetch 306 1075 = some (.iadd, 0, 0, 0) := v306_u3_3 (x := (1075, .iadd, 0, 0, 0)) (by decide) rfl
theorem f306_1076 : fetch 306 1076 = some (.iaload, 0, 0, 0) := v306_u3_3 (x := (1076, .iaload, 0, 0, 0)) (by decide) rfl
theorem f306_1077 : fetch 306 1077 = some (.invokevirtual 111, 136, 2, 0) := v306_u3_3 (x := (1077, .invokevirtual 111, 136, 2, 0)) (by decide) rfl
theorem f306_1080 : fetch 306 1080 = some (.aload_n 2, 0, 0, 0) := v306_u3_4 (x := (1080, .aload_n 2, 0, 0, 0)) (by decide) rfl
theorem f306_1081 : fetch 306 1081 = some (.aload_n 0, 0, 0, 0) := v306_u3_4 (x := (1081, .aload_n 0, 0, 0, 0)) (by decide) rfl
theorem f306_1082 : fetch 306 1082 = some (.iload_n 3, 0, 0, 0) := v306_u3_4 (x := (1082, .iload_n 3, 0, 0, 0)) (by decide) rfl
theorem f306_1083 : fetch 306 1083 = some (.iconst 1, 0, 0, 0) := v306_u3_4 (x := (1083, .iconst 1, 0, 0, 0)) (by decide) rfl
theorem f306_1084 : fetch 306 1084 = some (.iadd, 0, 0, 0) := v306_u3_4 (x := (1084, .iadd, 0, 0, 0)) (by decide) rfl
theorem f306_1085 : fetch 306 1085 = some (.iaload, 0, 0, 0) := v306_u3_4 (x := (1085, .iaload, 0, 0, 0)) (by decide) rfl
theorem f306_1086 : fetch 306 1086 = some (.aload_n 0, 0, 0, 0) := v306_u3_4 (x := (1086, .aload_n 0, 0, 0, 0)) (by decide) rfl
theorem f306_1087 : fetch 306 1087 = some (.iload_n 3, 0, 0, 0) := v306_u3_4 (x := (1087, .iload_n 3, 0, 0, 0)) (by decide) rfl
theorem f306_1088 : fetch 306 1088 = some (.iconst 2, 0, 0, 0) := v306_u3_4 (x := (1088, .iconst 2, 0, 0, 0)) (by decide) rfl
theorem f306_1089 : fetch 306 1089 = some (.iadd, 0, 0, 0) := v306_u3_4 (x := (1089, .iadd, 0, 0, 0)) (by decide) rfl
theorem f306_1090 : fetch 306 1090 = some (.iaload, 0, 0, 0) := v306_u3_4 (x := (1090, .iaload, 0, 0, 0)) (by decide) rfl
theorem f306_1091 : fetch 306 1091 = some (.invokevirtual 114, 232, 2, 0) := v306_u3_4 (x := (1091, .invokevirtual 114, 232, 2, 0)) (by decide) rfl
theorem f306_1094 : fetch 306 1094 = some (.if_icmp .eq 1026, 2120, 0, 0) := v306_u3_4 (x := (1094, .if_icmp .eq 1026, 2120, 0, 0)) (by decide) rfl
theorem f306_1097 : fetch 306 1097 = some (.iconst 0, 0, 0, 0) := v306_u3_4 (x := (1097, .iconst 0, 0, 0, 0)) (by decide) rfl
theorem f306_1098 : fetch 306 1098 = some (.ireturn, 0, 0, 1) := v306_u3_4 (x := (1098, .ireturn, 0, 0, 1)) (by decide) rfl
theorem f306_1099 : fetch 306 1099 = some (.aload_n 1, 0, 0, 0) := v306_u3_4 (x := (1099, .aload_n 1, 0, 0, 0)) (by decide) rfl
theorem f306_1100 : fetch 306 1100 = some (.aload_n 0, 0, 0, 0) := v306_u3_4 (x := (1100, .aload_n 0, 0, 0, 0)) (by decide) rfl
theorem f306_1101 : fetch 306 1101 = some (.iload_n 3, 0, 0, 0) := v306_u3_4 (x := (1101, .iload_n 3, 0, 0, 0)) (by decide) rfl
theorem f306_1102 : fetch 306 1102 = some (.iconst 1, 0, 0, 0) := v306_u3_4 (x := (1102, .iconst 1, 0, 0, 0)) (by decide) rfl
theorem f306_1103 : fetch 306 1103 = some (.iadd, 0, 0, 0) := v306_u3_4 (x := (1103, .iadd, 0, 0, 0)) (by decide) rfl
theorem f306_1104 : fetch 306 1104 = some (.iaload, 0, 0, 0) := v306_u3_4 (x := (1104, .iaload, 0, 0, 0)) (by decide) rfl
theorem f306_1105 : fetch 306 1105 = some (.invokevirtual 115, 137, 1, 0) := v306_u3_4 (x := (1105, .invokevirtual 115, 137, 1, 0)) (by decide) rfl
theorem f306_1108 : fetch 306 1108 = some (.aload_n 2, 0, 0, 0) := v306_u3_4 (x := (1108, .aload_n 2, 0, 0, 0)) (by decide) rfl
theorem f306_1109 : fetch 306 1109 = some (.aload_n 0, 0, 0, 0) := v306_u3_4 (x := (1109, .aload_n 0, 0, 0, 0)) (by decide) rfl
theorem f306_1110 : fetch 306 1110 = some (.iload_n 3, 0, 0, 0) := v306_u3_5 (x := (1110, .iload_n 3, 0, 0, 0)) (by decide) rfl
theorem f306_1111 : fetch 306 1111 = some (.iconst 1, 0, 0, 0) := v306_u3_5 (x := (1111, .iconst 1, 0, 0, 0)) (by decide) rfl
theorem f306_1112 : fetch 306 1112 = some (.iadd, 0, 0, 0) := v306_u3_5 (x := (1112, .iadd, 0, 0, 0)) (by decide) rfl
theorem f306_1113 : fetch 306 1113 = some (.iaload, 0, 0, 0) := v306_u3_5 (x := (1113, .iaload, 0, 0, 0)) (by decide) rfl
theorem f306_1114 : fetch 306 1114 = some (.invokevirtual 118, 234, 1, 0) := v306_u3_5 (x := (1114, .invokevirtual 118, 234, 1, 0)) (by decide) rfl
theorem f306_1117 : fetch 306 1117 = some (.if_icmp .eq 1003, 2120, 0, 0) := v306_u3_5 (x := (1117, .if_icmp .eq 1003, 2120, 0, 0)) (by decide) rfl
theorem f306_1120 : fetch 306 1120 = some (.iconst 0, 0, 0, 0) := v306_u3_5 (x := (1120, .iconst 0, 0, 0, 0)) (by decide) rfl
theorem f306_1121 : fetch 306 1121 = some (.ireturn, 0, 0, 1) := v306_u3_5 (x := (1121, .ireturn, 0, 0, 1)) (by decide) rfl
theorem f306_1122 : fetch 306 1122 = some (.aload_n 1, 0, 0, 0) := v306_u3_5 (x := (1122, .aload_n 1, 0, 0, 0)) (by decide) rfl
theorem f306_1123 : fetch 306 1123 = some (.aload_n 0, 0, 0, 0) := v306_u3_5 (x := (1123, .aload_n 0, 0, 0, 0)) (by decide) rfl
theorem f306_1124 : fetch 306 1124 = some (.iload_n 3, 0, 0, 0) := v306_u3_5 (x := (1124, .iload_n 3, 0, 0, 0)) (by decide) rfl
theorem f306_1125 : fetch 306 1125 = some (.iconst 1, 0, 0, 0) := v306_u3_5 (x := (1125, .iconst 1, 0, 0, 0)) (by decide) rfl
theorem f306_1126 : fetch 306 1126 = some (.iadd, 0, 0, 0) := v306_u3_5 (x := (1126, .iadd, 0, 0, 0)) (by decide) rfl
theorem f306_1127 : fetch 306 1127 = some (.iaload, 0, 0, 0) := v306_u3_5 (x := (1127, .iaload, 0, 0, 0)) (by decide) rfl
theorem f306_1128 : fetch 306 1128 = some (.aload_n 0, 0, 0, 0) := v306_u3_5 (x := (1128, .aload_n 0, 0, 0, 0)) (by decide) rfl
theorem f306_1129 : fetch 306 1129 = some (.iload_n 3, 0, 0, 0) := v306_u3_5 (x := (1129, .iload_n 3, 0, 0, 0)) (by decide) rfl
theorem f306_1130 : fetch 306 1130 = some (.iconst 2, 0, 0, 0) := v306_u3_5 (x := (1130, .iconst 2, 0, 0, 0)) (by decide) rfl
theorem f306_1131 : fetch 306 1131 = some (.iadd, 0, 0, 0) := v306_u3_5 (x := (1131, .iadd, 0, 0, 0)) (by decide) rfl
theorem f306_1132 : fetch 306 1132 = some (.iaload, 0, 0, 0) := v306_u3_5 (x := (1132, .iaload, 0, 0, 0)) (by decide) rfl
theorem f306_1133 : fetch 306 1133 = some (.aload_n 0, 0, 0, 0) := v306_u3_5 (x := (1133, .aload_n 0, 0, 0, 0)) (by decide) rfl
theorem f306_1134 : fetch 306 1134 = some (.iload_n 3, 0, 0, 0) := v306_u3_5 (x := (1134, .iload_n 3, 0, 0, 0)) (by decide) rfl
theorem f306_1135 : fetch 306 1135 = some (.iconst 3, 0, 0, 0) := v306_u3_5 (x := (1135, .iconst 3, 0, 0, 0)) (by decide) rfl
theorem f306_1136 : fetch 306 1136 = some (.iadd, 0, 0, 0) := v306_u3_5 (x := (1136, .iadd, 0, 0, 0)) (by decide) rfl
theorem f306_1137 : fetch 306 1137 = some (.iaload, 0, 0, 0) := v306_u3_5 (x := (1137, .iaload, 0, 0, 0)) (by decide) rfl
theorem f306_1138 : fetch 306 1138 = some (.invokevirtual 119, 138, 3, 0) := v306_u3_6 (x := (1138, .invokevirtual 119, 138, 3, 0)) (by decide) rfl
theorem f306_1141 : fetch 306 1141 = some (.aload_n 2, 0, 0, 0) := v306_u3_6 (x := (1141, .aload_n 2, 0, 0, 0)) (by decide) rfl
theorem f306_1142 : fetch 306 1142 = some (.aload_n 0, 0, 0, 0) := v306_u3_6 (x := (1142, .aload_n 0, 0, 0, 0)) (by decide) rfl
theorem f306_1143 : fetch 306 1143 = some (.iload_n 3, 0, 0, 0) := v306_u3_6 (x := (1143, .iload_n 3, 0, 0, 0)) (by decide) rfl
theorem f306_1144 : fetch 306 1144 = some (.iconst 1, 0, 0, 0) := v306_u3_6 (x := (1144, .iconst 1, 0, 0, 0)) (by decide) rfl
theorem f306_1145 : fetch 306 1145 = some (.iadd, 0, 0, 0) := v306_u3_6 (x := (1145, .iadd, 0, 0, 0)) (by decide) rfl
theorem f306_1146 : fetch 306 1146 = some (.iaload, 0, 0, 0) := v306_u3_6 (x := (1146, .iaload, 0, 0, 0)) (by decide) rfl
theorem f306_1147 : fetch 306 1147 = some (.aload_n 0, 0, 0, 0) := v306_u3_6 (x := (1147, .aload_n 0, 0, 0, 0)) (by decide) rfl
theorem f306_1148 : fetch 306 1148 = some (.iload_n 3, 0, 0, 0) := v306_u3_6 (x := (1148, .iload_n 3, 0, 0, 0)) (by decide) rfl
theorem f306_1149 : fetch 306 1149 = some (.iconst 2, 0, 0, 0) := v306_u3_6 (x := (1149, .iconst 2, 0, 0, 0)) (by decide) rfl
theorem f306_1150 : fetch 306 1150 = some (.iadd, 0, 0, 0) := v306_u3_6 (x := (1150, .iadd, 0, 0, 0)) (by decide) rfl
theorem f306_1151 : fetch 306 1151 = some (.iaload, 0, 0, 0) := v306_u3_6 (x := (1151, .iaload, 0, 0, 0)) (by decide) rfl
theorem f306_1152 : fetch 306 1152 = some (.aload_n 0, 0, 0, 0) := v306_u3_6 (x := (1152, .aload_n 0, 0, 0, 0)) (by decide) rfl
theorem f306_1153 : fetch 306 1153 = some (.iload_n 3, 0, 0, 0) := v306_u3_6 (x := (1153, .iload_n 3, 0, 0, 0)) (by decide) rfl
theorem f306_1154 : fetch 306 1154 = some (.iconst 3, 0, 0, 0) := v306_u3_6 (x := (1154, .iconst 3, 0, 0, 0)) (by decide) rfl
theorem f306_1155 : fetch 306 1155 = some (.iadd, 0, 0, 0) := v306_u3_6 (x := (1155, .iadd, 0, 0, 0)) (by decide) rfl
theorem f306_1156 : fetch 306 1156 = some (.iaload, 0, 0, 0) := v306_u3_6 (x := (1156, .iaload, 0, 0, 0)) (by decide) rfl
theorem f306_1157 : fetch 306 1157 = some (.invokevirtual 122, 237, 3, 0) := v306_u3_6 (x := (1157, .invokevirtual 122, 237, 3, 0)) (by decide) rfl
theorem f306_1160 : fetch 306 1160 = some (.if_icmp .eq 960, 2120, 0, 0) := v306_u3_6 (x := (1160, .if_icmp .eq 960, 2120, 0, 0)) (by decide) rfl
theorem f306_1163 : fetch 306 1163 = some (.iconst 0, 0, 0, 0) := v306_u3_6 (x := (1163, .iconst 0, 0, 0, 0)) (by decide) rfl
theorem f306_1164 : fetch 306 1164 = some (.ireturn, 0, 0, 1) := v306_u3_6 (x := (1164, .ireturn, 0, 0, 1)) (by decide) rfl
theorem f306_1165 : fetch 306 1165 = some (.aload_n 1, 0, 0, 0) := v306_u3_6 (x := (1165, .aload_n 1, 0, 0, 0)) (by decide) rfl
theorem f306_1166 : fetch 306 1166 = some (.aload_n 0, 0, 0, 0) := v306_u3_6 (x := (1166, .aload_n 0, 0, 0, 0)) (by decide) rfl
theorem f306_1167 : fetch 306 1167 = some (.iload_n 3, 0, 0, 0) := v306_u3_6 (x := (1167, .iload_n 3, 0, 0, 0)) (by decide) rfl
theorem f306_1168 : fetch 306 1168 = some (.iconst 1, 0, 0, 0) := v306_u3_7 (x := (1168, .iconst 1, 0, 0, 0)) (by decide) rfl
theorem f306_1169 : fetch 306 1169 = some (.iadd, 0, 0, 0) := v306_u3_7 (x := (1169, .iadd, 0, 0, 0)) (by decide) rfl
theorem f306_1170 : fetch 306 1170 = some (.iaload, 0, 0, 0) := v306_u3_7 (x := (1170, .iaload, 0, 0, 0)) (by decide) rfl
theorem f306_1171 : fetch 306 1171 = some (.aload_n 0, 0, 0, 0) := v306_u3_7 (x := (1171, .aload_n 0, 0, 0, 0)) (by decide) rfl
theorem f306_1172 : fetch 306 1172 = some (.iload_n 3, 0, 0, 0) := v306_u3_7 (x := (1172, .iload_n 3, 0, 0, 0)) (by decide) rfl
theorem f306_1173 : fetch 306 1173 = some (.iconst 2, 0, 0, 0) := v306_u3_7 (x := (1173, .iconst 2, 0, 0, 0)) (by decide) rfl
theorem f306_1174 : fetch 306 1174 = some (.iadd, 0, 0, 0) := v306_u3_7 (x := (1174, .iadd, 0, 0, 0)) (by decide) rfl
theorem f306_1175 : fetch 306 1175 = some (.iaload, 0, 0, 0) := v306_u3_7 (x := (1175, .iaload, 0, 0, 0)) (by decide) rfl
theorem f306_1176 : fetch 306 1176 = some (.invokevirtual 123, 139, 2, 0) := v306_u3_7 (x := (1176, .invokevirtual 123, 139, 2, 0)) (by decide) rfl
theorem f306_1179 : fetch 306 1179 = some (.aload_n 2, 0, 0, 0) := v306_u3_7 (x := (1179, .aload_n 2, 0, 0, 0)) (by decide) rfl
theorem f306_1180 : fetch 306 1180 = some (.aload_n 0, 0, 0, 0) := v306_u3_7 (x := (1180, .aload_n 0, 0, 0, 0)) (by decide) rfl
theorem f306_1181 : fetch 306 1181 = some (.iload_n 3, 0, 0, 0) := v306_u3_7 (x := (1181, .iload_n 3, 0, 0, 0)) (by decide) rfl
theorem f306_1182 : fetch 306 1182 = some (.iconst 1, 0, 0, 0) := v306_u3_7 (x := (1182, .iconst 1, 0, 0, 0)) (by decide) rfl
theorem f306_1183 : fetch 306 1183 = some (.iadd, 0, 0, 0) := v306_u3_7 (x := (1183, .iadd, 0, 0, 0)) (by decide) rfl
theorem f306_1184 : fetch 306 1184 = some (.iaload, 0, 0, 0) := v306_u3_7 (x := (1184, .iaload, 0, 0, 0)) (by decide) rfl
theorem f306_1185 : fetch 306 1185 = some (.aload_n 0, 0, 0, 0) := v306_u3_7 (x := (1185, .aload_n 0, 0, 0, 0)) (by decide) rfl
theorem f306_1186 : fetch 306 1186 = some (.iload_n 3, 0, 0, 0) := v306_u3_7 (x := (1186, .iload_n 3, 0, 0, 0)) (by decide) rfl
theorem f306_1187 : fetch 306 1187 = some (.iconst 2, 0, 0, 0) := v306_u3_7 (x := (1187, .iconst 2, 0, 0, 0)) (by decide) rfl
theorem f306_1188 : fetch 306 1188 = some (.iadd, 0, 0, 0) := v306_u3_7 (x := (1188, .iadd, 0, 0, 0)) (by decide) rfl
theorem f306_1189 : fetch 306 1189 = some (.iaload, 0, 0, 0) := v306_u3_7 (x := (1189, .iaload, 0, 0, 0)) (by decide) rfl
theorem f306_1190 : fetch 306 1190 = some (.invokevirtual 126, 238, 2, 0) := v306_u3_7 (x := (1190, .invokevirtual 126, 238, 2, 0)) (by decide) rfl
theorem f306_1193 : fetch 306 1193 = some (.if_icmp .eq 927, 2120, 0, 0) := v306_u3_7 (x := (1193, .if_icmp .eq 927, 2120, 0, 0)) (by decide) rfl
theorem f306_1196 : fetch 306 1196 = some (.iconst 0, 0, 0, 0) := v306_u3_7 (x := (1196, .iconst 0, 0, 0, 0)) (by decide) rfl
theorem f306_1197 : fetch 306 1197 = some (.ireturn, 0, 0, 1) := v306_u3_7 (x := (1197, .ireturn, 0, 0, 1)) (by decide) rfl
theorem f306_1198 : fetch 306 1198 = some (.aload_n 1, 0, 0, 0) := v306_u3_8 (x := (1198, .aload_n 1, 0, 0, 0)) (by decide) rfl
theorem f306_1199 : fetch 306 1199 = some (.aload_n 0, 0, 0, 0) := v306_u3_8 (x := (1199, .aload_n 0, 0, 0, 0)) (by decide) rfl
theorem f306_1200 : fetch 306 1200 = some (.iload_n 3, 0, 0, 0) := v306_u3_8 (x := (1200, .iload_n 3, 0, 0, 0)) (by decide) rfl
theorem f306_1201 : fetch 306 1201 = some (.iconst 1, 0, 0, 0) := v306_u3_8 (x := (1201, .iconst 1, 0, 0, 0)) (by decide) rfl
theorem f306_1202 : fetch 306 1202 = some (.iadd, 0, 0, 0) := v306_u3_8 (x := (1202, .iadd, 0, 0, 0)) (by decide) rfl
theorem f306_1203 : fetch 306 1203 = some (.iaload, 0, 0, 0) := v306_u3_8 (x := (1203, .iaload, 0, 0, 0)) (by decide) rfl
theorem f306_1204 : fetch 306 1204 = some (.aload_n 0, 0, 0, 0) := v306_u3_8 (x := (1204, .aload_n 0, 0, 0, 0)) (by decide) rfl
theorem f306_1205 : fetch 306 1205 = some (.iload_n 3, 0, 0, 0) := v306_u3_8 (x := (1205, .iload_n 3, 0, 0, 0)) (by decide) rfl
theorem f306_1206 : fetch 306 1206 = some (.iconst 2, 0, 0, 0) := v306_u4_0 (x := (1206, .iconst 2, 0, 0, 0)) (by decide) rfl
theorem f306_1207 : fetch 306 1207 = some (.iadd, 0, 0, 0) := v306_u4_0 (x := (1207, .iadd, 0, 0, 0)) (by decide) rfl
theorem f306_1208 : fetch 306 1208 = some (.iaload, 0, 0, 0) := v306_u4_0 (x := (1208, .iaload, 0, 0, 0)) (by decide) rfl
theorem f306_1209 : fetch 306 1209 = some (.aload_n 0, 0, 0, 0) := v306_u4_0 (x := (1209, .aload_n 0, 0, 0, 0)) (by decide) rfl
theorem f306_1210 : fetch 306 1210 = some (.iload_n 3, 0, 0, 0) := v306_u4_0 (x := (1210, .iload_n 3, 0, 0, 0)) (by decide) rfl
theorem f306_1211 : fetch 306 1211 = some (.iconst 3, 0, 0, 0) := v306_u4_0 (x := (1211, .iconst 3, 0, 0, 0)) (by decide) rfl
theorem f306_1212 : fetch 306 1212 = some (.iadd, 0, 0, 0) := v306_u4_0 (x := (1212, .iadd, 0, 0, 0)) (by decide) rfl
theorem f306_1213 : fetch 306 1213 = some (.iaload, 0, 0, 0) := v306_u4_0 (x := (1213, .iaload, 0, 0, 0)) (by decide) rfl
theorem f306_1214 : fetch 306 1214 = some (.aload_n 0, 0, 0, 0) := v306_u4_0 (x := (1214, .aload_n 0, 0, 0, 0)) (by decide) rfl
theorem f306_1215 : fetch 306 1215 = some (.iload_n 3, 0, 0, 0) := v306_u4_0 (x := (1215, .iload_n 3, 0, 0, 0)) (by decide) rfl
theorem f306_1216 : fetch 306 1216 = some (.iconst 4, 0, 0, 0) := v306_u4_0 (x := (1216, .iconst 4, 0, 0, 0)) (by decide) rfl
theorem f306_1217 : fetch 306 1217 = some (.iadd, 0, 0, 0) := v306_u4_0 (x := (1217, .iadd, 0, 0, 0)) (by decide) rfl
theorem f306_1218 : fetch 306 1218 = some (.iaload, 0, 0, 0) := v306_u4_0 (x := (1218, .iaload, 0, 0, 0)) (by decide) rfl
theorem f306_1219 : fetch 306 1219 = some (.invokevirtual 127, 140, 4, 0) := v306_u4_0 (x := (1219, .invokevirtual 127, 140, 4, 0)) (by decide) rfl
theorem f306_1222 : fetch 306 1222 = some (.aload_n 2, 0, 0, 0) := v306_u4_0 (x := (1222, .aload_n 2, 0, 0, 0)) (by decide) rfl
theorem f306_1223 : fetch 306 1223 = some (.aload_n 0, 0, 0, 0) := v306_u4_0 (x := (1223, .aload_n 0, 0, 0, 0)) (by decide) rfl
theorem f306_1224 : fetch 306 1224 = some (.iload_n 3, 0, 0, 0) := v306_u4_0 (x := (1224, .iload_n 3, 0, 0, 0)) (by decide) rfl
theorem f306_1225 : fetch 306 1225 = some (.iconst 1, 0, 0, 0) := v306_u4_0 (x := (1225, .iconst 1, 0, 0, 0)) (by decide) rfl
theorem f306_1226 : fetch 306 1226 = some (.iadd, 0, 0, 0) := v306_u4_0 (x := (1226, .iadd, 0, 0, 0)) (by decide) rfl
theorem f306_1227 : fetch 306 1227 = some (.iaload, 0, 0, 0) := v306_u4_0 (x := (1227, .iaload, 0, 0, 0)) (by decide) rfl
theorem f306_1228 : fetch 306 1228 = some (.aload_n 0, 0, 0, 0) := v306_u4_0 (x := (1228, .aload_n 0, 0, 0, 0)) (by decide) rfl
theorem f306_1229 : fetch 306 1229 = some (.iload_n 3, 0, 0, 0) := v306_u4_0 (x := (1229, .iload_n 3, 0, 0, 0)) (by decide) rfl
theorem f306_1230 : fetch 306 1230 = some (.iconst 2, 0, 0, 0) := v306_u4_0 (x := (1230, .iconst 2, 0, 0, 0)) (by decide) rfl
theorem f306_1231 : fetch 306 1231 = some (.iadd, 0, 0, 0) := v306_u4_0 (x := (1231, .iadd, 0, 0, 0)) (by decide) rfl
theorem f306_1232 : fetch 306 1232 = some (.iaload, 0, 0, 0) := v306_u4_1 (x := (1232, .iaload, 0, 0, 0)) (by decide) rfl
theorem f306_1233 : fetch 306 1233 = some (.aload_n 0, 0, 0, 0) := v306_u4_1 (x := (1233, .aload_n 0, 0, 0, 0)) (by decide) rfl
theorem f306_1234 : fetch 306 1234 = some (.iload_n 3, 0, 0, 0) := v306_u4_1 (x := (1234, .iload_n 3, 0, 0, 0)) (by decide) rfl
theorem f306_1235 : fetch 306 1235 = some (.iconst 3, 0, 0, 0) := v306_u4_1 (x := (1235, .iconst 3, 0, 0, 0)) (by decide) rfl
theorem f306_1236 : fetch 306 1236 = some (.iadd, 0, 0, 0) := v306_u4_1 (x := (1236, .iadd, 0, 0, 0)) (by decide) rfl
theorem f306_1237 : fetch 306 1237 = some (.iaload, 0, 0, 0) := v306_u4_1 (x := (1237, .iaload, 0, 0, 0)) (by decide) rfl
theorem f306_1238 : fetch 306 1238 = some (.aload_n 0, 0, 0, 0) := v306_u4_1 (x := (1238, .aload_n 0, 0, 0, 0)) (by decide) rfl
theorem f306_1239 : fetch 306 1239 = some (.iload_n 3, 0, 0, 0) := v306_u4_1 (x := (1239, .iload_n 3, 0, 0, 0)) (by decide) rfl
theorem f306_1240 : fetch 306 1240 = some (.iconst 4, 0, 0, 0) := v306_u4_1 (x := (1240, .iconst 4, 0, 0, 0)) (by decide) rfl
theorem f306_1241 : fetch 306 1241 = some (.iadd, 0, 0, 0) := v306_u4_1 (x := (1241, .iadd, 0, 0, 0)) (by decide) rfl
theorem f306_1242 : fetch 306 1242 = some (.iaload, 0, 0, 0) := v306_u4_1 (x := (1242, .iaload, 0, 0, 0)) (by decide) rfl
theorem f306_1243 : fetch 306 1243 = some (.invokevirtual 130, 239, 4, 0) := v306_u4_1 (x := (1243, .invokevirtual 130, 239, 4, 0)) (by decide) rfl
theorem f306_1246 : fetch 306 1246 = some (.if_icmp .eq 874, 2120, 0, 0) := v306_u4_1 (x := (1246, .if_icmp .eq 874, 2120, 0, 0)) (by decide) rfl
theorem f306_1249 : fetch 306 1249 = some (.iconst 0, 0, 0, 0) := v306_u4_1 (x := (1249, .iconst 0, 0, 0, 0)) (by decide) rfl
theorem f306_1250 : fetch 306 1250 = some (.ireturn, 0, 0, 1) := v306_u4_1 (x := (1250, .ireturn, 0, 0, 1)) (by decide) rfl
theorem f306_1251 : fetch 306 1251 = some (.aload_n 1, 0, 0, 0) := v306_u4_1 (x := (1251, .aload_n 1, 0, 0, 0)) (by decide) rfl
theorem f306_1252 : fetch 306 1252 = some (.aload_n 0, 0, 0, 0) := v306_u4_1 (x := (1252, .aload_n 0, 0, 0, 0)) (by decide) rfl
theorem f306_1253 : fetch 306 1253 = some (.iload_n 3, 0, 0, 0) := v306_u4_1 (x := (1253, .iload_n 3, 0, 0, 0)) (by decide) rfl
theorem f306_1254 : fetch 306 1254 = some (.iconst 1, 0, 0, 0) := v306_u4_1 (x := (1254, .iconst 1, 0, 0, 0)) (by decide) rfl
theorem f306_1255 : fetch 306 1255 = some (.iadd, 0, 0, 0) := v306_u4_1 (x := (1255, .iadd, 0, 0, 0)) (by decide) rfl
theorem f306_1256 : fetch 306 1256 = some (.iaload, 0, 0, 0) := v306_u4_1 (x := (1256, .iaload, 0, 0, 0)) (by decide) rfl
theorem f306_1257 : fetch 306 1257 = some (.aload_n 0, 0, 0, 0) := v306_u4_1 (x := (1257, .aload_n 0, 0, 0, 0)) (by decide) rfl
theorem f306_1258 : fetch 306 1258 = some (.iload_n 3, 0, 0, 0) := v306_u4_1 (x := (1258, .iload_n 3, 0, 0, 0)) (by decide) rfl
theorem f306_1259 : fetch 306 1259 = some (.iconst 2, 0, 0, 0) := v306_u4_1 (x := (1259, .iconst 2, 0, 0, 0)) (by decide) rfl
theorem f306_1260 : fetch 306 1260 = some (.iadd, 0, 0, 0) := v306_u4_2 (x := (1260, .iadd, 0, 0, 0)) (by decide) rfl
theorem f306_1261 : fetch 306 1261 = some (.iaload, 0, 0, 0) := v306_u4_2 (x := (1261, .iaload, 0, 0, 0)) (by decide) rfl
theorem f306_1262 : fetch 306 1262 = some (.invokevirtual 131, 141, 2, 0) := v306_u4_2 (x := (1262, .invokevirtual 131, 141, 2, 0)) (by decide) rfl
theorem f306_1265 : fetch 306 1265 = some (.aload_n 2, 0, 0, 0) := v306_u4_2 (x := (1265, .aload_n 2, 0, 0, 0)) (by decide) rfl
theorem f306_1266 : fetch 306 1266 = some (.aload_n 0, 0, 0, 0) := v306_u4_2 (x := (1266, .aload_n 0, 0, 0, 0)) (by decide) rfl
theorem f306_1267 : fetch 306 1267 = some (.iload_n 3, 0, 0, 0) := v306_u4_2 (x := (1267, .iload_n 3, 0, 0, 0)) (by decide) rfl
theorem f306_1268 : fetch 306 1268 = some (.iconst 1, 0, 0, 0) := v306_u4_2 (x := (1268, .iconst 1, 0, 0, 0)) (by decide) rfl
theorem f306_1269 : fetch 306 1269 = some (.iadd, 0, 0, 0) := v306_u4_2 (x := (1269, .iadd, 0, 0, 0)) (by decide) rfl
theorem f306_1270 : fetch 306 1270 = some (.iaload, 0, 0, 0) := v306_u4_2 (x := (1270, .iaload, 0, 0, 0)) (by decide) rfl
theorem f306_1271 : fetch 306 1271 = some (.aload_n 0, 0, 0, 0) := v306_u4_2 (x := (1271, .aload_n 0, 0, 0, 0)) (by decide) rfl
theorem f306_1272 : fetch 306 1272 = some (.iload_n 3, 0, 0, 0) := v306_u4_2 (x := (1272, .iload_n 3, 0, 0, 0)) (by decide) rfl
theorem f306_1273 : fetch 306 1273 = some (.iconst 2, 0, 0, 0) := v306_u4_2 (x := (1273, .iconst 2, 0, 0, 0)) (by decide) rfl
theorem f306_1274 : fetch 306 1274 = some (.iadd, 0, 0, 0) := v306_u4_2 (x := (1274, .iadd, 0, 0, 0)) (by decide) rfl
theorem f306_1275 : fetch 306 1275 = some (.iaload, 0, 0, 0) := v306_u4_2 (x := (1275, .iaload, 0, 0, 0)) (by decide) rfl
theorem f306_1276 : fetch 306 1276 = some (.invokevirtual 134, 240, 2, 0) := v306_u4_2 (x := (1276, .invokevirtual 134, 240, 2, 0)) (by decide) rfl
theorem f306_1279 : fetch 306 1279 = some (.if_icmp .eq 841, 2120, 0, 0) := v306_u4_2 (x := (1279, .if_icmp .eq 841, 2120, 0, 0)) (by decide) rfl
theorem f306_1282 : fetch 306 1282 = some (.iconst 0, 0, 0, 0) := v306_u4_2 (x := (1282, .iconst 0, 0, 0, 0)) (by decide) rfl
theorem f306_1283 : fetch 306 1283 = some (.ireturn, 0, 0, 1) := v306_u4_2 (x := (1283, .ireturn, 0, 0, 1)) (by decide) rfl
theorem f306_1284 : fetch 306 1284 = some (.aload_n 1, 0, 0, 0) := v306_u4_2 (x := (1284, .aload_n 1, 0, 0, 0)) (by decide) rfl
theorem f306_1285 : fetch 306 1285 = some (.aload_n 0, 0, 0, 0) := v306_u4_2 (x := (1285, .aload_n 0, 0, 0, 0)) (by decide) rfl
theorem f306_1286 : fetch 306 1286 = some (.iload_n 3, 0, 0, 0) := v306_u4_2 (x := (1286, .iload_n 3, 0, 0, 0)) (by decide) rfl
theorem f306_1287 : fetch 306 1287 = some (.iconst 1, 0, 0, 0) := v306_u4_2 (x := (1287, .iconst 1, 0, 0, 0)) (by decide) rfl
theorem f306_1288 : fetch 306 1288 = some (.iadd, 0, 0, 0) := v306_u4_2 (x := (1288, .iadd, 0, 0, 0)) (by decide) rfl
theorem f306_1289 : fetch 306 1289 = some (.iaload, 0, 0, 0) := v306_u4_2 (x := (1289, .iaload, 0, 0, 0)) (by decide) rfl
theorem f306_1290 : fetch 306 1290 = some (.aload_n 0, 0, 0, 0) := v306_u4_3 (x := (1290, .aload_n 0, 0, 0, 0)) (by decide) rfl
theorem f306_1291 : fetch 306 1291 = some (.iload_n 3, 0, 0, 0) := v306_u4_3 (x := (1291, .iload_n 3, 0, 0, 0)) (by decide) rfl
theorem f306_1292 : fetch 306 1292 = some (.iconst 2, 0, 0, 0) := v306_u4_3 (x := (1292, .iconst 2, 0, 0, 0)) (by decide) rfl
theorem f306_1293 : fetch 306 1293 = some (.iadd, 0, 0, 0) := v306_u4_3 (x := (1293, .iadd, 0, 0, 0)) (by decide) rfl
theorem f306_1294 : fetch 306 1294 = some (.iaload, 0, 0, 0) := v306_u4_3 (x := (1294, .iaload, 0, 0, 0)) (by decide) rfl
theorem f306_1295 : fetch 306 1295 = some (.aload_n 0, 0, 0, 0) := v306_u4_3 (x := (1295, .aload_n 0, 0, 0, 0)) (by decide) rfl
theorem f306_1296 : fetch 306 1296 = some (.iload_n 3, 0, 0, 0) := v306_u4_3 (x := (1296, .iload_n 3, 0, 0, 0)) (by decide) rfl
theorem f306_1297 : fetch 306 1297 = some (.iconst 3, 0, 0, 0) := v306_u4_3 (x := (1297, .iconst 3, 0, 0, 0)) (by decide) rfl
theorem f306_1298 : fetch 306 1298 = some (.iadd, 0, 0, 0) := v306_u4_3 (x := (1298, .iadd, 0, 0, 0)) (by decide) rfl
theorem f306_1299 : fetch 306 1299 = some (.iaload, 0, 0, 0) := v306_u4_3 (x := (1299, .iaload, 0, 0, 0)) (by decide) rfl
theorem f306_1300 : fetch 306 1300 = some (.aload_n 0, 0, 0, 0) := v306_u4_3 (x := (1300, .aload_n 0, 0, 0, 0)) (by decide) rfl
theorem f306_1301 : fetch 306 1301 = some (.iload_n 3, 0, 0, 0) := v306_u4_3 (x := (1301, .iload_n 3, 0, 0, 0)) (by decide) rfl
theorem f306_1302 : fetch 306 1302 = some (.iconst 4, 0, 0, 0) := v306_u4_3 (x := (1302, .iconst 4, 0, 0, 0)) (by decide) rfl
theorem f306_1303 : fetch 306 1303 = some (.iadd, 0, 0, 0) := v306_u4_3 (x := (1303, .iadd, 0, 0, 0)) (by decide) rfl
theorem f306_1304 : fetch 306 1304 = some (.iaload, 0, 0, 0) := v306_u4_3 (x := (1304, .iaload, 0, 0, 0)) (by decide) rfl
theorem f306_1305 : fetch 306 1305 = some (.aload_n 0, 0, 0, 0) := v306_u4_3 (x := (1305, .aload_n 0, 0, 0, 0)) (by decide) rfl
theorem f306_1306 : fetch 306 1306 = some (.iload_n 3, 0, 0, 0) := v306_u4_3 (x := (1306, .iload_n 3, 0, 0, 0)) (by decide) rfl
theorem f306_1307 : fetch 306 1307 = some (.iconst 5, 0, 0, 0) := v306_u4_3 (x := (1307, .iconst 5, 0, 0, 0)) (by decide) rfl
theorem f306_1308 : fetch 306 1308 = some (.iadd, 0, 0, 0) := v306_u4_3 (x := (1308, .iadd, 0, 0, 0)) (by decide) rfl
theorem f306_1309 : fetch 306 1309 = some (.iaload, 0, 0, 0) := v306_u4_3 (x := (1309, .iaload, 0, 0, 0)) (by decide) rfl
theorem f306_1310 : fetch 306 1310 = some (.invokevirtual 135, 142, 5, 0) := v306_u4_3 (x := (1310, .invokevirtual 135, 142, 5, 0)) (by decide) rfl
theorem f306_1313 : fetch 306 1313 = some (.aload_n 2, 0, 0, 0) := v306_u4_3 (x := (1313, .aload_n 2, 0, 0, 0)) (by decide) rfl
theorem f306_1314 : fetch 306 1314 = some (.aload_n 0, 0, 0, 0) := v306_u4_3 (x := (1314, .aload_n 0, 0, 0, 0)) (by decide) rfl
theorem f306_1315 : fetch 306 1315 = some (.iload_n 3, 0, 0, 0) := v306_u4_3 (x := (1315, .iload_n 3, 0, 0, 0)) (by decide) rfl
theorem f306_1316 : fetch 306 1316 = some (.iconst 1, 0, 0, 0) := v306_u4_4 (x := (1316, .iconst 1, 0, 0, 0)) (by decide) rfl
theorem f306_1317 : fetch 306 1317 = some (.iadd, 0, 0, 0) := v306_u4_4 (x := (1317, .iadd, 0, 0, 0)) (by decide) rfl
theorem f306_1318 : fetch 306 1318 = some (.iaload, 0, 0, 0) := v306_u4_4 (x := (1318, .iaload, 0, 0, 0)) (by decide) rfl
theorem f306_1319 : fetch 306 1319 = some (.aload_n 0, 0, 0, 0) := v306_u4_4 (x := (1319, .aload_n 0, 0, 0, 0)) (by decide) rfl
theorem f306_1320 : fetch 306 1320 = some (.iload_n 3, 0, 0, 0) := v306_u4_4 (x := (1320, .iload_n 3, 0, 0, 0)) (by decide) rfl
theorem f306_1321 : fetch 306 1321 = some (.iconst 2, 0, 0, 0) := v306_u4_4 (x := (1321, .iconst 2, 0, 0, 0)) (by decide) rfl
theorem f306_1322 : fetch 306 1322 = some (.iadd, 0, 0, 0) := v306_u4_4 (x := (1322, .iadd, 0, 0, 0)) (by decide) rfl
theorem f306_1323 : fetch 306 1323 = some (.iaload, 0, 0, 0) := v306_u4_4 (x := (1323, .iaload, 0, 0, 0)) (by decide) rfl
theorem f306_1324 : fetch 306 1324 = some (.aload_n 0, 0, 0, 0) := v306_u4_4 (x := (1324, .aload_n 0, 0, 0, 0)) (by decide) rfl
theorem f306_1325 : fetch 306 1325 = some (.iload_n 3, 0, 0, 0) := v306_u4_4 (x := (1325, .iload_n 3, 0, 0, 0)) (by decide) rfl
theorem f306_1326 : fetch 306 1326 = some (.iconst 3, 0, 0, 0) := v306_u4_4 (x := (1326, .iconst 3, 0, 0, 0)) (by decide) rfl
theorem f306_1327 : fetch 306 1327 = some (.iadd, 0, 0, 0) := v306_u4_4 (x := (1327, .iadd, 0, 0, 0)) (by decide) rfl
theorem f306_1328 : fetch 306 1328 = some (.iaload, 0, 0, 0) := v306_u4_4 (x := (1328, .iaload, 0, 0, 0)) (by decide) rfl
theorem f306_1329 : fetch 306 1329 = some (.aload_n 0, 0, 0, 0) := v306_u4_4 (x := (1329, .aload_n 0, 0, 0, 0)) (by decide) rfl
theorem f306_1330 : fetch 306 1330 = some (.iload_n 3, 0, 0, 0) := v306_u4_4 (x := (1330, .iload_n 3, 0, 0, 0)) (by decide) rfl
theorem f306_1331 : fetch 306 1331 = some (.iconst 4, 0, 0, 0) := v306_u4_4 (x := (1331, .iconst 4, 0, 0, 0)) (by decide) rfl
theorem f306_1332 : fetch 306 1332 = some (.iadd, 0, 0, 0) := v306_u4_4 (x := (1332, .iadd, 0, 0, 0)) (by decide) rfl
theorem f306_1333 : fetch 306 1333 = some (.iaload, 0, 0, 0) := v306_u4_4 (x := (1333, .iaload, 0, 0, 0)) (by decide) rfl
theorem f306_1334 : fetch 306 1334 = some (.aload_n 0, 0, 0, 0) := v306_u4_4 (x := (1334, .aload_n 0, 0, 0, 0)) (by decide) rfl
theorem f306_1335 : fetch 306 1335 = some (.iload_n 3, 0, 0, 0) := v306_u4_4 (x := (1335, .iload_n 3, 0, 0, 0)) (by decide) rfl
theorem f306_1336 : fetch 306 1336 = some (.iconst 5, 0, 0, 0) := v306_u4_4 (x := (1336, .iconst 5, 0, 0, 0)) (by decide) rfl
theorem f306_1337 : fetch 306 1337 = some (.iadd, 0, 0, 0) := v306_u4_4 (x := (1337, .iadd, 0, 0, 0)) (by decide) rfl
theorem f306_1338 : fetch 306 1338 = some (.iaload, 0, 0, 0) := v306_u4_4 (x := (1338, .iaload, 0, 0, 0)) (by decide) rfl
theorem f306_1339 : fetch 306 1339 = some (.invokevirtual 139, 241, 5, 0) := v306_u4_4 (x := (1339, .invokevirtual 139, 241, 5, 0)) (by decide) rfl
theorem f306_1342 : fetch 306 1342 = some (.if_icmp .eq 778, 2120, 0, 0) := v306_u4_5 (x := (1342, .if_icmp .eq 778, 2120, 0, 0)) (by decide) rfl
theorem f306_1345 : fetch 306 1345 = some (.iconst 0, 0, 0, 0) := v306_u4_5 (x := (1345, .iconst 0, 0, 0, 0)) (by decide) rfl
theorem f306_1346 : fetch 306 1346 = some (.ireturn, 0, 0, 1) := v306_u4_5 (x := (1346, .ireturn, 0, 0, 1)) (by decide) rfl
theorem f306_1347 : fetch 306 1347 = some (.aload_n 1, 0, 0, 0) := v306_u4_5 (x := (1347, .aload_n 1, 0, 0, 0)) (by decide) rfl
theorem f306_1348 : fetch 306 1348 = some (.aload_n 0, 0, 0, 0) := v306_u4_5 (x := (1348, .aload_n 0, 0, 0, 0)) (by decide) rfl
theorem f306_1349 : fetch 306 1349 = some (.iload_n 3, 0, 0, 0) := v306_u4_5 (x := (1349, .iload_n 3, 0, 0, 0)) (by decide) rfl
theorem f306_1350 : fetch 306 1350 = some (.iconst 1, 0, 0, 0) := v306_u4_5 (x := (1350, .iconst 1, 0, 0, 0)) (by decide) rfl
theorem f306_1351 : fetch 306 1351 = some (.iadd, 0, 0, 0) := v306_u4_5 (x := (1351, .iadd, 0, 0, 0)) (by decide) rfl
theorem f306_1352 : fetch 306 1352 = some (.iaload, 0, 0, 0) := v306_u4_5 (x := (1352, .iaload, 0, 0, 0)) (by decide) rfl
theorem f306_1353 : fetch 306 1353 = some (.invokevirtual 140, 143, 1, 0) := v306_u4_5 (x := (1353, .invokevirtual 140, 143, 1, 0)) (by decide) rfl
theorem f306_1356 : fetch 306 1356 = some (.aload_n 2, 0, 0, 0) := v306_u4_5 (x := (1356, .aload_n 2, 0, 0, 0)) (by decide) rfl
theorem f306_1357 : fetch 306 1357 = some (.aload_n 0, 0, 0, 0) := v306_u4_5 (x := (1357, .aload_n 0, 0, 0, 0)) (by decide) rfl
theorem f306_1358 : fetch 306 1358 = some (.iload_n 3, 0, 0, 0) := v306_u4_5 (x := (1358, .iload_n 3, 0, 0, 0)) (by decide) rfl
theorem f306_1359 : fetch 306 1359 = some (.iconst 1, 0, 0, 0) := v306_u4_5 (x := (1359, .iconst 1, 0, 0, 0)) (by decide) rfl
theorem f306_1360 : fetch 306 1360 = some (.iadd, 0, 0, 0) := v306_u4_5 (x := (1360, .iadd, 0, 0, 0)) (by decide) rfl
theorem f306_1361 : fetch 306 1361 = some (.iaload, 0, 0, 0) := v306_u4_5 (x := (1361, .iaload, 0, 0, 0)) (by decide) rfl
theorem f306_1362 : fetch 306 1362 = some (.invokevirtual 143, 243, 1, 0) := v306_u4_5 (x := (1362, .invokevirtual 143, 243, 1, 0)) (by decide) rfl
theorem f306_1365 : fetch 306 1365 = some (.if_icmp .eq 755, 2120, 0, 0) := v306_u4_5 (x := (1365, .if_icmp .eq 755, 2120, 0, 0)) (by decide) rfl
theorem f306_1368 : fetch 306 1368 = some (.iconst 0, 0, 0, 0) := v306_u4_5 (x := (1368, .iconst 0, 0, 0, 0)) (by decide) rfl
theorem f306_1369 : fetch 306 1369 = some (.ireturn, 0, 0, 1) := v306_u4_5 (x := (1369, .ireturn, 0, 0, 1)) (by decide) rfl
theorem f306_1370 : fetch 306 1370 = some (.aload_n 1, 0, 0, 0) := v306_u4_5 (x := (1370, .aload_n 1, 0, 0, 0)) (by decide) rfl
theorem f306_1371 : fetch 306 1371 = some (.aload_n 0, 0, 0, 0) := v306_u4_5 (x := (1371, .aload_n 0, 0, 0, 0)) (by decide) rfl
theorem f306_1372 : fetch 306 1372 = some (.iload_n 3, 0, 0, 0) := v306_u4_5 (x := (1372, .iload_n 3, 0, 0, 0)) (by decide) rfl
theorem f306_1373 : fetch 306 1373 = some (.iconst 1, 0, 0, 0) := v306_u4_5 (x := (1373, .iconst 1, 0, 0, 0)) (by decide) rfl
theorem f306_1374 : fetch 306 1374 = some (.iadd, 0, 0, 0) := v306_u4_6 (x := (1374, .iadd, 0, 0, 0)) (by decide) rfl
theorem f306_1375 : fetch 306 1375 = some (.iaload, 0, 0, 0) := v306_u4_6 (x := (1375, .iaload, 0, 0, 0)) (by decide) rfl
theorem f306_1376 : fetch 306 1376 = some (.invokevirtual 144, 144, 1, 0) := v306_u4_6 (x := (1376, .invokevirtual 144, 144, 1, 0)) (by decide) rfl
theorem f306_1379 : fetch 306 1379 = some (.aload_n 2, 0, 0, 0) := v306_u4_6 (x := (1379, .aload_n 2, 0, 0, 0)) (by decide) rfl
theorem f306_1380 : fetch 306 1380 = some (.aload_n 0, 0, 0, 0) := v306_u4_6 (x := (1380, .aload_n 0, 0, 0, 0)) (by decide) rfl
theorem f306_1381 : fetch 306 1381 = some (.iload_n 3, 0, 0, 0) := v306_u4_6 (x := (1381, .iload_n 3, 0, 0, 0)) (by decide) rfl
theorem f306_1382 : fetch 306 1382 = some (.iconst 1, 0, 0, 0) := v306_u4_6 (x := (1382, .iconst 1, 0, 0, 0)) (by decide) rfl
theorem f306_1383 : fetch 306 1383 = some (.iadd, 0, 0, 0) := v306_u4_6 (x := (1383, .iadd, 0, 0, 0)) (by decide) rfl
theorem f306_1384 : fetch 306 1384 = some (.iaload, 0, 0, 0) := v306_u4_6 (x := (1384, .iaload, 0, 0, 0)) (by decide) rfl
theorem f306_1385 : fetch 306 1385 = some (.invokevirtual 147, 267, 1, 0) := v306_u4_6 (x := (1385, .invokevirtual 147, 267, 1, 0)) (by decide) rfl
theorem f306_1388 : fetch 306 1388 = some (.if_icmp .eq 732, 2120, 0, 0) := v306_u4_6 (x := (1388, .if_icmp .eq 732, 2120, 0, 0)) (by decide) rfl
theorem f306_1391 : fetch 306 1391 = some (.iconst 0, 0, 0, 0) := v306_u4_6 (x := (1391, .iconst 0, 0, 0, 0)) (by decide) rfl
theorem f306_1392 : fetch 306 1392 = some (.ireturn, 0, 0, 1) := v306_u4_6 (x := (1392, .ireturn, 0, 0, 1)) (by decide) rfl
theorem f306_1393 : fetch 306 1393 = some (.aload_n 1, 0, 0, 0) := v306_u4_6 (x := (1393, .aload_n 1, 0, 0, 0)) (by decide) rfl
theorem f306_1394 : fetch 306 1394 = some (.aload_n 0, 0, 0, 0) := v306_u4_6 (x := (1394, .aload_n 0, 0, 0, 0)) (by decide) rfl
theorem f306_1395 : fetch 306 1395 = some (.iload_n 3, 0, 0, 0) := v306_u4_6 (x := (1395, .iload_n 3, 0, 0, 0)) (by decide) rfl
theorem f306_1396 : fetch 306 1396 = some (.iconst 1, 0, 0, 0) := v306_u4_6 (x := (1396, .iconst 1, 0, 0, 0)) (by decide) rfl
theorem f306_1397 : fetch 306 1397 = some (.iadd, 0, 0, 0) := v306_u4_6 (x := (1397, .iadd, 0, 0, 0)) (by decide) rfl
theorem f306_1398 : fetch 306 1398 = some (.iaload, 0, 0, 0) := v306_u4_6 (x := (1398, .iaload, 0, 0, 0)) (by decide) rfl
theorem f306_1399 : fetch 306 1399 = some (.invokevirtual 148, 145, 1, 0) := v306_u4_6 (x := (1399, .invokevirtual 148, 145, 1, 0)) (by decide) rfl
theorem f306_1402 : fetch 306 1402 = some (.aload_n 2, 0, 0, 0) := v306_u4_6 (x := (1402, .aload_n 2, 0, 0, 0)) (by decide) rfl
theorem f306_1403 : fetch 306 1403 = some (.aload_n 0, 0, 0, 0) := v306_u4_6 (x := (1403, .aload_n 0, 0, 0, 0)) (by decide) rfl
theorem f306_1404 : fetch 306 1404 = some (.iload_n 3, 0, 0, 0) := v306_u4_6 (x := (1404, .iload_n 3, 0, 0, 0)) (by decide) rfl
theorem f306_1405 : fetch 306 1405 = some (.iconst 1, 0, 0, 0) := v306_u4_6 (x := (1405, .iconst 1, 0, 0, 0)) (by decide) rfl
theorem f306_1406 : fetch 306 1406 = some (.iadd, 0, 0, 0) := v306_u4_7 (x := (1406, .iadd, 0, 0, 0)) (by decide) rfl
theorem f306_1407 : fetch 306 1407 = some (.iaload, 0, 0, 0) := v306_u4_7 (x := (1407, .iaload, 0, 0, 0)) (by decide) rfl
theorem f306_1408 : fetch 306 1408 = some (.invokevirtual 151, 269, 1, 0) := v306_u4_7 (x := (1408, .invokevirtual 151, 269, 1, 0)) (by decide) rfl
theorem f306_1411 : fetch 306 1411 = some (.if_icmp .eq 709, 2120, 0, 0) := v306_u4_7 (x := (1411, .if_icmp .eq 709, 2120, 0, 0)) (by decide) rfl
theorem f306_1414 : fetch 306 1414 = some (.iconst 0, 0, 0, 0) := v306_u4_7 (x := (1414, .iconst 0, 0, 0, 0)) (by decide) rfl
theorem f306_1415 : fetch 306 1415 = some (.ireturn, 0, 0, 1) := v306_u4_7 (x := (1415, .ireturn, 0, 0, 1)) (by decide) rfl
theorem f306_1416 : fetch 306 1416 = some (.aload_n 1, 0, 0, 0) := v306_u4_7 (x := (1416, .aload_n 1, 0, 0, 0)) (by decide) rfl
theorem f306_1417 : fetch 306 1417 = some (.aload_n 0, 0, 0, 0) := v306_u4_7 (x := (1417, .aload_n 0, 0, 0, 0)) (by decide) rfl
theorem f306_1418 : fetch 306 1418 = some (.iload_n 3, 0, 0, 0) := v306_u4_7 (x := (1418, .iload_n 3, 0, 0, 0)) (by decide) rfl
theorem f306_1419 : fetch 306 1419 = some (.iconst 1, 0, 0, 0) := v306_u4_7 (x := (1419, .iconst 1, 0, 0, 0)) (by decide) rfl
theorem f306_1420 : fetch 306 1420 = some (.iadd, 0, 0, 0) := v306_u4_7 (x := (1420, .iadd, 0, 0, 0)) (by decide) rfl
theorem f306_1421 : fetch 306 1421 = some (.iaload, 0, 0, 0) := v306_u4_7 (x := (1421, .iaload, 0, 0, 0)) (by decide) rfl
theorem f306_1422 : fetch 306 1422 = some (.aload_n 0, 0, 0, 0) := v306_u4_7 (x := (1422, .aload_n 0, 0, 0, 0)) (by decide) rfl
theorem f306_1423 : fetch 306 1423 = some (.iload_n 3, 0, 0, 0) := v306_u4_7 (x := (1423, .iload_n 3, 0, 0, 0)) (by decide) rfl
theorem f306_1424 : fetch 306 1424 = some (.iconst 2, 0, 0, 0) := v306_u4_7 (x := (1424, .iconst 2, 0, 0, 0)) (by decide) rfl
theorem f306_1425 : fetch 306 1425 = some (.iadd, 0, 0, 0) := v306_u4_7 (x := (1425, .iadd, 0, 0, 0)) (by decide) rfl
theorem f306_1426 : fetch 306 1426 = some (.iaload, 0, 0, 0) := v306_u4_7 (x := (1426, .iaload, 0, 0, 0)) (by decide) rfl
theorem f306_1427 : fetch 306 1427 = some (.i2l, 0, 0, 0) := v306_u4_7 (x := (1427, .i2l, 0, 0, 0)) (by decide) rfl
theorem f306_1428 : fetch 306 1428 = some (.bipush 32, 0, 0, 0) := v306_u4_7 (x := (1428, .bipush 32, 0, 0, 0)) (by decide) rfl
theorem f306_1430 : fetch 306 1430 = some (.lshl, 0, 0, 0) := v306_u4_7 (x := (1430, .lshl, 0, 0, 0)) (by decide) rfl
theorem f306_1431 : fetch 306 1431 = some (.aload_n 0, 0, 0, 0) := v306_u4_7 (x := (1431, .aload_n 0, 0, 0, 0)) (by decide) rfl
theorem f306_1432 : fetch 306 1432 = some (.iload_n 3, 0, 0, 0) := v306_u4_7 (x := (1432, .iload_n 3, 0, 0, 0)) (by decide) rfl
theorem f306_1433 : fetch 306 1433 = some (.iconst 3, 0, 0, 0) := v306_u4_7 (x := (1433, .iconst 3, 0, 0, 0)) (by decide) rfl
theorem f306_1434 : fetch 306 1434 = some (.iadd, 0, 0, 0) := v306_u4_7 (x := (1434, .iadd, 0, 0, 0)) (by decide) rfl
theorem f306_1435 : fetch 306 1435 = some (.iaload, 0, 0, 0) := v306_u4_8 (x := (1435, .iaload, 0, 0, 0)) (by decide) rfl
theorem f306_1436 : fetch 306 1436 = some (.i2l, 0, 0, 0) := v306_u4_8 (x := (1436, .i2l, 0, 0, 0)) (by decide) rfl
theorem f306_1437 : fetch 306 1437 = some (.ldc2_w 23, 0, 0, 4294967295) := v306_u4_8 (x := (1437, .ldc2_w 23, 0, 0, 4294967295)) (by decide) rfl
theorem f306_1440 : fetch 306 1440 = some (.land, 0, 0, 0) := v306_u4_8 (x := (1440, .land, 0, 0, 0)) (by decide) rfl
theorem f306_1441 : fetch 306 1441 = some (.lor, 0, 0, 0) := v306_u4_8 (x := (1441, .lor, 0, 0, 0)) (by decide) rfl
theorem f306_1442 : fetch 306 1442 = some (.aload_n 0, 0, 0, 0) := v306_u4_8 (x := (1442, .aload_n 0, 0, 0, 0)) (by decide) rfl
theorem f306_1443 : fetch 306 1443 = some (.iload_n 3, 0, 0, 0) := v306_u4_8 (x := (1443, .iload_n 3, 0, 0, 0)) (by decide) rfl
theorem f306_1444 : fetch 306 1444 = some (.iconst 4, 0, 0, 0) := v306_u4_8 (x := (1444, .iconst 4, 0, 0, 0)) (by decide) rfl
theorem f306_1445 : fetch 306 1445 = some (.iadd, 0, 0, 0) := v306_u5_0 (x := (1445, .iadd, 0, 0, 0)) (by decide) rfl
theorem f306_1446 : fetch 306 1446 = some (.iaload, 0, 0, 0) := v306_u5_0 (x := (1446, .iaload, 0, 0, 0)) (by decide) rfl
theorem f306_1447 : fetch 306 1447 = some (.aload_n 0, 0, 0, 0) := v306_u5_0 (x := (1447, .aload_n 0, 0, 0, 0)) (by decide) rfl
theorem f306_1448 : fetch 306 1448 = some (.iload_n 3, 0, 0, 0) := v306_u5_0 (x := (1448, .iload_n 3, 0, 0, 0)) (by decide) rfl
theorem f306_1449 : fetch 306 1449 = some (.iconst 5, 0, 0, 0) := v306_u5_0 (x := (1449, .iconst 5, 0, 0, 0)) (by decide) rfl
theorem f306_1450 : fetch 306 1450 = some (.iadd, 0, 0, 0) := v306_u5_0 (x := (1450, .iadd, 0, 0, 0)) (by decide) rfl
theorem f306_1451 : fetch 306 1451 = some (.iaload, 0, 0, 0) := v306_u5_0 (x := (1451, .iaload, 0, 0, 0)) (by decide) rfl
theorem f306_1452 : fetch 306 1452 = some (.invokevirtual 152, 146, 4, 0) := v306_u5_0 (x := (1452, .invokevirtual 152, 146, 4, 0)) (by decide) rfl
theorem f306_1455 : fetch 306 1455 = some (.aload_n 2, 0, 0, 0) := v306_u5_0 (x := (1455, .aload_n 2, 0, 0, 0)) (by decide) rfl
theorem f306_1456 : fetch 306 1456 = some (.aload_n 0, 0, 0, 0) := v306_u5_0 (x := (1456, .aload_n 0, 0, 0, 0)) (by decide) rfl
theorem f306_1457 : fetch 306 1457 = some (.iload_n 3, 0, 0, 0) := v306_u5_0 (x := (1457, .iload_n 3, 0, 0, 0)) (by decide) rfl
theorem f306_1458 : fetch 306 1458 = some (.iconst 1, 0, 0, 0) := v306_u5_0 (x := (1458, .iconst 1, 0, 0, 0)) (by decide) rfl
theorem f306_1459 : fetch 306 1459 = some (.iadd, 0, 0, 0) := v306_u5_0 (x := (1459, .iadd, 0, 0, 0)) (by decide) rfl
theorem f306_1460 : fetch 306 1460 = some (.iaload, 0, 0, 0) := v306_u5_0 (x := (1460, .iaload, 0, 0, 0)) (by decide) rfl
theorem f306_1461 : fetch 306 1461 = some (.aload_n 0, 0, 0, 0) := v306_u5_0 (x := (1461, .aload_n 0, 0, 0, 0)) (by decide) rfl
theorem f306_1462 : fetch 306 1462 = some (.iload_n 3, 0, 0, 0) := v306_u5_0 (x := (1462, .iload_n 3, 0, 0, 0)) (by decide) rfl
theorem f306_1463 : fetch 306 1463 = some (.iconst 2, 0, 0, 0) := v306_u5_0 (x := (1463, .iconst 2, 0, 0, 0)) (by decide) rfl
theorem f306_1464 : fetch 306 1464 = some (.iadd, 0, 0, 0) := v306_u5_0 (x := (1464, .iadd, 0, 0, 0)) (by decide) rfl
theorem f306_1465 : fetch 306 1465 = some (.iaload, 0, 0, 0) := v306_u5_0 (x := (1465, .iaload, 0, 0, 0)) (by decide) rfl
theorem f306_1466 : fetch 306 1466 = some (.i2l, 0, 0, 0) := v306_u5_0 (x := (1466, .i2l, 0, 0, 0)) (by decide) rfl
theorem f306_1467 : fetch 306 1467 = some (.bipush 32, 0, 0, 0) := v306_u5_0 (x := (1467, .bipush 32, 0, 0, 0)) (by decide) rfl
theorem f306_1469 : fetch 306 1469 = some (.lshl, 0, 0, 0) := v306_u5_0 (x := (1469, .lshl, 0, 0, 0)) (by decide) rfl
theorem f306_1470 : fetch 306 1470 = some (.aload_n 0, 0, 0, 0) := v306_u5_0 (x := (1470, .aload_n 0, 0, 0, 0)) (by decide) rfl
theorem f306_1471 : fetch 306 1471 = some (.iload_n 3, 0, 0, 0) := v306_u5_0 (x := (1471, .iload_n 3, 0, 0, 0)) (by decide) rfl
theorem f306_1472 : fetch 306 1472 = some (.iconst 3, 0, 0, 0) := v306_u5_1 (x := (1472, .iconst 3, 0, 0, 0)) (by decide) rfl
theorem f306_1473 : fetch 306 1473 = some (.iadd, 0, 0, 0) := v306_u5_1 (x := (1473, .iadd, 0, 0, 0)) (by decide) rfl
theorem f306_1474 : fetch 306 1474 = some (.iaload, 0, 0, 0) := v306_u5_1 (x := (1474, .iaload, 0, 0, 0)) (by decide) rfl
theorem f306_1475 : fetch 306 1475 = some (.i2l, 0, 0, 0) := v306_u5_1 (x := (1475, .i2l, 0, 0, 0)) (by decide) rfl
theorem f306_1476 : fetch 306 1476 = some (.ldc2_w 23, 0, 0, 4294967295) := v306_u5_1 (x := (1476, .ldc2_w 23, 0, 0, 4294967295)) (by decide) rfl
theorem f306_1479 : fetch 306 1479 = some (.land, 0, 0, 0) := v306_u5_1 (x := (1479, .land, 0, 0, 0)) (by decide) rfl
theorem f306_1480 : fetch 306 1480 = some (.lor, 0, 0, 0) := v306_u5_1 (x := (1480, .lor, 0, 0, 0)) (by decide) rfl
theorem f306_1481 : fetch 306 1481 = some (.aload_n 0, 0, 0, 0) := v306_u5_1 (x := (1481, .aload_n 0, 0, 0, 0)) (by decide) rfl
theorem f306_1482 : fetch 306 1482 = some (.iload_n 3, 0, 0, 0) := v306_u5_1 (x := (1482, .iload_n 3, 0, 0, 0)) (by decide) rfl
theorem f306_1483 : fetch 306 1483 = some (.iconst 4, 0, 0, 0) := v306_u5_1 (x := (1483, .iconst 4, 0, 0, 0)) (by decide) rfl
theorem f306_1484 : fetch 306 1484 = some (.iadd, 0, 0, 0) := v306_u5_1 (x := (1484, .iadd, 0, 0, 0)) (by decide) rfl
theorem f306_1485 : fetch 306 1485 = some (.iaload, 0, 0, 0) := v306_u5_1 (x := (1485, .iaload, 0, 0, 0)) (by decide) rfl
theorem f306_1486 : fetch 306 1486 = some (.aload_n 0, 0, 0, 0) := v306_u5_1 (x := (1486, .aload_n 0, 0, 0, 0)) (by decide) rfl
theorem f306_1487 : fetch 306 1487 = some (.iload_n 3, 0, 0, 0) := v306_u5_1 (x := (1487, .iload_n 3, 0, 0, 0)) (by decide) rfl
theorem f306_1488 : fetch 306 1488 = some (.iconst 5, 0, 0, 0) := v306_u5_1 (x := (1488, .iconst 5, 0, 0, 0)) (by decide) rfl
theorem f306_1489 : fetch 306 1489 = some (.iadd, 0, 0, 0) := v306_u5_1 (x := (1489, .iadd, 0, 0, 0)) (by decide) rfl
theorem f306_1490 : fetch 306 1490 = some (.iaload, 0, 0, 0) := v306_u5_1 (x := (1490, .iaload, 0, 0, 0)) (by decide) rfl
theorem f306_1491 : fetch 306 1491 = some (.invokevirtual 156, 275, 4, 0) := v306_u5_1 (x := (1491, .invokevirtual 156, 275, 4, 0)) (by decide) rfl
theorem f306_1494 : fetch 306 1494 = some (.if_icmp .eq 626, 2120, 0, 0) := v306_u5_1 (x := (1494, .if_icmp .eq 626, 2120, 0, 0)) (by decide) rfl
theorem f306_1497 : fetch 306 1497 = some (.iconst 0, 0, 0, 0) := v306_u5_1 (x := (1497, .iconst 0, 0, 0, 0)) (by decide) rfl
theorem f306_1498 : fetch 306 1498 = some (.ireturn, 0, 0, 1) := v306_u5_1 (x := (1498, .ireturn, 0, 0, 1)) (by decide) rfl
theorem f306_1499 : fetch 306 1499 = some (.aload_n 1, 0, 0, 0) := v306_u5_1 (x := (1499, .aload_n 1, 0, 0, 0)) (by decide) rfl
theorem f306_1500 : fetch 306 1500 = some (.aload_n 0, 0, 0, 0) := v306_u5_1 (x := (1500, .aload_n 0, 0, 0, 0)) (by decide) rfl
theorem f306_1501 : fetch 306 1501 = some (.iload_n 3, 0, 0, 0) := v306_u5_1 (x := (1501, .iload_n 3, 0, 0, 0)) (by decide) rfl
theorem f306_1502 : fetch 306 1502 = some (.iconst 1, 0, 0, 0) := v306_u5_2 (x := (1502, .iconst 1, 0, 0, 0)) (by decide) rfl
theorem f306_1503 : fetch 306 1503 = some (.iadd, 0, 0, 0) := v306_u5_2 (x := (1503, .iadd, 0, 0, 0)) (by decide) rfl
theorem f306_1504 : fetch 306 1504 = some (.iaload, 0, 0, 0) := v306_u5_2 (x := (1504, .iaload, 0, 0, 0)) (by decide) rfl
theorem f306_1505 : fetch 306 1505 = some (.aload_n 0, 0, 0, 0) := v306_u5_2 (x := (1505, .aload_n 0, 0, 0, 0)) (by decide) rfl
theorem f306_1506 : fetch 306 1506 = some (.iload_n 3, 0, 0, 0) := v306_u5_2 (x := (1506, .iload_n 3, 0, 0, 0)) (by decide) rfl
theorem f306_1507 : fetch 306 1507 = some (.iconst 2, 0, 0, 0) := v306_u5_2 (x := (1507, .iconst 2, 0, 0, 0)) (by decide) rfl
theorem f306_1508 : fetch 306 1508 = some (.iadd, 0, 0, 0) := v306_u5_2 (x := (1508, .iadd, 0, 0, 0)) (by decide) rfl
theorem f306_1509 : fetch 306 1509 = some (.iaload, 0, 0, 0) := v306_u5_2 (x := (1509, .iaload, 0, 0, 0)) (by decide) rfl
theorem f306_1510 : fetch 306 1510 = some (.ifCond .eq 7, 1517, 0, 0) := v306_u5_2 (x := (1510, .ifCond .eq 7, 1517, 0, 0)) (by decide) rfl
theorem f306_1513 : fetch 306 1513 = some (.iconst 1, 0, 0, 0) := v306_u5_2 (x := (1513, .iconst 1, 0, 0, 0)) (by decide) rfl
theorem f306_1514 : fetch 306 1514 = some (.goto 4, 1518, 0, 0) := v306_u5_2 (x := (1514, .goto 4, 1518, 0, 0)) (by decide) rfl
theorem f306_1517 : fetch 306 1517 = some (.iconst 0, 0, 0, 0) := v306_u5_2 (x := (1517, .iconst 0, 0, 0, 0)) (by decide) rfl
theorem f306_1518 : fetch 306 1518 = some (.invokevirtual 157, 147, 2, 0) := v306_u5_2 (x := (1518, .invokevirtual 157, 147, 2, 0)) (by decide) rfl
theorem f306_1521 : fetch 306 1521 = some (.aload_n 2, 0, 0, 0) := v306_u5_2 (x := (1521, .aload_n 2, 0, 0, 0)) (by decide) rfl
theorem f306_1522 : fetch 306 1522 = some (.aload_n 0, 0, 0, 0) := v306_u5_2 (x := (1522, .aload_n 0, 0, 0, 0)) (by decide) rfl
theorem f306_1523 : fetch 306 1523 = some (.iload_n 3, 0, 0, 0) := v306_u5_2 (x := (1523, .iload_n 3, 0, 0, 0)) (by decide) rfl
theorem f306_1524 : fetch 306 1524 = some (.iconst 1, 0, 0, 0) := v306_u5_2 (x := (1524, .iconst 1, 0, 0, 0)) (by decide) rfl
theorem f306_1525 : fetch 306 1525 = some (.iadd, 0, 0, 0) := v306_u5_2 (x := (1525, .iadd, 0, 0, 0)) (by decide) rfl
theorem f306_1526 : fetch 306 1526 = some (.iaload, 0, 0, 0) := v306_u5_2 (x := (1526, .iaload, 0, 0, 0)) (by decide) rfl
theorem f306_1527 : fetch 306 1527 = some (.aload_n 0, 0, 0, 0) := v306_u5_2 (x := (1527, .aload_n 0, 0, 0, 0)) (by decide) rfl
theorem f306_1528 : fetch 306 1528 = some (.iload_n 3, 0, 0, 0) := v306_u5_2 (x := (1528, .iload_n 3, 0, 0, 0)) (by decide) rfl
theorem f306_1529 : fetch 306 1529 = some (.iconst 2, 0, 0, 0) := v306_u5_2 (x := (1529, .iconst 2, 0, 0, 0)) (by decide) rfl
theorem f306_1530 : fetch 306 1530 = some (.iadd, 0, 0, 0) := v306_u5_2 (x := (1530, .iadd, 0, 0, 0)) (by decide) rfl
theorem f306_1531 : fetch 306 1531 = some (.iaload, 0, 0, 0) := v306_u5_2 (x := (1531, .iaload, 0, 0, 0)) (by decide) rfl
theorem f306_1532 : fetch 306 1532 = some (.ifCond .eq 7, 1539, 0, 0) := v306_u5_3 (x := (1532, .ifCond .eq 7, 1539, 0, 0)) (by decide) rfl
theorem f306_1535 : fetch 306 1535 = some (.iconst 1, 0, 0, 0) := v306_u5_3 (x := (1535, .iconst 1, 0, 0, 0)) (by decide) rfl
theorem f306_1536 : fetch 306 1536 = some (.goto 4, 1540, 0, 0) := v306_u5_3 (x := (1536, .goto 4, 1540, 0, 0)) (by decide) rfl
theorem f306_1539 : fetch 306 1539 = some (.iconst 0, 0, 0, 0) := v306_u5_3 (x := (1539, .iconst 0, 0, 0, 0)) (by decide) rfl
theorem f306_1540 : fetch 306 1540 = some (.invokevirtual 161, 276, 2, 0) := v306_u5_3 (x := (1540, .invokevirtual 161, 276, 2, 0)) (by decide) rfl
theorem f306_1543 : fetch 306 1543 = some (.if_icmp .eq 577, 2120, 0, 0) := v306_u5_3 (x := (1543, .if_icmp .eq 577, 2120, 0, 0)) (by decide) rfl
theorem f306_1546 : fetch 306 1546 = some (.iconst 0, 0, 0, 0) := v306_u5_3 (x := (1546, .iconst 0, 0, 0, 0)) (by decide) rfl
theorem f306_1547 : fetch 306 1547 = some (.ireturn, 0, 0, 1) := v306_u5_3 (x := (1547, .ireturn, 0, 0, 1)) (by decide) rfl
theorem f306_1548 : fetch 306 1548 = some (.aload_n 1, 0, 0, 0) := v306_u5_3 (x := (1548, .aload_n 1, 0, 0, 0)) (by decide) rfl
theorem f306_1549 : fetch 306 1549 = some (.aload_n 0, 0, 0, 0) := v306_u5_3 (x := (1549, .aload_n 0, 0, 0, 0)) (by decide) rfl
theorem f306_1550 : fetch 306 1550 = some (.iload_n 3, 0, 0, 0) := v306_u5_3 (x := (1550, .iload_n 3, 0, 0, 0)) (by decide) rfl
theorem f306_1551 : fetch 306 1551 = some (.iconst 1, 0, 0, 0) := v306_u5_3 (x := (1551, .iconst 1, 0, 0, 0)) (by decide) rfl
theorem f306_1552 : fetch 306 1552 = some (.iadd, 0, 0, 0) := v306_u5_3 (x := (1552, .iadd, 0, 0, 0)) (by decide) rfl
theorem f306_1553 : fetch 306 1553 = some (.iaload, 0, 0, 0) := v306_u5_3 (x := (1553, .iaload, 0, 0, 0)) (by decide) rfl
theorem f306_1554 : fetch 306 1554 = some (.aload_n 0, 0, 0, 0) := v306_u5_3 (x := (1554, .aload_n 0, 0, 0, 0)) (by decide) rfl
theorem f306_1555 : fetch 306 1555 = some (.iload_n 3, 0, 0, 0) := v306_u5_3 (x := (1555, .iload_n 3, 0, 0, 0)) (by decide) rfl
theorem f306_1556 : fetch 306 1556 = some (.iconst 2, 0, 0, 0) := v306_u5_3 (x := (1556, .iconst 2, 0, 0, 0)) (by decide) rfl
theorem f306_1557 : fetch 306 1557 = some (.iadd, 0, 0, 0) := v306_u5_3 (x := (1557, .iadd, 0, 0, 0)) (by decide) rfl
theorem f306_1558 : fetch 306 1558 = some (.iaload, 0, 0, 0) := v306_u5_3 (x := (1558, .iaload, 0, 0, 0)) (by decide) rfl
theorem f306_1559 : fetch 306 1559 = some (.aload_n 0, 0, 0, 0) := v306_u5_3 (x := (1559, .aload_n 0, 0, 0, 0)) (by decide) rfl
theorem f306_1560 : fetch 306 1560 = some (.iload_n 3, 0, 0, 0) := v306_u5_3 (x := (1560, .iload_n 3, 0, 0, 0)) (by decide) rfl
theorem f306_1561 : fetch 306 1561 = some (.iconst 3, 0, 0, 0) := v306_u5_3 (x := (1561, .iconst 3, 0, 0, 0)) (by decide) rfl
theorem f306_1562 : fetch 306 1562 = some (.iadd, 0, 0, 0) := v306_u5_3 (x := (1562, .iadd, 0, 0, 0)) (by decide) rfl
theorem f306_1563 : fetch 306 1563 = some (.iaload, 0, 0, 0) := v306_u5_3 (x := (1563, .iaload, 0, 0, 0)) (by decide) rfl
theorem f306_1564 : fetch 306 1564 = some (.invokevirtual 162, 148, 3, 0) := v306_u5_4 (x := (1564, .invokevirtual 162, 148, 3, 0)) (by decide) rfl
theorem f306_1567 : fetch 306 1567 = some (.aload_n 2, 0, 0, 0) := v306_u5_4 (x := (1567, .aload_n 2, 0, 0, 0)) (by decide) rfl
theorem f306_1568 : fetch 306 1568 = some (.aload_n 0, 0, 0, 0) := v306_u5_4 (x := (1568, .aload_n 0, 0, 0, 0)) (by decide) rfl
theorem f306_1569 : fetch 306 1569 = some (.iload_n 3, 0, 0, 0) := v306_u5_4 (x := (1569, .iload_n 3, 0, 0, 0)) (by decide) rfl
theorem f306_1570 : fetch 306 1570 = some (.iconst 1, 0, 0, 0) := v306_u5_4 (x := (1570, .iconst 1, 0, 0, 0)) (by decide) rfl
theorem f306_1571 : fetch 306 1571 = some (.iadd, 0, 0, 0) := v306_u5_4 (x := (1571, .iadd, 0, 0, 0)) (by decide) rfl
theorem f306_1572 : fetch 306 1572 = some (.iaload, 0, 0, 0) := v306_u5_4 (x := (1572, .iaload, 0, 0, 0)) (by decide) rfl
theorem f306_1573 : fetch 306 1573 = some (.aload_n 0, 0, 0, 0) := v306_u5_4 (x := (1573, .aload_n 0, 0, 0, 0)) (by decide) rfl
theorem f306_1574 : fetch 306 1574 = some (.iload_n 3, 0, 0, 0) := v306_u5_4 (x := (1574, .iload_n 3, 0, 0, 0)) (by decide) rfl
theorem f306_1575 : fetch 306 1575 = some (.iconst 2, 0, 0, 0) := v306_u5_4 (x := (1575, .iconst 2, 0, 0, 0)) (by decide) rfl
theorem f306_1576 : fetch 306 1576 = some (.iadd, 0, 0, 0) := v306_u5_4 (x := (1576, .iadd, 0, 0, 0)) (by decide) rfl
theorem f306_1577 : fetch 306 1577 = some (.iaload, 0, 0, 0) := v306_u5_4 (x := (1577, .iaload, 0, 0, 0)) (by decide) rfl
theorem f306_1578 : fetch 306 1578 = some (.aload_n 0, 0, 0, 0) := v306_u5_4 (x := (1578, .aload_n 0, 0, 0, 0)) (by decide) rfl
theorem f306_1579 : fetch 306 1579 = some (.iload_n 3, 0, 0, 0) := v306_u5_4 (x := (1579, .iload_n 3, 0, 0, 0)) (by decide) rfl
theorem f306_1580 : fetch 306 1580 = some (.iconst 3, 0, 0, 0) := v306_u5_4 (x := (1580, .iconst 3, 0, 0, 0)) (by decide) rfl
theorem f306_1581 : fetch 306 1581 = some (.iadd, 0, 0, 0) := v306_u5_4 (x := (1581, .iadd, 0, 0, 0)) (by decide) rfl
theorem f306_1582 : fetch 306 1582 = some (.iaload, 0, 0, 0) := v306_u5_4 (x := (1582, .iaload, 0, 0, 0)) (by decide) rfl
theorem f306_1583 : fetch 306 1583 = some (.invokevirtual 165, 283, 3, 0) := v306_u5_4 (x := (1583, .invokevirtual 165, 283, 3, 0)) (by decide) rfl
theorem f306_1586 : fetch 306 1586 = some (.if_icmp .eq 534, 2120, 0, 0) := v306_u5_4 (x := (1586, .if_icmp .eq 534, 2120, 0, 0)) (by decide) rfl
theorem f306_1589 : fetch 306 1589 = some (.iconst 0, 0, 0, 0) := v306_u5_4 (x := (1589, .iconst 0, 0, 0, 0)) (by decide) rfl
theorem f306_1590 : fetch 306 1590 = some (.ireturn, 0, 0, 1) := v306_u5_4 (x := (1590, .ireturn, 0, 0, 1)) (by decide) rfl
theorem f306_1591 : fetch 306 1591 = some (.aload_n 1, 0, 0, 0) := v306_u5_4 (x := (1591, .aload_n 1, 0, 0, 0)) (by decide) rfl
theorem f306_1592 : fetch 306 1592 = some (.invokevirtual 166, 149, 0, 0) := v306_u5_4 (x := (1592, .invokevirtual 166, 149, 0, 0)) (by decide) rfl
theorem f306_1595 : fetch 306 1595 = some (.aload_n 2, 0, 0, 0) := v306_u5_4 (x := (1595, .aload_n 2, 0, 0, 0)) (by decide) rfl
theorem f306_1596 : fetch 306 1596 = some (.invokevirtual 169, 284, 0, 0) := v306_u5_5 (x := (1596, .invokevirtual 169, 284, 0, 0)) (by decide) rfl
theorem f306_1599 : fetch 306 1599 = some (.if_icmp .eq 521, 2120, 0, 0) := v306_u5_5 (x := (1599, .if_icmp .eq 521, 2120, 0, 0)) (by decide) rfl
theorem f306_1602 : fetch 306 1602 = some (.iconst 0, 0, 0, 0) := v306_u5_5 (x := (1602, .iconst 0, 0, 0, 0)) (by decide) rfl
theorem f306_1603 : fetch 306 1603 = some (.ireturn, 0, 0, 1) := v306_u5_5 (x := (1603, .ireturn, 0, 0, 1)) (by decide) rfl
theorem f306_1604 : fetch 306 1604 = some (.aload_n 1, 0, 0, 0) := v306_u5_5 (x := (1604, .aload_n 1, 0, 0, 0)) (by decide) rfl
theorem f306_1605 : fetch 306 1605 = some (.aload_n 0, 0, 0, 0) := v306_u5_5 (x := (1605, .aload_n 0, 0, 0, 0)) (by decide) rfl
theorem f306_1606 : fetch 306 1606 = some (.iload_n 3, 0, 0, 0) := v306_u5_5 (x := (1606, .iload_n 3, 0, 0, 0)) (by decide) rfl
theorem f306_1607 : fetch 306 1607 = some (.iconst 1, 0, 0, 0) := v306_u5_5 (x := (1607, .iconst 1, 0, 0, 0)) (by decide) rfl
theorem f306_1608 : fetch 306 1608 = some (.iadd, 0, 0, 0) := v306_u5_5 (x := (1608, .iadd, 0, 0, 0)) (by decide) rfl
theorem f306_1609 : fetch 306 1609 = some (.iaload, 0, 0, 0) := v306_u5_5 (x := (1609, .iaload, 0, 0, 0)) (by decide) rfl
theorem f306_1610 : fetch 306 1610 = some (.aload_n 0, 0, 0, 0) := v306_u5_5 (x := (1610, .aload_n 0, 0, 0, 0)) (by decide) rfl
theorem f306_1611 : fetch 306 1611 = some (.iload_n 3, 0, 0, 0) := v306_u5_5 (x := (1611, .iload_n 3, 0, 0, 0)) (by decide) rfl
theorem f306_1612 : fetch 306 1612 = some (.iconst 2, 0, 0, 0) := v306_u5_5 (x := (1612, .iconst 2, 0, 0, 0)) (by decide) rfl
theorem f306_1613 : fetch 306 1613 = some (.iadd, 0, 0, 0) := v306_u5_5 (x := (1613, .iadd, 0, 0, 0)) (by decide) rfl
theorem f306_1614 : fetch 306 1614 = some (.iaload, 0, 0, 0) := v306_u5_5 (x := (1614, .iaload, 0, 0, 0)) (by decide) rfl
theorem f306_1615 : fetch 306 1615 = some (.invokevirtual 170, 150, 2, 0) := v306_u5_5 (x := (1615, .invokevirtual 170, 150, 2, 0)) (by decide) rfl
theorem f306_1618 : fetch 306 1618 = some (.aload_n 2, 0, 0, 0) := v306_u5_5 (x := (1618, .aload_n 2, 0, 0, 0)) (by decide) rfl
theorem f306_1619 : fetch 306 1619 = some (.aload_n 0, 0, 0, 0) := v306_u5_5 (x := (1619, .aload_n 0, 0, 0, 0)) (by decide) rfl
theorem f306_1620 : fetch 306 1620 = some (.iload_n 3, 0, 0, 0) := v306_u5_5 (x := (1620, .iload_n 3, 0, 0, 0)) (by decide) rfl
theorem f306_1621 : fetch 306 1621 = some (.iconst 1, 0, 0, 0) := v306_u5_5 (x := (1621, .iconst 1, 0, 0, 0)) (by decide) rfl
theorem f306_1622 : fetch 306 1622 = some (.iadd, 0, 0, 0) := v306_u5_5 (x := (1622, .iadd, 0, 0, 0)) (by decide) rfl
theorem f306_1623 : fetch 306 1623 = some (.iaload, 0, 0, 0) := v306_u5_5 (x := (1623, .iaload, 0, 0, 0)) (by decide) rfl
theorem f306_1624 : fetch 306 1624 = some (.aload_n 0, 0, 0, 0) := v306_u5_5 (x := (1624, .aload_n 0, 0, 0, 0)) (by decide) rfl
theorem f306_1625 : fetch 306 1625 = some (.iload_n 3, 0, 0, 0) := v306_u5_5 (x := (1625, .iload_n 3, 0, 0, 0)) (by decide) rfl
theorem f306_1626 : fetch 306 1626 = some (.iconst 2, 0, 0, 0) := v306_u5_6 (x := (1626, .iconst 2, 0, 0, 0)) (by decide) rfl
theorem f306_1627 : fetch 306 1627 = some (.iadd, 0, 0, 0) := v306_u5_6 (x := (1627, .iadd, 0, 0, 0)) (by decide) rfl
theorem f306_1628 : fetch 306 1628 = some (.iaload, 0, 0, 0) := v306_u5_6 (x := (1628, .iaload, 0, 0, 0)) (by decide) rfl
theorem f306_1629 : fetch 306 1629 = some (.invokevirtual 174, 285, 2, 0) := v306_u5_6 (x := (1629, .invokevirtual 174, 285, 2, 0)) (by decide) rfl
theorem f306_1632 : fetch 306 1632 = some (.if_icmp .eq 488, 2120, 0, 0) := v306_u5_6 (x := (1632, .if_icmp .eq 488, 2120, 0, 0)) (by decide) rfl
theorem f306_1635 : fetch 306 1635 = some (.iconst 0, 0, 0, 0) := v306_u5_6 (x := (1635, .iconst 0, 0, 0, 0)) (by decide) rfl
theorem f306_1636 : fetch 306 1636 = some (.ireturn, 0, 0, 1) := v306_u5_6 (x := (1636, .ireturn, 0, 0, 1)) (by decide) rfl
theorem f306_1637 : fetch 306 1637 = some (.aload_n 1, 0, 0, 0) := v306_u5_6 (x := (1637, .aload_n 1, 0, 0, 0)) (by decide) rfl
theorem f306_1638 : fetch 306 1638 = some (.aload_n 0, 0, 0, 0) := v306_u5_6 (x := (1638, .aload_n 0, 0, 0, 0)) (by decide) rfl
theorem f306_1639 : fetch 306 1639 = some (.iload_n 3, 0, 0, 0) := v306_u5_6 (x := (1639, .iload_n 3, 0, 0, 0)) (by decide) rfl
theorem f306_1640 : fetch 306 1640 = some (.iconst 1, 0, 0, 0) := v306_u5_6 (x := (1640, .iconst 1, 0, 0, 0)) (by decide) rfl
theorem f306_1641 : fetch 306 1641 = some (.iadd, 0, 0, 0) := v306_u5_6 (x := (1641, .iadd, 0, 0, 0)) (by decide) rfl
theorem f306_1642 : fetch 306 1642 = some (.iaload, 0, 0, 0) := v306_u5_6 (x := (1642, .iaload, 0, 0, 0)) (by decide) rfl
theorem f306_1643 : fetch 306 1643 = some (.invokevirtual 175, 151, 1, 0) := v306_u5_6 (x := (1643, .invokevirtual 175, 151, 1, 0)) (by decide) rfl
theorem f306_1646 : fetch 306 1646 = some (.aload_n 2, 0, 0, 0) := v306_u5_6 (x := (1646, .aload_n 2, 0, 0, 0)) (by decide) rfl
theorem f306_1647 : fetch 306 1647 = some (.aload_n 0, 0, 0, 0) := v306_u5_6 (x := (1647, .aload_n 0, 0, 0, 0)) (by decide) rfl
theorem f306_1648 : fetch 306 1648 = some (.iload_n 3, 0, 0, 0) := v306_u5_6 (x := (1648, .iload_n 3, 0, 0, 0)) (by decide) rfl
theorem f306_1649 : fetch 306 1649 = some (.iconst 1, 0, 0, 0) := v306_u5_6 (x := (1649, .iconst 1, 0, 0, 0)) (by decide) rfl
theorem f306_1650 : fetch 306 1650 = some (.iadd, 0, 0, 0) := v306_u5_6 (x := (1650, .iadd, 0, 0, 0)) (by decide) rfl
theorem f306_1651 : fetch 306 1651 = some (.iaload, 0, 0, 0) := v306_u5_6 (x := (1651, .iaload, 0, 0, 0)) (by decide) rfl
theorem f306_1652 : fetch 306 1652 = some (.invokevirtual 179, 287, 1, 0) := v306_u5_6 (x := (1652, .invokevirtual 179, 287, 1, 0)) (by decide) rfl
theorem f306_1655 : fetch 306 1655 = some (.lcmp, 0, 0, 0) := v306_u5_6 (x := (1655, .lcmp, 0, 0, 0)) (by decide) rfl
theorem f306_1656 : fetch 306 1656 = some (.ifCond .eq 464, 2120, 0, 0) := v306_u5_6 (x := (1656, .ifCond .eq 464, 2120, 0, 0)) (by decide) rfl
theorem f306_1659 : fetch 306 1659 = some (.iconst 0, 0, 0, 0) := v306_u5_6 (x := (1659, .iconst 0, 0, 0, 0)) (by decide) rfl
theorem f306_1660 : fetch 306 1660 = some (.ireturn, 0, 0, 1) := v306_u5_7 (x := (1660, .ireturn, 0, 0, 1)) (by decide) rfl
theorem f306_1661 : fetch 306 1661 = some (.aload_n 1, 0, 0, 0) := v306_u5_7 (x := (1661, .aload_n 1, 0, 0, 0)) (by decide) rfl
theorem f306_1662 : fetch 306 1662 = some (.invokevirtual 180, 152, 0, 0) := v306_u5_7 (x := (1662, .invokevirtual 180, 152, 0, 0)) (by decide) rfl
theorem f306_1665 : fetch 306 1665 = some (.aload_n 2, 0, 0, 0) := v306_u5_7 (x := (1665, .aload_n 2, 0, 0, 0)) (by decide) rfl
theorem f306_1666 : fetch 306 1666 = some (.invokevirtual 183, 288, 0, 0) := v306_u5_7 (x := (1666, .invokevirtual 183, 288, 0, 0)) (by decide) rfl
theorem f306_1669 : fetch 306 1669 = some (.if_icmp .eq 451, 2120, 0, 0) := v306_u5_7 (x := (1669, .if_icmp .eq 451, 2120, 0, 0)) (by decide) rfl
theorem f306_1672 : fetch 306 1672 = some (.iconst 0, 0, 0, 0) := v306_u5_7 (x := (1672, .iconst 0, 0, 0, 0)) (by decide) rfl
theorem f306_1673 : fetch 306 1673 = some (.ireturn, 0, 0, 1) := v306_u5_7 (x := (1673, .ireturn, 0, 0, 1)) (by decide) rfl
theorem f306_1674 : fetch 306 1674 = some (.aload_n 1, 0, 0, 0) := v306_u5_7 (x := (1674, .aload_n 1, 0, 0, 0)) (by decide) rfl
theorem f306_1675 : fetch 306 1675 = some (.aload_n 0, 0, 0, 0) := v306_u5_7 (x := (1675, .aload_n 0, 0, 0, 0)) (by decide) rfl
theorem f306_1676 : fetch 306 1676 = some (.iload_n 3, 0, 0, 0) := v306_u5_7 (x := (1676, .iload_n 3, 0, 0, 0)) (by decide) rfl
theorem f306_1677 : fetch 306 1677 = some (.iconst 1, 0, 0, 0) := v306_u5_7 (x := (1677, .iconst 1, 0, 0, 0)) (by decide) rfl
theorem f306_1678 : fetch 306 1678 = some (.iadd, 0, 0, 0) := v306_u5_7 (x := (1678, .iadd, 0, 0, 0)) (by decide) rfl
theorem f306_1679 : fetch 306 1679 = some (.iaload, 0, 0, 0) := v306_u5_7 (x := (1679, .iaload, 0, 0, 0)) (by decide) rfl
theorem f306_1680 : fetch 306 1680 = some (.aload_n 0, 0, 0, 0) := v306_u5_7 (x := (1680, .aload_n 0, 0, 0, 0)) (by decide) rfl
theorem f306_1681 : fetch 306 1681 = some (.iload_n 3, 0, 0, 0) := v306_u5_7 (x := (1681, .iload_n 3, 0, 0, 0)) (by decide) rfl
theorem f306_1682 : fetch 306 1682 = some (.iconst 2, 0, 0, 0) := v306_u5_7 (x := (1682, .iconst 2, 0, 0, 0)) (by decide) rfl
theorem f306_1683 : fetch 306 1683 = some (.iadd, 0, 0, 0) := v306_u5_7 (x := (1683, .iadd, 0, 0, 0)) (by decide) rfl
theorem f306_1684 : fetch 306 1684 = some (.iaload, 0, 0, 0) := v306_u5_7 (x := (1684, .iaload, 0, 0, 0)) (by decide) rfl
theorem f306_1685 : fetch 306 1685 = some (.aload_n 0, 0, 0, 0) := v306_u5_7 (x := (1685, .aload_n 0, 0, 0, 0)) (by decide) rfl
theorem f306_1686 : fetch 306 1686 = some (.iload_n 3, 0, 0, 0) := v306_u5_7 (x := (1686, .iload_n 3, 0, 0, 0)) (by decide) rfl
theorem f306_1687 : fetch 306 1687 = some (.iconst 3, 0, 0, 0) := v306_u5_7 (x := (1687, .iconst 3, 0, 0, 0)) (by decide) rfl
theorem f306_1688 : fetch 306 1688 = some (.iadd, 0, 0, 0) := v306_u5_7 (x := (1688, .iadd, 0, 0, 0)) (by decide) rfl
theorem f306_1689 : fetch 306 1689 = some (.iaload, 0, 0, 0) := v306_u5_7 (x := (1689, .iaload, 0, 0, 0)) (by decide) rfl
theorem f306_1690 : fetch 306 1690 = some (.invokevirtual 184, 153, 3, 0) := v306_u5_8 (x := (1690, .invokevirtual 184, 153, 3, 0)) (by decide) rfl
theorem f306_1693 : fetch 306 1693 = some (.aload_n 2, 0, 0, 0) := v306_u5_8 (x := (1693, .aload_n 2, 0, 0, 0)) (by decide) rfl
theorem f306_1694 : fetch 306 1694 = some (.aload_n 0, 0, 0, 0) := v306_u5_8 (x := (1694, .aload_n 0, 0, 0, 0)) (by decide) rfl
theorem f306_1695 : fetch 306 1695 = some (.iload_n 3, 0, 0, 0) := v306_u5_8 (x := (1695, .iload_n 3, 0, 0, 0)) (by decide) rfl
theorem f306_1696 : fetch 306 1696 = some (.iconst 1, 0, 0, 0) := v306_u5_8 (x := (1696, .iconst 1, 0, 0, 0)) (by decide) rfl
theorem f306_1697 : fetch 306 1697 = some (.iadd, 0, 0, 0) := v306_u5_8 (x := (1697, .iadd, 0, 0, 0)) (by decide) rfl
theorem f306_1698 : fetch 306 1698 = some (.iaload, 0, 0, 0) := v306_u5_8 (x := (1698, .iaload, 0, 0, 0)) (by decide) rfl
theorem f306_1699 : fetch 306 1699 = some (.aload_n 0, 0, 0, 0) := v306_u5_8 (x := (1699, .aload_n 0, 0, 0, 0)) (by decide) rfl
theorem f306_1700 : fetch 306 1700 = some (.iload_n 3, 0, 0, 0) := v306_u6_0 (x := (1700, .iload_n 3, 0, 0, 0)) (by decide) rfl
theorem f306_1701 : fetch 306 1701 = some (.iconst 2, 0, 0, 0) := v306_u6_0 (x := (1701, .iconst 2, 0, 0, 0)) (by decide) rfl
theorem f306_1702 : fetch 306 1702 = some (.iadd, 0, 0, 0) := v306_u6_0 (x := (1702, .iadd, 0, 0, 0)) (by decide) rfl
theorem f306_1703 : fetch 306 1703 = some (.iaload, 0, 0, 0) := v306_u6_0 (x := (1703, .iaload, 0, 0, 0)) (by decide) rfl
theorem f306_1704 : fetch 306 1704 = some (.aload_n 0, 0, 0, 0) := v306_u6_0 (x := (1704, .aload_n 0, 0, 0, 0)) (by decide) rfl
theorem f306_1705 : fetch 306 1705 = some (.iload_n 3, 0, 0, 0) := v306_u6_0 (x := (1705, .iload_n 3, 0, 0, 0)) (by decide) rfl
theorem f306_1706 : fetch 306 1706 = some (.iconst 3, 0, 0, 0) := v306_u6_0 (x := (1706, .iconst 3, 0, 0, 0)) (by decide) rfl
theorem f306_1707 : fetch 306 1707 = some (.iadd, 0, 0, 0) := v306_u6_0 (x := (1707, .iadd, 0, 0, 0)) (by decide) rfl
theorem f306_1708 : fetch 306 1708 = some (.iaload, 0, 0, 0) := v306_u6_0 (x := (1708, .iaload, 0, 0, 0)) (by decide) rfl
theorem f306_1709 : fetch 306 1709 = some (.invokevirtual 187, 289, 3, 0) := v306_u6_0 (x := (1709, .invokevirtual 187, 289, 3, 0)) (by decide) rfl
theorem f306_1712 : fetch 306 1712 = some (.if_icmp .eq 408, 2120, 0, 0) := v306_u6_0 (x := (1712, .if_icmp .eq 408, 2120, 0, 0)) (by decide) rfl
theorem f306_1715 : fetch 306 1715 = some (.iconst 0, 0, 0, 0) := v306_u6_0 (x := (1715, .iconst 0, 0, 0, 0)) (by decide) rfl
theorem f306_1716 : fetch 306 1716 = some (.ireturn, 0, 0, 1) := v306_u6_0 (x := (1716, .ireturn, 0, 0, 1)) (by decide) rfl
theorem f306_1717 : fetch 306 1717 = some (.aload_n 1, 0, 0, 0) := v306_u6_0 (x := (1717, .aload_n 1, 0, 0, 0)) (by decide) rfl
theorem f306_1718 : fetch 306 1718 = some (.aload_n 0, 0, 0, 0) := v306_u6_0 (x := (1718, .aload_n 0, 0, 0, 0)) (by decide) rfl
theorem f306_1719 : fetch 306 1719 = some (.iload_n 3, 0, 0, 0) := v306_u6_0 (x := (1719, .iload_n 3, 0, 0, 0)) (by decide) rfl
theorem f306_1720 : fetch 306 1720 = some (.iconst 1, 0, 0, 0) := v306_u6_0 (x := (1720, .iconst 1, 0, 0, 0)) (by decide) rfl
theorem f306_1721 : fetch 306 1721 = some (.iadd, 0, 0, 0) := v306_u6_0 (x := (1721, .iadd, 0, 0, 0)) (by decide) rfl
theorem f306_1722 : fetch 306 1722 = some (.iaload, 0, 0, 0) := v306_u6_0 (x := (1722, .iaload, 0, 0, 0)) (by decide) rfl
theorem f306_1723 : fetch 306 1723 = some (.aload_n 0, 0, 0, 0) := v306_u6_0 (x := (1723, .aload_n 0, 0, 0, 0)) (by decide) rfl
theorem f306_1724 : fetch 306 1724 = some (.iload_n 3, 0, 0, 0) := v306_u6_0 (x := (1724, .iload_n 3, 0, 0, 0)) (by decide) rfl
theorem f306_1725 : fetch 306 1725 = some (.iconst 2, 0, 0, 0) := v306_u6_0 (x := (1725, .iconst 2, 0, 0, 0)) (by decide) rfl
theorem f306_1726 : fetch 306 1726 = some (.iadd, 0, 0, 0) := v306_u6_0 (x := (1726, .iadd, 0, 0, 0)) (by decide) rfl
theorem f306_1727 : fetch 306 1727 = some (.iaload, 0, 0, 0) := v306_u6_0 (x := (1727, .iaload, 0, 0, 0)) (by decide) rfl
theorem f306_1728 : fetch 306 1728 = some (.aload_n 0, 0, 0, 0) := v306_u6_1 (x := (1728, .aload_n 0, 0, 0, 0)) (by decide) rfl
theorem f306_1729 : fetch 306 1729 = some (.iload_n 3, 0, 0, 0) := v306_u6_1 (x := (1729, .iload_n 3, 0, 0, 0)) (by decide) rfl
theorem f306_1730 : fetch 306 1730 = some (.iconst 3, 0, 0, 0) := v306_u6_1 (x := (1730, .iconst 3, 0, 0, 0)) (by decide) rfl
theorem f306_1731 : fetch 306 1731 = some (.iadd, 0, 0, 0) := v306_u6_1 (x := (1731, .iadd, 0, 0, 0)) (by decide) rfl
theorem f306_1732 : fetch 306 1732 = some (.iaload, 0, 0, 0) := v306_u6_1 (x := (1732, .iaload, 0, 0, 0)) (by decide) rfl
theorem f306_1733 : fetch 306 1733 = some (.invokevirtual 188, 154, 3, 0) := v306_u6_1 (x := (1733, .invokevirtual 188, 154, 3, 0)) (by decide) rfl
theorem f306_1736 : fetch 306 1736 = some (.aload_n 2, 0, 0, 0) := v306_u6_1 (x := (1736, .aload_n 2, 0, 0, 0)) (by decide) rfl
theorem f306_1737 : fetch 306 1737 = some (.aload_n 0, 0, 0, 0) := v306_u6_1 (x := (1737, .aload_n 0, 0, 0, 0)) (by decide) rfl
theorem f306_1738 : fetch 306 1738 = some (.iload_n 3, 0, 0, 0) := v306_u6_1 (x := (1738, .iload_n 3, 0, 0, 0)) (by decide) rfl
theorem f306_1739 : fetch 306 1739 = some (.iconst 1, 0, 0, 0) := v306_u6_1 (x := (1739, .iconst 1, 0, 0, 0)) (by decide) rfl
theorem f306_1740 : fetch 306 1740 = some (.iadd, 0, 0, 0) := v306_u6_1 (x := (1740, .iadd, 0, 0, 0)) (by decide) rfl
theorem f306_1741 : fetch 306 1741 = some (.iaload, 0, 0, 0) := v306_u6_1 (x := (1741, .iaload, 0, 0, 0)) (by decide) rfl
theorem f306_1742 : fetch 306 1742 = some (.aload_n 0, 0, 0, 0) := v306_u6_1 (x := (1742, .aload_n 0, 0, 0, 0)) (by decide) rfl
theorem f306_1743 : fetch 306 1743 = some (.iload_n 3, 0, 0, 0) := v306_u6_1 (x := (1743, .iload_n 3, 0, 0, 0)) (by decide) rfl
theorem f306_1744 : fetch 306 1744 = some (.iconst 2, 0, 0, 0) := v306_u6_1 (x := (1744, .iconst 2, 0, 0, 0)) (by decide) rfl
theorem f306_1745 : fetch 306 1745 = some (.iadd, 0, 0, 0) := v306_u6_1 (x := (1745, .iadd, 0, 0, 0)) (by decide) rfl
theorem f306_1746 : fetch 306 1746 = some (.iaload, 0, 0, 0) := v306_u6_1 (x := (1746, .iaload, 0, 0, 0)) (by decide) rfl
theorem f306_1747 : fetch 306 1747 = some (.aload_n 0, 0, 0, 0) := v306_u6_1 (x := (1747, .aload_n 0, 0, 0, 0)) (by decide) rfl
theorem f306_1748 : fetch 306 1748 = some (.iload_n 3, 0, 0, 0) := v306_u6_1 (x := (1748, .iload_n 3, 0, 0, 0)) (by decide) rfl
theorem f306_1749 : fetch 306 1749 = some (.iconst 3, 0, 0, 0) := v306_u6_1 (x := (1749, .iconst 3, 0, 0, 0)) (by decide) rfl
theorem f306_1750 : fetch 306 1750 = some (.iadd, 0, 0, 0) := v306_u6_1 (x := (1750, .iadd, 0, 0, 0)) (by decide) rfl
theorem f306_1751 : fetch 306 1751 = some (.iaload, 0, 0, 0) := v306_u6_1 (x := (1751, .iaload, 0, 0, 0)) (by decide) rfl
theorem f306_1752 : fetch 306 1752 = some (.invokevirtual 191, 291, 3, 0) := v306_u6_1 (x := (1752, .invokevirtual 191, 291, 3, 0)) (by decide) rfl
theorem f306_1755 : fetch 306 1755 = some (.if_icmp .eq 365, 2120, 0, 0) := v306_u6_1 (x := (1755, .if_icmp .eq 365, 2120, 0, 0)) (by decide) rfl
theorem f306_1758 : fetch 306 1758 = some (.iconst 0, 0, 0, 0) := v306_u6_2 (x := (1758, .iconst 0, 0, 0, 0)) (by decide) rfl
theorem f306_1759 : fetch 306 1759 = some (.ireturn, 0, 0, 1) := v306_u6_2 (x := (1759, .ireturn, 0, 0, 1)) (by decide) rfl
theorem f306_1760 : fetch 306 1760 = some (.aload_n 1, 0, 0, 0) := v306_u6_2 (x := (1760, .aload_n 1, 0, 0, 0)) (by decide) rfl
theorem f306_1761 : fetch 306 1761 = some (.aload_n 0, 0, 0, 0) := v306_u6_2 (x := (1761, .aload_n 0, 0, 0, 0)) (by decide) rfl
theorem f306_1762 : fetch 306 1762 = some (.iload_n 3, 0, 0, 0) := v306_u6_2 (x := (1762, .iload_n 3, 0, 0, 0)) (by decide) rfl
theorem f306_1763 : fetch 306 1763 = some (.iconst 1, 0, 0, 0) := v306_u6_2 (x := (1763, .iconst 1, 0, 0, 0)) (by decide) rfl
theorem f306_1764 : fetch 306 1764 = some (.iadd, 0, 0, 0) := v306_u6_2 (x := (1764, .iadd, 0, 0, 0)) (by decide) rfl
theorem f306_1765 : fetch 306 1765 = some (.iaload, 0, 0, 0) := v306_u6_2 (x := (1765, .iaload, 0, 0, 0)) (by decide) rfl
theorem f306_1766 : fetch 306 1766 = some (.aload_n 0, 0, 0, 0) := v306_u6_2 (x := (1766, .aload_n 0, 0, 0, 0)) (by decide) rfl
theorem f306_1767 : fetch 306 1767 = some (.iload_n 3, 0, 0, 0) := v306_u6_2 (x := (1767, .iload_n 3, 0, 0, 0)) (by decide) rfl
theorem f306_1768 : fetch 306 1768 = some (.iconst 2, 0, 0, 0) := v306_u6_2 (x := (1768, .iconst 2, 0, 0, 0)) (by decide) rfl
theorem f306_1769 : fetch 306 1769 = some (.iadd, 0, 0, 0) := v306_u6_2 (x := (1769, .iadd, 0, 0, 0)) (by decide) rfl
theorem f306_1770 : fetch 306 1770 = some (.iaload, 0, 0, 0) := v306_u6_2 (x := (1770, .iaload, 0, 0, 0)) (by decide) rfl
theorem f306_1771 : fetch 306 1771 = some (.invokevirtual 192, 155, 2, 0) := v306_u6_2 (x := (1771, .invokevirtual 192, 155, 2, 0)) (by decide) rfl
theorem f306_1774 : fetch 306 1774 = some (.aload_n 2, 0, 0, 0) := v306_u6_2 (x := (1774, .aload_n 2, 0, 0, 0)) (by decide) rfl
theorem f306_1775 : fetch 306 1775 = some (.aload_n 0, 0, 0, 0) := v306_u6_2 (x := (1775, .aload_n 0, 0, 0, 0)) (by decide) rfl
theorem f306_1776 : fetch 306 1776 = some (.iload_n 3, 0, 0, 0) := v306_u6_2 (x := (1776, .iload_n 3, 0, 0, 0)) (by decide) rfl
theorem f306_1777 : fetch 306 1777 = some (.iconst 1, 0, 0, 0) := v306_u6_2 (x := (1777, .iconst 1, 0, 0, 0)) (by decide) rfl
theorem f306_1778 : fetch 306 1778 = some (.iadd, 0, 0, 0) := v306_u6_2 (x := (1778, .iadd, 0, 0, 0)) (by decide) rfl
theorem f306_1779 : fetch 306 1779 = some (.iaload, 0, 0, 0) := v306_u6_2 (x := (1779, .iaload, 0, 0, 0)) (by decide) rfl
theorem f306_1780 : fetch 306 1780 = some (.aload_n 0, 0, 0, 0) := v306_u6_2 (x := (1780, .aload_n 0, 0, 0, 0)) (by decide) rfl
theorem f306_1781 : fetch 306 1781 = some (.iload_n 3, 0, 0, 0) := v306_u6_2 (x := (1781, .iload_n 3, 0, 0, 0)) (by decide) rfl
theorem f306_1782 : fetch 306 1782 = some (.iconst 2, 0, 0, 0) := v306_u6_2 (x := (1782, .iconst 2, 0, 0, 0)) (by decide) rfl
theorem f306_1783 : fetch 306 1783 = some (.iadd, 0, 0, 0) := v306_u6_2 (x := (1783, .iadd, 0, 0, 0)) (by decide) rfl
theorem f306_1784 : fetch 306 1784 = some (.iaload, 0, 0, 0) := v306_u6_3 (x := (1784, .iaload, 0, 0, 0)) (by decide) rfl
theorem f306_1785 : fetch 306 1785 = some (.invokevirtual 195, 292, 2, 0) := v306_u6_3 (x := (1785, .invokevirtual 195, 292, 2, 0)) (by decide) rfl
theorem f306_1788 : fetch 306 1788 = some (.if_icmp .eq 332, 2120, 0, 0) := v306_u6_3 (x := (1788, .if_icmp .eq 332, 2120, 0, 0)) (by decide) rfl
theorem f306_1791 : fetch 306 1791 = some (.iconst 0, 0, 0, 0) := v306_u6_3 (x := (1791, .iconst 0, 0, 0, 0)) (by decide) rfl
theorem f306_1792 : fetch 306 1792 = some (.ireturn, 0, 0, 1) := v306_u6_3 (x := (1792, .ireturn, 0, 0, 1)) (by decide) rfl
theorem f306_1793 : fetch 306 1793 = some (.aload_n 1, 0, 0, 0) := v306_u6_3 (x := (1793, .aload_n 1, 0, 0, 0)) (by decide) rfl
theorem f306_1794 : fetch 306 1794 = some (.aload_n 0, 0, 0, 0) := v306_u6_3 (x := (1794, .aload_n 0, 0, 0, 0)) (by decide) rfl
theorem f306_1795 : fetch 306 1795 = some (.iload_n 3, 0, 0, 0) := v306_u6_3 (x := (1795, .iload_n 3, 0, 0, 0)) (by decide) rfl
theorem f306_1796 : fetch 306 1796 = some (.iconst 1, 0, 0, 0) := v306_u6_3 (x := (1796, .iconst 1, 0, 0, 0)) (by decide) rfl
theorem f306_1797 : fetch 306 1797 = some (.iadd, 0, 0, 0) := v306_u6_3 (x := (1797, .iadd, 0, 0, 0)) (by decide) rfl
theorem f306_1798 : fetch 306 1798 = some (.iaload, 0, 0, 0) := v306_u6_3 (x := (1798, .iaload, 0, 0, 0)) (by decide) rfl
theorem f306_1799 : fetch 306 1799 = some (.aload_n 0, 0, 0, 0) := v306_u6_3 (x := (1799, .aload_n 0, 0, 0, 0)) (by decide) rfl
theorem f306_1800 : fetch 306 1800 = some (.iload_n 3, 0, 0, 0) := v306_u6_3 (x := (1800, .iload_n 3, 0, 0, 0)) (by decide) rfl
theorem f306_1801 : fetch 306 1801 = some (.iconst 2, 0, 0, 0) := v306_u6_3 (x := (1801, .iconst 2, 0, 0, 0)) (by decide) rfl
theorem f306_1802 : fetch 306 1802 = some (.iadd, 0, 0, 0) := v306_u6_3 (x := (1802, .iadd, 0, 0, 0)) (by decide) rfl
theorem f306_1803 : fetch 306 1803 = some (.iaload, 0, 0, 0) := v306_u6_3 (x := (1803, .iaload, 0, 0, 0)) (by decide) rfl
theorem f306_1804 : fetch 306 1804 = some (.invokevirtual 196, 156, 2, 0) := v306_u6_3 (x := (1804, .invokevirtual 196, 156, 2, 0)) (by decide) rfl
theorem f306_1807 : fetch 306 1807 = some (.aload_n 2, 0, 0, 0) := v306_u6_3 (x := (1807, .aload_n 2, 0, 0, 0)) (by decide) rfl
theorem f306_1808 : fetch 306 1808 = some (.aload_n 0, 0, 0, 0) := v306_u6_3 (x := (1808, .aload_n 0, 0, 0, 0)) (by decide) rfl
theorem f306_1809 : fetch 306 1809 = some (.iload_n 3, 0, 0, 0) := v306_u6_3 (x := (1809, .iload_n 3, 0, 0, 0)) (by decide) rfl
theorem f306_1810 : fetch 306 1810 = some (.iconst 1, 0, 0, 0) := v306_u6_3 (x := (1810, .iconst 1, 0, 0, 0)) (by decide) rfl
theorem f306_1811 : fetch 306 1811 = some (.iadd, 0, 0, 0) := v306_u6_3 (x := (1811, .iadd, 0, 0, 0)) (by decide) rfl
theorem f306_1812 : fetch 306 1812 = some (.iaload, 0, 0, 0) := v306_u6_3 (x := (1812, .iaload, 0, 0, 0)) (by decide) rfl
theorem f306_1813 : fetch 306 1813 = some (.aload_n 0, 0, 0, 0) := v306_u6_3 (x := (1813, .aload_n 0, 0, 0, 0)) (by decide) rfl
theorem f306_1814 : fetch 306 1814 = some (.iload_n 3, 0, 0, 0) := v306_u6_4 (x := (1814, .iload_n 3, 0, 0, 0)) (by decide) rfl
theorem f306_1815 : fetch 306 1815 = some (.iconst 2, 0, 0, 0) := v306_u6_4 (x := (1815, .iconst 2, 0, 0, 0)) (by decide) rfl
theorem f306_1816 : fetch 306 1816 = some (.iadd, 0, 0, 0) := v306_u6_4 (x := (1816, .iadd, 0, 0, 0)) (by decide) rfl
theorem f306_1817 : fetch 306 1817 = some (.iaload, 0, 0, 0) := v306_u6_4 (x := (1817, .iaload, 0, 0, 0)) (by decide) rfl
theorem f306_1818 : fetch 306 1818 = some (.invokevirtual 199, 296, 2, 0) := v306_u6_4 (x := (1818, .invokevirtual 199, 296, 2, 0)) (by decide) rfl
theorem f306_1821 : fetch 306 1821 = some (.if_icmp .eq 299, 2120, 0, 0) := v306_u6_4 (x := (1821, .if_icmp .eq 299, 2120, 0, 0)) (by decide) rfl
theorem f306_1824 : fetch 306 1824 = some (.iconst 0, 0, 0, 0) := v306_u6_4 (x := (1824, .iconst 0, 0, 0, 0)) (by decide) rfl
theorem f306_1825 : fetch 306 1825 = some (.ireturn, 0, 0, 1) := v306_u6_4 (x := (1825, .ireturn, 0, 0, 1)) (by decide) rfl
theorem f306_1826 : fetch 306 1826 = some (.aload_n 1, 0, 0, 0) := v306_u6_4 (x := (1826, .aload_n 1, 0, 0, 0)) (by decide) rfl
theorem f306_1827 : fetch 306 1827 = some (.aload_n 0, 0, 0, 0) := v306_u6_4 (x := (1827, .aload_n 0, 0, 0, 0)) (by decide) rfl
theorem f306_1828 : fetch 306 1828 = some (.iload_n 3, 0, 0, 0) := v306_u6_4 (x := (1828, .iload_n 3, 0, 0, 0)) (by decide) rfl
theorem f306_1829 : fetch 306 1829 = some (.iconst 1, 0, 0, 0) := v306_u6_4 (x := (1829, .iconst 1, 0, 0, 0)) (by decide) rfl
theorem f306_1830 : fetch 306 1830 = some (.iadd, 0, 0, 0) := v306_u6_4 (x := (1830, .iadd, 0, 0, 0)) (by decide) rfl
theorem f306_1831 : fetch 306 1831 = some (.iaload, 0, 0, 0) := v306_u6_4 (x := (1831, .iaload, 0, 0, 0)) (by decide) rfl
theorem f306_1832 : fetch 306 1832 = some (.aload_n 0, 0, 0, 0) := v306_u6_4 (x := (1832, .aload_n 0, 0, 0, 0)) (by decide) rfl
theorem f306_1833 : fetch 306 1833 = some (.iload_n 3, 0, 0, 0) := v306_u6_4 (x := (1833, .iload_n 3, 0, 0, 0)) (by decide) rfl
theorem f306_1834 : fetch 306 1834 = some (.iconst 2, 0, 0, 0) := v306_u6_4 (x := (1834, .iconst 2, 0, 0, 0)) (by decide) rfl
theorem f306_1835 : fetch 306 1835 = some (.iadd, 0, 0, 0) := v306_u6_4 (x := (1835, .iadd, 0, 0, 0)) (by decide) rfl
theorem f306_1836 : fetch 306 1836 = some (.iaload, 0, 0, 0) := v306_u6_4 (x := (1836, .iaload, 0, 0, 0)) (by decide) rfl
theorem f306_1837 : fetch 306 1837 = some (.invokevirtual 200, 157, 2, 0) := v306_u6_4 (x := (1837, .invokevirtual 200, 157, 2, 0)) (by decide) rfl
theorem f306_1840 : fetch 306 1840 = some (.aload_n 2, 0, 0, 0) := v306_u6_4 (x := (1840, .aload_n 2, 0, 0, 0)) (by decide) rfl
theorem f306_1841 : fetch 306 1841 = some (.aload_n 0, 0, 0, 0) := v306_u6_4 (x := (1841, .aload_n 0, 0, 0, 0)) (by decide) rfl
theorem f306_1842 : fetch 306 1842 = some (.iload_n 3, 0, 0, 0) := v306_u6_4 (x := (1842, .iload_n 3, 0, 0, 0)) (by decide) rfl
theorem f306_1843 : fetch 306 1843 = some (.iconst 1, 0, 0, 0) := v306_u6_4 (x := (1843, .iconst 1, 0, 0, 0)) (by decide) rfl
theorem f306_1844 : fetch 306 1844 = some (.iadd, 0, 0, 0) := v306_u6_5 (x := (1844, .iadd, 0, 0, 0)) (by decide) rfl
theorem f306_1845 : fetch 306 1845 = some (.iaload, 0, 0, 0) := v306_u6_5 (x := (1845, .iaload, 0, 0, 0)) (by decide) rfl
theorem f306_1846 : fetch 306 1846 = some (.aload_n 0, 0, 0, 0) := v306_u6_5 (x := (1846, .aload_n 0, 0, 0, 0)) (by decide) rfl
theorem f306_1847 : fetch 306 1847 = some (.iload_n 3, 0, 0, 0) := v306_u6_5 (x := (1847, .iload_n 3, 0, 0, 0)) (by decide) rfl
theorem f306_1848 : fetch 306 1848 = some (.iconst 2, 0, 0, 0) := v306_u6_5 (x := (1848, .iconst 2, 0, 0, 0)) (by decide) rfl
theorem f306_1849 : fetch 306 1849 = some (.iadd, 0, 0, 0) := v306_u6_5 (x := (1849, .iadd, 0, 0, 0)) (by decide) rfl
theorem f306_1850 : fetch 306 1850 = some (.iaload, 0, 0, 0) := v306_u6_5 (x := (1850, .iaload, 0, 0, 0)) (by decide) rfl
theorem f306_1851 : fetch 306 1851 = some (.invokevirtual 203, 294, 2, 0) := v306_u6_5 (x := (1851, .invokevirtual 203, 294, 2, 0)) (by decide) rfl
theorem f306_1854 : fetch 306 1854 = some (.if_icmp .eq 266, 2120, 0, 0) := v306_u6_5 (x := (1854, .if_icmp .eq 266, 2120, 0, 0)) (by decide) rfl
theorem f306_1857 : fetch 306 1857 = some (.iconst 0, 0, 0, 0) := v306_u6_5 (x := (1857, .iconst 0, 0, 0, 0)) (by decide) rfl
theorem f306_1858 : fetch 306 1858 = some (.ireturn, 0, 0, 1) := v306_u6_5 (x := (1858, .ireturn, 0, 0, 1)) (by decide) rfl
theorem f306_1859 : fetch 306 1859 = some (.aload_n 1, 0, 0, 0) := v306_u6_5 (x := (1859, .aload_n 1, 0, 0, 0)) (by decide) rfl
theorem f306_1860 : fetch 306 1860 = some (.aload_n 0, 0, 0, 0) := v306_u6_5 (x := (1860, .aload_n 0, 0, 0, 0)) (by decide) rfl
theorem f306_1861 : fetch 306 1861 = some (.iload_n 3, 0, 0, 0) := v306_u6_5 (x := (1861, .iload_n 3, 0, 0, 0)) (by decide) rfl
theorem f306_1862 : fetch 306 1862 = some (.iconst 1, 0, 0, 0) := v306_u6_5 (x := (1862, .iconst 1, 0, 0, 0)) (by decide) rfl
theorem f306_1863 : fetch 306 1863 = some (.iadd, 0, 0, 0) := v306_u6_5 (x := (1863, .iadd, 0, 0, 0)) (by decide) rfl
theorem f306_1864 : fetch 306 1864 = some (.iaload, 0, 0, 0) := v306_u6_5 (x := (1864, .iaload, 0, 0, 0)) (by decide) rfl
theorem f306_1865 : fetch 306 1865 = some (.aload_n 0, 0, 0, 0) := v306_u6_5 (x := (1865, .aload_n 0, 0, 0, 0)) (by decide) rfl
theorem f306_1866 : fetch 306 1866 = some (.iload_n 3, 0, 0, 0) := v306_u6_5 (x := (1866, .iload_n 3, 0, 0, 0)) (by decide) rfl
theorem f306_1867 : fetch 306 1867 = some (.iconst 2, 0, 0, 0) := v306_u6_5 (x := (1867, .iconst 2, 0, 0, 0)) (by decide) rfl
theorem f306_1868 : fetch 306 1868 = some (.iadd, 0, 0, 0) := v306_u6_5 (x := (1868, .iadd, 0, 0, 0)) (by decide) rfl
theorem f306_1869 : fetch 306 1869 = some (.iaload, 0, 0, 0) := v306_u6_5 (x := (1869, .iaload, 0, 0, 0)) (by decide) rfl
theorem f306_1870 : fetch 306 1870 = some (.ifCond .eq 7, 1877, 0, 0) := v306_u6_5 (x := (1870, .ifCond .eq 7, 1877, 0, 0)) (by decide) rfl
theorem f306_1873 : fetch 306 1873 = some (.iconst 1, 0, 0, 0) := v306_u6_5 (x := (1873, .iconst 1, 0, 0, 0)) (by decide) rfl
theorem f306_1874 : fetch 306 1874 = some (.goto 4, 1878, 0, 0) := v306_u6_6 (x := (1874, .goto 4, 1878, 0, 0)) (by decide) rfl
theorem f306_1877 : fetch 306 1877 = some (.iconst 0, 0, 0, 0) := v306_u6_6 (x := (1877, .iconst 0, 0, 0, 0)) (by decide) rfl
theorem f306_1878 : fetch 306 1878 = some (.invokevirtual 204, 158, 2, 0) := v306_u6_6 (x := (1878, .invokevirtual 204, 158, 2, 0)) (by decide) rfl
theorem f306_1881 : fetch 306 1881 = some (.aload_n 2, 0, 0, 0) := v306_u6_6 (x := (1881, .aload_n 2, 0, 0, 0)) (by decide) rfl
theorem f306_1882 : fetch 306 1882 = some (.aload_n 0, 0, 0, 0) := v306_u6_6 (x := (1882, .aload_n 0, 0, 0, 0)) (by decide) rfl
theorem f306_1883 : fetch 306 1883 = some (.iload_n 3, 0, 0, 0) := v306_u6_6 (x := (1883, .iload_n 3, 0, 0, 0)) (by decide) rfl
theorem f306_1884 : fetch 306 1884 = some (.iconst 1, 0, 0, 0) := v306_u6_6 (x := (1884, .iconst 1, 0, 0, 0)) (by decide) rfl
theorem f306_1885 : fetch 306 1885 = some (.iadd, 0, 0, 0) := v306_u6_6 (x := (1885, .iadd, 0, 0, 0)) (by decide) rfl
theorem f306_1886 : fetch 306 1886 = some (.iaload, 0, 0, 0) := v306_u6_6 (x := (1886, .iaload, 0, 0, 0)) (by decide) rfl
theorem f306_1887 : fetch 306 1887 = some (.aload_n 0, 0, 0, 0) := v306_u6_6 (x := (1887, .aload_n 0, 0, 0, 0)) (by decide) rfl
theorem f306_1888 : fetch 306 1888 = some (.iload_n 3, 0, 0, 0) := v306_u6_6 (x := (1888, .iload_n 3, 0, 0, 0)) (by decide) rfl
theorem f306_1889 : fetch 306 1889 = some (.iconst 2, 0, 0, 0) := v306_u6_6 (x := (1889, .iconst 2, 0, 0, 0)) (by decide) rfl
theorem f306_1890 : fetch 306 1890 = some (.iadd, 0, 0, 0) := v306_u6_6 (x := (1890, .iadd, 0, 0, 0)) (by decide) rfl
theorem f306_1891 : fetch 306 1891 = some (.iaload, 0, 0, 0) := v306_u6_6 (x := (1891, .iaload, 0, 0, 0)) (by decide) rfl
theorem f306_1892 : fetch 306 1892 = some (.ifCond .eq 7, 1899, 0, 0) := v306_u6_6 (x := (1892, .ifCond .eq 7, 1899, 0, 0)) (by decide) rfl
theorem f306_1895 : fetch 306 1895 = some (.iconst 1, 0, 0, 0) := v306_u6_6 (x := (1895, .iconst 1, 0, 0, 0)) (by decide) rfl
theorem f306_1896 : fetch 306 1896 = some (.goto 4, 1900, 0, 0) := v306_u6_6 (x := (1896, .goto 4, 1900, 0, 0)) (by decide) rfl
theorem f306_1899 : fetch 306 1899 = some (.iconst 0, 0, 0, 0) := v306_u6_6 (x := (1899, .iconst 0, 0, 0, 0)) (by decide) rfl
theorem f306_1900 : fetch 306 1900 = some (.invokevirtual 208, 297, 2, 0) := v306_u6_6 (x := (1900, .invokevirtual 208, 297, 2, 0)) (by decide) rfl
theorem f306_1903 : fetch 306 1903 = some (.if_icmp .eq 217, 2120, 0, 0) := v306_u6_6 (x := (1903, .if_icmp .eq 217, 2120, 0, 0)) (by decide) rfl
theorem f306_1906 : fetch 306 1906 = some (.iconst 0, 0, 0, 0) := v306_u6_6 (x := (1906, .iconst 0, 0, 0, 0)) (by decide) rfl
theorem f306_1907 : fetch 306 1907 = some (.ireturn, 0, 0, 1) := v306_u6_6 (x := (1907, .ireturn, 0, 0, 1)) (by decide) rfl
theorem f306_1908 : fetch 306 1908 = some (.aload_n 1, 0, 0, 0) := v306_u6_6 (x := (1908, .aload_n 1, 0, 0, 0)) (by decide) rfl
theorem f306_1909 : fetch 306 1909 = some (.aload_n 0, 0, 0, 0) := v306_u6_6 (x := (1909, .aload_n 0, 0, 0, 0)) (by decide) rfl
theorem f306_1910 : fetch 306 1910 = some (.iload_n 3, 0, 0, 0) := v306_u6_7 (x := (1910, .iload_n 3, 0, 0, 0)) (by decide) rfl
theorem f306_1911 : fetch 306 1911 = some (.iconst 1, 0, 0, 0) := v306_u6_7 (x := (1911, .iconst 1, 0, 0, 0)) (by decide) rfl
theorem f306_1912 : fetch 306 1912 = some (.iadd, 0, 0, 0) := v306_u6_7 (x := (1912, .iadd, 0, 0, 0)) (by decide) rfl
theorem f306_1913 : fetch 306 1913 = some (.iaload, 0, 0, 0) := v306_u6_7 (x := (1913, .iaload, 0, 0, 0)) (by decide) rfl
theorem f306_1914 : fetch 306 1914 = some (.invokevirtual 209, 159, 1, 0) := v306_u6_7 (x := (1914, .invokevirtual 209, 159, 1, 0)) (by decide) rfl
theorem f306_1917 : fetch 306 1917 = some (.aload_n 2, 0, 0, 0) := v306_u6_7 (x := (1917, .aload_n 2, 0, 0, 0)) (by decide) rfl
theorem f306_1918 : fetch 306 1918 = some (.aload_n 0, 0, 0, 0) := v306_u6_7 (x := (1918, .aload_n 0, 0, 0, 0)) (by decide) rfl
theorem f306_1919 : fetch 306 1919 = some (.iload_n 3, 0, 0, 0) := v306_u6_7 (x := (1919, .iload_n 3, 0, 0, 0)) (by decide) rfl
theorem f306_1920 : fetch 306 1920 = some (.iconst 1, 0, 0, 0) := v306_u6_7 (x := (1920, .iconst 1, 0, 0, 0)) (by decide) rfl
theorem f306_1921 : fetch 306 1921 = some (.iadd, 0, 0, 0) := v306_u6_7 (x := (1921, .iadd, 0, 0, 0)) (by decide) rfl
theorem f306_1922 : fetch 306 1922 = some (.iaload, 0, 0, 0) := v306_u6_7 (x := (1922, .iaload, 0, 0, 0)) (by decide) rfl
theorem f306_1923 : fetch 306 1923 = some (.invokevirtual 212, 298, 1, 0) := v306_u6_7 (x := (1923, .invokevirtual 212, 298, 1, 0)) (by decide) rfl
theorem f306_1926 : fetch 306 1926 = some (.if_icmp .eq 194, 2120, 0, 0) := v306_u6_7 (x := (1926, .if_icmp .eq 194, 2120, 0, 0)) (by decide) rfl
theorem f306_1929 : fetch 306 1929 = some (.iconst 0, 0, 0, 0) := v306_u6_7 (x := (1929, .iconst 0, 0, 0, 0)) (by decide) rfl
theorem f306_1930 : fetch 306 1930 = some (.ireturn, 0, 0, 1) := v306_u6_7 (x := (1930, .ireturn, 0, 0, 1)) (by decide) rfl
theorem f306_1931 : fetch 306 1931 = some (.aload_n 1, 0, 0, 0) := v306_u6_7 (x := (1931, .aload_n 1, 0, 0, 0)) (by decide) rfl
theorem f306_1932 : fetch 306 1932 = some (.invokevirtual 213, 160, 0, 0) := v306_u6_7 (x := (1932, .invokevirtual 213, 160, 0, 0)) (by decide) rfl
theorem f306_1935 : fetch 306 1935 = some (.aload_n 2, 0, 0, 0) := v306_u6_7 (x := (1935, .aload_n 2, 0, 0, 0)) (by decide) rfl
theorem f306_1936 : fetch 306 1936 = some (.invokevirtual 216, 299, 0, 0) := v306_u6_7 (x := (1936, .invokevirtual 216, 299, 0, 0)) (by decide) rfl
theorem f306_1939 : fetch 306 1939 = some (.if_icmp .eq 181, 2120, 0, 0) := v306_u6_7 (x := (1939, .if_icmp .eq 181, 2120, 0, 0)) (by decide) rfl
theorem f306_1942 : fetch 306 1942 = some (.iconst 0, 0, 0, 0) := v306_u6_7 (x := (1942, .iconst 0, 0, 0, 0)) (by decide) rfl
theorem f306_1943 : fetch 306 1943 = some (.ireturn, 0, 0, 1) := v306_u6_7 (x := (1943, .ireturn, 0, 0, 1)) (by decide) rfl
theorem f306_1944 : fetch 306 1944 = some (.aload_n 1, 0, 0, 0) := v306_u6_7 (x := (1944, .aload_n 1, 0, 0, 0)) (by decide) rfl
theorem f306_1945 : fetch 306 1945 = some (.aload_n 0, 0, 0, 0) := v306_u6_7 (x := (1945, .aload_n 0, 0, 0, 0)) (by decide) rfl
theorem f306_1946 : fetch 306 1946 = some (.iload_n 3, 0, 0, 0) := v306_u6_8 (x := (1946, .iload_n 3, 0, 0, 0)) (by decide) rfl
theorem f306_1947 : fetch 306 1947 = some (.iconst 1, 0, 0, 0) := v306_u6_8 (x := (1947, .iconst 1, 0, 0, 0)) (by decide) rfl
theorem f306_1948 : fetch 306 1948 = some (.iadd, 0, 0, 0) := v306_u6_8 (x := (1948, .iadd, 0, 0, 0)) (by decide) rfl
theorem f306_1949 : fetch 306 1949 = some (.iaload, 0, 0, 0) := v306_u6_8 (x := (1949, .iaload, 0, 0, 0)) (by decide) rfl
theorem f306_1950 : fetch 306 1950 = some (.aload_n 0, 0, 0, 0) := v306_u6_8 (x := (1950, .aload_n 0, 0, 0, 0)) (by decide) rfl
theorem f306_1951 : fetch 306 1951 = some (.iload_n 3, 0, 0, 0) := v306_u6_8 (x := (1951, .iload_n 3, 0, 0, 0)) (by decide) rfl
theorem f306_1952 : fetch 306 1952 = some (.iconst 2, 0, 0, 0) := v306_u6_8 (x := (1952, .iconst 2, 0, 0, 0)) (by decide) rfl
theorem f306_1953 : fetch 306 1953 = some (.iadd, 0, 0, 0) := v306_u6_8 (x := (1953, .iadd, 0, 0, 0)) (by decide) rfl
theorem f306_1954 : fetch 306 1954 = some (.iaload, 0, 0, 0) := v306_u7_0 (x := (1954, .iaload, 0, 0, 0)) (by decide) rfl
theorem f306_1955 : fetch 306 1955 = some (.invokevirtual 217, 161, 2, 0) := v306_u7_0 (x := (1955, .invokevirtual 217, 161, 2, 0)) (by decide) rfl
theorem f306_1958 : fetch 306 1958 = some (.aload_n 2, 0, 0, 0) := v306_u7_0 (x := (1958, .aload_n 2, 0, 0, 0)) (by decide) rfl
theorem f306_1959 : fetch 306 1959 = some (.aload_n 0, 0, 0, 0) := v306_u7_0 (x := (1959, .aload_n 0, 0, 0, 0)) (by decide) rfl
theorem f306_1960 : fetch 306 1960 = some (.iload_n 3, 0, 0, 0) := v306_u7_0 (x := (1960, .iload_n 3, 0, 0, 0)) (by decide) rfl
theorem f306_1961 : fetch 306 1961 = some (.iconst 1, 0, 0, 0) := v306_u7_0 (x := (1961, .iconst 1, 0, 0, 0)) (by decide) rfl
theorem f306_1962 : fetch 306 1962 = some (.iadd, 0, 0, 0) := v306_u7_0 (x := (1962, .iadd, 0, 0, 0)) (by decide) rfl
theorem f306_1963 : fetch 306 1963 = some (.iaload, 0, 0, 0) := v306_u7_0 (x := (1963, .iaload, 0, 0, 0)) (by decide) rfl
theorem f306_1964 : fetch 306 1964 = some (.aload_n 0, 0, 0, 0) := v306_u7_0 (x := (1964, .aload_n 0, 0, 0, 0)) (by decide) rfl
theorem f306_1965 : fetch 306 1965 = some (.iload_n 3, 0, 0, 0) := v306_u7_0 (x := (1965, .iload_n 3, 0, 0, 0)) (by decide) rfl
theorem f306_1966 : fetch 306 1966 = some (.iconst 2, 0, 0, 0) := v306_u7_0 (x := (1966, .iconst 2, 0, 0, 0)) (by decide) rfl
theorem f306_1967 : fetch 306 1967 = some (.iadd, 0, 0, 0) := v306_u7_0 (x := (1967, .iadd, 0, 0, 0)) (by decide) rfl
theorem f306_1968 : fetch 306 1968 = some (.iaload, 0, 0, 0) := v306_u7_0 (x := (1968, .iaload, 0, 0, 0)) (by decide) rfl
theorem f306_1969 : fetch 306 1969 = some (.invokevirtual 220, 300, 2, 0) := v306_u7_0 (x := (1969, .invokevirtual 220, 300, 2, 0)) (by decide) rfl
theorem f306_1972 : fetch 306 1972 = some (.if_icmp .eq 148, 2120, 0, 0) := v306_u7_0 (x := (1972, .if_icmp .eq 148, 2120, 0, 0)) (by decide) rfl
theorem f306_1975 : fetch 306 1975 = some (.iconst 0, 0, 0, 0) := v306_u7_0 (x := (1975, .iconst 0, 0, 0, 0)) (by decide) rfl
theorem f306_1976 : fetch 306 1976 = some (.ireturn, 0, 0, 1) := v306_u7_0 (x := (1976, .ireturn, 0, 0, 1)) (by decide) rfl
theorem f306_1977 : fetch 306 1977 = some (.aload_n 1, 0, 0, 0) := v306_u7_0 (x := (1977, .aload_n 1, 0, 0, 0)) (by decide) rfl
theorem f306_1978 : fetch 306 1978 = some (.aload_n 0, 0, 0, 0) := v306_u7_0 (x := (1978, .aload_n 0, 0, 0, 0)) (by decide) rfl
theorem f306_1979 : fetch 306 1979 = some (.iload_n 3, 0, 0, 0) := v306_u7_0 (x := (1979, .iload_n 3, 0, 0, 0)) (by decide) rfl
theorem f306_1980 : fetch 306 1980 = some (.iconst 1, 0, 0, 0) := v306_u7_0 (x := (1980, .iconst 1, 0, 0, 0)) (by decide) rfl
theorem f306_1981 : fetch 306 1981 = some (.iadd, 0, 0, 0) := v306_u7_0 (x := (1981, .iadd, 0, 0, 0)) (by decide) rfl
theorem f306_1982 : fetch 306 1982 = some (.iaload, 0, 0, 0) := v306_u7_0 (x := (1982, .iaload, 0, 0, 0)) (by decide) rfl
theorem f306_1983 : fetch 306 1983 = some (.aload_n 0, 0, 0, 0) := v306_u7_0 (x := (1983, .aload_n 0, 0, 0, 0)) (by decide) rfl
theorem f306_1984 : fetch 306 1984 = some (.iload_n 3, 0, 0, 0) := v306_u7_1 (x := (1984, .iload_n 3, 0, 0, 0)) (by decide) rfl
theorem f306_1985 : fetch 306 1985 = some (.iconst 2, 0, 0, 0) := v306_u7_1 (x := (1985, .iconst 2, 0, 0, 0)) (by decide) rfl
theorem f306_1986 : fetch 306 1986 = some (.iadd, 0, 0, 0) := v306_u7_1 (x := (1986, .iadd, 0, 0, 0)) (by decide) rfl
theorem f306_1987 : fetch 306 1987 = some (.iaload, 0, 0, 0) := v306_u7_1 (x := (1987, .iaload, 0, 0, 0)) (by decide) rfl
theorem f306_1988 : fetch 306 1988 = some (.invokevirtual 221, 162, 2, 0) := v306_u7_1 (x := (1988, .invokevirtual 221, 162, 2, 0)) (by decide) rfl
theorem f306_1991 : fetch 306 1991 = some (.aload_n 2, 0, 0, 0) := v306_u7_1 (x := (1991, .aload_n 2, 0, 0, 0)) (by decide) rfl
theorem f306_1992 : fetch 306 1992 = some (.aload_n 0, 0, 0, 0) := v306_u7_1 (x := (1992, .aload_n 0, 0, 0, 0)) (by decide) rfl
theorem f306_1993 : fetch 306 1993 = some (.iload_n 3, 0, 0, 0) := v306_u7_1 (x := (1993, .iload_n 3, 0, 0, 0)) (by decide) rfl
theorem f306_1994 : fetch 306 1994 = some (.iconst 1, 0, 0, 0) := v306_u7_1 (x := (1994, .iconst 1, 0, 0, 0)) (by decide) rfl
theorem f306_1995 : fetch 306 1995 = some (.iadd, 0, 0, 0) := v306_u7_1 (x := (1995, .iadd, 0, 0, 0)) (by decide) rfl
theorem f306_1996 : fetch 306 1996 = some (.iaload, 0, 0, 0) := v306_u7_1 (x := (1996, .iaload, 0, 0, 0)) (by decide) rfl
theorem f306_1997 : fetch 306 1997 = some (.aload_n 0, 0, 0, 0) := v306_u7_1 (x := (1997, .aload_n 0, 0, 0, 0)) (by decide) rfl
theorem f306_1998 : fetch 306 1998 = some (.iload_n 3, 0, 0, 0) := v306_u7_1 (x := (1998, .iload_n 3, 0, 0, 0)) (by decide) rfl
theorem f306_1999 : fetch 306 1999 = some (.iconst 2, 0, 0, 0) := v306_u7_1 (x := (1999, .iconst 2, 0, 0, 0)) (by decide) rfl
theorem f306_2000 : fetch 306 2000 = some (.iadd, 0, 0, 0) := v306_u7_1 (x := (2000, .iadd, 0, 0, 0)) (by decide) rfl
theorem f306_2001 : fetch 306 2001 = some (.iaload, 0, 0, 0) := v306_u7_1 (x := (2001, .iaload, 0, 0, 0)) (by decide) rfl
theorem f306_2002 : fetch 306 2002 = some (.invokevirtual 224, 301, 2, 0) := v306_u7_1 (x := (2002, .invokevirtual 224, 301, 2, 0)) (by decide) rfl
theorem f306_2005 : fetch 306 2005 = some (.if_icmp .eq 115, 2120, 0, 0) := v306_u7_1 (x := (2005, .if_icmp .eq 115, 2120, 0, 0)) (by decide) rfl
theorem f306_2008 : fetch 306 2008 = some (.iconst 0, 0, 0, 0) := v306_u7_1 (x := (2008, .iconst 0, 0, 0, 0)) (by decide) rfl
theorem f306_2009 : fetch 306 2009 = some (.ireturn, 0, 0, 1) := v306_u7_1 (x := (2009, .ireturn, 0, 0, 1)) (by decide) rfl
theorem f306_2010 : fetch 306 2010 = some (.aload_n 1, 0, 0, 0) := v306_u7_1 (x := (2010, .aload_n 1, 0, 0, 0)) (by decide) rfl
theorem f306_2011 : fetch 306 2011 = some (.aload_n 0, 0, 0, 0) := v306_u7_1 (x := (2011, .aload_n 0, 0, 0, 0)) (by decide) rfl
theorem f306_2012 : fetch 306 2012 = some (.iload_n 3, 0, 0, 0) := v306_u7_1 (x := (2012, .iload_n 3, 0, 0, 0)) (by decide) rfl
theorem f306_2013 : fetch 306 2013 = some (.iconst 1, 0, 0, 0) := v306_u7_1 (x := (2013, .iconst 1, 0, 0, 0)) (by decide) rfl
theorem f306_2014 : fetch 306 2014 = some (.iadd, 0, 0, 0) := v306_u7_2 (x := (2014, .iadd, 0, 0, 0)) (by decide) rfl
theorem f306_2015 : fetch 306 2015 = some (.iaload, 0, 0, 0) := v306_u7_2 (x := (2015, .iaload, 0, 0, 0)) (by decide) rfl
theorem f306_2016 : fetch 306 2016 = some (.aload_n 0, 0, 0, 0) := v306_u7_2 (x := (2016, .aload_n 0, 0, 0, 0)) (by decide) rfl
theorem f306_2017 : fetch 306 2017 = some (.iload_n 3, 0, 0, 0) := v306_u7_2 (x := (2017, .iload_n 3, 0, 0, 0)) (by decide) rfl
theorem f306_2018 : fetch 306 2018 = some (.iconst 2, 0, 0, 0) := v306_u7_2 (x := (2018, .iconst 2, 0, 0, 0)) (by decide) rfl
theorem f306_2019 : fetch 306 2019 = some (.iadd, 0, 0, 0) := v306_u7_2 (x := (2019, .iadd, 0, 0, 0)) (by decide) rfl
theorem f306_2020 : fetch 306 2020 = some (.iaload, 0, 0, 0) := v306_u7_2 (x := (2020, .iaload, 0, 0, 0)) (by decide) rfl
theorem f306_2021 : fetch 306 2021 = some (.i2l, 0, 0, 0) := v306_u7_2 (x := (2021, .i2l, 0, 0, 0)) (by decide) rfl
theorem f306_2022 : fetch 306 2022 = some (.bipush 32, 0, 0, 0) := v306_u7_2 (x := (2022, .bipush 32, 0, 0, 0)) (by decide) rfl
theorem f306_2024 : fetch 306 2024 = some (.lshl, 0, 0, 0) := v306_u7_2 (x := (2024, .lshl, 0, 0, 0)) (by decide) rfl
theorem f306_2025 : fetch 306 2025 = some (.aload_n 0, 0, 0, 0) := v306_u7_2 (x := (2025, .aload_n 0, 0, 0, 0)) (by decide) rfl
theorem f306_2026 : fetch 306 2026 = some (.iload_n 3, 0, 0, 0) := v306_u7_2 (x := (2026, .iload_n 3, 0, 0, 0)) (by decide) rfl
theorem f306_2027 : fetch 306 2027 = some (.iconst 3, 0, 0, 0) := v306_u7_2 (x := (2027, .iconst 3, 0, 0, 0)) (by decide) rfl
theorem f306_2028 : fetch 306 2028 = some (.iadd, 0, 0, 0) := v306_u7_2 (x := (2028, .iadd, 0, 0, 0)) (by decide) rfl
theorem f306_2029 : fetch 306 2029 = some (.iaload, 0, 0, 0) := v306_u7_2 (x := (2029, .iaload, 0, 0, 0)) (by decide) rfl
theorem f306_2030 : fetch 306 2030 = some (.i2l, 0, 0, 0) := v306_u7_2 (x := (2030, .i2l, 0, 0, 0)) (by decide) rfl
theorem f306_2031 : fetch 306 2031 = some (.ldc2_w 23, 0, 0, 4294967295) := v306_u7_2 (x := (2031, .ldc2_w 23, 0, 0, 4294967295)) (by decide) rfl
theorem f306_2034 : fetch 306 2034 = some (.land, 0, 0, 0) := v306_u7_2 (x := (2034, .land, 0, 0, 0)) (by decide) rfl
theorem f306_2035 : fetch 306 2035 = some (.lor, 0, 0, 0) := v306_u7_2 (x := (2035, .lor, 0, 0, 0)) (by decide) rfl
theorem f306_2036 : fetch 306 2036 = some (.invokevirtual 225, 163, 2, 0) := v306_u7_2 (x := (2036, .invokevirtual 225, 163, 2, 0)) (by decide) rfl
theorem f306_2039 : fetch 306 2039 = some (.aload_n 2, 0, 0, 0) := v306_u7_2 (x := (2039, .aload_n 2, 0, 0, 0)) (by decide) rfl
theorem f306_2040 : fetch 306 2040 = some (.aload_n 0, 0, 0, 0) := v306_u7_2 (x := (2040, .aload_n 0, 0, 0, 0)) (by decide) rfl
theorem f306_2041 : fetch 306 2041 = some (.iload_n 3, 0, 0, 0) := v306_u7_2 (x := (2041, .iload_n 3, 0, 0, 0)) (by decide) rfl
theorem f306_2042 : fetch 306 2042 = some (.iconst 1, 0, 0, 0) := v306_u7_2 (x := (2042, .iconst 1, 0, 0, 0)) (by decide) rfl
theorem f306_2043 : fetch 306 2043 = some (.iadd, 0, 0, 0) := v306_u7_3 (x := (2043, .iadd, 0, 0, 0)) (by decide) rfl
theorem f306_2044 : fetch 306 2044 = some (.iaload, 0, 0, 0) := v306_u7_3 (x := (2044, .iaload, 0, 0, 0)) (by decide) rfl
theorem f306_2045 : fetch 306 2045 = some (.aload_n 0, 0, 0, 0) := v306_u7_3 (x := (2045, .aload_n 0, 0, 0, 0)) (by decide) rfl
theorem f306_2046 : fetch 306 2046 = some (.iload_n 3, 0, 0, 0) := v306_u7_3 (x := (2046, .iload_n 3, 0, 0, 0)) (by decide) rfl
theorem f306_2047 : fetch 306 2047 = some (.iconst 2, 0, 0, 0) := v306_u7_3 (x := (2047, .iconst 2, 0, 0, 0)) (by decide) rfl
theorem f306_2048 : fetch 306 2048 = some (.iadd, 0, 0, 0) := v306_u7_3 (x := (2048, .iadd, 0, 0, 0)) (by decide) rfl
theorem f306_2049 : fetch 306 2049 = some (.iaload, 0, 0, 0) := v306_u7_3 (x := (2049, .iaload, 0, 0, 0)) (by decide) rfl
theorem f306_2050 : fetch 306 2050 = some (.i2l, 0, 0, 0) := v306_u7_3 (x := (2050, .i2l, 0, 0, 0)) (by decide) rfl
theorem f306_2051 : fetch 306 2051 = some (.bipush 32, 0, 0, 0) := v306_u7_3 (x := (2051, .bipush 32, 0, 0, 0)) (by decide) rfl
theorem f306_2053 : fetch 306 2053 = some (.lshl, 0, 0, 0) := v306_u7_3 (x := (2053, .lshl, 0, 0, 0)) (by decide) rfl
theorem f306_2054 : fetch 306 2054 = some (.aload_n 0, 0, 0, 0) := v306_u7_3 (x := (2054, .aload_n 0, 0, 0, 0)) (by decide) rfl
theorem f306_2055 : fetch 306 2055 = some (.iload_n 3, 0, 0, 0) := v306_u7_3 (x := (2055, .iload_n 3, 0, 0, 0)) (by decide) rfl
theorem f306_2056 : fetch 306 2056 = some (.iconst 3, 0, 0, 0) := v306_u7_3 (x := (2056, .iconst 3, 0, 0, 0)) (by decide) rfl
theorem f306_2057 : fetch 306 2057 = some (.iadd, 0, 0, 0) := v306_u7_3 (x := (2057, .iadd, 0, 0, 0)) (by decide) rfl
theorem f306_2058 : fetch 306 2058 = some (.iaload, 0, 0, 0) := v306_u7_3 (x := (2058, .iaload, 0, 0, 0)) (by decide) rfl
theorem f306_2059 : fetch 306 2059 = some (.i2l, 0, 0, 0) := v306_u7_3 (x := (2059, .i2l, 0, 0, 0)) (by decide) rfl
theorem f306_2060 : fetch 306 2060 = some (.ldc2_w 23, 0, 0, 4294967295) := v306_u7_3 (x := (2060, .ldc2_w 23, 0, 0, 4294967295)) (by decide) rfl
theorem f306_2063 : fetch 306 2063 = some (.land, 0, 0, 0) := v306_u7_3 (x := (2063, .land, 0, 0, 0)) (by decide) rfl
theorem f306_2064 : fetch 306 2064 = some (.lor, 0, 0, 0) := v306_u7_3 (x := (2064, .lor, 0, 0, 0)) (by decide) rfl
theorem f306_2065 : fetch 306 2065 = some (.invokevirtual 229, 303, 2, 0) := v306_u7_3 (x := (2065, .invokevirtual 229, 303, 2, 0)) (by decide) rfl
theorem f306_2068 : fetch 306 2068 = some (.lcmp, 0, 0, 0) := v306_u7_3 (x := (2068, .lcmp, 0, 0, 0)) (by decide) rfl
theorem f306_2069 : fetch 306 2069 = some (.ifCond .eq 51, 2120, 0, 0) := v306_u7_3 (x := (2069, .ifCond .eq 51, 2120, 0, 0)) (by decide) rfl
theorem f306_2072 : fetch 306 2072 = some (.iconst 0, 0, 0, 0) := v306_u7_3 (x := (2072, .iconst 0, 0, 0, 0)) (by decide) rfl
theorem f306_2073 : fetch 306 2073 = some (.ireturn, 0, 0, 1) := v306_u7_3 (x := (2073, .ireturn, 0, 0, 1)) (by decide) rfl
theorem f306_2074 : fetch 306 2074 = some (.aload_n 1, 0, 0, 0) := v306_u7_4 (x := (2074, .aload_n 1, 0, 0, 0)) (by decide) rfl
theorem f306_2075 : fetch 306 2075 = some (.aload_n 0, 0, 0, 0) := v306_u7_4 (x := (2075, .aload_n 0, 0, 0, 0)) (by decide) rfl
theorem f306_2076 : fetch 306 2076 = some (.iload_n 3, 0, 0, 0) := v306_u7_4 (x := (2076, .iload_n 3, 0, 0, 0)) (by decide) rfl
theorem f306_2077 : fetch 306 2077 = some (.iconst 1, 0, 0, 0) := v306_u7_4 (x := (2077, .iconst 1, 0, 0, 0)) (by decide) rfl
theorem f306_2078 : fetch 306 2078 = some (.iadd, 0, 0, 0) := v306_u7_4 (x := (2078, .iadd, 0, 0, 0)) (by decide) rfl
theorem f306_2079 : fetch 306 2079 = some (.iaload, 0, 0, 0) := v306_u7_4 (x := (2079, .iaload, 0, 0, 0)) (by decide) rfl
theorem f306_2080 : fetch 306 2080 = some (.invokevirtual 230, 164, 1, 0) := v306_u7_4 (x := (2080, .invokevirtual 230, 164, 1, 0)) (by decide) rfl
theorem f306_2083 : fetch 306 2083 = some (.aload_n 2, 0, 0, 0) := v306_u7_4 (x := (2083, .aload_n 2, 0, 0, 0)) (by decide) rfl
theorem f306_2084 : fetch 306 2084 = some (.aload_n 0, 0, 0, 0) := v306_u7_4 (x := (2084, .aload_n 0, 0, 0, 0)) (by decide) rfl
theorem f306_2085 : fetch 306 2085 = some (.iload_n 3, 0, 0, 0) := v306_u7_4 (x := (2085, .iload_n 3, 0, 0, 0)) (by decide) rfl
theorem f306_2086 : fetch 306 2086 = some (.iconst 1, 0, 0, 0) := v306_u7_4 (x := (2086, .iconst 1, 0, 0, 0)) (by decide) rfl
theorem f306_2087 : fetch 306 2087 = some (.iadd, 0, 0, 0) := v306_u7_4 (x := (2087, .iadd, 0, 0, 0)) (by decide) rfl
theorem f306_2088 : fetch 306 2088 = some (.iaload, 0, 0, 0) := v306_u7_4 (x := (2088, .iaload, 0, 0, 0)) (by decide) rfl
theorem f306_2089 : fetch 306 2089 = some (.invokevirtual 233, 304, 1, 0) := v306_u7_4 (x := (2089, .invokevirtual 233, 304, 1, 0)) (by decide) rfl
theorem f306_2092 : fetch 306 2092 = some (.if_icmp .eq 28, 2120, 0, 0) := v306_u7_4 (x := (2092, .if_icmp .eq 28, 2120, 0, 0)) (by decide) rfl
theorem f306_2095 : fetch 306 2095 = some (.iconst 0, 0, 0, 0) := v306_u7_4 (x := (2095, .iconst 0, 0, 0, 0)) (by decide) rfl
theorem f306_2096 : fetch 306 2096 = some (.ireturn, 0, 0, 1) := v306_u7_4 (x := (2096, .ireturn, 0, 0, 1)) (by decide) rfl
theorem f306_2097 : fetch 306 2097 = some (.aload_n 1, 0, 0, 0) := v306_u7_4 (x := (2097, .aload_n 1, 0, 0, 0)) (by decide) rfl
theorem f306_2098 : fetch 306 2098 = some (.aload_n 0, 0, 0, 0) := v306_u7_4 (x := (2098, .aload_n 0, 0, 0, 0)) (by decide) rfl
theorem f306_2099 : fetch 306 2099 = some (.iload_n 3, 0, 0, 0) := v306_u7_4 (x := (2099, .iload_n 3, 0, 0, 0)) (by decide) rfl
theorem f306_2100 : fetch 306 2100 = some (.iconst 1, 0, 0, 0) := v306_u7_4 (x := (2100, .iconst 1, 0, 0, 0)) (by decide) rfl
theorem f306_2101 : fetch 306 2101 = some (.iadd, 0, 0, 0) := v306_u7_4 (x := (2101, .iadd, 0, 0, 0)) (by decide) rfl
theorem f306_2102 : fetch 306 2102 = some (.iaload, 0, 0, 0) := v306_u7_4 (x := (2102, .iaload, 0, 0, 0)) (by decide) rfl
theorem f306_2103 : fetch 306 2103 = some (.invokevirtual 234, 165, 1, 0) := v306_u7_4 (x := (2103, .invokevirtual 234, 165, 1, 0)) (by decide) rfl
theorem f306_2106 : fetch 306 2106 = some (.aload_n 2, 0, 0, 0) := v306_u7_5 (x := (2106, .aload_n 2, 0, 0, 0)) (by decide) rfl
theorem f306_2107 : fetch 306 2107 = some (.aload_n 0, 0, 0, 0) := v306_u7_5 (x := (2107, .aload_n 0, 0, 0, 0)) (by decide) rfl
theorem f306_2108 : fetch 306 2108 = some (.iload_n 3, 0, 0, 0) := v306_u7_5 (x := (2108, .iload_n 3, 0, 0, 0)) (by decide) rfl
theorem f306_2109 : fetch 306 2109 = some (.iconst 1, 0, 0, 0) := v306_u7_5 (x := (2109, .iconst 1, 0, 0, 0)) (by decide) rfl
theorem f306_2110 : fetch 306 2110 = some (.iadd, 0, 0, 0) := v306_u7_5 (x := (2110, .iadd, 0, 0, 0)) (by decide) rfl
theorem f306_2111 : fetch 306 2111 = some (.iaload, 0, 0, 0) := v306_u7_5 (x := (2111, .iaload, 0, 0, 0)) (by decide) rfl
theorem f306_2112 : fetch 306 2112 = some (.invokevirtual 237, 305, 1, 0) := v306_u7_5 (x := (2112, .invokevirtual 237, 305, 1, 0)) (by decide) rfl
theorem f306_2115 : fetch 306 2115 = some (.if_icmp .eq 5, 2120, 0, 0) := v306_u7_5 (x := (2115, .if_icmp .eq 5, 2120, 0, 0)) (by decide) rfl
theorem f306_2118 : fetch 306 2118 = some (.iconst 0, 0, 0, 0) := v306_u7_5 (x := (2118, .iconst 0, 0, 0, 0)) (by decide) rfl
theorem f306_2119 : fetch 306 2119 = some (.ireturn, 0, 0, 1) := v306_u7_5 (x := (2119, .ireturn, 0, 0, 1)) (by decide) rfl
theorem f306_2120 : fetch 306 2120 = some (.iinc 3 8, 0, 0, 0) := v306_u7_5 (x := (2120, .iinc 3 8, 0, 0, 0)) (by decide) rfl
theorem f306_2123 : fetch 306 2123 = some (.goto (-2105), 18, 0, 0) := v306_u7_5 (x := (2123, .goto (-2105), 18, 0, 0)) (by decide) rfl
theorem f306_2126 : fetch 306 2126 = some (.iconst 1, 0, 0, 0) := v306_u7_5 (x := (2126, .iconst 1, 0, 0, 0)) (by decide) rfl
theorem f306_2127 : fetch 306 2127 = some (.ireturn, 0, 0, 1) := v306_u7_5 (x := (2127, .ireturn, 0, 0, 1)) (by decide) rfl

/-! the law: its rows, and the calls but act and logJoin -/
set_option maxRecDepth 100000 in
def pgL_law : MP := ([(0, 99, (Int.ofNat 0), 0, 0, 0), (3, 39, (Int.ofNat 0), 0, 0, 0), (4, 99, (Int.ofNat 0), 0, 0, 0), (7, 9, (Int.ofNat 0), 1, 1, 0), (8, 99, (Int.ofNat 0), 0, 0, 0), (11, 39, (Int.ofNat 0), 0, 0, 0), (12, 99, (Int.ofNat 0), 0, 0, 0), (15, 9, (Int.ofNat 0), 2, 1, 0), (16, 1, (Int.ofNat 1), 0, 0, 0), (17, 99, (Int.ofNat 0), 0, 0, 0), (19, 9, (Int.ofNat 0), 3, 1, 0), (20, 1, (Int.ofNat 0), 0, 0, 0), (21, 7, (Int.ofNat 0), 4, 0, 0), (23, 3, (Int.ofNat 0), 4, 0, 0), (25, 5, (Int.ofNat 0), 0, 1, 0), (26, 60, (Int.ofNat 0), 0, 0, 0), (27, 1, (Int.ofNat 7), 0, 1, 0), (29, 13, (Int.ofNat 0), 0, 0, 0), (30, 47, (Int.ofNat 0), 347, 4, 0), (33, 5, (Int.ofNat 0), 0, 1, 0), (34, 3, (Int.ofNat 0), 4, 0, 0), (36, 51, (Int.ofNat 0), 0, 0, 0), (37, 1, (Int.ofNat 15), 0, 1, 0), (39, 24, (Int.ofNat 0), 0, 0, 0), (40, 65, (Int.ofNat 0), 0, 60, 0), (100, 5, (Int.ofNat 0), 1, 1, 0), (101, 5, (Int.ofNat 0), 0, 1, 0), (102, 3, (Int.ofNat 0), 4, 0, 0), (104, 1, (Int.ofNat 1), 0, 0, 0), (105, 12, (Int.ofNat 0), 0, 0, 0), (106, 51, (Int.ofNat 0), 0, 0, 0), (107, 5, (Int.ofNat 0), 0, 1, 0), (108, 3, (Int.ofNat 0), 4, 0, 0), (110, 1, (Int.ofNat 2), 0, 0, 0), (111, 12, (Int.ofNat 0), 0, 0, 0), (112, 51, (Int.ofNat 0), 0, 0, 0), (113, 5, (Int.ofNat 0), 0, 1, 0), (114, 3, (Int.ofNat 0), 4, 0, 0), (116, 1, (Int.ofNat 3), 0, 0, 0), (117, 12, (Int.ofNat 0), 0, 0, 0), (118, 51, (Int.ofNat 0), 0, 0, 0), (119, 5, (Int.ofNat 0), 0, 1, 0), (120, 3, (Int.ofNat 0), 4, 0, 0), (122, 1, (Int.ofNat 4), 0, 0, 0), (123, 12, (Int.ofNat 0), 0, 0, 0), (124, 51, (Int.ofNat 0), 0, 0, 0), (125, 5, (Int.ofNat 0), 0, 1, 0), (126, 3, (Int.ofNat 0), 4, 0, 0), (128, 1, (Int.ofNat 5), 0, 0, 0), (129, 12, (Int.ofNat 0), 0, 0, 0), (130, 51, (Int.ofNat 0), 0, 0, 0), (131, 5, (Int.ofNat 0), 0, 1, 0), (132, 3, (Int.ofNat 0), 4, 0, 0), (134, 1, (Int.ofNat 6), 0, 1, 0), (136, 12, (Int.ofNat 0), 0, 0, 0), (137, 51, (Int.ofNat 0), 0, 0, 0), (138, 5, (Int.ofNat 0), 3, 1, 0), (139, 99, (Int.ofNat 0), 0, 0, 0), (142, 7, (Int.ofNat 0), 5, 0, 0), (144, 5, (Int.ofNat 0), 2, 1, 0), (145, 5, (Int.ofNat 0), 0, 1, 0), (146, 3, (Int.ofNat 0), 4, 0, 0), (148, 1, (Int.ofNat 1), 0, 0, 0), (149, 12, (Int.ofNat 0), 0, 0, 0), (150, 51, (Int.ofNat 0), 0, 0, 0), (151, 5, (Int.ofNat 0), 0, 1, 0), (152, 3, (Int.ofNat 0), 4, 0, 0), (154, 1, (Int.ofNat 2), 0, 0, 0), (155, 12, (Int.ofNat 0), 0, 0, 0), (156, 51, (Int.ofNat 0), 0, 0, 0), (157, 5, (Int.ofNat 0), 0, 1, 0), (158, 3, (Int.ofNat 0), 4, 0, 0), (160, 1, (Int.ofNat 3), 0, 0, 0), (161, 12, (Int.ofNat 0), 0, 0, 0), (162, 51, (Int.ofNat 0), 0, 0, 0), (163, 5, (Int.ofNat 0), 0, 1, 0), (164, 3, (Int.ofNat 0), 4, 0, 0), (166, 1, (Int.ofNat 4), 0, 0, 0), (167, 12, (Int.ofNat 0), 0, 0, 0), (168, 51, (Int.ofNat 0), 0, 0, 0), (169, 5, (Int.ofNat 0), 0, 1, 0), (170, 3, (Int.ofNat 0), 4, 0, 0), (172, 1, (Int.ofNat 5), 0, 0, 0), (173, 12, (Int.ofNat 0), 0, 0, 0), (174, 51, (Int.ofNat 0), 0, 0, 0), (175, 5, (Int.ofNat 0), 0, 1, 0), (176, 3, (Int.ofNat 0), 4, 0, 0), (178, 1, (Int.ofNat 6), 0, 1, 0), (180, 12, (Int.ofNat 0), 0, 0, 0), (181, 51, (Int.ofNat 0), 0, 0, 0), (182, 67, (Int.ofNat 30), 798, 0, 0), (185, 8, (Int.ofNat 0), 6, 0, 0), (187, 45, (Int.ofNat 0), 345, 0, 0), (190, 5, (Int.ofNat 0), 1, 1, 0), (191, 5, (Int.ofNat 0), 0, 1, 0), (192, 3, (Int.ofNat 0), 4, 0, 0), (194, 1, (Int.ofNat 1), 0, 0, 0), (195, 12, (Int.ofNat 0), 0, 0, 0), (196, 51, (Int.ofNat 0), 0, 0, 0), (197, 5, (Int.ofNat 0), 0, 1, 0), (198, 3, (Int.ofNat 0), 4, 0, 0), (200, 1, (Int.ofNat 2), 0, 0, 0), (201, 12, (Int.ofNat 0), 0, 0, 0), (202, 51, (Int.ofNat 0), 0, 0, 0), (203, 99, (Int.ofNat 0), 0, 0, 0), (204, 99, (Int.ofNat 0), 0, 0, 0), (207, 99, (Int.ofNat 0), 0, 0, 0), (208, 67, (Int.ofNat 33), 385, 0, 0), (211, 99, (Int.ofNat 0), 0, 0, 0), (213, 5, (Int.ofNat 0), 2, 1, 0), (214, 5, (Int.ofNat 0), 0, 1, 0), (215, 3, (Int.ofNat 0), 4, 0, 0), (217, 1, (Int.ofNat 1), 0, 0, 0), (218, 12, (Int.ofNat 0), 0, 0, 0), (219, 51, (Int.ofNat 0), 0, 0, 0), (220, 5, (Int.ofNat 0), 0, 1, 0), (221, 3, (Int.ofNat 0), 4, 0, 0), (223, 1, (Int.ofNat 2), 0, 0, 0), (224, 12, (Int.ofNat 0), 0, 0, 0), (225, 51, (Int.ofNat 0), 0, 0, 0), (226, 99, (Int.ofNat 0), 0, 0, 0), (227, 99, (Int.ofNat 0), 0, 0, 0), (230, 99, (Int.ofNat 0), 0, 0, 0), (231, 67, (Int.ofNat 37), 800, 0, 0), (234, 99, (Int.ofNat 0), 0, 0, 0), (236, 99, (Int.ofNat 0), 0, 0, 0), (238, 99, (Int.ofNat 0), 0, 0, 0), (240, 99, (Int.ofNat 0), 0, 0, 0), (241, 46, (Int.ofNat 0), 139, 0, 0), (244, 99, (Int.ofNat 0), 0, 0, 0), (246, 99, (Int.ofNat 0), 0, 0, 0), (248, 99, (Int.ofNat 0), 0, 0, 0), (249, 46, (Int.ofNat 0), 137, 0, 0), (252, 99, (Int.ofNat 0), 0, 0, 0), (254, 99, (Int.ofNat 0), 0, 0, 0), (256, 99, (Int.ofNat 0), 0, 0, 0), (257, 46, (Int.ofNat 0), 139, 1, 0), (260, 1, (Int.ofNat 0), 0, 0, 0), (261, 61, (Int.ofNat 0), 4, 0, 0), (262, 45, (Int.ofNat 0), 345, 0, 0), (265, 5, (Int.ofNat 0), 1, 1, 0), (266, 5, (Int.ofNat 0), 0, 1, 0), (267, 3, (Int.ofNat 0), 4, 0, 0), (269, 1, (Int.ofNat 1), 0, 0, 0), (270, 12, (Int.ofNat 0), 0, 0, 0), (271, 51, (Int.ofNat 0), 0, 0, 0), (272, 99, (Int.ofNat 0), 0, 0, 0), (273, 99, (Int.ofNat 0), 0, 0, 0), (276, 99, (Int.ofNat 0), 0, 0, 0), (277, 5, (Int.ofNat 0), 0, 1, 0), (278, 3, (Int.ofNat 0), 4, 0, 0), (280, 1, (Int.ofNat 2), 0, 0, 0), (281, 12, (Int.ofNat 0), 0, 0, 0), (282, 51, (Int.ofNat 0), 0, 0, 0), (283, 99, (Int.ofNat 0), 0, 0, 0), (284, 99, (Int.ofNat 0), 0, 0, 0), (287, 99, (Int.ofNat 0), 0, 0, 0), (288, 5, (Int.ofNat 0), 0, 1, 0), (289, 3, (Int.ofNat 0), 4, 0, 0), (291, 1, (Int.ofNat 3), 0, 0, 0), (292, 12, (Int.ofNat 0), 0, 0, 0), (293, 51, (Int.ofNat 0), 0, 0, 0), (294, 67, (Int.ofNat 38), 386, 0, 0), (297, 40, (Int.ofNat 0), 0, 0, 0), (298, 5, (Int.ofNat 0), 2, 1, 0), (299, 5, (Int.ofNat 0), 0, 1, 0), (300, 3, (Int.ofNat 0), 4, 0, 0), (302, 1, (Int.ofNat 1), 0, 0, 0), (303, 12, (Int.ofNat 0), 0, 0, 0), (304, 51, (Int.ofNat 0), 0, 0, 0), (305, 99, (Int.ofNat 0), 0, 0, 0), (306, 99, (Int.ofNat 0), 0, 0, 0), (309, 99, (Int.ofNat 0), 0, 0, 0), (310, 5, (Int.ofNat 0), 0, 1, 0), (311, 3, (Int.ofNat 0), 4, 0, 0), (313, 1, (Int.ofNat 2), 0, 0, 0), (314, 12, (Int.ofNat 0), 0, 0, 0), (315, 51, (Int.ofNat 0), 0, 0, 0), (316, 99, (Int.ofNat 0), 0, 0, 0), (317, 99, (Int.ofNat 0), 0, 0, 0), (320, 99, (Int.ofNat 0), 0, 0, 0), (321, 5, (Int.ofNat 0), 0, 1, 0), (322, 3, (Int.ofNat 0), 4, 0, 0), (324, 1, (Int.ofNat 3), 0, 0, 0), (325, 12, (Int.ofNat 0), 0, 0, 0), (326, 51, (Int.ofNat 0), 0, 0, 0), (327, 67, (Int.ofNat 42), 801, 0, 0), (330, 40, (Int.ofNat 0), 0, 0, 0), (331, 45, (Int.ofNat 0), 345, 0, 0), (334, 5, (Int.ofNat 0), 1, 1, 0), (335, 5, (Int.ofNat 0), 0, 1, 0), (336, 3, (Int.ofNat 0), 4, 0, 0), (338, 1, (Int.ofNat 1), 0, 0, 0), (339, 12, (Int.ofNat 0), 0, 0, 0), (340, 51, (Int.ofNat 0), 0, 0, 0), (341, 67, (Int.ofNat 43), 387, 0, 0), (344, 99, (Int.ofNat 0), 0, 0, 0), (346, 5, (Int.ofNat 0), 2, 1, 0), (347, 5, (Int.ofNat 0), 0, 1, 0), (348, 3, (Int.ofNat 0), 4, 0, 0), (350, 1, (Int.ofNat 1), 0, 0, 0), (351, 12, (Int.ofNat 0), 0, 0, 0), (352, 51, (Int.ofNat 0), 0, 0, 0), (353, 67, (Int.ofNat 47), 802, 0, 0), (356, 99, (Int.ofNat 0), 0, 0, 0), (358, 45, (Int.ofNat 0), 345, 0, 0), (361, 5, (Int.ofNat 0), 1, 1, 0), (362, 5, (Int.ofNat 0), 0, 1, 0), (363, 3, (Int.ofNat 0), 4, 0, 0), (365, 1, (Int.ofNat 1), 0, 0, 0), (366, 12, (Int.ofNat 0), 0, 0, 0), (367, 51, (Int.ofNat 0), 0, 0, 0), (368, 5, (Int.ofNat 0), 0, 1, 0), (369, 3, (Int.ofNat 0), 4, 0, 0), (371, 1, (Int.ofNat 2), 0, 0, 0), (372, 12, (Int.ofNat 0), 0, 0, 0), (373, 51, (Int.ofNat 0), 0, 0, 0), (374, 67, (Int.ofNat 48), 388, 0, 0), (377, 40, (Int.ofNat 0), 0, 0, 0), (378, 5, (Int.ofNat 0), 2, 1, 0), (379, 5, (Int.ofNat 0), 0, 1, 0), (380, 3, (Int.ofNat 0), 4, 0, 0), (382, 1, (Int.ofNat 1), 0, 0, 0), (383, 12, (Int.ofNat 0), 0, 0, 0), (384, 51, (Int.ofNat 0), 0, 0, 0), (385, 5, (Int.ofNat 0), 0, 1, 0), (386, 3, (Int.ofNat 0), 4, 0, 0), (388, 1, (Int.ofNat 2), 0, 0, 0), (389, 12, (Int.ofNat 0), 0, 0, 0), (390, 51, (Int.ofNat 0), 0, 0, 0), (391, 67, (Int.ofNat 52), 805, 0, 0), (394, 40, (Int.ofNat 0), 0, 0, 0), (395, 45, (Int.ofNat 0), 345, 0, 0), (398, 5, (Int.ofNat 0), 1, 1, 0), (399, 5, (Int.ofNat 0), 0, 1, 0), (400, 3, (Int.ofNat 0), 4, 0, 0), (402, 1, (Int.ofNat 1), 0, 0, 0), (403, 12, (Int.ofNat 0), 0, 0, 0), (404, 51, (Int.ofNat 0), 0, 0, 0), (405, 5, (Int.ofNat 0), 0, 1, 0), (406, 3, (Int.ofNat 0), 4, 0, 0), (408, 1, (Int.ofNat 2), 0, 0, 0), (409, 12, (Int.ofNat 0), 0, 0, 0), (410, 51, (Int.ofNat 0), 0, 0, 0), (411, 67, (Int.ofNat 53), 389, 0, 0), (414, 40, (Int.ofNat 0), 0, 0, 0), (415, 5, (Int.ofNat 0), 2, 1, 0), (416, 5, (Int.ofNat 0), 0, 1, 0), (417, 3, (Int.ofNat 0), 4, 0, 0), (419, 1, (Int.ofNat 1), 0, 0, 0), (420, 12, (Int.ofNat 0), 0, 0, 0), (421, 51, (Int.ofNat 0), 0, 0, 0), (422, 5, (Int.ofNat 0), 0, 1, 0), (423, 3, (Int.ofNat 0), 4, 0, 0), (425, 1, (Int.ofNat 2), 0, 0, 0), (426, 12, (Int.ofNat 0), 0, 0, 0), (427, 51, (Int.ofNat 0), 0, 0, 0), (428, 67, (Int.ofNat 56), 807, 0, 0), (431, 40, (Int.ofNat 0), 0, 0, 0), (432, 45, (Int.ofNat 0), 345, 0, 0), (435, 5, (Int.ofNat 0), 1, 1, 0), (436, 5, (Int.ofNat 0), 0, 1, 0), (437, 3, (Int.ofNat 0), 4, 0, 0), (439, 1, (Int.ofNat 1), 0, 0, 0), (440, 12, (Int.ofNat 0), 0, 0, 0), (441, 51, (Int.ofNat 0), 0, 0, 0), (442, 67, (Int.ofNat 57), 391, 0, 0), (445, 40, (Int.ofNat 0), 0, 0, 0), (446, 5, (Int.ofNat 0), 2, 1, 0), (447, 5, (Int.ofNat 0), 0, 1, 0), (448, 3, (Int.ofNat 0), 4, 0, 0), (450, 1, (Int.ofNat 1), 0, 0, 0), (451, 12, (Int.ofNat 0), 0, 0, 0), (452, 51, (Int.ofNat 0), 0, 0, 0), (453, 67, (Int.ofNat 61), 808, 0, 0), (456, 40, (Int.ofNat 0), 0, 0, 0), (457, 45, (Int.ofNat 0), 345, 0, 0), (460, 5, (Int.ofNat 0), 1, 1, 0), (461, 5, (Int.ofNat 0), 0, 1, 0), (462, 3, (Int.ofNat 0), 4, 0, 0), (464, 1, (Int.ofNat 1), 0, 0, 0), (465, 12, (Int.ofNat 0), 0, 0, 0), (466, 51, (Int.ofNat 0), 0, 0, 0), (467, 67, (Int.ofNat 62), 392, 0, 0), (470, 40, (Int.ofNat 0), 0, 0, 0), (471, 5, (Int.ofNat 0), 2, 1, 0), (472, 5, (Int.ofNat 0), 0, 1, 0), (473, 3, (Int.ofNat 0), 4, 0, 0), (475, 1, (Int.ofNat 1), 0, 0, 0), (476, 12, (Int.ofNat 0), 0, 0, 0), (477, 51, (Int.ofNat 0), 0, 0, 0), (478, 67, (Int.ofNat 65), 809, 0, 0), (481, 40, (Int.ofNat 0), 0, 0, 0), (482, 45, (Int.ofNat 0), 345, 0, 0), (485, 5, (Int.ofNat 0), 1, 1, 0), (486, 5, (Int.ofNat 0), 0, 1, 0), (487, 3, (Int.ofNat 0), 4, 0, 0), (489, 1, (Int.ofNat 1), 0, 0, 0), (490, 12, (Int.ofNat 0), 0, 0, 0), (491, 51, (Int.ofNat 0), 0, 0, 0), (492, 67, (Int.ofNat 66), 393, 0, 0), (495, 40, (Int.ofNat 0), 0, 0, 0), (496, 5, (Int.ofNat 0), 2, 1, 0), (497, 5, (Int.ofNat 0), 0, 1, 0), (498, 3, (Int.ofNat 0), 4, 0, 0), (500, 1, (Int.ofNat 1), 0, 0, 0), (501, 12, (Int.ofNat 0), 0, 0, 0), (502, 51, (Int.ofNat 0), 0, 0, 0), (503, 67, (Int.ofNat 69), 810, 0, 0), (506, 40, (Int.ofNat 0), 0, 0, 0), (507, 45, (Int.ofNat 0), 345, 0, 0), (510, 5, (Int.ofNat 0), 1, 1, 0), (511, 5, (Int.ofNat 0), 0, 1, 0), (512, 3, (Int.ofNat 0), 4, 0, 0), (514, 1, (Int.ofNat 1), 0, 0, 0), (515, 12, (Int.ofNat 0), 0, 0, 0), (516, 51, (Int.ofNat 0), 0, 0, 0), (517, 67, (Int.ofNat 70), 395, 0, 0), (520, 40, (Int.ofNat 0), 0, 0, 0), (521, 5, (Int.ofNat 0), 2, 1, 0), (522, 5, (Int.ofNat 0), 0, 1, 0), (523, 3, (Int.ofNat 0), 4, 0, 0), (525, 1, (Int.ofNat 1), 0, 0, 0), (526, 12, (Int.ofNat 0), 0, 0, 0), (527, 51, (Int.ofNat 0), 0, 0, 0), (528, 67, (Int.ofNat 73), 811, 0, 0), (531, 40, (Int.ofNat 0), 0, 0, 0), (532, 45, (Int.ofNat 0), 345, 0, 0), (535, 5, (Int.ofNat 0), 1, 1, 0), (536, 5, (Int.ofNat 0), 0, 1, 0), (537, 3, (Int.ofNat 0), 4, 0, 0), (539, 1, (Int.ofNat 1), 0, 0, 0), (540, 12, (Int.ofNat 0), 0, 0, 0), (541, 51, (Int.ofNat 0), 0, 0, 0), (542, 67, (Int.ofNat 74), 396, 0, 0), (545, 40, (Int.ofNat 0), 0, 0, 0), (546, 5, (Int.ofNat 0), 2, 1, 0), (547, 5, (Int.ofNat 0), 0, 1, 0), (548, 3, (Int.ofNat 0), 4, 0, 0), (550, 1, (Int.ofNat 1), 0, 0, 0), (551, 12, (Int.ofNat 0), 0, 0, 0), (552, 51, (Int.ofNat 0), 0, 0, 0), (553, 67, (Int.ofNat 77), 812, 0, 0), (556, 40, (Int.ofNat 0), 0, 0, 0), (557, 45, (Int.ofNat 0), 345, 0, 0), (560, 11, (Int.ofNat 7), 4, 0, 0), (563, 45, (Int.ofNat 0), 13, 0, 0), (566, 1, (Int.ofNat 1), 0, 0, 0), (567, 61, (Int.ofNat 0), 4, 0, 0)], [(0, [345, 25, 93, 140, 189, 206, 233, 260, 277, 294, 311, 328])])
set_option maxRecDepth 100000 in
theorem pkL_law : okP KL_law 21 pgL_law = true := by decide +kernel
abbrev L0 (i : Int) : List (Nat × MV) := [(0, (2, ((0 : Nat) : Int))), (1, (2, ((4 : Nat) : Int))), (2, (2, ((2448 : Nat) : Int))), (3, (2, ((2627 : Nat) : Int))), (4, (0, i))]
/-- the room that is left, n calls done -/
theorem rm_g {x y p ms ms' : Nat} (h : x + y + p ≤ ms) (k : ms ≤ ms' + y) : x + p ≤ ms' := by omega
theorem rm_dn {n p ms ms' : Nat} (hn : n ≤ 63) (h : (64 - n) * 96000 + p ≤ ms) (k : ms ≤ ms' + 96000) : (64 - (n + 1)) * 96000 + p ≤ ms' := by
  have e1 : 64 - n = 64 - (n + 1) + 1 := by omega
  rw [e1, Nat.add_mul, Nat.one_mul] at h
  exact rm_g h k
theorem rm_h {x y a p p' ms : Nat} (h : x + y + p ≤ ms) (k : a + p' ≤ y + p) : x + p' ≤ ms - a := by omega
theorem rm_act {n a p p' ms : Nat} (hn : n ≤ 63) (h : (64 - n) * 96000 + p ≤ ms) (k : a + p' ≤ 96000 + p) : (64 - (n + 1)) * 96000 + p' ≤ ms - a := by
  have e1 : 64 - n = 64 - (n + 1) + 1 := by omega
  rw [e1, Nat.add_mul, Nat.one_mul] at h
  exact rm_h h k
theorem rm_0 (ms a b : Nat) (h : a + b ≤ 96000) : ms ≤ ms - a - b + 96000 := by omega
def RM (n : Nat) (h : MH) (mc ms : Nat) : Prop := (64 - n) * 8 ≤ mc ∧ (64 - n) * 96000 + Phi h ≤ ms
variable {Qr : MO → MH → Prop}

set_option maxRecDepth 20000 in
set_option maxHeartbeats 4000000 in
theorem lw_case2 {h : MH} {N n mc ms : Nat} {i : Int} (i0 : 0 ≤ i) (i7 : i + 7 ≤ (N : Int)) (hN : N ≤ 448) (I : LI N n h) (hn : n ≤ 63) (hm : RM n h mc ms) (kk : ∀ (h' : MH) (mc' ms' : Nat), LI N (n + 1) h' → RM (n + 1) h' mc' ms' → MW KL_law Qr mc' ms' (pcA pgL_law 345) (L0 i) [] h') : MW KL_law Qr mc ms (pcA pgL_law 140) (L0 i) [] h := by
  unfold RM at hm
  obtain ⟨hm1, hm2⟩ := hm
  refine hd_aload pkL_law rfl rfl (Int.natCast_nonneg _) ?_
  refine hd_aload pkL_law rfl rfl (Int.natCast_nonneg _) ?_
  refine hd_iload pkL_law rfl rfl ?_
  refine hd_ipush (z := 1) pkL_law rfl ?_
  refine hd_iadd pkL_law rfl (by omega) ?_
  refine hd_iald (c := 0) (n := N) pkL_law rfl I.c0 (by omega) (by omega) (fun v1 ev1 rv1 => ?_)
  refine m_i2d (K := KL_law) (by decide +kernel) ?_
  refine hd_pc (by decide +kernel : pcA pgL_law 146 + 1 = pcA pgL_law 147) ?_
  refine m_ldc2d (K := KL_law) (v := 4593671619917905920) (by decide +kernel) lcL_31 ?_
  refine hd_pc (by decide +kernel : pcA pgL_law 147 + 3 = pcA pgL_law 148) ?_
  refine m_dmul (K := KL_law) rfl (by decide +kernel) (fun r2 ar2 => ?_)
  refine hd_pc (by decide +kernel : pcA pgL_law 148 + 1 = pcA pgL_law 149) ?_
  refine hd_aload pkL_law rfl rfl (Int.natCast_nonneg _) ?_
  refine hd_iload pkL_law rfl rfl ?_
  refine hd_ipush (z := 2) pkL_law rfl ?_
  refine hd_iadd pkL_law rfl (by omega) ?_
  refine hd_iald (c := 0) (n := N) pkL_law rfl I.c0 (by omega) (by omega) (fun v3 ev3 rv3 => ?_)
  refine m_i2d (K := KL_law) (by decide +kernel) ?_
  refine hd_pc (by decide +kernel : pcA pgL_law 154 + 1 = pcA pgL_law 155) ?_
  refine m_ldc2d (K := KL_law) (v := 4593671619917905920) (by decide +kernel) lcL_31 ?_
  refine hd_pc (by decide +kernel : pcA pgL_law 155 + 3 = pcA pgL_law 156) ?_
  refine m_dmul (K := KL_law) rfl (by decide +kernel) (fun r4 ar4 => ?_)
  refine hd_pc (by decide +kernel : pcA pgL_law 156 + 1 = pcA pgL_law 157) ?_
  refine hd_aload pkL_law rfl rfl (Int.natCast_nonneg _) ?_
  refine hd_iload pkL_law rfl rfl ?_
  refine hd_ipush (z := 3) pkL_law rfl ?_
  refine hd_iadd pkL_law rfl (by omega) ?_
  refine hd_iald (c := 0) (n := N) pkL_law rfl I.c0 (by omega) (by omega) (fun v5 ev5 rv5 => ?_)
  refine hd_callR pkL_law rfl (q := (KX11_crack, yX11_crack, 11, 3, 0)) rfl rfl (by decide +kernel) (As := [(3, (r2.toNat : Int)), (3, (r4.toNat : Int)), (0, v5)]) (rest := []) (c := 4) rfl rfl (Nat.le_of_ble_eq_true rfl) I.c4.1 I.c4.2 (by omega) (by omega) (ap_X11_crack I.1 ((r2.toNat : Int)) ((r4.toNat : Int)) (v5)) (hd_bI (fun w8 h6 p7 => ?_))
  obtain ⟨I9, qI9⟩ := I.frm dl_X11_crack p7.2 p7.1
  refine hd_pop pkL_law rfl rfl ?_
  refine hd_aload pkL_law rfl rfl (Int.natCast_nonneg _) ?_
  refine hd_aload pkL_law rfl rfl (Int.natCast_nonneg _) ?_
  refine hd_iload pkL_law rfl rfl ?_
  refine hd_ipush (z := 1) pkL_law rfl ?_
  refine hd_iadd pkL_law rfl (by omega) ?_
  refine hd_iald (c := 0) (n := N) pkL_law rfl I9.c0 (by omega) (by omega) (fun v10 ev10 rv10 => ?_)
  refine m_i2d (K := KL_law) (by decide +kernel) ?_
  refine hd_pc (by decide +kernel : pcA pgL_law 170 + 1 = pcA pgL_law 171) ?_
  refine m_ldc2d (K := KL_law) (v := 4593671619917905920) (by decide +kernel) lcL_31 ?_
  refine hd_pc (by decide +kernel : pcA pgL_law 171 + 3 = pcA pgL_law 172) ?_
  refine m_dmul (K := KL_law) rfl (by decide +kernel) (fun r11 ar11 => ?_)
  refine hd_pc (by decide +kernel : pcA pgL_law 172 + 1 = pcA pgL_law 173) ?_
  refine hd_aload pkL_law rfl rfl (Int.natCast_nonneg _) ?_
  refine hd_iload pkL_law rfl rfl ?_
  refine hd_ipush (z := 2) pkL_law rfl ?_
  refine hd_iadd pkL_law rfl (by omega) ?_
  refine hd_iald (c := 0) (n := N) pkL_law rfl I9.c0 (by omega) (by omega) (fun v12 ev12 rv12 => ?_)
  refine m_i2d (K := KL_law) (by decide +kernel) ?_
  refine hd_pc (by decide +kernel : pcA pgL_law 178 + 1 = pcA pgL_law 179) ?_
  refine m_ldc2d (K := KL_law) (v := 4593671619917905920) (by decide +kernel) lcL_31 ?_
  refine hd_pc (by decide +kernel : pcA pgL_law 179 + 3 = pcA pgL_law 180) ?_
  refine m_dmul (K := KL_law) rfl (by decide +kernel) (fun r13 ar13 => ?_)
  refine hd_pc (by decide +kernel : pcA pgL_law 180 + 1 = pcA pgL_law 181) ?_
  refine hd_aload pkL_law rfl rfl (Int.natCast_nonneg _) ?_
  refine hd_iload pkL_law rfl rfl ?_
  refine hd_ipush (z := 3) pkL_law rfl ?_
  refine hd_iadd pkL_law rfl (by omega) ?_
  refine hd_iald (c := 0) (n := N) pkL_law rfl I9.c0 (by omega) (by omega) (fun v14 ev14 rv14 => ?_)
  refine hd_callR pkL_law rfl (q := (KX20_crack, yX20_crack, 20, 3, 0)) rfl rfl (by decide +kernel) (As := [(3, (r11.toNat : Int)), (3, (r13.toNat : Int)), (0, v14)]) (rest := []) (c := 2448) rfl rfl (Nat.le_of_ble_eq_true rfl) I9.cR.1 I9.cR.2 (by omega) (by omega) (ap_X20_crack I9.1 ((r11.toNat : Int)) ((r13.toNat : Int)) (v14)) (hd_bI (fun w17 h15 p16 => ?_))
  obtain ⟨I18, qI18⟩ := I9.frm dl_X20_crack p16.2 p16.1
  refine hd_pop pkL_law rfl rfl ?_
  refine hd_goto pkL_law rfl ?_
  refine kk _ _ _ (I18.up (by omega)) ⟨?_, ?_⟩
  · omega
  · rw [qI18, qI9]
    exact rm_dn hn hm2 (rm_0 _ _ _ (by decide))
set_option maxRecDepth 20000 in
set_option maxHeartbeats 4000000 in
theorem lw_case3 {h : MH} {N n mc ms : Nat} {i : Int} (i0 : 0 ≤ i) (i7 : i + 7 ≤ (N : Int)) (hN : N ≤ 448) (I : LI N n h) (hn : n ≤ 63) (hm : RM n h mc ms) (kk : ∀ (h' : MH) (mc' ms' : Nat), LI N (n + 1) h' → RM (n + 1) h' mc' ms' → MW KL_law Qr mc' ms' (pcA pgL_law 345) (L0 i) [] h') : MW KL_law Qr mc ms (pcA pgL_law 189) (L0 i) [] h := by
  unfold RM at hm
  obtain ⟨hm1, hm2⟩ := hm
  refine hd_aload pkL_law rfl rfl (Int.natCast_nonneg _) ?_
  refine hd_aload pkL_law rfl rfl (Int.natCast_nonneg _) ?_
  refine hd_iload pkL_law rfl rfl ?_
  refine hd_ipush (z := 1) pkL_law rfl ?_
  refine hd_iadd pkL_law rfl (by omega) ?_
  refine hd_iald (c := 0) (n := N) pkL_law rfl I.c0 (by omega) (by omega) (fun v1 ev1 rv1 => ?_)
  refine hd_callR pkL_law rfl (q := (KX11_crackAt, yX11_crackAt, 11, 1, 0)) rfl rfl (by decide +kernel) (As := [(0, v1)]) (rest := []) (c := 4) rfl rfl (Nat.le_of_ble_eq_true rfl) I.c4.1 I.c4.2 (by omega) (by omega) (ap_X11_crackAt I.1 (v1)) (hd_bD (fun w4 h2 p3 => ?_))
  obtain ⟨I5, qI5⟩ := I.frm dl_X11_crackAt p3.2 p3.1
  refine m_dstore (K := KL_law) (i := 5) (pcA pgL_law 197) (by decide +kernel) (by decide +kernel) (by decide) ?_
  refine hd_aload pkL_law rfl rfl (Int.natCast_nonneg _) ?_
  refine hd_aload pkL_law rfl rfl (Int.natCast_nonneg _) ?_
  refine hd_iload pkL_law rfl rfl ?_
  refine hd_ipush (z := 1) pkL_law rfl ?_
  refine hd_iadd pkL_law rfl (by omega) ?_
  refine hd_iald (c := 0) (n := N) pkL_law rfl I5.c0 (by omega) (by omega) (fun v6 ev6 rv6 => ?_)
  refine hd_callR pkL_law rfl (q := (KX20_crackAt, yX20_crackAt, 20, 1, 0)) rfl rfl (by decide +kernel) (As := [(0, v6)]) (rest := []) (c := 2448) rfl rfl (Nat.le_of_ble_eq_true rfl) I5.cR.1 I5.cR.2 (by omega) (by omega) (ap_X20_crackAt I5.1 (v6)) (hd_bD (fun w9 h7 p8 => ?_))
  obtain ⟨I10, qI10⟩ := I5.frm dl_X20_crackAt p8.2 p8.1
  refine m_dstore (K := KL_law) (i := 7) (pcA pgL_law 205) (by decide +kernel) (by decide +kernel) (by decide) ?_
  refine hd_goto pkL_law rfl ?_
  refine m_sub (L0 i) (List.forall_mem_cons.mpr ⟨rfl, List.forall_mem_cons.mpr ⟨rfl, List.forall_mem_cons.mpr ⟨rfl, List.forall_mem_cons.mpr ⟨rfl, List.forall_mem_cons.mpr ⟨rfl, fun _ z => absurd z List.not_mem_nil⟩⟩⟩⟩⟩) ?_
  refine kk _ _ _ (I10.up (by omega)) ⟨?_, ?_⟩
  · omega
  · rw [qI10, qI5]
    exact rm_dn hn hm2 (rm_0 _ _ _ (by decide))
set_option maxRecDepth 20000 in
set_option maxHeartbeats 4000000 in
theorem lw_case4 {h : MH} {N n mc ms : Nat} {i : Int} (i0 : 0 ≤ i) (i7 : i + 7 ≤ (N : Int)) (hN : N ≤ 448) (I : LI N n h) (hn : n ≤ 63) (hm : RM n h mc ms) (kk : ∀ (h' : MH) (mc' ms' : Nat), LI N (n + 1) h' → RM (n + 1) h' mc' ms' → MW KL_law Qr mc' ms' (pcA pgL_law 345) (L0 i) [] h') : MW KL_law Qr mc ms (pcA pgL_law 206) (L0 i) [] h := by
  unfold RM at hm
  obtain ⟨hm1, hm2⟩ := hm
  refine hd_aload pkL_law rfl rfl (Int.natCast_nonneg _) ?_
  refine hd_aload pkL_law rfl rfl (Int.natCast_nonneg _) ?_
  refine hd_iload pkL_law rfl rfl ?_
  refine hd_ipush (z := 1) pkL_law rfl ?_
  refine hd_iadd pkL_law rfl (by omega) ?_
  refine hd_iald (c := 0) (n := N) pkL_law rfl I.c0 (by omega) (by omega) (fun v1 ev1 rv1 => ?_)
  refine hd_aload pkL_law rfl rfl (Int.natCast_nonneg _) ?_
  refine hd_iload pkL_law rfl rfl ?_
  refine hd_ipush (z := 2) pkL_law rfl ?_
  refine hd_iadd pkL_law rfl (by omega) ?_
  refine hd_iald (c := 0) (n := N) pkL_law rfl I.c0 (by omega) (by omega) (fun v2 ev2 rv2 => ?_)
  refine hd_callR pkL_law rfl (q := (KX11_earth, yX11_earth, 11, 2, 0)) rfl rfl (by decide +kernel) (As := [(0, v1), (0, v2)]) (rest := []) (c := 4) rfl rfl (Nat.le_of_ble_eq_true rfl) I.c4.1 I.c4.2 (by omega) (by omega) (ap_X11_earth I.1 (v1) (v2)) (hd_bI (fun w5 h3 p4 => ?_))
  obtain ⟨I6, qI6⟩ := I.frm dl_X11_earth p4.2 p4.1
  refine hd_pop pkL_law rfl rfl ?_
  refine hd_aload pkL_law rfl rfl (Int.natCast_nonneg _) ?_
  refine hd_aload pkL_law rfl rfl (Int.natCast_nonneg _) ?_
  refine hd_iload pkL_law rfl rfl ?_
  refine hd_ipush (z := 1) pkL_law rfl ?_
  refine hd_iadd pkL_law rfl (by omega) ?_
  refine hd_iald (c := 0) (n := N) pkL_law rfl I6.c0 (by omega) (by omega) (fun v7 ev7 rv7 => ?_)
  refine hd_aload pkL_law rfl rfl (Int.natCast_nonneg _) ?_
  refine hd_iload pkL_law rfl rfl ?_
  refine hd_ipush (z := 2) pkL_law rfl ?_
  refine hd_iadd pkL_law rfl (by omega) ?_
  refine hd_iald (c := 0) (n := N) pkL_law rfl I6.c0 (by omega) (by omega) (fun v8 ev8 rv8 => ?_)
  refine hd_callR pkL_law rfl (q := (KX20_earth, yX20_earth, 20, 2, 0)) rfl rfl (by decide +kernel) (As := [(0, v7), (0, v8)]) (rest := []) (c := 2448) rfl rfl (Nat.le_of_ble_eq_true rfl) I6.cR.1 I6.cR.2 (by omega) (by omega) (ap_X20_earth I6.1 (v7) (v8)) (hd_bI (fun w11 h9 p10 => ?_))
  obtain ⟨I12, qI12⟩ := I6.frm dl_X20_earth p10.2 p10.1
  refine hd_pop pkL_law rfl rfl ?_
  refine hd_goto pkL_law rfl ?_
  refine kk _ _ _ (I12.up (by omega)) ⟨?_, ?_⟩
  · omega
  · rw [qI12, qI6]
    exact rm_dn hn hm2 (rm_0 _ _ _ (by decide))
set_option maxRecDepth 20000 in
set_option maxHeartbeats 4000000 in
theorem lw_case5 {h : MH} {N n mc ms : Nat} {i : Int} (i0 : 0 ≤ i) (i7 : i + 7 ≤ (N : Int)) (hN : N ≤ 448) (I : LI N n h) (hn : n ≤ 63) (hm : RM n h mc ms) (kk : ∀ (h' : MH) (mc' ms' : Nat), LI N (n + 1) h' → RM (n + 1) h' mc' ms' → MW KL_law Qr mc' ms' (pcA pgL_law 345) (L0 i) [] h') : MW KL_law Qr mc ms (pcA pgL_law 233) (L0 i) [] h := by
  unfold RM at hm
  obtain ⟨hm1, hm2⟩ := hm
  refine hd_aload pkL_law rfl rfl (Int.natCast_nonneg _) ?_
  refine hd_aload pkL_law rfl rfl (Int.natCast_nonneg _) ?_
  refine hd_iload pkL_law rfl rfl ?_
  refine hd_ipush (z := 1) pkL_law rfl ?_
  refine hd_iadd pkL_law rfl (by omega) ?_
  refine hd_iald (c := 0) (n := N) pkL_law rfl I.c0 (by omega) (by omega) (fun v1 ev1 rv1 => ?_)
  refine hd_aload pkL_law rfl rfl (Int.natCast_nonneg _) ?_
  refine hd_iload pkL_law rfl rfl ?_
  refine hd_ipush (z := 2) pkL_law rfl ?_
  refine hd_iadd pkL_law rfl (by omega) ?_
  refine hd_iald (c := 0) (n := N) pkL_law rfl I.c0 (by omega) (by omega) (fun v2 ev2 rv2 => ?_)
  refine hd_callR pkL_law rfl (q := (KX11_bridge, yX11_bridge, 11, 2, 0)) rfl rfl (by decide +kernel) (As := [(0, v1), (0, v2)]) (rest := []) (c := 4) rfl rfl (Nat.le_of_ble_eq_true rfl) I.c4.1 I.c4.2 (by omega) (by omega) (ap_X11_bridge I.1 (v1) (v2)) (hd_bI (fun w5 h3 p4 => ?_))
  obtain ⟨I6, qI6⟩ := I.frm dl_X11_bridge p4.2 p4.1
  refine hd_pop pkL_law rfl rfl ?_
  refine hd_aload pkL_law rfl rfl (Int.natCast_nonneg _) ?_
  refine hd_aload pkL_law rfl rfl (Int.natCast_nonneg _) ?_
  refine hd_iload pkL_law rfl rfl ?_
  refine hd_ipush (z := 1) pkL_law rfl ?_
  refine hd_iadd pkL_law rfl (by omega) ?_
  refine hd_iald (c := 0) (n := N) pkL_law rfl I6.c0 (by omega) (by omega) (fun v7 ev7 rv7 => ?_)
  refine hd_aload pkL_law rfl rfl (Int.natCast_nonneg _) ?_
  refine hd_iload pkL_law rfl rfl ?_
  refine hd_ipush (z := 2) pkL_law rfl ?_
  refine hd_iadd pkL_law rfl (by omega) ?_
  refine hd_iald (c := 0) (n := N) pkL_law rfl I6.c0 (by omega) (by omega) (fun v8 ev8 rv8 => ?_)
  refine hd_callR pkL_law rfl (q := (KX20_bridge, yX20_bridge, 20, 2, 0)) rfl rfl (by decide +kernel) (As := [(0, v7), (0, v8)]) (rest := []) (c := 2448) rfl rfl (Nat.le_of_ble_eq_true rfl) I6.cR.1 I6.cR.2 (by omega) (by omega) (ap_X20_bridge I6.1 (v7) (v8)) (hd_bI (fun w11 h9 p10 => ?_))
  obtain ⟨I12, qI12⟩ := I6.frm dl_X20_bridge p10.2 p10.1
  refine hd_pop pkL_law rfl rfl ?_
  refine hd_goto pkL_law rfl ?_
  refine kk _ _ _ (I12.up (by omega)) ⟨?_, ?_⟩
  · omega
  · rw [qI12, qI6]
    exact rm_dn hn hm2 (rm_0 _ _ _ (by decide))
set_option maxRecDepth 20000 in
set_option maxHeartbeats 4000000 in
theorem lw_case6 {h : MH} {N n mc ms : Nat} {i : Int} (i0 : 0 ≤ i) (i7 : i + 7 ≤ (N : Int)) (hN : N ≤ 448) (I : LI N n h) (hn : n ≤ 63) (hm : RM n h mc ms) (kk : ∀ (h' : MH) (mc' ms' : Nat), LI N (n + 1) h' → RM (n + 1) h' mc' ms' → MW KL_law Qr mc' ms' (pcA pgL_law 345) (L0 i) [] h') : MW KL_law Qr mc ms (pcA pgL_law 260) (L0 i) [] h := by
  unfold RM at hm
  obtain ⟨hm1, hm2⟩ := hm
  refine hd_aload pkL_law rfl rfl (Int.natCast_nonneg _) ?_
  refine hd_aload pkL_law rfl rfl (Int.natCast_nonneg _) ?_
  refine hd_iload pkL_law rfl rfl ?_
  refine hd_ipush (z := 1) pkL_law rfl ?_
  refine hd_iadd pkL_law rfl (by omega) ?_
  refine hd_iald (c := 0) (n := N) pkL_law rfl I.c0 (by omega) (by omega) (fun v1 ev1 rv1 => ?_)
  refine hd_callR pkL_law rfl (q := (KX11_rowOf, yX11_rowOf, 11, 1, 0)) rfl rfl (by decide +kernel) (As := [(0, v1)]) (rest := []) (c := 4) rfl rfl (Nat.le_of_ble_eq_true rfl) I.c4.1 I.c4.2 (by omega) (by omega) (ap_X11_rowOf I.1 (v1)) (hd_bI (fun w4 h2 p3 => ?_))
  obtain ⟨I5, qI5⟩ := I.frm dl_X11_rowOf p3.2 p3.1
  refine hd_pop pkL_law rfl rfl ?_
  refine hd_aload pkL_law rfl rfl (Int.natCast_nonneg _) ?_
  refine hd_aload pkL_law rfl rfl (Int.natCast_nonneg _) ?_
  refine hd_iload pkL_law rfl rfl ?_
  refine hd_ipush (z := 1) pkL_law rfl ?_
  refine hd_iadd pkL_law rfl (by omega) ?_
  refine hd_iald (c := 0) (n := N) pkL_law rfl I5.c0 (by omega) (by omega) (fun v6 ev6 rv6 => ?_)
  refine hd_callR pkL_law rfl (q := (KX20_rowOf, yX20_rowOf, 20, 1, 0)) rfl rfl (by decide +kernel) (As := [(0, v6)]) (rest := []) (c := 2448) rfl rfl (Nat.le_of_ble_eq_true rfl) I5.cR.1 I5.cR.2 (by omega) (by omega) (ap_X20_rowOf I5.1 (v6)) (hd_bI (fun w9 h7 p8 => ?_))
  obtain ⟨I10, qI10⟩ := I5.frm dl_X20_rowOf p8.2 p8.1
  refine hd_pop pkL_law rfl rfl ?_
  refine hd_goto pkL_law rfl ?_
  refine kk _ _ _ (I10.up (by omega)) ⟨?_, ?_⟩
  · omega
  · rw [qI10, qI5]
    exact rm_dn hn hm2 (rm_0 _ _ _ (by decide))
set_option maxRecDepth 20000 in
set_option maxHeartbeats 4000000 in
theorem lw_case7 {h : MH} {N n mc ms : Nat} {i : Int} (i0 : 0 ≤ i) (i7 : i + 7 ≤ (N : Int)) (hN : N ≤ 448) (I : LI N n h) (hn : n ≤ 63) (hm : RM n h mc ms) (kk : ∀ (h' : MH) (mc' ms' : Nat), LI N (n + 1) h' → RM (n + 1) h' mc' ms' → MW KL_law Qr mc' ms' (pcA pgL_law 345) (L0 i) [] h') : MW KL_law Qr mc ms (pcA pgL_law 277) (L0 i) [] h := by
  unfold RM at hm
  obtain ⟨hm1, hm2⟩ := hm
  refine hd_aload pkL_law rfl rfl (Int.natCast_nonneg _) ?_
  refine hd_aload pkL_law rfl rfl (Int.natCast_nonneg _) ?_
  refine hd_iload pkL_law rfl rfl ?_
  refine hd_ipush (z := 1) pkL_law rfl ?_
  refine hd_iadd pkL_law rfl (by omega) ?_
  refine hd_iald (c := 0) (n := N) pkL_law rfl I.c0 (by omega) (by omega) (fun v1 ev1 rv1 => ?_)
  refine hd_callR pkL_law rfl (q := (KX11_pass, yX11_pass, 11, 1, 0)) rfl rfl (by decide +kernel) (As := [(0, v1)]) (rest := []) (c := 4) rfl rfl (Nat.le_of_ble_eq_true rfl) I.c4.1 I.c4.2 (by omega) (by omega) (ap_X11_pass I.1 (v1)) (hd_bI (fun w4 h2 p3 => ?_))
  obtain ⟨I5, qI5⟩ := I.frm dl_X11_pass p3.2 p3.1
  refine hd_pop pkL_law rfl rfl ?_
  refine hd_aload pkL_law rfl rfl (Int.natCast_nonneg _) ?_
  refine hd_aload pkL_law rfl rfl (Int.natCast_nonneg _) ?_
  refine hd_iload pkL_law rfl rfl ?_
  refine hd_ipush (z := 1) pkL_law rfl ?_
  refine hd_iadd pkL_law rfl (by omega) ?_
  refine hd_iald (c := 0) (n := N) pkL_law rfl I5.c0 (by omega) (by omega) (fun v6 ev6 rv6 => ?_)
  refine hd_callR pkL_law rfl (q := (KX20_pass, yX20_pass, 20, 1, 0)) rfl rfl (by decide +kernel) (As := [(0, v6)]) (rest := []) (c := 2448) rfl rfl (Nat.le_of_ble_eq_true rfl) I5.cR.1 I5.cR.2 (by omega) (by omega) (ap_X20_pass I5.1 (v6)) (hd_bI (fun w9 h7 p8 => ?_))
  obtain ⟨I10, qI10⟩ := I5.frm dl_X20_pass p8.2 p8.1
  refine hd_pop pkL_law rfl rfl ?_
  refine hd_goto pkL_law rfl ?_
  refine kk _ _ _ (I10.up (by omega)) ⟨?_, ?_⟩
  · omega
  · rw [qI10, qI5]
    exact rm_dn hn hm2 (rm_0 _ _ _ (by decide))
set_option maxRecDepth 20000 in
set_option maxHeartbeats 4000000 in
theorem lw_case8 {h : MH} {N n mc ms : Nat} {i : Int} (i0 : 0 ≤ i) (i7 : i + 7 ≤ (N : Int)) (hN : N ≤ 448) (I : LI N n h) (hn : n ≤ 63) (hm : RM n h mc ms) (kk : ∀ (h' : MH) (mc' ms' : Nat), LI N (n + 1) h' → RM (n + 1) h' mc' ms' → MW KL_law Qr mc' ms' (pcA pgL_law 345) (L0 i) [] h') : MW KL_law Qr mc ms (pcA pgL_law 294) (L0 i) [] h := by
  unfold RM at hm
  obtain ⟨hm1, hm2⟩ := hm
  refine hd_aload pkL_law rfl rfl (Int.natCast_nonneg _) ?_
  refine hd_aload pkL_law rfl rfl (Int.natCast_nonneg _) ?_
  refine hd_iload pkL_law rfl rfl ?_
  refine hd_ipush (z := 1) pkL_law rfl ?_
  refine hd_iadd pkL_law rfl (by omega) ?_
  refine hd_iald (c := 0) (n := N) pkL_law rfl I.c0 (by omega) (by omega) (fun v1 ev1 rv1 => ?_)
  refine hd_callR pkL_law rfl (q := (KX11_drive, yX11_drive, 11, 1, 0)) rfl rfl (by decide +kernel) (As := [(0, v1)]) (rest := []) (c := 4) rfl rfl (Nat.le_of_ble_eq_true rfl) I.c4.1 I.c4.2 (by omega) (by omega) (ap_X11_drive I.1 (v1)) (hd_bI (fun w4 h2 p3 => ?_))
  obtain ⟨I5, qI5⟩ := I.frm dl_X11_drive p3.2 p3.1
  refine hd_pop pkL_law rfl rfl ?_
  refine hd_aload pkL_law rfl rfl (Int.natCast_nonneg _) ?_
  refine hd_aload pkL_law rfl rfl (Int.natCast_nonneg _) ?_
  refine hd_iload pkL_law rfl rfl ?_
  refine hd_ipush (z := 1) pkL_law rfl ?_
  refine hd_iadd pkL_law rfl (by omega) ?_
  refine hd_iald (c := 0) (n := N) pkL_law rfl I5.c0 (by omega) (by omega) (fun v6 ev6 rv6 => ?_)
  refine hd_callR pkL_law rfl (q := (KX20_drive, yX20_drive, 20, 1, 0)) rfl rfl (by decide +kernel) (As := [(0, v6)]) (rest := []) (c := 2448) rfl rfl (Nat.le_of_ble_eq_true rfl) I5.cR.1 I5.cR.2 (by omega) (by omega) (ap_X20_drive I5.1 (v6)) (hd_bI (fun w9 h7 p8 => ?_))
  obtain ⟨I10, qI10⟩ := I5.frm dl_X20_drive p8.2 p8.1
  refine hd_pop pkL_law rfl rfl ?_
  refine hd_goto pkL_law rfl ?_
  refine kk _ _ _ (I10.up (by omega)) ⟨?_, ?_⟩
  · omega
  · rw [qI10, qI5]
    exact rm_dn hn hm2 (rm_0 _ _ _ (by decide))
set_option maxRecDepth 20000 in
set_option maxHeartbeats 4000000 in
theorem lw_case9 {h : MH} {N n mc ms : Nat} {i : Int} (i0 : 0 ≤ i) (i7 : i + 7 ≤ (N : Int)) (hN : N ≤ 448) (I : LI N n h) (hn : n ≤ 63) (hm : RM n h mc ms) (kk : ∀ (h' : MH) (mc' ms' : Nat), LI N (n + 1) h' → RM (n + 1) h' mc' ms' → MW KL_law Qr mc' ms' (pcA pgL_law 345) (L0 i) [] h') : MW KL_law Qr mc ms (pcA pgL_law 311) (L0 i) [] h := by
  unfold RM at hm
  obtain ⟨hm1, hm2⟩ := hm
  refine hd_aload pkL_law rfl rfl (Int.natCast_nonneg _) ?_
  refine hd_aload pkL_law rfl rfl (Int.natCast_nonneg _) ?_
  refine hd_iload pkL_law rfl rfl ?_
  refine hd_ipush (z := 1) pkL_law rfl ?_
  refine hd_iadd pkL_law rfl (by omega) ?_
  refine hd_iald (c := 0) (n := N) pkL_law rfl I.c0 (by omega) (by omega) (fun v1 ev1 rv1 => ?_)
  refine hd_callR pkL_law rfl (q := (KX11_bill, yX11_bill, 11, 1, 0)) rfl rfl (by decide +kernel) (As := [(0, v1)]) (rest := []) (c := 4) rfl rfl (Nat.le_of_ble_eq_true rfl) I.c4.1 I.c4.2 (by omega) (by omega) (ap_X11_bill I.1 (v1)) (hd_bI (fun w4 h2 p3 => ?_))
  obtain ⟨I5, qI5⟩ := I.frm dl_X11_bill p3.2 p3.1
  refine hd_pop pkL_law rfl rfl ?_
  refine hd_aload pkL_law rfl rfl (Int.natCast_nonneg _) ?_
  refine hd_aload pkL_law rfl rfl (Int.natCast_nonneg _) ?_
  refine hd_iload pkL_law rfl rfl ?_
  refine hd_ipush (z := 1) pkL_law rfl ?_
  refine hd_iadd pkL_law rfl (by omega) ?_
  refine hd_iald (c := 0) (n := N) pkL_law rfl I5.c0 (by omega) (by omega) (fun v6 ev6 rv6 => ?_)
  refine hd_callR pkL_law rfl (q := (KX20_bill, yX20_bill, 20, 1, 0)) rfl rfl (by decide +kernel) (As := [(0, v6)]) (rest := []) (c := 2448) rfl rfl (Nat.le_of_ble_eq_true rfl) I5.cR.1 I5.cR.2 (by omega) (by omega) (ap_X20_bill I5.1 (v6)) (hd_bI (fun w9 h7 p8 => ?_))
  obtain ⟨I10, qI10⟩ := I5.frm dl_X20_bill p8.2 p8.1
  refine hd_pop pkL_law rfl rfl ?_
  refine hd_goto pkL_law rfl ?_
  refine kk _ _ _ (I10.up (by omega)) ⟨?_, ?_⟩
  · omega
  · rw [qI10, qI5]
    exact rm_dn hn hm2 (rm_0 _ _ _ (by decide))
set_option maxRecDepth 20000 in
set_option maxHeartbeats 4000000 in
theorem lw_case10 {h : MH} {N n mc ms : Nat} {i : Int} (i0 : 0 ≤ i) (i7 : i + 7 ≤ (N : Int)) (hN : N ≤ 448) (I : LI N n h) (hn : n ≤ 63) (hm : RM n h mc ms) (kk : ∀ (h' : MH) (mc' ms' : Nat), LI N (n + 1) h' → RM (n + 1) h' mc' ms' → MW KL_law Qr mc' ms' (pcA pgL_law 345) (L0 i) [] h') : MW KL_law Qr mc ms (pcA pgL_law 328) (L0 i) [] h := by
  unfold RM at hm
  obtain ⟨hm1, hm2⟩ := hm
  refine hd_aload pkL_law rfl rfl (Int.natCast_nonneg _) ?_
  refine hd_aload pkL_law rfl rfl (Int.natCast_nonneg _) ?_
  refine hd_iload pkL_law rfl rfl ?_
  refine hd_ipush (z := 1) pkL_law rfl ?_
  refine hd_iadd pkL_law rfl (by omega) ?_
  refine hd_iald (c := 0) (n := N) pkL_law rfl I.c0 (by omega) (by omega) (fun v1 ev1 rv1 => ?_)
  refine hd_callR pkL_law rfl (q := (KX11_whole, yX11_whole, 11, 1, 0)) rfl rfl (by decide +kernel) (As := [(0, v1)]) (rest := []) (c := 4) rfl rfl (Nat.le_of_ble_eq_true rfl) I.c4.1 I.c4.2 (by omega) (by omega) (ap_X11_whole I.1 (v1)) (hd_bI (fun w4 h2 p3 => ?_))
  obtain ⟨I5, qI5⟩ := I.frm dl_X11_whole p3.2 p3.1
  refine hd_pop pkL_law rfl rfl ?_
  refine hd_aload pkL_law rfl rfl (Int.natCast_nonneg _) ?_
  refine hd_aload pkL_law rfl rfl (Int.natCast_nonneg _) ?_
  refine hd_iload pkL_law rfl rfl ?_
  refine hd_ipush (z := 1) pkL_law rfl ?_
  refine hd_iadd pkL_law rfl (by omega) ?_
  refine hd_iald (c := 0) (n := N) pkL_law rfl I5.c0 (by omega) (by omega) (fun v6 ev6 rv6 => ?_)
  refine hd_callR pkL_law rfl (q := (KX20_whole, yX20_whole, 20, 1, 0)) rfl rfl (by decide +kernel) (As := [(0, v6)]) (rest := []) (c := 2448) rfl rfl (Nat.le_of_ble_eq_true rfl) I5.cR.1 I5.cR.2 (by omega) (by omega) (ap_X20_whole I5.1 (v6)) (hd_bI (fun w9 h7 p8 => ?_))
  obtain ⟨I10, qI10⟩ := I5.frm dl_X20_whole p8.2 p8.1
  refine hd_pop pkL_law rfl rfl ?_
  refine hd_goto pkL_law rfl ?_
  refine kk _ _ _ (I10.up (by omega)) ⟨?_, ?_⟩
  · omega
  · rw [qI10, qI5]
    exact rm_dn hn hm2 (rm_0 _ _ _ (by decide))

def xk_callP0 (ix : Nat) : Nat × (Nat × (Nat × Nat)) := if ix < 52 then (if ix < 44 then (if ix = 9 then (86, 51, 0, 12) else (0, 0, 0, 0)) else (if ix < 48 then (if ix = 44 then (503, 464, 465, 15) else (0, 0, 0, 0)) else (if ix = 48 then (499, 501, 7, 15) else (0, 0, 0, 0)))) else (if ix < 56 then (if ix = 52 then (504, 452, 453, 15) else (0, 0, 0, 0)) else (if ix < 59 then (if ix = 56 then (527, 428, 429, 15) else (0, 0, 0, 0)) else (if ix = 59 then (359, 313, 0, 12) else (0, 0, 0, 0))))
def xk_callP1 (ix : Nat) : Nat × (Nat × (Nat × Nat)) := if ix = 11 then (159, 160, 0, 18) else (0, 0, 0, 0)
def xk_callP2 (ix : Nat) : Nat × (Nat × (Nat × Nat)) := if ix < 24 then (if ix = 21 then (284, 286, 3, 16) else (0, 0, 0, 0)) else (if ix < 28 then (if ix = 24 then (288, 289, 0, 12) else (0, 0, 0, 0)) else (if ix = 28 then (380, 212, 213, 13) else (0, 0, 0, 0)))
def xk_callP4 (ix : Nat) : Nat × (Nat × (Nat × Nat)) := if ix < 63 then (if ix < 52 then (if ix < 44 then (if ix = 9 then (50, 51, 0, 12) else (0, 0, 0, 0)) else (if ix < 48 then (if ix = 44 then (306, 300, 0, 12) else (0, 0, 0, 0)) else (if ix = 48 then (351, 352, 353, 14) else (0, 0, 0, 0)))) else (if ix < 56 then (if ix = 52 then (261, 262, 263, 14) else (0, 0, 0, 0)) else (if ix < 60 then (if ix = 56 then (312, 313, 0, 12) else (0, 0, 0, 0)) else (if ix = 60 then (347, 348, 349, 14) else (0, 0, 0, 0))))) else (if ix < 73 then (if ix < 67 then (if ix = 63 then (272, 273, 274, 14) else (0, 0, 0, 0)) else (if ix < 70 then (if ix = 67 then (521, 303, 304, 14) else (0, 0, 0, 0)) else (if ix = 70 then (522, 403, 404, 14) else (0, 0, 0, 0)))) else (if ix < 76 then (if ix = 73 then (319, 309, 310, 14) else (0, 0, 0, 0)) else (if ix < 80 then (if ix = 76 then (572, 258, 259, 14) else (0, 0, 0, 0)) else (if ix = 80 then (573, 266, 0, 12) else (0, 0, 0, 0)))))
def xk_callP5 (ix : Nat) : Nat × (Nat × (Nat × Nat)) := if ix < 133 then (if ix < 88 then (if ix < 67 then (if ix < 46 then (if ix < 35 then (if ix = 28 then (46, 47, 0, 14) else (0, 0, 0, 0)) else (if ix = 35 then (82, 83, 0, 15) else (0, 0, 0, 0))) else (if ix < 50 then (if ix = 46 then (218, 219, 220, 14) else (0, 0, 0, 0)) else (if ix < 57 then (if ix = 50 then (223, 224, 225, 15) else (0, 0, 0, 0)) else (if ix = 57 then (232, 233, 0, 12) else (0, 0, 0, 0))))) else (if ix < 77 then (if ix < 70 then (if ix = 67 then (239, 241, 0, 13) else (0, 0, 0, 0)) else (if ix < 74 then (if ix = 70 then (265, 266, 0, 12) else (0, 0, 0, 0)) else (if ix = 74 then (299, 300, 0, 12) else (0, 0, 0, 0)))) else (if ix < 80 then (if ix = 77 then (302, 303, 304, 14) else (0, 0, 0, 0)) else (if ix < 84 then (if ix = 80 then (307, 262, 263, 14) else (0, 0, 0, 0)) else (if ix = 84 then (253, 254, 255, 14) else (0, 0, 0, 0)))))) else (if ix < 108 then (if ix < 94 then (if ix < 91 then (if ix = 88 then (243, 245, 1, 13) else (0, 0, 0, 0)) else (if ix = 91 then (308, 309, 310, 14) else (0, 0, 0, 0))) else (if ix < 98 then (if ix = 94 then (268, 269, 270, 14) else (0, 0, 0, 0)) else (if ix < 102 then (if ix = 98 then (315, 316, 317, 14) else (0, 0, 0, 0)) else (if ix = 102 then (401, 348, 349, 14) else (0, 0, 0, 0))))) else (if ix < 121 then (if ix < 112 then (if ix = 108 then (402, 403, 404, 14) else (0, 0, 0, 0)) else (if ix < 118 then (if ix = 112 then (406, 273, 274, 14) else (0, 0, 0, 0)) else (if ix = 118 then (423, 424, 425, 15) else (0, 0, 0, 0)))) else (if ix < 124 then (if ix = 121 then (427, 428, 429, 15) else (0, 0, 0, 0)) else (if ix < 127 then (if ix = 124 then (431, 433, 4, 13) else (0, 0, 0, 0)) else (if ix = 127 then (439, 440, 441, 15) else (0, 0, 0, 0))))))) else (if ix < 184 then (if ix < 156 then (if ix < 146 then (if ix < 136 then (if ix = 133 then (451, 452, 453, 15) else (0, 0, 0, 0)) else (if ix = 136 then (463, 464, 465, 15) else (0, 0, 0, 0))) else (if ix < 149 then (if ix = 146 then (483, 485, 5, 13) else (0, 0, 0, 0)) else (if ix < 152 then (if ix = 149 then (491, 492, 493, 13) else (0, 0, 0, 0)) else (if ix = 152 then (495, 496, 497, 15) else (0, 0, 0, 0))))) else (if ix < 170 then (if ix < 159 then (if ix = 156 then (328, 329, 0, 12) else (0, 0, 0, 0)) else (if ix < 167 then (if ix = 159 then (247, 248, 0, 20) else (0, 0, 0, 0)) else (if ix = 167 then (513, 515, 8, 13) else (0, 0, 0, 0)))) else (if ix < 173 then (if ix = 170 then (517, 518, 519, 14) else (0, 0, 0, 0)) else (if ix < 176 then (if ix = 173 then (523, 524, 525, 15) else (0, 0, 0, 0)) else (if ix = 176 then (257, 258, 259, 14) else (0, 0, 0, 0)))))) else (if ix < 205 then (if ix < 190 then (if ix < 187 then (if ix = 184 then (435, 436, 437, 15) else (0, 0, 0, 0)) else (if ix = 187 then (487, 489, 6, 13) else (0, 0, 0, 0))) else (if ix < 199 then (if ix = 190 then (540, 352, 353, 14) else (0, 0, 0, 0)) else (if ix < 202 then (if ix = 199 then (582, 583, 584, 15) else (0, 0, 0, 0)) else (if ix = 202 then (586, 588, 10, 13) else (0, 0, 0, 0))))) else (if ix < 215 then (if ix < 209 then (if ix = 205 then (339, 340, 341, 14) else (0, 0, 0, 0)) else (if ix < 212 then (if ix = 209 then (343, 344, 345, 14) else (0, 0, 0, 0)) else (if ix = 212 then (355, 356, 357, 15) else (0, 0, 0, 0)))) else (if ix < 218 then (if ix = 215 then (360, 361, 362, 15) else (0, 0, 0, 0)) else (if ix < 221 then (if ix = 218 then (364, 365, 366, 15) else (0, 0, 0, 0)) else (if ix = 221 then (368, 369, 370, 15) else (0, 0, 0, 0)))))))
def xk_callP6 (ix : Nat) : Nat × (Nat × (Nat × Nat)) := if ix < 110 then (if ix < 59 then (if ix < 44 then (if ix < 35 then (if ix < 24 then (if ix = 11 then (31, 32, 0, 13) else (0, 0, 0, 0)) else (if ix = 24 then (137, 138, 0, 16) else (0, 0, 0, 0))) else (if ix < 40 then (if ix = 35 then (153, 154, 0, 17) else (0, 0, 0, 0)) else (if ix = 40 then (211, 212, 213, 13) else (0, 0, 0, 0)))) else (if ix < 52 then (if ix < 48 then (if ix = 44 then (228, 229, 230, 13) else (0, 0, 0, 0)) else (if ix = 48 then (276, 278, 2, 12) else (0, 0, 0, 0))) else (if ix < 56 then (if ix = 52 then (295, 296, 297, 13) else (0, 0, 0, 0)) else (if ix = 56 then (397, 398, 399, 13) else (0, 0, 0, 0))))) else (if ix < 71 then (if ix < 65 then (if ix < 62 then (if ix = 59 then (411, 412, 413, 13) else (0, 0, 0, 0)) else (if ix = 62 then (419, 420, 421, 13) else (0, 0, 0, 0))) else (if ix < 68 then (if ix = 65 then (447, 448, 449, 13) else (0, 0, 0, 0)) else (if ix = 68 then (459, 460, 461, 13) else (0, 0, 0, 0)))) else (if ix < 77 then (if ix < 74 then (if ix = 71 then (471, 472, 473, 13) else (0, 0, 0, 0)) else (if ix = 74 then (479, 480, 481, 13) else (0, 0, 0, 0))) else (if ix < 81 then (if ix = 77 then (324, 325, 326, 13) else (0, 0, 0, 0)) else (if ix = 81 then (509, 510, 511, 13) else (0, 0, 0, 0)))))) else (if ix < 146 then (if ix < 127 then (if ix < 117 then (if ix < 114 then (if ix = 110 then (535, 266, 0, 12) else (0, 0, 0, 0)) else (if ix = 114 then (536, 537, 538, 13) else (0, 0, 0, 0))) else (if ix < 120 then (if ix = 117 then (567, 300, 0, 12) else (0, 0, 0, 0)) else (if ix = 120 then (578, 579, 580, 13) else (0, 0, 0, 0)))) else (if ix < 140 then (if ix < 137 then (if ix = 127 then (568, 569, 570, 14) else (0, 0, 0, 0)) else (if ix = 137 then (335, 336, 337, 13) else (0, 0, 0, 0))) else (if ix < 143 then (if ix = 140 then (545, 348, 349, 14) else (0, 0, 0, 0)) else (if ix = 143 then (546, 547, 548, 13) else (0, 0, 0, 0))))) else (if ix < 163 then (if ix < 153 then (if ix < 150 then (if ix = 146 then (554, 233, 0, 12) else (0, 0, 0, 0)) else (if ix = 150 then (555, 303, 304, 14) else (0, 0, 0, 0))) else (if ix < 160 then (if ix = 153 then (556, 558, 9, 12) else (0, 0, 0, 0)) else (if ix = 160 then (621, 492, 493, 13) else (0, 0, 0, 0)))) else (if ix < 176 then (if ix < 172 then (if ix = 163 then (622, 623, 624, 15) else (0, 0, 0, 0)) else (if ix = 172 then (376, 377, 378, 16) else (0, 0, 0, 0))) else (if ix < 183 then (if ix = 176 then (606, 289, 0, 12) else (0, 0, 0, 0)) else (if ix = 183 then (280, 281, 282, 16) else (0, 0, 0, 0))))))
def xk_callP9 (ix : Nat) : Nat × (Nat × (Nat × Nat)) := if ix < 66 then (if ix < 41 then (if ix < 29 then (if ix < 22 then (if ix < 16 then (if ix = 10 then (386, 387, 0, 11) else (0, 0, 0, 0)) else (if ix = 16 then (291, 292, 293, 12) else (0, 0, 0, 0))) else (if ix < 26 then (if ix = 22 then (393, 394, 395, 12) else (0, 0, 0, 0)) else (if ix = 26 then (407, 408, 409, 12) else (0, 0, 0, 0)))) else (if ix < 35 then (if ix < 32 then (if ix = 29 then (415, 416, 417, 12) else (0, 0, 0, 0)) else (if ix = 32 then (443, 444, 445, 12) else (0, 0, 0, 0))) else (if ix < 38 then (if ix = 35 then (455, 456, 457, 12) else (0, 0, 0, 0)) else (if ix = 38 then (467, 468, 469, 12) else (0, 0, 0, 0))))) else (if ix < 54 then (if ix < 48 then (if ix < 44 then (if ix = 41 then (475, 476, 477, 12) else (0, 0, 0, 0)) else (if ix = 44 then (320, 321, 322, 12) else (0, 0, 0, 0))) else (if ix < 51 then (if ix = 48 then (207, 208, 209, 12) else (0, 0, 0, 0)) else (if ix = 51 then (505, 506, 507, 12) else (0, 0, 0, 0)))) else (if ix < 60 then (if ix < 57 then (if ix = 54 then (531, 532, 533, 12) else (0, 0, 0, 0)) else (if ix = 57 then (563, 564, 565, 12) else (0, 0, 0, 0))) else (if ix < 63 then (if ix = 60 then (331, 332, 333, 12) else (0, 0, 0, 0)) else (if ix = 63 then (574, 575, 576, 12) else (0, 0, 0, 0)))))) else (if ix < 98 then (if ix < 84 then (if ix < 72 then (if ix < 69 then (if ix = 66 then (590, 591, 0, 11) else (0, 0, 0, 0)) else (if ix = 69 then (541, 542, 543, 12) else (0, 0, 0, 0))) else (if ix < 75 then (if ix = 72 then (550, 551, 552, 12) else (0, 0, 0, 0)) else (if ix = 75 then (560, 561, 0, 11) else (0, 0, 0, 0)))) else (if ix < 91 then (if ix < 88 then (if ix = 84 then (593, 594, 0, 11) else (0, 0, 0, 0)) else (if ix = 88 then (602, 603, 604, 12) else (0, 0, 0, 0))) else (if ix < 94 then (if ix = 91 then (607, 608, 609, 12) else (0, 0, 0, 0)) else (if ix = 94 then (372, 373, 374, 12) else (0, 0, 0, 0))))) else (if ix < 110 then (if ix < 105 then (if ix < 101 then (if ix = 98 then (617, 618, 619, 12) else (0, 0, 0, 0)) else (if ix = 101 then (528, 529, 0, 11) else (0, 0, 0, 0))) else (if ix < 106 then (if ix = 105 then (23, 24, 0, 12) else (0, 0, 0, 0)) else (if ix = 106 then (381, 382, 0, 11) else (0, 0, 0, 0)))) else (if ix < 117 then (if ix < 114 then (if ix = 110 then (390, 391, 0, 11) else (0, 0, 0, 0)) else (if ix = 114 then (599, 600, 0, 11) else (0, 0, 0, 0))) else (if ix < 121 then (if ix = 117 then (611, 612, 0, 11) else (0, 0, 0, 0)) else (if ix = 121 then (614, 615, 0, 11) else (0, 0, 0, 0))))))
def xk_callP (k ix : Nat) : Nat × (Nat × (Nat × Nat)) := if k < 4 then (if k < 1 then (if k = 0 then xk_callP0 ix else (0, 0, 0, 0)) else (if k < 2 then (if k = 1 then xk_callP1 ix else (0, 0, 0, 0)) else (if k = 2 then xk_callP2 ix else (0, 0, 0, 0)))) else (if k < 6 then (if k < 5 then (if k = 4 then xk_callP4 ix else (0, 0, 0, 0)) else (if k = 5 then xk_callP5 ix else (0, 0, 0, 0))) else (if k < 9 then (if k = 6 then xk_callP6 ix else (0, 0, 0, 0)) else (if k = 9 then xk_callP9 ix else (0, 0, 0, 0))))
def xk_fldP (k ix : Nat) : Nat := if k < 3 then (if k < 1 then (if k = 0 then (if ix < 25 then (if ix < 19 then (if ix = 13 then 87 else 0) else (if ix < 22 then (if ix = 19 then 89 else 0) else (if ix = 22 then 91 else 0))) else (if ix < 31 then (if ix < 28 then (if ix = 25 then 93 else 0) else (if ix = 28 then 95 else 0)) else (if ix < 40 then (if ix = 31 then 97 else 0) else (if ix = 40 then 99 else 0)))) else 0) else (if k < 2 then (if k = 1 then (if ix = 12 then 171 else 0) else 0) else (if k = 2 then (if ix < 17 then (if ix = 11 then 143 else 0) else (if ix = 17 then 144 else 0)) else 0))) else (if k < 5 then (if k < 4 then (if k = 3 then (if ix = 9 then 163 else 0) else 0) else (if k = 4 then (if ix < 28 then (if ix < 19 then (if ix = 13 then 56 else 0) else (if ix < 23 then (if ix = 19 then 58 else 0) else (if ix = 23 then 60 else 0))) else (if ix < 31 then (if ix = 28 then 61 else 0) else (if ix < 40 then (if ix = 31 then 63 else 0) else (if ix = 40 then 64 else 0)))) else 0)) else (if k < 6 then (if k = 5 then (if ix < 139 then (if ix < 53 then (if ix < 29 then (if ix < 23 then (if ix = 18 then 116 else 0) else (if ix = 23 then 117 else 0)) else (if ix < 36 then (if ix = 29 then 118 else 0) else (if ix = 36 then 120 else 0))) else (if ix < 115 then (if ix < 105 then (if ix = 53 then 122 else 0) else (if ix = 105 then 59 else 0)) else (if ix < 130 then (if ix = 115 then 57 else 0) else (if ix = 130 then 92 else 0)))) else (if ix < 180 then (if ix < 145 then (if ix < 142 then (if ix = 139 then 94 else 0) else (if ix = 142 then 96 else 0)) else (if ix < 164 then (if ix = 145 then 88 else 0) else (if ix = 164 then 65 else 0))) else (if ix < 196 then (if ix < 193 then (if ix = 180 then 62 else 0) else (if ix = 193 then 90 else 0)) else (if ix < 224 then (if ix = 196 then 98 else 0) else (if ix = 224 then 100 else 0))))) else 0) else (if k = 6 then (if ix < 101 then (if ix < 25 then (if ix < 16 then (if ix = 12 then 188 else 0) else (if ix < 19 then (if ix = 16 then 189 else 0) else (if ix = 19 then 190 else 0))) else (if ix < 29 then (if ix = 25 then 191 else 0) else (if ix < 36 then (if ix = 29 then 192 else 0) else (if ix = 36 then 193 else 0)))) else (if ix < 136 then (if ix < 123 then (if ix = 101 then 172 else 0) else (if ix < 132 then (if ix = 123 then 119 else 0) else (if ix = 132 then 164 else 0))) else (if ix < 156 then (if ix = 136 then 145 else 0) else (if ix < 180 then (if ix = 156 then 121 else 0) else (if ix = 180 then 123 else 0))))) else 0)))
def xk_oneP (k ix : Nat) : Nat × (Nat × Nat) := if k < 4 then (if k < 2 then (if k < 1 then (if k = 0 then (if ix < 34 then (if ix = 3 then (85, 0, 0) else (0, 0, 0)) else (if ix = 34 then (227, 0, 0) else (0, 0, 0))) else (0, 0, 0)) else (if k = 1 then (if ix < 9 then (if ix = 3 then (156, 0, 0) else (0, 0, 0)) else (if ix = 9 then (157, 158, 18) else (0, 0, 0))) else (0, 0, 0))) else (if k < 3 then (if k = 2 then (if ix < 9 then (if ix = 3 then (140, 0, 0) else (0, 0, 0)) else (if ix = 9 then (141, 0, 0) else (0, 0, 0))) else (0, 0, 0)) else (if k = 3 then (if ix = 3 then (162, 0, 0) else (0, 0, 0)) else (0, 0, 0)))) else (if k < 6 then (if k < 5 then (if k = 4 then (if ix < 27 then (if ix < 22 then (if ix = 3 then (49, 0, 0) else (0, 0, 0)) else (if ix = 22 then (53, 0, 0) else (0, 0, 0))) else (if ix < 34 then (if ix = 27 then (55, 0, 0) else (0, 0, 0)) else (if ix = 34 then (222, 0, 0) else (0, 0, 0)))) else (0, 0, 0)) else (if k = 5 then (if ix < 26 then (if ix < 13 then (if ix < 9 then (if ix = 3 then (34, 0, 0) else (0, 0, 0)) else (if ix = 9 then (35, 0, 0) else (0, 0, 0))) else (if ix < 14 then (if ix = 13 then (37, 0, 0) else (0, 0, 0)) else (if ix = 14 then (43, 0, 0) else (0, 0, 0)))) else (if ix < 40 then (if ix < 33 then (if ix = 26 then (44, 45, 14) else (0, 0, 0)) else (if ix = 33 then (80, 81, 15) else (0, 0, 0))) else (if ix < 61 then (if ix = 40 then (215, 0, 0) else (0, 0, 0)) else (if ix < 64 then (if ix = 61 then (235, 0, 0) else (0, 0, 0)) else (if ix = 64 then (237, 0, 0) else (0, 0, 0)))))) else (0, 0, 0))) else (if k < 8 then (if k = 6 then (if ix < 22 then (if ix < 9 then (if ix = 3 then (26, 0, 0) else (0, 0, 0)) else (if ix = 9 then (29, 30, 13) else (0, 0, 0))) else (if ix < 33 then (if ix = 22 then (135, 136, 16) else (0, 0, 0)) else (if ix = 33 then (151, 152, 17) else (0, 0, 0)))) else (0, 0, 0)) else (if k < 9 then (if k = 8 then (if ix < 266 then (if ix = 265 then (250, 0, 0) else (0, 0, 0)) else (if ix < 267 then (if ix = 266 then (251, 0, 0) else (0, 0, 0)) else (if ix = 267 then (252, 0, 0) else (0, 0, 0)))) else (0, 0, 0)) else (if k = 9 then (if ix < 17 then (if ix < 8 then (if ix = 7 then (384, 0, 0) else (0, 0, 0)) else (if ix < 9 then (if ix = 8 then (385, 0, 0) else (0, 0, 0)) else (if ix = 9 then (389, 0, 0) else (0, 0, 0)))) else (if ix < 80 then (if ix < 78 then (if ix = 17 then (21, 22, 12) else (0, 0, 0)) else (if ix = 78 then (596, 0, 0) else (0, 0, 0))) else (if ix < 82 then (if ix = 80 then (597, 0, 0) else (0, 0, 0)) else (if ix = 82 then (598, 0, 0) else (0, 0, 0))))) else (0, 0, 0)))))
def xk_layP (k ix : Nat) : Nat := if k < 3 then (if k < 1 then (if k = 0 then (if ix < 3 then (if ix < 1 then (if ix = 0 then 101 else 0) else (if ix < 2 then (if ix = 1 then 103 else 0) else (if ix = 2 then 105 else 0))) else (if ix < 5 then (if ix < 4 then (if ix = 3 then 107 else 0) else (if ix = 4 then 109 else 0)) else (if ix < 6 then (if ix = 5 then 111 else 0) else (if ix = 6 then 113 else 0)))) else 0) else (if k < 2 then (if k = 1 then (if ix < 3 then (if ix < 1 then (if ix = 0 then 173 else 0) else (if ix < 2 then (if ix = 1 then 175 else 0) else (if ix = 2 then 177 else 0))) else (if ix < 5 then (if ix < 4 then (if ix = 3 then 179 else 0) else (if ix = 4 then 181 else 0)) else (if ix < 6 then (if ix = 5 then 183 else 0) else (if ix = 6 then 185 else 0)))) else 0) else (if k = 2 then (if ix < 1 then (if ix = 0 then 146 else 0) else (if ix = 1 then 148 else 0)) else 0))) else (if k < 5 then (if k < 4 then (if k = 3 then (if ix < 1 then (if ix = 0 then 165 else 0) else (if ix = 1 then 167 else 0)) else 0) else (if k = 4 then (if ix < 3 then (if ix < 1 then (if ix = 0 then 66 else 0) else (if ix < 2 then (if ix = 1 then 68 else 0) else (if ix = 2 then 70 else 0))) else (if ix < 4 then (if ix = 3 then 72 else 0) else (if ix < 5 then (if ix = 4 then 74 else 0) else (if ix = 5 then 76 else 0)))) else 0)) else (if k < 6 then (if k = 5 then (if ix < 2 then (if ix < 1 then (if ix = 0 then 124 else 0) else (if ix = 1 then 126 else 0)) else (if ix < 3 then (if ix = 2 then 128 else 0) else (if ix < 4 then (if ix = 3 then 130 else 0) else (if ix = 4 then 132 else 0)))) else 0) else (if k = 6 then (if ix < 3 then (if ix < 1 then (if ix = 0 then 194 else 0) else (if ix < 2 then (if ix = 1 then 196 else 0) else (if ix = 2 then 198 else 0))) else (if ix < 4 then (if ix = 3 then 200 else 0) else (if ix < 5 then (if ix = 4 then 202 else 0) else (if ix = 5 then 204 else 0)))) else 0)))
def xt_TS : List Cond := lw_tbl.filter goodWord
def xt_nest : Cond → Bool
  | .fieldLinkNest .. => true
  | .methodLinkNest .. => true
  | _ => false
def xt_NW : List Cond := lw_tbl.filter xt_nest
def xp_C : Nat → String
  | 0 => RX0
  | 1 => RX1
  | 2 => RX2
  | 3 => RX3
  | 4 => RX4
  | 5 => RX5
  | 6 => RX6
  | _ => RX7
/-- the word stands at that place, and is one that callees may be handed; or is a nest mate's -/
def xk_at (p : Nat) (w : Cond) : Bool := decide (lw_tbl[p]? = some w) && goodWord w
def xk_nat (p : Nat) (w : Cond) : Bool := decide (lw_tbl[p]? = some w) && xt_nest w
theorem xk_at_mem {p : Nat} {w : Cond} (h : xk_at p w = true) : w ∈ xt_TS := by
  unfold xk_at at h
  simp only [Bool.and_eq_true, decide_eq_true_eq] at h
  exact List.mem_filter.mpr ⟨List.mem_of_getElem? h.1, h.2⟩
theorem xk_nat_mem {p : Nat} {w : Cond} (h : xk_nat p w = true) : w ∈ xt_NW := by
  unfold xk_nat at h
  simp only [Bool.and_eq_true, decide_eq_true_eq] at h
  exact List.mem_filter.mpr ⟨List.mem_of_getElem? h.1, h.2⟩
theorem xk_code_mem {i : Nat} (h0 : 0 < i) (h : i < 108) : Cond.code (xt_Y i) (xt_C i) (xt_L i) (xt_R i) ∈ xt_TS := List.mem_filter.mpr ⟨xk_codes i h0 h, rfl⟩
/-- what the machine's rows ask of a field's entry -/
def xc_fld (k ix : Nat) (v : Nat × (Nat × Nat)) (p : Nat) : Bool := match v with
  | (ci, f, nest) => decide (ci < 7) && decide (f < xp_n ci) && decide ((xp_F ci f).1 = xp_C ci) && (if nest = 0 then xk_at p (Cond.fieldLink (xt_R_ k) ix (xp_F ci f).1 (xp_F ci f).2.1 (xp_F ci f).2.2.1) else decide (nest = 1) && xk_nat p (Cond.fieldLinkNest (xt_R_ k) ix (xp_F ci f).1 (xp_F ci f).2.1 (xp_F ci f).2.2.1 "BikeSheds"))
/-- and of a call's -/
def xc_call (k ix : Nat) (v : Nat × (Nat × Nat)) (p : Nat × (Nat × (Nat × Nat))) : Bool := match v with
  | (j, na, kind) => decide (0 < j ∧ j < 108) && xk_at p.2.2.2 (Cond.initialized (xt_Y j).cls) && decide ((xt_Y j).cls ≠ "java/lang/invoke/MethodHandle" ∧ (xt_Y j).cls ≠ "java/lang/invoke/VarHandle") &&
      decide ((parseMethodDescriptor (xt_Y j).desc).map (fun d => d.parameters.length) = some (if kind < 2 then na else na - 1)) && decide (kind < 6) && decide (2 ≤ kind → 1 ≤ na) &&
      (if kind = 0 ∨ kind = 2 ∨ kind = 4 then xk_at p.1 (Cond.methodLink (xt_R_ k) ix (xt_Y j)) else xk_nat p.1 (Cond.methodLinkNest (xt_R_ k) ix (xt_Y j) "BikeSheds")) &&
      (if kind < 2 then xk_at p.2.1 (Cond.static (xt_Y j)) else xk_at p.2.1 (Cond.instanceMethod (xt_Y j))) &&
      (if kind = 2 ∨ kind = 3 then xk_at p.2.2.1 (Cond.selects (xt_Y j).cls (xt_Y j) (xt_Y j)) else true) && (if 4 ≤ kind then decide ((xt_Y j).name = "<init>") && xt_I j else !(xt_I j))
set_option maxRecDepth 100000 in
theorem xk_fld_0 : (List.range 300).all (fun ix => match xt_fld 0 ix with | none => true | some v => xc_fld 0 ix v (xk_fldP 0 ix)) = true := by decide +kernel
set_option maxRecDepth 100000 in
theorem xk_fld_1 : (List.range 300).all (fun ix => match xt_fld 1 ix with | none => true | some v => xc_fld 1 ix v (xk_fldP 1 ix)) = true := by decide +kernel
set_option maxRecDepth 100000 in
theorem xk_fld_2 : (List.range 300).all (fun ix => match xt_fld 2 ix with | none => true | some v => xc_fld 2 ix v (xk_fldP 2 ix)) = true := by decide +kernel
set_option maxRecDepth 100000 in
theorem xk_fld_3 : (List.range 300).all (fun ix => match xt_fld 3 ix with | none => true | some v => xc_fld 3 ix v (xk_fldP 3 ix)) = true := by decide +kernel
set_option maxRecDepth 100000 in
theorem xk_fld_4 : (List.range 300).all (fun ix => match xt_fld 4 ix with | none => true | some v => xc_fld 4 ix v (xk_fldP 4 ix)) = true := by decide +kernel
set_option maxRecDepth 100000 in
theorem xk_fld_5 : (List.range 300).all (fun ix => match xt_fld 5 ix with | none => true | some v => xc_fld 5 ix v (xk_fldP 5 ix)) = true := by decide +kernel
set_option maxRecDepth 100000 in
theorem xk_fld_6 : (List.range 300).all (fun ix => match xt_fld 6 ix with | none => true | some v => xc_fld 6 ix v (xk_fldP 6 ix)) = true := by decide +kernel
set_option maxRecDepth 100000 in
theorem xk_fld_7 : (List.range 300).all (fun ix => match xt_fld 7 ix with | none => true | some v => xc_fld 7 ix v (xk_fldP 7 ix)) = true := by decide +kernel
set_option maxRecDepth 100000 in
theorem xk_fld_8 : (List.range 300).all (fun ix => match xt_fld 8 ix with | none => true | some v => xc_fld 8 ix v (xk_fldP 8 ix)) = true := by decide +kernel
set_option maxRecDepth 100000 in
theorem xk_fld_9 : (List.range 300).all (fun ix => match xt_fld 9 ix with | none => true | some v => xc_fld 9 ix v (xk_fldP 9 ix)) = true := by decide +kernel
set_option maxRecDepth 100000 in
theorem xk_call_0 : (List.range 300).all (fun ix => match xt_call 0 ix with | none => true | some v => xc_call 0 ix v (xk_callP 0 ix)) = true := by decide +kernel
set_option maxRecDepth 100000 in
theorem xk_call_1 : (List.range 300).all (fun ix => match xt_call 1 ix with | none => true | some v => xc_call 1 ix v (xk_callP 1 ix)) = true := by decide +kernel
set_option maxRecDepth 100000 in
theorem xk_call_2 : (List.range 300).all (fun ix => match xt_call 2 ix with | none => true | some v => xc_call 2 ix v (xk_callP 2 ix)) = true := by decide +kernel
set_option maxRecDepth 100000 in
theorem xk_call_3 : (List.range 300).all (fun ix => match xt_call 3 ix with | none => true | some v => xc_call 3 ix v (xk_callP 3 ix)) = true := by decide +kernel
set_option maxRecDepth 100000 in
theorem xk_call_4 : (List.range 300).all (fun ix => match xt_call 4 ix with | none => true | some v => xc_call 4 ix v (xk_callP 4 ix)) = true := by decide +kernel
set_option maxRecDepth 100000 in
theorem xk_call_5 : (List.range 300).all (fun ix => match xt_call 5 ix with | none => true | some v => xc_call 5 ix v (xk_callP 5 ix)) = true := by decide +kernel
set_option maxRecDepth 100000 in
theorem xk_call_6 : (List.range 300).all (fun ix => match xt_call 6 ix with | none => true | some v => xc_call 6 ix v (xk_callP 6 ix)) = true := by decide +kernel
set_option maxRecDepth 100000 in
theorem xk_call_7 : (List.range 300).all (fun ix => match xt_call 7 ix with | none => true | some v => xc_call 7 ix v (xk_callP 7 ix)) = true := by decide +kernel
set_option maxRecDepth 100000 in
theorem xk_call_8 : (List.range 300).all (fun ix => match xt_call 8 ix with | none => true | some v => xc_call 8 ix v (xk_callP 8 ix)) = true := by decide +kernel
set_option maxRecDepth 100000 in
theorem xk_call_9 : (List.range 300).all (fun ix => match xt_call 9 ix with | none => true | some v => xc_call 9 ix v (xk_callP 9 ix)) = true := by decide +kernel
theorem xk_ten {P : Nat → Prop} (h0 : P 0) (h1 : P 1) (h2 : P 2) (h3 : P 3) (h4 : P 4) (h5 : P 5) (h6 : P 6) (h7 : P 7) (h8 : P 8) (h9 : P 9) {k : Nat} (h : k < 10) : P k := by
  match k, h with
  | 0, _ => exact h0
  | 1, _ => exact h1
  | 2, _ => exact h2
  | 3, _ => exact h3
  | 4, _ => exact h4
  | 5, _ => exact h5
  | 6, _ => exact h6
  | 7, _ => exact h7
  | 8, _ => exact h8
  | 9, _ => exact h9
theorem xt_fld_ok {k ix : Nat} {v : Nat × (Nat × Nat)} (h : xt_fld k ix = some v) : xc_fld k ix v (xk_fldP k ix) = true := by
  by_cases hg : 10 ≤ k ∨ 300 ≤ ix
  · unfold xt_fld at h
    rw [if_pos hg] at h
    cases h
  · have h1 := List.all_eq_true.mp (xk_ten (P := fun k => (List.range 300).all (fun ix => match xt_fld k ix with | none => true | some v => xc_fld k ix v (xk_fldP k ix)) = true) xk_fld_0 xk_fld_1 xk_fld_2 xk_fld_3 xk_fld_4 xk_fld_5 xk_fld_6 xk_fld_7 xk_fld_8 xk_fld_9 (k := k) (by omega)) ix (List.mem_range.mpr (by omega))
    rw [h] at h1
    exact h1
theorem xt_call_ok {k ix : Nat} {v : Nat × (Nat × Nat)} (h : xt_call k ix = some v) : xc_call k ix v (xk_callP k ix) = true := by
  by_cases hg : 10 ≤ k ∨ 300 ≤ ix
  · unfold xt_call at h
    rw [if_pos hg] at h
    cases h
  · have h1 := List.all_eq_true.mp (xk_ten (P := fun k => (List.range 300).all (fun ix => match xt_call k ix with | none => true | some v => xc_call k ix v (xk_callP k ix)) = true) xk_call_0 xk_call_1 xk_call_2 xk_call_3 xk_call_4 xk_call_5 xk_call_6 xk_call_7 xk_call_8 xk_call_9 (k := k) (by omega)) ix (List.mem_range.mpr (by omega))
    rw [h] at h1
    exact h1
/-- the smaller tables -/
def xc_one (k ix : Nat) (p : Nat × (Nat × Nat)) : Bool :=
  (match xt_st k ix with | none => true | some j => decide (1 ≤ j ∧ j < 4) && xk_nat p.1 (Cond.fieldLinkNest (xt_R_ k) ix "BikeSheds" (if j = 1 then "FIRST_VALUES" else if j = 2 then "LOWEST_VALUES" else "HIGHEST_VALUES") "[I" "BikeSheds")) &&
  (match xt_new k ix with | none => true | some ci => decide (ci < 7) && xk_at p.1 (Cond.classLink (xt_R_ k) ix (xp_C ci)) && xk_at p.2.1 (Cond.instantiable (xp_C ci) (xp_n ci)) && xk_at p.2.2 (Cond.initialized (xp_C ci))) &&
  (match xt_anew k ix with | none => true | some t => (decide (t = 3) && xk_at p.1 (Cond.classLink (xt_R_ k) ix "[I")) || (decide (t = 4) && xk_at p.1 (Cond.classLink (xt_R_ k) ix "BikeSheds$State"))) &&
  (match xt_mnew k ix with | none => true | some _ => xk_at p.1 (Cond.classLink (xt_R_ k) ix "[[I")) &&
  (match xt_cast k ix with | none => true | some _ => xk_at p.1 (Cond.classLink (xt_R_ k) ix "[I")) &&
  (match xt_obj k ix with | none => true | some _ => xk_at p.1 (Cond.methodLink (xt_R_ k) ix Lib.objectInit)) &&
  (match xt_copy k ix with | none => true | some _ => xk_at p.1 (Cond.methodLink (xt_R_ k) ix arraycopyName)) &&
  (match xt_clone k ix with | none => true | some _ => xk_at p.1 (Cond.methodLink (xt_R_ k) ix ⟨"[I", "clone", "()Ljava/lang/Object;"⟩)) &&
  (match xt_ldi k ix with | none => true | some v => xk_at p.1 (Cond.constant (xt_R_ k) ix v)) &&
  (match xt_ldl k ix with | none => true | some v => xk_at p.1 (Cond.constantLong (xt_R_ k) ix v))
set_option maxRecDepth 100000 in
theorem xk_one_0 : (List.range 300).all (fun ix => xc_one 0 ix (xk_oneP 0 ix)) = true := by decide +kernel
set_option maxRecDepth 100000 in
theorem xk_one_1 : (List.range 300).all (fun ix => xc_one 1 ix (xk_oneP 1 ix)) = true := by decide +kernel
set_option maxRecDepth 100000 in
theorem xk_one_2 : (List.range 300).all (fun ix => xc_one 2 ix (xk_oneP 2 ix)) = true := by decide +kernel
set_option maxRecDepth 100000 in
theorem xk_one_3 : (List.range 300).all (fun ix => xc_one 3 ix (xk_oneP 3 ix)) = true := by decide +kernel
set_option maxRecDepth 100000 in
theorem xk_one_4 : (List.range 300).all (fun ix => xc_one 4 ix (xk_oneP 4 ix)) = true := by decide +kernel
set_option maxRecDepth 100000 in
theorem xk_one_5 : (List.range 300).all (fun ix => xc_one 5 ix (xk_oneP 5 ix)) = true := by decide +kernel
set_option maxRecDepth 100000 in
theorem xk_one_6 : (List.range 300).all (fun ix => xc_one 6 ix (xk_oneP 6 ix)) = true := by decide +kernel
set_option maxRecDepth 100000 in
theorem xk_one_7 : (List.range 300).all (fun ix => xc_one 7 ix (xk_oneP 7 ix)) = true := by decide +kernel
set_option maxRecDepth 100000 in
theorem xk_one_8 : (List.range 300).all (fun ix => xc_one 8 ix (xk_oneP 8 ix)) = true := by decide +kernel
set_option maxRecDepth 100000 in
theorem xk_one_9 : (List.range 300).all (fun ix => xc_one 9 ix (xk_oneP 9 ix)) = true := by decide +kernel
theorem xt_one_ok {k ix : Nat} (hg : ¬ (10 ≤ k ∨ 300 ≤ ix)) : xc_one k ix (xk_oneP k ix) = true :=
  List.all_eq_true.mp (xk_ten (P := fun k => (List.range 300).all (fun ix => xc_one k ix (xk_oneP k ix)) = true) xk_one_0 xk_one_1 xk_one_2 xk_one_3 xk_one_4 xk_one_5 xk_one_6 xk_one_7 xk_one_8 xk_one_9 (k := k) (by omega)) ix (List.mem_range.mpr (by omega))
def xk_free : List Cond := [Cond.instanceMethod Lib.objectInit, Cond.code Lib.objectInit ⟨#[0xb1]⟩ 1 none, Cond.native arraycopyName, Cond.static arraycopyName, Cond.initialized "java/lang/System", Cond.sameMethod "[I" "java/lang/Object" "clone" "()Ljava/lang/Object;",
    Cond.native ⟨"java/lang/Object", "clone", "()Ljava/lang/Object;"⟩, Cond.instanceMethod ⟨"java/lang/Object", "clone", "()Ljava/lang/Object;"⟩, Cond.selects "[I" ⟨"[I", "clone", "()Ljava/lang/Object;"⟩ ⟨"java/lang/Object", "clone", "()Ljava/lang/Object;"⟩,
    Cond.arrayClass .int, Cond.arrayClass .char]
set_option maxRecDepth 100000 in
theorem xk_free_all : xk_free = ([27, 28, 217, 216, 19, 38, 39, 40, 41, 79, 170] : List Nat).filterMap (fun i => lw_tbl[i]?) := rfl
theorem xk_free_mem {w : Cond} (h : w ∈ xk_free) : w ∈ xt_TS := by
  have hg : goodWord w = true := List.all_eq_true.mp (show xk_free.all goodWord = true from rfl) w h
  rw [xk_free_all] at h
  obtain ⟨i, -, hi⟩ := List.mem_filterMap.mp h
  exact List.mem_filter.mpr ⟨List.mem_of_getElem? hi, hg⟩
theorem xk_ao : Cond.arrayOver (.object "BikeSheds$State") ∈ lw_tbl := List.mem_of_getElem? (i := 142) (by decide +kernel)
theorem xk_aoa : Cond.arrayOver (.array .int) ∈ lw_tbl := List.mem_of_getElem? (i := 54) (by decide +kernel)
theorem xk_cast : Cond.castable "[I" "java/lang/Cloneable" ∈ lw_tbl := List.mem_of_getElem? (i := 42) (by decide +kernel)
set_option maxRecDepth 100000 in
theorem xt_meth_ok : (List.range 108).all (fun i => plainName (xt_Y i).cls && decide ((xt_Y i).cls = xt_R_ (xt_K i)) && decide (xt_L i ≤ 20) && decide (1 ≤ xt_D i) && decide (xt_I i = true → (xt_Y i).name = "<init>") && decide (xt_K i < 10)) = true := by decide +kernel
/-- the calls go down -/
def xt_downs (i : Nat) (ix : Nat) : Bool := match xt_call (xt_K i) ix with
  | none => true
  | some v => decide (xt_D v.1 < xt_D i)
set_option maxRecDepth 100000 in
theorem xt_down_all : (List.range 108).all (fun i => (List.range (xt_M i)).all (fun pc => match xt_ops i pc with | none => true | some r => match xm_inv r.1 with | none => true | some ix => xt_downs i ix)) = true := by decide +kernel
theorem xp_cl {ci : Nat} (h : ci < 7) : vwCl[ci]? = some (xp_C ci, xp_F ci, xp_n ci) := by
  match ci, h with
  | 0, _ => rfl
  | 1, _ => rfl
  | 2, _ => rfl
  | 3, _ => rfl
  | 4, _ => rfl
  | 5, _ => rfl
  | 6, _ => rfl
set_option maxRecDepth 100000 in
theorem xp_ws_all : (List.range 7).all (fun ci => (List.range (xp_n ci)).all (fun k => xk_at (xk_layP ci k) (u_lay (xp_C ci) (xp_F ci) k))) = true := by decide +kernel
theorem xp_ws {ci : Nat} (h : ci < 7) : ∀ w ∈ u_ws (xp_C ci) (xp_F ci) (xp_n ci), w ∈ xt_TS := by
  intro w hw
  obtain ⟨k, hk, rfl⟩ := List.mem_map.mp hw
  exact xk_at_mem (List.all_eq_true.mp (List.all_eq_true.mp xp_ws_all ci (List.mem_range.mpr h)) k hk)
set_option maxRecDepth 100000 in
theorem xp_fty_all : (List.range 7).all (fun ci => (List.range (xp_n ci)).all (fun k => decide (parseFieldDescriptor (xp_F ci k).2.2.1 = some (xp_fty ci k)))) = true := by decide +kernel
theorem xp_fty_ok {ci : Nat} (h : ci < 7) : ∀ k, k < xp_n ci → parseFieldDescriptor (xp_F ci k).2.2.1 = some (xp_fty ci k) := fun k hk => of_decide_eq_true (List.all_eq_true.mp (List.all_eq_true.mp xp_fty_all ci (List.mem_range.mpr h)) k (List.mem_range.mpr hk))
theorem xp_nm {ci : Nat} (h : ci < 7) : ∀ a, a < xp_n ci → ∀ b, b < xp_n ci → a ≠ b → (xp_F ci a).2.1 ≠ (xp_F ci b).2.1 := by
  match ci, h with
  | 0, _ => exact nmX0
  | 1, _ => exact nmX1
  | 2, _ => exact nmX2
  | 3, _ => exact nmX3
  | 4, _ => exact nmX4
  | 5, _ => exact nmX5
  | 6, _ => exact nmX6

/-! THE LAW in the twin: its loop; the place 31 (the mask) stands apart -/
def tb_law2 : List (Nat × List (Nat × AMI)) := [
  (20, [(0, (99, 0, 0, 0, 0, 0)), (3, (12, 0, 0, 0, 0, 4)), (4, (99, 0, 0, 0, 0, 0)), (7, (4, 0, 1, 0, 0, 8)), (8, (99, 0, 0, 0, 0, 0)), (11, (12, 0, 0, 0, 0, 12)), (12, (99, 0, 0, 0, 0, 0)), (15, (4, 0, 2, 0, 0, 16)), (16, (0, 0, 0, 0, 0, 17)), (17, (3, 0, 3, 0, 0, 18)), (18, (1, 0, 3, 0, 0, 19)), (19, (2, 0, 0, 0, 0, 20))]),
  (150, [(20, (48, 0, 0, 0, 0, 21)), (21, (0, 5, 0, 0, 0, 22)), (22, (6, 0, 0, 0, 0, 23)), (23, (16, 806, 4, 829, 0, 26)), (26, (2, 0, 0, 0, 0, 27)), (27, (1, 0, 3, 0, 0, 28)), (28, (50, 0, 0, 0, 0, 29)), (29, (0, 31, 0, 0, 0, 31)), (32, (18, 0, 3, 0, 0, 0)), (148, (2, 0, 1, 0, 0, 149)), (149, (2, 0, 0, 0, 0, 150))]),
  (162, [(150, (1, 0, 3, 0, 0, 151)), (151, (0, 1, 0, 0, 0, 152)), (152, (5, 0, 0, 0, 0, 153)), (153, (50, 0, 0, 0, 0, 154)), (154, (2, 0, 0, 0, 0, 155)), (155, (1, 0, 3, 0, 0, 156)), (156, (0, 2, 0, 0, 0, 157)), (157, (5, 0, 0, 0, 0, 158)), (158, (50, 0, 0, 0, 0, 159)), (159, (2, 0, 0, 0, 0, 160)), (160, (1, 0, 3, 0, 0, 161)), (161, (0, 3, 0, 0, 0, 162))]),
  (176, [(162, (5, 0, 0, 0, 0, 163)), (163, (50, 0, 0, 0, 0, 164)), (164, (2, 0, 0, 0, 0, 165)), (165, (1, 0, 3, 0, 0, 166)), (166, (0, 4, 0, 0, 0, 167)), (167, (5, 0, 0, 0, 0, 168)), (168, (50, 0, 0, 0, 0, 169)), (169, (31, 13, 55, 5, 4, 172)), (172, (2, 0, 2, 0, 0, 173)), (173, (2, 0, 0, 0, 0, 174)), (174, (1, 0, 3, 0, 0, 175)), (175, (0, 1, 0, 0, 0, 176))]),
  (188, [(176, (5, 0, 0, 0, 0, 177)), (177, (50, 0, 0, 0, 0, 178)), (178, (2, 0, 0, 0, 0, 179)), (179, (1, 0, 3, 0, 0, 180)), (180, (0, 2, 0, 0, 0, 181)), (181, (5, 0, 0, 0, 0, 182)), (182, (50, 0, 0, 0, 0, 183)), (183, (2, 0, 0, 0, 0, 184)), (184, (1, 0, 3, 0, 0, 185)), (185, (0, 3, 0, 0, 0, 186)), (186, (5, 0, 0, 0, 0, 187)), (187, (50, 0, 0, 0, 0, 188))]),
  (204, [(188, (2, 0, 0, 0, 0, 189)), (189, (1, 0, 3, 0, 0, 190)), (190, (0, 4, 0, 0, 0, 191)), (191, (5, 0, 0, 0, 0, 192)), (192, (50, 0, 0, 0, 0, 193)), (193, (31, 17, 96, 5, 5, 196)), (196, (16, 627, 0, 823, 0, 199)), (199, (0, 0, 0, 0, 0, 200)), (200, (40, 0, 0, 0, 0, 0)), (201, (2, 0, 1, 0, 0, 202)), (202, (2, 0, 0, 0, 0, 203)), (203, (1, 0, 3, 0, 0, 204))]),
  (220, [(204, (0, 1, 0, 0, 0, 205)), (205, (5, 0, 0, 0, 0, 206)), (206, (50, 0, 0, 0, 0, 207)), (207, (31, 18, 56, 2, 4, 210)), (210, (2, 0, 2, 0, 0, 211)), (211, (2, 0, 0, 0, 0, 212)), (212, (1, 0, 3, 0, 0, 213)), (213, (0, 1, 0, 0, 0, 214)), (214, (5, 0, 0, 0, 0, 215)), (215, (50, 0, 0, 0, 0, 216)), (216, (31, 22, 99, 2, 5, 219)), (219, (16, 604, 0, 823, 0, 222))]),
  (234, [(222, (0, 0, 0, 0, 0, 223)), (223, (40, 0, 0, 0, 0, 0)), (224, (2, 0, 1, 0, 0, 225)), (225, (2, 0, 0, 0, 0, 226)), (226, (1, 0, 3, 0, 0, 227)), (227, (0, 1, 0, 0, 0, 228)), (228, (5, 0, 0, 0, 0, 229)), (229, (50, 0, 0, 0, 0, 230)), (230, (2, 0, 0, 0, 0, 231)), (231, (1, 0, 3, 0, 0, 232)), (232, (0, 2, 0, 0, 0, 233)), (233, (5, 0, 0, 0, 0, 234))]),
  (248, [(234, (50, 0, 0, 0, 0, 235)), (235, (2, 0, 0, 0, 0, 236)), (236, (1, 0, 3, 0, 0, 237)), (237, (0, 3, 0, 0, 0, 238)), (238, (5, 0, 0, 0, 0, 239)), (239, (50, 0, 0, 0, 0, 240)), (240, (31, 23, 57, 4, 4, 243)), (243, (2, 0, 2, 0, 0, 244)), (244, (2, 0, 0, 0, 0, 245)), (245, (1, 0, 3, 0, 0, 246)), (246, (0, 1, 0, 0, 0, 247)), (247, (5, 0, 0, 0, 0, 248))]),
  (260, [(248, (50, 0, 0, 0, 0, 249)), (249, (2, 0, 0, 0, 0, 250)), (250, (1, 0, 3, 0, 0, 251)), (251, (0, 2, 0, 0, 0, 252)), (252, (5, 0, 0, 0, 0, 253)), (253, (50, 0, 0, 0, 0, 254)), (254, (2, 0, 0, 0, 0, 255)), (255, (1, 0, 3, 0, 0, 256)), (256, (0, 3, 0, 0, 0, 257)), (257, (5, 0, 0, 0, 0, 258)), (258, (50, 0, 0, 0, 0, 259)), (259, (31, 27, 100, 4, 5, 262))]),
  (276, [(262, (16, 561, 0, 823, 0, 265)), (265, (0, 0, 0, 0, 0, 266)), (266, (40, 0, 0, 0, 0, 0)), (267, (2, 0, 1, 0, 0, 268)), (268, (2, 0, 0, 0, 0, 269)), (269, (1, 0, 3, 0, 0, 270)), (270, (0, 1, 0, 0, 0, 271)), (271, (5, 0, 0, 0, 0, 272)), (272, (50, 0, 0, 0, 0, 273)), (273, (2, 0, 0, 0, 0, 274)), (274, (1, 0, 3, 0, 0, 275)), (275, (0, 2, 0, 0, 0, 276))]),
  (290, [(276, (5, 0, 0, 0, 0, 277)), (277, (50, 0, 0, 0, 0, 278)), (278, (2, 0, 0, 0, 0, 279)), (279, (1, 0, 3, 0, 0, 280)), (280, (0, 3, 0, 0, 0, 281)), (281, (5, 0, 0, 0, 0, 282)), (282, (50, 0, 0, 0, 0, 283)), (283, (31, 28, 58, 4, 4, 286)), (286, (2, 0, 2, 0, 0, 287)), (287, (2, 0, 0, 0, 0, 288)), (288, (1, 0, 3, 0, 0, 289)), (289, (0, 1, 0, 0, 0, 290))]),
  (302, [(290, (5, 0, 0, 0, 0, 291)), (291, (50, 0, 0, 0, 0, 292)), (292, (2, 0, 0, 0, 0, 293)), (293, (1, 0, 3, 0, 0, 294)), (294, (0, 2, 0, 0, 0, 295)), (295, (5, 0, 0, 0, 0, 296)), (296, (50, 0, 0, 0, 0, 297)), (297, (2, 0, 0, 0, 0, 298)), (298, (1, 0, 3, 0, 0, 299)), (299, (0, 3, 0, 0, 0, 300)), (300, (5, 0, 0, 0, 0, 301)), (301, (50, 0, 0, 0, 0, 302))]),
  (320, [(302, (31, 31, 102, 4, 5, 305)), (305, (16, 518, 0, 823, 0, 308)), (308, (0, 0, 0, 0, 0, 309)), (309, (40, 0, 0, 0, 0, 0)), (310, (2, 0, 1, 0, 0, 311)), (311, (2, 0, 0, 0, 0, 312)), (312, (1, 0, 3, 0, 0, 313)), (313, (0, 1, 0, 0, 0, 314)), (314, (5, 0, 0, 0, 0, 315)), (315, (50, 0, 0, 0, 0, 316)), (316, (31, 32, 59, 2, 4, 319)), (319, (2, 0, 2, 0, 0, 320))]),
  (336, [(320, (2, 0, 0, 0, 0, 321)), (321, (1, 0, 3, 0, 0, 322)), (322, (0, 1, 0, 0, 0, 323)), (323, (5, 0, 0, 0, 0, 324)), (324, (50, 0, 0, 0, 0, 325)), (325, (31, 35, 103, 2, 5, 328)), (328, (16, 495, 0, 823, 0, 331)), (331, (0, 0, 0, 0, 0, 332)), (332, (40, 0, 0, 0, 0, 0)), (333, (2, 0, 1, 0, 0, 334)), (334, (2, 0, 0, 0, 0, 335)), (335, (1, 0, 3, 0, 0, 336))]),
  (350, [(336, (0, 1, 0, 0, 0, 337)), (337, (5, 0, 0, 0, 0, 338)), (338, (50, 0, 0, 0, 0, 339)), (339, (2, 0, 0, 0, 0, 340)), (340, (1, 0, 3, 0, 0, 341)), (341, (0, 2, 0, 0, 0, 342)), (342, (5, 0, 0, 0, 0, 343)), (343, (50, 0, 0, 0, 0, 344)), (344, (31, 36, 60, 3, 4, 347)), (347, (2, 0, 2, 0, 0, 348)), (348, (2, 0, 0, 0, 0, 349)), (349, (1, 0, 3, 0, 0, 350))]),
  (366, [(350, (0, 1, 0, 0, 0, 351)), (351, (5, 0, 0, 0, 0, 352)), (352, (50, 0, 0, 0, 0, 353)), (353, (2, 0, 0, 0, 0, 354)), (354, (1, 0, 3, 0, 0, 355)), (355, (0, 2, 0, 0, 0, 356)), (356, (5, 0, 0, 0, 0, 357)), (357, (50, 0, 0, 0, 0, 358)), (358, (31, 40, 104, 3, 5, 361)), (361, (16, 462, 0, 823, 0, 364)), (364, (0, 0, 0, 0, 0, 365)), (365, (40, 0, 0, 0, 0, 0))]),
  (388, [(366, (2, 0, 1, 0, 0, 367)), (367, (31, 41, 61, 1, 4, 370)), (370, (2, 0, 2, 0, 0, 371)), (371, (31, 45, 142, 1, 5, 374)), (374, (16, 449, 0, 823, 0, 377)), (377, (0, 0, 0, 0, 0, 378)), (378, (40, 0, 0, 0, 0, 0)), (379, (2, 0, 1, 0, 0, 380)), (380, (31, 46, 62, 1, 4, 383)), (383, (2, 0, 2, 0, 0, 384)), (384, (31, 49, 105, 1, 5, 387)), (387, (16, 436, 0, 823, 0, 390))]),
  (404, [(390, (0, 0, 0, 0, 0, 391)), (391, (40, 0, 0, 0, 0, 0)), (392, (2, 0, 1, 0, 0, 393)), (393, (2, 0, 0, 0, 0, 394)), (394, (1, 0, 3, 0, 0, 395)), (395, (0, 1, 0, 0, 0, 396)), (396, (5, 0, 0, 0, 0, 397)), (397, (50, 0, 0, 0, 0, 398)), (398, (31, 50, 63, 2, 4, 401)), (401, (2, 0, 2, 0, 0, 402)), (402, (2, 0, 0, 0, 0, 403)), (403, (1, 0, 3, 0, 0, 404))]),
  (420, [(404, (0, 1, 0, 0, 0, 405)), (405, (5, 0, 0, 0, 0, 406)), (406, (50, 0, 0, 0, 0, 407)), (407, (31, 53, 108, 2, 5, 410)), (410, (16, 413, 0, 823, 0, 413)), (413, (0, 0, 0, 0, 0, 414)), (414, (40, 0, 0, 0, 0, 0)), (415, (2, 0, 1, 0, 0, 416)), (416, (2, 0, 0, 0, 0, 417)), (417, (1, 0, 3, 0, 0, 418)), (418, (0, 1, 0, 0, 0, 419)), (419, (5, 0, 0, 0, 0, 420))]),
  (434, [(420, (50, 0, 0, 0, 0, 421)), (421, (2, 0, 0, 0, 0, 422)), (422, (1, 0, 3, 0, 0, 423)), (423, (0, 2, 0, 0, 0, 424)), (424, (5, 0, 0, 0, 0, 425)), (425, (50, 0, 0, 0, 0, 426)), (426, (31, 54, 64, 3, 4, 429)), (429, (2, 0, 2, 0, 0, 430)), (430, (2, 0, 0, 0, 0, 431)), (431, (1, 0, 3, 0, 0, 432)), (432, (0, 1, 0, 0, 0, 433)), (433, (5, 0, 0, 0, 0, 434))]),
  (450, [(434, (50, 0, 0, 0, 0, 435)), (435, (2, 0, 0, 0, 0, 436)), (436, (1, 0, 3, 0, 0, 437)), (437, (0, 2, 0, 0, 0, 438)), (438, (5, 0, 0, 0, 0, 439)), (439, (50, 0, 0, 0, 0, 440)), (440, (31, 57, 109, 3, 5, 443)), (443, (16, 380, 0, 823, 0, 446)), (446, (0, 0, 0, 0, 0, 447)), (447, (40, 0, 0, 0, 0, 0)), (448, (2, 0, 1, 0, 0, 449)), (449, (2, 0, 0, 0, 0, 450))]),
  (464, [(450, (1, 0, 3, 0, 0, 451)), (451, (0, 1, 0, 0, 0, 452)), (452, (5, 0, 0, 0, 0, 453)), (453, (50, 0, 0, 0, 0, 454)), (454, (2, 0, 0, 0, 0, 455)), (455, (1, 0, 3, 0, 0, 456)), (456, (0, 2, 0, 0, 0, 457)), (457, (5, 0, 0, 0, 0, 458)), (458, (50, 0, 0, 0, 0, 459)), (459, (31, 58, 65, 3, 4, 462)), (462, (2, 0, 2, 0, 0, 463)), (463, (2, 0, 0, 0, 0, 464))]),
  (480, [(464, (1, 0, 3, 0, 0, 465)), (465, (0, 1, 0, 0, 0, 466)), (466, (5, 0, 0, 0, 0, 467)), (467, (50, 0, 0, 0, 0, 468)), (468, (2, 0, 0, 0, 0, 469)), (469, (1, 0, 3, 0, 0, 470)), (470, (0, 2, 0, 0, 0, 471)), (471, (5, 0, 0, 0, 0, 472)), (472, (50, 0, 0, 0, 0, 473)), (473, (31, 61, 110, 3, 5, 476)), (476, (16, 347, 0, 823, 0, 479)), (479, (0, 0, 0, 0, 0, 480))]),
  (498, [(480, (40, 0, 0, 0, 0, 0)), (481, (2, 0, 1, 0, 0, 482)), (482, (31, 62, 66, 1, 4, 485)), (485, (2, 0, 2, 0, 0, 486)), (486, (31, 65, 119, 1, 5, 489)), (489, (16, 334, 0, 823, 0, 492)), (492, (0, 0, 0, 0, 0, 493)), (493, (40, 0, 0, 0, 0, 0)), (494, (2, 0, 1, 0, 0, 495)), (495, (2, 0, 0, 0, 0, 496)), (496, (1, 0, 3, 0, 0, 497)), (497, (0, 1, 0, 0, 0, 498))]),
  (512, [(498, (5, 0, 0, 0, 0, 499)), (499, (50, 0, 0, 0, 0, 500)), (500, (2, 0, 0, 0, 0, 501)), (501, (1, 0, 3, 0, 0, 502)), (502, (0, 2, 0, 0, 0, 503)), (503, (5, 0, 0, 0, 0, 504)), (504, (50, 0, 0, 0, 0, 505)), (505, (31, 66, 67, 3, 4, 508)), (508, (2, 0, 2, 0, 0, 509)), (509, (2, 0, 0, 0, 0, 510)), (510, (1, 0, 3, 0, 0, 511)), (511, (0, 1, 0, 0, 0, 512))]),
  (528, [(512, (5, 0, 0, 0, 0, 513)), (513, (50, 0, 0, 0, 0, 514)), (514, (2, 0, 0, 0, 0, 515)), (515, (1, 0, 3, 0, 0, 516)), (516, (0, 2, 0, 0, 0, 517)), (517, (5, 0, 0, 0, 0, 518)), (518, (50, 0, 0, 0, 0, 519)), (519, (31, 69, 120, 3, 5, 522)), (522, (16, 301, 0, 823, 0, 525)), (525, (0, 0, 0, 0, 0, 526)), (526, (40, 0, 0, 0, 0, 0)), (527, (2, 0, 1, 0, 0, 528))]),
  (542, [(528, (2, 0, 0, 0, 0, 529)), (529, (1, 0, 3, 0, 0, 530)), (530, (0, 1, 0, 0, 0, 531)), (531, (5, 0, 0, 0, 0, 532)), (532, (50, 0, 0, 0, 0, 533)), (533, (31, 70, 68, 2, 4, 536)), (536, (2, 0, 2, 0, 0, 537)), (537, (2, 0, 0, 0, 0, 538)), (538, (1, 0, 3, 0, 0, 539)), (539, (0, 1, 0, 0, 0, 540)), (540, (5, 0, 0, 0, 0, 541)), (541, (50, 0, 0, 0, 0, 542))]),
  (560, [(542, (31, 73, 121, 2, 5, 545)), (545, (16, 278, 0, 823, 0, 548)), (548, (0, 0, 0, 0, 0, 549)), (549, (40, 0, 0, 0, 0, 0)), (550, (2, 0, 1, 0, 0, 551)), (551, (2, 0, 0, 0, 0, 552)), (552, (1, 0, 3, 0, 0, 553)), (553, (0, 1, 0, 0, 0, 554)), (554, (5, 0, 0, 0, 0, 555)), (555, (50, 0, 0, 0, 0, 556)), (556, (31, 74, 69, 2, 4, 559)), (559, (2, 0, 2, 0, 0, 560))]),
  (576, [(560, (2, 0, 0, 0, 0, 561)), (561, (1, 0, 3, 0, 0, 562)), (562, (0, 1, 0, 0, 0, 563)), (563, (5, 0, 0, 0, 0, 564)), (564, (50, 0, 0, 0, 0, 565)), (565, (31, 77, 122, 2, 5, 568)), (568, (16, 255, 0, 823, 0, 571)), (571, (0, 0, 0, 0, 0, 572)), (572, (40, 0, 0, 0, 0, 0)), (573, (2, 0, 1, 0, 0, 574)), (574, (2, 0, 0, 0, 0, 575)), (575, (1, 0, 3, 0, 0, 576))]),
  (592, [(576, (0, 1, 0, 0, 0, 577)), (577, (5, 0, 0, 0, 0, 578)), (578, (50, 0, 0, 0, 0, 579)), (579, (31, 78, 70, 2, 4, 582)), (582, (2, 0, 2, 0, 0, 583)), (583, (2, 0, 0, 0, 0, 584)), (584, (1, 0, 3, 0, 0, 585)), (585, (0, 1, 0, 0, 0, 586)), (586, (5, 0, 0, 0, 0, 587)), (587, (50, 0, 0, 0, 0, 588)), (588, (31, 81, 123, 2, 5, 591)), (591, (16, 232, 0, 823, 0, 594))]),
  (612, [(594, (0, 0, 0, 0, 0, 595)), (595, (40, 0, 0, 0, 0, 0)), (596, (2, 0, 1, 0, 0, 597)), (597, (31, 82, 71, 1, 4, 600)), (600, (2, 0, 2, 0, 0, 601)), (601, (31, 85, 124, 1, 5, 604)), (604, (16, 219, 0, 823, 0, 607)), (607, (0, 0, 0, 0, 0, 608)), (608, (40, 0, 0, 0, 0, 0)), (609, (2, 0, 1, 0, 0, 610)), (610, (2, 0, 0, 0, 0, 611)), (611, (1, 0, 3, 0, 0, 612))]),
  (624, [(612, (0, 1, 0, 0, 0, 613)), (613, (5, 0, 0, 0, 0, 614)), (614, (50, 0, 0, 0, 0, 615)), (615, (2, 0, 0, 0, 0, 616)), (616, (1, 0, 3, 0, 0, 617)), (617, (0, 2, 0, 0, 0, 618)), (618, (5, 0, 0, 0, 0, 619)), (619, (50, 0, 0, 0, 0, 620)), (620, (2, 0, 0, 0, 0, 621)), (621, (1, 0, 3, 0, 0, 622)), (622, (0, 3, 0, 0, 0, 623)), (623, (5, 0, 0, 0, 0, 624))]),
  (638, [(624, (50, 0, 0, 0, 0, 625)), (625, (31, 86, 72, 4, 4, 628)), (628, (2, 0, 2, 0, 0, 629)), (629, (2, 0, 0, 0, 0, 630)), (630, (1, 0, 3, 0, 0, 631)), (631, (0, 1, 0, 0, 0, 632)), (632, (5, 0, 0, 0, 0, 633)), (633, (50, 0, 0, 0, 0, 634)), (634, (2, 0, 0, 0, 0, 635)), (635, (1, 0, 3, 0, 0, 636)), (636, (0, 2, 0, 0, 0, 637)), (637, (5, 0, 0, 0, 0, 638))]),
  (654, [(638, (50, 0, 0, 0, 0, 639)), (639, (2, 0, 0, 0, 0, 640)), (640, (1, 0, 3, 0, 0, 641)), (641, (0, 3, 0, 0, 0, 642)), (642, (5, 0, 0, 0, 0, 643)), (643, (50, 0, 0, 0, 0, 644)), (644, (31, 89, 125, 4, 5, 647)), (647, (16, 176, 0, 823, 0, 650)), (650, (0, 0, 0, 0, 0, 651)), (651, (40, 0, 0, 0, 0, 0)), (652, (2, 0, 1, 0, 0, 653)), (653, (2, 0, 0, 0, 0, 654))]),
  (666, [(654, (1, 0, 3, 0, 0, 655)), (655, (0, 1, 0, 0, 0, 656)), (656, (5, 0, 0, 0, 0, 657)), (657, (50, 0, 0, 0, 0, 658)), (658, (2, 0, 0, 0, 0, 659)), (659, (1, 0, 3, 0, 0, 660)), (660, (0, 2, 0, 0, 0, 661)), (661, (5, 0, 0, 0, 0, 662)), (662, (50, 0, 0, 0, 0, 663)), (663, (2, 0, 0, 0, 0, 664)), (664, (1, 0, 3, 0, 0, 665)), (665, (0, 3, 0, 0, 0, 666))]),
  (680, [(666, (5, 0, 0, 0, 0, 667)), (667, (50, 0, 0, 0, 0, 668)), (668, (31, 90, 73, 4, 4, 671)), (671, (2, 0, 2, 0, 0, 672)), (672, (2, 0, 0, 0, 0, 673)), (673, (1, 0, 3, 0, 0, 674)), (674, (0, 1, 0, 0, 0, 675)), (675, (5, 0, 0, 0, 0, 676)), (676, (50, 0, 0, 0, 0, 677)), (677, (2, 0, 0, 0, 0, 678)), (678, (1, 0, 3, 0, 0, 679)), (679, (0, 2, 0, 0, 0, 680))]),
  (696, [(680, (5, 0, 0, 0, 0, 681)), (681, (50, 0, 0, 0, 0, 682)), (682, (2, 0, 0, 0, 0, 683)), (683, (1, 0, 3, 0, 0, 684)), (684, (0, 3, 0, 0, 0, 685)), (685, (5, 0, 0, 0, 0, 686)), (686, (50, 0, 0, 0, 0, 687)), (687, (31, 93, 127, 4, 5, 690)), (690, (16, 133, 0, 823, 0, 693)), (693, (0, 0, 0, 0, 0, 694)), (694, (40, 0, 0, 0, 0, 0)), (695, (2, 0, 1, 0, 0, 696))]),
  (710, [(696, (2, 0, 0, 0, 0, 697)), (697, (1, 0, 3, 0, 0, 698)), (698, (0, 1, 0, 0, 0, 699)), (699, (5, 0, 0, 0, 0, 700)), (700, (50, 0, 0, 0, 0, 701)), (701, (31, 94, 74, 2, 4, 704)), (704, (2, 0, 2, 0, 0, 705)), (705, (2, 0, 0, 0, 0, 706)), (706, (1, 0, 3, 0, 0, 707)), (707, (0, 1, 0, 0, 0, 708)), (708, (5, 0, 0, 0, 0, 709)), (709, (50, 0, 0, 0, 0, 710))]),
  (732, [(710, (31, 97, 128, 2, 5, 713)), (713, (16, 110, 0, 823, 0, 716)), (716, (0, 0, 0, 0, 0, 717)), (717, (40, 0, 0, 0, 0, 0)), (718, (2, 0, 1, 0, 0, 719)), (719, (31, 98, 75, 1, 4, 722)), (722, (2, 0, 2, 0, 0, 723)), (723, (31, 101, 129, 1, 5, 726)), (726, (16, 97, 0, 823, 0, 729)), (729, (0, 0, 0, 0, 0, 730)), (730, (40, 0, 0, 0, 0, 0)), (731, (2, 0, 1, 0, 0, 732))]),
  (744, [(732, (2, 0, 0, 0, 0, 733)), (733, (1, 0, 3, 0, 0, 734)), (734, (0, 1, 0, 0, 0, 735)), (735, (5, 0, 0, 0, 0, 736)), (736, (50, 0, 0, 0, 0, 737)), (737, (2, 0, 0, 0, 0, 738)), (738, (1, 0, 3, 0, 0, 739)), (739, (0, 2, 0, 0, 0, 740)), (740, (5, 0, 0, 0, 0, 741)), (741, (50, 0, 0, 0, 0, 742)), (742, (2, 0, 0, 0, 0, 743)), (743, (1, 0, 3, 0, 0, 744))]),
  (758, [(744, (0, 3, 0, 0, 0, 745)), (745, (5, 0, 0, 0, 0, 746)), (746, (50, 0, 0, 0, 0, 747)), (747, (31, 102, 76, 4, 4, 750)), (750, (2, 0, 2, 0, 0, 751)), (751, (2, 0, 0, 0, 0, 752)), (752, (1, 0, 3, 0, 0, 753)), (753, (0, 1, 0, 0, 0, 754)), (754, (5, 0, 0, 0, 0, 755)), (755, (50, 0, 0, 0, 0, 756)), (756, (2, 0, 0, 0, 0, 757)), (757, (1, 0, 3, 0, 0, 758))]),
  (774, [(758, (0, 2, 0, 0, 0, 759)), (759, (5, 0, 0, 0, 0, 760)), (760, (50, 0, 0, 0, 0, 761)), (761, (2, 0, 0, 0, 0, 762)), (762, (1, 0, 3, 0, 0, 763)), (763, (0, 3, 0, 0, 0, 764)), (764, (5, 0, 0, 0, 0, 765)), (765, (50, 0, 0, 0, 0, 766)), (766, (31, 105, 130, 4, 5, 769)), (769, (16, 54, 0, 823, 0, 772)), (772, (0, 0, 0, 0, 0, 773)), (773, (40, 0, 0, 0, 0, 0))]),
  (788, [(774, (2, 0, 1, 0, 0, 775)), (775, (2, 0, 0, 0, 0, 776)), (776, (1, 0, 3, 0, 0, 777)), (777, (0, 1, 0, 0, 0, 778)), (778, (5, 0, 0, 0, 0, 779)), (779, (50, 0, 0, 0, 0, 780)), (780, (31, 106, 77, 2, 4, 783)), (783, (2, 0, 2, 0, 0, 784)), (784, (2, 0, 0, 0, 0, 785)), (785, (1, 0, 3, 0, 0, 786)), (786, (0, 1, 0, 0, 0, 787)), (787, (5, 0, 0, 0, 0, 788))]),
  (810, [(788, (50, 0, 0, 0, 0, 789)), (789, (31, 109, 131, 2, 5, 792)), (792, (16, 31, 0, 823, 0, 795)), (795, (0, 0, 0, 0, 0, 796)), (796, (40, 0, 0, 0, 0, 0)), (797, (2, 0, 1, 0, 0, 798)), (798, (31, 110, 78, 1, 4, 801)), (801, (2, 0, 2, 0, 0, 802)), (802, (31, 113, 132, 1, 5, 805)), (805, (16, 18, 0, 823, 0, 808)), (808, (0, 0, 0, 0, 0, 809)), (809, (40, 0, 0, 0, 0, 0))]),
  (831, [(810, (2, 0, 1, 0, 0, 811)), (811, (31, 114, 79, 1, 4, 814)), (814, (2, 0, 2, 0, 0, 815)), (815, (31, 117, 141, 1, 5, 818)), (818, (16, 5, 0, 823, 0, 821)), (821, (0, 0, 0, 0, 0, 822)), (822, (40, 0, 0, 0, 0, 0)), (823, (11, 5, 3, 0, 0, 826)), (826, (17, (-808), 0, 0, 0, 18)), (829, (0, 1, 0, 0, 0, 830)), (830, (40, 0, 0, 0, 0, 0))])]
def LQ : Post := fun r _ => r = some (.inl 1)
theorem law_run {d : Nat} (hd : 7 ≤ d) {P : Ctx} (hT : ∀ (n : Nat) {pc : Nat} {ls st : List AV} {σ : Sto}, P pc (ls.take n) st σ → P pc ls st σ) (hP : ∀ pc ls st σ, stp (WPd d) LQ P ls st σ (lk2 tb_law2 pc) → P pc ls st σ) (h31 : ∀ ls st x σ, P 32 ls (.inl (x % 32) :: st) σ → P 31 ls (.inl 31 :: .inl x :: st) σ) (L : Int) (hL : 0 ≤ L ∧ L ≤ 2560) : ∀ (n : Nat) (i : Int) (σ : Sto), n = (L - i).toNat → 0 ≤ i → i ≤ L + 5 → σ 41 0 (-1) = L → (∀ j, inR (σ 41 0 j)) → RelB σ → P 18 [.inr (41, 0), .inr (0, 0), .inr (26, 0), .inl i] [] σ := by
  intro n
  induction n using Nat.strongRecOn with
  | _ n ih =>
    intro i σ hn i0 i1 hl hin hR
    by_cases c : i ≤ L - 5
    · have g1 := hin (i + 1)
      have g2 := hin (i + 2)
      have g3 := hin (i + 3)
      have g4 := hin (i + 4)
      have fin : ∀ σ', RelB σ' → σ' 41 0 = σ 41 0 → P 18 [.inr (41, 0), .inr (0, 0), .inr (26, 0), .inl (i + 5)] [] σ' := fun σ' hR' e => ih (L - (i + 5)).toNat (by omega) (i + 5) σ' rfl (by omega) (by omega) (by rw [e]; exact hl) (fun j => by rw [e]; exact hin j) hR'
      have C148 : P 148 [.inr (41, 0), .inr (0, 0), .inr (26, 0), .inl i] [] σ := by
        (refine go (t := tb_law2) (WPd_mono d) hP 90 [18] ?_; (conv => whnf); (repeat' (first | (refine ⟨fun _ => ?_, fun _ => ?_⟩ <;> first | (exfalso; omega) | (conv => whnf)) | (refine ⟨by omega, ?_⟩; conv => whnf) | (intro _; conv => whnf))))
        refine (WPd_mono d) _ _ _ _ _ (fun r σ1 hz => ?_) (p_addLayer hd hR g1 g2 g3 g4)
        obtain ⟨v, rfl, f1, vb, h5⟩ := hz
        have e41 : σ1 41 0 = σ 41 0 := f1 41 0 (by decide)
        have l1 : σ1 41 0 (-1) = L := by rw [e41]; exact hl
        ((conv => whnf); (repeat' (first | (refine ⟨fun _ => ?_, fun _ => ?_⟩ <;> first | (exfalso; omega) | (conv => whnf)) | (refine ⟨by omega, ?_⟩; conv => whnf) | (intro _; conv => whnf))))
        rw [e41]
        refine (WPd_mono d) _ _ _ _ _ (fun r σ2 hz => ?_) h5
        obtain ⟨rfl, rb, f2⟩ := hz
        have e2 : σ2 41 0 = σ 41 0 := by rw [f2 41 0 (by omega), e41]
        ((conv => whnf); (repeat' (first | (refine ⟨fun _ => ?_, fun _ => ?_⟩ <;> first | (exfalso; omega) | (conv => whnf)) | (refine ⟨by omega, ?_⟩; conv => whnf) | (intro _; conv => whnf))))
        exact fin σ2 rb e2
      have C201 : P 201 [.inr (41, 0), .inr (0, 0), .inr (26, 0), .inl i] [] σ := by
        (refine go (t := tb_law2) (WPd_mono d) hP 90 [18] ?_; (conv => whnf); (repeat' (first | (refine ⟨fun _ => ?_, fun _ => ?_⟩ <;> first | (exfalso; omega) | (conv => whnf)) | (refine ⟨by omega, ?_⟩; conv => whnf) | (intro _; conv => whnf))))
        refine (WPd_mono d) _ _ _ _ _ (fun r σ1 hz => ?_) (p_removeLayer hd hR g1)
        obtain ⟨v, rfl, f1, vb, h5⟩ := hz
        have e41 : σ1 41 0 = σ 41 0 := f1 41 0 (by decide)
        have l1 : σ1 41 0 (-1) = L := by rw [e41]; exact hl
        ((conv => whnf); (repeat' (first | (refine ⟨fun _ => ?_, fun _ => ?_⟩ <;> first | (exfalso; omega) | (conv => whnf)) | (refine ⟨by omega, ?_⟩; conv => whnf) | (intro _; conv => whnf))))
        rw [e41]
        refine (WPd_mono d) _ _ _ _ _ (fun r σ2 hz => ?_) h5
        obtain ⟨rfl, rb, f2⟩ := hz
        have e2 : σ2 41 0 = σ 41 0 := by rw [f2 41 0 (by omega), e41]
        ((conv => whnf); (repeat' (first | (refine ⟨fun _ => ?_, fun _ => ?_⟩ <;> first | (exfalso; omega) | (conv => whnf)) | (refine ⟨by omega, ?_⟩; conv => whnf) | (intro _; conv => whnf))))
        exact fin σ2 rb e2
      have C224 : P 224 [.inr (41, 0), .inr (0, 0), .inr (26, 0), .inl i] [] σ := by
        (refine go (t := tb_law2) (WPd_mono d) hP 90 [18] ?_; (conv => whnf); (repeat' (first | (refine ⟨fun _ => ?_, fun _ => ?_⟩ <;> first | (exfalso; omega) | (conv => whnf)) | (refine ⟨by omega, ?_⟩; conv => whnf) | (intro _; conv => whnf))))
        refine (WPd_mono d) _ _ _ _ _ (fun r σ1 hz => ?_) (p_setLayer hd hR g1 g2 g3)
        obtain ⟨v, rfl, f1, vb, h5⟩ := hz
        have e41 : σ1 41 0 = σ 41 0 := f1 41 0 (by decide)
        have l1 : σ1 41 0 (-1) = L := by rw [e41]; exact hl
        ((conv => whnf); (repeat' (first | (refine ⟨fun _ => ?_, fun _ => ?_⟩ <;> first | (exfalso; omega) | (conv => whnf)) | (refine ⟨by omega, ?_⟩; conv => whnf) | (intro _; conv => whnf))))
        rw [e41]
        refine (WPd_mono d) _ _ _ _ _ (fun r σ2 hz => ?_) h5
        obtain ⟨rfl, rb, f2⟩ := hz
        have e2 : σ2 41 0 = σ 41 0 := by rw [f2 41 0 (by omega), e41]
        ((conv => whnf); (repeat' (first | (refine ⟨fun _ => ?_, fun _ => ?_⟩ <;> first | (exfalso; omega) | (conv => whnf)) | (refine ⟨by omega, ?_⟩; conv => whnf) | (intro _; conv => whnf))))
        exact fin σ2 rb e2
      have C267 : P 267 [.inr (41, 0), .inr (0, 0), .inr (26, 0), .inl i] [] σ := by
        (refine go (t := tb_law2) (WPd_mono d) hP 90 [18] ?_; (conv => whnf); (repeat' (first | (refine ⟨fun _ => ?_, fun _ => ?_⟩ <;> first | (exfalso; omega) | (conv => whnf)) | (refine ⟨by omega, ?_⟩; conv => whnf) | (intro _; conv => whnf))))
        refine (WPd_mono d) _ _ _ _ _ (fun r σ1 hz => ?_) (p_addAsh hd hR g1 g2 g3)
        obtain ⟨v, rfl, f1, vb, h5⟩ := hz
        have e41 : σ1 41 0 = σ 41 0 := f1 41 0 (by decide)
        have l1 : σ1 41 0 (-1) = L := by rw [e41]; exact hl
        ((conv => whnf); (repeat' (first | (refine ⟨fun _ => ?_, fun _ => ?_⟩ <;> first | (exfalso; omega) | (conv => whnf)) | (refine ⟨by omega, ?_⟩; conv => whnf) | (intro _; conv => whnf))))
        rw [e41]
        refine (WPd_mono d) _ _ _ _ _ (fun r σ2 hz => ?_) h5
        obtain ⟨rfl, rb, f2⟩ := hz
        have e2 : σ2 41 0 = σ 41 0 := by rw [f2 41 0 (by omega), e41]
        ((conv => whnf); (repeat' (first | (refine ⟨fun _ => ?_, fun _ => ?_⟩ <;> first | (exfalso; omega) | (conv => whnf)) | (refine ⟨by omega, ?_⟩; conv => whnf) | (intro _; conv => whnf))))
        exact fin σ2 rb e2
      have C310 : P 310 [.inr (41, 0), .inr (0, 0), .inr (26, 0), .inl i] [] σ := by
        (refine go (t := tb_law2) (WPd_mono d) hP 90 [18] ?_; (conv => whnf); (repeat' (first | (refine ⟨fun _ => ?_, fun _ => ?_⟩ <;> first | (exfalso; omega) | (conv => whnf)) | (refine ⟨by omega, ?_⟩; conv => whnf) | (intro _; conv => whnf))))
        refine (WPd_mono d) _ _ _ _ _ (fun r σ1 hz => ?_) (p_removeAsh hd hR g1)
        obtain ⟨v, rfl, f1, vb, h5⟩ := hz
        have e41 : σ1 41 0 = σ 41 0 := f1 41 0 (by decide)
        have l1 : σ1 41 0 (-1) = L := by rw [e41]; exact hl
        ((conv => whnf); (repeat' (first | (refine ⟨fun _ => ?_, fun _ => ?_⟩ <;> first | (exfalso; omega) | (conv => whnf)) | (refine ⟨by omega, ?_⟩; conv => whnf) | (intro _; conv => whnf))))
        rw [e41]
        refine (WPd_mono d) _ _ _ _ _ (fun r σ2 hz => ?_) h5
        obtain ⟨rfl, rb, f2⟩ := hz
        have e2 : σ2 41 0 = σ 41 0 := by rw [f2 41 0 (by omega), e41]
        ((conv => whnf); (repeat' (first | (refine ⟨fun _ => ?_, fun _ => ?_⟩ <;> first | (exfalso; omega) | (conv => whnf)) | (refine ⟨by omega, ?_⟩; conv => whnf) | (intro _; conv => whnf))))
        exact fin σ2 rb e2
      have C333 : P 333 [.inr (41, 0), .inr (0, 0), .inr (26, 0), .inl i] [] σ := by
        (refine go (t := tb_law2) (WPd_mono d) hP 90 [18] ?_; (conv => whnf); (repeat' (first | (refine ⟨fun _ => ?_, fun _ => ?_⟩ <;> first | (exfalso; omega) | (conv => whnf)) | (refine ⟨by omega, ?_⟩; conv => whnf) | (intro _; conv => whnf))))
        refine (WPd_mono d) _ _ _ _ _ (fun r σ1 hz => ?_) (p_set hd hR g1 g2)
        obtain ⟨v, rfl, f1, vb, h5⟩ := hz
        have e41 : σ1 41 0 = σ 41 0 := f1 41 0 (by decide)
        have l1 : σ1 41 0 (-1) = L := by rw [e41]; exact hl
        ((conv => whnf); (repeat' (first | (refine ⟨fun _ => ?_, fun _ => ?_⟩ <;> first | (exfalso; omega) | (conv => whnf)) | (refine ⟨by omega, ?_⟩; conv => whnf) | (intro _; conv => whnf))))
        rw [e41]
        refine (WPd_mono d) _ _ _ _ _ (fun r σ2 hz => ?_) h5
        obtain ⟨rfl, rb, f2⟩ := hz
        have e2 : σ2 41 0 = σ 41 0 := by rw [f2 41 0 (by omega), e41]
        ((conv => whnf); (repeat' (first | (refine ⟨fun _ => ?_, fun _ => ?_⟩ <;> first | (exfalso; omega) | (conv => whnf)) | (refine ⟨by omega, ?_⟩; conv => whnf) | (intro _; conv => whnf))))
        exact fin σ2 rb e2
      have C366 : P 366 [.inr (41, 0), .inr (0, 0), .inr (26, 0), .inl i] [] σ := by
        (refine go (t := tb_law2) (WPd_mono d) hP 90 [18] ?_; (conv => whnf); (repeat' (first | (refine ⟨fun _ => ?_, fun _ => ?_⟩ <;> first | (exfalso; omega) | (conv => whnf)) | (refine ⟨by omega, ?_⟩; conv => whnf) | (intro _; conv => whnf))))
        refine (WPd_mono d) _ _ _ _ _ (fun r σ1 hz => ?_) (p_lay hd hR )
        obtain ⟨v, rfl, f1, vb, h5⟩ := hz
        have e41 : σ1 41 0 = σ 41 0 := f1 41 0 (by decide)
        have l1 : σ1 41 0 (-1) = L := by rw [e41]; exact hl
        ((conv => whnf); (repeat' (first | (refine ⟨fun _ => ?_, fun _ => ?_⟩ <;> first | (exfalso; omega) | (conv => whnf)) | (refine ⟨by omega, ?_⟩; conv => whnf) | (intro _; conv => whnf))))
        skip
        refine (WPd_mono d) _ _ _ _ _ (fun r σ2 hz => ?_) h5
        obtain ⟨rfl, rb, f2⟩ := hz
        have e2 : σ2 41 0 = σ 41 0 := by rw [f2 41 0 (by omega), e41]
        ((conv => whnf); (repeat' (first | (refine ⟨fun _ => ?_, fun _ => ?_⟩ <;> first | (exfalso; omega) | (conv => whnf)) | (refine ⟨by omega, ?_⟩; conv => whnf) | (intro _; conv => whnf))))
        exact fin σ2 rb e2
      have C379 : P 379 [.inr (41, 0), .inr (0, 0), .inr (26, 0), .inl i] [] σ := by
        (refine go (t := tb_law2) (WPd_mono d) hP 90 [18] ?_; (conv => whnf); (repeat' (first | (refine ⟨fun _ => ?_, fun _ => ?_⟩ <;> first | (exfalso; omega) | (conv => whnf)) | (refine ⟨by omega, ?_⟩; conv => whnf) | (intro _; conv => whnf))))
        refine (WPd_mono d) _ _ _ _ _ (fun r σ1 hz => ?_) (p_undo hd hR )
        obtain ⟨v, rfl, f1, vb, h5⟩ := hz
        have e41 : σ1 41 0 = σ 41 0 := f1 41 0 (by decide)
        have l1 : σ1 41 0 (-1) = L := by rw [e41]; exact hl
        ((conv => whnf); (repeat' (first | (refine ⟨fun _ => ?_, fun _ => ?_⟩ <;> first | (exfalso; omega) | (conv => whnf)) | (refine ⟨by omega, ?_⟩; conv => whnf) | (intro _; conv => whnf))))
        skip
        refine (WPd_mono d) _ _ _ _ _ (fun r σ2 hz => ?_) h5
        obtain ⟨rfl, rb, f2⟩ := hz
        have e2 : σ2 41 0 = σ 41 0 := by rw [f2 41 0 (by omega), e41]
        ((conv => whnf); (repeat' (first | (refine ⟨fun _ => ?_, fun _ => ?_⟩ <;> first | (exfalso; omega) | (conv => whnf)) | (refine ⟨by omega, ?_⟩; conv => whnf) | (intro _; conv => whnf))))
        exact fin σ2 rb e2
      have C392 : P 392 [.inr (41, 0), .inr (0, 0), .inr (26, 0), .inl i] [] σ := by
        (refine go (t := tb_law2) (WPd_mono d) hP 90 [18] ?_; (conv => whnf); (repeat' (first | (refine ⟨fun _ => ?_, fun _ => ?_⟩ <;> first | (exfalso; omega) | (conv => whnf)) | (refine ⟨by omega, ?_⟩; conv => whnf) | (intro _; conv => whnf))))
        refine (WPd_mono d) _ _ _ _ _ (fun r σ1 hz => ?_) (p_count hd hR g1)
        obtain ⟨v, rfl, f1, vb, h5⟩ := hz
        have e41 : σ1 41 0 = σ 41 0 := f1 41 0 (by decide)
        have l1 : σ1 41 0 (-1) = L := by rw [e41]; exact hl
        ((conv => whnf); (repeat' (first | (refine ⟨fun _ => ?_, fun _ => ?_⟩ <;> first | (exfalso; omega) | (conv => whnf)) | (refine ⟨by omega, ?_⟩; conv => whnf) | (intro _; conv => whnf))))
        rw [e41]
        refine (WPd_mono d) _ _ _ _ _ (fun r σ2 hz => ?_) h5
        obtain ⟨rfl, rb, f2⟩ := hz
        have e2 : σ2 41 0 = σ 41 0 := by rw [f2 41 0 (by omega), e41]
        ((conv => whnf); (repeat' (first | (refine ⟨fun _ => ?_, fun _ => ?_⟩ <;> first | (exfalso; omega) | (conv => whnf)) | (refine ⟨by omega, ?_⟩; conv => whnf) | (intro _; conv => whnf))))
        exact fin σ2 rb e2
      have C415 : P 415 [.inr (41, 0), .inr (0, 0), .inr (26, 0), .inl i] [] σ := by
        (refine go (t := tb_law2) (WPd_mono d) hP 90 [18] ?_; (conv => whnf); (repeat' (first | (refine ⟨fun _ => ?_, fun _ => ?_⟩ <;> first | (exfalso; omega) | (conv => whnf)) | (refine ⟨by omega, ?_⟩; conv => whnf) | (intro _; conv => whnf))))
        refine (WPd_mono d) _ _ _ _ _ (fun r σ1 hz => ?_) (p_layer hd hR g1 g2)
        obtain ⟨v, rfl, f1, vb, h5⟩ := hz
        have e41 : σ1 41 0 = σ 41 0 := f1 41 0 (by decide)
        have l1 : σ1 41 0 (-1) = L := by rw [e41]; exact hl
        ((conv => whnf); (repeat' (first | (refine ⟨fun _ => ?_, fun _ => ?_⟩ <;> first | (exfalso; omega) | (conv => whnf)) | (refine ⟨by omega, ?_⟩; conv => whnf) | (intro _; conv => whnf))))
        rw [e41]
        refine (WPd_mono d) _ _ _ _ _ (fun r σ2 hz => ?_) h5
        obtain ⟨rfl, rb, f2⟩ := hz
        have e2 : σ2 41 0 = σ 41 0 := by rw [f2 41 0 (by omega), e41]
        ((conv => whnf); (repeat' (first | (refine ⟨fun _ => ?_, fun _ => ?_⟩ <;> first | (exfalso; omega) | (conv => whnf)) | (refine ⟨by omega, ?_⟩; conv => whnf) | (intro _; conv => whnf))))
        exact fin σ2 rb e2
      have C448 : P 448 [.inr (41, 0), .inr (0, 0), .inr (26, 0), .inl i] [] σ := by
        (refine go (t := tb_law2) (WPd_mono d) hP 90 [18] ?_; (conv => whnf); (repeat' (first | (refine ⟨fun _ => ?_, fun _ => ?_⟩ <;> first | (exfalso; omega) | (conv => whnf)) | (refine ⟨by omega, ?_⟩; conv => whnf) | (intro _; conv => whnf))))
        refine (WPd_mono d) _ _ _ _ _ (fun r σ1 hz => ?_) (p_ash hd hR g1 g2)
        obtain ⟨v, rfl, f1, vb, h5⟩ := hz
        have e41 : σ1 41 0 = σ 41 0 := f1 41 0 (by decide)
        have l1 : σ1 41 0 (-1) = L := by rw [e41]; exact hl
        ((conv => whnf); (repeat' (first | (refine ⟨fun _ => ?_, fun _ => ?_⟩ <;> first | (exfalso; omega) | (conv => whnf)) | (refine ⟨by omega, ?_⟩; conv => whnf) | (intro _; conv => whnf))))
        rw [e41]
        refine (WPd_mono d) _ _ _ _ _ (fun r σ2 hz => ?_) h5
        obtain ⟨rfl, rb, f2⟩ := hz
        have e2 : σ2 41 0 = σ 41 0 := by rw [f2 41 0 (by omega), e41]
        ((conv => whnf); (repeat' (first | (refine ⟨fun _ => ?_, fun _ => ?_⟩ <;> first | (exfalso; omega) | (conv => whnf)) | (refine ⟨by omega, ?_⟩; conv => whnf) | (intro _; conv => whnf))))
        exact fin σ2 rb e2
      have C481 : P 481 [.inr (41, 0), .inr (0, 0), .inr (26, 0), .inl i] [] σ := by
        (refine go (t := tb_law2) (WPd_mono d) hP 90 [18] ?_; (conv => whnf); (repeat' (first | (refine ⟨fun _ => ?_, fun _ => ?_⟩ <;> first | (exfalso; omega) | (conv => whnf)) | (refine ⟨by omega, ?_⟩; conv => whnf) | (intro _; conv => whnf))))
        refine (WPd_mono d) _ _ _ _ _ (fun r σ1 hz => ?_) (p_cost hd hR )
        obtain ⟨v, rfl, f1, vb, h5⟩ := hz
        have e41 : σ1 41 0 = σ 41 0 := f1 41 0 (by decide)
        have l1 : σ1 41 0 (-1) = L := by rw [e41]; exact hl
        ((conv => whnf); (repeat' (first | (refine ⟨fun _ => ?_, fun _ => ?_⟩ <;> first | (exfalso; omega) | (conv => whnf)) | (refine ⟨by omega, ?_⟩; conv => whnf) | (intro _; conv => whnf))))
        skip
        refine (WPd_mono d) _ _ _ _ _ (fun r σ2 hz => ?_) h5
        obtain ⟨rfl, rb, f2⟩ := hz
        have e2 : σ2 41 0 = σ 41 0 := by rw [f2 41 0 (by omega), e41]
        ((conv => whnf); (repeat' (first | (refine ⟨fun _ => ?_, fun _ => ?_⟩ <;> first | (exfalso; omega) | (conv => whnf)) | (refine ⟨by omega, ?_⟩; conv => whnf) | (intro _; conv => whnf))))
        exact fin σ2 rb e2
      have C494 : P 494 [.inr (41, 0), .inr (0, 0), .inr (26, 0), .inl i] [] σ := by
        (refine go (t := tb_law2) (WPd_mono d) hP 90 [18] ?_; (conv => whnf); (repeat' (first | (refine ⟨fun _ => ?_, fun _ => ?_⟩ <;> first | (exfalso; omega) | (conv => whnf)) | (refine ⟨by omega, ?_⟩; conv => whnf) | (intro _; conv => whnf))))
        refine (WPd_mono d) _ _ _ _ _ (fun r σ1 hz => ?_) (p_years hd hR g1 g2)
        obtain ⟨v, rfl, f1, vb, h5⟩ := hz
        have e41 : σ1 41 0 = σ 41 0 := f1 41 0 (by decide)
        have l1 : σ1 41 0 (-1) = L := by rw [e41]; exact hl
        ((conv => whnf); (repeat' (first | (refine ⟨fun _ => ?_, fun _ => ?_⟩ <;> first | (exfalso; omega) | (conv => whnf)) | (refine ⟨by omega, ?_⟩; conv => whnf) | (intro _; conv => whnf))))
        rw [e41]
        refine (WPd_mono d) _ _ _ _ _ (fun r σ2 hz => ?_) h5
        obtain ⟨rfl, rb, f2⟩ := hz
        have e2 : σ2 41 0 = σ 41 0 := by rw [f2 41 0 (by omega), e41]
        ((conv => whnf); (repeat' (first | (refine ⟨fun _ => ?_, fun _ => ?_⟩ <;> first | (exfalso; omega) | (conv => whnf)) | (refine ⟨by omega, ?_⟩; conv => whnf) | (intro _; conv => whnf))))
        exact fin σ2 rb e2
      have C527 : P 527 [.inr (41, 0), .inr (0, 0), .inr (26, 0), .inl i] [] σ := by
        (refine go (t := tb_law2) (WPd_mono d) hP 90 [18] ?_; (conv => whnf); (repeat' (first | (refine ⟨fun _ => ?_, fun _ => ?_⟩ <;> first | (exfalso; omega) | (conv => whnf)) | (refine ⟨by omega, ?_⟩; conv => whnf) | (intro _; conv => whnf))))
        refine (WPd_mono d) _ _ _ _ _ (fun r σ1 hz => ?_) (p_age hd hR g1)
        obtain ⟨v, rfl, f1, vb, h5⟩ := hz
        have e41 : σ1 41 0 = σ 41 0 := f1 41 0 (by decide)
        have l1 : σ1 41 0 (-1) = L := by rw [e41]; exact hl
        ((conv => whnf); (repeat' (first | (refine ⟨fun _ => ?_, fun _ => ?_⟩ <;> first | (exfalso; omega) | (conv => whnf)) | (refine ⟨by omega, ?_⟩; conv => whnf) | (intro _; conv => whnf))))
        rw [e41]
        refine (WPd_mono d) _ _ _ _ _ (fun r σ2 hz => ?_) h5
        obtain ⟨rfl, rb, f2⟩ := hz
        have e2 : σ2 41 0 = σ 41 0 := by rw [f2 41 0 (by omega), e41]
        ((conv => whnf); (repeat' (first | (refine ⟨fun _ => ?_, fun _ => ?_⟩ <;> first | (exfalso; omega) | (conv => whnf)) | (refine ⟨by omega, ?_⟩; conv => whnf) | (intro _; conv => whnf))))
        exact fin σ2 rb e2
      have C550 : P 550 [.inr (41, 0), .inr (0, 0), .inr (26, 0), .inl i] [] σ := by
        (refine go (t := tb_law2) (WPd_mono d) hP 90 [18] ?_; (conv => whnf); (repeat' (first | (refine ⟨fun _ => ?_, fun _ => ?_⟩ <;> first | (exfalso; omega) | (conv => whnf)) | (refine ⟨by omega, ?_⟩; conv => whnf) | (intro _; conv => whnf))))
        refine (WPd_mono d) _ _ _ _ _ (fun r σ1 hz => ?_) (p_offset hd hR g1)
        obtain ⟨v, rfl, f1, vb, h5⟩ := hz
        have e41 : σ1 41 0 = σ 41 0 := f1 41 0 (by decide)
        have l1 : σ1 41 0 (-1) = L := by rw [e41]; exact hl
        ((conv => whnf); (repeat' (first | (refine ⟨fun _ => ?_, fun _ => ?_⟩ <;> first | (exfalso; omega) | (conv => whnf)) | (refine ⟨by omega, ?_⟩; conv => whnf) | (intro _; conv => whnf))))
        rw [e41]
        refine (WPd_mono d) _ _ _ _ _ (fun r σ2 hz => ?_) h5
        obtain ⟨rfl, rb, f2⟩ := hz
        have e2 : σ2 41 0 = σ 41 0 := by rw [f2 41 0 (by omega), e41]
        ((conv => whnf); (repeat' (first | (refine ⟨fun _ => ?_, fun _ => ?_⟩ <;> first | (exfalso; omega) | (conv => whnf)) | (refine ⟨by omega, ?_⟩; conv => whnf) | (intro _; conv => whnf))))
        exact fin σ2 rb e2
      have C573 : P 573 [.inr (41, 0), .inr (0, 0), .inr (26, 0), .inl i] [] σ := by
        (refine go (t := tb_law2) (WPd_mono d) hP 90 [18] ?_; (conv => whnf); (repeat' (first | (refine ⟨fun _ => ?_, fun _ => ?_⟩ <;> first | (exfalso; omega) | (conv => whnf)) | (refine ⟨by omega, ?_⟩; conv => whnf) | (intro _; conv => whnf))))
        refine (WPd_mono d) _ _ _ _ _ (fun r σ1 hz => ?_) (p_total hd hR g1)
        obtain ⟨v, rfl, f1, vb, h5⟩ := hz
        have e41 : σ1 41 0 = σ 41 0 := f1 41 0 (by decide)
        have l1 : σ1 41 0 (-1) = L := by rw [e41]; exact hl
        ((conv => whnf); (repeat' (first | (refine ⟨fun _ => ?_, fun _ => ?_⟩ <;> first | (exfalso; omega) | (conv => whnf)) | (refine ⟨by omega, ?_⟩; conv => whnf) | (intro _; conv => whnf))))
        rw [e41]
        refine (WPd_mono d) _ _ _ _ _ (fun r σ2 hz => ?_) h5
        obtain ⟨rfl, rb, f2⟩ := hz
        have e2 : σ2 41 0 = σ 41 0 := by rw [f2 41 0 (by omega), e41]
        ((conv => whnf); (repeat' (first | (refine ⟨fun _ => ?_, fun _ => ?_⟩ <;> first | (exfalso; omega) | (conv => whnf)) | (refine ⟨by omega, ?_⟩; conv => whnf) | (intro _; conv => whnf))))
        exact fin σ2 rb e2
      have C596 : P 596 [.inr (41, 0), .inr (0, 0), .inr (26, 0), .inl i] [] σ := by
        (refine go (t := tb_law2) (WPd_mono d) hP 90 [18] ?_; (conv => whnf); (repeat' (first | (refine ⟨fun _ => ?_, fun _ => ?_⟩ <;> first | (exfalso; omega) | (conv => whnf)) | (refine ⟨by omega, ?_⟩; conv => whnf) | (intro _; conv => whnf))))
        refine (WPd_mono d) _ _ _ _ _ (fun r σ1 hz => ?_) (p_ways hd hR )
        obtain ⟨v, rfl, f1, vb, h5⟩ := hz
        have e41 : σ1 41 0 = σ 41 0 := f1 41 0 (by decide)
        have l1 : σ1 41 0 (-1) = L := by rw [e41]; exact hl
        ((conv => whnf); (repeat' (first | (refine ⟨fun _ => ?_, fun _ => ?_⟩ <;> first | (exfalso; omega) | (conv => whnf)) | (refine ⟨by omega, ?_⟩; conv => whnf) | (intro _; conv => whnf))))
        skip
        refine (WPd_mono d) _ _ _ _ _ (fun r σ2 hz => ?_) h5
        obtain ⟨rfl, rb, f2⟩ := hz
        have e2 : σ2 41 0 = σ 41 0 := by rw [f2 41 0 (by omega), e41]
        ((conv => whnf); (repeat' (first | (refine ⟨fun _ => ?_, fun _ => ?_⟩ <;> first | (exfalso; omega) | (conv => whnf)) | (refine ⟨by omega, ?_⟩; conv => whnf) | (intro _; conv => whnf))))
        exact fin σ2 rb e2
      have C609 : P 609 [.inr (41, 0), .inr (0, 0), .inr (26, 0), .inl i] [] σ := by
        (refine go (t := tb_law2) (WPd_mono d) hP 90 [18] ?_; (conv => whnf); (repeat' (first | (refine ⟨fun _ => ?_, fun _ => ?_⟩ <;> first | (exfalso; omega) | (conv => whnf)) | (refine ⟨by omega, ?_⟩; conv => whnf) | (intro _; conv => whnf))))
        refine (WPd_mono d) _ _ _ _ _ (fun r σ1 hz => ?_) (p_rate hd hR g1 g2 g3)
        obtain ⟨v, rfl, f1, vb, h5⟩ := hz
        have e41 : σ1 41 0 = σ 41 0 := f1 41 0 (by decide)
        have l1 : σ1 41 0 (-1) = L := by rw [e41]; exact hl
        ((conv => whnf); (repeat' (first | (refine ⟨fun _ => ?_, fun _ => ?_⟩ <;> first | (exfalso; omega) | (conv => whnf)) | (refine ⟨by omega, ?_⟩; conv => whnf) | (intro _; conv => whnf))))
        rw [e41]
        refine (WPd_mono d) _ _ _ _ _ (fun r σ2 hz => ?_) h5
        obtain ⟨rfl, rb, f2⟩ := hz
        have e2 : σ2 41 0 = σ 41 0 := by rw [f2 41 0 (by omega), e41]
        ((conv => whnf); (repeat' (first | (refine ⟨fun _ => ?_, fun _ => ?_⟩ <;> first | (exfalso; omega) | (conv => whnf)) | (refine ⟨by omega, ?_⟩; conv => whnf) | (intro _; conv => whnf))))
        exact fin σ2 rb e2
      have C652 : P 652 [.inr (41, 0), .inr (0, 0), .inr (26, 0), .inl i] [] σ := by
        (refine go (t := tb_law2) (WPd_mono d) hP 90 [18] ?_; (conv => whnf); (repeat' (first | (refine ⟨fun _ => ?_, fun _ => ?_⟩ <;> first | (exfalso; omega) | (conv => whnf)) | (refine ⟨by omega, ?_⟩; conv => whnf) | (intro _; conv => whnf))))
        refine (WPd_mono d) _ _ _ _ _ (fun r σ1 hz => ?_) (p_bound hd hR g1 g2 g3)
        obtain ⟨v, rfl, f1, vb, h5⟩ := hz
        have e41 : σ1 41 0 = σ 41 0 := f1 41 0 (by decide)
        have l1 : σ1 41 0 (-1) = L := by rw [e41]; exact hl
        ((conv => whnf); (repeat' (first | (refine ⟨fun _ => ?_, fun _ => ?_⟩ <;> first | (exfalso; omega) | (conv => whnf)) | (refine ⟨by omega, ?_⟩; conv => whnf) | (intro _; conv => whnf))))
        rw [e41]
        refine (WPd_mono d) _ _ _ _ _ (fun r σ2 hz => ?_) h5
        obtain ⟨rfl, rb, f2⟩ := hz
        have e2 : σ2 41 0 = σ 41 0 := by rw [f2 41 0 (by omega), e41]
        ((conv => whnf); (repeat' (first | (refine ⟨fun _ => ?_, fun _ => ?_⟩ <;> first | (exfalso; omega) | (conv => whnf)) | (refine ⟨by omega, ?_⟩; conv => whnf) | (intro _; conv => whnf))))
        exact fin σ2 rb e2
      have C695 : P 695 [.inr (41, 0), .inr (0, 0), .inr (26, 0), .inl i] [] σ := by
        (refine go (t := tb_law2) (WPd_mono d) hP 90 [18] ?_; (conv => whnf); (repeat' (first | (refine ⟨fun _ => ?_, fun _ => ?_⟩ <;> first | (exfalso; omega) | (conv => whnf)) | (refine ⟨by omega, ?_⟩; conv => whnf) | (intro _; conv => whnf))))
        refine (WPd_mono d) _ _ _ _ _ (fun r σ1 hz => ?_) (p_without hd hR g1)
        obtain ⟨v, rfl, f1, vb, h5⟩ := hz
        have e41 : σ1 41 0 = σ 41 0 := f1 41 0 (by decide)
        have l1 : σ1 41 0 (-1) = L := by rw [e41]; exact hl
        ((conv => whnf); (repeat' (first | (refine ⟨fun _ => ?_, fun _ => ?_⟩ <;> first | (exfalso; omega) | (conv => whnf)) | (refine ⟨by omega, ?_⟩; conv => whnf) | (intro _; conv => whnf))))
        rw [e41]
        refine (WPd_mono d) _ _ _ _ _ (fun r σ2 hz => ?_) h5
        obtain ⟨rfl, rb, f2⟩ := hz
        have e2 : σ2 41 0 = σ 41 0 := by rw [f2 41 0 (by omega), e41]
        ((conv => whnf); (repeat' (first | (refine ⟨fun _ => ?_, fun _ => ?_⟩ <;> first | (exfalso; omega) | (conv => whnf)) | (refine ⟨by omega, ?_⟩; conv => whnf) | (intro _; conv => whnf))))
        exact fin σ2 rb e2
      have C718 : P 718 [.inr (41, 0), .inr (0, 0), .inr (26, 0), .inl i] [] σ := by
        (refine go (t := tb_law2) (WPd_mono d) hP 90 [18] ?_; (conv => whnf); (repeat' (first | (refine ⟨fun _ => ?_, fun _ => ?_⟩ <;> first | (exfalso; omega) | (conv => whnf)) | (refine ⟨by omega, ?_⟩; conv => whnf) | (intro _; conv => whnf))))
        refine (WPd_mono d) _ _ _ _ _ (fun r σ1 hz => ?_) (p_widen hd hR )
        obtain ⟨v, rfl, f1, vb, h5⟩ := hz
        have e41 : σ1 41 0 = σ 41 0 := f1 41 0 (by decide)
        have l1 : σ1 41 0 (-1) = L := by rw [e41]; exact hl
        ((conv => whnf); (repeat' (first | (refine ⟨fun _ => ?_, fun _ => ?_⟩ <;> first | (exfalso; omega) | (conv => whnf)) | (refine ⟨by omega, ?_⟩; conv => whnf) | (intro _; conv => whnf))))
        skip
        refine (WPd_mono d) _ _ _ _ _ (fun r σ2 hz => ?_) h5
        obtain ⟨rfl, rb, f2⟩ := hz
        have e2 : σ2 41 0 = σ 41 0 := by rw [f2 41 0 (by omega), e41]
        ((conv => whnf); (repeat' (first | (refine ⟨fun _ => ?_, fun _ => ?_⟩ <;> first | (exfalso; omega) | (conv => whnf)) | (refine ⟨by omega, ?_⟩; conv => whnf) | (intro _; conv => whnf))))
        exact fin σ2 rb e2
      have C731 : P 731 [.inr (41, 0), .inr (0, 0), .inr (26, 0), .inl i] [] σ := by
        (refine go (t := tb_law2) (WPd_mono d) hP 90 [18] ?_; (conv => whnf); (repeat' (first | (refine ⟨fun _ => ?_, fun _ => ?_⟩ <;> first | (exfalso; omega) | (conv => whnf)) | (refine ⟨by omega, ?_⟩; conv => whnf) | (intro _; conv => whnf))))
        refine (WPd_mono d) _ _ _ _ _ (fun r σ1 hz => ?_) (p_costWith hd hR g1 g2 g3)
        obtain ⟨v, rfl, f1, vb, h5⟩ := hz
        have e41 : σ1 41 0 = σ 41 0 := f1 41 0 (by decide)
        have l1 : σ1 41 0 (-1) = L := by rw [e41]; exact hl
        ((conv => whnf); (repeat' (first | (refine ⟨fun _ => ?_, fun _ => ?_⟩ <;> first | (exfalso; omega) | (conv => whnf)) | (refine ⟨by omega, ?_⟩; conv => whnf) | (intro _; conv => whnf))))
        rw [e41]
        refine (WPd_mono d) _ _ _ _ _ (fun r σ2 hz => ?_) h5
        obtain ⟨rfl, rb, f2⟩ := hz
        have e2 : σ2 41 0 = σ 41 0 := by rw [f2 41 0 (by omega), e41]
        ((conv => whnf); (repeat' (first | (refine ⟨fun _ => ?_, fun _ => ?_⟩ <;> first | (exfalso; omega) | (conv => whnf)) | (refine ⟨by omega, ?_⟩; conv => whnf) | (intro _; conv => whnf))))
        exact fin σ2 rb e2
      have C774 : P 774 [.inr (41, 0), .inr (0, 0), .inr (26, 0), .inl i] [] σ := by
        (refine go (t := tb_law2) (WPd_mono d) hP 90 [18] ?_; (conv => whnf); (repeat' (first | (refine ⟨fun _ => ?_, fun _ => ?_⟩ <;> first | (exfalso; omega) | (conv => whnf)) | (refine ⟨by omega, ?_⟩; conv => whnf) | (intro _; conv => whnf))))
        refine (WPd_mono d) _ _ _ _ _ (fun r σ1 hz => ?_) (p_type hd hR g1)
        obtain ⟨v, rfl, f1, vb, h5⟩ := hz
        have e41 : σ1 41 0 = σ 41 0 := f1 41 0 (by decide)
        have l1 : σ1 41 0 (-1) = L := by rw [e41]; exact hl
        ((conv => whnf); (repeat' (first | (refine ⟨fun _ => ?_, fun _ => ?_⟩ <;> first | (exfalso; omega) | (conv => whnf)) | (refine ⟨by omega, ?_⟩; conv => whnf) | (intro _; conv => whnf))))
        rw [e41]
        refine (WPd_mono d) _ _ _ _ _ (fun r σ2 hz => ?_) h5
        obtain ⟨rfl, rb, f2⟩ := hz
        have e2 : σ2 41 0 = σ 41 0 := by rw [f2 41 0 (by omega), e41]
        ((conv => whnf); (repeat' (first | (refine ⟨fun _ => ?_, fun _ => ?_⟩ <;> first | (exfalso; omega) | (conv => whnf)) | (refine ⟨by omega, ?_⟩; conv => whnf) | (intro _; conv => whnf))))
        exact fin σ2 rb e2
      have C797 : P 797 [.inr (41, 0), .inr (0, 0), .inr (26, 0), .inl i] [] σ := by
        (refine go (t := tb_law2) (WPd_mono d) hP 90 [18] ?_; (conv => whnf); (repeat' (first | (refine ⟨fun _ => ?_, fun _ => ?_⟩ <;> first | (exfalso; omega) | (conv => whnf)) | (refine ⟨by omega, ?_⟩; conv => whnf) | (intro _; conv => whnf))))
        refine (WPd_mono d) _ _ _ _ _ (fun r σ1 hz => ?_) (p_clearText hd hR )
        obtain ⟨v, rfl, f1, vb, h5⟩ := hz
        have e41 : σ1 41 0 = σ 41 0 := f1 41 0 (by decide)
        have l1 : σ1 41 0 (-1) = L := by rw [e41]; exact hl
        ((conv => whnf); (repeat' (first | (refine ⟨fun _ => ?_, fun _ => ?_⟩ <;> first | (exfalso; omega) | (conv => whnf)) | (refine ⟨by omega, ?_⟩; conv => whnf) | (intro _; conv => whnf))))
        skip
        refine (WPd_mono d) _ _ _ _ _ (fun r σ2 hz => ?_) h5
        obtain ⟨rfl, rb, f2⟩ := hz
        have e2 : σ2 41 0 = σ 41 0 := by rw [f2 41 0 (by omega), e41]
        ((conv => whnf); (repeat' (first | (refine ⟨fun _ => ?_, fun _ => ?_⟩ <;> first | (exfalso; omega) | (conv => whnf)) | (refine ⟨by omega, ?_⟩; conv => whnf) | (intro _; conv => whnf))))
        exact fin σ2 rb e2
      have C810 : P 810 [.inr (41, 0), .inr (0, 0), .inr (26, 0), .inl i] [] σ := by
        (refine go (t := tb_law2) (WPd_mono d) hP 90 [18] ?_; (conv => whnf); (repeat' (first | (refine ⟨fun _ => ?_, fun _ => ?_⟩ <;> first | (exfalso; omega) | (conv => whnf)) | (refine ⟨by omega, ?_⟩; conv => whnf) | (intro _; conv => whnf))))
        refine (WPd_mono d) _ _ _ _ _ (fun r σ1 hz => ?_) (p_fault hd hR )
        obtain ⟨v, rfl, f1, vb, h5⟩ := hz
        have e41 : σ1 41 0 = σ 41 0 := f1 41 0 (by decide)
        have l1 : σ1 41 0 (-1) = L := by rw [e41]; exact hl
        ((conv => whnf); (repeat' (first | (refine ⟨fun _ => ?_, fun _ => ?_⟩ <;> first | (exfalso; omega) | (conv => whnf)) | (refine ⟨by omega, ?_⟩; conv => whnf) | (intro _; conv => whnf))))
        skip
        refine (WPd_mono d) _ _ _ _ _ (fun r σ2 hz => ?_) h5
        obtain ⟨rfl, rb, f2⟩ := hz
        have e2 : σ2 41 0 = σ 41 0 := by rw [f2 41 0 (by omega), e41]
        ((conv => whnf); (repeat' (first | (refine ⟨fun _ => ?_, fun _ => ?_⟩ <;> first | (exfalso; omega) | (conv => whnf)) | (refine ⟨by omega, ?_⟩; conv => whnf) | (intro _; conv => whnf))))
        exact fin σ2 rb e2
      have D : P 823 [.inr (41, 0), .inr (0, 0), .inr (26, 0), .inl i] [] σ := by
        (refine go (t := tb_law2) (WPd_mono d) hP 90 [18] ?_; (conv => whnf); (repeat' (first | (refine ⟨fun _ => ?_, fun _ => ?_⟩ <;> first | (exfalso; omega) | (conv => whnf)) | (refine ⟨by omega, ?_⟩; conv => whnf) | (intro _; conv => whnf))))
        exact fin σ hR rfl
      have sb : 0 ≤ σ 41 0 i % 32 ∧ σ 41 0 i % 32 < 32 := by omega
      (refine go (t := tb_law2) (WPd_mono d) hP 90 [18, 31, 823] ?_; (conv => whnf); (repeat' (first | (refine ⟨fun _ => ?_, fun _ => ?_⟩ <;> first | (exfalso; omega) | (conv => whnf)) | (refine ⟨by omega, ?_⟩; conv => whnf) | (intro _; conv => whnf))))
      refine h31 _ _ _ _ ?_
      (refine go (t := tb_law2) (WPd_mono d) hP 90 [18, 823, 148, 201, 224, 267, 310, 333, 366, 379, 392, 415, 448, 481, 494, 527, 550, 573, 596, 609, 652, 695, 718, 731, 774, 797, 810] ?_; (conv => whnf); (repeat' (first | (refine ⟨fun _ => ?_, fun _ => ?_⟩ <;> first | (exfalso; omega) | (conv => whnf)) | (refine ⟨by omega, ?_⟩; conv => whnf) | (intro _; conv => whnf))))
      refine ⟨fun q => D, ?_⟩
      (conv => whnf)
      refine ⟨fun q => C148, ?_⟩
      (conv => whnf)
      refine ⟨fun q => C201, ?_⟩
      (conv => whnf)
      refine ⟨fun q => C224, ?_⟩
      (conv => whnf)
      refine ⟨fun q => C267, ?_⟩
      (conv => whnf)
      refine ⟨fun q => C310, ?_⟩
      (conv => whnf)
      refine ⟨fun q => C333, ?_⟩
      (conv => whnf)
      refine ⟨fun q => C366, ?_⟩
      (conv => whnf)
      refine ⟨fun q => C379, ?_⟩
      (conv => whnf)
      refine ⟨fun q => C392, ?_⟩
      (conv => whnf)
      refine ⟨fun q => C415, ?_⟩
      (conv => whnf)
      refine ⟨fun q => C448, ?_⟩
      (conv => whnf)
      refine ⟨fun q => C481, ?_⟩
      (conv => whnf)
      refine ⟨fun q => C494, ?_⟩
      (conv => whnf)
      refine ⟨fun q => C527, ?_⟩
      (conv => whnf)
      refine ⟨fun q => C550, ?_⟩
      (conv => whnf)
      refine ⟨fun q => C573, ?_⟩
      (conv => whnf)
      refine ⟨fun q => C596, ?_⟩
      (conv => whnf)
      refine ⟨fun q => C609, ?_⟩
      (conv => whnf)
      refine ⟨fun q => C652, ?_⟩
      (conv => whnf)
      refine ⟨fun q => C695, ?_⟩
      (conv => whnf)
      refine ⟨fun q => C718, ?_⟩
      (conv => whnf)
      refine ⟨fun q => C731, ?_⟩
      (conv => whnf)
      refine ⟨fun q => C774, ?_⟩
      (conv => whnf)
      refine ⟨fun q => C797, ?_⟩
      (conv => whnf)
      refine ⟨fun q => C810, ?_⟩
      exact trivial
    · (refine go (t := tb_law2) (WPd_mono d) hP 90 [18] ?_; (conv => whnf); (repeat' (first | (refine ⟨fun _ => ?_, fun _ => ?_⟩ <;> first | (exfalso; omega) | (conv => whnf)) | (refine ⟨by omega, ?_⟩; conv => whnf) | (intro _; conv => whnf))))

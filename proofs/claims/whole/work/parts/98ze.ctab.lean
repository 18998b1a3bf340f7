/-! The constructors' instructions as a table. -/
def it_0 : List (Nat × Instr × Nat) := [(0, .aload_n 0, 1), (1, .invokespecial 3, 3), (4, .aload_n 0, 1), (5, .iconst 1, 1), (6, .putfield 9, 3), (9, .aload_n 0, 1), (10, .bipush 12, 2), (12, .newarray .long, 2), (14, .putfield 15, 3), (17, .aload_n 0, 1), (18, .aload_n 1, 1), (19, .putfield 19, 3), (22, .return_, 1)]
theorem it_0_ok : it_0.all (fun r => decide (decode (bc 0) r.1 = .ok r.2)) = true := by decide +kernel
def it_18 : List (Nat × Instr × Nat) := [(0, .aload_n 0, 1), (1, .invokespecial 3, 3), (4, .aload_n 0, 1), (5, .bipush 6, 2), (7, .anewarray 9, 3), (10, .putfield 11, 3), (13, .aload_n 0, 1), (14, .iconst 0, 1), (15, .putfield 17, 3), (18, .aload_n 0, 1), (19, .aload_n 1, 1), (20, .putfield 21, 3), (23, .iconst 0, 1), (24, .istore_n 2, 1), (25, .iload_n 2, 1), (26, .bipush 6, 2), (28, .if_icmp .ge 23, 3), (31, .aload_n 0, 1), (32, .getfield 11, 3), (35, .iload_n 2, 1), (36, .new 9, 3), (39, .dup, 1), (40, .aload_n 1, 1), (41, .invokespecial 25, 3), (44, .aastore, 1), (45, .iinc 2 1, 3), (48, .goto (-23), 3), (51, .aload_n 0, 1), (52, .new 9, 3), (55, .dup, 1), (56, .aload_n 1, 1), (57, .invokespecial 25, 3), (60, .putfield 28, 3), (63, .aload_n 0, 1), (64, .new 9, 3), (67, .dup, 1), (68, .aload_n 1, 1), (69, .invokespecial 25, 3), (72, .putfield 32, 3), (75, .aload_n 0, 1), (76, .new 9, 3), (79, .dup, 1), (80, .aload_n 1, 1), (81, .invokespecial 25, 3), (84, .putfield 35, 3), (87, .aload_n 0, 1), (88, .new 9, 3), (91, .dup, 1), (92, .aload_n 1, 1), (93, .invokespecial 25, 3), (96, .putfield 38, 3), (99, .aload_n 0, 1), (100, .new 41, 3), (103, .dup, 1), (104, .aload_n 1, 1), (105, .invokespecial 43, 3), (108, .putfield 44, 3), (111, .return_, 1)]
theorem it_18_ok : it_18.all (fun r => decide (decode (bc 18) r.1 = .ok r.2)) = true := by decide +kernel
def it_25 : List (Nat × Instr × Nat) := [(0, .aload_n 0, 1), (1, .invokespecial 3, 3), (4, .aload_n 0, 1), (5, .iconst 2, 1), (6, .putfield 9, 3), (9, .return_, 1)]
theorem it_25_ok : it_25.all (fun r => decide (decode (bc 25) r.1 = .ok r.2)) = true := by decide +kernel
def it_33 : List (Nat × Instr × Nat) := [(0, .aload_n 0, 1), (1, .invokespecial 3, 3), (4, .aload_n 0, 1), (5, .bipush 36, 2), (7, .bipush 6, 2), (9, .multianewarray 9 2, 4), (13, .putfield 11, 3), (16, .aload_n 0, 1), (17, .bipush 36, 2), (19, .newarray .int, 2), (21, .putfield 16, 3), (24, .aload_n 0, 1), (25, .bipush 36, 2), (27, .newarray .int, 2), (29, .putfield 20, 3), (32, .aload_n 0, 1), (33, .iconst 0, 1), (34, .putfield 23, 3), (37, .aload_n 0, 1), (38, .aload_n 1, 1), (39, .putfield 27, 3), (42, .return_, 1)]
theorem it_33_ok : it_33.all (fun r => decide (decode (bc 33) r.1 = .ok r.2)) = true := by decide +kernel
def it_38 : List (Nat × Instr × Nat) := [(0, .aload_n 0, 1), (1, .invokespecial 3, 3), (4, .aload_n 0, 1), (5, .iconst 0, 1), (6, .putfield 9, 3), (9, .aload_n 0, 1), (10, .iconst 0, 1), (11, .putfield 15, 3), (14, .aload_n 0, 1), (15, .bipush 8, 2), (17, .newarray .int, 2), (19, .putfield 18, 3), (22, .aload_n 0, 1), (23, .bipush 32, 2), (25, .anewarray 22, 3), (28, .putfield 24, 3), (31, .aload_n 0, 1), (32, .aload_n 1, 1), (33, .putfield 28, 3), (36, .iconst 0, 1), (37, .istore_n 2, 1), (38, .iload_n 2, 1), (39, .bipush 32, 2), (41, .if_icmp .ge 23, 3), (44, .aload_n 0, 1), (45, .getfield 24, 3), (48, .iload_n 2, 1), (49, .new 22, 3), (52, .dup, 1), (53, .aload_n 1, 1), (54, .invokespecial 32, 3), (57, .aastore, 1), (58, .iinc 2 1, 3), (61, .goto (-23), 3), (64, .return_, 1)]
theorem it_38_ok : it_38.all (fun r => decide (decode (bc 38) r.1 = .ok r.2)) = true := by decide +kernel
def it_41 : List (Nat × Instr × Nat) := [(0, .aload_n 0, 1), (1, .invokespecial 3, 3), (4, .aload_n 0, 1), (5, .bipush 7, 2), (7, .newarray .int, 2), (9, .putfield 9, 3), (12, .aload_n 0, 1), (13, .bipush 6, 2), (15, .bipush 6, 2), (17, .multianewarray 15 2, 4), (21, .putfield 17, 3), (24, .aload_n 0, 1), (25, .bipush 6, 2), (27, .bipush 6, 2), (29, .multianewarray 15 2, 4), (33, .putfield 20, 3), (36, .aload_n 0, 1), (37, .bipush 6, 2), (39, .bipush 6, 2), (41, .multianewarray 15 2, 4), (45, .putfield 23, 3), (48, .return_, 1)]
theorem it_41_ok : it_41.all (fun r => decide (decode (bc 41) r.1 = .ok r.2)) = true := by decide +kernel
def it_46 : List (Nat × Instr × Nat) := [(0, .aload_n 0, 1), (1, .invokespecial 3, 3), (4, .aload_n 0, 1), (5, .sipush 243, 3), (8, .newarray .int, 2), (10, .putfield 9, 3), (13, .aload_n 0, 1), (14, .aload_n 1, 1), (15, .putfield 15, 3), (18, .aload_n 0, 1), (19, .new 19, 3), (22, .dup, 1), (23, .aload_n 1, 1), (24, .invokespecial 21, 3), (27, .putfield 24, 3), (30, .aload_n 0, 1), (31, .new 19, 3), (34, .dup, 1), (35, .aload_n 1, 1), (36, .invokespecial 21, 3), (39, .putfield 28, 3), (42, .aload_n 0, 1), (43, .new 31, 3), (46, .dup, 1), (47, .aload_n 1, 1), (48, .invokespecial 33, 3), (51, .putfield 34, 3), (54, .aload_n 0, 1), (55, .new 31, 3), (58, .dup, 1), (59, .aload_n 1, 1), (60, .invokespecial 33, 3), (63, .putfield 38, 3), (66, .aload_n 0, 1), (67, .new 31, 3), (70, .dup, 1), (71, .aload_n 1, 1), (72, .invokespecial 33, 3), (75, .putfield 41, 3), (78, .return_, 1)]
theorem it_46_ok : it_46.all (fun r => decide (decode (bc 46) r.1 = .ok r.2)) = true := by decide +kernel
def it_51 : List (Nat × Instr × Nat) := [(0, .aload_n 0, 1), (1, .invokespecial 3, 3), (4, .aload_n 0, 1), (5, .iconst 1, 1), (6, .putfield 9, 3), (9, .aload_n 0, 1), (10, .iconst 0, 1), (11, .putfield 15, 3), (14, .aload_n 0, 1), (15, .bipush 6, 2), (17, .newarray .long, 2), (19, .putfield 18, 3), (22, .aload_n 0, 1), (23, .bipush 6, 2), (25, .newarray .long, 2), (27, .putfield 22, 3), (30, .aload_n 0, 1), (31, .aload_n 1, 1), (32, .putfield 25, 3), (35, .return_, 1)]
theorem it_51_ok : it_51.all (fun r => decide (decode (bc 51) r.1 = .ok r.2)) = true := by decide +kernel
def it_64 : List (Nat × Instr × Nat) := [(0, .aload_n 0, 1), (1, .invokespecial 3, 3), (4, .aload_n 0, 1), (5, .iconst 0, 1), (6, .putfield 9, 3), (9, .aload_n 0, 1), (10, .bipush 40, 2), (12, .newarray .int, 2), (14, .putfield 15, 3), (17, .aload_n 0, 1), (18, .iconst 1, 1), (19, .putfield 19, 3), (22, .aload_n 0, 1), (23, .bipush 40, 2), (25, .newarray .int, 2), (27, .putfield 22, 3), (30, .aload_n 0, 1), (31, .aload_n 1, 1), (32, .putfield 25, 3), (35, .aload_n 0, 1), (36, .new 29, 3), (39, .dup, 1), (40, .aload_n 1, 1), (41, .invokespecial 31, 3), (44, .putfield 34, 3), (47, .aload_n 0, 1), (48, .getfield 22, 3), (51, .iconst 0, 1), (52, .bipush 97, 2), (54, .iastore, 1), (55, .return_, 1)]
theorem it_64_ok : it_64.all (fun r => decide (decode (bc 64) r.1 = .ok r.2)) = true := by decide +kernel
def it_73 : List (Nat × Instr × Nat) := [(0, .aload_n 0, 1), (1, .invokespecial 1, 3), (4, .aload_n 0, 1), (5, .new 7, 3), (8, .dup, 1), (9, .invokespecial 9, 3), (12, .putfield 10, 3), (15, .aload_n 0, 1), (16, .iconst 4, 1), (17, .anewarray 16, 3), (20, .putfield 18, 3), (23, .aload_n 0, 1), (24, .new 16, 3), (27, .dup, 1), (28, .aload_n 0, 1), (29, .getfield 10, 3), (32, .invokespecial 22, 3), (35, .putfield 25, 3), (38, .aload_n 0, 1), (39, .new 29, 3), (42, .dup, 1), (43, .aload_n 0, 1), (44, .getfield 10, 3), (47, .invokespecial 31, 3), (50, .putfield 32, 3), (53, .aload_n 0, 1), (54, .new 36, 3), (57, .dup, 1), (58, .aload_n 0, 1), (59, .getfield 10, 3), (62, .invokespecial 38, 3), (65, .putfield 39, 3), (68, .aload_n 0, 1), (69, .new 43, 3), (72, .dup, 1), (73, .aload_n 0, 1), (74, .getfield 10, 3), (77, .invokespecial 45, 3), (80, .putfield 46, 3), (83, .aload_n 0, 1), (84, .new 50, 3), (87, .dup, 1), (88, .aload_n 0, 1), (89, .getfield 10, 3), (92, .invokespecial 52, 3), (95, .putfield 53, 3), (98, .aload_n 0, 1), (99, .new 50, 3), (102, .dup, 1), (103, .aload_n 0, 1), (104, .getfield 10, 3), (107, .invokespecial 52, 3), (110, .putfield 57, 3), (113, .aload_n 0, 1), (114, .new 60, 3), (117, .dup, 1), (118, .aload_n 0, 1), (119, .getfield 10, 3), (122, .invokespecial 62, 3), (125, .putfield 63, 3), (128, .aload_n 0, 1), (129, .new 67, 3), (132, .dup, 1), (133, .aload_n 0, 1), (134, .getfield 10, 3), (137, .invokespecial 69, 3), (140, .putfield 70, 3), (143, .aload_n 0, 1), (144, .new 74, 3), (147, .dup, 1), (148, .invokespecial 76, 3), (151, .putfield 77, 3), (154, .aload_n 0, 1), (155, .iconst 0, 1), (156, .putfield 81, 3), (159, .aload_n 0, 1), (160, .iconst 0, 1), (161, .putfield 85, 3), (164, .aload_n 0, 1), (165, .iconst 0, 1), (166, .putfield 88, 3), (169, .iconst 0, 1), (170, .istore_n 1, 1), (171, .iload_n 1, 1), (172, .iconst 4, 1), (173, .if_icmp .ge 26, 3), (176, .aload_n 0, 1), (177, .getfield 18, 3), (180, .iload_n 1, 1), (181, .new 16, 3), (184, .dup, 1), (185, .aload_n 0, 1), (186, .getfield 10, 3), (189, .invokespecial 22, 3), (192, .aastore, 1), (193, .iinc 1 1, 3), (196, .goto (-25), 3), (199, .return_, 1)]
theorem it_73_ok : it_73.all (fun r => decide (decode (bc 73) r.1 = .ok r.2)) = true := by decide +kernel
def it_125 : List (Nat × Instr × Nat) := [(0, .aload_n 0, 1), (1, .invokespecial 1, 3), (4, .aload_n 0, 1), (5, .iconst 3, 1), (6, .newarray .int, 2), (8, .putfield 7, 3), (11, .aload_n 0, 1), (12, .iconst 2, 1), (13, .putfield 13, 3), (16, .aload_n 0, 1), (17, .bipush 11, 2), (19, .newarray .int, 2), (21, .dup, 1), (22, .iconst 0, 1), (23, .iconst 1, 1), (24, .iastore, 1), (25, .dup, 1), (26, .iconst 1, 1), (27, .iconst 1, 1), (28, .iastore, 1), (29, .dup, 1), (30, .iconst 2, 1), (31, .iconst 1, 1), (32, .iastore, 1), (33, .dup, 1), (34, .iconst 3, 1), (35, .iconst 1, 1), (36, .iastore, 1), (37, .dup, 1), (38, .iconst 4, 1), (39, .iconst 0, 1), (40, .iastore, 1), (41, .dup, 1), (42, .iconst 5, 1), (43, .iconst 0, 1), (44, .iastore, 1), (45, .dup, 1), (46, .bipush 6, 2), (48, .iconst 0, 1), (49, .iastore, 1), (50, .dup, 1), (51, .bipush 7, 2), (53, .iconst 0, 1), (54, .iastore, 1), (55, .dup, 1), (56, .bipush 8, 2), (58, .iconst 0, 1), (59, .iastore, 1), (60, .dup, 1), (61, .bipush 9, 2), (63, .iconst 0, 1), (64, .iastore, 1), (65, .dup, 1), (66, .bipush 10, 2), (68, .iconst 0, 1), (69, .iastore, 1), (70, .putfield 17, 3), (73, .aload_n 0, 1), (74, .sipush 792, 3), (77, .newarray .int, 2), (79, .putfield 20, 3), (82, .aload_n 0, 1), (83, .bipush 72, 2), (85, .newarray .int, 2), (87, .putfield 23, 3), (90, .aload_n 0, 1), (91, .iconst (-1), 1), (92, .putfield 26, 3), (95, .aload_n 0, 1), (96, .sipush 243, 3), (99, .newarray .int, 2), (101, .putfield 29, 3), (104, .aload_n 0, 1), (105, .bipush 6, 2), (107, .newarray .int, 2), (109, .putfield 32, 3), (112, .aload_n 0, 1), (113, .bipush 16, 2), (115, .newarray .int, 2), (117, .putfield 35, 3), (120, .aload_n 0, 1), (121, .bipush 6, 2), (123, .newarray .int, 2), (125, .putfield 38, 3), (128, .aload_n 0, 1), (129, .bipush 6, 2), (131, .newarray .int, 2), (133, .putfield 41, 3), (136, .aload_n 0, 1), (137, .bipush 6, 2), (139, .newarray .int, 2), (141, .putfield 44, 3), (144, .aload_n 0, 1), (145, .sipush 2344, 3), (148, .newarray .int, 2), (150, .putfield 47, 3), (153, .aload_n 0, 1), (154, .iconst 3, 1), (155, .newarray .int, 2), (157, .putfield 50, 3), (160, .aload_n 0, 1), (161, .sipush 432, 3), (164, .newarray .int, 2), (166, .putfield 53, 3), (169, .aload_n 0, 1), (170, .bipush 6, 2), (172, .newarray .int, 2), (174, .putfield 56, 3), (177, .aload_n 0, 1), (178, .bipush 72, 2), (180, .newarray .int, 2), (182, .putfield 59, 3), (185, .aload_n 0, 1), (186, .sipush 243, 3), (189, .newarray .int, 2), (191, .putfield 62, 3), (194, .aload_n 0, 1), (195, .bipush 6, 2), (197, .newarray .int, 2), (199, .putfield 65, 3), (202, .aload_n 0, 1), (203, .sipush 432, 3), (206, .newarray .int, 2), (208, .putfield 68, 3), (211, .aload_n 0, 1), (212, .bipush 6, 2), (214, .newarray .int, 2), (216, .putfield 71, 3), (219, .aload_n 0, 1), (220, .bipush 36, 2), (222, .newarray .int, 2), (224, .putfield 74, 3), (227, .aload_n 0, 1), (228, .sipush 1296, 3), (231, .newarray .int, 2), (233, .putfield 77, 3), (236, .aload_n 0, 1), (237, .bipush 36, 2), (239, .newarray .int, 2), (241, .putfield 80, 3), (244, .aload_n 0, 1), (245, .sipush 243, 3), (248, .newarray .int, 2), (250, .putfield 83, 3), (253, .aload_n 0, 1), (254, .sipush 243, 3), (257, .newarray .int, 2), (259, .putfield 86, 3), (262, .aload_n 0, 1), (263, .bipush 40, 2), (265, .newarray .int, 2), (267, .putfield 89, 3), (270, .aload_n 0, 1), (271, .bipush 40, 2), (273, .newarray .int, 2), (275, .dup, 1), (276, .iconst 0, 1), (277, .bipush 97, 2), (279, .iastore, 1), (280, .dup, 1), (281, .iconst 1, 1), (282, .iconst 0, 1), (283, .iastore, 1), (284, .dup, 1), (285, .iconst 2, 1), (286, .iconst 0, 1), (287, .iastore, 1), (288, .dup, 1), (289, .iconst 3, 1), (290, .iconst 0, 1), (291, .iastore, 1), (292, .dup, 1), (293, .iconst 4, 1), (294, .iconst 0, 1), (295, .iastore, 1), (296, .dup, 1), (297, .iconst 5, 1), (298, .iconst 0, 1), (299, .iastore, 1), (300, .dup, 1), (301, .bipush 6, 2), (303, .iconst 0, 1), (304, .iastore, 1), (305, .dup, 1), (306, .bipush 7, 2), (308, .iconst 0, 1), (309, .iastore, 1), (310, .dup, 1), (311, .bipush 8, 2), (313, .iconst 0, 1), (314, .iastore, 1), (315, .dup, 1), (316, .bipush 9, 2), (318, .iconst 0, 1), (319, .iastore, 1), (320, .dup, 1), (321, .bipush 10, 2), (323, .iconst 0, 1), (324, .iastore, 1), (325, .dup, 1), (326, .bipush 11, 2), (328, .iconst 0, 1), (329, .iastore, 1), (330, .dup, 1), (331, .bipush 12, 2), (333, .iconst 0, 1), (334, .iastore, 1), (335, .dup, 1), (336, .bipush 13, 2), (338, .iconst 0, 1), (339, .iastore, 1), (340, .dup, 1), (341, .bipush 14, 2), (343, .iconst 0, 1), (344, .iastore, 1), (345, .dup, 1), (346, .bipush 15, 2), (348, .iconst 0, 1), (349, .iastore, 1), (350, .dup, 1), (351, .bipush 16, 2), (353, .iconst 0, 1), (354, .iastore, 1), (355, .dup, 1), (356, .bipush 17, 2), (358, .iconst 0, 1), (359, .iastore, 1), (360, .dup, 1), (361, .bipush 18, 2), (363, .iconst 0, 1), (364, .iastore, 1), (365, .dup, 1), (366, .bipush 19, 2), (368, .iconst 0, 1), (369, .iastore, 1), (370, .dup, 1), (371, .bipush 20, 2), (373, .iconst 0, 1), (374, .iastore, 1), (375, .dup, 1), (376, .bipush 21, 2), (378, .iconst 0, 1), (379, .iastore, 1), (380, .dup, 1), (381, .bipush 22, 2), (383, .iconst 0, 1), (384, .iastore, 1), (385, .dup, 1), (386, .bipush 23, 2), (388, .iconst 0, 1), (389, .iastore, 1), (390, .dup, 1), (391, .bipush 24, 2), (393, .iconst 0, 1), (394, .iastore, 1), (395, .dup, 1), (396, .bipush 25, 2), (398, .iconst 0, 1), (399, .iastore, 1), (400, .dup, 1), (401, .bipush 26, 2), (403, .iconst 0, 1), (404, .iastore, 1), (405, .dup, 1), (406, .bipush 27, 2), (408, .iconst 0, 1), (409, .iastore, 1), (410, .dup, 1), (411, .bipush 28, 2), (413, .iconst 0, 1), (414, .iastore, 1), (415, .dup, 1), (416, .bipush 29, 2), (418, .iconst 0, 1), (419, .iastore, 1), (420, .dup, 1), (421, .bipush 30, 2), (423, .iconst 0, 1), (424, .iastore, 1), (425, .dup, 1), (426, .bipush 31, 2), (428, .iconst 0, 1), (429, .iastore, 1), (430, .dup, 1), (431, .bipush 32, 2), (433, .iconst 0, 1), (434, .iastore, 1), (435, .dup, 1), (436, .bipush 33, 2), (438, .iconst 0, 1), (439, .iastore, 1), (440, .dup, 1), (441, .bipush 34, 2), (443, .iconst 0, 1), (444, .iastore, 1), (445, .dup, 1), (446, .bipush 35, 2), (448, .iconst 0, 1), (449, .iastore, 1), (450, .dup, 1), (451, .bipush 36, 2), (453, .iconst 0, 1), (454, .iastore, 1), (455, .dup, 1), (456, .bipush 37, 2), (458, .iconst 0, 1), (459, .iastore, 1), (460, .dup, 1), (461, .bipush 38, 2), (463, .iconst 0, 1), (464, .iastore, 1), (465, .dup, 1), (466, .bipush 39, 2), (468, .iconst 0, 1), (469, .iastore, 1), (470, .putfield 92, 3), (473, .aload_n 0, 1), (474, .iconst 1, 1), (475, .putfield 95, 3), (478, .aload_n 0, 1), (479, .bipush 36, 2), (481, .newarray .int, 2), (483, .putfield 98, 3), (486, .aload_n 0, 1), (487, .bipush 36, 2), (489, .newarray .int, 2), (491, .putfield 101, 3), (494, .aload_n 0, 1), (495, .bipush 36, 2), (497, .newarray .int, 2), (499, .putfield 104, 3), (502, .aload_n 0, 1), (503, .bipush 64, 2), (505, .newarray .int, 2), (507, .putfield 107, 3), (510, .return_, 1)]
theorem it_125_ok : it_125.all (fun r => decide (decode (bc 125) r.1 = .ok r.2)) = true := by decide +kernel
def itb : List (Nat × List (Nat × Instr × Nat)) := [(0, it_0), (18, it_18), (25, it_25), (33, it_33), (38, it_38), (41, it_41), (46, it_46), (51, it_51), (64, it_64), (73, it_73), (125, it_125)]
theorem itb_ok : ∀ e ∈ itb, ∀ r ∈ e.2, decode (bc e.1) r.1 = .ok r.2 := by
  have key : ∀ {g : Nat} {l : List (Nat × Instr × Nat)}, l.all (fun r => decide (decode (bc g) r.1 = .ok r.2)) = true → ∀ r ∈ l, decode (bc g) r.1 = .ok r.2 := fun h r hr => of_decide_eq_true (List.all_eq_true.mp h r hr)
  intro e he
  unfold itb at he
  simp only [List.mem_cons, List.not_mem_nil, or_false] at he
  rcases he with rfl | rfl | rfl | rfl | rfl | rfl | rfl | rfl | rfl | rfl | rfl
  · exact key it_0_ok
  · exact key it_18_ok
  · exact key it_25_ok
  · exact key it_33_ok
  · exact key it_38_ok
  · exact key it_41_ok
  · exact key it_46_ok
  · exact key it_51_ok
  · exact key it_64_ok
  · exact key it_73_ok
  · exact key it_125_ok
def itf (f pc : Nat) : Option (Instr × Nat) := match itb.find? (fun e => Nat.beq e.1 f) with
  | some e => (match e.2.find? (fun r => Nat.beq r.1 pc) with
    | some r => some r.2
    | none => none)
  | none => none
theorem itf_sp {f pc : Nat} {x : Instr × Nat} (h : itf f pc = some x) : decode (bc f) pc = .ok x := by
  unfold itf at h
  split at h
  · rename_i e he
    split at h
    · rename_i r hr
      cases h
      have h1 := itb_ok e (List.mem_of_find?_eq_some he) r (List.mem_of_find?_eq_some hr)
      have h2 : e.1 = f := by
        have := List.find?_some he
        exact Nat.eq_of_beq_eq_true this
      have h3 : r.1 = pc := by
        have := List.find?_some hr
        exact Nat.eq_of_beq_eq_true this
      rw [← h2, ← h3]
      exact h1
    · cases h
  · cases h
def brun : Nat → Nat → Nat → List AV → List AV → Sh → Mo → Option (Option AV × Sh × Mo)
  | 0, _, _, _, _, _, _ => none
  | n + 1, f, pc, ls, st, σ, M => match itf f pc with
    | some (i, len) => (match astep none f pc i len ls st σ M with
      | some (.inl (pc', ls', st', σ', M')) => brun n f pc' ls' st' σ' M'
      | some (.inr (.inl v)) => some (v, σ, M)
      | some (.inr (.inr (g, as, r))) => (match brun n g 0 (entl g as) [] σ M with
        | some (v, σ', M') => brun n f (pc + 3) ls (v.toList ++ r) σ' M'
        | none => none)
      | none => none)
    | none => none
theorem brun_ok : ∀ (n : Nat) {f pc : Nat} {ls st : List AV} {σ : Sh} {M : Mo} {r : Option AV × Sh × Mo}, brun n f pc ls st σ M = some r → arun none n f pc ls st σ M = some r
  | 0, _, _, _, _, _, _, _, h => by
    unfold brun at h
    cases h
  | n + 1, f, pc, ls, st, σ, M, r, h => by
    unfold brun at h
    unfold arun
    cases hd : itf f pc with
    | none => rw [hd] at h; cases h
    | some il =>
      obtain ⟨i, len⟩ := il
      rw [hd] at h
      rw [itf_sp hd]
      dsimp only at h ⊢
      cases hs : astep none f pc i len ls st σ M with
      | none => rw [hs] at h; cases h
      | some z =>
        rw [hs] at h
        rcases z with ⟨pc', ls', st', σ', M'⟩ | v | ⟨g, as, r2⟩
        · dsimp only at h ⊢
          exact brun_ok n h
        · exact h
        · dsimp only at h ⊢
          cases hc : brun n g 0 (entl g as) [] σ M with
          | none => rw [hc] at h; cases h
          | some w =>
            obtain ⟨v, σ', M'⟩ := w
            rw [hc] at h
            rw [brun_ok n hc]
            exact brun_ok n h


def kL0 : List (Nat × Instr) := [(0, .new 7), (3, .dup), (4, .invokespecial 9), (7, .astore_n 1), (8, .new 10), (11, .dup), (12, .invokespecial 12), (15, .astore_n 2), (16, .iconst 0), (17, .istore_n 3), (18, .iload_n 3), (19, .aload_n 0), (20, .arraylength), (21, .bipush 6), (23, .isub), (24, .if_icmp .gt 988), (27, .aload_n 0), (28, .iload_n 3), (29, .iaload), (30, .bipush 31), (32, .iand), (33, .tableswitch 973 0 24 #[115, 158, 181, 224, 247, 280, 313, 356, 379, 413, 446, 490, 534, 557, 570, 593, 606, 629, 642, 655, 708, 761, 804, 827, 910]), (148, .aload_n 1), (149, .aload_n 0), (150, .iload_n 3)]
set_option maxRecDepth 20000 in
theorem dcL0 : ∀ q ∈ kL0, decode cL_law q.1 = .ok (q.2, ilen q.1 q.2) := by decide +kernel
def kL1 : List (Nat × Instr) := [(151, .iconst 1), (152, .iadd), (153, .iaload), (154, .aload_n 0), (155, .iload_n 3), (156, .iconst 2), (157, .iadd), (158, .iaload), (159, .aload_n 0), (160, .iload_n 3), (161, .iconst 3), (162, .iadd), (163, .iaload), (164, .invokevirtual 13), (167, .aload_n 2), (168, .aload_n 0), (169, .iload_n 3), (170, .iconst 1), (171, .iadd), (172, .iaload), (173, .aload_n 0), (174, .iload_n 3), (175, .iconst 2), (176, .iadd), (177, .iaload)]
set_option maxRecDepth 20000 in
theorem dcL1 : ∀ q ∈ kL1, decode cL_law q.1 = .ok (q.2, ilen q.1 q.2) := by decide +kernel
def kL2 : List (Nat × Instr) := [(178, .aload_n 0), (179, .iload_n 3), (180, .iconst 3), (181, .iadd), (182, .iaload), (183, .invokevirtual 17), (186, .if_icmp .eq 820), (189, .iconst 0), (190, .ireturn), (191, .aload_n 1), (192, .aload_n 0), (193, .iload_n 3), (194, .iconst 1), (195, .iadd), (196, .iaload), (197, .invokevirtual 18), (200, .aload_n 2), (201, .aload_n 0), (202, .iload_n 3), (203, .iconst 1), (204, .iadd), (205, .iaload), (206, .invokevirtual 22), (209, .if_icmp .eq 797), (212, .iconst 0)]
set_option maxRecDepth 20000 in
theorem dcL2 : ∀ q ∈ kL2, decode cL_law q.1 = .ok (q.2, ilen q.1 q.2) := by decide +kernel
def kL3 : List (Nat × Instr) := [(213, .ireturn), (214, .aload_n 1), (215, .aload_n 0), (216, .iload_n 3), (217, .iconst 1), (218, .iadd), (219, .iaload), (220, .aload_n 0), (221, .iload_n 3), (222, .iconst 2), (223, .iadd), (224, .iaload), (225, .aload_n 0), (226, .iload_n 3), (227, .iconst 3), (228, .iadd), (229, .iaload), (230, .invokevirtual 23), (233, .aload_n 2), (234, .aload_n 0), (235, .iload_n 3), (236, .iconst 1), (237, .iadd), (238, .iaload), (239, .aload_n 0)]
set_option maxRecDepth 20000 in
theorem dcL3 : ∀ q ∈ kL3, decode cL_law q.1 = .ok (q.2, ilen q.1 q.2) := by decide +kernel
def kL4 : List (Nat × Instr) := [(240, .iload_n 3), (241, .iconst 2), (242, .iadd), (243, .iaload), (244, .aload_n 0), (245, .iload_n 3), (246, .iconst 3), (247, .iadd), (248, .iaload), (249, .invokevirtual 26), (252, .if_icmp .eq 754), (255, .iconst 0), (256, .ireturn), (257, .aload_n 1), (258, .aload_n 0), (259, .iload_n 3), (260, .iconst 1), (261, .iadd), (262, .iaload), (263, .invokevirtual 27), (266, .aload_n 2), (267, .aload_n 0), (268, .iload_n 3), (269, .iconst 1), (270, .iadd)]
set_option maxRecDepth 20000 in
theorem dcL4 : ∀ q ∈ kL4, decode cL_law q.1 = .ok (q.2, ilen q.1 q.2) := by decide +kernel
def kL5 : List (Nat × Instr) := [(271, .iaload), (272, .invokevirtual 30), (275, .if_icmp .eq 731), (278, .iconst 0), (279, .ireturn), (280, .aload_n 1), (281, .aload_n 0), (282, .iload_n 3), (283, .iconst 1), (284, .iadd), (285, .iaload), (286, .aload_n 0), (287, .iload_n 3), (288, .iconst 2), (289, .iadd), (290, .iaload), (291, .invokevirtual 31), (294, .aload_n 2), (295, .aload_n 0), (296, .iload_n 3), (297, .iconst 1), (298, .iadd), (299, .iaload), (300, .aload_n 0), (301, .iload_n 3)]
set_option maxRecDepth 20000 in
theorem dcL5 : ∀ q ∈ kL5, decode cL_law q.1 = .ok (q.2, ilen q.1 q.2) := by decide +kernel


def kL6 : List (Nat × Instr) := [(302, .iconst 2), (303, .iadd), (304, .iaload), (305, .invokevirtual 35), (308, .if_icmp .eq 698), (311, .iconst 0), (312, .ireturn), (313, .aload_n 1), (314, .aload_n 0), (315, .iload_n 3), (316, .iconst 1), (317, .iadd), (318, .iaload), (319, .aload_n 0), (320, .iload_n 3), (321, .iconst 2), (322, .iadd), (323, .iaload), (324, .invokevirtual 36), (327, .aload_n 2), (328, .aload_n 0), (329, .iload_n 3), (330, .iconst 1), (331, .iadd), (332, .iaload)]
set_option maxRecDepth 20000 in
theorem dcL6 : ∀ q ∈ kL6, decode cL_law q.1 = .ok (q.2, ilen q.1 q.2) := by decide +kernel
def kL7 : List (Nat × Instr) := [(333, .aload_n 0), (334, .iload_n 3), (335, .iconst 2), (336, .iadd), (337, .iaload), (338, .invokevirtual 39), (341, .if_icmp .eq 665), (344, .iconst 0), (345, .ireturn), (346, .aload_n 1), (347, .aload_n 0), (348, .iload_n 3), (349, .iconst 1), (350, .iadd), (351, .iaload), (352, .aload_n 0), (353, .iload_n 3), (354, .iconst 2), (355, .iadd), (356, .iaload), (357, .aload_n 0), (358, .iload_n 3), (359, .iconst 3), (360, .iadd), (361, .iaload)]
set_option maxRecDepth 20000 in
theorem dcL7 : ∀ q ∈ kL7, decode cL_law q.1 = .ok (q.2, ilen q.1 q.2) := by decide +kernel
def kL8 : List (Nat × Instr) := [(362, .invokevirtual 40), (365, .aload_n 2), (366, .aload_n 0), (367, .iload_n 3), (368, .iconst 1), (369, .iadd), (370, .iaload), (371, .aload_n 0), (372, .iload_n 3), (373, .iconst 2), (374, .iadd), (375, .iaload), (376, .aload_n 0), (377, .iload_n 3), (378, .iconst 3), (379, .iadd), (380, .iaload), (381, .invokevirtual 43), (384, .if_icmp .eq 622), (387, .iconst 0), (388, .ireturn), (389, .aload_n 1), (390, .aload_n 0), (391, .iload_n 3), (392, .iconst 1)]
set_option maxRecDepth 20000 in
theorem dcL8 : ∀ q ∈ kL8, decode cL_law q.1 = .ok (q.2, ilen q.1 q.2) := by decide +kernel
def kL9 : List (Nat × Instr) := [(393, .iadd), (394, .iaload), (395, .invokevirtual 44), (398, .aload_n 2), (399, .aload_n 0), (400, .iload_n 3), (401, .iconst 1), (402, .iadd), (403, .iaload), (404, .invokevirtual 47), (407, .if_icmp .eq 599), (410, .iconst 0), (411, .ireturn), (412, .aload_n 1), (413, .aload_n 0), (414, .iload_n 3), (415, .iconst 1), (416, .iadd), (417, .iaload), (418, .aload_n 0), (419, .iload_n 3), (420, .iconst 2), (421, .iadd), (422, .iaload), (423, .invokevirtual 48)]
set_option maxRecDepth 20000 in
theorem dcL9 : ∀ q ∈ kL9, decode cL_law q.1 = .ok (q.2, ilen q.1 q.2) := by decide +kernel
def kL10 : List (Nat × Instr) := [(426, .aload_n 2), (427, .aload_n 0), (428, .iload_n 3), (429, .iconst 1), (430, .iadd), (431, .iaload), (432, .aload_n 0), (433, .iload_n 3), (434, .iconst 2), (435, .iadd), (436, .iaload), (437, .invokevirtual 52), (440, .lcmp), (441, .ifCond .eq 565), (444, .iconst 0), (445, .ireturn), (446, .aload_n 1), (447, .aload_n 0), (448, .iload_n 3), (449, .iconst 1), (450, .iadd), (451, .iaload), (452, .aload_n 0), (453, .iload_n 3), (454, .iconst 2)]
set_option maxRecDepth 20000 in
theorem dcL10 : ∀ q ∈ kL10, decode cL_law q.1 = .ok (q.2, ilen q.1 q.2) := by decide +kernel
def kL11 : List (Nat × Instr) := [(455, .iadd), (456, .iaload), (457, .invokevirtual 53), (460, .aload_n 2), (461, .aload_n 0), (462, .iload_n 3), (463, .iconst 1), (464, .iadd), (465, .iaload), (466, .aload_n 0), (467, .iload_n 3), (468, .iconst 2), (469, .iadd), (470, .iaload), (471, .invokevirtual 56), (474, .if_icmp .eq 532), (477, .iconst 0), (478, .ireturn), (479, .aload_n 1), (480, .aload_n 0), (481, .iload_n 3), (482, .iconst 1), (483, .iadd), (484, .iaload), (485, .aload_n 0)]
set_option maxRecDepth 20000 in
theorem dcL11 : ∀ q ∈ kL11, decode cL_law q.1 = .ok (q.2, ilen q.1 q.2) := by decide +kernel


def kL12 : List (Nat × Instr) := [(486, .iload_n 3), (487, .iconst 2), (488, .iadd), (489, .iaload), (490, .aload_n 0), (491, .iload_n 3), (492, .iconst 3), (493, .iadd), (494, .iaload), (495, .invokevirtual 57), (498, .aload_n 2), (499, .aload_n 0), (500, .iload_n 3), (501, .iconst 1), (502, .iadd), (503, .iaload), (504, .aload_n 0), (505, .iload_n 3), (506, .iconst 2), (507, .iadd), (508, .iaload), (509, .aload_n 0), (510, .iload_n 3), (511, .iconst 3), (512, .iadd)]
set_option maxRecDepth 20000 in
theorem dcL12 : ∀ q ∈ kL12, decode cL_law q.1 = .ok (q.2, ilen q.1 q.2) := by decide +kernel
def kL13 : List (Nat × Instr) := [(513, .iaload), (514, .invokevirtual 61), (517, .lcmp), (518, .ifCond .eq 488), (521, .iconst 0), (522, .ireturn), (523, .aload_n 1), (524, .aload_n 0), (525, .iload_n 3), (526, .iconst 1), (527, .iadd), (528, .iaload), (529, .aload_n 0), (530, .iload_n 3), (531, .iconst 2), (532, .iadd), (533, .iaload), (534, .aload_n 0), (535, .iload_n 3), (536, .iconst 3), (537, .iadd), (538, .iaload), (539, .invokevirtual 62), (542, .aload_n 2), (543, .aload_n 0)]
set_option maxRecDepth 20000 in
theorem dcL13 : ∀ q ∈ kL13, decode cL_law q.1 = .ok (q.2, ilen q.1 q.2) := by decide +kernel
def kL14 : List (Nat × Instr) := [(544, .iload_n 3), (545, .iconst 1), (546, .iadd), (547, .iaload), (548, .aload_n 0), (549, .iload_n 3), (550, .iconst 2), (551, .iadd), (552, .iaload), (553, .aload_n 0), (554, .iload_n 3), (555, .iconst 3), (556, .iadd), (557, .iaload), (558, .invokevirtual 65), (561, .lcmp), (562, .ifCond .eq 444), (565, .iconst 0), (566, .ireturn), (567, .aload_n 1), (568, .aload_n 0), (569, .iload_n 3), (570, .iconst 1), (571, .iadd), (572, .iaload)]
set_option maxRecDepth 20000 in
theorem dcL14 : ∀ q ∈ kL14, decode cL_law q.1 = .ok (q.2, ilen q.1 q.2) := by decide +kernel
def kL15 : List (Nat × Instr) := [(573, .invokevirtual 66), (576, .aload_n 2), (577, .aload_n 0), (578, .iload_n 3), (579, .iconst 1), (580, .iadd), (581, .iaload), (582, .invokevirtual 69), (585, .if_icmp .eq 421), (588, .iconst 0), (589, .ireturn), (590, .aload_n 1), (591, .invokevirtual 70), (594, .aload_n 2), (595, .invokevirtual 74), (598, .if_icmp .eq 408), (601, .iconst 0), (602, .ireturn), (603, .aload_n 1), (604, .aload_n 0), (605, .iload_n 3), (606, .iconst 1), (607, .iadd), (608, .iaload), (609, .invokevirtual 75)]
set_option maxRecDepth 20000 in
theorem dcL15 : ∀ q ∈ kL15, decode cL_law q.1 = .ok (q.2, ilen q.1 q.2) := by decide +kernel
def kL16 : List (Nat × Instr) := [(612, .aload_n 2), (613, .aload_n 0), (614, .iload_n 3), (615, .iconst 1), (616, .iadd), (617, .iaload), (618, .invokevirtual 78), (621, .if_icmp .eq 385), (624, .iconst 0), (625, .ireturn), (626, .aload_n 1), (627, .invokevirtual 79), (630, .aload_n 2), (631, .invokevirtual 82), (634, .if_icmp .eq 372), (637, .iconst 0), (638, .ireturn), (639, .aload_n 1), (640, .aload_n 0), (641, .iload_n 3), (642, .iconst 1), (643, .iadd), (644, .iaload), (645, .invokevirtual 83), (648, .aload_n 2)]
set_option maxRecDepth 20000 in
theorem dcL16 : ∀ q ∈ kL16, decode cL_law q.1 = .ok (q.2, ilen q.1 q.2) := by decide +kernel
def kL17 : List (Nat × Instr) := [(649, .aload_n 0), (650, .iload_n 3), (651, .iconst 1), (652, .iadd), (653, .iaload), (654, .invokevirtual 86), (657, .if_icmp .eq 349), (660, .iconst 0), (661, .ireturn), (662, .aload_n 1), (663, .invokevirtual 87), (666, .aload_n 2), (667, .invokevirtual 90), (670, .if_icmp .eq 336), (673, .iconst 0), (674, .ireturn), (675, .aload_n 1), (676, .invokevirtual 91), (679, .aload_n 2), (680, .invokevirtual 94), (683, .if_icmp .eq 323), (686, .iconst 0), (687, .ireturn), (688, .aload_n 1), (689, .aload_n 0)]
set_option maxRecDepth 20000 in
theorem dcL17 : ∀ q ∈ kL17, decode cL_law q.1 = .ok (q.2, ilen q.1 q.2) := by decide +kernel

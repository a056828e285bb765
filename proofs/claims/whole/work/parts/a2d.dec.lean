
def kL18 : List (Nat × Instr) := [(690, .iload_n 3), (691, .iconst 1), (692, .iadd), (693, .iaload), (694, .aload_n 0), (695, .iload_n 3), (696, .iconst 2), (697, .iadd), (698, .iaload), (699, .aload_n 0), (700, .iload_n 3), (701, .iconst 3), (702, .iadd), (703, .iaload), (704, .aload_n 0), (705, .iload_n 3), (706, .iconst 4), (707, .iadd), (708, .iaload), (709, .invokevirtual 95), (712, .aload_n 2), (713, .aload_n 0), (714, .iload_n 3), (715, .iconst 1), (716, .iadd)]
set_option maxRecDepth 20000 in
theorem dcL18 : ∀ q ∈ kL18, decode cL_law q.1 = .ok (q.2, ilen q.1 q.2) := by decide +kernel
def kL19 : List (Nat × Instr) := [(717, .iaload), (718, .aload_n 0), (719, .iload_n 3), (720, .iconst 2), (721, .iadd), (722, .iaload), (723, .aload_n 0), (724, .iload_n 3), (725, .iconst 3), (726, .iadd), (727, .iaload), (728, .aload_n 0), (729, .iload_n 3), (730, .iconst 4), (731, .iadd), (732, .iaload), (733, .invokevirtual 99), (736, .if_icmp .eq 270), (739, .iconst 0), (740, .ireturn), (741, .aload_n 1), (742, .aload_n 0), (743, .iload_n 3), (744, .iconst 1), (745, .iadd)]
set_option maxRecDepth 20000 in
theorem dcL19 : ∀ q ∈ kL19, decode cL_law q.1 = .ok (q.2, ilen q.1 q.2) := by decide +kernel
def kL20 : List (Nat × Instr) := [(746, .iaload), (747, .aload_n 0), (748, .iload_n 3), (749, .iconst 2), (750, .iadd), (751, .iaload), (752, .aload_n 0), (753, .iload_n 3), (754, .iconst 3), (755, .iadd), (756, .iaload), (757, .aload_n 0), (758, .iload_n 3), (759, .iconst 4), (760, .iadd), (761, .iaload), (762, .invokevirtual 100), (765, .aload_n 2), (766, .aload_n 0), (767, .iload_n 3), (768, .iconst 1), (769, .iadd), (770, .iaload), (771, .aload_n 0), (772, .iload_n 3)]
set_option maxRecDepth 20000 in
theorem dcL20 : ∀ q ∈ kL20, decode cL_law q.1 = .ok (q.2, ilen q.1 q.2) := by decide +kernel
def kL21 : List (Nat × Instr) := [(773, .iconst 2), (774, .iadd), (775, .iaload), (776, .aload_n 0), (777, .iload_n 3), (778, .iconst 3), (779, .iadd), (780, .iaload), (781, .aload_n 0), (782, .iload_n 3), (783, .iconst 4), (784, .iadd), (785, .iaload), (786, .invokevirtual 103), (789, .if_icmp .eq 217), (792, .iconst 0), (793, .ireturn), (794, .aload_n 1), (795, .aload_n 0), (796, .iload_n 3), (797, .iconst 1), (798, .iadd), (799, .iaload), (800, .aload_n 0), (801, .iload_n 3)]
set_option maxRecDepth 20000 in
theorem dcL21 : ∀ q ∈ kL21, decode cL_law q.1 = .ok (q.2, ilen q.1 q.2) := by decide +kernel
def kL22 : List (Nat × Instr) := [(802, .iconst 2), (803, .iadd), (804, .iaload), (805, .aload_n 0), (806, .iload_n 3), (807, .iconst 3), (808, .iadd), (809, .iaload), (810, .invokevirtual 104), (813, .aload_n 2), (814, .aload_n 0), (815, .iload_n 3), (816, .iconst 1), (817, .iadd), (818, .iaload), (819, .aload_n 0), (820, .iload_n 3), (821, .iconst 2), (822, .iadd), (823, .iaload), (824, .aload_n 0), (825, .iload_n 3), (826, .iconst 3), (827, .iadd), (828, .iaload)]
set_option maxRecDepth 20000 in
theorem dcL22 : ∀ q ∈ kL22, decode cL_law q.1 = .ok (q.2, ilen q.1 q.2) := by decide +kernel
def kL23 : List (Nat × Instr) := [(829, .invokevirtual 107), (832, .if_icmp .eq 174), (835, .iconst 0), (836, .ireturn), (837, .aload_n 1), (838, .aload_n 0), (839, .iload_n 3), (840, .iconst 1), (841, .iadd), (842, .iaload), (843, .invokevirtual 108), (846, .aload_n 2), (847, .aload_n 0), (848, .iload_n 3), (849, .iconst 1), (850, .iadd), (851, .iaload), (852, .invokevirtual 111), (855, .if_icmp .eq 151), (858, .iconst 0), (859, .ireturn), (860, .aload_n 1), (861, .aload_n 0), (862, .iload_n 3), (863, .iconst 1)]
set_option maxRecDepth 20000 in
theorem dcL23 : ∀ q ∈ kL23, decode cL_law q.1 = .ok (q.2, ilen q.1 q.2) := by decide +kernel

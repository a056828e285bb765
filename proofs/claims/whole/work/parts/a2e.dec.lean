
def kL24 : List (Nat × Instr) := [(864, .iadd), (865, .iaload), (866, .aload_n 0), (867, .iload_n 3), (868, .iconst 2), (869, .iadd), (870, .iaload), (871, .aload_n 0), (872, .iload_n 3), (873, .iconst 3), (874, .iadd), (875, .iaload), (876, .aload_n 0), (877, .iload_n 3), (878, .iconst 4), (879, .iadd), (880, .iaload), (881, .i2l), (882, .bipush 32), (884, .lshl), (885, .aload_n 0), (886, .iload_n 3), (887, .iconst 5), (888, .iadd), (889, .iaload)]
set_option maxRecDepth 20000 in
theorem dcL24 : ∀ q ∈ kL24, decode cL_law q.1 = .ok (q.2, ilen q.1 q.2) := by decide +kernel
def kL25 : List (Nat × Instr) := [(890, .i2l), (891, .ldc2_w 112), (894, .land), (895, .lor), (896, .invokevirtual 114), (899, .aload_n 2), (900, .aload_n 0), (901, .iload_n 3), (902, .iconst 1), (903, .iadd), (904, .iaload), (905, .aload_n 0), (906, .iload_n 3), (907, .iconst 2), (908, .iadd), (909, .iaload), (910, .aload_n 0), (911, .iload_n 3), (912, .iconst 3), (913, .iadd), (914, .iaload), (915, .aload_n 0), (916, .iload_n 3), (917, .iconst 4), (918, .iadd)]
set_option maxRecDepth 20000 in
theorem dcL25 : ∀ q ∈ kL25, decode cL_law q.1 = .ok (q.2, ilen q.1 q.2) := by decide +kernel
def kL26 : List (Nat × Instr) := [(919, .iaload), (920, .i2l), (921, .bipush 32), (923, .lshl), (924, .aload_n 0), (925, .iload_n 3), (926, .iconst 5), (927, .iadd), (928, .iaload), (929, .i2l), (930, .ldc2_w 112), (933, .land), (934, .lor), (935, .invokevirtual 118), (938, .if_icmp .eq 68), (941, .iconst 0), (942, .ireturn), (943, .aload_n 1), (944, .aload_n 0), (945, .iload_n 3), (946, .iconst 1), (947, .iadd), (948, .iaload), (949, .aload_n 0), (950, .iload_n 3)]
set_option maxRecDepth 20000 in
theorem dcL26 : ∀ q ∈ kL26, decode cL_law q.1 = .ok (q.2, ilen q.1 q.2) := by decide +kernel
def kL27 : List (Nat × Instr) := [(951, .iconst 2), (952, .iadd), (953, .iaload), (954, .aload_n 0), (955, .iload_n 3), (956, .iconst 3), (957, .iadd), (958, .iaload), (959, .aload_n 0), (960, .iload_n 3), (961, .iconst 4), (962, .iadd), (963, .iaload), (964, .aload_n 0), (965, .iload_n 3), (966, .iconst 5), (967, .iadd), (968, .iaload), (969, .invokevirtual 119), (972, .aload_n 2), (973, .aload_n 0), (974, .iload_n 3), (975, .iconst 1), (976, .iadd), (977, .iaload)]
set_option maxRecDepth 20000 in
theorem dcL27 : ∀ q ∈ kL27, decode cL_law q.1 = .ok (q.2, ilen q.1 q.2) := by decide +kernel
def kL28 : List (Nat × Instr) := [(978, .aload_n 0), (979, .iload_n 3), (980, .iconst 2), (981, .iadd), (982, .iaload), (983, .aload_n 0), (984, .iload_n 3), (985, .iconst 3), (986, .iadd), (987, .iaload), (988, .aload_n 0), (989, .iload_n 3), (990, .iconst 4), (991, .iadd), (992, .iaload), (993, .aload_n 0), (994, .iload_n 3), (995, .iconst 5), (996, .iadd), (997, .iaload), (998, .invokevirtual 123), (1001, .if_icmp .eq 5), (1004, .iconst 0), (1005, .ireturn), (1006, .iinc 3 6)]
set_option maxRecDepth 20000 in
theorem dcL28 : ∀ q ∈ kL28, decode cL_law q.1 = .ok (q.2, ilen q.1 q.2) := by decide +kernel
def kL29 : List (Nat × Instr) := [(1009, .goto (-991)), (1012, .iconst 1), (1013, .ireturn)]
set_option maxRecDepth 20000 in
theorem dcL29 : ∀ q ∈ kL29, decode cL_law q.1 = .ok (q.2, ilen q.1 q.2) := by decide +kernel

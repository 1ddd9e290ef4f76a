-- THE LAW: its blocks (printed by wip/gen/law.py)
def Law_b1025 : List Item := [(.aload_n 1, 1, [], []), (.aload_n 0, 1, [], []), (.iload_n 3, 1, [], []), (.iconst 1, 1, [], []), (.iadd, 1, [], []), (.iaload, 1, [], []), (.invokevirtual 151, 3, [66], []), (.aload_n 2, 1, [], []), (.aload_n 0, 1, [], []), (.iload_n 3, 1, [], []), (.iconst 1, 1, [], []), (.iadd, 1, [], []), (.iaload, 1, [], []), (.invokevirtual 154, 3, [67], []), (.if_icmp .eq 350, 3, [1393], []), (.iconst 0, 1, [], []), (.ireturn, 1, [], [])]
set_option maxRecDepth 100000 in
theorem Law_k1025 : ax_chB 10 4 code Law_cl 1025 Law_b1025 = true := by decide +kernel
def Law_b1048 : List Item := [(.aload_n 1, 1, [], []), (.aload_n 0, 1, [], []), (.iload_n 3, 1, [], []), (.iconst 1, 1, [], []), (.iadd, 1, [], []), (.iaload, 1, [], []), (.aload_n 0, 1, [], []), (.iload_n 3, 1, [], []), (.iconst 2, 1, [], []), (.iadd, 1, [], []), (.iaload, 1, [], []), (.invokevirtual 155, 3, [68], []), (.aload_n 2, 1, [], []), (.aload_n 0, 1, [], []), (.iload_n 3, 1, [], []), (.iconst 1, 1, [], []), (.iadd, 1, [], []), (.iaload, 1, [], []), (.aload_n 0, 1, [], []), (.iload_n 3, 1, [], []), (.iconst 2, 1, [], []), (.iadd, 1, [], []), (.iaload, 1, [], []), (.invokevirtual 158, 3, [69], []), (.if_icmp .eq 317, 3, [1393], []), (.iconst 0, 1, [], []), (.ireturn, 1, [], [])]
set_option maxRecDepth 100000 in
theorem Law_k1048 : ax_chB 10 4 code Law_cl 1048 Law_b1048 = true := by decide +kernel
def Law_b1081 : List Item := [(.aload_n 1, 1, [], []), (.invokevirtual 159, 3, [70], []), (.aload_n 2, 1, [], []), (.invokevirtual 162, 3, [71], []), (.if_icmp .eq 304, 3, [1393], []), (.iconst 0, 1, [], []), (.ireturn, 1, [], [])]
set_option maxRecDepth 100000 in
theorem Law_k1081 : ax_chB 10 4 code Law_cl 1081 Law_b1081 = true := by decide +kernel
def Law_b1094 : List Item := [(.aload_n 1, 1, [], []), (.invokevirtual 163, 3, [72], []), (.aload_n 2, 1, [], []), (.invokevirtual 166, 3, [73], []), (.if_icmp .eq 291, 3, [1393], []), (.iconst 0, 1, [], []), (.ireturn, 1, [], [])]
set_option maxRecDepth 100000 in
theorem Law_k1094 : ax_chB 10 4 code Law_cl 1094 Law_b1094 = true := by decide +kernel
def Law_b1107 : List Item := [(.aload_n 1, 1, [], []), (.aload_n 0, 1, [], []), (.iload_n 3, 1, [], []), (.iconst 1, 1, [], []), (.iadd, 1, [], []), (.iaload, 1, [], []), (.invokevirtual 167, 3, [74], []), (.aload_n 2, 1, [], []), (.aload_n 0, 1, [], []), (.iload_n 3, 1, [], []), (.iconst 1, 1, [], []), (.iadd, 1, [], []), (.iaload, 1, [], []), (.invokevirtual 170, 3, [75], []), (.if_icmp .eq 268, 3, [1393], []), (.iconst 0, 1, [], []), (.ireturn, 1, [], [])]
set_option maxRecDepth 100000 in
theorem Law_k1107 : ax_chB 10 4 code Law_cl 1107 Law_b1107 = true := by decide +kernel
def Law_b1130 : List Item := [(.aload_n 1, 1, [], []), (.aload_n 0, 1, [], []), (.iload_n 3, 1, [], []), (.iconst 1, 1, [], []), (.iadd, 1, [], []), (.iaload, 1, [], []), (.aload_n 0, 1, [], []), (.iload_n 3, 1, [], []), (.iconst 2, 1, [], []), (.iadd, 1, [], []), (.iaload, 1, [], []), (.aload_n 0, 1, [], []), (.iload_n 3, 1, [], []), (.iconst 3, 1, [], []), (.iadd, 1, [], []), (.iaload, 1, [], []), (.ifCond .eq 7, 3, [1153], []), (.iconst 1, 1, [], []), (.goto 4, 3, [1154], [])]
set_option maxRecDepth 100000 in
theorem Law_k1130 : ax_chB 10 4 code Law_cl 1130 Law_b1130 = true := by decide +kernel
def Law_b1153 : List Item := [(.iconst 0, 1, [], [])]
set_option maxRecDepth 100000 in
theorem Law_k1153 : ax_chB 10 4 code Law_cl 1153 Law_b1153 = true := by decide +kernel
def Law_b1154 : List Item := [(.invokevirtual 171, 3, [76], []), (.aload_n 2, 1, [], []), (.aload_n 0, 1, [], []), (.iload_n 3, 1, [], []), (.iconst 1, 1, [], []), (.iadd, 1, [], []), (.iaload, 1, [], []), (.aload_n 0, 1, [], []), (.iload_n 3, 1, [], []), (.iconst 2, 1, [], []), (.iadd, 1, [], []), (.iaload, 1, [], []), (.aload_n 0, 1, [], []), (.iload_n 3, 1, [], []), (.iconst 3, 1, [], []), (.iadd, 1, [], []), (.iaload, 1, [], []), (.ifCond .eq 7, 3, [1180], []), (.iconst 1, 1, [], []), (.goto 4, 3, [1181], [])]
set_option maxRecDepth 100000 in
theorem Law_k1154 : ax_chB 10 4 code Law_cl 1154 Law_b1154 = true := by decide +kernel
def Law_b1180 : List Item := [(.iconst 0, 1, [], [])]
set_option maxRecDepth 100000 in
theorem Law_k1180 : ax_chB 10 4 code Law_cl 1180 Law_b1180 = true := by decide +kernel
def Law_b1181 : List Item := [(.invokevirtual 175, 3, [77], []), (.if_icmp .eq 209, 3, [1393], []), (.iconst 0, 1, [], []), (.ireturn, 1, [], [])]
set_option maxRecDepth 100000 in
theorem Law_k1181 : ax_chB 10 4 code Law_cl 1181 Law_b1181 = true := by decide +kernel
def Law_b1189 : List Item := [(.aload_n 1, 1, [], []), (.aload_n 0, 1, [], []), (.iload_n 3, 1, [], []), (.iconst 1, 1, [], []), (.iadd, 1, [], []), (.iaload, 1, [], []), (.invokevirtual 176, 3, [78], []), (.aload_n 2, 1, [], []), (.aload_n 0, 1, [], []), (.iload_n 3, 1, [], []), (.iconst 1, 1, [], []), (.iadd, 1, [], []), (.iaload, 1, [], []), (.invokevirtual 180, 3, [79], []), (.if_icmp .eq 186, 3, [1393], []), (.iconst 0, 1, [], []), (.ireturn, 1, [], [])]
set_option maxRecDepth 100000 in
theorem Law_k1189 : ax_chB 10 4 code Law_cl 1189 Law_b1189 = true := by decide +kernel

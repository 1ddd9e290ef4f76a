-- THE LAW: its blocks (printed by wip/gen/law.py)
def Law_b417 : List Item := [(.aload_n 1, 1, [], []), (.aload_n 0, 1, [], []), (.iload_n 3, 1, [], []), (.iconst 1, 1, [], []), (.iadd, 1, [], []), (.iaload, 1, [], []), (.aload_n 0, 1, [], []), (.iload_n 3, 1, [], []), (.iconst 2, 1, [], []), (.iadd, 1, [], []), (.iaload, 1, [], []), (.invokevirtual 45, 3, [14], []), (.aload_n 2, 1, [], []), (.aload_n 0, 1, [], []), (.iload_n 3, 1, [], []), (.iconst 1, 1, [], []), (.iadd, 1, [], []), (.iaload, 1, [], []), (.aload_n 0, 1, [], []), (.iload_n 3, 1, [], []), (.iconst 2, 1, [], []), (.iadd, 1, [], []), (.iaload, 1, [], []), (.invokevirtual 48, 3, [15], []), (.if_icmp .eq 948, 3, [1393], []), (.iconst 0, 1, [], []), (.ireturn, 1, [], [])]
set_option maxRecDepth 100000 in
theorem Law_k417 : ax_chB 10 4 code Law_cl 417 Law_b417 = true := by decide +kernel
def Law_b450 : List Item := [(.aload_n 1, 1, [], []), (.aload_n 0, 1, [], []), (.iload_n 3, 1, [], []), (.iconst 1, 1, [], []), (.iadd, 1, [], []), (.iaload, 1, [], []), (.aload_n 0, 1, [], []), (.iload_n 3, 1, [], []), (.iconst 2, 1, [], []), (.iadd, 1, [], []), (.iaload, 1, [], []), (.invokevirtual 49, 3, [16], []), (.aload_n 2, 1, [], []), (.aload_n 0, 1, [], []), (.iload_n 3, 1, [], []), (.iconst 1, 1, [], []), (.iadd, 1, [], []), (.iaload, 1, [], []), (.aload_n 0, 1, [], []), (.iload_n 3, 1, [], []), (.iconst 2, 1, [], []), (.iadd, 1, [], []), (.iaload, 1, [], []), (.invokevirtual 52, 3, [17], []), (.if_icmp .eq 915, 3, [1393], []), (.iconst 0, 1, [], []), (.ireturn, 1, [], [])]
set_option maxRecDepth 100000 in
theorem Law_k450 : ax_chB 10 4 code Law_cl 450 Law_b450 = true := by decide +kernel
def Law_b483 : List Item := [(.aload_n 1, 1, [], []), (.aload_n 0, 1, [], []), (.iload_n 3, 1, [], []), (.iconst 1, 1, [], []), (.iadd, 1, [], []), (.iaload, 1, [], []), (.aload_n 0, 1, [], []), (.iload_n 3, 1, [], []), (.iconst 2, 1, [], []), (.iadd, 1, [], []), (.iaload, 1, [], []), (.invokevirtual 53, 3, [18], []), (.aload_n 2, 1, [], []), (.aload_n 0, 1, [], []), (.iload_n 3, 1, [], []), (.iconst 1, 1, [], []), (.iadd, 1, [], []), (.iaload, 1, [], []), (.aload_n 0, 1, [], []), (.iload_n 3, 1, [], []), (.iconst 2, 1, [], []), (.iadd, 1, [], []), (.iaload, 1, [], []), (.invokevirtual 56, 3, [19], []), (.if_icmp .eq 882, 3, [1393], []), (.iconst 0, 1, [], []), (.ireturn, 1, [], [])]
set_option maxRecDepth 100000 in
theorem Law_k483 : ax_chB 10 4 code Law_cl 483 Law_b483 = true := by decide +kernel
def Law_b516 : List Item := [(.aload_n 1, 1, [], []), (.aload_n 0, 1, [], []), (.iload_n 3, 1, [], []), (.iconst 1, 1, [], []), (.iadd, 1, [], []), (.iaload, 1, [], []), (.aload_n 0, 1, [], []), (.iload_n 3, 1, [], []), (.iconst 2, 1, [], []), (.iadd, 1, [], []), (.iaload, 1, [], []), (.invokevirtual 57, 3, [20], []), (.aload_n 2, 1, [], []), (.aload_n 0, 1, [], []), (.iload_n 3, 1, [], []), (.iconst 1, 1, [], []), (.iadd, 1, [], []), (.iaload, 1, [], []), (.aload_n 0, 1, [], []), (.iload_n 3, 1, [], []), (.iconst 2, 1, [], []), (.iadd, 1, [], []), (.iaload, 1, [], []), (.invokevirtual 60, 3, [21], []), (.if_icmp .eq 849, 3, [1393], []), (.iconst 0, 1, [], []), (.ireturn, 1, [], [])]
set_option maxRecDepth 100000 in
theorem Law_k516 : ax_chB 10 4 code Law_cl 516 Law_b516 = true := by decide +kernel
def Law_b549 : List Item := [(.aload_n 1, 1, [], []), (.invokevirtual 61, 3, [22], []), (.aload_n 2, 1, [], []), (.invokevirtual 64, 3, [23], []), (.if_icmp .eq 836, 3, [1393], []), (.iconst 0, 1, [], []), (.ireturn, 1, [], [])]
set_option maxRecDepth 100000 in
theorem Law_k549 : ax_chB 10 4 code Law_cl 549 Law_b549 = true := by decide +kernel
def Law_b562 : List Item := [(.aload_n 1, 1, [], []), (.invokevirtual 65, 3, [24], []), (.aload_n 2, 1, [], []), (.invokevirtual 68, 3, [25], []), (.if_icmp .eq 823, 3, [1393], []), (.iconst 0, 1, [], []), (.ireturn, 1, [], [])]
set_option maxRecDepth 100000 in
theorem Law_k562 : ax_chB 10 4 code Law_cl 562 Law_b562 = true := by decide +kernel
def Law_b575 : List Item := [(.aload_n 1, 1, [], []), (.invokevirtual 69, 3, [26], []), (.aload_n 2, 1, [], []), (.invokevirtual 73, 3, [27], []), (.if_icmp .eq 810, 3, [1393], []), (.iconst 0, 1, [], []), (.ireturn, 1, [], [])]
set_option maxRecDepth 100000 in
theorem Law_k575 : ax_chB 10 4 code Law_cl 575 Law_b575 = true := by decide +kernel
def Law_b588 : List Item := [(.aload_n 1, 1, [], []), (.invokevirtual 74, 3, [28], []), (.aload_n 2, 1, [], []), (.invokevirtual 77, 3, [29], []), (.if_icmp .eq 797, 3, [1393], []), (.iconst 0, 1, [], []), (.ireturn, 1, [], [])]
set_option maxRecDepth 100000 in
theorem Law_k588 : ax_chB 10 4 code Law_cl 588 Law_b588 = true := by decide +kernel
def Law_b601 : List Item := [(.aload_n 1, 1, [], []), (.aload_n 0, 1, [], []), (.iload_n 3, 1, [], []), (.iconst 1, 1, [], []), (.iadd, 1, [], []), (.iaload, 1, [], []), (.invokevirtual 78, 3, [30], []), (.aload_n 2, 1, [], []), (.aload_n 0, 1, [], []), (.iload_n 3, 1, [], []), (.iconst 1, 1, [], []), (.iadd, 1, [], []), (.iaload, 1, [], []), (.invokevirtual 81, 3, [31], []), (.if_icmp .eq 774, 3, [1393], []), (.iconst 0, 1, [], []), (.ireturn, 1, [], [])]
set_option maxRecDepth 100000 in
theorem Law_k601 : ax_chB 10 4 code Law_cl 601 Law_b601 = true := by decide +kernel

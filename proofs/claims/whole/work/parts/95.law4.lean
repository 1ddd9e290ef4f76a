-- THE LAW: its blocks (printed by wip/gen/law.py)
def Law_b838 : List Item := [(.aload_n 1, 1, [], []), (.aload_n 0, 1, [], []), (.iload_n 3, 1, [], []), (.iconst 1, 1, [], []), (.iadd, 1, [], []), (.iaload, 1, [], []), (.invokevirtual 115, 3, [48], []), (.aload_n 2, 1, [], []), (.aload_n 0, 1, [], []), (.iload_n 3, 1, [], []), (.iconst 1, 1, [], []), (.iadd, 1, [], []), (.iaload, 1, [], []), (.invokevirtual 118, 3, [49], []), (.if_icmp .eq 537, 3, [1393], []), (.iconst 0, 1, [], []), (.ireturn, 1, [], [])]
set_option maxRecDepth 100000 in
theorem Law_k838 : ax_chB 10 4 code Law_cl 838 Law_b838 = true := by decide +kernel
def Law_b861 : List Item := [(.aload_n 1, 1, [], []), (.invokevirtual 119, 3, [50], []), (.aload_n 2, 1, [], []), (.invokevirtual 122, 3, [51], []), (.if_icmp .eq 524, 3, [1393], []), (.iconst 0, 1, [], []), (.ireturn, 1, [], [])]
set_option maxRecDepth 100000 in
theorem Law_k861 : ax_chB 10 4 code Law_cl 861 Law_b861 = true := by decide +kernel
def Law_b874 : List Item := [(.aload_n 1, 1, [], []), (.invokevirtual 123, 3, [52], []), (.aload_n 2, 1, [], []), (.invokevirtual 126, 3, [53], []), (.if_icmp .eq 511, 3, [1393], []), (.iconst 0, 1, [], []), (.ireturn, 1, [], [])]
set_option maxRecDepth 100000 in
theorem Law_k874 : ax_chB 10 4 code Law_cl 874 Law_b874 = true := by decide +kernel
def Law_b887 : List Item := [(.aload_n 1, 1, [], []), (.invokevirtual 127, 3, [54], []), (.aload_n 2, 1, [], []), (.invokevirtual 130, 3, [55], []), (.if_icmp .eq 498, 3, [1393], []), (.iconst 0, 1, [], []), (.ireturn, 1, [], [])]
set_option maxRecDepth 100000 in
theorem Law_k887 : ax_chB 10 4 code Law_cl 887 Law_b887 = true := by decide +kernel
def Law_b900 : List Item := [(.aload_n 1, 1, [], []), (.aload_n 0, 1, [], []), (.iload_n 3, 1, [], []), (.iconst 1, 1, [], []), (.iadd, 1, [], []), (.iaload, 1, [], []), (.invokevirtual 131, 3, [56], []), (.aload_n 2, 1, [], []), (.aload_n 0, 1, [], []), (.iload_n 3, 1, [], []), (.iconst 1, 1, [], []), (.iadd, 1, [], []), (.iaload, 1, [], []), (.invokevirtual 134, 3, [57], []), (.if_icmp .eq 475, 3, [1393], []), (.iconst 0, 1, [], []), (.ireturn, 1, [], [])]
set_option maxRecDepth 100000 in
theorem Law_k900 : ax_chB 10 4 code Law_cl 900 Law_b900 = true := by decide +kernel
def Law_b923 : List Item := [(.aload_n 1, 1, [], []), (.invokevirtual 135, 3, [58], []), (.aload_n 2, 1, [], []), (.invokevirtual 138, 3, [59], []), (.if_icmp .eq 462, 3, [1393], []), (.iconst 0, 1, [], []), (.ireturn, 1, [], [])]
set_option maxRecDepth 100000 in
theorem Law_k923 : ax_chB 10 4 code Law_cl 923 Law_b923 = true := by decide +kernel
def Law_b936 : List Item := [(.aload_n 1, 1, [], []), (.aload_n 0, 1, [], []), (.iload_n 3, 1, [], []), (.iconst 1, 1, [], []), (.iadd, 1, [], []), (.iaload, 1, [], []), (.invokevirtual 139, 3, [60], []), (.aload_n 2, 1, [], []), (.aload_n 0, 1, [], []), (.iload_n 3, 1, [], []), (.iconst 1, 1, [], []), (.iadd, 1, [], []), (.iaload, 1, [], []), (.invokevirtual 142, 3, [61], []), (.if_icmp .eq 439, 3, [1393], []), (.iconst 0, 1, [], []), (.ireturn, 1, [], [])]
set_option maxRecDepth 100000 in
theorem Law_k936 : ax_chB 10 4 code Law_cl 936 Law_b936 = true := by decide +kernel
def Law_b959 : List Item := [(.aload_n 1, 1, [], []), (.aload_n 0, 1, [], []), (.iload_n 3, 1, [], []), (.iconst 1, 1, [], []), (.iadd, 1, [], []), (.iaload, 1, [], []), (.aload_n 0, 1, [], []), (.iload_n 3, 1, [], []), (.iconst 2, 1, [], []), (.iadd, 1, [], []), (.iaload, 1, [], []), (.invokevirtual 143, 3, [62], []), (.aload_n 2, 1, [], []), (.aload_n 0, 1, [], []), (.iload_n 3, 1, [], []), (.iconst 1, 1, [], []), (.iadd, 1, [], []), (.iaload, 1, [], []), (.aload_n 0, 1, [], []), (.iload_n 3, 1, [], []), (.iconst 2, 1, [], []), (.iadd, 1, [], []), (.iaload, 1, [], []), (.invokevirtual 146, 3, [63], []), (.if_icmp .eq 406, 3, [1393], []), (.iconst 0, 1, [], []), (.ireturn, 1, [], [])]
set_option maxRecDepth 100000 in
theorem Law_k959 : ax_chB 10 4 code Law_cl 959 Law_b959 = true := by decide +kernel
def Law_b992 : List Item := [(.aload_n 1, 1, [], []), (.aload_n 0, 1, [], []), (.iload_n 3, 1, [], []), (.iconst 1, 1, [], []), (.iadd, 1, [], []), (.iaload, 1, [], []), (.aload_n 0, 1, [], []), (.iload_n 3, 1, [], []), (.iconst 2, 1, [], []), (.iadd, 1, [], []), (.iaload, 1, [], []), (.invokevirtual 147, 3, [64], []), (.aload_n 2, 1, [], []), (.aload_n 0, 1, [], []), (.iload_n 3, 1, [], []), (.iconst 1, 1, [], []), (.iadd, 1, [], []), (.iaload, 1, [], []), (.aload_n 0, 1, [], []), (.iload_n 3, 1, [], []), (.iconst 2, 1, [], []), (.iadd, 1, [], []), (.iaload, 1, [], []), (.invokevirtual 150, 3, [65], []), (.if_icmp .eq 373, 3, [1393], []), (.iconst 0, 1, [], []), (.ireturn, 1, [], [])]
set_option maxRecDepth 100000 in
theorem Law_k992 : ax_chB 10 4 code Law_cl 992 Law_b992 = true := by decide +kernel

-- THE LAW: its blocks (printed by wip/gen/law.py)
def Law_b1212 : List Item := [(.aload_n 1, 1, [], []), (.aload_n 0, 1, [], []), (.iload_n 3, 1, [], []), (.iconst 1, 1, [], []), (.iadd, 1, [], []), (.iaload, 1, [], []), (.invokevirtual 181, 3, [80], []), (.aload_n 2, 1, [], []), (.aload_n 0, 1, [], []), (.iload_n 3, 1, [], []), (.iconst 1, 1, [], []), (.iadd, 1, [], []), (.iaload, 1, [], []), (.invokevirtual 184, 3, [81], []), (.if_icmp .eq 163, 3, [1393], []), (.iconst 0, 1, [], []), (.ireturn, 1, [], [])]
set_option maxRecDepth 100000 in
theorem Law_k1212 : ax_chB 10 4 code Law_cl 1212 Law_b1212 = true := by decide +kernel
def Law_b1235 : List Item := [(.aload_n 1, 1, [], []), (.aload_n 0, 1, [], []), (.iload_n 3, 1, [], []), (.iconst 1, 1, [], []), (.iadd, 1, [], []), (.iaload, 1, [], []), (.invokevirtual 185, 3, [82], []), (.aload_n 2, 1, [], []), (.aload_n 0, 1, [], []), (.iload_n 3, 1, [], []), (.iconst 1, 1, [], []), (.iadd, 1, [], []), (.iaload, 1, [], []), (.invokevirtual 188, 3, [83], []), (.if_icmp .eq 140, 3, [1393], []), (.iconst 0, 1, [], []), (.ireturn, 1, [], [])]
set_option maxRecDepth 100000 in
theorem Law_k1235 : ax_chB 10 4 code Law_cl 1235 Law_b1235 = true := by decide +kernel
def Law_b1258 : List Item := [(.aload_n 1, 1, [], []), (.aload_n 0, 1, [], []), (.iload_n 3, 1, [], []), (.iconst 1, 1, [], []), (.iadd, 1, [], []), (.iaload, 1, [], []), (.aload_n 0, 1, [], []), (.iload_n 3, 1, [], []), (.iconst 2, 1, [], []), (.iadd, 1, [], []), (.iaload, 1, [], []), (.invokevirtual 189, 3, [84], []), (.aload_n 2, 1, [], []), (.aload_n 0, 1, [], []), (.iload_n 3, 1, [], []), (.iconst 1, 1, [], []), (.iadd, 1, [], []), (.iaload, 1, [], []), (.aload_n 0, 1, [], []), (.iload_n 3, 1, [], []), (.iconst 2, 1, [], []), (.iadd, 1, [], []), (.iaload, 1, [], []), (.invokevirtual 192, 3, [85], []), (.if_icmp .eq 107, 3, [1393], []), (.iconst 0, 1, [], []), (.ireturn, 1, [], [])]
set_option maxRecDepth 100000 in
theorem Law_k1258 : ax_chB 10 4 code Law_cl 1258 Law_b1258 = true := by decide +kernel
def Law_b1291 : List Item := [(.aload_n 1, 1, [], []), (.aload_n 0, 1, [], []), (.iload_n 3, 1, [], []), (.iconst 1, 1, [], []), (.iadd, 1, [], []), (.iaload, 1, [], []), (.aload_n 0, 1, [], []), (.iload_n 3, 1, [], []), (.iconst 2, 1, [], []), (.iadd, 1, [], []), (.iaload, 1, [], []), (.invokevirtual 193, 3, [86], []), (.aload_n 2, 1, [], []), (.aload_n 0, 1, [], []), (.iload_n 3, 1, [], []), (.iconst 1, 1, [], []), (.iadd, 1, [], []), (.iaload, 1, [], []), (.aload_n 0, 1, [], []), (.iload_n 3, 1, [], []), (.iconst 2, 1, [], []), (.iadd, 1, [], []), (.iaload, 1, [], []), (.invokevirtual 196, 3, [87], []), (.if_icmp .eq 74, 3, [1393], []), (.iconst 0, 1, [], []), (.ireturn, 1, [], [])]
set_option maxRecDepth 100000 in
theorem Law_k1291 : ax_chB 10 4 code Law_cl 1291 Law_b1291 = true := by decide +kernel
def Law_b1324 : List Item := [(.aload_n 1, 1, [], []), (.aload_n 0, 1, [], []), (.iload_n 3, 1, [], []), (.iconst 1, 1, [], []), (.iadd, 1, [], []), (.iaload, 1, [], []), (.invokevirtual 197, 3, [88], []), (.aload_n 2, 1, [], []), (.aload_n 0, 1, [], []), (.iload_n 3, 1, [], []), (.iconst 1, 1, [], []), (.iadd, 1, [], []), (.iaload, 1, [], []), (.invokevirtual 200, 3, [89], []), (.if_icmp .eq 51, 3, [1393], []), (.iconst 0, 1, [], []), (.ireturn, 1, [], [])]
set_option maxRecDepth 100000 in
theorem Law_k1324 : ax_chB 10 4 code Law_cl 1324 Law_b1324 = true := by decide +kernel
def Law_b1347 : List Item := [(.aload_n 1, 1, [], []), (.aload_n 0, 1, [], []), (.iload_n 3, 1, [], []), (.iconst 1, 1, [], []), (.iadd, 1, [], []), (.iaload, 1, [], []), (.invokevirtual 201, 3, [90], []), (.aload_n 2, 1, [], []), (.aload_n 0, 1, [], []), (.iload_n 3, 1, [], []), (.iconst 1, 1, [], []), (.iadd, 1, [], []), (.iaload, 1, [], []), (.invokevirtual 204, 3, [91], []), (.if_icmp .eq 28, 3, [1393], []), (.iconst 0, 1, [], []), (.ireturn, 1, [], [])]
set_option maxRecDepth 100000 in
theorem Law_k1347 : ax_chB 10 4 code Law_cl 1347 Law_b1347 = true := by decide +kernel
def Law_b1370 : List Item := [(.aload_n 1, 1, [], []), (.aload_n 0, 1, [], []), (.iload_n 3, 1, [], []), (.iconst 1, 1, [], []), (.iadd, 1, [], []), (.iaload, 1, [], []), (.invokevirtual 205, 3, [92], []), (.aload_n 2, 1, [], []), (.aload_n 0, 1, [], []), (.iload_n 3, 1, [], []), (.iconst 1, 1, [], []), (.iadd, 1, [], []), (.iaload, 1, [], []), (.invokevirtual 208, 3, [93], []), (.if_icmp .eq 5, 3, [1393], []), (.iconst 0, 1, [], []), (.ireturn, 1, [], [])]
set_option maxRecDepth 100000 in
theorem Law_k1370 : ax_chB 10 4 code Law_cl 1370 Law_b1370 = true := by decide +kernel
def Law_b1393 : List Item := [(.iinc 3 6, 3, [], []), (.goto (-1378), 3, [18], [])]
set_option maxRecDepth 100000 in
theorem Law_k1393 : ax_chB 10 4 code Law_cl 1393 Law_b1393 = true := by decide +kernel
def Law_b1399 : List Item := [(.iconst 1, 1, [], []), (.ireturn, 1, [], [])]
set_option maxRecDepth 100000 in
theorem Law_k1399 : ax_chB 10 4 code Law_cl 1399 Law_b1399 = true := by decide +kernel

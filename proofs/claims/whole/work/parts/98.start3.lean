-- THE START, 3 (printed by wip/gen/start.py)
def st_ad (as : List Nat) (a0 a1 b a3 : Nat) (k : Nat) : Nat := if k = 1000 then a0 else if k = 1001 then a1 else if k = 1002 then b else if k = 1003 then a3 else as.getD k 0
set_option maxHeartbeats 4000000 in
set_option maxRecDepth 100000 in
theorem st_Fo {args : Array Value} {s : State} {A : Nat → Prop} (hts : ∀ w ∈ lw_tbl, w.before args s = true) (hgv : (Jvm.Cond.and given_1 narrow_1).before args s = true) (hA : ∀ a : Nat, a < s.heap.size → ¬ A a) :
    ∃ a0 a1 a3 : Nat, va_Z RX5 "NO_NAMES" "[J" (.ref a1) A s s.heap ∧ va_T .long a1 17 (fun j => .long (Int64.ofInt (ax_nn j))) A s s.heap ∧ va_Z "java/lang/String" "COMPACT_STRINGS" "Z" (.int 1) A s s.heap ∧ vk_R RX5 239 ";()<>=+-*/%" a0 s ∧ vk_S 1 [11] [[59, 40, 41, 60, 62, 61, 43, 45, 42, 47, 37]] (fun _ => a0) (fun _ => a3) A s s.heap := by
  have hs := flat_of_before _ hgv
  obtain ⟨a1, ha1, hT⟩ := va_Tof (tm := (.static RX5 "NO_NAMES" "[J")) (ty := .long) (N := 17) (f := fun j => .long (Int64.ofInt (ax_nn j))) (A := A) (by decide) (hs (.arrayOf (.static RX5 "NO_NAMES" "[J") .long) (by decide +kernel)) (va_eqt (hs (.eq (.length (.static RX5 "NO_NAMES" "[J")) (.int (Int32.ofNat 17))) (by decide +kernel))) (fun j hj => match j, hj with
    | 0, _ => va_eqtl (hs (.eq (.elem (.static RX5 "NO_NAMES" "[J") (.int (Int32.ofNat 0))) (.long (Int64.ofInt (ax_nn 0)))) (by decide +kernel))
    | 1, _ => va_eqtl (hs (.eq (.elem (.static RX5 "NO_NAMES" "[J") (.int (Int32.ofNat 1))) (.long (Int64.ofInt (ax_nn 1)))) (by decide +kernel))
    | 2, _ => va_eqtl (hs (.eq (.elem (.static RX5 "NO_NAMES" "[J") (.int (Int32.ofNat 2))) (.long (Int64.ofInt (ax_nn 2)))) (by decide +kernel))
    | 3, _ => va_eqtl (hs (.eq (.elem (.static RX5 "NO_NAMES" "[J") (.int (Int32.ofNat 3))) (.long (Int64.ofInt (ax_nn 3)))) (by decide +kernel))
    | 4, _ => va_eqtl (hs (.eq (.elem (.static RX5 "NO_NAMES" "[J") (.int (Int32.ofNat 4))) (.long (Int64.ofInt (ax_nn 4)))) (by decide +kernel))
    | 5, _ => va_eqtl (hs (.eq (.elem (.static RX5 "NO_NAMES" "[J") (.int (Int32.ofNat 5))) (.long (Int64.ofInt (ax_nn 5)))) (by decide +kernel))
    | 6, _ => va_eqtl (hs (.eq (.elem (.static RX5 "NO_NAMES" "[J") (.int (Int32.ofNat 6))) (.long (Int64.ofInt (ax_nn 6)))) (by decide +kernel))
    | 7, _ => va_eqtl (hs (.eq (.elem (.static RX5 "NO_NAMES" "[J") (.int (Int32.ofNat 7))) (.long (Int64.ofInt (ax_nn 7)))) (by decide +kernel))
    | 8, _ => va_eqtl (hs (.eq (.elem (.static RX5 "NO_NAMES" "[J") (.int (Int32.ofNat 8))) (.long (Int64.ofInt (ax_nn 8)))) (by decide +kernel))
    | 9, _ => va_eqtl (hs (.eq (.elem (.static RX5 "NO_NAMES" "[J") (.int (Int32.ofNat 9))) (.long (Int64.ofInt (ax_nn 9)))) (by decide +kernel))
    | 10, _ => va_eqtl (hs (.eq (.elem (.static RX5 "NO_NAMES" "[J") (.int (Int32.ofNat 10))) (.long (Int64.ofInt (ax_nn 10)))) (by decide +kernel))
    | 11, _ => va_eqtl (hs (.eq (.elem (.static RX5 "NO_NAMES" "[J") (.int (Int32.ofNat 11))) (.long (Int64.ofInt (ax_nn 11)))) (by decide +kernel))
    | 12, _ => va_eqtl (hs (.eq (.elem (.static RX5 "NO_NAMES" "[J") (.int (Int32.ofNat 12))) (.long (Int64.ofInt (ax_nn 12)))) (by decide +kernel))
    | 13, _ => va_eqtl (hs (.eq (.elem (.static RX5 "NO_NAMES" "[J") (.int (Int32.ofNat 13))) (.long (Int64.ofInt (ax_nn 13)))) (by decide +kernel))
    | 14, _ => va_eqtl (hs (.eq (.elem (.static RX5 "NO_NAMES" "[J") (.int (Int32.ofNat 14))) (.long (Int64.ofInt (ax_nn 14)))) (by decide +kernel))
    | 15, _ => va_eqtl (hs (.eq (.elem (.static RX5 "NO_NAMES" "[J") (.int (Int32.ofNat 15))) (.long (Int64.ofInt (ax_nn 15)))) (by decide +kernel))
    | 16, _ => va_eqtl (hs (.eq (.elem (.static RX5 "NO_NAMES" "[J") (.int (Int32.ofNat 16))) (.long (Int64.ofInt (ax_nn 16)))) (by decide +kernel))
    | j + 17, h => absurd h (by omega)) hA
  have hZ := va_Zof (hts (.laysStatic RX5 "NO_NAMES" "[J") (ax_s3 (List.mem_of_getElem? (i := 55) (by decide +kernel)))) (hts (.initialized RX5) (ax_s1 (List.mem_of_getElem? (i := 2) (by decide +kernel)))) ha1 hA
  have hC := va_Zof (A := A) (hts (.laysStatic "java/lang/String" "COMPACT_STRINGS" "Z") (ax_s2 (List.mem_of_getElem? (i := 200) (by decide +kernel)))) (hts (.initialized "java/lang/String") (ax_s1 (List.mem_of_getElem? (i := 11) (by decide +kernel)))) (va_eqi (hs (.eq (.static "java/lang/String" "COMPACT_STRINGS" "Z") (.int 1)) (by decide +kernel))) hA
  obtain ⟨adK, adV, hS, hR⟩ := vk_Sof (args := args) (s := s) (N := 1) (tm := fun _ => .string RX5 239) (len := [11]) (byt := [[59, 40, 41, 60, 62, 61, 43, 45, 42, 47, 37]]) (A := A)
    (fun i hi => by obtain rfl : i = 0 := by omega
                    decide)
    (fun i _ => hs (.exactly (.string RX5 239) "java/lang/String") (by decide +kernel))
    (fun i _ => hs (.eq (.field (.string RX5 239) "java/lang/String" "coder" "B") (.int 0)) (by decide +kernel))
    (fun i _ => hs (.arrayOf (.field (.string RX5 239) "java/lang/String" "value" "[B") .byte) (by decide +kernel))
    (fun i hi => by obtain rfl : i = 0 := by omega
                    exact hs (.eq (.length (.field (.string RX5 239) "java/lang/String" "value" "[B")) (.int (Int32.ofNat 11))) (by decide +kernel))
    (fun i hi j hj => by
      obtain rfl : i = 0 := by omega
      have hj : j < 11 := hj
      match j, hj with
      | 0, _ => exact hs (.eq (.elem (.field (.string RX5 239) "java/lang/String" "value" "[B") (.int (Int32.ofNat 0))) (.int 59)) (by decide +kernel)
      | 1, _ => exact hs (.eq (.elem (.field (.string RX5 239) "java/lang/String" "value" "[B") (.int (Int32.ofNat 1))) (.int 40)) (by decide +kernel)
      | 2, _ => exact hs (.eq (.elem (.field (.string RX5 239) "java/lang/String" "value" "[B") (.int (Int32.ofNat 2))) (.int 41)) (by decide +kernel)
      | 3, _ => exact hs (.eq (.elem (.field (.string RX5 239) "java/lang/String" "value" "[B") (.int (Int32.ofNat 3))) (.int 60)) (by decide +kernel)
      | 4, _ => exact hs (.eq (.elem (.field (.string RX5 239) "java/lang/String" "value" "[B") (.int (Int32.ofNat 4))) (.int 62)) (by decide +kernel)
      | 5, _ => exact hs (.eq (.elem (.field (.string RX5 239) "java/lang/String" "value" "[B") (.int (Int32.ofNat 5))) (.int 61)) (by decide +kernel)
      | 6, _ => exact hs (.eq (.elem (.field (.string RX5 239) "java/lang/String" "value" "[B") (.int (Int32.ofNat 6))) (.int 43)) (by decide +kernel)
      | 7, _ => exact hs (.eq (.elem (.field (.string RX5 239) "java/lang/String" "value" "[B") (.int (Int32.ofNat 7))) (.int 45)) (by decide +kernel)
      | 8, _ => exact hs (.eq (.elem (.field (.string RX5 239) "java/lang/String" "value" "[B") (.int (Int32.ofNat 8))) (.int 42)) (by decide +kernel)
      | 9, _ => exact hs (.eq (.elem (.field (.string RX5 239) "java/lang/String" "value" "[B") (.int (Int32.ofNat 9))) (.int 47)) (by decide +kernel)
      | 10, _ => exact hs (.eq (.elem (.field (.string RX5 239) "java/lang/String" "value" "[B") (.int (Int32.ofNat 10))) (.int 37)) (by decide +kernel)
      | j + 11, h => exact absurd h (by omega))
    (fun i j hi hj h => absurd (show i = j by omega) h) hA
  exact ⟨adK 0, a1, adV 0, hZ, hT, hC, vk_R.of (hts (.stringRef RX5 239 ";()<>=+-*/%") (ax_s2 (List.mem_of_getElem? (i := 186) (by decide +kernel)))) (hR 0 (by decide)), ⟨fun i hi => by
    obtain rfl : i = 0 := by omega
    exact hS.1 0 hi, fun i j hi hj _ => by omega⟩⟩

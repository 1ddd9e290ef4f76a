-- THE CONSTRUCTORS (printed by wip/gen/cons.py)
theorem dc_St_init_0 : decode cX7_init 0 = .ok (.aload_n 0, 1) := by decide +kernel
theorem dc_St_init_1 : decode cX7_init 1 = .ok (.invokespecial 3, 3) := by decide +kernel
theorem dc_St_init_4 : decode cX7_init 4 = .ok (.aload_n 0, 1) := by decide +kernel
theorem dc_St_init_5 : decode cX7_init 5 = .ok (.bipush 6, 2) := by decide +kernel
theorem dc_St_init_7 : decode cX7_init 7 = .ok (.newarray .int, 2) := by decide +kernel
theorem dc_St_init_9 : decode cX7_init 9 = .ok (.putfield 9, 3) := by decide +kernel
theorem dc_St_init_12 : decode cX7_init 12 = .ok (.aload_n 0, 1) := by decide +kernel
theorem dc_St_init_13 : decode cX7_init 13 = .ok (.bipush 6, 2) := by decide +kernel
theorem dc_St_init_15 : decode cX7_init 15 = .ok (.newarray .int, 2) := by decide +kernel
theorem dc_St_init_17 : decode cX7_init 17 = .ok (.putfield 15, 3) := by decide +kernel
theorem dc_St_init_20 : decode cX7_init 20 = .ok (.aload_n 0, 1) := by decide +kernel
theorem dc_St_init_21 : decode cX7_init 21 = .ok (.iconst (-1), 1) := by decide +kernel
theorem dc_St_init_22 : decode cX7_init 22 = .ok (.putfield 18, 3) := by decide +kernel
theorem dc_St_init_25 : decode cX7_init 25 = .ok (.return_, 1) := by decide +kernel
theorem St_init_wg : ∀ w ∈ (Cond.code yX7_init cX7_init 1 none :: ax_tb), w ∈ ax_tb := List.forall_mem_cons.mpr ⟨(ax_m1 77 (by decide +kernel) rfl), fun _ h => h⟩
def St_init_B (dC : Nat → ClassId) (dI : Nat → Nat → Nat) (A : Nat → Prop) (h0 : Nat) : Unit → State → Prop := fun _ t => ∃ q7 : Nat, ∃ c7 : ClassId, ∃ q15 : Nat, ∃ c15 : ClassId, va_P (dC, dI) vwCl [(h0, .inr (7, [.ref q7, .ref q15, .int (-1), .int 0, .int 0, .int 0])), (q7, .inl (c7, 6, .inl fun _ => 0)), (q15, .inl (c15, 6, .inl fun _ => 0))] t.heap ∧ va_K (dC, dI) vwCl [(c7, .int), (c15, .int)] t ∧ va_D A [(h0, .inr (7, [.ref q7, .ref q15, .int (-1), .int 0, .int 0, .int 0])), (q7, .inl (c7, 6, .inl fun _ => 0)), (q15, .inl (c15, 6, .inl fun _ => 0))]
set_option maxHeartbeats 1000000 in
set_option maxRecDepth 100000 in
theorem St_init_cn (l : Launch) (dC : Nat → ClassId) (dI : Nat → Nat → Nat) (h0 : Nat) (sz : Nat) : Met l yX7_init (Cond.code yX7_init cX7_init 1 none :: ax_tb) ({ frames := 1, cells := 2, slots := 12, locals := 12 }) (va_Pc [.ref h0] (fun U => U.heap.size = sz ∧ va_P (dC, dI) vwCl [(h0, .inr (7, [.null, .null, .int 0, .int 0, .int 0, .int 0]))] U.heap ∧ va_K (dC, dI) vwCl [] U ∧ va_D (fun _ => True) [(h0, .inr (7, [.null, .null, .int 0, .int 0, .int 0, .int 0]))])) (va_Qv (fun _ : Unit => True) (St_init_B dC dI (va_A [(h0, .inr (7, [.null, .null, .int 0, .int 0, .int 0, .int 0]))] sz) h0) (va_A [(h0, .inr (7, [.null, .null, .int 0, .int 0, .int 0, .int 0]))] sz)) 2 12 (va_A [(h0, .inr (7, [.null, .null, .int 0, .int 0, .int 0, .int 0]))] sz) := by
  refine Met.ofW (cc := cX7_init) (maxL := 1) (ret := none) (by decide) rfl ?_
  intro p e s m args below meth c s₁ B hml hv
  obtain ⟨rfl, hsz, hP, hK, hD0⟩ := hv
  have hx := B.exec
  have hb := B.bytes
  have hr := B.returns
  have hts0 := atoms_spec (ws := Cond.code yX7_init cX7_init 1 none :: ax_tb) B.pre
  have hts : ∀ w ∈ ax_tb, w.before _ s = true := fun w h => hts0 w (List.mem_cons_of_mem _ h)
  have hown : s.vm.findClass RX7 = some m.cls := findClass_of_methodNamed B.named
  have hlocks := B.notSynchronized
  have hin : meth.name = "<init>" := (name_of_methodNamed B.named B.method).1
  subst hsz
  have hD := hD0.self (sz := s.heap.size)
  generalize hAe : va_A [(h0, .inr (7, [.null, .null, .int 0, .int 0, .int 0, .int 0]))] s.heap.size = A at hD ⊢
  have hA : ∀ q : Nat, s.heap.size ≤ q → A q := fun q h => by rw [← hAe]; exact Or.inr h
  have hS : va_S A s.heap s.heap [] := va_S.rf
  have hP : va_P (dC, dI) vwCl [(h0, .inr (7, [.null, .null, .int 0, .int 0, .int 0, .int 0]))] s.heap := hP
  have hl := lv_entry ([.ref h0]) (n := 1) (Nat.le_of_ble_eq_true rfl)
  rw [lg_entry_eq]
  generalize (lg_sl ([.ref h0]) ++ List.replicate (1 - (lg_sl ([.ref h0])).length) Slot.unset).toArray = ls at hl ⊢
  have hl : lv_has ls 1 [(0, .ref h0)] := hl
  refine lv_aload_n hx hb dc_St_init_0 rfl (lv_at hl 0 rfl) ?_
  refine W.objInit hx hb hown (hts (.methodLink RX7 3 Lib.objectInit) (ax_m1 78 (by decide +kernel) rfl)) (hts (.instanceMethod Lib.objectInit) (ax_m1 24 (by decide +kernel) rfl)) (hts (.code Lib.objectInit ⟨#[0xb1]⟩ 1 none) (ax_m1 25 (by decide +kernel) rfl)) rfl (by rw [hml]; exact hl.1) rfl dc_St_init_1 (Nat.le_of_ble_eq_true rfl) (Nat.le_of_ble_eq_true rfl) ?_
  refine W.eq (g2 := F0 m 4 ls []) rfl ?_
  refine lv_aload_n hx hb dc_St_init_4 rfl (lv_at hl 0 rfl) ?_
  refine lv_bipush (v := 6) hx hb dc_St_init_5 (by decide +kernel) ?_
  have k7_1 := hts (.arrayClass .int) (ax_m1 115 (by decide +kernel) rfl)
  have k7_2 : ∀ cA : ClassId, vp_cell cA (6, .inl fun _ => 0) = arrV cA 6 (fun _ => defaultValue .int) := fun _ => rfl
  have k7_3 : ¬ (6 : Int32) < 0 := by decide +kernel
  have k7_4 : (6 : Int32).toNatClampNeg = 6 := by decide +kernel
  have k7_5 : 6 * componentBytes .int ≤ 536870912 := by decide +kernel
  have k7_6 : 0 + 1 ≤ 2 := by decide
  have k7_7 : 0 + 6 ≤ 12 := by decide +kernel
  refine va_newa (atype := .int) (a0 := (6, .inl fun _ => 0)) (ty := .int) hx hb k7_1 rfl hK hP hD hS hA k7_2 k7_3 k7_4 k7_5 k7_6 k7_7 dc_St_init_7 (fun q7 c7 H hK hP hD hS => ?_)
  have hP : va_P (dC, dI) vwCl [(h0, .inr (7, [.null, .null, .int 0, .int 0, .int 0, .int 0])), (q7, .inl (c7, 6, .inl fun _ => 0))] H := hP
  have hD : va_D A [(h0, .inr (7, [.null, .null, .int 0, .int 0, .int 0, .int 0])), (q7, .inl (c7, 6, .inl fun _ => 0))] := hD
  have hK : va_K (dC, dI) vwCl [(c7, .int)] s := hK
  refine W.widen (k := 1) (n := 6) (by omega) (by omega) ?_
  refine va_putF (D := (dC, dI)) (ci := 7) (v := .ref q7) (ty := .array .int) (C := RX7) (T := TX7) (N := 6) hx hb hts ax_inX7 tyX7 tyX7_ok nmX7 hown hK hP hD hS 0 rfl rfl 0 (by decide) (hts (.fieldLink RX7 9 "GreyHair$State" "cares" "[I") (ax_m1 79 (by decide +kernel) rfl)) (fun _ h9 => h9) rfl hin rfl (by decide +kernel) rfl rfl (Nat.le_of_ble_eq_true rfl) dc_St_init_9 (fun H locs hP hD hS => ?_)
  have hP : va_P (dC, dI) vwCl [(h0, .inr (7, [.ref q7, .null, .int 0, .int 0, .int 0, .int 0])), (q7, .inl (c7, 6, .inl fun _ => 0))] H := hP
  have hD : va_D A [(h0, .inr (7, [.ref q7, .null, .int 0, .int 0, .int 0, .int 0])), (q7, .inl (c7, 6, .inl fun _ => 0))] := hD
  refine lv_aload_n hx hb dc_St_init_12 rfl (lv_at hl 0 rfl) ?_
  refine lv_bipush (v := 6) hx hb dc_St_init_13 (by decide +kernel) ?_
  have k15_1 := hts (.arrayClass .int) (ax_m1 115 (by decide +kernel) rfl)
  have k15_2 : ∀ cA : ClassId, vp_cell cA (6, .inl fun _ => 0) = arrV cA 6 (fun _ => defaultValue .int) := fun _ => rfl
  have k15_3 : ¬ (6 : Int32) < 0 := by decide +kernel
  have k15_4 : (6 : Int32).toNatClampNeg = 6 := by decide +kernel
  have k15_5 : 6 * componentBytes .int ≤ 536870912 := by decide +kernel
  have k15_6 : 1 + 1 ≤ 2 := by decide
  have k15_7 : 6 + 6 ≤ 12 := by decide +kernel
  refine va_newa (atype := .int) (a0 := (6, .inl fun _ => 0)) (ty := .int) hx hb k15_1 rfl hK hP hD hS hA k15_2 k15_3 k15_4 k15_5 k15_6 k15_7 dc_St_init_15 (fun q15 c15 H hK hP hD hS => ?_)
  have hP : va_P (dC, dI) vwCl [(h0, .inr (7, [.ref q7, .null, .int 0, .int 0, .int 0, .int 0])), (q7, .inl (c7, 6, .inl fun _ => 0)), (q15, .inl (c15, 6, .inl fun _ => 0))] H := hP
  have hD : va_D A [(h0, .inr (7, [.ref q7, .null, .int 0, .int 0, .int 0, .int 0])), (q7, .inl (c7, 6, .inl fun _ => 0)), (q15, .inl (c15, 6, .inl fun _ => 0))] := hD
  have hK : va_K (dC, dI) vwCl [(c7, .int), (c15, .int)] s := hK
  refine W.widen (k := 2) (n := 12) (by omega) (by omega) ?_
  refine va_putF (D := (dC, dI)) (ci := 7) (v := .ref q15) (ty := .array .int) (C := RX7) (T := TX7) (N := 6) hx hb hts ax_inX7 tyX7 tyX7_ok nmX7 hown hK hP hD hS 0 rfl rfl 1 (by decide) (hts (.fieldLink RX7 15 "GreyHair$State" "knows" "[I") (ax_m1 83 (by decide +kernel) rfl)) (fun _ h9 => h9) rfl hin rfl (by decide +kernel) rfl rfl (Nat.le_of_ble_eq_true rfl) dc_St_init_17 (fun H locs hP hD hS => ?_)
  have hP : va_P (dC, dI) vwCl [(h0, .inr (7, [.ref q7, .ref q15, .int 0, .int 0, .int 0, .int 0])), (q7, .inl (c7, 6, .inl fun _ => 0)), (q15, .inl (c15, 6, .inl fun _ => 0))] H := hP
  have hD : va_D A [(h0, .inr (7, [.ref q7, .ref q15, .int 0, .int 0, .int 0, .int 0])), (q7, .inl (c7, 6, .inl fun _ => 0)), (q15, .inl (c15, 6, .inl fun _ => 0))] := hD
  refine lv_aload_n hx hb dc_St_init_20 rfl (lv_at hl 0 rfl) ?_
  refine lv_iconst (v := (-1)) hx hb dc_St_init_21 (by decide +kernel) ?_
  refine va_put (D := (dC, dI)) (ci := 7) (v := .int (-1)) (ty := .int) (C := RX7) (T := TX7) (N := 6) hx hb hts ax_inX7 tyX7 tyX7_ok nmX7 hown hK hP hD hS 0 rfl rfl 2 (by decide) (hts (.fieldLink RX7 18 "GreyHair$State" "hair" "I") (ax_m1 87 (by decide +kernel) rfl)) (fun _ h9 => h9) rfl (by decide +kernel) rfl rfl (Nat.le_of_ble_eq_true rfl) dc_St_init_22 (fun H locs hP hD hS => ?_)
  have hP : va_P (dC, dI) vwCl [(h0, .inr (7, [.ref q7, .ref q15, .int (-1), .int 0, .int 0, .int 0])), (q7, .inl (c7, 6, .inl fun _ => 0)), (q15, .inl (c15, 6, .inl fun _ => 0))] H := hP
  have hD : va_D A [(h0, .inr (7, [.ref q7, .ref q15, .int (-1), .int 0, .int 0, .int 0])), (q7, .inl (c7, 6, .inl fun _ => 0)), (q15, .inl (c15, 6, .inl fun _ => 0))] := hD
  have hP9 := hP.sub (ws' := [(h0, .inr (7, [.ref q7, .ref q15, .int (-1), .int 0, .int 0, .int 0])), (q7, .inl (c7, 6, .inl fun _ => 0)), (q15, .inl (c15, 6, .inl fun _ => 0))]) [0, 1, 2] rfl
  have hD9 := hD.sub (ws' := [(h0, .inr (7, [.ref q7, .ref q15, .int (-1), .int 0, .int 0, .int 0])), (q7, .inl (c7, 6, .inl fun _ => 0)), (q15, .inl (c15, 6, .inl fun _ => 0))]) [0, 1, 2] (by decide) rfl
  have hK9 := hK.sub (tys' := [(c7, .int), (c15, .int)]) [0, 1] rfl
  exact W.vret hx hb hr (fun t ht hW => ⟨⟨(), rfl, trivial, q7, c7, q15, c15, by rw [ht]; exact hP9, va_K.moved hW.alike hK9, hD9⟩, hS.F ht⟩) hS.2.2 dc_St_init_25
theorem dc_Fo_init_0 : decode cX2_init 0 = .ok (.aload_n 0, 1) := by decide +kernel
theorem dc_Fo_init_1 : decode cX2_init 1 = .ok (.invokespecial 1, 3) := by decide +kernel
theorem dc_Fo_init_4 : decode cX2_init 4 = .ok (.aload_n 0, 1) := by decide +kernel
theorem dc_Fo_init_5 : decode cX2_init 5 = .ok (.sipush 280, 3) := by decide +kernel
theorem dc_Fo_init_8 : decode cX2_init 8 = .ok (.newarray .int, 2) := by decide +kernel
theorem dc_Fo_init_10 : decode cX2_init 10 = .ok (.putfield 9, 3) := by decide +kernel
theorem dc_Fo_init_13 : decode cX2_init 13 = .ok (.aload_n 0, 1) := by decide +kernel
theorem dc_Fo_init_14 : decode cX2_init 14 = .ok (.iconst 5, 1) := by decide +kernel
theorem dc_Fo_init_15 : decode cX2_init 15 = .ok (.newarray .int, 2) := by decide +kernel
theorem dc_Fo_init_17 : decode cX2_init 17 = .ok (.putfield 13, 3) := by decide +kernel
theorem dc_Fo_init_20 : decode cX2_init 20 = .ok (.aload_n 0, 1) := by decide +kernel
theorem dc_Fo_init_21 : decode cX2_init 21 = .ok (.bipush 30, 2) := by decide +kernel
theorem dc_Fo_init_23 : decode cX2_init 23 = .ok (.newarray .int, 2) := by decide +kernel
theorem dc_Fo_init_25 : decode cX2_init 25 = .ok (.putfield 16, 3) := by decide +kernel
theorem dc_Fo_init_28 : decode cX2_init 28 = .ok (.return_, 1) := by decide +kernel
theorem Fo_init_wg : ∀ w ∈ (Cond.code yX2_init cX2_init 1 none :: ax_tb), w ∈ ax_tb := List.forall_mem_cons.mpr ⟨(ax_m1 236 (by decide +kernel) rfl), fun _ h => h⟩
def Fo_init_B (dC : Nat → ClassId) (dI : Nat → Nat → Nat) (A : Nat → Prop) (h0 : Nat) : Unit → State → Prop := fun _ t => ∃ q8 : Nat, ∃ c8 : ClassId, ∃ q15 : Nat, ∃ c15 : ClassId, ∃ q23 : Nat, ∃ c23 : ClassId, va_P (dC, dI) vwCl [(h0, .inr (2, [.ref q8, .ref q15, .ref q23, .int 0, .int 0, .int 0])), (q8, .inl (c8, 280, .inl fun _ => 0)), (q15, .inl (c15, 5, .inl fun _ => 0)), (q23, .inl (c23, 30, .inl fun _ => 0))] t.heap ∧ va_K (dC, dI) vwCl [(c8, .int), (c15, .int), (c23, .int)] t ∧ va_D A [(h0, .inr (2, [.ref q8, .ref q15, .ref q23, .int 0, .int 0, .int 0])), (q8, .inl (c8, 280, .inl fun _ => 0)), (q15, .inl (c15, 5, .inl fun _ => 0)), (q23, .inl (c23, 30, .inl fun _ => 0))]
set_option maxHeartbeats 1000000 in
set_option maxRecDepth 100000 in
theorem Fo_init_cn (l : Launch) (dC : Nat → ClassId) (dI : Nat → Nat → Nat) (h0 : Nat) (sz : Nat) : Met l yX2_init (Cond.code yX2_init cX2_init 1 none :: ax_tb) ({ frames := 1, cells := 3, slots := 315, locals := 12 }) (va_Pc [.ref h0] (fun U => U.heap.size = sz ∧ va_P (dC, dI) vwCl [(h0, .inr (2, [.null, .null, .null, .int 0, .int 0, .int 0]))] U.heap ∧ va_K (dC, dI) vwCl [] U ∧ va_D (fun _ => True) [(h0, .inr (2, [.null, .null, .null, .int 0, .int 0, .int 0]))])) (va_Qv (fun _ : Unit => True) (Fo_init_B dC dI (va_A [(h0, .inr (2, [.null, .null, .null, .int 0, .int 0, .int 0]))] sz) h0) (va_A [(h0, .inr (2, [.null, .null, .null, .int 0, .int 0, .int 0]))] sz)) 3 315 (va_A [(h0, .inr (2, [.null, .null, .null, .int 0, .int 0, .int 0]))] sz) := by
  refine Met.ofW (cc := cX2_init) (maxL := 1) (ret := none) (by decide) rfl ?_
  intro p e s m args below meth c s₁ B hml hv
  obtain ⟨rfl, hsz, hP, hK, hD0⟩ := hv
  have hx := B.exec
  have hb := B.bytes
  have hr := B.returns
  have hts0 := atoms_spec (ws := Cond.code yX2_init cX2_init 1 none :: ax_tb) B.pre
  have hts : ∀ w ∈ ax_tb, w.before _ s = true := fun w h => hts0 w (List.mem_cons_of_mem _ h)
  have hown : s.vm.findClass RX2 = some m.cls := findClass_of_methodNamed B.named
  have hlocks := B.notSynchronized
  have hin : meth.name = "<init>" := (name_of_methodNamed B.named B.method).1
  subst hsz
  have hD := hD0.self (sz := s.heap.size)
  generalize hAe : va_A [(h0, .inr (2, [.null, .null, .null, .int 0, .int 0, .int 0]))] s.heap.size = A at hD ⊢
  have hA : ∀ q : Nat, s.heap.size ≤ q → A q := fun q h => by rw [← hAe]; exact Or.inr h
  have hS : va_S A s.heap s.heap [] := va_S.rf
  have hP : va_P (dC, dI) vwCl [(h0, .inr (2, [.null, .null, .null, .int 0, .int 0, .int 0]))] s.heap := hP
  have hl := lv_entry ([.ref h0]) (n := 1) (Nat.le_of_ble_eq_true rfl)
  rw [lg_entry_eq]
  generalize (lg_sl ([.ref h0]) ++ List.replicate (1 - (lg_sl ([.ref h0])).length) Slot.unset).toArray = ls at hl ⊢
  have hl : lv_has ls 1 [(0, .ref h0)] := hl
  refine lv_aload_n hx hb dc_Fo_init_0 rfl (lv_at hl 0 rfl) ?_
  refine W.objInit hx hb hown (hts (.methodLink RX2 1 Lib.objectInit) (ax_m1 237 (by decide +kernel) rfl)) (hts (.instanceMethod Lib.objectInit) (ax_m1 24 (by decide +kernel) rfl)) (hts (.code Lib.objectInit ⟨#[0xb1]⟩ 1 none) (ax_m1 25 (by decide +kernel) rfl)) rfl (by rw [hml]; exact hl.1) rfl dc_Fo_init_1 (Nat.le_of_ble_eq_true rfl) (Nat.le_of_ble_eq_true rfl) ?_
  refine W.eq (g2 := F0 m 4 ls []) rfl ?_
  refine lv_aload_n hx hb dc_Fo_init_4 rfl (lv_at hl 0 rfl) ?_
  refine lv_sipush (v := 280) hx hb dc_Fo_init_5 (by decide +kernel) ?_
  have k8_1 := hts (.arrayClass .int) (ax_m1 115 (by decide +kernel) rfl)
  have k8_2 : ∀ cA : ClassId, vp_cell cA (280, .inl fun _ => 0) = arrV cA 280 (fun _ => defaultValue .int) := fun _ => rfl
  have k8_3 : ¬ (280 : Int32) < 0 := by decide +kernel
  have k8_4 : (280 : Int32).toNatClampNeg = 280 := by decide +kernel
  have k8_5 : 280 * componentBytes .int ≤ 536870912 := by decide +kernel
  have k8_6 : 0 + 1 ≤ 3 := by decide
  have k8_7 : 0 + 280 ≤ 315 := by decide +kernel
  refine va_newa (atype := .int) (a0 := (280, .inl fun _ => 0)) (ty := .int) hx hb k8_1 rfl hK hP hD hS hA k8_2 k8_3 k8_4 k8_5 k8_6 k8_7 dc_Fo_init_8 (fun q8 c8 H hK hP hD hS => ?_)
  have hP : va_P (dC, dI) vwCl [(h0, .inr (2, [.null, .null, .null, .int 0, .int 0, .int 0])), (q8, .inl (c8, 280, .inl fun _ => 0))] H := hP
  have hD : va_D A [(h0, .inr (2, [.null, .null, .null, .int 0, .int 0, .int 0])), (q8, .inl (c8, 280, .inl fun _ => 0))] := hD
  have hK : va_K (dC, dI) vwCl [(c8, .int)] s := hK
  refine W.widen (k := 1) (n := 280) (by omega) (by omega) ?_
  refine va_putF (D := (dC, dI)) (ci := 2) (v := .ref q8) (ty := .array .int) (C := RX2) (T := TX2) (N := 6) hx hb hts ax_inX2 tyX2 tyX2_ok nmX2 hown hK hP hD hS 0 rfl rfl 0 (by decide) (hts (.fieldLink RX2 9 "GreyHair$Formula" "code" "[I") (ax_m1 238 (by decide +kernel) rfl)) (fun _ h9 => h9) rfl hin rfl (by decide +kernel) rfl rfl (Nat.le_of_ble_eq_true rfl) dc_Fo_init_10 (fun H locs hP hD hS => ?_)
  have hP : va_P (dC, dI) vwCl [(h0, .inr (2, [.ref q8, .null, .null, .int 0, .int 0, .int 0])), (q8, .inl (c8, 280, .inl fun _ => 0))] H := hP
  have hD : va_D A [(h0, .inr (2, [.ref q8, .null, .null, .int 0, .int 0, .int 0])), (q8, .inl (c8, 280, .inl fun _ => 0))] := hD
  refine lv_aload_n hx hb dc_Fo_init_13 rfl (lv_at hl 0 rfl) ?_
  refine lv_iconst (v := 5) hx hb dc_Fo_init_14 (by decide +kernel) ?_
  have k15_1 := hts (.arrayClass .int) (ax_m1 115 (by decide +kernel) rfl)
  have k15_2 : ∀ cA : ClassId, vp_cell cA (5, .inl fun _ => 0) = arrV cA 5 (fun _ => defaultValue .int) := fun _ => rfl
  have k15_3 : ¬ (5 : Int32) < 0 := by decide +kernel
  have k15_4 : (5 : Int32).toNatClampNeg = 5 := by decide +kernel
  have k15_5 : 5 * componentBytes .int ≤ 536870912 := by decide +kernel
  have k15_6 : 1 + 1 ≤ 3 := by decide
  have k15_7 : 280 + 5 ≤ 315 := by decide +kernel
  refine va_newa (atype := .int) (a0 := (5, .inl fun _ => 0)) (ty := .int) hx hb k15_1 rfl hK hP hD hS hA k15_2 k15_3 k15_4 k15_5 k15_6 k15_7 dc_Fo_init_15 (fun q15 c15 H hK hP hD hS => ?_)
  have hP : va_P (dC, dI) vwCl [(h0, .inr (2, [.ref q8, .null, .null, .int 0, .int 0, .int 0])), (q8, .inl (c8, 280, .inl fun _ => 0)), (q15, .inl (c15, 5, .inl fun _ => 0))] H := hP
  have hD : va_D A [(h0, .inr (2, [.ref q8, .null, .null, .int 0, .int 0, .int 0])), (q8, .inl (c8, 280, .inl fun _ => 0)), (q15, .inl (c15, 5, .inl fun _ => 0))] := hD
  have hK : va_K (dC, dI) vwCl [(c8, .int), (c15, .int)] s := hK
  refine W.widen (k := 2) (n := 285) (by omega) (by omega) ?_
  refine va_putF (D := (dC, dI)) (ci := 2) (v := .ref q15) (ty := .array .int) (C := RX2) (T := TX2) (N := 6) hx hb hts ax_inX2 tyX2 tyX2_ok nmX2 hown hK hP hD hS 0 rfl rfl 1 (by decide) (hts (.fieldLink RX2 13 "GreyHair$Formula" "given" "[I") (ax_m1 239 (by decide +kernel) rfl)) (fun _ h9 => h9) rfl hin rfl (by decide +kernel) rfl rfl (Nat.le_of_ble_eq_true rfl) dc_Fo_init_17 (fun H locs hP hD hS => ?_)
  have hP : va_P (dC, dI) vwCl [(h0, .inr (2, [.ref q8, .ref q15, .null, .int 0, .int 0, .int 0])), (q8, .inl (c8, 280, .inl fun _ => 0)), (q15, .inl (c15, 5, .inl fun _ => 0))] H := hP
  have hD : va_D A [(h0, .inr (2, [.ref q8, .ref q15, .null, .int 0, .int 0, .int 0])), (q8, .inl (c8, 280, .inl fun _ => 0)), (q15, .inl (c15, 5, .inl fun _ => 0))] := hD
  refine lv_aload_n hx hb dc_Fo_init_20 rfl (lv_at hl 0 rfl) ?_
  refine lv_bipush (v := 30) hx hb dc_Fo_init_21 (by decide +kernel) ?_
  have k23_1 := hts (.arrayClass .int) (ax_m1 115 (by decide +kernel) rfl)
  have k23_2 : ∀ cA : ClassId, vp_cell cA (30, .inl fun _ => 0) = arrV cA 30 (fun _ => defaultValue .int) := fun _ => rfl
  have k23_3 : ¬ (30 : Int32) < 0 := by decide +kernel
  have k23_4 : (30 : Int32).toNatClampNeg = 30 := by decide +kernel
  have k23_5 : 30 * componentBytes .int ≤ 536870912 := by decide +kernel
  have k23_6 : 2 + 1 ≤ 3 := by decide
  have k23_7 : 285 + 30 ≤ 315 := by decide +kernel
  refine va_newa (atype := .int) (a0 := (30, .inl fun _ => 0)) (ty := .int) hx hb k23_1 rfl hK hP hD hS hA k23_2 k23_3 k23_4 k23_5 k23_6 k23_7 dc_Fo_init_23 (fun q23 c23 H hK hP hD hS => ?_)
  have hP : va_P (dC, dI) vwCl [(h0, .inr (2, [.ref q8, .ref q15, .null, .int 0, .int 0, .int 0])), (q8, .inl (c8, 280, .inl fun _ => 0)), (q15, .inl (c15, 5, .inl fun _ => 0)), (q23, .inl (c23, 30, .inl fun _ => 0))] H := hP
  have hD : va_D A [(h0, .inr (2, [.ref q8, .ref q15, .null, .int 0, .int 0, .int 0])), (q8, .inl (c8, 280, .inl fun _ => 0)), (q15, .inl (c15, 5, .inl fun _ => 0)), (q23, .inl (c23, 30, .inl fun _ => 0))] := hD
  have hK : va_K (dC, dI) vwCl [(c8, .int), (c15, .int), (c23, .int)] s := hK
  refine W.widen (k := 3) (n := 315) (by omega) (by omega) ?_
  refine va_putF (D := (dC, dI)) (ci := 2) (v := .ref q23) (ty := .array .int) (C := RX2) (T := TX2) (N := 6) hx hb hts ax_inX2 tyX2 tyX2_ok nmX2 hown hK hP hD hS 0 rfl rfl 2 (by decide) (hts (.fieldLink RX2 16 "GreyHair$Formula" "stack" "[I") (ax_m2 0 (by decide +kernel) rfl)) (fun _ h9 => h9) rfl hin rfl (by decide +kernel) rfl rfl (Nat.le_of_ble_eq_true rfl) dc_Fo_init_25 (fun H locs hP hD hS => ?_)
  have hP : va_P (dC, dI) vwCl [(h0, .inr (2, [.ref q8, .ref q15, .ref q23, .int 0, .int 0, .int 0])), (q8, .inl (c8, 280, .inl fun _ => 0)), (q15, .inl (c15, 5, .inl fun _ => 0)), (q23, .inl (c23, 30, .inl fun _ => 0))] H := hP
  have hD : va_D A [(h0, .inr (2, [.ref q8, .ref q15, .ref q23, .int 0, .int 0, .int 0])), (q8, .inl (c8, 280, .inl fun _ => 0)), (q15, .inl (c15, 5, .inl fun _ => 0)), (q23, .inl (c23, 30, .inl fun _ => 0))] := hD
  have hP9 := hP.sub (ws' := [(h0, .inr (2, [.ref q8, .ref q15, .ref q23, .int 0, .int 0, .int 0])), (q8, .inl (c8, 280, .inl fun _ => 0)), (q15, .inl (c15, 5, .inl fun _ => 0)), (q23, .inl (c23, 30, .inl fun _ => 0))]) [0, 1, 2, 3] rfl
  have hD9 := hD.sub (ws' := [(h0, .inr (2, [.ref q8, .ref q15, .ref q23, .int 0, .int 0, .int 0])), (q8, .inl (c8, 280, .inl fun _ => 0)), (q15, .inl (c15, 5, .inl fun _ => 0)), (q23, .inl (c23, 30, .inl fun _ => 0))]) [0, 1, 2, 3] (by decide) rfl
  have hK9 := hK.sub (tys' := [(c8, .int), (c15, .int), (c23, .int)]) [0, 1, 2] rfl
  exact W.vret hx hb hr (fun t ht hW => ⟨⟨(), rfl, trivial, q8, c8, q15, c15, q23, c23, by rw [ht]; exact hP9, va_K.moved hW.alike hK9, hD9⟩, hS.F ht⟩) hS.2.2 dc_Fo_init_28
theorem dc_Bx_init_0 : decode cX0_init 0 = .ok (.aload_n 0, 1) := by decide +kernel
theorem dc_Bx_init_1 : decode cX0_init 1 = .ok (.invokespecial 1, 3) := by decide +kernel
theorem dc_Bx_init_4 : decode cX0_init 4 = .ok (.aload_n 0, 1) := by decide +kernel
theorem dc_Bx_init_5 : decode cX0_init 5 = .ok (.bipush 48, 2) := by decide +kernel
theorem dc_Bx_init_7 : decode cX0_init 7 = .ok (.newarray .int, 2) := by decide +kernel
theorem dc_Bx_init_9 : decode cX0_init 9 = .ok (.putfield 11, 3) := by decide +kernel
theorem dc_Bx_init_12 : decode cX0_init 12 = .ok (.aload_n 0, 1) := by decide +kernel
theorem dc_Bx_init_13 : decode cX0_init 13 = .ok (.iconst 3, 1) := by decide +kernel
theorem dc_Bx_init_14 : decode cX0_init 14 = .ok (.newarray .boolean, 2) := by decide +kernel
theorem dc_Bx_init_16 : decode cX0_init 16 = .ok (.putfield 15, 3) := by decide +kernel
theorem dc_Bx_init_19 : decode cX0_init 19 = .ok (.return_, 1) := by decide +kernel
theorem Bx_init_wg : ∀ w ∈ (Cond.code yX0_init cX0_init 1 none :: ax_tb), w ∈ ax_tb := List.forall_mem_cons.mpr ⟨(ax_m1 171 (by decide +kernel) rfl), fun _ h => h⟩
def Bx_init_B (dC : Nat → ClassId) (dI : Nat → Nat → Nat) (A : Nat → Prop) (h0 : Nat) : Unit → State → Prop := fun _ t => ∃ q7 : Nat, ∃ c7 : ClassId, ∃ q14 : Nat, ∃ c14 : ClassId, va_P (dC, dI) vwCl [(h0, .inr (0, [.ref q7, .ref q14])), (q7, .inl (c7, 48, .inl fun _ => 0)), (q14, .inl (c14, 3, .inl fun _ => 0))] t.heap ∧ va_K (dC, dI) vwCl [(c7, .int), (c14, .boolean)] t ∧ va_D A [(h0, .inr (0, [.ref q7, .ref q14])), (q7, .inl (c7, 48, .inl fun _ => 0)), (q14, .inl (c14, 3, .inl fun _ => 0))]
set_option maxHeartbeats 1000000 in
set_option maxRecDepth 100000 in
theorem Bx_init_cn (l : Launch) (dC : Nat → ClassId) (dI : Nat → Nat → Nat) (h0 : Nat) (sz : Nat) : Met l yX0_init (Cond.code yX0_init cX0_init 1 none :: ax_tb) ({ frames := 1, cells := 2, slots := 51, locals := 12 }) (va_Pc [.ref h0] (fun U => U.heap.size = sz ∧ va_P (dC, dI) vwCl [(h0, .inr (0, [.null, .null]))] U.heap ∧ va_K (dC, dI) vwCl [] U ∧ va_D (fun _ => True) [(h0, .inr (0, [.null, .null]))])) (va_Qv (fun _ : Unit => True) (Bx_init_B dC dI (va_A [(h0, .inr (0, [.null, .null]))] sz) h0) (va_A [(h0, .inr (0, [.null, .null]))] sz)) 2 51 (va_A [(h0, .inr (0, [.null, .null]))] sz) := by
  refine Met.ofW (cc := cX0_init) (maxL := 1) (ret := none) (by decide) rfl ?_
  intro p e s m args below meth c s₁ B hml hv
  obtain ⟨rfl, hsz, hP, hK, hD0⟩ := hv
  have hx := B.exec
  have hb := B.bytes
  have hr := B.returns
  have hts0 := atoms_spec (ws := Cond.code yX0_init cX0_init 1 none :: ax_tb) B.pre
  have hts : ∀ w ∈ ax_tb, w.before _ s = true := fun w h => hts0 w (List.mem_cons_of_mem _ h)
  have hown : s.vm.findClass RX0 = some m.cls := findClass_of_methodNamed B.named
  have hlocks := B.notSynchronized
  have hin : meth.name = "<init>" := (name_of_methodNamed B.named B.method).1
  subst hsz
  have hD := hD0.self (sz := s.heap.size)
  generalize hAe : va_A [(h0, .inr (0, [.null, .null]))] s.heap.size = A at hD ⊢
  have hA : ∀ q : Nat, s.heap.size ≤ q → A q := fun q h => by rw [← hAe]; exact Or.inr h
  have hS : va_S A s.heap s.heap [] := va_S.rf
  have hP : va_P (dC, dI) vwCl [(h0, .inr (0, [.null, .null]))] s.heap := hP
  have hl := lv_entry ([.ref h0]) (n := 1) (Nat.le_of_ble_eq_true rfl)
  rw [lg_entry_eq]
  generalize (lg_sl ([.ref h0]) ++ List.replicate (1 - (lg_sl ([.ref h0])).length) Slot.unset).toArray = ls at hl ⊢
  have hl : lv_has ls 1 [(0, .ref h0)] := hl
  refine lv_aload_n hx hb dc_Bx_init_0 rfl (lv_at hl 0 rfl) ?_
  refine W.objInit hx hb hown (hts (.methodLink RX0 1 Lib.objectInit) (ax_m1 172 (by decide +kernel) rfl)) (hts (.instanceMethod Lib.objectInit) (ax_m1 24 (by decide +kernel) rfl)) (hts (.code Lib.objectInit ⟨#[0xb1]⟩ 1 none) (ax_m1 25 (by decide +kernel) rfl)) rfl (by rw [hml]; exact hl.1) rfl dc_Bx_init_1 (Nat.le_of_ble_eq_true rfl) (Nat.le_of_ble_eq_true rfl) ?_
  refine W.eq (g2 := F0 m 4 ls []) rfl ?_
  refine lv_aload_n hx hb dc_Bx_init_4 rfl (lv_at hl 0 rfl) ?_
  refine lv_bipush (v := 48) hx hb dc_Bx_init_5 (by decide +kernel) ?_
  have k7_1 := hts (.arrayClass .int) (ax_m1 115 (by decide +kernel) rfl)
  have k7_2 : ∀ cA : ClassId, vp_cell cA (48, .inl fun _ => 0) = arrV cA 48 (fun _ => defaultValue .int) := fun _ => rfl
  have k7_3 : ¬ (48 : Int32) < 0 := by decide +kernel
  have k7_4 : (48 : Int32).toNatClampNeg = 48 := by decide +kernel
  have k7_5 : 48 * componentBytes .int ≤ 536870912 := by decide +kernel
  have k7_6 : 0 + 1 ≤ 2 := by decide
  have k7_7 : 0 + 48 ≤ 51 := by decide +kernel
  refine va_newa (atype := .int) (a0 := (48, .inl fun _ => 0)) (ty := .int) hx hb k7_1 rfl hK hP hD hS hA k7_2 k7_3 k7_4 k7_5 k7_6 k7_7 dc_Bx_init_7 (fun q7 c7 H hK hP hD hS => ?_)
  have hP : va_P (dC, dI) vwCl [(h0, .inr (0, [.null, .null])), (q7, .inl (c7, 48, .inl fun _ => 0))] H := hP
  have hD : va_D A [(h0, .inr (0, [.null, .null])), (q7, .inl (c7, 48, .inl fun _ => 0))] := hD
  have hK : va_K (dC, dI) vwCl [(c7, .int)] s := hK
  refine W.widen (k := 1) (n := 48) (by omega) (by omega) ?_
  refine va_putF (D := (dC, dI)) (ci := 0) (v := .ref q7) (ty := .array .int) (C := RX0) (T := TX0) (N := 2) hx hb hts ax_inX0 tyX0 tyX0_ok nmX0 hown hK hP hD hS 0 rfl rfl 0 (by decide) (hts (.fieldLink RX0 11 "GreyHair$Boxes" "rows" "[I") (ax_m1 173 (by decide +kernel) rfl)) (fun _ h9 => h9) rfl hin rfl (by decide +kernel) rfl rfl (Nat.le_of_ble_eq_true rfl) dc_Bx_init_9 (fun H locs hP hD hS => ?_)
  have hP : va_P (dC, dI) vwCl [(h0, .inr (0, [.ref q7, .null])), (q7, .inl (c7, 48, .inl fun _ => 0))] H := hP
  have hD : va_D A [(h0, .inr (0, [.ref q7, .null])), (q7, .inl (c7, 48, .inl fun _ => 0))] := hD
  refine lv_aload_n hx hb dc_Bx_init_12 rfl (lv_at hl 0 rfl) ?_
  refine lv_iconst (v := 3) hx hb dc_Bx_init_13 (by decide +kernel) ?_
  have k14_1 := hts (.arrayClass .boolean) (ax_m1 180 (by decide +kernel) rfl)
  have k14_2 : ∀ cA : ClassId, vp_cell cA (3, .inl fun _ => 0) = arrV cA 3 (fun _ => defaultValue .boolean) := fun _ => rfl
  have k14_3 : ¬ (3 : Int32) < 0 := by decide +kernel
  have k14_4 : (3 : Int32).toNatClampNeg = 3 := by decide +kernel
  have k14_5 : 3 * componentBytes .boolean ≤ 536870912 := by decide +kernel
  have k14_6 : 1 + 1 ≤ 2 := by decide
  have k14_7 : 48 + 3 ≤ 51 := by decide +kernel
  refine va_newa (atype := .boolean) (a0 := (3, .inl fun _ => 0)) (ty := .boolean) hx hb k14_1 rfl hK hP hD hS hA k14_2 k14_3 k14_4 k14_5 k14_6 k14_7 dc_Bx_init_14 (fun q14 c14 H hK hP hD hS => ?_)
  have hP : va_P (dC, dI) vwCl [(h0, .inr (0, [.ref q7, .null])), (q7, .inl (c7, 48, .inl fun _ => 0)), (q14, .inl (c14, 3, .inl fun _ => 0))] H := hP
  have hD : va_D A [(h0, .inr (0, [.ref q7, .null])), (q7, .inl (c7, 48, .inl fun _ => 0)), (q14, .inl (c14, 3, .inl fun _ => 0))] := hD
  have hK : va_K (dC, dI) vwCl [(c7, .int), (c14, .boolean)] s := hK
  refine W.widen (k := 2) (n := 51) (by omega) (by omega) ?_
  refine va_putF (D := (dC, dI)) (ci := 0) (v := .ref q14) (ty := .array .boolean) (C := RX0) (T := TX0) (N := 2) hx hb hts ax_inX0 tyX0 tyX0_ok nmX0 hown hK hP hD hS 0 rfl rfl 1 (by decide) (hts (.fieldLink RX0 15 "GreyHair$Boxes" "isFull" "[Z") (ax_m1 174 (by decide +kernel) rfl)) (fun _ h9 => h9) rfl hin rfl (by decide +kernel) rfl rfl (Nat.le_of_ble_eq_true rfl) dc_Bx_init_16 (fun H locs hP hD hS => ?_)
  have hP : va_P (dC, dI) vwCl [(h0, .inr (0, [.ref q7, .ref q14])), (q7, .inl (c7, 48, .inl fun _ => 0)), (q14, .inl (c14, 3, .inl fun _ => 0))] H := hP
  have hD : va_D A [(h0, .inr (0, [.ref q7, .ref q14])), (q7, .inl (c7, 48, .inl fun _ => 0)), (q14, .inl (c14, 3, .inl fun _ => 0))] := hD
  have hP9 := hP.sub (ws' := [(h0, .inr (0, [.ref q7, .ref q14])), (q7, .inl (c7, 48, .inl fun _ => 0)), (q14, .inl (c14, 3, .inl fun _ => 0))]) [0, 1, 2] rfl
  have hD9 := hD.sub (ws' := [(h0, .inr (0, [.ref q7, .ref q14])), (q7, .inl (c7, 48, .inl fun _ => 0)), (q14, .inl (c14, 3, .inl fun _ => 0))]) [0, 1, 2] (by decide) rfl
  have hK9 := hK.sub (tys' := [(c7, .int), (c14, .boolean)]) [0, 1] rfl
  exact W.vret hx hb hr (fun t ht hW => ⟨⟨(), rfl, trivial, q7, c7, q14, c14, by rw [ht]; exact hP9, va_K.moved hW.alike hK9, hD9⟩, hS.F ht⟩) hS.2.2 dc_Bx_init_19
theorem dc_Hi_init_0 : decode cX3_init 0 = .ok (.aload_n 0, 1) := by decide +kernel
theorem dc_Hi_init_1 : decode cX3_init 1 = .ok (.invokespecial 3, 3) := by decide +kernel
theorem dc_Hi_init_4 : decode cX3_init 4 = .ok (.aload_n 0, 1) := by decide +kernel
theorem dc_Hi_init_5 : decode cX3_init 5 = .ok (.sipush 656, 3) := by decide +kernel
theorem dc_Hi_init_8 : decode cX3_init 8 = .ok (.newarray .int, 2) := by decide +kernel
theorem dc_Hi_init_10 : decode cX3_init 10 = .ok (.putfield 11, 3) := by decide +kernel
theorem dc_Hi_init_13 : decode cX3_init 13 = .ok (.return_, 1) := by decide +kernel
theorem Hi_init_wg : ∀ w ∈ (Cond.code yX3_init cX3_init 1 none :: ax_tb), w ∈ ax_tb := List.forall_mem_cons.mpr ⟨(ax_m1 151 (by decide +kernel) rfl), fun _ h => h⟩
def Hi_init_B (dC : Nat → ClassId) (dI : Nat → Nat → Nat) (A : Nat → Prop) (h0 : Nat) : Unit → State → Prop := fun _ t => ∃ q8 : Nat, ∃ c8 : ClassId, va_P (dC, dI) vwCl [(h0, .inr (3, [.ref q8, .int 0, .int 0, .int 0])), (q8, .inl (c8, 656, .inl fun _ => 0))] t.heap ∧ va_K (dC, dI) vwCl [(c8, .int)] t ∧ va_D A [(h0, .inr (3, [.ref q8, .int 0, .int 0, .int 0])), (q8, .inl (c8, 656, .inl fun _ => 0))]
set_option maxHeartbeats 1000000 in
set_option maxRecDepth 100000 in
theorem Hi_init_cn (l : Launch) (dC : Nat → ClassId) (dI : Nat → Nat → Nat) (h0 : Nat) (sz : Nat) : Met l yX3_init (Cond.code yX3_init cX3_init 1 none :: ax_tb) ({ frames := 1, cells := 1, slots := 656, locals := 12 }) (va_Pc [.ref h0] (fun U => U.heap.size = sz ∧ va_P (dC, dI) vwCl [(h0, .inr (3, [.null, .int 0, .int 0, .int 0]))] U.heap ∧ va_K (dC, dI) vwCl [] U ∧ va_D (fun _ => True) [(h0, .inr (3, [.null, .int 0, .int 0, .int 0]))])) (va_Qv (fun _ : Unit => True) (Hi_init_B dC dI (va_A [(h0, .inr (3, [.null, .int 0, .int 0, .int 0]))] sz) h0) (va_A [(h0, .inr (3, [.null, .int 0, .int 0, .int 0]))] sz)) 1 656 (va_A [(h0, .inr (3, [.null, .int 0, .int 0, .int 0]))] sz) := by
  refine Met.ofW (cc := cX3_init) (maxL := 1) (ret := none) (by decide) rfl ?_
  intro p e s m args below meth c s₁ B hml hv
  obtain ⟨rfl, hsz, hP, hK, hD0⟩ := hv
  have hx := B.exec
  have hb := B.bytes
  have hr := B.returns
  have hts0 := atoms_spec (ws := Cond.code yX3_init cX3_init 1 none :: ax_tb) B.pre
  have hts : ∀ w ∈ ax_tb, w.before _ s = true := fun w h => hts0 w (List.mem_cons_of_mem _ h)
  have hown : s.vm.findClass RX3 = some m.cls := findClass_of_methodNamed B.named
  have hlocks := B.notSynchronized
  have hin : meth.name = "<init>" := (name_of_methodNamed B.named B.method).1
  subst hsz
  have hD := hD0.self (sz := s.heap.size)
  generalize hAe : va_A [(h0, .inr (3, [.null, .int 0, .int 0, .int 0]))] s.heap.size = A at hD ⊢
  have hA : ∀ q : Nat, s.heap.size ≤ q → A q := fun q h => by rw [← hAe]; exact Or.inr h
  have hS : va_S A s.heap s.heap [] := va_S.rf
  have hP : va_P (dC, dI) vwCl [(h0, .inr (3, [.null, .int 0, .int 0, .int 0]))] s.heap := hP
  have hl := lv_entry ([.ref h0]) (n := 1) (Nat.le_of_ble_eq_true rfl)
  rw [lg_entry_eq]
  generalize (lg_sl ([.ref h0]) ++ List.replicate (1 - (lg_sl ([.ref h0])).length) Slot.unset).toArray = ls at hl ⊢
  have hl : lv_has ls 1 [(0, .ref h0)] := hl
  refine lv_aload_n hx hb dc_Hi_init_0 rfl (lv_at hl 0 rfl) ?_
  refine W.objInit hx hb hown (hts (.methodLink RX3 3 Lib.objectInit) (ax_m1 152 (by decide +kernel) rfl)) (hts (.instanceMethod Lib.objectInit) (ax_m1 24 (by decide +kernel) rfl)) (hts (.code Lib.objectInit ⟨#[0xb1]⟩ 1 none) (ax_m1 25 (by decide +kernel) rfl)) rfl (by rw [hml]; exact hl.1) rfl dc_Hi_init_1 (Nat.le_of_ble_eq_true rfl) (Nat.le_of_ble_eq_true rfl) ?_
  refine W.eq (g2 := F0 m 4 ls []) rfl ?_
  refine lv_aload_n hx hb dc_Hi_init_4 rfl (lv_at hl 0 rfl) ?_
  refine lv_sipush (v := 656) hx hb dc_Hi_init_5 (by decide +kernel) ?_
  have k8_1 := hts (.arrayClass .int) (ax_m1 115 (by decide +kernel) rfl)
  have k8_2 : ∀ cA : ClassId, vp_cell cA (656, .inl fun _ => 0) = arrV cA 656 (fun _ => defaultValue .int) := fun _ => rfl
  have k8_3 : ¬ (656 : Int32) < 0 := by decide +kernel
  have k8_4 : (656 : Int32).toNatClampNeg = 656 := by decide +kernel
  have k8_5 : 656 * componentBytes .int ≤ 536870912 := by decide +kernel
  have k8_6 : 0 + 1 ≤ 1 := by decide
  have k8_7 : 0 + 656 ≤ 656 := by decide +kernel
  refine va_newa (atype := .int) (a0 := (656, .inl fun _ => 0)) (ty := .int) hx hb k8_1 rfl hK hP hD hS hA k8_2 k8_3 k8_4 k8_5 k8_6 k8_7 dc_Hi_init_8 (fun q8 c8 H hK hP hD hS => ?_)
  have hP : va_P (dC, dI) vwCl [(h0, .inr (3, [.null, .int 0, .int 0, .int 0])), (q8, .inl (c8, 656, .inl fun _ => 0))] H := hP
  have hD : va_D A [(h0, .inr (3, [.null, .int 0, .int 0, .int 0])), (q8, .inl (c8, 656, .inl fun _ => 0))] := hD
  have hK : va_K (dC, dI) vwCl [(c8, .int)] s := hK
  refine W.widen (k := 1) (n := 656) (by omega) (by omega) ?_
  refine va_putF (D := (dC, dI)) (ci := 3) (v := .ref q8) (ty := .array .int) (C := RX3) (T := TX3) (N := 4) hx hb hts ax_inX3 tyX3 tyX3_ok nmX3 hown hK hP hD hS 0 rfl rfl 0 (by decide) (hts (.fieldLink RX3 11 "GreyHair$History" "rows" "[I") (ax_m1 153 (by decide +kernel) rfl)) (fun _ h9 => h9) rfl hin rfl (by decide +kernel) rfl rfl (Nat.le_of_ble_eq_true rfl) dc_Hi_init_10 (fun H locs hP hD hS => ?_)
  have hP : va_P (dC, dI) vwCl [(h0, .inr (3, [.ref q8, .int 0, .int 0, .int 0])), (q8, .inl (c8, 656, .inl fun _ => 0))] H := hP
  have hD : va_D A [(h0, .inr (3, [.ref q8, .int 0, .int 0, .int 0])), (q8, .inl (c8, 656, .inl fun _ => 0))] := hD
  have hP9 := hP.sub (ws' := [(h0, .inr (3, [.ref q8, .int 0, .int 0, .int 0])), (q8, .inl (c8, 656, .inl fun _ => 0))]) [0, 1] rfl
  have hD9 := hD.sub (ws' := [(h0, .inr (3, [.ref q8, .int 0, .int 0, .int 0])), (q8, .inl (c8, 656, .inl fun _ => 0))]) [0, 1] (by decide) rfl
  have hK9 := hK.sub (tys' := [(c8, .int)]) [0] rfl
  exact W.vret hx hb hr (fun t ht hW => ⟨⟨(), rfl, trivial, q8, c8, by rw [ht]; exact hP9, va_K.moved hW.alike hK9, hD9⟩, hS.F ht⟩) hS.2.2 dc_Hi_init_13
theorem dc_Rd_init_0 : decode cX5_init 0 = .ok (.aload_n 0, 1) := by decide +kernel
theorem dc_Rd_init_1 : decode cX5_init 1 = .ok (.invokespecial 3, 3) := by decide +kernel
theorem dc_Rd_init_4 : decode cX5_init 4 = .ok (.aload_n 0, 1) := by decide +kernel
theorem dc_Rd_init_5 : decode cX5_init 5 = .ok (.sipush 1600, 3) := by decide +kernel
theorem dc_Rd_init_8 : decode cX5_init 8 = .ok (.newarray .byte, 2) := by decide +kernel
theorem dc_Rd_init_10 : decode cX5_init 10 = .ok (.putfield 11, 3) := by decide +kernel
theorem dc_Rd_init_13 : decode cX5_init 13 = .ok (.aload_n 0, 1) := by decide +kernel
theorem dc_Rd_init_14 : decode cX5_init 14 = .ok (.iconst (-1), 1) := by decide +kernel
theorem dc_Rd_init_15 : decode cX5_init 15 = .ok (.putfield 15, 3) := by decide +kernel
theorem dc_Rd_init_18 : decode cX5_init 18 = .ok (.return_, 1) := by decide +kernel
theorem Rd_init_wg : ∀ w ∈ (Cond.code yX5_init cX5_init 1 none :: ax_tb), w ∈ ax_tb := List.forall_mem_cons.mpr ⟨(ax_m1 30 (by decide +kernel) rfl), fun _ h => h⟩
def Rd_init_B (dC : Nat → ClassId) (dI : Nat → Nat → Nat) (A : Nat → Prop) (h0 : Nat) : Unit → State → Prop := fun _ t => ∃ q8 : Nat, ∃ c8 : ClassId, va_P (dC, dI) vwCl [(h0, .inr (5, [.ref q8, .int 0, .int 0, .int (-1), .int 0, .int 0, .int 0, .long 0, .int 0, .int 0])), (q8, .inl (c8, 1600, .inl fun _ => 0))] t.heap ∧ va_K (dC, dI) vwCl [(c8, .byte)] t ∧ va_D A [(h0, .inr (5, [.ref q8, .int 0, .int 0, .int (-1), .int 0, .int 0, .int 0, .long 0, .int 0, .int 0])), (q8, .inl (c8, 1600, .inl fun _ => 0))]
set_option maxHeartbeats 1000000 in
set_option maxRecDepth 100000 in
theorem Rd_init_cn (l : Launch) (dC : Nat → ClassId) (dI : Nat → Nat → Nat) (h0 : Nat) (sz : Nat) : Met l yX5_init (Cond.code yX5_init cX5_init 1 none :: ax_tb) ({ frames := 1, cells := 1, slots := 1600, locals := 12 }) (va_Pc [.ref h0] (fun U => U.heap.size = sz ∧ va_P (dC, dI) vwCl [(h0, .inr (5, [.null, .int 0, .int 0, .int 0, .int 0, .int 0, .int 0, .long 0, .int 0, .int 0]))] U.heap ∧ va_K (dC, dI) vwCl [] U ∧ va_D (fun _ => True) [(h0, .inr (5, [.null, .int 0, .int 0, .int 0, .int 0, .int 0, .int 0, .long 0, .int 0, .int 0]))])) (va_Qv (fun _ : Unit => True) (Rd_init_B dC dI (va_A [(h0, .inr (5, [.null, .int 0, .int 0, .int 0, .int 0, .int 0, .int 0, .long 0, .int 0, .int 0]))] sz) h0) (va_A [(h0, .inr (5, [.null, .int 0, .int 0, .int 0, .int 0, .int 0, .int 0, .long 0, .int 0, .int 0]))] sz)) 1 1600 (va_A [(h0, .inr (5, [.null, .int 0, .int 0, .int 0, .int 0, .int 0, .int 0, .long 0, .int 0, .int 0]))] sz) := by
  refine Met.ofW (cc := cX5_init) (maxL := 1) (ret := none) (by decide) rfl ?_
  intro p e s m args below meth c s₁ B hml hv
  obtain ⟨rfl, hsz, hP, hK, hD0⟩ := hv
  have hx := B.exec
  have hb := B.bytes
  have hr := B.returns
  have hts0 := atoms_spec (ws := Cond.code yX5_init cX5_init 1 none :: ax_tb) B.pre
  have hts : ∀ w ∈ ax_tb, w.before _ s = true := fun w h => hts0 w (List.mem_cons_of_mem _ h)
  have hown : s.vm.findClass RX5 = some m.cls := findClass_of_methodNamed B.named
  have hlocks := B.notSynchronized
  have hin : meth.name = "<init>" := (name_of_methodNamed B.named B.method).1
  subst hsz
  have hD := hD0.self (sz := s.heap.size)
  generalize hAe : va_A [(h0, .inr (5, [.null, .int 0, .int 0, .int 0, .int 0, .int 0, .int 0, .long 0, .int 0, .int 0]))] s.heap.size = A at hD ⊢
  have hA : ∀ q : Nat, s.heap.size ≤ q → A q := fun q h => by rw [← hAe]; exact Or.inr h
  have hS : va_S A s.heap s.heap [] := va_S.rf
  have hP : va_P (dC, dI) vwCl [(h0, .inr (5, [.null, .int 0, .int 0, .int 0, .int 0, .int 0, .int 0, .long 0, .int 0, .int 0]))] s.heap := hP
  have hl := lv_entry ([.ref h0]) (n := 1) (Nat.le_of_ble_eq_true rfl)
  rw [lg_entry_eq]
  generalize (lg_sl ([.ref h0]) ++ List.replicate (1 - (lg_sl ([.ref h0])).length) Slot.unset).toArray = ls at hl ⊢
  have hl : lv_has ls 1 [(0, .ref h0)] := hl
  refine lv_aload_n hx hb dc_Rd_init_0 rfl (lv_at hl 0 rfl) ?_
  refine W.objInit hx hb hown (hts (.methodLink RX5 3 Lib.objectInit) (ax_m1 31 (by decide +kernel) rfl)) (hts (.instanceMethod Lib.objectInit) (ax_m1 24 (by decide +kernel) rfl)) (hts (.code Lib.objectInit ⟨#[0xb1]⟩ 1 none) (ax_m1 25 (by decide +kernel) rfl)) rfl (by rw [hml]; exact hl.1) rfl dc_Rd_init_1 (Nat.le_of_ble_eq_true rfl) (Nat.le_of_ble_eq_true rfl) ?_
  refine W.eq (g2 := F0 m 4 ls []) rfl ?_
  refine lv_aload_n hx hb dc_Rd_init_4 rfl (lv_at hl 0 rfl) ?_
  refine lv_sipush (v := 1600) hx hb dc_Rd_init_5 (by decide +kernel) ?_
  have k8_1 := hts (.arrayClass .byte) (ax_m1 66 (by decide +kernel) rfl)
  have k8_2 : ∀ cA : ClassId, vp_cell cA (1600, .inl fun _ => 0) = arrV cA 1600 (fun _ => defaultValue .byte) := fun _ => rfl
  have k8_3 : ¬ (1600 : Int32) < 0 := by decide +kernel
  have k8_4 : (1600 : Int32).toNatClampNeg = 1600 := by decide +kernel
  have k8_5 : 1600 * componentBytes .byte ≤ 536870912 := by decide +kernel
  have k8_6 : 0 + 1 ≤ 1 := by decide
  have k8_7 : 0 + 1600 ≤ 1600 := by decide +kernel
  refine va_newa (atype := .byte) (a0 := (1600, .inl fun _ => 0)) (ty := .byte) hx hb k8_1 rfl hK hP hD hS hA k8_2 k8_3 k8_4 k8_5 k8_6 k8_7 dc_Rd_init_8 (fun q8 c8 H hK hP hD hS => ?_)
  have hP : va_P (dC, dI) vwCl [(h0, .inr (5, [.null, .int 0, .int 0, .int 0, .int 0, .int 0, .int 0, .long 0, .int 0, .int 0])), (q8, .inl (c8, 1600, .inl fun _ => 0))] H := hP
  have hD : va_D A [(h0, .inr (5, [.null, .int 0, .int 0, .int 0, .int 0, .int 0, .int 0, .long 0, .int 0, .int 0])), (q8, .inl (c8, 1600, .inl fun _ => 0))] := hD
  have hK : va_K (dC, dI) vwCl [(c8, .byte)] s := hK
  refine W.widen (k := 1) (n := 1600) (by omega) (by omega) ?_
  refine va_putF (D := (dC, dI)) (ci := 5) (v := .ref q8) (ty := .array .byte) (C := RX5) (T := TX5) (N := 10) hx hb hts ax_inX5 tyX5 tyX5_ok nmX5 hown hK hP hD hS 0 rfl rfl 0 (by decide) (hts (.fieldLink RX5 11 "GreyHair$Reader" "tape" "[B") (ax_m1 32 (by decide +kernel) rfl)) (fun _ h9 => h9) rfl hin rfl (by decide +kernel) rfl rfl (Nat.le_of_ble_eq_true rfl) dc_Rd_init_10 (fun H locs hP hD hS => ?_)
  have hP : va_P (dC, dI) vwCl [(h0, .inr (5, [.ref q8, .int 0, .int 0, .int 0, .int 0, .int 0, .int 0, .long 0, .int 0, .int 0])), (q8, .inl (c8, 1600, .inl fun _ => 0))] H := hP
  have hD : va_D A [(h0, .inr (5, [.ref q8, .int 0, .int 0, .int 0, .int 0, .int 0, .int 0, .long 0, .int 0, .int 0])), (q8, .inl (c8, 1600, .inl fun _ => 0))] := hD
  refine lv_aload_n hx hb dc_Rd_init_13 rfl (lv_at hl 0 rfl) ?_
  refine lv_iconst (v := (-1)) hx hb dc_Rd_init_14 (by decide +kernel) ?_
  refine va_put (D := (dC, dI)) (ci := 5) (v := .int (-1)) (ty := .int) (C := RX5) (T := TX5) (N := 10) hx hb hts ax_inX5 tyX5 tyX5_ok nmX5 hown hK hP hD hS 0 rfl rfl 3 (by decide) (hts (.fieldLink RX5 15 "GreyHair$Reader" "place" "I") (ax_m1 37 (by decide +kernel) rfl)) (fun _ h9 => h9) rfl (by decide +kernel) rfl rfl (Nat.le_of_ble_eq_true rfl) dc_Rd_init_15 (fun H locs hP hD hS => ?_)
  have hP : va_P (dC, dI) vwCl [(h0, .inr (5, [.ref q8, .int 0, .int 0, .int (-1), .int 0, .int 0, .int 0, .long 0, .int 0, .int 0])), (q8, .inl (c8, 1600, .inl fun _ => 0))] H := hP
  have hD : va_D A [(h0, .inr (5, [.ref q8, .int 0, .int 0, .int (-1), .int 0, .int 0, .int 0, .long 0, .int 0, .int 0])), (q8, .inl (c8, 1600, .inl fun _ => 0))] := hD
  have hP9 := hP.sub (ws' := [(h0, .inr (5, [.ref q8, .int 0, .int 0, .int (-1), .int 0, .int 0, .int 0, .long 0, .int 0, .int 0])), (q8, .inl (c8, 1600, .inl fun _ => 0))]) [0, 1] rfl
  have hD9 := hD.sub (ws' := [(h0, .inr (5, [.ref q8, .int 0, .int 0, .int (-1), .int 0, .int 0, .int 0, .long 0, .int 0, .int 0])), (q8, .inl (c8, 1600, .inl fun _ => 0))]) [0, 1] (by decide) rfl
  have hK9 := hK.sub (tys' := [(c8, .byte)]) [0] rfl
  exact W.vret hx hb hr (fun t ht hW => ⟨⟨(), rfl, trivial, q8, c8, by rw [ht]; exact hP9, va_K.moved hW.alike hK9, hD9⟩, hS.F ht⟩) hS.2.2 dc_Rd_init_18
theorem dc_Fa_init_0 : decode cX1_init 0 = .ok (.aload_n 0, 1) := by decide +kernel
theorem dc_Fa_init_1 : decode cX1_init 1 = .ok (.invokespecial 3, 3) := by decide +kernel
theorem dc_Fa_init_4 : decode cX1_init 4 = .ok (.aload_n 0, 1) := by decide +kernel
theorem dc_Fa_init_5 : decode cX1_init 5 = .ok (.bipush 6, 2) := by decide +kernel
theorem dc_Fa_init_7 : decode cX1_init 7 = .ok (.newarray .long, 2) := by decide +kernel
theorem dc_Fa_init_9 : decode cX1_init 9 = .ok (.putfield 9, 3) := by decide +kernel
theorem dc_Fa_init_12 : decode cX1_init 12 = .ok (.aload_n 0, 1) := by decide +kernel
theorem dc_Fa_init_13 : decode cX1_init 13 = .ok (.bipush 6, 2) := by decide +kernel
theorem dc_Fa_init_15 : decode cX1_init 15 = .ok (.newarray .int, 2) := by decide +kernel
theorem dc_Fa_init_17 : decode cX1_init 17 = .ok (.putfield 15, 3) := by decide +kernel
theorem dc_Fa_init_20 : decode cX1_init 20 = .ok (.aload_n 0, 1) := by decide +kernel
theorem dc_Fa_init_21 : decode cX1_init 21 = .ok (.bipush 6, 2) := by decide +kernel
theorem dc_Fa_init_23 : decode cX1_init 23 = .ok (.newarray .int, 2) := by decide +kernel
theorem dc_Fa_init_25 : decode cX1_init 25 = .ok (.putfield 19, 3) := by decide +kernel
theorem dc_Fa_init_28 : decode cX1_init 28 = .ok (.aload_n 0, 1) := by decide +kernel
theorem dc_Fa_init_29 : decode cX1_init 29 = .ok (.bipush 6, 2) := by decide +kernel
theorem dc_Fa_init_31 : decode cX1_init 31 = .ok (.newarray .int, 2) := by decide +kernel
theorem dc_Fa_init_33 : decode cX1_init 33 = .ok (.putfield 22, 3) := by decide +kernel
theorem dc_Fa_init_36 : decode cX1_init 36 = .ok (.aload_n 0, 1) := by decide +kernel
theorem dc_Fa_init_37 : decode cX1_init 37 = .ok (.bipush 6, 2) := by decide +kernel
theorem dc_Fa_init_39 : decode cX1_init 39 = .ok (.newarray .int, 2) := by decide +kernel
theorem dc_Fa_init_41 : decode cX1_init 41 = .ok (.putfield 25, 3) := by decide +kernel
theorem dc_Fa_init_44 : decode cX1_init 44 = .ok (.aload_n 0, 1) := by decide +kernel
theorem dc_Fa_init_45 : decode cX1_init 45 = .ok (.bipush 6, 2) := by decide +kernel
theorem dc_Fa_init_47 : decode cX1_init 47 = .ok (.newarray .int, 2) := by decide +kernel
theorem dc_Fa_init_49 : decode cX1_init 49 = .ok (.putfield 28, 3) := by decide +kernel
theorem dc_Fa_init_52 : decode cX1_init 52 = .ok (.aload_n 0, 1) := by decide +kernel
theorem dc_Fa_init_53 : decode cX1_init 53 = .ok (.bipush 6, 2) := by decide +kernel
theorem dc_Fa_init_55 : decode cX1_init 55 = .ok (.newarray .int, 2) := by decide +kernel
theorem dc_Fa_init_57 : decode cX1_init 57 = .ok (.putfield 31, 3) := by decide +kernel
theorem dc_Fa_init_60 : decode cX1_init 60 = .ok (.aload_n 0, 1) := by decide +kernel
theorem dc_Fa_init_61 : decode cX1_init 61 = .ok (.new 34, 3) := by decide +kernel
theorem dc_Fa_init_64 : decode cX1_init 64 = .ok (.dup, 1) := by decide +kernel
theorem dc_Fa_init_65 : decode cX1_init 65 = .ok (.invokespecial 36, 3) := by decide +kernel
theorem dc_Fa_init_68 : decode cX1_init 68 = .ok (.putfield 37, 3) := by decide +kernel
theorem dc_Fa_init_71 : decode cX1_init 71 = .ok (.aload_n 0, 1) := by decide +kernel
theorem dc_Fa_init_72 : decode cX1_init 72 = .ok (.new 34, 3) := by decide +kernel
theorem dc_Fa_init_75 : decode cX1_init 75 = .ok (.dup, 1) := by decide +kernel
theorem dc_Fa_init_76 : decode cX1_init 76 = .ok (.invokespecial 36, 3) := by decide +kernel
theorem dc_Fa_init_79 : decode cX1_init 79 = .ok (.putfield 41, 3) := by decide +kernel
theorem dc_Fa_init_82 : decode cX1_init 82 = .ok (.aload_n 0, 1) := by decide +kernel
theorem dc_Fa_init_83 : decode cX1_init 83 = .ok (.iconst 1, 1) := by decide +kernel
theorem dc_Fa_init_84 : decode cX1_init 84 = .ok (.putfield 44, 3) := by decide +kernel
theorem dc_Fa_init_87 : decode cX1_init 87 = .ok (.return_, 1) := by decide +kernel
theorem Fa_init_wg : ∀ w ∈ (Cond.code yX1_init cX1_init 1 none :: ax_tb), w ∈ ax_tb := List.forall_mem_cons.mpr ⟨(ax_m1 230 (by decide +kernel) rfl), fun _ h => h⟩
def Fa_init_B (dC : Nat → ClassId) (dI : Nat → Nat → Nat) (A : Nat → Prop) (h0 : Nat) : Unit → State → Prop := fun _ t => ∃ q7 : Nat, ∃ c7 : ClassId, ∃ q15 : Nat, ∃ c15 : ClassId, ∃ q23 : Nat, ∃ c23 : ClassId, ∃ q31 : Nat, ∃ c31 : ClassId, ∃ q39 : Nat, ∃ c39 : ClassId, ∃ q47 : Nat, ∃ c47 : ClassId, ∃ q55 : Nat, ∃ c55 : ClassId, ∃ q61 : Nat, ∃ q8_61 : Nat, ∃ c8_61 : ClassId, ∃ q15_61 : Nat, ∃ c15_61 : ClassId, ∃ q23_61 : Nat, ∃ c23_61 : ClassId, ∃ q72 : Nat, ∃ q8_72 : Nat, ∃ c8_72 : ClassId, ∃ q15_72 : Nat, ∃ c15_72 : ClassId, ∃ q23_72 : Nat, ∃ c23_72 : ClassId, va_P (dC, dI) vwCl [(h0, .inr (1, [.ref q7, .ref q15, .ref q23, .ref q31, .ref q39, .ref q47, .ref q55, .ref q61, .ref q72, .int 0, .int 0, .int 0, .int 1, .int 0, .int 0, .int 0, .int 0])), (q7, .inl (c7, 6, .inr (.inl fun _ => 0))), (q15, .inl (c15, 6, .inl fun _ => 0)), (q23, .inl (c23, 6, .inl fun _ => 0)), (q31, .inl (c31, 6, .inl fun _ => 0)), (q39, .inl (c39, 6, .inl fun _ => 0)), (q47, .inl (c47, 6, .inl fun _ => 0)), (q55, .inl (c55, 6, .inl fun _ => 0)), (q61, .inr (2, [.ref q8_61, .ref q15_61, .ref q23_61, .int 0, .int 0, .int 0])), (q8_61, .inl (c8_61, 280, .inl fun _ => 0)), (q15_61, .inl (c15_61, 5, .inl fun _ => 0)), (q23_61, .inl (c23_61, 30, .inl fun _ => 0)), (q72, .inr (2, [.ref q8_72, .ref q15_72, .ref q23_72, .int 0, .int 0, .int 0])), (q8_72, .inl (c8_72, 280, .inl fun _ => 0)), (q15_72, .inl (c15_72, 5, .inl fun _ => 0)), (q23_72, .inl (c23_72, 30, .inl fun _ => 0))] t.heap ∧ va_K (dC, dI) vwCl [(c7, .long), (c15, .int), (c23, .int), (c31, .int), (c39, .int), (c47, .int), (c55, .int), (c8_61, .int), (c15_61, .int), (c23_61, .int), (c8_72, .int), (c15_72, .int), (c23_72, .int)] t ∧ va_D A [(h0, .inr (1, [.ref q7, .ref q15, .ref q23, .ref q31, .ref q39, .ref q47, .ref q55, .ref q61, .ref q72, .int 0, .int 0, .int 0, .int 1, .int 0, .int 0, .int 0, .int 0])), (q7, .inl (c7, 6, .inr (.inl fun _ => 0))), (q15, .inl (c15, 6, .inl fun _ => 0)), (q23, .inl (c23, 6, .inl fun _ => 0)), (q31, .inl (c31, 6, .inl fun _ => 0)), (q39, .inl (c39, 6, .inl fun _ => 0)), (q47, .inl (c47, 6, .inl fun _ => 0)), (q55, .inl (c55, 6, .inl fun _ => 0)), (q61, .inr (2, [.ref q8_61, .ref q15_61, .ref q23_61, .int 0, .int 0, .int 0])), (q8_61, .inl (c8_61, 280, .inl fun _ => 0)), (q15_61, .inl (c15_61, 5, .inl fun _ => 0)), (q23_61, .inl (c23_61, 30, .inl fun _ => 0)), (q72, .inr (2, [.ref q8_72, .ref q15_72, .ref q23_72, .int 0, .int 0, .int 0])), (q8_72, .inl (c8_72, 280, .inl fun _ => 0)), (q15_72, .inl (c15_72, 5, .inl fun _ => 0)), (q23_72, .inl (c23_72, 30, .inl fun _ => 0))]
set_option maxHeartbeats 1000000 in
set_option maxRecDepth 100000 in
theorem Fa_init_cn (l : Launch) (dC : Nat → ClassId) (dI : Nat → Nat → Nat) (h0 : Nat) (sz : Nat) : Met l yX1_init (Cond.code yX1_init cX1_init 1 none :: ax_tb) ({ frames := 2, cells := 15, slots := 684, locals := 32 }) (va_Pc [.ref h0] (fun U => U.heap.size = sz ∧ va_P (dC, dI) vwCl [(h0, .inr (1, [.null, .null, .null, .null, .null, .null, .null, .null, .null, .int 0, .int 0, .int 0, .int 0, .int 0, .int 0, .int 0, .int 0]))] U.heap ∧ va_K (dC, dI) vwCl [] U ∧ va_D (fun _ => True) [(h0, .inr (1, [.null, .null, .null, .null, .null, .null, .null, .null, .null, .int 0, .int 0, .int 0, .int 0, .int 0, .int 0, .int 0, .int 0]))] ∧ va_Nw (.methodLinkNest RX1 36 yX2_init "GreyHair") U)) (va_Qv (fun _ : Unit => True) (Fa_init_B dC dI (va_A [(h0, .inr (1, [.null, .null, .null, .null, .null, .null, .null, .null, .null, .int 0, .int 0, .int 0, .int 0, .int 0, .int 0, .int 0, .int 0]))] sz) h0) (va_A [(h0, .inr (1, [.null, .null, .null, .null, .null, .null, .null, .null, .null, .int 0, .int 0, .int 0, .int 0, .int 0, .int 0, .int 0, .int 0]))] sz)) 15 684 (va_A [(h0, .inr (1, [.null, .null, .null, .null, .null, .null, .null, .null, .null, .int 0, .int 0, .int 0, .int 0, .int 0, .int 0, .int 0, .int 0]))] sz) := by
  refine Met.ofW (cc := cX1_init) (maxL := 1) (ret := none) (by decide) rfl ?_
  intro p e s m args below meth c s₁ B hml hv
  obtain ⟨rfl, hsz, hP, hK, hD0, hN0⟩ := hv
  have hx := B.exec
  have hb := B.bytes
  have hr := B.returns
  have hts0 := atoms_spec (ws := Cond.code yX1_init cX1_init 1 none :: ax_tb) B.pre
  have hts : ∀ w ∈ ax_tb, w.before _ s = true := fun w h => hts0 w (List.mem_cons_of_mem _ h)
  have hown : s.vm.findClass RX1 = some m.cls := findClass_of_methodNamed B.named
  have hlocks := B.notSynchronized
  have hin : meth.name = "<init>" := (name_of_methodNamed B.named B.method).1
  subst hsz
  have hD := hD0.self (sz := s.heap.size)
  generalize hAe : va_A [(h0, .inr (1, [.null, .null, .null, .null, .null, .null, .null, .null, .null, .int 0, .int 0, .int 0, .int 0, .int 0, .int 0, .int 0, .int 0]))] s.heap.size = A at hD ⊢
  have hA : ∀ q : Nat, s.heap.size ≤ q → A q := fun q h => by rw [← hAe]; exact Or.inr h
  have hS : va_S A s.heap s.heap [] := va_S.rf
  have hP : va_P (dC, dI) vwCl [(h0, .inr (1, [.null, .null, .null, .null, .null, .null, .null, .null, .null, .int 0, .int 0, .int 0, .int 0, .int 0, .int 0, .int 0, .int 0]))] s.heap := hP
  have hl := lv_entry ([.ref h0]) (n := 1) (Nat.le_of_ble_eq_true rfl)
  rw [lg_entry_eq]
  generalize (lg_sl ([.ref h0]) ++ List.replicate (1 - (lg_sl ([.ref h0])).length) Slot.unset).toArray = ls at hl ⊢
  have hl : lv_has ls 1 [(0, .ref h0)] := hl
  refine lv_aload_n hx hb dc_Fa_init_0 rfl (lv_at hl 0 rfl) ?_
  refine W.objInit hx hb hown (hts (.methodLink RX1 3 Lib.objectInit) (ax_m1 231 (by decide +kernel) rfl)) (hts (.instanceMethod Lib.objectInit) (ax_m1 24 (by decide +kernel) rfl)) (hts (.code Lib.objectInit ⟨#[0xb1]⟩ 1 none) (ax_m1 25 (by decide +kernel) rfl)) rfl (by rw [hml]; exact hl.1) rfl dc_Fa_init_1 (Nat.le_of_ble_eq_true rfl) (Nat.le_of_ble_eq_true rfl) ?_
  refine W.eq (g2 := F0 m 4 ls []) rfl ?_
  refine lv_aload_n hx hb dc_Fa_init_4 rfl (lv_at hl 0 rfl) ?_
  refine lv_bipush (v := 6) hx hb dc_Fa_init_5 (by decide +kernel) ?_
  have k7_1 := hts (.arrayClass .long) (ax_m2 20 (by decide +kernel) rfl)
  have k7_2 : ∀ cA : ClassId, vp_cell cA (6, .inr (.inl fun _ => 0)) = arrV cA 6 (fun _ => defaultValue .long) := fun _ => rfl
  have k7_3 : ¬ (6 : Int32) < 0 := by decide +kernel
  have k7_4 : (6 : Int32).toNatClampNeg = 6 := by decide +kernel
  have k7_5 : 6 * componentBytes .long ≤ 536870912 := by decide +kernel
  have k7_6 : 0 + 1 ≤ 15 := by decide
  have k7_7 : 0 + 6 ≤ 684 := by decide +kernel
  refine va_newa (atype := .long) (a0 := (6, .inr (.inl fun _ => 0))) (ty := .long) hx hb k7_1 rfl hK hP hD hS hA k7_2 k7_3 k7_4 k7_5 k7_6 k7_7 dc_Fa_init_7 (fun q7 c7 H hK hP hD hS => ?_)
  have hP : va_P (dC, dI) vwCl [(h0, .inr (1, [.null, .null, .null, .null, .null, .null, .null, .null, .null, .int 0, .int 0, .int 0, .int 0, .int 0, .int 0, .int 0, .int 0])), (q7, .inl (c7, 6, .inr (.inl fun _ => 0)))] H := hP
  have hD : va_D A [(h0, .inr (1, [.null, .null, .null, .null, .null, .null, .null, .null, .null, .int 0, .int 0, .int 0, .int 0, .int 0, .int 0, .int 0, .int 0])), (q7, .inl (c7, 6, .inr (.inl fun _ => 0)))] := hD
  have hK : va_K (dC, dI) vwCl [(c7, .long)] s := hK
  refine W.widen (k := 1) (n := 6) (by omega) (by omega) ?_
  refine va_putF (D := (dC, dI)) (ci := 1) (v := .ref q7) (ty := .array .long) (C := RX1) (T := TX1) (N := 17) hx hb hts ax_inX1 tyX1 tyX1_ok nmX1 hown hK hP hD hS 0 rfl rfl 0 (by decide) (hts (.fieldLink RX1 9 "GreyHair$Family" "names" "[J") (ax_m2 21 (by decide +kernel) rfl)) (fun _ h9 => h9) rfl hin rfl (by decide +kernel) rfl rfl (Nat.le_of_ble_eq_true rfl) dc_Fa_init_9 (fun H locs hP hD hS => ?_)
  have hP : va_P (dC, dI) vwCl [(h0, .inr (1, [.ref q7, .null, .null, .null, .null, .null, .null, .null, .null, .int 0, .int 0, .int 0, .int 0, .int 0, .int 0, .int 0, .int 0])), (q7, .inl (c7, 6, .inr (.inl fun _ => 0)))] H := hP
  have hD : va_D A [(h0, .inr (1, [.ref q7, .null, .null, .null, .null, .null, .null, .null, .null, .int 0, .int 0, .int 0, .int 0, .int 0, .int 0, .int 0, .int 0])), (q7, .inl (c7, 6, .inr (.inl fun _ => 0)))] := hD
  refine lv_aload_n hx hb dc_Fa_init_12 rfl (lv_at hl 0 rfl) ?_
  refine lv_bipush (v := 6) hx hb dc_Fa_init_13 (by decide +kernel) ?_
  have k15_1 := hts (.arrayClass .int) (ax_m1 115 (by decide +kernel) rfl)
  have k15_2 : ∀ cA : ClassId, vp_cell cA (6, .inl fun _ => 0) = arrV cA 6 (fun _ => defaultValue .int) := fun _ => rfl
  have k15_3 : ¬ (6 : Int32) < 0 := by decide +kernel
  have k15_4 : (6 : Int32).toNatClampNeg = 6 := by decide +kernel
  have k15_5 : 6 * componentBytes .int ≤ 536870912 := by decide +kernel
  have k15_6 : 1 + 1 ≤ 15 := by decide
  have k15_7 : 6 + 6 ≤ 684 := by decide +kernel
  refine va_newa (atype := .int) (a0 := (6, .inl fun _ => 0)) (ty := .int) hx hb k15_1 rfl hK hP hD hS hA k15_2 k15_3 k15_4 k15_5 k15_6 k15_7 dc_Fa_init_15 (fun q15 c15 H hK hP hD hS => ?_)
  have hP : va_P (dC, dI) vwCl [(h0, .inr (1, [.ref q7, .null, .null, .null, .null, .null, .null, .null, .null, .int 0, .int 0, .int 0, .int 0, .int 0, .int 0, .int 0, .int 0])), (q7, .inl (c7, 6, .inr (.inl fun _ => 0))), (q15, .inl (c15, 6, .inl fun _ => 0))] H := hP
  have hD : va_D A [(h0, .inr (1, [.ref q7, .null, .null, .null, .null, .null, .null, .null, .null, .int 0, .int 0, .int 0, .int 0, .int 0, .int 0, .int 0, .int 0])), (q7, .inl (c7, 6, .inr (.inl fun _ => 0))), (q15, .inl (c15, 6, .inl fun _ => 0))] := hD
  have hK : va_K (dC, dI) vwCl [(c7, .long), (c15, .int)] s := hK
  refine W.widen (k := 2) (n := 12) (by omega) (by omega) ?_
  refine va_putF (D := (dC, dI)) (ci := 1) (v := .ref q15) (ty := .array .int) (C := RX1) (T := TX1) (N := 17) hx hb hts ax_inX1 tyX1 tyX1_ok nmX1 hown hK hP hD hS 0 rfl rfl 1 (by decide) (hts (.fieldLink RX1 15 "GreyHair$Family" "houses" "[I") (ax_m2 23 (by decide +kernel) rfl)) (fun _ h9 => h9) rfl hin rfl (by decide +kernel) rfl rfl (Nat.le_of_ble_eq_true rfl) dc_Fa_init_17 (fun H locs hP hD hS => ?_)
  have hP : va_P (dC, dI) vwCl [(h0, .inr (1, [.ref q7, .ref q15, .null, .null, .null, .null, .null, .null, .null, .int 0, .int 0, .int 0, .int 0, .int 0, .int 0, .int 0, .int 0])), (q7, .inl (c7, 6, .inr (.inl fun _ => 0))), (q15, .inl (c15, 6, .inl fun _ => 0))] H := hP
  have hD : va_D A [(h0, .inr (1, [.ref q7, .ref q15, .null, .null, .null, .null, .null, .null, .null, .int 0, .int 0, .int 0, .int 0, .int 0, .int 0, .int 0, .int 0])), (q7, .inl (c7, 6, .inr (.inl fun _ => 0))), (q15, .inl (c15, 6, .inl fun _ => 0))] := hD
  refine lv_aload_n hx hb dc_Fa_init_20 rfl (lv_at hl 0 rfl) ?_
  refine lv_bipush (v := 6) hx hb dc_Fa_init_21 (by decide +kernel) ?_
  have k23_1 := hts (.arrayClass .int) (ax_m1 115 (by decide +kernel) rfl)
  have k23_2 : ∀ cA : ClassId, vp_cell cA (6, .inl fun _ => 0) = arrV cA 6 (fun _ => defaultValue .int) := fun _ => rfl
  have k23_3 : ¬ (6 : Int32) < 0 := by decide +kernel
  have k23_4 : (6 : Int32).toNatClampNeg = 6 := by decide +kernel
  have k23_5 : 6 * componentBytes .int ≤ 536870912 := by decide +kernel
  have k23_6 : 2 + 1 ≤ 15 := by decide
  have k23_7 : 12 + 6 ≤ 684 := by decide +kernel
  refine va_newa (atype := .int) (a0 := (6, .inl fun _ => 0)) (ty := .int) hx hb k23_1 rfl hK hP hD hS hA k23_2 k23_3 k23_4 k23_5 k23_6 k23_7 dc_Fa_init_23 (fun q23 c23 H hK hP hD hS => ?_)
  have hP : va_P (dC, dI) vwCl [(h0, .inr (1, [.ref q7, .ref q15, .null, .null, .null, .null, .null, .null, .null, .int 0, .int 0, .int 0, .int 0, .int 0, .int 0, .int 0, .int 0])), (q7, .inl (c7, 6, .inr (.inl fun _ => 0))), (q15, .inl (c15, 6, .inl fun _ => 0)), (q23, .inl (c23, 6, .inl fun _ => 0))] H := hP
  have hD : va_D A [(h0, .inr (1, [.ref q7, .ref q15, .null, .null, .null, .null, .null, .null, .null, .int 0, .int 0, .int 0, .int 0, .int 0, .int 0, .int 0, .int 0])), (q7, .inl (c7, 6, .inr (.inl fun _ => 0))), (q15, .inl (c15, 6, .inl fun _ => 0)), (q23, .inl (c23, 6, .inl fun _ => 0))] := hD
  have hK : va_K (dC, dI) vwCl [(c7, .long), (c15, .int), (c23, .int)] s := hK
  refine W.widen (k := 3) (n := 18) (by omega) (by omega) ?_
  refine va_putF (D := (dC, dI)) (ci := 1) (v := .ref q23) (ty := .array .int) (C := RX1) (T := TX1) (N := 17) hx hb hts ax_inX1 tyX1 tyX1_ok nmX1 hown hK hP hD hS 0 rfl rfl 2 (by decide) (hts (.fieldLink RX1 19 "GreyHair$Family" "firstCares" "[I") (ax_m2 27 (by decide +kernel) rfl)) (fun _ h9 => h9) rfl hin rfl (by decide +kernel) rfl rfl (Nat.le_of_ble_eq_true rfl) dc_Fa_init_25 (fun H locs hP hD hS => ?_)
  have hP : va_P (dC, dI) vwCl [(h0, .inr (1, [.ref q7, .ref q15, .ref q23, .null, .null, .null, .null, .null, .null, .int 0, .int 0, .int 0, .int 0, .int 0, .int 0, .int 0, .int 0])), (q7, .inl (c7, 6, .inr (.inl fun _ => 0))), (q15, .inl (c15, 6, .inl fun _ => 0)), (q23, .inl (c23, 6, .inl fun _ => 0))] H := hP
  have hD : va_D A [(h0, .inr (1, [.ref q7, .ref q15, .ref q23, .null, .null, .null, .null, .null, .null, .int 0, .int 0, .int 0, .int 0, .int 0, .int 0, .int 0, .int 0])), (q7, .inl (c7, 6, .inr (.inl fun _ => 0))), (q15, .inl (c15, 6, .inl fun _ => 0)), (q23, .inl (c23, 6, .inl fun _ => 0))] := hD
  refine lv_aload_n hx hb dc_Fa_init_28 rfl (lv_at hl 0 rfl) ?_
  refine lv_bipush (v := 6) hx hb dc_Fa_init_29 (by decide +kernel) ?_
  have k31_1 := hts (.arrayClass .int) (ax_m1 115 (by decide +kernel) rfl)
  have k31_2 : ∀ cA : ClassId, vp_cell cA (6, .inl fun _ => 0) = arrV cA 6 (fun _ => defaultValue .int) := fun _ => rfl
  have k31_3 : ¬ (6 : Int32) < 0 := by decide +kernel
  have k31_4 : (6 : Int32).toNatClampNeg = 6 := by decide +kernel
  have k31_5 : 6 * componentBytes .int ≤ 536870912 := by decide +kernel
  have k31_6 : 3 + 1 ≤ 15 := by decide
  have k31_7 : 18 + 6 ≤ 684 := by decide +kernel
  refine va_newa (atype := .int) (a0 := (6, .inl fun _ => 0)) (ty := .int) hx hb k31_1 rfl hK hP hD hS hA k31_2 k31_3 k31_4 k31_5 k31_6 k31_7 dc_Fa_init_31 (fun q31 c31 H hK hP hD hS => ?_)
  have hP : va_P (dC, dI) vwCl [(h0, .inr (1, [.ref q7, .ref q15, .ref q23, .null, .null, .null, .null, .null, .null, .int 0, .int 0, .int 0, .int 0, .int 0, .int 0, .int 0, .int 0])), (q7, .inl (c7, 6, .inr (.inl fun _ => 0))), (q15, .inl (c15, 6, .inl fun _ => 0)), (q23, .inl (c23, 6, .inl fun _ => 0)), (q31, .inl (c31, 6, .inl fun _ => 0))] H := hP
  have hD : va_D A [(h0, .inr (1, [.ref q7, .ref q15, .ref q23, .null, .null, .null, .null, .null, .null, .int 0, .int 0, .int 0, .int 0, .int 0, .int 0, .int 0, .int 0])), (q7, .inl (c7, 6, .inr (.inl fun _ => 0))), (q15, .inl (c15, 6, .inl fun _ => 0)), (q23, .inl (c23, 6, .inl fun _ => 0)), (q31, .inl (c31, 6, .inl fun _ => 0))] := hD
  have hK : va_K (dC, dI) vwCl [(c7, .long), (c15, .int), (c23, .int), (c31, .int)] s := hK
  refine W.widen (k := 4) (n := 24) (by omega) (by omega) ?_
  refine va_putF (D := (dC, dI)) (ci := 1) (v := .ref q31) (ty := .array .int) (C := RX1) (T := TX1) (N := 17) hx hb hts ax_inX1 tyX1 tyX1_ok nmX1 hown hK hP hD hS 0 rfl rfl 3 (by decide) (hts (.fieldLink RX1 22 "GreyHair$Family" "firstKnows" "[I") (ax_m2 29 (by decide +kernel) rfl)) (fun _ h9 => h9) rfl hin rfl (by decide +kernel) rfl rfl (Nat.le_of_ble_eq_true rfl) dc_Fa_init_33 (fun H locs hP hD hS => ?_)
  have hP : va_P (dC, dI) vwCl [(h0, .inr (1, [.ref q7, .ref q15, .ref q23, .ref q31, .null, .null, .null, .null, .null, .int 0, .int 0, .int 0, .int 0, .int 0, .int 0, .int 0, .int 0])), (q7, .inl (c7, 6, .inr (.inl fun _ => 0))), (q15, .inl (c15, 6, .inl fun _ => 0)), (q23, .inl (c23, 6, .inl fun _ => 0)), (q31, .inl (c31, 6, .inl fun _ => 0))] H := hP
  have hD : va_D A [(h0, .inr (1, [.ref q7, .ref q15, .ref q23, .ref q31, .null, .null, .null, .null, .null, .int 0, .int 0, .int 0, .int 0, .int 0, .int 0, .int 0, .int 0])), (q7, .inl (c7, 6, .inr (.inl fun _ => 0))), (q15, .inl (c15, 6, .inl fun _ => 0)), (q23, .inl (c23, 6, .inl fun _ => 0)), (q31, .inl (c31, 6, .inl fun _ => 0))] := hD
  refine lv_aload_n hx hb dc_Fa_init_36 rfl (lv_at hl 0 rfl) ?_
  refine lv_bipush (v := 6) hx hb dc_Fa_init_37 (by decide +kernel) ?_
  have k39_1 := hts (.arrayClass .int) (ax_m1 115 (by decide +kernel) rfl)
  have k39_2 : ∀ cA : ClassId, vp_cell cA (6, .inl fun _ => 0) = arrV cA 6 (fun _ => defaultValue .int) := fun _ => rfl
  have k39_3 : ¬ (6 : Int32) < 0 := by decide +kernel
  have k39_4 : (6 : Int32).toNatClampNeg = 6 := by decide +kernel
  have k39_5 : 6 * componentBytes .int ≤ 536870912 := by decide +kernel
  have k39_6 : 4 + 1 ≤ 15 := by decide
  have k39_7 : 24 + 6 ≤ 684 := by decide +kernel
  refine va_newa (atype := .int) (a0 := (6, .inl fun _ => 0)) (ty := .int) hx hb k39_1 rfl hK hP hD hS hA k39_2 k39_3 k39_4 k39_5 k39_6 k39_7 dc_Fa_init_39 (fun q39 c39 H hK hP hD hS => ?_)
  have hP : va_P (dC, dI) vwCl [(h0, .inr (1, [.ref q7, .ref q15, .ref q23, .ref q31, .null, .null, .null, .null, .null, .int 0, .int 0, .int 0, .int 0, .int 0, .int 0, .int 0, .int 0])), (q7, .inl (c7, 6, .inr (.inl fun _ => 0))), (q15, .inl (c15, 6, .inl fun _ => 0)), (q23, .inl (c23, 6, .inl fun _ => 0)), (q31, .inl (c31, 6, .inl fun _ => 0)), (q39, .inl (c39, 6, .inl fun _ => 0))] H := hP
  have hD : va_D A [(h0, .inr (1, [.ref q7, .ref q15, .ref q23, .ref q31, .null, .null, .null, .null, .null, .int 0, .int 0, .int 0, .int 0, .int 0, .int 0, .int 0, .int 0])), (q7, .inl (c7, 6, .inr (.inl fun _ => 0))), (q15, .inl (c15, 6, .inl fun _ => 0)), (q23, .inl (c23, 6, .inl fun _ => 0)), (q31, .inl (c31, 6, .inl fun _ => 0)), (q39, .inl (c39, 6, .inl fun _ => 0))] := hD
  have hK : va_K (dC, dI) vwCl [(c7, .long), (c15, .int), (c23, .int), (c31, .int), (c39, .int)] s := hK
  refine W.widen (k := 5) (n := 30) (by omega) (by omega) ?_
  refine va_putF (D := (dC, dI)) (ci := 1) (v := .ref q39) (ty := .array .int) (C := RX1) (T := TX1) (N := 17) hx hb hts ax_inX1 tyX1 tyX1_ok nmX1 hown hK hP hD hS 0 rfl rfl 4 (by decide) (hts (.fieldLink RX1 25 "GreyHair$Family" "chances" "[I") (ax_m2 31 (by decide +kernel) rfl)) (fun _ h9 => h9) rfl hin rfl (by decide +kernel) rfl rfl (Nat.le_of_ble_eq_true rfl) dc_Fa_init_41 (fun H locs hP hD hS => ?_)
  have hP : va_P (dC, dI) vwCl [(h0, .inr (1, [.ref q7, .ref q15, .ref q23, .ref q31, .ref q39, .null, .null, .null, .null, .int 0, .int 0, .int 0, .int 0, .int 0, .int 0, .int 0, .int 0])), (q7, .inl (c7, 6, .inr (.inl fun _ => 0))), (q15, .inl (c15, 6, .inl fun _ => 0)), (q23, .inl (c23, 6, .inl fun _ => 0)), (q31, .inl (c31, 6, .inl fun _ => 0)), (q39, .inl (c39, 6, .inl fun _ => 0))] H := hP
  have hD : va_D A [(h0, .inr (1, [.ref q7, .ref q15, .ref q23, .ref q31, .ref q39, .null, .null, .null, .null, .int 0, .int 0, .int 0, .int 0, .int 0, .int 0, .int 0, .int 0])), (q7, .inl (c7, 6, .inr (.inl fun _ => 0))), (q15, .inl (c15, 6, .inl fun _ => 0)), (q23, .inl (c23, 6, .inl fun _ => 0)), (q31, .inl (c31, 6, .inl fun _ => 0)), (q39, .inl (c39, 6, .inl fun _ => 0))] := hD
  refine lv_aload_n hx hb dc_Fa_init_44 rfl (lv_at hl 0 rfl) ?_
  refine lv_bipush (v := 6) hx hb dc_Fa_init_45 (by decide +kernel) ?_
  have k47_1 := hts (.arrayClass .int) (ax_m1 115 (by decide +kernel) rfl)
  have k47_2 : ∀ cA : ClassId, vp_cell cA (6, .inl fun _ => 0) = arrV cA 6 (fun _ => defaultValue .int) := fun _ => rfl
  have k47_3 : ¬ (6 : Int32) < 0 := by decide +kernel
  have k47_4 : (6 : Int32).toNatClampNeg = 6 := by decide +kernel
  have k47_5 : 6 * componentBytes .int ≤ 536870912 := by decide +kernel
  have k47_6 : 5 + 1 ≤ 15 := by decide
  have k47_7 : 30 + 6 ≤ 684 := by decide +kernel
  refine va_newa (atype := .int) (a0 := (6, .inl fun _ => 0)) (ty := .int) hx hb k47_1 rfl hK hP hD hS hA k47_2 k47_3 k47_4 k47_5 k47_6 k47_7 dc_Fa_init_47 (fun q47 c47 H hK hP hD hS => ?_)
  have hP : va_P (dC, dI) vwCl [(h0, .inr (1, [.ref q7, .ref q15, .ref q23, .ref q31, .ref q39, .null, .null, .null, .null, .int 0, .int 0, .int 0, .int 0, .int 0, .int 0, .int 0, .int 0])), (q7, .inl (c7, 6, .inr (.inl fun _ => 0))), (q15, .inl (c15, 6, .inl fun _ => 0)), (q23, .inl (c23, 6, .inl fun _ => 0)), (q31, .inl (c31, 6, .inl fun _ => 0)), (q39, .inl (c39, 6, .inl fun _ => 0)), (q47, .inl (c47, 6, .inl fun _ => 0))] H := hP
  have hD : va_D A [(h0, .inr (1, [.ref q7, .ref q15, .ref q23, .ref q31, .ref q39, .null, .null, .null, .null, .int 0, .int 0, .int 0, .int 0, .int 0, .int 0, .int 0, .int 0])), (q7, .inl (c7, 6, .inr (.inl fun _ => 0))), (q15, .inl (c15, 6, .inl fun _ => 0)), (q23, .inl (c23, 6, .inl fun _ => 0)), (q31, .inl (c31, 6, .inl fun _ => 0)), (q39, .inl (c39, 6, .inl fun _ => 0)), (q47, .inl (c47, 6, .inl fun _ => 0))] := hD
  have hK : va_K (dC, dI) vwCl [(c7, .long), (c15, .int), (c23, .int), (c31, .int), (c39, .int), (c47, .int)] s := hK
  refine W.widen (k := 6) (n := 36) (by omega) (by omega) ?_
  refine va_putF (D := (dC, dI)) (ci := 1) (v := .ref q47) (ty := .array .int) (C := RX1) (T := TX1) (N := 17) hx hb hts ax_inX1 tyX1 tyX1_ok nmX1 hown hK hP hD hS 0 rfl rfl 5 (by decide) (hts (.fieldLink RX1 28 "GreyHair$Family" "amounts" "[I") (ax_m2 35 (by decide +kernel) rfl)) (fun _ h9 => h9) rfl hin rfl (by decide +kernel) rfl rfl (Nat.le_of_ble_eq_true rfl) dc_Fa_init_49 (fun H locs hP hD hS => ?_)
  have hP : va_P (dC, dI) vwCl [(h0, .inr (1, [.ref q7, .ref q15, .ref q23, .ref q31, .ref q39, .ref q47, .null, .null, .null, .int 0, .int 0, .int 0, .int 0, .int 0, .int 0, .int 0, .int 0])), (q7, .inl (c7, 6, .inr (.inl fun _ => 0))), (q15, .inl (c15, 6, .inl fun _ => 0)), (q23, .inl (c23, 6, .inl fun _ => 0)), (q31, .inl (c31, 6, .inl fun _ => 0)), (q39, .inl (c39, 6, .inl fun _ => 0)), (q47, .inl (c47, 6, .inl fun _ => 0))] H := hP
  have hD : va_D A [(h0, .inr (1, [.ref q7, .ref q15, .ref q23, .ref q31, .ref q39, .ref q47, .null, .null, .null, .int 0, .int 0, .int 0, .int 0, .int 0, .int 0, .int 0, .int 0])), (q7, .inl (c7, 6, .inr (.inl fun _ => 0))), (q15, .inl (c15, 6, .inl fun _ => 0)), (q23, .inl (c23, 6, .inl fun _ => 0)), (q31, .inl (c31, 6, .inl fun _ => 0)), (q39, .inl (c39, 6, .inl fun _ => 0)), (q47, .inl (c47, 6, .inl fun _ => 0))] := hD
  refine lv_aload_n hx hb dc_Fa_init_52 rfl (lv_at hl 0 rfl) ?_
  refine lv_bipush (v := 6) hx hb dc_Fa_init_53 (by decide +kernel) ?_
  have k55_1 := hts (.arrayClass .int) (ax_m1 115 (by decide +kernel) rfl)
  have k55_2 : ∀ cA : ClassId, vp_cell cA (6, .inl fun _ => 0) = arrV cA 6 (fun _ => defaultValue .int) := fun _ => rfl
  have k55_3 : ¬ (6 : Int32) < 0 := by decide +kernel
  have k55_4 : (6 : Int32).toNatClampNeg = 6 := by decide +kernel
  have k55_5 : 6 * componentBytes .int ≤ 536870912 := by decide +kernel
  have k55_6 : 6 + 1 ≤ 15 := by decide
  have k55_7 : 36 + 6 ≤ 684 := by decide +kernel
  refine va_newa (atype := .int) (a0 := (6, .inl fun _ => 0)) (ty := .int) hx hb k55_1 rfl hK hP hD hS hA k55_2 k55_3 k55_4 k55_5 k55_6 k55_7 dc_Fa_init_55 (fun q55 c55 H hK hP hD hS => ?_)
  have hP : va_P (dC, dI) vwCl [(h0, .inr (1, [.ref q7, .ref q15, .ref q23, .ref q31, .ref q39, .ref q47, .null, .null, .null, .int 0, .int 0, .int 0, .int 0, .int 0, .int 0, .int 0, .int 0])), (q7, .inl (c7, 6, .inr (.inl fun _ => 0))), (q15, .inl (c15, 6, .inl fun _ => 0)), (q23, .inl (c23, 6, .inl fun _ => 0)), (q31, .inl (c31, 6, .inl fun _ => 0)), (q39, .inl (c39, 6, .inl fun _ => 0)), (q47, .inl (c47, 6, .inl fun _ => 0)), (q55, .inl (c55, 6, .inl fun _ => 0))] H := hP
  have hD : va_D A [(h0, .inr (1, [.ref q7, .ref q15, .ref q23, .ref q31, .ref q39, .ref q47, .null, .null, .null, .int 0, .int 0, .int 0, .int 0, .int 0, .int 0, .int 0, .int 0])), (q7, .inl (c7, 6, .inr (.inl fun _ => 0))), (q15, .inl (c15, 6, .inl fun _ => 0)), (q23, .inl (c23, 6, .inl fun _ => 0)), (q31, .inl (c31, 6, .inl fun _ => 0)), (q39, .inl (c39, 6, .inl fun _ => 0)), (q47, .inl (c47, 6, .inl fun _ => 0)), (q55, .inl (c55, 6, .inl fun _ => 0))] := hD
  have hK : va_K (dC, dI) vwCl [(c7, .long), (c15, .int), (c23, .int), (c31, .int), (c39, .int), (c47, .int), (c55, .int)] s := hK
  refine W.widen (k := 7) (n := 42) (by omega) (by omega) ?_
  refine va_putF (D := (dC, dI)) (ci := 1) (v := .ref q55) (ty := .array .int) (C := RX1) (T := TX1) (N := 17) hx hb hts ax_inX1 tyX1 tyX1_ok nmX1 hown hK hP hD hS 0 rfl rfl 6 (by decide) (hts (.fieldLink RX1 31 "GreyHair$Family" "grown" "[I") (ax_m2 38 (by decide +kernel) rfl)) (fun _ h9 => h9) rfl hin rfl (by decide +kernel) rfl rfl (Nat.le_of_ble_eq_true rfl) dc_Fa_init_57 (fun H locs hP hD hS => ?_)
  have hP : va_P (dC, dI) vwCl [(h0, .inr (1, [.ref q7, .ref q15, .ref q23, .ref q31, .ref q39, .ref q47, .ref q55, .null, .null, .int 0, .int 0, .int 0, .int 0, .int 0, .int 0, .int 0, .int 0])), (q7, .inl (c7, 6, .inr (.inl fun _ => 0))), (q15, .inl (c15, 6, .inl fun _ => 0)), (q23, .inl (c23, 6, .inl fun _ => 0)), (q31, .inl (c31, 6, .inl fun _ => 0)), (q39, .inl (c39, 6, .inl fun _ => 0)), (q47, .inl (c47, 6, .inl fun _ => 0)), (q55, .inl (c55, 6, .inl fun _ => 0))] H := hP
  have hD : va_D A [(h0, .inr (1, [.ref q7, .ref q15, .ref q23, .ref q31, .ref q39, .ref q47, .ref q55, .null, .null, .int 0, .int 0, .int 0, .int 0, .int 0, .int 0, .int 0, .int 0])), (q7, .inl (c7, 6, .inr (.inl fun _ => 0))), (q15, .inl (c15, 6, .inl fun _ => 0)), (q23, .inl (c23, 6, .inl fun _ => 0)), (q31, .inl (c31, 6, .inl fun _ => 0)), (q39, .inl (c39, 6, .inl fun _ => 0)), (q47, .inl (c47, 6, .inl fun _ => 0)), (q55, .inl (c55, 6, .inl fun _ => 0))] := hD
  refine lv_aload_n hx hb dc_Fa_init_60 rfl (lv_at hl 0 rfl) ?_
  have k61_6 : 7 + 1 ≤ 15 := by decide
  have k61_7 : 42 + 6 ≤ 684 := by decide +kernel
  refine va_new (ci := 2) (fs := [.null, .null, .null, .int 0, .int 0, .int 0]) (C := RX2) (T := TX2) (N := 6) hx hb hts ax_inX2 tyX2 tyX2_ok hown (hts (.classLink RX1 34 RX2) (ax_m1 232 (by decide +kernel) rfl)) (hts (.instantiable RX2 6) (ax_m1 233 (by decide +kernel) rfl)) (hts (.initialized RX2) (ax_m1 9 (by decide +kernel) rfl)) hK hP hD hS hA rfl (fun j hj => match j, hj with | 0, _ => rfl | 1, _ => rfl | 2, _ => rfl | 3, _ => rfl | 4, _ => rfl | 5, _ => rfl | j + 6, h => absurd h (by omega)) k61_6 k61_7 dc_Fa_init_61 (fun q61 H hP hD hS => ?_)
  have hP : va_P (dC, dI) vwCl [(h0, .inr (1, [.ref q7, .ref q15, .ref q23, .ref q31, .ref q39, .ref q47, .ref q55, .null, .null, .int 0, .int 0, .int 0, .int 0, .int 0, .int 0, .int 0, .int 0])), (q7, .inl (c7, 6, .inr (.inl fun _ => 0))), (q15, .inl (c15, 6, .inl fun _ => 0)), (q23, .inl (c23, 6, .inl fun _ => 0)), (q31, .inl (c31, 6, .inl fun _ => 0)), (q39, .inl (c39, 6, .inl fun _ => 0)), (q47, .inl (c47, 6, .inl fun _ => 0)), (q55, .inl (c55, 6, .inl fun _ => 0)), (q61, .inr (2, [.null, .null, .null, .int 0, .int 0, .int 0]))] H := hP
  have hD : va_D A [(h0, .inr (1, [.ref q7, .ref q15, .ref q23, .ref q31, .ref q39, .ref q47, .ref q55, .null, .null, .int 0, .int 0, .int 0, .int 0, .int 0, .int 0, .int 0, .int 0])), (q7, .inl (c7, 6, .inr (.inl fun _ => 0))), (q15, .inl (c15, 6, .inl fun _ => 0)), (q23, .inl (c23, 6, .inl fun _ => 0)), (q31, .inl (c31, 6, .inl fun _ => 0)), (q39, .inl (c39, 6, .inl fun _ => 0)), (q47, .inl (c47, 6, .inl fun _ => 0)), (q55, .inl (c55, 6, .inl fun _ => 0)), (q61, .inr (2, [.null, .null, .null, .int 0, .int 0, .int 0]))] := hD
  refine W.widen (k := 8) (n := 48) (by omega) (by omega) ?_
  refine lv_dup hx hb dc_Fa_init_64 rfl ?_
  have hPc := hP.sub (ws' := [(q61, .inr (2, [.null, .null, .null, .int 0, .int 0, .int 0]))]) [8] rfl
  have hDc := hD.sub (ws' := [(q61, .inr (2, [.null, .null, .null, .int 0, .int 0, .int 0]))]) [8] (by decide) rfl
  have hKc := hK.sub (tys' := []) [] rfl
  have hFc := va_free (wc := [(q61, .inr (2, [.null, .null, .null, .int 0, .int 0, .int 0]))]) hD hS hA [8] rfl
  have k65_6 : 8 + 3 ≤ 15 := by decide
  have k65_7 : 48 + 315 ≤ 684 := by decide +kernel
  refine va_callv (va_runIN (As := []) (rest := [.ref q61, .ref h0]) ⟨hx, hb, hml, hown, hts⟩ (Fo_init_cn l dC dI q61 H.size) ⟨va_cnB 0 hts (ax_goodIn Fo_init_wg) rfl rfl rfl hN0 (hts (.initialized yX2_init.cls) (ax_m1 9 (by decide +kernel) rfl)) (by decide +kernel) ⟨Nat.le_of_ble_eq_true rfl, Nat.le_of_ble_eq_true rfl⟩, rfl, hts (.instanceMethod yX2_init) (ax_m1 235 (by decide +kernel) rfl)⟩ ⟨fun a U g mk q => by obtain ⟨q0, q1, qP, qK, qD⟩ := q; exact ⟨q0, q1, qP, va_K.moved (u := U) (U := U.calling g mk a) (Vm.Alike.refl U.vm) qK, qD⟩, fun U hU hW => ⟨rfl, by rw [hU], by rw [hU]; exact hPc, va_K.moved hW.alike hKc, hDc.weaken (fun _ _ _ _ => trivial)⟩⟩ rfl rfl hl.1 rfl (lv_room (Nat.le_of_ble_eq_true rfl)) dc_Fa_init_65 ⟨k65_6, k65_7⟩) hS (fun q _ h => hFc q h) hFc (fun u t H1 locs ht hvm _ hB hz1 hk1 hS => ?_)
  obtain ⟨q8_61, c8_61, q15_61, c15_61, q23_61, c23_61, hP1, hK1, hD1⟩ := hB
  rw [ht] at hP1
  have hK1 := va_K.moved hvm.symm hK1
  obtain ⟨hP, hD⟩ := va_join (wr := [(h0, .inr (1, [.ref q7, .ref q15, .ref q23, .ref q31, .ref q39, .ref q47, .ref q55, .null, .null, .int 0, .int 0, .int 0, .int 0, .int 0, .int 0, .int 0, .int 0])), (q7, .inl (c7, 6, .inr (.inl fun _ => 0))), (q15, .inl (c15, 6, .inl fun _ => 0)), (q23, .inl (c23, 6, .inl fun _ => 0)), (q31, .inl (c31, 6, .inl fun _ => 0)), (q39, .inl (c39, 6, .inl fun _ => 0)), (q47, .inl (c47, 6, .inl fun _ => 0)), (q55, .inl (c55, 6, .inl fun _ => 0))]) (w1 := [(q61, .inr (2, [.ref q8_61, .ref q15_61, .ref q23_61, .int 0, .int 0, .int 0])), (q8_61, .inl (c8_61, 280, .inl fun _ => 0)), (q15_61, .inl (c15_61, 5, .inl fun _ => 0)), (q23_61, .inl (c23_61, 30, .inl fun _ => 0))]) hP hD [8] [0, 1, 2, 3, 4, 5, 6, 7] rfl rfl (by decide) (by decide) hk1 hFc hP1 hD1
  have hK := (hK.sub (tys' := [(c7, .long), (c15, .int), (c23, .int), (c31, .int), (c39, .int), (c47, .int), (c55, .int)]) [0, 1, 2, 3, 4, 5, 6] rfl).app hK1
  generalize H1 = H at hP hS ⊢
  have hP : va_P (dC, dI) vwCl [(h0, .inr (1, [.ref q7, .ref q15, .ref q23, .ref q31, .ref q39, .ref q47, .ref q55, .null, .null, .int 0, .int 0, .int 0, .int 0, .int 0, .int 0, .int 0, .int 0])), (q7, .inl (c7, 6, .inr (.inl fun _ => 0))), (q15, .inl (c15, 6, .inl fun _ => 0)), (q23, .inl (c23, 6, .inl fun _ => 0)), (q31, .inl (c31, 6, .inl fun _ => 0)), (q39, .inl (c39, 6, .inl fun _ => 0)), (q47, .inl (c47, 6, .inl fun _ => 0)), (q55, .inl (c55, 6, .inl fun _ => 0)), (q61, .inr (2, [.ref q8_61, .ref q15_61, .ref q23_61, .int 0, .int 0, .int 0])), (q8_61, .inl (c8_61, 280, .inl fun _ => 0)), (q15_61, .inl (c15_61, 5, .inl fun _ => 0)), (q23_61, .inl (c23_61, 30, .inl fun _ => 0))] H := hP
  have hD : va_D A [(h0, .inr (1, [.ref q7, .ref q15, .ref q23, .ref q31, .ref q39, .ref q47, .ref q55, .null, .null, .int 0, .int 0, .int 0, .int 0, .int 0, .int 0, .int 0, .int 0])), (q7, .inl (c7, 6, .inr (.inl fun _ => 0))), (q15, .inl (c15, 6, .inl fun _ => 0)), (q23, .inl (c23, 6, .inl fun _ => 0)), (q31, .inl (c31, 6, .inl fun _ => 0)), (q39, .inl (c39, 6, .inl fun _ => 0)), (q47, .inl (c47, 6, .inl fun _ => 0)), (q55, .inl (c55, 6, .inl fun _ => 0)), (q61, .inr (2, [.ref q8_61, .ref q15_61, .ref q23_61, .int 0, .int 0, .int 0])), (q8_61, .inl (c8_61, 280, .inl fun _ => 0)), (q15_61, .inl (c15_61, 5, .inl fun _ => 0)), (q23_61, .inl (c23_61, 30, .inl fun _ => 0))] := hD
  have hK : va_K (dC, dI) vwCl [(c7, .long), (c15, .int), (c23, .int), (c31, .int), (c39, .int), (c47, .int), (c55, .int), (c8_61, .int), (c15_61, .int), (c23_61, .int)] s := hK
  refine W.widen (k := 11) (n := 363) (by omega) (by omega) ?_
  refine va_putF (D := (dC, dI)) (ci := 1) (v := .ref q61) (ty := .object "GreyHair$Formula") (C := RX1) (T := TX1) (N := 17) hx hb hts ax_inX1 tyX1 tyX1_ok nmX1 hown hK hP hD hS 0 rfl rfl 7 (by decide) (hts (.fieldLink RX1 37 "GreyHair$Family" "worry" "LGreyHair$Formula;") (ax_m2 39 (by decide +kernel) rfl)) (fun _ h9 => h9) rfl hin rfl (by decide +kernel) rfl rfl (Nat.le_of_ble_eq_true rfl) dc_Fa_init_68 (fun H locs hP hD hS => ?_)
  have hP : va_P (dC, dI) vwCl [(h0, .inr (1, [.ref q7, .ref q15, .ref q23, .ref q31, .ref q39, .ref q47, .ref q55, .ref q61, .null, .int 0, .int 0, .int 0, .int 0, .int 0, .int 0, .int 0, .int 0])), (q7, .inl (c7, 6, .inr (.inl fun _ => 0))), (q15, .inl (c15, 6, .inl fun _ => 0)), (q23, .inl (c23, 6, .inl fun _ => 0)), (q31, .inl (c31, 6, .inl fun _ => 0)), (q39, .inl (c39, 6, .inl fun _ => 0)), (q47, .inl (c47, 6, .inl fun _ => 0)), (q55, .inl (c55, 6, .inl fun _ => 0)), (q61, .inr (2, [.ref q8_61, .ref q15_61, .ref q23_61, .int 0, .int 0, .int 0])), (q8_61, .inl (c8_61, 280, .inl fun _ => 0)), (q15_61, .inl (c15_61, 5, .inl fun _ => 0)), (q23_61, .inl (c23_61, 30, .inl fun _ => 0))] H := hP
  have hD : va_D A [(h0, .inr (1, [.ref q7, .ref q15, .ref q23, .ref q31, .ref q39, .ref q47, .ref q55, .ref q61, .null, .int 0, .int 0, .int 0, .int 0, .int 0, .int 0, .int 0, .int 0])), (q7, .inl (c7, 6, .inr (.inl fun _ => 0))), (q15, .inl (c15, 6, .inl fun _ => 0)), (q23, .inl (c23, 6, .inl fun _ => 0)), (q31, .inl (c31, 6, .inl fun _ => 0)), (q39, .inl (c39, 6, .inl fun _ => 0)), (q47, .inl (c47, 6, .inl fun _ => 0)), (q55, .inl (c55, 6, .inl fun _ => 0)), (q61, .inr (2, [.ref q8_61, .ref q15_61, .ref q23_61, .int 0, .int 0, .int 0])), (q8_61, .inl (c8_61, 280, .inl fun _ => 0)), (q15_61, .inl (c15_61, 5, .inl fun _ => 0)), (q23_61, .inl (c23_61, 30, .inl fun _ => 0))] := hD
  refine lv_aload_n hx hb dc_Fa_init_71 rfl (lv_at hl 0 rfl) ?_
  have k72_6 : 11 + 1 ≤ 15 := by decide
  have k72_7 : 363 + 6 ≤ 684 := by decide +kernel
  refine va_new (ci := 2) (fs := [.null, .null, .null, .int 0, .int 0, .int 0]) (C := RX2) (T := TX2) (N := 6) hx hb hts ax_inX2 tyX2 tyX2_ok hown (hts (.classLink RX1 34 RX2) (ax_m1 232 (by decide +kernel) rfl)) (hts (.instantiable RX2 6) (ax_m1 233 (by decide +kernel) rfl)) (hts (.initialized RX2) (ax_m1 9 (by decide +kernel) rfl)) hK hP hD hS hA rfl (fun j hj => match j, hj with | 0, _ => rfl | 1, _ => rfl | 2, _ => rfl | 3, _ => rfl | 4, _ => rfl | 5, _ => rfl | j + 6, h => absurd h (by omega)) k72_6 k72_7 dc_Fa_init_72 (fun q72 H hP hD hS => ?_)
  have hP : va_P (dC, dI) vwCl [(h0, .inr (1, [.ref q7, .ref q15, .ref q23, .ref q31, .ref q39, .ref q47, .ref q55, .ref q61, .null, .int 0, .int 0, .int 0, .int 0, .int 0, .int 0, .int 0, .int 0])), (q7, .inl (c7, 6, .inr (.inl fun _ => 0))), (q15, .inl (c15, 6, .inl fun _ => 0)), (q23, .inl (c23, 6, .inl fun _ => 0)), (q31, .inl (c31, 6, .inl fun _ => 0)), (q39, .inl (c39, 6, .inl fun _ => 0)), (q47, .inl (c47, 6, .inl fun _ => 0)), (q55, .inl (c55, 6, .inl fun _ => 0)), (q61, .inr (2, [.ref q8_61, .ref q15_61, .ref q23_61, .int 0, .int 0, .int 0])), (q8_61, .inl (c8_61, 280, .inl fun _ => 0)), (q15_61, .inl (c15_61, 5, .inl fun _ => 0)), (q23_61, .inl (c23_61, 30, .inl fun _ => 0)), (q72, .inr (2, [.null, .null, .null, .int 0, .int 0, .int 0]))] H := hP
  have hD : va_D A [(h0, .inr (1, [.ref q7, .ref q15, .ref q23, .ref q31, .ref q39, .ref q47, .ref q55, .ref q61, .null, .int 0, .int 0, .int 0, .int 0, .int 0, .int 0, .int 0, .int 0])), (q7, .inl (c7, 6, .inr (.inl fun _ => 0))), (q15, .inl (c15, 6, .inl fun _ => 0)), (q23, .inl (c23, 6, .inl fun _ => 0)), (q31, .inl (c31, 6, .inl fun _ => 0)), (q39, .inl (c39, 6, .inl fun _ => 0)), (q47, .inl (c47, 6, .inl fun _ => 0)), (q55, .inl (c55, 6, .inl fun _ => 0)), (q61, .inr (2, [.ref q8_61, .ref q15_61, .ref q23_61, .int 0, .int 0, .int 0])), (q8_61, .inl (c8_61, 280, .inl fun _ => 0)), (q15_61, .inl (c15_61, 5, .inl fun _ => 0)), (q23_61, .inl (c23_61, 30, .inl fun _ => 0)), (q72, .inr (2, [.null, .null, .null, .int 0, .int 0, .int 0]))] := hD
  refine W.widen (k := 12) (n := 369) (by omega) (by omega) ?_
  refine lv_dup hx hb dc_Fa_init_75 rfl ?_
  have hPc := hP.sub (ws' := [(q72, .inr (2, [.null, .null, .null, .int 0, .int 0, .int 0]))]) [12] rfl
  have hDc := hD.sub (ws' := [(q72, .inr (2, [.null, .null, .null, .int 0, .int 0, .int 0]))]) [12] (by decide) rfl
  have hKc := hK.sub (tys' := []) [] rfl
  have hFc := va_free (wc := [(q72, .inr (2, [.null, .null, .null, .int 0, .int 0, .int 0]))]) hD hS hA [12] rfl
  have k76_6 : 12 + 3 ≤ 15 := by decide
  have k76_7 : 369 + 315 ≤ 684 := by decide +kernel
  refine va_callv (va_runIN (As := []) (rest := [.ref q72, .ref h0]) ⟨hx, hb, hml, hown, hts⟩ (Fo_init_cn l dC dI q72 H.size) ⟨va_cnB 0 hts (ax_goodIn Fo_init_wg) rfl rfl rfl hN0 (hts (.initialized yX2_init.cls) (ax_m1 9 (by decide +kernel) rfl)) (by decide +kernel) ⟨Nat.le_of_ble_eq_true rfl, Nat.le_of_ble_eq_true rfl⟩, rfl, hts (.instanceMethod yX2_init) (ax_m1 235 (by decide +kernel) rfl)⟩ ⟨fun a U g mk q => by obtain ⟨q0, q1, qP, qK, qD⟩ := q; exact ⟨q0, q1, qP, va_K.moved (u := U) (U := U.calling g mk a) (Vm.Alike.refl U.vm) qK, qD⟩, fun U hU hW => ⟨rfl, by rw [hU], by rw [hU]; exact hPc, va_K.moved hW.alike hKc, hDc.weaken (fun _ _ _ _ => trivial)⟩⟩ rfl rfl hl.1 rfl (lv_room (Nat.le_of_ble_eq_true rfl)) dc_Fa_init_76 ⟨k76_6, k76_7⟩) hS (fun q _ h => hFc q h) hFc (fun u t H1 locs ht hvm _ hB hz1 hk1 hS => ?_)
  obtain ⟨q8_72, c8_72, q15_72, c15_72, q23_72, c23_72, hP1, hK1, hD1⟩ := hB
  rw [ht] at hP1
  have hK1 := va_K.moved hvm.symm hK1
  obtain ⟨hP, hD⟩ := va_join (wr := [(h0, .inr (1, [.ref q7, .ref q15, .ref q23, .ref q31, .ref q39, .ref q47, .ref q55, .ref q61, .null, .int 0, .int 0, .int 0, .int 0, .int 0, .int 0, .int 0, .int 0])), (q7, .inl (c7, 6, .inr (.inl fun _ => 0))), (q15, .inl (c15, 6, .inl fun _ => 0)), (q23, .inl (c23, 6, .inl fun _ => 0)), (q31, .inl (c31, 6, .inl fun _ => 0)), (q39, .inl (c39, 6, .inl fun _ => 0)), (q47, .inl (c47, 6, .inl fun _ => 0)), (q55, .inl (c55, 6, .inl fun _ => 0)), (q61, .inr (2, [.ref q8_61, .ref q15_61, .ref q23_61, .int 0, .int 0, .int 0])), (q8_61, .inl (c8_61, 280, .inl fun _ => 0)), (q15_61, .inl (c15_61, 5, .inl fun _ => 0)), (q23_61, .inl (c23_61, 30, .inl fun _ => 0))]) (w1 := [(q72, .inr (2, [.ref q8_72, .ref q15_72, .ref q23_72, .int 0, .int 0, .int 0])), (q8_72, .inl (c8_72, 280, .inl fun _ => 0)), (q15_72, .inl (c15_72, 5, .inl fun _ => 0)), (q23_72, .inl (c23_72, 30, .inl fun _ => 0))]) hP hD [12] [0, 1, 2, 3, 4, 5, 6, 7, 8, 9, 10, 11] rfl rfl (by decide) (by decide) hk1 hFc hP1 hD1
  have hK := (hK.sub (tys' := [(c7, .long), (c15, .int), (c23, .int), (c31, .int), (c39, .int), (c47, .int), (c55, .int), (c8_61, .int), (c15_61, .int), (c23_61, .int)]) [0, 1, 2, 3, 4, 5, 6, 7, 8, 9] rfl).app hK1
  generalize H1 = H at hP hS ⊢
  have hP : va_P (dC, dI) vwCl [(h0, .inr (1, [.ref q7, .ref q15, .ref q23, .ref q31, .ref q39, .ref q47, .ref q55, .ref q61, .null, .int 0, .int 0, .int 0, .int 0, .int 0, .int 0, .int 0, .int 0])), (q7, .inl (c7, 6, .inr (.inl fun _ => 0))), (q15, .inl (c15, 6, .inl fun _ => 0)), (q23, .inl (c23, 6, .inl fun _ => 0)), (q31, .inl (c31, 6, .inl fun _ => 0)), (q39, .inl (c39, 6, .inl fun _ => 0)), (q47, .inl (c47, 6, .inl fun _ => 0)), (q55, .inl (c55, 6, .inl fun _ => 0)), (q61, .inr (2, [.ref q8_61, .ref q15_61, .ref q23_61, .int 0, .int 0, .int 0])), (q8_61, .inl (c8_61, 280, .inl fun _ => 0)), (q15_61, .inl (c15_61, 5, .inl fun _ => 0)), (q23_61, .inl (c23_61, 30, .inl fun _ => 0)), (q72, .inr (2, [.ref q8_72, .ref q15_72, .ref q23_72, .int 0, .int 0, .int 0])), (q8_72, .inl (c8_72, 280, .inl fun _ => 0)), (q15_72, .inl (c15_72, 5, .inl fun _ => 0)), (q23_72, .inl (c23_72, 30, .inl fun _ => 0))] H := hP
  have hD : va_D A [(h0, .inr (1, [.ref q7, .ref q15, .ref q23, .ref q31, .ref q39, .ref q47, .ref q55, .ref q61, .null, .int 0, .int 0, .int 0, .int 0, .int 0, .int 0, .int 0, .int 0])), (q7, .inl (c7, 6, .inr (.inl fun _ => 0))), (q15, .inl (c15, 6, .inl fun _ => 0)), (q23, .inl (c23, 6, .inl fun _ => 0)), (q31, .inl (c31, 6, .inl fun _ => 0)), (q39, .inl (c39, 6, .inl fun _ => 0)), (q47, .inl (c47, 6, .inl fun _ => 0)), (q55, .inl (c55, 6, .inl fun _ => 0)), (q61, .inr (2, [.ref q8_61, .ref q15_61, .ref q23_61, .int 0, .int 0, .int 0])), (q8_61, .inl (c8_61, 280, .inl fun _ => 0)), (q15_61, .inl (c15_61, 5, .inl fun _ => 0)), (q23_61, .inl (c23_61, 30, .inl fun _ => 0)), (q72, .inr (2, [.ref q8_72, .ref q15_72, .ref q23_72, .int 0, .int 0, .int 0])), (q8_72, .inl (c8_72, 280, .inl fun _ => 0)), (q15_72, .inl (c15_72, 5, .inl fun _ => 0)), (q23_72, .inl (c23_72, 30, .inl fun _ => 0))] := hD
  have hK : va_K (dC, dI) vwCl [(c7, .long), (c15, .int), (c23, .int), (c31, .int), (c39, .int), (c47, .int), (c55, .int), (c8_61, .int), (c15_61, .int), (c23_61, .int), (c8_72, .int), (c15_72, .int), (c23_72, .int)] s := hK
  refine W.widen (k := 15) (n := 684) (by omega) (by omega) ?_
  refine va_putF (D := (dC, dI)) (ci := 1) (v := .ref q72) (ty := .object "GreyHair$Formula") (C := RX1) (T := TX1) (N := 17) hx hb hts ax_inX1 tyX1 tyX1_ok nmX1 hown hK hP hD hS 0 rfl rfl 8 (by decide) (hts (.fieldLink RX1 41 "GreyHair$Family" "grows" "LGreyHair$Formula;") (ax_m2 41 (by decide +kernel) rfl)) (fun _ h9 => h9) rfl hin rfl (by decide +kernel) rfl rfl (Nat.le_of_ble_eq_true rfl) dc_Fa_init_79 (fun H locs hP hD hS => ?_)
  have hP : va_P (dC, dI) vwCl [(h0, .inr (1, [.ref q7, .ref q15, .ref q23, .ref q31, .ref q39, .ref q47, .ref q55, .ref q61, .ref q72, .int 0, .int 0, .int 0, .int 0, .int 0, .int 0, .int 0, .int 0])), (q7, .inl (c7, 6, .inr (.inl fun _ => 0))), (q15, .inl (c15, 6, .inl fun _ => 0)), (q23, .inl (c23, 6, .inl fun _ => 0)), (q31, .inl (c31, 6, .inl fun _ => 0)), (q39, .inl (c39, 6, .inl fun _ => 0)), (q47, .inl (c47, 6, .inl fun _ => 0)), (q55, .inl (c55, 6, .inl fun _ => 0)), (q61, .inr (2, [.ref q8_61, .ref q15_61, .ref q23_61, .int 0, .int 0, .int 0])), (q8_61, .inl (c8_61, 280, .inl fun _ => 0)), (q15_61, .inl (c15_61, 5, .inl fun _ => 0)), (q23_61, .inl (c23_61, 30, .inl fun _ => 0)), (q72, .inr (2, [.ref q8_72, .ref q15_72, .ref q23_72, .int 0, .int 0, .int 0])), (q8_72, .inl (c8_72, 280, .inl fun _ => 0)), (q15_72, .inl (c15_72, 5, .inl fun _ => 0)), (q23_72, .inl (c23_72, 30, .inl fun _ => 0))] H := hP
  have hD : va_D A [(h0, .inr (1, [.ref q7, .ref q15, .ref q23, .ref q31, .ref q39, .ref q47, .ref q55, .ref q61, .ref q72, .int 0, .int 0, .int 0, .int 0, .int 0, .int 0, .int 0, .int 0])), (q7, .inl (c7, 6, .inr (.inl fun _ => 0))), (q15, .inl (c15, 6, .inl fun _ => 0)), (q23, .inl (c23, 6, .inl fun _ => 0)), (q31, .inl (c31, 6, .inl fun _ => 0)), (q39, .inl (c39, 6, .inl fun _ => 0)), (q47, .inl (c47, 6, .inl fun _ => 0)), (q55, .inl (c55, 6, .inl fun _ => 0)), (q61, .inr (2, [.ref q8_61, .ref q15_61, .ref q23_61, .int 0, .int 0, .int 0])), (q8_61, .inl (c8_61, 280, .inl fun _ => 0)), (q15_61, .inl (c15_61, 5, .inl fun _ => 0)), (q23_61, .inl (c23_61, 30, .inl fun _ => 0)), (q72, .inr (2, [.ref q8_72, .ref q15_72, .ref q23_72, .int 0, .int 0, .int 0])), (q8_72, .inl (c8_72, 280, .inl fun _ => 0)), (q15_72, .inl (c15_72, 5, .inl fun _ => 0)), (q23_72, .inl (c23_72, 30, .inl fun _ => 0))] := hD
  refine lv_aload_n hx hb dc_Fa_init_82 rfl (lv_at hl 0 rfl) ?_
  refine lv_iconst (v := 1) hx hb dc_Fa_init_83 (by decide +kernel) ?_
  refine va_put (D := (dC, dI)) (ci := 1) (v := .int 1) (ty := .int) (C := RX1) (T := TX1) (N := 17) hx hb hts ax_inX1 tyX1 tyX1_ok nmX1 hown hK hP hD hS 0 rfl rfl 12 (by decide) (hts (.fieldLink RX1 44 "GreyHair$Family" "ease" "I") (ax_m2 52 (by decide +kernel) rfl)) (fun _ h9 => h9) rfl (by decide +kernel) rfl rfl (Nat.le_of_ble_eq_true rfl) dc_Fa_init_84 (fun H locs hP hD hS => ?_)
  have hP : va_P (dC, dI) vwCl [(h0, .inr (1, [.ref q7, .ref q15, .ref q23, .ref q31, .ref q39, .ref q47, .ref q55, .ref q61, .ref q72, .int 0, .int 0, .int 0, .int 1, .int 0, .int 0, .int 0, .int 0])), (q7, .inl (c7, 6, .inr (.inl fun _ => 0))), (q15, .inl (c15, 6, .inl fun _ => 0)), (q23, .inl (c23, 6, .inl fun _ => 0)), (q31, .inl (c31, 6, .inl fun _ => 0)), (q39, .inl (c39, 6, .inl fun _ => 0)), (q47, .inl (c47, 6, .inl fun _ => 0)), (q55, .inl (c55, 6, .inl fun _ => 0)), (q61, .inr (2, [.ref q8_61, .ref q15_61, .ref q23_61, .int 0, .int 0, .int 0])), (q8_61, .inl (c8_61, 280, .inl fun _ => 0)), (q15_61, .inl (c15_61, 5, .inl fun _ => 0)), (q23_61, .inl (c23_61, 30, .inl fun _ => 0)), (q72, .inr (2, [.ref q8_72, .ref q15_72, .ref q23_72, .int 0, .int 0, .int 0])), (q8_72, .inl (c8_72, 280, .inl fun _ => 0)), (q15_72, .inl (c15_72, 5, .inl fun _ => 0)), (q23_72, .inl (c23_72, 30, .inl fun _ => 0))] H := hP
  have hD : va_D A [(h0, .inr (1, [.ref q7, .ref q15, .ref q23, .ref q31, .ref q39, .ref q47, .ref q55, .ref q61, .ref q72, .int 0, .int 0, .int 0, .int 1, .int 0, .int 0, .int 0, .int 0])), (q7, .inl (c7, 6, .inr (.inl fun _ => 0))), (q15, .inl (c15, 6, .inl fun _ => 0)), (q23, .inl (c23, 6, .inl fun _ => 0)), (q31, .inl (c31, 6, .inl fun _ => 0)), (q39, .inl (c39, 6, .inl fun _ => 0)), (q47, .inl (c47, 6, .inl fun _ => 0)), (q55, .inl (c55, 6, .inl fun _ => 0)), (q61, .inr (2, [.ref q8_61, .ref q15_61, .ref q23_61, .int 0, .int 0, .int 0])), (q8_61, .inl (c8_61, 280, .inl fun _ => 0)), (q15_61, .inl (c15_61, 5, .inl fun _ => 0)), (q23_61, .inl (c23_61, 30, .inl fun _ => 0)), (q72, .inr (2, [.ref q8_72, .ref q15_72, .ref q23_72, .int 0, .int 0, .int 0])), (q8_72, .inl (c8_72, 280, .inl fun _ => 0)), (q15_72, .inl (c15_72, 5, .inl fun _ => 0)), (q23_72, .inl (c23_72, 30, .inl fun _ => 0))] := hD
  have hP9 := hP.sub (ws' := [(h0, .inr (1, [.ref q7, .ref q15, .ref q23, .ref q31, .ref q39, .ref q47, .ref q55, .ref q61, .ref q72, .int 0, .int 0, .int 0, .int 1, .int 0, .int 0, .int 0, .int 0])), (q7, .inl (c7, 6, .inr (.inl fun _ => 0))), (q15, .inl (c15, 6, .inl fun _ => 0)), (q23, .inl (c23, 6, .inl fun _ => 0)), (q31, .inl (c31, 6, .inl fun _ => 0)), (q39, .inl (c39, 6, .inl fun _ => 0)), (q47, .inl (c47, 6, .inl fun _ => 0)), (q55, .inl (c55, 6, .inl fun _ => 0)), (q61, .inr (2, [.ref q8_61, .ref q15_61, .ref q23_61, .int 0, .int 0, .int 0])), (q8_61, .inl (c8_61, 280, .inl fun _ => 0)), (q15_61, .inl (c15_61, 5, .inl fun _ => 0)), (q23_61, .inl (c23_61, 30, .inl fun _ => 0)), (q72, .inr (2, [.ref q8_72, .ref q15_72, .ref q23_72, .int 0, .int 0, .int 0])), (q8_72, .inl (c8_72, 280, .inl fun _ => 0)), (q15_72, .inl (c15_72, 5, .inl fun _ => 0)), (q23_72, .inl (c23_72, 30, .inl fun _ => 0))]) [0, 1, 2, 3, 4, 5, 6, 7, 8, 9, 10, 11, 12, 13, 14, 15] rfl
  have hD9 := hD.sub (ws' := [(h0, .inr (1, [.ref q7, .ref q15, .ref q23, .ref q31, .ref q39, .ref q47, .ref q55, .ref q61, .ref q72, .int 0, .int 0, .int 0, .int 1, .int 0, .int 0, .int 0, .int 0])), (q7, .inl (c7, 6, .inr (.inl fun _ => 0))), (q15, .inl (c15, 6, .inl fun _ => 0)), (q23, .inl (c23, 6, .inl fun _ => 0)), (q31, .inl (c31, 6, .inl fun _ => 0)), (q39, .inl (c39, 6, .inl fun _ => 0)), (q47, .inl (c47, 6, .inl fun _ => 0)), (q55, .inl (c55, 6, .inl fun _ => 0)), (q61, .inr (2, [.ref q8_61, .ref q15_61, .ref q23_61, .int 0, .int 0, .int 0])), (q8_61, .inl (c8_61, 280, .inl fun _ => 0)), (q15_61, .inl (c15_61, 5, .inl fun _ => 0)), (q23_61, .inl (c23_61, 30, .inl fun _ => 0)), (q72, .inr (2, [.ref q8_72, .ref q15_72, .ref q23_72, .int 0, .int 0, .int 0])), (q8_72, .inl (c8_72, 280, .inl fun _ => 0)), (q15_72, .inl (c15_72, 5, .inl fun _ => 0)), (q23_72, .inl (c23_72, 30, .inl fun _ => 0))]) [0, 1, 2, 3, 4, 5, 6, 7, 8, 9, 10, 11, 12, 13, 14, 15] (by decide) rfl
  have hK9 := hK.sub (tys' := [(c7, .long), (c15, .int), (c23, .int), (c31, .int), (c39, .int), (c47, .int), (c55, .int), (c8_61, .int), (c15_61, .int), (c23_61, .int), (c8_72, .int), (c15_72, .int), (c23_72, .int)]) [0, 1, 2, 3, 4, 5, 6, 7, 8, 9, 10, 11, 12] rfl
  exact W.vret hx hb hr (fun t ht hW => ⟨⟨(), rfl, trivial, q7, c7, q15, c15, q23, c23, q31, c31, q39, c39, q47, c47, q55, c55, q61, q8_61, c8_61, q15_61, c15_61, q23_61, c23_61, q72, q8_72, c8_72, q15_72, c15_72, q23_72, c23_72, by rw [ht]; exact hP9, va_K.moved hW.alike hK9, hD9⟩, hS.F ht⟩) hS.2.2 dc_Fa_init_87
theorem dc_Ou_init_0 : decode cX4_init 0 = .ok (.aload_n 0, 1) := by decide +kernel
theorem dc_Ou_init_1 : decode cX4_init 1 = .ok (.invokespecial 3, 3) := by decide +kernel
theorem dc_Ou_init_4 : decode cX4_init 4 = .ok (.aload_n 0, 1) := by decide +kernel
theorem dc_Ou_init_5 : decode cX4_init 5 = .ok (.new 9, 3) := by decide +kernel
theorem dc_Ou_init_8 : decode cX4_init 8 = .ok (.dup, 1) := by decide +kernel
theorem dc_Ou_init_9 : decode cX4_init 9 = .ok (.invokespecial 11, 3) := by decide +kernel
theorem dc_Ou_init_12 : decode cX4_init 12 = .ok (.putfield 12, 3) := by decide +kernel
theorem dc_Ou_init_15 : decode cX4_init 15 = .ok (.aload_n 0, 1) := by decide +kernel
theorem dc_Ou_init_16 : decode cX4_init 16 = .ok (.bipush 12, 2) := by decide +kernel
theorem dc_Ou_init_18 : decode cX4_init 18 = .ok (.newarray .int, 2) := by decide +kernel
theorem dc_Ou_init_20 : decode cX4_init 20 = .ok (.putfield 18, 3) := by decide +kernel
theorem dc_Ou_init_23 : decode cX4_init 23 = .ok (.aload_n 0, 1) := by decide +kernel
theorem dc_Ou_init_24 : decode cX4_init 24 = .ok (.bipush 12, 2) := by decide +kernel
theorem dc_Ou_init_26 : decode cX4_init 26 = .ok (.newarray .int, 2) := by decide +kernel
theorem dc_Ou_init_28 : decode cX4_init 28 = .ok (.putfield 22, 3) := by decide +kernel
theorem dc_Ou_init_31 : decode cX4_init 31 = .ok (.aload_n 0, 1) := by decide +kernel
theorem dc_Ou_init_32 : decode cX4_init 32 = .ok (.bipush 6, 2) := by decide +kernel
theorem dc_Ou_init_34 : decode cX4_init 34 = .ok (.newarray .int, 2) := by decide +kernel
theorem dc_Ou_init_36 : decode cX4_init 36 = .ok (.putfield 25, 3) := by decide +kernel
theorem dc_Ou_init_39 : decode cX4_init 39 = .ok (.aload_n 0, 1) := by decide +kernel
theorem dc_Ou_init_40 : decode cX4_init 40 = .ok (.sipush 384, 3) := by decide +kernel
theorem dc_Ou_init_43 : decode cX4_init 43 = .ok (.newarray .int, 2) := by decide +kernel
theorem dc_Ou_init_45 : decode cX4_init 45 = .ok (.putfield 28, 3) := by decide +kernel
theorem dc_Ou_init_48 : decode cX4_init 48 = .ok (.aload_n 0, 1) := by decide +kernel
theorem dc_Ou_init_49 : decode cX4_init 49 = .ok (.bipush 100, 2) := by decide +kernel
theorem dc_Ou_init_51 : decode cX4_init 51 = .ok (.newarray .int, 2) := by decide +kernel
theorem dc_Ou_init_53 : decode cX4_init 53 = .ok (.putfield 31, 3) := by decide +kernel
theorem dc_Ou_init_56 : decode cX4_init 56 = .ok (.aload_n 0, 1) := by decide +kernel
theorem dc_Ou_init_57 : decode cX4_init 57 = .ok (.bipush 6, 2) := by decide +kernel
theorem dc_Ou_init_59 : decode cX4_init 59 = .ok (.newarray .int, 2) := by decide +kernel
theorem dc_Ou_init_61 : decode cX4_init 61 = .ok (.putfield 34, 3) := by decide +kernel
theorem dc_Ou_init_64 : decode cX4_init 64 = .ok (.aload_n 0, 1) := by decide +kernel
theorem dc_Ou_init_65 : decode cX4_init 65 = .ok (.bipush 6, 2) := by decide +kernel
theorem dc_Ou_init_67 : decode cX4_init 67 = .ok (.newarray .int, 2) := by decide +kernel
theorem dc_Ou_init_69 : decode cX4_init 69 = .ok (.putfield 37, 3) := by decide +kernel
theorem dc_Ou_init_72 : decode cX4_init 72 = .ok (.return_, 1) := by decide +kernel
theorem Ou_init_wg : ∀ w ∈ (Cond.code yX4_init cX4_init 1 none :: ax_tb), w ∈ ax_tb := List.forall_mem_cons.mpr ⟨(ax_m1 71 (by decide +kernel) rfl), fun _ h => h⟩
def Ou_init_B (dC : Nat → ClassId) (dI : Nat → Nat → Nat) (A : Nat → Prop) (h0 : Nat) : Unit → State → Prop := fun _ t => ∃ q5 : Nat, ∃ q7_5 : Nat, ∃ c7_5 : ClassId, ∃ q15_5 : Nat, ∃ c15_5 : ClassId, ∃ q18 : Nat, ∃ c18 : ClassId, ∃ q26 : Nat, ∃ c26 : ClassId, ∃ q34 : Nat, ∃ c34 : ClassId, ∃ q43 : Nat, ∃ c43 : ClassId, ∃ q51 : Nat, ∃ c51 : ClassId, ∃ q59 : Nat, ∃ c59 : ClassId, ∃ q67 : Nat, ∃ c67 : ClassId, va_P (dC, dI) vwCl [(h0, .inr (4, [.ref q5, .ref q18, .ref q26, .ref q34, .ref q43, .ref q51, .ref q59, .ref q67, .int 0, .int 0])), (q5, .inr (7, [.ref q7_5, .ref q15_5, .int (-1), .int 0, .int 0, .int 0])), (q7_5, .inl (c7_5, 6, .inl fun _ => 0)), (q15_5, .inl (c15_5, 6, .inl fun _ => 0)), (q18, .inl (c18, 12, .inl fun _ => 0)), (q26, .inl (c26, 12, .inl fun _ => 0)), (q34, .inl (c34, 6, .inl fun _ => 0)), (q43, .inl (c43, 384, .inl fun _ => 0)), (q51, .inl (c51, 100, .inl fun _ => 0)), (q59, .inl (c59, 6, .inl fun _ => 0)), (q67, .inl (c67, 6, .inl fun _ => 0))] t.heap ∧ va_K (dC, dI) vwCl [(c7_5, .int), (c15_5, .int), (c18, .int), (c26, .int), (c34, .int), (c43, .int), (c51, .int), (c59, .int), (c67, .int)] t ∧ va_D A [(h0, .inr (4, [.ref q5, .ref q18, .ref q26, .ref q34, .ref q43, .ref q51, .ref q59, .ref q67, .int 0, .int 0])), (q5, .inr (7, [.ref q7_5, .ref q15_5, .int (-1), .int 0, .int 0, .int 0])), (q7_5, .inl (c7_5, 6, .inl fun _ => 0)), (q15_5, .inl (c15_5, 6, .inl fun _ => 0)), (q18, .inl (c18, 12, .inl fun _ => 0)), (q26, .inl (c26, 12, .inl fun _ => 0)), (q34, .inl (c34, 6, .inl fun _ => 0)), (q43, .inl (c43, 384, .inl fun _ => 0)), (q51, .inl (c51, 100, .inl fun _ => 0)), (q59, .inl (c59, 6, .inl fun _ => 0)), (q67, .inl (c67, 6, .inl fun _ => 0))]
set_option maxHeartbeats 1000000 in
set_option maxRecDepth 100000 in
theorem Ou_init_cn (l : Launch) (dC : Nat → ClassId) (dI : Nat → Nat → Nat) (h0 : Nat) (sz : Nat) : Met l yX4_init (Cond.code yX4_init cX4_init 1 none :: ax_tb) ({ frames := 2, cells := 10, slots := 544, locals := 32 }) (va_Pc [.ref h0] (fun U => U.heap.size = sz ∧ va_P (dC, dI) vwCl [(h0, .inr (4, [.null, .null, .null, .null, .null, .null, .null, .null, .int 0, .int 0]))] U.heap ∧ va_K (dC, dI) vwCl [] U ∧ va_D (fun _ => True) [(h0, .inr (4, [.null, .null, .null, .null, .null, .null, .null, .null, .int 0, .int 0]))] ∧ va_Nw (.methodLinkNest RX4 11 yX7_init "GreyHair") U)) (va_Qv (fun _ : Unit => True) (Ou_init_B dC dI (va_A [(h0, .inr (4, [.null, .null, .null, .null, .null, .null, .null, .null, .int 0, .int 0]))] sz) h0) (va_A [(h0, .inr (4, [.null, .null, .null, .null, .null, .null, .null, .null, .int 0, .int 0]))] sz)) 10 544 (va_A [(h0, .inr (4, [.null, .null, .null, .null, .null, .null, .null, .null, .int 0, .int 0]))] sz) := by
  refine Met.ofW (cc := cX4_init) (maxL := 1) (ret := none) (by decide) rfl ?_
  intro p e s m args below meth c s₁ B hml hv
  obtain ⟨rfl, hsz, hP, hK, hD0, hN0⟩ := hv
  have hx := B.exec
  have hb := B.bytes
  have hr := B.returns
  have hts0 := atoms_spec (ws := Cond.code yX4_init cX4_init 1 none :: ax_tb) B.pre
  have hts : ∀ w ∈ ax_tb, w.before _ s = true := fun w h => hts0 w (List.mem_cons_of_mem _ h)
  have hown : s.vm.findClass RX4 = some m.cls := findClass_of_methodNamed B.named
  have hlocks := B.notSynchronized
  have hin : meth.name = "<init>" := (name_of_methodNamed B.named B.method).1
  subst hsz
  have hD := hD0.self (sz := s.heap.size)
  generalize hAe : va_A [(h0, .inr (4, [.null, .null, .null, .null, .null, .null, .null, .null, .int 0, .int 0]))] s.heap.size = A at hD ⊢
  have hA : ∀ q : Nat, s.heap.size ≤ q → A q := fun q h => by rw [← hAe]; exact Or.inr h
  have hS : va_S A s.heap s.heap [] := va_S.rf
  have hP : va_P (dC, dI) vwCl [(h0, .inr (4, [.null, .null, .null, .null, .null, .null, .null, .null, .int 0, .int 0]))] s.heap := hP
  have hl := lv_entry ([.ref h0]) (n := 1) (Nat.le_of_ble_eq_true rfl)
  rw [lg_entry_eq]
  generalize (lg_sl ([.ref h0]) ++ List.replicate (1 - (lg_sl ([.ref h0])).length) Slot.unset).toArray = ls at hl ⊢
  have hl : lv_has ls 1 [(0, .ref h0)] := hl
  refine lv_aload_n hx hb dc_Ou_init_0 rfl (lv_at hl 0 rfl) ?_
  refine W.objInit hx hb hown (hts (.methodLink RX4 3 Lib.objectInit) (ax_m1 72 (by decide +kernel) rfl)) (hts (.instanceMethod Lib.objectInit) (ax_m1 24 (by decide +kernel) rfl)) (hts (.code Lib.objectInit ⟨#[0xb1]⟩ 1 none) (ax_m1 25 (by decide +kernel) rfl)) rfl (by rw [hml]; exact hl.1) rfl dc_Ou_init_1 (Nat.le_of_ble_eq_true rfl) (Nat.le_of_ble_eq_true rfl) ?_
  refine W.eq (g2 := F0 m 4 ls []) rfl ?_
  refine lv_aload_n hx hb dc_Ou_init_4 rfl (lv_at hl 0 rfl) ?_
  have k5_6 : 0 + 1 ≤ 10 := by decide
  have k5_7 : 0 + 6 ≤ 544 := by decide +kernel
  refine va_new (ci := 7) (fs := [.null, .null, .int 0, .int 0, .int 0, .int 0]) (C := RX7) (T := TX7) (N := 6) hx hb hts ax_inX7 tyX7 tyX7_ok hown (hts (.classLink RX4 9 RX7) (ax_m1 73 (by decide +kernel) rfl)) (hts (.instantiable RX7 6) (ax_m1 74 (by decide +kernel) rfl)) (hts (.initialized RX7) (ax_m1 4 (by decide +kernel) rfl)) hK hP hD hS hA rfl (fun j hj => match j, hj with | 0, _ => rfl | 1, _ => rfl | 2, _ => rfl | 3, _ => rfl | 4, _ => rfl | 5, _ => rfl | j + 6, h => absurd h (by omega)) k5_6 k5_7 dc_Ou_init_5 (fun q5 H hP hD hS => ?_)
  have hP : va_P (dC, dI) vwCl [(h0, .inr (4, [.null, .null, .null, .null, .null, .null, .null, .null, .int 0, .int 0])), (q5, .inr (7, [.null, .null, .int 0, .int 0, .int 0, .int 0]))] H := hP
  have hD : va_D A [(h0, .inr (4, [.null, .null, .null, .null, .null, .null, .null, .null, .int 0, .int 0])), (q5, .inr (7, [.null, .null, .int 0, .int 0, .int 0, .int 0]))] := hD
  refine W.widen (k := 1) (n := 6) (by omega) (by omega) ?_
  refine lv_dup hx hb dc_Ou_init_8 rfl ?_
  have hPc := hP.sub (ws' := [(q5, .inr (7, [.null, .null, .int 0, .int 0, .int 0, .int 0]))]) [1] rfl
  have hDc := hD.sub (ws' := [(q5, .inr (7, [.null, .null, .int 0, .int 0, .int 0, .int 0]))]) [1] (by decide) rfl
  have hKc := hK.sub (tys' := []) [] rfl
  have hFc := va_free (wc := [(q5, .inr (7, [.null, .null, .int 0, .int 0, .int 0, .int 0]))]) hD hS hA [1] rfl
  have k9_6 : 1 + 2 ≤ 10 := by decide
  have k9_7 : 6 + 12 ≤ 544 := by decide +kernel
  refine va_callv (va_runIN (As := []) (rest := [.ref q5, .ref h0]) ⟨hx, hb, hml, hown, hts⟩ (St_init_cn l dC dI q5 H.size) ⟨va_cnB 0 hts (ax_goodIn St_init_wg) rfl rfl rfl hN0 (hts (.initialized yX7_init.cls) (ax_m1 4 (by decide +kernel) rfl)) (by decide +kernel) ⟨Nat.le_of_ble_eq_true rfl, Nat.le_of_ble_eq_true rfl⟩, rfl, hts (.instanceMethod yX7_init) (ax_m1 76 (by decide +kernel) rfl)⟩ ⟨fun a U g mk q => by obtain ⟨q0, q1, qP, qK, qD⟩ := q; exact ⟨q0, q1, qP, va_K.moved (u := U) (U := U.calling g mk a) (Vm.Alike.refl U.vm) qK, qD⟩, fun U hU hW => ⟨rfl, by rw [hU], by rw [hU]; exact hPc, va_K.moved hW.alike hKc, hDc.weaken (fun _ _ _ _ => trivial)⟩⟩ rfl rfl hl.1 rfl (lv_room (Nat.le_of_ble_eq_true rfl)) dc_Ou_init_9 ⟨k9_6, k9_7⟩) hS (fun q _ h => hFc q h) hFc (fun u t H1 locs ht hvm _ hB hz1 hk1 hS => ?_)
  obtain ⟨q7_5, c7_5, q15_5, c15_5, hP1, hK1, hD1⟩ := hB
  rw [ht] at hP1
  have hK1 := va_K.moved hvm.symm hK1
  obtain ⟨hP, hD⟩ := va_join (wr := [(h0, .inr (4, [.null, .null, .null, .null, .null, .null, .null, .null, .int 0, .int 0]))]) (w1 := [(q5, .inr (7, [.ref q7_5, .ref q15_5, .int (-1), .int 0, .int 0, .int 0])), (q7_5, .inl (c7_5, 6, .inl fun _ => 0)), (q15_5, .inl (c15_5, 6, .inl fun _ => 0))]) hP hD [1] [0] rfl rfl (by decide) (by decide) hk1 hFc hP1 hD1
  have hK := (hK.sub (tys' := []) [] rfl).app hK1
  generalize H1 = H at hP hS ⊢
  have hP : va_P (dC, dI) vwCl [(h0, .inr (4, [.null, .null, .null, .null, .null, .null, .null, .null, .int 0, .int 0])), (q5, .inr (7, [.ref q7_5, .ref q15_5, .int (-1), .int 0, .int 0, .int 0])), (q7_5, .inl (c7_5, 6, .inl fun _ => 0)), (q15_5, .inl (c15_5, 6, .inl fun _ => 0))] H := hP
  have hD : va_D A [(h0, .inr (4, [.null, .null, .null, .null, .null, .null, .null, .null, .int 0, .int 0])), (q5, .inr (7, [.ref q7_5, .ref q15_5, .int (-1), .int 0, .int 0, .int 0])), (q7_5, .inl (c7_5, 6, .inl fun _ => 0)), (q15_5, .inl (c15_5, 6, .inl fun _ => 0))] := hD
  have hK : va_K (dC, dI) vwCl [(c7_5, .int), (c15_5, .int)] s := hK
  refine W.widen (k := 3) (n := 18) (by omega) (by omega) ?_
  refine va_putF (D := (dC, dI)) (ci := 4) (v := .ref q5) (ty := .object "GreyHair$State") (C := RX4) (T := TX4) (N := 10) hx hb hts ax_inX4 tyX4 tyX4_ok nmX4 hown hK hP hD hS 0 rfl rfl 0 (by decide) (hts (.fieldLink RX4 12 "GreyHair$Outlook" "trial" "LGreyHair$State;") (ax_m1 116 (by decide +kernel) rfl)) (fun _ h9 => h9) rfl hin rfl (by decide +kernel) rfl rfl (Nat.le_of_ble_eq_true rfl) dc_Ou_init_12 (fun H locs hP hD hS => ?_)
  have hP : va_P (dC, dI) vwCl [(h0, .inr (4, [.ref q5, .null, .null, .null, .null, .null, .null, .null, .int 0, .int 0])), (q5, .inr (7, [.ref q7_5, .ref q15_5, .int (-1), .int 0, .int 0, .int 0])), (q7_5, .inl (c7_5, 6, .inl fun _ => 0)), (q15_5, .inl (c15_5, 6, .inl fun _ => 0))] H := hP
  have hD : va_D A [(h0, .inr (4, [.ref q5, .null, .null, .null, .null, .null, .null, .null, .int 0, .int 0])), (q5, .inr (7, [.ref q7_5, .ref q15_5, .int (-1), .int 0, .int 0, .int 0])), (q7_5, .inl (c7_5, 6, .inl fun _ => 0)), (q15_5, .inl (c15_5, 6, .inl fun _ => 0))] := hD
  refine lv_aload_n hx hb dc_Ou_init_15 rfl (lv_at hl 0 rfl) ?_
  refine lv_bipush (v := 12) hx hb dc_Ou_init_16 (by decide +kernel) ?_
  have k18_1 := hts (.arrayClass .int) (ax_m1 115 (by decide +kernel) rfl)
  have k18_2 : ∀ cA : ClassId, vp_cell cA (12, .inl fun _ => 0) = arrV cA 12 (fun _ => defaultValue .int) := fun _ => rfl
  have k18_3 : ¬ (12 : Int32) < 0 := by decide +kernel
  have k18_4 : (12 : Int32).toNatClampNeg = 12 := by decide +kernel
  have k18_5 : 12 * componentBytes .int ≤ 536870912 := by decide +kernel
  have k18_6 : 3 + 1 ≤ 10 := by decide
  have k18_7 : 18 + 12 ≤ 544 := by decide +kernel
  refine va_newa (atype := .int) (a0 := (12, .inl fun _ => 0)) (ty := .int) hx hb k18_1 rfl hK hP hD hS hA k18_2 k18_3 k18_4 k18_5 k18_6 k18_7 dc_Ou_init_18 (fun q18 c18 H hK hP hD hS => ?_)
  have hP : va_P (dC, dI) vwCl [(h0, .inr (4, [.ref q5, .null, .null, .null, .null, .null, .null, .null, .int 0, .int 0])), (q5, .inr (7, [.ref q7_5, .ref q15_5, .int (-1), .int 0, .int 0, .int 0])), (q7_5, .inl (c7_5, 6, .inl fun _ => 0)), (q15_5, .inl (c15_5, 6, .inl fun _ => 0)), (q18, .inl (c18, 12, .inl fun _ => 0))] H := hP
  have hD : va_D A [(h0, .inr (4, [.ref q5, .null, .null, .null, .null, .null, .null, .null, .int 0, .int 0])), (q5, .inr (7, [.ref q7_5, .ref q15_5, .int (-1), .int 0, .int 0, .int 0])), (q7_5, .inl (c7_5, 6, .inl fun _ => 0)), (q15_5, .inl (c15_5, 6, .inl fun _ => 0)), (q18, .inl (c18, 12, .inl fun _ => 0))] := hD
  have hK : va_K (dC, dI) vwCl [(c7_5, .int), (c15_5, .int), (c18, .int)] s := hK
  refine W.widen (k := 4) (n := 30) (by omega) (by omega) ?_
  refine va_putF (D := (dC, dI)) (ci := 4) (v := .ref q18) (ty := .array .int) (C := RX4) (T := TX4) (N := 10) hx hb hts ax_inX4 tyX4 tyX4_ok nmX4 hown hK hP hD hS 0 rfl rfl 1 (by decide) (hts (.fieldLink RX4 18 "GreyHair$Outlook" "who" "[I") (ax_m1 117 (by decide +kernel) rfl)) (fun _ h9 => h9) rfl hin rfl (by decide +kernel) rfl rfl (Nat.le_of_ble_eq_true rfl) dc_Ou_init_20 (fun H locs hP hD hS => ?_)
  have hP : va_P (dC, dI) vwCl [(h0, .inr (4, [.ref q5, .ref q18, .null, .null, .null, .null, .null, .null, .int 0, .int 0])), (q5, .inr (7, [.ref q7_5, .ref q15_5, .int (-1), .int 0, .int 0, .int 0])), (q7_5, .inl (c7_5, 6, .inl fun _ => 0)), (q15_5, .inl (c15_5, 6, .inl fun _ => 0)), (q18, .inl (c18, 12, .inl fun _ => 0))] H := hP
  have hD : va_D A [(h0, .inr (4, [.ref q5, .ref q18, .null, .null, .null, .null, .null, .null, .int 0, .int 0])), (q5, .inr (7, [.ref q7_5, .ref q15_5, .int (-1), .int 0, .int 0, .int 0])), (q7_5, .inl (c7_5, 6, .inl fun _ => 0)), (q15_5, .inl (c15_5, 6, .inl fun _ => 0)), (q18, .inl (c18, 12, .inl fun _ => 0))] := hD
  refine lv_aload_n hx hb dc_Ou_init_23 rfl (lv_at hl 0 rfl) ?_
  refine lv_bipush (v := 12) hx hb dc_Ou_init_24 (by decide +kernel) ?_
  have k26_1 := hts (.arrayClass .int) (ax_m1 115 (by decide +kernel) rfl)
  have k26_2 : ∀ cA : ClassId, vp_cell cA (12, .inl fun _ => 0) = arrV cA 12 (fun _ => defaultValue .int) := fun _ => rfl
  have k26_3 : ¬ (12 : Int32) < 0 := by decide +kernel
  have k26_4 : (12 : Int32).toNatClampNeg = 12 := by decide +kernel
  have k26_5 : 12 * componentBytes .int ≤ 536870912 := by decide +kernel
  have k26_6 : 4 + 1 ≤ 10 := by decide
  have k26_7 : 30 + 12 ≤ 544 := by decide +kernel
  refine va_newa (atype := .int) (a0 := (12, .inl fun _ => 0)) (ty := .int) hx hb k26_1 rfl hK hP hD hS hA k26_2 k26_3 k26_4 k26_5 k26_6 k26_7 dc_Ou_init_26 (fun q26 c26 H hK hP hD hS => ?_)
  have hP : va_P (dC, dI) vwCl [(h0, .inr (4, [.ref q5, .ref q18, .null, .null, .null, .null, .null, .null, .int 0, .int 0])), (q5, .inr (7, [.ref q7_5, .ref q15_5, .int (-1), .int 0, .int 0, .int 0])), (q7_5, .inl (c7_5, 6, .inl fun _ => 0)), (q15_5, .inl (c15_5, 6, .inl fun _ => 0)), (q18, .inl (c18, 12, .inl fun _ => 0)), (q26, .inl (c26, 12, .inl fun _ => 0))] H := hP
  have hD : va_D A [(h0, .inr (4, [.ref q5, .ref q18, .null, .null, .null, .null, .null, .null, .int 0, .int 0])), (q5, .inr (7, [.ref q7_5, .ref q15_5, .int (-1), .int 0, .int 0, .int 0])), (q7_5, .inl (c7_5, 6, .inl fun _ => 0)), (q15_5, .inl (c15_5, 6, .inl fun _ => 0)), (q18, .inl (c18, 12, .inl fun _ => 0)), (q26, .inl (c26, 12, .inl fun _ => 0))] := hD
  have hK : va_K (dC, dI) vwCl [(c7_5, .int), (c15_5, .int), (c18, .int), (c26, .int)] s := hK
  refine W.widen (k := 5) (n := 42) (by omega) (by omega) ?_
  refine va_putF (D := (dC, dI)) (ci := 4) (v := .ref q26) (ty := .array .int) (C := RX4) (T := TX4) (N := 10) hx hb hts ax_inX4 tyX4 tyX4_ok nmX4 hown hK hP hD hS 0 rfl rfl 2 (by decide) (hts (.fieldLink RX4 22 "GreyHair$Outlook" "whom" "[I") (ax_m1 118 (by decide +kernel) rfl)) (fun _ h9 => h9) rfl hin rfl (by decide +kernel) rfl rfl (Nat.le_of_ble_eq_true rfl) dc_Ou_init_28 (fun H locs hP hD hS => ?_)
  have hP : va_P (dC, dI) vwCl [(h0, .inr (4, [.ref q5, .ref q18, .ref q26, .null, .null, .null, .null, .null, .int 0, .int 0])), (q5, .inr (7, [.ref q7_5, .ref q15_5, .int (-1), .int 0, .int 0, .int 0])), (q7_5, .inl (c7_5, 6, .inl fun _ => 0)), (q15_5, .inl (c15_5, 6, .inl fun _ => 0)), (q18, .inl (c18, 12, .inl fun _ => 0)), (q26, .inl (c26, 12, .inl fun _ => 0))] H := hP
  have hD : va_D A [(h0, .inr (4, [.ref q5, .ref q18, .ref q26, .null, .null, .null, .null, .null, .int 0, .int 0])), (q5, .inr (7, [.ref q7_5, .ref q15_5, .int (-1), .int 0, .int 0, .int 0])), (q7_5, .inl (c7_5, 6, .inl fun _ => 0)), (q15_5, .inl (c15_5, 6, .inl fun _ => 0)), (q18, .inl (c18, 12, .inl fun _ => 0)), (q26, .inl (c26, 12, .inl fun _ => 0))] := hD
  refine lv_aload_n hx hb dc_Ou_init_31 rfl (lv_at hl 0 rfl) ?_
  refine lv_bipush (v := 6) hx hb dc_Ou_init_32 (by decide +kernel) ?_
  have k34_1 := hts (.arrayClass .int) (ax_m1 115 (by decide +kernel) rfl)
  have k34_2 : ∀ cA : ClassId, vp_cell cA (6, .inl fun _ => 0) = arrV cA 6 (fun _ => defaultValue .int) := fun _ => rfl
  have k34_3 : ¬ (6 : Int32) < 0 := by decide +kernel
  have k34_4 : (6 : Int32).toNatClampNeg = 6 := by decide +kernel
  have k34_5 : 6 * componentBytes .int ≤ 536870912 := by decide +kernel
  have k34_6 : 5 + 1 ≤ 10 := by decide
  have k34_7 : 42 + 6 ≤ 544 := by decide +kernel
  refine va_newa (atype := .int) (a0 := (6, .inl fun _ => 0)) (ty := .int) hx hb k34_1 rfl hK hP hD hS hA k34_2 k34_3 k34_4 k34_5 k34_6 k34_7 dc_Ou_init_34 (fun q34 c34 H hK hP hD hS => ?_)
  have hP : va_P (dC, dI) vwCl [(h0, .inr (4, [.ref q5, .ref q18, .ref q26, .null, .null, .null, .null, .null, .int 0, .int 0])), (q5, .inr (7, [.ref q7_5, .ref q15_5, .int (-1), .int 0, .int 0, .int 0])), (q7_5, .inl (c7_5, 6, .inl fun _ => 0)), (q15_5, .inl (c15_5, 6, .inl fun _ => 0)), (q18, .inl (c18, 12, .inl fun _ => 0)), (q26, .inl (c26, 12, .inl fun _ => 0)), (q34, .inl (c34, 6, .inl fun _ => 0))] H := hP
  have hD : va_D A [(h0, .inr (4, [.ref q5, .ref q18, .ref q26, .null, .null, .null, .null, .null, .int 0, .int 0])), (q5, .inr (7, [.ref q7_5, .ref q15_5, .int (-1), .int 0, .int 0, .int 0])), (q7_5, .inl (c7_5, 6, .inl fun _ => 0)), (q15_5, .inl (c15_5, 6, .inl fun _ => 0)), (q18, .inl (c18, 12, .inl fun _ => 0)), (q26, .inl (c26, 12, .inl fun _ => 0)), (q34, .inl (c34, 6, .inl fun _ => 0))] := hD
  have hK : va_K (dC, dI) vwCl [(c7_5, .int), (c15_5, .int), (c18, .int), (c26, .int), (c34, .int)] s := hK
  refine W.widen (k := 6) (n := 48) (by omega) (by omega) ?_
  refine va_putF (D := (dC, dI)) (ci := 4) (v := .ref q34) (ty := .array .int) (C := RX4) (T := TX4) (N := 10) hx hb hts ax_inX4 tyX4 tyX4_ok nmX4 hown hK hP hD hS 0 rfl rfl 3 (by decide) (hts (.fieldLink RX4 25 "GreyHair$Outlook" "knownThen" "[I") (ax_m1 119 (by decide +kernel) rfl)) (fun _ h9 => h9) rfl hin rfl (by decide +kernel) rfl rfl (Nat.le_of_ble_eq_true rfl) dc_Ou_init_36 (fun H locs hP hD hS => ?_)
  have hP : va_P (dC, dI) vwCl [(h0, .inr (4, [.ref q5, .ref q18, .ref q26, .ref q34, .null, .null, .null, .null, .int 0, .int 0])), (q5, .inr (7, [.ref q7_5, .ref q15_5, .int (-1), .int 0, .int 0, .int 0])), (q7_5, .inl (c7_5, 6, .inl fun _ => 0)), (q15_5, .inl (c15_5, 6, .inl fun _ => 0)), (q18, .inl (c18, 12, .inl fun _ => 0)), (q26, .inl (c26, 12, .inl fun _ => 0)), (q34, .inl (c34, 6, .inl fun _ => 0))] H := hP
  have hD : va_D A [(h0, .inr (4, [.ref q5, .ref q18, .ref q26, .ref q34, .null, .null, .null, .null, .int 0, .int 0])), (q5, .inr (7, [.ref q7_5, .ref q15_5, .int (-1), .int 0, .int 0, .int 0])), (q7_5, .inl (c7_5, 6, .inl fun _ => 0)), (q15_5, .inl (c15_5, 6, .inl fun _ => 0)), (q18, .inl (c18, 12, .inl fun _ => 0)), (q26, .inl (c26, 12, .inl fun _ => 0)), (q34, .inl (c34, 6, .inl fun _ => 0))] := hD
  refine lv_aload_n hx hb dc_Ou_init_39 rfl (lv_at hl 0 rfl) ?_
  refine lv_sipush (v := 384) hx hb dc_Ou_init_40 (by decide +kernel) ?_
  have k43_1 := hts (.arrayClass .int) (ax_m1 115 (by decide +kernel) rfl)
  have k43_2 : ∀ cA : ClassId, vp_cell cA (384, .inl fun _ => 0) = arrV cA 384 (fun _ => defaultValue .int) := fun _ => rfl
  have k43_3 : ¬ (384 : Int32) < 0 := by decide +kernel
  have k43_4 : (384 : Int32).toNatClampNeg = 384 := by decide +kernel
  have k43_5 : 384 * componentBytes .int ≤ 536870912 := by decide +kernel
  have k43_6 : 6 + 1 ≤ 10 := by decide
  have k43_7 : 48 + 384 ≤ 544 := by decide +kernel
  refine va_newa (atype := .int) (a0 := (384, .inl fun _ => 0)) (ty := .int) hx hb k43_1 rfl hK hP hD hS hA k43_2 k43_3 k43_4 k43_5 k43_6 k43_7 dc_Ou_init_43 (fun q43 c43 H hK hP hD hS => ?_)
  have hP : va_P (dC, dI) vwCl [(h0, .inr (4, [.ref q5, .ref q18, .ref q26, .ref q34, .null, .null, .null, .null, .int 0, .int 0])), (q5, .inr (7, [.ref q7_5, .ref q15_5, .int (-1), .int 0, .int 0, .int 0])), (q7_5, .inl (c7_5, 6, .inl fun _ => 0)), (q15_5, .inl (c15_5, 6, .inl fun _ => 0)), (q18, .inl (c18, 12, .inl fun _ => 0)), (q26, .inl (c26, 12, .inl fun _ => 0)), (q34, .inl (c34, 6, .inl fun _ => 0)), (q43, .inl (c43, 384, .inl fun _ => 0))] H := hP
  have hD : va_D A [(h0, .inr (4, [.ref q5, .ref q18, .ref q26, .ref q34, .null, .null, .null, .null, .int 0, .int 0])), (q5, .inr (7, [.ref q7_5, .ref q15_5, .int (-1), .int 0, .int 0, .int 0])), (q7_5, .inl (c7_5, 6, .inl fun _ => 0)), (q15_5, .inl (c15_5, 6, .inl fun _ => 0)), (q18, .inl (c18, 12, .inl fun _ => 0)), (q26, .inl (c26, 12, .inl fun _ => 0)), (q34, .inl (c34, 6, .inl fun _ => 0)), (q43, .inl (c43, 384, .inl fun _ => 0))] := hD
  have hK : va_K (dC, dI) vwCl [(c7_5, .int), (c15_5, .int), (c18, .int), (c26, .int), (c34, .int), (c43, .int)] s := hK
  refine W.widen (k := 7) (n := 432) (by omega) (by omega) ?_
  refine va_putF (D := (dC, dI)) (ci := 4) (v := .ref q43) (ty := .array .int) (C := RX4) (T := TX4) (N := 10) hx hb hts ax_inX4 tyX4 tyX4_ok nmX4 hown hK hP hD hS 0 rfl rfl 4 (by decide) (hts (.fieldLink RX4 28 "GreyHair$Outlook" "careThen" "[I") (ax_m1 120 (by decide +kernel) rfl)) (fun _ h9 => h9) rfl hin rfl (by decide +kernel) rfl rfl (Nat.le_of_ble_eq_true rfl) dc_Ou_init_45 (fun H locs hP hD hS => ?_)
  have hP : va_P (dC, dI) vwCl [(h0, .inr (4, [.ref q5, .ref q18, .ref q26, .ref q34, .ref q43, .null, .null, .null, .int 0, .int 0])), (q5, .inr (7, [.ref q7_5, .ref q15_5, .int (-1), .int 0, .int 0, .int 0])), (q7_5, .inl (c7_5, 6, .inl fun _ => 0)), (q15_5, .inl (c15_5, 6, .inl fun _ => 0)), (q18, .inl (c18, 12, .inl fun _ => 0)), (q26, .inl (c26, 12, .inl fun _ => 0)), (q34, .inl (c34, 6, .inl fun _ => 0)), (q43, .inl (c43, 384, .inl fun _ => 0))] H := hP
  have hD : va_D A [(h0, .inr (4, [.ref q5, .ref q18, .ref q26, .ref q34, .ref q43, .null, .null, .null, .int 0, .int 0])), (q5, .inr (7, [.ref q7_5, .ref q15_5, .int (-1), .int 0, .int 0, .int 0])), (q7_5, .inl (c7_5, 6, .inl fun _ => 0)), (q15_5, .inl (c15_5, 6, .inl fun _ => 0)), (q18, .inl (c18, 12, .inl fun _ => 0)), (q26, .inl (c26, 12, .inl fun _ => 0)), (q34, .inl (c34, 6, .inl fun _ => 0)), (q43, .inl (c43, 384, .inl fun _ => 0))] := hD
  refine lv_aload_n hx hb dc_Ou_init_48 rfl (lv_at hl 0 rfl) ?_
  refine lv_bipush (v := 100) hx hb dc_Ou_init_49 (by decide +kernel) ?_
  have k51_1 := hts (.arrayClass .int) (ax_m1 115 (by decide +kernel) rfl)
  have k51_2 : ∀ cA : ClassId, vp_cell cA (100, .inl fun _ => 0) = arrV cA 100 (fun _ => defaultValue .int) := fun _ => rfl
  have k51_3 : ¬ (100 : Int32) < 0 := by decide +kernel
  have k51_4 : (100 : Int32).toNatClampNeg = 100 := by decide +kernel
  have k51_5 : 100 * componentBytes .int ≤ 536870912 := by decide +kernel
  have k51_6 : 7 + 1 ≤ 10 := by decide
  have k51_7 : 432 + 100 ≤ 544 := by decide +kernel
  refine va_newa (atype := .int) (a0 := (100, .inl fun _ => 0)) (ty := .int) hx hb k51_1 rfl hK hP hD hS hA k51_2 k51_3 k51_4 k51_5 k51_6 k51_7 dc_Ou_init_51 (fun q51 c51 H hK hP hD hS => ?_)
  have hP : va_P (dC, dI) vwCl [(h0, .inr (4, [.ref q5, .ref q18, .ref q26, .ref q34, .ref q43, .null, .null, .null, .int 0, .int 0])), (q5, .inr (7, [.ref q7_5, .ref q15_5, .int (-1), .int 0, .int 0, .int 0])), (q7_5, .inl (c7_5, 6, .inl fun _ => 0)), (q15_5, .inl (c15_5, 6, .inl fun _ => 0)), (q18, .inl (c18, 12, .inl fun _ => 0)), (q26, .inl (c26, 12, .inl fun _ => 0)), (q34, .inl (c34, 6, .inl fun _ => 0)), (q43, .inl (c43, 384, .inl fun _ => 0)), (q51, .inl (c51, 100, .inl fun _ => 0))] H := hP
  have hD : va_D A [(h0, .inr (4, [.ref q5, .ref q18, .ref q26, .ref q34, .ref q43, .null, .null, .null, .int 0, .int 0])), (q5, .inr (7, [.ref q7_5, .ref q15_5, .int (-1), .int 0, .int 0, .int 0])), (q7_5, .inl (c7_5, 6, .inl fun _ => 0)), (q15_5, .inl (c15_5, 6, .inl fun _ => 0)), (q18, .inl (c18, 12, .inl fun _ => 0)), (q26, .inl (c26, 12, .inl fun _ => 0)), (q34, .inl (c34, 6, .inl fun _ => 0)), (q43, .inl (c43, 384, .inl fun _ => 0)), (q51, .inl (c51, 100, .inl fun _ => 0))] := hD
  have hK : va_K (dC, dI) vwCl [(c7_5, .int), (c15_5, .int), (c18, .int), (c26, .int), (c34, .int), (c43, .int), (c51, .int)] s := hK
  refine W.widen (k := 8) (n := 532) (by omega) (by omega) ?_
  refine va_putF (D := (dC, dI)) (ci := 4) (v := .ref q51) (ty := .array .int) (C := RX4) (T := TX4) (N := 10) hx hb hts ax_inX4 tyX4 tyX4_ok nmX4 hown hK hP hD hS 0 rfl rfl 5 (by decide) (hts (.fieldLink RX4 31 "GreyHair$Outlook" "winners" "[I") (ax_m1 121 (by decide +kernel) rfl)) (fun _ h9 => h9) rfl hin rfl (by decide +kernel) rfl rfl (Nat.le_of_ble_eq_true rfl) dc_Ou_init_53 (fun H locs hP hD hS => ?_)
  have hP : va_P (dC, dI) vwCl [(h0, .inr (4, [.ref q5, .ref q18, .ref q26, .ref q34, .ref q43, .ref q51, .null, .null, .int 0, .int 0])), (q5, .inr (7, [.ref q7_5, .ref q15_5, .int (-1), .int 0, .int 0, .int 0])), (q7_5, .inl (c7_5, 6, .inl fun _ => 0)), (q15_5, .inl (c15_5, 6, .inl fun _ => 0)), (q18, .inl (c18, 12, .inl fun _ => 0)), (q26, .inl (c26, 12, .inl fun _ => 0)), (q34, .inl (c34, 6, .inl fun _ => 0)), (q43, .inl (c43, 384, .inl fun _ => 0)), (q51, .inl (c51, 100, .inl fun _ => 0))] H := hP
  have hD : va_D A [(h0, .inr (4, [.ref q5, .ref q18, .ref q26, .ref q34, .ref q43, .ref q51, .null, .null, .int 0, .int 0])), (q5, .inr (7, [.ref q7_5, .ref q15_5, .int (-1), .int 0, .int 0, .int 0])), (q7_5, .inl (c7_5, 6, .inl fun _ => 0)), (q15_5, .inl (c15_5, 6, .inl fun _ => 0)), (q18, .inl (c18, 12, .inl fun _ => 0)), (q26, .inl (c26, 12, .inl fun _ => 0)), (q34, .inl (c34, 6, .inl fun _ => 0)), (q43, .inl (c43, 384, .inl fun _ => 0)), (q51, .inl (c51, 100, .inl fun _ => 0))] := hD
  refine lv_aload_n hx hb dc_Ou_init_56 rfl (lv_at hl 0 rfl) ?_
  refine lv_bipush (v := 6) hx hb dc_Ou_init_57 (by decide +kernel) ?_
  have k59_1 := hts (.arrayClass .int) (ax_m1 115 (by decide +kernel) rfl)
  have k59_2 : ∀ cA : ClassId, vp_cell cA (6, .inl fun _ => 0) = arrV cA 6 (fun _ => defaultValue .int) := fun _ => rfl
  have k59_3 : ¬ (6 : Int32) < 0 := by decide +kernel
  have k59_4 : (6 : Int32).toNatClampNeg = 6 := by decide +kernel
  have k59_5 : 6 * componentBytes .int ≤ 536870912 := by decide +kernel
  have k59_6 : 8 + 1 ≤ 10 := by decide
  have k59_7 : 532 + 6 ≤ 544 := by decide +kernel
  refine va_newa (atype := .int) (a0 := (6, .inl fun _ => 0)) (ty := .int) hx hb k59_1 rfl hK hP hD hS hA k59_2 k59_3 k59_4 k59_5 k59_6 k59_7 dc_Ou_init_59 (fun q59 c59 H hK hP hD hS => ?_)
  have hP : va_P (dC, dI) vwCl [(h0, .inr (4, [.ref q5, .ref q18, .ref q26, .ref q34, .ref q43, .ref q51, .null, .null, .int 0, .int 0])), (q5, .inr (7, [.ref q7_5, .ref q15_5, .int (-1), .int 0, .int 0, .int 0])), (q7_5, .inl (c7_5, 6, .inl fun _ => 0)), (q15_5, .inl (c15_5, 6, .inl fun _ => 0)), (q18, .inl (c18, 12, .inl fun _ => 0)), (q26, .inl (c26, 12, .inl fun _ => 0)), (q34, .inl (c34, 6, .inl fun _ => 0)), (q43, .inl (c43, 384, .inl fun _ => 0)), (q51, .inl (c51, 100, .inl fun _ => 0)), (q59, .inl (c59, 6, .inl fun _ => 0))] H := hP
  have hD : va_D A [(h0, .inr (4, [.ref q5, .ref q18, .ref q26, .ref q34, .ref q43, .ref q51, .null, .null, .int 0, .int 0])), (q5, .inr (7, [.ref q7_5, .ref q15_5, .int (-1), .int 0, .int 0, .int 0])), (q7_5, .inl (c7_5, 6, .inl fun _ => 0)), (q15_5, .inl (c15_5, 6, .inl fun _ => 0)), (q18, .inl (c18, 12, .inl fun _ => 0)), (q26, .inl (c26, 12, .inl fun _ => 0)), (q34, .inl (c34, 6, .inl fun _ => 0)), (q43, .inl (c43, 384, .inl fun _ => 0)), (q51, .inl (c51, 100, .inl fun _ => 0)), (q59, .inl (c59, 6, .inl fun _ => 0))] := hD
  have hK : va_K (dC, dI) vwCl [(c7_5, .int), (c15_5, .int), (c18, .int), (c26, .int), (c34, .int), (c43, .int), (c51, .int), (c59, .int)] s := hK
  refine W.widen (k := 9) (n := 538) (by omega) (by omega) ?_
  refine va_putF (D := (dC, dI)) (ci := 4) (v := .ref q59) (ty := .array .int) (C := RX4) (T := TX4) (N := 10) hx hb hts ax_inX4 tyX4 tyX4_ok nmX4 hown hK hP hD hS 0 rfl rfl 6 (by decide) (hts (.fieldLink RX4 34 "GreyHair$Outlook" "grooms" "[I") (ax_m1 122 (by decide +kernel) rfl)) (fun _ h9 => h9) rfl hin rfl (by decide +kernel) rfl rfl (Nat.le_of_ble_eq_true rfl) dc_Ou_init_61 (fun H locs hP hD hS => ?_)
  have hP : va_P (dC, dI) vwCl [(h0, .inr (4, [.ref q5, .ref q18, .ref q26, .ref q34, .ref q43, .ref q51, .ref q59, .null, .int 0, .int 0])), (q5, .inr (7, [.ref q7_5, .ref q15_5, .int (-1), .int 0, .int 0, .int 0])), (q7_5, .inl (c7_5, 6, .inl fun _ => 0)), (q15_5, .inl (c15_5, 6, .inl fun _ => 0)), (q18, .inl (c18, 12, .inl fun _ => 0)), (q26, .inl (c26, 12, .inl fun _ => 0)), (q34, .inl (c34, 6, .inl fun _ => 0)), (q43, .inl (c43, 384, .inl fun _ => 0)), (q51, .inl (c51, 100, .inl fun _ => 0)), (q59, .inl (c59, 6, .inl fun _ => 0))] H := hP
  have hD : va_D A [(h0, .inr (4, [.ref q5, .ref q18, .ref q26, .ref q34, .ref q43, .ref q51, .ref q59, .null, .int 0, .int 0])), (q5, .inr (7, [.ref q7_5, .ref q15_5, .int (-1), .int 0, .int 0, .int 0])), (q7_5, .inl (c7_5, 6, .inl fun _ => 0)), (q15_5, .inl (c15_5, 6, .inl fun _ => 0)), (q18, .inl (c18, 12, .inl fun _ => 0)), (q26, .inl (c26, 12, .inl fun _ => 0)), (q34, .inl (c34, 6, .inl fun _ => 0)), (q43, .inl (c43, 384, .inl fun _ => 0)), (q51, .inl (c51, 100, .inl fun _ => 0)), (q59, .inl (c59, 6, .inl fun _ => 0))] := hD
  refine lv_aload_n hx hb dc_Ou_init_64 rfl (lv_at hl 0 rfl) ?_
  refine lv_bipush (v := 6) hx hb dc_Ou_init_65 (by decide +kernel) ?_
  have k67_1 := hts (.arrayClass .int) (ax_m1 115 (by decide +kernel) rfl)
  have k67_2 : ∀ cA : ClassId, vp_cell cA (6, .inl fun _ => 0) = arrV cA 6 (fun _ => defaultValue .int) := fun _ => rfl
  have k67_3 : ¬ (6 : Int32) < 0 := by decide +kernel
  have k67_4 : (6 : Int32).toNatClampNeg = 6 := by decide +kernel
  have k67_5 : 6 * componentBytes .int ≤ 536870912 := by decide +kernel
  have k67_6 : 9 + 1 ≤ 10 := by decide
  have k67_7 : 538 + 6 ≤ 544 := by decide +kernel
  refine va_newa (atype := .int) (a0 := (6, .inl fun _ => 0)) (ty := .int) hx hb k67_1 rfl hK hP hD hS hA k67_2 k67_3 k67_4 k67_5 k67_6 k67_7 dc_Ou_init_67 (fun q67 c67 H hK hP hD hS => ?_)
  have hP : va_P (dC, dI) vwCl [(h0, .inr (4, [.ref q5, .ref q18, .ref q26, .ref q34, .ref q43, .ref q51, .ref q59, .null, .int 0, .int 0])), (q5, .inr (7, [.ref q7_5, .ref q15_5, .int (-1), .int 0, .int 0, .int 0])), (q7_5, .inl (c7_5, 6, .inl fun _ => 0)), (q15_5, .inl (c15_5, 6, .inl fun _ => 0)), (q18, .inl (c18, 12, .inl fun _ => 0)), (q26, .inl (c26, 12, .inl fun _ => 0)), (q34, .inl (c34, 6, .inl fun _ => 0)), (q43, .inl (c43, 384, .inl fun _ => 0)), (q51, .inl (c51, 100, .inl fun _ => 0)), (q59, .inl (c59, 6, .inl fun _ => 0)), (q67, .inl (c67, 6, .inl fun _ => 0))] H := hP
  have hD : va_D A [(h0, .inr (4, [.ref q5, .ref q18, .ref q26, .ref q34, .ref q43, .ref q51, .ref q59, .null, .int 0, .int 0])), (q5, .inr (7, [.ref q7_5, .ref q15_5, .int (-1), .int 0, .int 0, .int 0])), (q7_5, .inl (c7_5, 6, .inl fun _ => 0)), (q15_5, .inl (c15_5, 6, .inl fun _ => 0)), (q18, .inl (c18, 12, .inl fun _ => 0)), (q26, .inl (c26, 12, .inl fun _ => 0)), (q34, .inl (c34, 6, .inl fun _ => 0)), (q43, .inl (c43, 384, .inl fun _ => 0)), (q51, .inl (c51, 100, .inl fun _ => 0)), (q59, .inl (c59, 6, .inl fun _ => 0)), (q67, .inl (c67, 6, .inl fun _ => 0))] := hD
  have hK : va_K (dC, dI) vwCl [(c7_5, .int), (c15_5, .int), (c18, .int), (c26, .int), (c34, .int), (c43, .int), (c51, .int), (c59, .int), (c67, .int)] s := hK
  refine W.widen (k := 10) (n := 544) (by omega) (by omega) ?_
  refine va_putF (D := (dC, dI)) (ci := 4) (v := .ref q67) (ty := .array .int) (C := RX4) (T := TX4) (N := 10) hx hb hts ax_inX4 tyX4 tyX4_ok nmX4 hown hK hP hD hS 0 rfl rfl 7 (by decide) (hts (.fieldLink RX4 37 "GreyHair$Outlook" "brides" "[I") (ax_m1 123 (by decide +kernel) rfl)) (fun _ h9 => h9) rfl hin rfl (by decide +kernel) rfl rfl (Nat.le_of_ble_eq_true rfl) dc_Ou_init_69 (fun H locs hP hD hS => ?_)
  have hP : va_P (dC, dI) vwCl [(h0, .inr (4, [.ref q5, .ref q18, .ref q26, .ref q34, .ref q43, .ref q51, .ref q59, .ref q67, .int 0, .int 0])), (q5, .inr (7, [.ref q7_5, .ref q15_5, .int (-1), .int 0, .int 0, .int 0])), (q7_5, .inl (c7_5, 6, .inl fun _ => 0)), (q15_5, .inl (c15_5, 6, .inl fun _ => 0)), (q18, .inl (c18, 12, .inl fun _ => 0)), (q26, .inl (c26, 12, .inl fun _ => 0)), (q34, .inl (c34, 6, .inl fun _ => 0)), (q43, .inl (c43, 384, .inl fun _ => 0)), (q51, .inl (c51, 100, .inl fun _ => 0)), (q59, .inl (c59, 6, .inl fun _ => 0)), (q67, .inl (c67, 6, .inl fun _ => 0))] H := hP
  have hD : va_D A [(h0, .inr (4, [.ref q5, .ref q18, .ref q26, .ref q34, .ref q43, .ref q51, .ref q59, .ref q67, .int 0, .int 0])), (q5, .inr (7, [.ref q7_5, .ref q15_5, .int (-1), .int 0, .int 0, .int 0])), (q7_5, .inl (c7_5, 6, .inl fun _ => 0)), (q15_5, .inl (c15_5, 6, .inl fun _ => 0)), (q18, .inl (c18, 12, .inl fun _ => 0)), (q26, .inl (c26, 12, .inl fun _ => 0)), (q34, .inl (c34, 6, .inl fun _ => 0)), (q43, .inl (c43, 384, .inl fun _ => 0)), (q51, .inl (c51, 100, .inl fun _ => 0)), (q59, .inl (c59, 6, .inl fun _ => 0)), (q67, .inl (c67, 6, .inl fun _ => 0))] := hD
  have hP9 := hP.sub (ws' := [(h0, .inr (4, [.ref q5, .ref q18, .ref q26, .ref q34, .ref q43, .ref q51, .ref q59, .ref q67, .int 0, .int 0])), (q5, .inr (7, [.ref q7_5, .ref q15_5, .int (-1), .int 0, .int 0, .int 0])), (q7_5, .inl (c7_5, 6, .inl fun _ => 0)), (q15_5, .inl (c15_5, 6, .inl fun _ => 0)), (q18, .inl (c18, 12, .inl fun _ => 0)), (q26, .inl (c26, 12, .inl fun _ => 0)), (q34, .inl (c34, 6, .inl fun _ => 0)), (q43, .inl (c43, 384, .inl fun _ => 0)), (q51, .inl (c51, 100, .inl fun _ => 0)), (q59, .inl (c59, 6, .inl fun _ => 0)), (q67, .inl (c67, 6, .inl fun _ => 0))]) [0, 1, 2, 3, 4, 5, 6, 7, 8, 9, 10] rfl
  have hD9 := hD.sub (ws' := [(h0, .inr (4, [.ref q5, .ref q18, .ref q26, .ref q34, .ref q43, .ref q51, .ref q59, .ref q67, .int 0, .int 0])), (q5, .inr (7, [.ref q7_5, .ref q15_5, .int (-1), .int 0, .int 0, .int 0])), (q7_5, .inl (c7_5, 6, .inl fun _ => 0)), (q15_5, .inl (c15_5, 6, .inl fun _ => 0)), (q18, .inl (c18, 12, .inl fun _ => 0)), (q26, .inl (c26, 12, .inl fun _ => 0)), (q34, .inl (c34, 6, .inl fun _ => 0)), (q43, .inl (c43, 384, .inl fun _ => 0)), (q51, .inl (c51, 100, .inl fun _ => 0)), (q59, .inl (c59, 6, .inl fun _ => 0)), (q67, .inl (c67, 6, .inl fun _ => 0))]) [0, 1, 2, 3, 4, 5, 6, 7, 8, 9, 10] (by decide) rfl
  have hK9 := hK.sub (tys' := [(c7_5, .int), (c15_5, .int), (c18, .int), (c26, .int), (c34, .int), (c43, .int), (c51, .int), (c59, .int), (c67, .int)]) [0, 1, 2, 3, 4, 5, 6, 7, 8] rfl
  exact W.vret hx hb hr (fun t ht hW => ⟨⟨(), rfl, trivial, q5, q7_5, c7_5, q15_5, c15_5, q18, c18, q26, c26, q34, c34, q43, c43, q51, c51, q59, c59, q67, c67, by rw [ht]; exact hP9, va_K.moved hW.alike hK9, hD9⟩, hS.F ht⟩) hS.2.2 dc_Ou_init_72
theorem dc_Si_init_0 : decode cX6_init 0 = .ok (.aload_n 0, 1) := by decide +kernel
theorem dc_Si_init_1 : decode cX6_init 1 = .ok (.invokespecial 3, 3) := by decide +kernel
theorem dc_Si_init_4 : decode cX6_init 4 = .ok (.aload_n 0, 1) := by decide +kernel
theorem dc_Si_init_5 : decode cX6_init 5 = .ok (.bipush 30, 2) := by decide +kernel
theorem dc_Si_init_7 : decode cX6_init 7 = .ok (.newarray .int, 2) := by decide +kernel
theorem dc_Si_init_9 : decode cX6_init 9 = .ok (.putfield 11, 3) := by decide +kernel
theorem dc_Si_init_12 : decode cX6_init 12 = .ok (.aload_n 0, 1) := by decide +kernel
theorem dc_Si_init_13 : decode cX6_init 13 = .ok (.bipush 30, 2) := by decide +kernel
theorem dc_Si_init_15 : decode cX6_init 15 = .ok (.newarray .int, 2) := by decide +kernel
theorem dc_Si_init_17 : decode cX6_init 17 = .ok (.putfield 15, 3) := by decide +kernel
theorem dc_Si_init_20 : decode cX6_init 20 = .ok (.aload_n 0, 1) := by decide +kernel
theorem dc_Si_init_21 : decode cX6_init 21 = .ok (.bipush 30, 2) := by decide +kernel
theorem dc_Si_init_23 : decode cX6_init 23 = .ok (.newarray .boolean, 2) := by decide +kernel
theorem dc_Si_init_25 : decode cX6_init 25 = .ok (.putfield 18, 3) := by decide +kernel
theorem dc_Si_init_28 : decode cX6_init 28 = .ok (.aload_n 0, 1) := by decide +kernel
theorem dc_Si_init_29 : decode cX6_init 29 = .ok (.bipush 30, 2) := by decide +kernel
theorem dc_Si_init_31 : decode cX6_init 31 = .ok (.newarray .int, 2) := by decide +kernel
theorem dc_Si_init_33 : decode cX6_init 33 = .ok (.putfield 22, 3) := by decide +kernel
theorem dc_Si_init_36 : decode cX6_init 36 = .ok (.aload_n 0, 1) := by decide +kernel
theorem dc_Si_init_37 : decode cX6_init 37 = .ok (.bipush 30, 2) := by decide +kernel
theorem dc_Si_init_39 : decode cX6_init 39 = .ok (.newarray .int, 2) := by decide +kernel
theorem dc_Si_init_41 : decode cX6_init 41 = .ok (.putfield 25, 3) := by decide +kernel
theorem dc_Si_init_44 : decode cX6_init 44 = .ok (.aload_n 0, 1) := by decide +kernel
theorem dc_Si_init_45 : decode cX6_init 45 = .ok (.new 28, 3) := by decide +kernel
theorem dc_Si_init_48 : decode cX6_init 48 = .ok (.dup, 1) := by decide +kernel
theorem dc_Si_init_49 : decode cX6_init 49 = .ok (.invokespecial 30, 3) := by decide +kernel
theorem dc_Si_init_52 : decode cX6_init 52 = .ok (.putfield 31, 3) := by decide +kernel
theorem dc_Si_init_55 : decode cX6_init 55 = .ok (.aload_n 0, 1) := by decide +kernel
theorem dc_Si_init_56 : decode cX6_init 56 = .ok (.sipush 1000, 3) := by decide +kernel
theorem dc_Si_init_59 : decode cX6_init 59 = .ok (.newarray .byte, 2) := by decide +kernel
theorem dc_Si_init_61 : decode cX6_init 61 = .ok (.putfield 35, 3) := by decide +kernel
theorem dc_Si_init_64 : decode cX6_init 64 = .ok (.aload_n 0, 1) := by decide +kernel
theorem dc_Si_init_65 : decode cX6_init 65 = .ok (.bipush 100, 2) := by decide +kernel
theorem dc_Si_init_67 : decode cX6_init 67 = .ok (.newarray .boolean, 2) := by decide +kernel
theorem dc_Si_init_69 : decode cX6_init 69 = .ok (.putfield 39, 3) := by decide +kernel
theorem dc_Si_init_72 : decode cX6_init 72 = .ok (.aload_n 0, 1) := by decide +kernel
theorem dc_Si_init_73 : decode cX6_init 73 = .ok (.bipush 7, 2) := by decide +kernel
theorem dc_Si_init_75 : decode cX6_init 75 = .ok (.newarray .int, 2) := by decide +kernel
theorem dc_Si_init_77 : decode cX6_init 77 = .ok (.putfield 42, 3) := by decide +kernel
theorem dc_Si_init_80 : decode cX6_init 80 = .ok (.return_, 1) := by decide +kernel
theorem Si_init_wg : ∀ w ∈ (Cond.code yX6_init cX6_init 1 none :: ax_tb), w ∈ ax_tb := List.forall_mem_cons.mpr ⟨(ax_m1 185 (by decide +kernel) rfl), fun _ h => h⟩
def Si_init_B (dC : Nat → ClassId) (dI : Nat → Nat → Nat) (A : Nat → Prop) (h0 : Nat) : Unit → State → Prop := fun _ t => ∃ q7 : Nat, ∃ c7 : ClassId, ∃ q15 : Nat, ∃ c15 : ClassId, ∃ q23 : Nat, ∃ c23 : ClassId, ∃ q31 : Nat, ∃ c31 : ClassId, ∃ q39 : Nat, ∃ c39 : ClassId, ∃ q45 : Nat, ∃ q7_45 : Nat, ∃ c7_45 : ClassId, ∃ q15_45 : Nat, ∃ c15_45 : ClassId, ∃ q59 : Nat, ∃ c59 : ClassId, ∃ q67 : Nat, ∃ c67 : ClassId, ∃ q75 : Nat, ∃ c75 : ClassId, va_P (dC, dI) vwCl [(h0, .inr (6, [.ref q7, .ref q15, .ref q23, .ref q31, .ref q39, .ref q45, .ref q59, .ref q67, .ref q75, .int 0, .int 0])), (q7, .inl (c7, 30, .inl fun _ => 0)), (q15, .inl (c15, 30, .inl fun _ => 0)), (q23, .inl (c23, 30, .inl fun _ => 0)), (q31, .inl (c31, 30, .inl fun _ => 0)), (q39, .inl (c39, 30, .inl fun _ => 0)), (q45, .inr (7, [.ref q7_45, .ref q15_45, .int (-1), .int 0, .int 0, .int 0])), (q7_45, .inl (c7_45, 6, .inl fun _ => 0)), (q15_45, .inl (c15_45, 6, .inl fun _ => 0)), (q59, .inl (c59, 1000, .inl fun _ => 0)), (q67, .inl (c67, 100, .inl fun _ => 0)), (q75, .inl (c75, 7, .inl fun _ => 0))] t.heap ∧ va_K (dC, dI) vwCl [(c7, .int), (c15, .int), (c23, .boolean), (c31, .int), (c39, .int), (c7_45, .int), (c15_45, .int), (c59, .byte), (c67, .boolean), (c75, .int)] t ∧ va_D A [(h0, .inr (6, [.ref q7, .ref q15, .ref q23, .ref q31, .ref q39, .ref q45, .ref q59, .ref q67, .ref q75, .int 0, .int 0])), (q7, .inl (c7, 30, .inl fun _ => 0)), (q15, .inl (c15, 30, .inl fun _ => 0)), (q23, .inl (c23, 30, .inl fun _ => 0)), (q31, .inl (c31, 30, .inl fun _ => 0)), (q39, .inl (c39, 30, .inl fun _ => 0)), (q45, .inr (7, [.ref q7_45, .ref q15_45, .int (-1), .int 0, .int 0, .int 0])), (q7_45, .inl (c7_45, 6, .inl fun _ => 0)), (q15_45, .inl (c15_45, 6, .inl fun _ => 0)), (q59, .inl (c59, 1000, .inl fun _ => 0)), (q67, .inl (c67, 100, .inl fun _ => 0)), (q75, .inl (c75, 7, .inl fun _ => 0))]
set_option maxHeartbeats 1000000 in
set_option maxRecDepth 100000 in
theorem Si_init_cn (l : Launch) (dC : Nat → ClassId) (dI : Nat → Nat → Nat) (h0 : Nat) (sz : Nat) : Met l yX6_init (Cond.code yX6_init cX6_init 1 none :: ax_tb) ({ frames := 2, cells := 11, slots := 1275, locals := 32 }) (va_Pc [.ref h0] (fun U => U.heap.size = sz ∧ va_P (dC, dI) vwCl [(h0, .inr (6, [.null, .null, .null, .null, .null, .null, .null, .null, .null, .int 0, .int 0]))] U.heap ∧ va_K (dC, dI) vwCl [] U ∧ va_D (fun _ => True) [(h0, .inr (6, [.null, .null, .null, .null, .null, .null, .null, .null, .null, .int 0, .int 0]))] ∧ va_Nw (.methodLinkNest RX6 30 yX7_init "GreyHair") U)) (va_Qv (fun _ : Unit => True) (Si_init_B dC dI (va_A [(h0, .inr (6, [.null, .null, .null, .null, .null, .null, .null, .null, .null, .int 0, .int 0]))] sz) h0) (va_A [(h0, .inr (6, [.null, .null, .null, .null, .null, .null, .null, .null, .null, .int 0, .int 0]))] sz)) 11 1275 (va_A [(h0, .inr (6, [.null, .null, .null, .null, .null, .null, .null, .null, .null, .int 0, .int 0]))] sz) := by
  refine Met.ofW (cc := cX6_init) (maxL := 1) (ret := none) (by decide) rfl ?_
  intro p e s m args below meth c s₁ B hml hv
  obtain ⟨rfl, hsz, hP, hK, hD0, hN0⟩ := hv
  have hx := B.exec
  have hb := B.bytes
  have hr := B.returns
  have hts0 := atoms_spec (ws := Cond.code yX6_init cX6_init 1 none :: ax_tb) B.pre
  have hts : ∀ w ∈ ax_tb, w.before _ s = true := fun w h => hts0 w (List.mem_cons_of_mem _ h)
  have hown : s.vm.findClass RX6 = some m.cls := findClass_of_methodNamed B.named
  have hlocks := B.notSynchronized
  have hin : meth.name = "<init>" := (name_of_methodNamed B.named B.method).1
  subst hsz
  have hD := hD0.self (sz := s.heap.size)
  generalize hAe : va_A [(h0, .inr (6, [.null, .null, .null, .null, .null, .null, .null, .null, .null, .int 0, .int 0]))] s.heap.size = A at hD ⊢
  have hA : ∀ q : Nat, s.heap.size ≤ q → A q := fun q h => by rw [← hAe]; exact Or.inr h
  have hS : va_S A s.heap s.heap [] := va_S.rf
  have hP : va_P (dC, dI) vwCl [(h0, .inr (6, [.null, .null, .null, .null, .null, .null, .null, .null, .null, .int 0, .int 0]))] s.heap := hP
  have hl := lv_entry ([.ref h0]) (n := 1) (Nat.le_of_ble_eq_true rfl)
  rw [lg_entry_eq]
  generalize (lg_sl ([.ref h0]) ++ List.replicate (1 - (lg_sl ([.ref h0])).length) Slot.unset).toArray = ls at hl ⊢
  have hl : lv_has ls 1 [(0, .ref h0)] := hl
  refine lv_aload_n hx hb dc_Si_init_0 rfl (lv_at hl 0 rfl) ?_
  refine W.objInit hx hb hown (hts (.methodLink RX6 3 Lib.objectInit) (ax_m1 186 (by decide +kernel) rfl)) (hts (.instanceMethod Lib.objectInit) (ax_m1 24 (by decide +kernel) rfl)) (hts (.code Lib.objectInit ⟨#[0xb1]⟩ 1 none) (ax_m1 25 (by decide +kernel) rfl)) rfl (by rw [hml]; exact hl.1) rfl dc_Si_init_1 (Nat.le_of_ble_eq_true rfl) (Nat.le_of_ble_eq_true rfl) ?_
  refine W.eq (g2 := F0 m 4 ls []) rfl ?_
  refine lv_aload_n hx hb dc_Si_init_4 rfl (lv_at hl 0 rfl) ?_
  refine lv_bipush (v := 30) hx hb dc_Si_init_5 (by decide +kernel) ?_
  have k7_1 := hts (.arrayClass .int) (ax_m1 115 (by decide +kernel) rfl)
  have k7_2 : ∀ cA : ClassId, vp_cell cA (30, .inl fun _ => 0) = arrV cA 30 (fun _ => defaultValue .int) := fun _ => rfl
  have k7_3 : ¬ (30 : Int32) < 0 := by decide +kernel
  have k7_4 : (30 : Int32).toNatClampNeg = 30 := by decide +kernel
  have k7_5 : 30 * componentBytes .int ≤ 536870912 := by decide +kernel
  have k7_6 : 0 + 1 ≤ 11 := by decide
  have k7_7 : 0 + 30 ≤ 1275 := by decide +kernel
  refine va_newa (atype := .int) (a0 := (30, .inl fun _ => 0)) (ty := .int) hx hb k7_1 rfl hK hP hD hS hA k7_2 k7_3 k7_4 k7_5 k7_6 k7_7 dc_Si_init_7 (fun q7 c7 H hK hP hD hS => ?_)
  have hP : va_P (dC, dI) vwCl [(h0, .inr (6, [.null, .null, .null, .null, .null, .null, .null, .null, .null, .int 0, .int 0])), (q7, .inl (c7, 30, .inl fun _ => 0))] H := hP
  have hD : va_D A [(h0, .inr (6, [.null, .null, .null, .null, .null, .null, .null, .null, .null, .int 0, .int 0])), (q7, .inl (c7, 30, .inl fun _ => 0))] := hD
  have hK : va_K (dC, dI) vwCl [(c7, .int)] s := hK
  refine W.widen (k := 1) (n := 30) (by omega) (by omega) ?_
  refine va_putF (D := (dC, dI)) (ci := 6) (v := .ref q7) (ty := .array .int) (C := RX6) (T := TX6) (N := 11) hx hb hts ax_inX6 tyX6 tyX6_ok nmX6 hown hK hP hD hS 0 rfl rfl 0 (by decide) (hts (.fieldLink RX6 11 "GreyHair$Sights" "days" "[I") (ax_m1 189 (by decide +kernel) rfl)) (fun _ h9 => h9) rfl hin rfl (by decide +kernel) rfl rfl (Nat.le_of_ble_eq_true rfl) dc_Si_init_9 (fun H locs hP hD hS => ?_)
  have hP : va_P (dC, dI) vwCl [(h0, .inr (6, [.ref q7, .null, .null, .null, .null, .null, .null, .null, .null, .int 0, .int 0])), (q7, .inl (c7, 30, .inl fun _ => 0))] H := hP
  have hD : va_D A [(h0, .inr (6, [.ref q7, .null, .null, .null, .null, .null, .null, .null, .null, .int 0, .int 0])), (q7, .inl (c7, 30, .inl fun _ => 0))] := hD
  refine lv_aload_n hx hb dc_Si_init_12 rfl (lv_at hl 0 rfl) ?_
  refine lv_bipush (v := 30) hx hb dc_Si_init_13 (by decide +kernel) ?_
  have k15_1 := hts (.arrayClass .int) (ax_m1 115 (by decide +kernel) rfl)
  have k15_2 : ∀ cA : ClassId, vp_cell cA (30, .inl fun _ => 0) = arrV cA 30 (fun _ => defaultValue .int) := fun _ => rfl
  have k15_3 : ¬ (30 : Int32) < 0 := by decide +kernel
  have k15_4 : (30 : Int32).toNatClampNeg = 30 := by decide +kernel
  have k15_5 : 30 * componentBytes .int ≤ 536870912 := by decide +kernel
  have k15_6 : 1 + 1 ≤ 11 := by decide
  have k15_7 : 30 + 30 ≤ 1275 := by decide +kernel
  refine va_newa (atype := .int) (a0 := (30, .inl fun _ => 0)) (ty := .int) hx hb k15_1 rfl hK hP hD hS hA k15_2 k15_3 k15_4 k15_5 k15_6 k15_7 dc_Si_init_15 (fun q15 c15 H hK hP hD hS => ?_)
  have hP : va_P (dC, dI) vwCl [(h0, .inr (6, [.ref q7, .null, .null, .null, .null, .null, .null, .null, .null, .int 0, .int 0])), (q7, .inl (c7, 30, .inl fun _ => 0)), (q15, .inl (c15, 30, .inl fun _ => 0))] H := hP
  have hD : va_D A [(h0, .inr (6, [.ref q7, .null, .null, .null, .null, .null, .null, .null, .null, .int 0, .int 0])), (q7, .inl (c7, 30, .inl fun _ => 0)), (q15, .inl (c15, 30, .inl fun _ => 0))] := hD
  have hK : va_K (dC, dI) vwCl [(c7, .int), (c15, .int)] s := hK
  refine W.widen (k := 2) (n := 60) (by omega) (by omega) ?_
  refine va_putF (D := (dC, dI)) (ci := 6) (v := .ref q15) (ty := .array .int) (C := RX6) (T := TX6) (N := 11) hx hb hts ax_inX6 tyX6 tyX6_ok nmX6 hown hK hP hD hS 0 rfl rfl 1 (by decide) (hts (.fieldLink RX6 15 "GreyHair$Sights" "persons" "[I") (ax_m1 190 (by decide +kernel) rfl)) (fun _ h9 => h9) rfl hin rfl (by decide +kernel) rfl rfl (Nat.le_of_ble_eq_true rfl) dc_Si_init_17 (fun H locs hP hD hS => ?_)
  have hP : va_P (dC, dI) vwCl [(h0, .inr (6, [.ref q7, .ref q15, .null, .null, .null, .null, .null, .null, .null, .int 0, .int 0])), (q7, .inl (c7, 30, .inl fun _ => 0)), (q15, .inl (c15, 30, .inl fun _ => 0))] H := hP
  have hD : va_D A [(h0, .inr (6, [.ref q7, .ref q15, .null, .null, .null, .null, .null, .null, .null, .int 0, .int 0])), (q7, .inl (c7, 30, .inl fun _ => 0)), (q15, .inl (c15, 30, .inl fun _ => 0))] := hD
  refine lv_aload_n hx hb dc_Si_init_20 rfl (lv_at hl 0 rfl) ?_
  refine lv_bipush (v := 30) hx hb dc_Si_init_21 (by decide +kernel) ?_
  have k23_1 := hts (.arrayClass .boolean) (ax_m1 180 (by decide +kernel) rfl)
  have k23_2 : ∀ cA : ClassId, vp_cell cA (30, .inl fun _ => 0) = arrV cA 30 (fun _ => defaultValue .boolean) := fun _ => rfl
  have k23_3 : ¬ (30 : Int32) < 0 := by decide +kernel
  have k23_4 : (30 : Int32).toNatClampNeg = 30 := by decide +kernel
  have k23_5 : 30 * componentBytes .boolean ≤ 536870912 := by decide +kernel
  have k23_6 : 2 + 1 ≤ 11 := by decide
  have k23_7 : 60 + 30 ≤ 1275 := by decide +kernel
  refine va_newa (atype := .boolean) (a0 := (30, .inl fun _ => 0)) (ty := .boolean) hx hb k23_1 rfl hK hP hD hS hA k23_2 k23_3 k23_4 k23_5 k23_6 k23_7 dc_Si_init_23 (fun q23 c23 H hK hP hD hS => ?_)
  have hP : va_P (dC, dI) vwCl [(h0, .inr (6, [.ref q7, .ref q15, .null, .null, .null, .null, .null, .null, .null, .int 0, .int 0])), (q7, .inl (c7, 30, .inl fun _ => 0)), (q15, .inl (c15, 30, .inl fun _ => 0)), (q23, .inl (c23, 30, .inl fun _ => 0))] H := hP
  have hD : va_D A [(h0, .inr (6, [.ref q7, .ref q15, .null, .null, .null, .null, .null, .null, .null, .int 0, .int 0])), (q7, .inl (c7, 30, .inl fun _ => 0)), (q15, .inl (c15, 30, .inl fun _ => 0)), (q23, .inl (c23, 30, .inl fun _ => 0))] := hD
  have hK : va_K (dC, dI) vwCl [(c7, .int), (c15, .int), (c23, .boolean)] s := hK
  refine W.widen (k := 3) (n := 90) (by omega) (by omega) ?_
  refine va_putF (D := (dC, dI)) (ci := 6) (v := .ref q23) (ty := .array .boolean) (C := RX6) (T := TX6) (N := 11) hx hb hts ax_inX6 tyX6 tyX6_ok nmX6 hown hK hP hD hS 0 rfl rfl 2 (by decide) (hts (.fieldLink RX6 18 "GreyHair$Sights" "was" "[Z") (ax_m1 191 (by decide +kernel) rfl)) (fun _ h9 => h9) rfl hin rfl (by decide +kernel) rfl rfl (Nat.le_of_ble_eq_true rfl) dc_Si_init_25 (fun H locs hP hD hS => ?_)
  have hP : va_P (dC, dI) vwCl [(h0, .inr (6, [.ref q7, .ref q15, .ref q23, .null, .null, .null, .null, .null, .null, .int 0, .int 0])), (q7, .inl (c7, 30, .inl fun _ => 0)), (q15, .inl (c15, 30, .inl fun _ => 0)), (q23, .inl (c23, 30, .inl fun _ => 0))] H := hP
  have hD : va_D A [(h0, .inr (6, [.ref q7, .ref q15, .ref q23, .null, .null, .null, .null, .null, .null, .int 0, .int 0])), (q7, .inl (c7, 30, .inl fun _ => 0)), (q15, .inl (c15, 30, .inl fun _ => 0)), (q23, .inl (c23, 30, .inl fun _ => 0))] := hD
  refine lv_aload_n hx hb dc_Si_init_28 rfl (lv_at hl 0 rfl) ?_
  refine lv_bipush (v := 30) hx hb dc_Si_init_29 (by decide +kernel) ?_
  have k31_1 := hts (.arrayClass .int) (ax_m1 115 (by decide +kernel) rfl)
  have k31_2 : ∀ cA : ClassId, vp_cell cA (30, .inl fun _ => 0) = arrV cA 30 (fun _ => defaultValue .int) := fun _ => rfl
  have k31_3 : ¬ (30 : Int32) < 0 := by decide +kernel
  have k31_4 : (30 : Int32).toNatClampNeg = 30 := by decide +kernel
  have k31_5 : 30 * componentBytes .int ≤ 536870912 := by decide +kernel
  have k31_6 : 3 + 1 ≤ 11 := by decide
  have k31_7 : 90 + 30 ≤ 1275 := by decide +kernel
  refine va_newa (atype := .int) (a0 := (30, .inl fun _ => 0)) (ty := .int) hx hb k31_1 rfl hK hP hD hS hA k31_2 k31_3 k31_4 k31_5 k31_6 k31_7 dc_Si_init_31 (fun q31 c31 H hK hP hD hS => ?_)
  have hP : va_P (dC, dI) vwCl [(h0, .inr (6, [.ref q7, .ref q15, .ref q23, .null, .null, .null, .null, .null, .null, .int 0, .int 0])), (q7, .inl (c7, 30, .inl fun _ => 0)), (q15, .inl (c15, 30, .inl fun _ => 0)), (q23, .inl (c23, 30, .inl fun _ => 0)), (q31, .inl (c31, 30, .inl fun _ => 0))] H := hP
  have hD : va_D A [(h0, .inr (6, [.ref q7, .ref q15, .ref q23, .null, .null, .null, .null, .null, .null, .int 0, .int 0])), (q7, .inl (c7, 30, .inl fun _ => 0)), (q15, .inl (c15, 30, .inl fun _ => 0)), (q23, .inl (c23, 30, .inl fun _ => 0)), (q31, .inl (c31, 30, .inl fun _ => 0))] := hD
  have hK : va_K (dC, dI) vwCl [(c7, .int), (c15, .int), (c23, .boolean), (c31, .int)] s := hK
  refine W.widen (k := 4) (n := 120) (by omega) (by omega) ?_
  refine va_putF (D := (dC, dI)) (ci := 6) (v := .ref q31) (ty := .array .int) (C := RX6) (T := TX6) (N := 11) hx hb hts ax_inX6 tyX6 tyX6_ok nmX6 hown hK hP hD hS 0 rfl rfl 3 (by decide) (hts (.fieldLink RX6 22 "GreyHair$Sights" "toldAt" "[I") (ax_m1 192 (by decide +kernel) rfl)) (fun _ h9 => h9) rfl hin rfl (by decide +kernel) rfl rfl (Nat.le_of_ble_eq_true rfl) dc_Si_init_33 (fun H locs hP hD hS => ?_)
  have hP : va_P (dC, dI) vwCl [(h0, .inr (6, [.ref q7, .ref q15, .ref q23, .ref q31, .null, .null, .null, .null, .null, .int 0, .int 0])), (q7, .inl (c7, 30, .inl fun _ => 0)), (q15, .inl (c15, 30, .inl fun _ => 0)), (q23, .inl (c23, 30, .inl fun _ => 0)), (q31, .inl (c31, 30, .inl fun _ => 0))] H := hP
  have hD : va_D A [(h0, .inr (6, [.ref q7, .ref q15, .ref q23, .ref q31, .null, .null, .null, .null, .null, .int 0, .int 0])), (q7, .inl (c7, 30, .inl fun _ => 0)), (q15, .inl (c15, 30, .inl fun _ => 0)), (q23, .inl (c23, 30, .inl fun _ => 0)), (q31, .inl (c31, 30, .inl fun _ => 0))] := hD
  refine lv_aload_n hx hb dc_Si_init_36 rfl (lv_at hl 0 rfl) ?_
  refine lv_bipush (v := 30) hx hb dc_Si_init_37 (by decide +kernel) ?_
  have k39_1 := hts (.arrayClass .int) (ax_m1 115 (by decide +kernel) rfl)
  have k39_2 : ∀ cA : ClassId, vp_cell cA (30, .inl fun _ => 0) = arrV cA 30 (fun _ => defaultValue .int) := fun _ => rfl
  have k39_3 : ¬ (30 : Int32) < 0 := by decide +kernel
  have k39_4 : (30 : Int32).toNatClampNeg = 30 := by decide +kernel
  have k39_5 : 30 * componentBytes .int ≤ 536870912 := by decide +kernel
  have k39_6 : 4 + 1 ≤ 11 := by decide
  have k39_7 : 120 + 30 ≤ 1275 := by decide +kernel
  refine va_newa (atype := .int) (a0 := (30, .inl fun _ => 0)) (ty := .int) hx hb k39_1 rfl hK hP hD hS hA k39_2 k39_3 k39_4 k39_5 k39_6 k39_7 dc_Si_init_39 (fun q39 c39 H hK hP hD hS => ?_)
  have hP : va_P (dC, dI) vwCl [(h0, .inr (6, [.ref q7, .ref q15, .ref q23, .ref q31, .null, .null, .null, .null, .null, .int 0, .int 0])), (q7, .inl (c7, 30, .inl fun _ => 0)), (q15, .inl (c15, 30, .inl fun _ => 0)), (q23, .inl (c23, 30, .inl fun _ => 0)), (q31, .inl (c31, 30, .inl fun _ => 0)), (q39, .inl (c39, 30, .inl fun _ => 0))] H := hP
  have hD : va_D A [(h0, .inr (6, [.ref q7, .ref q15, .ref q23, .ref q31, .null, .null, .null, .null, .null, .int 0, .int 0])), (q7, .inl (c7, 30, .inl fun _ => 0)), (q15, .inl (c15, 30, .inl fun _ => 0)), (q23, .inl (c23, 30, .inl fun _ => 0)), (q31, .inl (c31, 30, .inl fun _ => 0)), (q39, .inl (c39, 30, .inl fun _ => 0))] := hD
  have hK : va_K (dC, dI) vwCl [(c7, .int), (c15, .int), (c23, .boolean), (c31, .int), (c39, .int)] s := hK
  refine W.widen (k := 5) (n := 150) (by omega) (by omega) ?_
  refine va_putF (D := (dC, dI)) (ci := 6) (v := .ref q39) (ty := .array .int) (C := RX6) (T := TX6) (N := 11) hx hb hts ax_inX6 tyX6 tyX6_ok nmX6 hown hK hP hD hS 0 rfl rfl 4 (by decide) (hts (.fieldLink RX6 25 "GreyHair$Sights" "untoldAt" "[I") (ax_m1 193 (by decide +kernel) rfl)) (fun _ h9 => h9) rfl hin rfl (by decide +kernel) rfl rfl (Nat.le_of_ble_eq_true rfl) dc_Si_init_41 (fun H locs hP hD hS => ?_)
  have hP : va_P (dC, dI) vwCl [(h0, .inr (6, [.ref q7, .ref q15, .ref q23, .ref q31, .ref q39, .null, .null, .null, .null, .int 0, .int 0])), (q7, .inl (c7, 30, .inl fun _ => 0)), (q15, .inl (c15, 30, .inl fun _ => 0)), (q23, .inl (c23, 30, .inl fun _ => 0)), (q31, .inl (c31, 30, .inl fun _ => 0)), (q39, .inl (c39, 30, .inl fun _ => 0))] H := hP
  have hD : va_D A [(h0, .inr (6, [.ref q7, .ref q15, .ref q23, .ref q31, .ref q39, .null, .null, .null, .null, .int 0, .int 0])), (q7, .inl (c7, 30, .inl fun _ => 0)), (q15, .inl (c15, 30, .inl fun _ => 0)), (q23, .inl (c23, 30, .inl fun _ => 0)), (q31, .inl (c31, 30, .inl fun _ => 0)), (q39, .inl (c39, 30, .inl fun _ => 0))] := hD
  refine lv_aload_n hx hb dc_Si_init_44 rfl (lv_at hl 0 rfl) ?_
  have k45_6 : 5 + 1 ≤ 11 := by decide
  have k45_7 : 150 + 6 ≤ 1275 := by decide +kernel
  refine va_new (ci := 7) (fs := [.null, .null, .int 0, .int 0, .int 0, .int 0]) (C := RX7) (T := TX7) (N := 6) hx hb hts ax_inX7 tyX7 tyX7_ok hown (hts (.classLink RX6 28 RX7) (ax_m1 187 (by decide +kernel) rfl)) (hts (.instantiable RX7 6) (ax_m1 74 (by decide +kernel) rfl)) (hts (.initialized RX7) (ax_m1 4 (by decide +kernel) rfl)) hK hP hD hS hA rfl (fun j hj => match j, hj with | 0, _ => rfl | 1, _ => rfl | 2, _ => rfl | 3, _ => rfl | 4, _ => rfl | 5, _ => rfl | j + 6, h => absurd h (by omega)) k45_6 k45_7 dc_Si_init_45 (fun q45 H hP hD hS => ?_)
  have hP : va_P (dC, dI) vwCl [(h0, .inr (6, [.ref q7, .ref q15, .ref q23, .ref q31, .ref q39, .null, .null, .null, .null, .int 0, .int 0])), (q7, .inl (c7, 30, .inl fun _ => 0)), (q15, .inl (c15, 30, .inl fun _ => 0)), (q23, .inl (c23, 30, .inl fun _ => 0)), (q31, .inl (c31, 30, .inl fun _ => 0)), (q39, .inl (c39, 30, .inl fun _ => 0)), (q45, .inr (7, [.null, .null, .int 0, .int 0, .int 0, .int 0]))] H := hP
  have hD : va_D A [(h0, .inr (6, [.ref q7, .ref q15, .ref q23, .ref q31, .ref q39, .null, .null, .null, .null, .int 0, .int 0])), (q7, .inl (c7, 30, .inl fun _ => 0)), (q15, .inl (c15, 30, .inl fun _ => 0)), (q23, .inl (c23, 30, .inl fun _ => 0)), (q31, .inl (c31, 30, .inl fun _ => 0)), (q39, .inl (c39, 30, .inl fun _ => 0)), (q45, .inr (7, [.null, .null, .int 0, .int 0, .int 0, .int 0]))] := hD
  refine W.widen (k := 6) (n := 156) (by omega) (by omega) ?_
  refine lv_dup hx hb dc_Si_init_48 rfl ?_
  have hPc := hP.sub (ws' := [(q45, .inr (7, [.null, .null, .int 0, .int 0, .int 0, .int 0]))]) [6] rfl
  have hDc := hD.sub (ws' := [(q45, .inr (7, [.null, .null, .int 0, .int 0, .int 0, .int 0]))]) [6] (by decide) rfl
  have hKc := hK.sub (tys' := []) [] rfl
  have hFc := va_free (wc := [(q45, .inr (7, [.null, .null, .int 0, .int 0, .int 0, .int 0]))]) hD hS hA [6] rfl
  have k49_6 : 6 + 2 ≤ 11 := by decide
  have k49_7 : 156 + 12 ≤ 1275 := by decide +kernel
  refine va_callv (va_runIN (As := []) (rest := [.ref q45, .ref h0]) ⟨hx, hb, hml, hown, hts⟩ (St_init_cn l dC dI q45 H.size) ⟨va_cnB 0 hts (ax_goodIn St_init_wg) rfl rfl rfl hN0 (hts (.initialized yX7_init.cls) (ax_m1 4 (by decide +kernel) rfl)) (by decide +kernel) ⟨Nat.le_of_ble_eq_true rfl, Nat.le_of_ble_eq_true rfl⟩, rfl, hts (.instanceMethod yX7_init) (ax_m1 76 (by decide +kernel) rfl)⟩ ⟨fun a U g mk q => by obtain ⟨q0, q1, qP, qK, qD⟩ := q; exact ⟨q0, q1, qP, va_K.moved (u := U) (U := U.calling g mk a) (Vm.Alike.refl U.vm) qK, qD⟩, fun U hU hW => ⟨rfl, by rw [hU], by rw [hU]; exact hPc, va_K.moved hW.alike hKc, hDc.weaken (fun _ _ _ _ => trivial)⟩⟩ rfl rfl hl.1 rfl (lv_room (Nat.le_of_ble_eq_true rfl)) dc_Si_init_49 ⟨k49_6, k49_7⟩) hS (fun q _ h => hFc q h) hFc (fun u t H1 locs ht hvm _ hB hz1 hk1 hS => ?_)
  obtain ⟨q7_45, c7_45, q15_45, c15_45, hP1, hK1, hD1⟩ := hB
  rw [ht] at hP1
  have hK1 := va_K.moved hvm.symm hK1
  obtain ⟨hP, hD⟩ := va_join (wr := [(h0, .inr (6, [.ref q7, .ref q15, .ref q23, .ref q31, .ref q39, .null, .null, .null, .null, .int 0, .int 0])), (q7, .inl (c7, 30, .inl fun _ => 0)), (q15, .inl (c15, 30, .inl fun _ => 0)), (q23, .inl (c23, 30, .inl fun _ => 0)), (q31, .inl (c31, 30, .inl fun _ => 0)), (q39, .inl (c39, 30, .inl fun _ => 0))]) (w1 := [(q45, .inr (7, [.ref q7_45, .ref q15_45, .int (-1), .int 0, .int 0, .int 0])), (q7_45, .inl (c7_45, 6, .inl fun _ => 0)), (q15_45, .inl (c15_45, 6, .inl fun _ => 0))]) hP hD [6] [0, 1, 2, 3, 4, 5] rfl rfl (by decide) (by decide) hk1 hFc hP1 hD1
  have hK := (hK.sub (tys' := [(c7, .int), (c15, .int), (c23, .boolean), (c31, .int), (c39, .int)]) [0, 1, 2, 3, 4] rfl).app hK1
  generalize H1 = H at hP hS ⊢
  have hP : va_P (dC, dI) vwCl [(h0, .inr (6, [.ref q7, .ref q15, .ref q23, .ref q31, .ref q39, .null, .null, .null, .null, .int 0, .int 0])), (q7, .inl (c7, 30, .inl fun _ => 0)), (q15, .inl (c15, 30, .inl fun _ => 0)), (q23, .inl (c23, 30, .inl fun _ => 0)), (q31, .inl (c31, 30, .inl fun _ => 0)), (q39, .inl (c39, 30, .inl fun _ => 0)), (q45, .inr (7, [.ref q7_45, .ref q15_45, .int (-1), .int 0, .int 0, .int 0])), (q7_45, .inl (c7_45, 6, .inl fun _ => 0)), (q15_45, .inl (c15_45, 6, .inl fun _ => 0))] H := hP
  have hD : va_D A [(h0, .inr (6, [.ref q7, .ref q15, .ref q23, .ref q31, .ref q39, .null, .null, .null, .null, .int 0, .int 0])), (q7, .inl (c7, 30, .inl fun _ => 0)), (q15, .inl (c15, 30, .inl fun _ => 0)), (q23, .inl (c23, 30, .inl fun _ => 0)), (q31, .inl (c31, 30, .inl fun _ => 0)), (q39, .inl (c39, 30, .inl fun _ => 0)), (q45, .inr (7, [.ref q7_45, .ref q15_45, .int (-1), .int 0, .int 0, .int 0])), (q7_45, .inl (c7_45, 6, .inl fun _ => 0)), (q15_45, .inl (c15_45, 6, .inl fun _ => 0))] := hD
  have hK : va_K (dC, dI) vwCl [(c7, .int), (c15, .int), (c23, .boolean), (c31, .int), (c39, .int), (c7_45, .int), (c15_45, .int)] s := hK
  refine W.widen (k := 8) (n := 168) (by omega) (by omega) ?_
  refine va_putF (D := (dC, dI)) (ci := 6) (v := .ref q45) (ty := .object "GreyHair$State") (C := RX6) (T := TX6) (N := 11) hx hb hts ax_inX6 tyX6 tyX6_ok nmX6 hown hK hP hD hS 0 rfl rfl 5 (by decide) (hts (.fieldLink RX6 31 "GreyHair$Sights" "trial" "LGreyHair$State;") (ax_m1 194 (by decide +kernel) rfl)) (fun _ h9 => h9) rfl hin rfl (by decide +kernel) rfl rfl (Nat.le_of_ble_eq_true rfl) dc_Si_init_52 (fun H locs hP hD hS => ?_)
  have hP : va_P (dC, dI) vwCl [(h0, .inr (6, [.ref q7, .ref q15, .ref q23, .ref q31, .ref q39, .ref q45, .null, .null, .null, .int 0, .int 0])), (q7, .inl (c7, 30, .inl fun _ => 0)), (q15, .inl (c15, 30, .inl fun _ => 0)), (q23, .inl (c23, 30, .inl fun _ => 0)), (q31, .inl (c31, 30, .inl fun _ => 0)), (q39, .inl (c39, 30, .inl fun _ => 0)), (q45, .inr (7, [.ref q7_45, .ref q15_45, .int (-1), .int 0, .int 0, .int 0])), (q7_45, .inl (c7_45, 6, .inl fun _ => 0)), (q15_45, .inl (c15_45, 6, .inl fun _ => 0))] H := hP
  have hD : va_D A [(h0, .inr (6, [.ref q7, .ref q15, .ref q23, .ref q31, .ref q39, .ref q45, .null, .null, .null, .int 0, .int 0])), (q7, .inl (c7, 30, .inl fun _ => 0)), (q15, .inl (c15, 30, .inl fun _ => 0)), (q23, .inl (c23, 30, .inl fun _ => 0)), (q31, .inl (c31, 30, .inl fun _ => 0)), (q39, .inl (c39, 30, .inl fun _ => 0)), (q45, .inr (7, [.ref q7_45, .ref q15_45, .int (-1), .int 0, .int 0, .int 0])), (q7_45, .inl (c7_45, 6, .inl fun _ => 0)), (q15_45, .inl (c15_45, 6, .inl fun _ => 0))] := hD
  refine lv_aload_n hx hb dc_Si_init_55 rfl (lv_at hl 0 rfl) ?_
  refine lv_sipush (v := 1000) hx hb dc_Si_init_56 (by decide +kernel) ?_
  have k59_1 := hts (.arrayClass .byte) (ax_m1 66 (by decide +kernel) rfl)
  have k59_2 : ∀ cA : ClassId, vp_cell cA (1000, .inl fun _ => 0) = arrV cA 1000 (fun _ => defaultValue .byte) := fun _ => rfl
  have k59_3 : ¬ (1000 : Int32) < 0 := by decide +kernel
  have k59_4 : (1000 : Int32).toNatClampNeg = 1000 := by decide +kernel
  have k59_5 : 1000 * componentBytes .byte ≤ 536870912 := by decide +kernel
  have k59_6 : 8 + 1 ≤ 11 := by decide
  have k59_7 : 168 + 1000 ≤ 1275 := by decide +kernel
  refine va_newa (atype := .byte) (a0 := (1000, .inl fun _ => 0)) (ty := .byte) hx hb k59_1 rfl hK hP hD hS hA k59_2 k59_3 k59_4 k59_5 k59_6 k59_7 dc_Si_init_59 (fun q59 c59 H hK hP hD hS => ?_)
  have hP : va_P (dC, dI) vwCl [(h0, .inr (6, [.ref q7, .ref q15, .ref q23, .ref q31, .ref q39, .ref q45, .null, .null, .null, .int 0, .int 0])), (q7, .inl (c7, 30, .inl fun _ => 0)), (q15, .inl (c15, 30, .inl fun _ => 0)), (q23, .inl (c23, 30, .inl fun _ => 0)), (q31, .inl (c31, 30, .inl fun _ => 0)), (q39, .inl (c39, 30, .inl fun _ => 0)), (q45, .inr (7, [.ref q7_45, .ref q15_45, .int (-1), .int 0, .int 0, .int 0])), (q7_45, .inl (c7_45, 6, .inl fun _ => 0)), (q15_45, .inl (c15_45, 6, .inl fun _ => 0)), (q59, .inl (c59, 1000, .inl fun _ => 0))] H := hP
  have hD : va_D A [(h0, .inr (6, [.ref q7, .ref q15, .ref q23, .ref q31, .ref q39, .ref q45, .null, .null, .null, .int 0, .int 0])), (q7, .inl (c7, 30, .inl fun _ => 0)), (q15, .inl (c15, 30, .inl fun _ => 0)), (q23, .inl (c23, 30, .inl fun _ => 0)), (q31, .inl (c31, 30, .inl fun _ => 0)), (q39, .inl (c39, 30, .inl fun _ => 0)), (q45, .inr (7, [.ref q7_45, .ref q15_45, .int (-1), .int 0, .int 0, .int 0])), (q7_45, .inl (c7_45, 6, .inl fun _ => 0)), (q15_45, .inl (c15_45, 6, .inl fun _ => 0)), (q59, .inl (c59, 1000, .inl fun _ => 0))] := hD
  have hK : va_K (dC, dI) vwCl [(c7, .int), (c15, .int), (c23, .boolean), (c31, .int), (c39, .int), (c7_45, .int), (c15_45, .int), (c59, .byte)] s := hK
  refine W.widen (k := 9) (n := 1168) (by omega) (by omega) ?_
  refine va_putF (D := (dC, dI)) (ci := 6) (v := .ref q59) (ty := .array .byte) (C := RX6) (T := TX6) (N := 11) hx hb hts ax_inX6 tyX6 tyX6_ok nmX6 hown hK hP hD hS 0 rfl rfl 6 (by decide) (hts (.fieldLink RX6 35 "GreyHair$Sights" "hairs" "[B") (ax_m1 195 (by decide +kernel) rfl)) (fun _ h9 => h9) rfl hin rfl (by decide +kernel) rfl rfl (Nat.le_of_ble_eq_true rfl) dc_Si_init_61 (fun H locs hP hD hS => ?_)
  have hP : va_P (dC, dI) vwCl [(h0, .inr (6, [.ref q7, .ref q15, .ref q23, .ref q31, .ref q39, .ref q45, .ref q59, .null, .null, .int 0, .int 0])), (q7, .inl (c7, 30, .inl fun _ => 0)), (q15, .inl (c15, 30, .inl fun _ => 0)), (q23, .inl (c23, 30, .inl fun _ => 0)), (q31, .inl (c31, 30, .inl fun _ => 0)), (q39, .inl (c39, 30, .inl fun _ => 0)), (q45, .inr (7, [.ref q7_45, .ref q15_45, .int (-1), .int 0, .int 0, .int 0])), (q7_45, .inl (c7_45, 6, .inl fun _ => 0)), (q15_45, .inl (c15_45, 6, .inl fun _ => 0)), (q59, .inl (c59, 1000, .inl fun _ => 0))] H := hP
  have hD : va_D A [(h0, .inr (6, [.ref q7, .ref q15, .ref q23, .ref q31, .ref q39, .ref q45, .ref q59, .null, .null, .int 0, .int 0])), (q7, .inl (c7, 30, .inl fun _ => 0)), (q15, .inl (c15, 30, .inl fun _ => 0)), (q23, .inl (c23, 30, .inl fun _ => 0)), (q31, .inl (c31, 30, .inl fun _ => 0)), (q39, .inl (c39, 30, .inl fun _ => 0)), (q45, .inr (7, [.ref q7_45, .ref q15_45, .int (-1), .int 0, .int 0, .int 0])), (q7_45, .inl (c7_45, 6, .inl fun _ => 0)), (q15_45, .inl (c15_45, 6, .inl fun _ => 0)), (q59, .inl (c59, 1000, .inl fun _ => 0))] := hD
  refine lv_aload_n hx hb dc_Si_init_64 rfl (lv_at hl 0 rfl) ?_
  refine lv_bipush (v := 100) hx hb dc_Si_init_65 (by decide +kernel) ?_
  have k67_1 := hts (.arrayClass .boolean) (ax_m1 180 (by decide +kernel) rfl)
  have k67_2 : ∀ cA : ClassId, vp_cell cA (100, .inl fun _ => 0) = arrV cA 100 (fun _ => defaultValue .boolean) := fun _ => rfl
  have k67_3 : ¬ (100 : Int32) < 0 := by decide +kernel
  have k67_4 : (100 : Int32).toNatClampNeg = 100 := by decide +kernel
  have k67_5 : 100 * componentBytes .boolean ≤ 536870912 := by decide +kernel
  have k67_6 : 9 + 1 ≤ 11 := by decide
  have k67_7 : 1168 + 100 ≤ 1275 := by decide +kernel
  refine va_newa (atype := .boolean) (a0 := (100, .inl fun _ => 0)) (ty := .boolean) hx hb k67_1 rfl hK hP hD hS hA k67_2 k67_3 k67_4 k67_5 k67_6 k67_7 dc_Si_init_67 (fun q67 c67 H hK hP hD hS => ?_)
  have hP : va_P (dC, dI) vwCl [(h0, .inr (6, [.ref q7, .ref q15, .ref q23, .ref q31, .ref q39, .ref q45, .ref q59, .null, .null, .int 0, .int 0])), (q7, .inl (c7, 30, .inl fun _ => 0)), (q15, .inl (c15, 30, .inl fun _ => 0)), (q23, .inl (c23, 30, .inl fun _ => 0)), (q31, .inl (c31, 30, .inl fun _ => 0)), (q39, .inl (c39, 30, .inl fun _ => 0)), (q45, .inr (7, [.ref q7_45, .ref q15_45, .int (-1), .int 0, .int 0, .int 0])), (q7_45, .inl (c7_45, 6, .inl fun _ => 0)), (q15_45, .inl (c15_45, 6, .inl fun _ => 0)), (q59, .inl (c59, 1000, .inl fun _ => 0)), (q67, .inl (c67, 100, .inl fun _ => 0))] H := hP
  have hD : va_D A [(h0, .inr (6, [.ref q7, .ref q15, .ref q23, .ref q31, .ref q39, .ref q45, .ref q59, .null, .null, .int 0, .int 0])), (q7, .inl (c7, 30, .inl fun _ => 0)), (q15, .inl (c15, 30, .inl fun _ => 0)), (q23, .inl (c23, 30, .inl fun _ => 0)), (q31, .inl (c31, 30, .inl fun _ => 0)), (q39, .inl (c39, 30, .inl fun _ => 0)), (q45, .inr (7, [.ref q7_45, .ref q15_45, .int (-1), .int 0, .int 0, .int 0])), (q7_45, .inl (c7_45, 6, .inl fun _ => 0)), (q15_45, .inl (c15_45, 6, .inl fun _ => 0)), (q59, .inl (c59, 1000, .inl fun _ => 0)), (q67, .inl (c67, 100, .inl fun _ => 0))] := hD
  have hK : va_K (dC, dI) vwCl [(c7, .int), (c15, .int), (c23, .boolean), (c31, .int), (c39, .int), (c7_45, .int), (c15_45, .int), (c59, .byte), (c67, .boolean)] s := hK
  refine W.widen (k := 10) (n := 1268) (by omega) (by omega) ?_
  refine va_putF (D := (dC, dI)) (ci := 6) (v := .ref q67) (ty := .array .boolean) (C := RX6) (T := TX6) (N := 11) hx hb hts ax_inX6 tyX6 tyX6_ok nmX6 hown hK hP hD hS 0 rfl rfl 7 (by decide) (hts (.fieldLink RX6 39 "GreyHair$Sights" "isFitting" "[Z") (ax_m1 196 (by decide +kernel) rfl)) (fun _ h9 => h9) rfl hin rfl (by decide +kernel) rfl rfl (Nat.le_of_ble_eq_true rfl) dc_Si_init_69 (fun H locs hP hD hS => ?_)
  have hP : va_P (dC, dI) vwCl [(h0, .inr (6, [.ref q7, .ref q15, .ref q23, .ref q31, .ref q39, .ref q45, .ref q59, .ref q67, .null, .int 0, .int 0])), (q7, .inl (c7, 30, .inl fun _ => 0)), (q15, .inl (c15, 30, .inl fun _ => 0)), (q23, .inl (c23, 30, .inl fun _ => 0)), (q31, .inl (c31, 30, .inl fun _ => 0)), (q39, .inl (c39, 30, .inl fun _ => 0)), (q45, .inr (7, [.ref q7_45, .ref q15_45, .int (-1), .int 0, .int 0, .int 0])), (q7_45, .inl (c7_45, 6, .inl fun _ => 0)), (q15_45, .inl (c15_45, 6, .inl fun _ => 0)), (q59, .inl (c59, 1000, .inl fun _ => 0)), (q67, .inl (c67, 100, .inl fun _ => 0))] H := hP
  have hD : va_D A [(h0, .inr (6, [.ref q7, .ref q15, .ref q23, .ref q31, .ref q39, .ref q45, .ref q59, .ref q67, .null, .int 0, .int 0])), (q7, .inl (c7, 30, .inl fun _ => 0)), (q15, .inl (c15, 30, .inl fun _ => 0)), (q23, .inl (c23, 30, .inl fun _ => 0)), (q31, .inl (c31, 30, .inl fun _ => 0)), (q39, .inl (c39, 30, .inl fun _ => 0)), (q45, .inr (7, [.ref q7_45, .ref q15_45, .int (-1), .int 0, .int 0, .int 0])), (q7_45, .inl (c7_45, 6, .inl fun _ => 0)), (q15_45, .inl (c15_45, 6, .inl fun _ => 0)), (q59, .inl (c59, 1000, .inl fun _ => 0)), (q67, .inl (c67, 100, .inl fun _ => 0))] := hD
  refine lv_aload_n hx hb dc_Si_init_72 rfl (lv_at hl 0 rfl) ?_
  refine lv_bipush (v := 7) hx hb dc_Si_init_73 (by decide +kernel) ?_
  have k75_1 := hts (.arrayClass .int) (ax_m1 115 (by decide +kernel) rfl)
  have k75_2 : ∀ cA : ClassId, vp_cell cA (7, .inl fun _ => 0) = arrV cA 7 (fun _ => defaultValue .int) := fun _ => rfl
  have k75_3 : ¬ (7 : Int32) < 0 := by decide +kernel
  have k75_4 : (7 : Int32).toNatClampNeg = 7 := by decide +kernel
  have k75_5 : 7 * componentBytes .int ≤ 536870912 := by decide +kernel
  have k75_6 : 10 + 1 ≤ 11 := by decide
  have k75_7 : 1268 + 7 ≤ 1275 := by decide +kernel
  refine va_newa (atype := .int) (a0 := (7, .inl fun _ => 0)) (ty := .int) hx hb k75_1 rfl hK hP hD hS hA k75_2 k75_3 k75_4 k75_5 k75_6 k75_7 dc_Si_init_75 (fun q75 c75 H hK hP hD hS => ?_)
  have hP : va_P (dC, dI) vwCl [(h0, .inr (6, [.ref q7, .ref q15, .ref q23, .ref q31, .ref q39, .ref q45, .ref q59, .ref q67, .null, .int 0, .int 0])), (q7, .inl (c7, 30, .inl fun _ => 0)), (q15, .inl (c15, 30, .inl fun _ => 0)), (q23, .inl (c23, 30, .inl fun _ => 0)), (q31, .inl (c31, 30, .inl fun _ => 0)), (q39, .inl (c39, 30, .inl fun _ => 0)), (q45, .inr (7, [.ref q7_45, .ref q15_45, .int (-1), .int 0, .int 0, .int 0])), (q7_45, .inl (c7_45, 6, .inl fun _ => 0)), (q15_45, .inl (c15_45, 6, .inl fun _ => 0)), (q59, .inl (c59, 1000, .inl fun _ => 0)), (q67, .inl (c67, 100, .inl fun _ => 0)), (q75, .inl (c75, 7, .inl fun _ => 0))] H := hP
  have hD : va_D A [(h0, .inr (6, [.ref q7, .ref q15, .ref q23, .ref q31, .ref q39, .ref q45, .ref q59, .ref q67, .null, .int 0, .int 0])), (q7, .inl (c7, 30, .inl fun _ => 0)), (q15, .inl (c15, 30, .inl fun _ => 0)), (q23, .inl (c23, 30, .inl fun _ => 0)), (q31, .inl (c31, 30, .inl fun _ => 0)), (q39, .inl (c39, 30, .inl fun _ => 0)), (q45, .inr (7, [.ref q7_45, .ref q15_45, .int (-1), .int 0, .int 0, .int 0])), (q7_45, .inl (c7_45, 6, .inl fun _ => 0)), (q15_45, .inl (c15_45, 6, .inl fun _ => 0)), (q59, .inl (c59, 1000, .inl fun _ => 0)), (q67, .inl (c67, 100, .inl fun _ => 0)), (q75, .inl (c75, 7, .inl fun _ => 0))] := hD
  have hK : va_K (dC, dI) vwCl [(c7, .int), (c15, .int), (c23, .boolean), (c31, .int), (c39, .int), (c7_45, .int), (c15_45, .int), (c59, .byte), (c67, .boolean), (c75, .int)] s := hK
  refine W.widen (k := 11) (n := 1275) (by omega) (by omega) ?_
  refine va_putF (D := (dC, dI)) (ci := 6) (v := .ref q75) (ty := .array .int) (C := RX6) (T := TX6) (N := 11) hx hb hts ax_inX6 tyX6 tyX6_ok nmX6 hown hK hP hD hS 0 rfl rfl 8 (by decide) (hts (.fieldLink RX6 42 "GreyHair$Sights" "left" "[I") (ax_m1 197 (by decide +kernel) rfl)) (fun _ h9 => h9) rfl hin rfl (by decide +kernel) rfl rfl (Nat.le_of_ble_eq_true rfl) dc_Si_init_77 (fun H locs hP hD hS => ?_)
  have hP : va_P (dC, dI) vwCl [(h0, .inr (6, [.ref q7, .ref q15, .ref q23, .ref q31, .ref q39, .ref q45, .ref q59, .ref q67, .ref q75, .int 0, .int 0])), (q7, .inl (c7, 30, .inl fun _ => 0)), (q15, .inl (c15, 30, .inl fun _ => 0)), (q23, .inl (c23, 30, .inl fun _ => 0)), (q31, .inl (c31, 30, .inl fun _ => 0)), (q39, .inl (c39, 30, .inl fun _ => 0)), (q45, .inr (7, [.ref q7_45, .ref q15_45, .int (-1), .int 0, .int 0, .int 0])), (q7_45, .inl (c7_45, 6, .inl fun _ => 0)), (q15_45, .inl (c15_45, 6, .inl fun _ => 0)), (q59, .inl (c59, 1000, .inl fun _ => 0)), (q67, .inl (c67, 100, .inl fun _ => 0)), (q75, .inl (c75, 7, .inl fun _ => 0))] H := hP
  have hD : va_D A [(h0, .inr (6, [.ref q7, .ref q15, .ref q23, .ref q31, .ref q39, .ref q45, .ref q59, .ref q67, .ref q75, .int 0, .int 0])), (q7, .inl (c7, 30, .inl fun _ => 0)), (q15, .inl (c15, 30, .inl fun _ => 0)), (q23, .inl (c23, 30, .inl fun _ => 0)), (q31, .inl (c31, 30, .inl fun _ => 0)), (q39, .inl (c39, 30, .inl fun _ => 0)), (q45, .inr (7, [.ref q7_45, .ref q15_45, .int (-1), .int 0, .int 0, .int 0])), (q7_45, .inl (c7_45, 6, .inl fun _ => 0)), (q15_45, .inl (c15_45, 6, .inl fun _ => 0)), (q59, .inl (c59, 1000, .inl fun _ => 0)), (q67, .inl (c67, 100, .inl fun _ => 0)), (q75, .inl (c75, 7, .inl fun _ => 0))] := hD
  have hP9 := hP.sub (ws' := [(h0, .inr (6, [.ref q7, .ref q15, .ref q23, .ref q31, .ref q39, .ref q45, .ref q59, .ref q67, .ref q75, .int 0, .int 0])), (q7, .inl (c7, 30, .inl fun _ => 0)), (q15, .inl (c15, 30, .inl fun _ => 0)), (q23, .inl (c23, 30, .inl fun _ => 0)), (q31, .inl (c31, 30, .inl fun _ => 0)), (q39, .inl (c39, 30, .inl fun _ => 0)), (q45, .inr (7, [.ref q7_45, .ref q15_45, .int (-1), .int 0, .int 0, .int 0])), (q7_45, .inl (c7_45, 6, .inl fun _ => 0)), (q15_45, .inl (c15_45, 6, .inl fun _ => 0)), (q59, .inl (c59, 1000, .inl fun _ => 0)), (q67, .inl (c67, 100, .inl fun _ => 0)), (q75, .inl (c75, 7, .inl fun _ => 0))]) [0, 1, 2, 3, 4, 5, 6, 7, 8, 9, 10, 11] rfl
  have hD9 := hD.sub (ws' := [(h0, .inr (6, [.ref q7, .ref q15, .ref q23, .ref q31, .ref q39, .ref q45, .ref q59, .ref q67, .ref q75, .int 0, .int 0])), (q7, .inl (c7, 30, .inl fun _ => 0)), (q15, .inl (c15, 30, .inl fun _ => 0)), (q23, .inl (c23, 30, .inl fun _ => 0)), (q31, .inl (c31, 30, .inl fun _ => 0)), (q39, .inl (c39, 30, .inl fun _ => 0)), (q45, .inr (7, [.ref q7_45, .ref q15_45, .int (-1), .int 0, .int 0, .int 0])), (q7_45, .inl (c7_45, 6, .inl fun _ => 0)), (q15_45, .inl (c15_45, 6, .inl fun _ => 0)), (q59, .inl (c59, 1000, .inl fun _ => 0)), (q67, .inl (c67, 100, .inl fun _ => 0)), (q75, .inl (c75, 7, .inl fun _ => 0))]) [0, 1, 2, 3, 4, 5, 6, 7, 8, 9, 10, 11] (by decide) rfl
  have hK9 := hK.sub (tys' := [(c7, .int), (c15, .int), (c23, .boolean), (c31, .int), (c39, .int), (c7_45, .int), (c15_45, .int), (c59, .byte), (c67, .boolean), (c75, .int)]) [0, 1, 2, 3, 4, 5, 6, 7, 8, 9] rfl
  exact W.vret hx hb hr (fun t ht hW => ⟨⟨(), rfl, trivial, q7, c7, q15, c15, q23, c23, q31, c31, q39, c39, q45, q7_45, c7_45, q15_45, c15_45, q59, c59, q67, c67, q75, c75, by rw [ht]; exact hP9, va_K.moved hW.alike hK9, hD9⟩, hS.F ht⟩) hS.2.2 dc_Si_init_80

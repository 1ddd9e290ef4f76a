-- arrays, statics
section SND4
variable {p : Program} {l : Launch} {e : Env} {R : Room} {s : State} {m : MethodId} {args : Array Value} {below : List Frame} {meth : Method} {c : Code} {cells slots : Nat} {Q : State → Prop}
variable {D : va_G} {ad : Nat → Nat} {ca : Nat → ClassId} {A : Nat → Prop} {cc : ByteArray} {nL oc L : Nat} {fx : Nat → Int}
theorem ax_okf_t {k n : Nat} {t' : Nat} (h : ax_okv L (.inr (.inr (.inl (k, t', n))))) (h4 : ¬ t' ≤ 4) : (t' = 9 ∧ k = 1000) ∨ (t' = 8 ∧ n = 17 ∧ k = 1001) ∨ (t' = 7 ∧ n = L ∧ k = 1002) ∨ (t' = 6 ∧ n = 11 ∧ k = 1003) := by
  rcases (show (t' ≤ 4 ∧ ax_kd k = (t', n)) ∨ (t' = 9 ∧ k = 1000) ∨ ((t', n) = (8, 17) ∧ k = 1001) ∨ ((t', n) = (7, L) ∧ k = 1002) ∨ ((t', n) = (6, 11) ∧ k = 1003) from h) with ⟨z, -⟩ | z | ⟨z, q⟩ | ⟨z, q⟩ | ⟨z, q⟩
  · exact absurd z h4
  · exact Or.inl z
  · exact Or.inr (Or.inl ⟨congrArg Prod.fst z, congrArg Prod.snd z, q⟩)
  · exact Or.inr (Or.inr (Or.inl ⟨congrArg Prod.fst z, congrArg Prod.snd z, q⟩))
  · exact Or.inr (Or.inr (Or.inr ⟨congrArg Prod.fst z, congrArg Prod.snd z, q⟩))
theorem sn_iaload (C : ax_Cx p s m args c D ad ca A cc nL oc L fx) {r ls : List AV} {σ : Hp} {pc k t n : Nat} {i : Int} (hd : decode cc pc = .ok (.iaload, 1)) (ht : t = 1 ∨ t = 7) (hi : 0 ≤ i ∧ i < (n : Int))
    (h : ax_SW p l e R s m args below meth c cells slots Q D ad ca A nL L (pc + 1) (ax_ard fx t k i.toNat σ :: r) ls σ) : ax_SW p l e R s m args below meth c cells slots Q D ad ca A nL L pc (.inl i :: .inr (.inr (.inl (k, t, n))) :: r) ls σ := by
  intro H locs la hP hD hS hH hst hls hn hl
  obtain ⟨hin, hcl⟩ := vp_inA (n := n) (ok_h hst) hi
  rcases ht with rfl | rfl
  · have hk := ax_ok_k (ok_h (ok_t hst)) (by decide)
    have hkN : k < ax_N := ax_kd_lt (by rw [hk]; simp)
    have hr : R32 (σ k i.toNat) := by have := hH k; rw [hk] at this; exact this _
    have hk2 := h H locs la hP hD hS hH (ok_c (v := .inl (σ k i.toNat)) hr (ok_t (ok_t hst))) hls hn hl
    refine va_iald C.1 C.2.1 (ax_Kk C.2.2.2.2.2.1 hk (by decide) (by decide)) hP k 0 (ax_wo_at hkN |>.trans (by rw [ax_ce_int hk (by decide) (by decide)])) rfl hin hd ?_
    rw [hcl]
    exact hk2
  · rcases ax_okf_t (ok_h (ok_t hst)) (by decide) with z | z | ⟨-, rfl, rfl⟩ | z
    · exact absurd z.1 (by decide)
    · exact absurd z.1 (by decide)
    · obtain ⟨⟨xs, hxs, hX, hnA, hlt, -⟩, -⟩ := C.2.2.2.2.2.2.1
      have hj := hxs i.toNat (by omega)
      refine va_sld C.1 C.2.1 hX hlt hnA hS hin hd ?_
      rw [hcl, hj.1]
      exact h H locs la hP hD hS hH (ok_c (v := .inl (fx i.toNat)) hj.2 (ok_t (ok_t hst))) hls hn hl
    · exact absurd z.1 (by decide)
theorem ax_sg_b : ∀ j, j < 11 → ([59, 40, 41, 60, 62, 61, 43, 45, 42, 47, 37] : List Int32).getD j 0 = Int32.ofInt (ax_sg j) ∧ -2147483648 ≤ ax_sg j ∧ ax_sg j < 2147483648 := by decide +kernel
theorem ax_nn_b : ∀ j, j < 17 → -9223372036854775808 ≤ ax_nn j ∧ ax_nn j < 9223372036854775808 := by decide +kernel
theorem sn_baload (C : ax_Cx p s m args c D ad ca A cc nL oc L fx) {r ls : List AV} {σ : Hp} {pc k t n : Nat} {i : Int} (hd : decode cc pc = .ok (.baload, 1)) (ht : t = 2 ∨ t = 3 ∨ t = 6) (hi : 0 ≤ i ∧ i < (n : Int))
    (h : ax_SW p l e R s m args below meth c cells slots Q D ad ca A nL L (pc + 1) (ax_ard fx t k i.toNat σ :: r) ls σ) : ax_SW p l e R s m args below meth c cells slots Q D ad ca A nL L pc (.inl i :: .inr (.inr (.inl (k, t, n))) :: r) ls σ := by
  intro H locs la hP hD hS hH hst hls hn hl
  obtain ⟨hin, hcl⟩ := vp_inA (n := n) (ok_h hst) hi
  rcases ht with rfl | rfl | rfl
  · have hk := ax_ok_k (ok_h (ok_t hst)) (by decide)
    have hkN : k < ax_N := ax_kd_lt (by rw [hk]; simp)
    have hr : R32 (σ k i.toNat) := by have := hH k; rw [hk] at this; have := (show ∀ j, -128 ≤ σ k j ∧ σ k j ≤ 127 from this) i.toNat; unfold R32; omega
    have hk2 := h H locs la hP hD hS hH (ok_c (v := .inl (σ k i.toNat)) hr (ok_t (ok_t hst))) hls hn hl
    refine va_bald C.1 C.2.1 (ax_Kk C.2.2.2.2.2.1 hk (by decide) (by decide)) hP k 0 (ax_wo_at hkN |>.trans (by rw [ax_ce_int hk (by decide) (by decide)])) rfl hin hd ?_
    rw [hcl]
    exact hk2
  · have hk := ax_ok_k (ok_h (ok_t hst)) (by decide)
    have hkN : k < ax_N := ax_kd_lt (by rw [hk]; simp)
    have hr : R32 (σ k i.toNat) := by have := hH k; rw [hk] at this; have := (show ∀ j, σ k j = 0 ∨ σ k j = 1 from this) i.toNat; unfold R32; omega
    have hk2 := h H locs la hP hD hS hH (ok_c (v := .inl (σ k i.toNat)) hr (ok_t (ok_t hst))) hls hn hl
    refine va_zald C.1 C.2.1 (ax_Kk C.2.2.2.2.2.1 hk (by decide) (by decide)) hP k 0 (ax_wo_at hkN |>.trans (by rw [ax_ce_int hk (by decide) (by decide)])) rfl hin hd ?_
    rw [hcl]
    exact hk2
  · rcases ax_okf_t (ok_h (ok_t hst)) (by decide) with z | z | z | ⟨-, rfl, rfl⟩
    · exact absurd z.1 (by decide)
    · exact absurd z.1 (by decide)
    · exact absurd z.1 (by decide)
    · obtain ⟨-, -, -, -, -, hv, -⟩ := C.2.2.2.2.2.2.1
      have hT := (hv.1 0 (by decide)).2.2.2
      have hj := ax_sg_b i.toNat (by omega)
      refine va_tb C.1 C.2.1 hT hS (N := 11) hin (v := .int (Int32.ofInt (ax_sg i.toNat))) ?_ hd (h H locs la hP hD hS hH (ok_c (v := .inl (ax_sg i.toNat)) hj.2 (ok_t (ok_t hst))) hls hn hl)
      rw [hcl]
      exact congrArg Value.int hj.1
theorem sn_laload (C : ax_Cx p s m args c D ad ca A cc nL oc L fx) {r ls : List AV} {σ : Hp} {pc k t n : Nat} {i : Int} (hd : decode cc pc = .ok (.laload, 1)) (ht : t = 4 ∨ t = 8) (hi : 0 ≤ i ∧ i < (n : Int))
    (h : ax_SW p l e R s m args below meth c cells slots Q D ad ca A nL L (pc + 1) (ax_ard fx t k i.toNat σ :: r) ls σ) : ax_SW p l e R s m args below meth c cells slots Q D ad ca A nL L pc (.inl i :: .inr (.inr (.inl (k, t, n))) :: r) ls σ := by
  intro H locs la hP hD hS hH hst hls hn hl
  obtain ⟨hin, hcl⟩ := vp_inA (n := n) (ok_h hst) hi
  rcases ht with rfl | rfl
  · have hk := ax_ok_k (ok_h (ok_t hst)) (by decide)
    have hkN : k < ax_N := ax_kd_lt (by rw [hk]; simp)
    have hr : R64 (σ k i.toNat) := by have := hH k; rw [hk] at this; exact this _
    have hk2 := h H locs la hP hD hS hH (ok_c (v := .inr (.inl (σ k i.toNat))) hr (ok_t (ok_t hst))) hls hn hl
    refine va_lald C.1 C.2.1 (ax_Kk C.2.2.2.2.2.1 hk (by decide) (by decide)) hP k 0 (ax_wo_at hkN |>.trans (by rw [ax_ce_long hk])) rfl hin hd ?_
    rw [hcl]
    exact hk2
  · rcases ax_okf_t (ok_h (ok_t hst)) (by decide) with z | ⟨-, rfl, rfl⟩ | z | z
    · exact absurd z.1 (by decide)
    · obtain ⟨-, -, hT, -⟩ := C.2.2.2.2.2.2.1
      have hj := ax_nn_b i.toNat (by omega)
      refine va_tl C.1 C.2.1 hT hS hin (v := .long (Int64.ofInt (ax_nn i.toNat))) (by rw [hcl]) hd (h H locs la hP hD hS hH (ok_c (v := .inr (.inl (ax_nn i.toNat))) hj (ok_t (ok_t hst))) hls hn hl)
    · exact absurd z.1 (by decide)
    · exact absurd z.1 (by decide)
theorem ax_kd_n : ∀ k, k < ax_N → (ax_kd k).2 < 2147483648 := by decide +kernel
theorem sn_alen (C : ax_Cx p s m args c D ad ca A cc nL oc L fx) {r ls : List AV} {σ : Hp} {pc k t n : Nat} (hd : decode cc pc = .ok (.arraylength, 1)) (h0 : t ≠ 0) (h9 : t ≠ 9)
    (h : ax_SW p l e R s m args below meth c cells slots Q D ad ca A nL L (pc + 1) (.inl (n : Int) :: r) ls σ) : ax_SW p l e R s m args below meth c cells slots Q D ad ca A nL L pc (.inr (.inr (.inl (k, t, n))) :: r) ls σ := by
  intro H locs la hP hD hS hH hst hls hnl hl
  have key : R32 (n : Int) → W p l e R s m args below meth c H locs cells slots Q (F0 m (pc + 1) la (.int (Int32.ofNat n) :: r.map (ax_cv ad))) := fun hn => h H locs la hP hD hS hH (ok_c (v := .inl (n : Int)) hn (ok_t hst)) hls hnl hl
  by_cases h4 : t ≤ 4
  · have hk := ax_ok_k (ok_h hst) h4
    have hkN : k < ax_N := ax_kd_lt (by rw [hk]; exact h4)
    have hn : R32 (n : Int) := by have := ax_kd_n k hkN; rw [hk] at this; unfold R32; simp at this; omega
    by_cases ht : t = 4
    · subst ht
      exact va_alen C.1 C.2.1 (ax_Kk C.2.2.2.2.2.1 hk h0 h4) hP k 0 (ax_wo_at hkN |>.trans (by rw [ax_ce_long hk])) rfl rfl hd (key hn)
    · exact va_alen C.1 C.2.1 (ax_Kk C.2.2.2.2.2.1 hk h0 h4) hP k 0 (ax_wo_at hkN |>.trans (by rw [ax_ce_int hk h0 ht])) rfl rfl hd (key hn)
  · rcases ax_okf_t (ok_h hst) h4 with z | ⟨rfl, rfl, rfl⟩ | ⟨rfl, rfl, rfl⟩ | ⟨rfl, rfl, rfl⟩
    · exact absurd z.1 h9
    · obtain ⟨-, -, hT, -⟩ := C.2.2.2.2.2.2.1
      exact va_tlen C.1 C.2.1 hT hS rfl hd (key (by unfold R32; omega))
    · obtain ⟨⟨xs, hxs, hX, hnA, hlt, hL⟩, -⟩ := C.2.2.2.2.2.2.1
      exact va_slen C.1 C.2.1 hX hlt hnA hS hd (key (by unfold R32; omega))
    · obtain ⟨-, -, -, -, -, hv, -⟩ := C.2.2.2.2.2.2.1
      have hT := (hv.1 0 (by decide)).2.2.2
      exact va_tlen C.1 C.2.1 hT hS (N := 11) rfl hd (key (by unfold R32; omega))
theorem ax_upd32 (f : Nat → Int) (j : Nat) (v : Int) : (fun q => Int32.ofInt ((fun j' => if j' = j then v else f j') q)) = upd (fun q => Int32.ofInt (f q)) j (Int32.ofInt v) := by
  funext q
  unfold upd
  by_cases hq : q = j <;> simp [hq]
theorem ax_upd64 (f : Nat → Int) (j : Nat) (v : Int) : (fun q => Int64.ofInt ((fun j' => if j' = j then v else f j') q)) = vp_updL (fun q => Int64.ofInt (f q)) j (Int64.ofInt v) := by
  funext q
  unfold vp_updL
  by_cases hq : q = j <;> simp [hq]
theorem ax_wo_arr {σ : Hp} {k t n j : Nat} {v : Int} (hk : ax_kd k = (t, n)) (h0 : t ≠ 0) (h4 : t < 4) : (ax_wo ca ad σ).set k (ad k, .inl (ca k, n, .inl (upd (fun q => Int32.ofInt (σ k q)) j (Int32.ofInt v)))) = ax_wo ca ad (hp σ k j v) := by
  refine ax_wo_set (ax_kd_lt (by rw [hk]; exact Nat.le_of_lt h4)) ?_ (fun k' hk' => hp_ne hk')
  rw [ax_ce_int hk h0 (by omega), hp_eq, ax_upd32]
theorem ax_wo_arrL {σ : Hp} {k n j : Nat} {v : Int} (hk : ax_kd k = (4, n)) : (ax_wo ca ad σ).set k (ad k, .inl (ca k, n, .inr (.inl (vp_updL (fun q => Int64.ofInt (σ k q)) j (Int64.ofInt v))))) = ax_wo ca ad (hp σ k j v) := by
  refine ax_wo_set (ax_kd_lt (by rw [hk]; exact Nat.le_refl _)) ?_ (fun k' hk' => hp_ne hk')
  rw [ax_ce_long hk, hp_eq, ax_upd64]
theorem sn_iastore (C : ax_Cx p s m args c D ad ca A cc nL oc L fx) {r ls : List AV} {σ : Hp} {pc k n : Nat} {i x : Int} (hd : decode cc pc = .ok (.iastore, 1)) (hi : 0 ≤ i ∧ i < (n : Int))
    (h : ax_SW p l e R s m args below meth c cells slots Q D ad ca A nL L (pc + 1) r ls (hp σ k i.toNat x)) : ax_SW p l e R s m args below meth c cells slots Q D ad ca A nL L pc (.inl x :: .inl i :: .inr (.inr (.inl (k, 1, n))) :: r) ls σ := by
  intro H locs la hP hD hS hH hst hls hn hl
  obtain ⟨hin, hcl⟩ := vp_inA (n := n) (ok_h (ok_t hst)) hi
  have hk := ax_ok_k (ok_h (ok_t (ok_t hst))) (by decide)
  have hkN : k < ax_N := ax_kd_lt (by rw [hk]; simp)
  refine va_iast C.1 C.2.1 (ax_Kk C.2.2.2.2.2.1 hk (by decide) (by decide)) hP hD hS k 0 (ax_wo_at hkN |>.trans (by rw [ax_ce_int hk (by decide) (by decide)])) rfl hin hd (fun H1 locs1 hP1 hD1 hS1 => ?_)
  rw [hcl, ax_wo_arr hk (by decide) (by decide)] at hP1 hD1
  refine h H1 locs1 la hP1 hD1 hS1 (ax_H_hp hH ?_) (ok_t (ok_t (ok_t hst))) hls hn hl
  have h1 := hH k
  rw [hk] at h1 ⊢
  intro q
  by_cases hq : q = i.toNat
  · simp only [hq, if_true]; exact ok_h hst
  · simp only [hq, if_false]; exact h1 q
theorem iByte_R (x : Int) : -128 ≤ iByte x ∧ iByte x ≤ 127 := by
  unfold iByte
  rw [Int8.toInt_toInt32]
  have h1 := (Int32.ofInt x).toInt8.le_toInt
  have h2 := (Int32.ofInt x).toInt8.toInt_lt
  omega
theorem sn_bastore2 (C : ax_Cx p s m args c D ad ca A cc nL oc L fx) {r ls : List AV} {σ : Hp} {pc k n : Nat} {i x : Int} (hd : decode cc pc = .ok (.bastore, 1)) (hi : 0 ≤ i ∧ i < (n : Int))
    (h : ax_SW p l e R s m args below meth c cells slots Q D ad ca A nL L (pc + 1) r ls (hp σ k i.toNat (iByte x))) : ax_SW p l e R s m args below meth c cells slots Q D ad ca A nL L pc (.inl x :: .inl i :: .inr (.inr (.inl (k, 2, n))) :: r) ls σ := by
  intro H locs la hP hD hS hH hst hls hn hl
  obtain ⟨hin, hcl⟩ := vp_inA (n := n) (ok_h (ok_t hst)) hi
  have hk := ax_ok_k (ok_h (ok_t (ok_t hst))) (by decide)
  have hkN : k < ax_N := ax_kd_lt (by rw [hk]; simp)
  refine va_bast C.1 C.2.1 (ax_Kk C.2.2.2.2.2.1 hk (by decide) (by decide)) hP hD hS k 0 (ax_wo_at hkN |>.trans (by rw [ax_ce_int hk (by decide) (by decide)])) rfl hin hd (fun H1 locs1 hP1 hD1 hS1 => ?_)
  have hb : vp_nar .byte (Int32.ofInt x) = Int32.ofInt (iByte x) := by rw [vp_nar_byte]; exact (to32 _).symm
  rw [hcl, hb, ax_wo_arr hk (by decide) (by decide)] at hP1 hD1
  refine h H1 locs1 la hP1 hD1 hS1 (ax_H_hp hH ?_) (ok_t (ok_t (ok_t hst))) hls hn hl
  have h1 := hH k
  rw [hk] at h1 ⊢
  intro q
  by_cases hq : q = i.toNat
  · simp only [hq, if_true]; exact iByte_R x
  · simp only [hq, if_false]; exact h1 q
theorem sn_bastore3 (C : ax_Cx p s m args c D ad ca A cc nL oc L fx) {r ls : List AV} {σ : Hp} {pc k n : Nat} {i x : Int} (hd : decode cc pc = .ok (.bastore, 1)) (hi : 0 ≤ i ∧ i < (n : Int)) (hx : x = 0 ∨ x = 1)
    (h : ax_SW p l e R s m args below meth c cells slots Q D ad ca A nL L (pc + 1) r ls (hp σ k i.toNat x)) : ax_SW p l e R s m args below meth c cells slots Q D ad ca A nL L pc (.inl x :: .inl i :: .inr (.inr (.inl (k, 3, n))) :: r) ls σ := by
  intro H locs la hP hD hS hH hst hls hn hl
  obtain ⟨hin, hcl⟩ := vp_inA (n := n) (ok_h (ok_t hst)) hi
  have hk := ax_ok_k (ok_h (ok_t (ok_t hst))) (by decide)
  have hkN : k < ax_N := ax_kd_lt (by rw [hk]; simp)
  refine va_zast C.1 C.2.1 (ax_Kk C.2.2.2.2.2.1 hk (by decide) (by decide)) hP hD hS k 0 (ax_wo_at hkN |>.trans (by rw [ax_ce_int hk (by decide) (by decide)])) rfl hin hd (fun H1 locs1 hP1 hD1 hS1 => ?_)
  have hb : vp_nar .boolean (Int32.ofInt x) = Int32.ofInt x := by rcases hx with e | e <;> subst e <;> rfl
  rw [hcl, hb, ax_wo_arr hk (by decide) (by decide)] at hP1 hD1
  refine h H1 locs1 la hP1 hD1 hS1 (ax_H_hp hH ?_) (ok_t (ok_t (ok_t hst))) hls hn hl
  have h1 := hH k
  rw [hk] at h1 ⊢
  intro q
  by_cases hq : q = i.toNat
  · simp only [hq, if_true]; exact hx
  · simp only [hq, if_false]; exact h1 q
theorem sn_lastore (C : ax_Cx p s m args c D ad ca A cc nL oc L fx) {r ls : List AV} {σ : Hp} {pc k n : Nat} {i x : Int} (hd : decode cc pc = .ok (.lastore, 1)) (hi : 0 ≤ i ∧ i < (n : Int))
    (h : ax_SW p l e R s m args below meth c cells slots Q D ad ca A nL L (pc + 1) r ls (hp σ k i.toNat x)) : ax_SW p l e R s m args below meth c cells slots Q D ad ca A nL L pc (.inr (.inl x) :: .inl i :: .inr (.inr (.inl (k, 4, n))) :: r) ls σ := by
  intro H locs la hP hD hS hH hst hls hn hl
  obtain ⟨hin, hcl⟩ := vp_inA (n := n) (ok_h (ok_t hst)) hi
  have hk := ax_ok_k (ok_h (ok_t (ok_t hst))) (by decide)
  have hkN : k < ax_N := ax_kd_lt (by rw [hk]; simp)
  refine va_last C.1 C.2.1 (ax_Kk C.2.2.2.2.2.1 hk (by decide) (by decide)) hP hD hS k 0 (ax_wo_at hkN |>.trans (by rw [ax_ce_long hk])) rfl hin hd (fun H1 locs1 hP1 hD1 hS1 => ?_)
  rw [hcl, ax_wo_arrL hk] at hP1 hD1
  refine h H1 locs1 la hP1 hD1 hS1 (ax_H_hp hH ?_) (ok_t (ok_t (ok_t hst))) hls hn hl
  have h1 := hH k
  rw [hk] at h1 ⊢
  intro q
  by_cases hq : q = i.toNat
  · simp only [hq, if_true]; exact ok_h hst
  · simp only [hq, if_false]; exact h1 q
-- statics and Strings
theorem ax_w1 : Cond.fieldLink RX5 221 RX5 "NO_NAMES" "[J" ∈ ax_tb ∧ Cond.fieldLink (ax_R 14) 38 "java/lang/String" "COMPACT_STRINGS" "Z" ∈ ax_tb ∧ Cond.fieldLink (ax_R 14) 15 "java/lang/String" "coder" "B" ∈ ax_tb ∧ Cond.fieldLink (ax_R 14) 9 "java/lang/String" "value" "[B" ∈ ax_tb := by decide +kernel
theorem sn_gets0 (C : ax_Cx p s m args c D ad ca A cc nL oc L fx) {st ls : List AV} {σ : Hp} {pc i : Nat} (hd : decode cc pc = .ok (.getstatic i, 3)) (hx : oc = 5 ∧ i = 221)
    (h : ax_SW p l e R s m args below meth c cells slots Q D ad ca A nL L (pc + 3) (.inr (.inr (.inl (1001, 8, 17))) :: st) ls σ) : ax_SW p l e R s m args below meth c cells slots Q D ad ca A nL L pc st ls σ := by
  obtain ⟨rfl, rfl⟩ := hx
  exact sn_push (v := .inr (.inr (.inl (1001, 8, 17)))) (Or.inr (Or.inr (Or.inl ⟨rfl, rfl⟩))) (fun H locs la _ hS _ _ k => va_gets C.1 C.2.1 C.2.2.2.2.2.2.1.2.1 hS C.2.2.2.1 (C.2.2.2.2.1 _ ax_w1.1) (fun _ z => z) hd k) h
theorem sn_gets1 (C : ax_Cx p s m args c D ad ca A cc nL oc L fx) {st ls : List AV} {σ : Hp} {pc i : Nat} (hd : decode cc pc = .ok (.getstatic i, 3)) (hx : oc = 14 ∧ i = 38)
    (h : ax_SW p l e R s m args below meth c cells slots Q D ad ca A nL L (pc + 3) (.inl 1 :: st) ls σ) : ax_SW p l e R s m args below meth c cells slots Q D ad ca A nL L pc st ls σ := by
  obtain ⟨rfl, rfl⟩ := hx
  exact sn_push (v := .inl 1) (show R32 1 by unfold R32; omega) (fun H locs la _ hS _ _ k => va_gets C.1 C.2.1 C.2.2.2.2.2.2.1.2.2.2.1 hS C.2.2.2.1 (C.2.2.2.2.1 _ ax_w1.2.1) (fun _ z => z) hd k) h
theorem sn_getf0 (C : ax_Cx p s m args c D ad ca A cc nL oc L fx) {r ls : List AV} {σ : Hp} {pc i k n : Nat} (hd : decode cc pc = .ok (.getfield i, 3)) (hx : oc = 14 ∧ i = 15)
    (h : ax_SW p l e R s m args below meth c cells slots Q D ad ca A nL L (pc + 3) (.inl 0 :: r) ls σ) : ax_SW p l e R s m args below meth c cells slots Q D ad ca A nL L pc (.inr (.inr (.inl (k, 9, n))) :: r) ls σ := by
  obtain ⟨rfl, rfl⟩ := hx
  intro H locs la hP hD hS hH hst hls hnl hl
  rcases ax_okf_t (ok_h hst) (by decide) with ⟨-, rfl⟩ | z | z | z
  · obtain ⟨-, -, -, -, -, hv, -⟩ := C.2.2.2.2.2.2.1
    exact vk_getf C.1 C.2.1 (hv.1 0 (by decide)).2.1 hS C.2.2.2.1 (C.2.2.2.2.1 _ ax_w1.2.2.1) (fun _ z => z) hd (h H locs la hP hD hS hH (ok_c (v := .inl 0) R32_0 (ok_t hst)) hls hnl hl)
  · exact absurd z.1 (by decide)
  · exact absurd z.1 (by decide)
  · exact absurd z.1 (by decide)
theorem sn_getf1 (C : ax_Cx p s m args c D ad ca A cc nL oc L fx) {r ls : List AV} {σ : Hp} {pc i k n : Nat} (hd : decode cc pc = .ok (.getfield i, 3)) (hx : oc = 14 ∧ i = 9)
    (h : ax_SW p l e R s m args below meth c cells slots Q D ad ca A nL L (pc + 3) (.inr (.inr (.inl (1003, 6, 11))) :: r) ls σ) : ax_SW p l e R s m args below meth c cells slots Q D ad ca A nL L pc (.inr (.inr (.inl (k, 9, n))) :: r) ls σ := by
  obtain ⟨rfl, rfl⟩ := hx
  intro H locs la hP hD hS hH hst hls hnl hl
  rcases ax_okf_t (ok_h hst) (by decide) with ⟨-, rfl⟩ | z | z | z
  · obtain ⟨-, -, -, -, -, hv, -⟩ := C.2.2.2.2.2.2.1
    exact vk_getf C.1 C.2.1 (hv.1 0 (by decide)).2.2.1 hS C.2.2.2.1 (C.2.2.2.2.1 _ ax_w1.2.2.2) (fun _ z => z) hd (h H locs la hP hD hS hH (ok_c (v := .inr (.inr (.inl (1003, 6, 11)))) (Or.inr (Or.inr (Or.inr (Or.inr ⟨rfl, rfl⟩)))) (ok_t hst)) hls hnl hl)
  · exact absurd z.1 (by decide)
  · exact absurd z.1 (by decide)
  · exact absurd z.1 (by decide)
end SND4

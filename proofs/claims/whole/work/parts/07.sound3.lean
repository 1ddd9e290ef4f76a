-- fields and arrays
section SND3
variable {p : Program} {l : Launch} {e : Env} {R : Room} {s : State} {m : MethodId} {args : Array Value} {below : List Frame} {meth : Method} {c : Code} {cells slots : Nat} {Q : State → Prop}
variable {D : va_G} {ad : Nat → Nat} {ca : Nat → ClassId} {A : Nat → Prop} {cc : ByteArray} {nL oc L : Nat} {fx : Nat → Int}
theorem ax_ce_obj {σ : Hp} {k cl : Nat} (h : ax_kd k = (0, cl)) : ax_ce ca ad σ k = .inr (cl, ax_fs ad σ cl k) := by unfold ax_ce; rw [h]; rfl
theorem ax_ce_long {σ : Hp} {k n : Nat} (h : ax_kd k = (4, n)) : ax_ce ca ad σ k = .inl (ca k, n, .inr (.inl fun j => Int64.ofInt (σ k j))) := by unfold ax_ce; rw [h]; rfl
theorem ax_ce_int {σ : Hp} {k t n : Nat} (h : ax_kd k = (t, n)) (h0 : t ≠ 0) (h4 : t ≠ 4) : ax_ce ca ad σ k = .inl (ca k, n, .inl fun j => Int32.ofInt (σ k j)) := by
  unfold ax_ce
  rw [h]
  match t, h0, h4 with
  | 0, h0, _ => exact absurd rfl h0
  | 1, _, _ => rfl
  | 2, _, _ => rfl
  | 3, _, _ => rfl
  | 4, _, h4 => exact absurd rfl h4
  | t + 5, _, _ => rfl
theorem ax_ok_k {k t n : Nat} (h : ax_okv L (.inr (.inr (.inl (k, t, n))))) (ht : t ≤ 4) : ax_kd k = (t, n) := by
  rcases (show (t ≤ 4 ∧ ax_kd k = (t, n)) ∨ (t = 9 ∧ k = 1000) ∨ ((t, n) = (8, 17) ∧ k = 1001) ∨ ((t, n) = (7, L) ∧ k = 1002) ∨ ((t, n) = (6, 11) ∧ k = 1003) from h) with ⟨-, z⟩ | ⟨z, -⟩ | ⟨z, -⟩ | ⟨z, -⟩ | ⟨z, -⟩
  · exact z
  · omega
  · have := congrArg Prod.fst z; simp at this; omega
  · have := congrArg Prod.fst z; simp at this; omega
  · have := congrArg Prod.fst z; simp at this; omega
theorem ax_fs_at {σ : Hp} {cl k j : Nat} (h : j < (ax_F cl).length) : (ax_fs ad σ cl k)[j]? = some (ax_fv ad (ax_fd cl j).1 (ax_fd cl j).2.1 k (σ k j)) := by
  unfold ax_fs
  rw [List.getElem?_map, List.getElem?_range h]
  rfl
theorem ax_fs_len {σ : Hp} {cl k : Nat} : (ax_fs ad σ cl k).length = (ax_F cl).length := by simp [ax_fs]
/-- what a read gives is what stands for the cell's value -/
theorem ax_rd_ok {σ : Hp} {cl k j ty o t n : Nat} (hH : ax_H σ) (hk : ax_kd k = (0, cl)) (hj : j < (ax_F cl).length) (hf : ax_fd cl j = (ty, o, t, n)) (h5 : ty = 5 → t = 0) : ax_okv L (ax_rd ty o t n k j σ) ∧ ax_cv ad (ax_rd ty o t n k j σ) = ax_fv ad ty o k (σ k j) := by
  have h1 := hH k
  rw [hk] at h1
  have h2 := h1 j hj
  rw [hf] at h2
  match ty, hf, h2, h5 with
  | 0, hf, h2, _ => exact ⟨h2, rfl⟩
  | 1, hf, h2, _ =>
    refine ⟨?_, rfl⟩
    rcases (show σ k j = 0 ∨ σ k j = 1 from h2) with h | h
    · show R32 (σ k j); rw [h]; unfold R32; omega
    · show R32 (σ k j); rw [h]; unfold R32; omega
  | 2, hf, h2, _ => exact ⟨h2, rfl⟩
  | 3, hf, h2, _ =>
    have h3 : 0 ≤ σ k j ∧ σ k j ≤ 65535 := h2
    refine ⟨?_, rfl⟩
    show R32 (σ k j); unfold R32; omega
  | 4, hf, h2, _ =>
    have h3 := (ax_lay (j := j) hk).2 hj (by rw [hf])
    rw [hf] at h3
    exact ⟨Or.inl ⟨h3.2, h3.1⟩, rfl⟩
  | 5, hf, h2, h5 =>
    have h3 : 0 ≤ σ k j ∧ ax_kd (σ k j).toNat = (0, n) := h2
    have ht := h5 rfl
    subst ht
    exact ⟨Or.inl ⟨Nat.zero_le _, h3.2⟩, rfl⟩
  | ty + 6, hf, h2, _ =>
    exfalso
    have hc := (ax_lay (j := j) hk).1
    have h9 := (ax_wrt cl hc j hj).1
    have h7 : ∀ c, c < 10 → ∀ j, j < (ax_F c).length → (ax_fd c j).1 ≤ 5 := by decide +kernel
    have := h7 cl hc j hj
    rw [hf] at this
    simp at this
theorem ax_dyn : ∀ c, c < 10 → ∀ j, j < (ax_F c).length → (ax_fd c j).1 = 5 → (ax_fd c j).2.2.1 = 0 := by decide +kernel
theorem ax_K {U : State} (h : ax_KK D ca U) : va_K D vwCl [] U := h.1
theorem ax_Kk {U : State} {k t n : Nat} (h : ax_KK D ca U) (hk : ax_kd k = (t, n)) (h0 : t ≠ 0) (h4 : t ≤ 4) : va_K D vwCl [(ca k, ax_ety t)] U := by
  refine ⟨h.1.1, fun j q hj => ?_⟩
  cases j with
  | zero =>
    have : q = (ca k, ax_ety t) := (Option.some.inj hj).symm
    subst this
    have hkk : (ax_kd k).1 = t := by rw [hk]
    have := h.2 k (ax_kd_lt (by rw [hkk]; exact h4)) (by rw [hkk]; exact h0)
    rw [hkk] at this
    exact this
  | succ j => simp at hj
theorem sn_getfield (C : ax_Cx p s m args c D ad ca A cc nL oc L fx) {r ls : List AV} {σ : Hp} {pc i ci j ty o t n k : Nat} (hd : decode cc pc = .ok (.getfield i, 3)) (hc : ci < 10 ∧ j < (ax_F ci).length ∧ ax_fd ci j = (ty, o, t, n) ∧ (oc, i, ci, j) ∈ ax_fl)
    (h : ax_SW p l e R s m args below meth c cells slots Q D ad ca A nL L (pc + 3) (ax_rd ty o t n k j σ :: r) ls σ) : ax_SW p l e R s m args below meth c cells slots Q D ad ca A nL L pc (.inr (.inr (.inl (k, 0, ci))) :: r) ls σ := by
  obtain ⟨hci, hj, hf, hl0⟩ := hc
  intro H locs la hP hD hS hH hst hls hn hl
  have hk : ax_kd k = (0, ci) := ax_ok_k (ok_h hst) (Nat.zero_le _)
  have hkN : k < ax_N := ax_kd_lt (by rw [hk]; exact Nat.zero_le _)
  obtain ⟨r1, r2⟩ := ax_rd_ok (L := L) (ad := ad) hH hk hj hf (fun h5 => by have := ax_dyn ci hci j hj (by rw [hf]; exact h5); rw [hf] at this; exact this)
  refine va_get (D := D) (C := ax_R ci) (T := ax_T ci) (N := (ax_F ci).length) C.1 C.2.1 C.2.2.2.2.1 (ax_ws ci hci) C.2.2.2.1 (ax_K C.2.2.2.2.2.1) hP k (ax_wo_at hkN |>.trans (by rw [ax_ce_obj hk])) (ax_cl ci hci) j hj (C.2.2.2.2.1 _ (ax_fl_ok _ hl0)) (fun _ z => z) (v := ax_cv ad (ax_rd ty o t n k j σ)) ?_ hd (h H locs la hP hD hS hH (ok_c r1 (ok_t hst)) hls hn hl)
  rw [ax_fs_at hj, hf, r2]
theorem ax_H_hp {σ : Hp} {k j : Nat} {v : Int} (hH : ax_H σ) (hv : ax_okr (ax_kd k).1 (ax_kd k).2 (fun j' => if j' = j then v else σ k j')) : ax_H (hp σ k j v) := by
  intro k'
  by_cases hk : k' = k
  · subst hk; rw [hp_eq]; exact hv
  · rw [hp_ne hk]; exact hH k'
/-- a write into an object's field -/
theorem sn_put0 (C : ax_Cx p s m args c D ad ca A cc nL oc L fx) {r ls : List AV} {σ : Hp} {pc i ci j ty o t n k : Nat} {v : AV} {x : Int} (hd : decode cc pc = .ok (.putfield i, 3)) (hc : ci < 10 ∧ j < (ax_F ci).length ∧ ax_fd ci j = (ty, o, t, n) ∧ (oc, i, ci, j) ∈ ax_fl)
    (h4 : ty ≠ 4) (hv : ax_okv L v → ax_cv ad v = ax_fv ad ty o k x ∧ ax_okf ty n x) (hn : ax_okv L v → narrow (ax_ty ci j) (ax_cv ad v) = ax_cv ad v ∧ fits (ax_ty ci j) (ax_cv ad v) = true)
    (h : ax_SW p l e R s m args below meth c cells slots Q D ad ca A nL L (pc + 3) r ls (hp σ k j x)) : ax_SW p l e R s m args below meth c cells slots Q D ad ca A nL L pc (v :: .inr (.inr (.inl (k, 0, ci))) :: r) ls σ := by
  obtain ⟨hci, hj, hf, hl0⟩ := hc
  intro H locs la hP hD hS hH hst hls hnl hl
  have hvo := ok_h hst
  have hk : ax_kd k = (0, ci) := ax_ok_k (ok_h (ok_t hst)) (Nat.zero_le _)
  have hkN : k < ax_N := ax_kd_lt (by rw [hk]; exact Nat.zero_le _)
  have hty := ax_tyok ci hci j hj
  refine va_put (D := D) (C := ax_R ci) (T := ax_T ci) (N := (ax_F ci).length) (ty := ax_ty ci j) (v := ax_cv ad v) C.1 C.2.1 C.2.2.2.2.1 (ax_ws ci hci) (ax_ty ci) (ax_tyok ci hci) (ax_nm ci hci) C.2.2.2.1 (ax_K C.2.2.2.2.2.1) hP hD hS k (ax_wo_at hkN |>.trans (by rw [ax_ce_obj hk])) (ax_cl ci hci) j hj (C.2.2.2.2.1 _ (ax_fl_ok _ hl0)) (fun _ z => z)
    ((ax_wrt ci hci j hj).2 (by rw [hf]; exact h4)) hty (hn hvo).1 (hn hvo).2 (by rw [ax_fs_len]; exact hj) hd (fun H1 locs1 hP1 hD1 hS1 => ?_)
  have hw : (ax_wo ca ad σ).set k (ad k, .inr (ci, (ax_fs ad σ ci k).set j (ax_cv ad v))) = ax_wo ca ad (hp σ k j x) := by
    refine ax_wo_set hkN ?_ (fun k' hk' => hp_ne hk')
    rw [ax_ce_obj hk]
    refine congrArg Sum.inr (congrArg (Prod.mk ci) ?_)
    apply List.ext_getElem?
    intro q
    rw [List.getElem?_set]
    by_cases hq : q < (ax_F ci).length
    · rw [ax_fs_at hq, hp_eq]
      by_cases hjq : j = q
      · subst hjq
        rw [if_pos rfl, if_pos (by rw [ax_fs_len]; exact hj), (hv hvo).1, hf]
        simp
      · rw [if_neg hjq, ax_fs_at hq]
        have : ¬ q = j := fun z => hjq z.symm
        simp [this]
    · have hjq : ¬ j = q := by omega
      rw [if_neg hjq, List.getElem?_eq_none (by rw [ax_fs_len]; omega), List.getElem?_eq_none (by rw [ax_fs_len]; omega)]
  rw [hw] at hP1 hD1
  refine h H1 locs1 la hP1 hD1 hS1 (ax_H_hp hH ?_) (ok_t (ok_t hst)) hls hnl hl
  have h1 := hH k
  rw [hk] at h1 ⊢
  intro q hq
  by_cases hqj : q = j
  · subst hqj
    have := (hv hvo).2
    simp only [if_true, hf]
    exact this
  · simp only [if_neg hqj]
    exact h1 q hq
theorem sn_putfield (C : ax_Cx p s m args c D ad ca A cc nL oc L fx) {r ls : List AV} {σ : Hp} {pc i ci j ty o t n k : Nat} {v : AV} (hd : decode cc pc = .ok (.putfield i, 3)) (hc : ci < 10 ∧ j < (ax_F ci).length ∧ ax_fd ci j = (ty, o, t, n) ∧ (oc, i, ci, j) ∈ ax_fl)
    (h : ax_wt ty n k j v σ (fun σ' => ax_SW p l e R s m args below meth c cells slots Q D ad ca A nL L (pc + 3) r ls σ')) : ax_SW p l e R s m args below meth c cells slots Q D ad ca A nL L pc (v :: .inr (.inr (.inl (k, 0, ci))) :: r) ls σ := by
  have htc := (ax_wrt ci hc.1 j hc.2.1).1
  rw [hc.2.2.1] at htc
  match ty, hc, h, htc with
  | 0, hc, h, htc =>
    match v, h with
    | .inl x, h =>
      have ht : ax_ty ci j = .int := of_decide_eq_true htc
      exact sn_put0 C hd hc (by decide) (fun hv => ⟨rfl, hv⟩) (fun hv => by rw [ht]; exact ⟨rfl, rfl⟩) (h _ rfl)
  | 1, hc, h, htc =>
    match v, h with
    | .inl x, h =>
      have ht : ax_ty ci j = .boolean := of_decide_eq_true htc
      refine sn_put0 C hd hc (by decide) (fun hv => ⟨rfl, h.1⟩) (fun hv => by rw [ht]; rcases h.1 with e | e <;> subst e <;> exact ⟨rfl, rfl⟩) (h.2 _ rfl)
  | 2, hc, h, htc =>
    match v, h with
    | .inr (.inl x), h =>
      have ht : ax_ty ci j = .long := of_decide_eq_true htc
      exact sn_put0 C hd hc (by decide) (fun hv => ⟨rfl, hv⟩) (fun hv => by rw [ht]; exact ⟨rfl, rfl⟩) (h _ rfl)
  | 3, hc, h, htc =>
    match v, h with
    | .inl x, h =>
      have ht : ax_ty ci j = .char := of_decide_eq_true htc
      refine sn_put0 C hd hc (by decide) (fun hv => ⟨rfl, h.1⟩) (fun hv => ?_) (h.2 _ rfl)
      rw [ht]
      have hx0 : 0 ≤ x ∧ x ≤ 65535 := h.1
      have hx : Int32.ofInt x = nI x.toNat := by
        rw [← Int32.toInt_inj, o32 (show R32 x from hv), nI_toInt (by omega)]
        omega
      show narrow .char (.int (Int32.ofInt x)) = .int (Int32.ofInt x) ∧ fits .char (.int (Int32.ofInt x)) = true
      rw [hx]
      exact pk_charN (by omega)
  | 5, hc, h, htc =>
    match v, h with
    | .inr (.inr (.inl (k', 0, n'))), h =>
      have hnn : n' = n := by
        by_cases hb : Nat.beq n' n = true
        · exact Nat.eq_of_beq_eq_true hb
        · have hb' : Nat.beq n' n = false := Bool.eq_false_iff.mpr hb
          have h0 : (bif Nat.beq n' n then (∀ σ' : Hp, σ' = hp σ k j k' → ax_SW p l e R s m args below meth c cells slots Q D ad ca A nL L (pc + 3) r ls σ') else False) := h
          rw [hb'] at h0
          exact False.elim h0
      subst hnn
      have h0 : (bif Nat.beq n' n' then (∀ σ' : Hp, σ' = hp σ k j k' → ax_SW p l e R s m args below meth c cells slots Q D ad ca A nL L (pc + 3) r ls σ') else False) := h
      have hbt : Nat.beq n' n' = true := Nat.beq_refl n'
      rw [hbt] at h0
      have hob : ∃ nm, ax_ty ci j = .object nm := by
        revert htc
        cases hty : ax_ty ci j <;> simp [ax_tyc]
      obtain ⟨nm, hob⟩ := hob
      refine sn_put0 C hd hc (by decide) (fun hv => ⟨rfl, ?_⟩) (fun hv => by rw [hob]; exact ⟨rfl, rfl⟩) (h0 _ rfl)
      exact ⟨Int.natCast_nonneg _, ax_ok_k hv (Nat.zero_le _)⟩
end SND3

-- THE OUTLOOK: silence, words, spare
def pc (x : Nat) : Nat := pcn x 12
/-- the fewest members, of like ones the least, or -1 -/
def Bst (P : Nat → Prop) (n : Nat) (r : Int) : Prop := (∃ x : Nat, x < n ∧ r = x ∧ P x ∧ ∀ y, y < n → P y → pc x < pc y ∨ (pc x = pc y ∧ x ≤ y)) ∨ (r = -1 ∧ ∀ y, y < n → ¬ P y)
theorem Bst.uniq {P : Nat → Prop} {n : Nat} {r t : Int} (h : Bst P n r) (g : Bst P n t) : r = t := by
  rcases h with ⟨i, h1, rfl, h3, h4⟩ | ⟨rfl, h1⟩ <;> rcases g with ⟨j, g1, rfl, g3, g4⟩ | ⟨rfl, g1⟩
  · have a := h4 j g1 g3
    have b := g4 i h1 h3
    have : i = j := by omega
    rw [this]
  · exact absurd h3 (g1 i (by assumption))
  · exact absurd g3 (h1 j (by assumption))
  · rfl
theorem Bst.skip {P : Nat → Prop} {i : Nat} {r : Int} (h : Bst P i r) (hn : P i → ∃ x : Nat, r = x ∧ pc x ≤ pc i) : Bst P (i + 1) r := by
  rcases h with ⟨x, h1, rfl, h3, h4⟩ | ⟨rfl, h1⟩
  · refine Or.inl ⟨x, by omega, rfl, h3, fun y hy hp => ?_⟩
    by_cases hyi : y = i
    · subst hyi
      obtain ⟨z, hz, hz2⟩ := hn hp
      have : x = z := by omega
      subst this; omega
    · exact h4 y (by omega) hp
  · refine Or.inr ⟨rfl, fun y hy hp => ?_⟩
    by_cases hyi : y = i
    · subst hyi
      obtain ⟨z, hz, -⟩ := hn hp
      omega
    · exact h1 y (by omega) hp
theorem Bst.take {P : Nat → Prop} {i : Nat} {r : Int} (h : Bst P i r) (hp : P i) (hlt : ∀ x : Nat, r = x → pc i < pc x) : Bst P (i + 1) (i : Int) := by
  refine Or.inl ⟨i, by omega, rfl, hp, fun y hy hpy => ?_⟩
  by_cases hyi : y = i
  · subst hyi; omega
  · rcases h with ⟨x, h1, rfl, h3, h4⟩ | ⟨rfl, h1⟩
    · have a := h4 y (by omega) hpy
      have b := hlt x rfl
      omega
    · exact absurd hpy (h1 y (by omega))
/-- the state with one's knows changed -/
def wkn (s : Sta) (p : Nat) (v : Int) : Sta := (s.1, va_up s.2.1 p v, s.2.2)
theorem stX_know {σ : Hp} {q p : Nat} {v : Int} (hp6 : p < 6) : stX (hp σ (q + 2) p v) q = wkn (stX σ q) p v := by
  unfold stX wkn
  rw [hp_ne (show q + 1 ≠ q + 2 by omega), hp_ne (show q ≠ q + 2 by omega)]
  refine Prod.ext rfl (Prod.ext ?_ rfl)
  funext j
  show tr 6 (hp σ (q + 2) p v (q + 2)) j = va_up (tr 6 (σ (q + 2))) p v j
  unfold va_up tr
  rw [hp_rd]
  by_cases hj : j = p
  · subst hj; simp [hp6]
  · simp [hj]
theorem OKs.wkn {s : Sta} {d : Int} (h : OKs d s) (p : Nat) {v : Int} (hv : 0 ≤ v ∧ v < 64) : OKs d (wkn s p v) := by
  refine ⟨h.1, fun j => ?_, h.2.2⟩
  show 0 ≤ va_up s.2.1 p v j ∧ va_up s.2.1 p v j < 64
  unfold va_up
  split
  · exact hv
  · exact h.2.1 j
def silP (F : Fam) (s : Sta) (p : Nat) (x : Nat) : Prop := ndf x (s.2.1 p).toNat = 0 ∧ ¬ (itr F 0 (wkn s p (ndf (s.2.1 p).toNat x : Nat)) 1).2.2.1 = (p : Int)
def Ou_findSilence_pre (k f q : Nat) (a : Int) (σ : Hp) : Prop := k = 3 ∧ q = 31 ∧ OW σ f ∧ 0 ≤ a ∧ a < 6
def Ou_findSilence_post (_k f _q : Nat) (a : Int) (σ : Hp) (r : Int) (σ' : Hp) : Prop := Fr (sg f 4) σ σ' ∧ Bst (silP (famX σ f) (stX σ 31) a.toNat) 64 r
def Ou_findSilence_I10 (_k f _q : Nat) (a : Int) (σ0 : Hp) (m : Nat) (v4 v5 v6 : Int) (σ : Hp) : Prop := ∃ i : Nat, v6 = i ∧ i ≤ 64 ∧ m = 64 - i ∧ Fr (sg f 4) σ0 σ ∧ Bst (silP (famX σ0 f) (stX σ0 31) a.toNat) i v4 ∧ ((v4 = -1 ∧ v5 = 7) ∨ ∃ x : Nat, v4 = x ∧ v5 = (pc x : Nat))
def Ou_findSilence_bk : List (Nat × List Item) := [(0, [(.iconst (-1), 1, [], []), (.istore 4, 2, [], []), (.bipush 7, 2, [], []), (.istore 5, 2, [], []), (.iconst 0, 1, [], []), (.istore 6, 2, [], [])]),
  (10, [(.iload 6, 2, [], []), (.bipush 64, 2, [], []), (.if_icmp .ge 92, 3, [106], []), (.iload 6, 2, [], []), (.invokestatic 162, 3, [0], []), (.istore 7, 2, [], []), (.iload 7, 2, [], []), (.iload 5, 2, [], []), (.if_icmp .ge 72, 3, [100], []), (.iload 6, 2, [], []), (.aload_n 2, 1, [], []), (.getfield 97, 3, [7, 1, 4, 2, 1, 6], []), (.iload_n 3, 1, [], []), (.iaload, 1, [], []), (.iconst (-1), 1, [], []), (.ixor, 1, [], []), (.iand, 1, [], []), (.ifCond .eq 6, 3, [48], []), (.goto 55, 3, [100], [])]),
  (48, [(.aload_n 0, 1, [], []), (.getfield 12, 3, [4, 0, 4, 1, 0, 7], []), (.aload_n 2, 1, [], []), (.invokevirtual 40, 3, [1], []), (.aload_n 0, 1, [], []), (.getfield 12, 3, [4, 0, 4, 1, 0, 7], []), (.getfield 97, 3, [7, 1, 4, 2, 1, 6], []), (.iload_n 3, 1, [], []), (.dup2, 1, [], []), (.iaload, 1, [], []), (.iload 6, 2, [], []), (.iconst (-1), 1, [], []), (.ixor, 1, [], []), (.iand, 1, [], []), (.iastore, 1, [], []), (.aload_n 1, 1, [], []), (.aload_n 0, 1, [], []), (.getfield 12, 3, [4, 0, 4, 1, 0, 7], []), (.iconst 0, 1, [], []), (.invokevirtual 44, 3, [2], []), (.aload_n 0, 1, [], []), (.getfield 12, 3, [4, 0, 4, 1, 0, 7], []), (.getfield 65, 3, [7, 2, 0, 0, 0, 0], []), (.iload_n 3, 1, [], []), (.if_icmp .eq 11, 3, [100], []), (.iload 6, 2, [], []), (.istore 4, 2, [], []), (.iload 7, 2, [], []), (.istore 5, 2, [], [])]),
  (100, [(.iinc 6 1, 3, [], []), (.goto (-93), 3, [10], [])]),
  (106, [(.iload 4, 2, [], []), (.ireturn, 1, [], [])])]
def Ou_findSilence_cl : List (Instr × Nat) := [(.invokestatic 162, 0), (.invokevirtual 40, 1), (.invokevirtual 44, 2)]
set_option maxRecDepth 20000 in
theorem Ou_findSilence_ck : Ou_findSilence_bk.all (fun b => ax_chB 4 8 cX4_findSilence Ou_findSilence_cl b.1 b.2) = true := by decide +kernel
def Ou_findSilence_cs : Ct := (4, 5, 1, (0, 0), fun as σ => (match as with
    | [.inr (.inr (.inl (k, 0, 4))), .inr (.inr (.inl (q1, 0, 1))), .inr (.inr (.inl (q2, 0, 7))), .inl a3] => Ou_findSilence_pre k q1 q2 a3 σ
    | _ => False), fun as σ r σ' => (match as with
    | [.inr (.inr (.inl (k, 0, 4))), .inr (.inr (.inl (q1, 0, 1))), .inr (.inr (.inl (q2, 0, 7))), .inl a3] => Ou_findSilence_post k q1 q2 a3 σ r σ'
    | _ => False))
theorem Ou_findSilence_w : ∀ w ∈ ([.instanceMethod yX4_findSilence, .selects yX4_findSilence.cls yX4_findSilence yX4_findSilence, .initialized yX4_findSilence.cls, .code yX4_findSilence cX4_findSilence 8 (some .int)] : List Cond), w ∈ ax_tb := ax_w4 (ax_m5 37 (by decide +kernel) rfl) (ax_m5 38 (by decide +kernel) rfl) (ax_m1 3 (by decide +kernel) rfl) (ax_m5 39 (by decide +kernel) rfl)
theorem Ou_findSilence_ds : yX4_findSilence.cls ≠ "java/lang/invoke/MethodHandle" ∧ yX4_findSilence.cls ≠ "java/lang/invoke/VarHandle" ∧ (parseMethodDescriptor yX4_findSilence.desc).map (fun d => d.parameters.length) = some 3 := by decide +kernel
def Ou_findSilence_vc : Prop := ∀ (k : Nat) (q1 : Nat) (q2 : Nat) (a3 : Int) (σ : Hp), ax_H σ → Ou_findSilence_pre k q1 q2 a3 σ →
  ∃ n' : Nat, k = k ∧ q1 = q1 ∧ q2 = q2 ∧ a3 = a3 ∧ Ou_findSilence_I10 k q1 q2 a3 σ n' (-1) 7 0 σ
def Ou_findSilence_vc10 : Prop := ∀ (k : Nat) (q1 : Nat) (q2 : Nat) (a3 : Int) (σ0 : Hp), Ou_findSilence_pre k q1 q2 a3 σ0 → ∀ (n : Nat) (v4 : Int) (v5 : Int) (v6 : Int) (σ : Hp), ax_H σ → Ou_findSilence_I10 k q1 q2 a3 σ0 n v4 v5 v6 σ →
  (64 ≤ v6 →
    Ou_findSilence_post k q1 q2 a3 σ0 v4 σ) ∧
  (¬ (64 ≤ v6) →
    Ji_bitCount_pre v6 σ ∧
    ∀ (r2 : Int) (σ1 : Hp), Ji_bitCount_post v6 σ r2 σ1 →
    (v5 ≤ r2 →
      ∃ n' : Nat, n' < n ∧ k = k ∧ q1 = q1 ∧ q2 = q2 ∧ a3 = a3 ∧ Ou_findSilence_I10 k q1 q2 a3 σ0 n' v4 v5 (wr (v6 + 1)) σ1) ∧
    (¬ (v5 ≤ r2) →
      (0 ≤ a3 ∧ a3 < 6) ∧
      (iAnd v6 (iXor (σ1 (q2 + 2) a3.toNat) (-1)) = 0 →
        St_copy_pre (k + 1) q2 σ1 ∧
        ∀ σ3 : Hp, St_copy_post (k + 1) q2 σ1 σ3 →
        (0 ≤ a3 ∧ a3 < 6) ∧
        (0 ≤ a3 ∧ a3 < 6) ∧
        ∀ σ4 : Hp, σ4 = hp σ3 (k + 3) a3.toNat (iAnd (σ3 (k + 3) a3.toNat) (iXor v6 (-1))) →
        Fa_pass_pre q1 (k + 1) 0 σ4 ∧
        ∀ σ5 : Hp, Fa_pass_post q1 (k + 1) 0 σ4 σ5 →
        (σ5 (k + 1) 2 = a3 →
          ∃ n' : Nat, n' < n ∧ k = k ∧ q1 = q1 ∧ q2 = q2 ∧ a3 = a3 ∧ Ou_findSilence_I10 k q1 q2 a3 σ0 n' v4 v5 (wr (v6 + 1)) σ5) ∧
        (¬ (σ5 (k + 1) 2 = a3) →
          ∃ n' : Nat, n' < n ∧ k = k ∧ q1 = q1 ∧ q2 = q2 ∧ a3 = a3 ∧ Ou_findSilence_I10 k q1 q2 a3 σ0 n' v6 r2 (wr (v6 + 1)) σ5)) ∧
      (¬ (iAnd v6 (iXor (σ1 (q2 + 2) a3.toNat) (-1)) = 0) →
        ∃ n' : Nat, n' < n ∧ k = k ∧ q1 = q1 ∧ q2 = q2 ∧ a3 = a3 ∧ Ou_findSilence_I10 k q1 q2 a3 σ0 n' v4 v5 (wr (v6 + 1)) σ1)))
theorem Ou_findSilence_p : Ou_findSilence_vc := by
  intro k f q a σ hH hp
  exact ⟨64, rfl, rfl, rfl, rfl, 0, rfl, by omega, rfl, Fr.rf, Or.inr ⟨rfl, fun y hy => absurd hy (Nat.not_lt_zero y)⟩, Or.inl ⟨rfl, rfl⟩⟩
theorem pc6 : ∀ i, i < 64 → pc i ≤ 6 := by decide +kernel
theorem Ou_findSilence_p10 : Ou_findSilence_vc10 := by
  intro k f q a σ0 hp m v4 v5 v6 σ hH hI
  obtain ⟨rfl, rfl, hW, a0, a6⟩ := hp
  obtain ⟨i, rfl, hi, rfl, hf, hB, hv⟩ := hI
  refine ⟨fun h => ⟨hf, by rw [show (64 : Nat) = i by omega]; exact hB⟩, fun h => ⟨⟨by omega, by omega⟩, ?_⟩⟩
  rintro r2 σ1 ⟨rfl, rfl⟩
  rw [Int.toNat_natCast, wr1 (by omega) (by omega)]
  have hpc := pc6 i (by omega)
  have epc : pcn i 12 = pc i := rfl
  rw [epc]
  obtain ⟨hW1, hfam, hnow⟩ := hW.keep hf (fun c hc => Or.inl hc)
  have go : ∀ (σ2 : Hp) (w4 w5 : Int), Fr (sg f 4) σ0 σ2 → Bst (silP (famX σ0 f) (stX σ0 31) a.toNat) (i + 1) w4 → ((w4 = -1 ∧ w5 = 7) ∨ ∃ x : Nat, w4 = x ∧ w5 = (pc x : Nat)) →
      ∃ n' : Nat, n' < 64 - i ∧ (3 : Nat) = 3 ∧ f = f ∧ (31 : Nat) = 31 ∧ a = a ∧ Ou_findSilence_I10 3 f 31 a σ0 n' w4 w5 ((i : Int) + 1) σ2 := fun σ2 w4 w5 h1 h2 h3 =>
    ⟨64 - (i + 1), by omega, rfl, rfl, rfl, rfl, i + 1, by simp, by omega, rfl, h1, h2, h3⟩
  refine ⟨fun h2 => ?_, fun h2 => ⟨⟨a0, a6⟩, fun h3 => ?_, fun h3 => ?_⟩⟩
  · refine go σ1 v4 v5 hf (hB.skip (fun _ => ?_)) hv
    rcases hv with ⟨-, hv⟩ | ⟨x, hx, hv⟩
    · omega
    · exact ⟨x, hx, by omega⟩
  · refine ⟨⟨Or.inl rfl, Or.inr (Or.inr rfl), by decide⟩, ?_⟩
    rintro σ3 ⟨hf3, hs3⟩
    refine ⟨⟨a0, a6⟩, ⟨a0, a6⟩, ?_⟩
    rintro σ4 rfl
    have hst : stX σ1 31 = stX σ0 31 := stX_eq hnow
    have hkR := hW.2.2.1.2.1 a.toNat
    have ek : σ3 (3 + 3) a.toNat = (stX σ0 31).2.1 a.toNat := by
      have : tr 6 (σ3 6) a.toNat = (stX σ1 31).2.1 a.toNat := congrFun (congrArg (fun x => x.2.1) hs3) a.toNat
      rw [tr_in (by omega), hst] at this
      exact this
    have ek1 : σ1 (31 + 2) a.toNat = (stX σ0 31).2.1 a.toNat := by rw [← hst]; exact (tr_in (by omega)).symm
    rw [ek]
    rw [ek1] at h3
    obtain ⟨y, hy⟩ := Int.eq_ofNat_of_zero_le hkR.1
    rw [hy] at h3 hkR ⊢
    have hy64 : y < 64 := by omega
    rw [iAndN_n (by omega) (by omega)] at h3 ⊢
    have hndl : ndf y i < 64 := ndf_lt (k := 6) (by omega)
    have hf4 : Fr (sg f 4) σ0 (hp σ3 6 a.toNat (ndf y i : Nat)) := Fr.hp (hf.tr (hf3.mono (by simp [sg]))) (by simp [sg])
    have hs4 : stX (hp σ3 6 a.toNat (ndf y i : Nat)) 4 = itr (famX σ0 f) 0 (wkn (stX σ0 31) a.toNat (ndf y i : Nat)) 0 := by
      rw [stX_know (q := 4) (by omega), hs3, hst]; rfl
    obtain ⟨p1, p2⟩ := hW.day hf4 (fun c hc => Or.inl hc) (by omega) (hW.2.2.1.wkn a.toNat ⟨by omega, by omega⟩) hs4
    refine ⟨p1, fun σ5 h5 => ?_⟩
    obtain ⟨g1, g2⟩ := p2 σ5 h5
    have e2 : σ5 (3 + 1) 2 = (itr (famX σ0 f) 0 (wkn (stX σ0 31) a.toNat (ndf y i : Nat)) 1).2.2.1 := by rw [← g2]; rfl
    rw [e2]
    have hyN : ((stX σ0 31).2.1 a.toNat).toNat = y := by rw [hy]; rfl
    have hPi : silP (famX σ0 f) (stX σ0 31) a.toNat i ↔ ¬ (itr (famX σ0 f) 0 (wkn (stX σ0 31) a.toNat (ndf y i : Nat)) 1).2.2.1 = a := by
      unfold silP
      rw [hyN, ← e_nat a0]
      constructor
      · exact fun z => z.2
      · exact fun z => ⟨by omega, z⟩
    refine ⟨fun h6 => go σ5 v4 v5 (hf4.tr g1) (hB.skip (fun z => absurd h6 (hPi.mp z))) hv, fun h6 => go σ5 i (pc i : Nat) (hf4.tr g1) (hB.take (hPi.mpr h6) (fun x hx => ?_)) (Or.inr ⟨i, rfl, rfl⟩)⟩
    rcases hv with ⟨hv, -⟩ | ⟨z, hz, hv⟩
    · omega
    · have : x = z := by omega
      subst this; omega
  · refine go σ1 v4 v5 hf (hB.skip (fun z => absurd ?_ h3)) hv
    have hkR := hW.2.2.1.2.1 a.toNat
    have hst : stX σ1 31 = stX σ0 31 := stX_eq hnow
    have ek1 : σ1 (31 + 2) a.toNat = (stX σ0 31).2.1 a.toNat := by rw [← hst]; exact (tr_in (by omega)).symm
    rw [ek1]
    have z1 := z.1
    obtain ⟨y, hy⟩ := Int.eq_ofNat_of_zero_le hkR.1
    rw [hy] at z1 hkR ⊢
    rw [iAndN_n (by omega) (by omega)]
    simp at z1
    omega
def Ou_findSilence_I : List AV → Hp → Nat → Nat → List AV → List AV → Hp → Prop := fun as σ0 pc n st ls σ => (match as with
    | [.inr (.inr (.inl (k, 0, 4))), .inr (.inr (.inl (q1, 0, 1))), .inr (.inr (.inl (q2, 0, 7))), .inl a3] => (bif Nat.beq pc 10 then (match st, ls with
      | [], [.inr (.inr (.inl (k', 0, 4))), .inr (.inr (.inl (q1', 0, 1))), .inr (.inr (.inl (q2', 0, 7))), .inl a3', .inl v4, .inl v5, .inl v6, _] => k = k' ∧ q1 = q1' ∧ q2 = q2' ∧ a3 = a3' ∧ Ou_findSilence_I10 k q1 q2 a3 σ0 n v4 v5 v6 σ
      | _, _ => False) else False)
    | _ => False)
def Ou_findSilence_ct : Nat → Ct := fun n => match n with
  | 0 => Ji_bitCount_cs
  | 1 => St_copy_cs
  | 2 => Fa_pass_cs
  | _ => Ou_findSilence_cs
set_option maxRecDepth 20000 in
set_option maxHeartbeats 4000000 in
theorem Ou_findSilence_met {l : Launch} {D : va_G} {ad : Nat → Nat} {ca : Nat → ClassId} {L : Nat} {fx : Nat → Int} : ax_MC l D ad ca L fx yX4_findSilence cX4_findSilence 8 (some .int) 6 Ou_findSilence_cs := by
  refine ax_met (oc := 4) (ct := Ou_findSilence_ct) (calls := Ou_findSilence_cl) (bs := Ou_findSilence_bk) (cut := fun pc => Nat.beq pc 10) (f := 6) (I := Ou_findSilence_I) (by decide) rfl rfl Ou_findSilence_ck (List.forall_mem_cons.mpr ⟨ax_cwS Ji_bitCount_met (by decide) (by decide) (ax_m5 40 (by decide +kernel) rfl) Ji_bitCount_w rfl Ji_bitCount_ds, List.forall_mem_cons.mpr ⟨ax_cwV St_copy_met (by decide) (by decide) rfl (by decide) rfl (ax_m4 85 (by decide +kernel) rfl) St_copy_w rfl St_copy_ds, List.forall_mem_cons.mpr ⟨ax_cwV Fa_pass_met (by decide) (by decide) rfl (by decide) rfl (ax_m4 89 (by decide +kernel) rfl) Fa_pass_w rfl Fa_pass_ds, fun _ h => absurd h List.not_mem_nil⟩⟩⟩) ?_ ?_
  · intro as σ0 hp hH
    match as, hp with
    | [.inr (.inr (.inl (k, 0, 4))), .inr (.inr (.inl (q1, 0, 1))), .inr (.inr (.inl (q2, 0, 7))), .inl a3], hp => exact ⟨rfl, Ou_findSilence_p k q1 q2 a3 σ0 hH hp⟩
  · intro as σ0 hp n pc st ls σ hH hI
    match as, hp, hI with
    | [.inr (.inr (.inl (k, 0, 4))), .inr (.inr (.inl (q1, 0, 1))), .inr (.inr (.inl (q2, 0, 7))), .inl a3], hp, hI =>
      rcases ax_bifE hI with ⟨hpc, hI⟩ | ⟨-, hI⟩
      · have := Nat.eq_of_beq_eq_true hpc
        subst this
        match st, ls, hI with
        | [], [.inr (.inr (.inl (k', 0, 4))), .inr (.inr (.inl (q1', 0, 1))), .inr (.inr (.inl (q2', 0, 7))), .inl a3', .inl v4, .inl v5, .inl v6, _], hI =>
          obtain ⟨rfl, rfl, rfl, rfl, hI⟩ := hI
          exact Ou_findSilence_p10 k q1 q2 a3 σ0 hp n v4 v5 v6 σ hH hI
      exact False.elim hI
/-- would a word bring it to him -/
def wdt (F : Fam) (s : Sta) (p o : Nat) : Nat := if ¬ o = p ∧ ¬ bt (s.2.1 p) o = true ∧ ¬ (itr F 0 s 1).2.2.1 = (p : Int) ∧ (itr F 0 (wkn s p ((s.2.1 p).toNat ||| 2 ^ o : Nat)) 1).2.2.1 = (p : Int) then 1 else 0
def wrw (F : Fam) (s : Sta) (p : Nat) : Nat → Nat
  | 0 => 0
  | o + 1 => wrw F s p o + wdt F s p o
def wto (F : Fam) (s : Sta) (n : Nat) : Nat → Nat
  | 0 => 0
  | p + 1 => wto F s n p + wrw F s p n
theorem wrw_s (F : Fam) (s : Sta) (p o : Nat) : wrw F s p (o + 1) = wrw F s p o + wdt F s p o := rfl
theorem wto_s (F : Fam) (s : Sta) (n p : Nat) : wto F s n (p + 1) = wto F s n p + wrw F s p n := rfl
theorem wrw_le (F : Fam) (s : Sta) (p o : Nat) : wrw F s p o ≤ o := by
  induction o with
  | zero => exact Nat.le_refl 0
  | succ o ih => rw [wrw_s]; unfold wdt; split <;> omega
theorem wto_le (F : Fam) (s : Sta) (n p : Nat) : wto F s n p ≤ n * p := by
  induction p with
  | zero => exact Nat.le_refl 0
  | succ p ih => rw [wto_s, Nat.mul_succ]; have := wrw_le F s p n; omega
theorem wrw_0 {F : Fam} {s : Sta} {p : Nat} (h : (itr F 0 s 1).2.2.1 = (p : Int)) (o : Nat) : wrw F s p o = 0 := by
  induction o with
  | zero => rfl
  | succ o ih => rw [wrw_s, ih]; unfold wdt; rw [if_neg (fun z => z.2.2.1 h)]
def Ou_countWords_pre (k f q : Nat) (σ : Hp) : Prop := k = 3 ∧ q = 31 ∧ OW σ f
def Ou_countWords_post (_k f _q : Nat) (σ : Hp) (r : Int) (σ' : Hp) : Prop := Fr (sg f 4) σ σ' ∧ r = (wto (famX σ f) (stX σ 31) (fN (famX σ f)) (fN (famX σ f)) : Nat)
def Ou_countWords_I18 (_k f _q : Nat) (σ0 : Hp) (m : Nat) (v3 v4 v5 : Int) (σ : Hp) : Prop := ∃ i : Nat, v5 = i ∧ i ≤ fN (famX σ0 f) ∧ m = 10 * (7 - i) ∧ Fr (sg f 4) σ0 σ ∧ v3 = (itr (famX σ0 f) 0 (stX σ0 31) 1).2.2.1 ∧ v4 = (wto (famX σ0 f) (stX σ0 31) (fN (famX σ0 f)) i : Nat)
def Ou_countWords_I39 (_k f _q : Nat) (σ0 : Hp) (m : Nat) (v3 v4 v5 v6 : Int) (σ : Hp) : Prop := ∃ i j : Nat, v5 = i ∧ v6 = j ∧ i < fN (famX σ0 f) ∧ j ≤ fN (famX σ0 f) ∧ m = 10 * (6 - i) + (9 - j) ∧ Fr (sg f 4) σ0 σ ∧ v3 = (itr (famX σ0 f) 0 (stX σ0 31) 1).2.2.1 ∧ ¬ (i : Int) = v3 ∧ v4 = (wto (famX σ0 f) (stX σ0 31) (fN (famX σ0 f)) i + wrw (famX σ0 f) (stX σ0 31) i j : Nat)
def Ou_countWords_bk : List (Nat × List Item) := [(0, [(.aload_n 0, 1, [], []), (.aload_n 1, 1, [], []), (.aload_n 2, 1, [], []), (.iconst 1, 1, [], []), (.iconst 0, 1, [], []), (.invokevirtual 137, 3, [0], []), (.getfield 65, 3, [7, 2, 0, 0, 0, 0], []), (.istore_n 3, 1, [], []), (.iconst 0, 1, [], []), (.istore 4, 2, [], []), (.iconst 0, 1, [], []), (.istore 5, 2, [], [])]),
  (18, [(.iload 5, 2, [], []), (.aload_n 1, 1, [], []), (.getfield 50, 3, [1, 9, 0, 0, 0, 0], []), (.if_icmp .ge 106, 3, [130], []), (.iload 5, 2, [], []), (.iload_n 3, 1, [], []), (.if_icmp .ne 6, 3, [36], []), (.goto 91, 3, [124], [])]),
  (36, [(.iconst 0, 1, [], []), (.istore 6, 2, [], [])]),
  (39, [(.iload 6, 2, [], []), (.aload_n 1, 1, [], []), (.getfield 50, 3, [1, 9, 0, 0, 0, 0], []), (.if_icmp .ge 79, 3, [124], []), (.iload 6, 2, [], []), (.iload 5, 2, [], []), (.if_icmp .eq 66, 3, [118], []), (.aload_n 2, 1, [], []), (.iload 5, 2, [], []), (.iload 6, 2, [], []), (.invokevirtual 93, 3, [1], []), (.ifCond .eq 6, 3, [69], []), (.goto 52, 3, [118], [])]),
  (69, [(.aload_n 0, 1, [], []), (.getfield 12, 3, [4, 0, 4, 1, 0, 7], []), (.aload_n 2, 1, [], []), (.invokevirtual 40, 3, [2], []), (.aload_n 0, 1, [], []), (.getfield 12, 3, [4, 0, 4, 1, 0, 7], []), (.getfield 97, 3, [7, 1, 4, 2, 1, 6], []), (.iload 5, 2, [], []), (.dup2, 1, [], []), (.iaload, 1, [], []), (.iconst 1, 1, [], []), (.iload 6, 2, [], []), (.ishl, 1, [], []), (.ior, 1, [], []), (.iastore, 1, [], []), (.aload_n 1, 1, [], []), (.aload_n 0, 1, [], []), (.getfield 12, 3, [4, 0, 4, 1, 0, 7], []), (.iconst 0, 1, [], []), (.invokevirtual 44, 3, [3], []), (.aload_n 0, 1, [], []), (.getfield 12, 3, [4, 0, 4, 1, 0, 7], []), (.getfield 65, 3, [7, 2, 0, 0, 0, 0], []), (.iload 5, 2, [], []), (.if_icmp .ne 6, 3, [118], []), (.iinc 4 1, 3, [], [])]),
  (118, [(.iinc 6 1, 3, [], []), (.goto (-82), 3, [39], [])]),
  (124, [(.iinc 5 1, 3, [], []), (.goto (-109), 3, [18], [])]),
  (130, [(.iload 4, 2, [], []), (.ireturn, 1, [], [])])]
def Ou_countWords_cl : List (Instr × Nat) := [(.invokevirtual 137, 0), (.invokevirtual 93, 1), (.invokevirtual 40, 2), (.invokevirtual 44, 3)]
set_option maxRecDepth 20000 in
theorem Ou_countWords_ck : Ou_countWords_bk.all (fun b => ax_chB 4 7 cX4_countWords Ou_countWords_cl b.1 b.2) = true := by decide +kernel
def Ou_countWords_cs : Ct := (3, 5, 1, (0, 0), fun as σ => (match as with
    | [.inr (.inr (.inl (k, 0, 4))), .inr (.inr (.inl (q1, 0, 1))), .inr (.inr (.inl (q2, 0, 7)))] => Ou_countWords_pre k q1 q2 σ
    | _ => False), fun as σ r σ' => (match as with
    | [.inr (.inr (.inl (k, 0, 4))), .inr (.inr (.inl (q1, 0, 1))), .inr (.inr (.inl (q2, 0, 7)))] => Ou_countWords_post k q1 q2 σ r σ'
    | _ => False))
theorem Ou_countWords_w : ∀ w ∈ ([.instanceMethod yX4_countWords, .selects yX4_countWords.cls yX4_countWords yX4_countWords, .initialized yX4_countWords.cls, .code yX4_countWords cX4_countWords 7 (some .int)] : List Cond), w ∈ ax_tb := ax_w4 (ax_m4 207 (by decide +kernel) rfl) (ax_m4 208 (by decide +kernel) rfl) (ax_m1 3 (by decide +kernel) rfl) (ax_m4 209 (by decide +kernel) rfl)
theorem Ou_countWords_ds : yX4_countWords.cls ≠ "java/lang/invoke/MethodHandle" ∧ yX4_countWords.cls ≠ "java/lang/invoke/VarHandle" ∧ (parseMethodDescriptor yX4_countWords.desc).map (fun d => d.parameters.length) = some 2 := by decide +kernel
def Ou_countWords_vc : Prop := ∀ (k : Nat) (q1 : Nat) (q2 : Nat) (σ : Hp), ax_H σ → Ou_countWords_pre k q1 q2 σ →
  Ou_after_pre k q1 q2 1 0 σ ∧
  ∀ (r2 : Nat) (σ1 : Hp), Ou_after_post k q1 q2 1 0 σ (r2 : Int) σ1 →
  ∃ n' : Nat, k = k ∧ q1 = q1 ∧ q2 = q2 ∧ Ou_countWords_I18 k q1 q2 σ n' (σ1 r2 2) 0 0 σ1
def Ou_countWords_vc18 : Prop := ∀ (k : Nat) (q1 : Nat) (q2 : Nat) (σ0 : Hp), Ou_countWords_pre k q1 q2 σ0 → ∀ (n : Nat) (v3 : Int) (v4 : Int) (v5 : Int) (σ : Hp), ax_H σ → Ou_countWords_I18 k q1 q2 σ0 n v3 v4 v5 σ →
  (σ q1 9 ≤ v5 →
    Ou_countWords_post k q1 q2 σ0 v4 σ) ∧
  (¬ (σ q1 9 ≤ v5) →
    (¬ v5 = v3 →
      ∃ n' : Nat, n' < n ∧ k = k ∧ q1 = q1 ∧ q2 = q2 ∧ Ou_countWords_I39 k q1 q2 σ0 n' v3 v4 v5 0 σ) ∧
    (¬ (¬ v5 = v3) →
      ∃ n' : Nat, n' < n ∧ k = k ∧ q1 = q1 ∧ q2 = q2 ∧ Ou_countWords_I18 k q1 q2 σ0 n' v3 v4 (wr (v5 + 1)) σ))
def Ou_countWords_vc39 : Prop := ∀ (k : Nat) (q1 : Nat) (q2 : Nat) (σ0 : Hp), Ou_countWords_pre k q1 q2 σ0 → ∀ (n : Nat) (v3 : Int) (v4 : Int) (v5 : Int) (v6 : Int) (σ : Hp), ax_H σ → Ou_countWords_I39 k q1 q2 σ0 n v3 v4 v5 v6 σ →
  (σ q1 9 ≤ v6 →
    ∃ n' : Nat, n' < n ∧ k = k ∧ q1 = q1 ∧ q2 = q2 ∧ Ou_countWords_I18 k q1 q2 σ0 n' v3 v4 (wr (v5 + 1)) σ) ∧
  (¬ (σ q1 9 ≤ v6) →
    (v6 = v5 →
      ∃ n' : Nat, n' < n ∧ k = k ∧ q1 = q1 ∧ q2 = q2 ∧ Ou_countWords_I39 k q1 q2 σ0 n' v3 v4 v5 (wr (v6 + 1)) σ) ∧
    (¬ (v6 = v5) →
      St_isKnown_pre q2 v5 v6 σ ∧
      ∀ (r2 : Int) (σ1 : Hp), St_isKnown_post q2 v5 v6 σ r2 σ1 →
      (r2 = 0 →
        St_copy_pre (k + 1) q2 σ1 ∧
        ∀ σ3 : Hp, St_copy_post (k + 1) q2 σ1 σ3 →
        (0 ≤ v5 ∧ v5 < 6) ∧
        (0 ≤ v5 ∧ v5 < 6) ∧
        ∀ σ4 : Hp, σ4 = hp σ3 (k + 3) v5.toNat (iOr (σ3 (k + 3) v5.toNat) (iShl 1 v6)) →
        Fa_pass_pre q1 (k + 1) 0 σ4 ∧
        ∀ σ5 : Hp, Fa_pass_post q1 (k + 1) 0 σ4 σ5 →
        (¬ σ5 (k + 1) 2 = v5 →
          ∃ n' : Nat, n' < n ∧ k = k ∧ q1 = q1 ∧ q2 = q2 ∧ Ou_countWords_I39 k q1 q2 σ0 n' v3 v4 v5 (wr (v6 + 1)) σ5) ∧
        (¬ (¬ σ5 (k + 1) 2 = v5) →
          ∃ n' : Nat, n' < n ∧ k = k ∧ q1 = q1 ∧ q2 = q2 ∧ Ou_countWords_I39 k q1 q2 σ0 n' v3 (wr (v4 + 1)) v5 (wr (v6 + 1)) σ5)) ∧
      (¬ (r2 = 0) →
        ∃ n' : Nat, n' < n ∧ k = k ∧ q1 = q1 ∧ q2 = q2 ∧ Ou_countWords_I39 k q1 q2 σ0 n' v3 v4 v5 (wr (v6 + 1)) σ1)))
theorem Ou_countWords_p : Ou_countWords_vc := by
  intro k f q σ hH hp
  obtain ⟨rfl, rfl, hW⟩ := hp
  refine ⟨⟨rfl, rfl, hW, by decide, by decide, Or.inr rfl⟩, ?_⟩
  rintro r2 σ1 ⟨hr, hf, hs⟩
  have hr4 : r2 = 4 := by omega
  subst hr4
  refine ⟨70, rfl, rfl, rfl, 0, rfl, Nat.zero_le _, rfl, hf, ?_, rfl⟩
  exact congrArg (fun x => x.2.2.1) hs
theorem Ou_countWords_p18 : Ou_countWords_vc18 := by
  intro k f q σ0 hp m v3 v4 v5 σ hH hI
  obtain ⟨rfl, rfl, hW⟩ := hp
  obtain ⟨i, rfl, hi, rfl, hf, rfl, rfl⟩ := hI
  obtain ⟨hW1, hfam, hnow⟩ := hW.keep hf (fun c hc => Or.inl hc)
  have e9 := hW1.2.1.e9
  rw [hfam] at e9
  have hn6 := hW.2.1.n6
  rw [e9]
  refine ⟨fun h => ⟨hf, by rw [show i = fN (famX σ0 f) by omega]⟩, fun h => ⟨fun h2 => ?_, fun h2 => ?_⟩⟩
  · exact ⟨10 * (6 - i) + 9, by omega, rfl, rfl, rfl, i, 0, rfl, rfl, by omega, Nat.zero_le _, rfl, hf, rfl, h2, rfl⟩
  · rw [wr1 (by omega) (by omega)]
    refine ⟨10 * (7 - (i + 1)), by omega, rfl, rfl, rfl, i + 1, by simp, by omega, rfl, hf, rfl, ?_⟩
    rw [wto_s, wrw_0 (Classical.not_not.mp h2).symm]
    rfl
theorem Ou_countWords_p39 : Ou_countWords_vc39 := by
  intro k f q σ0 hp m v3 v4 v5 v6 σ hH hI
  obtain ⟨rfl, rfl, hW⟩ := hp
  obtain ⟨i, j, rfl, rfl, hi, hj, rfl, hf, rfl, hne, rfl⟩ := hI
  obtain ⟨hW1, hfam, hnow⟩ := hW.keep hf (fun c hc => Or.inl hc)
  have e9 := hW1.2.1.e9
  rw [hfam] at e9
  have hn6 := hW.2.1.n6
  rw [e9]
  have hst : stX σ 31 = stX σ0 31 := stX_eq hnow
  have hl1 := wto_le (famX σ0 f) (stX σ0 31) (fN (famX σ0 f)) i
  have hl2 := wrw_le (famX σ0 f) (stX σ0 31) i j
  have hl3 : fN (famX σ0 f) * i ≤ 6 * 6 := Nat.mul_le_mul hn6 (by omega)
  have go : ∀ (σ2 : Hp) (w : Int), j < fN (famX σ0 f) → Fr (sg f 4) σ0 σ2 → w = ((wto (famX σ0 f) (stX σ0 31) (fN (famX σ0 f)) i + wrw (famX σ0 f) (stX σ0 31) i j + wdt (famX σ0 f) (stX σ0 31) i j : Nat) : Int) →
      ∃ n' : Nat, n' < 10 * (6 - i) + (9 - j) ∧ (3 : Nat) = 3 ∧ f = f ∧ (31 : Nat) = 31 ∧ Ou_countWords_I39 3 f 31 σ0 n' ((itr (famX σ0 f) 0 (stX σ0 31) 1).2.2.1) w i ((j : Int) + 1) σ2 := by
    intro σ2 w h0 h1 h2
    refine ⟨10 * (6 - i) + (9 - (j + 1)), by omega, rfl, rfl, rfl, i, j + 1, rfl, by simp, hi, by omega, rfl, h1, rfl, hne, ?_⟩
    rw [h2, wrw_s]
    simp; omega
  refine ⟨fun h => ?_, fun h => ⟨fun h2 => ?_, fun h2 => ?_⟩⟩
  · rw [wr1 (by omega) (by omega)]
    refine ⟨10 * (7 - (i + 1)), by omega, rfl, rfl, rfl, i + 1, by simp, by omega, rfl, hf, rfl, ?_⟩
    rw [wto_s, show j = fN (famX σ0 f) by omega]
  · rw [wr1 (by omega) (by omega)]
    refine go σ _ (by omega) hf ?_
    unfold wdt
    rw [if_neg (fun z => z.1 (by omega))]
    rfl
  · have hjj : ¬ j = i := by omega
    refine ⟨⟨by omega, by omega, by omega, by omega, hW1.2.2.1.ss⟩, ?_⟩
    rintro r2 σ1 ⟨rfl, rfl⟩
    rw [Int.toNat_natCast, Int.toNat_natCast, wr1 (by omega) (by omega), wr1 (by omega) (by omega)]
    have hkR := hW.2.2.1.2.1 i
    have ek1 : σ1 (31 + 2) i = (stX σ0 31).2.1 i := by rw [← hst]; exact (tr_in (by omega)).symm
    rw [ek1]
    refine ⟨fun h3 => ?_, fun h3 => ?_⟩
    · have hbf : ¬ bt ((stX σ0 31).2.1 i) j = true := fun z => absurd h3 (by rw [if_pos z]; decide)
      refine ⟨⟨Or.inl rfl, Or.inr (Or.inr rfl), by decide⟩, ?_⟩
      rintro σ3 ⟨hf3, hs3⟩
      refine ⟨⟨by omega, by omega⟩, ⟨by omega, by omega⟩, ?_⟩
      rintro σ4 rfl
      have ek : σ3 (3 + 3) i = (stX σ0 31).2.1 i := by
        have : tr 6 (σ3 6) i = (stX σ1 31).2.1 i := congrFun (congrArg (fun x => x.2.1) hs3) i
        rw [tr_in (by omega), hst] at this
        exact this
      rw [ek]
      obtain ⟨y, hy⟩ := Int.eq_ofNat_of_zero_le hkR.1
      have hyN : ((stX σ0 31).2.1 i).toNat = y := by rw [hy]; rfl
      rw [hy] at hkR ⊢
      have hs1 : iShl 1 (j : Int) = ((2 ^ j : Nat) : Int) := shl_1 (j := (j : Int)) (by omega) (by omega)
      have h64 : 2 ^ j < 2 ^ 6 := Nat.pow_lt_pow_right (by decide) (by omega)
      rw [hs1, iOr_n (by omega) (by omega)]
      have hol : y ||| 2 ^ j < 64 := Nat.or_lt_two_pow (n := 6) (by omega) h64
      have hf4 : Fr (sg f 4) σ0 (hp σ3 6 i (y ||| 2 ^ j : Nat)) := Fr.hp (hf.tr (hf3.mono (by simp [sg]))) (by simp [sg])
      have hs4 : stX (hp σ3 6 i (y ||| 2 ^ j : Nat)) 4 = itr (famX σ0 f) 0 (wkn (stX σ0 31) i (y ||| 2 ^ j : Nat)) 0 := by
        rw [stX_know (q := 4) (by omega), hs3, hst]; rfl
      obtain ⟨p1, p2⟩ := hW.day hf4 (fun c hc => Or.inl hc) (by omega) (hW.2.2.1.wkn i ⟨by omega, by omega⟩) hs4
      refine ⟨p1, fun σ5 h5 => ?_⟩
      obtain ⟨g1, g2⟩ := p2 σ5 h5
      have e2 : σ5 (3 + 1) 2 = (itr (famX σ0 f) 0 (wkn (stX σ0 31) i (y ||| 2 ^ j : Nat)) 1).2.2.1 := by rw [← g2]; rfl
      rw [e2]
      refine ⟨fun h6 => go σ5 _ (by omega) (hf4.tr g1) ?_, fun h6 => go σ5 _ (by omega) (hf4.tr g1) ?_⟩
      · unfold wdt
        rw [hyN, if_neg (fun z => h6 z.2.2.2)]
        rfl
      · unfold wdt
        rw [hyN, if_pos ⟨hjj, hbf, fun z => hne z.symm, Classical.not_not.mp h6⟩]
        rfl
    · have hbt : bt ((stX σ0 31).2.1 i) j = true := by
        by_cases z : bt ((stX σ0 31).2.1 i) j = true
        · exact z
        · exact absurd (by rw [if_neg z]) h3
      refine go σ1 _ (by omega) hf ?_
      unfold wdt
      rw [if_neg (fun z => z.2.1 hbt)]
      rfl
def Ou_countWords_I : List AV → Hp → Nat → Nat → List AV → List AV → Hp → Prop := fun as σ0 pc n st ls σ => (match as with
    | [.inr (.inr (.inl (k, 0, 4))), .inr (.inr (.inl (q1, 0, 1))), .inr (.inr (.inl (q2, 0, 7)))] => (bif Nat.beq pc 18 then (match st, ls with
      | [], [.inr (.inr (.inl (k', 0, 4))), .inr (.inr (.inl (q1', 0, 1))), .inr (.inr (.inl (q2', 0, 7))), .inl v3, .inl v4, .inl v5, _] => k = k' ∧ q1 = q1' ∧ q2 = q2' ∧ Ou_countWords_I18 k q1 q2 σ0 n v3 v4 v5 σ
      | _, _ => False) else (bif Nat.beq pc 39 then (match st, ls with
      | [], [.inr (.inr (.inl (k', 0, 4))), .inr (.inr (.inl (q1', 0, 1))), .inr (.inr (.inl (q2', 0, 7))), .inl v3, .inl v4, .inl v5, .inl v6] => k = k' ∧ q1 = q1' ∧ q2 = q2' ∧ Ou_countWords_I39 k q1 q2 σ0 n v3 v4 v5 v6 σ
      | _, _ => False) else False))
    | _ => False)
def Ou_countWords_ct : Nat → Ct := fun n => match n with
  | 0 => Ou_after_cs
  | 1 => St_isKnown_cs
  | 2 => St_copy_cs
  | 3 => Fa_pass_cs
  | _ => Ou_countWords_cs
set_option maxRecDepth 20000 in
set_option maxHeartbeats 4000000 in
theorem Ou_countWords_met {l : Launch} {D : va_G} {ad : Nat → Nat} {ca : Nat → ClassId} {L : Nat} {fx : Nat → Int} : ax_MC l D ad ca L fx yX4_countWords cX4_countWords 7 (some .int) 7 Ou_countWords_cs := by
  refine ax_met (oc := 4) (ct := Ou_countWords_ct) (calls := Ou_countWords_cl) (bs := Ou_countWords_bk) (cut := fun pc => Nat.beq pc 18 || Nat.beq pc 39) (f := 9) (I := Ou_countWords_I) (by decide) rfl rfl Ou_countWords_ck (List.forall_mem_cons.mpr ⟨ax_cwV Ou_after_met (by decide) (by decide) rfl (by decide) rfl (ax_m4 210 (by decide +kernel) rfl) Ou_after_w rfl Ou_after_ds, List.forall_mem_cons.mpr ⟨ax_cwV St_isKnown_met (by decide) (by decide) rfl (by decide) rfl (ax_m4 135 (by decide +kernel) rfl) St_isKnown_w rfl St_isKnown_ds, List.forall_mem_cons.mpr ⟨ax_cwV St_copy_met (by decide) (by decide) rfl (by decide) rfl (ax_m4 85 (by decide +kernel) rfl) St_copy_w rfl St_copy_ds, List.forall_mem_cons.mpr ⟨ax_cwV Fa_pass_met (by decide) (by decide) rfl (by decide) rfl (ax_m4 89 (by decide +kernel) rfl) Fa_pass_w rfl Fa_pass_ds, fun _ h => absurd h List.not_mem_nil⟩⟩⟩⟩) ?_ ?_
  · intro as σ0 hp hH
    match as, hp with
    | [.inr (.inr (.inl (k, 0, 4))), .inr (.inr (.inl (q1, 0, 1))), .inr (.inr (.inl (q2, 0, 7)))], hp => exact ⟨rfl, Ou_countWords_p k q1 q2 σ0 hH hp⟩
  · intro as σ0 hp n pc st ls σ hH hI
    match as, hp, hI with
    | [.inr (.inr (.inl (k, 0, 4))), .inr (.inr (.inl (q1, 0, 1))), .inr (.inr (.inl (q2, 0, 7)))], hp, hI =>
      rcases ax_bifE hI with ⟨hpc, hI⟩ | ⟨-, hI⟩
      · have := Nat.eq_of_beq_eq_true hpc
        subst this
        match st, ls, hI with
        | [], [.inr (.inr (.inl (k', 0, 4))), .inr (.inr (.inl (q1', 0, 1))), .inr (.inr (.inl (q2', 0, 7))), .inl v3, .inl v4, .inl v5, _], hI =>
          obtain ⟨rfl, rfl, rfl, hI⟩ := hI
          exact Ou_countWords_p18 k q1 q2 σ0 hp n v3 v4 v5 σ hH hI
      rcases ax_bifE hI with ⟨hpc, hI⟩ | ⟨-, hI⟩
      · have := Nat.eq_of_beq_eq_true hpc
        subst this
        match st, ls, hI with
        | [], [.inr (.inr (.inl (k', 0, 4))), .inr (.inr (.inl (q1', 0, 1))), .inr (.inr (.inl (q2', 0, 7))), .inl v3, .inl v4, .inl v5, .inl v6], hI =>
          obtain ⟨rfl, rfl, rfl, hI⟩ := hI
          exact Ou_countWords_p39 k q1 q2 σ0 hp n v3 v4 v5 v6 σ hH hI
      exact False.elim hI

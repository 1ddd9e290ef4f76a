-- THE MODEL: what was seen
theorem H_was' {σ : Hp} (hH : ax_H σ) (j : Nat) : σ 103 j = 0 ∨ σ 103 j = 1 := by
  have h := hH 103
  exact h j
def SGm (σ : Hp) : Prop := (0 ≤ σ 67 64 ∧ σ 67 64 ≤ 30) ∧ ∀ i : Nat, (i : Int) < σ 67 64 → (0 ≤ σ 99 i ∧ σ 99 i < 10) ∧ -1 ≤ σ 102 i
def Mo_fitsCare_pre (k : Nat) (a _b : Int) (σ : Hp) : Prop := k = 67 ∧ 0 ≤ a ∧ a < 100 ∧ SGm σ
def Mo_fitsCare_post (_k : Nat) (a b : Int) (σ : Hp) (r : Int) (σ' : Hp) : Prop := σ' = σ ∧ r = if fitB (fun d => σ 104 (10 * a.toNat + d)) (sgM σ) b (sgM σ).1 = true then 1 else 0
def Mo_fitsCare_I5 (_k : Nat) (a b : Int) (σ0 : Hp) (n : Nat) (v3 v4 : Int) (σ : Hp) : Prop := ∃ i : Nat, v4 = i ∧ i ≤ (σ0 67 64).toNat ∧ n = 30 - i ∧ σ = σ0 ∧ v3 = if fitB (fun d => σ0 104 (10 * a.toNat + d)) (sgM σ0) b i = true then 1 else 0
def Mo_fitsCare_bk : List (Nat × List Item) := [(0, [(.iconst 1, 1, [], []), (.istore_n 3, 1, [], []), (.iconst 0, 1, [], []), (.istore 4, 2, [], [])]),
  (5, [(.iload 4, 2, [], []), (.aload_n 0, 1, [], []), (.getfield 373, 3, [9, 64, 0, 0, 0, 0], []), (.if_icmp .ge 96, 3, [107], []), (.iload_n 3, 1, [], []), (.ifCond .eq 92, 3, [107], []), (.aload_n 0, 1, [], []), (.getfield 118, 3, [9, 61, 4, 34, 1, 30], []), (.iload 4, 2, [], []), (.iaload, 1, [], []), (.iload_n 2, 1, [], []), (.if_icmp .gt 75, 3, [101], []), (.aload_n 0, 1, [], []), (.getfield 121, 3, [9, 62, 4, 35, 1, 30], []), (.iload 4, 2, [], []), (.iaload, 1, [], []), (.ifCond .lt 17, 3, [53], []), (.aload_n 0, 1, [], []), (.getfield 121, 3, [9, 62, 4, 35, 1, 30], []), (.iload 4, 2, [], []), (.iaload, 1, [], []), (.iload_n 2, 1, [], []), (.if_icmp .gt 6, 3, [53], []), (.goto 51, 3, [101], [])]),
  (53, [(.aload_n 0, 1, [], []), (.getfield 127, 3, [9, 66, 4, 37, 1, 1000], []), (.bipush 10, 2, [], []), (.iload_n 1, 1, [], []), (.imul, 1, [], []), (.aload_n 0, 1, [], []), (.getfield 112, 3, [9, 59, 4, 32, 1, 30], []), (.iload 4, 2, [], []), (.iaload, 1, [], []), (.iadd, 1, [], []), (.iaload, 1, [], []), (.aload_n 0, 1, [], []), (.getfield 115, 3, [9, 60, 4, 33, 1, 30], []), (.iload 4, 2, [], []), (.iaload, 1, [], []), (.if_icmp .ne 7, 3, [84], []), (.iconst 1, 1, [], []), (.goto 4, 3, [85], [])]),
  (84, [(.iconst 0, 1, [], [])]),
  (85, [(.aload_n 0, 1, [], []), (.getfield 124, 3, [9, 63, 4, 36, 3, 30], []), (.iload 4, 2, [], []), (.baload, 1, [], []), (.if_icmp .ne 7, 3, [99], []), (.iconst 1, 1, [], []), (.goto 4, 3, [100], [])]),
  (99, [(.iconst 0, 1, [], [])]),
  (100, [(.istore_n 3, 1, [], [])]),
  (101, [(.iinc 4 1, 3, [], []), (.goto (-99), 3, [5], [])]),
  (107, [(.iload_n 3, 1, [], []), (.ireturn, 1, [], [])])]
def Mo_fitsCare_cl : List (Instr × Nat) := []
set_option maxRecDepth 20000 in
theorem Mo_fitsCare_ck : Mo_fitsCare_bk.all (fun b => ax_chB 9 5 cX9_fitsCare Mo_fitsCare_cl b.1 b.2) = true := by decide +kernel
def Mo_fitsCare_cs : Ct := (3, 10, 2, (0, 0), fun as σ => (match as with
    | [.inr (.inr (.inl (k, 0, 9))), .inl a1, .inl a2] => Mo_fitsCare_pre k a1 a2 σ
    | _ => False), fun as σ r σ' => (match as with
    | [.inr (.inr (.inl (k, 0, 9))), .inl a1, .inl a2] => Mo_fitsCare_post k a1 a2 σ r σ'
    | _ => False))
theorem Mo_fitsCare_w : ∀ w ∈ ([.instanceMethod yX9_fitsCare, .selects yX9_fitsCare.cls yX9_fitsCare yX9_fitsCare, .initialized yX9_fitsCare.cls, .code yX9_fitsCare cX9_fitsCare 5 (some .boolean)] : List Cond), w ∈ ax_tb := ax_w4 (ax_m8 91 (by decide +kernel) rfl) (ax_m0 61 (by decide +kernel) rfl) (ax_m1 10 (by decide +kernel) rfl) (ax_m8 92 (by decide +kernel) rfl)
theorem Mo_fitsCare_ds : yX9_fitsCare.cls ≠ "java/lang/invoke/MethodHandle" ∧ yX9_fitsCare.cls ≠ "java/lang/invoke/VarHandle" ∧ (parseMethodDescriptor yX9_fitsCare.desc).map (fun d => d.parameters.length) = some 2 := by decide +kernel
def Mo_fitsCare_vc : Prop := ∀ (k : Nat) (a1 : Int) (a2 : Int) (σ : Hp), ax_H σ → Mo_fitsCare_pre k a1 a2 σ →
  ∃ n' : Nat, k = k ∧ a1 = a1 ∧ a2 = a2 ∧ Mo_fitsCare_I5 k a1 a2 σ n' 1 0 σ
def Mo_fitsCare_vc5 : Prop := ∀ (k : Nat) (a1 : Int) (a2 : Int) (σ0 : Hp), Mo_fitsCare_pre k a1 a2 σ0 → ∀ (n : Nat) (v3 : Int) (v4 : Int) (σ : Hp), ax_H σ → Mo_fitsCare_I5 k a1 a2 σ0 n v3 v4 σ →
  (σ k 64 ≤ v4 →
    (v3 = 0 ∨ v3 = 1) ∧ Mo_fitsCare_post k a1 a2 σ0 v3 σ) ∧
  (¬ (σ k 64 ≤ v4) →
    (v3 = 0 →
      (v3 = 0 ∨ v3 = 1) ∧ Mo_fitsCare_post k a1 a2 σ0 v3 σ) ∧
    (¬ (v3 = 0) →
      (0 ≤ v4 ∧ v4 < 30) ∧
      (a2 < σ (k + 34) v4.toNat →
        ∃ n' : Nat, n' < n ∧ k = k ∧ a1 = a1 ∧ a2 = a2 ∧ Mo_fitsCare_I5 k a1 a2 σ0 n' v3 (wr (v4 + 1)) σ) ∧
      (¬ (a2 < σ (k + 34) v4.toNat) →
        (0 ≤ v4 ∧ v4 < 30) ∧
        (σ (k + 35) v4.toNat < 0 →
          (0 ≤ v4 ∧ v4 < 30) ∧
          (0 ≤ wr ((wr (10 * a1)) + (σ (k + 32) v4.toNat)) ∧ wr ((wr (10 * a1)) + (σ (k + 32) v4.toNat)) < 1000) ∧
          (0 ≤ v4 ∧ v4 < 30) ∧
          (¬ σ (k + 37) (wr ((wr (10 * a1)) + (σ (k + 32) v4.toNat))).toNat = σ (k + 33) v4.toNat →
            (0 ≤ v4 ∧ v4 < 30) ∧
            (¬ 0 = σ (k + 36) v4.toNat →
              ∃ n' : Nat, n' < n ∧ k = k ∧ a1 = a1 ∧ a2 = a2 ∧ Mo_fitsCare_I5 k a1 a2 σ0 n' 0 (wr (v4 + 1)) σ) ∧
            (¬ (¬ 0 = σ (k + 36) v4.toNat) →
              ∃ n' : Nat, n' < n ∧ k = k ∧ a1 = a1 ∧ a2 = a2 ∧ Mo_fitsCare_I5 k a1 a2 σ0 n' 1 (wr (v4 + 1)) σ)) ∧
          (¬ (¬ σ (k + 37) (wr ((wr (10 * a1)) + (σ (k + 32) v4.toNat))).toNat = σ (k + 33) v4.toNat) →
            (0 ≤ v4 ∧ v4 < 30) ∧
            (¬ 1 = σ (k + 36) v4.toNat →
              ∃ n' : Nat, n' < n ∧ k = k ∧ a1 = a1 ∧ a2 = a2 ∧ Mo_fitsCare_I5 k a1 a2 σ0 n' 0 (wr (v4 + 1)) σ) ∧
            (¬ (¬ 1 = σ (k + 36) v4.toNat) →
              ∃ n' : Nat, n' < n ∧ k = k ∧ a1 = a1 ∧ a2 = a2 ∧ Mo_fitsCare_I5 k a1 a2 σ0 n' 1 (wr (v4 + 1)) σ))) ∧
        (¬ (σ (k + 35) v4.toNat < 0) →
          (0 ≤ v4 ∧ v4 < 30) ∧
          (a2 < σ (k + 35) v4.toNat →
            (0 ≤ v4 ∧ v4 < 30) ∧
            (0 ≤ wr ((wr (10 * a1)) + (σ (k + 32) v4.toNat)) ∧ wr ((wr (10 * a1)) + (σ (k + 32) v4.toNat)) < 1000) ∧
            (0 ≤ v4 ∧ v4 < 30) ∧
            (¬ σ (k + 37) (wr ((wr (10 * a1)) + (σ (k + 32) v4.toNat))).toNat = σ (k + 33) v4.toNat →
              (0 ≤ v4 ∧ v4 < 30) ∧
              (¬ 0 = σ (k + 36) v4.toNat →
                ∃ n' : Nat, n' < n ∧ k = k ∧ a1 = a1 ∧ a2 = a2 ∧ Mo_fitsCare_I5 k a1 a2 σ0 n' 0 (wr (v4 + 1)) σ) ∧
              (¬ (¬ 0 = σ (k + 36) v4.toNat) →
                ∃ n' : Nat, n' < n ∧ k = k ∧ a1 = a1 ∧ a2 = a2 ∧ Mo_fitsCare_I5 k a1 a2 σ0 n' 1 (wr (v4 + 1)) σ)) ∧
            (¬ (¬ σ (k + 37) (wr ((wr (10 * a1)) + (σ (k + 32) v4.toNat))).toNat = σ (k + 33) v4.toNat) →
              (0 ≤ v4 ∧ v4 < 30) ∧
              (¬ 1 = σ (k + 36) v4.toNat →
                ∃ n' : Nat, n' < n ∧ k = k ∧ a1 = a1 ∧ a2 = a2 ∧ Mo_fitsCare_I5 k a1 a2 σ0 n' 0 (wr (v4 + 1)) σ) ∧
              (¬ (¬ 1 = σ (k + 36) v4.toNat) →
                ∃ n' : Nat, n' < n ∧ k = k ∧ a1 = a1 ∧ a2 = a2 ∧ Mo_fitsCare_I5 k a1 a2 σ0 n' 1 (wr (v4 + 1)) σ))) ∧
          (¬ (a2 < σ (k + 35) v4.toNat) →
            ∃ n' : Nat, n' < n ∧ k = k ∧ a1 = a1 ∧ a2 = a2 ∧ Mo_fitsCare_I5 k a1 a2 σ0 n' v3 (wr (v4 + 1)) σ)))))
theorem Mo_fitsCare_p : Mo_fitsCare_vc := by
  intro k a b σ hH hp
  exact ⟨30, rfl, rfl, rfl, 0, rfl, Nat.zero_le _, rfl, rfl, rfl⟩
theorem Mo_fitsCare_p5 : Mo_fitsCare_vc5 := by
  intro k a b σ0 hp n v3 v4 σ hH hI
  obtain ⟨rfl, a0, a1, hG⟩ := hp
  obtain ⟨i, rfl, hi, rfl, rfl, hv⟩ := hI
  have hb : v3 = 0 ∨ v3 = 1 := by rw [hv]; split; exact Or.inr rfl; exact Or.inl rfl
  have h64 := hG.1
  have fin : (σ 67 64).toNat = i → (v3 = 0 ∨ v3 = 1) ∧ Mo_fitsCare_post 67 a b σ v3 σ := fun h => ⟨hb, rfl, by rw [hv, show (sgM σ).1 = i from h]⟩
  refine ⟨fun h => fin (by omega), fun h => ⟨fun h2 => ?_, fun h2 => ?_⟩⟩
  · have hff : fitB (fun d => σ 104 (10 * a.toNat + d)) (sgM σ) b i = false := by
      cases z : fitB (fun d => σ 104 (10 * a.toNat + d)) (sgM σ) b i with
      | false => rfl
      | true => rw [z, if_pos rfl] at hv; omega
    have := fitB_f hff (sgM σ).1 (show i ≤ (σ 67 64).toNat from hi)
    exact ⟨hb, rfl, by rw [this, h2]; rfl⟩
  · have hfit : fitB (fun d => σ 104 (10 * a.toNat + d)) (sgM σ) b i = true := Classical.byContradiction fun z => h2 (by rw [hv, if_neg z])
    have hN : i < (σ 67 64).toNat := by omega
    have s1 : (sgM σ).2.1 i = σ 99 i := tr_in hN
    have s2 : (sgM σ).2.2.1 i = σ 100 i := tr_in hN
    have s3 : (sgM σ).2.2.2.1 i = σ 103 i := tr_in hN
    have s4 : (sgM σ).2.2.2.2.1 i = σ 101 i := tr_in hN
    have s5 : (sgM σ).2.2.2.2.2 i = σ 102 i := tr_in hN
    have hwas := H_was' hH i
    have hday := hG.2 i (by omega)
    have ct : cts (sgM σ) i b ↔ (σ 101 i ≤ b ∧ ¬ (¬ σ 102 i = -1 ∧ σ 102 i ≤ b)) := by unfold cts; rw [s4, s5]
    have v31 : v3 = 1 := by rw [hv, if_pos hfit]
    have e10 : wr (wr (10 * a) + σ (67 + 32) i) = ((10 * a.toNat + (σ 99 i).toNat : Nat) : Int) := by
      have : σ (67 + 32) i = σ 99 i := rfl
      rw [this, wr_id (x := 10 * a) (by omega) (by omega), wr_id (by omega) (by omega)]
      omega
    have yes : ∀ w : Int, w = 1 → (cts (sgM σ) i b → (σ 104 (10 * a.toNat + (σ 99 i).toNat) = σ 100 i ↔ σ 103 i = 1)) → ∃ n' : Nat, n' < 30 - i ∧ (67 : Nat) = 67 ∧ a = a ∧ b = b ∧ Mo_fitsCare_I5 67 a b σ n' w ((i : Int) + 1) σ := by
      intro w hw hh
      refine ⟨30 - (i + 1), by omega, rfl, rfl, rfl, i + 1, by simp, by omega, rfl, rfl, ?_⟩
      rw [fitB_s, hfit, s1, s2, s3, Bool.true_and, if_pos (decide_eq_true hh), hw]
    have nay : (¬ (cts (sgM σ) i b → (σ 104 (10 * a.toNat + (σ 99 i).toNat) = σ 100 i ↔ σ 103 i = 1))) → ∃ n' : Nat, n' < 30 - i ∧ (67 : Nat) = 67 ∧ a = a ∧ b = b ∧ Mo_fitsCare_I5 67 a b σ n' 0 ((i : Int) + 1) σ := by
      intro hh
      refine ⟨30 - (i + 1), by omega, rfl, rfl, rfl, i + 1, by simp, by omega, rfl, rfl, ?_⟩
      rw [fitB_s, hfit, s1, s2, s3, Bool.true_and, decide_eq_false hh]
      rfl
    rw [Int.toNat_natCast, e10, Int.toNat_natCast, wr1 (by omega) (by omega)]
    show _ ∧ (b < σ 101 i → _) ∧ _
    have R : (0 ≤ (i : Int) ∧ (i : Int) < 30) := ⟨by omega, by omega⟩
    have R2 : (0 : Int) ≤ ((10 * a.toNat + (σ 99 i).toNat : Nat) : Int) ∧ ((10 * a.toNat + (σ 99 i).toNat : Nat) : Int) < 1000 := ⟨by omega, by omega⟩
    have body : cts (sgM σ) i b → (0 ≤ (i : Int) ∧ (i : Int) < 30) ∧
          (0 ≤ ((10 * a.toNat + (σ 99 i).toNat : Nat) : Int) ∧ ((10 * a.toNat + (σ 99 i).toNat : Nat) : Int) < 1000) ∧
          (0 ≤ (i : Int) ∧ (i : Int) < 30) ∧
          (¬ σ (67 + 37) (10 * a.toNat + (σ 99 i).toNat) = σ (67 + 33) i →
            (0 ≤ (i : Int) ∧ (i : Int) < 30) ∧
            (¬ 0 = σ (67 + 36) i → ∃ n' : Nat, n' < 30 - i ∧ (67 : Nat) = 67 ∧ a = a ∧ b = b ∧ Mo_fitsCare_I5 67 a b σ n' 0 ((i : Int) + 1) σ) ∧
            (¬ (¬ 0 = σ (67 + 36) i) → ∃ n' : Nat, n' < 30 - i ∧ (67 : Nat) = 67 ∧ a = a ∧ b = b ∧ Mo_fitsCare_I5 67 a b σ n' 1 ((i : Int) + 1) σ)) ∧
          (¬ (¬ σ (67 + 37) (10 * a.toNat + (σ 99 i).toNat) = σ (67 + 33) i) →
            (0 ≤ (i : Int) ∧ (i : Int) < 30) ∧
            (¬ 1 = σ (67 + 36) i → ∃ n' : Nat, n' < 30 - i ∧ (67 : Nat) = 67 ∧ a = a ∧ b = b ∧ Mo_fitsCare_I5 67 a b σ n' 0 ((i : Int) + 1) σ) ∧
            (¬ (¬ 1 = σ (67 + 36) i) → ∃ n' : Nat, n' < 30 - i ∧ (67 : Nat) = 67 ∧ a = a ∧ b = b ∧ Mo_fitsCare_I5 67 a b σ n' 1 ((i : Int) + 1) σ)) := by
      intro hct
      refine ⟨R, R2, R, fun h5 => ⟨R, fun h6 => nay (fun z => ?_), fun h6 => yes 1 rfl (fun _ => ?_)⟩, fun h5 => ⟨R, fun h6 => nay (fun z => ?_), fun h6 => yes 1 rfl (fun _ => ?_)⟩⟩
      · have h6' : ¬ (0 : Int) = σ 103 i := h6
        exact h5 ((z hct).mpr (hwas.resolve_left (fun w => h6' w.symm)))
      · have h6' : (0 : Int) = σ 103 i := Classical.not_not.mp h6
        exact ⟨fun y => absurd y h5, fun y => by rw [y] at h6'; cases h6'⟩
      · have h6' : ¬ (1 : Int) = σ 103 i := h6
        exact h6' ((z hct).mp (Classical.not_not.mp h5)).symm
      · have h6' : (1 : Int) = σ 103 i := Classical.not_not.mp h6
        exact ⟨fun _ => h6'.symm, fun _ => Classical.not_not.mp h5⟩
    refine ⟨R, fun h3 => yes v3 v31 (fun z => ?_), fun h3 => ⟨R, fun h4 => body (ct.mpr ?_), fun h4 => ⟨R, fun h5 => body (ct.mpr ?_), fun h5 => yes v3 v31 (fun z => ?_)⟩⟩⟩
    · have := (ct.mp z).1; omega
    · have h3' : ¬ b < σ 101 i := h3
      have h4' : σ 102 i < 0 := h4
      omega
    · have h3' : ¬ b < σ 101 i := h3
      have h5' : b < σ 102 i := h5
      omega
    · have h4' : ¬ σ 102 i < 0 := h4
      have h5' : ¬ b < σ 102 i := h5
      exact absurd (ct.mp z).2 (by omega)
def Mo_fitsCare_I : List AV → Hp → Nat → Nat → List AV → List AV → Hp → Prop := fun as σ0 pc n st ls σ => (match as with
    | [.inr (.inr (.inl (k, 0, 9))), .inl a1, .inl a2] => (bif Nat.beq pc 5 then (match st, ls with
      | [], [.inr (.inr (.inl (k', 0, 9))), .inl a1', .inl a2', .inl v3, .inl v4] => k = k' ∧ a1 = a1' ∧ a2 = a2' ∧ Mo_fitsCare_I5 k a1 a2 σ0 n v3 v4 σ
      | _, _ => False) else False)
    | _ => False)
def Mo_fitsCare_ct : Nat → Ct := fun n => match n with
  | _ => Mo_fitsCare_cs
set_option maxRecDepth 20000 in
set_option maxHeartbeats 4000000 in
theorem Mo_fitsCare_met {l : Launch} {D : va_G} {ad : Nat → Nat} {ca : Nat → ClassId} {L : Nat} {fx : Nat → Int} : ax_MC l D ad ca L fx yX9_fitsCare cX9_fitsCare 5 (some .boolean) 1 Mo_fitsCare_cs := by
  refine ax_met (oc := 9) (ct := Mo_fitsCare_ct) (calls := Mo_fitsCare_cl) (bs := Mo_fitsCare_bk) (cut := fun pc => Nat.beq pc 5) (f := 10) (I := Mo_fitsCare_I) (by decide) rfl rfl Mo_fitsCare_ck (fun _ h => absurd h List.not_mem_nil) ?_ ?_
  · intro as σ0 hp hH
    match as, hp with
    | [.inr (.inr (.inl (k, 0, 9))), .inl a1, .inl a2], hp => exact ⟨rfl, Mo_fitsCare_p k a1 a2 σ0 hH hp⟩
  · intro as σ0 hp n pc st ls σ hH hI
    match as, hp, hI with
    | [.inr (.inr (.inl (k, 0, 9))), .inl a1, .inl a2], hp, hI =>
      rcases ax_bifE hI with ⟨hpc, hI⟩ | ⟨-, hI⟩
      · have := Nat.eq_of_beq_eq_true hpc
        subst this
        match st, ls, hI with
        | [], [.inr (.inr (.inl (k', 0, 9))), .inl a1', .inl a2', .inl v3, .inl v4], hI =>
          obtain ⟨rfl, rfl, rfl, hI⟩ := hI
          exact Mo_fitsCare_p5 k a1 a2 σ0 hp n v3 v4 σ hH hI
      exact False.elim hI
/-- a state but for its seed -/
def sds (s : Sta) (x : Int) : Sta := (s.1, s.2.1, s.2.2.1, s.2.2.2.1, x, s.2.2.2.2.2)
theorem goes_sds (F : Fam) (s : Sta) (x o : Int) : goes F (sds s x) o = goes F s o := by
  unfold goes
  have : ∀ i, mwr F (sds s x) o i = mwr F s o i := by
    intro i
    induction i with
    | zero => rfl
    | succ i ih => rw [mwr_s, mwr_s, ih]; rfl
  rw [this]
theorem stp_sds (F : Fam) (s : Sta) (x : Int) : stp F 0 (sds s x) = sds (stp F 0 s) x := by
  show pss F (sds s x) 0 x = sds (pss F s 0 s.2.2.2.2.1) x
  unfold pss
  rw [pssC_0, pssC_0]
  have e : goes F (grA F s, s.2.1, s.2.2.1, s.2.2.2.1 + 1, x, s.2.2.2.2.2) (-1) = goes F (grA F s, s.2.1, s.2.2.1, s.2.2.2.1 + 1, s.2.2.2.2.1, s.2.2.2.2.2) (-1) := goes_sds F (grA F s, s.2.1, s.2.2.1, s.2.2.2.1 + 1, s.2.2.2.2.1, s.2.2.2.2.2) x (-1)
  show (grA F s, s.2.1, (if ¬ s.2.2.2.2.2 = 0 ∧ ¬ s.2.2.1 = -1 then s.2.2.1 else goes F (grA F s, s.2.1, s.2.2.1, s.2.2.2.1 + 1, x, s.2.2.2.2.2) (-1)), s.2.2.2.1 + 1, x, (0 : Int)) = _
  rw [e]
  rfl
theorem itr_sds (F : Fam) (s : Sta) (x : Int) (n : Nat) : itr F 0 (sds s x) n = sds (itr F 0 s n) x := by
  induction n with
  | zero => rfl
  | succ n ih => rw [itr_s, itr_s, ih, stp_sds]
def fs : List Nat := 104 :: 105 :: af
theorem scm_fs : ∀ c ∈ fs, scm c := by
  intro c hc
  simp only [fs, af, List.mem_cons, List.not_mem_nil, or_false] at hc
  unfold scm shC
  omega
def rw0 (σ0 σ : Hp) (c : Nat) : Prop := ∀ d, ∀ c', c' < c → ∀ x, x < 10 → σ 104 (10 * c' + x) = wsn (famM d σ0) c' x
def Mo_layFits_pre (k : Nat) (_a : Int) (σ : Hp) : Prop := k = 67 ∧ MP σ
def Mo_layFits_post (_k : Nat) (a : Int) (σ : Hp) (r : Int) (σ' : Hp) : Prop := Fr fs σ σ' ∧ (∀ d, r = (nfit (famM d σ) (sgM σ) a 100 : Nat)) ∧ (0 < (σ 67 42).toNat → rw0 σ σ' 100 ∧ ∀ d, ∀ c, c < 100 → σ' 105 c = if fts (famM d σ) (sgM σ) a c = true then 1 else 0)
def Mo_layFits_I4 (_k : Nat) (a : Int) (σ0 : Hp) (n : Nat) (v2 v3 : Int) (σ : Hp) : Prop := ∃ c : Nat, v3 = c ∧ c ≤ 100 ∧ n = 20 * (101 - c) ∧ Fr fs σ0 σ ∧ (∀ d, v2 = (nfit (famM d σ0) (sgM σ0) a c : Nat)) ∧ (0 < (σ0 67 42).toNat ∨ c = 0) ∧ rw0 σ0 σ c ∧ ∀ d, ∀ c', c' < c → σ 105 c' = if fts (famM d σ0) (sgM σ0) a c' = true then 1 else 0
def Mo_layFits_I41 (_k : Nat) (a : Int) (σ0 : Hp) (n : Nat) (v2 v3 v4 : Int) (σ : Hp) : Prop := ∃ c i : Nat, v3 = c ∧ v4 = i ∧ c < 100 ∧ i ≤ 10 ∧ n = 20 * (100 - c) + (12 - i) ∧ Fr fs σ0 σ ∧ (∀ d, v2 = (nfit (famM d σ0) (sgM σ0) a c : Nat)) ∧ 0 < (σ0 67 42).toNat ∧ rw0 σ0 σ c ∧ (∀ d, ∀ c', c' < c → σ 105 c' = if fts (famM d σ0) (sgM σ0) a c' = true then 1 else 0) ∧ (∀ d, ∀ x, x < i → σ 104 (10 * c + x) = wsn (famM d σ0) c x) ∧ ∃ s0, (∀ d, s0 = sds (bgn (famM d σ0) ((fN (famM d σ0) : Int) - 1) c) 0) ∧ Rn σ0 σ s0 0 (i - 1)
def Mo_layFits_bk : List (Nat × List Item) := [(0, [(.iconst 0, 1, [], []), (.istore_n 2, 1, [], []), (.iconst 0, 1, [], []), (.istore_n 3, 1, [], [])]),
  (4, [(.iload_n 3, 1, [], []), (.bipush 99, 2, [], []), (.if_icmp .gt 105, 3, [112], []), (.aload_n 0, 1, [], []), (.getfield 304, 3, [9, 42, 0, 0, 0, 0], []), (.ifCond .le 98, 3, [112], []), (.aload_n 0, 1, [], []), (.invokevirtual 358, 3, [0], []), (.aload_n 0, 1, [], []), (.getfield 88, 3, [9, 47, 4, 24, 1, 16], []), (.aload_n 0, 1, [], []), (.getfield 304, 3, [9, 42, 0, 0, 0, 0], []), (.iconst 1, 1, [], []), (.isub, 1, [], []), (.iload_n 3, 1, [], []), (.iastore, 1, [], []), (.aload_n 0, 1, [], []), (.iconst (-1), 1, [], []), (.invokevirtual 361, 3, [1], []), (.iconst 0, 1, [], []), (.istore 4, 2, [], [])]),
  (41, [(.iload 4, 2, [], []), (.bipush 10, 2, [], []), (.if_icmp .ge 37, 3, [82], []), (.iload 4, 2, [], []), (.ifCond .le 7, 3, [57], []), (.aload_n 0, 1, [], []), (.invokevirtual 435, 3, [2], [])]),
  (57, [(.aload_n 0, 1, [], []), (.getfield 127, 3, [9, 66, 4, 37, 1, 1000], []), (.bipush 10, 2, [], []), (.iload_n 3, 1, [], []), (.imul, 1, [], []), (.iload 4, 2, [], []), (.iadd, 1, [], []), (.aload_n 0, 1, [], []), (.getfield 88, 3, [9, 47, 4, 24, 1, 16], []), (.bipush 12, 2, [], []), (.iaload, 1, [], []), (.iastore, 1, [], []), (.iinc 4 1, 3, [], []), (.goto (-38), 3, [41], [])]),
  (82, [(.aload_n 0, 1, [], []), (.getfield 130, 3, [9, 67, 4, 38, 3, 100], []), (.iload_n 3, 1, [], []), (.aload_n 0, 1, [], []), (.iload_n 3, 1, [], []), (.iload_n 1, 1, [], []), (.invokevirtual 478, 3, [3], []), (.bastore, 1, [], []), (.iload_n 2, 1, [], []), (.aload_n 0, 1, [], []), (.getfield 130, 3, [9, 67, 4, 38, 3, 100], []), (.iload_n 3, 1, [], []), (.baload, 1, [], []), (.invokestatic 300, 3, [4], []), (.iadd, 1, [], []), (.istore_n 2, 1, [], []), (.iinc 3 1, 3, [], []), (.goto (-105), 3, [4], [])]),
  (112, [(.iload_n 2, 1, [], []), (.ireturn, 1, [], [])])]
def Mo_layFits_cl : List (Instr × Nat) := [(.invokevirtual 358, 0), (.invokevirtual 361, 1), (.invokevirtual 435, 2), (.invokevirtual 478, 3), (.invokestatic 300, 4)]
set_option maxRecDepth 20000 in
theorem Mo_layFits_ck : Mo_layFits_bk.all (fun b => ax_chB 9 5 cX9_layFits Mo_layFits_cl b.1 b.2) = true := by decide +kernel
def Mo_layFits_cs : Ct := (2, 10, 1, (0, 0), fun as σ => (match as with
    | [.inr (.inr (.inl (k, 0, 9))), .inl a1] => Mo_layFits_pre k a1 σ
    | _ => False), fun as σ r σ' => (match as with
    | [.inr (.inr (.inl (k, 0, 9))), .inl a1] => Mo_layFits_post k a1 σ r σ'
    | _ => False))
theorem Mo_layFits_w : ∀ w ∈ ([.instanceMethod yX9_layFits, .selects yX9_layFits.cls yX9_layFits yX9_layFits, .initialized yX9_layFits.cls, .code yX9_layFits cX9_layFits 5 (some .int)] : List Cond), w ∈ ax_tb := ax_w4 (ax_m8 87 (by decide +kernel) rfl) (ax_m0 60 (by decide +kernel) rfl) (ax_m1 10 (by decide +kernel) rfl) (ax_m8 88 (by decide +kernel) rfl)
theorem Mo_layFits_ds : yX9_layFits.cls ≠ "java/lang/invoke/MethodHandle" ∧ yX9_layFits.cls ≠ "java/lang/invoke/VarHandle" ∧ (parseMethodDescriptor yX9_layFits.desc).map (fun d => d.parameters.length) = some 1 := by decide +kernel
def Mo_layFits_vc : Prop := ∀ (k : Nat) (a1 : Int) (σ : Hp), ax_H σ → Mo_layFits_pre k a1 σ →
  ∃ n' : Nat, k = k ∧ a1 = a1 ∧ Mo_layFits_I4 k a1 σ n' 0 0 σ
def Mo_layFits_vc4 : Prop := ∀ (k : Nat) (a1 : Int) (σ0 : Hp), Mo_layFits_pre k a1 σ0 → ∀ (n : Nat) (v2 : Int) (v3 : Int) (σ : Hp), ax_H σ → Mo_layFits_I4 k a1 σ0 n v2 v3 σ →
  (99 < v3 →
    Mo_layFits_post k a1 σ0 v2 σ) ∧
  (¬ (99 < v3) →
    (σ k 42 ≤ 0 →
      Mo_layFits_post k a1 σ0 v2 σ) ∧
    (¬ (σ k 42 ≤ 0) →
      Mo_begin_pre k σ ∧
      ∀ σ1 : Hp, Mo_begin_post k σ σ1 →
      (0 ≤ wr ((σ1 k 42) - 1) ∧ wr ((σ1 k 42) - 1) < 16) ∧
      ∀ σ2 : Hp, σ2 = hp σ1 (k + 24) (wr ((σ1 k 42) - 1)).toNat v3 →
      Mo_goHair_pre k (-1) σ2 ∧
      ∀ σ3 : Hp, Mo_goHair_post k (-1) σ2 σ3 →
      ∃ n' : Nat, n' < n ∧ k = k ∧ a1 = a1 ∧ Mo_layFits_I41 k a1 σ0 n' v2 v3 0 σ3))
def Mo_layFits_vc41 : Prop := ∀ (k : Nat) (a1 : Int) (σ0 : Hp), Mo_layFits_pre k a1 σ0 → ∀ (n : Nat) (v2 : Int) (v3 : Int) (v4 : Int) (σ : Hp), ax_H σ → Mo_layFits_I41 k a1 σ0 n v2 v3 v4 σ →
  (10 ≤ v4 →
    Mo_fitsCare_pre k v3 a1 σ ∧
    ∀ (r2 : Int) (σ1 : Hp), Mo_fitsCare_post k v3 a1 σ r2 σ1 →
    (0 ≤ v3 ∧ v3 < 100) ∧
    (r2 = 0 ∨ r2 = 1) ∧ ∀ σ3 : Hp, σ3 = hp σ1 (k + 38) v3.toNat r2 →
    (0 ≤ v3 ∧ v3 < 100) ∧
    Mo_truth_pre (σ3 (k + 38) v3.toNat) σ3 ∧
    ∀ (r5 : Int) (σ4 : Hp), Mo_truth_post (σ3 (k + 38) v3.toNat) σ3 r5 σ4 →
    ∃ n' : Nat, n' < n ∧ k = k ∧ a1 = a1 ∧ Mo_layFits_I4 k a1 σ0 n' (wr (v2 + r5)) (wr (v3 + 1)) σ4) ∧
  (¬ (10 ≤ v4) →
    (v4 ≤ 0 →
      (0 ≤ (12 : Int) ∧ (12 : Int) < 16) ∧
      (0 ≤ wr ((wr (10 * v3)) + v4) ∧ wr ((wr (10 * v3)) + v4) < 1000) ∧
      ∀ σ6 : Hp, σ6 = hp σ (k + 37) (wr ((wr (10 * v3)) + v4)).toNat (σ (k + 24) 12) →
      ∃ n' : Nat, n' < n ∧ k = k ∧ a1 = a1 ∧ Mo_layFits_I41 k a1 σ0 n' v2 v3 (wr (v4 + 1)) σ6) ∧
    (¬ (v4 ≤ 0) →
      Mo_goDay_pre k σ ∧
      ∀ σ7 : Hp, Mo_goDay_post k σ σ7 →
      (0 ≤ (12 : Int) ∧ (12 : Int) < 16) ∧
      (0 ≤ wr ((wr (10 * v3)) + v4) ∧ wr ((wr (10 * v3)) + v4) < 1000) ∧
      ∀ σ8 : Hp, σ8 = hp σ7 (k + 37) (wr ((wr (10 * v3)) + v4)).toNat (σ7 (k + 24) 12) →
      ∃ n' : Nat, n' < n ∧ k = k ∧ a1 = a1 ∧ Mo_layFits_I41 k a1 σ0 n' v2 v3 (wr (v4 + 1)) σ8))
theorem Mo_layFits_p : Mo_layFits_vc := by
  intro k a σ hH hp
  exact ⟨2020, rfl, rfl, 0, rfl, by omega, rfl, Fr.rf, fun d => rfl, Or.inr rfl, fun d c' hc' => absurd hc' (Nat.not_lt_zero c'), fun d c' hc' => absurd hc' (Nat.not_lt_zero c')⟩
theorem fts_0 {F : Fam} {G : Sgt} {k : Int} {c : Nat} (h : fN F = 0) : fts F G k c = false := by
  unfold fts
  rw [decide_eq_false (by omega)]; rfl
theorem nfit_n0 {F : Fam} {G : Sgt} {k : Int} (h : fN F = 0) : ∀ m, nfit F G k m = 0 := by
  intro m
  induction m with
  | zero => rfl
  | succ m ih => rw [nfit_s, ih, fts_0 h]; rfl
theorem Mo_layFits_p4 : Mo_layFits_vc4 := by
  intro k a σ0 hp0 n v2 v3 σ hH hI
  obtain ⟨rfl, hP⟩ := hp0
  obtain ⟨c, rfl, hc, rfl, hf, hv, h0, hr, hF⟩ := hI
  have hn := hP.n6
  have e67 : σ 67 = σ0 67 := hf 67 (by decide)
  rw [e67]
  refine ⟨fun h => ?_, fun h => ⟨fun h2 => ?_, fun h2 => ?_⟩⟩
  · have ec : c = 100 := by omega
    subst ec
    exact ⟨hf, hv, fun _ => ⟨hr, hF⟩⟩
  · refine ⟨hf, fun d => ?_, fun z => absurd z (by omega)⟩
    have ec : c = 0 := by omega
    have en : fN (famM d σ0) = 0 := by show (σ0 67 42).toNat = 0; omega
    rw [hv d, ec, nfit_n0 en, nfit_n0 en]
  · have hpos : 0 < (σ0 67 42).toNat := by omega
    have hN := hP.np
    have NF := hN.fr hf (by simp [fs, af])
    refine ⟨⟨rfl, by rw [e67]; exact hn⟩, ?_⟩
    rintro σ1 ⟨g1, g2⟩
    have e67' : σ1 67 = σ0 67 := by rw [g1 67 (by decide), e67]
    rw [e67', wr_id (by omega) (by omega), show (σ0 67 42 - 1).toNat = (σ0 67 42).toNat - 1 by omega]
    refine ⟨⟨by omega, by omega⟩, ?_⟩
    intro σ2 hs
    have f2 : Fr fs σ0 σ2 := by rw [hs]; exact Fr.hp (hf.tr (g1.mono (by simp [fs, af]))) (by simp [fs, af])
    have N2 := hN.fr f2 (by simp [fs, af])
    obtain ⟨dF, hFV⟩ := hN.1.2.2.2
    have row : ∀ j, j < 16 → σ2 91 j = if j = (σ0 67 42).toNat - 1 then (c : Int) else if j < (σ0 67 42).toNat then σ0 86 j else if 6 ≤ j ∧ j < 6 + (σ0 67 42).toNat then σ0 89 (j - 6) else if j = 12 then -1 else 0 := by
      intro j hj
      rw [hs]
      show hp σ1 91 ((σ0 67 42).toNat - 1) (c : Int) 91 j = _
      by_cases e : j = (σ0 67 42).toNat - 1
      · rw [e, hp_r1, if_pos rfl]
      · rw [hp_r2 (fun z => e z.2), if_neg e, g2 j hj, e67, hf 86 (by simp [fs, af]), hf 89 (by simp [fs, af])]
    have ea : ∀ d, airM σ2 = sds (bgn0 (famM d σ0) ((fN (famM d σ0) : Int) - 1) c) 0 := by
      intro d
      show stR (σ2 91) 0 = _
      unfold stR sds bgn0
      refine Prod.ext ?_ (Prod.ext ?_ ?_)
      · refine tr_ext fun j hj => ?_
        rw [Nat.zero_add, row j (by omega)]
        show _ = if (j : Int) = (((σ0 67 42).toNat : Nat) : Int) - 1 then (c : Int) else tr (σ0 67 42).toNat (σ0 86) j
        by_cases e : j = (σ0 67 42).toNat - 1
        · rw [if_pos e, if_pos (by omega)]
        · rw [if_neg e, if_neg (show ¬ (j : Int) = (((σ0 67 42).toNat : Nat) : Int) - 1 by omega)]
          by_cases e2 : j < (σ0 67 42).toNat
          · rw [if_pos e2, tr_in e2]
          · rw [if_neg e2, tr_out (by omega), if_neg (by omega), if_neg (by omega)]
      · funext j
        show tr 6 (fun j => σ2 91 (0 + 6 + j)) j = tr (σ0 67 42).toNat (σ0 89) j
        by_cases hj : j < 6
        · rw [tr_in hj, row _ (by omega), if_neg (by omega), if_neg (by omega)]
          by_cases e2 : j < (σ0 67 42).toNat
          · rw [if_pos (by omega), tr_in e2, show 0 + 6 + j - 6 = j by omega]
          · rw [if_neg (by omega), tr_out (by omega), if_neg (by omega)]
        · rw [tr_out (by omega), tr_out (by omega)]
      · show (σ2 91 12, σ2 91 14, σ2 91 15, σ2 91 13) = (-1, 0, 0, 0)
        rw [row 12 (by decide), row 13 (by decide), row 14 (by decide), row 15 (by decide)]
        rw [if_neg (by omega), if_neg (by omega), if_neg (by omega), if_pos rfl, if_neg (by omega), if_neg (by omega), if_neg (by omega), if_neg (by omega), if_neg (by omega), if_neg (by omega), if_neg (by omega), if_neg (by omega), if_neg (by omega), if_neg (by omega), if_neg (by omega), if_neg (by omega)]
    have cR : ∀ j, 0 ≤ (bgn0 (famM dF σ0) ((fN (famM dF σ0) : Int) - 1) c).1 j ∧ (bgn0 (famM dF σ0) ((fN (famM dF σ0) : Int) - 1) c).1 j ≤ 99 := by
      intro j
      show 0 ≤ tr 6 (fun j => if (j : Int) = (fN (famM dF σ0) : Int) - 1 then (c : Int) else fCar (famM dF σ0) j) j ∧ tr 6 (fun j => if (j : Int) = (fN (famM dF σ0) : Int) - 1 then (c : Int) else fCar (famM dF σ0) j) j ≤ 99
      by_cases hj : j < 6
      · rw [tr_in hj]
        split
        · omega
        · exact (hFV.2.1 j).2.1
      · rw [tr_out (by omega)]; omega
    have eN : fN (famM dF σ0) = (σ0 67 42).toNat := rfl
    have hA2 : AP σ2 := by
      refine ⟨N2.1.1, ?_, ?_⟩
      · rw [ea dF]
        exact ⟨cR, fun j => (hFV.2.1 j).2.2.1, ⟨Int.le_refl 0, by show (0 : Int) ≤ 100000; decide⟩, ⟨Int.le_refl 0, by show (0 : Int) < 1000; decide⟩⟩
      · rw [ea dF, f2 67 (by decide)]
        refine ⟨⟨Int.le_refl (-1), by show (-1 : Int) < _; omega⟩, hFV.2.2.2.2.1, fun j hj => ?_⟩
        show tr 6 (fun j => if (j : Int) = (fN (famM dF σ0) : Int) - 1 then (c : Int) else fCar (famM dF σ0) j) j = 0
        by_cases hj6 : j < 6
        · rw [tr_in hj6, if_neg (by omega)]; exact (hFV.2.2.1 j (by omega)).2.1
        · rw [tr_out (by omega)]
    refine ⟨⟨rfl, hA2⟩, ?_⟩
    rintro σ3 ⟨k1, k2, k3⟩
    have f3 : Fr fs σ0 σ3 := f2.tr (k1.mono (by simp [fs, af]))
    have ea3 : ∀ d, airM σ3 = sds (bgn (famM d σ0) ((fN (famM d σ0) : Int) - 1) c) 0 := by
      intro d
      have e1 : airM σ3 = ((airM σ2).1, (airM σ2).2.1, σ3 91 12, (airM σ2).2.2.2) := by
        show stR (σ3 91) 0 = _
        unfold stR
        refine Prod.ext (tr_ext fun j hj => k2 _ (by omega)) (Prod.ext (tr_ext fun j hj => k2 _ (by omega)) ?_)
        show (σ3 91 12, σ3 91 14, σ3 91 15, σ3 91 13) = (σ3 91 12, σ2 91 14, σ2 91 15, σ2 91 13)
        rw [k2 13 (by decide), k2 14 (by decide), k2 15 (by decide)]
      rw [e1, k3 d, N2.2.1 d, ea d, goes_sds]
      rfl
    have hN3 := hN.fr f3 (by simp [fs, af])
    have hA3 : AP σ3 := by
      refine ⟨hN3.1.1, ?_, ?_⟩
      · rw [ea3 dF]
        exact ⟨cR, fun j => (hFV.2.1 j).2.2.1, ⟨Int.le_refl 0, by show (0 : Int) ≤ 100000; decide⟩, ⟨Int.le_refl 0, by show (0 : Int) < 1000; decide⟩⟩
      · rw [ea3 dF, f3 67 (by decide)]
        refine ⟨goes_R _ _ _, hFV.2.2.2.2.1, fun j hj => ?_⟩
        show tr 6 (fun j => if (j : Int) = (fN (famM dF σ0) : Int) - 1 then (c : Int) else fCar (famM dF σ0) j) j = 0
        by_cases hj6 : j < 6
        · rw [tr_in hj6, if_neg (by omega)]; exact (hFV.2.2.1 j (by omega)).2.1
        · rw [tr_out (by omega)]
    have k104 : σ3 104 = σ 104 := by rw [k1 104 (by decide), hs, hp_ne (by decide), g1 104 (by decide)]
    have k105 : σ3 105 = σ 105 := by rw [k1 105 (by decide), hs, hp_ne (by decide), g1 105 (by decide)]
    refine ⟨20 * (100 - c) + 12, by omega, rfl, rfl, c, 0, rfl, rfl, by omega, by omega, rfl, f3, hv, hpos, ?_, ?_, fun d x hx => absurd hx (Nat.not_lt_zero x), airM σ3, ea3, hA3, fun d => hN3.2.1 d, fun d => rfl, ?_⟩
    · unfold rw0; rw [k104]; exact hr
    · rw [k105]; exact hF
    · rw [ea3 0]; show (0 : Int) ≤ 999; decide
theorem SGm.of {σ : Hp} (h : MP σ) : SGm σ := by
  obtain ⟨d, hd⟩ := h.2
  have hG := hd.2.2.2.2.2.2.2.1
  have h64 := h.1.2.2.2.2.2
  refine ⟨h64, fun i hi => ?_⟩
  have hi' : i < (σ 67 64).toNat := by omega
  have := hG.2 i hi'
  have e1 : (aG (mA d σ)).2.1 i = σ 99 i := tr_in hi'
  have e2 : (aG (mA d σ)).2.2.2.2.2 i = σ 102 i := tr_in hi'
  rw [e1, e2] at this
  exact this
theorem Mo_layFits_p41 : Mo_layFits_vc41 := by
  intro k a σ0 hp0 n v2 v3 v4 σ hH hI
  obtain ⟨rfl, hP⟩ := hp0
  obtain ⟨c, i, rfl, rfl, hc, hi, rfl, hf, hv, hpos, hr, hF, hx, s0, hs0, hR⟩ := hI
  have hn := hP.n6
  have MK := mA_fr hP.1 hf scm_fs
  have hP' : MP σ := by
    obtain ⟨d, hd⟩ := hP.2
    exact ⟨MK.1.1, d, by rw [MK.2 d]; exact hd⟩
  have eG : sgM σ = sgM σ0 := sgM_eq (by rw [hf 67 (by decide)]) (fun q hq => hf q (by simp [fs, af]; omega))
  refine ⟨fun h => ⟨⟨rfl, by omega, by omega, SGm.of hP'⟩, ?_⟩, fun h => ?_⟩
  · have ei : i = 10 := by omega
    subst ei
    rintro r2 σ1 ⟨rfl, rfl⟩
    have ef : ∀ d, fitB (fun d => σ1 104 (10 * (c : Int).toNat + d)) (sgM σ1) a (sgM σ1).1 = fts (famM d σ0) (sgM σ0) a c := by
      intro d
      unfold fts
      rw [decide_eq_true (show 0 < fN (famM d σ0) from hpos), Bool.true_and, eG]
      refine fitB_ext _ (fun q hq => ?_)
      have hq' : q < (σ0 67 64).toNat := hq
      have hd := (SGm.of hP).2 q (by omega)
      have e1 : (sgM σ0).2.1 q = σ0 99 q := tr_in hq'
      rw [Int.toNat_natCast, e1]
      exact hx d _ (by omega)
    have b01 : ∀ z : Bool, (if z = true then (1 : Int) else 0) = 0 ∨ (if z = true then (1 : Int) else 0) = 1 := by intro z; cases z; exact Or.inl rfl; exact Or.inr rfl
    refine ⟨⟨by omega, by omega⟩, b01 _, ?_⟩
    intro σ3 hs
    have q105 : ∀ j, σ3 105 j = if j = c then (if fitB (fun d => σ1 104 (10 * (c : Int).toNat + d)) (sgM σ1) a (sgM σ1).1 = true then 1 else 0) else σ1 105 j := fun j => by
      rw [hs]
      show hp σ1 105 (c : Int).toNat _ 105 j = _
      rw [Int.toNat_natCast]
      by_cases e : j = c
      · rw [e, hp_r1, if_pos rfl]
      · rw [hp_r2 (fun z => e z.2), if_neg e]
    refine ⟨⟨by omega, by omega⟩, trivial, ?_⟩
    rintro r5 σ4 ⟨rfl, rfl⟩
    have f4 : Fr fs σ0 σ4 := by rw [hs]; exact Fr.hp hf (by simp [fs])
    have q104 : σ4 104 = σ1 104 := by rw [hs]; exact hp_ne (by decide)
    have ev : σ4 (67 + 38) (c : Int).toNat = (if fts (famM 0 σ0) (sgM σ0) a c = true then 1 else 0) := by
      rw [Int.toNat_natCast, show (67 + 38 : Nat) = 105 from rfl, q105, if_pos rfl, ef 0]
    have hnl := nfit_le (famM 0 σ0) (sgM σ0) a c
    have hv0 := hv 0
    have fd : ∀ d, fts (famM d σ0) (sgM σ0) a c = fts (famM 0 σ0) (sgM σ0) a c := fun d => (ef d).symm.trans (ef 0)
    rw [ev, wr1 (by omega) (by omega)]
    refine ⟨20 * (101 - (c + 1)), by omega, rfl, rfl, c + 1, by simp, by omega, rfl, f4, fun d => ?_, Or.inl hpos, fun d c' hc' x hx' => ?_, fun d c' hc' => ?_⟩
    · have hvd := hv d
      rw [nfit_s, fd d]
      cases fts (famM 0 σ0) (sgM σ0) a c with
      | true =>
        show wr (v2 + (if (1 : Int) = 0 then (0 : Int) else 1)) = ((nfit (famM d σ0) (sgM σ0) a c + 1 : Nat) : Int)
        rw [tr1, wr_id (by omega) (by omega)]; omega
      | false =>
        show wr (v2 + (if (0 : Int) = 0 then (0 : Int) else 1)) = ((nfit (famM d σ0) (sgM σ0) a c + 0 : Nat) : Int)
        rw [tr0, wr_id (by omega) (by omega)]; omega
    · rw [q104]
      by_cases e : c' = c
      · rw [e]; exact hx d x hx'
      · exact hr d c' (by omega) x hx'
    · rw [q105]
      by_cases e : c' = c
      · rw [if_pos e, e, ef d]
      · rw [if_neg e]; exact hF d c' (by omega)
  · rw [wr_id (x := 10 * (c : Int)) (by omega) (by omega), wr_id (x := 10 * (c : Int) + (i : Int)) (by omega) (by omega), wr1 (by omega) (by omega), show (10 * (c : Int) + (i : Int)).toNat = 10 * c + i by omega]
    have hw : ∀ d m, (itr (famM d σ0) 0 s0 m).2.2.1 = wsn (famM d σ0) c m := fun d m => by rw [hs0 d, itr_sds]; rfl
    have go : ∀ (τ σ' : Hp), Fr fs σ0 τ → τ 104 = σ 104 → τ 105 = σ 105 → Rn σ0 τ s0 0 i → σ' = hp τ (67 + 37) (10 * c + i) (τ (67 + 24) 12) → ∃ n' : Nat, n' < 20 * (100 - c) + (12 - i) ∧ (67 : Nat) = 67 ∧ a = a ∧ Mo_layFits_I41 67 a σ0 n' v2 c ((i : Int) + 1) σ' := by
      intro τ σ' fτ t1 t2 hR' hs
      have q104 : ∀ j, σ' 104 j = if j = 10 * c + i then τ 91 12 else σ 104 j := fun j => by
        rw [hs, ← t1]
        show hp τ 104 (10 * c + i) (τ 91 12) 104 j = _
        by_cases e : j = 10 * c + i
        · rw [e, hp_r1, if_pos rfl]
        · rw [hp_r2 (fun z => e z.2), if_neg e]
      have q : ∀ c, ¬ c = 104 → σ' c = τ c := fun c hc => by rw [hs]; exact hp_ne hc
      refine ⟨20 * (100 - c) + (12 - (i + 1)), by omega, rfl, rfl, c, i + 1, rfl, by simp, hc, by omega, rfl, by rw [hs]; exact Fr.hp fτ (by simp [fs]), hv, hpos, fun d c' hc' x hx' => ?_, ?_, fun d x hx' => ?_, s0, hs0, ?_⟩
      · rw [q104, if_neg (by omega)]; exact hr d c' hc' x hx'
      · rw [q 105 (by decide), t2]; exact hF
      · rw [q104]
        by_cases e : x = i
        · rw [if_pos (by omega), e, ← hw d i]; exact hR'.h d
        · rw [if_neg (by omega)]; exact hx d x (by omega)
      · rw [Nat.add_sub_cancel]
        exact hR'.keep (q 67 (by decide)) (q 91 (by decide)) (fun c hc => q c (by omega))
    refine ⟨fun h2 => ⟨by decide, ⟨by omega, by omega⟩, fun σ6 hs => go σ σ6 hf rfl rfl (by rw [show i = i - 1 by omega]; exact hR) hs⟩, fun h2 => ?_⟩
    obtain ⟨p1, p2⟩ := hR.day (by omega)
    refine ⟨p1, fun σ7 g => ⟨by decide, ⟨by omega, by omega⟩, fun σ8 hs => ?_⟩⟩
    obtain ⟨q1, q2⟩ := p2 σ7 g
    rw [show i - 1 + 1 = i by omega] at q2
    exact go σ7 σ8 (hf.tr (q1.mono (by simp [fs, af]))) (q1 104 (by decide)) (q1 105 (by decide)) q2 hs
def Mo_layFits_I : List AV → Hp → Nat → Nat → List AV → List AV → Hp → Prop := fun as σ0 pc n st ls σ => (match as with
    | [.inr (.inr (.inl (k, 0, 9))), .inl a1] => (bif Nat.beq pc 4 then (match st, ls with
      | [], [.inr (.inr (.inl (k', 0, 9))), .inl a1', .inl v2, .inl v3, _] => k = k' ∧ a1 = a1' ∧ Mo_layFits_I4 k a1 σ0 n v2 v3 σ
      | _, _ => False) else (bif Nat.beq pc 41 then (match st, ls with
      | [], [.inr (.inr (.inl (k', 0, 9))), .inl a1', .inl v2, .inl v3, .inl v4] => k = k' ∧ a1 = a1' ∧ Mo_layFits_I41 k a1 σ0 n v2 v3 v4 σ
      | _, _ => False) else False))
    | _ => False)
def Mo_layFits_ct : Nat → Ct := fun n => match n with
  | 0 => Mo_begin_cs
  | 1 => Mo_goHair_cs
  | 2 => Mo_goDay_cs
  | 3 => Mo_fitsCare_cs
  | 4 => Mo_truth_cs
  | _ => Mo_layFits_cs
set_option maxRecDepth 20000 in
set_option maxHeartbeats 4000000 in
theorem Mo_layFits_met {l : Launch} {D : va_G} {ad : Nat → Nat} {ca : Nat → ClassId} {L : Nat} {fx : Nat → Int} : ax_MC l D ad ca L fx yX9_layFits cX9_layFits 5 (some .int) 8 Mo_layFits_cs := by
  refine ax_met (oc := 9) (ct := Mo_layFits_ct) (calls := Mo_layFits_cl) (bs := Mo_layFits_bk) (cut := fun pc => Nat.beq pc 4 || Nat.beq pc 41) (f := 7) (I := Mo_layFits_I) (by decide) rfl rfl Mo_layFits_ck (List.forall_mem_cons.mpr ⟨ax_cwV Mo_begin_met (by decide) (by decide) rfl (by decide) rfl (ax_m7 38 (by decide +kernel) rfl) Mo_begin_w rfl Mo_begin_ds, List.forall_mem_cons.mpr ⟨ax_cwV Mo_goHair_met (by decide) (by decide) rfl (by decide) rfl (ax_m7 42 (by decide +kernel) rfl) Mo_goHair_w rfl Mo_goHair_ds, List.forall_mem_cons.mpr ⟨ax_cwV Mo_goDay_met (by decide) (by decide) rfl (by decide) rfl (ax_m7 189 (by decide +kernel) rfl) Mo_goDay_w rfl Mo_goDay_ds, List.forall_mem_cons.mpr ⟨ax_cwV Mo_fitsCare_met (by decide) (by decide) rfl (by decide) rfl (ax_m8 89 (by decide +kernel) rfl) Mo_fitsCare_w rfl Mo_fitsCare_ds, List.forall_mem_cons.mpr ⟨ax_cwS Mo_truth_met (by decide) (by decide) (ax_m7 58 (by decide +kernel) rfl) Mo_truth_w rfl Mo_truth_ds, fun _ h => absurd h List.not_mem_nil⟩⟩⟩⟩⟩) ?_ ?_
  · intro as σ0 hp hH
    match as, hp with
    | [.inr (.inr (.inl (k, 0, 9))), .inl a1], hp => exact ⟨rfl, Mo_layFits_p k a1 σ0 hH hp⟩
  · intro as σ0 hp n pc st ls σ hH hI
    match as, hp, hI with
    | [.inr (.inr (.inl (k, 0, 9))), .inl a1], hp, hI =>
      rcases ax_bifE hI with ⟨hpc, hI⟩ | ⟨-, hI⟩
      · have := Nat.eq_of_beq_eq_true hpc
        subst this
        match st, ls, hI with
        | [], [.inr (.inr (.inl (k', 0, 9))), .inl a1', .inl v2, .inl v3, _], hI =>
          obtain ⟨rfl, rfl, hI⟩ := hI
          exact Mo_layFits_p4 k a1 σ0 hp n v2 v3 σ hH hI
      rcases ax_bifE hI with ⟨hpc, hI⟩ | ⟨-, hI⟩
      · have := Nat.eq_of_beq_eq_true hpc
        subst this
        match st, ls, hI with
        | [], [.inr (.inr (.inl (k', 0, 9))), .inl a1', .inl v2, .inl v3, .inl v4], hI =>
          obtain ⟨rfl, rfl, hI⟩ := hI
          exact Mo_layFits_p41 k a1 σ0 hp n v2 v3 v4 σ hH hI
      exact False.elim hI
def Mo_fits_pre (k : Nat) (_a : Int) (σ : Hp) : Prop := k = 67 ∧ MP σ
def Mo_fits_post (_k : Nat) (a : Int) (σ : Hp) (r : Int) (σ' : Hp) : Prop := MQo σ σ' ∧ ∀ d, s_fits (mA d σ) a r (mA d σ')
def Mo_fits_bk : List (Nat × List Item) := [(0, [(.aload_n 0, 1, [], []), (.iload_n 1, 1, [], []), (.invokevirtual 481, 3, [0], []), (.ireturn, 1, [], [])])]
def Mo_fits_cl : List (Instr × Nat) := [(.invokevirtual 481, 0)]
set_option maxRecDepth 20000 in
theorem Mo_fits_ck : Mo_fits_bk.all (fun b => ax_chB 9 2 cX9_fits Mo_fits_cl b.1 b.2) = true := by decide +kernel
def Mo_fits_cs : Ct := (2, 10, 1, (0, 0), fun as σ => (match as with
    | [.inr (.inr (.inl (k, 0, 9))), .inl a1] => Mo_fits_pre k a1 σ
    | _ => False), fun as σ r σ' => (match as with
    | [.inr (.inr (.inl (k, 0, 9))), .inl a1] => Mo_fits_post k a1 σ r σ'
    | _ => False))
theorem Mo_fits_w : ∀ w ∈ ([.instanceMethod yX9_fits, .selects yX9_fits.cls yX9_fits yX9_fits, .initialized yX9_fits.cls, .code yX9_fits cX9_fits 2 (some .int)] : List Cond), w ∈ ax_tb := ax_w4 (ax_m8 82 (by decide +kernel) rfl) (ax_m8 83 (by decide +kernel) rfl) (ax_m1 10 (by decide +kernel) rfl) (ax_m8 84 (by decide +kernel) rfl)
theorem Mo_fits_ds : yX9_fits.cls ≠ "java/lang/invoke/MethodHandle" ∧ yX9_fits.cls ≠ "java/lang/invoke/VarHandle" ∧ (parseMethodDescriptor yX9_fits.desc).map (fun d => d.parameters.length) = some 1 := by decide +kernel
def Mo_fits_vc : Prop := ∀ (k : Nat) (a1 : Int) (σ : Hp), ax_H σ → Mo_fits_pre k a1 σ →
  Mo_layFits_pre k a1 σ ∧
  ∀ (r2 : Int) (σ1 : Hp), Mo_layFits_post k a1 σ r2 σ1 →
  Mo_fits_post k a1 σ r2 σ1
theorem Mo_fits_p : Mo_fits_vc := by
  intro k a σ hH hp
  obtain ⟨rfl, hP⟩ := hp
  refine ⟨⟨rfl, hP⟩, ?_⟩
  rintro r2 σ1 ⟨g1, g2, g3⟩
  exact om1 hP.1 g1 scm_fs g2
def Mo_fits_I : List AV → Hp → Nat → Nat → List AV → List AV → Hp → Prop := fun as σ0 pc n st ls σ => (match as with
    | [.inr (.inr (.inl (k, 0, 9))), .inl a1] => False
    | _ => False)
def Mo_fits_ct : Nat → Ct := fun n => match n with
  | 0 => Mo_layFits_cs
  | _ => Mo_fits_cs
set_option maxRecDepth 20000 in
set_option maxHeartbeats 4000000 in
theorem Mo_fits_met {l : Launch} {D : va_G} {ad : Nat → Nat} {ca : Nat → ClassId} {L : Nat} {fx : Nat → Int} : ax_MC l D ad ca L fx yX9_fits cX9_fits 2 (some .int) 9 Mo_fits_cs := by
  refine ax_met (oc := 9) (ct := Mo_fits_ct) (calls := Mo_fits_cl) (bs := Mo_fits_bk) (cut := fun pc => false) (f := 2) (I := Mo_fits_I) (by decide) rfl rfl Mo_fits_ck (List.forall_mem_cons.mpr ⟨ax_cwV Mo_layFits_met (by decide) (by decide) rfl (by decide) rfl (ax_m8 85 (by decide +kernel) rfl) Mo_layFits_w rfl Mo_layFits_ds, fun _ h => absurd h List.not_mem_nil⟩) ?_ ?_
  · intro as σ0 hp hH
    match as, hp with
    | [.inr (.inr (.inl (k, 0, 9))), .inl a1], hp => exact ⟨rfl, Mo_fits_p k a1 σ0 hH hp⟩
  · intro as σ0 hp n pc st ls σ hH hI
    match as, hp, hI with
    | [.inr (.inr (.inl (k, 0, 9))), .inl a1], hp, hI => exact False.elim hI

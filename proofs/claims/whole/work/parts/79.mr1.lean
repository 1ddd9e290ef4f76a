-- THE MODEL'S READER: its tokens
def TBm (σ : Hp) : Prop := (0 ≤ σ 67 5 ∧ σ 67 5 ≤ 1600) ∧ ∀ i, i < 1600 → 0 ≤ σ 68 i ∧ σ 68 i ≤ 255
def tpR (σ : Hp) : Tp := (tr (σ 67 5).toNat (fun i => sgn (σ 68 i)), (σ 67 5).toNat)
def hr (B : Tp) (i : Nat) : Int := if i < B.2 then B.1 i % 256 else -1
def RB (B : Tp) : Prop := B.2 ≤ 1600 ∧ ∀ i, -128 ≤ B.1 i ∧ B.1 i ≤ 127
theorem TBm.rb {σ : Hp} (h : TBm σ) : RB (tpR σ) ∧ σ 67 5 = ((tpR σ).2 : Int) := by
  have e : (tpR σ).2 = (σ 67 5).toNat := rfl
  have h1 := h.1
  refine ⟨⟨by omega, fun i => ?_⟩, by omega⟩
  show -128 ≤ tr (σ 67 5).toNat (fun i => sgn (σ 68 i)) i ∧ tr (σ 67 5).toNat (fun i => sgn (σ 68 i)) i ≤ 127
  by_cases hi : i < (σ 67 5).toNat
  · rw [tr_in hi]
    have := h.2 i (by omega)
    unfold sgn
    split <;> omega
  · rw [tr_out (by omega)]; omega
theorem hr_L {B : Tp} {i : Nat} (h : RB B) : (97 ≤ hr B i ∧ hr B i ≤ 122) ↔ bL B i = true := by
  rw [bL_t]
  unfold hr
  have := h.2 i
  by_cases e : i < B.2
  · rw [if_pos e]; omega
  · rw [if_neg e]; omega
theorem hr_D {B : Tp} {i : Nat} (h : RB B) : (48 ≤ hr B i ∧ hr B i ≤ 57) ↔ bD B i = true := by
  rw [bD_t]
  unfold hr
  have := h.2 i
  by_cases e : i < B.2
  · rw [if_pos e]; omega
  · rw [if_neg e]; omega
theorem hr_W {B : Tp} {i : Nat} (h : RB B) : (hr B i = 32 ∨ hr B i = 10) ↔ bW B i = true := by
  rw [bW_t]
  unfold hr
  have := h.2 i
  by_cases e : i < B.2
  · rw [if_pos e]; omega
  · rw [if_neg e]; omega
theorem hr_lt {B : Tp} {i : Nat} : 0 ≤ hr B i ↔ i < B.2 := by
  unfold hr
  by_cases e : i < B.2
  · rw [if_pos e]; exact ⟨fun _ => e, fun _ => by omega⟩
  · rw [if_neg e]; exact ⟨fun z => absurd z (by decide), fun z => absurd z e⟩
theorem hr_bL {B : Tp} {i : Nat} (h : bL B i = true) : hr B i = B.1 i := by
  have := bL_t.mp h
  unfold hr
  rw [if_pos this.1]; omega
theorem hr_bD {B : Tp} {i : Nat} (h : bD B i = true) : hr B i = B.1 i := by
  have := bD_t.mp h
  unfold hr
  rw [if_pos this.1]; omega
def Mo_here_pre (k : Nat) (a : Int) (σ : Hp) : Prop := k = 67 ∧ TBm σ ∧ 0 ≤ a ∧ a ≤ 2000 ∧ 0 ≤ σ 67 4 ∧ σ 67 4 ≤ 1600
def Mo_here_post (_k : Nat) (a : Int) (σ : Hp) (r : Int) (σ' : Hp) : Prop := σ' = σ ∧ r = hr (tpR σ) (σ 67 4 + a).toNat
def Mo_here_bk : List (Nat × List Item) := [(0, [(.aload_n 0, 1, [], []), (.getfield 146, 3, [9, 4, 0, 0, 0, 0], []), (.iload_n 1, 1, [], []), (.iadd, 1, [], []), (.aload_n 0, 1, [], []), (.getfield 149, 3, [9, 5, 0, 0, 0, 0], []), (.if_icmp .ge 17, 3, [27], []), (.aload_n 0, 1, [], []), (.getfield 7, 3, [9, 0, 4, 1, 1, 1600], []), (.aload_n 0, 1, [], []), (.getfield 146, 3, [9, 4, 0, 0, 0, 0], []), (.iload_n 1, 1, [], []), (.iadd, 1, [], []), (.iaload, 1, [], []), (.goto 4, 3, [28], [])]),
  (27, [(.iconst (-1), 1, [], [])]),
  (28, [(.ireturn, 1, [], [])])]
def Mo_here_cl : List (Instr × Nat) := []
set_option maxRecDepth 20000 in
theorem Mo_here_ck : Mo_here_bk.all (fun b => ax_chB 9 2 cX9_here Mo_here_cl b.1 b.2) = true := by decide +kernel
def Mo_here_cs : Ct := (2, 10, 1, (0, 0), fun as σ => (match as with
    | [.inr (.inr (.inl (k, 0, 9))), .inl a1] => Mo_here_pre k a1 σ
    | _ => False), fun as σ r σ' => (match as with
    | [.inr (.inr (.inl (k, 0, 9))), .inl a1] => Mo_here_post k a1 σ r σ'
    | _ => False))
theorem Mo_here_w : ∀ w ∈ ([.instanceMethod yX9_here, .selects yX9_here.cls yX9_here yX9_here, .initialized yX9_here.cls, .code yX9_here cX9_here 2 (some .int)] : List Cond), w ∈ ax_tb := ax_w4 (ax_m6 151 (by decide +kernel) rfl) (ax_m0 9 (by decide +kernel) rfl) (ax_m1 10 (by decide +kernel) rfl) (ax_m6 152 (by decide +kernel) rfl)
theorem Mo_here_ds : yX9_here.cls ≠ "java/lang/invoke/MethodHandle" ∧ yX9_here.cls ≠ "java/lang/invoke/VarHandle" ∧ (parseMethodDescriptor yX9_here.desc).map (fun d => d.parameters.length) = some 1 := by decide +kernel
def Mo_here_vc : Prop := ∀ (k : Nat) (a1 : Int) (σ : Hp), ax_H σ → Mo_here_pre k a1 σ →
  (σ k 5 ≤ wr ((σ k 4) + a1) →
    Mo_here_post k a1 σ (-1) σ) ∧
  (¬ (σ k 5 ≤ wr ((σ k 4) + a1)) →
    (0 ≤ wr ((σ k 4) + a1) ∧ wr ((σ k 4) + a1) < 1600) ∧
    Mo_here_post k a1 σ (σ (k + 1) (wr ((σ k 4) + a1)).toNat) σ)
theorem Mo_here_p : Mo_here_vc := by
  intro k a σ hH hp
  obtain ⟨rfl, hT, a0, a1, h0, h1⟩ := hp
  have e := hT.rb.2
  have hs := hT.1
  rw [wr_id (by omega) (by omega)]
  refine ⟨fun h => ⟨rfl, ?_⟩, fun h => ⟨⟨by omega, by omega⟩, rfl, ?_⟩⟩
  · unfold hr; rw [if_neg (by omega)]
  · have hl : (σ 67 4 + a).toNat < (tpR σ).2 := by omega
    unfold hr
    rw [if_pos hl]
    have e2 : (tpR σ).1 (σ 67 4 + a).toNat = sgn (σ 68 (σ 67 4 + a).toNat) := tr_in (f := fun i => sgn (σ 68 i)) hl
    rw [e2]
    have := hT.2 (σ 67 4 + a).toNat (by omega)
    show σ 68 (σ 67 4 + a).toNat = _
    unfold sgn
    split <;> omega
def Mo_here_I : List AV → Hp → Nat → Nat → List AV → List AV → Hp → Prop := fun as σ0 pc n st ls σ => (match as with
    | [.inr (.inr (.inl (k, 0, 9))), .inl a1] => False
    | _ => False)
def Mo_here_ct : Nat → Ct := fun n => match n with
  | _ => Mo_here_cs
set_option maxRecDepth 20000 in
set_option maxHeartbeats 4000000 in
theorem Mo_here_met {l : Launch} {D : va_G} {ad : Nat → Nat} {ca : Nat → ClassId} {L : Nat} {fx : Nat → Int} : ax_MC l D ad ca L fx yX9_here cX9_here 2 (some .int) 1 Mo_here_cs := by
  refine ax_met (oc := 9) (ct := Mo_here_ct) (calls := Mo_here_cl) (bs := Mo_here_bk) (cut := fun pc => false) (f := 4) (I := Mo_here_I) (by decide) rfl rfl Mo_here_ck (fun _ h => absurd h List.not_mem_nil) ?_ ?_
  · intro as σ0 hp hH
    match as, hp with
    | [.inr (.inr (.inl (k, 0, 9))), .inl a1], hp => exact ⟨rfl, Mo_here_p k a1 σ0 hH hp⟩
  · intro as σ0 hp n pc st ls σ hH hI
    match as, hp, hI with
    | [.inr (.inr (.inl (k, 0, 9))), .inl a1], hp, hI => exact False.elim hI
def Mo_isLetter_pre (_ : Int) (_ : Hp) : Prop := True
def Mo_isLetter_post (a : Int) (σ : Hp) (r : Int) (σ' : Hp) : Prop := σ' = σ ∧ ((r = 1 ∧ (97 ≤ a ∧ a ≤ 122)) ∨ (r = 0 ∧ ¬ (97 ≤ a ∧ a ≤ 122)))
def Mo_isLetter_bk : List (Nat × List Item) := [(0, [(.iload_n 0, 1, [], []), (.bipush 97, 2, [], []), (.if_icmp .lt 13, 3, [16], []), (.iload_n 0, 1, [], []), (.bipush 122, 2, [], []), (.if_icmp .gt 7, 3, [16], []), (.iconst 1, 1, [], []), (.goto 4, 3, [17], [])]),
  (16, [(.iconst 0, 1, [], [])]),
  (17, [(.ireturn, 1, [], [])])]
def Mo_isLetter_cl : List (Instr × Nat) := []
set_option maxRecDepth 20000 in
theorem Mo_isLetter_ck : Mo_isLetter_bk.all (fun b => ax_chB 9 1 cX9_isLetter Mo_isLetter_cl b.1 b.2) = true := by decide +kernel
def Mo_isLetter_cs : Ct := (1, 0, 2, (0, 0), fun as σ => (match as with
    | [.inl a1] => Mo_isLetter_pre a1 σ
    | _ => False), fun as σ r σ' => (match as with
    | [.inl a1] => Mo_isLetter_post a1 σ r σ'
    | _ => False))
theorem Mo_isLetter_w : ∀ w ∈ ([.static yX9_isLetter, .initialized yX9_isLetter.cls, .code yX9_isLetter cX9_isLetter 1 (some .boolean)] : List Cond), w ∈ ax_tb := ax_w3 (ax_m6 154 (by decide +kernel) rfl) (ax_m1 10 (by decide +kernel) rfl) (ax_m6 155 (by decide +kernel) rfl)
theorem Mo_isLetter_ds : yX9_isLetter.cls ≠ "java/lang/invoke/MethodHandle" ∧ yX9_isLetter.cls ≠ "java/lang/invoke/VarHandle" ∧ (parseMethodDescriptor yX9_isLetter.desc).map (fun d => d.parameters.length) = some 1 := by decide +kernel
def Mo_isLetter_vc : Prop := ∀ (a1 : Int) (σ : Hp), ax_H σ → Mo_isLetter_pre a1 σ →
  (a1 < 97 →
    ((0 : Int) = 0 ∨ (0 : Int) = 1) ∧ Mo_isLetter_post a1 σ 0 σ) ∧
  (¬ (a1 < 97) →
    (122 < a1 →
      ((0 : Int) = 0 ∨ (0 : Int) = 1) ∧ Mo_isLetter_post a1 σ 0 σ) ∧
    (¬ (122 < a1) →
      ((1 : Int) = 0 ∨ (1 : Int) = 1) ∧ Mo_isLetter_post a1 σ 1 σ))
theorem Mo_isLetter_p : Mo_isLetter_vc := by
  intro a σ hH hp
  exact ⟨fun h => ⟨Or.inl rfl, rfl, Or.inr ⟨rfl, by omega⟩⟩, fun h => ⟨fun h2 => ⟨Or.inl rfl, rfl, Or.inr ⟨rfl, by omega⟩⟩, fun h2 => ⟨Or.inr rfl, rfl, Or.inl ⟨rfl, by omega⟩⟩⟩⟩
def Mo_isLetter_I : List AV → Hp → Nat → Nat → List AV → List AV → Hp → Prop := fun as σ0 pc n st ls σ => (match as with
    | [.inl a1] => False
    | _ => False)
def Mo_isLetter_ct : Nat → Ct := fun n => match n with
  | _ => Mo_isLetter_cs
set_option maxRecDepth 20000 in
set_option maxHeartbeats 4000000 in
theorem Mo_isLetter_met {l : Launch} {D : va_G} {ad : Nat → Nat} {ca : Nat → ClassId} {L : Nat} {fx : Nat → Int} : ax_MC l D ad ca L fx yX9_isLetter cX9_isLetter 1 (some .boolean) 1 Mo_isLetter_cs := by
  refine ax_met (oc := 9) (ct := Mo_isLetter_ct) (calls := Mo_isLetter_cl) (bs := Mo_isLetter_bk) (cut := fun pc => false) (f := 4) (I := Mo_isLetter_I) (by decide) rfl rfl Mo_isLetter_ck (fun _ h => absurd h List.not_mem_nil) ?_ ?_
  · intro as σ0 hp hH
    match as, hp with
    | [.inl a1], hp => exact ⟨rfl, Mo_isLetter_p a1 σ0 hH hp⟩
  · intro as σ0 hp n pc st ls σ hH hI
    match as, hp, hI with
    | [.inl a1], hp, hI => exact False.elim hI
def Mo_isDigit_pre (_ : Int) (_ : Hp) : Prop := True
def Mo_isDigit_post (a : Int) (σ : Hp) (r : Int) (σ' : Hp) : Prop := σ' = σ ∧ ((r = 1 ∧ (48 ≤ a ∧ a ≤ 57)) ∨ (r = 0 ∧ ¬ (48 ≤ a ∧ a ≤ 57)))
def Mo_isDigit_bk : List (Nat × List Item) := [(0, [(.iload_n 0, 1, [], []), (.bipush 48, 2, [], []), (.if_icmp .lt 13, 3, [16], []), (.iload_n 0, 1, [], []), (.bipush 57, 2, [], []), (.if_icmp .gt 7, 3, [16], []), (.iconst 1, 1, [], []), (.goto 4, 3, [17], [])]),
  (16, [(.iconst 0, 1, [], [])]),
  (17, [(.ireturn, 1, [], [])])]
def Mo_isDigit_cl : List (Instr × Nat) := []
set_option maxRecDepth 20000 in
theorem Mo_isDigit_ck : Mo_isDigit_bk.all (fun b => ax_chB 9 1 cX9_isDigit Mo_isDigit_cl b.1 b.2) = true := by decide +kernel
def Mo_isDigit_cs : Ct := (1, 0, 2, (0, 0), fun as σ => (match as with
    | [.inl a1] => Mo_isDigit_pre a1 σ
    | _ => False), fun as σ r σ' => (match as with
    | [.inl a1] => Mo_isDigit_post a1 σ r σ'
    | _ => False))
theorem Mo_isDigit_w : ∀ w ∈ ([.static yX9_isDigit, .initialized yX9_isDigit.cls, .code yX9_isDigit cX9_isDigit 1 (some .boolean)] : List Cond), w ∈ ax_tb := ax_w3 (ax_m6 157 (by decide +kernel) rfl) (ax_m1 10 (by decide +kernel) rfl) (ax_m6 158 (by decide +kernel) rfl)
theorem Mo_isDigit_ds : yX9_isDigit.cls ≠ "java/lang/invoke/MethodHandle" ∧ yX9_isDigit.cls ≠ "java/lang/invoke/VarHandle" ∧ (parseMethodDescriptor yX9_isDigit.desc).map (fun d => d.parameters.length) = some 1 := by decide +kernel
def Mo_isDigit_vc : Prop := ∀ (a1 : Int) (σ : Hp), ax_H σ → Mo_isDigit_pre a1 σ →
  (a1 < 48 →
    ((0 : Int) = 0 ∨ (0 : Int) = 1) ∧ Mo_isDigit_post a1 σ 0 σ) ∧
  (¬ (a1 < 48) →
    (57 < a1 →
      ((0 : Int) = 0 ∨ (0 : Int) = 1) ∧ Mo_isDigit_post a1 σ 0 σ) ∧
    (¬ (57 < a1) →
      ((1 : Int) = 0 ∨ (1 : Int) = 1) ∧ Mo_isDigit_post a1 σ 1 σ))
theorem Mo_isDigit_p : Mo_isDigit_vc := by
  intro a σ hH hp
  exact ⟨fun h => ⟨Or.inl rfl, rfl, Or.inr ⟨rfl, by omega⟩⟩, fun h => ⟨fun h2 => ⟨Or.inl rfl, rfl, Or.inr ⟨rfl, by omega⟩⟩, fun h2 => ⟨Or.inr rfl, rfl, Or.inl ⟨rfl, by omega⟩⟩⟩⟩
def Mo_isDigit_I : List AV → Hp → Nat → Nat → List AV → List AV → Hp → Prop := fun as σ0 pc n st ls σ => (match as with
    | [.inl a1] => False
    | _ => False)
def Mo_isDigit_ct : Nat → Ct := fun n => match n with
  | _ => Mo_isDigit_cs
set_option maxRecDepth 20000 in
set_option maxHeartbeats 4000000 in
theorem Mo_isDigit_met {l : Launch} {D : va_G} {ad : Nat → Nat} {ca : Nat → ClassId} {L : Nat} {fx : Nat → Int} : ax_MC l D ad ca L fx yX9_isDigit cX9_isDigit 1 (some .boolean) 1 Mo_isDigit_cs := by
  refine ax_met (oc := 9) (ct := Mo_isDigit_ct) (calls := Mo_isDigit_cl) (bs := Mo_isDigit_bk) (cut := fun pc => false) (f := 4) (I := Mo_isDigit_I) (by decide) rfl rfl Mo_isDigit_ck (fun _ h => absurd h List.not_mem_nil) ?_ ?_
  · intro as σ0 hp hH
    match as, hp with
    | [.inl a1], hp => exact ⟨rfl, Mo_isDigit_p a1 σ0 hH hp⟩
  · intro as σ0 hp n pc st ls σ hH hI
    match as, hp, hI with
    | [.inl a1], hp, hI => exact False.elim hI
theorem sgL_iff (a : Int) : a ∈ ax_sgL ↔ a = 59 ∨ a = 40 ∨ a = 41 ∨ a = 60 ∨ a = 62 ∨ a = 61 ∨ a = 43 ∨ a = 45 ∨ a = 42 ∨ a = 47 ∨ a = 37 := by simp [ax_sgL]
def Mo_isSign_pre (_ : Int) (_ : Hp) : Prop := True
def Mo_isSign_post (a : Int) (σ : Hp) (r : Int) (σ' : Hp) : Prop := σ' = σ ∧ ((r = 1 ∧ a ∈ ax_sgL) ∨ (r = 0 ∧ a ∉ ax_sgL))
def Mo_isSign_bk : List (Nat × List Item) := [(0, [(.iload_n 0, 1, [], []), (.bipush 59, 2, [], []), (.if_icmp .eq 63, 3, [66], []), (.iload_n 0, 1, [], []), (.bipush 40, 2, [], []), (.if_icmp .eq 57, 3, [66], []), (.iload_n 0, 1, [], []), (.bipush 41, 2, [], []), (.if_icmp .eq 51, 3, [66], []), (.iload_n 0, 1, [], []), (.bipush 60, 2, [], []), (.if_icmp .eq 45, 3, [66], []), (.iload_n 0, 1, [], []), (.bipush 62, 2, [], []), (.if_icmp .eq 39, 3, [66], []), (.iload_n 0, 1, [], []), (.bipush 61, 2, [], []), (.if_icmp .eq 33, 3, [66], []), (.iload_n 0, 1, [], []), (.bipush 43, 2, [], []), (.if_icmp .eq 27, 3, [66], []), (.iload_n 0, 1, [], []), (.bipush 45, 2, [], []), (.if_icmp .eq 21, 3, [66], []), (.iload_n 0, 1, [], []), (.bipush 42, 2, [], []), (.if_icmp .eq 15, 3, [66], []), (.iload_n 0, 1, [], []), (.bipush 47, 2, [], []), (.if_icmp .eq 9, 3, [66], []), (.iload_n 0, 1, [], []), (.bipush 37, 2, [], []), (.if_icmp .ne 7, 3, [70], [])]),
  (66, [(.iconst 1, 1, [], []), (.goto 4, 3, [71], [])]),
  (70, [(.iconst 0, 1, [], [])]),
  (71, [(.ireturn, 1, [], [])])]
def Mo_isSign_cl : List (Instr × Nat) := []
set_option maxRecDepth 20000 in
theorem Mo_isSign_ck : Mo_isSign_bk.all (fun b => ax_chB 9 1 cX9_isSign Mo_isSign_cl b.1 b.2) = true := by decide +kernel
def Mo_isSign_cs : Ct := (1, 0, 2, (0, 0), fun as σ => (match as with
    | [.inl a1] => Mo_isSign_pre a1 σ
    | _ => False), fun as σ r σ' => (match as with
    | [.inl a1] => Mo_isSign_post a1 σ r σ'
    | _ => False))
theorem Mo_isSign_w : ∀ w ∈ ([.static yX9_isSign, .initialized yX9_isSign.cls, .code yX9_isSign cX9_isSign 1 (some .boolean)] : List Cond), w ∈ ax_tb := ax_w3 (ax_m6 160 (by decide +kernel) rfl) (ax_m1 10 (by decide +kernel) rfl) (ax_m6 161 (by decide +kernel) rfl)
theorem Mo_isSign_ds : yX9_isSign.cls ≠ "java/lang/invoke/MethodHandle" ∧ yX9_isSign.cls ≠ "java/lang/invoke/VarHandle" ∧ (parseMethodDescriptor yX9_isSign.desc).map (fun d => d.parameters.length) = some 1 := by decide +kernel
def Mo_isSign_vc : Prop := ∀ (a1 : Int) (σ : Hp), ax_H σ → Mo_isSign_pre a1 σ →
  (a1 = 59 →
    ((1 : Int) = 0 ∨ (1 : Int) = 1) ∧ Mo_isSign_post a1 σ 1 σ) ∧
  (¬ (a1 = 59) →
    (a1 = 40 →
      ((1 : Int) = 0 ∨ (1 : Int) = 1) ∧ Mo_isSign_post a1 σ 1 σ) ∧
    (¬ (a1 = 40) →
      (a1 = 41 →
        ((1 : Int) = 0 ∨ (1 : Int) = 1) ∧ Mo_isSign_post a1 σ 1 σ) ∧
      (¬ (a1 = 41) →
        (a1 = 60 →
          ((1 : Int) = 0 ∨ (1 : Int) = 1) ∧ Mo_isSign_post a1 σ 1 σ) ∧
        (¬ (a1 = 60) →
          (a1 = 62 →
            ((1 : Int) = 0 ∨ (1 : Int) = 1) ∧ Mo_isSign_post a1 σ 1 σ) ∧
          (¬ (a1 = 62) →
            (a1 = 61 →
              ((1 : Int) = 0 ∨ (1 : Int) = 1) ∧ Mo_isSign_post a1 σ 1 σ) ∧
            (¬ (a1 = 61) →
              (a1 = 43 →
                ((1 : Int) = 0 ∨ (1 : Int) = 1) ∧ Mo_isSign_post a1 σ 1 σ) ∧
              (¬ (a1 = 43) →
                (a1 = 45 →
                  ((1 : Int) = 0 ∨ (1 : Int) = 1) ∧ Mo_isSign_post a1 σ 1 σ) ∧
                (¬ (a1 = 45) →
                  (a1 = 42 →
                    ((1 : Int) = 0 ∨ (1 : Int) = 1) ∧ Mo_isSign_post a1 σ 1 σ) ∧
                  (¬ (a1 = 42) →
                    (a1 = 47 →
                      ((1 : Int) = 0 ∨ (1 : Int) = 1) ∧ Mo_isSign_post a1 σ 1 σ) ∧
                    (¬ (a1 = 47) →
                      (¬ a1 = 37 →
                        ((0 : Int) = 0 ∨ (0 : Int) = 1) ∧ Mo_isSign_post a1 σ 0 σ) ∧
                      (¬ (¬ a1 = 37) →
                        ((1 : Int) = 0 ∨ (1 : Int) = 1) ∧ Mo_isSign_post a1 σ 1 σ)))))))))))
theorem Mo_isSign_p : Mo_isSign_vc := by
  intro a σ hH hp
  have y : a ∈ ax_sgL → ((1 : Int) = 0 ∨ (1 : Int) = 1) ∧ Mo_isSign_post a σ 1 σ := fun h => ⟨Or.inr rfl, rfl, Or.inl ⟨rfl, h⟩⟩
  have no : a ∉ ax_sgL → ((0 : Int) = 0 ∨ (0 : Int) = 1) ∧ Mo_isSign_post a σ 0 σ := fun h => ⟨Or.inl rfl, rfl, Or.inr ⟨rfl, h⟩⟩
  rw [sgL_iff] at y no
  exact ⟨fun h => y (by omega), fun h1 => ⟨fun h => y (by omega), fun h2 => ⟨fun h => y (by omega), fun h3 => ⟨fun h => y (by omega), fun h4 => ⟨fun h => y (by omega), fun h5 => ⟨fun h => y (by omega), fun h6 => ⟨fun h => y (by omega), fun h7 => ⟨fun h => y (by omega), fun h8 => ⟨fun h => y (by omega), fun h9 => ⟨fun h => y (by omega), fun h10 => ⟨fun h => no (by omega), fun h => y (by omega)⟩⟩⟩⟩⟩⟩⟩⟩⟩⟩⟩
def Mo_isSign_I : List AV → Hp → Nat → Nat → List AV → List AV → Hp → Prop := fun as σ0 pc n st ls σ => (match as with
    | [.inl a1] => False
    | _ => False)
def Mo_isSign_ct : Nat → Ct := fun n => match n with
  | _ => Mo_isSign_cs
set_option maxRecDepth 20000 in
set_option maxHeartbeats 4000000 in
theorem Mo_isSign_met {l : Launch} {D : va_G} {ad : Nat → Nat} {ca : Nat → ClassId} {L : Nat} {fx : Nat → Int} : ax_MC l D ad ca L fx yX9_isSign cX9_isSign 1 (some .boolean) 1 Mo_isSign_cs := by
  refine ax_met (oc := 9) (ct := Mo_isSign_ct) (calls := Mo_isSign_cl) (bs := Mo_isSign_bk) (cut := fun pc => false) (f := 5) (I := Mo_isSign_I) (by decide) rfl rfl Mo_isSign_ck (fun _ h => absurd h List.not_mem_nil) ?_ ?_
  · intro as σ0 hp hH
    match as, hp with
    | [.inl a1], hp => exact ⟨rfl, Mo_isSign_p a1 σ0 hH hp⟩
  · intro as σ0 hp n pc st ls σ hH hI
    match as, hp, hI with
    | [.inl a1], hp, hI => exact False.elim hI
def srt (B : Tp) (p : Nat) : Int := if tK B p = 3 then tV B p else if tK B p = 4 then 3 else (tK B p : Int)
theorem tV_sg {B : Tp} {p : Nat} (h : tK B p = 3) : tV B p ∈ ax_sgL ∧ 37 ≤ tV B p := by
  have : tV B p ∈ ax_sgL := by
    unfold tK at h
    unfold tV
    split at h
    · cases h
    · split at h
      · split at h <;> cases h
      · rename_i h2
        split at h
        · split at h <;> cases h
        · rename_i h3
          rw [if_neg h2, if_neg h3]
          split at h
          · assumption
          · cases h
  refine ⟨this, ?_⟩
  rw [sgL_iff] at this
  omega
def MT (σ : Hp) (B : Tp) (p : Nat) : Prop := (tpR σ = B ∧ TBm σ ∧ p ≤ B.2) ∧ σ 67 7 = (tS B p : Int) ∧ σ 67 6 = srt B p ∧ (tK B p = 1 → σ 67 9 = tV B p) ∧ (tK B p = 2 → σ 67 8 = tV B p) ∧ (¬ tK B p = 4 → σ 67 4 = (tN B p : Int))
def TQ (σ0 σ : Hp) : Prop := Fr [67] σ0 σ ∧ ∀ j, ¬ j = 4 → ¬ j = 6 → ¬ j = 7 → ¬ j = 8 → ¬ j = 9 → σ 67 j = σ0 67 j
theorem TQ.rf {σ : Hp} : TQ σ σ := ⟨Fr.rf, fun _ _ _ _ _ _ => rfl⟩
theorem TQ.tr {σ σ1 σ2 : Hp} (h : TQ σ σ1) (g : TQ σ1 σ2) : TQ σ σ2 := ⟨h.1.tr g.1, fun j a b c d e => (g.2 j a b c d e).trans (h.2 j a b c d e)⟩
theorem TQ.hp {σ0 σ : Hp} {j : Nat} {v : Int} (h : TQ σ0 σ) (hj : j = 4 ∨ j = 6 ∨ j = 7 ∨ j = 8 ∨ j = 9) : TQ σ0 (hp σ 67 j v) := ⟨Fr.hp h.1 (by simp), fun i a b c d e => by rw [hp_r2 (fun z => by omega)]; exact h.2 i a b c d e⟩
theorem tpR_eq {σ σ' : Hp} (h5 : σ' 67 5 = σ 67 5) (h68 : σ' 68 = σ 68) : tpR σ' = tpR σ ∧ (TBm σ → TBm σ') := by
  refine ⟨by unfold tpR; rw [h5, h68], fun h => ?_⟩
  unfold TBm
  rw [h5, h68]
  exact h
theorem TQ.tb {σ0 σ : Hp} (h : TQ σ0 σ) (hT : TBm σ0) : tpR σ = tpR σ0 ∧ TBm σ := by
  have := tpR_eq (h.2 5 (by decide) (by decide) (by decide) (by decide) (by decide)) (h.1 68 (by decide))
  exact ⟨this.1, this.2 hT⟩
theorem MT.keep {σ σ' : Hp} {B : Tp} {p : Nat} (h : MT σ B p) (h67 : ∀ j, 4 ≤ j → j ≤ 9 → σ' 67 j = σ 67 j) (h68 : σ' 68 = σ 68) : MT σ' B p := by
  obtain ⟨⟨h1, h2, h3⟩, h4, h5, h6, h7, h8⟩ := h
  have e := tpR_eq (h67 5 (by decide) (by decide)) h68
  refine ⟨⟨by rw [e.1]; exact h1, e.2 h2, h3⟩, by rw [h67 7 (by decide) (by decide)]; exact h4, by rw [h67 6 (by decide) (by decide)]; exact h5, by rw [h67 9 (by decide) (by decide)]; exact h6, by rw [h67 8 (by decide) (by decide)]; exact h7, by rw [h67 4 (by decide) (by decide)]; exact h8⟩
def Mo_token_pre (k : Nat) (σ : Hp) : Prop := k = 67 ∧ TBm σ ∧ 0 ≤ σ 67 4 ∧ σ 67 4 ≤ σ 67 5
def Mo_token_post (_k : Nat) (σ σ' : Hp) : Prop := TQ σ σ' ∧ MT σ' (tpR σ) (σ 67 4).toNat
abbrev atM (σ : Hp) : Nat := (σ 67 4).toNat
def Mo_token_I20 (_k : Nat) (σ0 : Hp) (n : Nat) (σ : Hp) : Prop := ∃ v : Nat, σ 67 4 = v ∧ n = 10000 - v ∧ v < (tpR σ0).2 ∧ atM σ0 ≤ v ∧ (∀ i, atM σ0 ≤ i → i ≤ v → bW (tpR σ0) i = true) ∧ TQ σ0 σ
def Mo_token_I33 (_k : Nat) (σ0 : Hp) (n : Nat) (σ : Hp) : Prop := σ 67 4 = (tS (tpR σ0) (atM σ0) : Int) ∧ n = 5000 ∧ TQ σ0 σ
def Mo_token_I78 (_k : Nat) (σ0 : Hp) (n : Nat) (_v1 v2 : Int) (σ : Hp) : Prop := ∃ j : Nat, v2 = j ∧ n = 3000 - j ∧ TQ σ0 σ ∧ σ 67 4 = (tS (tpR σ0) (atM σ0) : Int) ∧ σ 67 7 = (tS (tpR σ0) (atM σ0) : Int) ∧ bL (tpR σ0) (tS (tpR σ0) (atM σ0)) = true ∧ (∀ i, i < j → bL (tpR σ0) (tS (tpR σ0) (atM σ0) + i) = true) ∧ (j ≤ 8 → σ 67 9 = wv (tpR σ0) (tS (tpR σ0) (atM σ0)) j)
def Mo_token_I144 (_k : Nat) (σ0 : Hp) (n : Nat) (_v1 v2 : Int) (σ : Hp) : Prop := ∃ j : Nat, v2 = j ∧ n = 3000 - j ∧ TQ σ0 σ ∧ σ 67 4 = (tS (tpR σ0) (atM σ0) : Int) ∧ σ 67 7 = (tS (tpR σ0) (atM σ0) : Int) ∧ bL (tpR σ0) (tS (tpR σ0) (atM σ0)) = false ∧ bD (tpR σ0) (tS (tpR σ0) (atM σ0)) = true ∧ (∀ i, i < j → bD (tpR σ0) (tS (tpR σ0) (atM σ0) + i) = true) ∧ (j ≤ 4 → σ 67 8 = nv (tpR σ0) (tS (tpR σ0) (atM σ0)) j)
def Mo_token_bk : List (Nat × List Item) := [(0, [(.aload_n 0, 1, [], []), (.iconst 0, 1, [], []), (.invokevirtual 152, 3, [0], []), (.bipush 32, 2, [], []), (.if_icmp .eq 13, 3, [20], []), (.aload_n 0, 1, [], []), (.iconst 0, 1, [], []), (.invokevirtual 152, 3, [0], []), (.bipush 10, 2, [], []), (.if_icmp .ne 16, 3, [33], [])]),
  (20, [(.aload_n 0, 1, [], []), (.dup, 1, [], []), (.getfield 146, 3, [9, 4, 0, 0, 0, 0], []), (.iconst 1, 1, [], []), (.iadd, 1, [], []), (.putfield 146, 3, [9, 4, 0, 0, 0, 0], []), (.goto (-30), 3, [0], [])]),
  (33, [(.aload_n 0, 1, [], []), (.aload_n 0, 1, [], []), (.getfield 146, 3, [9, 4, 0, 0, 0, 0], []), (.putfield 156, 3, [9, 7, 0, 0, 0, 0], []), (.aload_n 0, 1, [], []), (.iconst 0, 1, [], []), (.invokevirtual 152, 3, [0], []), (.istore_n 1, 1, [], []), (.iconst 0, 1, [], []), (.istore_n 2, 1, [], []), (.aload_n 0, 1, [], []), (.lconst 0, 1, [], [(0, 0)]), (.putfield 159, 3, [9, 9, 2, 0, 0, 0], []), (.aload_n 0, 1, [], []), (.iconst 0, 1, [], []), (.putfield 163, 3, [9, 8, 0, 0, 0, 0], []), (.iload_n 1, 1, [], []), (.ifCond .ge 11, 3, [71], []), (.aload_n 0, 1, [], []), (.iconst 0, 1, [], []), (.putfield 166, 3, [9, 6, 0, 0, 0, 0], []), (.goto 164, 3, [232], [])]),
  (71, [(.iload_n 1, 1, [], []), (.invokestatic 169, 3, [1], []), (.ifCond .eq 62, 3, [137], [])]),
  (78, [(.aload_n 0, 1, [], []), (.iload_n 2, 1, [], []), (.invokevirtual 152, 3, [0], []), (.invokestatic 169, 3, [1], []), (.ifCond .eq 33, 3, [119], []), (.iload_n 2, 1, [], []), (.bipush 8, 2, [], []), (.if_icmp .ge 21, 3, [113], []), (.aload_n 0, 1, [], []), (.aload_n 0, 1, [], []), (.getfield 159, 3, [9, 9, 2, 0, 0, 0], []), (.bipush 8, 2, [], []), (.lshl, 1, [], []), (.aload_n 0, 1, [], []), (.iload_n 2, 1, [], []), (.invokevirtual 152, 3, [0], []), (.i2l, 1, [], []), (.lor, 1, [], []), (.putfield 159, 3, [9, 9, 2, 0, 0, 0], [])]),
  (113, [(.iinc 2 1, 3, [], []), (.goto (-38), 3, [78], [])]),
  (119, [(.aload_n 0, 1, [], []), (.iload_n 2, 1, [], []), (.bipush 8, 2, [], []), (.if_icmp .le 7, 3, [130], []), (.iconst 3, 1, [], []), (.goto 4, 3, [131], [])]),
  (130, [(.iconst 1, 1, [], [])]),
  (131, [(.putfield 166, 3, [9, 6, 0, 0, 0, 0], []), (.goto 98, 3, [232], [])]),
  (137, [(.iload_n 1, 1, [], []), (.invokestatic 173, 3, [2], []), (.ifCond .eq 73, 3, [214], [])]),
  (144, [(.aload_n 0, 1, [], []), (.iload_n 2, 1, [], []), (.invokevirtual 152, 3, [0], []), (.invokestatic 173, 3, [2], []), (.ifCond .eq 34, 3, [186], []), (.iload_n 2, 1, [], []), (.iconst 4, 1, [], []), (.if_icmp .ge 23, 3, [180], []), (.aload_n 0, 1, [], []), (.bipush 10, 2, [], []), (.aload_n 0, 1, [], []), (.getfield 163, 3, [9, 8, 0, 0, 0, 0], []), (.imul, 1, [], []), (.aload_n 0, 1, [], []), (.iload_n 2, 1, [], []), (.invokevirtual 152, 3, [0], []), (.iadd, 1, [], []), (.bipush 48, 2, [], []), (.isub, 1, [], []), (.putfield 163, 3, [9, 8, 0, 0, 0, 0], [])]),
  (180, [(.iinc 2 1, 3, [], []), (.goto (-39), 3, [144], [])]),
  (186, [(.aload_n 0, 1, [], []), (.iload_n 2, 1, [], []), (.iconst 4, 1, [], []), (.if_icmp .gt 14, 3, [203], []), (.aload_n 0, 1, [], []), (.iload_n 2, 1, [], []), (.invokevirtual 152, 3, [0], []), (.invokestatic 169, 3, [1], []), (.ifCond .eq 7, 3, [207], [])]),
  (203, [(.iconst 3, 1, [], []), (.goto 4, 3, [208], [])]),
  (207, [(.iconst 2, 1, [], [])]),
  (208, [(.putfield 166, 3, [9, 6, 0, 0, 0, 0], []), (.goto 21, 3, [232], [])]),
  (214, [(.iconst 1, 1, [], []), (.istore_n 2, 1, [], []), (.aload_n 0, 1, [], []), (.iload_n 1, 1, [], []), (.invokestatic 176, 3, [3], []), (.ifCond .eq 7, 3, [228], []), (.iload_n 1, 1, [], []), (.goto 4, 3, [229], [])]),
  (228, [(.iconst 3, 1, [], [])]),
  (229, [(.putfield 166, 3, [9, 6, 0, 0, 0, 0], [])]),
  (232, [(.aload_n 0, 1, [], []), (.getfield 166, 3, [9, 6, 0, 0, 0, 0], []), (.iconst 3, 1, [], []), (.if_icmp .eq 13, 3, [250], []), (.aload_n 0, 1, [], []), (.dup, 1, [], []), (.getfield 146, 3, [9, 4, 0, 0, 0, 0], []), (.iload_n 2, 1, [], []), (.iadd, 1, [], []), (.putfield 146, 3, [9, 4, 0, 0, 0, 0], [])]),
  (250, [(.return_, 1, [], [])])]
def Mo_token_cl : List (Instr × Nat) := [(.invokevirtual 152, 0), (.invokestatic 169, 1), (.invokestatic 173, 2), (.invokestatic 176, 3)]
set_option maxRecDepth 20000 in
theorem Mo_token_ck : Mo_token_bk.all (fun b => ax_chB 9 3 cX9_token Mo_token_cl b.1 b.2) = true := by decide +kernel
def Mo_token_cs : Ct := (1, 10, 0, (0, 0), fun as σ => (match as with
    | [.inr (.inr (.inl (k, 0, 9)))] => Mo_token_pre k σ
    | _ => False), fun as σ r σ' => (match as with
    | [.inr (.inr (.inl (k, 0, 9)))] => Mo_token_post k σ σ'
    | _ => False))
theorem Mo_token_w : ∀ w ∈ ([.instanceMethod yX9_token, .selects yX9_token.cls yX9_token yX9_token, .initialized yX9_token.cls, .code yX9_token cX9_token 3 none] : List Cond), w ∈ ax_tb := ax_w4 (ax_m6 147 (by decide +kernel) rfl) (ax_m0 8 (by decide +kernel) rfl) (ax_m1 10 (by decide +kernel) rfl) (ax_m6 148 (by decide +kernel) rfl)
theorem Mo_token_ds : yX9_token.cls ≠ "java/lang/invoke/MethodHandle" ∧ yX9_token.cls ≠ "java/lang/invoke/VarHandle" ∧ (parseMethodDescriptor yX9_token.desc).map (fun d => d.parameters.length) = some 0 := by decide +kernel
def Mo_token_vc : Prop := ∀ (k : Nat) (σ : Hp), ax_H σ → Mo_token_pre k σ →
  Mo_here_pre k 0 σ ∧
  ∀ (r2 : Int) (σ1 : Hp), Mo_here_post k 0 σ r2 σ1 →
  (r2 = 32 →
    ∃ n' : Nat, k = k ∧ Mo_token_I20 k σ n' σ1) ∧
  (¬ (r2 = 32) →
    Mo_here_pre k 0 σ1 ∧
    ∀ (r4 : Int) (σ3 : Hp), Mo_here_post k 0 σ1 r4 σ3 →
    (¬ r4 = 10 →
      ∃ n' : Nat, k = k ∧ Mo_token_I33 k σ n' σ3) ∧
    (¬ (¬ r4 = 10) →
      ∃ n' : Nat, k = k ∧ Mo_token_I20 k σ n' σ3))
def Mo_token_vc20 : Prop := ∀ (k : Nat) (σ0 : Hp), Mo_token_pre k σ0 → ∀ (n : Nat)  (σ : Hp), ax_H σ → Mo_token_I20 k σ0 n σ →
  ∀ σ1 : Hp, σ1 = hp σ k 4 (wr ((σ k 4) + 1)) →
  Mo_here_pre k 0 σ1 ∧
  ∀ (r3 : Int) (σ2 : Hp), Mo_here_post k 0 σ1 r3 σ2 →
  (r3 = 32 →
    ∃ n' : Nat, n' < n ∧ k = k ∧ Mo_token_I20 k σ0 n' σ2) ∧
  (¬ (r3 = 32) →
    Mo_here_pre k 0 σ2 ∧
    ∀ (r5 : Int) (σ4 : Hp), Mo_here_post k 0 σ2 r5 σ4 →
    (¬ r5 = 10 →
      ∃ n' : Nat, n' < n ∧ k = k ∧ Mo_token_I33 k σ0 n' σ4) ∧
    (¬ (¬ r5 = 10) →
      ∃ n' : Nat, n' < n ∧ k = k ∧ Mo_token_I20 k σ0 n' σ4))
def Mo_token_vc33 : Prop := ∀ (k : Nat) (σ0 : Hp), Mo_token_pre k σ0 → ∀ (n : Nat)  (σ : Hp), ax_H σ → Mo_token_I33 k σ0 n σ →
  ∀ σ1 : Hp, σ1 = hp σ k 7 (σ k 4) →
  Mo_here_pre k 0 σ1 ∧
  ∀ (r3 : Int) (σ2 : Hp), Mo_here_post k 0 σ1 r3 σ2 →
  ∀ σ4 : Hp, σ4 = hp σ2 k 9 0 →
  ∀ σ5 : Hp, σ5 = hp σ4 k 8 0 →
  (0 ≤ r3 →
    Mo_isLetter_pre r3 σ5 ∧
    ∀ (r7 : Int) (σ6 : Hp), Mo_isLetter_post r3 σ5 r7 σ6 →
    (r7 = 0 →
      Mo_isDigit_pre r3 σ6 ∧
      ∀ (r9 : Int) (σ8 : Hp), Mo_isDigit_post r3 σ6 r9 σ8 →
      (r9 = 0 →
        Mo_isSign_pre r3 σ8 ∧
        ∀ (r11 : Int) (σ10 : Hp), Mo_isSign_post r3 σ8 r11 σ10 →
        (r11 = 0 →
          ∀ σ12 : Hp, σ12 = hp σ10 k 6 3 →
          (σ12 k 6 = 3 →
            Mo_token_post k σ0 σ12) ∧
          (¬ (σ12 k 6 = 3) →
            ∀ σ13 : Hp, σ13 = hp σ12 k 4 (wr ((σ12 k 4) + 1)) →
            Mo_token_post k σ0 σ13)) ∧
        (¬ (r11 = 0) →
          ∀ σ14 : Hp, σ14 = hp σ10 k 6 r3 →
          (σ14 k 6 = 3 →
            Mo_token_post k σ0 σ14) ∧
          (¬ (σ14 k 6 = 3) →
            ∀ σ15 : Hp, σ15 = hp σ14 k 4 (wr ((σ14 k 4) + 1)) →
            Mo_token_post k σ0 σ15))) ∧
      (¬ (r9 = 0) →
        ∃ n' : Nat, n' < n ∧ k = k ∧ Mo_token_I144 k σ0 n' r3 0 σ8)) ∧
    (¬ (r7 = 0) →
      ∃ n' : Nat, n' < n ∧ k = k ∧ Mo_token_I78 k σ0 n' r3 0 σ6)) ∧
  (¬ (0 ≤ r3) →
    ∀ σ16 : Hp, σ16 = hp σ5 k 6 0 →
    (σ16 k 6 = 3 →
      Mo_token_post k σ0 σ16) ∧
    (¬ (σ16 k 6 = 3) →
      ∀ σ17 : Hp, σ17 = hp σ16 k 4 (wr ((σ16 k 4) + 0)) →
      Mo_token_post k σ0 σ17))
def Mo_token_vc78 : Prop := ∀ (k : Nat) (σ0 : Hp), Mo_token_pre k σ0 → ∀ (n : Nat) (v1 : Int) (v2 : Int) (σ : Hp), ax_H σ → Mo_token_I78 k σ0 n v1 v2 σ →
  Mo_here_pre k v2 σ ∧
  ∀ (r2 : Int) (σ1 : Hp), Mo_here_post k v2 σ r2 σ1 →
  Mo_isLetter_pre r2 σ1 ∧
  ∀ (r4 : Int) (σ3 : Hp), Mo_isLetter_post r2 σ1 r4 σ3 →
  (r4 = 0 →
    (v2 ≤ 8 →
      ∀ σ5 : Hp, σ5 = hp σ3 k 6 1 →
      (σ5 k 6 = 3 →
        Mo_token_post k σ0 σ5) ∧
      (¬ (σ5 k 6 = 3) →
        ∀ σ6 : Hp, σ6 = hp σ5 k 4 (wr ((σ5 k 4) + v2)) →
        Mo_token_post k σ0 σ6)) ∧
    (¬ (v2 ≤ 8) →
      ∀ σ7 : Hp, σ7 = hp σ3 k 6 3 →
      (σ7 k 6 = 3 →
        Mo_token_post k σ0 σ7) ∧
      (¬ (σ7 k 6 = 3) →
        ∀ σ8 : Hp, σ8 = hp σ7 k 4 (wr ((σ7 k 4) + v2)) →
        Mo_token_post k σ0 σ8))) ∧
  (¬ (r4 = 0) →
    (8 ≤ v2 →
      ∃ n' : Nat, n' < n ∧ k = k ∧ Mo_token_I78 k σ0 n' v1 (wr (v2 + 1)) σ3) ∧
    (¬ (8 ≤ v2) →
      Mo_here_pre k v2 σ3 ∧
      ∀ (r10 : Int) (σ9 : Hp), Mo_here_post k v2 σ3 r10 σ9 →
      ∀ σ11 : Hp, σ11 = hp σ9 k 9 (lOr (lShl (σ3 k 9) 8) r10) →
      ∃ n' : Nat, n' < n ∧ k = k ∧ Mo_token_I78 k σ0 n' v1 (wr (v2 + 1)) σ11))
def Mo_token_vc144 : Prop := ∀ (k : Nat) (σ0 : Hp), Mo_token_pre k σ0 → ∀ (n : Nat) (v1 : Int) (v2 : Int) (σ : Hp), ax_H σ → Mo_token_I144 k σ0 n v1 v2 σ →
  Mo_here_pre k v2 σ ∧
  ∀ (r2 : Int) (σ1 : Hp), Mo_here_post k v2 σ r2 σ1 →
  Mo_isDigit_pre r2 σ1 ∧
  ∀ (r4 : Int) (σ3 : Hp), Mo_isDigit_post r2 σ1 r4 σ3 →
  (r4 = 0 →
    (4 < v2 →
      ∀ σ5 : Hp, σ5 = hp σ3 k 6 3 →
      (σ5 k 6 = 3 →
        Mo_token_post k σ0 σ5) ∧
      (¬ (σ5 k 6 = 3) →
        ∀ σ6 : Hp, σ6 = hp σ5 k 4 (wr ((σ5 k 4) + v2)) →
        Mo_token_post k σ0 σ6)) ∧
    (¬ (4 < v2) →
      Mo_here_pre k v2 σ3 ∧
      ∀ (r8 : Int) (σ7 : Hp), Mo_here_post k v2 σ3 r8 σ7 →
      Mo_isLetter_pre r8 σ7 ∧
      ∀ (r10 : Int) (σ9 : Hp), Mo_isLetter_post r8 σ7 r10 σ9 →
      (r10 = 0 →
        ∀ σ11 : Hp, σ11 = hp σ9 k 6 2 →
        (σ11 k 6 = 3 →
          Mo_token_post k σ0 σ11) ∧
        (¬ (σ11 k 6 = 3) →
          ∀ σ12 : Hp, σ12 = hp σ11 k 4 (wr ((σ11 k 4) + v2)) →
          Mo_token_post k σ0 σ12)) ∧
      (¬ (r10 = 0) →
        ∀ σ13 : Hp, σ13 = hp σ9 k 6 3 →
        (σ13 k 6 = 3 →
          Mo_token_post k σ0 σ13) ∧
        (¬ (σ13 k 6 = 3) →
          ∀ σ14 : Hp, σ14 = hp σ13 k 4 (wr ((σ13 k 4) + v2)) →
          Mo_token_post k σ0 σ14)))) ∧
  (¬ (r4 = 0) →
    (4 ≤ v2 →
      ∃ n' : Nat, n' < n ∧ k = k ∧ Mo_token_I144 k σ0 n' v1 (wr (v2 + 1)) σ3) ∧
    (¬ (4 ≤ v2) →
      Mo_here_pre k v2 σ3 ∧
      ∀ (r16 : Int) (σ15 : Hp), Mo_here_post k v2 σ3 r16 σ15 →
      ∀ σ17 : Hp, σ17 = hp σ15 k 8 (wr ((wr ((wr (10 * (σ3 k 8))) + r16)) - 48)) →
      ∃ n' : Nat, n' < n ∧ k = k ∧ Mo_token_I144 k σ0 n' v1 (wr (v2 + 1)) σ17))
theorem tk_pre {σ0 : Hp} (h : Mo_token_pre 67 σ0) : RB (tpR σ0) ∧ atM σ0 ≤ (tpR σ0).2 ∧ σ0 67 4 = (atM σ0 : Int) := by
  obtain ⟨-, h1, h2, h3⟩ := h
  have := h1.rb
  have e : atM σ0 = (σ0 67 4).toNat := rfl
  exact ⟨this.1, by omega, by omega⟩
theorem here_ok {σ0 σ : Hp} (hp0 : Mo_token_pre 67 σ0) (hQ : TQ σ0 σ) {v : Nat} (hv : σ 67 4 = v) (hv2 : v ≤ 1600) {a : Int} {b : Nat} (ha : a = b) (hb : b ≤ 2000) : Mo_here_pre 67 a σ ∧ ∀ r σ', Mo_here_post 67 a σ r σ' → σ' = σ ∧ r = hr (tpR σ0) (v + b) := by
  have hT := hQ.tb hp0.2.1
  refine ⟨⟨rfl, hT.2, by omega, by omega, by omega, by omega⟩, ?_⟩
  rintro r σ' ⟨rfl, rfl⟩
  exact ⟨rfl, by rw [hT.1, hv, ha, show ((v : Int) + (b : Int)).toNat = v + b by omega]⟩
theorem Mo_token_p : Mo_token_vc := by
  intro k σ hH hp0
  obtain rfl := hp0.1
  obtain ⟨hB, ha, e4⟩ := tk_pre hp0
  obtain ⟨g1, g2⟩ := here_ok hp0 TQ.rf e4 (by have := hB.1; omega) (a := 0) (b := 0) rfl (by decide)
  refine ⟨g1, fun r2 σ1 h => ?_⟩
  obtain ⟨e1, e2⟩ := g2 r2 σ1 h
  subst e1
  rw [Nat.add_zero] at e2
  have ws : bW (tpR σ1) (atM σ1) = true → ∃ n' : Nat, (67 : Nat) = 67 ∧ Mo_token_I20 67 σ1 n' σ1 := fun z =>
    ⟨_, rfl, atM σ1, e4, rfl, bW_lt _ z, Nat.le_refl _, fun i h1 h2 => by rw [show i = atM σ1 by omega]; exact z, TQ.rf⟩
  refine ⟨fun h3 => ws ((hr_W hB).mp (Or.inl (by omega))), fun h3 => ⟨g1, fun r4 σ3 h4 => ?_⟩⟩
  obtain ⟨e5, e6⟩ := g2 r4 σ3 h4
  subst e5
  rw [Nat.add_zero] at e6
  refine ⟨fun h5 => ⟨5000, rfl, ?_, rfl, TQ.rf⟩, fun h5 => ws ((hr_W hB).mp (Or.inr (by omega)))⟩
  have : atM σ3 = tS (tpR σ3) (atM σ3) := run_is bW_lt (by have := hB.1; omega) (Nat.le_refl _) (fun i h1 h2 => absurd h2 (by omega)) (by
    cases z : bW (tpR σ3) (atM σ3) with
    | false => rfl
    | true => have := (hr_W hB).mpr z; omega)
  rw [← this]; exact e4
theorem Mo_token_p20 : Mo_token_vc20 := by
  intro k σ0 hp0 n σ hH hI
  obtain rfl := hp0.1
  obtain ⟨hB, ha, e4⟩ := tk_pre hp0
  obtain ⟨v, hv, rfl, hv2, hav, hw, hQ⟩ := hI
  have hB1 := hB.1
  intro σ1 hs
  rw [hv, wr1 (by omega) (by omega)] at hs
  have hQ1 : TQ σ0 σ1 := by rw [hs]; exact hQ.hp (Or.inl rfl)
  have hv1 : σ1 67 4 = ((v + 1 : Nat) : Int) := by rw [hs, hp_r1]; simp
  obtain ⟨g1, g2⟩ := here_ok hp0 hQ1 hv1 (by omega) (a := 0) (b := 0) rfl (by decide)
  refine ⟨g1, fun r3 σ2 h => ?_⟩
  obtain ⟨e1, e2⟩ := g2 r3 σ2 h
  rw [e1]
  rw [Nat.add_zero] at e2
  have ws : bW (tpR σ0) (v + 1) = true → ∃ n' : Nat, n' < 10000 - v ∧ (67 : Nat) = 67 ∧ Mo_token_I20 67 σ0 n' σ1 := fun z =>
    ⟨10000 - (v + 1), by omega, rfl, v + 1, hv1, rfl, bW_lt _ z, by omega, fun i h1 h2 => by
      by_cases e : i = v + 1
      · rw [e]; exact z
      · exact hw i h1 (by omega), hQ1⟩
  refine ⟨fun h3 => ws ((hr_W hB).mp (Or.inl (by omega))), fun h3 => ⟨g1, fun r5 σ4 h4 => ?_⟩⟩
  obtain ⟨e5, e6⟩ := g2 r5 σ4 h4
  rw [e5]
  rw [Nat.add_zero] at e6
  refine ⟨fun h5 => ⟨5000, by omega, rfl, ?_, rfl, hQ1⟩, fun h5 => ws ((hr_W hB).mp (Or.inr (by omega)))⟩
  have : v + 1 = tS (tpR σ0) (atM σ0) := run_is bW_lt (by omega) (by omega) (fun i h1 h2 => hw i h1 (by omega)) (by
    cases z : bW (tpR σ0) (v + 1) with
    | false => rfl
    | true => have := (hr_W hB).mpr z; omega)
  rw [← this]; exact hv1
/-- the token's end: what was read is put down -/
theorem tk_end {σ0 σ : Hp} (hp0 : Mo_token_pre 67 σ0) (hQ : TQ σ0 σ) (h7 : σ 67 7 = (tS (tpR σ0) (atM σ0) : Int)) (h6 : σ 67 6 = srt (tpR σ0) (atM σ0)) (h9 : tK (tpR σ0) (atM σ0) = 1 → σ 67 9 = tV (tpR σ0) (atM σ0)) (h8 : tK (tpR σ0) (atM σ0) = 2 → σ 67 8 = tV (tpR σ0) (atM σ0)) (h4 : ¬ tK (tpR σ0) (atM σ0) = 4 → σ 67 4 = (tN (tpR σ0) (atM σ0) : Int)) : Mo_token_post 67 σ0 σ := by
  obtain ⟨hB, ha, e4⟩ := tk_pre hp0
  have hT := hQ.tb hp0.2.1
  exact ⟨hQ, ⟨hT.1, hT.2, ha⟩, h7, h6, h9, h8, h4⟩
/-- the last two writes of a token: its kind x, and (if it isn't none) how long it is -/
theorem tk_fin {σ0 σ : Hp} {x w : Int} {q l : Nat} (hp0 : Mo_token_pre 67 σ0) (hQ : TQ σ0 σ) (hq : q = tS (tpR σ0) (atM σ0)) (h4 : σ 67 4 = (q : Int)) (h7 : σ 67 7 = (q : Int)) (hx : x = srt (tpR σ0) (atM σ0)) (hx3 : x = 3 ↔ tK (tpR σ0) (atM σ0) = 4) (h9 : tK (tpR σ0) (atM σ0) = 1 → σ 67 9 = tV (tpR σ0) (atM σ0)) (h8 : tK (tpR σ0) (atM σ0) = 2 → σ 67 8 = tV (tpR σ0) (atM σ0)) (hw : w = (l : Int)) (hl : ¬ tK (tpR σ0) (atM σ0) = 4 → q + l = tN (tpR σ0) (atM σ0)) (hl2 : q + l ≤ 3000) :
    ∀ σ5 : Hp, σ5 = hp σ 67 6 x → (σ5 67 6 = 3 → Mo_token_post 67 σ0 σ5) ∧ (¬ (σ5 67 6 = 3) → ∀ σ6 : Hp, σ6 = hp σ5 67 4 (wr ((σ5 67 4) + w)) → Mo_token_post 67 σ0 σ6) := by
  intro σ5 hs
  have a6 : σ5 67 6 = x := by rw [hs, hp_r1]
  have a4 : σ5 67 4 = (q : Int) := by rw [hs, hp_r2 (by decide)]; exact h4
  have a7 : σ5 67 7 = (q : Int) := by rw [hs, hp_r2 (by decide)]; exact h7
  have a8 : σ5 67 8 = σ 67 8 := by rw [hs, hp_r2 (by decide)]
  have a9 : σ5 67 9 = σ 67 9 := by rw [hs, hp_r2 (by decide)]
  have Q5 : TQ σ0 σ5 := by rw [hs]; exact hQ.hp (Or.inr (Or.inl rfl))
  refine ⟨fun h => tk_end hp0 Q5 (by rw [a7, hq]) (by rw [a6, hx]) (by rw [a9]; exact h9) (by rw [a8]; exact h8) (fun z => absurd (hx3.mp (by rw [← a6]; exact h)) z), fun h σ6 h6 => ?_⟩
  have n4 : ¬ tK (tpR σ0) (atM σ0) = 4 := fun z => h (by rw [a6]; exact hx3.mpr z)
  refine tk_end hp0 (by rw [h6]; exact Q5.hp (Or.inl rfl)) (by rw [h6, hp_r2 (by decide), a7, hq]) (by rw [h6, hp_r2 (by decide), a6, hx]) (by rw [h6, hp_r2 (by decide), a9]; exact h9) (by rw [h6, hp_r2 (by decide), a8]; exact h8) (fun _ => ?_)
  rw [h6, hp_r1, a4, hw, wr_id (by omega) (by omega), ← hl n4]
  simp
theorem Mo_token_p33 : Mo_token_vc33 := by
  intro k σ0 hp0 n σ hH hI
  obtain rfl := hp0.1
  obtain ⟨hB, ha, e4⟩ := tk_pre hp0
  obtain ⟨h4, rfl, hQ⟩ := hI
  have hB1 := hB.1
  have hS := tS_R hB1 ha
  intro σ1 hs1
  have Q1 : TQ σ0 σ1 := by rw [hs1]; exact hQ.hp (by decide)
  have v1 : σ1 67 4 = (tS (tpR σ0) (atM σ0) : Int) := by rw [hs1, hp_r2 (by decide)]; exact h4
  have w1 : σ1 67 7 = (tS (tpR σ0) (atM σ0) : Int) := by rw [hs1, hp_r1]; exact h4
  obtain ⟨g1, g2⟩ := here_ok hp0 Q1 v1 (by omega) (a := 0) (b := 0) rfl (by decide)
  refine ⟨g1, fun r3 σ2 h => ?_⟩
  obtain ⟨e1, e2⟩ := g2 r3 σ2 h
  rw [Nat.add_zero] at e2
  intro σ4 hs4 σ5 hs5
  rw [e1] at hs4
  have Q5 : TQ σ0 σ5 := by rw [hs5, hs4]; exact (Q1.hp (by decide)).hp (by decide)
  have v5 : σ5 67 4 = (tS (tpR σ0) (atM σ0) : Int) := by rw [hs5, hp_r2 (by decide), hs4, hp_r2 (by decide)]; exact v1
  have w5 : σ5 67 7 = (tS (tpR σ0) (atM σ0) : Int) := by rw [hs5, hp_r2 (by decide), hs4, hp_r2 (by decide)]; exact w1
  have x8 : σ5 67 8 = 0 := by rw [hs5, hp_r1]
  have x9 : σ5 67 9 = 0 := by rw [hs5, hp_r2 (by decide), hs4, hp_r1]
  generalize hq : tS (tpR σ0) (atM σ0) = q at *
  refine ⟨fun h3 => ⟨trivial, ?_⟩, fun h3 => ?_⟩
  · have hlt : q < (tpR σ0).2 := hr_lt.mp (by rw [← e2]; exact h3)
    rintro r7 σ6 ⟨rfl, h7⟩
    refine ⟨fun z7 => ⟨trivial, ?_⟩, fun z7 => ?_⟩
    · have nL : ¬ bL (tpR σ0) q = true := by
        rcases h7 with y | y
        · omega
        · rw [← hr_L hB, ← e2]; exact y.2
      rintro r9 σ8 ⟨rfl, h9⟩
      refine ⟨fun z9 => ⟨trivial, ?_⟩, fun z9 => ?_⟩
      · have nD : ¬ bD (tpR σ0) q = true := by
          rcases h9 with y | y
          · omega
          · rw [← hr_D hB, ← e2]; exact y.2
        have ehr : r3 = (tpR σ0).1 q % 256 := by rw [e2]; unfold hr; rw [if_pos hlt]
        have eV : tV (tpR σ0) (atM σ0) = r3 := by unfold tV; rw [hq, if_neg nL, if_neg nD, ehr]
        have eK : tK (tpR σ0) (atM σ0) = if r3 ∈ ax_sgL then 3 else 4 := by unfold tK; rw [hq, if_neg (by omega), if_neg nL, if_neg nD, ehr]
        have eN : tN (tpR σ0) (atM σ0) = q + 1 := by unfold tN; rw [hq, if_neg (by omega), if_neg nL, if_neg nD]
        rintro r11 σ10 ⟨rfl, h11⟩
        refine ⟨fun z11 => ?_, fun z11 => ?_⟩
        · have nS : r3 ∉ ax_sgL := by
            rcases h11 with y | y
            · omega
            · exact y.2
          rw [if_neg nS] at eK
          exact tk_fin hp0 Q5 hq.symm v5 w5 (by unfold srt; rw [eK]; rfl) (by rw [eK]; exact ⟨fun _ => rfl, fun _ => rfl⟩) (fun z => by omega) (fun z => by omega) (w := 1) (l := 1) rfl (fun z => absurd eK z) (by omega)
        · have nS : r3 ∈ ax_sgL := by
            rcases h11 with y | y
            · exact y.2
            · omega
          rw [if_pos nS] at eK
          have h37 := (tV_sg eK).2
          exact tk_fin hp0 Q5 hq.symm v5 w5 (by unfold srt; rw [eK, if_pos rfl, eV]) (by rw [eK]; exact ⟨fun z => by omega, fun z => by omega⟩) (fun z => by omega) (fun z => by omega) (w := 1) (l := 1) rfl (fun z => eN.symm) (by omega)
      · have yD : bD (tpR σ0) q = true := by
          rcases h9 with y | y
          · rw [← hr_D hB, ← e2]; exact y.2
          · omega
        refine ⟨3000, by omega, rfl, 0, rfl, rfl, Q5, by rw [hq]; exact v5, by rw [hq]; exact w5, by rw [hq]; exact eq_false_of_ne_true nL, by rw [hq]; exact yD, fun i hi => absurd hi (Nat.not_lt_zero i), fun _ => x8⟩
    · have yL : bL (tpR σ0) q = true := by
        rcases h7 with y | y
        · rw [← hr_L hB, ← e2]; exact y.2
        · omega
      refine ⟨3000, by omega, rfl, 0, rfl, rfl, Q5, by rw [hq]; exact v5, by rw [hq]; exact w5, by rw [hq]; exact yL, fun i hi => absurd hi (Nat.not_lt_zero i), fun _ => x9⟩
  · have hge : ¬ q < (tpR σ0).2 := fun z => h3 (by rw [e2]; exact hr_lt.mpr z)
    have eK : tK (tpR σ0) (atM σ0) = 0 := by unfold tK; rw [hq, if_pos (by omega)]
    have eN : tN (tpR σ0) (atM σ0) = q := by unfold tN; rw [hq, if_pos (by omega)]
    exact tk_fin hp0 Q5 hq.symm v5 w5 (by unfold srt; rw [eK]; rfl) (by rw [eK]; exact ⟨fun z => by omega, fun z => by omega⟩) (fun z => by omega) (fun z => by omega) (w := 0) (l := 0) rfl (fun z => eN.symm) (by omega)
theorem Mo_token_p78 : Mo_token_vc78 := by
  intro k σ0 hp0 n v1 v2 σ hH hI
  obtain rfl := hp0.1
  obtain ⟨hB, ha, e4⟩ := tk_pre hp0
  obtain ⟨j, rfl, rfl, hQ, h4, h7, hbL, hall, h9⟩ := hI
  have hB1 := hB.1
  have hS := tS_R hB1 ha
  generalize hq : tS (tpR σ0) (atM σ0) = q at *
  have hqj : q + j ≤ (tpR σ0).2 := by
    by_cases e : j = 0
    · omega
    · have := bL_lt _ (hall (j - 1) (by omega)); omega
  obtain ⟨g1, g2⟩ := here_ok hp0 hQ h4 (by omega) (a := (j : Int)) (b := j) rfl (by omega)
  refine ⟨g1, fun r2 σ1 h => ?_⟩
  obtain ⟨e1, e2⟩ := g2 r2 σ1 h
  subst e1
  refine ⟨trivial, ?_⟩
  rintro r4 σ3 ⟨rfl, hr4⟩
  refine ⟨fun z4 => ?_, fun z4 => ?_⟩
  · have nL : ¬ bL (tpR σ0) (q + j) = true := by
      rcases hr4 with y | y
      · omega
      · rw [← hr_L hB, ← e2]; exact y.2
    have eE : q + j = eL (tpR σ0) q := run_is bL_lt (by omega) (by omega) (fun i i1 i2 => by
      have := hall (i - q) (by omega)
      rw [show q + (i - q) = i by omega] at this; exact this) (eq_false_of_ne_true nL)
    have hlt := bL_lt _ hbL
    have eK : tK (tpR σ0) (atM σ0) = if j ≤ 8 then 1 else 4 := by unfold tK; rw [hq, if_neg (by omega), if_pos hbL, ← eE, show q + j - q = j by omega]
    have eN : tN (tpR σ0) (atM σ0) = q + j := by unfold tN; rw [hq, if_neg (by omega), if_pos hbL, ← eE]
    have eV : tV (tpR σ0) (atM σ0) = wv (tpR σ0) q j := by unfold tV; rw [hq, if_pos hbL, ← eE, show q + j - q = j by omega]
    refine ⟨fun h8 => ?_, fun h8 => ?_⟩
    · rw [if_pos (by omega)] at eK
      exact tk_fin hp0 hQ hq.symm h4 h7 (by unfold srt; rw [eK]; rfl) (by rw [eK]; exact ⟨fun z => by omega, fun z => by omega⟩) (fun _ => by rw [eV]; exact h9 (by omega)) (fun z => by omega) rfl (fun z => eN.symm) (by omega)
    · rw [if_neg (by omega)] at eK
      exact tk_fin hp0 hQ hq.symm h4 h7 (by unfold srt; rw [eK]; rfl) (by rw [eK]; exact ⟨fun _ => rfl, fun _ => rfl⟩) (fun z => by omega) (fun z => by omega) rfl (fun z => absurd eK z) (by omega)
  · have yL : bL (tpR σ0) (q + j) = true := by
      rcases hr4 with y | y
      · rw [← hr_L hB, ← e2]; exact y.2
      · omega
    have hlt := bL_lt _ yL
    have hall' : ∀ i, i < j + 1 → bL (tpR σ0) (q + i) = true := fun i hi => by
      by_cases e : i = j
      · rw [e]; exact yL
      · exact hall i (by omega)
    rw [wr1 (by omega) (by omega)]
    refine ⟨fun h8 => ⟨3000 - (j + 1), by omega, rfl, j + 1, by simp, rfl, hQ, by rw [hq]; exact h4, by rw [hq]; exact h7, by rw [hq]; exact hbL, by rw [hq]; exact hall', fun z => by omega⟩, fun h8 => ⟨g1, fun r10 σ9 h' => ?_⟩⟩
    obtain ⟨e9, e10⟩ := g2 r10 σ9 h'
    intro σ11 hs
    rw [e9] at hs
    refine ⟨3000 - (j + 1), by omega, rfl, j + 1, by simp, rfl, by rw [hs]; exact hQ.hp (by decide), by rw [hs, hp_r2 (by decide), hq]; exact h4, by rw [hs, hp_r2 (by decide), hq]; exact h7, by rw [hq]; exact hbL, by rw [hq]; exact hall', fun _ => ?_⟩
    rw [hs, hp_r1, h9 (by omega), e10, hr_bL yL, hq]
    rfl
theorem Mo_token_p144 : Mo_token_vc144 := by
  intro k σ0 hp0 n v1 v2 σ hH hI
  obtain rfl := hp0.1
  obtain ⟨hB, ha, e4⟩ := tk_pre hp0
  obtain ⟨j, rfl, rfl, hQ, h4, h7, hnL, hbD, hall, h8⟩ := hI
  have hB1 := hB.1
  have hS := tS_R hB1 ha
  generalize hq : tS (tpR σ0) (atM σ0) = q at *
  have hqj : q + j ≤ (tpR σ0).2 := by
    by_cases e : j = 0
    · omega
    · have := bD_lt _ (hall (j - 1) (by omega)); omega
  have nL : ¬ bL (tpR σ0) q = true := by rw [hnL]; decide
  obtain ⟨g1, g2⟩ := here_ok hp0 hQ h4 (by omega) (a := (j : Int)) (b := j) rfl (by omega)
  refine ⟨g1, fun r2 σ1 h => ?_⟩
  obtain ⟨e1, e2⟩ := g2 r2 σ1 h
  subst e1
  refine ⟨trivial, ?_⟩
  rintro r4 σ3 ⟨rfl, hr4⟩
  refine ⟨fun z4 => ?_, fun z4 => ?_⟩
  · have nD : ¬ bD (tpR σ0) (q + j) = true := by
      rcases hr4 with y | y
      · omega
      · rw [← hr_D hB, ← e2]; exact y.2
    have eE : q + j = eD (tpR σ0) q := run_is bD_lt (by omega) (by omega) (fun i i1 i2 => by
      have := hall (i - q) (by omega)
      rw [show q + (i - q) = i by omega] at this; exact this) (eq_false_of_ne_true nD)
    have hlt := bD_lt _ hbD
    have eK : tK (tpR σ0) (atM σ0) = if j ≤ 4 ∧ bL (tpR σ0) (q + j) = false then 2 else 4 := by unfold tK; rw [hq, if_neg (by omega), if_neg nL, if_pos hbD, ← eE, show q + j - q = j by omega]
    have eN : tN (tpR σ0) (atM σ0) = q + j := by unfold tN; rw [hq, if_neg (by omega), if_neg nL, if_pos hbD, ← eE]
    have eV : tV (tpR σ0) (atM σ0) = nv (tpR σ0) q j := by unfold tV; rw [hq, if_neg nL, if_pos hbD, ← eE, show q + j - q = j by omega]
    have bad : tK (tpR σ0) (atM σ0) = 4 → ∀ σ5 : Hp, σ5 = hp σ3 67 6 3 → (σ5 67 6 = 3 → Mo_token_post 67 σ0 σ5) ∧ (¬ (σ5 67 6 = 3) → ∀ σ6 : Hp, σ6 = hp σ5 67 4 (wr ((σ5 67 4) + (j : Int))) → Mo_token_post 67 σ0 σ6) := fun eK =>
      tk_fin hp0 hQ hq.symm h4 h7 (by unfold srt; rw [eK]; rfl) (by rw [eK]; exact ⟨fun _ => rfl, fun _ => rfl⟩) (fun z => by omega) (fun z => by omega) rfl (fun z => absurd eK z) (by omega)
    refine ⟨fun h5 => bad (by rw [eK, if_neg (fun z => by omega)]), fun h5 => ⟨g1, fun r8 σ7 h' => ?_⟩⟩
    obtain ⟨e7, e8⟩ := g2 r8 σ7 h'
    subst e7
    refine ⟨trivial, ?_⟩
    rintro r10 σ9 ⟨rfl, h10⟩
    refine ⟨fun z10 => ?_, fun z10 => bad ?_⟩
    · have nl : bL (tpR σ0) (q + j) = false := by
        rcases h10 with y | y
        · omega
        · exact eq_false_of_ne_true (by rw [← hr_L hB, ← e8]; exact y.2)
      rw [if_pos ⟨by omega, nl⟩] at eK
      exact tk_fin hp0 hQ hq.symm h4 h7 (by unfold srt; rw [eK]; rfl) (by rw [eK]; exact ⟨fun z => by omega, fun z => by omega⟩) (fun z => by omega) (fun _ => by rw [eV]; exact h8 (by omega)) rfl (fun z => eN.symm) (by omega)
    · rw [eK, if_neg]
      rintro ⟨-, z⟩
      rcases h10 with y | y
      · exact absurd ((hr_L hB).mp (by rw [← e8]; exact y.2)) (by rw [z]; decide)
      · omega
  · have yD : bD (tpR σ0) (q + j) = true := by
      rcases hr4 with y | y
      · rw [← hr_D hB, ← e2]; exact y.2
      · omega
    have hlt := bD_lt _ yD
    have hall' : ∀ i, i < j + 1 → bD (tpR σ0) (q + i) = true := fun i hi => by
      by_cases e : i = j
      · rw [e]; exact yD
      · exact hall i (by omega)
    rw [wr1 (by omega) (by omega)]
    refine ⟨fun h5 => ⟨3000 - (j + 1), by omega, rfl, j + 1, by simp, rfl, hQ, by rw [hq]; exact h4, by rw [hq]; exact h7, by rw [hq]; exact hnL, by rw [hq]; exact hbD, by rw [hq]; exact hall', fun z => by omega⟩, fun h5 => ⟨g1, fun r16 σ15 h' => ?_⟩⟩
    obtain ⟨e9, e10⟩ := g2 r16 σ15 h'
    intro σ17 hs
    rw [e9] at hs
    refine ⟨3000 - (j + 1), by omega, rfl, j + 1, by simp, rfl, by rw [hs]; exact hQ.hp (by decide), by rw [hs, hp_r2 (by decide), hq]; exact h4, by rw [hs, hp_r2 (by decide), hq]; exact h7, by rw [hq]; exact hnL, by rw [hq]; exact hbD, by rw [hq]; exact hall', fun _ => ?_⟩
    rw [hs, hp_r1, h8 (by omega), e10, hr_bD yD, hq, Int.mul_comm]
    rfl
def Mo_token_I : List AV → Hp → Nat → Nat → List AV → List AV → Hp → Prop := fun as σ0 pc n st ls σ => (match as with
    | [.inr (.inr (.inl (k, 0, 9)))] => (bif Nat.beq pc 20 then (match st, ls with
      | [], [.inr (.inr (.inl (k', 0, 9))), _, _] => k = k' ∧ Mo_token_I20 k σ0 n σ
      | _, _ => False) else (bif Nat.beq pc 33 then (match st, ls with
      | [], [.inr (.inr (.inl (k', 0, 9))), _, _] => k = k' ∧ Mo_token_I33 k σ0 n σ
      | _, _ => False) else (bif Nat.beq pc 78 then (match st, ls with
      | [], [.inr (.inr (.inl (k', 0, 9))), .inl v1, .inl v2] => k = k' ∧ Mo_token_I78 k σ0 n v1 v2 σ
      | _, _ => False) else (bif Nat.beq pc 144 then (match st, ls with
      | [], [.inr (.inr (.inl (k', 0, 9))), .inl v1, .inl v2] => k = k' ∧ Mo_token_I144 k σ0 n v1 v2 σ
      | _, _ => False) else False))))
    | _ => False)
def Mo_token_ct : Nat → Ct := fun n => match n with
  | 0 => Mo_here_cs
  | 1 => Mo_isLetter_cs
  | 2 => Mo_isDigit_cs
  | 3 => Mo_isSign_cs
  | _ => Mo_token_cs
set_option maxRecDepth 20000 in
set_option maxHeartbeats 4000000 in
theorem Mo_token_met {l : Launch} {D : va_G} {ad : Nat → Nat} {ca : Nat → ClassId} {L : Nat} {fx : Nat → Int} : ax_MC l D ad ca L fx yX9_token cX9_token 3 none 2 Mo_token_cs := by
  refine ax_met (oc := 9) (ct := Mo_token_ct) (calls := Mo_token_cl) (bs := Mo_token_bk) (cut := fun pc => Nat.beq pc 20 || Nat.beq pc 33 || Nat.beq pc 78 || Nat.beq pc 144) (f := 22) (I := Mo_token_I) (by decide) rfl rfl Mo_token_ck (List.forall_mem_cons.mpr ⟨ax_cwV Mo_here_met (by decide) (by decide) rfl (by decide) rfl (ax_m6 149 (by decide +kernel) rfl) Mo_here_w rfl Mo_here_ds, List.forall_mem_cons.mpr ⟨ax_cwS Mo_isLetter_met (by decide) (by decide) (ax_m6 153 (by decide +kernel) rfl) Mo_isLetter_w rfl Mo_isLetter_ds, List.forall_mem_cons.mpr ⟨ax_cwS Mo_isDigit_met (by decide) (by decide) (ax_m6 156 (by decide +kernel) rfl) Mo_isDigit_w rfl Mo_isDigit_ds, List.forall_mem_cons.mpr ⟨ax_cwS Mo_isSign_met (by decide) (by decide) (ax_m6 159 (by decide +kernel) rfl) Mo_isSign_w rfl Mo_isSign_ds, fun _ h => absurd h List.not_mem_nil⟩⟩⟩⟩) ?_ ?_
  · intro as σ0 hp hH
    match as, hp with
    | [.inr (.inr (.inl (k, 0, 9)))], hp => exact ⟨rfl, Mo_token_p k σ0 hH hp⟩
  · intro as σ0 hp n pc st ls σ hH hI
    match as, hp, hI with
    | [.inr (.inr (.inl (k, 0, 9)))], hp, hI =>
      rcases ax_bifE hI with ⟨hpc, hI⟩ | ⟨-, hI⟩
      · have := Nat.eq_of_beq_eq_true hpc
        subst this
        match st, ls, hI with
        | [], [.inr (.inr (.inl (k', 0, 9))), _, _], hI =>
          obtain ⟨rfl, hI⟩ := hI
          exact Mo_token_p20 k σ0 hp n σ hH hI
      rcases ax_bifE hI with ⟨hpc, hI⟩ | ⟨-, hI⟩
      · have := Nat.eq_of_beq_eq_true hpc
        subst this
        match st, ls, hI with
        | [], [.inr (.inr (.inl (k', 0, 9))), _, _], hI =>
          obtain ⟨rfl, hI⟩ := hI
          exact Mo_token_p33 k σ0 hp n σ hH hI
      rcases ax_bifE hI with ⟨hpc, hI⟩ | ⟨-, hI⟩
      · have := Nat.eq_of_beq_eq_true hpc
        subst this
        match st, ls, hI with
        | [], [.inr (.inr (.inl (k', 0, 9))), .inl v1, .inl v2], hI =>
          obtain ⟨rfl, hI⟩ := hI
          exact Mo_token_p78 k σ0 hp n v1 v2 σ hH hI
      rcases ax_bifE hI with ⟨hpc, hI⟩ | ⟨-, hI⟩
      · have := Nat.eq_of_beq_eq_true hpc
        subst this
        match st, ls, hI with
        | [], [.inr (.inr (.inl (k', 0, 9))), .inl v1, .inl v2], hI =>
          obtain ⟨rfl, hI⟩ := hI
          exact Mo_token_p144 k σ0 hp n v1 v2 σ hH hI
      exact False.elim hI

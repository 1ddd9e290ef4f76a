-- THE MODEL: its numbers, formulas, how much one worries
def cso (c : Int) : Int := if c = 43 then -12 else if c = 45 then -13 else if c = 42 then -14 else if c = 47 then -15 else if c = 37 then -16 else if c = 60 then -9 else if c = 62 then -10 else if c = 61 then -11 else if c = 38 then -8 else -7
def cod (s a : Int) : Int := if s = 0 then a else if s = 1 then -1 - a else if s = 2 then -6 else cso a
theorem cso_R (c : Int) : -16 ≤ cso c ∧ cso c ≤ -7 := by
  unfold cso
  repeat' split
  all_goals omega
def codM (σ : Hp) (w i : Nat) : Int := cod (σ 73 (320 * w + i)) (σ 74 (320 * w + i))
def frM (σ : Hp) (w : Nat) : Frm := ((if σ 75 w = 0 then 0 else 1), (σ 75 w).toNat, tr (σ 75 w).toNat (codM σ w))
def famM (d : Int) (σ : Hp) : Fam := ((σ 67 42).toNat, tr (σ 67 42).toNat (σ 85), tr (σ 67 42).toNat (σ 86), tr (σ 67 42).toNat (σ 89), tr (σ 67 42).toNat (σ 87), tr (σ 67 42).toNat (σ 88), σ 67 43, d, σ 67 23, frM σ 0, frM σ 1)
/-- a row of 16 numbers of the model as a state -/
def stR (f : Nat → Int) (b : Nat) : Sta := (tr 6 (fun j => f (b + j)), tr 6 (fun j => f (b + 6 + j)), f (b + 12), f (b + 14), f (b + 15), f (b + 13))
abbrev airM (σ : Hp) : Sta := stR (σ 91) 0
abbrev nowM (σ : Hp) : Sta := stR (σ 90) 0
/-- the steps of a formula are what they can be -/
def VCm (σ : Hp) (w : Nat) : Prop := (0 ≤ σ 75 w ∧ σ 75 w ≤ 280) ∧ ∀ i : Nat, (i : Int) < σ 75 w → (σ 73 (320 * w + i) = 0 ∧ 0 ≤ σ 74 (320 * w + i)) ∨ (σ 73 (320 * w + i) = 1 ∧ 0 ≤ σ 74 (320 * w + i) ∧ σ 74 (320 * w + i) < 5) ∨ σ 73 (320 * w + i) = 2 ∨ σ 73 (320 * w + i) = 3
def MF (σ : Hp) : Prop := (0 ≤ σ 67 42 ∧ σ 67 42 ≤ 6) ∧ VCm σ 0 ∧ VCm σ 1 ∧ ∃ d, FV (famM d σ)
theorem MF.keep {σ σ' : Hp} (h : MF σ) (h42 : σ' 67 42 = σ 67 42) (h43 : σ' 67 43 = σ 67 43) (h23 : σ' 67 23 = σ 67 23) (hc : ∀ c, (73 ≤ c ∧ c ≤ 75) ∨ (85 ≤ c ∧ c ≤ 89) → σ' c = σ c) : MF σ' ∧ ∀ d, famM d σ' = famM d σ := by
  have e73 := hc 73 (by omega)
  have e74 := hc 74 (by omega)
  have e75 := hc 75 (by omega)
  have ec : codM σ' = codM σ := by funext w i; unfold codM; rw [e73, e74]
  have ef : ∀ w, frM σ' w = frM σ w := fun w => by unfold frM; rw [e75, ec]
  have eF : ∀ d, famM d σ' = famM d σ := by
    intro d
    unfold famM
    rw [h42, h43, h23, hc 85 (by omega), hc 86 (by omega), hc 87 (by omega), hc 88 (by omega), hc 89 (by omega), ef 0, ef 1]
  obtain ⟨m1, m2, m3, d, m4⟩ := h
  refine ⟨⟨by rw [h42]; exact m1, ?_, ?_, d, by rw [eF]; exact m4⟩, eF⟩
  · unfold VCm; rw [e73, e74, e75]; exact m2
  · unfold VCm; rw [e73, e74, e75]; exact m3
def Mo_truth_pre (_ : Int) (_ : Hp) : Prop := True
def Mo_truth_post (a : Int) (σ : Hp) (r : Int) (σ' : Hp) : Prop := σ' = σ ∧ r = if a = 0 then 0 else 1
def Mo_truth_bk : List (Nat × List Item) := [(0, [(.iload_n 0, 1, [], []), (.ifCond .eq 7, 3, [8], []), (.iconst 1, 1, [], []), (.goto 4, 3, [9], [])]),
  (8, [(.iconst 0, 1, [], [])]),
  (9, [(.ireturn, 1, [], [])])]
def Mo_truth_cl : List (Instr × Nat) := []
set_option maxRecDepth 20000 in
theorem Mo_truth_ck : Mo_truth_bk.all (fun b => ax_chB 9 1 cX9_truth Mo_truth_cl b.1 b.2) = true := by decide +kernel
def Mo_truth_cs : Ct := (1, 0, 1, (0, 0), fun as σ => (match as with
    | [.inl a1] => Mo_truth_pre a1 σ
    | _ => False), fun as σ r σ' => (match as with
    | [.inl a1] => Mo_truth_post a1 σ r σ'
    | _ => False))
theorem Mo_truth_w : ∀ w ∈ ([.static yX9_truth, .initialized yX9_truth.cls, .code yX9_truth cX9_truth 1 (some .int)] : List Cond), w ∈ ax_tb := ax_w3 (ax_m7 59 (by decide +kernel) rfl) (ax_m1 10 (by decide +kernel) rfl) (ax_m7 60 (by decide +kernel) rfl)
theorem Mo_truth_ds : yX9_truth.cls ≠ "java/lang/invoke/MethodHandle" ∧ yX9_truth.cls ≠ "java/lang/invoke/VarHandle" ∧ (parseMethodDescriptor yX9_truth.desc).map (fun d => d.parameters.length) = some 1 := by decide +kernel
def Mo_truth_vc : Prop := ∀ (a1 : Int) (σ : Hp), ax_H σ → Mo_truth_pre a1 σ →
  (a1 = 0 →
    Mo_truth_post a1 σ 0 σ) ∧
  (¬ (a1 = 0) →
    Mo_truth_post a1 σ 1 σ)
theorem Mo_truth_p : Mo_truth_vc := by
  intro a σ hH hp
  exact ⟨fun h => ⟨rfl, by rw [if_pos h]⟩, fun h => ⟨rfl, by rw [if_neg h]⟩⟩
def Mo_truth_I : List AV → Hp → Nat → Nat → List AV → List AV → Hp → Prop := fun as σ0 pc n st ls σ => (match as with
    | [.inl a1] => False
    | _ => False)
def Mo_truth_ct : Nat → Ct := fun n => match n with
  | _ => Mo_truth_cs
set_option maxRecDepth 20000 in
set_option maxHeartbeats 4000000 in
theorem Mo_truth_met {l : Launch} {D : va_G} {ad : Nat → Nat} {ca : Nat → ClassId} {L : Nat} {fx : Nat → Int} : ax_MC l D ad ca L fx yX9_truth cX9_truth 1 (some .int) 1 Mo_truth_cs := by
  refine ax_met (oc := 9) (ct := Mo_truth_ct) (calls := Mo_truth_cl) (bs := Mo_truth_bk) (cut := fun pc => false) (f := 4) (I := Mo_truth_I) (by decide) rfl rfl Mo_truth_ck (fun _ h => absurd h List.not_mem_nil) ?_ ?_
  · intro as σ0 hp hH
    match as, hp with
    | [.inl a1], hp => exact ⟨rfl, Mo_truth_p a1 σ0 hH hp⟩
  · intro as σ0 hp n pc st ls σ hH hI
    match as, hp, hI with
    | [.inl a1], hp, hI => exact False.elim hI
def Mo_within_pre (_ b : Int) (_ : Hp) : Prop := 0 ≤ b
def Mo_within_post (a b : Int) (σ : Hp) (r : Int) (σ' : Hp) : Prop := σ' = σ ∧ r = wth a b
def Mo_within_bk : List (Nat × List Item) := [(0, [(.iload_n 0, 1, [], []), (.ifCond .ge 7, 3, [8], []), (.iconst 0, 1, [], []), (.goto 13, 3, [18], [])]),
  (8, [(.iload_n 0, 1, [], []), (.iload_n 1, 1, [], []), (.if_icmp .le 7, 3, [17], []), (.iload_n 1, 1, [], []), (.goto 4, 3, [18], [])]),
  (17, [(.iload_n 0, 1, [], [])]),
  (18, [(.ireturn, 1, [], [])])]
def Mo_within_cl : List (Instr × Nat) := []
set_option maxRecDepth 20000 in
theorem Mo_within_ck : Mo_within_bk.all (fun b => ax_chB 9 2 cX9_within Mo_within_cl b.1 b.2) = true := by decide +kernel
def Mo_within_cs : Ct := (2, 0, 1, (0, 0), fun as σ => (match as with
    | [.inl a1, .inl a2] => Mo_within_pre a1 a2 σ
    | _ => False), fun as σ r σ' => (match as with
    | [.inl a1, .inl a2] => Mo_within_post a1 a2 σ r σ'
    | _ => False))
theorem Mo_within_w : ∀ w ∈ ([.static yX9_within, .initialized yX9_within.cls, .code yX9_within cX9_within 2 (some .int)] : List Cond), w ∈ ax_tb := ax_w3 (ax_m7 65 (by decide +kernel) rfl) (ax_m1 10 (by decide +kernel) rfl) (ax_m7 66 (by decide +kernel) rfl)
theorem Mo_within_ds : yX9_within.cls ≠ "java/lang/invoke/MethodHandle" ∧ yX9_within.cls ≠ "java/lang/invoke/VarHandle" ∧ (parseMethodDescriptor yX9_within.desc).map (fun d => d.parameters.length) = some 2 := by decide +kernel
def Mo_within_vc : Prop := ∀ (a1 : Int) (a2 : Int) (σ : Hp), ax_H σ → Mo_within_pre a1 a2 σ →
  (0 ≤ a1 →
    (a1 ≤ a2 →
      Mo_within_post a1 a2 σ a1 σ) ∧
    (¬ (a1 ≤ a2) →
      Mo_within_post a1 a2 σ a2 σ)) ∧
  (¬ (0 ≤ a1) →
    Mo_within_post a1 a2 σ 0 σ)
theorem Mo_within_p : Mo_within_vc := by
  intro a b σ hH hp
  have hb : 0 ≤ b := hp
  exact ⟨fun h => ⟨fun h2 => ⟨rfl, by unfold wth; omega⟩, fun h2 => ⟨rfl, by unfold wth; omega⟩⟩, fun h => ⟨rfl, by unfold wth; omega⟩⟩
def Mo_within_I : List AV → Hp → Nat → Nat → List AV → List AV → Hp → Prop := fun as σ0 pc n st ls σ => (match as with
    | [.inl a1, .inl a2] => False
    | _ => False)
def Mo_within_ct : Nat → Ct := fun n => match n with
  | _ => Mo_within_cs
set_option maxRecDepth 20000 in
set_option maxHeartbeats 4000000 in
theorem Mo_within_met {l : Launch} {D : va_G} {ad : Nat → Nat} {ca : Nat → ClassId} {L : Nat} {fx : Nat → Int} : ax_MC l D ad ca L fx yX9_within cX9_within 2 (some .int) 1 Mo_within_cs := by
  refine ax_met (oc := 9) (ct := Mo_within_ct) (calls := Mo_within_cl) (bs := Mo_within_bk) (cut := fun pc => false) (f := 5) (I := Mo_within_I) (by decide) rfl rfl Mo_within_ck (fun _ h => absurd h List.not_mem_nil) ?_ ?_
  · intro as σ0 hp hH
    match as, hp with
    | [.inl a1, .inl a2], hp => exact ⟨rfl, Mo_within_p a1 a2 σ0 hH hp⟩
  · intro as σ0 hp n pc st ls σ hH hI
    match as, hp, hI with
    | [.inl a1, .inl a2], hp, hI => exact False.elim hI
def Mo_isIn_pre (_ _ _ : Int) (_ : Hp) : Prop := True
def Mo_isIn_post (a b c : Int) (σ : Hp) (r : Int) (σ' : Hp) : Prop := σ' = σ ∧ r = if b ≤ a ∧ a ≤ c then 1 else 0
def Mo_isIn_bk : List (Nat × List Item) := [(0, [(.iload_n 0, 1, [], []), (.iload_n 1, 1, [], []), (.if_icmp .lt 12, 3, [14], []), (.iload_n 0, 1, [], []), (.iload_n 2, 1, [], []), (.if_icmp .gt 7, 3, [14], []), (.iconst 1, 1, [], []), (.goto 4, 3, [15], [])]),
  (14, [(.iconst 0, 1, [], [])]),
  (15, [(.ireturn, 1, [], [])])]
def Mo_isIn_cl : List (Instr × Nat) := []
set_option maxRecDepth 20000 in
theorem Mo_isIn_ck : Mo_isIn_bk.all (fun b => ax_chB 9 3 cX9_isIn Mo_isIn_cl b.1 b.2) = true := by decide +kernel
def Mo_isIn_cs : Ct := (3, 0, 2, (0, 0), fun as σ => (match as with
    | [.inl a1, .inl a2, .inl a3] => Mo_isIn_pre a1 a2 a3 σ
    | _ => False), fun as σ r σ' => (match as with
    | [.inl a1, .inl a2, .inl a3] => Mo_isIn_post a1 a2 a3 σ r σ'
    | _ => False))
theorem Mo_isIn_w : ∀ w ∈ ([.static yX9_isIn, .initialized yX9_isIn.cls, .code yX9_isIn cX9_isIn 3 (some .boolean)] : List Cond), w ∈ ax_tb := ax_w3 (ax_m7 84 (by decide +kernel) rfl) (ax_m1 10 (by decide +kernel) rfl) (ax_m7 85 (by decide +kernel) rfl)
theorem Mo_isIn_ds : yX9_isIn.cls ≠ "java/lang/invoke/MethodHandle" ∧ yX9_isIn.cls ≠ "java/lang/invoke/VarHandle" ∧ (parseMethodDescriptor yX9_isIn.desc).map (fun d => d.parameters.length) = some 3 := by decide +kernel
def Mo_isIn_vc : Prop := ∀ (a1 : Int) (a2 : Int) (a3 : Int) (σ : Hp), ax_H σ → Mo_isIn_pre a1 a2 a3 σ →
  (a1 < a2 →
    ((0 : Int) = 0 ∨ (0 : Int) = 1) ∧ Mo_isIn_post a1 a2 a3 σ 0 σ) ∧
  (¬ (a1 < a2) →
    (a3 < a1 →
      ((0 : Int) = 0 ∨ (0 : Int) = 1) ∧ Mo_isIn_post a1 a2 a3 σ 0 σ) ∧
    (¬ (a3 < a1) →
      ((1 : Int) = 0 ∨ (1 : Int) = 1) ∧ Mo_isIn_post a1 a2 a3 σ 1 σ))
theorem Mo_isIn_p : Mo_isIn_vc := by
  intro a b c σ hH hp
  exact ⟨fun h => ⟨Or.inl rfl, rfl, by rw [if_neg (by omega)]⟩, fun h => ⟨fun h2 => ⟨Or.inl rfl, rfl, by rw [if_neg (by omega)]⟩, fun h2 => ⟨Or.inr rfl, rfl, by rw [if_pos ⟨by omega, by omega⟩]⟩⟩⟩
def Mo_isIn_I : List AV → Hp → Nat → Nat → List AV → List AV → Hp → Prop := fun as σ0 pc n st ls σ => (match as with
    | [.inl a1, .inl a2, .inl a3] => False
    | _ => False)
def Mo_isIn_ct : Nat → Ct := fun n => match n with
  | _ => Mo_isIn_cs
set_option maxRecDepth 20000 in
set_option maxHeartbeats 4000000 in
theorem Mo_isIn_met {l : Launch} {D : va_G} {ad : Nat → Nat} {ca : Nat → ClassId} {L : Nat} {fx : Nat → Int} : ax_MC l D ad ca L fx yX9_isIn cX9_isIn 3 (some .boolean) 1 Mo_isIn_cs := by
  refine ax_met (oc := 9) (ct := Mo_isIn_ct) (calls := Mo_isIn_cl) (bs := Mo_isIn_bk) (cut := fun pc => false) (f := 4) (I := Mo_isIn_I) (by decide) rfl rfl Mo_isIn_ck (fun _ h => absurd h List.not_mem_nil) ?_ ?_
  · intro as σ0 hp hH
    match as, hp with
    | [.inl a1, .inl a2, .inl a3], hp => exact ⟨rfl, Mo_isIn_p a1 a2 a3 σ0 hH hp⟩
  · intro as σ0 hp n pc st ls σ hH hI
    match as, hp, hI with
    | [.inl a1, .inl a2, .inl a3], hp, hI => exact False.elim hI
def Mo_isPerson_pre (k : Nat) (_a : Int) (σ : Hp) : Prop := k = 67 ∧ 0 ≤ σ 67 42 ∧ σ 67 42 ≤ 6
def Mo_isPerson_post (_k : Nat) (a : Int) (σ : Hp) (r : Int) (σ' : Hp) : Prop := σ' = σ ∧ r = if 0 ≤ a ∧ a < (((σ 67 42).toNat : Nat) : Int) then 1 else 0
def Mo_isPerson_bk : List (Nat × List Item) := [(0, [(.iload_n 1, 1, [], []), (.iconst 0, 1, [], []), (.aload_n 0, 1, [], []), (.getfield 304, 3, [9, 42, 0, 0, 0, 0], []), (.iconst 1, 1, [], []), (.isub, 1, [], []), (.invokestatic 379, 3, [0], []), (.ireturn, 1, [], [])])]
def Mo_isPerson_cl : List (Instr × Nat) := [(.invokestatic 379, 0)]
set_option maxRecDepth 20000 in
theorem Mo_isPerson_ck : Mo_isPerson_bk.all (fun b => ax_chB 9 2 cX9_isPerson Mo_isPerson_cl b.1 b.2) = true := by decide +kernel
def Mo_isPerson_cs : Ct := (2, 10, 2, (0, 0), fun as σ => (match as with
    | [.inr (.inr (.inl (k, 0, 9))), .inl a1] => Mo_isPerson_pre k a1 σ
    | _ => False), fun as σ r σ' => (match as with
    | [.inr (.inr (.inl (k, 0, 9))), .inl a1] => Mo_isPerson_post k a1 σ r σ'
    | _ => False))
theorem Mo_isPerson_w : ∀ w ∈ ([.instanceMethod yX9_isPerson, .selects yX9_isPerson.cls yX9_isPerson yX9_isPerson, .initialized yX9_isPerson.cls, .code yX9_isPerson cX9_isPerson 2 (some .boolean)] : List Cond), w ∈ ax_tb := ax_w4 (ax_m7 81 (by decide +kernel) rfl) (ax_m0 40 (by decide +kernel) rfl) (ax_m1 10 (by decide +kernel) rfl) (ax_m7 82 (by decide +kernel) rfl)
theorem Mo_isPerson_ds : yX9_isPerson.cls ≠ "java/lang/invoke/MethodHandle" ∧ yX9_isPerson.cls ≠ "java/lang/invoke/VarHandle" ∧ (parseMethodDescriptor yX9_isPerson.desc).map (fun d => d.parameters.length) = some 1 := by decide +kernel
def Mo_isPerson_vc : Prop := ∀ (k : Nat) (a1 : Int) (σ : Hp), ax_H σ → Mo_isPerson_pre k a1 σ →
  Mo_isIn_pre a1 0 (wr ((σ k 42) - 1)) σ ∧
  ∀ (r2 : Int) (σ1 : Hp), Mo_isIn_post a1 0 (wr ((σ k 42) - 1)) σ r2 σ1 →
  (r2 = 0 ∨ r2 = 1) ∧ Mo_isPerson_post k a1 σ r2 σ1
theorem Mo_isPerson_p : Mo_isPerson_vc := by
  intro k a σ hH hp
  obtain ⟨rfl, h0, h1⟩ := hp
  refine ⟨trivial, ?_⟩
  rintro r σ1 ⟨rfl, rfl⟩
  rw [wr_id (by omega) (by omega)]
  have e : (0 ≤ a ∧ a ≤ σ1 67 42 - 1) ↔ (0 ≤ a ∧ a < (((σ1 67 42).toNat : Nat) : Int)) := by omega
  by_cases z : 0 ≤ a ∧ a ≤ σ1 67 42 - 1
  · rw [if_pos z]; exact ⟨Or.inr rfl, rfl, by rw [if_pos (e.mp z)]⟩
  · rw [if_neg z]; exact ⟨Or.inl rfl, rfl, by rw [if_neg (fun y => z (e.mpr y))]⟩
def Mo_isPerson_I : List AV → Hp → Nat → Nat → List AV → List AV → Hp → Prop := fun as σ0 pc n st ls σ => (match as with
    | [.inr (.inr (.inl (k, 0, 9))), .inl a1] => False
    | _ => False)
def Mo_isPerson_ct : Nat → Ct := fun n => match n with
  | 0 => Mo_isIn_cs
  | _ => Mo_isPerson_cs
set_option maxRecDepth 20000 in
set_option maxHeartbeats 4000000 in
theorem Mo_isPerson_met {l : Launch} {D : va_G} {ad : Nat → Nat} {ca : Nat → ClassId} {L : Nat} {fx : Nat → Int} : ax_MC l D ad ca L fx yX9_isPerson cX9_isPerson 2 (some .boolean) 2 Mo_isPerson_cs := by
  refine ax_met (oc := 9) (ct := Mo_isPerson_ct) (calls := Mo_isPerson_cl) (bs := Mo_isPerson_bk) (cut := fun pc => false) (f := 2) (I := Mo_isPerson_I) (by decide) rfl rfl Mo_isPerson_ck (List.forall_mem_cons.mpr ⟨ax_cwS Mo_isIn_met (by decide) (by decide) (ax_m7 83 (by decide +kernel) rfl) Mo_isIn_w rfl Mo_isIn_ds, fun _ h => absurd h List.not_mem_nil⟩) ?_ ?_
  · intro as σ0 hp hH
    match as, hp with
    | [.inr (.inr (.inl (k, 0, 9))), .inl a1], hp => exact ⟨rfl, Mo_isPerson_p k a1 σ0 hH hp⟩
  · intro as σ0 hp n pc st ls σ hH hI
    match as, hp, hI with
    | [.inr (.inr (.inl (k, 0, 9))), .inl a1], hp, hI => exact False.elim hI
def Mo_done_pre (_ _ _ : Int) (_ : Hp) : Prop := True
def Mo_done_post (a x y : Int) (σ : Hp) (r : Int) (σ' : Hp) : Prop := σ' = σ ∧ r = jn (cso a) x y
def Mo_done_bk : List (Nat × List Item) := [(0, [(.iload_n 0, 1, [], []), (.tableswitch 214 37 62 #[143, 197, 214, 214, 214, 127, 119, 214, 123, 214, 131, 214, 214, 214, 214, 214, 214, 214, 214, 214, 214, 214, 214, 155, 183, 169], 119, [], [(37, 144), (38, 198), (39, 215), (40, 215), (41, 215), (42, 128), (43, 120), (44, 215), (45, 124), (46, 215), (47, 132), (48, 215), (49, 215), (50, 215), (51, 215), (52, 215), (53, 215), (54, 215), (55, 215), (56, 215), (57, 215), (58, 215), (59, 215), (60, 156), (61, 184), (62, 170), (0, 215)])]),
  (120, [(.iload_n 1, 1, [], []), (.iload_n 2, 1, [], []), (.iadd, 1, [], []), (.ireturn, 1, [], [])]),
  (124, [(.iload_n 1, 1, [], []), (.iload_n 2, 1, [], []), (.isub, 1, [], []), (.ireturn, 1, [], [])]),
  (128, [(.iload_n 1, 1, [], []), (.iload_n 2, 1, [], []), (.imul, 1, [], []), (.ireturn, 1, [], [])]),
  (132, [(.iload_n 2, 1, [], []), (.ifCond .ne 7, 3, [140], []), (.iconst 0, 1, [], []), (.goto 6, 3, [143], [])]),
  (140, [(.iload_n 1, 1, [], []), (.iload_n 2, 1, [], []), (.idiv, 1, [], [])]),
  (143, [(.ireturn, 1, [], [])]),
  (144, [(.iload_n 2, 1, [], []), (.ifCond .ne 7, 3, [152], []), (.iconst 0, 1, [], []), (.goto 6, 3, [155], [])]),
  (152, [(.iload_n 1, 1, [], []), (.iload_n 2, 1, [], []), (.irem, 1, [], [])]),
  (155, [(.ireturn, 1, [], [])]),
  (156, [(.iload_n 1, 1, [], []), (.iload_n 2, 1, [], []), (.if_icmp .ge 7, 3, [165], []), (.iconst 1, 1, [], []), (.goto 4, 3, [166], [])]),
  (165, [(.iconst 0, 1, [], [])]),
  (166, [(.invokestatic 300, 3, [0], []), (.ireturn, 1, [], [])]),
  (170, [(.iload_n 1, 1, [], []), (.iload_n 2, 1, [], []), (.if_icmp .le 7, 3, [179], []), (.iconst 1, 1, [], []), (.goto 4, 3, [180], [])]),
  (179, [(.iconst 0, 1, [], [])]),
  (180, [(.invokestatic 300, 3, [0], []), (.ireturn, 1, [], [])]),
  (184, [(.iload_n 1, 1, [], []), (.iload_n 2, 1, [], []), (.if_icmp .ne 7, 3, [193], []), (.iconst 1, 1, [], []), (.goto 4, 3, [194], [])]),
  (193, [(.iconst 0, 1, [], [])]),
  (194, [(.invokestatic 300, 3, [0], []), (.ireturn, 1, [], [])]),
  (198, [(.iload_n 1, 1, [], []), (.ifCond .eq 11, 3, [210], []), (.iload_n 2, 1, [], []), (.ifCond .eq 7, 3, [210], []), (.iconst 1, 1, [], []), (.goto 4, 3, [211], [])]),
  (210, [(.iconst 0, 1, [], [])]),
  (211, [(.invokestatic 300, 3, [0], []), (.ireturn, 1, [], [])]),
  (215, [(.iload_n 1, 1, [], []), (.ifCond .ne 7, 3, [223], []), (.iload_n 2, 1, [], []), (.ifCond .eq 7, 3, [227], [])]),
  (223, [(.iconst 1, 1, [], []), (.goto 4, 3, [228], [])]),
  (227, [(.iconst 0, 1, [], [])]),
  (228, [(.invokestatic 300, 3, [0], []), (.ireturn, 1, [], [])])]
def Mo_done_cl : List (Instr × Nat) := [(.invokestatic 300, 0)]
set_option maxRecDepth 20000 in
theorem Mo_done_ck : Mo_done_bk.all (fun b => ax_chB 9 3 cX9_done Mo_done_cl b.1 b.2) = true := by decide +kernel
def Mo_done_cs : Ct := (3, 0, 1, (0, 0), fun as σ => (match as with
    | [.inl a1, .inl a2, .inl a3] => Mo_done_pre a1 a2 a3 σ
    | _ => False), fun as σ r σ' => (match as with
    | [.inl a1, .inl a2, .inl a3] => Mo_done_post a1 a2 a3 σ r σ'
    | _ => False))
theorem Mo_done_w : ∀ w ∈ ([.static yX9_done, .initialized yX9_done.cls, .code yX9_done cX9_done 3 (some .int)] : List Cond), w ∈ ax_tb := ax_w3 (ax_m7 62 (by decide +kernel) rfl) (ax_m1 10 (by decide +kernel) rfl) (ax_m7 63 (by decide +kernel) rfl)
theorem Mo_done_ds : yX9_done.cls ≠ "java/lang/invoke/MethodHandle" ∧ yX9_done.cls ≠ "java/lang/invoke/VarHandle" ∧ (parseMethodDescriptor yX9_done.desc).map (fun d => d.parameters.length) = some 3 := by decide +kernel
def Mo_done_vc : Prop := ∀ (a1 : Int) (a2 : Int) (a3 : Int) (σ : Hp), ax_H σ → Mo_done_pre a1 a2 a3 σ →
  (a1 = 37 →
    (¬ a3 = 0 →
      ¬ a3 = 0 ∧
      Mo_done_post a1 a2 a3 σ (iRem a2 a3) σ) ∧
    (¬ (¬ a3 = 0) →
      Mo_done_post a1 a2 a3 σ 0 σ)) ∧
  (¬ a1 = 37 →
    (a1 = 38 →
    (a2 = 0 →
      Mo_truth_pre 0 σ ∧
      ∀ (r2 : Int) (σ1 : Hp), Mo_truth_post 0 σ r2 σ1 →
      Mo_done_post a1 a2 a3 σ r2 σ1) ∧
    (¬ (a2 = 0) →
      (a3 = 0 →
        Mo_truth_pre 0 σ ∧
        ∀ (r4 : Int) (σ3 : Hp), Mo_truth_post 0 σ r4 σ3 →
        Mo_done_post a1 a2 a3 σ r4 σ3) ∧
      (¬ (a3 = 0) →
        Mo_truth_pre 1 σ ∧
        ∀ (r6 : Int) (σ5 : Hp), Mo_truth_post 1 σ r6 σ5 →
        Mo_done_post a1 a2 a3 σ r6 σ5))) ∧
  (¬ a1 = 38 →
    (a1 = 39 →
    (¬ a2 = 0 →
      Mo_truth_pre 1 σ ∧
      ∀ (r8 : Int) (σ7 : Hp), Mo_truth_post 1 σ r8 σ7 →
      Mo_done_post a1 a2 a3 σ r8 σ7) ∧
    (¬ (¬ a2 = 0) →
      (a3 = 0 →
        Mo_truth_pre 0 σ ∧
        ∀ (r10 : Int) (σ9 : Hp), Mo_truth_post 0 σ r10 σ9 →
        Mo_done_post a1 a2 a3 σ r10 σ9) ∧
      (¬ (a3 = 0) →
        Mo_truth_pre 1 σ ∧
        ∀ (r12 : Int) (σ11 : Hp), Mo_truth_post 1 σ r12 σ11 →
        Mo_done_post a1 a2 a3 σ r12 σ11))) ∧
  (¬ a1 = 39 →
    (a1 = 40 →
    (¬ a2 = 0 →
      Mo_truth_pre 1 σ ∧
      ∀ (r14 : Int) (σ13 : Hp), Mo_truth_post 1 σ r14 σ13 →
      Mo_done_post a1 a2 a3 σ r14 σ13) ∧
    (¬ (¬ a2 = 0) →
      (a3 = 0 →
        Mo_truth_pre 0 σ ∧
        ∀ (r16 : Int) (σ15 : Hp), Mo_truth_post 0 σ r16 σ15 →
        Mo_done_post a1 a2 a3 σ r16 σ15) ∧
      (¬ (a3 = 0) →
        Mo_truth_pre 1 σ ∧
        ∀ (r18 : Int) (σ17 : Hp), Mo_truth_post 1 σ r18 σ17 →
        Mo_done_post a1 a2 a3 σ r18 σ17))) ∧
  (¬ a1 = 40 →
    (a1 = 41 →
    (¬ a2 = 0 →
      Mo_truth_pre 1 σ ∧
      ∀ (r20 : Int) (σ19 : Hp), Mo_truth_post 1 σ r20 σ19 →
      Mo_done_post a1 a2 a3 σ r20 σ19) ∧
    (¬ (¬ a2 = 0) →
      (a3 = 0 →
        Mo_truth_pre 0 σ ∧
        ∀ (r22 : Int) (σ21 : Hp), Mo_truth_post 0 σ r22 σ21 →
        Mo_done_post a1 a2 a3 σ r22 σ21) ∧
      (¬ (a3 = 0) →
        Mo_truth_pre 1 σ ∧
        ∀ (r24 : Int) (σ23 : Hp), Mo_truth_post 1 σ r24 σ23 →
        Mo_done_post a1 a2 a3 σ r24 σ23))) ∧
  (¬ a1 = 41 →
    (a1 = 42 →
    Mo_done_post a1 a2 a3 σ (wr (a2 * a3)) σ) ∧
  (¬ a1 = 42 →
    (a1 = 43 →
    Mo_done_post a1 a2 a3 σ (wr (a2 + a3)) σ) ∧
  (¬ a1 = 43 →
    (a1 = 44 →
    (¬ a2 = 0 →
      Mo_truth_pre 1 σ ∧
      ∀ (r26 : Int) (σ25 : Hp), Mo_truth_post 1 σ r26 σ25 →
      Mo_done_post a1 a2 a3 σ r26 σ25) ∧
    (¬ (¬ a2 = 0) →
      (a3 = 0 →
        Mo_truth_pre 0 σ ∧
        ∀ (r28 : Int) (σ27 : Hp), Mo_truth_post 0 σ r28 σ27 →
        Mo_done_post a1 a2 a3 σ r28 σ27) ∧
      (¬ (a3 = 0) →
        Mo_truth_pre 1 σ ∧
        ∀ (r30 : Int) (σ29 : Hp), Mo_truth_post 1 σ r30 σ29 →
        Mo_done_post a1 a2 a3 σ r30 σ29))) ∧
  (¬ a1 = 44 →
    (a1 = 45 →
    Mo_done_post a1 a2 a3 σ (wr (a2 - a3)) σ) ∧
  (¬ a1 = 45 →
    (a1 = 46 →
    (¬ a2 = 0 →
      Mo_truth_pre 1 σ ∧
      ∀ (r32 : Int) (σ31 : Hp), Mo_truth_post 1 σ r32 σ31 →
      Mo_done_post a1 a2 a3 σ r32 σ31) ∧
    (¬ (¬ a2 = 0) →
      (a3 = 0 →
        Mo_truth_pre 0 σ ∧
        ∀ (r34 : Int) (σ33 : Hp), Mo_truth_post 0 σ r34 σ33 →
        Mo_done_post a1 a2 a3 σ r34 σ33) ∧
      (¬ (a3 = 0) →
        Mo_truth_pre 1 σ ∧
        ∀ (r36 : Int) (σ35 : Hp), Mo_truth_post 1 σ r36 σ35 →
        Mo_done_post a1 a2 a3 σ r36 σ35))) ∧
  (¬ a1 = 46 →
    (a1 = 47 →
    (¬ a3 = 0 →
      ¬ a3 = 0 ∧
      Mo_done_post a1 a2 a3 σ (iDiv a2 a3) σ) ∧
    (¬ (¬ a3 = 0) →
      Mo_done_post a1 a2 a3 σ 0 σ)) ∧
  (¬ a1 = 47 →
    (a1 = 48 →
    (¬ a2 = 0 →
      Mo_truth_pre 1 σ ∧
      ∀ (r38 : Int) (σ37 : Hp), Mo_truth_post 1 σ r38 σ37 →
      Mo_done_post a1 a2 a3 σ r38 σ37) ∧
    (¬ (¬ a2 = 0) →
      (a3 = 0 →
        Mo_truth_pre 0 σ ∧
        ∀ (r40 : Int) (σ39 : Hp), Mo_truth_post 0 σ r40 σ39 →
        Mo_done_post a1 a2 a3 σ r40 σ39) ∧
      (¬ (a3 = 0) →
        Mo_truth_pre 1 σ ∧
        ∀ (r42 : Int) (σ41 : Hp), Mo_truth_post 1 σ r42 σ41 →
        Mo_done_post a1 a2 a3 σ r42 σ41))) ∧
  (¬ a1 = 48 →
    (a1 = 49 →
    (¬ a2 = 0 →
      Mo_truth_pre 1 σ ∧
      ∀ (r44 : Int) (σ43 : Hp), Mo_truth_post 1 σ r44 σ43 →
      Mo_done_post a1 a2 a3 σ r44 σ43) ∧
    (¬ (¬ a2 = 0) →
      (a3 = 0 →
        Mo_truth_pre 0 σ ∧
        ∀ (r46 : Int) (σ45 : Hp), Mo_truth_post 0 σ r46 σ45 →
        Mo_done_post a1 a2 a3 σ r46 σ45) ∧
      (¬ (a3 = 0) →
        Mo_truth_pre 1 σ ∧
        ∀ (r48 : Int) (σ47 : Hp), Mo_truth_post 1 σ r48 σ47 →
        Mo_done_post a1 a2 a3 σ r48 σ47))) ∧
  (¬ a1 = 49 →
    (a1 = 50 →
    (¬ a2 = 0 →
      Mo_truth_pre 1 σ ∧
      ∀ (r50 : Int) (σ49 : Hp), Mo_truth_post 1 σ r50 σ49 →
      Mo_done_post a1 a2 a3 σ r50 σ49) ∧
    (¬ (¬ a2 = 0) →
      (a3 = 0 →
        Mo_truth_pre 0 σ ∧
        ∀ (r52 : Int) (σ51 : Hp), Mo_truth_post 0 σ r52 σ51 →
        Mo_done_post a1 a2 a3 σ r52 σ51) ∧
      (¬ (a3 = 0) →
        Mo_truth_pre 1 σ ∧
        ∀ (r54 : Int) (σ53 : Hp), Mo_truth_post 1 σ r54 σ53 →
        Mo_done_post a1 a2 a3 σ r54 σ53))) ∧
  (¬ a1 = 50 →
    (a1 = 51 →
    (¬ a2 = 0 →
      Mo_truth_pre 1 σ ∧
      ∀ (r56 : Int) (σ55 : Hp), Mo_truth_post 1 σ r56 σ55 →
      Mo_done_post a1 a2 a3 σ r56 σ55) ∧
    (¬ (¬ a2 = 0) →
      (a3 = 0 →
        Mo_truth_pre 0 σ ∧
        ∀ (r58 : Int) (σ57 : Hp), Mo_truth_post 0 σ r58 σ57 →
        Mo_done_post a1 a2 a3 σ r58 σ57) ∧
      (¬ (a3 = 0) →
        Mo_truth_pre 1 σ ∧
        ∀ (r60 : Int) (σ59 : Hp), Mo_truth_post 1 σ r60 σ59 →
        Mo_done_post a1 a2 a3 σ r60 σ59))) ∧
  (¬ a1 = 51 →
    (a1 = 52 →
    (¬ a2 = 0 →
      Mo_truth_pre 1 σ ∧
      ∀ (r62 : Int) (σ61 : Hp), Mo_truth_post 1 σ r62 σ61 →
      Mo_done_post a1 a2 a3 σ r62 σ61) ∧
    (¬ (¬ a2 = 0) →
      (a3 = 0 →
        Mo_truth_pre 0 σ ∧
        ∀ (r64 : Int) (σ63 : Hp), Mo_truth_post 0 σ r64 σ63 →
        Mo_done_post a1 a2 a3 σ r64 σ63) ∧
      (¬ (a3 = 0) →
        Mo_truth_pre 1 σ ∧
        ∀ (r66 : Int) (σ65 : Hp), Mo_truth_post 1 σ r66 σ65 →
        Mo_done_post a1 a2 a3 σ r66 σ65))) ∧
  (¬ a1 = 52 →
    (a1 = 53 →
    (¬ a2 = 0 →
      Mo_truth_pre 1 σ ∧
      ∀ (r68 : Int) (σ67 : Hp), Mo_truth_post 1 σ r68 σ67 →
      Mo_done_post a1 a2 a3 σ r68 σ67) ∧
    (¬ (¬ a2 = 0) →
      (a3 = 0 →
        Mo_truth_pre 0 σ ∧
        ∀ (r70 : Int) (σ69 : Hp), Mo_truth_post 0 σ r70 σ69 →
        Mo_done_post a1 a2 a3 σ r70 σ69) ∧
      (¬ (a3 = 0) →
        Mo_truth_pre 1 σ ∧
        ∀ (r72 : Int) (σ71 : Hp), Mo_truth_post 1 σ r72 σ71 →
        Mo_done_post a1 a2 a3 σ r72 σ71))) ∧
  (¬ a1 = 53 →
    (a1 = 54 →
    (¬ a2 = 0 →
      Mo_truth_pre 1 σ ∧
      ∀ (r74 : Int) (σ73 : Hp), Mo_truth_post 1 σ r74 σ73 →
      Mo_done_post a1 a2 a3 σ r74 σ73) ∧
    (¬ (¬ a2 = 0) →
      (a3 = 0 →
        Mo_truth_pre 0 σ ∧
        ∀ (r76 : Int) (σ75 : Hp), Mo_truth_post 0 σ r76 σ75 →
        Mo_done_post a1 a2 a3 σ r76 σ75) ∧
      (¬ (a3 = 0) →
        Mo_truth_pre 1 σ ∧
        ∀ (r78 : Int) (σ77 : Hp), Mo_truth_post 1 σ r78 σ77 →
        Mo_done_post a1 a2 a3 σ r78 σ77))) ∧
  (¬ a1 = 54 →
    (a1 = 55 →
    (¬ a2 = 0 →
      Mo_truth_pre 1 σ ∧
      ∀ (r80 : Int) (σ79 : Hp), Mo_truth_post 1 σ r80 σ79 →
      Mo_done_post a1 a2 a3 σ r80 σ79) ∧
    (¬ (¬ a2 = 0) →
      (a3 = 0 →
        Mo_truth_pre 0 σ ∧
        ∀ (r82 : Int) (σ81 : Hp), Mo_truth_post 0 σ r82 σ81 →
        Mo_done_post a1 a2 a3 σ r82 σ81) ∧
      (¬ (a3 = 0) →
        Mo_truth_pre 1 σ ∧
        ∀ (r84 : Int) (σ83 : Hp), Mo_truth_post 1 σ r84 σ83 →
        Mo_done_post a1 a2 a3 σ r84 σ83))) ∧
  (¬ a1 = 55 →
    (a1 = 56 →
    (¬ a2 = 0 →
      Mo_truth_pre 1 σ ∧
      ∀ (r86 : Int) (σ85 : Hp), Mo_truth_post 1 σ r86 σ85 →
      Mo_done_post a1 a2 a3 σ r86 σ85) ∧
    (¬ (¬ a2 = 0) →
      (a3 = 0 →
        Mo_truth_pre 0 σ ∧
        ∀ (r88 : Int) (σ87 : Hp), Mo_truth_post 0 σ r88 σ87 →
        Mo_done_post a1 a2 a3 σ r88 σ87) ∧
      (¬ (a3 = 0) →
        Mo_truth_pre 1 σ ∧
        ∀ (r90 : Int) (σ89 : Hp), Mo_truth_post 1 σ r90 σ89 →
        Mo_done_post a1 a2 a3 σ r90 σ89))) ∧
  (¬ a1 = 56 →
    (a1 = 57 →
    (¬ a2 = 0 →
      Mo_truth_pre 1 σ ∧
      ∀ (r92 : Int) (σ91 : Hp), Mo_truth_post 1 σ r92 σ91 →
      Mo_done_post a1 a2 a3 σ r92 σ91) ∧
    (¬ (¬ a2 = 0) →
      (a3 = 0 →
        Mo_truth_pre 0 σ ∧
        ∀ (r94 : Int) (σ93 : Hp), Mo_truth_post 0 σ r94 σ93 →
        Mo_done_post a1 a2 a3 σ r94 σ93) ∧
      (¬ (a3 = 0) →
        Mo_truth_pre 1 σ ∧
        ∀ (r96 : Int) (σ95 : Hp), Mo_truth_post 1 σ r96 σ95 →
        Mo_done_post a1 a2 a3 σ r96 σ95))) ∧
  (¬ a1 = 57 →
    (a1 = 58 →
    (¬ a2 = 0 →
      Mo_truth_pre 1 σ ∧
      ∀ (r98 : Int) (σ97 : Hp), Mo_truth_post 1 σ r98 σ97 →
      Mo_done_post a1 a2 a3 σ r98 σ97) ∧
    (¬ (¬ a2 = 0) →
      (a3 = 0 →
        Mo_truth_pre 0 σ ∧
        ∀ (r100 : Int) (σ99 : Hp), Mo_truth_post 0 σ r100 σ99 →
        Mo_done_post a1 a2 a3 σ r100 σ99) ∧
      (¬ (a3 = 0) →
        Mo_truth_pre 1 σ ∧
        ∀ (r102 : Int) (σ101 : Hp), Mo_truth_post 1 σ r102 σ101 →
        Mo_done_post a1 a2 a3 σ r102 σ101))) ∧
  (¬ a1 = 58 →
    (a1 = 59 →
    (¬ a2 = 0 →
      Mo_truth_pre 1 σ ∧
      ∀ (r104 : Int) (σ103 : Hp), Mo_truth_post 1 σ r104 σ103 →
      Mo_done_post a1 a2 a3 σ r104 σ103) ∧
    (¬ (¬ a2 = 0) →
      (a3 = 0 →
        Mo_truth_pre 0 σ ∧
        ∀ (r106 : Int) (σ105 : Hp), Mo_truth_post 0 σ r106 σ105 →
        Mo_done_post a1 a2 a3 σ r106 σ105) ∧
      (¬ (a3 = 0) →
        Mo_truth_pre 1 σ ∧
        ∀ (r108 : Int) (σ107 : Hp), Mo_truth_post 1 σ r108 σ107 →
        Mo_done_post a1 a2 a3 σ r108 σ107))) ∧
  (¬ a1 = 59 →
    (a1 = 60 →
    (a3 ≤ a2 →
      Mo_truth_pre 0 σ ∧
      ∀ (r110 : Int) (σ109 : Hp), Mo_truth_post 0 σ r110 σ109 →
      Mo_done_post a1 a2 a3 σ r110 σ109) ∧
    (¬ (a3 ≤ a2) →
      Mo_truth_pre 1 σ ∧
      ∀ (r112 : Int) (σ111 : Hp), Mo_truth_post 1 σ r112 σ111 →
      Mo_done_post a1 a2 a3 σ r112 σ111)) ∧
  (¬ a1 = 60 →
    (a1 = 61 →
    (¬ a2 = a3 →
      Mo_truth_pre 0 σ ∧
      ∀ (r114 : Int) (σ113 : Hp), Mo_truth_post 0 σ r114 σ113 →
      Mo_done_post a1 a2 a3 σ r114 σ113) ∧
    (¬ (¬ a2 = a3) →
      Mo_truth_pre 1 σ ∧
      ∀ (r116 : Int) (σ115 : Hp), Mo_truth_post 1 σ r116 σ115 →
      Mo_done_post a1 a2 a3 σ r116 σ115)) ∧
  (¬ a1 = 61 →
    (a1 = 62 →
    (a2 ≤ a3 →
      Mo_truth_pre 0 σ ∧
      ∀ (r118 : Int) (σ117 : Hp), Mo_truth_post 0 σ r118 σ117 →
      Mo_done_post a1 a2 a3 σ r118 σ117) ∧
    (¬ (a2 ≤ a3) →
      Mo_truth_pre 1 σ ∧
      ∀ (r120 : Int) (σ119 : Hp), Mo_truth_post 1 σ r120 σ119 →
      Mo_done_post a1 a2 a3 σ r120 σ119)) ∧
  (¬ a1 = 62 →
    (¬ a2 = 0 →
      Mo_truth_pre 1 σ ∧
      ∀ (r122 : Int) (σ121 : Hp), Mo_truth_post 1 σ r122 σ121 →
      Mo_done_post a1 a2 a3 σ r122 σ121) ∧
    (¬ (¬ a2 = 0) →
      (a3 = 0 →
        Mo_truth_pre 0 σ ∧
        ∀ (r124 : Int) (σ123 : Hp), Mo_truth_post 0 σ r124 σ123 →
        Mo_done_post a1 a2 a3 σ r124 σ123) ∧
      (¬ (a3 = 0) →
        Mo_truth_pre 1 σ ∧
        ∀ (r126 : Int) (σ125 : Hp), Mo_truth_post 1 σ r126 σ125 →
        Mo_done_post a1 a2 a3 σ r126 σ125))))))))))))))))))))))))))))
theorem jn_or {a x y : Int} (h1 : ¬ a = 43) (h2 : ¬ a = 45) (h3 : ¬ a = 42) (h4 : ¬ a = 47) (h5 : ¬ a = 37) (h6 : ¬ a = 60) (h7 : ¬ a = 62) (h8 : ¬ a = 61) (h9 : ¬ a = 38) : jn (cso a) x y = if ¬ x = 0 ∨ ¬ y = 0 then 1 else 0 := by
  unfold cso
  rw [if_neg h1, if_neg h2, if_neg h3, if_neg h4, if_neg h5, if_neg h6, if_neg h7, if_neg h8, if_neg h9]
  unfold jn
  rw [if_pos rfl]
set_option maxHeartbeats 8000000 in
theorem Mo_done_p : Mo_done_vc := by
  intro a x y σ hH hp
  have key : ∀ c, c = jn (cso a) x y → Mo_done_post a x y σ c σ := fun c h => ⟨rfl, h⟩
  have kt : ∀ (b r : Int) (σ' : Hp), Mo_truth_post b σ r σ' → ∀ c, (if b = 0 then (0 : Int) else 1) = c → c = jn (cso a) x y → Mo_done_post a x y σ r σ' := by
    rintro b r σ' ⟨rfl, rfl⟩ c rfl h
    exact ⟨rfl, h⟩
  have tp1 : ∀ b, Mo_truth_pre b σ := fun _ => trivial
  have or1 : ¬ a = 43 → ¬ a = 45 → ¬ a = 42 → ¬ a = 47 → ¬ a = 37 → ¬ a = 60 → ¬ a = 62 → ¬ a = 61 → ¬ a = 38 → (¬ x = 0 → Mo_truth_pre 1 σ ∧ ∀ (r : Int) (σ' : Hp), Mo_truth_post 1 σ r σ' → Mo_done_post a x y σ r σ') ∧ (¬ (¬ x = 0) → (y = 0 → Mo_truth_pre 0 σ ∧ ∀ (r : Int) (σ' : Hp), Mo_truth_post 0 σ r σ' → Mo_done_post a x y σ r σ') ∧ (¬ (y = 0) → Mo_truth_pre 1 σ ∧ ∀ (r : Int) (σ' : Hp), Mo_truth_post 1 σ r σ' → Mo_done_post a x y σ r σ')) := by
    intro h1 h2 h3 h4 h5 h6 h7 h8 h9
    have e := jn_or (x := x) (y := y) h1 h2 h3 h4 h5 h6 h7 h8 h9
    refine ⟨fun hx => ⟨trivial, fun r σ' g => kt 1 r σ' g 1 rfl ?_⟩, fun hx => ⟨fun hy => ⟨trivial, fun r σ' g => kt 0 r σ' g 0 rfl ?_⟩, fun hy => ⟨trivial, fun r σ' g => kt 1 r σ' g 1 rfl ?_⟩⟩⟩
    · rw [e, if_pos (Or.inl hx)]
    · rw [e, if_neg (fun z => z.elim hx (fun w => w hy))]
    · rw [e, if_pos (Or.inr hy)]
  have orc : ∀ v : Int, ¬ v = 43 → ¬ v = 45 → ¬ v = 42 → ¬ v = 47 → ¬ v = 37 → ¬ v = 60 → ¬ v = 62 → ¬ v = 61 → ¬ v = 38 → a = v → _ := fun v h1 h2 h3 h4 h5 h6 h7 h8 h9 e => or1 (e ▸ h1) (e ▸ h2) (e ▸ h3) (e ▸ h4) (e ▸ h5) (e ▸ h6) (e ▸ h7) (e ▸ h8) (e ▸ h9)
  refine ⟨fun h => ?_, fun n37 => ⟨fun h => ?_, fun n38 => ⟨fun h => ?_, fun n39 => ⟨fun h => ?_, fun n40 => ⟨fun h => ?_, fun n41 => ⟨fun h => ?_, fun n42 => ⟨fun h => ?_, fun n43 => ⟨fun h => ?_, fun n44 => ⟨fun h => ?_, fun n45 => ⟨fun h => ?_, fun n46 => ⟨fun h => ?_, fun n47 => ⟨fun h => ?_, fun n48 => ⟨fun h => ?_, fun n49 => ⟨fun h => ?_, fun n50 => ⟨fun h => ?_, fun n51 => ⟨fun h => ?_, fun n52 => ⟨fun h => ?_, fun n53 => ⟨fun h => ?_, fun n54 => ⟨fun h => ?_, fun n55 => ⟨fun h => ?_, fun n56 => ⟨fun h => ?_, fun n57 => ⟨fun h => ?_, fun n58 => ⟨fun h => ?_, fun n59 => ⟨fun h => ?_, fun n60 => ⟨fun h => ?_, fun n61 => ⟨fun h => ?_, fun n62 => ?_⟩⟩⟩⟩⟩⟩⟩⟩⟩⟩⟩⟩⟩⟩⟩⟩⟩⟩⟩⟩⟩⟩⟩⟩⟩⟩
  · subst h; exact ⟨fun hy => ⟨hy, key _ (by show _ = (if y = 0 then 0 else iRem x y); rw [if_neg hy])⟩, fun hy => key _ (by show _ = (if y = 0 then 0 else iRem x y); rw [if_pos (Classical.not_not.mp hy)])⟩
  · subst h
    refine ⟨fun hx => ⟨trivial, fun r σ' g => kt 0 r σ' g 0 rfl ?_⟩, fun hx => ⟨fun hy => ⟨trivial, fun r σ' g => kt 0 r σ' g 0 rfl ?_⟩, fun hy => ⟨trivial, fun r σ' g => kt 1 r σ' g 1 rfl ?_⟩⟩⟩
    · show _ = (if ¬ x = 0 ∧ ¬ y = 0 then 1 else 0); rw [if_neg (fun z => z.1 hx)]
    · show _ = (if ¬ x = 0 ∧ ¬ y = 0 then 1 else 0); rw [if_neg (fun z => z.2 hy)]
    · show _ = (if ¬ x = 0 ∧ ¬ y = 0 then 1 else 0); rw [if_pos ⟨hx, hy⟩]
  · exact orc 39 (by decide) (by decide) (by decide) (by decide) (by decide) (by decide) (by decide) (by decide) (by decide) h
  · exact orc 40 (by decide) (by decide) (by decide) (by decide) (by decide) (by decide) (by decide) (by decide) (by decide) h
  · exact orc 41 (by decide) (by decide) (by decide) (by decide) (by decide) (by decide) (by decide) (by decide) (by decide) h
  · subst h; exact key _ rfl
  · subst h; exact key _ rfl
  · exact orc 44 (by decide) (by decide) (by decide) (by decide) (by decide) (by decide) (by decide) (by decide) (by decide) h
  · subst h; exact key _ rfl
  · exact orc 46 (by decide) (by decide) (by decide) (by decide) (by decide) (by decide) (by decide) (by decide) (by decide) h
  · subst h; exact ⟨fun hy => ⟨hy, key _ (by show _ = (if y = 0 then 0 else iDiv x y); rw [if_neg hy])⟩, fun hy => key _ (by show _ = (if y = 0 then 0 else iDiv x y); rw [if_pos (Classical.not_not.mp hy)])⟩
  · exact orc 48 (by decide) (by decide) (by decide) (by decide) (by decide) (by decide) (by decide) (by decide) (by decide) h
  · exact orc 49 (by decide) (by decide) (by decide) (by decide) (by decide) (by decide) (by decide) (by decide) (by decide) h
  · exact orc 50 (by decide) (by decide) (by decide) (by decide) (by decide) (by decide) (by decide) (by decide) (by decide) h
  · exact orc 51 (by decide) (by decide) (by decide) (by decide) (by decide) (by decide) (by decide) (by decide) (by decide) h
  · exact orc 52 (by decide) (by decide) (by decide) (by decide) (by decide) (by decide) (by decide) (by decide) (by decide) h
  · exact orc 53 (by decide) (by decide) (by decide) (by decide) (by decide) (by decide) (by decide) (by decide) (by decide) h
  · exact orc 54 (by decide) (by decide) (by decide) (by decide) (by decide) (by decide) (by decide) (by decide) (by decide) h
  · exact orc 55 (by decide) (by decide) (by decide) (by decide) (by decide) (by decide) (by decide) (by decide) (by decide) h
  · exact orc 56 (by decide) (by decide) (by decide) (by decide) (by decide) (by decide) (by decide) (by decide) (by decide) h
  · exact orc 57 (by decide) (by decide) (by decide) (by decide) (by decide) (by decide) (by decide) (by decide) (by decide) h
  · exact orc 58 (by decide) (by decide) (by decide) (by decide) (by decide) (by decide) (by decide) (by decide) (by decide) h
  · exact orc 59 (by decide) (by decide) (by decide) (by decide) (by decide) (by decide) (by decide) (by decide) (by decide) h
  · subst h
    refine ⟨fun hx => ⟨trivial, fun r σ' g => kt 0 r σ' g 0 rfl ?_⟩, fun hx => ⟨trivial, fun r σ' g => kt 1 r σ' g 1 rfl ?_⟩⟩
    · show _ = (if x < y then 1 else 0); rw [if_neg (by omega)]
    · show _ = (if x < y then 1 else 0); rw [if_pos (by omega)]
  · subst h
    refine ⟨fun hx => ⟨trivial, fun r σ' g => kt 0 r σ' g 0 rfl ?_⟩, fun hx => ⟨trivial, fun r σ' g => kt 1 r σ' g 1 rfl ?_⟩⟩
    · show _ = (if x = y then 1 else 0); rw [if_neg hx]
    · show _ = (if x = y then 1 else 0); rw [if_pos (Classical.not_not.mp hx)]
  · subst h
    refine ⟨fun hx => ⟨trivial, fun r σ' g => kt 0 r σ' g 0 rfl ?_⟩, fun hx => ⟨trivial, fun r σ' g => kt 1 r σ' g 1 rfl ?_⟩⟩
    · show _ = (if y < x then 1 else 0); rw [if_neg (by omega)]
    · show _ = (if y < x then 1 else 0); rw [if_pos (by omega)]
  · exact or1 n43 n45 n42 n47 n37 n60 n62 n61 n38
def Mo_done_I : List AV → Hp → Nat → Nat → List AV → List AV → Hp → Prop := fun as σ0 pc n st ls σ => (match as with
    | [.inl a1, .inl a2, .inl a3] => False
    | _ => False)
def Mo_done_ct : Nat → Ct := fun n => match n with
  | 0 => Mo_truth_cs
  | _ => Mo_done_cs
set_option maxRecDepth 20000 in
set_option maxHeartbeats 4000000 in
theorem Mo_done_met {l : Launch} {D : va_G} {ad : Nat → Nat} {ca : Nat → ClassId} {L : Nat} {fx : Nat → Int} : ax_MC l D ad ca L fx yX9_done cX9_done 3 (some .int) 2 Mo_done_cs := by
  refine ax_met (oc := 9) (ct := Mo_done_ct) (calls := Mo_done_cl) (bs := Mo_done_bk) (cut := fun pc => false) (f := 27) (I := Mo_done_I) (by decide) rfl rfl Mo_done_ck (List.forall_mem_cons.mpr ⟨ax_cwS Mo_truth_met (by decide) (by decide) (ax_m7 58 (by decide +kernel) rfl) Mo_truth_w rfl Mo_truth_ds, fun _ h => absurd h List.not_mem_nil⟩) ?_ ?_
  · intro as σ0 hp hH
    match as, hp with
    | [.inl a1, .inl a2, .inl a3], hp => exact ⟨rfl, Mo_done_p a1 a2 a3 σ0 hH hp⟩
  · intro as σ0 hp n pc st ls σ hH hI
    match as, hp, hI with
    | [.inl a1, .inl a2, .inl a3], hp, hI => exact False.elim hI
-- the air
def AP (σ : Hp) : Prop := MF σ ∧ OKs 100000 (airM σ) ∧ VN (σ 67 42).toNat (airM σ)
theorem air_c {σ : Hp} {j : Nat} (hj : j < 6) : (airM σ).1 j = σ 91 j := by
  show tr 6 (fun j => σ 91 (0 + j)) j = _
  rw [tr_in hj, Nat.zero_add]
theorem air_k {σ : Hp} {j : Nat} (hj : j < 6) : (airM σ).2.1 j = σ 91 (6 + j) := by
  show tr 6 (fun j => σ 91 (0 + 6 + j)) j = _
  rw [tr_in hj]
theorem knw_N {n : Nat} {s : Sta} (h : VN n s) (hn : n ≤ 6) (p : Nat) : knw s p = sm s.1 (s.2.1 p) n := by
  unfold knw
  refine sm_none hn (fun j h1 h2 => ?_)
  cases z : bt (s.2.1 p) j with
  | false => rfl
  | true => have := (h.2.1 p j z).2.1; omega
def Mo_knownTo_pre (k : Nat) (a : Int) (σ : Hp) : Prop := k = 67 ∧ 0 ≤ a ∧ a < 6 ∧ AP σ
def Mo_knownTo_post (_k : Nat) (a : Int) (σ : Hp) (r : Int) (σ' : Hp) : Prop := σ' = σ ∧ r = knw (airM σ) a.toNat
def Mo_knownTo_I4 (_k : Nat) (a : Int) (σ0 : Hp) (n : Nat) (v2 v3 : Int) (σ : Hp) : Prop := ∃ i : Nat, v3 = i ∧ (i : Int) ≤ σ0 67 42 ∧ n = 6 - i ∧ σ = σ0 ∧ v2 = sm (airM σ0).1 ((airM σ0).2.1 a.toNat) i
def Mo_knownTo_bk : List (Nat × List Item) := [(0, [(.iconst 0, 1, [], []), (.istore_n 2, 1, [], []), (.iconst 0, 1, [], []), (.istore_n 3, 1, [], [])]),
  (4, [(.iload_n 3, 1, [], []), (.aload_n 0, 1, [], []), (.getfield 304, 3, [9, 42, 0, 0, 0, 0], []), (.if_icmp .ge 39, 3, [48], []), (.iload_n 2, 1, [], []), (.aload_n 0, 1, [], []), (.getfield 88, 3, [9, 47, 4, 24, 1, 16], []), (.bipush 6, 2, [], []), (.iload_n 1, 1, [], []), (.iadd, 1, [], []), (.iaload, 1, [], []), (.iload_n 3, 1, [], []), (.ishr, 1, [], []), (.iconst 1, 1, [], []), (.iand, 1, [], []), (.iconst 1, 1, [], []), (.if_icmp .ne 12, 3, [39], []), (.aload_n 0, 1, [], []), (.getfield 88, 3, [9, 47, 4, 24, 1, 16], []), (.iload_n 3, 1, [], []), (.iaload, 1, [], []), (.goto 4, 3, [40], [])]),
  (39, [(.iconst 0, 1, [], [])]),
  (40, [(.iadd, 1, [], []), (.istore_n 2, 1, [], []), (.iinc 3 1, 3, [], []), (.goto (-41), 3, [4], [])]),
  (48, [(.iload_n 2, 1, [], []), (.ireturn, 1, [], [])])]
def Mo_knownTo_cl : List (Instr × Nat) := []
set_option maxRecDepth 20000 in
theorem Mo_knownTo_ck : Mo_knownTo_bk.all (fun b => ax_chB 9 4 cX9_knownTo Mo_knownTo_cl b.1 b.2) = true := by decide +kernel
def Mo_knownTo_cs : Ct := (2, 10, 1, (0, 0), fun as σ => (match as with
    | [.inr (.inr (.inl (k, 0, 9))), .inl a1] => Mo_knownTo_pre k a1 σ
    | _ => False), fun as σ r σ' => (match as with
    | [.inr (.inr (.inl (k, 0, 9))), .inl a1] => Mo_knownTo_post k a1 σ r σ'
    | _ => False))
theorem Mo_knownTo_w : ∀ w ∈ ([.instanceMethod yX9_knownTo, .selects yX9_knownTo.cls yX9_knownTo yX9_knownTo, .initialized yX9_knownTo.cls, .code yX9_knownTo cX9_knownTo 4 (some .int)] : List Cond), w ∈ ax_tb := ax_w4 (ax_m7 52 (by decide +kernel) rfl) (ax_m0 37 (by decide +kernel) rfl) (ax_m1 10 (by decide +kernel) rfl) (ax_m7 53 (by decide +kernel) rfl)
theorem Mo_knownTo_ds : yX9_knownTo.cls ≠ "java/lang/invoke/MethodHandle" ∧ yX9_knownTo.cls ≠ "java/lang/invoke/VarHandle" ∧ (parseMethodDescriptor yX9_knownTo.desc).map (fun d => d.parameters.length) = some 1 := by decide +kernel
def Mo_knownTo_vc : Prop := ∀ (k : Nat) (a1 : Int) (σ : Hp), ax_H σ → Mo_knownTo_pre k a1 σ →
  ∃ n' : Nat, k = k ∧ a1 = a1 ∧ Mo_knownTo_I4 k a1 σ n' 0 0 σ
def Mo_knownTo_vc4 : Prop := ∀ (k : Nat) (a1 : Int) (σ0 : Hp), Mo_knownTo_pre k a1 σ0 → ∀ (n : Nat) (v2 : Int) (v3 : Int) (σ : Hp), ax_H σ → Mo_knownTo_I4 k a1 σ0 n v2 v3 σ →
  (σ k 42 ≤ v3 →
    Mo_knownTo_post k a1 σ0 v2 σ) ∧
  (¬ (σ k 42 ≤ v3) →
    (0 ≤ wr (6 + a1) ∧ wr (6 + a1) < 16) ∧
    (¬ iAnd (iShr (σ (k + 24) (wr (6 + a1)).toNat) v3) 1 = 1 →
      ∃ n' : Nat, n' < n ∧ k = k ∧ a1 = a1 ∧ Mo_knownTo_I4 k a1 σ0 n' (wr (v2 + 0)) (wr (v3 + 1)) σ) ∧
    (¬ (¬ iAnd (iShr (σ (k + 24) (wr (6 + a1)).toNat) v3) 1 = 1) →
      (0 ≤ v3 ∧ v3 < 16) ∧
      ∃ n' : Nat, n' < n ∧ k = k ∧ a1 = a1 ∧ Mo_knownTo_I4 k a1 σ0 n' (wr (v2 + (σ (k + 24) v3.toNat))) (wr (v3 + 1)) σ))
theorem Mo_knownTo_p : Mo_knownTo_vc := by
  intro k a σ hH hp
  obtain ⟨rfl, a0, a6, hA⟩ := hp
  exact ⟨6, rfl, rfl, 0, rfl, hA.1.1.1, rfl, rfl, rfl⟩
theorem Mo_knownTo_p4 : Mo_knownTo_vc4 := by
  intro k a σ0 hp n v2 v3 σ hH hI
  obtain ⟨rfl, a0, a6, hA⟩ := hp
  obtain ⟨i, rfl, hi, rfl, rfl, rfl⟩ := hI
  obtain ⟨hM, hok, hV⟩ := hA
  have hn := hM.1
  have ea : (wr (6 + a)).toNat = 6 + a.toNat := by rw [wr_id (by omega) (by omega)]; omega
  have ek : σ (67 + 24) (wr (6 + a)).toNat = (airM σ).2.1 a.toNat := by rw [ea]; exact (air_k (by omega)).symm
  have hk := hok.2.1 a.toNat
  have hs := sm_R (c := (airM σ).1) (x := (airM σ).2.1 a.toNat) (n := i) (fun j _ => hok.1 j)
  refine ⟨fun h => ⟨rfl, ?_⟩, fun h => ⟨by rw [wr_id (by omega) (by omega)]; omega, ?_⟩⟩
  · rw [knw_N hV (by omega), show (σ 67 42).toNat = i by omega]
  · rw [ek, bit_01 hk.1 (by omega) (by omega) (by omega), Int.toNat_natCast, wr1 (by omega) (by omega)]
    have ec : σ (67 + 24) i = (airM σ).1 i := (air_c (by omega)).symm
    have hc := hok.1 i
    rw [ec]
    refine ⟨fun h2 => ⟨6 - (i + 1), by omega, rfl, rfl, i + 1, by simp, by omega, rfl, rfl, ?_⟩, fun h2 => ⟨⟨by omega, by omega⟩, 6 - (i + 1), by omega, rfl, rfl, i + 1, by simp, by omega, rfl, rfl, ?_⟩⟩
    · rw [sm_s, if_neg h2, wr_id (by omega) (by omega)]
    · rw [sm_s, if_pos (Classical.not_not.mp h2), wr_id (by omega) (by omega)]
def Mo_knownTo_I : List AV → Hp → Nat → Nat → List AV → List AV → Hp → Prop := fun as σ0 pc n st ls σ => (match as with
    | [.inr (.inr (.inl (k, 0, 9))), .inl a1] => (bif Nat.beq pc 4 then (match st, ls with
      | [], [.inr (.inr (.inl (k', 0, 9))), .inl a1', .inl v2, .inl v3] => k = k' ∧ a1 = a1' ∧ Mo_knownTo_I4 k a1 σ0 n v2 v3 σ
      | _, _ => False) else False)
    | _ => False)
def Mo_knownTo_ct : Nat → Ct := fun n => match n with
  | _ => Mo_knownTo_cs
set_option maxRecDepth 20000 in
set_option maxHeartbeats 4000000 in
theorem Mo_knownTo_met {l : Launch} {D : va_G} {ad : Nat → Nat} {ca : Nat → ClassId} {L : Nat} {fx : Nat → Int} : ax_MC l D ad ca L fx yX9_knownTo cX9_knownTo 4 (some .int) 1 Mo_knownTo_cs := by
  refine ax_met (oc := 9) (ct := Mo_knownTo_ct) (calls := Mo_knownTo_cl) (bs := Mo_knownTo_bk) (cut := fun pc => Nat.beq pc 4) (f := 6) (I := Mo_knownTo_I) (by decide) rfl rfl Mo_knownTo_ck (fun _ h => absurd h List.not_mem_nil) ?_ ?_
  · intro as σ0 hp hH
    match as, hp with
    | [.inr (.inr (.inl (k, 0, 9))), .inl a1], hp => exact ⟨rfl, Mo_knownTo_p k a1 σ0 hH hp⟩
  · intro as σ0 hp n pc st ls σ hH hI
    match as, hp, hI with
    | [.inr (.inr (.inl (k, 0, 9))), .inl a1], hp, hI =>
      rcases ax_bifE hI with ⟨hpc, hI⟩ | ⟨-, hI⟩
      · have := Nat.eq_of_beq_eq_true hpc
        subst this
        match st, ls, hI with
        | [], [.inr (.inr (.inl (k', 0, 9))), .inl a1', .inl v2, .inl v3], hI =>
          obtain ⟨rfl, rfl, hI⟩ := hI
          exact Mo_knownTo_p4 k a1 σ0 hp n v2 v3 σ hH hI
      exact False.elim hI
/-- what is asked for of one -/
def env_p (σ : Hp) (p : Nat) : Nat → Int := env5 ((airM σ).1 p) (knw (airM σ) p) (if (airM σ).2.2.1 = (p : Int) then 1 else 0) (σ 85 p) (airM σ).2.2.2.1
def Mo_worked_pre (k : Nat) (a b _c : Int) (σ : Hp) : Prop := k = 67 ∧ (a = 0 ∨ a = 1) ∧ 0 ≤ b ∧ b < 6 ∧ AP σ
def Mo_worked_post (_k : Nat) (a b c : Int) (σ : Hp) (r : Int) (σ' : Hp) : Prop := Fr [77, 79] σ σ' ∧ r = if σ 75 a.toNat = 0 then c else fval (frM σ a.toNat) (env_p σ b.toNat)
def Mo_worked_I90 (_k : Nat) (a b c : Int) (σ0 : Hp) (n : Nat) (v4 v5 : Int) (σ : Hp) : Prop := ∃ i : Nat, (i : Int) ≤ σ0 75 a.toNat ∧ v5 = 320 * a + i ∧ v4 = (tp (frM σ0 a.toNat).2.2 i : Nat) ∧ n = 300 - i ∧ Fr [77, 79] σ0 σ ∧ (∀ j, j < 5 → σ 79 j = env_p σ0 b.toNat j) ∧ (∀ j, j < tp (frM σ0 a.toNat).2.2 i → σ 77 j = ev (frM σ0 a.toNat).2.2 (env_p σ0 b.toNat) i j) ∧ (i = 0 → σ 77 0 = c)
def Mo_worked_bk : List (Nat × List Item) := [(0, [(.aload_n 0, 1, [], []), (.getfield 49, 3, [9, 26, 4, 12, 1, 5], []), (.iconst 0, 1, [], []), (.aload_n 0, 1, [], []), (.getfield 88, 3, [9, 47, 4, 24, 1, 16], []), (.iload_n 2, 1, [], []), (.iaload, 1, [], []), (.iastore, 1, [], []), (.aload_n 0, 1, [], []), (.getfield 49, 3, [9, 26, 4, 12, 1, 5], []), (.iconst 1, 1, [], []), (.aload_n 0, 1, [], []), (.iload_n 2, 1, [], []), (.invokevirtual 307, 3, [0], []), (.iastore, 1, [], []), (.aload_n 0, 1, [], []), (.getfield 49, 3, [9, 26, 4, 12, 1, 5], []), (.iconst 2, 1, [], []), (.aload_n 0, 1, [], []), (.getfield 88, 3, [9, 47, 4, 24, 1, 16], []), (.bipush 12, 2, [], []), (.iaload, 1, [], []), (.iload_n 2, 1, [], []), (.if_icmp .ne 7, 3, [43], []), (.iconst 1, 1, [], []), (.goto 4, 3, [44], [])]),
  (43, [(.iconst 0, 1, [], [])]),
  (44, [(.invokestatic 300, 3, [1], []), (.iastore, 1, [], []), (.aload_n 0, 1, [], []), (.getfield 49, 3, [9, 26, 4, 12, 1, 5], []), (.iconst 3, 1, [], []), (.aload_n 0, 1, [], []), (.getfield 67, 3, [9, 32, 4, 18, 1, 6], []), (.iload_n 2, 1, [], []), (.iaload, 1, [], []), (.iastore, 1, [], []), (.aload_n 0, 1, [], []), (.getfield 49, 3, [9, 26, 4, 12, 1, 5], []), (.iconst 4, 1, [], []), (.aload_n 0, 1, [], []), (.getfield 88, 3, [9, 47, 4, 24, 1, 16], []), (.bipush 14, 2, [], []), (.iaload, 1, [], []), (.iastore, 1, [], []), (.iconst 0, 1, [], []), (.istore 4, 2, [], []), (.aload_n 0, 1, [], []), (.getfield 42, 3, [9, 18, 4, 10, 1, 64], []), (.iconst 0, 1, [], []), (.iload_n 3, 1, [], []), (.iastore, 1, [], []), (.sipush 320, 3, [], []), (.iload_n 1, 1, [], []), (.imul, 1, [], []), (.istore 5, 2, [], [])]),
  (90, [(.iload 5, 2, [], []), (.sipush 320, 3, [], []), (.iload_n 1, 1, [], []), (.imul, 1, [], []), (.aload_n 0, 1, [], []), (.getfield 36, 3, [9, 16, 4, 8, 1, 2], []), (.iload_n 1, 1, [], []), (.iaload, 1, [], []), (.iadd, 1, [], []), (.if_icmp .ge 156, 3, [260], []), (.aload_n 0, 1, [], []), (.getfield 30, 3, [9, 14, 4, 6, 1, 640], []), (.iload 5, 2, [], []), (.iaload, 1, [], []), (.ifCond .eq 14, 3, [128], []), (.aload_n 0, 1, [], []), (.getfield 30, 3, [9, 14, 4, 6, 1, 640], []), (.iload 5, 2, [], []), (.iaload, 1, [], []), (.iconst 1, 1, [], []), (.if_icmp .ne 48, 3, [173], [])]),
  (128, [(.aload_n 0, 1, [], []), (.getfield 42, 3, [9, 18, 4, 10, 1, 64], []), (.iload 4, 2, [], []), (.aload_n 0, 1, [], []), (.getfield 30, 3, [9, 14, 4, 6, 1, 640], []), (.iload 5, 2, [], []), (.iaload, 1, [], []), (.ifCond .ne 13, 3, [154], []), (.aload_n 0, 1, [], []), (.getfield 33, 3, [9, 15, 4, 7, 1, 640], []), (.iload 5, 2, [], []), (.iaload, 1, [], []), (.goto 15, 3, [166], [])]),
  (154, [(.aload_n 0, 1, [], []), (.getfield 49, 3, [9, 26, 4, 12, 1, 5], []), (.aload_n 0, 1, [], []), (.getfield 33, 3, [9, 15, 4, 7, 1, 640], []), (.iload 5, 2, [], []), (.iaload, 1, [], []), (.iaload, 1, [], [])]),
  (166, [(.iastore, 1, [], []), (.iinc 4 1, 3, [], []), (.goto 84, 3, [254], [])]),
  (173, [(.aload_n 0, 1, [], []), (.getfield 30, 3, [9, 14, 4, 6, 1, 640], []), (.iload 5, 2, [], []), (.iaload, 1, [], []), (.iconst 2, 1, [], []), (.if_icmp .ne 35, 3, [216], []), (.aload_n 0, 1, [], []), (.getfield 42, 3, [9, 18, 4, 10, 1, 64], []), (.iload 4, 2, [], []), (.iconst 1, 1, [], []), (.isub, 1, [], []), (.aload_n 0, 1, [], []), (.getfield 42, 3, [9, 18, 4, 10, 1, 64], []), (.iload 4, 2, [], []), (.iconst 1, 1, [], []), (.isub, 1, [], []), (.iaload, 1, [], []), (.ifCond .ne 7, 3, [208], []), (.iconst 1, 1, [], []), (.goto 4, 3, [209], [])]),
  (208, [(.iconst 0, 1, [], [])]),
  (209, [(.invokestatic 300, 3, [1], []), (.iastore, 1, [], []), (.goto 41, 3, [254], [])]),
  (216, [(.iinc 4 (-1), 3, [], []), (.aload_n 0, 1, [], []), (.getfield 42, 3, [9, 18, 4, 10, 1, 64], []), (.iload 4, 2, [], []), (.iconst 1, 1, [], []), (.isub, 1, [], []), (.aload_n 0, 1, [], []), (.getfield 33, 3, [9, 15, 4, 7, 1, 640], []), (.iload 5, 2, [], []), (.iaload, 1, [], []), (.aload_n 0, 1, [], []), (.getfield 42, 3, [9, 18, 4, 10, 1, 64], []), (.iload 4, 2, [], []), (.iconst 1, 1, [], []), (.isub, 1, [], []), (.iaload, 1, [], []), (.aload_n 0, 1, [], []), (.getfield 42, 3, [9, 18, 4, 10, 1, 64], []), (.iload 4, 2, [], []), (.iaload, 1, [], []), (.invokestatic 310, 3, [2], []), (.iastore, 1, [], [])]),
  (254, [(.iinc 5 1, 3, [], []), (.goto (-167), 3, [90], [])]),
  (260, [(.aload_n 0, 1, [], []), (.getfield 42, 3, [9, 18, 4, 10, 1, 64], []), (.iconst 0, 1, [], []), (.iaload, 1, [], []), (.ireturn, 1, [], [])])]
def Mo_worked_cl : List (Instr × Nat) := [(.invokevirtual 307, 0), (.invokestatic 300, 1), (.invokestatic 310, 2)]
set_option maxRecDepth 20000 in
theorem Mo_worked_ck : Mo_worked_bk.all (fun b => ax_chB 9 6 cX9_worked Mo_worked_cl b.1 b.2) = true := by decide +kernel
def Mo_worked_cs : Ct := (4, 10, 1, (0, 0), fun as σ => (match as with
    | [.inr (.inr (.inl (k, 0, 9))), .inl a1, .inl a2, .inl a3] => Mo_worked_pre k a1 a2 a3 σ
    | _ => False), fun as σ r σ' => (match as with
    | [.inr (.inr (.inl (k, 0, 9))), .inl a1, .inl a2, .inl a3] => Mo_worked_post k a1 a2 a3 σ r σ'
    | _ => False))
theorem Mo_worked_w : ∀ w ∈ ([.instanceMethod yX9_worked, .selects yX9_worked.cls yX9_worked yX9_worked, .initialized yX9_worked.cls, .code yX9_worked cX9_worked 6 (some .int)] : List Cond), w ∈ ax_tb := ax_w4 (ax_m7 56 (by decide +kernel) rfl) (ax_m0 38 (by decide +kernel) rfl) (ax_m1 10 (by decide +kernel) rfl) (ax_m7 57 (by decide +kernel) rfl)
theorem Mo_worked_ds : yX9_worked.cls ≠ "java/lang/invoke/MethodHandle" ∧ yX9_worked.cls ≠ "java/lang/invoke/VarHandle" ∧ (parseMethodDescriptor yX9_worked.desc).map (fun d => d.parameters.length) = some 3 := by decide +kernel
def Mo_worked_vc : Prop := ∀ (k : Nat) (a1 : Int) (a2 : Int) (a3 : Int) (σ : Hp), ax_H σ → Mo_worked_pre k a1 a2 a3 σ →
  (0 ≤ a2 ∧ a2 < 16) ∧
  (0 ≤ (0 : Int) ∧ (0 : Int) < 5) ∧
  ∀ σ1 : Hp, σ1 = hp σ (k + 12) 0 (σ (k + 24) a2.toNat) →
  Mo_knownTo_pre k a2 σ1 ∧
  ∀ (r3 : Int) (σ2 : Hp), Mo_knownTo_post k a2 σ1 r3 σ2 →
  (0 ≤ (1 : Int) ∧ (1 : Int) < 5) ∧
  ∀ σ4 : Hp, σ4 = hp σ2 (k + 12) 1 r3 →
  (0 ≤ (12 : Int) ∧ (12 : Int) < 16) ∧
  (¬ σ4 (k + 24) 12 = a2 →
    Mo_truth_pre 0 σ4 ∧
    ∀ (r6 : Int) (σ5 : Hp), Mo_truth_post 0 σ4 r6 σ5 →
    (0 ≤ (2 : Int) ∧ (2 : Int) < 5) ∧
    ∀ σ7 : Hp, σ7 = hp σ5 (k + 12) 2 r6 →
    (0 ≤ a2 ∧ a2 < 6) ∧
    (0 ≤ (3 : Int) ∧ (3 : Int) < 5) ∧
    ∀ σ8 : Hp, σ8 = hp σ7 (k + 12) 3 (σ7 (k + 18) a2.toNat) →
    (0 ≤ (14 : Int) ∧ (14 : Int) < 16) ∧
    (0 ≤ (4 : Int) ∧ (4 : Int) < 5) ∧
    ∀ σ9 : Hp, σ9 = hp σ8 (k + 12) 4 (σ8 (k + 24) 14) →
    (0 ≤ (0 : Int) ∧ (0 : Int) < 64) ∧
    ∀ σ10 : Hp, σ10 = hp σ9 (k + 10) 0 a3 →
    ∃ n' : Nat, k = k ∧ a1 = a1 ∧ a2 = a2 ∧ a3 = a3 ∧ Mo_worked_I90 k a1 a2 a3 σ n' 0 (wr (320 * a1)) σ10) ∧
  (¬ (¬ σ4 (k + 24) 12 = a2) →
    Mo_truth_pre 1 σ4 ∧
    ∀ (r12 : Int) (σ11 : Hp), Mo_truth_post 1 σ4 r12 σ11 →
    (0 ≤ (2 : Int) ∧ (2 : Int) < 5) ∧
    ∀ σ13 : Hp, σ13 = hp σ11 (k + 12) 2 r12 →
    (0 ≤ a2 ∧ a2 < 6) ∧
    (0 ≤ (3 : Int) ∧ (3 : Int) < 5) ∧
    ∀ σ14 : Hp, σ14 = hp σ13 (k + 12) 3 (σ13 (k + 18) a2.toNat) →
    (0 ≤ (14 : Int) ∧ (14 : Int) < 16) ∧
    (0 ≤ (4 : Int) ∧ (4 : Int) < 5) ∧
    ∀ σ15 : Hp, σ15 = hp σ14 (k + 12) 4 (σ14 (k + 24) 14) →
    (0 ≤ (0 : Int) ∧ (0 : Int) < 64) ∧
    ∀ σ16 : Hp, σ16 = hp σ15 (k + 10) 0 a3 →
    ∃ n' : Nat, k = k ∧ a1 = a1 ∧ a2 = a2 ∧ a3 = a3 ∧ Mo_worked_I90 k a1 a2 a3 σ n' 0 (wr (320 * a1)) σ16)
def Mo_worked_vc90 : Prop := ∀ (k : Nat) (a1 : Int) (a2 : Int) (a3 : Int) (σ0 : Hp), Mo_worked_pre k a1 a2 a3 σ0 → ∀ (n : Nat) (v4 : Int) (v5 : Int) (σ : Hp), ax_H σ → Mo_worked_I90 k a1 a2 a3 σ0 n v4 v5 σ →
  (0 ≤ a1 ∧ a1 < 2) ∧
  (wr ((wr (320 * a1)) + (σ (k + 8) a1.toNat)) ≤ v5 →
    (0 ≤ (0 : Int) ∧ (0 : Int) < 64) ∧
    Mo_worked_post k a1 a2 a3 σ0 (σ (k + 10) 0) σ) ∧
  (¬ (wr ((wr (320 * a1)) + (σ (k + 8) a1.toNat)) ≤ v5) →
    (0 ≤ v5 ∧ v5 < 640) ∧
    (σ (k + 6) v5.toNat = 0 →
      (0 ≤ v5 ∧ v5 < 640) ∧
      (¬ σ (k + 6) v5.toNat = 0 →
        (0 ≤ v5 ∧ v5 < 640) ∧
        (0 ≤ σ (k + 7) v5.toNat ∧ σ (k + 7) v5.toNat < 5) ∧
        (0 ≤ v4 ∧ v4 < 64) ∧
        ∀ σ1 : Hp, σ1 = hp σ (k + 10) v4.toNat (σ (k + 12) (σ (k + 7) v5.toNat).toNat) →
        ∃ n' : Nat, n' < n ∧ k = k ∧ a1 = a1 ∧ a2 = a2 ∧ a3 = a3 ∧ Mo_worked_I90 k a1 a2 a3 σ0 n' (wr (v4 + 1)) (wr (v5 + 1)) σ1) ∧
      (¬ (¬ σ (k + 6) v5.toNat = 0) →
        (0 ≤ v5 ∧ v5 < 640) ∧
        (0 ≤ v4 ∧ v4 < 64) ∧
        ∀ σ2 : Hp, σ2 = hp σ (k + 10) v4.toNat (σ (k + 7) v5.toNat) →
        ∃ n' : Nat, n' < n ∧ k = k ∧ a1 = a1 ∧ a2 = a2 ∧ a3 = a3 ∧ Mo_worked_I90 k a1 a2 a3 σ0 n' (wr (v4 + 1)) (wr (v5 + 1)) σ2)) ∧
    (¬ (σ (k + 6) v5.toNat = 0) →
      (0 ≤ v5 ∧ v5 < 640) ∧
      (¬ σ (k + 6) v5.toNat = 1 →
        (0 ≤ v5 ∧ v5 < 640) ∧
        (¬ σ (k + 6) v5.toNat = 2 →
          (0 ≤ v5 ∧ v5 < 640) ∧
          (0 ≤ wr ((wr (v4 + (-1))) - 1) ∧ wr ((wr (v4 + (-1))) - 1) < 64) ∧
          (0 ≤ wr (v4 + (-1)) ∧ wr (v4 + (-1)) < 64) ∧
          Mo_done_pre (σ (k + 7) v5.toNat) (σ (k + 10) (wr ((wr (v4 + (-1))) - 1)).toNat) (σ (k + 10) (wr (v4 + (-1))).toNat) σ ∧
          ∀ (r4 : Int) (σ3 : Hp), Mo_done_post (σ (k + 7) v5.toNat) (σ (k + 10) (wr ((wr (v4 + (-1))) - 1)).toNat) (σ (k + 10) (wr (v4 + (-1))).toNat) σ r4 σ3 →
          (0 ≤ wr ((wr (v4 + (-1))) - 1) ∧ wr ((wr (v4 + (-1))) - 1) < 64) ∧
          ∀ σ5 : Hp, σ5 = hp σ3 (k + 10) (wr ((wr (v4 + (-1))) - 1)).toNat r4 →
          ∃ n' : Nat, n' < n ∧ k = k ∧ a1 = a1 ∧ a2 = a2 ∧ a3 = a3 ∧ Mo_worked_I90 k a1 a2 a3 σ0 n' (wr (v4 + (-1))) (wr (v5 + 1)) σ5) ∧
        (¬ (¬ σ (k + 6) v5.toNat = 2) →
          (0 ≤ wr (v4 - 1) ∧ wr (v4 - 1) < 64) ∧
          (¬ σ (k + 10) (wr (v4 - 1)).toNat = 0 →
            Mo_truth_pre 0 σ ∧
            ∀ (r7 : Int) (σ6 : Hp), Mo_truth_post 0 σ r7 σ6 →
            (0 ≤ wr (v4 - 1) ∧ wr (v4 - 1) < 64) ∧
            ∀ σ8 : Hp, σ8 = hp σ6 (k + 10) (wr (v4 - 1)).toNat r7 →
            ∃ n' : Nat, n' < n ∧ k = k ∧ a1 = a1 ∧ a2 = a2 ∧ a3 = a3 ∧ Mo_worked_I90 k a1 a2 a3 σ0 n' v4 (wr (v5 + 1)) σ8) ∧
          (¬ (¬ σ (k + 10) (wr (v4 - 1)).toNat = 0) →
            Mo_truth_pre 1 σ ∧
            ∀ (r10 : Int) (σ9 : Hp), Mo_truth_post 1 σ r10 σ9 →
            (0 ≤ wr (v4 - 1) ∧ wr (v4 - 1) < 64) ∧
            ∀ σ11 : Hp, σ11 = hp σ9 (k + 10) (wr (v4 - 1)).toNat r10 →
            ∃ n' : Nat, n' < n ∧ k = k ∧ a1 = a1 ∧ a2 = a2 ∧ a3 = a3 ∧ Mo_worked_I90 k a1 a2 a3 σ0 n' v4 (wr (v5 + 1)) σ11))) ∧
      (¬ (¬ σ (k + 6) v5.toNat = 1) →
        (0 ≤ v5 ∧ v5 < 640) ∧
        (¬ σ (k + 6) v5.toNat = 0 →
          (0 ≤ v5 ∧ v5 < 640) ∧
          (0 ≤ σ (k + 7) v5.toNat ∧ σ (k + 7) v5.toNat < 5) ∧
          (0 ≤ v4 ∧ v4 < 64) ∧
          ∀ σ12 : Hp, σ12 = hp σ (k + 10) v4.toNat (σ (k + 12) (σ (k + 7) v5.toNat).toNat) →
          ∃ n' : Nat, n' < n ∧ k = k ∧ a1 = a1 ∧ a2 = a2 ∧ a3 = a3 ∧ Mo_worked_I90 k a1 a2 a3 σ0 n' (wr (v4 + 1)) (wr (v5 + 1)) σ12) ∧
        (¬ (¬ σ (k + 6) v5.toNat = 0) →
          (0 ≤ v5 ∧ v5 < 640) ∧
          (0 ≤ v4 ∧ v4 < 64) ∧
          ∀ σ13 : Hp, σ13 = hp σ (k + 10) v4.toNat (σ (k + 7) v5.toNat) →
          ∃ n' : Nat, n' < n ∧ k = k ∧ a1 = a1 ∧ a2 = a2 ∧ a3 = a3 ∧ Mo_worked_I90 k a1 a2 a3 σ0 n' (wr (v4 + 1)) (wr (v5 + 1)) σ13))))
theorem MF.vc {σ : Hp} (h : MF σ) {a : Int} (ha : a = 0 ∨ a = 1) : VCm σ a.toNat ∧ WFm (frM σ a.toNat) := by
  obtain ⟨-, h0, h1, d, hF⟩ := h
  rcases ha with rfl | rfl
  · exact ⟨h0, hF.2.2.2.2.2.2.2.2.1⟩
  · exact ⟨h1, hF.2.2.2.2.2.2.2.2.2⟩
theorem Mo_worked_p : Mo_worked_vc := by
  intro k a b c σ hH hp
  obtain ⟨rfl, ha, b0, b6, hA⟩ := hp
  refine ⟨⟨by omega, by omega⟩, ⟨by decide, by decide⟩, ?_⟩
  rintro σ1 hσ1
  have f1 : Fr [77, 79] σ σ1 := by rw [hσ1]; exact Fr.hp Fr.rf (by simp)
  have e91 : σ1 91 = σ 91 := f1 91 (by decide)
  have hA1 : AP σ1 := by
    have hK := hA.1.keep (σ' := σ1) (by rw [f1 67 (by decide)]) (by rw [f1 67 (by decide)]) (by rw [f1 67 (by decide)]) (fun c hc => f1 c (by simp; omega))
    refine ⟨hK.1, ?_, ?_⟩
    · unfold airM; rw [e91]; exact hA.2.1
    · unfold airM; rw [e91, f1 67 (by decide)]; exact hA.2.2
  refine ⟨⟨rfl, b0, b6, hA1⟩, ?_⟩
  rintro r3 σ2 ⟨rfl, rfl⟩
  refine ⟨⟨by decide, by decide⟩, ?_⟩
  rintro σ4 hσ4
  have e914 : σ4 91 = σ 91 := by rw [hσ4, hp_ne (by decide), e91]
  have eair : airM σ2 = airM σ := by unfold airM; rw [e91]
  refine ⟨⟨by decide, by decide⟩, ?_⟩
  have hair : σ4 (67 + 24) 12 = (airM σ).2.2.1 := by show σ4 91 12 = _; rw [e914]; rfl
  rw [hair]
  have fin : ∀ h : Int, h = (if (airM σ).2.2.1 = ((b.toNat : Nat) : Int) then 1 else 0) → (0 ≤ (2 : Int) ∧ (2 : Int) < 5) ∧ ∀ σ7 : Hp, σ7 = hp σ4 (67 + 12) 2 h → (0 ≤ b ∧ b < 6) ∧ (0 ≤ (3 : Int) ∧ (3 : Int) < 5) ∧ ∀ σ8 : Hp, σ8 = hp σ7 (67 + 12) 3 (σ7 (67 + 18) b.toNat) → (0 ≤ (14 : Int) ∧ (14 : Int) < 16) ∧ (0 ≤ (4 : Int) ∧ (4 : Int) < 5) ∧ ∀ σ9 : Hp, σ9 = hp σ8 (67 + 12) 4 (σ8 (67 + 24) 14) → (0 ≤ (0 : Int) ∧ (0 : Int) < 64) ∧ ∀ σ10 : Hp, σ10 = hp σ9 (67 + 10) 0 c → ∃ n' : Nat, (67 : Nat) = 67 ∧ a = a ∧ b = b ∧ c = c ∧ Mo_worked_I90 67 a b c σ n' 0 (wr (320 * a)) σ10 := by
    intro h hh
    refine ⟨⟨by decide, by decide⟩, ?_⟩
    rintro σ7 hσ7
    refine ⟨⟨b0, b6⟩, ⟨by decide, by decide⟩, ?_⟩
    rintro σ8 hσ8
    refine ⟨⟨by decide, by decide⟩, ⟨by decide, by decide⟩, ?_⟩
    rintro σ9 hσ9
    refine ⟨⟨by decide, by decide⟩, ?_⟩
    rintro σ10 hσ10
    have f10 : Fr [77, 79] σ σ10 := by
      rw [hσ10, hσ9, hσ8, hσ7, hσ4]
      exact Fr.hp (Fr.hp (Fr.hp (Fr.hp (Fr.hp f1 (by simp)) (by simp)) (by simp)) (by simp)) (by simp)
    have e85 : σ7 85 = σ 85 := by rw [hσ7, hp_ne (by decide), hσ4, hp_ne (by decide), f1 85 (by decide)]
    have e918 : σ8 91 = σ 91 := by rw [hσ8, hp_ne (by decide), hσ7, hp_ne (by decide), e914]
    refine ⟨300, rfl, rfl, rfl, rfl, 0, (MF.vc hA.1 ha).1.1.1, by rw [wr_id (by omega) (by omega)]; simp, rfl, rfl, f10, fun j hj => ?_, fun j hj => absurd hj (Nat.not_lt_zero j), fun _ => by rw [hσ10]; exact hp_r1⟩
    unfold env_p env5
    have n79 : σ10 79 = σ9 79 := by rw [hσ10, hp_ne (by decide)]
    rw [n79]
    rcases (show j = 0 ∨ j = 1 ∨ j = 2 ∨ j = 3 ∨ j = 4 by omega) with rfl | rfl | rfl | rfl | rfl
    · rw [if_pos rfl, hσ9, hp_r2 (by decide), hσ8, hp_r2 (by decide), hσ7, hp_r2 (by decide), hσ4, hp_r2 (by decide), hσ1]
      show hp σ 79 0 _ 79 0 = _
      rw [hp_r1]; exact (air_c (by omega)).symm
    · rw [if_neg (by decide), if_pos rfl, hσ9, hp_r2 (by decide), hσ8, hp_r2 (by decide), hσ7, hp_r2 (by decide), hσ4]
      show hp σ2 79 1 _ 79 1 = _
      rw [hp_r1, eair]
    · rw [if_neg (by decide), if_neg (by decide), if_pos rfl, hσ9, hp_r2 (by decide), hσ8, hp_r2 (by decide), hσ7]
      show hp σ4 79 2 h 79 2 = _
      rw [hp_r1, hh]
    · rw [if_neg (by decide), if_neg (by decide), if_neg (by decide), if_pos rfl, hσ9, hp_r2 (by decide), hσ8]
      show hp σ7 79 3 (σ7 85 b.toNat) 79 3 = _
      rw [hp_r1, e85]
    · rw [if_neg (by decide), if_neg (by decide), if_neg (by decide), if_neg (by decide), hσ9]
      show hp σ8 79 4 (σ8 91 14) 79 4 = _
      rw [hp_r1, e918]; rfl
  refine ⟨fun h => ⟨trivial, ?_⟩, fun h => ⟨trivial, ?_⟩⟩
  · rintro r6 σ5 ⟨rfl, rfl⟩
    exact fin 0 (by rw [if_neg]; rw [← e_nat b0]; exact h)
  · rintro r6 σ5 ⟨rfl, rfl⟩
    exact fin 1 (by rw [if_pos]; rw [← e_nat b0]; exact Classical.not_not.mp h)
theorem Mo_worked_p90 : Mo_worked_vc90 := by
  intro k a b c σ0 hp n v4 v5 σ hH hI
  obtain ⟨rfl, ha, b0, b6, hA⟩ := hp
  obtain ⟨i, hi, rfl, rfl, rfl, hf, hasks, hv, hz⟩ := hI
  obtain ⟨hVC, hWF⟩ := hA.1.vc ha
  obtain ⟨⟨l0, l1⟩, hst⟩ := hVC
  have e73 : σ (67 + 6) = σ0 73 := hf 73 (by decide)
  have e74 : σ (67 + 7) = σ0 74 := hf 74 (by decide)
  have e75 : σ (67 + 8) = σ0 75 := hf 75 (by decide)
  have ew : wr (320 * a) = 320 * a := wr_id (by omega) (by omega)
  rw [ew, e73, e74, e75]
  generalize hlen : (σ0 75 a.toNat).toNat = len at *
  have hl : σ0 75 a.toNat = (len : Int) := by omega
  rw [wr_id (by omega) (by omega), hl]
  generalize hq : frM σ0 a.toNat = q at *
  have q1 : q.1 = if σ0 75 a.toNat = 0 then 0 else 1 := by rw [← hq]; rfl
  have q2 : q.2.1 = len := by rw [← hq, ← hlen]; rfl
  have q3 : ∀ j, j < len → q.2.2 j = cod (σ0 73 (320 * a.toNat + j)) (σ0 74 (320 * a.toNat + j)) := by
    intro j hj
    rw [← hq]
    show tr (σ0 75 a.toNat).toNat (codM σ0 a.toNat) j = _
    rw [hlen, tr_in hj]; rfl
  generalize hen : env_p σ0 b.toNat = en at *
  have ei : (320 * a + (i : Int)).toNat = 320 * a.toNat + i := by omega
  have wf : ¬ len = 0 → wfc q.2.2 len ∧ 1 ≤ tp q.2.2 len := by
    intro z
    rcases hWF with w | w
    · rw [q2] at w; exact absurd w.2 z
    · rw [q2] at w; exact w.2.2
  have hil : i ≤ len := by omega
  refine ⟨⟨by omega, by omega⟩, fun h => ⟨⟨by decide, by decide⟩, hf, ?_⟩, fun h => ⟨⟨by omega, by omega⟩, ?_⟩⟩
  · have e : i = len := by omega
    show σ 77 0 = _
    by_cases z : len = 0
    · rw [if_pos (by rw [hl, z]; rfl)]; exact hz (by omega)
    · rw [if_neg (by rw [hl]; omega), hv 0 (by rw [e]; have := (wf z).2; omega), hq]
      unfold fval
      rw [q2, e, hen]
  · have hi1 : i < len := by omega
    obtain ⟨w1, w2⟩ := wf (by omega)
    have hwi := w1 i hi1
    have htl := tp_le w1 i hil
    have hci := q3 i hi1
    rw [ei]
    have hvi := hst i (by omega)
    have go : ∀ (σ1 : Hp) (v : Int), v = (tp q.2.2 (i + 1) : Nat) → Fr [77, 79] σ0 σ1 → σ1 79 = σ 79 → (∀ j, j < tp q.2.2 (i + 1) → σ1 77 j = ev q.2.2 en (i + 1) j) → ∃ n' : Nat, n' < 300 - i ∧ (67 : Nat) = 67 ∧ a = a ∧ b = b ∧ c = c ∧ Mo_worked_I90 67 a b c σ0 n' v (wr (320 * a + (i : Int) + 1)) σ1 := by
      intro σ1 v hv1 hf1 h79 h77
      refine ⟨300 - (i + 1), by omega, rfl, rfl, rfl, rfl, i + 1, by omega, by rw [wr_id (by omega) (by omega)]; omega, ?_, rfl, hf1, fun j hj => by rw [h79, hen]; exact hasks j hj, ?_, fun z => by omega⟩
      · rw [hq]; exact hv1
      · rw [hq, hen]; exact h77
    have push : ∀ x : Int, -5 ≤ q.2.2 i → x = (if 0 ≤ q.2.2 i then q.2.2 i else en (-1 - q.2.2 i).toNat) → (0 ≤ ((tp q.2.2 i : Nat) : Int) ∧ ((tp q.2.2 i : Nat) : Int) < 64) ∧ ∀ σ1 : Hp, σ1 = hp σ (67 + 10) ((tp q.2.2 i : Nat) : Int).toNat x → ∃ n' : Nat, n' < 300 - i ∧ (67 : Nat) = 67 ∧ a = a ∧ b = b ∧ c = c ∧ Mo_worked_I90 67 a b c σ0 n' (wr (((tp q.2.2 i : Nat) : Int) + 1)) (wr (320 * a + (i : Int) + 1)) σ1 := by
      intro x hx hxv
      have et : tp q.2.2 (i + 1) = tp q.2.2 i + 1 := by rw [tp_s, if_pos hx]
      refine ⟨⟨by omega, by omega⟩, ?_⟩
      rintro σ1 rfl
      rw [Int.toNat_natCast]
      refine go _ _ (by rw [et, wr1 (by omega) (by omega)]; simp) (Fr.hp hf (by simp)) (hp_ne (by decide)) ?_
      intro j hj
      rw [et] at hj
      rw [ev_s, if_pos hx, show (67 + 10 : Nat) = 77 from rfl, hp_rd]
      unfold va_up
      by_cases hj2 : j = tp q.2.2 i
      · rw [if_pos ⟨rfl, hj2⟩, if_pos hj2, hxv]
      · rw [if_neg (fun z => hj2 z.2), if_neg hj2]; exact hv j (by omega)
    have hst0 : σ0 73 (320 * a.toNat + i) = 0 → -5 ≤ q.2.2 i ∧ q.2.2 i = σ0 74 (320 * a.toNat + i) ∧ 0 ≤ q.2.2 i := by
      intro z
      have e : q.2.2 i = σ0 74 (320 * a.toNat + i) := by rw [hci]; unfold cod; rw [if_pos z]
      have : 0 ≤ σ0 74 (320 * a.toNat + i) := by omega
      omega
    refine ⟨fun s0 => ⟨⟨by omega, by omega⟩, fun z => absurd s0 z, fun _ => ⟨⟨by omega, by omega⟩, ?_⟩⟩, fun s0 => ⟨⟨by omega, by omega⟩, fun s1 => ⟨⟨by omega, by omega⟩, fun s2 => ⟨⟨by omega, by omega⟩, ?_⟩, fun s2 => ?_⟩, fun s1 => ⟨⟨by omega, by omega⟩, fun _ => ⟨⟨by omega, by omega⟩, ?_⟩, fun z => absurd s0 z⟩⟩⟩
    · obtain ⟨p1, p2, p3⟩ := hst0 s0
      exact push _ p1 (by rw [if_pos p3]; exact p2.symm)
    · have s3 : σ0 73 (320 * a.toNat + i) = 3 := by omega
      have hx : q.2.2 i = cso (σ0 74 (320 * a.toNat + i)) := by rw [hci]; unfold cod; rw [if_neg s0, if_neg s1, if_neg s2]
      have hr := cso_R (σ0 74 (320 * a.toNat + i))
      have ht2 := hwi.2.2.2 (by omega)
      have et : tp q.2.2 (i + 1) = tp q.2.2 i - 1 := by rw [tp_s, if_neg (by omega), if_neg (by omega)]
      have e1 : wr (((tp q.2.2 i : Nat) : Int) + (-1)) = ((tp q.2.2 i - 1 : Nat) : Int) := by unfold wr; omega
      have e2 : wr (((tp q.2.2 i - 1 : Nat) : Int) - 1) = ((tp q.2.2 i - 2 : Nat) : Int) := by unfold wr; omega
      rw [e1, e2, Int.toNat_natCast, Int.toNat_natCast]
      refine ⟨⟨by omega, by omega⟩, ⟨by omega, by omega⟩, trivial, ?_⟩
      rintro r4 σ3 ⟨rfl, rfl⟩
      refine ⟨⟨by omega, by omega⟩, ?_⟩
      rintro σ5 rfl
      refine go _ ((tp q.2.2 i - 1 : Nat) : Int) (by rw [et]) (Fr.hp hf (by simp)) (hp_ne (by decide)) ?_
      intro j hj
      rw [et] at hj
      rw [ev_s, if_neg (by omega), if_neg (by omega), show (67 + 10 : Nat) = 77 from rfl, hp_rd]
      unfold va_up
      by_cases hj2 : j = tp q.2.2 i - 2
      · rw [if_pos ⟨rfl, hj2⟩, if_pos hj2, hv _ (by omega), hv _ (by omega), hx]
      · rw [if_neg (fun z => hj2 z.2), if_neg hj2]; exact hv j (by omega)
    · have s2' := Classical.not_not.mp s2
      have hx : q.2.2 i = -6 := by rw [hci]; unfold cod; rw [if_neg s0, if_neg s1, if_pos s2']
      have ht1 := hwi.2.2.1 hx
      have et : tp q.2.2 (i + 1) = tp q.2.2 i := by rw [tp_s, if_neg (by omega), if_pos hx]
      have e1 : wr (((tp q.2.2 i : Nat) : Int) - 1) = ((tp q.2.2 i - 1 : Nat) : Int) := by unfold wr; omega
      rw [e1, Int.toNat_natCast]
      have ev1 : ∀ (v : Int), v = (if σ 77 (tp q.2.2 i - 1) = 0 then 1 else 0) → ∀ j, j < tp q.2.2 (i + 1) → hp σ (67 + 10) (tp q.2.2 i - 1) v 77 j = ev q.2.2 en (i + 1) j := by
        intro v hv1 j hj
        rw [et] at hj
        rw [ev_s, if_neg (by omega), if_pos hx, show (67 + 10 : Nat) = 77 from rfl, hp_rd]
        unfold va_up
        by_cases hj2 : j = tp q.2.2 i - 1
        · rw [if_pos ⟨rfl, hj2⟩, if_pos hj2, hv1, hv _ (by omega)]
        · rw [if_neg (fun z => hj2 z.2), if_neg hj2]; exact hv j (by omega)
      refine ⟨⟨by omega, by omega⟩, fun h8 => ⟨trivial, ?_⟩, fun h8 => ⟨trivial, ?_⟩⟩
      · rintro r7 σ6 ⟨rfl, rfl⟩
        refine ⟨⟨by omega, by omega⟩, ?_⟩
        rintro σ8 rfl
        exact go _ ((tp q.2.2 i : Nat) : Int) (by rw [et]) (Fr.hp hf (by simp)) (hp_ne (by decide)) (ev1 0 (if_neg h8).symm)
      · rintro r7 σ6 ⟨rfl, rfl⟩
        refine ⟨⟨by omega, by omega⟩, ?_⟩
        rintro σ8 rfl
        exact go _ ((tp q.2.2 i : Nat) : Int) (by rw [et]) (Fr.hp hf (by simp)) (hp_ne (by decide)) (ev1 1 (if_pos (Classical.not_not.mp h8)).symm)
    · have s1' := Classical.not_not.mp s1
      have hx : q.2.2 i = -1 - σ0 74 (320 * a.toNat + i) := by rw [hci]; unfold cod; rw [if_neg s0, if_pos s1']
      have hr : 0 ≤ σ0 74 (320 * a.toNat + i) ∧ σ0 74 (320 * a.toNat + i) < 5 := by omega
      refine ⟨⟨hr.1, hr.2⟩, push _ (by omega) ?_⟩
      rw [if_neg (by omega)]
      have : (-1 - q.2.2 i).toNat = (σ0 74 (320 * a.toNat + i)).toNat := by omega
      rw [this]
      exact hasks _ (by omega)
def Mo_worked_I : List AV → Hp → Nat → Nat → List AV → List AV → Hp → Prop := fun as σ0 pc n st ls σ => (match as with
    | [.inr (.inr (.inl (k, 0, 9))), .inl a1, .inl a2, .inl a3] => (bif Nat.beq pc 90 then (match st, ls with
      | [], [.inr (.inr (.inl (k', 0, 9))), .inl a1', .inl a2', .inl a3', .inl v4, .inl v5] => k = k' ∧ a1 = a1' ∧ a2 = a2' ∧ a3 = a3' ∧ Mo_worked_I90 k a1 a2 a3 σ0 n v4 v5 σ
      | _, _ => False) else False)
    | _ => False)
def Mo_worked_ct : Nat → Ct := fun n => match n with
  | 0 => Mo_knownTo_cs
  | 1 => Mo_truth_cs
  | 2 => Mo_done_cs
  | _ => Mo_worked_cs
set_option maxRecDepth 20000 in
set_option maxHeartbeats 4000000 in
theorem Mo_worked_met {l : Launch} {D : va_G} {ad : Nat → Nat} {ca : Nat → ClassId} {L : Nat} {fx : Nat → Int} : ax_MC l D ad ca L fx yX9_worked cX9_worked 6 (some .int) 3 Mo_worked_cs := by
  refine ax_met (oc := 9) (ct := Mo_worked_ct) (calls := Mo_worked_cl) (bs := Mo_worked_bk) (cut := fun pc => Nat.beq pc 90) (f := 14) (I := Mo_worked_I) (by decide) rfl rfl Mo_worked_ck (List.forall_mem_cons.mpr ⟨ax_cwV Mo_knownTo_met (by decide) (by decide) rfl (by decide) rfl (ax_m7 50 (by decide +kernel) rfl) Mo_knownTo_w rfl Mo_knownTo_ds, List.forall_mem_cons.mpr ⟨ax_cwS Mo_truth_met (by decide) (by decide) (ax_m7 58 (by decide +kernel) rfl) Mo_truth_w rfl Mo_truth_ds, List.forall_mem_cons.mpr ⟨ax_cwS Mo_done_met (by decide) (by decide) (ax_m7 61 (by decide +kernel) rfl) Mo_done_w rfl Mo_done_ds, fun _ h => absurd h List.not_mem_nil⟩⟩⟩) ?_ ?_
  · intro as σ0 hp hH
    match as, hp with
    | [.inr (.inr (.inl (k, 0, 9))), .inl a1, .inl a2, .inl a3], hp => exact ⟨rfl, Mo_worked_p k a1 a2 a3 σ0 hH hp⟩
  · intro as σ0 hp n pc st ls σ hH hI
    match as, hp, hI with
    | [.inr (.inr (.inl (k, 0, 9))), .inl a1, .inl a2, .inl a3], hp, hI =>
      rcases ax_bifE hI with ⟨hpc, hI⟩ | ⟨-, hI⟩
      · have := Nat.eq_of_beq_eq_true hpc
        subst this
        match st, ls, hI with
        | [], [.inr (.inr (.inl (k', 0, 9))), .inl a1', .inl a2', .inl a3', .inl v4, .inl v5], hI =>
          obtain ⟨rfl, rfl, rfl, rfl, hI⟩ := hI
          exact Mo_worked_p90 k a1 a2 a3 σ0 hp n v4 v5 σ hH hI
      exact False.elim hI

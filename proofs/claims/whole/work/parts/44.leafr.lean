-- THE READER: its small methods
theorem lCmp_0 {a b : Int} : lCmp a b = 0 ↔ a = b := by
  unfold lCmp
  by_cases h : a < b
  · rw [if_pos h]; constructor
    · intro z; cases z
    · intro z; omega
  · rw [if_neg h]
    by_cases h2 : a = b
    · rw [if_pos h2]; exact ⟨fun _ => h2, fun _ => rfl⟩
    · rw [if_neg h2]; constructor
      · intro z; cases z
      · intro z; exact absurd z h2
/-- the operator at a token, as an item; 0 if there is none -/
def opC (K V : Int) : Int :=
  if K = 1 then (if V = 28530 then -7 else if V = 6385252 then -8 else 0)
  else if K = 3 then (if V = 60 then -9 else if V = 62 then -10 else if V = 61 then -11 else if V = 43 then -12 else if V = 45 then -13 else if V = 42 then -14 else if V = 47 then -15 else if V = 37 then -16 else 0) else 0
def opA (B : Tp) (p : Nat) : Int := opC (tK B p : Nat) (tV B p)
/-- an operator's level -/
def lvl (x : Int) : Int := if x = -7 then 0 else if x = -8 then 1 else if x = -9 ∨ x = -10 ∨ x = -11 then 2 else if x = -12 ∨ x = -13 then 3 else 4
theorem opC_R (K V : Int) : opC K V = 0 ∨ (-16 ≤ opC K V ∧ opC K V ≤ -7) := by
  unfold opC
  repeat' split
  all_goals omega
def jA (B : Tp) (p : Nat) (a : Int) : Int := if ¬ opA B p = 0 ∧ lvl (opA B p) = a then opA B p else 0
def Rd_jointAt_pre (k : Nat) (_a : Int) (_σ : Hp) : Prop := k = 1
def jt (K W S a : Int) : Int := if K = 1 then (if W = 28530 then (if a = 0 then -7 else 0) else if W = 6385252 then (if a = 1 then -8 else 0) else 0) else if K = 3 then
  (if S = 60 then (if a = 2 then -9 else 0) else if S = 62 then (if a = 2 then -10 else 0) else if S = 61 then (if a = 2 then -11 else 0) else if S = 43 then (if a = 3 then -12 else 0) else if S = 45 then (if a = 3 then -13 else 0) else if S = 42 then (if a = 4 then -14 else 0) else if S = 47 then (if a = 4 then -15 else 0) else if S = 37 then (if a = 4 then -16 else 0) else 0) else 0
def Rd_jointAt_post (_k : Nat) (a : Int) (σ : Hp) (r : Int) (σ' : Hp) : Prop := σ' = σ ∧ r = jt (σ 1 5) (σ 1 7) (σ 1 9) a
theorem jt_h {x c a : Int} (hx : ¬ x = 0) : (if a = c then x else 0) = if ¬ x = 0 ∧ c = a then x else 0 := by
  by_cases h : a = c
  · rw [if_pos h, if_pos ⟨hx, h.symm⟩]
  · rw [if_neg h, if_neg (fun z => h z.2.symm)]
theorem jt_z {a : Int} : (0 : Int) = if ¬ (0 : Int) = 0 ∧ lvl 0 = a then 0 else 0 := by split <;> rfl
theorem jt_1 (V S a : Int) : jt 1 V S a = if ¬ opC 1 V = 0 ∧ lvl (opC 1 V) = a then opC 1 V else 0 := by
  by_cases h1 : V = 28530
  · subst h1; exact jt_h (x := -7) (c := 0) (by decide)
  by_cases h2 : V = 6385252
  · subst h2; exact jt_h (x := -8) (c := 1) (by decide)
  have e : opC 1 V = 0 := by unfold opC; rw [if_pos rfl, if_neg h1, if_neg h2]
  have e2 : jt 1 V S a = 0 := by unfold jt; rw [if_pos rfl, if_neg h1, if_neg h2]
  rw [e, e2]; exact jt_z
theorem jt_3 (V S a : Int) : jt 3 V S a = if ¬ opC 3 S = 0 ∧ lvl (opC 3 S) = a then opC 3 S else 0 := by
  by_cases h1 : S = 60
  · subst h1; exact jt_h (x := -9) (c := 2) (by decide)
  by_cases h2 : S = 62
  · subst h2; exact jt_h (x := -10) (c := 2) (by decide)
  by_cases h3 : S = 61
  · subst h3; exact jt_h (x := -11) (c := 2) (by decide)
  by_cases h4 : S = 43
  · subst h4; exact jt_h (x := -12) (c := 3) (by decide)
  by_cases h5 : S = 45
  · subst h5; exact jt_h (x := -13) (c := 3) (by decide)
  by_cases h6 : S = 42
  · subst h6; exact jt_h (x := -14) (c := 4) (by decide)
  by_cases h7 : S = 47
  · subst h7; exact jt_h (x := -15) (c := 4) (by decide)
  by_cases h8 : S = 37
  · subst h8; exact jt_h (x := -16) (c := 4) (by decide)
  have e : opC 3 S = 0 := by unfold opC; rw [if_neg (by decide), if_pos rfl, if_neg h1, if_neg h2, if_neg h3, if_neg h4, if_neg h5, if_neg h6, if_neg h7, if_neg h8]
  have e2 : jt 3 V S a = 0 := by unfold jt; rw [if_neg (by decide), if_pos rfl, if_neg h1, if_neg h2, if_neg h3, if_neg h4, if_neg h5, if_neg h6, if_neg h7, if_neg h8]
  rw [e, e2]; exact jt_z
theorem jt_A {σ : Hp} {B : Tp} {p : Nat} (h : RS σ B p) (a : Int) : jt (σ 1 5) (σ 1 7) (σ 1 9) a = jA B p a := by
  obtain ⟨-, -, -, h5, -, -, h7, -, h9⟩ := h
  unfold jA opA
  rw [h5]
  by_cases k1 : tK B p = 1
  · rw [h7 k1, k1]; exact jt_1 _ _ _
  · by_cases k3 : tK B p = 3
    · rw [h9 k3, k3]; exact jt_3 _ _ _
    · have e : opC ((tK B p : Nat) : Int) (tV B p) = 0 := by unfold opC; rw [if_neg (by omega), if_neg (by omega)]
      have e2 : jt ((tK B p : Nat) : Int) (σ 1 7) (σ 1 9) a = 0 := by unfold jt; rw [if_neg (by omega), if_neg (by omega)]
      rw [e, e2]; exact jt_z
def Rd_jointAt_bk : List (Nat × List Item) := [(0, [(.aload_n 0, 1, [], []), (.getfield 36, 3, [5, 5, 0, 0, 0, 0], []), (.iconst 1, 1, [], []), (.if_icmp .ne 44, 3, [49], []), (.iload_n 1, 1, [], []), (.ifCond .ne 17, 3, [26], []), (.aload_n 0, 1, [], []), (.getfield 60, 3, [5, 7, 2, 0, 0, 0], []), (.ldc2_w 203, 3, [], [(28530, 0)]), (.lcmp, 1, [], []), (.ifCond .ne 6, 3, [26], []), (.bipush (-7), 2, [], []), (.ireturn, 1, [], [])]),
  (26, [(.iload_n 1, 1, [], []), (.iconst 1, 1, [], []), (.if_icmp .ne 19, 3, [47], []), (.aload_n 0, 1, [], []), (.getfield 60, 3, [5, 7, 2, 0, 0, 0], []), (.ldc2_w 205, 3, [], [(6385252, 0)]), (.lcmp, 1, [], []), (.ifCond .ne 8, 3, [47], []), (.bipush (-8), 2, [], []), (.goto 4, 3, [48], [])]),
  (47, [(.iconst 0, 1, [], [])]),
  (48, [(.ireturn, 1, [], [])]),
  (49, [(.aload_n 0, 1, [], []), (.getfield 36, 3, [5, 5, 0, 0, 0, 0], []), (.iconst 3, 1, [], []), (.if_icmp .eq 5, 3, [59], []), (.iconst 0, 1, [], []), (.ireturn, 1, [], [])]),
  (59, [(.aload_n 0, 1, [], []), (.getfield 207, 3, [5, 9, 3, 0, 0, 0], []), (.tableswitch 213 37 62 #[201, 213, 213, 213, 213, 177, 153, 213, 165, 213, 189, 213, 213, 213, 213, 213, 213, 213, 213, 213, 213, 213, 213, 117, 141, 129], 117, [], [(37, 264), (38, 276), (39, 276), (40, 276), (41, 276), (42, 240), (43, 216), (44, 276), (45, 228), (46, 276), (47, 252), (48, 276), (49, 276), (50, 276), (51, 276), (52, 276), (53, 276), (54, 276), (55, 276), (56, 276), (57, 276), (58, 276), (59, 276), (60, 180), (61, 204), (62, 192), (0, 276)])]),
  (180, [(.iload_n 1, 1, [], []), (.iconst 2, 1, [], []), (.if_icmp .ne 8, 3, [190], []), (.bipush (-9), 2, [], []), (.goto 4, 3, [191], [])]),
  (190, [(.iconst 0, 1, [], [])]),
  (191, [(.ireturn, 1, [], [])]),
  (192, [(.iload_n 1, 1, [], []), (.iconst 2, 1, [], []), (.if_icmp .ne 8, 3, [202], []), (.bipush (-10), 2, [], []), (.goto 4, 3, [203], [])]),
  (202, [(.iconst 0, 1, [], [])]),
  (203, [(.ireturn, 1, [], [])]),
  (204, [(.iload_n 1, 1, [], []), (.iconst 2, 1, [], []), (.if_icmp .ne 8, 3, [214], []), (.bipush (-11), 2, [], []), (.goto 4, 3, [215], [])]),
  (214, [(.iconst 0, 1, [], [])]),
  (215, [(.ireturn, 1, [], [])]),
  (216, [(.iload_n 1, 1, [], []), (.iconst 3, 1, [], []), (.if_icmp .ne 8, 3, [226], []), (.bipush (-12), 2, [], []), (.goto 4, 3, [227], [])]),
  (226, [(.iconst 0, 1, [], [])]),
  (227, [(.ireturn, 1, [], [])]),
  (228, [(.iload_n 1, 1, [], []), (.iconst 3, 1, [], []), (.if_icmp .ne 8, 3, [238], []), (.bipush (-13), 2, [], []), (.goto 4, 3, [239], [])]),
  (238, [(.iconst 0, 1, [], [])]),
  (239, [(.ireturn, 1, [], [])]),
  (240, [(.iload_n 1, 1, [], []), (.iconst 4, 1, [], []), (.if_icmp .ne 8, 3, [250], []), (.bipush (-14), 2, [], []), (.goto 4, 3, [251], [])]),
  (250, [(.iconst 0, 1, [], [])]),
  (251, [(.ireturn, 1, [], [])]),
  (252, [(.iload_n 1, 1, [], []), (.iconst 4, 1, [], []), (.if_icmp .ne 8, 3, [262], []), (.bipush (-15), 2, [], []), (.goto 4, 3, [263], [])]),
  (262, [(.iconst 0, 1, [], [])]),
  (263, [(.ireturn, 1, [], [])]),
  (264, [(.iload_n 1, 1, [], []), (.iconst 4, 1, [], []), (.if_icmp .ne 8, 3, [274], []), (.bipush (-16), 2, [], []), (.goto 4, 3, [275], [])]),
  (274, [(.iconst 0, 1, [], [])]),
  (275, [(.ireturn, 1, [], [])]),
  (276, [(.iconst 0, 1, [], []), (.ireturn, 1, [], [])])]
def Rd_jointAt_cl : List (Instr × Nat) := []
set_option maxRecDepth 20000 in
theorem Rd_jointAt_ck : Rd_jointAt_bk.all (fun b => ax_chB 5 2 cX5_jointAt Rd_jointAt_cl b.1 b.2) = true := by decide +kernel
def Rd_jointAt_cs : Ct := (2, 6, 1, (0, 0), fun as σ => (match as with
    | [.inr (.inr (.inl (k, 0, 5))), .inl a1] => Rd_jointAt_pre k a1 σ
    | _ => False), fun as σ r σ' => (match as with
    | [.inr (.inr (.inl (k, 0, 5))), .inl a1] => Rd_jointAt_post k a1 σ r σ'
    | _ => False))
theorem Rd_jointAt_w : ∀ w ∈ ([.instanceMethod yX5_jointAt, .selects yX5_jointAt.cls yX5_jointAt yX5_jointAt, .initialized yX5_jointAt.cls, .code yX5_jointAt cX5_jointAt 2 (some .int)] : List Cond), w ∈ ax_tb := ax_w4 (ax_m3 111 (by decide +kernel) rfl) (ax_m3 112 (by decide +kernel) rfl) (ax_m1 2 (by decide +kernel) rfl) (ax_m3 113 (by decide +kernel) rfl)
theorem Rd_jointAt_ds : yX5_jointAt.cls ≠ "java/lang/invoke/MethodHandle" ∧ yX5_jointAt.cls ≠ "java/lang/invoke/VarHandle" ∧ (parseMethodDescriptor yX5_jointAt.desc).map (fun d => d.parameters.length) = some 1 := by decide +kernel
def Rd_jointAt_vc : Prop := ∀ (k : Nat) (a1 : Int) (σ : Hp), ax_H σ → Rd_jointAt_pre k a1 σ →
  (¬ σ k 5 = 1 →
    (σ k 5 = 3 →
      (σ k 9 = 37 →
        (¬ a1 = 4 →
          Rd_jointAt_post k a1 σ 0 σ) ∧
        (¬ (¬ a1 = 4) →
          Rd_jointAt_post k a1 σ (-16) σ)) ∧
      (¬ σ k 9 = 37 →
        (σ k 9 = 38 →
        Rd_jointAt_post k a1 σ 0 σ) ∧
      (¬ σ k 9 = 38 →
        (σ k 9 = 39 →
        Rd_jointAt_post k a1 σ 0 σ) ∧
      (¬ σ k 9 = 39 →
        (σ k 9 = 40 →
        Rd_jointAt_post k a1 σ 0 σ) ∧
      (¬ σ k 9 = 40 →
        (σ k 9 = 41 →
        Rd_jointAt_post k a1 σ 0 σ) ∧
      (¬ σ k 9 = 41 →
        (σ k 9 = 42 →
        (¬ a1 = 4 →
          Rd_jointAt_post k a1 σ 0 σ) ∧
        (¬ (¬ a1 = 4) →
          Rd_jointAt_post k a1 σ (-14) σ)) ∧
      (¬ σ k 9 = 42 →
        (σ k 9 = 43 →
        (¬ a1 = 3 →
          Rd_jointAt_post k a1 σ 0 σ) ∧
        (¬ (¬ a1 = 3) →
          Rd_jointAt_post k a1 σ (-12) σ)) ∧
      (¬ σ k 9 = 43 →
        (σ k 9 = 44 →
        Rd_jointAt_post k a1 σ 0 σ) ∧
      (¬ σ k 9 = 44 →
        (σ k 9 = 45 →
        (¬ a1 = 3 →
          Rd_jointAt_post k a1 σ 0 σ) ∧
        (¬ (¬ a1 = 3) →
          Rd_jointAt_post k a1 σ (-13) σ)) ∧
      (¬ σ k 9 = 45 →
        (σ k 9 = 46 →
        Rd_jointAt_post k a1 σ 0 σ) ∧
      (¬ σ k 9 = 46 →
        (σ k 9 = 47 →
        (¬ a1 = 4 →
          Rd_jointAt_post k a1 σ 0 σ) ∧
        (¬ (¬ a1 = 4) →
          Rd_jointAt_post k a1 σ (-15) σ)) ∧
      (¬ σ k 9 = 47 →
        (σ k 9 = 48 →
        Rd_jointAt_post k a1 σ 0 σ) ∧
      (¬ σ k 9 = 48 →
        (σ k 9 = 49 →
        Rd_jointAt_post k a1 σ 0 σ) ∧
      (¬ σ k 9 = 49 →
        (σ k 9 = 50 →
        Rd_jointAt_post k a1 σ 0 σ) ∧
      (¬ σ k 9 = 50 →
        (σ k 9 = 51 →
        Rd_jointAt_post k a1 σ 0 σ) ∧
      (¬ σ k 9 = 51 →
        (σ k 9 = 52 →
        Rd_jointAt_post k a1 σ 0 σ) ∧
      (¬ σ k 9 = 52 →
        (σ k 9 = 53 →
        Rd_jointAt_post k a1 σ 0 σ) ∧
      (¬ σ k 9 = 53 →
        (σ k 9 = 54 →
        Rd_jointAt_post k a1 σ 0 σ) ∧
      (¬ σ k 9 = 54 →
        (σ k 9 = 55 →
        Rd_jointAt_post k a1 σ 0 σ) ∧
      (¬ σ k 9 = 55 →
        (σ k 9 = 56 →
        Rd_jointAt_post k a1 σ 0 σ) ∧
      (¬ σ k 9 = 56 →
        (σ k 9 = 57 →
        Rd_jointAt_post k a1 σ 0 σ) ∧
      (¬ σ k 9 = 57 →
        (σ k 9 = 58 →
        Rd_jointAt_post k a1 σ 0 σ) ∧
      (¬ σ k 9 = 58 →
        (σ k 9 = 59 →
        Rd_jointAt_post k a1 σ 0 σ) ∧
      (¬ σ k 9 = 59 →
        (σ k 9 = 60 →
        (¬ a1 = 2 →
          Rd_jointAt_post k a1 σ 0 σ) ∧
        (¬ (¬ a1 = 2) →
          Rd_jointAt_post k a1 σ (-9) σ)) ∧
      (¬ σ k 9 = 60 →
        (σ k 9 = 61 →
        (¬ a1 = 2 →
          Rd_jointAt_post k a1 σ 0 σ) ∧
        (¬ (¬ a1 = 2) →
          Rd_jointAt_post k a1 σ (-11) σ)) ∧
      (¬ σ k 9 = 61 →
        (σ k 9 = 62 →
        (¬ a1 = 2 →
          Rd_jointAt_post k a1 σ 0 σ) ∧
        (¬ (¬ a1 = 2) →
          Rd_jointAt_post k a1 σ (-10) σ)) ∧
      (¬ σ k 9 = 62 →
        Rd_jointAt_post k a1 σ 0 σ))))))))))))))))))))))))))) ∧
    (¬ (σ k 5 = 3) →
      Rd_jointAt_post k a1 σ 0 σ)) ∧
  (¬ (¬ σ k 5 = 1) →
    (¬ a1 = 0 →
      (¬ a1 = 1 →
        Rd_jointAt_post k a1 σ 0 σ) ∧
      (¬ (¬ a1 = 1) →
        (¬ lCmp (σ k 7) 6385252 = 0 →
          Rd_jointAt_post k a1 σ 0 σ) ∧
        (¬ (¬ lCmp (σ k 7) 6385252 = 0) →
          Rd_jointAt_post k a1 σ (-8) σ))) ∧
    (¬ (¬ a1 = 0) →
      (¬ lCmp (σ k 7) 28530 = 0 →
        (¬ a1 = 1 →
          Rd_jointAt_post k a1 σ 0 σ) ∧
        (¬ (¬ a1 = 1) →
          (¬ lCmp (σ k 7) 6385252 = 0 →
            Rd_jointAt_post k a1 σ 0 σ) ∧
          (¬ (¬ lCmp (σ k 7) 6385252 = 0) →
            Rd_jointAt_post k a1 σ (-8) σ))) ∧
      (¬ (¬ lCmp (σ k 7) 28530 = 0) →
        Rd_jointAt_post k a1 σ (-7) σ)))
theorem Rd_jointAt_p : Rd_jointAt_vc := by
  intro k a σ hH hp
  obtain rfl : k = 1 := hp
  have key : ∀ c, c = jt (σ 1 5) (σ 1 7) (σ 1 9) a → Rd_jointAt_post 1 a σ c σ := fun c h => ⟨rfl, h⟩
  simp only [lCmp_0, Classical.not_not]
  generalize Rd_jointAt_post 1 a σ = P at key ⊢
  generalize σ 1 5 = K at key ⊢
  generalize σ 1 7 = V at key ⊢
  generalize σ 1 9 = S at key ⊢
  repeat' (first | refine And.intro ?_ ?_ | intro _)
  all_goals
    subst_vars
    refine key _ ?_
    simp [jt, *]
def Rd_jointAt_I : List AV → Hp → Nat → Nat → List AV → List AV → Hp → Prop := fun as σ0 pc n st ls σ => (match as with
    | [.inr (.inr (.inl (k, 0, 5))), .inl a1] => False
    | _ => False)
def Rd_jointAt_ct : Nat → Ct := fun n => match n with
  | _ => Rd_jointAt_cs
set_option maxRecDepth 20000 in
set_option maxHeartbeats 4000000 in
theorem Rd_jointAt_met {l : Launch} {D : va_G} {ad : Nat → Nat} {ca : Nat → ClassId} {L : Nat} {fx : Nat → Int} : ax_MC l D ad ca L fx yX5_jointAt cX5_jointAt 2 (some .int) 1 Rd_jointAt_cs := by
  refine ax_met (oc := 5) (ct := Rd_jointAt_ct) (calls := Rd_jointAt_cl) (bs := Rd_jointAt_bk) (cut := fun pc => false) (f := 32) (I := Rd_jointAt_I) (by decide) rfl rfl Rd_jointAt_ck (fun _ h => absurd h List.not_mem_nil) ?_ ?_
  · intro as σ0 hp hH
    match as, hp with
    | [.inr (.inr (.inl (k, 0, 5))), .inl a1], hp => exact ⟨rfl, Rd_jointAt_p k a1 σ0 hH hp⟩
  · intro as σ0 hp n pc st ls σ hH hI
    match as, hp, hI with
    | [.inr (.inr (.inl (k, 0, 5))), .inl a1], hp, hI => exact False.elim hI
def gvn (V : Int) : Int := if V = 1667330661 then -1 else if V = 461414299502 then -2 else if V = 6840691 then -3 else if V = 448546567013 then -4 else if V = 6578553 then -5 else 0
theorem gvn_R (V : Int) : -5 ≤ gvn V ∧ gvn V ≤ 0 := by
  unfold gvn
  repeat' split
  all_goals omega
def Rd_givenAt_pre (k : Nat) (_σ : Hp) : Prop := k = 1
def Rd_givenAt_post (_k : Nat) (σ : Hp) (r : Int) (σ' : Hp) : Prop := σ' = σ ∧ r = gvn (σ 1 7)
def Rd_givenAt_bk : List (Nat × List Item) := [(0, [(.aload_n 0, 1, [], []), (.getfield 60, 3, [5, 7, 2, 0, 0, 0], []), (.ldc2_w 211, 3, [], [(1667330661, 0)]), (.lcmp, 1, [], []), (.ifCond .ne 5, 3, [13], []), (.iconst (-1), 1, [], []), (.ireturn, 1, [], [])]),
  (13, [(.aload_n 0, 1, [], []), (.getfield 60, 3, [5, 7, 2, 0, 0, 0], []), (.ldc2_w 213, 3, [], [(461414299502, 0)]), (.lcmp, 1, [], []), (.ifCond .ne 6, 3, [27], []), (.bipush (-2), 2, [], []), (.ireturn, 1, [], [])]),
  (27, [(.aload_n 0, 1, [], []), (.getfield 60, 3, [5, 7, 2, 0, 0, 0], []), (.ldc2_w 215, 3, [], [(6840691, 0)]), (.lcmp, 1, [], []), (.ifCond .ne 6, 3, [41], []), (.bipush (-3), 2, [], []), (.ireturn, 1, [], [])]),
  (41, [(.aload_n 0, 1, [], []), (.getfield 60, 3, [5, 7, 2, 0, 0, 0], []), (.ldc2_w 217, 3, [], [(448546567013, 0)]), (.lcmp, 1, [], []), (.ifCond .ne 6, 3, [55], []), (.bipush (-4), 2, [], []), (.ireturn, 1, [], [])]),
  (55, [(.aload_n 0, 1, [], []), (.getfield 60, 3, [5, 7, 2, 0, 0, 0], []), (.ldc2_w 219, 3, [], [(6578553, 0)]), (.lcmp, 1, [], []), (.ifCond .ne 8, 3, [71], []), (.bipush (-5), 2, [], []), (.goto 4, 3, [72], [])]),
  (71, [(.iconst 0, 1, [], [])]),
  (72, [(.ireturn, 1, [], [])])]
def Rd_givenAt_cl : List (Instr × Nat) := []
set_option maxRecDepth 20000 in
theorem Rd_givenAt_ck : Rd_givenAt_bk.all (fun b => ax_chB 5 1 cX5_givenAt Rd_givenAt_cl b.1 b.2) = true := by decide +kernel
def Rd_givenAt_cs : Ct := (1, 6, 1, (0, 0), fun as σ => (match as with
    | [.inr (.inr (.inl (k, 0, 5)))] => Rd_givenAt_pre k σ
    | _ => False), fun as σ r σ' => (match as with
    | [.inr (.inr (.inl (k, 0, 5)))] => Rd_givenAt_post k σ r σ'
    | _ => False))
theorem Rd_givenAt_w : ∀ w ∈ ([.instanceMethod yX5_givenAt, .selects yX5_givenAt.cls yX5_givenAt yX5_givenAt, .initialized yX5_givenAt.cls, .code yX5_givenAt cX5_givenAt 1 (some .int)] : List Cond), w ∈ ax_tb := ax_w4 (ax_m3 121 (by decide +kernel) rfl) (ax_m3 122 (by decide +kernel) rfl) (ax_m1 2 (by decide +kernel) rfl) (ax_m3 123 (by decide +kernel) rfl)
theorem Rd_givenAt_ds : yX5_givenAt.cls ≠ "java/lang/invoke/MethodHandle" ∧ yX5_givenAt.cls ≠ "java/lang/invoke/VarHandle" ∧ (parseMethodDescriptor yX5_givenAt.desc).map (fun d => d.parameters.length) = some 0 := by decide +kernel
def Rd_givenAt_vc : Prop := ∀ (k : Nat) (σ : Hp), ax_H σ → Rd_givenAt_pre k σ →
  (¬ lCmp (σ k 7) 1667330661 = 0 →
    (¬ lCmp (σ k 7) 461414299502 = 0 →
      (¬ lCmp (σ k 7) 6840691 = 0 →
        (¬ lCmp (σ k 7) 448546567013 = 0 →
          (¬ lCmp (σ k 7) 6578553 = 0 →
            Rd_givenAt_post k σ 0 σ) ∧
          (¬ (¬ lCmp (σ k 7) 6578553 = 0) →
            Rd_givenAt_post k σ (-5) σ)) ∧
        (¬ (¬ lCmp (σ k 7) 448546567013 = 0) →
          Rd_givenAt_post k σ (-4) σ)) ∧
      (¬ (¬ lCmp (σ k 7) 6840691 = 0) →
        Rd_givenAt_post k σ (-3) σ)) ∧
    (¬ (¬ lCmp (σ k 7) 461414299502 = 0) →
      Rd_givenAt_post k σ (-2) σ)) ∧
  (¬ (¬ lCmp (σ k 7) 1667330661 = 0) →
    Rd_givenAt_post k σ (-1) σ)
theorem Rd_givenAt_p : Rd_givenAt_vc := by
  intro k σ hH hp
  obtain rfl : k = 1 := hp
  have key : ∀ c, c = gvn (σ 1 7) → Rd_givenAt_post 1 σ c σ := fun c h => ⟨rfl, h⟩
  simp only [lCmp_0, Classical.not_not]
  generalize Rd_givenAt_post 1 σ = P at key ⊢
  generalize σ 1 7 = V at key ⊢
  repeat' (first | refine And.intro ?_ ?_ | intro _)
  all_goals
    subst_vars
    refine key _ ?_
    simp [gvn, *]
def Rd_givenAt_I : List AV → Hp → Nat → Nat → List AV → List AV → Hp → Prop := fun as σ0 pc n st ls σ => (match as with
    | [.inr (.inr (.inl (k, 0, 5)))] => False
    | _ => False)
def Rd_givenAt_ct : Nat → Ct := fun n => match n with
  | _ => Rd_givenAt_cs
set_option maxRecDepth 20000 in
set_option maxHeartbeats 4000000 in
theorem Rd_givenAt_met {l : Launch} {D : va_G} {ad : Nat → Nat} {ca : Nat → ClassId} {L : Nat} {fx : Nat → Int} : ax_MC l D ad ca L fx yX5_givenAt cX5_givenAt 1 (some .int) 1 Rd_givenAt_cs := by
  refine ax_met (oc := 5) (ct := Rd_givenAt_ct) (calls := Rd_givenAt_cl) (bs := Rd_givenAt_bk) (cut := fun pc => false) (f := 8) (I := Rd_givenAt_I) (by decide) rfl rfl Rd_givenAt_ck (fun _ h => absurd h List.not_mem_nil) ?_ ?_
  · intro as σ0 hp hH
    match as, hp with
    | [.inr (.inr (.inl (k, 0, 5)))], hp => exact ⟨rfl, Rd_givenAt_p k σ0 hH hp⟩
  · intro as σ0 hp n pc st ls σ hH hI
    match as, hp, hI with
    | [.inr (.inr (.inl (k, 0, 5)))], hp, hI => exact False.elim hI
def nmA (B : Tp) (p : Nat) : Prop := tK B p = 1 ∧ tV B p ∉ ax_nnL
def Rd_isName_pre (k : Nat) (_σ : Hp) : Prop := k = 1
def Rd_isName_post (_k : Nat) (σ : Hp) (r : Int) (σ' : Hp) : Prop := σ' = σ ∧ ((r = 1 ∧ σ 1 5 = 1 ∧ σ 1 7 ∉ ax_nnL) ∨ (r = 0 ∧ ¬ (σ 1 5 = 1 ∧ σ 1 7 ∉ ax_nnL)))
def Rd_isName_I12 (_k : Nat) (σ0 : Hp) (m : Nat) (v1 : Int) (σ : Hp) : Prop := ∃ i : Nat, v1 = i ∧ i ≤ 17 ∧ m = 17 - i ∧ σ = σ0 ∧ σ0 1 5 = 1 ∧ ∀ j, j < i → ¬ ax_nn j = σ0 1 7
def Rd_isName_bk : List (Nat × List Item) := [(0, [(.aload_n 0, 1, [], []), (.getfield 36, 3, [5, 5, 0, 0, 0, 0], []), (.iconst 1, 1, [], []), (.if_icmp .eq 5, 3, [10], []), (.iconst 0, 1, [], []), (.ireturn, 1, [], [])]),
  (10, [(.iconst 0, 1, [], []), (.istore_n 1, 1, [], [])]),
  (12, [(.iload_n 1, 1, [], []), (.getstatic 221, 3, [0], []), (.arraylength, 1, [], []), (.if_icmp .ge 24, 3, [41], []), (.getstatic 221, 3, [0], []), (.iload_n 1, 1, [], []), (.laload, 1, [], []), (.aload_n 0, 1, [], []), (.getfield 60, 3, [5, 7, 2, 0, 0, 0], []), (.lcmp, 1, [], []), (.ifCond .ne 5, 3, [35], []), (.iconst 0, 1, [], []), (.ireturn, 1, [], [])]),
  (35, [(.iinc 1 1, 3, [], []), (.goto (-26), 3, [12], [])]),
  (41, [(.iconst 1, 1, [], []), (.ireturn, 1, [], [])])]
def Rd_isName_cl : List (Instr × Nat) := []
set_option maxRecDepth 20000 in
theorem Rd_isName_ck : Rd_isName_bk.all (fun b => ax_chB 5 2 cX5_isName Rd_isName_cl b.1 b.2) = true := by decide +kernel
def Rd_isName_cs : Ct := (1, 6, 2, (0, 0), fun as σ => (match as with
    | [.inr (.inr (.inl (k, 0, 5)))] => Rd_isName_pre k σ
    | _ => False), fun as σ r σ' => (match as with
    | [.inr (.inr (.inl (k, 0, 5)))] => Rd_isName_post k σ r σ'
    | _ => False))
theorem Rd_isName_w : ∀ w ∈ ([.instanceMethod yX5_isName, .selects yX5_isName.cls yX5_isName yX5_isName, .initialized yX5_isName.cls, .code yX5_isName cX5_isName 2 (some .boolean)] : List Cond), w ∈ ax_tb := ax_w4 (ax_m3 51 (by decide +kernel) rfl) (ax_m3 52 (by decide +kernel) rfl) (ax_m1 2 (by decide +kernel) rfl) (ax_m3 53 (by decide +kernel) rfl)
theorem Rd_isName_ds : yX5_isName.cls ≠ "java/lang/invoke/MethodHandle" ∧ yX5_isName.cls ≠ "java/lang/invoke/VarHandle" ∧ (parseMethodDescriptor yX5_isName.desc).map (fun d => d.parameters.length) = some 0 := by decide +kernel
def Rd_isName_vc : Prop := ∀ (k : Nat) (σ : Hp), ax_H σ → Rd_isName_pre k σ →
  (σ k 5 = 1 →
    ∃ n' : Nat, k = k ∧ Rd_isName_I12 k σ n' 0 σ) ∧
  (¬ (σ k 5 = 1) →
    ((0 : Int) = 0 ∨ (0 : Int) = 1) ∧ Rd_isName_post k σ 0 σ)
def Rd_isName_vc12 : Prop := ∀ (k : Nat) (σ0 : Hp), Rd_isName_pre k σ0 → ∀ (n : Nat) (v1 : Int) (σ : Hp), ax_H σ → Rd_isName_I12 k σ0 n v1 σ →
  (17 ≤ v1 →
    ((1 : Int) = 0 ∨ (1 : Int) = 1) ∧ Rd_isName_post k σ0 1 σ) ∧
  (¬ (17 ≤ v1) →
    (0 ≤ v1 ∧ v1 < 17) ∧
    (¬ lCmp (ax_nn v1.toNat) (σ k 7) = 0 →
      ∃ n' : Nat, n' < n ∧ k = k ∧ Rd_isName_I12 k σ0 n' (wr (v1 + 1)) σ) ∧
    (¬ (¬ lCmp (ax_nn v1.toNat) (σ k 7) = 0) →
      ((0 : Int) = 0 ∨ (0 : Int) = 1) ∧ Rd_isName_post k σ0 0 σ))
theorem nn_mem {x : Int} : x ∈ ax_nnL ↔ ∃ i, i < 17 ∧ ax_nn i = x := by
  constructor
  · intro h
    obtain ⟨i, hi, e⟩ := List.mem_iff_getElem.mp h
    refine ⟨i, hi, ?_⟩
    unfold ax_nn
    rw [List.getD_eq_getElem?_getD, List.getElem?_eq_getElem hi]
    exact e
  · rintro ⟨i, hi, rfl⟩
    unfold ax_nn
    rw [List.getD_eq_getElem?_getD, List.getElem?_eq_getElem (show i < ax_nnL.length from hi)]
    exact List.getElem_mem _
theorem Rd_isName_p : Rd_isName_vc := by
  intro k σ hH hp
  obtain rfl : k = 1 := hp
  exact ⟨fun h => ⟨17, rfl, 0, rfl, by omega, rfl, rfl, h, fun j hj => absurd hj (Nat.not_lt_zero j)⟩, fun h => ⟨Or.inl rfl, rfl, Or.inr ⟨rfl, fun z => h z.1⟩⟩⟩
theorem Rd_isName_p12 : Rd_isName_vc12 := by
  intro k σ0 hp m v1 σ hH hI
  obtain rfl : k = 1 := hp
  obtain ⟨i, rfl, hi, rfl, rfl, h5, hr⟩ := hI
  rw [lCmp_0, Int.toNat_natCast, wr1 (by omega) (by omega)]
  refine ⟨fun h => ⟨Or.inr rfl, rfl, Or.inl ⟨rfl, h5, fun z => ?_⟩⟩, fun h => ⟨⟨by omega, by omega⟩, fun h2 => ⟨17 - (i + 1), by omega, rfl, i + 1, by simp, by omega, rfl, rfl, h5, fun j hj => ?_⟩, fun h2 => ⟨Or.inl rfl, rfl, Or.inr ⟨rfl, fun z => z.2 (nn_mem.mpr ⟨i, by omega, Classical.not_not.mp h2⟩)⟩⟩⟩⟩
  · obtain ⟨j, j1, j2⟩ := nn_mem.mp z
    exact hr j (by omega) j2
  · by_cases e : j = i
    · rw [e]; exact h2
    · exact hr j (by omega)
def Rd_isName_I : List AV → Hp → Nat → Nat → List AV → List AV → Hp → Prop := fun as σ0 pc n st ls σ => (match as with
    | [.inr (.inr (.inl (k, 0, 5)))] => (bif Nat.beq pc 12 then (match st, ls with
      | [], [.inr (.inr (.inl (k', 0, 5))), .inl v1] => k = k' ∧ Rd_isName_I12 k σ0 n v1 σ
      | _, _ => False) else False)
    | _ => False)
def Rd_isName_ct : Nat → Ct := fun n => match n with
  | _ => Rd_isName_cs
set_option maxRecDepth 20000 in
set_option maxHeartbeats 4000000 in
theorem Rd_isName_met {l : Launch} {D : va_G} {ad : Nat → Nat} {ca : Nat → ClassId} {L : Nat} {fx : Nat → Int} : ax_MC l D ad ca L fx yX5_isName cX5_isName 2 (some .boolean) 1 Rd_isName_cs := by
  refine ax_met (oc := 5) (ct := Rd_isName_ct) (calls := Rd_isName_cl) (bs := Rd_isName_bk) (cut := fun pc => Nat.beq pc 12) (f := 6) (I := Rd_isName_I) (by decide) rfl rfl Rd_isName_ck (fun _ h => absurd h List.not_mem_nil) ?_ ?_
  · intro as σ0 hp hH
    match as, hp with
    | [.inr (.inr (.inl (k, 0, 5)))], hp => exact ⟨rfl, Rd_isName_p k σ0 hH hp⟩
  · intro as σ0 hp n pc st ls σ hH hI
    match as, hp, hI with
    | [.inr (.inr (.inl (k, 0, 5)))], hp, hI =>
      rcases ax_bifE hI with ⟨hpc, hI⟩ | ⟨-, hI⟩
      · have := Nat.eq_of_beq_eq_true hpc
        subst this
        match st, ls, hI with
        | [], [.inr (.inr (.inl (k', 0, 5))), .inl v1], hI =>
          obtain ⟨rfl, hI⟩ := hI
          exact Rd_isName_p12 k σ0 hp n v1 σ hH hI
      exact False.elim hI
def Rd_findPerson_pre (k q : Nat) (σ : Hp) : Prop := k = 1 ∧ 0 ≤ σ q 9 ∧ σ q 9 ≤ 6
def Rd_findPerson_post (_k q : Nat) (σ : Hp) (r : Int) (σ' : Hp) : Prop := σ' = σ ∧ Lst (fun i => σ (q + 1) i = σ 1 7) (σ q 9).toNat r
def Rd_findPerson_I2 (_k q : Nat) (σ0 : Hp) (m : Nat) (v2 : Int) (σ : Hp) : Prop := ∃ i : Nat, v2 = i ∧ i ≤ 6 ∧ (i : Int) ≤ σ0 q 9 ∧ m = 6 - i ∧ σ = σ0 ∧ ∀ j, j < i → ¬ σ0 (q + 1) j = σ0 1 7
def Rd_findPerson_bk : List (Nat × List Item) := [(0, [(.iconst 0, 1, [], []), (.istore_n 2, 1, [], [])]),
  (2, [(.iload_n 2, 1, [], []), (.aload_n 1, 1, [], []), (.getfield 92, 3, [1, 9, 0, 0, 0, 0], []), (.if_icmp .ge 31, 3, [38], []), (.iload_n 2, 1, [], []), (.bipush 6, 2, [], []), (.if_icmp .ge 25, 3, [38], []), (.aload_n 1, 1, [], []), (.getfield 106, 3, [1, 0, 4, 1, 4, 6], []), (.iload_n 2, 1, [], []), (.laload, 1, [], []), (.aload_n 0, 1, [], []), (.getfield 60, 3, [5, 7, 2, 0, 0, 0], []), (.lcmp, 1, [], []), (.ifCond .ne 5, 3, [32], []), (.iload_n 2, 1, [], []), (.ireturn, 1, [], [])]),
  (32, [(.iinc 2 1, 3, [], []), (.goto (-33), 3, [2], [])]),
  (38, [(.iconst (-1), 1, [], []), (.ireturn, 1, [], [])])]
def Rd_findPerson_cl : List (Instr × Nat) := []
set_option maxRecDepth 20000 in
theorem Rd_findPerson_ck : Rd_findPerson_bk.all (fun b => ax_chB 5 3 cX5_findPerson Rd_findPerson_cl b.1 b.2) = true := by decide +kernel
def Rd_findPerson_cs : Ct := (2, 6, 1, (0, 0), fun as σ => (match as with
    | [.inr (.inr (.inl (k, 0, 5))), .inr (.inr (.inl (q1, 0, 1)))] => Rd_findPerson_pre k q1 σ
    | _ => False), fun as σ r σ' => (match as with
    | [.inr (.inr (.inl (k, 0, 5))), .inr (.inr (.inl (q1, 0, 1)))] => Rd_findPerson_post k q1 σ r σ'
    | _ => False))
theorem Rd_findPerson_w : ∀ w ∈ ([.instanceMethod yX5_findPerson, .selects yX5_findPerson.cls yX5_findPerson yX5_findPerson, .initialized yX5_findPerson.cls, .code yX5_findPerson cX5_findPerson 3 (some .int)] : List Cond), w ∈ ax_tb := ax_w4 (ax_m3 57 (by decide +kernel) rfl) (ax_m3 58 (by decide +kernel) rfl) (ax_m1 2 (by decide +kernel) rfl) (ax_m3 59 (by decide +kernel) rfl)
theorem Rd_findPerson_ds : yX5_findPerson.cls ≠ "java/lang/invoke/MethodHandle" ∧ yX5_findPerson.cls ≠ "java/lang/invoke/VarHandle" ∧ (parseMethodDescriptor yX5_findPerson.desc).map (fun d => d.parameters.length) = some 1 := by decide +kernel
def Rd_findPerson_vc : Prop := ∀ (k : Nat) (q1 : Nat) (σ : Hp), ax_H σ → Rd_findPerson_pre k q1 σ →
  ∃ n' : Nat, k = k ∧ q1 = q1 ∧ Rd_findPerson_I2 k q1 σ n' 0 σ
def Rd_findPerson_vc2 : Prop := ∀ (k : Nat) (q1 : Nat) (σ0 : Hp), Rd_findPerson_pre k q1 σ0 → ∀ (n : Nat) (v2 : Int) (σ : Hp), ax_H σ → Rd_findPerson_I2 k q1 σ0 n v2 σ →
  (σ q1 9 ≤ v2 →
    Rd_findPerson_post k q1 σ0 (-1) σ) ∧
  (¬ (σ q1 9 ≤ v2) →
    (6 ≤ v2 →
      Rd_findPerson_post k q1 σ0 (-1) σ) ∧
    (¬ (6 ≤ v2) →
      (0 ≤ v2 ∧ v2 < 6) ∧
      (¬ lCmp (σ (q1 + 1) v2.toNat) (σ k 7) = 0 →
        ∃ n' : Nat, n' < n ∧ k = k ∧ q1 = q1 ∧ Rd_findPerson_I2 k q1 σ0 n' (wr (v2 + 1)) σ) ∧
      (¬ (¬ lCmp (σ (q1 + 1) v2.toNat) (σ k 7) = 0) →
        Rd_findPerson_post k q1 σ0 v2 σ)))
theorem Rd_findPerson_p : Rd_findPerson_vc := by
  intro k q σ hH hp
  obtain ⟨rfl, h0, h1⟩ := hp
  exact ⟨6, rfl, rfl, 0, rfl, by omega, by omega, rfl, rfl, fun j hj => absurd hj (Nat.not_lt_zero j)⟩
theorem Rd_findPerson_p2 : Rd_findPerson_vc2 := by
  intro k q σ0 hp m v2 σ hH hI
  obtain ⟨rfl, h0, h1⟩ := hp
  obtain ⟨i, rfl, hi, hi2, rfl, rfl, hr⟩ := hI
  rw [lCmp_0, Int.toNat_natCast, wr1 (by omega) (by omega)]
  refine ⟨fun h => ⟨rfl, Or.inr ⟨rfl, fun j hj => hr j (by omega)⟩⟩, fun h => ⟨fun h2 => absurd h2 (by omega), fun h2 => ⟨⟨by omega, by omega⟩, fun h3 => ⟨6 - (i + 1), by omega, rfl, rfl, i + 1, by simp, by omega, by omega, rfl, rfl, fun j hj => ?_⟩, fun h3 => ⟨rfl, Or.inl ⟨i, by omega, rfl, Classical.not_not.mp h3, hr⟩⟩⟩⟩⟩
  by_cases e : j = i
  · rw [e]; exact h3
  · exact hr j (by omega)
def Rd_findPerson_I : List AV → Hp → Nat → Nat → List AV → List AV → Hp → Prop := fun as σ0 pc n st ls σ => (match as with
    | [.inr (.inr (.inl (k, 0, 5))), .inr (.inr (.inl (q1, 0, 1)))] => (bif Nat.beq pc 2 then (match st, ls with
      | [], [.inr (.inr (.inl (k', 0, 5))), .inr (.inr (.inl (q1', 0, 1))), .inl v2] => k = k' ∧ q1 = q1' ∧ Rd_findPerson_I2 k q1 σ0 n v2 σ
      | _, _ => False) else False)
    | _ => False)
def Rd_findPerson_ct : Nat → Ct := fun n => match n with
  | _ => Rd_findPerson_cs
set_option maxRecDepth 20000 in
set_option maxHeartbeats 4000000 in
theorem Rd_findPerson_met {l : Launch} {D : va_G} {ad : Nat → Nat} {ca : Nat → ClassId} {L : Nat} {fx : Nat → Int} : ax_MC l D ad ca L fx yX5_findPerson cX5_findPerson 3 (some .int) 1 Rd_findPerson_cs := by
  refine ax_met (oc := 5) (ct := Rd_findPerson_ct) (calls := Rd_findPerson_cl) (bs := Rd_findPerson_bk) (cut := fun pc => Nat.beq pc 2) (f := 5) (I := Rd_findPerson_I) (by decide) rfl rfl Rd_findPerson_ck (fun _ h => absurd h List.not_mem_nil) ?_ ?_
  · intro as σ0 hp hH
    match as, hp with
    | [.inr (.inr (.inl (k, 0, 5))), .inr (.inr (.inl (q1, 0, 1)))], hp => exact ⟨rfl, Rd_findPerson_p k q1 σ0 hH hp⟩
  · intro as σ0 hp n pc st ls σ hH hI
    match as, hp, hI with
    | [.inr (.inr (.inl (k, 0, 5))), .inr (.inr (.inl (q1, 0, 1)))], hp, hI =>
      rcases ax_bifE hI with ⟨hpc, hI⟩ | ⟨-, hI⟩
      · have := Nat.eq_of_beq_eq_true hpc
        subst this
        match st, ls, hI with
        | [], [.inr (.inr (.inl (k', 0, 5))), .inr (.inr (.inl (q1', 0, 1))), .inl v2], hI =>
          obtain ⟨rfl, rfl, hI⟩ := hI
          exact Rd_findPerson_p2 k q1 σ0 hp n v2 σ hH hI
      exact False.elim hI
def Rd_isWord_pre (k : Nat) (_a : Int) (_σ : Hp) : Prop := k = 1
def Rd_isWord_post (_k : Nat) (a : Int) (σ : Hp) (r : Int) (σ' : Hp) : Prop := σ' = σ ∧ r = if σ 1 5 = 1 ∧ σ 1 7 = a then 1 else 0
def Rd_isWord_bk : List (Nat × List Item) := [(0, [(.aload_n 0, 1, [], []), (.getfield 36, 3, [5, 5, 0, 0, 0, 0], []), (.iconst 1, 1, [], []), (.if_icmp .ne 16, 3, [21], []), (.aload_n 0, 1, [], []), (.getfield 60, 3, [5, 7, 2, 0, 0, 0], []), (.lload_n 1, 1, [], []), (.lcmp, 1, [], []), (.ifCond .ne 7, 3, [21], []), (.iconst 1, 1, [], []), (.goto 4, 3, [22], [])]),
  (21, [(.iconst 0, 1, [], [])]),
  (22, [(.ireturn, 1, [], [])])]
def Rd_isWord_cl : List (Instr × Nat) := []
set_option maxRecDepth 20000 in
theorem Rd_isWord_ck : Rd_isWord_bk.all (fun b => ax_chB 5 3 cX5_isWord Rd_isWord_cl b.1 b.2) = true := by decide +kernel
def Rd_isWord_cs : Ct := (2, 6, 2, (0, 0), fun as σ => (match as with
    | [.inr (.inr (.inl (k, 0, 5))), .inr (.inl a1)] => Rd_isWord_pre k a1 σ
    | _ => False), fun as σ r σ' => (match as with
    | [.inr (.inr (.inl (k, 0, 5))), .inr (.inl a1)] => Rd_isWord_post k a1 σ r σ'
    | _ => False))
theorem Rd_isWord_w : ∀ w ∈ ([.instanceMethod yX5_isWord, .selects yX5_isWord.cls yX5_isWord yX5_isWord, .initialized yX5_isWord.cls, .code yX5_isWord cX5_isWord 3 (some .boolean)] : List Cond), w ∈ ax_tb := ax_w4 (ax_m3 66 (by decide +kernel) rfl) (ax_m3 67 (by decide +kernel) rfl) (ax_m1 2 (by decide +kernel) rfl) (ax_m3 68 (by decide +kernel) rfl)
theorem Rd_isWord_ds : yX5_isWord.cls ≠ "java/lang/invoke/MethodHandle" ∧ yX5_isWord.cls ≠ "java/lang/invoke/VarHandle" ∧ (parseMethodDescriptor yX5_isWord.desc).map (fun d => d.parameters.length) = some 1 := by decide +kernel
def Rd_isWord_vc : Prop := ∀ (k : Nat) (a1 : Int) (σ : Hp), ax_H σ → Rd_isWord_pre k a1 σ →
  (¬ σ k 5 = 1 →
    ((0 : Int) = 0 ∨ (0 : Int) = 1) ∧ Rd_isWord_post k a1 σ 0 σ) ∧
  (¬ (¬ σ k 5 = 1) →
    (¬ lCmp (σ k 7) a1 = 0 →
      ((0 : Int) = 0 ∨ (0 : Int) = 1) ∧ Rd_isWord_post k a1 σ 0 σ) ∧
    (¬ (¬ lCmp (σ k 7) a1 = 0) →
      ((1 : Int) = 0 ∨ (1 : Int) = 1) ∧ Rd_isWord_post k a1 σ 1 σ))
theorem Rd_isWord_p : Rd_isWord_vc := by
  intro k a σ hH hp
  obtain rfl : k = 1 := hp
  rw [lCmp_0]
  exact ⟨fun h => ⟨Or.inl rfl, rfl, by rw [if_neg (fun z => h z.1)]⟩, fun h => ⟨fun h2 => ⟨Or.inl rfl, rfl, by rw [if_neg (fun z => h2 z.2)]⟩, fun h2 => ⟨Or.inr rfl, rfl, by rw [if_pos ⟨Classical.not_not.mp h, Classical.not_not.mp h2⟩]⟩⟩⟩
def Rd_isWord_I : List AV → Hp → Nat → Nat → List AV → List AV → Hp → Prop := fun as σ0 pc n st ls σ => (match as with
    | [.inr (.inr (.inl (k, 0, 5))), .inr (.inl a1)] => False
    | _ => False)
def Rd_isWord_ct : Nat → Ct := fun n => match n with
  | _ => Rd_isWord_cs
set_option maxRecDepth 20000 in
set_option maxHeartbeats 4000000 in
theorem Rd_isWord_met {l : Launch} {D : va_G} {ad : Nat → Nat} {ca : Nat → ClassId} {L : Nat} {fx : Nat → Int} : ax_MC l D ad ca L fx yX5_isWord cX5_isWord 3 (some .boolean) 1 Rd_isWord_cs := by
  refine ax_met (oc := 5) (ct := Rd_isWord_ct) (calls := Rd_isWord_cl) (bs := Rd_isWord_bk) (cut := fun pc => false) (f := 4) (I := Rd_isWord_I) (by decide) rfl rfl Rd_isWord_ck (fun _ h => absurd h List.not_mem_nil) ?_ ?_
  · intro as σ0 hp hH
    match as, hp with
    | [.inr (.inr (.inl (k, 0, 5))), .inr (.inl a1)], hp => exact ⟨rfl, Rd_isWord_p k a1 σ0 hH hp⟩
  · intro as σ0 hp n pc st ls σ hH hI
    match as, hp, hI with
    | [.inr (.inr (.inl (k, 0, 5))), .inr (.inl a1)], hp, hI => exact False.elim hI
def Rd_isSign_pre (k : Nat) (_a : Int) (_σ : Hp) : Prop := k = 1
def Rd_isSign_post (_k : Nat) (a : Int) (σ : Hp) (r : Int) (σ' : Hp) : Prop := σ' = σ ∧ r = if σ 1 5 = 3 ∧ σ 1 9 = a then 1 else 0
def Rd_isSign_bk : List (Nat × List Item) := [(0, [(.aload_n 0, 1, [], []), (.getfield 36, 3, [5, 5, 0, 0, 0, 0], []), (.iconst 3, 1, [], []), (.if_icmp .ne 15, 3, [20], []), (.aload_n 0, 1, [], []), (.getfield 207, 3, [5, 9, 3, 0, 0, 0], []), (.iload_n 1, 1, [], []), (.if_icmp .ne 7, 3, [20], []), (.iconst 1, 1, [], []), (.goto 4, 3, [21], [])]),
  (20, [(.iconst 0, 1, [], [])]),
  (21, [(.ireturn, 1, [], [])])]
def Rd_isSign_cl : List (Instr × Nat) := []
set_option maxRecDepth 20000 in
theorem Rd_isSign_ck : Rd_isSign_bk.all (fun b => ax_chB 5 2 cX5_isSign Rd_isSign_cl b.1 b.2) = true := by decide +kernel
def Rd_isSign_cs : Ct := (2, 6, 2, (0, 0), fun as σ => (match as with
    | [.inr (.inr (.inl (k, 0, 5))), .inl a1] => Rd_isSign_pre k a1 σ
    | _ => False), fun as σ r σ' => (match as with
    | [.inr (.inr (.inl (k, 0, 5))), .inl a1] => Rd_isSign_post k a1 σ r σ'
    | _ => False))
theorem Rd_isSign_w : ∀ w ∈ ([.instanceMethod yX5_isSign, .selects yX5_isSign.cls yX5_isSign yX5_isSign, .initialized yX5_isSign.cls, .code yX5_isSign cX5_isSign 2 (some .boolean)] : List Cond), w ∈ ax_tb := ax_w4 (ax_m3 76 (by decide +kernel) rfl) (ax_m3 77 (by decide +kernel) rfl) (ax_m1 2 (by decide +kernel) rfl) (ax_m3 78 (by decide +kernel) rfl)
theorem Rd_isSign_ds : yX5_isSign.cls ≠ "java/lang/invoke/MethodHandle" ∧ yX5_isSign.cls ≠ "java/lang/invoke/VarHandle" ∧ (parseMethodDescriptor yX5_isSign.desc).map (fun d => d.parameters.length) = some 1 := by decide +kernel
def Rd_isSign_vc : Prop := ∀ (k : Nat) (a1 : Int) (σ : Hp), ax_H σ → Rd_isSign_pre k a1 σ →
  (¬ σ k 5 = 3 →
    ((0 : Int) = 0 ∨ (0 : Int) = 1) ∧ Rd_isSign_post k a1 σ 0 σ) ∧
  (¬ (¬ σ k 5 = 3) →
    (¬ σ k 9 = a1 →
      ((0 : Int) = 0 ∨ (0 : Int) = 1) ∧ Rd_isSign_post k a1 σ 0 σ) ∧
    (¬ (¬ σ k 9 = a1) →
      ((1 : Int) = 0 ∨ (1 : Int) = 1) ∧ Rd_isSign_post k a1 σ 1 σ))
theorem Rd_isSign_p : Rd_isSign_vc := by
  intro k a σ hH hp
  obtain rfl : k = 1 := hp
  exact ⟨fun h => ⟨Or.inl rfl, rfl, by rw [if_neg (fun z => h z.1)]⟩, fun h => ⟨fun h2 => ⟨Or.inl rfl, rfl, by rw [if_neg (fun z => h2 z.2)]⟩, fun h2 => ⟨Or.inr rfl, rfl, by rw [if_pos ⟨Classical.not_not.mp h, Classical.not_not.mp h2⟩]⟩⟩⟩
def Rd_isSign_I : List AV → Hp → Nat → Nat → List AV → List AV → Hp → Prop := fun as σ0 pc n st ls σ => (match as with
    | [.inr (.inr (.inl (k, 0, 5))), .inl a1] => False
    | _ => False)
def Rd_isSign_ct : Nat → Ct := fun n => match n with
  | _ => Rd_isSign_cs
set_option maxRecDepth 20000 in
set_option maxHeartbeats 4000000 in
theorem Rd_isSign_met {l : Launch} {D : va_G} {ad : Nat → Nat} {ca : Nat → ClassId} {L : Nat} {fx : Nat → Int} : ax_MC l D ad ca L fx yX5_isSign cX5_isSign 2 (some .boolean) 1 Rd_isSign_cs := by
  refine ax_met (oc := 5) (ct := Rd_isSign_ct) (calls := Rd_isSign_cl) (bs := Rd_isSign_bk) (cut := fun pc => false) (f := 4) (I := Rd_isSign_I) (by decide) rfl rfl Rd_isSign_ck (fun _ h => absurd h List.not_mem_nil) ?_ ?_
  · intro as σ0 hp hH
    match as, hp with
    | [.inr (.inr (.inl (k, 0, 5))), .inl a1], hp => exact ⟨rfl, Rd_isSign_p k a1 σ0 hH hp⟩
  · intro as σ0 hp n pc st ls σ hH hI
    match as, hp, hI with
    | [.inr (.inr (.inl (k, 0, 5))), .inl a1], hp, hI => exact False.elim hI
theorem RS.wd {σ : Hp} {B : Tp} {p : Nat} (h : RS σ B p) (a : Int) : (σ 1 5 = 1 ∧ σ 1 7 = a) ↔ (tK B p = 1 ∧ tV B p = a) := by
  obtain ⟨-, -, -, h5, -, -, h7, -, -⟩ := h
  rw [h5]
  constructor
  · rintro ⟨h1, h2⟩
    have e : tK B p = 1 := by omega
    exact ⟨e, by rw [← h7 e]; exact h2⟩
  · rintro ⟨h1, h2⟩
    exact ⟨by omega, by rw [h7 h1]; exact h2⟩
theorem RS.sg {σ : Hp} {B : Tp} {p : Nat} (h : RS σ B p) (a : Int) : (σ 1 5 = 3 ∧ σ 1 9 = a) ↔ (tK B p = 3 ∧ tV B p = a) := by
  obtain ⟨-, -, -, h5, -, -, -, -, h9⟩ := h
  rw [h5]
  constructor
  · rintro ⟨h1, h2⟩
    have e : tK B p = 3 := by omega
    exact ⟨e, by rw [← h9 e]; exact h2⟩
  · rintro ⟨h1, h2⟩
    exact ⟨by omega, by rw [h9 h1]; exact h2⟩
theorem RS.nm {σ : Hp} {B : Tp} {p : Nat} (h : RS σ B p) : (σ 1 5 = 1 ∧ σ 1 7 ∉ ax_nnL) ↔ nmA B p := by
  obtain ⟨-, -, -, h5, -, -, h7, -, -⟩ := h
  unfold nmA
  rw [h5]
  constructor
  · rintro ⟨h1, h2⟩
    have e : tK B p = 1 := by omega
    exact ⟨e, by rw [← h7 e]; exact h2⟩
  · rintro ⟨h1, h2⟩
    exact ⟨by omega, by rw [h7 h1]; exact h2⟩
/-- the code of a refusal at a token -/
def rfc (B : Tp) (p : Nat) : Int := if tK B p = 4 then 1 else 2
def Rd_fail_pre (k : Nat) (_a : Int) (_σ : Hp) : Prop := k = 1
def Rd_fail_post (_k : Nat) (a : Int) (σ : Hp) (r : Int) (σ' : Hp) : Prop := r = 0 ∧ σ' = hp (hp σ 1 2 a) 1 3 (σ 1 6)
def Rd_fail_bk : List (Nat × List Item) := [(0, [(.aload_n 0, 1, [], []), (.iload_n 1, 1, [], []), (.putfield 27, 3, [5, 2, 0, 0, 0, 0], []), (.aload_n 0, 1, [], []), (.aload_n 0, 1, [], []), (.getfield 224, 3, [5, 6, 0, 0, 0, 0], []), (.putfield 15, 3, [5, 3, 0, 0, 0, 0], []), (.iconst 0, 1, [], []), (.ireturn, 1, [], [])])]
def Rd_fail_cl : List (Instr × Nat) := []
set_option maxRecDepth 20000 in
theorem Rd_fail_ck : Rd_fail_bk.all (fun b => ax_chB 5 2 cX5_fail Rd_fail_cl b.1 b.2) = true := by decide +kernel
def Rd_fail_cs : Ct := (2, 6, 2, (0, 0), fun as σ => (match as with
    | [.inr (.inr (.inl (k, 0, 5))), .inl a1] => Rd_fail_pre k a1 σ
    | _ => False), fun as σ r σ' => (match as with
    | [.inr (.inr (.inl (k, 0, 5))), .inl a1] => Rd_fail_post k a1 σ r σ'
    | _ => False))
theorem Rd_fail_w : ∀ w ∈ ([.instanceMethod yX5_fail, .selects yX5_fail.cls yX5_fail yX5_fail, .initialized yX5_fail.cls, .code yX5_fail cX5_fail 2 (some .boolean)] : List Cond), w ∈ ax_tb := ax_w4 (ax_m3 42 (by decide +kernel) rfl) (ax_m3 43 (by decide +kernel) rfl) (ax_m1 2 (by decide +kernel) rfl) (ax_m3 44 (by decide +kernel) rfl)
theorem Rd_fail_ds : yX5_fail.cls ≠ "java/lang/invoke/MethodHandle" ∧ yX5_fail.cls ≠ "java/lang/invoke/VarHandle" ∧ (parseMethodDescriptor yX5_fail.desc).map (fun d => d.parameters.length) = some 1 := by decide +kernel
def Rd_fail_vc : Prop := ∀ (k : Nat) (a1 : Int) (σ : Hp), ax_H σ → Rd_fail_pre k a1 σ →
  ∀ σ1 : Hp, σ1 = hp σ k 2 a1 →
  ∀ σ2 : Hp, σ2 = hp σ1 k 3 (σ1 k 6) →
  ((0 : Int) = 0 ∨ (0 : Int) = 1) ∧ Rd_fail_post k a1 σ 0 σ2
theorem Rd_fail_p : Rd_fail_vc := by
  intro k a σ hH hp
  obtain rfl : k = 1 := hp
  rintro σ1 rfl σ2 rfl
  exact ⟨Or.inl rfl, rfl, by rw [hp_r2 (show ¬ ((1 : Nat) = 1 ∧ (6 : Nat) = 2) by decide)]⟩
def Rd_fail_I : List AV → Hp → Nat → Nat → List AV → List AV → Hp → Prop := fun as σ0 pc n st ls σ => (match as with
    | [.inr (.inr (.inl (k, 0, 5))), .inl a1] => False
    | _ => False)
def Rd_fail_ct : Nat → Ct := fun n => match n with
  | _ => Rd_fail_cs
set_option maxRecDepth 20000 in
set_option maxHeartbeats 4000000 in
theorem Rd_fail_met {l : Launch} {D : va_G} {ad : Nat → Nat} {ca : Nat → ClassId} {L : Nat} {fx : Nat → Int} : ax_MC l D ad ca L fx yX5_fail cX5_fail 2 (some .boolean) 1 Rd_fail_cs := by
  refine ax_met (oc := 5) (ct := Rd_fail_ct) (calls := Rd_fail_cl) (bs := Rd_fail_bk) (cut := fun pc => false) (f := 2) (I := Rd_fail_I) (by decide) rfl rfl Rd_fail_ck (fun _ h => absurd h List.not_mem_nil) ?_ ?_
  · intro as σ0 hp hH
    match as, hp with
    | [.inr (.inr (.inl (k, 0, 5))), .inl a1], hp => exact ⟨rfl, Rd_fail_p k a1 σ0 hH hp⟩
  · intro as σ0 hp n pc st ls σ hH hI
    match as, hp, hI with
    | [.inr (.inr (.inl (k, 0, 5))), .inl a1], hp, hI => exact False.elim hI
def Rd_refuse_pre (k : Nat) (_σ : Hp) : Prop := k = 1
def Rd_refuse_post (_k : Nat) (σ : Hp) (r : Int) (σ' : Hp) : Prop := r = 0 ∧ σ' = hp (hp σ 1 2 (if σ 1 5 = 4 then 1 else 2)) 1 3 (σ 1 6)
def Rd_refuse_bk : List (Nat × List Item) := [(0, [(.aload_n 0, 1, [], []), (.aload_n 0, 1, [], []), (.getfield 36, 3, [5, 5, 0, 0, 0, 0], []), (.iconst 4, 1, [], []), (.if_icmp .ne 7, 3, [13], []), (.iconst 1, 1, [], []), (.goto 4, 3, [14], [])]),
  (13, [(.iconst 2, 1, [], [])]),
  (14, [(.invokevirtual 102, 3, [0], []), (.ireturn, 1, [], [])])]
def Rd_refuse_cl : List (Instr × Nat) := [(.invokevirtual 102, 0)]
set_option maxRecDepth 20000 in
theorem Rd_refuse_ck : Rd_refuse_bk.all (fun b => ax_chB 5 1 cX5_refuse Rd_refuse_cl b.1 b.2) = true := by decide +kernel
def Rd_refuse_cs : Ct := (1, 6, 2, (0, 0), fun as σ => (match as with
    | [.inr (.inr (.inl (k, 0, 5)))] => Rd_refuse_pre k σ
    | _ => False), fun as σ r σ' => (match as with
    | [.inr (.inr (.inl (k, 0, 5)))] => Rd_refuse_post k σ r σ'
    | _ => False))
theorem Rd_refuse_w : ∀ w ∈ ([.instanceMethod yX5_refuse, .selects yX5_refuse.cls yX5_refuse yX5_refuse, .initialized yX5_refuse.cls, .code yX5_refuse cX5_refuse 1 (some .boolean)] : List Cond), w ∈ ax_tb := ax_w4 (ax_m3 38 (by decide +kernel) rfl) (ax_m3 39 (by decide +kernel) rfl) (ax_m1 2 (by decide +kernel) rfl) (ax_m3 40 (by decide +kernel) rfl)
theorem Rd_refuse_ds : yX5_refuse.cls ≠ "java/lang/invoke/MethodHandle" ∧ yX5_refuse.cls ≠ "java/lang/invoke/VarHandle" ∧ (parseMethodDescriptor yX5_refuse.desc).map (fun d => d.parameters.length) = some 0 := by decide +kernel
def Rd_refuse_vc : Prop := ∀ (k : Nat) (σ : Hp), ax_H σ → Rd_refuse_pre k σ →
  (¬ σ k 5 = 4 →
    Rd_fail_pre k 2 σ ∧
    ∀ (r2 : Int) (σ1 : Hp), Rd_fail_post k 2 σ r2 σ1 →
    (r2 = 0 ∨ r2 = 1) ∧ Rd_refuse_post k σ r2 σ1) ∧
  (¬ (¬ σ k 5 = 4) →
    Rd_fail_pre k 1 σ ∧
    ∀ (r4 : Int) (σ3 : Hp), Rd_fail_post k 1 σ r4 σ3 →
    (r4 = 0 ∨ r4 = 1) ∧ Rd_refuse_post k σ r4 σ3)
theorem Rd_refuse_p : Rd_refuse_vc := by
  intro k σ hH hp
  obtain rfl : k = 1 := hp
  refine ⟨fun h => ⟨rfl, ?_⟩, fun h => ⟨rfl, ?_⟩⟩
  · rintro r σ1 ⟨rfl, rfl⟩
    exact ⟨Or.inl rfl, rfl, by rw [if_neg h]⟩
  · rintro r σ1 ⟨rfl, rfl⟩
    exact ⟨Or.inl rfl, rfl, by rw [if_pos (Classical.not_not.mp h)]⟩
def Rd_refuse_I : List AV → Hp → Nat → Nat → List AV → List AV → Hp → Prop := fun as σ0 pc n st ls σ => (match as with
    | [.inr (.inr (.inl (k, 0, 5)))] => False
    | _ => False)
def Rd_refuse_ct : Nat → Ct := fun n => match n with
  | 0 => Rd_fail_cs
  | _ => Rd_refuse_cs
set_option maxRecDepth 20000 in
set_option maxHeartbeats 4000000 in
theorem Rd_refuse_met {l : Launch} {D : va_G} {ad : Nat → Nat} {ca : Nat → ClassId} {L : Nat} {fx : Nat → Int} : ax_MC l D ad ca L fx yX5_refuse cX5_refuse 1 (some .boolean) 2 Rd_refuse_cs := by
  refine ax_met (oc := 5) (ct := Rd_refuse_ct) (calls := Rd_refuse_cl) (bs := Rd_refuse_bk) (cut := fun pc => false) (f := 4) (I := Rd_refuse_I) (by decide) rfl rfl Rd_refuse_ck (List.forall_mem_cons.mpr ⟨ax_cwV Rd_fail_met (by decide) (by decide) rfl (by decide) rfl (ax_m3 41 (by decide +kernel) rfl) Rd_fail_w rfl Rd_fail_ds, fun _ h => absurd h List.not_mem_nil⟩) ?_ ?_
  · intro as σ0 hp hH
    match as, hp with
    | [.inr (.inr (.inl (k, 0, 5)))], hp => exact ⟨rfl, Rd_refuse_p k σ0 hH hp⟩
  · intro as σ0 hp n pc st ls σ hH hI
    match as, hp, hI with
    | [.inr (.inr (.inl (k, 0, 5)))], hp, hI => exact False.elim hI
/-- it has failed, with a code at a token -/
def Fl (σ σ' : Hp) (B : Tp) (c : Int) (p : Nat) : Prop := Fr [1] σ σ' ∧ σ' 1 1 = σ 1 1 ∧ σ' 1 2 = c ∧ σ' 1 3 = (tS B p : Nat)
theorem RS.rf {σ σ' : Hp} {B : Tp} {p : Nat} {r : Int} (h : RS σ B p) (g : Rd_refuse_post 1 σ r σ') : r = 0 ∧ Fl σ σ' B (rfc B p) p := by
  obtain ⟨rfl, rfl⟩ := g
  obtain ⟨-, -, -, h5, h6, -⟩ := h
  refine ⟨rfl, Fr.hp (Fr.hp Fr.rf (by simp)) (by simp), by simp [hp_rd], ?_, by simp [hp_rd, h6]⟩
  rw [hp_r2 (by omega), hp_r1, h5]
  unfold rfc
  by_cases e : tK B p = 4
  · rw [if_pos e, if_pos (by omega)]
  · rw [if_neg e, if_neg (by omega)]
theorem RS.fl {σ σ' : Hp} {B : Tp} {p : Nat} {r c : Int} (h : RS σ B p) (g : Rd_fail_post 1 c σ r σ') : r = 0 ∧ Fl σ σ' B c p := by
  obtain ⟨rfl, rfl⟩ := g
  obtain ⟨-, -, -, h5, h6, -⟩ := h
  exact ⟨rfl, Fr.hp (Fr.hp Fr.rf (by simp)) (by simp), by simp [hp_rd], by simp [hp_rd], by simp [hp_rd, h6]⟩
theorem RS.adv {σ : Hp} {B : Tp} {p : Nat} (h : RS σ B p) : Rd_advance_pre 1 σ ∧ ∀ σ', Rd_advance_post 1 σ σ' → Fr [1] σ σ' ∧ σ' 1 1 = σ 1 1 ∧ σ' 1 2 = σ 1 2 ∧ σ' 1 3 = σ 1 3 ∧ RS σ' B (tN B p) := by
  obtain ⟨rfl, hT, hp, h5, h6, h4, -⟩ := h
  have hn := hT.n
  have := tN_R hn.1 hp
  refine ⟨⟨rfl, hT, by omega, by omega⟩, ?_⟩
  rintro σ' ⟨g1, g2, g3, g4, g5⟩
  rw [h4, Int.toNat_natCast] at g5
  exact ⟨g1, g4, g2, g3, g5⟩
/-- an outcome: a fault's code and token, or what was read -/
abbrev Oc (α : Type) : Type := (Int × Nat) ⊕ α
def sgnO (B : Tp) (p : Nat) (c : Int) : Oc Nat := if tK B p = 3 ∧ tV B p = c then .inr (tN B p) else .inl (rfc B p, p)
def nmrO (B : Tp) (p : Nat) (w lo hi : Int) : Oc (Int × Nat) :=
  if tK B p = 1 ∧ tV B p = w then (if tK B (tN B p) = 2 then (if tV B (tN B p) < lo ∨ hi < tV B (tN B p) then .inl (4, tN B p) else .inr (tV B (tN B p), tN B (tN B p))) else .inl (rfc B (tN B p), tN B p)) else .inl (rfc B p, p)
theorem rfc_0 (B : Tp) (p : Nat) : ¬ rfc B p = 0 := by unfold rfc; split <;> decide
theorem nmrO_0 {B : Tp} {p : Nat} {w lo hi : Int} {x : Int × Nat} (h : nmrO B p w lo hi = .inl x) : ¬ x.1 = 0 := by
  unfold nmrO at h
  split at h
  · split at h
    · split at h
      · injection h with h; rw [← h]; exact (by decide : ¬ (4 : Int) = 0)
      · cases h
    · injection h with h; rw [← h]; exact rfc_0 _ _
  · injection h with h; rw [← h]; exact rfc_0 _ _
theorem nmrO_R {B : Tp} {p : Nat} {w lo hi : Int} {x : Int × Nat} (h : nmrO B p w lo hi = .inr x) : lo ≤ x.1 ∧ x.1 ≤ hi := by
  unfold nmrO at h
  split at h
  · split at h
    · split at h
      · cases h
      · injection h with h; rw [← h]; dsimp only; omega
    · cases h
  · cases h
def Rd_readSign_pre (k : Nat) (_a : Int) (σ : Hp) : Prop := k = 1 ∧ ∃ B p, RS σ B p
def Rd_readSign_post (_k : Nat) (a : Int) (σ : Hp) (r : Int) (σ' : Hp) : Prop := ∀ B p, RS σ B p → match sgnO B p a with
  | .inl x => r = 0 ∧ Fl σ σ' B x.1 x.2
  | .inr q => r = 1 ∧ Fr [1] σ σ' ∧ σ' 1 1 = σ 1 1 ∧ σ' 1 2 = σ 1 2 ∧ σ' 1 3 = σ 1 3 ∧ RS σ' B q
def Rd_readSign_bk : List (Nat × List Item) := [(0, [(.aload_n 0, 1, [], []), (.iload_n 1, 1, [], []), (.invokevirtual 193, 3, [0], []), (.ifCond .ne 8, 3, [13], []), (.aload_n 0, 1, [], []), (.invokevirtual 56, 3, [1], []), (.ireturn, 1, [], [])]),
  (13, [(.aload_n 0, 1, [], []), (.invokevirtual 33, 3, [2], []), (.iconst 1, 1, [], []), (.ireturn, 1, [], [])])]
def Rd_readSign_cl : List (Instr × Nat) := [(.invokevirtual 193, 0), (.invokevirtual 56, 1), (.invokevirtual 33, 2)]
set_option maxRecDepth 20000 in
theorem Rd_readSign_ck : Rd_readSign_bk.all (fun b => ax_chB 5 2 cX5_readSign Rd_readSign_cl b.1 b.2) = true := by decide +kernel
def Rd_readSign_cs : Ct := (2, 6, 2, (0, 0), fun as σ => (match as with
    | [.inr (.inr (.inl (k, 0, 5))), .inl a1] => Rd_readSign_pre k a1 σ
    | _ => False), fun as σ r σ' => (match as with
    | [.inr (.inr (.inl (k, 0, 5))), .inl a1] => Rd_readSign_post k a1 σ r σ'
    | _ => False))
theorem Rd_readSign_w : ∀ w ∈ ([.instanceMethod yX5_readSign, .selects yX5_readSign.cls yX5_readSign yX5_readSign, .initialized yX5_readSign.cls, .code yX5_readSign cX5_readSign 2 (some .boolean)] : List Cond), w ∈ ax_tb := ax_w4 (ax_m3 72 (by decide +kernel) rfl) (ax_m3 73 (by decide +kernel) rfl) (ax_m1 2 (by decide +kernel) rfl) (ax_m3 74 (by decide +kernel) rfl)
theorem Rd_readSign_ds : yX5_readSign.cls ≠ "java/lang/invoke/MethodHandle" ∧ yX5_readSign.cls ≠ "java/lang/invoke/VarHandle" ∧ (parseMethodDescriptor yX5_readSign.desc).map (fun d => d.parameters.length) = some 1 := by decide +kernel
def Rd_readSign_vc : Prop := ∀ (k : Nat) (a1 : Int) (σ : Hp), ax_H σ → Rd_readSign_pre k a1 σ →
  Rd_isSign_pre k a1 σ ∧
  ∀ (r2 : Int) (σ1 : Hp), Rd_isSign_post k a1 σ r2 σ1 →
  (¬ r2 = 0 →
    Rd_advance_pre k σ1 ∧
    ∀ σ3 : Hp, Rd_advance_post k σ1 σ3 →
    ((1 : Int) = 0 ∨ (1 : Int) = 1) ∧ Rd_readSign_post k a1 σ 1 σ3) ∧
  (¬ (¬ r2 = 0) →
    Rd_refuse_pre k σ1 ∧
    ∀ (r5 : Int) (σ4 : Hp), Rd_refuse_post k σ1 r5 σ4 →
    (r5 = 0 ∨ r5 = 1) ∧ Rd_readSign_post k a1 σ r5 σ4)
theorem Rd_readSign_p : Rd_readSign_vc := by
  intro k a σ hH hp
  obtain ⟨rfl, B0, p0, h0⟩ := hp
  refine ⟨rfl, ?_⟩
  rintro r σ1 ⟨rfl, rfl⟩
  refine ⟨fun h => ⟨h0.adv.1, ?_⟩, fun h => ⟨rfl, ?_⟩⟩
  · intro σ2 g
    refine ⟨Or.inr rfl, fun B p hR => ?_⟩
    have hs : σ1 1 5 = 3 ∧ σ1 1 9 = a := Classical.byContradiction fun z => h (if_neg z)
    unfold sgnO
    rw [if_pos ((hR.sg a).mp hs)]
    exact ⟨rfl, hR.adv.2 σ2 g⟩
  · intro r2 σ2 g
    refine ⟨Or.inl g.1, fun B p hR => ?_⟩
    have hs : ¬ (σ1 1 5 = 3 ∧ σ1 1 9 = a) := fun z => by rw [if_pos z] at h; exact h (by decide)
    unfold sgnO
    rw [if_neg (fun z => hs ((hR.sg a).mpr z))]
    exact hR.rf g
def Rd_readSign_I : List AV → Hp → Nat → Nat → List AV → List AV → Hp → Prop := fun as σ0 pc n st ls σ => (match as with
    | [.inr (.inr (.inl (k, 0, 5))), .inl a1] => False
    | _ => False)
def Rd_readSign_ct : Nat → Ct := fun n => match n with
  | 0 => Rd_isSign_cs
  | 1 => Rd_refuse_cs
  | 2 => Rd_advance_cs
  | _ => Rd_readSign_cs
set_option maxRecDepth 20000 in
set_option maxHeartbeats 4000000 in
theorem Rd_readSign_met {l : Launch} {D : va_G} {ad : Nat → Nat} {ca : Nat → ClassId} {L : Nat} {fx : Nat → Int} : ax_MC l D ad ca L fx yX5_readSign cX5_readSign 2 (some .boolean) 6 Rd_readSign_cs := by
  refine ax_met (oc := 5) (ct := Rd_readSign_ct) (calls := Rd_readSign_cl) (bs := Rd_readSign_bk) (cut := fun pc => false) (f := 3) (I := Rd_readSign_I) (by decide) rfl rfl Rd_readSign_ck (List.forall_mem_cons.mpr ⟨ax_cwV Rd_isSign_met (by decide) (by decide) rfl (by decide) rfl (ax_m3 75 (by decide +kernel) rfl) Rd_isSign_w rfl Rd_isSign_ds, List.forall_mem_cons.mpr ⟨ax_cwV Rd_refuse_met (by decide) (by decide) rfl (by decide) rfl (ax_m3 37 (by decide +kernel) rfl) Rd_refuse_w rfl Rd_refuse_ds, List.forall_mem_cons.mpr ⟨ax_cwV Rd_advance_met (by decide) (by decide) rfl (by decide) rfl (ax_m2 166 (by decide +kernel) rfl) Rd_advance_w rfl Rd_advance_ds, fun _ h => absurd h List.not_mem_nil⟩⟩⟩) ?_ ?_
  · intro as σ0 hp hH
    match as, hp with
    | [.inr (.inr (.inl (k, 0, 5))), .inl a1], hp => exact ⟨rfl, Rd_readSign_p k a1 σ0 hH hp⟩
  · intro as σ0 hp n pc st ls σ hH hI
    match as, hp, hI with
    | [.inr (.inr (.inl (k, 0, 5))), .inl a1], hp, hI => exact False.elim hI
def Rd_readNumber_pre (k : Nat) (_a _b _c : Int) (σ : Hp) : Prop := k = 1 ∧ ∃ B p, RS σ B p
def Rd_readNumber_post (_k : Nat) (a b c : Int) (σ : Hp) (r : Int) (σ' : Hp) : Prop := ∀ B p, RS σ B p → match nmrO B p a b c with
  | .inl x => Fl σ σ' B x.1 x.2
  | .inr x => r = x.1 ∧ Fr [1] σ σ' ∧ σ' 1 1 = σ 1 1 ∧ σ' 1 2 = σ 1 2 ∧ σ' 1 3 = σ 1 3 ∧ RS σ' B x.2
def Rd_readNumber_bk : List (Nat × List Item) := [(0, [(.aload_n 0, 1, [], []), (.lload_n 1, 1, [], []), (.invokevirtual 127, 3, [0], []), (.ifCond .ne 10, 3, [15], []), (.aload_n 0, 1, [], []), (.invokevirtual 56, 3, [1], []), (.pop, 1, [], []), (.iconst 0, 1, [], []), (.ireturn, 1, [], [])]),
  (15, [(.aload_n 0, 1, [], []), (.invokevirtual 33, 3, [2], []), (.aload_n 0, 1, [], []), (.getfield 36, 3, [5, 5, 0, 0, 0, 0], []), (.iconst 2, 1, [], []), (.if_icmp .eq 10, 3, [34], []), (.aload_n 0, 1, [], []), (.invokevirtual 56, 3, [1], []), (.pop, 1, [], []), (.iconst 0, 1, [], []), (.ireturn, 1, [], [])]),
  (34, [(.aload_n 0, 1, [], []), (.getfield 196, 3, [5, 8, 0, 0, 0, 0], []), (.iload_n 3, 1, [], []), (.if_icmp .lt 12, 3, [51], []), (.aload_n 0, 1, [], []), (.getfield 196, 3, [5, 8, 0, 0, 0, 0], []), (.iload 4, 2, [], []), (.if_icmp .le 11, 3, [59], [])]),
  (51, [(.aload_n 0, 1, [], []), (.iconst 4, 1, [], []), (.invokevirtual 102, 3, [3], []), (.pop, 1, [], []), (.iconst 0, 1, [], []), (.ireturn, 1, [], [])]),
  (59, [(.aload_n 0, 1, [], []), (.getfield 196, 3, [5, 8, 0, 0, 0, 0], []), (.istore 5, 2, [], []), (.aload_n 0, 1, [], []), (.invokevirtual 33, 3, [2], []), (.iload 5, 2, [], []), (.ireturn, 1, [], [])])]
def Rd_readNumber_cl : List (Instr × Nat) := [(.invokevirtual 127, 0), (.invokevirtual 56, 1), (.invokevirtual 33, 2), (.invokevirtual 102, 3)]
set_option maxRecDepth 20000 in
theorem Rd_readNumber_ck : Rd_readNumber_bk.all (fun b => ax_chB 5 6 cX5_readNumber Rd_readNumber_cl b.1 b.2) = true := by decide +kernel
def Rd_readNumber_cs : Ct := (4, 6, 1, (0, 0), fun as σ => (match as with
    | [.inr (.inr (.inl (k, 0, 5))), .inr (.inl a1), .inl a2, .inl a3] => Rd_readNumber_pre k a1 a2 a3 σ
    | _ => False), fun as σ r σ' => (match as with
    | [.inr (.inr (.inl (k, 0, 5))), .inr (.inl a1), .inl a2, .inl a3] => Rd_readNumber_post k a1 a2 a3 σ r σ'
    | _ => False))
theorem Rd_readNumber_w : ∀ w ∈ ([.instanceMethod yX5_readNumber, .selects yX5_readNumber.cls yX5_readNumber yX5_readNumber, .initialized yX5_readNumber.cls, .code yX5_readNumber cX5_readNumber 6 (some .int)] : List Cond), w ∈ ax_tb := ax_w4 (ax_m3 62 (by decide +kernel) rfl) (ax_m3 63 (by decide +kernel) rfl) (ax_m1 2 (by decide +kernel) rfl) (ax_m3 64 (by decide +kernel) rfl)
theorem Rd_readNumber_ds : yX5_readNumber.cls ≠ "java/lang/invoke/MethodHandle" ∧ yX5_readNumber.cls ≠ "java/lang/invoke/VarHandle" ∧ (parseMethodDescriptor yX5_readNumber.desc).map (fun d => d.parameters.length) = some 3 := by decide +kernel
def Rd_readNumber_vc : Prop := ∀ (k : Nat) (a1 : Int) (a2 : Int) (a3 : Int) (σ : Hp), ax_H σ → Rd_readNumber_pre k a1 a2 a3 σ →
  Rd_isWord_pre k a1 σ ∧
  ∀ (r2 : Int) (σ1 : Hp), Rd_isWord_post k a1 σ r2 σ1 →
  (¬ r2 = 0 →
    Rd_advance_pre k σ1 ∧
    ∀ σ3 : Hp, Rd_advance_post k σ1 σ3 →
    (σ3 k 5 = 2 →
      (σ3 k 8 < a2 →
        Rd_fail_pre k 4 σ3 ∧
        ∀ (r5 : Int) (σ4 : Hp), Rd_fail_post k 4 σ3 r5 σ4 →
        Rd_readNumber_post k a1 a2 a3 σ 0 σ4) ∧
      (¬ (σ3 k 8 < a2) →
        (σ3 k 8 ≤ a3 →
          Rd_advance_pre k σ3 ∧
          ∀ σ6 : Hp, Rd_advance_post k σ3 σ6 →
          Rd_readNumber_post k a1 a2 a3 σ (σ3 k 8) σ6) ∧
        (¬ (σ3 k 8 ≤ a3) →
          Rd_fail_pre k 4 σ3 ∧
          ∀ (r8 : Int) (σ7 : Hp), Rd_fail_post k 4 σ3 r8 σ7 →
          Rd_readNumber_post k a1 a2 a3 σ 0 σ7))) ∧
    (¬ (σ3 k 5 = 2) →
      Rd_refuse_pre k σ3 ∧
      ∀ (r10 : Int) (σ9 : Hp), Rd_refuse_post k σ3 r10 σ9 →
      Rd_readNumber_post k a1 a2 a3 σ 0 σ9)) ∧
  (¬ (¬ r2 = 0) →
    Rd_refuse_pre k σ1 ∧
    ∀ (r12 : Int) (σ11 : Hp), Rd_refuse_post k σ1 r12 σ11 →
    Rd_readNumber_post k a1 a2 a3 σ 0 σ11)
theorem Fl.tr {σ σ1 σ' : Hp} {B : Tp} {c : Int} {p : Nat} (h : Fr [1] σ σ1) (h1 : σ1 1 1 = σ 1 1) (g : Fl σ1 σ' B c p) : Fl σ σ' B c p := ⟨h.tr g.1, g.2.1.trans h1, g.2.2⟩
theorem Rd_readNumber_p : Rd_readNumber_vc := by
  intro k a b c σ hH hp
  obtain ⟨rfl, B0, p0, h0⟩ := hp
  refine ⟨rfl, ?_⟩
  rintro r σ1 ⟨rfl, rfl⟩
  refine ⟨fun h => ⟨h0.adv.1, ?_⟩, fun h => ⟨rfl, ?_⟩⟩
  · intro σ2 g
    have hs : σ1 1 5 = 1 ∧ σ1 1 7 = a := Classical.byContradiction fun z => h (if_neg z)
    have h2 := h0.adv.2 σ2 g
    have un : ∀ B p, RS σ1 B p → nmrO B p a b c = if tK B (tN B p) = 2 then (if tV B (tN B p) < b ∨ c < tV B (tN B p) then .inl (4, tN B p) else .inr (tV B (tN B p), tN B (tN B p))) else .inl (rfc B (tN B p), tN B p) := by
      intro B p hR
      unfold nmrO
      rw [if_pos ((hR.wd a).mp hs)]
    refine ⟨fun h5 => ⟨fun h6 => ⟨rfl, ?_⟩, fun h6 => ⟨fun h7 => ⟨h2.2.2.2.2.adv.1, ?_⟩, fun h7 => ⟨rfl, ?_⟩⟩⟩, fun h5 => ⟨rfl, ?_⟩⟩
    · intro r5 σ4 g4 B p hR
      have g2 := hR.adv.2 σ2 g
      have hk : tK B (tN B p) = 2 := by have := g2.2.2.2.2.2.2.2.1; omega
      have hv := g2.2.2.2.2.2.2.2.2.2.2.2.1 hk
      rw [un B p hR, if_pos hk, if_pos (by omega)]
      exact (g2.2.2.2.2.fl g4).2.tr g2.1 g2.2.1
    · intro σ6 g6 B p hR
      have g2 := hR.adv.2 σ2 g
      have hk : tK B (tN B p) = 2 := by have := g2.2.2.2.2.2.2.2.1; omega
      have hv := g2.2.2.2.2.2.2.2.2.2.2.2.1 hk
      have g3 := g2.2.2.2.2.adv.2 σ6 g6
      rw [un B p hR, if_pos hk, if_neg (by omega)]
      exact ⟨hv, g2.1.tr g3.1, g3.2.1.trans g2.2.1, g3.2.2.1.trans g2.2.2.1, g3.2.2.2.1.trans g2.2.2.2.1, g3.2.2.2.2⟩
    · intro r5 σ4 g4 B p hR
      have g2 := hR.adv.2 σ2 g
      have hk : tK B (tN B p) = 2 := by have := g2.2.2.2.2.2.2.2.1; omega
      have hv := g2.2.2.2.2.2.2.2.2.2.2.2.1 hk
      rw [un B p hR, if_pos hk, if_pos (by omega)]
      exact (g2.2.2.2.2.fl g4).2.tr g2.1 g2.2.1
    · intro r5 σ4 g4 B p hR
      have g2 := hR.adv.2 σ2 g
      have hk : ¬ tK B (tN B p) = 2 := by have := g2.2.2.2.2.2.2.2.1; omega
      rw [un B p hR, if_neg hk]
      exact (g2.2.2.2.2.rf g4).2.tr g2.1 g2.2.1
  · intro r2 σ2 g B p hR
    have hs : ¬ (σ1 1 5 = 1 ∧ σ1 1 7 = a) := fun z => by rw [if_pos z] at h; exact h (by decide)
    unfold nmrO
    rw [if_neg (fun z => hs ((hR.wd a).mpr z))]
    exact (hR.rf g).2
def Rd_readNumber_I : List AV → Hp → Nat → Nat → List AV → List AV → Hp → Prop := fun as σ0 pc n st ls σ => (match as with
    | [.inr (.inr (.inl (k, 0, 5))), .inr (.inl a1), .inl a2, .inl a3] => False
    | _ => False)
def Rd_readNumber_ct : Nat → Ct := fun n => match n with
  | 0 => Rd_isWord_cs
  | 1 => Rd_refuse_cs
  | 2 => Rd_advance_cs
  | 3 => Rd_fail_cs
  | _ => Rd_readNumber_cs
set_option maxRecDepth 20000 in
set_option maxHeartbeats 4000000 in
theorem Rd_readNumber_met {l : Launch} {D : va_G} {ad : Nat → Nat} {ca : Nat → ClassId} {L : Nat} {fx : Nat → Int} : ax_MC l D ad ca L fx yX5_readNumber cX5_readNumber 6 (some .int) 6 Rd_readNumber_cs := by
  refine ax_met (oc := 5) (ct := Rd_readNumber_ct) (calls := Rd_readNumber_cl) (bs := Rd_readNumber_bk) (cut := fun pc => false) (f := 6) (I := Rd_readNumber_I) (by decide) rfl rfl Rd_readNumber_ck (List.forall_mem_cons.mpr ⟨ax_cwV Rd_isWord_met (by decide) (by decide) rfl (by decide) rfl (ax_m3 65 (by decide +kernel) rfl) Rd_isWord_w rfl Rd_isWord_ds, List.forall_mem_cons.mpr ⟨ax_cwV Rd_refuse_met (by decide) (by decide) rfl (by decide) rfl (ax_m3 37 (by decide +kernel) rfl) Rd_refuse_w rfl Rd_refuse_ds, List.forall_mem_cons.mpr ⟨ax_cwV Rd_advance_met (by decide) (by decide) rfl (by decide) rfl (ax_m2 166 (by decide +kernel) rfl) Rd_advance_w rfl Rd_advance_ds, List.forall_mem_cons.mpr ⟨ax_cwV Rd_fail_met (by decide) (by decide) rfl (by decide) rfl (ax_m3 41 (by decide +kernel) rfl) Rd_fail_w rfl Rd_fail_ds, fun _ h => absurd h List.not_mem_nil⟩⟩⟩⟩) ?_ ?_
  · intro as σ0 hp hH
    match as, hp with
    | [.inr (.inr (.inl (k, 0, 5))), .inr (.inl a1), .inl a2, .inl a3], hp => exact ⟨rfl, Rd_readNumber_p k a1 a2 a3 σ0 hH hp⟩
  · intro as σ0 hp n pc st ls σ hH hI
    match as, hp, hI with
    | [.inr (.inr (.inl (k, 0, 5))), .inr (.inl a1), .inl a2, .inl a3], hp, hI => exact False.elim hI

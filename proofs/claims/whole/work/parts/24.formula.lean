-- FORMULAS: what comes of a row of items
def jn (op x y : Int) : Int :=
  if op = -7 then (if ¬ x = 0 ∨ ¬ y = 0 then 1 else 0)
  else if op = -8 then (if ¬ x = 0 ∧ ¬ y = 0 then 1 else 0)
  else if op = -9 then (if x < y then 1 else 0)
  else if op = -10 then (if y < x then 1 else 0)
  else if op = -11 then (if x = y then 1 else 0)
  else if op = -12 then wr (x + y)
  else if op = -13 then wr (x - y)
  else if op = -14 then wr (x * y)
  else if op = -15 then (if y = 0 then 0 else iDiv x y)
  else if op = -16 then (if y = 0 then 0 else iRem x y)
  else 0
/-- how many values stand on the stack behind i items -/
def tp (c : Nat → Int) : Nat → Nat
  | 0 => 0
  | i + 1 => if -5 ≤ c i then tp c i + 1 else if c i = -6 then tp c i else tp c i - 1
/-- the values on the stack behind i items -/
def ev (c env : Nat → Int) : Nat → Nat → Int
  | 0 => fun _ => 0
  | i + 1 => if -5 ≤ c i then va_up (ev c env i) (tp c i) (if 0 ≤ c i then c i else env (-1 - c i).toNat)
    else if c i = -6 then va_up (ev c env i) (tp c i - 1) (if ev c env i (tp c i - 1) = 0 then 1 else 0)
    else va_up (ev c env i) (tp c i - 2) (jn (c i) (ev c env i (tp c i - 2)) (ev c env i (tp c i - 1)))
theorem tp_s (c : Nat → Int) (i : Nat) : tp c (i + 1) = if -5 ≤ c i then tp c i + 1 else if c i = -6 then tp c i else tp c i - 1 := rfl
theorem ev_s (c env : Nat → Int) (i : Nat) : ev c env (i + 1) = if -5 ≤ c i then va_up (ev c env i) (tp c i) (if 0 ≤ c i then c i else env (-1 - c i).toNat)
    else if c i = -6 then va_up (ev c env i) (tp c i - 1) (if ev c env i (tp c i - 1) = 0 then 1 else 0)
    else va_up (ev c env i) (tp c i - 2) (jn (c i) (ev c env i (tp c i - 2)) (ev c env i (tp c i - 1))) := rfl
/-- a row of items that can be worked -/
def wfc (c : Nat → Int) (len : Nat) : Prop := ∀ i, i < len → -16 ≤ c i ∧ (-5 ≤ c i → tp c i < 30) ∧ (c i = -6 → 1 ≤ tp c i) ∧ (c i < -6 → 2 ≤ tp c i)
theorem tp_le {c : Nat → Int} {len : Nat} (h : wfc c len) : ∀ i, i ≤ len → tp c i ≤ 30 := by
  intro i
  induction i with
  | zero => intro _; exact Nat.zero_le _
  | succ i ih =>
    intro hi
    have h1 := ih (by omega)
    have h2 := h i (by omega)
    rw [tp_s]
    split
    · have := h2.2.1 (by assumption); omega
    · split <;> omega
theorem tp_ext {c d : Nat → Int} {n : Nat} (h : ∀ j, j < n → c j = d j) : tp c n = tp d n := by
  induction n with
  | zero => rfl
  | succ n ih => rw [tp_s, tp_s, ih (fun j hj => h j (by omega)), h n (by omega)]
theorem ev_ext {c d e f : Nat → Int} {n : Nat} (h : ∀ j, j < n → c j = d j ∧ -16 ≤ c j) (he : ∀ j, j < 5 → e j = f j) : ev c e n = ev d f n := by
  induction n with
  | zero => rfl
  | succ n ih =>
    have i1 := ih (fun j hj => h j (by omega))
    have i2 := h n (by omega)
    rw [ev_s, ev_s, i1, tp_ext (fun j hj => (h j (by omega)).1), i2.1]
    by_cases h5 : -5 ≤ d n
    · rw [if_pos h5, if_pos h5]
      by_cases h0 : 0 ≤ d n
      · rw [if_pos h0, if_pos h0]
      · rw [if_neg h0, if_neg h0, he _ (by omega)]
    · rw [if_neg h5, if_neg h5]
def env5 (a b c d e : Int) : Nat → Int := fun j => if j = 0 then a else if j = 1 then b else if j = 2 then c else if j = 3 then d else e
def fO (k : Nat) : Prop := k = 43 ∨ k = 47 ∨ k = 59 ∨ k = 63
def Fo_clear_pre (_ : Nat) (_ : Hp) : Prop := True
def Fo_clear_post (k : Nat) (σ : Hp) (σ' : Hp) : Prop := σ' = hp (hp (hp σ k 3 0) k 4 0) k 5 0
def Fo_clear_bk : List (Nat × List Item) := [(0, [(.aload_n 0, 1, [], []), (.iconst 0, 1, [], []), (.putfield 19, 3, [2, 3, 0, 0, 0, 0], []), (.aload_n 0, 1, [], []), (.iconst 0, 1, [], []), (.putfield 23, 3, [2, 4, 0, 0, 0, 0], []), (.aload_n 0, 1, [], []), (.iconst 0, 1, [], []), (.putfield 26, 3, [2, 5, 1, 0, 0, 0], []), (.return_, 1, [], [])])]
def Fo_clear_cl : List (Instr × Nat) := []
set_option maxRecDepth 20000 in
theorem Fo_clear_ck : Fo_clear_bk.all (fun b => ax_chB 2 1 cX2_clear Fo_clear_cl b.1 b.2) = true := by decide +kernel
def Fo_clear_cs : Ct := (1, 3, 0, (0, 0), fun as σ => (match as with
    | [.inr (.inr (.inl (k, 0, 2)))] => Fo_clear_pre k σ
    | _ => False), fun as σ r σ' => (match as with
    | [.inr (.inr (.inl (k, 0, 2)))] => Fo_clear_post k σ σ'
    | _ => False))
theorem Fo_clear_w : ∀ w ∈ ([.instanceMethod yX2_clear, .selects yX2_clear.cls yX2_clear yX2_clear, .initialized yX2_clear.cls, .code yX2_clear cX2_clear 1 none] : List Cond), w ∈ ax_tb := ax_w4 (ax_m2 163 (by decide +kernel) rfl) (ax_m2 164 (by decide +kernel) rfl) (ax_m1 9 (by decide +kernel) rfl) (ax_m2 165 (by decide +kernel) rfl)
theorem Fo_clear_ds : yX2_clear.cls ≠ "java/lang/invoke/MethodHandle" ∧ yX2_clear.cls ≠ "java/lang/invoke/VarHandle" ∧ (parseMethodDescriptor yX2_clear.desc).map (fun d => d.parameters.length) = some 0 := by decide +kernel
def Fo_clear_vc : Prop := ∀ (k : Nat) (σ : Hp), ax_H σ → Fo_clear_pre k σ →
  ∀ σ1 : Hp, σ1 = hp σ k 3 0 →
  ∀ σ2 : Hp, σ2 = hp σ1 k 4 0 →
  ((0 : Int) = 0 ∨ (0 : Int) = 1) ∧
  ∀ σ3 : Hp, σ3 = hp σ2 k 5 0 →
  Fo_clear_post k σ σ3
theorem Fo_clear_p : Fo_clear_vc := by
  intro k σ hH hp
  rintro σ1 rfl σ2 rfl
  exact ⟨Or.inl rfl, fun σ3 h => h⟩
def Fo_clear_I : List AV → Hp → Nat → Nat → List AV → List AV → Hp → Prop := fun as σ0 pc n st ls σ => (match as with
    | [.inr (.inr (.inl (k, 0, 2)))] => False
    | _ => False)
def Fo_clear_ct : Nat → Ct := fun n => match n with
  | _ => Fo_clear_cs
set_option maxRecDepth 20000 in
set_option maxHeartbeats 4000000 in
theorem Fo_clear_met {l : Launch} {D : va_G} {ad : Nat → Nat} {ca : Nat → ClassId} {L : Nat} {fx : Nat → Int} : ax_MC l D ad ca L fx yX2_clear cX2_clear 1 none 1 Fo_clear_cs := by
  refine ax_met (oc := 2) (ct := Fo_clear_ct) (calls := Fo_clear_cl) (bs := Fo_clear_bk) (cut := fun pc => false) (f := 2) (I := Fo_clear_I) (by decide) rfl rfl Fo_clear_ck (fun _ h => absurd h List.not_mem_nil) ?_ ?_
  · intro as σ0 hp hH
    match as, hp with
    | [.inr (.inr (.inl (k, 0, 2)))], hp => exact ⟨rfl, Fo_clear_p k σ0 hH hp⟩
  · intro as σ0 hp n pc st ls σ hH hI
    match as, hp, hI with
    | [.inr (.inr (.inl (k, 0, 2)))], hp, hI => exact False.elim hI
def Fo_append_pre (k : Nat) (_ : Int) (σ : Hp) : Prop := 0 ≤ σ k 3 ∧ σ k 3 ≤ 280
def Fo_append_post (k : Nat) (a : Int) (σ : Hp) (σ' : Hp) : Prop := σ' = if 280 ≤ σ k 3 then σ else hp (hp σ (k + 1) (σ k 3).toNat a) k 3 (σ k 3 + 1)
def Fo_append_bk : List (Nat × List Item) := [(0, [(.aload_n 0, 1, [], []), (.getfield 19, 3, [2, 3, 0, 0, 0, 0], []), (.sipush 280, 3, [], []), (.if_icmp .ge 23, 3, [30], []), (.aload_n 0, 1, [], []), (.getfield 9, 3, [2, 0, 4, 1, 1, 280], []), (.aload_n 0, 1, [], []), (.getfield 19, 3, [2, 3, 0, 0, 0, 0], []), (.iload_n 1, 1, [], []), (.iastore, 1, [], []), (.aload_n 0, 1, [], []), (.dup, 1, [], []), (.getfield 19, 3, [2, 3, 0, 0, 0, 0], []), (.iconst 1, 1, [], []), (.iadd, 1, [], []), (.putfield 19, 3, [2, 3, 0, 0, 0, 0], [])]),
  (30, [(.return_, 1, [], [])])]
def Fo_append_cl : List (Instr × Nat) := []
set_option maxRecDepth 20000 in
theorem Fo_append_ck : Fo_append_bk.all (fun b => ax_chB 2 2 cX2_append Fo_append_cl b.1 b.2) = true := by decide +kernel
def Fo_append_cs : Ct := (2, 3, 0, (0, 0), fun as σ => (match as with
    | [.inr (.inr (.inl (k, 0, 2))), .inl a1] => Fo_append_pre k a1 σ
    | _ => False), fun as σ r σ' => (match as with
    | [.inr (.inr (.inl (k, 0, 2))), .inl a1] => Fo_append_post k a1 σ σ'
    | _ => False))
theorem Fo_append_w : ∀ w ∈ ([.instanceMethod yX2_append, .selects yX2_append.cls yX2_append yX2_append, .initialized yX2_append.cls, .code yX2_append cX2_append 2 none] : List Cond), w ∈ ax_tb := ax_w4 (ax_m3 107 (by decide +kernel) rfl) (ax_m3 108 (by decide +kernel) rfl) (ax_m1 9 (by decide +kernel) rfl) (ax_m3 109 (by decide +kernel) rfl)
theorem Fo_append_ds : yX2_append.cls ≠ "java/lang/invoke/MethodHandle" ∧ yX2_append.cls ≠ "java/lang/invoke/VarHandle" ∧ (parseMethodDescriptor yX2_append.desc).map (fun d => d.parameters.length) = some 1 := by decide +kernel
def Fo_append_vc : Prop := ∀ (k : Nat) (a1 : Int) (σ : Hp), ax_H σ → Fo_append_pre k a1 σ →
  (280 ≤ σ k 3 →
    Fo_append_post k a1 σ σ) ∧
  (¬ (280 ≤ σ k 3) →
    (0 ≤ σ k 3 ∧ σ k 3 < 280) ∧
    ∀ σ1 : Hp, σ1 = hp σ (k + 1) (σ k 3).toNat a1 →
    ∀ σ2 : Hp, σ2 = hp σ1 k 3 (wr ((σ1 k 3) + 1)) →
    Fo_append_post k a1 σ σ2)
theorem Fo_append_p : Fo_append_vc := by
  intro k a σ hH hp
  obtain ⟨h0, h1⟩ := hp
  refine ⟨fun h => by unfold Fo_append_post; rw [if_pos h], fun h => ⟨⟨h0, by omega⟩, ?_⟩⟩
  rintro σ1 rfl σ2 rfl
  unfold Fo_append_post
  rw [if_neg h, hp_ne (by omega), wr1 h0 (by omega)]
def Fo_append_I : List AV → Hp → Nat → Nat → List AV → List AV → Hp → Prop := fun as σ0 pc n st ls σ => (match as with
    | [.inr (.inr (.inl (k, 0, 2))), .inl a1] => False
    | _ => False)
def Fo_append_ct : Nat → Ct := fun n => match n with
  | _ => Fo_append_cs
set_option maxRecDepth 20000 in
set_option maxHeartbeats 4000000 in
theorem Fo_append_met {l : Launch} {D : va_G} {ad : Nat → Nat} {ca : Nat → ClassId} {L : Nat} {fx : Nat → Int} : ax_MC l D ad ca L fx yX2_append cX2_append 2 none 1 Fo_append_cs := by
  refine ax_met (oc := 2) (ct := Fo_append_ct) (calls := Fo_append_cl) (bs := Fo_append_bk) (cut := fun pc => false) (f := 3) (I := Fo_append_I) (by decide) rfl rfl Fo_append_ck (fun _ h => absurd h List.not_mem_nil) ?_ ?_
  · intro as σ0 hp hH
    match as, hp with
    | [.inr (.inr (.inl (k, 0, 2))), .inl a1], hp => exact ⟨rfl, Fo_append_p k a1 σ0 hH hp⟩
  · intro as σ0 hp n pc st ls σ hH hI
    match as, hp, hI with
    | [.inr (.inr (.inl (k, 0, 2))), .inl a1], hp, hI => exact False.elim hI
def Fo_join_pre (_ _ _ : Int) (_ : Hp) : Prop := True
def Fo_join_post (a x y : Int) (σ : Hp) (r : Int) (σ' : Hp) : Prop := σ' = σ ∧ r = jn a x y
def Fo_join_bk : List (Nat × List Item) := [(0, [(.iload_n 0, 1, [], []), (.tableswitch 152 (-16) (-7) #[140, 128, 124, 120, 116, 105, 94, 83, 69, 55], 55, [], [((-16), 141), ((-15), 129), ((-14), 125), ((-13), 121), ((-12), 117), ((-11), 106), ((-10), 95), ((-9), 84), ((-8), 70), ((-7), 56), (0, 153)])]),
  (56, [(.iload_n 1, 1, [], []), (.ifCond .ne 7, 3, [64], []), (.iload_n 2, 1, [], []), (.ifCond .eq 7, 3, [68], [])]),
  (64, [(.iconst 1, 1, [], []), (.goto 4, 3, [69], [])]),
  (68, [(.iconst 0, 1, [], [])]),
  (69, [(.ireturn, 1, [], [])]),
  (70, [(.iload_n 1, 1, [], []), (.ifCond .eq 11, 3, [82], []), (.iload_n 2, 1, [], []), (.ifCond .eq 7, 3, [82], []), (.iconst 1, 1, [], []), (.goto 4, 3, [83], [])]),
  (82, [(.iconst 0, 1, [], [])]),
  (83, [(.ireturn, 1, [], [])]),
  (84, [(.iload_n 1, 1, [], []), (.iload_n 2, 1, [], []), (.if_icmp .ge 7, 3, [93], []), (.iconst 1, 1, [], []), (.goto 4, 3, [94], [])]),
  (93, [(.iconst 0, 1, [], [])]),
  (94, [(.ireturn, 1, [], [])]),
  (95, [(.iload_n 1, 1, [], []), (.iload_n 2, 1, [], []), (.if_icmp .le 7, 3, [104], []), (.iconst 1, 1, [], []), (.goto 4, 3, [105], [])]),
  (104, [(.iconst 0, 1, [], [])]),
  (105, [(.ireturn, 1, [], [])]),
  (106, [(.iload_n 1, 1, [], []), (.iload_n 2, 1, [], []), (.if_icmp .ne 7, 3, [115], []), (.iconst 1, 1, [], []), (.goto 4, 3, [116], [])]),
  (115, [(.iconst 0, 1, [], [])]),
  (116, [(.ireturn, 1, [], [])]),
  (117, [(.iload_n 1, 1, [], []), (.iload_n 2, 1, [], []), (.iadd, 1, [], []), (.ireturn, 1, [], [])]),
  (121, [(.iload_n 1, 1, [], []), (.iload_n 2, 1, [], []), (.isub, 1, [], []), (.ireturn, 1, [], [])]),
  (125, [(.iload_n 1, 1, [], []), (.iload_n 2, 1, [], []), (.imul, 1, [], []), (.ireturn, 1, [], [])]),
  (129, [(.iload_n 2, 1, [], []), (.ifCond .ne 7, 3, [137], []), (.iconst 0, 1, [], []), (.goto 6, 3, [140], [])]),
  (137, [(.iload_n 1, 1, [], []), (.iload_n 2, 1, [], []), (.idiv, 1, [], [])]),
  (140, [(.ireturn, 1, [], [])]),
  (141, [(.iload_n 2, 1, [], []), (.ifCond .ne 7, 3, [149], []), (.iconst 0, 1, [], []), (.goto 6, 3, [152], [])]),
  (149, [(.iload_n 1, 1, [], []), (.iload_n 2, 1, [], []), (.irem, 1, [], [])]),
  (152, [(.ireturn, 1, [], [])]),
  (153, [(.iconst 0, 1, [], []), (.ireturn, 1, [], [])])]
def Fo_join_cl : List (Instr × Nat) := []
set_option maxRecDepth 20000 in
theorem Fo_join_ck : Fo_join_bk.all (fun b => ax_chB 2 3 cX2_join Fo_join_cl b.1 b.2) = true := by decide +kernel
def Fo_join_cs : Ct := (3, 0, 1, (0, 0), fun as σ => (match as with
    | [.inl a1, .inl a2, .inl a3] => Fo_join_pre a1 a2 a3 σ
    | _ => False), fun as σ r σ' => (match as with
    | [.inl a1, .inl a2, .inl a3] => Fo_join_post a1 a2 a3 σ r σ'
    | _ => False))
theorem Fo_join_w : ∀ w ∈ ([.static yX2_join, .initialized yX2_join.cls, .code yX2_join cX2_join 3 (some .int)] : List Cond), w ∈ ax_tb := ax_w3 (ax_m3 166 (by decide +kernel) rfl) (ax_m1 9 (by decide +kernel) rfl) (ax_m3 167 (by decide +kernel) rfl)
theorem Fo_join_ds : yX2_join.cls ≠ "java/lang/invoke/MethodHandle" ∧ yX2_join.cls ≠ "java/lang/invoke/VarHandle" ∧ (parseMethodDescriptor yX2_join.desc).map (fun d => d.parameters.length) = some 3 := by decide +kernel
def Fo_join_vc : Prop := ∀ (a1 : Int) (a2 : Int) (a3 : Int) (σ : Hp), ax_H σ → Fo_join_pre a1 a2 a3 σ →
  (a1 = (-16) →
    (¬ a3 = 0 →
      ¬ a3 = 0 ∧
      Fo_join_post a1 a2 a3 σ (iRem a2 a3) σ) ∧
    (¬ (¬ a3 = 0) →
      Fo_join_post a1 a2 a3 σ 0 σ)) ∧
  (¬ a1 = (-16) →
    (a1 = (-15) →
    (¬ a3 = 0 →
      ¬ a3 = 0 ∧
      Fo_join_post a1 a2 a3 σ (iDiv a2 a3) σ) ∧
    (¬ (¬ a3 = 0) →
      Fo_join_post a1 a2 a3 σ 0 σ)) ∧
  (¬ a1 = (-15) →
    (a1 = (-14) →
    Fo_join_post a1 a2 a3 σ (wr (a2 * a3)) σ) ∧
  (¬ a1 = (-14) →
    (a1 = (-13) →
    Fo_join_post a1 a2 a3 σ (wr (a2 - a3)) σ) ∧
  (¬ a1 = (-13) →
    (a1 = (-12) →
    Fo_join_post a1 a2 a3 σ (wr (a2 + a3)) σ) ∧
  (¬ a1 = (-12) →
    (a1 = (-11) →
    (¬ a2 = a3 →
      Fo_join_post a1 a2 a3 σ 0 σ) ∧
    (¬ (¬ a2 = a3) →
      Fo_join_post a1 a2 a3 σ 1 σ)) ∧
  (¬ a1 = (-11) →
    (a1 = (-10) →
    (a2 ≤ a3 →
      Fo_join_post a1 a2 a3 σ 0 σ) ∧
    (¬ (a2 ≤ a3) →
      Fo_join_post a1 a2 a3 σ 1 σ)) ∧
  (¬ a1 = (-10) →
    (a1 = (-9) →
    (a3 ≤ a2 →
      Fo_join_post a1 a2 a3 σ 0 σ) ∧
    (¬ (a3 ≤ a2) →
      Fo_join_post a1 a2 a3 σ 1 σ)) ∧
  (¬ a1 = (-9) →
    (a1 = (-8) →
    (a2 = 0 →
      Fo_join_post a1 a2 a3 σ 0 σ) ∧
    (¬ (a2 = 0) →
      (a3 = 0 →
        Fo_join_post a1 a2 a3 σ 0 σ) ∧
      (¬ (a3 = 0) →
        Fo_join_post a1 a2 a3 σ 1 σ))) ∧
  (¬ a1 = (-8) →
    (a1 = (-7) →
    (¬ a2 = 0 →
      Fo_join_post a1 a2 a3 σ 1 σ) ∧
    (¬ (¬ a2 = 0) →
      (a3 = 0 →
        Fo_join_post a1 a2 a3 σ 0 σ) ∧
      (¬ (a3 = 0) →
        Fo_join_post a1 a2 a3 σ 1 σ))) ∧
  (¬ a1 = (-7) →
    Fo_join_post a1 a2 a3 σ 0 σ))))))))))
theorem Fo_join_p : Fo_join_vc := by
  intro a x y σ hH hp
  refine ⟨fun h => ?_, fun h16 => ⟨fun h => ?_, fun h15 => ⟨fun h => ?_, fun h14 => ⟨fun h => ?_, fun h13 => ⟨fun h => ?_, fun h12 => ⟨fun h => ?_, fun h11 => ⟨fun h => ?_, fun h10 => ⟨fun h => ?_, fun h9 => ⟨fun h => ?_, fun h8 => ⟨fun h => ?_, fun h7 => ?_⟩⟩⟩⟩⟩⟩⟩⟩⟩⟩
  · subst h; exact ⟨fun h => ⟨h, rfl, by simp [jn, h]⟩, fun h => ⟨rfl, by simp [jn, Classical.not_not.mp h]⟩⟩
  · subst h; exact ⟨fun h => ⟨h, rfl, by simp [jn, h]⟩, fun h => ⟨rfl, by simp [jn, Classical.not_not.mp h]⟩⟩
  · subst h; exact ⟨rfl, by simp [jn]⟩
  · subst h; exact ⟨rfl, by simp [jn]⟩
  · subst h; exact ⟨rfl, by simp [jn]⟩
  · subst h; exact ⟨fun h => ⟨rfl, by simp [jn, h]⟩, fun h => ⟨rfl, by simp [jn, Classical.not_not.mp h]⟩⟩
  · subst h; exact ⟨fun h => ⟨rfl, by simp [jn]; omega⟩, fun h => ⟨rfl, by simp [jn]; omega⟩⟩
  · subst h; exact ⟨fun h => ⟨rfl, by simp [jn]; omega⟩, fun h => ⟨rfl, by simp [jn]; omega⟩⟩
  · subst h; exact ⟨fun h => ⟨rfl, by simp [jn, h]⟩, fun h => ⟨fun h2 => ⟨rfl, by simp [jn, h2]⟩, fun h2 => ⟨rfl, by simp [jn, h, h2]⟩⟩⟩
  · subst h; exact ⟨fun h => ⟨rfl, by simp [jn, h]⟩, fun h => ⟨fun h2 => ⟨rfl, by simp [jn, Classical.not_not.mp h, h2]⟩, fun h2 => ⟨rfl, by simp [jn, h2]⟩⟩⟩
  · exact ⟨rfl, by simp [jn, h7, h8, h9, h10, h11, h12, h13, h14, h15, h16]⟩
def Fo_join_I : List AV → Hp → Nat → Nat → List AV → List AV → Hp → Prop := fun as σ0 pc n st ls σ => (match as with
    | [.inl a1, .inl a2, .inl a3] => False
    | _ => False)
def Fo_join_ct : Nat → Ct := fun n => match n with
  | _ => Fo_join_cs
set_option maxRecDepth 20000 in
set_option maxHeartbeats 4000000 in
theorem Fo_join_met {l : Launch} {D : va_G} {ad : Nat → Nat} {ca : Nat → ClassId} {L : Nat} {fx : Nat → Int} : ax_MC l D ad ca L fx yX2_join cX2_join 3 (some .int) 1 Fo_join_cs := by
  refine ax_met (oc := 2) (ct := Fo_join_ct) (calls := Fo_join_cl) (bs := Fo_join_bk) (cut := fun pc => false) (f := 28) (I := Fo_join_I) (by decide) rfl rfl Fo_join_ck (fun _ h => absurd h List.not_mem_nil) ?_ ?_
  · intro as σ0 hp hH
    match as, hp with
    | [.inl a1, .inl a2, .inl a3], hp => exact ⟨rfl, Fo_join_p a1 a2 a3 σ0 hH hp⟩
  · intro as σ0 hp n pc st ls σ hH hI
    match as, hp, hI with
    | [.inl a1, .inl a2, .inl a3], hp, hI => exact False.elim hI
def Fo_value_pre (k : Nat) (_ _ _ _ _ : Int) (σ : Hp) : Prop := 0 ≤ σ k 3 ∧ σ k 3 ≤ 280 ∧ wfc (σ (k + 1)) (σ k 3).toNat ∧ 1 ≤ tp (σ (k + 1)) (σ k 3).toNat
def Fo_value_post (k : Nat) (a b c d e : Int) (σ : Hp) (r : Int) (σ' : Hp) : Prop := Fr [k + 2, k + 3] σ σ' ∧ r = ev (σ (k + 1)) (env5 a b c d e) (σ k 3).toNat 0
def Fo_value_I43 (k : Nat) (a b c d e : Int) (σ0 : Hp) (n : Nat) (v6 v7 : Int) (σ : Hp) : Prop :=
  ∃ i : Nat, v7 = i ∧ i ≤ (σ0 k 3).toNat ∧ v6 = (tp (σ0 (k + 1)) i : Nat) ∧ n = (σ0 k 3).toNat - i ∧ Fr [k + 2, k + 3] σ0 σ ∧ (∀ j, j < 5 → σ (k + 2) j = env5 a b c d e j) ∧ ∀ j, j < tp (σ0 (k + 1)) i → σ (k + 3) j = ev (σ0 (k + 1)) (env5 a b c d e) i j
def Fo_value_bk : List (Nat × List Item) := [(0, [(.aload_n 0, 1, [], []), (.getfield 13, 3, [2, 1, 4, 2, 1, 5], []), (.iconst 0, 1, [], []), (.iload_n 1, 1, [], []), (.iastore, 1, [], []), (.aload_n 0, 1, [], []), (.getfield 13, 3, [2, 1, 4, 2, 1, 5], []), (.iconst 1, 1, [], []), (.iload_n 2, 1, [], []), (.iastore, 1, [], []), (.aload_n 0, 1, [], []), (.getfield 13, 3, [2, 1, 4, 2, 1, 5], []), (.iconst 2, 1, [], []), (.iload_n 3, 1, [], []), (.iastore, 1, [], []), (.aload_n 0, 1, [], []), (.getfield 13, 3, [2, 1, 4, 2, 1, 5], []), (.iconst 3, 1, [], []), (.iload 4, 2, [], []), (.iastore, 1, [], []), (.aload_n 0, 1, [], []), (.getfield 13, 3, [2, 1, 4, 2, 1, 5], []), (.iconst 4, 1, [], []), (.iload 5, 2, [], []), (.iastore, 1, [], []), (.iconst 0, 1, [], []), (.istore 6, 2, [], []), (.iconst 0, 1, [], []), (.istore 7, 2, [], [])]),
  (43, [(.iload 7, 2, [], []), (.aload_n 0, 1, [], []), (.getfield 19, 3, [2, 3, 0, 0, 0, 0], []), (.if_icmp .ge 159, 3, [208], []), (.iload 7, 2, [], []), (.sipush 280, 3, [], []), (.if_icmp .ge 151, 3, [208], []), (.aload_n 0, 1, [], []), (.getfield 9, 3, [2, 0, 4, 1, 1, 280], []), (.iload 7, 2, [], []), (.iaload, 1, [], []), (.istore 8, 2, [], []), (.iload 8, 2, [], []), (.bipush (-5), 2, [], []), (.if_icmp .lt 44, 3, [117], []), (.iload 6, 2, [], []), (.bipush 30, 2, [], []), (.if_icmp .lt 5, 3, [85], []), (.iconst 0, 1, [], []), (.ireturn, 1, [], [])]),
  (85, [(.aload_n 0, 1, [], []), (.getfield 16, 3, [2, 2, 4, 3, 1, 30], []), (.iload 6, 2, [], []), (.iload 8, 2, [], []), (.ifCond .lt 8, 3, [101], []), (.iload 8, 2, [], []), (.goto 12, 3, [110], [])]),
  (101, [(.aload_n 0, 1, [], []), (.getfield 13, 3, [2, 1, 4, 2, 1, 5], []), (.iconst (-1), 1, [], []), (.iload 8, 2, [], []), (.isub, 1, [], []), (.iaload, 1, [], [])]),
  (110, [(.iastore, 1, [], []), (.iinc 6 1, 3, [], []), (.goto 88, 3, [202], [])]),
  (117, [(.iload 8, 2, [], []), (.bipush (-6), 2, [], []), (.if_icmp .ne 40, 3, [161], []), (.iload 6, 2, [], []), (.iconst 1, 1, [], []), (.if_icmp .ge 5, 3, [132], []), (.iconst 0, 1, [], []), (.ireturn, 1, [], [])]),
  (132, [(.aload_n 0, 1, [], []), (.getfield 16, 3, [2, 2, 4, 3, 1, 30], []), (.iload 6, 2, [], []), (.iconst 1, 1, [], []), (.isub, 1, [], []), (.aload_n 0, 1, [], []), (.getfield 16, 3, [2, 2, 4, 3, 1, 30], []), (.iload 6, 2, [], []), (.iconst 1, 1, [], []), (.isub, 1, [], []), (.iaload, 1, [], []), (.ifCond .ne 7, 3, [156], []), (.iconst 1, 1, [], []), (.goto 4, 3, [157], [])]),
  (156, [(.iconst 0, 1, [], [])]),
  (157, [(.iastore, 1, [], []), (.goto 44, 3, [202], [])]),
  (161, [(.iload 6, 2, [], []), (.iconst 2, 1, [], []), (.if_icmp .ge 5, 3, [169], []), (.iconst 0, 1, [], []), (.ireturn, 1, [], [])]),
  (169, [(.iinc 6 (-1), 3, [], []), (.aload_n 0, 1, [], []), (.getfield 16, 3, [2, 2, 4, 3, 1, 30], []), (.iload 6, 2, [], []), (.iconst 1, 1, [], []), (.isub, 1, [], []), (.iload 8, 2, [], []), (.aload_n 0, 1, [], []), (.getfield 16, 3, [2, 2, 4, 3, 1, 30], []), (.iload 6, 2, [], []), (.iconst 1, 1, [], []), (.isub, 1, [], []), (.iaload, 1, [], []), (.aload_n 0, 1, [], []), (.getfield 16, 3, [2, 2, 4, 3, 1, 30], []), (.iload 6, 2, [], []), (.iaload, 1, [], []), (.invokestatic 30, 3, [0], []), (.iastore, 1, [], [])]),
  (202, [(.iinc 7 1, 3, [], []), (.goto (-162), 3, [43], [])]),
  (208, [(.aload_n 0, 1, [], []), (.getfield 16, 3, [2, 2, 4, 3, 1, 30], []), (.iconst 0, 1, [], []), (.iaload, 1, [], []), (.ireturn, 1, [], [])])]
def Fo_value_cl : List (Instr × Nat) := [(.invokestatic 30, 0)]
set_option maxRecDepth 20000 in
theorem Fo_value_ck : Fo_value_bk.all (fun b => ax_chB 2 9 cX2_value Fo_value_cl b.1 b.2) = true := by decide +kernel
def Fo_value_cs : Ct := (6, 3, 1, (0, 0), fun as σ => (match as with
    | [.inr (.inr (.inl (k, 0, 2))), .inl a1, .inl a2, .inl a3, .inl a4, .inl a5] => Fo_value_pre k a1 a2 a3 a4 a5 σ
    | _ => False), fun as σ r σ' => (match as with
    | [.inr (.inr (.inl (k, 0, 2))), .inl a1, .inl a2, .inl a3, .inl a4, .inl a5] => Fo_value_post k a1 a2 a3 a4 a5 σ r σ'
    | _ => False))
theorem Fo_value_w : ∀ w ∈ ([.instanceMethod yX2_value, .selects yX2_value.cls yX2_value yX2_value, .initialized yX2_value.cls, .code yX2_value cX2_value 9 (some .int)] : List Cond), w ∈ ax_tb := ax_w4 (ax_m3 162 (by decide +kernel) rfl) (ax_m3 163 (by decide +kernel) rfl) (ax_m1 9 (by decide +kernel) rfl) (ax_m3 164 (by decide +kernel) rfl)
theorem Fo_value_ds : yX2_value.cls ≠ "java/lang/invoke/MethodHandle" ∧ yX2_value.cls ≠ "java/lang/invoke/VarHandle" ∧ (parseMethodDescriptor yX2_value.desc).map (fun d => d.parameters.length) = some 5 := by decide +kernel
def Fo_value_vc : Prop := ∀ (k : Nat) (a1 : Int) (a2 : Int) (a3 : Int) (a4 : Int) (a5 : Int) (σ : Hp), ax_H σ → Fo_value_pre k a1 a2 a3 a4 a5 σ →
  (0 ≤ (0 : Int) ∧ (0 : Int) < 5) ∧
  ∀ σ1 : Hp, σ1 = hp σ (k + 2) 0 a1 →
  (0 ≤ (1 : Int) ∧ (1 : Int) < 5) ∧
  ∀ σ2 : Hp, σ2 = hp σ1 (k + 2) 1 a2 →
  (0 ≤ (2 : Int) ∧ (2 : Int) < 5) ∧
  ∀ σ3 : Hp, σ3 = hp σ2 (k + 2) 2 a3 →
  (0 ≤ (3 : Int) ∧ (3 : Int) < 5) ∧
  ∀ σ4 : Hp, σ4 = hp σ3 (k + 2) 3 a4 →
  (0 ≤ (4 : Int) ∧ (4 : Int) < 5) ∧
  ∀ σ5 : Hp, σ5 = hp σ4 (k + 2) 4 a5 →
  ∃ n' : Nat, k = k ∧ a1 = a1 ∧ a2 = a2 ∧ a3 = a3 ∧ a4 = a4 ∧ a5 = a5 ∧ Fo_value_I43 k a1 a2 a3 a4 a5 σ n' 0 0 σ5
def Fo_value_vc43 : Prop := ∀ (k : Nat) (a1 : Int) (a2 : Int) (a3 : Int) (a4 : Int) (a5 : Int) (σ0 : Hp), Fo_value_pre k a1 a2 a3 a4 a5 σ0 → ∀ (n : Nat) (v6 : Int) (v7 : Int) (σ : Hp), ax_H σ → Fo_value_I43 k a1 a2 a3 a4 a5 σ0 n v6 v7 σ →
  (σ k 3 ≤ v7 →
    (0 ≤ (0 : Int) ∧ (0 : Int) < 30) ∧
    Fo_value_post k a1 a2 a3 a4 a5 σ0 (σ (k + 3) 0) σ) ∧
  (¬ (σ k 3 ≤ v7) →
    (280 ≤ v7 →
      (0 ≤ (0 : Int) ∧ (0 : Int) < 30) ∧
      Fo_value_post k a1 a2 a3 a4 a5 σ0 (σ (k + 3) 0) σ) ∧
    (¬ (280 ≤ v7) →
      (0 ≤ v7 ∧ v7 < 280) ∧
      (σ (k + 1) v7.toNat < (-5) →
        (¬ σ (k + 1) v7.toNat = (-6) →
          (2 ≤ v6 →
            (0 ≤ wr ((wr (v6 + (-1))) - 1) ∧ wr ((wr (v6 + (-1))) - 1) < 30) ∧
            (0 ≤ wr (v6 + (-1)) ∧ wr (v6 + (-1)) < 30) ∧
            Fo_join_pre (σ (k + 1) v7.toNat) (σ (k + 3) (wr ((wr (v6 + (-1))) - 1)).toNat) (σ (k + 3) (wr (v6 + (-1))).toNat) σ ∧
            ∀ (r2 : Int) (σ1 : Hp), Fo_join_post (σ (k + 1) v7.toNat) (σ (k + 3) (wr ((wr (v6 + (-1))) - 1)).toNat) (σ (k + 3) (wr (v6 + (-1))).toNat) σ r2 σ1 →
            (0 ≤ wr ((wr (v6 + (-1))) - 1) ∧ wr ((wr (v6 + (-1))) - 1) < 30) ∧
            ∀ σ3 : Hp, σ3 = hp σ1 (k + 3) (wr ((wr (v6 + (-1))) - 1)).toNat r2 →
            ∃ n' : Nat, n' < n ∧ k = k ∧ a1 = a1 ∧ a2 = a2 ∧ a3 = a3 ∧ a4 = a4 ∧ a5 = a5 ∧ Fo_value_I43 k a1 a2 a3 a4 a5 σ0 n' (wr (v6 + (-1))) (wr (v7 + 1)) σ3) ∧
          (¬ (2 ≤ v6) →
            Fo_value_post k a1 a2 a3 a4 a5 σ0 0 σ)) ∧
        (¬ (¬ σ (k + 1) v7.toNat = (-6)) →
          (1 ≤ v6 →
            (0 ≤ wr (v6 - 1) ∧ wr (v6 - 1) < 30) ∧
            (¬ σ (k + 3) (wr (v6 - 1)).toNat = 0 →
              (0 ≤ wr (v6 - 1) ∧ wr (v6 - 1) < 30) ∧
              ∀ σ4 : Hp, σ4 = hp σ (k + 3) (wr (v6 - 1)).toNat 0 →
              ∃ n' : Nat, n' < n ∧ k = k ∧ a1 = a1 ∧ a2 = a2 ∧ a3 = a3 ∧ a4 = a4 ∧ a5 = a5 ∧ Fo_value_I43 k a1 a2 a3 a4 a5 σ0 n' v6 (wr (v7 + 1)) σ4) ∧
            (¬ (¬ σ (k + 3) (wr (v6 - 1)).toNat = 0) →
              (0 ≤ wr (v6 - 1) ∧ wr (v6 - 1) < 30) ∧
              ∀ σ5 : Hp, σ5 = hp σ (k + 3) (wr (v6 - 1)).toNat 1 →
              ∃ n' : Nat, n' < n ∧ k = k ∧ a1 = a1 ∧ a2 = a2 ∧ a3 = a3 ∧ a4 = a4 ∧ a5 = a5 ∧ Fo_value_I43 k a1 a2 a3 a4 a5 σ0 n' v6 (wr (v7 + 1)) σ5)) ∧
          (¬ (1 ≤ v6) →
            Fo_value_post k a1 a2 a3 a4 a5 σ0 0 σ))) ∧
      (¬ (σ (k + 1) v7.toNat < (-5)) →
        (v6 < 30 →
          (σ (k + 1) v7.toNat < 0 →
            (0 ≤ wr ((-1) - (σ (k + 1) v7.toNat)) ∧ wr ((-1) - (σ (k + 1) v7.toNat)) < 5) ∧
            (0 ≤ v6 ∧ v6 < 30) ∧
            ∀ σ6 : Hp, σ6 = hp σ (k + 3) v6.toNat (σ (k + 2) (wr ((-1) - (σ (k + 1) v7.toNat))).toNat) →
            ∃ n' : Nat, n' < n ∧ k = k ∧ a1 = a1 ∧ a2 = a2 ∧ a3 = a3 ∧ a4 = a4 ∧ a5 = a5 ∧ Fo_value_I43 k a1 a2 a3 a4 a5 σ0 n' (wr (v6 + 1)) (wr (v7 + 1)) σ6) ∧
          (¬ (σ (k + 1) v7.toNat < 0) →
            (0 ≤ v6 ∧ v6 < 30) ∧
            ∀ σ7 : Hp, σ7 = hp σ (k + 3) v6.toNat (σ (k + 1) v7.toNat) →
            ∃ n' : Nat, n' < n ∧ k = k ∧ a1 = a1 ∧ a2 = a2 ∧ a3 = a3 ∧ a4 = a4 ∧ a5 = a5 ∧ Fo_value_I43 k a1 a2 a3 a4 a5 σ0 n' (wr (v6 + 1)) (wr (v7 + 1)) σ7)) ∧
        (¬ (v6 < 30) →
          Fo_value_post k a1 a2 a3 a4 a5 σ0 0 σ))))
theorem Fo_value_p : Fo_value_vc := by
  intro k a b c d e σ hH hp
  refine ⟨by decide, ?_⟩
  rintro σ1 rfl
  refine ⟨by decide, ?_⟩
  rintro σ2 rfl
  refine ⟨by decide, ?_⟩
  rintro σ3 rfl
  refine ⟨by decide, ?_⟩
  rintro σ4 rfl
  refine ⟨by decide, ?_⟩
  rintro σ5 rfl
  refine ⟨(σ k 3).toNat, rfl, rfl, rfl, rfl, rfl, rfl, 0, rfl, Nat.zero_le _, rfl, rfl, ?_, ?_, fun j hj => absurd hj (Nat.not_lt_zero j)⟩
  · exact Fr.hp (Fr.hp (Fr.hp (Fr.hp (Fr.hp Fr.rf (by simp)) (by simp)) (by simp)) (by simp)) (by simp)
  · intro j hj
    rcases (show j = 0 ∨ j = 1 ∨ j = 2 ∨ j = 3 ∨ j = 4 by omega) with rfl | rfl | rfl | rfl | rfl <;> simp [hp_rd, env5]
theorem Fo_value_p43 : Fo_value_vc43 := by
  intro k a b c d e σ0 hp n v6 v7 σ hH hI
  obtain ⟨p0, p1, hw, ht⟩ := hp
  obtain ⟨i, rfl, hi, rfl, rfl, hf, he, hv⟩ := hI
  have k0 : σ k = σ0 k := hf k (by simp)
  have k1 : σ (k + 1) = σ0 (k + 1) := hf (k + 1) (by simp)
  have htl := tp_le hw i hi
  rw [k0, k1]
  simp only [Int.toNat_natCast]
  generalize hlen : (σ0 k 3).toNat = len at *
  have hl3 : σ0 k 3 = (len : Int) := by omega
  rw [hl3]
  generalize hcc : σ0 (k + 1) = cd at *
  generalize hen : env5 a b c d e = en at *
  have fin : (len : Int) ≤ (i : Int) → (0 ≤ (0 : Int) ∧ (0 : Int) < 30) ∧ Fo_value_post k a b c d e σ0 (σ (k + 3) 0) σ := by
    intro h
    have : i = len := by omega
    subst this
    refine ⟨by decide, hf, ?_⟩
    rw [hv 0 (by omega), hcc, hen, hlen]
  have go : ∀ (σ1 : Hp) (v : Int), v = (tp cd (i + 1) : Nat) → i < len → Fr [k + 2, k + 3] σ0 σ1 → σ1 (k + 2) = σ (k + 2) → (∀ j, j < tp cd (i + 1) → σ1 (k + 3) j = ev cd en (i + 1) j) →
      ∃ n' : Nat, n' < len - i ∧ True ∧ True ∧ True ∧ True ∧ True ∧ True ∧ Fo_value_I43 k a b c d e σ0 n' v (wr ((i : Int) + 1)) σ1 := by
    intro σ1 v hv1 hil hf1 h2 h3
    refine ⟨len - (i + 1), by omega, trivial, trivial, trivial, trivial, trivial, trivial, i + 1, by rw [wr1 (by omega) (by omega)]; simp, by omega, ?_, by rw [hlen], hf1, fun j hj => by rw [h2, hen]; exact he j hj, ?_⟩
    · rw [hcc]; exact hv1
    · rw [hcc, hen]; exact h3
  refine ⟨fun h => fin h, fun h => ⟨fun h2 => absurd h2 (by omega), fun h2 => ⟨⟨by omega, by omega⟩, fun h5 => ⟨fun h6 => ?_, fun h6 => ?_⟩, fun h5 => ?_⟩⟩⟩
  · have hwi := hw i (by omega)
    have ht2 := hwi.2.2.2 (by omega)
    refine ⟨fun _ => ?_, fun h7 => absurd (show (2 : Int) ≤ _ by omega) h7⟩
    have e1 : wr ((tp cd i : Nat) + (-1)) = ((tp cd i - 1 : Nat) : Int) := by unfold wr; omega
    have e2 : wr (((tp cd i - 1 : Nat) : Int) - 1) = ((tp cd i - 2 : Nat) : Int) := by unfold wr; omega
    rw [e1, e2]
    simp only [Int.toNat_natCast]
    refine ⟨⟨by omega, by omega⟩, ⟨by omega, by omega⟩, trivial, ?_⟩
    rintro r σ1 ⟨rfl, rfl⟩
    refine ⟨⟨by omega, by omega⟩, ?_⟩
    rintro σ3 rfl
    have et : tp cd (i + 1) = tp cd i - 1 := by rw [tp_s, if_neg (by omega), if_neg h6]
    refine go _ _ (by rw [et]) (by omega) (Fr.hp hf (by simp)) (hp_ne (by omega)) ?_
    intro j hj
    rw [et] at hj
    rw [ev_s, if_neg (by omega), if_neg h6, hp_rd]
    unfold va_up
    by_cases hj2 : j = tp cd i - 2
    · rw [if_pos ⟨rfl, hj2⟩, if_pos hj2, hv _ (by omega), hv _ (by omega)]
    · rw [if_neg (by omega), if_neg hj2]; exact hv j (by omega)
  · have h6' := Classical.not_not.mp h6
    have hwi := hw i (by omega)
    have ht1 := hwi.2.2.1 h6'
    refine ⟨fun _ => ?_, fun h7 => absurd (show (1 : Int) ≤ _ by omega) h7⟩
    have e1 : wr ((tp cd i : Nat) - 1) = ((tp cd i - 1 : Nat) : Int) := by unfold wr; omega
    rw [e1]
    simp only [Int.toNat_natCast]
    have et : tp cd (i + 1) = tp cd i := by rw [tp_s, if_neg (by omega), if_pos h6']
    have ev1 : ∀ (v : Int), v = (if σ (k + 3) (tp cd i - 1) = 0 then 1 else 0) → ∀ j, j < tp cd (i + 1) → hp σ (k + 3) (tp cd i - 1) v (k + 3) j = ev cd en (i + 1) j := by
      intro v hv1 j hj
      rw [et] at hj
      rw [ev_s, if_neg (by omega), if_pos h6', hp_rd]
      unfold va_up
      by_cases hj2 : j = tp cd i - 1
      · rw [if_pos ⟨rfl, hj2⟩, if_pos hj2, hv1, hv _ (by omega)]
      · rw [if_neg (by omega), if_neg hj2]; exact hv j (by omega)
    refine ⟨⟨by omega, by omega⟩, fun h8 => ⟨⟨by omega, by omega⟩, ?_⟩, fun h8 => ⟨⟨by omega, by omega⟩, ?_⟩⟩
    · rintro σ4 rfl
      exact go _ _ (by rw [et]) (by omega) (Fr.hp hf (by simp)) (hp_ne (by omega)) (ev1 0 (by rw [if_neg h8]))
    · rintro σ4 rfl
      exact go _ _ (by rw [et]) (by omega) (Fr.hp hf (by simp)) (hp_ne (by omega)) (ev1 1 (by rw [if_pos (Classical.not_not.mp h8)]))
  · have hwi := hw i (by omega)
    have ht3 := hwi.2.1 (by omega)
    have et : tp cd (i + 1) = tp cd i + 1 := by rw [tp_s, if_pos (by omega)]
    have ew : wr ((tp cd i : Nat) + 1) = ((tp cd i + 1 : Nat) : Int) := by unfold wr; omega
    rw [ew]
    have ev1 : ∀ (v : Int), v = (if 0 ≤ cd i then cd i else en (-1 - cd i).toNat) → ∀ j, j < tp cd (i + 1) → hp σ (k + 3) (tp cd i) v (k + 3) j = ev cd en (i + 1) j := by
      intro v hv1 j hj
      rw [et] at hj
      rw [ev_s, if_pos (by omega), hp_rd]
      unfold va_up
      by_cases hj2 : j = tp cd i
      · rw [if_pos ⟨rfl, hj2⟩, if_pos hj2, hv1]
      · rw [if_neg (by omega), if_neg hj2]; exact hv j (by omega)
    refine ⟨fun _ => ⟨fun h8 => ?_, fun h8 => ⟨⟨by omega, by omega⟩, ?_⟩⟩, fun h7 => absurd (show _ < (30 : Int) by omega) h7⟩
    · have e1 : wr ((-1) - cd i) = ((-1 - cd i).toNat : Int) := by unfold wr; omega
      rw [e1]
      simp only [Int.toNat_natCast]
      refine ⟨⟨by omega, by omega⟩, ⟨by omega, by omega⟩, ?_⟩
      rintro σ6 rfl
      exact go _ _ (by rw [et]) (by omega) (Fr.hp hf (by simp)) (hp_ne (by omega)) (ev1 _ (by rw [if_neg (by omega)]; exact he _ (by omega)))
    · rintro σ7 rfl
      exact go _ _ (by rw [et]) (by omega) (Fr.hp hf (by simp)) (hp_ne (by omega)) (ev1 _ (by rw [if_pos (by omega)]))
def Fo_value_I : List AV → Hp → Nat → Nat → List AV → List AV → Hp → Prop := fun as σ0 pc n st ls σ => (match as with
    | [.inr (.inr (.inl (k, 0, 2))), .inl a1, .inl a2, .inl a3, .inl a4, .inl a5] => (bif Nat.beq pc 43 then (match st, ls with
      | [], [.inr (.inr (.inl (k', 0, 2))), .inl a1', .inl a2', .inl a3', .inl a4', .inl a5', .inl v6, .inl v7, _] => k = k' ∧ a1 = a1' ∧ a2 = a2' ∧ a3 = a3' ∧ a4 = a4' ∧ a5 = a5' ∧ Fo_value_I43 k a1 a2 a3 a4 a5 σ0 n v6 v7 σ
      | _, _ => False) else False)
    | _ => False)
def Fo_value_ct : Nat → Ct := fun n => match n with
  | 0 => Fo_join_cs
  | _ => Fo_value_cs
set_option maxRecDepth 20000 in
set_option maxHeartbeats 4000000 in
theorem Fo_value_met {l : Launch} {D : va_G} {ad : Nat → Nat} {ca : Nat → ClassId} {L : Nat} {fx : Nat → Int} : ax_MC l D ad ca L fx yX2_value cX2_value 9 (some .int) 2 Fo_value_cs := by
  refine ax_met (oc := 2) (ct := Fo_value_ct) (calls := Fo_value_cl) (bs := Fo_value_bk) (cut := fun pc => Nat.beq pc 43) (f := 14) (I := Fo_value_I) (by decide) rfl rfl Fo_value_ck (List.forall_mem_cons.mpr ⟨ax_cwS Fo_join_met (by decide) (by decide) (ax_m3 165 (by decide +kernel) rfl) Fo_join_w rfl Fo_join_ds, fun _ h => absurd h List.not_mem_nil⟩) ?_ ?_
  · intro as σ0 hp hH
    match as, hp with
    | [.inr (.inr (.inl (k, 0, 2))), .inl a1, .inl a2, .inl a3, .inl a4, .inl a5], hp => exact ⟨rfl, Fo_value_p k a1 a2 a3 a4 a5 σ0 hH hp⟩
  · intro as σ0 hp n pc st ls σ hH hI
    match as, hp, hI with
    | [.inr (.inr (.inl (k, 0, 2))), .inl a1, .inl a2, .inl a3, .inl a4, .inl a5], hp, hI =>
      rcases ax_bifE hI with ⟨hpc, hI⟩ | ⟨-, hI⟩
      · have := Nat.eq_of_beq_eq_true hpc
        subst this
        match st, ls, hI with
        | [], [.inr (.inr (.inl (k', 0, 2))), .inl a1', .inl a2', .inl a3', .inl a4', .inl a5', .inl v6, .inl v7, _], hI =>
          obtain ⟨rfl, rfl, rfl, rfl, rfl, rfl, hI⟩ := hI
          exact Fo_value_p43 k a1 a2 a3 a4 a5 σ0 hp n v6 v7 σ hH hI
      exact False.elim hI

-- THE MODEL'S READER: words, numbers, names
def RQ (σ0 σ : Hp) : Prop := Fr [67] σ0 σ ∧ ∀ j, ¬ j = 2 → ¬ j = 3 → ¬ j = 4 → ¬ j = 6 → ¬ j = 7 → ¬ j = 8 → ¬ j = 9 → σ 67 j = σ0 67 j
theorem RQ.rf {σ : Hp} : RQ σ σ := ⟨Fr.rf, fun _ _ _ _ _ _ _ _ => rfl⟩
theorem RQ.tr {σ σ1 σ2 : Hp} (h : RQ σ σ1) (g : RQ σ1 σ2) : RQ σ σ2 := ⟨h.1.tr g.1, fun j a b c d e f i => (g.2 j a b c d e f i).trans (h.2 j a b c d e f i)⟩
theorem TQ.rq {σ σ1 : Hp} (h : TQ σ σ1) : RQ σ σ1 := ⟨h.1, fun j _ _ c d e f i => h.2 j c d e f i⟩
theorem srt_1 {B : Tp} {p : Nat} : srt B p = 1 ↔ tK B p = 1 := by
  unfold srt
  by_cases h : tK B p = 3
  · rw [if_pos h]; have := (tV_sg h).2; omega
  · rw [if_neg h]; split <;> omega
theorem srt_2 {B : Tp} {p : Nat} : srt B p = 2 ↔ tK B p = 2 := by
  unfold srt
  by_cases h : tK B p = 3
  · rw [if_pos h]; have := (tV_sg h).2; omega
  · rw [if_neg h]; split <;> omega
theorem srt_3 {B : Tp} {p : Nat} : srt B p = 3 ↔ tK B p = 4 := by
  unfold srt
  by_cases h : tK B p = 3
  · rw [if_pos h]; have := (tV_sg h).2; omega
  · rw [if_neg h]; split <;> omega
theorem srt_0 {B : Tp} {p : Nat} : srt B p = 0 ↔ tK B p = 0 := by
  unfold srt
  by_cases h : tK B p = 3
  · rw [if_pos h]; have := (tV_sg h).2; omega
  · rw [if_neg h]; split <;> omega
theorem srt_s {B : Tp} {p : Nat} {c : Int} (hc : 10 ≤ c) : srt B p = c ↔ tK B p = 3 ∧ tV B p = c := by
  unfold srt
  have := tK_le B p
  by_cases h : tK B p = 3
  · rw [if_pos h]; exact ⟨fun z => ⟨h, z⟩, fun z => z.2⟩
  · rw [if_neg h]; split <;> omega
theorem MT.wd {σ : Hp} {B : Tp} {p : Nat} (h : MT σ B p) (a : Int) : (σ 67 6 = 1 ∧ σ 67 9 = a) ↔ (tK B p = 1 ∧ tV B p = a) := by
  rw [h.2.2.1, srt_1]
  exact ⟨fun z => ⟨z.1, by rw [← h.2.2.2.1 z.1]; exact z.2⟩, fun z => ⟨z.1, by rw [h.2.2.2.1 z.1]; exact z.2⟩⟩
theorem MT.sg {σ : Hp} {B : Tp} {p : Nat} (h : MT σ B p) {c : Int} (hc : 10 ≤ c) : σ 67 6 = c ↔ tK B p = 3 ∧ tV B p = c := by
  rw [h.2.2.1]; exact srt_s hc
theorem MT.b {σ : Hp} {B : Tp} {p : Nat} (h : MT σ B p) : B.2 ≤ 1600 ∧ p ≤ B.2 := by
  have := h.1.2.1.rb.1.1
  rw [h.1.1] at this
  exact ⟨this, h.1.2.2⟩
theorem MT.tok {σ : Hp} {B : Tp} {p : Nat} (h : MT σ B p) (h4 : ¬ tK B p = 4) : Mo_token_pre 67 σ ∧ ∀ σ', Mo_token_post 67 σ σ' → TQ σ σ' ∧ MT σ' B (tN B p) := by
  have e := h.2.2.2.2.2 h4
  have hb := h.b
  have hN := (tN_R hb.1 hb.2).2.1
  have h5 := h.1.2.1.rb.2
  rw [h.1.1] at h5
  refine ⟨⟨rfl, h.1.2.1, by omega, by omega⟩, ?_⟩
  rintro σ' ⟨g1, g2⟩
  rw [h.1.1, e, Int.toNat_natCast] at g2
  exact ⟨g1, g2⟩
def Mo_wrong_pre (k : Nat) (_a : Int) (_σ : Hp) : Prop := k = 67
def Mo_wrong_post (_k : Nat) (a : Int) (σ σ' : Hp) : Prop := (0 < σ 67 2 → σ' = σ) ∧ (¬ 0 < σ 67 2 → σ' = hp (hp σ 67 2 (if σ 67 6 = 3 then 1 else a)) 67 3 (σ 67 7))
def Mo_wrong_bk : List (Nat × List Item) := [(0, [(.aload_n 0, 1, [], []), (.getfield 179, 3, [9, 2, 0, 0, 0, 0], []), (.ifCond .le 4, 3, [8], []), (.return_, 1, [], [])]),
  (8, [(.aload_n 0, 1, [], []), (.aload_n 0, 1, [], []), (.getfield 166, 3, [9, 6, 0, 0, 0, 0], []), (.iconst 3, 1, [], []), (.if_icmp .ne 7, 3, [21], []), (.iconst 1, 1, [], []), (.goto 4, 3, [22], [])]),
  (21, [(.iload_n 1, 1, [], [])]),
  (22, [(.putfield 179, 3, [9, 2, 0, 0, 0, 0], []), (.aload_n 0, 1, [], []), (.aload_n 0, 1, [], []), (.getfield 156, 3, [9, 7, 0, 0, 0, 0], []), (.putfield 13, 3, [9, 3, 0, 0, 0, 0], []), (.return_, 1, [], [])])]
def Mo_wrong_cl : List (Instr × Nat) := []
set_option maxRecDepth 20000 in
theorem Mo_wrong_ck : Mo_wrong_bk.all (fun b => ax_chB 9 2 cX9_wrong Mo_wrong_cl b.1 b.2) = true := by decide +kernel
def Mo_wrong_cs : Ct := (2, 10, 0, (0, 0), fun as σ => (match as with
    | [.inr (.inr (.inl (k, 0, 9))), .inl a1] => Mo_wrong_pre k a1 σ
    | _ => False), fun as σ r σ' => (match as with
    | [.inr (.inr (.inl (k, 0, 9))), .inl a1] => Mo_wrong_post k a1 σ σ'
    | _ => False))
theorem Mo_wrong_w : ∀ w ∈ ([.instanceMethod yX9_wrong, .selects yX9_wrong.cls yX9_wrong yX9_wrong, .initialized yX9_wrong.cls, .code yX9_wrong cX9_wrong 2 none] : List Cond), w ∈ ax_tb := ax_w4 (ax_m6 201 (by decide +kernel) rfl) (ax_m0 15 (by decide +kernel) rfl) (ax_m1 10 (by decide +kernel) rfl) (ax_m6 202 (by decide +kernel) rfl)
theorem Mo_wrong_ds : yX9_wrong.cls ≠ "java/lang/invoke/MethodHandle" ∧ yX9_wrong.cls ≠ "java/lang/invoke/VarHandle" ∧ (parseMethodDescriptor yX9_wrong.desc).map (fun d => d.parameters.length) = some 1 := by decide +kernel
def Mo_wrong_vc : Prop := ∀ (k : Nat) (a1 : Int) (σ : Hp), ax_H σ → Mo_wrong_pre k a1 σ →
  (σ k 2 ≤ 0 →
    (¬ σ k 6 = 3 →
      ∀ σ1 : Hp, σ1 = hp σ k 2 a1 →
      ∀ σ2 : Hp, σ2 = hp σ1 k 3 (σ1 k 7) →
      Mo_wrong_post k a1 σ σ2) ∧
    (¬ (¬ σ k 6 = 3) →
      ∀ σ3 : Hp, σ3 = hp σ k 2 1 →
      ∀ σ4 : Hp, σ4 = hp σ3 k 3 (σ3 k 7) →
      Mo_wrong_post k a1 σ σ4)) ∧
  (¬ (σ k 2 ≤ 0) →
    Mo_wrong_post k a1 σ σ)
theorem Mo_wrong_p : Mo_wrong_vc := by
  intro k a σ hH hp
  obtain rfl : k = 67 := hp
  refine ⟨fun h => ⟨fun h3 => ?_, fun h3 => ?_⟩, fun h => ⟨fun _ => rfl, fun z => absurd (by omega) z⟩⟩
  · rintro σ1 rfl σ2 rfl
    exact ⟨fun z => absurd z (by omega), fun _ => by rw [if_neg h3, hp_r2 (by decide)]⟩
  · rintro σ1 rfl σ2 rfl
    exact ⟨fun z => absurd z (by omega), fun _ => by rw [if_pos (Classical.not_not.mp h3), hp_r2 (by decide)]⟩
def Mo_wrong_I : List AV → Hp → Nat → Nat → List AV → List AV → Hp → Prop := fun as σ0 pc n st ls σ => (match as with
    | [.inr (.inr (.inl (k, 0, 9))), .inl a1] => False
    | _ => False)
def Mo_wrong_ct : Nat → Ct := fun n => match n with
  | _ => Mo_wrong_cs
set_option maxRecDepth 20000 in
set_option maxHeartbeats 4000000 in
theorem Mo_wrong_met {l : Launch} {D : va_G} {ad : Nat → Nat} {ca : Nat → ClassId} {L : Nat} {fx : Nat → Int} : ax_MC l D ad ca L fx yX9_wrong cX9_wrong 2 none 1 Mo_wrong_cs := by
  refine ax_met (oc := 9) (ct := Mo_wrong_ct) (calls := Mo_wrong_cl) (bs := Mo_wrong_bk) (cut := fun pc => false) (f := 5) (I := Mo_wrong_I) (by decide) rfl rfl Mo_wrong_ck (fun _ h => absurd h List.not_mem_nil) ?_ ?_
  · intro as σ0 hp hH
    match as, hp with
    | [.inr (.inr (.inl (k, 0, 9))), .inl a1], hp => exact ⟨rfl, Mo_wrong_p k a1 σ0 hH hp⟩
  · intro as σ0 hp n pc st ls σ hH hI
    match as, hp, hI with
    | [.inr (.inr (.inl (k, 0, 9))), .inl a1], hp, hI => exact False.elim hI
theorem MT.wg {σ σ' : Hp} {B : Tp} {p : Nat} {a : Int} (h : MT σ B p) (h0 : σ 67 2 = 0) (g : Mo_wrong_post 67 a σ σ') : RQ σ σ' ∧ σ' 67 2 = (if tK B p = 4 then 1 else a) ∧ σ' 67 3 = (tS B p : Int) := by
  have e := g.2 (by omega)
  refine ⟨?_, ?_, ?_⟩
  · rw [e]
    exact ⟨Fr.hp (Fr.hp Fr.rf (by simp)) (by simp), fun j a b _ _ _ _ _ => by rw [hp_r2 (fun z => b z.2), hp_r2 (fun z => a z.2)]⟩
  · rw [e, hp_r2 (by decide), hp_r1, h.2.2.1]
    by_cases z : tK B p = 4
    · rw [if_pos (srt_3.mpr z), if_pos z]
    · rw [if_neg (fun y => z (srt_3.mp y)), if_neg z]
  · rw [e, hp_r1]; exact h.2.1
def Mo_isWord_pre (k : Nat) (_a : Int) (_σ : Hp) : Prop := k = 67
def Mo_isWord_post (_k : Nat) (a : Int) (σ : Hp) (r : Int) (σ' : Hp) : Prop := σ' = σ ∧ r = if σ 67 6 = 1 ∧ σ 67 9 = a then 1 else 0
def Mo_isWord_bk : List (Nat × List Item) := [(0, [(.aload_n 0, 1, [], []), (.getfield 166, 3, [9, 6, 0, 0, 0, 0], []), (.iconst 1, 1, [], []), (.if_icmp .ne 16, 3, [21], []), (.aload_n 0, 1, [], []), (.getfield 159, 3, [9, 9, 2, 0, 0, 0], []), (.lload_n 1, 1, [], []), (.lcmp, 1, [], []), (.ifCond .ne 7, 3, [21], []), (.iconst 1, 1, [], []), (.goto 4, 3, [22], [])]),
  (21, [(.iconst 0, 1, [], [])]),
  (22, [(.ireturn, 1, [], [])])]
def Mo_isWord_cl : List (Instr × Nat) := []
set_option maxRecDepth 20000 in
theorem Mo_isWord_ck : Mo_isWord_bk.all (fun b => ax_chB 9 3 cX9_isWord Mo_isWord_cl b.1 b.2) = true := by decide +kernel
def Mo_isWord_cs : Ct := (2, 10, 2, (0, 0), fun as σ => (match as with
    | [.inr (.inr (.inl (k, 0, 9))), .inr (.inl a1)] => Mo_isWord_pre k a1 σ
    | _ => False), fun as σ r σ' => (match as with
    | [.inr (.inr (.inl (k, 0, 9))), .inr (.inl a1)] => Mo_isWord_post k a1 σ r σ'
    | _ => False))
theorem Mo_isWord_w : ∀ w ∈ ([.instanceMethod yX9_isWord, .selects yX9_isWord.cls yX9_isWord yX9_isWord, .initialized yX9_isWord.cls, .code yX9_isWord cX9_isWord 3 (some .boolean)] : List Cond), w ∈ ax_tb := ax_w4 (ax_m6 169 (by decide +kernel) rfl) (ax_m0 11 (by decide +kernel) rfl) (ax_m1 10 (by decide +kernel) rfl) (ax_m6 170 (by decide +kernel) rfl)
theorem Mo_isWord_ds : yX9_isWord.cls ≠ "java/lang/invoke/MethodHandle" ∧ yX9_isWord.cls ≠ "java/lang/invoke/VarHandle" ∧ (parseMethodDescriptor yX9_isWord.desc).map (fun d => d.parameters.length) = some 1 := by decide +kernel
def Mo_isWord_vc : Prop := ∀ (k : Nat) (a1 : Int) (σ : Hp), ax_H σ → Mo_isWord_pre k a1 σ →
  (¬ σ k 6 = 1 →
    ((0 : Int) = 0 ∨ (0 : Int) = 1) ∧ Mo_isWord_post k a1 σ 0 σ) ∧
  (¬ (¬ σ k 6 = 1) →
    (¬ lCmp (σ k 9) a1 = 0 →
      ((0 : Int) = 0 ∨ (0 : Int) = 1) ∧ Mo_isWord_post k a1 σ 0 σ) ∧
    (¬ (¬ lCmp (σ k 9) a1 = 0) →
      ((1 : Int) = 0 ∨ (1 : Int) = 1) ∧ Mo_isWord_post k a1 σ 1 σ))
theorem Mo_isWord_p : Mo_isWord_vc := by
  intro k a σ hH hp
  obtain rfl : k = 67 := hp
  rw [lCmp_0]
  exact ⟨fun h => ⟨Or.inl rfl, rfl, by rw [if_neg (fun z => h z.1)]⟩, fun h => ⟨fun h2 => ⟨Or.inl rfl, rfl, by rw [if_neg (fun z => h2 z.2)]⟩, fun h2 => ⟨Or.inr rfl, rfl, by rw [if_pos ⟨Classical.not_not.mp h, Classical.not_not.mp h2⟩]⟩⟩⟩
def Mo_isWord_I : List AV → Hp → Nat → Nat → List AV → List AV → Hp → Prop := fun as σ0 pc n st ls σ => (match as with
    | [.inr (.inr (.inl (k, 0, 9))), .inr (.inl a1)] => False
    | _ => False)
def Mo_isWord_ct : Nat → Ct := fun n => match n with
  | _ => Mo_isWord_cs
set_option maxRecDepth 20000 in
set_option maxHeartbeats 4000000 in
theorem Mo_isWord_met {l : Launch} {D : va_G} {ad : Nat → Nat} {ca : Nat → ClassId} {L : Nat} {fx : Nat → Int} : ax_MC l D ad ca L fx yX9_isWord cX9_isWord 3 (some .boolean) 1 Mo_isWord_cs := by
  refine ax_met (oc := 9) (ct := Mo_isWord_ct) (calls := Mo_isWord_cl) (bs := Mo_isWord_bk) (cut := fun pc => false) (f := 4) (I := Mo_isWord_I) (by decide) rfl rfl Mo_isWord_ck (fun _ h => absurd h List.not_mem_nil) ?_ ?_
  · intro as σ0 hp hH
    match as, hp with
    | [.inr (.inr (.inl (k, 0, 9))), .inr (.inl a1)], hp => exact ⟨rfl, Mo_isWord_p k a1 σ0 hH hp⟩
  · intro as σ0 hp n pc st ls σ hH hI
    match as, hp, hI with
    | [.inr (.inr (.inl (k, 0, 9))), .inr (.inl a1)], hp, hI => exact False.elim hI
theorem MT.iw {σ : Hp} {B : Tp} {p : Nat} (h : MT σ B p) (a : Int) : (if σ 67 6 = 1 ∧ σ 67 9 = a then (1 : Int) else 0) = if tK B p = 1 ∧ tV B p = a then 1 else 0 := by
  by_cases z : tK B p = 1 ∧ tV B p = a
  · rw [if_pos z, if_pos ((h.wd a).mpr z)]
  · rw [if_neg z, if_neg (fun y => z ((h.wd a).mp y))]
theorem nnL_iff (x : Int) : x ∈ ax_nnL ↔ x = 123581014175598 ∨ x = 28518 ∨ x = 426836649331 ∨ x = 1852143475 ∨ x = 461414299507 ∨ x = 512970879609 ∨ x = 444301539187 ∨ x = 1700885349 ∨ x = 1685217655 ∨ x = 28530 ∨ x = 6385252 ∨ x = 7237492 ∨ x = 1667330661 ∨ x = 461414299502 ∨ x = 6840691 ∨ x = 448546567013 ∨ x = 6578553 := by simp [ax_nnL]
def Mo_isOwn_pre (k : Nat) (_σ : Hp) : Prop := k = 67
def Mo_isOwn_post (_k : Nat) (σ : Hp) (r : Int) (σ' : Hp) : Prop := σ' = σ ∧ ((r = 1 ∧ σ 67 9 ∈ ax_nnL) ∨ (r = 0 ∧ σ 67 9 ∉ ax_nnL))
def Mo_isOwn_bk : List (Nat × List Item) := [(0, [(.aload_n 0, 1, [], []), (.getfield 159, 3, [9, 9, 2, 0, 0, 0], []), (.ldc2_w 182, 3, [], [(123581014175598, 0)]), (.lcmp, 1, [], []), (.ifCond .eq 179, 3, [187], []), (.aload_n 0, 1, [], []), (.getfield 159, 3, [9, 9, 2, 0, 0, 0], []), (.ldc2_w 184, 3, [], [(28518, 0)]), (.lcmp, 1, [], []), (.ifCond .eq 168, 3, [187], []), (.aload_n 0, 1, [], []), (.getfield 159, 3, [9, 9, 2, 0, 0, 0], []), (.ldc2_w 186, 3, [], [(426836649331, 0)]), (.lcmp, 1, [], []), (.ifCond .eq 157, 3, [187], []), (.aload_n 0, 1, [], []), (.getfield 159, 3, [9, 9, 2, 0, 0, 0], []), (.ldc2_w 188, 3, [], [(1852143475, 0)]), (.lcmp, 1, [], []), (.ifCond .eq 146, 3, [187], []), (.aload_n 0, 1, [], []), (.getfield 159, 3, [9, 9, 2, 0, 0, 0], []), (.ldc2_w 190, 3, [], [(461414299507, 0)]), (.lcmp, 1, [], []), (.ifCond .eq 135, 3, [187], []), (.aload_n 0, 1, [], []), (.getfield 159, 3, [9, 9, 2, 0, 0, 0], []), (.ldc2_w 192, 3, [], [(512970879609, 0)]), (.lcmp, 1, [], []), (.ifCond .eq 124, 3, [187], []), (.aload_n 0, 1, [], []), (.getfield 159, 3, [9, 9, 2, 0, 0, 0], []), (.ldc2_w 194, 3, [], [(444301539187, 0)]), (.lcmp, 1, [], []), (.ifCond .eq 113, 3, [187], []), (.aload_n 0, 1, [], []), (.getfield 159, 3, [9, 9, 2, 0, 0, 0], []), (.ldc2_w 196, 3, [], [(1700885349, 0)]), (.lcmp, 1, [], []), (.ifCond .eq 102, 3, [187], []), (.aload_n 0, 1, [], []), (.getfield 159, 3, [9, 9, 2, 0, 0, 0], []), (.ldc2_w 198, 3, [], [(1685217655, 0)]), (.lcmp, 1, [], []), (.ifCond .eq 91, 3, [187], []), (.aload_n 0, 1, [], []), (.getfield 159, 3, [9, 9, 2, 0, 0, 0], []), (.ldc2_w 200, 3, [], [(1667330661, 0)]), (.lcmp, 1, [], []), (.ifCond .eq 80, 3, [187], []), (.aload_n 0, 1, [], []), (.getfield 159, 3, [9, 9, 2, 0, 0, 0], []), (.ldc2_w 202, 3, [], [(461414299502, 0)]), (.lcmp, 1, [], []), (.ifCond .eq 69, 3, [187], []), (.aload_n 0, 1, [], []), (.getfield 159, 3, [9, 9, 2, 0, 0, 0], []), (.ldc2_w 204, 3, [], [(6840691, 0)]), (.lcmp, 1, [], []), (.ifCond .eq 58, 3, [187], []), (.aload_n 0, 1, [], []), (.getfield 159, 3, [9, 9, 2, 0, 0, 0], []), (.ldc2_w 206, 3, [], [(448546567013, 0)]), (.lcmp, 1, [], []), (.ifCond .eq 47, 3, [187], []), (.aload_n 0, 1, [], []), (.getfield 159, 3, [9, 9, 2, 0, 0, 0], []), (.ldc2_w 208, 3, [], [(6578553, 0)]), (.lcmp, 1, [], []), (.ifCond .eq 36, 3, [187], []), (.aload_n 0, 1, [], []), (.getfield 159, 3, [9, 9, 2, 0, 0, 0], []), (.ldc2_w 210, 3, [], [(6385252, 0)]), (.lcmp, 1, [], []), (.ifCond .eq 25, 3, [187], []), (.aload_n 0, 1, [], []), (.getfield 159, 3, [9, 9, 2, 0, 0, 0], []), (.ldc2_w 212, 3, [], [(28530, 0)]), (.lcmp, 1, [], []), (.ifCond .eq 14, 3, [187], []), (.aload_n 0, 1, [], []), (.getfield 159, 3, [9, 9, 2, 0, 0, 0], []), (.ldc2_w 214, 3, [], [(7237492, 0)]), (.lcmp, 1, [], []), (.ifCond .ne 7, 3, [191], [])]),
  (187, [(.iconst 1, 1, [], []), (.goto 4, 3, [192], [])]),
  (191, [(.iconst 0, 1, [], [])]),
  (192, [(.ireturn, 1, [], [])])]
def Mo_isOwn_cl : List (Instr × Nat) := []
set_option maxRecDepth 20000 in
theorem Mo_isOwn_ck : Mo_isOwn_bk.all (fun b => ax_chB 9 1 cX9_isOwn Mo_isOwn_cl b.1 b.2) = true := by decide +kernel
def Mo_isOwn_cs : Ct := (1, 10, 2, (0, 0), fun as σ => (match as with
    | [.inr (.inr (.inl (k, 0, 9)))] => Mo_isOwn_pre k σ
    | _ => False), fun as σ r σ' => (match as with
    | [.inr (.inr (.inl (k, 0, 9)))] => Mo_isOwn_post k σ r σ'
    | _ => False))
theorem Mo_isOwn_w : ∀ w ∈ ([.instanceMethod yX9_isOwn, .selects yX9_isOwn.cls yX9_isOwn yX9_isOwn, .initialized yX9_isOwn.cls, .code yX9_isOwn cX9_isOwn 1 (some .boolean)] : List Cond), w ∈ ax_tb := ax_w4 (ax_m6 181 (by decide +kernel) rfl) (ax_m0 14 (by decide +kernel) rfl) (ax_m1 10 (by decide +kernel) rfl) (ax_m6 182 (by decide +kernel) rfl)
theorem Mo_isOwn_ds : yX9_isOwn.cls ≠ "java/lang/invoke/MethodHandle" ∧ yX9_isOwn.cls ≠ "java/lang/invoke/VarHandle" ∧ (parseMethodDescriptor yX9_isOwn.desc).map (fun d => d.parameters.length) = some 0 := by decide +kernel
def Mo_isOwn_vc : Prop := ∀ (k : Nat) (σ : Hp), ax_H σ → Mo_isOwn_pre k σ →
  (lCmp (σ k 9) 123581014175598 = 0 →
    ((1 : Int) = 0 ∨ (1 : Int) = 1) ∧ Mo_isOwn_post k σ 1 σ) ∧
  (¬ (lCmp (σ k 9) 123581014175598 = 0) →
    (lCmp (σ k 9) 28518 = 0 →
      ((1 : Int) = 0 ∨ (1 : Int) = 1) ∧ Mo_isOwn_post k σ 1 σ) ∧
    (¬ (lCmp (σ k 9) 28518 = 0) →
      (lCmp (σ k 9) 426836649331 = 0 →
        ((1 : Int) = 0 ∨ (1 : Int) = 1) ∧ Mo_isOwn_post k σ 1 σ) ∧
      (¬ (lCmp (σ k 9) 426836649331 = 0) →
        (lCmp (σ k 9) 1852143475 = 0 →
          ((1 : Int) = 0 ∨ (1 : Int) = 1) ∧ Mo_isOwn_post k σ 1 σ) ∧
        (¬ (lCmp (σ k 9) 1852143475 = 0) →
          (lCmp (σ k 9) 461414299507 = 0 →
            ((1 : Int) = 0 ∨ (1 : Int) = 1) ∧ Mo_isOwn_post k σ 1 σ) ∧
          (¬ (lCmp (σ k 9) 461414299507 = 0) →
            (lCmp (σ k 9) 512970879609 = 0 →
              ((1 : Int) = 0 ∨ (1 : Int) = 1) ∧ Mo_isOwn_post k σ 1 σ) ∧
            (¬ (lCmp (σ k 9) 512970879609 = 0) →
              (lCmp (σ k 9) 444301539187 = 0 →
                ((1 : Int) = 0 ∨ (1 : Int) = 1) ∧ Mo_isOwn_post k σ 1 σ) ∧
              (¬ (lCmp (σ k 9) 444301539187 = 0) →
                (lCmp (σ k 9) 1700885349 = 0 →
                  ((1 : Int) = 0 ∨ (1 : Int) = 1) ∧ Mo_isOwn_post k σ 1 σ) ∧
                (¬ (lCmp (σ k 9) 1700885349 = 0) →
                  (lCmp (σ k 9) 1685217655 = 0 →
                    ((1 : Int) = 0 ∨ (1 : Int) = 1) ∧ Mo_isOwn_post k σ 1 σ) ∧
                  (¬ (lCmp (σ k 9) 1685217655 = 0) →
                    (lCmp (σ k 9) 1667330661 = 0 →
                      ((1 : Int) = 0 ∨ (1 : Int) = 1) ∧ Mo_isOwn_post k σ 1 σ) ∧
                    (¬ (lCmp (σ k 9) 1667330661 = 0) →
                      (lCmp (σ k 9) 461414299502 = 0 →
                        ((1 : Int) = 0 ∨ (1 : Int) = 1) ∧ Mo_isOwn_post k σ 1 σ) ∧
                      (¬ (lCmp (σ k 9) 461414299502 = 0) →
                        (lCmp (σ k 9) 6840691 = 0 →
                          ((1 : Int) = 0 ∨ (1 : Int) = 1) ∧ Mo_isOwn_post k σ 1 σ) ∧
                        (¬ (lCmp (σ k 9) 6840691 = 0) →
                          (lCmp (σ k 9) 448546567013 = 0 →
                            ((1 : Int) = 0 ∨ (1 : Int) = 1) ∧ Mo_isOwn_post k σ 1 σ) ∧
                          (¬ (lCmp (σ k 9) 448546567013 = 0) →
                            (lCmp (σ k 9) 6578553 = 0 →
                              ((1 : Int) = 0 ∨ (1 : Int) = 1) ∧ Mo_isOwn_post k σ 1 σ) ∧
                            (¬ (lCmp (σ k 9) 6578553 = 0) →
                              (lCmp (σ k 9) 6385252 = 0 →
                                ((1 : Int) = 0 ∨ (1 : Int) = 1) ∧ Mo_isOwn_post k σ 1 σ) ∧
                              (¬ (lCmp (σ k 9) 6385252 = 0) →
                                (lCmp (σ k 9) 28530 = 0 →
                                  ((1 : Int) = 0 ∨ (1 : Int) = 1) ∧ Mo_isOwn_post k σ 1 σ) ∧
                                (¬ (lCmp (σ k 9) 28530 = 0) →
                                  (¬ lCmp (σ k 9) 7237492 = 0 →
                                    ((0 : Int) = 0 ∨ (0 : Int) = 1) ∧ Mo_isOwn_post k σ 0 σ) ∧
                                  (¬ (¬ lCmp (σ k 9) 7237492 = 0) →
                                    ((1 : Int) = 0 ∨ (1 : Int) = 1) ∧ Mo_isOwn_post k σ 1 σ)))))))))))))))))
theorem Mo_isOwn_p : Mo_isOwn_vc := by
  intro k σ hH hp
  obtain rfl : k = 67 := hp
  have y : ∀ x, x ∈ ax_nnL → lCmp (σ 67 9) x = 0 → ((1 : Int) = 0 ∨ (1 : Int) = 1) ∧ Mo_isOwn_post 67 σ 1 σ := fun x hx h => ⟨Or.inr rfl, rfl, Or.inl ⟨rfl, by rw [lCmp_0.mp h]; exact hx⟩⟩
  have hk : ∀ x, ¬ lCmp (σ 67 9) x = 0 → ¬ σ 67 9 = x := fun x h z => h (lCmp_0.mpr z)
  have no : σ 67 9 ∉ ax_nnL → ((0 : Int) = 0 ∨ (0 : Int) = 1) ∧ Mo_isOwn_post 67 σ 0 σ := fun h => ⟨Or.inl rfl, rfl, Or.inr ⟨rfl, h⟩⟩
  rw [nnL_iff] at no
  exact ⟨fun h => y 123581014175598 (by decide) h, fun h1 => ⟨fun h => y 28518 (by decide) h, fun h2 => ⟨fun h => y 426836649331 (by decide) h, fun h3 => ⟨fun h => y 1852143475 (by decide) h, fun h4 => ⟨fun h => y 461414299507 (by decide) h, fun h5 => ⟨fun h => y 512970879609 (by decide) h, fun h6 => ⟨fun h => y 444301539187 (by decide) h, fun h7 => ⟨fun h => y 1700885349 (by decide) h, fun h8 => ⟨fun h => y 1685217655 (by decide) h, fun h9 => ⟨fun h => y 1667330661 (by decide) h, fun h10 => ⟨fun h => y 461414299502 (by decide) h, fun h11 => ⟨fun h => y 6840691 (by decide) h, fun h12 => ⟨fun h => y 448546567013 (by decide) h, fun h13 => ⟨fun h => y 6578553 (by decide) h, fun h14 => ⟨fun h => y 6385252 (by decide) h, fun h15 => ⟨fun h => y 28530 (by decide) h, fun h16 => ⟨fun h => no (by have z1 := hk _ h1; have z2 := hk _ h2; have z3 := hk _ h3; have z4 := hk _ h4; have z5 := hk _ h5; have z6 := hk _ h6; have z7 := hk _ h7; have z8 := hk _ h8; have z9 := hk _ h9; have z10 := hk _ h10; have z11 := hk _ h11; have z12 := hk _ h12; have z13 := hk _ h13; have z14 := hk _ h14; have z15 := hk _ h15; have z16 := hk _ h16; have z17 := hk _ h; omega), fun h => y 7237492 (by decide) (Classical.not_not.mp h)⟩⟩⟩⟩⟩⟩⟩⟩⟩⟩⟩⟩⟩⟩⟩⟩⟩
def Mo_isOwn_I : List AV → Hp → Nat → Nat → List AV → List AV → Hp → Prop := fun as σ0 pc n st ls σ => (match as with
    | [.inr (.inr (.inl (k, 0, 9)))] => False
    | _ => False)
def Mo_isOwn_ct : Nat → Ct := fun n => match n with
  | _ => Mo_isOwn_cs
set_option maxRecDepth 20000 in
set_option maxHeartbeats 4000000 in
theorem Mo_isOwn_met {l : Launch} {D : va_G} {ad : Nat → Nat} {ca : Nat → ClassId} {L : Nat} {fx : Nat → Int} : ax_MC l D ad ca L fx yX9_isOwn cX9_isOwn 1 (some .boolean) 1 Mo_isOwn_cs := by
  refine ax_met (oc := 9) (ct := Mo_isOwn_ct) (calls := Mo_isOwn_cl) (bs := Mo_isOwn_bk) (cut := fun pc => false) (f := 5) (I := Mo_isOwn_I) (by decide) rfl rfl Mo_isOwn_ck (fun _ h => absurd h List.not_mem_nil) ?_ ?_
  · intro as σ0 hp hH
    match as, hp with
    | [.inr (.inr (.inl (k, 0, 9)))], hp => exact ⟨rfl, Mo_isOwn_p k σ0 hH hp⟩
  · intro as σ0 hp n pc st ls σ hH hI
    match as, hp, hI with
    | [.inr (.inr (.inl (k, 0, 9)))], hp, hI => exact False.elim hI
def Mo_isName_pre (k : Nat) (_σ : Hp) : Prop := k = 67
def Mo_isName_post (_k : Nat) (σ : Hp) (r : Int) (σ' : Hp) : Prop := σ' = σ ∧ ((r = 1 ∧ σ 67 6 = 1 ∧ σ 67 9 ∉ ax_nnL) ∨ (r = 0 ∧ ¬ (σ 67 6 = 1 ∧ σ 67 9 ∉ ax_nnL)))
def Mo_isName_bk : List (Nat × List Item) := [(0, [(.aload_n 0, 1, [], []), (.getfield 166, 3, [9, 6, 0, 0, 0, 0], []), (.iconst 1, 1, [], []), (.if_icmp .ne 14, 3, [19], []), (.aload_n 0, 1, [], []), (.invokevirtual 216, 3, [0], []), (.ifCond .ne 7, 3, [19], []), (.iconst 1, 1, [], []), (.goto 4, 3, [20], [])]),
  (19, [(.iconst 0, 1, [], [])]),
  (20, [(.ireturn, 1, [], [])])]
def Mo_isName_cl : List (Instr × Nat) := [(.invokevirtual 216, 0)]
set_option maxRecDepth 20000 in
theorem Mo_isName_ck : Mo_isName_bk.all (fun b => ax_chB 9 1 cX9_isName Mo_isName_cl b.1 b.2) = true := by decide +kernel
def Mo_isName_cs : Ct := (1, 10, 2, (0, 0), fun as σ => (match as with
    | [.inr (.inr (.inl (k, 0, 9)))] => Mo_isName_pre k σ
    | _ => False), fun as σ r σ' => (match as with
    | [.inr (.inr (.inl (k, 0, 9)))] => Mo_isName_post k σ r σ'
    | _ => False))
theorem Mo_isName_w : ∀ w ∈ ([.instanceMethod yX9_isName, .selects yX9_isName.cls yX9_isName yX9_isName, .initialized yX9_isName.cls, .code yX9_isName cX9_isName 1 (some .boolean)] : List Cond), w ∈ ax_tb := ax_w4 (ax_m6 177 (by decide +kernel) rfl) (ax_m0 13 (by decide +kernel) rfl) (ax_m1 10 (by decide +kernel) rfl) (ax_m6 178 (by decide +kernel) rfl)
theorem Mo_isName_ds : yX9_isName.cls ≠ "java/lang/invoke/MethodHandle" ∧ yX9_isName.cls ≠ "java/lang/invoke/VarHandle" ∧ (parseMethodDescriptor yX9_isName.desc).map (fun d => d.parameters.length) = some 0 := by decide +kernel
def Mo_isName_vc : Prop := ∀ (k : Nat) (σ : Hp), ax_H σ → Mo_isName_pre k σ →
  (¬ σ k 6 = 1 →
    ((0 : Int) = 0 ∨ (0 : Int) = 1) ∧ Mo_isName_post k σ 0 σ) ∧
  (¬ (¬ σ k 6 = 1) →
    Mo_isOwn_pre k σ ∧
    ∀ (r2 : Int) (σ1 : Hp), Mo_isOwn_post k σ r2 σ1 →
    (¬ r2 = 0 →
      ((0 : Int) = 0 ∨ (0 : Int) = 1) ∧ Mo_isName_post k σ 0 σ1) ∧
    (¬ (¬ r2 = 0) →
      ((1 : Int) = 0 ∨ (1 : Int) = 1) ∧ Mo_isName_post k σ 1 σ1))
theorem Mo_isName_p : Mo_isName_vc := by
  intro k σ hH hp
  obtain rfl : k = 67 := hp
  refine ⟨fun h => ⟨Or.inl rfl, rfl, Or.inr ⟨rfl, fun z => h z.1⟩⟩, fun h => ⟨rfl, ?_⟩⟩
  rintro r2 σ1 ⟨rfl, h2⟩
  refine ⟨fun h3 => ⟨Or.inl rfl, rfl, Or.inr ⟨rfl, fun z => ?_⟩⟩, fun h3 => ⟨Or.inr rfl, rfl, Or.inl ⟨rfl, Classical.not_not.mp h, ?_⟩⟩⟩
  · rcases h2 with y | y
    · exact z.2 y.2
    · exact h3 y.1
  · rcases h2 with y | y
    · omega
    · exact y.2
def Mo_isName_I : List AV → Hp → Nat → Nat → List AV → List AV → Hp → Prop := fun as σ0 pc n st ls σ => (match as with
    | [.inr (.inr (.inl (k, 0, 9)))] => False
    | _ => False)
def Mo_isName_ct : Nat → Ct := fun n => match n with
  | 0 => Mo_isOwn_cs
  | _ => Mo_isName_cs
set_option maxRecDepth 20000 in
set_option maxHeartbeats 4000000 in
theorem Mo_isName_met {l : Launch} {D : va_G} {ad : Nat → Nat} {ca : Nat → ClassId} {L : Nat} {fx : Nat → Int} : ax_MC l D ad ca L fx yX9_isName cX9_isName 1 (some .boolean) 2 Mo_isName_cs := by
  refine ax_met (oc := 9) (ct := Mo_isName_ct) (calls := Mo_isName_cl) (bs := Mo_isName_bk) (cut := fun pc => false) (f := 4) (I := Mo_isName_I) (by decide) rfl rfl Mo_isName_ck (List.forall_mem_cons.mpr ⟨ax_cwV Mo_isOwn_met (by decide) (by decide) rfl (by decide) rfl (ax_m6 179 (by decide +kernel) rfl) Mo_isOwn_w rfl Mo_isOwn_ds, fun _ h => absurd h List.not_mem_nil⟩) ?_ ?_
  · intro as σ0 hp hH
    match as, hp with
    | [.inr (.inr (.inl (k, 0, 9)))], hp => exact ⟨rfl, Mo_isName_p k σ0 hH hp⟩
  · intro as σ0 hp n pc st ls σ hH hI
    match as, hp, hI with
    | [.inr (.inr (.inl (k, 0, 9)))], hp, hI => exact False.elim hI
theorem MT.nm {σ : Hp} {B : Tp} {p : Nat} (h : MT σ B p) : (σ 67 6 = 1 ∧ σ 67 9 ∉ ax_nnL) ↔ nmB B p := by
  rw [h.2.2.1, srt_1]
  exact ⟨fun z => ⟨z.1, by rw [← h.2.2.2.1 z.1]; exact z.2⟩, fun z => ⟨z.1, by rw [h.2.2.2.1 z.1]; exact z.2⟩⟩
def FM (σ : Hp) : Prop := 0 ≤ σ 67 2 ∧ (σ 67 2 = 0 → ∃ B p, MT σ B p)
def Fs (σ σ' : Hp) (B : Tp) (c : Int) (p : Nat) : Prop := σ' 67 2 = c ∧ σ' 67 3 = (tS B p : Int)
def Gom (σ σ' : Hp) (B : Tp) (p : Nat) : Prop := σ' 67 2 = 0 ∧ σ' 67 3 = σ 67 3 ∧ MT σ' B p
def outM {α : Type} (o : Oc α) (σ σ' : Hp) (B : Tp) (N : α → Prop) : Prop := match o with
  | .inl x => ¬ x.1 = 0 ∧ 0 ≤ x.1 ∧ Fs σ σ' B x.1 x.2
  | .inr x => N x
def wnO (B : Tp) (p : Nat) (w : Int) : Oc Nat := if tK B p = 1 ∧ tV B p = w then .inr (tN B p) else .inl (rfc B p, p)
theorem rfc_p (B : Tp) (p : Nat) : 0 < rfc B p := by unfold rfc; split <;> decide
theorem TQ.go {σ σ' : Hp} {B : Tp} {p : Nat} (h : TQ σ σ') (h0 : σ 67 2 = 0) (g : MT σ' B p) : Gom σ σ' B p := ⟨by rw [h.2 2 (by decide) (by decide) (by decide) (by decide) (by decide)]; exact h0, h.2 3 (by decide) (by decide) (by decide) (by decide) (by decide), g⟩
def Mo_want_pre (k : Nat) (_a : Int) (σ : Hp) : Prop := k = 67 ∧ FM σ
def Mo_want_post (_k : Nat) (a : Int) (σ σ' : Hp) : Prop := (0 < σ 67 2 → σ' = σ) ∧ ∀ B p, MT σ B p → σ 67 2 = 0 → RQ σ σ' ∧ outM (wnO B p a) σ σ' B (fun x => Gom σ σ' B x)
def Mo_want_bk : List (Nat × List Item) := [(0, [(.aload_n 0, 1, [], []), (.getfield 179, 3, [9, 2, 0, 0, 0, 0], []), (.ifCond .le 4, 3, [8], []), (.return_, 1, [], [])]),
  (8, [(.aload_n 0, 1, [], []), (.lload_n 1, 1, [], []), (.invokevirtual 220, 3, [0], []), (.ifCond .ne 11, 3, [24], []), (.aload_n 0, 1, [], []), (.iconst 2, 1, [], []), (.invokevirtual 224, 3, [1], []), (.goto 7, 3, [28], [])]),
  (24, [(.aload_n 0, 1, [], []), (.invokevirtual 227, 3, [2], [])]),
  (28, [(.return_, 1, [], [])])]
def Mo_want_cl : List (Instr × Nat) := [(.invokevirtual 220, 0), (.invokevirtual 224, 1), (.invokevirtual 227, 2)]
set_option maxRecDepth 20000 in
theorem Mo_want_ck : Mo_want_bk.all (fun b => ax_chB 9 3 cX9_want Mo_want_cl b.1 b.2) = true := by decide +kernel
def Mo_want_cs : Ct := (2, 10, 0, (0, 0), fun as σ => (match as with
    | [.inr (.inr (.inl (k, 0, 9))), .inr (.inl a1)] => Mo_want_pre k a1 σ
    | _ => False), fun as σ r σ' => (match as with
    | [.inr (.inr (.inl (k, 0, 9))), .inr (.inl a1)] => Mo_want_post k a1 σ σ'
    | _ => False))
theorem Mo_want_w : ∀ w ∈ ([.instanceMethod yX9_want, .selects yX9_want.cls yX9_want yX9_want, .initialized yX9_want.cls, .code yX9_want cX9_want 3 none] : List Cond), w ∈ ax_tb := ax_w4 (ax_m6 213 (by decide +kernel) rfl) (ax_m0 18 (by decide +kernel) rfl) (ax_m1 10 (by decide +kernel) rfl) (ax_m6 214 (by decide +kernel) rfl)
theorem Mo_want_ds : yX9_want.cls ≠ "java/lang/invoke/MethodHandle" ∧ yX9_want.cls ≠ "java/lang/invoke/VarHandle" ∧ (parseMethodDescriptor yX9_want.desc).map (fun d => d.parameters.length) = some 1 := by decide +kernel
def Mo_want_vc : Prop := ∀ (k : Nat) (a1 : Int) (σ : Hp), ax_H σ → Mo_want_pre k a1 σ →
  (σ k 2 ≤ 0 →
    Mo_isWord_pre k a1 σ ∧
    ∀ (r2 : Int) (σ1 : Hp), Mo_isWord_post k a1 σ r2 σ1 →
    (¬ r2 = 0 →
      Mo_token_pre k σ1 ∧
      ∀ σ3 : Hp, Mo_token_post k σ1 σ3 →
      Mo_want_post k a1 σ σ3) ∧
    (¬ (¬ r2 = 0) →
      Mo_wrong_pre k 2 σ1 ∧
      ∀ σ4 : Hp, Mo_wrong_post k 2 σ1 σ4 →
      Mo_want_post k a1 σ σ4)) ∧
  (¬ (σ k 2 ≤ 0) →
    Mo_want_post k a1 σ σ)
theorem Mo_want_p : Mo_want_vc := by
  intro k a σ hH hp
  obtain ⟨rfl, hF⟩ := hp
  refine ⟨fun h => ⟨rfl, ?_⟩, fun h => ⟨fun _ => rfl, fun B p _ z => absurd z (by omega)⟩⟩
  have h0 : σ 67 2 = 0 := by have := hF.1; omega
  obtain ⟨B0, p0, M0⟩ := hF.2 h0
  rintro r2 σ1 ⟨rfl, rfl⟩
  refine ⟨fun h2 => ?_, fun h2 => ⟨rfl, fun σ4 g => ⟨fun z => absurd z (by omega), fun B p M _ => ?_⟩⟩⟩
  · have hw : ∀ B p, MT σ1 B p → tK B p = 1 ∧ tV B p = a := fun B p M => (M.wd a).mp (ite1 h2)
    have h4 : ∀ B p, MT σ1 B p → ¬ tK B p = 4 := fun B p M => by have := (hw B p M).1; omega
    refine ⟨(M0.tok (h4 _ _ M0)).1, fun σ3 g => ⟨fun z => absurd z (by omega), fun B p M _ => ?_⟩⟩
    obtain ⟨q1, q2⟩ := (M.tok (h4 _ _ M)).2 σ3 g
    refine ⟨q1.rq, ?_⟩
    unfold outM wnO
    rw [if_pos (hw B p M)]
    exact q1.go h0 q2
  · have hw : ¬ (tK B p = 1 ∧ tV B p = a) := fun z => ite0' h2 ((M.wd a).mpr z)
    obtain ⟨q1, q2, q3⟩ := M.wg h0 g
    refine ⟨q1, ?_⟩
    unfold outM wnO
    rw [if_neg hw]
    have := rfc_p B p
    exact ⟨by show ¬ rfc B p = 0; omega, by show 0 ≤ rfc B p; omega, q2, q3⟩
def Mo_want_I : List AV → Hp → Nat → Nat → List AV → List AV → Hp → Prop := fun as σ0 pc n st ls σ => (match as with
    | [.inr (.inr (.inl (k, 0, 9))), .inr (.inl a1)] => False
    | _ => False)
def Mo_want_ct : Nat → Ct := fun n => match n with
  | 0 => Mo_isWord_cs
  | 1 => Mo_wrong_cs
  | 2 => Mo_token_cs
  | _ => Mo_want_cs
set_option maxRecDepth 20000 in
set_option maxHeartbeats 4000000 in
theorem Mo_want_met {l : Launch} {D : va_G} {ad : Nat → Nat} {ca : Nat → ClassId} {L : Nat} {fx : Nat → Int} : ax_MC l D ad ca L fx yX9_want cX9_want 3 none 3 Mo_want_cs := by
  refine ax_met (oc := 9) (ct := Mo_want_ct) (calls := Mo_want_cl) (bs := Mo_want_bk) (cut := fun pc => false) (f := 5) (I := Mo_want_I) (by decide) rfl rfl Mo_want_ck (List.forall_mem_cons.mpr ⟨ax_cwV Mo_isWord_met (by decide) (by decide) rfl (by decide) rfl (ax_m6 167 (by decide +kernel) rfl) Mo_isWord_w rfl Mo_isWord_ds, List.forall_mem_cons.mpr ⟨ax_cwV Mo_wrong_met (by decide) (by decide) rfl (by decide) rfl (ax_m6 199 (by decide +kernel) rfl) Mo_wrong_w rfl Mo_wrong_ds, List.forall_mem_cons.mpr ⟨ax_cwV Mo_token_met (by decide) (by decide) rfl (by decide) rfl (ax_m6 145 (by decide +kernel) rfl) Mo_token_w rfl Mo_token_ds, fun _ h => absurd h List.not_mem_nil⟩⟩⟩) ?_ ?_
  · intro as σ0 hp hH
    match as, hp with
    | [.inr (.inr (.inl (k, 0, 9))), .inr (.inl a1)], hp => exact ⟨rfl, Mo_want_p k a1 σ0 hH hp⟩
  · intro as σ0 hp n pc st ls σ hH hI
    match as, hp, hI with
    | [.inr (.inr (.inl (k, 0, 9))), .inr (.inl a1)], hp, hI => exact False.elim hI
def nuO (B : Tp) (p : Nat) (lo hi : Int) : Oc (Int × Nat) := if tK B p = 2 then (if tV B p < lo ∨ hi < tV B p then .inl (4, p) else .inr (tV B p, tN B p)) else .inl (rfc B p, p)
def Mo_toldNumber_pre (k : Nat) (_a _b : Int) (σ : Hp) : Prop := k = 67 ∧ FM σ
def Mo_toldNumber_post (_k : Nat) (a b : Int) (σ : Hp) (r : Int) (σ' : Hp) : Prop := (0 < σ 67 2 → σ' = σ) ∧ ∀ B p, MT σ B p → σ 67 2 = 0 → RQ σ σ' ∧ outM (nuO B p a b) σ σ' B (fun x => r = x.1 ∧ Gom σ σ' B x.2)
def Mo_toldNumber_bk : List (Nat × List Item) := [(0, [(.aload_n 0, 1, [], []), (.getfield 179, 3, [9, 2, 0, 0, 0, 0], []), (.ifCond .le 5, 3, [9], []), (.iconst 0, 1, [], []), (.ireturn, 1, [], [])]),
  (9, [(.aload_n 0, 1, [], []), (.getfield 166, 3, [9, 6, 0, 0, 0, 0], []), (.iconst 2, 1, [], []), (.if_icmp .eq 11, 3, [25], []), (.aload_n 0, 1, [], []), (.iconst 2, 1, [], []), (.invokevirtual 224, 3, [0], []), (.goto 24, 3, [46], [])]),
  (25, [(.aload_n 0, 1, [], []), (.getfield 163, 3, [9, 8, 0, 0, 0, 0], []), (.iload_n 1, 1, [], []), (.if_icmp .lt 11, 3, [41], []), (.aload_n 0, 1, [], []), (.getfield 163, 3, [9, 8, 0, 0, 0, 0], []), (.iload_n 2, 1, [], []), (.if_icmp .le 8, 3, [46], [])]),
  (41, [(.aload_n 0, 1, [], []), (.iconst 4, 1, [], []), (.invokevirtual 224, 3, [0], [])]),
  (46, [(.aload_n 0, 1, [], []), (.getfield 163, 3, [9, 8, 0, 0, 0, 0], []), (.istore_n 3, 1, [], []), (.aload_n 0, 1, [], []), (.getfield 179, 3, [9, 2, 0, 0, 0, 0], []), (.ifCond .ne 7, 3, [62], []), (.aload_n 0, 1, [], []), (.invokevirtual 227, 3, [1], [])]),
  (62, [(.iload_n 3, 1, [], []), (.ireturn, 1, [], [])])]
def Mo_toldNumber_cl : List (Instr × Nat) := [(.invokevirtual 224, 0), (.invokevirtual 227, 1)]
set_option maxRecDepth 20000 in
theorem Mo_toldNumber_ck : Mo_toldNumber_bk.all (fun b => ax_chB 9 4 cX9_toldNumber Mo_toldNumber_cl b.1 b.2) = true := by decide +kernel
def Mo_toldNumber_cs : Ct := (3, 10, 1, (0, 0), fun as σ => (match as with
    | [.inr (.inr (.inl (k, 0, 9))), .inl a1, .inl a2] => Mo_toldNumber_pre k a1 a2 σ
    | _ => False), fun as σ r σ' => (match as with
    | [.inr (.inr (.inl (k, 0, 9))), .inl a1, .inl a2] => Mo_toldNumber_post k a1 a2 σ r σ'
    | _ => False))
theorem Mo_toldNumber_w : ∀ w ∈ ([.instanceMethod yX9_toldNumber, .selects yX9_toldNumber.cls yX9_toldNumber yX9_toldNumber, .initialized yX9_toldNumber.cls, .code yX9_toldNumber cX9_toldNumber 4 (some .int)] : List Cond), w ∈ ax_tb := ax_w4 (ax_m6 217 (by decide +kernel) rfl) (ax_m0 19 (by decide +kernel) rfl) (ax_m1 10 (by decide +kernel) rfl) (ax_m6 218 (by decide +kernel) rfl)
theorem Mo_toldNumber_ds : yX9_toldNumber.cls ≠ "java/lang/invoke/MethodHandle" ∧ yX9_toldNumber.cls ≠ "java/lang/invoke/VarHandle" ∧ (parseMethodDescriptor yX9_toldNumber.desc).map (fun d => d.parameters.length) = some 2 := by decide +kernel
def Mo_toldNumber_vc : Prop := ∀ (k : Nat) (a1 : Int) (a2 : Int) (σ : Hp), ax_H σ → Mo_toldNumber_pre k a1 a2 σ →
  (σ k 2 ≤ 0 →
    (σ k 6 = 2 →
      (σ k 8 < a1 →
        Mo_wrong_pre k 4 σ ∧
        ∀ σ1 : Hp, Mo_wrong_post k 4 σ σ1 →
        (¬ σ1 k 2 = 0 →
          Mo_toldNumber_post k a1 a2 σ (σ1 k 8) σ1) ∧
        (¬ (¬ σ1 k 2 = 0) →
          Mo_token_pre k σ1 ∧
          ∀ σ2 : Hp, Mo_token_post k σ1 σ2 →
          Mo_toldNumber_post k a1 a2 σ (σ1 k 8) σ2)) ∧
      (¬ (σ k 8 < a1) →
        (σ k 8 ≤ a2 →
          (¬ σ k 2 = 0 →
            Mo_toldNumber_post k a1 a2 σ (σ k 8) σ) ∧
          (¬ (¬ σ k 2 = 0) →
            Mo_token_pre k σ ∧
            ∀ σ3 : Hp, Mo_token_post k σ σ3 →
            Mo_toldNumber_post k a1 a2 σ (σ k 8) σ3)) ∧
        (¬ (σ k 8 ≤ a2) →
          Mo_wrong_pre k 4 σ ∧
          ∀ σ4 : Hp, Mo_wrong_post k 4 σ σ4 →
          (¬ σ4 k 2 = 0 →
            Mo_toldNumber_post k a1 a2 σ (σ4 k 8) σ4) ∧
          (¬ (¬ σ4 k 2 = 0) →
            Mo_token_pre k σ4 ∧
            ∀ σ5 : Hp, Mo_token_post k σ4 σ5 →
            Mo_toldNumber_post k a1 a2 σ (σ4 k 8) σ5)))) ∧
    (¬ (σ k 6 = 2) →
      Mo_wrong_pre k 2 σ ∧
      ∀ σ6 : Hp, Mo_wrong_post k 2 σ σ6 →
      (¬ σ6 k 2 = 0 →
        Mo_toldNumber_post k a1 a2 σ (σ6 k 8) σ6) ∧
      (¬ (¬ σ6 k 2 = 0) →
        Mo_token_pre k σ6 ∧
        ∀ σ7 : Hp, Mo_token_post k σ6 σ7 →
        Mo_toldNumber_post k a1 a2 σ (σ6 k 8) σ7))) ∧
  (¬ (σ k 2 ≤ 0) →
    Mo_toldNumber_post k a1 a2 σ 0 σ)
theorem Mo_toldNumber_p : Mo_toldNumber_vc := by
  intro k a b σ hH hp
  obtain ⟨rfl, hF⟩ := hp
  refine ⟨fun h => ?_, fun h => ⟨fun _ => rfl, fun B p _ z => absurd z (by omega)⟩⟩
  have h0 : σ 67 2 = 0 := by have := hF.1; omega
  obtain ⟨B0, p0, M0⟩ := hF.2 h0
  have bad : ∀ (c : Int), 0 < c → ∀ σ6 : Hp, Mo_wrong_post 67 c σ σ6 → (∀ B p, MT σ B p → nuO B p a b = .inl ((if tK B p = 4 then 1 else c), p)) → (¬ σ6 67 2 = 0 → Mo_toldNumber_post 67 a b σ (σ6 67 8) σ6) ∧ (¬ (¬ σ6 67 2 = 0) → Mo_token_pre 67 σ6 ∧ ∀ σ7 : Hp, Mo_token_post 67 σ6 σ7 → Mo_toldNumber_post 67 a b σ (σ6 67 8) σ7) := by
    intro c hc σ6 g hn
    refine ⟨fun h2 => ⟨fun z => absurd z (by omega), fun B p M _ => ?_⟩, fun h2 => ?_⟩
    · obtain ⟨q1, q2, q3⟩ := M.wg h0 g
      refine ⟨q1, ?_⟩
      unfold outM
      rw [hn B p M]
      refine ⟨?_, ?_, q2, q3⟩
      · show ¬ (if tK B p = 4 then 1 else c) = 0; split <;> omega
      · show 0 ≤ (if tK B p = 4 then 1 else c); split <;> omega
    · obtain ⟨q1, q2, q3⟩ := M0.wg h0 g
      exfalso
      apply h2
      rw [q2]
      split <;> omega
  refine ⟨fun h6 => ?_, fun h6 => ⟨rfl, fun σ6 g => bad 2 (by decide) σ6 g (fun B p M => ?_)⟩⟩
  · have k2 : ∀ B p, MT σ B p → tK B p = 2 := fun B p M => srt_2.mp (by rw [← M.2.2.1]; exact h6)
    have e8 : ∀ B p, MT σ B p → σ 67 8 = tV B p := fun B p M => M.2.2.2.2.1 (k2 B p M)
    refine ⟨fun h8 => ⟨rfl, fun σ1 g => bad 4 (by decide) σ1 g (fun B p M => ?_)⟩, fun h8 => ⟨fun h9 => ⟨fun z => absurd h0 z, fun _ => ?_⟩, fun h9 => ⟨rfl, fun σ4 g => bad 4 (by decide) σ4 g (fun B p M => ?_)⟩⟩⟩
    · have := e8 B p M
      unfold nuO
      rw [if_pos (k2 B p M), if_pos (by omega), if_neg (by have := k2 B p M; omega)]
    · have h4 : ∀ B p, MT σ B p → ¬ tK B p = 4 := fun B p M => by have := k2 B p M; omega
      refine ⟨(M0.tok (h4 _ _ M0)).1, fun σ3 g => ⟨fun z => absurd z (by omega), fun B p M _ => ?_⟩⟩
      obtain ⟨q1, q2⟩ := (M.tok (h4 _ _ M)).2 σ3 g
      refine ⟨q1.rq, ?_⟩
      have := e8 B p M
      unfold outM nuO
      rw [if_pos (k2 B p M), if_neg (by omega)]
      exact ⟨this, q1.go h0 q2⟩
    · have := e8 B p M
      unfold nuO
      rw [if_pos (k2 B p M), if_pos (by omega), if_neg (by have := k2 B p M; omega)]
  · have : ¬ tK B p = 2 := fun z => h6 (by rw [M.2.2.1]; exact srt_2.mpr z)
    unfold nuO
    rw [if_neg this]
    rfl
def Mo_toldNumber_I : List AV → Hp → Nat → Nat → List AV → List AV → Hp → Prop := fun as σ0 pc n st ls σ => (match as with
    | [.inr (.inr (.inl (k, 0, 9))), .inl a1, .inl a2] => False
    | _ => False)
def Mo_toldNumber_ct : Nat → Ct := fun n => match n with
  | 0 => Mo_wrong_cs
  | 1 => Mo_token_cs
  | _ => Mo_toldNumber_cs
set_option maxRecDepth 20000 in
set_option maxHeartbeats 4000000 in
theorem Mo_toldNumber_met {l : Launch} {D : va_G} {ad : Nat → Nat} {ca : Nat → ClassId} {L : Nat} {fx : Nat → Int} : ax_MC l D ad ca L fx yX9_toldNumber cX9_toldNumber 4 (some .int) 3 Mo_toldNumber_cs := by
  refine ax_met (oc := 9) (ct := Mo_toldNumber_ct) (calls := Mo_toldNumber_cl) (bs := Mo_toldNumber_bk) (cut := fun pc => false) (f := 7) (I := Mo_toldNumber_I) (by decide) rfl rfl Mo_toldNumber_ck (List.forall_mem_cons.mpr ⟨ax_cwV Mo_wrong_met (by decide) (by decide) rfl (by decide) rfl (ax_m6 199 (by decide +kernel) rfl) Mo_wrong_w rfl Mo_wrong_ds, List.forall_mem_cons.mpr ⟨ax_cwV Mo_token_met (by decide) (by decide) rfl (by decide) rfl (ax_m6 145 (by decide +kernel) rfl) Mo_token_w rfl Mo_token_ds, fun _ h => absurd h List.not_mem_nil⟩⟩) ?_ ?_
  · intro as σ0 hp hH
    match as, hp with
    | [.inr (.inr (.inl (k, 0, 9))), .inl a1, .inl a2], hp => exact ⟨rfl, Mo_toldNumber_p k a1 a2 σ0 hH hp⟩
  · intro as σ0 hp n pc st ls σ hH hI
    match as, hp, hI with
    | [.inr (.inr (.inl (k, 0, 9))), .inl a1, .inl a2], hp, hI => exact False.elim hI
def Mo_told_pre (k : Nat) (_w _a _b : Int) (σ : Hp) : Prop := k = 67 ∧ FM σ
def Mo_told_post (_k : Nat) (w a b : Int) (σ : Hp) (r : Int) (σ' : Hp) : Prop := (0 < σ 67 2 → σ' = σ) ∧ ∀ B p, MT σ B p → σ 67 2 = 0 → RQ σ σ' ∧ outM (nmrO B p w a b) σ σ' B (fun x => r = x.1 ∧ Gom σ σ' B x.2)
def Mo_told_bk : List (Nat × List Item) := [(0, [(.aload_n 0, 1, [], []), (.lload_n 1, 1, [], []), (.invokevirtual 230, 3, [0], []), (.aload_n 0, 1, [], []), (.iload_n 3, 1, [], []), (.iload 4, 2, [], []), (.invokevirtual 234, 3, [1], []), (.ireturn, 1, [], [])])]
def Mo_told_cl : List (Instr × Nat) := [(.invokevirtual 230, 0), (.invokevirtual 234, 1)]
set_option maxRecDepth 20000 in
theorem Mo_told_ck : Mo_told_bk.all (fun b => ax_chB 9 5 cX9_told Mo_told_cl b.1 b.2) = true := by decide +kernel
def Mo_told_cs : Ct := (4, 10, 1, (0, 0), fun as σ => (match as with
    | [.inr (.inr (.inl (k, 0, 9))), .inr (.inl a1), .inl a2, .inl a3] => Mo_told_pre k a1 a2 a3 σ
    | _ => False), fun as σ r σ' => (match as with
    | [.inr (.inr (.inl (k, 0, 9))), .inr (.inl a1), .inl a2, .inl a3] => Mo_told_post k a1 a2 a3 σ r σ'
    | _ => False))
theorem Mo_told_w : ∀ w ∈ ([.instanceMethod yX9_told, .selects yX9_told.cls yX9_told yX9_told, .initialized yX9_told.cls, .code yX9_told cX9_told 5 (some .int)] : List Cond), w ∈ ax_tb := ax_w4 (ax_m6 209 (by decide +kernel) rfl) (ax_m0 17 (by decide +kernel) rfl) (ax_m1 10 (by decide +kernel) rfl) (ax_m6 210 (by decide +kernel) rfl)
theorem Mo_told_ds : yX9_told.cls ≠ "java/lang/invoke/MethodHandle" ∧ yX9_told.cls ≠ "java/lang/invoke/VarHandle" ∧ (parseMethodDescriptor yX9_told.desc).map (fun d => d.parameters.length) = some 3 := by decide +kernel
def Mo_told_vc : Prop := ∀ (k : Nat) (a1 : Int) (a2 : Int) (a3 : Int) (σ : Hp), ax_H σ → Mo_told_pre k a1 a2 a3 σ →
  Mo_want_pre k a1 σ ∧
  ∀ σ1 : Hp, Mo_want_post k a1 σ σ1 →
  Mo_toldNumber_pre k a2 a3 σ1 ∧
  ∀ (r3 : Int) (σ2 : Hp), Mo_toldNumber_post k a2 a3 σ1 r3 σ2 →
  Mo_told_post k a1 a2 a3 σ r3 σ2
theorem outM_Fs {α : Type} {o : Oc α} {σ σ1 σ2 : Hp} {B : Tp} {x : Int × Nat} {N : α → Prop} (ho : o = .inl x) (h : ¬ x.1 = 0 ∧ 0 ≤ x.1 ∧ Fs σ σ1 B x.1 x.2) (e : σ2 = σ1) : outM o σ σ2 B N := by
  rw [ho, e]; exact h
theorem Mo_told_p : Mo_told_vc := by
  intro k w a b σ hH hp
  obtain ⟨rfl, hF⟩ := hp
  refine ⟨⟨rfl, hF⟩, fun σ1 g => ?_⟩
  have F1 : FM σ1 := by
    by_cases h0 : σ 67 2 = 0
    · obtain ⟨B, p, M⟩ := hF.2 h0
      obtain ⟨q1, q2⟩ := g.2 B p M h0
      unfold outM at q2
      split at q2
      · exact ⟨by rw [q2.2.2.1]; exact q2.2.1, fun z => absurd (by rw [← q2.2.2.1]; exact z) q2.1⟩
      · exact ⟨by rw [q2.1]; decide, fun _ => ⟨B, _, q2.2.2⟩⟩
    · rw [g.1 (by have := hF.1; omega)]; exact hF
  refine ⟨⟨rfl, F1⟩, fun r3 σ2 g2 => ⟨fun h => ?_, fun B p M h0 => ?_⟩⟩
  · have e := g.1 h
    rw [e] at g2
    exact g2.1 h
  · obtain ⟨q1, q2⟩ := g.2 B p M h0
    unfold wnO outM at q2
    by_cases z : tK B p = 1 ∧ tV B p = w
    · rw [if_pos z] at q2
      obtain ⟨t1, t2⟩ := g2.2 B (tN B p) q2.2.2 q2.1
      refine ⟨q1.tr t1, ?_⟩
      have e : nmrO B p w a b = nuO B (tN B p) a b := by unfold nmrO nuO; rw [if_pos z]
      rw [e]
      unfold outM at t2 ⊢
      split at t2
      · exact ⟨t2.1, t2.2.1, t2.2.2.1, t2.2.2.2⟩
      · exact ⟨t2.1, t2.2.1, t2.2.2.1.trans q2.2.1, t2.2.2.2⟩
    · rw [if_neg z] at q2
      have e2 : σ2 = σ1 := g2.1 (by rw [q2.2.2.1]; exact rfc_p B p)
      refine ⟨by rw [e2]; exact q1, ?_⟩
      refine outM_Fs (x := (rfc B p, p)) ?_ q2 e2
      unfold nmrO
      rw [if_neg z]
def Mo_told_I : List AV → Hp → Nat → Nat → List AV → List AV → Hp → Prop := fun as σ0 pc n st ls σ => (match as with
    | [.inr (.inr (.inl (k, 0, 9))), .inr (.inl a1), .inl a2, .inl a3] => False
    | _ => False)
def Mo_told_ct : Nat → Ct := fun n => match n with
  | 0 => Mo_want_cs
  | 1 => Mo_toldNumber_cs
  | _ => Mo_told_cs
set_option maxRecDepth 20000 in
set_option maxHeartbeats 4000000 in
theorem Mo_told_met {l : Launch} {D : va_G} {ad : Nat → Nat} {ca : Nat → ClassId} {L : Nat} {fx : Nat → Int} : ax_MC l D ad ca L fx yX9_told cX9_told 5 (some .int) 4 Mo_told_cs := by
  refine ax_met (oc := 9) (ct := Mo_told_ct) (calls := Mo_told_cl) (bs := Mo_told_bk) (cut := fun pc => false) (f := 2) (I := Mo_told_I) (by decide) rfl rfl Mo_told_ck (List.forall_mem_cons.mpr ⟨ax_cwV Mo_want_met (by decide) (by decide) rfl (by decide) rfl (ax_m6 211 (by decide +kernel) rfl) Mo_want_w rfl Mo_want_ds, List.forall_mem_cons.mpr ⟨ax_cwV Mo_toldNumber_met (by decide) (by decide) rfl (by decide) rfl (ax_m6 215 (by decide +kernel) rfl) Mo_toldNumber_w rfl Mo_toldNumber_ds, fun _ h => absurd h List.not_mem_nil⟩⟩) ?_ ?_
  · intro as σ0 hp hH
    match as, hp with
    | [.inr (.inr (.inl (k, 0, 9))), .inr (.inl a1), .inl a2, .inl a3], hp => exact ⟨rfl, Mo_told_p k a1 a2 a3 σ0 hH hp⟩
  · intro as σ0 hp n pc st ls σ hH hI
    match as, hp, hI with
    | [.inr (.inr (.inl (k, 0, 9))), .inr (.inl a1), .inl a2, .inl a3], hp, hI => exact False.elim hI
def Mo_find_pre (k : Nat) (σ : Hp) : Prop := k = 67 ∧ 0 ≤ σ 67 37 ∧ σ 67 37 ≤ 6
def fdM (σ : Hp) (n : Nat) (r : Int) : Prop := (r = -1 ∧ ∀ j, j < n → ¬ σ 69 j = σ 67 9) ∨ (∃ i : Nat, i < n ∧ r = i ∧ σ 69 i = σ 67 9)
def Mo_find_post (_k : Nat) (σ : Hp) (r : Int) (σ' : Hp) : Prop := σ' = σ ∧ fdM σ (σ 67 37).toNat r
def Mo_find_I4 (_k : Nat) (σ0 : Hp) (n : Nat) (v1 v2 : Int) (σ : Hp) : Prop := ∃ i : Nat, v2 = i ∧ i ≤ (σ0 67 37).toNat ∧ n = 6 - i ∧ σ = σ0 ∧ fdM σ0 i v1
def Mo_find_bk : List (Nat × List Item) := [(0, [(.iconst (-1), 1, [], []), (.istore_n 1, 1, [], []), (.iconst 0, 1, [], []), (.istore_n 2, 1, [], [])]),
  (4, [(.iload_n 2, 1, [], []), (.aload_n 0, 1, [], []), (.getfield 238, 3, [9, 37, 0, 0, 0, 0], []), (.if_icmp .ge 29, 3, [38], []), (.aload_n 0, 1, [], []), (.getfield 17, 3, [9, 10, 4, 2, 4, 6], []), (.iload_n 2, 1, [], []), (.laload, 1, [], []), (.aload_n 0, 1, [], []), (.getfield 159, 3, [9, 9, 2, 0, 0, 0], []), (.lcmp, 1, [], []), (.ifCond .ne 7, 3, [30], []), (.iload_n 2, 1, [], []), (.goto 4, 3, [31], [])]),
  (30, [(.iload_n 1, 1, [], [])]),
  (31, [(.istore_n 1, 1, [], []), (.iinc 2 1, 3, [], []), (.goto (-31), 3, [4], [])]),
  (38, [(.iload_n 1, 1, [], []), (.ireturn, 1, [], [])])]
def Mo_find_cl : List (Instr × Nat) := []
set_option maxRecDepth 20000 in
theorem Mo_find_ck : Mo_find_bk.all (fun b => ax_chB 9 3 cX9_find Mo_find_cl b.1 b.2) = true := by decide +kernel
def Mo_find_cs : Ct := (1, 10, 1, (0, 0), fun as σ => (match as with
    | [.inr (.inr (.inl (k, 0, 9)))] => Mo_find_pre k σ
    | _ => False), fun as σ r σ' => (match as with
    | [.inr (.inr (.inl (k, 0, 9)))] => Mo_find_post k σ r σ'
    | _ => False))
theorem Mo_find_w : ∀ w ∈ ([.instanceMethod yX9_find, .selects yX9_find.cls yX9_find yX9_find, .initialized yX9_find.cls, .code yX9_find cX9_find 3 (some .int)] : List Cond), w ∈ ax_tb := ax_w4 (ax_m6 205 (by decide +kernel) rfl) (ax_m0 16 (by decide +kernel) rfl) (ax_m1 10 (by decide +kernel) rfl) (ax_m6 206 (by decide +kernel) rfl)
theorem Mo_find_ds : yX9_find.cls ≠ "java/lang/invoke/MethodHandle" ∧ yX9_find.cls ≠ "java/lang/invoke/VarHandle" ∧ (parseMethodDescriptor yX9_find.desc).map (fun d => d.parameters.length) = some 0 := by decide +kernel
def Mo_find_vc : Prop := ∀ (k : Nat) (σ : Hp), ax_H σ → Mo_find_pre k σ →
  ∃ n' : Nat, k = k ∧ Mo_find_I4 k σ n' (-1) 0 σ
def Mo_find_vc4 : Prop := ∀ (k : Nat) (σ0 : Hp), Mo_find_pre k σ0 → ∀ (n : Nat) (v1 : Int) (v2 : Int) (σ : Hp), ax_H σ → Mo_find_I4 k σ0 n v1 v2 σ →
  (σ k 37 ≤ v2 →
    Mo_find_post k σ0 v1 σ) ∧
  (¬ (σ k 37 ≤ v2) →
    (0 ≤ v2 ∧ v2 < 6) ∧
    (¬ lCmp (σ (k + 2) v2.toNat) (σ k 9) = 0 →
      ∃ n' : Nat, n' < n ∧ k = k ∧ Mo_find_I4 k σ0 n' v1 (wr (v2 + 1)) σ) ∧
    (¬ (¬ lCmp (σ (k + 2) v2.toNat) (σ k 9) = 0) →
      ∃ n' : Nat, n' < n ∧ k = k ∧ Mo_find_I4 k σ0 n' v2 (wr (v2 + 1)) σ))
theorem Mo_find_p : Mo_find_vc := by
  intro k σ hH hp
  obtain ⟨rfl, h0, h6⟩ := hp
  exact ⟨6, rfl, 0, rfl, Nat.zero_le _, rfl, rfl, Or.inl ⟨rfl, fun j hj => absurd hj (Nat.not_lt_zero j)⟩⟩
theorem Mo_find_p4 : Mo_find_vc4 := by
  intro k σ0 hp n v1 v2 σ hH hI
  obtain ⟨rfl, h0, h6⟩ := hp
  obtain ⟨i, rfl, hi, rfl, rfl, hv⟩ := hI
  rw [lCmp_0, Int.toNat_natCast, wr1 (by omega) (by omega)]
  refine ⟨fun h => ⟨rfl, by rw [show (σ 67 37).toNat = i by omega]; exact hv⟩, fun h => ⟨⟨by omega, by omega⟩, fun h2 => ⟨6 - (i + 1), by omega, rfl, i + 1, by simp, by omega, rfl, rfl, ?_⟩, fun h2 => ⟨6 - (i + 1), by omega, rfl, i + 1, by simp, by omega, rfl, rfl, Or.inr ⟨i, by omega, rfl, Classical.not_not.mp h2⟩⟩⟩⟩
  rcases hv with ⟨e, hv⟩ | ⟨j, j1, j2, j3⟩
  · refine Or.inl ⟨e, fun j hj => ?_⟩
    by_cases z : j = i
    · rw [z]; exact h2
    · exact hv j (by omega)
  · exact Or.inr ⟨j, by omega, j2, j3⟩
def Mo_find_I : List AV → Hp → Nat → Nat → List AV → List AV → Hp → Prop := fun as σ0 pc n st ls σ => (match as with
    | [.inr (.inr (.inl (k, 0, 9)))] => (bif Nat.beq pc 4 then (match st, ls with
      | [], [.inr (.inr (.inl (k', 0, 9))), .inl v1, .inl v2] => k = k' ∧ Mo_find_I4 k σ0 n v1 v2 σ
      | _, _ => False) else False)
    | _ => False)
def Mo_find_ct : Nat → Ct := fun n => match n with
  | _ => Mo_find_cs
set_option maxRecDepth 20000 in
set_option maxHeartbeats 4000000 in
theorem Mo_find_met {l : Launch} {D : va_G} {ad : Nat → Nat} {ca : Nat → ClassId} {L : Nat} {fx : Nat → Int} : ax_MC l D ad ca L fx yX9_find cX9_find 3 (some .int) 1 Mo_find_cs := by
  refine ax_met (oc := 9) (ct := Mo_find_ct) (calls := Mo_find_cl) (bs := Mo_find_bk) (cut := fun pc => Nat.beq pc 4) (f := 6) (I := Mo_find_I) (by decide) rfl rfl Mo_find_ck (fun _ h => absurd h List.not_mem_nil) ?_ ?_
  · intro as σ0 hp hH
    match as, hp with
    | [.inr (.inr (.inl (k, 0, 9)))], hp => exact ⟨rfl, Mo_find_p k σ0 hH hp⟩
  · intro as σ0 hp n pc st ls σ hH hI
    match as, hp, hI with
    | [.inr (.inr (.inl (k, 0, 9)))], hp, hI =>
      rcases ax_bifE hI with ⟨hpc, hI⟩ | ⟨-, hI⟩
      · have := Nat.eq_of_beq_eq_true hpc
        subst this
        match st, ls, hI with
        | [], [.inr (.inr (.inl (k', 0, 9))), .inl v1, .inl v2], hI =>
          obtain ⟨rfl, hI⟩ := hI
          exact Mo_find_p4 k σ0 hp n v1 v2 σ hH hI
      exact False.elim hI
def Mo_oldPerson_pre (k : Nat) (σ : Hp) : Prop := k = 67 ∧ FM σ ∧ 0 ≤ σ 67 37 ∧ σ 67 37 ≤ 6
def Mo_oldPerson_post (_k : Nat) (σ : Hp) (r : Int) (σ' : Hp) : Prop := (0 < σ 67 2 → σ' = σ ∧ r = 0) ∧ ∀ B p, MT σ B p → σ 67 2 = 0 → RQ σ σ' ∧ ((nmB B p ∧ σ' = σ ∧ ∃ i : Nat, i < (σ 67 37).toNat ∧ r = i ∧ σ 69 i = tV B p) ∨ (nmB B p ∧ (∀ j, j < (σ 67 37).toNat → ¬ σ 69 j = tV B p) ∧ r = 0 ∧ Fs σ σ' B 5 p) ∨ (¬ nmB B p ∧ r = 0 ∧ Fs σ σ' B (rfc B p) p))
def Mo_oldPerson_bk : List (Nat × List Item) := [(0, [(.aload_n 0, 1, [], []), (.getfield 179, 3, [9, 2, 0, 0, 0, 0], []), (.ifCond .le 5, 3, [9], []), (.iconst 0, 1, [], []), (.ireturn, 1, [], [])]),
  (9, [(.aload_n 0, 1, [], []), (.invokevirtual 241, 3, [0], []), (.ifCond .ne 11, 3, [24], []), (.aload_n 0, 1, [], []), (.iconst 2, 1, [], []), (.invokevirtual 224, 3, [1], []), (.goto 15, 3, [36], [])]),
  (24, [(.aload_n 0, 1, [], []), (.invokevirtual 244, 3, [2], []), (.ifCond .ge 8, 3, [36], []), (.aload_n 0, 1, [], []), (.iconst 5, 1, [], []), (.invokevirtual 224, 3, [1], [])]),
  (36, [(.aload_n 0, 1, [], []), (.getfield 179, 3, [9, 2, 0, 0, 0, 0], []), (.ifCond .le 7, 3, [47], []), (.iconst 0, 1, [], []), (.goto 7, 3, [51], [])]),
  (47, [(.aload_n 0, 1, [], []), (.invokevirtual 244, 3, [2], [])]),
  (51, [(.ireturn, 1, [], [])])]
def Mo_oldPerson_cl : List (Instr × Nat) := [(.invokevirtual 241, 0), (.invokevirtual 224, 1), (.invokevirtual 244, 2)]
set_option maxRecDepth 20000 in
theorem Mo_oldPerson_ck : Mo_oldPerson_bk.all (fun b => ax_chB 9 1 cX9_oldPerson Mo_oldPerson_cl b.1 b.2) = true := by decide +kernel
def Mo_oldPerson_cs : Ct := (1, 10, 1, (0, 0), fun as σ => (match as with
    | [.inr (.inr (.inl (k, 0, 9)))] => Mo_oldPerson_pre k σ
    | _ => False), fun as σ r σ' => (match as with
    | [.inr (.inr (.inl (k, 0, 9)))] => Mo_oldPerson_post k σ r σ'
    | _ => False))
theorem Mo_oldPerson_w : ∀ w ∈ ([.instanceMethod yX9_oldPerson, .selects yX9_oldPerson.cls yX9_oldPerson yX9_oldPerson, .initialized yX9_oldPerson.cls, .code yX9_oldPerson cX9_oldPerson 1 (some .int)] : List Cond), w ∈ ax_tb := ax_w4 (ax_m6 225 (by decide +kernel) rfl) (ax_m0 21 (by decide +kernel) rfl) (ax_m1 10 (by decide +kernel) rfl) (ax_m6 226 (by decide +kernel) rfl)
theorem Mo_oldPerson_ds : yX9_oldPerson.cls ≠ "java/lang/invoke/MethodHandle" ∧ yX9_oldPerson.cls ≠ "java/lang/invoke/VarHandle" ∧ (parseMethodDescriptor yX9_oldPerson.desc).map (fun d => d.parameters.length) = some 0 := by decide +kernel
def Mo_oldPerson_vc : Prop := ∀ (k : Nat) (σ : Hp), ax_H σ → Mo_oldPerson_pre k σ →
  (σ k 2 ≤ 0 →
    Mo_isName_pre k σ ∧
    ∀ (r2 : Int) (σ1 : Hp), Mo_isName_post k σ r2 σ1 →
    (¬ r2 = 0 →
      Mo_find_pre k σ1 ∧
      ∀ (r4 : Int) (σ3 : Hp), Mo_find_post k σ1 r4 σ3 →
      (0 ≤ r4 →
        (σ3 k 2 ≤ 0 →
          Mo_find_pre k σ3 ∧
          ∀ (r6 : Int) (σ5 : Hp), Mo_find_post k σ3 r6 σ5 →
          Mo_oldPerson_post k σ r6 σ5) ∧
        (¬ (σ3 k 2 ≤ 0) →
          Mo_oldPerson_post k σ 0 σ3)) ∧
      (¬ (0 ≤ r4) →
        Mo_wrong_pre k 5 σ3 ∧
        ∀ σ7 : Hp, Mo_wrong_post k 5 σ3 σ7 →
        (σ7 k 2 ≤ 0 →
          Mo_find_pre k σ7 ∧
          ∀ (r9 : Int) (σ8 : Hp), Mo_find_post k σ7 r9 σ8 →
          Mo_oldPerson_post k σ r9 σ8) ∧
        (¬ (σ7 k 2 ≤ 0) →
          Mo_oldPerson_post k σ 0 σ7))) ∧
    (¬ (¬ r2 = 0) →
      Mo_wrong_pre k 2 σ1 ∧
      ∀ σ10 : Hp, Mo_wrong_post k 2 σ1 σ10 →
      (σ10 k 2 ≤ 0 →
        Mo_find_pre k σ10 ∧
        ∀ (r12 : Int) (σ11 : Hp), Mo_find_post k σ10 r12 σ11 →
        Mo_oldPerson_post k σ r12 σ11) ∧
      (¬ (σ10 k 2 ≤ 0) →
        Mo_oldPerson_post k σ 0 σ10))) ∧
  (¬ (σ k 2 ≤ 0) →
    Mo_oldPerson_post k σ 0 σ)
theorem Mo_oldPerson_p : Mo_oldPerson_vc := by
  intro k σ hH hp
  obtain ⟨rfl, hF, h37⟩ := hp
  refine ⟨fun h => ⟨rfl, ?_⟩, fun h => ⟨fun _ => ⟨rfl, rfl⟩, fun B p _ z => absurd z (by omega)⟩⟩
  have h0 : σ 67 2 = 0 := by have := hF.1; omega
  obtain ⟨B0, p0, M0⟩ := hF.2 h0
  rintro r2 σ1 ⟨rfl, h2⟩
  refine ⟨fun z2 => ⟨⟨rfl, h37⟩, ?_⟩, fun z2 => ⟨rfl, fun σ10 g => ?_⟩⟩
  · have hn : ∀ B p, MT σ1 B p → nmB B p := fun B p M => M.nm.mp (by
      rcases h2 with y | y
      · exact y.2
      · exact absurd y.1 z2)
    have e9 : ∀ B p, MT σ1 B p → σ1 67 9 = tV B p := fun B p M => M.2.2.2.1 (hn B p M).1
    rintro r4 σ3 ⟨rfl, h4⟩
    refine ⟨fun z4 => ⟨fun _ => ⟨⟨rfl, h37⟩, ?_⟩, fun z => absurd (by omega) z⟩, fun z4 => ⟨rfl, fun σ7 g => ?_⟩⟩
    · rintro r6 σ5 ⟨rfl, h6⟩
      refine ⟨fun z => absurd z (by omega), fun B p M _ => ⟨RQ.rf, Or.inl ⟨hn B p M, rfl, ?_⟩⟩⟩
      rcases h6 with y | ⟨i, i1, i2, i3⟩
      · rcases h4 with x | ⟨i, i1, i2, i3⟩
        · omega
        · exact absurd i3 (y.2 i i1)
      · exact ⟨i, i1, i2, by rw [i3, e9 B p M]⟩
    · obtain ⟨q1, q2, q3⟩ := M0.wg h0 g
      have z7 : σ7 67 2 = 5 := by rw [q2, if_neg (by have := (hn _ _ M0).1; omega)]
      refine ⟨fun z => absurd z (by omega), fun z => ⟨fun z => absurd z (by omega), fun B p M _ => ⟨q1, Or.inr (Or.inl ⟨hn B p M, ?_, rfl, z7, (M.wg h0 g).2.2⟩)⟩⟩⟩
      rcases h4 with y | ⟨i, i1, i2, i3⟩
      · rw [← e9 B p M]; exact y.2
      · omega
  · have hn : ∀ B p, MT σ1 B p → ¬ nmB B p := fun B p M z => by
      rcases h2 with y | y
      · omega
      · exact y.2 (M.nm.mpr z)
    obtain ⟨q1, q2, q3⟩ := M0.wg h0 g
    have z7 : ∀ B p, MT σ1 B p → σ10 67 2 = rfc B p := fun B p M => (M.wg h0 g).2.1
    have := rfc_p B0 p0
    have := z7 _ _ M0
    exact ⟨fun z => absurd z (by omega), fun z => ⟨fun z => absurd z (by omega), fun B p M _ => ⟨q1, Or.inr (Or.inr ⟨hn B p M, rfl, z7 B p M, (M.wg h0 g).2.2⟩)⟩⟩⟩
def Mo_oldPerson_I : List AV → Hp → Nat → Nat → List AV → List AV → Hp → Prop := fun as σ0 pc n st ls σ => (match as with
    | [.inr (.inr (.inl (k, 0, 9)))] => False
    | _ => False)
def Mo_oldPerson_ct : Nat → Ct := fun n => match n with
  | 0 => Mo_isName_cs
  | 1 => Mo_wrong_cs
  | 2 => Mo_find_cs
  | _ => Mo_oldPerson_cs
set_option maxRecDepth 20000 in
set_option maxHeartbeats 4000000 in
theorem Mo_oldPerson_met {l : Launch} {D : va_G} {ad : Nat → Nat} {ca : Nat → ClassId} {L : Nat} {fx : Nat → Int} : ax_MC l D ad ca L fx yX9_oldPerson cX9_oldPerson 1 (some .int) 3 Mo_oldPerson_cs := by
  refine ax_met (oc := 9) (ct := Mo_oldPerson_ct) (calls := Mo_oldPerson_cl) (bs := Mo_oldPerson_bk) (cut := fun pc => false) (f := 7) (I := Mo_oldPerson_I) (by decide) rfl rfl Mo_oldPerson_ck (List.forall_mem_cons.mpr ⟨ax_cwV Mo_isName_met (by decide) (by decide) rfl (by decide) rfl (ax_m6 175 (by decide +kernel) rfl) Mo_isName_w rfl Mo_isName_ds, List.forall_mem_cons.mpr ⟨ax_cwV Mo_wrong_met (by decide) (by decide) rfl (by decide) rfl (ax_m6 199 (by decide +kernel) rfl) Mo_wrong_w rfl Mo_wrong_ds, List.forall_mem_cons.mpr ⟨ax_cwV Mo_find_met (by decide) (by decide) rfl (by decide) rfl (ax_m6 203 (by decide +kernel) rfl) Mo_find_w rfl Mo_find_ds, fun _ h => absurd h List.not_mem_nil⟩⟩⟩) ?_ ?_
  · intro as σ0 hp hH
    match as, hp with
    | [.inr (.inr (.inl (k, 0, 9)))], hp => exact ⟨rfl, Mo_oldPerson_p k σ0 hH hp⟩
  · intro as σ0 hp n pc st ls σ hH hI
    match as, hp, hI with
    | [.inr (.inr (.inl (k, 0, 9)))], hp, hI => exact False.elim hI

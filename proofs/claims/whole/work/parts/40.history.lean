-- THE HISTORY and THE BOXES
def HO (σ : Hp) : Prop := (0 ≤ σ 14 1 ∧ σ 14 1 < 41) ∧ 0 ≤ σ 14 2 ∧ σ 14 2 ≤ σ 14 3 ∧ σ 14 3 ≤ 40
def hst (σ : Hp) (i : Nat) : Sta := rowS (σ 15) (16 * (((σ 14 1).toNat + i) % 41))
def Hi_clear_pre (k : Nat) (σ : Hp) : Prop := k = 14 ∧ HO σ
def Hi_clear_post (_k : Nat) (σ σ' : Hp) : Prop := Fr [14] σ σ' ∧ HO σ' ∧ σ' 14 2 = 0 ∧ σ' 14 3 = 0
def Hi_clear_bk : List (Nat × List Item) := [(0, [(.aload_n 0, 1, [], []), (.iconst 0, 1, [], []), (.putfield 15, 3, [3, 2, 0, 0, 0, 0], []), (.aload_n 0, 1, [], []), (.iconst 0, 1, [], []), (.putfield 19, 3, [3, 3, 0, 0, 0, 0], []), (.return_, 1, [], [])])]
def Hi_clear_cl : List (Instr × Nat) := []
set_option maxRecDepth 20000 in
theorem Hi_clear_ck : Hi_clear_bk.all (fun b => ax_chB 3 1 cX3_clear Hi_clear_cl b.1 b.2) = true := by decide +kernel
def Hi_clear_cs : Ct := (1, 4, 0, (0, 0), fun as σ => (match as with
    | [.inr (.inr (.inl (k, 0, 3)))] => Hi_clear_pre k σ
    | _ => False), fun as σ r σ' => (match as with
    | [.inr (.inr (.inl (k, 0, 3)))] => Hi_clear_post k σ σ'
    | _ => False))
theorem Hi_clear_w : ∀ w ∈ ([.instanceMethod yX3_clear, .selects yX3_clear.cls yX3_clear yX3_clear, .initialized yX3_clear.cls, .code yX3_clear cX3_clear 1 none] : List Cond), w ∈ ax_tb := ax_w4 (ax_m3 169 (by decide +kernel) rfl) (ax_m3 170 (by decide +kernel) rfl) (ax_m1 5 (by decide +kernel) rfl) (ax_m3 171 (by decide +kernel) rfl)
theorem Hi_clear_ds : yX3_clear.cls ≠ "java/lang/invoke/MethodHandle" ∧ yX3_clear.cls ≠ "java/lang/invoke/VarHandle" ∧ (parseMethodDescriptor yX3_clear.desc).map (fun d => d.parameters.length) = some 0 := by decide +kernel
def Hi_clear_vc : Prop := ∀ (k : Nat) (σ : Hp), ax_H σ → Hi_clear_pre k σ →
  ∀ σ1 : Hp, σ1 = hp σ k 2 0 →
  ∀ σ2 : Hp, σ2 = hp σ1 k 3 0 →
  Hi_clear_post k σ σ2
theorem Hi_clear_p : Hi_clear_vc := by
  intro k σ hH hp
  obtain ⟨rfl, hO⟩ := hp
  rintro σ1 rfl σ2 rfl
  refine ⟨Fr.hp (Fr.hp Fr.rf (by simp)) (by simp), ⟨?_, ?_⟩, ?_, ?_⟩
  · rw [hp_r2 (by omega), hp_r2 (by omega)]; exact hO.1
  · simp [hp_rd]
  · simp [hp_rd]
  · simp [hp_rd]
def Hi_clear_I : List AV → Hp → Nat → Nat → List AV → List AV → Hp → Prop := fun as σ0 pc n st ls σ => (match as with
    | [.inr (.inr (.inl (k, 0, 3)))] => False
    | _ => False)
def Hi_clear_ct : Nat → Ct := fun n => match n with
  | _ => Hi_clear_cs
set_option maxRecDepth 20000 in
set_option maxHeartbeats 4000000 in
theorem Hi_clear_met {l : Launch} {D : va_G} {ad : Nat → Nat} {ca : Nat → ClassId} {L : Nat} {fx : Nat → Int} : ax_MC l D ad ca L fx yX3_clear cX3_clear 1 none 1 Hi_clear_cs := by
  refine ax_met (oc := 3) (ct := Hi_clear_ct) (calls := Hi_clear_cl) (bs := Hi_clear_bk) (cut := fun pc => false) (f := 2) (I := Hi_clear_I) (by decide) rfl rfl Hi_clear_ck (fun _ h => absurd h List.not_mem_nil) ?_ ?_
  · intro as σ0 hp hH
    match as, hp with
    | [.inr (.inr (.inl (k, 0, 3)))], hp => exact ⟨rfl, Hi_clear_p k σ0 hH hp⟩
  · intro as σ0 hp n pc st ls σ hH hI
    match as, hp, hI with
    | [.inr (.inr (.inl (k, 0, 3)))], hp, hI => exact False.elim hI
def Hi_countAhead_pre (k : Nat) (σ : Hp) : Prop := k = 14 ∧ HO σ
def Hi_countAhead_post (_k : Nat) (σ : Hp) (r : Int) (σ' : Hp) : Prop := σ' = σ ∧ r = σ 14 3 - σ 14 2
def Hi_countAhead_bk : List (Nat × List Item) := [(0, [(.aload_n 0, 1, [], []), (.getfield 19, 3, [3, 3, 0, 0, 0, 0], []), (.aload_n 0, 1, [], []), (.getfield 15, 3, [3, 2, 0, 0, 0, 0], []), (.isub, 1, [], []), (.ireturn, 1, [], [])])]
def Hi_countAhead_cl : List (Instr × Nat) := []
set_option maxRecDepth 20000 in
theorem Hi_countAhead_ck : Hi_countAhead_bk.all (fun b => ax_chB 3 1 cX3_countAhead Hi_countAhead_cl b.1 b.2) = true := by decide +kernel
def Hi_countAhead_cs : Ct := (1, 4, 1, (0, 0), fun as σ => (match as with
    | [.inr (.inr (.inl (k, 0, 3)))] => Hi_countAhead_pre k σ
    | _ => False), fun as σ r σ' => (match as with
    | [.inr (.inr (.inl (k, 0, 3)))] => Hi_countAhead_post k σ r σ'
    | _ => False))
theorem Hi_countAhead_w : ∀ w ∈ ([.instanceMethod yX3_countAhead, .selects yX3_countAhead.cls yX3_countAhead yX3_countAhead, .initialized yX3_countAhead.cls, .code yX3_countAhead cX3_countAhead 1 (some .int)] : List Cond), w ∈ ax_tb := ax_w4 (ax_m5 145 (by decide +kernel) rfl) (ax_m5 146 (by decide +kernel) rfl) (ax_m1 5 (by decide +kernel) rfl) (ax_m5 147 (by decide +kernel) rfl)
theorem Hi_countAhead_ds : yX3_countAhead.cls ≠ "java/lang/invoke/MethodHandle" ∧ yX3_countAhead.cls ≠ "java/lang/invoke/VarHandle" ∧ (parseMethodDescriptor yX3_countAhead.desc).map (fun d => d.parameters.length) = some 0 := by decide +kernel
def Hi_countAhead_vc : Prop := ∀ (k : Nat) (σ : Hp), ax_H σ → Hi_countAhead_pre k σ →
  Hi_countAhead_post k σ (wr ((σ k 3) - (σ k 2))) σ
theorem Hi_countAhead_p : Hi_countAhead_vc := by
  intro k σ hH hp
  obtain ⟨rfl, h1, h2, h3, h4⟩ := hp
  exact ⟨rfl, wr_id (by omega) (by omega)⟩
def Hi_countAhead_I : List AV → Hp → Nat → Nat → List AV → List AV → Hp → Prop := fun as σ0 pc n st ls σ => (match as with
    | [.inr (.inr (.inl (k, 0, 3)))] => False
    | _ => False)
def Hi_countAhead_ct : Nat → Ct := fun n => match n with
  | _ => Hi_countAhead_cs
set_option maxRecDepth 20000 in
set_option maxHeartbeats 4000000 in
theorem Hi_countAhead_met {l : Launch} {D : va_G} {ad : Nat → Nat} {ca : Nat → ClassId} {L : Nat} {fx : Nat → Int} : ax_MC l D ad ca L fx yX3_countAhead cX3_countAhead 1 (some .int) 1 Hi_countAhead_cs := by
  refine ax_met (oc := 3) (ct := Hi_countAhead_ct) (calls := Hi_countAhead_cl) (bs := Hi_countAhead_bk) (cut := fun pc => false) (f := 2) (I := Hi_countAhead_I) (by decide) rfl rfl Hi_countAhead_ck (fun _ h => absurd h List.not_mem_nil) ?_ ?_
  · intro as σ0 hp hH
    match as, hp with
    | [.inr (.inr (.inl (k, 0, 3)))], hp => exact ⟨rfl, Hi_countAhead_p k σ0 hH hp⟩
  · intro as σ0 hp n pc st ls σ hH hI
    match as, hp, hI with
    | [.inr (.inr (.inl (k, 0, 3)))], hp, hI => exact False.elim hI
def Hi_slot_pre (k : Nat) (σ : Hp) : Prop := k = 14 ∧ HO σ
def Hi_slot_post (_k : Nat) (σ : Hp) (r : Int) (σ' : Hp) : Prop := σ' = σ ∧ r = ((((σ 14 1).toNat + (σ 14 2).toNat) % 41 : Nat) : Int)
def Hi_slot_bk : List (Nat × List Item) := [(0, [(.aload_n 0, 1, [], []), (.getfield 22, 3, [3, 1, 0, 0, 0, 0], []), (.aload_n 0, 1, [], []), (.getfield 15, 3, [3, 2, 0, 0, 0, 0], []), (.iadd, 1, [], []), (.bipush 41, 2, [], []), (.irem, 1, [], []), (.ireturn, 1, [], [])])]
def Hi_slot_cl : List (Instr × Nat) := []
set_option maxRecDepth 20000 in
theorem Hi_slot_ck : Hi_slot_bk.all (fun b => ax_chB 3 1 cX3_slot Hi_slot_cl b.1 b.2) = true := by decide +kernel
def Hi_slot_cs : Ct := (1, 4, 1, (0, 0), fun as σ => (match as with
    | [.inr (.inr (.inl (k, 0, 3)))] => Hi_slot_pre k σ
    | _ => False), fun as σ r σ' => (match as with
    | [.inr (.inr (.inl (k, 0, 3)))] => Hi_slot_post k σ r σ'
    | _ => False))
theorem Hi_slot_w : ∀ w ∈ ([.instanceMethod yX3_slot, .selects yX3_slot.cls yX3_slot yX3_slot, .initialized yX3_slot.cls, .code yX3_slot cX3_slot 1 (some .int)] : List Cond), w ∈ ax_tb := ax_w4 (ax_m3 214 (by decide +kernel) rfl) (ax_m3 215 (by decide +kernel) rfl) (ax_m1 5 (by decide +kernel) rfl) (ax_m3 216 (by decide +kernel) rfl)
theorem Hi_slot_ds : yX3_slot.cls ≠ "java/lang/invoke/MethodHandle" ∧ yX3_slot.cls ≠ "java/lang/invoke/VarHandle" ∧ (parseMethodDescriptor yX3_slot.desc).map (fun d => d.parameters.length) = some 0 := by decide +kernel
def Hi_slot_vc : Prop := ∀ (k : Nat) (σ : Hp), ax_H σ → Hi_slot_pre k σ →
  ¬ (41 : Int) = 0 ∧
  Hi_slot_post k σ (iRem (wr ((σ k 1) + (σ k 2))) 41) σ
theorem Hi_slot_p : Hi_slot_vc := by
  intro k σ hH hp
  obtain ⟨rfl, h1, h2, h3, h4⟩ := hp
  refine ⟨by decide, rfl, ?_⟩
  rw [wr_id (by omega) (by omega), show (41 : Int) = ((41 : Nat) : Int) from rfl, iRem_p (by omega) (by omega) (by omega) (by omega)]
  omega
def Hi_slot_I : List AV → Hp → Nat → Nat → List AV → List AV → Hp → Prop := fun as σ0 pc n st ls σ => (match as with
    | [.inr (.inr (.inl (k, 0, 3)))] => False
    | _ => False)
def Hi_slot_ct : Nat → Ct := fun n => match n with
  | _ => Hi_slot_cs
set_option maxRecDepth 20000 in
set_option maxHeartbeats 4000000 in
theorem Hi_slot_met {l : Launch} {D : va_G} {ad : Nat → Nat} {ca : Nat → ClassId} {L : Nat} {fx : Nat → Int} : ax_MC l D ad ca L fx yX3_slot cX3_slot 1 (some .int) 1 Hi_slot_cs := by
  refine ax_met (oc := 3) (ct := Hi_slot_ct) (calls := Hi_slot_cl) (bs := Hi_slot_bk) (cut := fun pc => false) (f := 2) (I := Hi_slot_I) (by decide) rfl rfl Hi_slot_ck (fun _ h => absurd h List.not_mem_nil) ?_ ?_
  · intro as σ0 hp hH
    match as, hp with
    | [.inr (.inr (.inl (k, 0, 3)))], hp => exact ⟨rfl, Hi_slot_p k σ0 hH hp⟩
  · intro as σ0 hp n pc st ls σ hH hI
    match as, hp, hI with
    | [.inr (.inr (.inl (k, 0, 3)))], hp, hI => exact False.elim hI
def Hi_keep_pre (k q : Nat) (σ : Hp) : Prop := k = 14 ∧ q = 31 ∧ HO σ
def Hi_keep_post (_k _q : Nat) (σ σ' : Hp) : Prop := Fr [14, 15] σ σ' ∧ HO σ' ∧ σ' 14 3 = σ' 14 2 ∧ (if σ 14 2 < 40 then σ' 14 2 = σ 14 2 + 1 ∧ hst σ' (σ 14 2).toNat = stX σ 31 ∧ ∀ i : Nat, (i : Int) < σ 14 2 → hst σ' i = hst σ i else σ' 14 2 = 40 ∧ hst σ' 39 = stX σ 31 ∧ ∀ i : Nat, i < 39 → hst σ' i = hst σ (i + 1))
def Hi_keep_bk : List (Nat × List Item) := [(0, [(.aload_n 1, 1, [], []), (.aload_n 0, 1, [], []), (.getfield 11, 3, [3, 0, 4, 1, 1, 656], []), (.aload_n 0, 1, [], []), (.invokevirtual 25, 3, [0], []), (.invokevirtual 29, 3, [1], []), (.aload_n 0, 1, [], []), (.getfield 15, 3, [3, 2, 0, 0, 0, 0], []), (.bipush 40, 2, [], []), (.if_icmp .ge 16, 3, [34], []), (.aload_n 0, 1, [], []), (.dup, 1, [], []), (.getfield 15, 3, [3, 2, 0, 0, 0, 0], []), (.iconst 1, 1, [], []), (.iadd, 1, [], []), (.putfield 15, 3, [3, 2, 0, 0, 0, 0], []), (.goto 16, 3, [47], [])]),
  (34, [(.aload_n 0, 1, [], []), (.aload_n 0, 1, [], []), (.getfield 22, 3, [3, 1, 0, 0, 0, 0], []), (.iconst 1, 1, [], []), (.iadd, 1, [], []), (.bipush 41, 2, [], []), (.irem, 1, [], []), (.putfield 22, 3, [3, 1, 0, 0, 0, 0], [])]),
  (47, [(.aload_n 0, 1, [], []), (.aload_n 0, 1, [], []), (.getfield 15, 3, [3, 2, 0, 0, 0, 0], []), (.putfield 19, 3, [3, 3, 0, 0, 0, 0], []), (.return_, 1, [], [])])]
def Hi_keep_cl : List (Instr × Nat) := [(.invokevirtual 25, 0), (.invokevirtual 29, 1)]
set_option maxRecDepth 20000 in
theorem Hi_keep_ck : Hi_keep_bk.all (fun b => ax_chB 3 2 cX3_keep Hi_keep_cl b.1 b.2) = true := by decide +kernel
def Hi_keep_cs : Ct := (2, 4, 0, (0, 0), fun as σ => (match as with
    | [.inr (.inr (.inl (k, 0, 3))), .inr (.inr (.inl (q1, 0, 7)))] => Hi_keep_pre k q1 σ
    | _ => False), fun as σ r σ' => (match as with
    | [.inr (.inr (.inl (k, 0, 3))), .inr (.inr (.inl (q1, 0, 7)))] => Hi_keep_post k q1 σ σ'
    | _ => False))
theorem Hi_keep_w : ∀ w ∈ ([.instanceMethod yX3_keep, .selects yX3_keep.cls yX3_keep yX3_keep, .initialized yX3_keep.cls, .code yX3_keep cX3_keep 2 none] : List Cond), w ∈ ax_tb := ax_w4 (ax_m3 210 (by decide +kernel) rfl) (ax_m3 211 (by decide +kernel) rfl) (ax_m1 5 (by decide +kernel) rfl) (ax_m3 212 (by decide +kernel) rfl)
theorem Hi_keep_ds : yX3_keep.cls ≠ "java/lang/invoke/MethodHandle" ∧ yX3_keep.cls ≠ "java/lang/invoke/VarHandle" ∧ (parseMethodDescriptor yX3_keep.desc).map (fun d => d.parameters.length) = some 1 := by decide +kernel
def Hi_keep_vc : Prop := ∀ (k : Nat) (q1 : Nat) (σ : Hp), ax_H σ → Hi_keep_pre k q1 σ →
  Hi_slot_pre k σ ∧
  ∀ (r2 : Int) (σ1 : Hp), Hi_slot_post k σ r2 σ1 →
  St_write_pre q1 (k + 1) 656 r2 σ1 ∧
  ∀ σ3 : Hp, St_write_post q1 (k + 1) 656 r2 σ1 σ3 →
  (40 ≤ σ3 k 2 →
    ¬ (41 : Int) = 0 ∧
    ∀ σ4 : Hp, σ4 = hp σ3 k 1 (iRem (wr ((σ3 k 1) + 1)) 41) →
    ∀ σ5 : Hp, σ5 = hp σ4 k 3 (σ4 k 2) →
    Hi_keep_post k q1 σ σ5) ∧
  (¬ (40 ≤ σ3 k 2) →
    ∀ σ6 : Hp, σ6 = hp σ3 k 2 (wr ((σ3 k 2) + 1)) →
    ∀ σ7 : Hp, σ7 = hp σ6 k 3 (σ6 k 2) →
    Hi_keep_post k q1 σ σ7)
theorem row_same {f g : Nat → Int} {b : Nat} (h : ∀ i, b ≤ i → i < b + 16 → f i = g i) : rowS f b = rowS g b := by
  unfold rowS
  refine Prod.ext (tr_ext fun j hj => h _ (by omega) (by omega)) (Prod.ext (tr_ext fun j hj => h _ (by omega) (by omega)) (Prod.ext (h _ (by omega) (by omega)) (Prod.ext (h _ (by omega) (by omega)) (Prod.ext (h _ (by omega) (by omega)) (h _ (by omega) (by omega))))))
theorem Hi_keep_p : Hi_keep_vc := by
  intro k q σ hH hp
  obtain ⟨rfl, rfl, hO⟩ := hp
  have hO' := hO
  obtain ⟨h1, h2, h3, h4⟩ := hO'
  refine ⟨⟨rfl, hO⟩, ?_⟩
  rintro r2 σ1 ⟨rfl, rfl⟩
  refine ⟨⟨Or.inr (Or.inr rfl), Or.inl rfl, by omega, by omega, by omega⟩, ?_⟩
  rintro σ3 ⟨hf, hw, hout⟩
  rw [Int.toNat_natCast] at hw hout
  have e14 : σ3 14 = σ1 14 := hf 14 (by decide)
  rw [e14]
  have hf' : Fr [14, 15] σ1 σ3 := hf.mono (by simp)
  refine ⟨fun h => ⟨by decide, ?_⟩, fun h => ?_⟩
  · rintro σ4 rfl σ5 rfl
    have e1 : iRem (wr (σ1 14 1 + 1)) 41 = ((((σ1 14 1).toNat + 1) % 41 : Nat) : Int) := by
      rw [wr1 (by omega) (by omega), show (41 : Int) = ((41 : Nat) : Int) from rfl, iRem_p (by omega) (by omega) (by omega) (by omega)]
      omega
    rw [e1]
    have a1 : hp (hp σ3 14 1 ((((σ1 14 1).toNat + 1) % 41 : Nat) : Int)) 14 3 (hp σ3 14 1 ((((σ1 14 1).toNat + 1) % 41 : Nat) : Int) 14 2) 14 1 = ((((σ1 14 1).toNat + 1) % 41 : Nat) : Int) := by rw [hp_r2 (by omega), hp_r1]
    have a2 : hp (hp σ3 14 1 ((((σ1 14 1).toNat + 1) % 41 : Nat) : Int)) 14 3 (hp σ3 14 1 ((((σ1 14 1).toNat + 1) % 41 : Nat) : Int) 14 2) 14 2 = σ1 14 2 := by rw [hp_r2 (by omega), hp_r2 (by omega), e14]
    have a3 : hp (hp σ3 14 1 ((((σ1 14 1).toNat + 1) % 41 : Nat) : Int)) 14 3 (hp σ3 14 1 ((((σ1 14 1).toNat + 1) % 41 : Nat) : Int) 14 2) 14 3 = σ1 14 2 := by rw [hp_r1, hp_r2 (by omega), e14]
    have a15 : hp (hp σ3 14 1 ((((σ1 14 1).toNat + 1) % 41 : Nat) : Int)) 14 3 (hp σ3 14 1 ((((σ1 14 1).toNat + 1) % 41 : Nat) : Int) 14 2) 15 = σ3 15 := by rw [hp_ne (by decide), hp_ne (by decide)]
    refine ⟨Fr.hp (Fr.hp hf' (by simp)) (by simp), ⟨by rw [a1]; omega, by rw [a2]; omega, by rw [a2, a3]; omega, by rw [a3]; omega⟩, by rw [a2, a3], ?_⟩
    rw [if_neg (by omega)]
    refine ⟨by rw [a2]; omega, ?_, fun i hi => ?_⟩
    · unfold hst
      rw [a1, a15, Int.toNat_natCast, ← hw]
      congr 1
      omega
    · unfold hst
      rw [a1, a15, Int.toNat_natCast]
      rw [show (((σ1 14 1).toNat + 1) % 41 + i) % 41 = ((σ1 14 1).toNat + (i + 1)) % 41 by omega]
      exact row_same (fun j j1 j2 => hout j (by omega))
  · rintro σ6 rfl σ7 rfl
    have a1 : hp (hp σ3 14 2 (wr (σ1 14 2 + 1))) 14 3 (hp σ3 14 2 (wr (σ1 14 2 + 1)) 14 2) 14 1 = σ1 14 1 := by rw [hp_r2 (by omega), hp_r2 (by omega), e14]
    have a2 : hp (hp σ3 14 2 (wr (σ1 14 2 + 1))) 14 3 (hp σ3 14 2 (wr (σ1 14 2 + 1)) 14 2) 14 2 = σ1 14 2 + 1 := by rw [hp_r2 (by omega), hp_r1, wr1 (by omega) (by omega)]
    have a3 : hp (hp σ3 14 2 (wr (σ1 14 2 + 1))) 14 3 (hp σ3 14 2 (wr (σ1 14 2 + 1)) 14 2) 14 3 = σ1 14 2 + 1 := by rw [hp_r1, hp_r1, wr1 (by omega) (by omega)]
    have a15 : hp (hp σ3 14 2 (wr (σ1 14 2 + 1))) 14 3 (hp σ3 14 2 (wr (σ1 14 2 + 1)) 14 2) 15 = σ3 15 := by rw [hp_ne (by decide), hp_ne (by decide)]
    refine ⟨Fr.hp (Fr.hp hf' (by simp)) (by simp), ⟨by rw [a1]; omega, by rw [a2]; omega, by rw [a2, a3]; omega, by rw [a3]; omega⟩, by rw [a2, a3], ?_⟩
    rw [if_pos (by omega)]
    refine ⟨a2, ?_, fun i hi => ?_⟩
    · unfold hst
      rw [a1, a15, ← hw]
    · unfold hst
      rw [a1, a15]
      exact row_same (fun j j1 j2 => hout j (by omega))
def Hi_keep_I : List AV → Hp → Nat → Nat → List AV → List AV → Hp → Prop := fun as σ0 pc n st ls σ => (match as with
    | [.inr (.inr (.inl (k, 0, 3))), .inr (.inr (.inl (q1, 0, 7)))] => False
    | _ => False)
def Hi_keep_ct : Nat → Ct := fun n => match n with
  | 0 => Hi_slot_cs
  | 1 => St_write_cs
  | _ => Hi_keep_cs
set_option maxRecDepth 20000 in
set_option maxHeartbeats 4000000 in
theorem Hi_keep_met {l : Launch} {D : va_G} {ad : Nat → Nat} {ca : Nat → ClassId} {L : Nat} {fx : Nat → Int} : ax_MC l D ad ca L fx yX3_keep cX3_keep 2 none 2 Hi_keep_cs := by
  refine ax_met (oc := 3) (ct := Hi_keep_ct) (calls := Hi_keep_cl) (bs := Hi_keep_bk) (cut := fun pc => false) (f := 4) (I := Hi_keep_I) (by decide) rfl rfl Hi_keep_ck (List.forall_mem_cons.mpr ⟨ax_cwV Hi_slot_met (by decide) (by decide) rfl (by decide) rfl (ax_m3 213 (by decide +kernel) rfl) Hi_slot_w rfl Hi_slot_ds, List.forall_mem_cons.mpr ⟨ax_cwV St_write_met (by decide) (by decide) rfl (by decide) rfl (ax_m3 217 (by decide +kernel) rfl) St_write_w rfl St_write_ds, fun _ h => absurd h List.not_mem_nil⟩⟩) ?_ ?_
  · intro as σ0 hp hH
    match as, hp with
    | [.inr (.inr (.inl (k, 0, 3))), .inr (.inr (.inl (q1, 0, 7)))], hp => exact ⟨rfl, Hi_keep_p k q1 σ0 hH hp⟩
  · intro as σ0 hp n pc st ls σ hH hI
    match as, hp, hI with
    | [.inr (.inr (.inl (k, 0, 3))), .inr (.inr (.inl (q1, 0, 7)))], hp, hI => exact False.elim hI
def d01 (s : Sta) : Prop := s.2.2.2.2.2 = 0 ∨ s.2.2.2.2.2 = 1
def Hi_stepBack_pre (k q : Nat) (σ : Hp) : Prop := k = 14 ∧ q = 31 ∧ HO σ ∧ (¬ σ 14 2 = 0 → d01 (hst σ ((σ 14 2).toNat - 1)))
def Hi_stepBack_post (_k _q : Nat) (σ : Hp) (r : Int) (σ' : Hp) : Prop := if σ 14 2 = 0 then r = 0 ∧ σ' = σ else r = 1 ∧ Fr [14, 15, 31, 32, 33] σ σ' ∧ HO σ' ∧ σ' 14 2 = σ 14 2 - 1 ∧ σ' 14 3 = σ 14 3 ∧ stX σ' 31 = hst σ ((σ 14 2).toNat - 1) ∧ hst σ' (σ 14 2).toNat = stX σ 31 ∧ ∀ i : Nat, i ≤ 40 → ¬ (i : Int) = σ 14 2 → hst σ' i = hst σ i
def Hi_stepBack_bk : List (Nat × List Item) := [(0, [(.aload_n 0, 1, [], []), (.getfield 15, 3, [3, 2, 0, 0, 0, 0], []), (.ifCond .ne 5, 3, [9], []), (.iconst 0, 1, [], []), (.ireturn, 1, [], [])]),
  (9, [(.aload_n 1, 1, [], []), (.aload_n 0, 1, [], []), (.getfield 11, 3, [3, 0, 4, 1, 1, 656], []), (.aload_n 0, 1, [], []), (.invokevirtual 25, 3, [0], []), (.invokevirtual 29, 3, [1], []), (.aload_n 0, 1, [], []), (.dup, 1, [], []), (.getfield 15, 3, [3, 2, 0, 0, 0, 0], []), (.iconst 1, 1, [], []), (.isub, 1, [], []), (.putfield 15, 3, [3, 2, 0, 0, 0, 0], []), (.aload_n 1, 1, [], []), (.aload_n 0, 1, [], []), (.getfield 11, 3, [3, 0, 4, 1, 1, 656], []), (.aload_n 0, 1, [], []), (.invokevirtual 25, 3, [0], []), (.invokevirtual 33, 3, [2], []), (.iconst 1, 1, [], []), (.ireturn, 1, [], [])])]
def Hi_stepBack_cl : List (Instr × Nat) := [(.invokevirtual 25, 0), (.invokevirtual 29, 1), (.invokevirtual 33, 2)]
set_option maxRecDepth 20000 in
theorem Hi_stepBack_ck : Hi_stepBack_bk.all (fun b => ax_chB 3 2 cX3_stepBack Hi_stepBack_cl b.1 b.2) = true := by decide +kernel
def Hi_stepBack_cs : Ct := (2, 4, 2, (0, 0), fun as σ => (match as with
    | [.inr (.inr (.inl (k, 0, 3))), .inr (.inr (.inl (q1, 0, 7)))] => Hi_stepBack_pre k q1 σ
    | _ => False), fun as σ r σ' => (match as with
    | [.inr (.inr (.inl (k, 0, 3))), .inr (.inr (.inl (q1, 0, 7)))] => Hi_stepBack_post k q1 σ r σ'
    | _ => False))
theorem Hi_stepBack_w : ∀ w ∈ ([.instanceMethod yX3_stepBack, .selects yX3_stepBack.cls yX3_stepBack yX3_stepBack, .initialized yX3_stepBack.cls, .code yX3_stepBack cX3_stepBack 2 (some .boolean)] : List Cond), w ∈ ax_tb := ax_w4 (ax_m4 59 (by decide +kernel) rfl) (ax_m4 60 (by decide +kernel) rfl) (ax_m1 5 (by decide +kernel) rfl) (ax_m4 61 (by decide +kernel) rfl)
theorem Hi_stepBack_ds : yX3_stepBack.cls ≠ "java/lang/invoke/MethodHandle" ∧ yX3_stepBack.cls ≠ "java/lang/invoke/VarHandle" ∧ (parseMethodDescriptor yX3_stepBack.desc).map (fun d => d.parameters.length) = some 1 := by decide +kernel
def Hi_stepBack_vc : Prop := ∀ (k : Nat) (q1 : Nat) (σ : Hp), ax_H σ → Hi_stepBack_pre k q1 σ →
  (¬ σ k 2 = 0 →
    Hi_slot_pre k σ ∧
    ∀ (r2 : Int) (σ1 : Hp), Hi_slot_post k σ r2 σ1 →
    St_write_pre q1 (k + 1) 656 r2 σ1 ∧
    ∀ σ3 : Hp, St_write_post q1 (k + 1) 656 r2 σ1 σ3 →
    ∀ σ4 : Hp, σ4 = hp σ3 k 2 (wr ((σ3 k 2) - 1)) →
    Hi_slot_pre k σ4 ∧
    ∀ (r6 : Int) (σ5 : Hp), Hi_slot_post k σ4 r6 σ5 →
    St_read_pre q1 (k + 1) 656 r6 σ5 ∧
    ∀ σ7 : Hp, St_read_post q1 (k + 1) 656 r6 σ5 σ7 →
    ((1 : Int) = 0 ∨ (1 : Int) = 1) ∧ Hi_stepBack_post k q1 σ 1 σ7) ∧
  (¬ (¬ σ k 2 = 0) →
    ((0 : Int) = 0 ∨ (0 : Int) = 1) ∧ Hi_stepBack_post k q1 σ 0 σ)
theorem Hi_stepBack_p : Hi_stepBack_vc := by
  intro k q σ hH hp
  obtain ⟨rfl, rfl, hO, hd⟩ := hp
  have hO' := hO
  obtain ⟨h1, h2, h3, h4⟩ := hO'
  refine ⟨fun h => ⟨⟨rfl, hO⟩, ?_⟩, fun h => ⟨Or.inl rfl, ?_⟩⟩
  · rintro r2 σ1 ⟨rfl, rfl⟩
    refine ⟨⟨Or.inr (Or.inr rfl), Or.inl rfl, by omega, by omega, by omega⟩, ?_⟩
    rintro σ3 ⟨hf, hw, hout⟩
    rw [Int.toNat_natCast] at hw hout
    have e14 : σ3 14 = σ1 14 := hf 14 (by decide)
    rw [e14]
    have hf' : Fr [14, 15, 31, 32, 33] σ1 σ3 := hf.mono (by simp)
    rintro σ4 rfl
    have a1 : hp σ3 14 2 (wr (σ1 14 2 - 1)) 14 1 = σ1 14 1 := by rw [hp_r2 (by omega), e14]
    have a2 : hp σ3 14 2 (wr (σ1 14 2 - 1)) 14 2 = σ1 14 2 - 1 := by rw [hp_r1, wr_id (by omega) (by omega)]
    have a3 : hp σ3 14 2 (wr (σ1 14 2 - 1)) 14 3 = σ1 14 3 := by rw [hp_r2 (by omega), e14]
    have a15 : hp σ3 14 2 (wr (σ1 14 2 - 1)) 15 = σ3 15 := hp_ne (by decide)
    have hO4 : HO (hp σ3 14 2 (wr (σ1 14 2 - 1))) := ⟨by rw [a1]; omega, by rw [a2]; omega, by rw [a2, a3]; omega, by rw [a3]; omega⟩
    refine ⟨⟨rfl, hO4⟩, ?_⟩
    rintro r6 σ5 ⟨rfl, rfl⟩
    rw [a1, a2]
    have es : ((σ1 14 1).toNat + (σ1 14 2 - 1).toNat) % 41 = ((σ1 14 1).toNat + ((σ1 14 2).toNat - 1)) % 41 := by omega
    rw [es]
    have hrow : rowS (σ3 15) (16 * (((σ1 14 1).toNat + ((σ1 14 2).toNat - 1)) % 41)) = hst σ1 ((σ1 14 2).toNat - 1) := row_same (fun j j1 j2 => hout j (by omega))
    refine ⟨⟨Or.inr (Or.inr rfl), Or.inl rfl, by omega, by omega, by omega, ?_⟩, ?_⟩
    · rw [Int.toNat_natCast]
      have := hd h
      rw [← hrow] at this
      exact this
    · rintro σ7 ⟨g1, g2⟩
      rw [Int.toNat_natCast] at g2
      have g2' : stX σ7 31 = hst σ1 ((σ1 14 2).toNat - 1) := g2.trans hrow
      refine ⟨Or.inr rfl, ?_⟩
      unfold Hi_stepBack_post
      rw [if_neg h]
      have e7 : σ7 14 = hp σ3 14 2 (wr (σ1 14 2 - 1)) 14 := g1 14 (by decide)
      have e15 : σ7 15 = σ3 15 := (g1 15 (by decide)).trans a15
      refine ⟨rfl, (Fr.hp hf' (by simp)).tr (g1.mono (by simp)), ?_, ?_, ?_, g2', ?_, fun i hi hne => ?_⟩
      · unfold HO; rw [e7]; exact hO4
      · rw [e7]; exact a2
      · rw [e7]; exact a3
      · unfold hst; rw [e7, a1, e15]; exact hw
      · unfold hst; rw [e7, a1, e15]; exact row_same (fun j j1 j2 => hout j (by omega))
  · unfold Hi_stepBack_post
    rw [if_pos (Classical.not_not.mp h)]
    exact ⟨rfl, rfl⟩
def Hi_stepBack_I : List AV → Hp → Nat → Nat → List AV → List AV → Hp → Prop := fun as σ0 pc n st ls σ => (match as with
    | [.inr (.inr (.inl (k, 0, 3))), .inr (.inr (.inl (q1, 0, 7)))] => False
    | _ => False)
def Hi_stepBack_ct : Nat → Ct := fun n => match n with
  | 0 => Hi_slot_cs
  | 1 => St_write_cs
  | 2 => St_read_cs
  | _ => Hi_stepBack_cs
set_option maxRecDepth 20000 in
set_option maxHeartbeats 4000000 in
theorem Hi_stepBack_met {l : Launch} {D : va_G} {ad : Nat → Nat} {ca : Nat → ClassId} {L : Nat} {fx : Nat → Int} : ax_MC l D ad ca L fx yX3_stepBack cX3_stepBack 2 (some .boolean) 2 Hi_stepBack_cs := by
  refine ax_met (oc := 3) (ct := Hi_stepBack_ct) (calls := Hi_stepBack_cl) (bs := Hi_stepBack_bk) (cut := fun pc => false) (f := 3) (I := Hi_stepBack_I) (by decide) rfl rfl Hi_stepBack_ck (List.forall_mem_cons.mpr ⟨ax_cwV Hi_slot_met (by decide) (by decide) rfl (by decide) rfl (ax_m3 213 (by decide +kernel) rfl) Hi_slot_w rfl Hi_slot_ds, List.forall_mem_cons.mpr ⟨ax_cwV St_write_met (by decide) (by decide) rfl (by decide) rfl (ax_m3 217 (by decide +kernel) rfl) St_write_w rfl St_write_ds, List.forall_mem_cons.mpr ⟨ax_cwV St_read_met (by decide) (by decide) rfl (by decide) rfl (ax_m4 62 (by decide +kernel) rfl) St_read_w rfl St_read_ds, fun _ h => absurd h List.not_mem_nil⟩⟩⟩) ?_ ?_
  · intro as σ0 hp hH
    match as, hp with
    | [.inr (.inr (.inl (k, 0, 3))), .inr (.inr (.inl (q1, 0, 7)))], hp => exact ⟨rfl, Hi_stepBack_p k q1 σ0 hH hp⟩
  · intro as σ0 hp n pc st ls σ hH hI
    match as, hp, hI with
    | [.inr (.inr (.inl (k, 0, 3))), .inr (.inr (.inl (q1, 0, 7)))], hp, hI => exact False.elim hI
def Hi_stepOn_pre (k q : Nat) (σ : Hp) : Prop := k = 14 ∧ q = 31 ∧ HO σ ∧ (¬ σ 14 2 = σ 14 3 → d01 (hst σ ((σ 14 2).toNat + 1)))
def Hi_stepOn_post (_k _q : Nat) (σ : Hp) (r : Int) (σ' : Hp) : Prop := if σ 14 2 = σ 14 3 then r = 0 ∧ σ' = σ else r = 1 ∧ Fr [14, 31, 32, 33] σ σ' ∧ HO σ' ∧ σ' 14 2 = σ 14 2 + 1 ∧ σ' 14 3 = σ 14 3 ∧ stX σ' 31 = hst σ ((σ 14 2).toNat + 1) ∧ ∀ i : Nat, hst σ' i = hst σ i
def Hi_stepOn_bk : List (Nat × List Item) := [(0, [(.aload_n 0, 1, [], []), (.getfield 15, 3, [3, 2, 0, 0, 0, 0], []), (.aload_n 0, 1, [], []), (.getfield 19, 3, [3, 3, 0, 0, 0, 0], []), (.if_icmp .ne 5, 3, [13], []), (.iconst 0, 1, [], []), (.ireturn, 1, [], [])]),
  (13, [(.aload_n 0, 1, [], []), (.dup, 1, [], []), (.getfield 15, 3, [3, 2, 0, 0, 0, 0], []), (.iconst 1, 1, [], []), (.iadd, 1, [], []), (.putfield 15, 3, [3, 2, 0, 0, 0, 0], []), (.aload_n 1, 1, [], []), (.aload_n 0, 1, [], []), (.getfield 11, 3, [3, 0, 4, 1, 1, 656], []), (.aload_n 0, 1, [], []), (.invokevirtual 25, 3, [0], []), (.invokevirtual 33, 3, [1], []), (.iconst 1, 1, [], []), (.ireturn, 1, [], [])])]
def Hi_stepOn_cl : List (Instr × Nat) := [(.invokevirtual 25, 0), (.invokevirtual 33, 1)]
set_option maxRecDepth 20000 in
theorem Hi_stepOn_ck : Hi_stepOn_bk.all (fun b => ax_chB 3 2 cX3_stepOn Hi_stepOn_cl b.1 b.2) = true := by decide +kernel
def Hi_stepOn_cs : Ct := (2, 4, 2, (0, 0), fun as σ => (match as with
    | [.inr (.inr (.inl (k, 0, 3))), .inr (.inr (.inl (q1, 0, 7)))] => Hi_stepOn_pre k q1 σ
    | _ => False), fun as σ r σ' => (match as with
    | [.inr (.inr (.inl (k, 0, 3))), .inr (.inr (.inl (q1, 0, 7)))] => Hi_stepOn_post k q1 σ r σ'
    | _ => False))
theorem Hi_stepOn_w : ∀ w ∈ ([.instanceMethod yX3_stepOn, .selects yX3_stepOn.cls yX3_stepOn yX3_stepOn, .initialized yX3_stepOn.cls, .code yX3_stepOn cX3_stepOn 2 (some .boolean)] : List Cond), w ∈ ax_tb := ax_w4 (ax_m4 71 (by decide +kernel) rfl) (ax_m4 72 (by decide +kernel) rfl) (ax_m1 5 (by decide +kernel) rfl) (ax_m4 73 (by decide +kernel) rfl)
theorem Hi_stepOn_ds : yX3_stepOn.cls ≠ "java/lang/invoke/MethodHandle" ∧ yX3_stepOn.cls ≠ "java/lang/invoke/VarHandle" ∧ (parseMethodDescriptor yX3_stepOn.desc).map (fun d => d.parameters.length) = some 1 := by decide +kernel
def Hi_stepOn_vc : Prop := ∀ (k : Nat) (q1 : Nat) (σ : Hp), ax_H σ → Hi_stepOn_pre k q1 σ →
  (¬ σ k 2 = σ k 3 →
    ∀ σ1 : Hp, σ1 = hp σ k 2 (wr ((σ k 2) + 1)) →
    Hi_slot_pre k σ1 ∧
    ∀ (r3 : Int) (σ2 : Hp), Hi_slot_post k σ1 r3 σ2 →
    St_read_pre q1 (k + 1) 656 r3 σ2 ∧
    ∀ σ4 : Hp, St_read_post q1 (k + 1) 656 r3 σ2 σ4 →
    ((1 : Int) = 0 ∨ (1 : Int) = 1) ∧ Hi_stepOn_post k q1 σ 1 σ4) ∧
  (¬ (¬ σ k 2 = σ k 3) →
    ((0 : Int) = 0 ∨ (0 : Int) = 1) ∧ Hi_stepOn_post k q1 σ 0 σ)
theorem Hi_stepOn_p : Hi_stepOn_vc := by
  intro k q σ hH hp
  obtain ⟨rfl, rfl, hO, hd⟩ := hp
  have hO' := hO
  obtain ⟨h1, h2, h3, h4⟩ := hO'
  refine ⟨fun h => ?_, fun h => ⟨Or.inl rfl, ?_⟩⟩
  · rintro σ1 rfl
    have a1 : hp σ 14 2 (wr (σ 14 2 + 1)) 14 1 = σ 14 1 := by rw [hp_r2 (by omega)]
    have a2 : hp σ 14 2 (wr (σ 14 2 + 1)) 14 2 = σ 14 2 + 1 := by rw [hp_r1, wr_id (by omega) (by omega)]
    have a3 : hp σ 14 2 (wr (σ 14 2 + 1)) 14 3 = σ 14 3 := by rw [hp_r2 (by omega)]
    have a15 : hp σ 14 2 (wr (σ 14 2 + 1)) 15 = σ 15 := hp_ne (by decide)
    have hO4 : HO (hp σ 14 2 (wr (σ 14 2 + 1))) := ⟨by rw [a1]; omega, by rw [a2]; omega, by rw [a2, a3]; omega, by rw [a3]; omega⟩
    refine ⟨⟨rfl, hO4⟩, ?_⟩
    rintro r3 σ2 ⟨rfl, rfl⟩
    rw [a1, a2]
    have es : ((σ 14 1).toNat + (σ 14 2 + 1).toNat) % 41 = ((σ 14 1).toNat + ((σ 14 2).toNat + 1)) % 41 := by omega
    rw [es]
    refine ⟨⟨Or.inr (Or.inr rfl), Or.inl rfl, by omega, by omega, by omega, ?_⟩, ?_⟩
    · rw [Int.toNat_natCast, show (14 + 1 : Nat) = 15 from rfl, a15]
      exact hd h
    · rintro σ4 ⟨g1, g2⟩
      rw [Int.toNat_natCast, show (14 + 1 : Nat) = 15 from rfl, a15] at g2
      refine ⟨Or.inr rfl, ?_⟩
      unfold Hi_stepOn_post
      rw [if_neg h]
      have e7 : σ4 14 = hp σ 14 2 (wr (σ 14 2 + 1)) 14 := g1 14 (by decide)
      have e15 : σ4 15 = σ 15 := (g1 15 (by decide)).trans a15
      refine ⟨rfl, (Fr.hp Fr.rf (by simp)).tr (g1.mono (by simp)), ?_, ?_, ?_, g2, fun i => ?_⟩
      · unfold HO; rw [e7]; exact hO4
      · rw [e7]; exact a2
      · rw [e7]; exact a3
      · unfold hst; rw [e7, a1, e15]
  · unfold Hi_stepOn_post
    rw [if_pos (Classical.not_not.mp h)]
    exact ⟨rfl, rfl⟩
def Hi_stepOn_I : List AV → Hp → Nat → Nat → List AV → List AV → Hp → Prop := fun as σ0 pc n st ls σ => (match as with
    | [.inr (.inr (.inl (k, 0, 3))), .inr (.inr (.inl (q1, 0, 7)))] => False
    | _ => False)
def Hi_stepOn_ct : Nat → Ct := fun n => match n with
  | 0 => Hi_slot_cs
  | 1 => St_read_cs
  | _ => Hi_stepOn_cs
set_option maxRecDepth 20000 in
set_option maxHeartbeats 4000000 in
theorem Hi_stepOn_met {l : Launch} {D : va_G} {ad : Nat → Nat} {ca : Nat → ClassId} {L : Nat} {fx : Nat → Int} : ax_MC l D ad ca L fx yX3_stepOn cX3_stepOn 2 (some .boolean) 2 Hi_stepOn_cs := by
  refine ax_met (oc := 3) (ct := Hi_stepOn_ct) (calls := Hi_stepOn_cl) (bs := Hi_stepOn_bk) (cut := fun pc => false) (f := 3) (I := Hi_stepOn_I) (by decide) rfl rfl Hi_stepOn_ck (List.forall_mem_cons.mpr ⟨ax_cwV Hi_slot_met (by decide) (by decide) rfl (by decide) rfl (ax_m3 213 (by decide +kernel) rfl) Hi_slot_w rfl Hi_slot_ds, List.forall_mem_cons.mpr ⟨ax_cwV St_read_met (by decide) (by decide) rfl (by decide) rfl (ax_m4 62 (by decide +kernel) rfl) St_read_w rfl St_read_ds, fun _ h => absurd h List.not_mem_nil⟩⟩) ?_ ?_
  · intro as σ0 hp hH
    match as, hp with
    | [.inr (.inr (.inl (k, 0, 3))), .inr (.inr (.inl (q1, 0, 7)))], hp => exact ⟨rfl, Hi_stepOn_p k q1 σ0 hH hp⟩
  · intro as σ0 hp n pc st ls σ hH hI
    match as, hp, hI with
    | [.inr (.inr (.inl (k, 0, 3))), .inr (.inr (.inl (q1, 0, 7)))], hp, hI => exact False.elim hI
def Bx_clear_pre (k : Nat) (_σ : Hp) : Prop := k = 16
def Bx_clear_post (_k : Nat) (σ σ' : Hp) : Prop := Fr [18] σ σ' ∧ ∀ i, i < 3 → σ' 18 i = 0
def Bx_clear_I2 (_k : Nat) (σ0 : Hp) (m : Nat) (v1 : Int) (σ : Hp) : Prop := ∃ i : Nat, v1 = i ∧ i ≤ 3 ∧ m = 3 - i ∧ Fr [18] σ0 σ ∧ ∀ j, j < i → σ 18 j = 0
def Bx_clear_bk : List (Nat × List Item) := [(0, [(.iconst 0, 1, [], []), (.istore_n 1, 1, [], [])]),
  (2, [(.iload_n 1, 1, [], []), (.iconst 3, 1, [], []), (.if_icmp .ge 16, 3, [20], []), (.aload_n 0, 1, [], []), (.getfield 15, 3, [0, 1, 4, 2, 3, 3], []), (.iload_n 1, 1, [], []), (.iconst 0, 1, [], []), (.bastore, 1, [], []), (.iinc 1 1, 3, [], []), (.goto (-15), 3, [2], [])]),
  (20, [(.return_, 1, [], [])])]
def Bx_clear_cl : List (Instr × Nat) := []
set_option maxRecDepth 20000 in
theorem Bx_clear_ck : Bx_clear_bk.all (fun b => ax_chB 0 2 cX0_clear Bx_clear_cl b.1 b.2) = true := by decide +kernel
def Bx_clear_cs : Ct := (1, 1, 0, (0, 0), fun as σ => (match as with
    | [.inr (.inr (.inl (k, 0, 0)))] => Bx_clear_pre k σ
    | _ => False), fun as σ r σ' => (match as with
    | [.inr (.inr (.inl (k, 0, 0)))] => Bx_clear_post k σ σ'
    | _ => False))
theorem Bx_clear_w : ∀ w ∈ ([.instanceMethod yX0_clear, .selects yX0_clear.cls yX0_clear yX0_clear, .initialized yX0_clear.cls, .code yX0_clear cX0_clear 2 none] : List Cond), w ∈ ax_tb := ax_w4 (ax_m3 173 (by decide +kernel) rfl) (ax_m3 174 (by decide +kernel) rfl) (ax_m1 6 (by decide +kernel) rfl) (ax_m3 175 (by decide +kernel) rfl)
theorem Bx_clear_ds : yX0_clear.cls ≠ "java/lang/invoke/MethodHandle" ∧ yX0_clear.cls ≠ "java/lang/invoke/VarHandle" ∧ (parseMethodDescriptor yX0_clear.desc).map (fun d => d.parameters.length) = some 0 := by decide +kernel
def Bx_clear_vc : Prop := ∀ (k : Nat) (σ : Hp), ax_H σ → Bx_clear_pre k σ →
  ∃ n' : Nat, k = k ∧ Bx_clear_I2 k σ n' 0 σ
def Bx_clear_vc2 : Prop := ∀ (k : Nat) (σ0 : Hp), Bx_clear_pre k σ0 → ∀ (n : Nat) (v1 : Int) (σ : Hp), ax_H σ → Bx_clear_I2 k σ0 n v1 σ →
  (3 ≤ v1 →
    Bx_clear_post k σ0 σ) ∧
  (¬ (3 ≤ v1) →
    (0 ≤ v1 ∧ v1 < 3) ∧
    ((0 : Int) = 0 ∨ (0 : Int) = 1) ∧ ∀ σ1 : Hp, σ1 = hp σ (k + 2) v1.toNat 0 →
    ∃ n' : Nat, n' < n ∧ k = k ∧ Bx_clear_I2 k σ0 n' (wr (v1 + 1)) σ1)
theorem Bx_clear_p : Bx_clear_vc := by
  intro k σ hH hp
  exact ⟨3, rfl, 0, rfl, by omega, rfl, Fr.rf, fun j hj => absurd hj (Nat.not_lt_zero j)⟩
theorem Bx_clear_p2 : Bx_clear_vc2 := by
  intro k σ0 hp m v1 σ hH hI
  obtain ⟨rfl⟩ := hp
  obtain ⟨i, rfl, hi, rfl, hf, hr⟩ := hI
  refine ⟨fun h => ⟨hf, fun j hj => hr j (by omega)⟩, fun h => ⟨⟨by omega, by omega⟩, Or.inl rfl, ?_⟩⟩
  rintro σ1 rfl
  rw [Int.toNat_natCast, wr1 (by omega) (by omega)]
  refine ⟨3 - (i + 1), by omega, rfl, i + 1, by simp, by omega, rfl, Fr.hp hf (by simp), fun j hj => ?_⟩
  rw [hp_rd]
  by_cases e : j = i
  · rw [if_pos ⟨rfl, e⟩]
  · rw [if_neg (fun z => e z.2)]; exact hr j (by omega)
def Bx_clear_I : List AV → Hp → Nat → Nat → List AV → List AV → Hp → Prop := fun as σ0 pc n st ls σ => (match as with
    | [.inr (.inr (.inl (k, 0, 0)))] => (bif Nat.beq pc 2 then (match st, ls with
      | [], [.inr (.inr (.inl (k', 0, 0))), .inl v1] => k = k' ∧ Bx_clear_I2 k σ0 n v1 σ
      | _, _ => False) else False)
    | _ => False)
def Bx_clear_ct : Nat → Ct := fun n => match n with
  | _ => Bx_clear_cs
set_option maxRecDepth 20000 in
set_option maxHeartbeats 4000000 in
theorem Bx_clear_met {l : Launch} {D : va_G} {ad : Nat → Nat} {ca : Nat → ClassId} {L : Nat} {fx : Nat → Int} : ax_MC l D ad ca L fx yX0_clear cX0_clear 2 none 1 Bx_clear_cs := by
  refine ax_met (oc := 0) (ct := Bx_clear_ct) (calls := Bx_clear_cl) (bs := Bx_clear_bk) (cut := fun pc => Nat.beq pc 2) (f := 4) (I := Bx_clear_I) (by decide) rfl rfl Bx_clear_ck (fun _ h => absurd h List.not_mem_nil) ?_ ?_
  · intro as σ0 hp hH
    match as, hp with
    | [.inr (.inr (.inl (k, 0, 0)))], hp => exact ⟨rfl, Bx_clear_p k σ0 hH hp⟩
  · intro as σ0 hp n pc st ls σ hH hI
    match as, hp, hI with
    | [.inr (.inr (.inl (k, 0, 0)))], hp, hI =>
      rcases ax_bifE hI with ⟨hpc, hI⟩ | ⟨-, hI⟩
      · have := Nat.eq_of_beq_eq_true hpc
        subst this
        match st, ls, hI with
        | [], [.inr (.inr (.inl (k', 0, 0))), .inl v1], hI =>
          obtain ⟨rfl, hI⟩ := hI
          exact Bx_clear_p2 k σ0 hp n v1 σ hH hI
      exact False.elim hI
def Bx_store_pre (k q : Nat) (_a : Int) (_σ : Hp) : Prop := k = 16 ∧ q = 31
def Bx_store_post (_k _q : Nat) (a : Int) (σ : Hp) (r : Int) (σ' : Hp) : Prop := if 0 ≤ a ∧ a < 3 then r = 1 ∧ Fr [17, 18] σ σ' ∧ rowS (σ' 17) (16 * a.toNat) = stX σ 31 ∧ σ' 18 a.toNat = 1 ∧ ∀ i, i < 3 → ¬ i = a.toNat → σ' 18 i = σ 18 i ∧ rowS (σ' 17) (16 * i) = rowS (σ 17) (16 * i) else r = 0 ∧ σ' = σ
def Bx_store_bk : List (Nat × List Item) := [(0, [(.iload_n 2, 1, [], []), (.ifCond .lt 8, 3, [9], []), (.iload_n 2, 1, [], []), (.iconst 3, 1, [], []), (.if_icmp .lt 5, 3, [11], [])]),
  (9, [(.iconst 0, 1, [], []), (.ireturn, 1, [], [])]),
  (11, [(.aload_n 1, 1, [], []), (.aload_n 0, 1, [], []), (.getfield 11, 3, [0, 0, 4, 1, 1, 48], []), (.iload_n 2, 1, [], []), (.invokevirtual 19, 3, [0], []), (.aload_n 0, 1, [], []), (.getfield 15, 3, [0, 1, 4, 2, 3, 3], []), (.iload_n 2, 1, [], []), (.iconst 1, 1, [], []), (.bastore, 1, [], []), (.iconst 1, 1, [], []), (.ireturn, 1, [], [])])]
def Bx_store_cl : List (Instr × Nat) := [(.invokevirtual 19, 0)]
set_option maxRecDepth 20000 in
theorem Bx_store_ck : Bx_store_bk.all (fun b => ax_chB 0 3 cX0_store Bx_store_cl b.1 b.2) = true := by decide +kernel
def Bx_store_cs : Ct := (3, 1, 2, (0, 0), fun as σ => (match as with
    | [.inr (.inr (.inl (k, 0, 0))), .inr (.inr (.inl (q1, 0, 7))), .inl a2] => Bx_store_pre k q1 a2 σ
    | _ => False), fun as σ r σ' => (match as with
    | [.inr (.inr (.inl (k, 0, 0))), .inr (.inr (.inl (q1, 0, 7))), .inl a2] => Bx_store_post k q1 a2 σ r σ'
    | _ => False))
theorem Bx_store_w : ∀ w ∈ ([.instanceMethod yX0_store, .selects yX0_store.cls yX0_store yX0_store, .initialized yX0_store.cls, .code yX0_store cX0_store 3 (some .boolean)] : List Cond), w ∈ ax_tb := ax_w4 (ax_m5 127 (by decide +kernel) rfl) (ax_m5 128 (by decide +kernel) rfl) (ax_m1 6 (by decide +kernel) rfl) (ax_m5 129 (by decide +kernel) rfl)
theorem Bx_store_ds : yX0_store.cls ≠ "java/lang/invoke/MethodHandle" ∧ yX0_store.cls ≠ "java/lang/invoke/VarHandle" ∧ (parseMethodDescriptor yX0_store.desc).map (fun d => d.parameters.length) = some 2 := by decide +kernel
def Bx_store_vc : Prop := ∀ (k : Nat) (q1 : Nat) (a2 : Int) (σ : Hp), ax_H σ → Bx_store_pre k q1 a2 σ →
  (a2 < 0 →
    ((0 : Int) = 0 ∨ (0 : Int) = 1) ∧ Bx_store_post k q1 a2 σ 0 σ) ∧
  (¬ (a2 < 0) →
    (a2 < 3 →
      St_write_pre q1 (k + 1) 48 a2 σ ∧
      ∀ σ1 : Hp, St_write_post q1 (k + 1) 48 a2 σ σ1 →
      (0 ≤ a2 ∧ a2 < 3) ∧
      ((1 : Int) = 0 ∨ (1 : Int) = 1) ∧ ∀ σ2 : Hp, σ2 = hp σ1 (k + 2) a2.toNat 1 →
      ((1 : Int) = 0 ∨ (1 : Int) = 1) ∧ Bx_store_post k q1 a2 σ 1 σ2) ∧
    (¬ (a2 < 3) →
      ((0 : Int) = 0 ∨ (0 : Int) = 1) ∧ Bx_store_post k q1 a2 σ 0 σ))
theorem Bx_store_p : Bx_store_vc := by
  intro k q a σ hH hp
  obtain ⟨rfl, rfl⟩ := hp
  have no : ¬ (0 ≤ a ∧ a < 3) → Bx_store_post 16 31 a σ 0 σ := by
    intro h; unfold Bx_store_post; rw [if_neg h]; exact ⟨rfl, rfl⟩
  refine ⟨fun h => ⟨Or.inl rfl, no (by omega)⟩, fun h => ⟨fun h2 => ⟨⟨Or.inr (Or.inr rfl), Or.inr rfl, by omega, by omega, by omega⟩, ?_⟩, fun h2 => ⟨Or.inl rfl, no (by omega)⟩⟩⟩
  rintro σ1 ⟨hf, hw, hout⟩
  refine ⟨⟨by omega, by omega⟩, Or.inr rfl, ?_⟩
  rintro σ2 rfl
  refine ⟨Or.inr rfl, ?_⟩
  unfold Bx_store_post
  rw [if_pos ⟨by omega, h2⟩]
  refine ⟨rfl, Fr.hp (hf.mono (by simp)) (by simp), ?_, hp_r1, fun i hi hne => ⟨?_, ?_⟩⟩
  · rw [hp_ne (by decide)]; exact hw
  · rw [hp_r2 (by omega), hf 18 (by decide)]
  · rw [hp_ne (by decide)]
    exact row_same (fun j j1 j2 => hout j (by omega))
def Bx_store_I : List AV → Hp → Nat → Nat → List AV → List AV → Hp → Prop := fun as σ0 pc n st ls σ => (match as with
    | [.inr (.inr (.inl (k, 0, 0))), .inr (.inr (.inl (q1, 0, 7))), .inl a2] => False
    | _ => False)
def Bx_store_ct : Nat → Ct := fun n => match n with
  | 0 => St_write_cs
  | _ => Bx_store_cs
set_option maxRecDepth 20000 in
set_option maxHeartbeats 4000000 in
theorem Bx_store_met {l : Launch} {D : va_G} {ad : Nat → Nat} {ca : Nat → ClassId} {L : Nat} {fx : Nat → Int} : ax_MC l D ad ca L fx yX0_store cX0_store 3 (some .boolean) 2 Bx_store_cs := by
  refine ax_met (oc := 0) (ct := Bx_store_ct) (calls := Bx_store_cl) (bs := Bx_store_bk) (cut := fun pc => false) (f := 4) (I := Bx_store_I) (by decide) rfl rfl Bx_store_ck (List.forall_mem_cons.mpr ⟨ax_cwV St_write_met (by decide) (by decide) rfl (by decide) rfl (ax_m5 130 (by decide +kernel) rfl) St_write_w rfl St_write_ds, fun _ h => absurd h List.not_mem_nil⟩) ?_ ?_
  · intro as σ0 hp hH
    match as, hp with
    | [.inr (.inr (.inl (k, 0, 0))), .inr (.inr (.inl (q1, 0, 7))), .inl a2], hp => exact ⟨rfl, Bx_store_p k q1 a2 σ0 hH hp⟩
  · intro as σ0 hp n pc st ls σ hH hI
    match as, hp, hI with
    | [.inr (.inr (.inl (k, 0, 0))), .inr (.inr (.inl (q1, 0, 7))), .inl a2], hp, hI => exact False.elim hI
def Bx_load_pre (k q : Nat) (a : Int) (σ : Hp) : Prop := k = 16 ∧ q = 31 ∧ (0 ≤ a → a < 3 → ¬ σ 18 a.toNat = 0 → d01 (rowS (σ 17) (16 * a.toNat)))
def Bx_load_post (_k _q : Nat) (a : Int) (σ : Hp) (r : Int) (σ' : Hp) : Prop := if 0 ≤ a ∧ a < 3 ∧ ¬ σ 18 a.toNat = 0 then r = 1 ∧ Fr [31, 32, 33] σ σ' ∧ stX σ' 31 = rowS (σ 17) (16 * a.toNat) else r = 0 ∧ σ' = σ
def Bx_load_bk : List (Nat × List Item) := [(0, [(.iload_n 2, 1, [], []), (.ifCond .lt 17, 3, [18], []), (.iload_n 2, 1, [], []), (.iconst 3, 1, [], []), (.if_icmp .ge 12, 3, [18], []), (.aload_n 0, 1, [], []), (.getfield 15, 3, [0, 1, 4, 2, 3, 3], []), (.iload_n 2, 1, [], []), (.baload, 1, [], []), (.ifCond .ne 5, 3, [20], [])]),
  (18, [(.iconst 0, 1, [], []), (.ireturn, 1, [], [])]),
  (20, [(.aload_n 1, 1, [], []), (.aload_n 0, 1, [], []), (.getfield 11, 3, [0, 0, 4, 1, 1, 48], []), (.iload_n 2, 1, [], []), (.invokevirtual 23, 3, [0], []), (.iconst 1, 1, [], []), (.ireturn, 1, [], [])])]
def Bx_load_cl : List (Instr × Nat) := [(.invokevirtual 23, 0)]
set_option maxRecDepth 20000 in
theorem Bx_load_ck : Bx_load_bk.all (fun b => ax_chB 0 3 cX0_load Bx_load_cl b.1 b.2) = true := by decide +kernel
def Bx_load_cs : Ct := (3, 1, 2, (0, 0), fun as σ => (match as with
    | [.inr (.inr (.inl (k, 0, 0))), .inr (.inr (.inl (q1, 0, 7))), .inl a2] => Bx_load_pre k q1 a2 σ
    | _ => False), fun as σ r σ' => (match as with
    | [.inr (.inr (.inl (k, 0, 0))), .inr (.inr (.inl (q1, 0, 7))), .inl a2] => Bx_load_post k q1 a2 σ r σ'
    | _ => False))
theorem Bx_load_w : ∀ w ∈ ([.instanceMethod yX0_load, .selects yX0_load.cls yX0_load yX0_load, .initialized yX0_load.cls, .code yX0_load cX0_load 3 (some .boolean)] : List Cond), w ∈ ax_tb := ax_w4 (ax_m5 136 (by decide +kernel) rfl) (ax_m5 137 (by decide +kernel) rfl) (ax_m1 6 (by decide +kernel) rfl) (ax_m5 138 (by decide +kernel) rfl)
theorem Bx_load_ds : yX0_load.cls ≠ "java/lang/invoke/MethodHandle" ∧ yX0_load.cls ≠ "java/lang/invoke/VarHandle" ∧ (parseMethodDescriptor yX0_load.desc).map (fun d => d.parameters.length) = some 2 := by decide +kernel
def Bx_load_vc : Prop := ∀ (k : Nat) (q1 : Nat) (a2 : Int) (σ : Hp), ax_H σ → Bx_load_pre k q1 a2 σ →
  (a2 < 0 →
    ((0 : Int) = 0 ∨ (0 : Int) = 1) ∧ Bx_load_post k q1 a2 σ 0 σ) ∧
  (¬ (a2 < 0) →
    (3 ≤ a2 →
      ((0 : Int) = 0 ∨ (0 : Int) = 1) ∧ Bx_load_post k q1 a2 σ 0 σ) ∧
    (¬ (3 ≤ a2) →
      (0 ≤ a2 ∧ a2 < 3) ∧
      (¬ σ (k + 2) a2.toNat = 0 →
        St_read_pre q1 (k + 1) 48 a2 σ ∧
        ∀ σ1 : Hp, St_read_post q1 (k + 1) 48 a2 σ σ1 →
        ((1 : Int) = 0 ∨ (1 : Int) = 1) ∧ Bx_load_post k q1 a2 σ 1 σ1) ∧
      (¬ (¬ σ (k + 2) a2.toNat = 0) →
        ((0 : Int) = 0 ∨ (0 : Int) = 1) ∧ Bx_load_post k q1 a2 σ 0 σ)))
theorem Bx_load_p : Bx_load_vc := by
  intro k q a σ hH hp
  obtain ⟨rfl, rfl, hd⟩ := hp
  have no : ¬ (0 ≤ a ∧ a < 3 ∧ ¬ σ 18 a.toNat = 0) → Bx_load_post 16 31 a σ 0 σ := by
    intro h; unfold Bx_load_post; rw [if_neg h]; exact ⟨rfl, rfl⟩
  refine ⟨fun h => ⟨Or.inl rfl, no (by omega)⟩, fun h => ⟨fun h2 => ⟨Or.inl rfl, no (by omega)⟩, fun h2 => ⟨⟨by omega, by omega⟩, fun h3 => ⟨⟨Or.inr (Or.inr rfl), Or.inr rfl, by omega, by omega, by omega, hd (by omega) (by omega) h3⟩, ?_⟩, fun h3 => ⟨Or.inl rfl, no (fun z => h3 z.2.2)⟩⟩⟩⟩
  rintro σ1 ⟨g1, g2⟩
  refine ⟨Or.inr rfl, ?_⟩
  unfold Bx_load_post
  rw [if_pos ⟨by omega, by omega, h3⟩]
  exact ⟨rfl, g1, g2⟩
def Bx_load_I : List AV → Hp → Nat → Nat → List AV → List AV → Hp → Prop := fun as σ0 pc n st ls σ => (match as with
    | [.inr (.inr (.inl (k, 0, 0))), .inr (.inr (.inl (q1, 0, 7))), .inl a2] => False
    | _ => False)
def Bx_load_ct : Nat → Ct := fun n => match n with
  | 0 => St_read_cs
  | _ => Bx_load_cs
set_option maxRecDepth 20000 in
set_option maxHeartbeats 4000000 in
theorem Bx_load_met {l : Launch} {D : va_G} {ad : Nat → Nat} {ca : Nat → ClassId} {L : Nat} {fx : Nat → Int} : ax_MC l D ad ca L fx yX0_load cX0_load 3 (some .boolean) 2 Bx_load_cs := by
  refine ax_met (oc := 0) (ct := Bx_load_ct) (calls := Bx_load_cl) (bs := Bx_load_bk) (cut := fun pc => false) (f := 4) (I := Bx_load_I) (by decide) rfl rfl Bx_load_ck (List.forall_mem_cons.mpr ⟨ax_cwV St_read_met (by decide) (by decide) rfl (by decide) rfl (ax_m5 139 (by decide +kernel) rfl) St_read_w rfl St_read_ds, fun _ h => absurd h List.not_mem_nil⟩) ?_ ?_
  · intro as σ0 hp hH
    match as, hp with
    | [.inr (.inr (.inl (k, 0, 0))), .inr (.inr (.inl (q1, 0, 7))), .inl a2], hp => exact ⟨rfl, Bx_load_p k q1 a2 σ0 hH hp⟩
  · intro as σ0 hp n pc st ls σ hH hI
    match as, hp, hI with
    | [.inr (.inr (.inl (k, 0, 0))), .inr (.inr (.inl (q1, 0, 7))), .inl a2], hp, hI => exact False.elim hI

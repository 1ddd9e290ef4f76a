-- THE READER: the lines of a family's text, as the class reads them
def fcs (f : Nat) : List Nat := List.range' f 16
theorem fcs_m {f c : Nat} : c ∈ fcs f ↔ f ≤ c ∧ c < f + 16 := List.mem_range'_1
theorem hp_f {σ : Hp} {k j : Nat} {v : Int} {j' : Nat} : hp σ k j v k j' = if j' = j then v else σ k j' := by rw [hp_eq]
theorem Fr1.hp {σ τ : Hp} {k j : Nat} {v : Int} (h : Fr [1] σ τ) : Fr [1] (hp σ k j v) (hp τ k j v) := by
  intro c hc
  have h1 := h c hc
  by_cases e : c = k
  · subst e; rw [hp_eq, hp_eq, h1]
  · rw [hp_ne e, hp_ne e, h1]
def fmX (σ : Hp) (g : Nat) : Fml := if σ g 5 = 0 then none else some ((σ g 4).toNat, rdL σ g)
def psX (σ : Hp) (f : Nat) : PS := ((σ f 9).toNat, tr (σ f 9).toNat (σ (f + 1)), tr (σ f 9).toNat (σ (f + 2)), tr (σ f 9).toNat (σ (f + 3)), tr (σ f 9).toNat (σ (f + 4)), tr (σ f 9).toNat (σ (f + 5)), tr (σ f 9).toNat (σ (f + 6)), (σ f 10).toNat, (σ f 11).toNat, (if σ f 15 = 0 then none else some (σ f 12)), (if σ f 16 = 0 then none else some (σ f 13)), fmX σ (f + 8), fmX σ (f + 12))
def FDX (σ : Hp) (g : Nat) : Prop := (σ g 5 = 0 → σ g 3 = 0 ∧ σ g 4 = 0) ∧ (¬ σ g 5 = 0 → σ g 5 = 1 ∧ FW σ g ∧ tp (σ (g + 1)) (σ g 3).toNat = 1)
def DX (σ : Hp) (f : Nat) : Prop := okPS (psX σ f) ∧ (0 ≤ σ f 9 ∧ 0 ≤ σ f 10 ∧ 0 ≤ σ f 11) ∧ (∀ d, 2 ≤ d → d ≤ 6 → ∀ j, (σ f 9).toNat ≤ j → j < 6 → σ (f + d) j = 0) ∧ (σ f 15 = 0 → σ f 12 = 1) ∧ (σ f 16 = 0 → σ f 13 = 0) ∧ FDX σ (f + 8) ∧ FDX σ (f + 12)
theorem fmX_eq {σ σ' : Hp} {g : Nat} (h : σ' g = σ g) (h1 : σ' (g + 1) = σ (g + 1)) : fmX σ' g = fmX σ g ∧ (FDX σ g → FDX σ' g) := by
  unfold fmX FDX FW rdL
  rw [h, h1]
  exact ⟨rfl, id⟩
theorem psX_eq {σ σ' : Hp} {f : Nat} (h : ∀ c, f ≤ c → c < f + 16 → σ' c = σ c) : psX σ' f = psX σ f ∧ (DX σ f → DX σ' f) := by
  have e0 := h f (by omega) (by omega)
  have ed : ∀ d, d < 16 → σ' (f + d) = σ (f + d) := fun d hd => h (f + d) (by omega) (by omega)
  have e8 := fmX_eq (g := f + 8) (ed 8 (by omega)) (ed 9 (by omega))
  have e12 := fmX_eq (g := f + 12) (ed 12 (by omega)) (ed 13 (by omega))
  have ep : psX σ' f = psX σ f := by
    unfold psX
    rw [e0, ed 1 (by omega), ed 2 (by omega), ed 3 (by omega), ed 4 (by omega), ed 5 (by omega), ed 6 (by omega), e8.1, e12.1]
  refine ⟨ep, ?_⟩
  rintro ⟨h1, h2, h3, h4, h5, h6, h7⟩
  refine ⟨by rw [ep]; exact h1, by rw [e0]; exact h2, fun d d1 d2 j j1 j2 => ?_, by rw [e0]; exact h4, by rw [e0]; exact h5, e8.2 h6, e12.2 h7⟩
  rw [e0] at j1
  rw [ed d (by omega)]
  exact h3 d d1 d2 j j1 j2
def Sp (σ : Hp) : Nat := (σ 1 6).toNat
theorem tS_id {B : Tp} {p : Nat} (hB : B.2 ≤ 1600) : tS B (tS B p) = tS B p := by
  have h := (run_ok (P := bW B) bW_lt 1601 p (by omega)).2.2
  show run (bW B) 1601 (tS B p) = tS B p
  unfold run
  rw [if_neg (by rw [show bW B (tS B p) = false from h]; decide)]
theorem tok_id {B : Tp} {p p' : Nat} (h : tS B p = tS B p') : tK B p = tK B p' ∧ tV B p = tV B p' ∧ tN B p = tN B p' := by
  unfold tK tV tN
  rw [h]
  exact ⟨rfl, rfl, rfl⟩
theorem RS.can {σ : Hp} {B : Tp} {p : Nat} (h : RS σ B p) : RS σ (tpX σ) (Sp σ) ∧ tpX σ = B ∧ Sp σ = tS B p := by
  obtain ⟨h1, h2, h3, h4, h5, h6, h7⟩ := h
  have hB := h2.n
  rw [h1] at hB
  have es : Sp σ = tS B p := by unfold Sp; rw [h5]; simp
  have ei := tS_id (B := B) (p := p) hB.1
  have et := tok_id (B := B) (p := tS B p) (p' := p) ei
  refine ⟨?_, h1, es⟩
  rw [h1, es]
  refine ⟨h1, h2, (tS_R hB.1 h3).2, ?_⟩
  rw [et.1, et.2.1, et.2.2, ei]
  exact ⟨h4, h5, h6, h7⟩
def LO (o : Oc (PS × Nat)) (f : Nat) (σ : Hp) (r : Int) (σ' : Hp) : Prop := (r = 0 ∨ r = 1) ∧ Fr (1 :: fcs f) σ σ' ∧ σ' 1 1 = σ 1 1 ∧ (match o with
  | .inl x => r = 0 ∧ σ' 1 2 = x.1 ∧ σ' 1 3 = (tS (tpX σ) x.2 : Nat)
  | .inr x => r = 1 ∧ σ' 1 2 = 0 ∧ σ' 1 3 = σ 1 3 ∧ RS σ' (tpX σ) x.2 ∧ DX σ' f ∧ psX σ' f = x.1)
def LPr (f : Nat) (σ : Hp) : Prop := FO f ∧ DX σ f ∧ RS σ (tpX σ) (Sp σ) ∧ σ 1 2 = 0
theorem FO_ne {f : Nat} (h : FO f) : 35 ≤ f ∧ f ≤ 51 := by rcases h with rfl | rfl <;> omega
theorem Fr1f {f : Nat} {σ σ' : Hp} (h : Fr [1] σ σ') : Fr (1 :: fcs f) σ σ' := h.mono (by simp)
theorem LO.fl {f : Nat} {σ σ' : Hp} {c : Int} {p : Nat} (h : Fl σ σ' (tpX σ) c p) : LO (.inl (c, p)) f σ 0 σ' := ⟨Or.inl rfl, Fr1f h.1, h.2.1, rfl, h.2.2.1, h.2.2.2⟩
/-- failing behind changes of the draft -/
theorem LO.fl2 {f : Nat} {σ τ σ1 σ' : Hp} {c : Int} {p : Nat} (h0 : Fr (1 :: fcs f) σ τ) (h1 : τ 1 1 = σ 1 1) (h : Fl τ σ1 (tpX σ) c p) (e : Fr (fcs f) σ1 σ') (hf : FO f) : LO (.inl (c, p)) f σ 0 σ' := by
  have e1 : σ' 1 = σ1 1 := e 1 (fun z => by have := fcs_m.mp z; have := FO_ne hf; omega)
  refine ⟨Or.inl rfl, (h0.tr (Fr1f h.1)).tr (e.mono (fun c hc => List.mem_cons_of_mem _ hc)), ?_, rfl, ?_, ?_⟩
  · rw [e1, h.2.1, h1]
  · rw [e1]; exact h.2.2.1
  · rw [e1]; exact h.2.2.2
theorem RS.off {f : Nat} {σ σ' : Hp} {B : Tp} {p : Nat} (hf : FO f) (h : RS σ B p) (e : Fr (fcs f) σ σ') : RS σ' B p :=
  h.keep (e 1 (fun z => by have := fcs_m.mp z; have := FO_ne hf; omega)) (e 2 (fun z => by have := fcs_m.mp z; have := FO_ne hf; omega))
theorem Frf {f k j : Nat} {v : Int} {σ : Hp} (h1 : f ≤ k) (h2 : k < f + 16) : Fr (fcs f) σ (hp σ k j v) := Fr.hp Fr.rf (fcs_m.mpr ⟨h1, h2⟩)
theorem off1 {f : Nat} {σ σ' : Hp} (hf : FO f) (e : Fr (fcs f) σ σ') : σ' 1 = σ 1 := e 1 (fun z => by have := fcs_m.mp z; have := FO_ne hf; omega)
-- ease and draw
theorem ease_DX {σ τ : Hp} {f : Nat} {v : Int} (h : DX σ f) (hτ : ∀ c, ¬ c = f → τ c = σ c) (hf : ∀ j, τ f j = if j = 12 then v else if j = 15 then 1 else σ f j) (hv : 0 ≤ v ∧ v ≤ 999) : psX τ f = adE (psX σ f) v ∧ DX τ f := by
  have e9 : τ f 9 = σ f 9 := by rw [hf]; simp
  have e10 : τ f 10 = σ f 10 := by rw [hf]; simp
  have e11 : τ f 11 = σ f 11 := by rw [hf]; simp
  have e12 : τ f 12 = v := by rw [hf]; simp
  have e13 : τ f 13 = σ f 13 := by rw [hf]; simp
  have e15 : τ f 15 = 1 := by rw [hf]; simp
  have e16 : τ f 16 = σ f 16 := by rw [hf]; simp
  have w8 := fmX_eq (σ := σ) (σ' := τ) (g := f + 8) (hτ _ (by omega)) (hτ _ (by omega))
  have w12 := fmX_eq (σ := σ) (σ' := τ) (g := f + 12) (hτ _ (by omega)) (hτ _ (by omega))
  have ep : psX τ f = adE (psX σ f) v := by
    unfold psX adE
    rw [e9, e10, e11, e12, e13, e15, e16, w8.1, w12.1, hτ (f + 1) (by omega), hτ (f + 2) (by omega), hτ (f + 3) (by omega), hτ (f + 4) (by omega), hτ (f + 5) (by omega), hτ (f + 6) (by omega), if_neg (show ¬ (1 : Int) = 0 by decide)]
  obtain ⟨h1, h2, h3, h4, h5, h6, h7⟩ := h
  refine ⟨ep, ?_, by rw [e9, e10, e11]; exact h2, fun d d1 d2 j j1 j2 => ?_, fun z => (by rw [e15] at z; cases z), by rw [e16, e13]; exact h5, w8.2 h6, w12.2 h7⟩
  · rw [ep]
    exact ⟨h1.1, fun w hw => by injection hw with hw; rw [← hw]; exact hv, h1.2.2⟩
  · rw [e9] at j1
    rw [hτ _ (by omega)]
    exact h3 d d1 d2 j j1 j2
theorem draw_DX {σ τ : Hp} {f : Nat} {v : Int} (h : DX σ f) (hτ : ∀ c, ¬ c = f → τ c = σ c) (hf : ∀ j, τ f j = if j = 13 then v else if j = 16 then 1 else σ f j) (hv : 0 ≤ v ∧ v ≤ 999) : psX τ f = adD (psX σ f) v ∧ DX τ f := by
  have e9 : τ f 9 = σ f 9 := by rw [hf]; simp
  have e10 : τ f 10 = σ f 10 := by rw [hf]; simp
  have e11 : τ f 11 = σ f 11 := by rw [hf]; simp
  have e12 : τ f 12 = σ f 12 := by rw [hf]; simp
  have e13 : τ f 13 = v := by rw [hf]; simp
  have e15 : τ f 15 = σ f 15 := by rw [hf]; simp
  have e16 : τ f 16 = 1 := by rw [hf]; simp
  have w8 := fmX_eq (σ := σ) (σ' := τ) (g := f + 8) (hτ _ (by omega)) (hτ _ (by omega))
  have w12 := fmX_eq (σ := σ) (σ' := τ) (g := f + 12) (hτ _ (by omega)) (hτ _ (by omega))
  have ep : psX τ f = adD (psX σ f) v := by
    unfold psX adD
    rw [e9, e10, e11, e12, e13, e15, e16, w8.1, w12.1, hτ (f + 1) (by omega), hτ (f + 2) (by omega), hτ (f + 3) (by omega), hτ (f + 4) (by omega), hτ (f + 5) (by omega), hτ (f + 6) (by omega), if_neg (show ¬ (1 : Int) = 0 by decide)]
  obtain ⟨h1, h2, h3, h4, h5, h6, h7⟩ := h
  refine ⟨ep, ?_, by rw [e9, e10, e11]; exact h2, fun d d1 d2 j j1 j2 => ?_, by rw [e15, e12]; exact h4, fun z => (by rw [e16] at z; cases z), w8.2 h6, w12.2 h7⟩
  · rw [ep]
    exact ⟨h1.1, h1.2.1, fun w hw => by injection hw with hw; rw [← hw]; exact hv, h1.2.2.2⟩
  · rw [e9] at j1
    rw [hτ _ (by omega)]
    exact h3 d d1 d2 j j1 j2
def Rd_readEase_pre (k f : Nat) (σ : Hp) : Prop := k = 1 ∧ LPr f σ
def Rd_readEase_post (_k f : Nat) (σ : Hp) (r : Int) (σ' : Hp) : Prop := LO (lnE (tpX σ) (Sp σ) (psX σ f)) f σ r σ'
def Rd_readEase_bk : List (Nat × List Item) := [(0, [(.aload_n 1, 1, [], []), (.getfield 161, 3, [1, 15, 1, 0, 0, 0], []), (.ifCond .eq 8, 3, [12], []), (.aload_n 0, 1, [], []), (.invokevirtual 56, 3, [0], []), (.ireturn, 1, [], [])]),
  (12, [(.aload_n 1, 1, [], []), (.iconst 1, 1, [], []), (.putfield 161, 3, [1, 15, 1, 0, 0, 0], []), (.aload_n 1, 1, [], []), (.aload_n 0, 1, [], []), (.ldc2_w 82, 3, [], [(1700885349, 0)]), (.iconst 0, 1, [], []), (.sipush 999, 3, [], []), (.invokevirtual 116, 3, [1], []), (.putfield 164, 3, [1, 12, 0, 0, 0, 0], []), (.aload_n 0, 1, [], []), (.getfield 27, 3, [5, 2, 0, 0, 0, 0], []), (.ifCond .ne 16, 3, [52], []), (.aload_n 0, 1, [], []), (.bipush 59, 2, [], []), (.invokevirtual 131, 3, [2], []), (.ifCond .eq 7, 3, [52], []), (.iconst 1, 1, [], []), (.goto 4, 3, [53], [])]),
  (52, [(.iconst 0, 1, [], [])]),
  (53, [(.ireturn, 1, [], [])])]
def Rd_readEase_cl : List (Instr × Nat) := [(.invokevirtual 56, 0), (.invokevirtual 116, 1), (.invokevirtual 131, 2)]
set_option maxRecDepth 20000 in
theorem Rd_readEase_ck : Rd_readEase_bk.all (fun b => ax_chB 5 2 cX5_readEase Rd_readEase_cl b.1 b.2) = true := by decide +kernel
def Rd_readEase_cs : Ct := (2, 6, 2, (0, 0), fun as σ => (match as with
    | [.inr (.inr (.inl (k, 0, 5))), .inr (.inr (.inl (q1, 0, 1)))] => Rd_readEase_pre k q1 σ
    | _ => False), fun as σ r σ' => (match as with
    | [.inr (.inr (.inl (k, 0, 5))), .inr (.inr (.inl (q1, 0, 1)))] => Rd_readEase_post k q1 σ r σ'
    | _ => False))
theorem Rd_readEase_w : ∀ w ∈ ([.instanceMethod yX5_readEase, .selects yX5_readEase.cls yX5_readEase yX5_readEase, .initialized yX5_readEase.cls, .code yX5_readEase cX5_readEase 2 (some .boolean)] : List Cond), w ∈ ax_tb := ax_w4 (ax_m3 132 (by decide +kernel) rfl) (ax_m3 133 (by decide +kernel) rfl) (ax_m1 2 (by decide +kernel) rfl) (ax_m3 134 (by decide +kernel) rfl)
theorem Rd_readEase_ds : yX5_readEase.cls ≠ "java/lang/invoke/MethodHandle" ∧ yX5_readEase.cls ≠ "java/lang/invoke/VarHandle" ∧ (parseMethodDescriptor yX5_readEase.desc).map (fun d => d.parameters.length) = some 1 := by decide +kernel
def Rd_readEase_vc : Prop := ∀ (k : Nat) (q1 : Nat) (σ : Hp), ax_H σ → Rd_readEase_pre k q1 σ →
  (σ q1 15 = 0 →
    ((1 : Int) = 0 ∨ (1 : Int) = 1) ∧
    ∀ σ1 : Hp, σ1 = hp σ q1 15 1 →
    Rd_readNumber_pre k 1700885349 0 999 σ1 ∧
    ∀ (r3 : Int) (σ2 : Hp), Rd_readNumber_post k 1700885349 0 999 σ1 r3 σ2 →
    ∀ σ4 : Hp, σ4 = hp σ2 q1 12 r3 →
    (¬ σ4 k 2 = 0 →
      ((0 : Int) = 0 ∨ (0 : Int) = 1) ∧ Rd_readEase_post k q1 σ 0 σ4) ∧
    (¬ (¬ σ4 k 2 = 0) →
      Rd_readSign_pre k 59 σ4 ∧
      ∀ (r6 : Int) (σ5 : Hp), Rd_readSign_post k 59 σ4 r6 σ5 →
      (r6 = 0 →
        ((0 : Int) = 0 ∨ (0 : Int) = 1) ∧ Rd_readEase_post k q1 σ 0 σ5) ∧
      (¬ (r6 = 0) →
        ((1 : Int) = 0 ∨ (1 : Int) = 1) ∧ Rd_readEase_post k q1 σ 1 σ5))) ∧
  (¬ (σ q1 15 = 0) →
    Rd_refuse_pre k σ ∧
    ∀ (r8 : Int) (σ7 : Hp), Rd_refuse_post k σ r8 σ7 →
    (r8 = 0 ∨ r8 = 1) ∧ Rd_readEase_post k q1 σ r8 σ7)
theorem Rd_readEase_p : Rd_readEase_vc := by
  intro k f σ hH hp
  obtain ⟨rfl, hf, hD, hR, h2⟩ := hp
  have hfn := FO_ne hf
  have un : Rd_readEase_post 1 f σ = LO (lnE (tpX σ) (Sp σ) (psX σ f)) f σ := rfl
  rw [un]
  refine ⟨fun h => ⟨Or.inr rfl, ?_⟩, fun h => ⟨rfl, ?_⟩⟩
  · rintro σ1 rfl
    have f1 : Fr (fcs f) σ (hp σ f 15 1) := Frf (by omega) (by omega)
    have R1 := hR.off hf f1
    refine ⟨⟨rfl, _, _, R1⟩, ?_⟩
    intro r3 σ2 h3
    have h3 := h3 _ _ R1
    have hl : lnE (tpX σ) (Sp σ) (psX σ f) = oB (nmrO (tpX σ) (Sp σ) 1700885349 0 999) fun v => oB (sgnO (tpX σ) v.2 59) fun r => .inr (adE (psX σ f) v.1, r) := by
      unfold lnE
      rw [if_neg]
      show ¬ (if σ f 15 = 0 then none else some (σ f 12)).isSome = true
      rw [if_pos h]; decide
    rintro σ4 rfl
    have f4 : Fr (fcs f) σ2 (hp σ2 f 12 r3) := Frf (by omega) (by omega)
    have o4 := off1 hf f4
    rw [o4]
    cases hn : nmrO (tpX σ) (Sp σ) 1700885349 0 999 with
    | inl x =>
      rw [hn] at h3 hl
      have h3' : Fl (hp σ f 15 1) σ2 (tpX σ) x.1 x.2 := h3
      refine ⟨fun _ => ⟨Or.inl rfl, ?_⟩, fun z => absurd (by rw [h3'.2.2.1]; exact nmrO_0 hn) z⟩
      rw [hl]
      exact LO.fl2 (f1.mono (fun c hc => List.mem_cons_of_mem _ hc)) (by rw [off1 hf f1]) h3' f4 hf
    | inr x =>
      rw [hn] at h3 hl
      obtain ⟨g1, g2, g3, g4, g5, g6⟩ := h3
      subst g1
      have g40 : σ2 1 2 = 0 := by rw [g4, off1 hf f1]; exact h2
      refine ⟨fun z => absurd g40 z, fun _ => ⟨⟨rfl, _, _, g6.off hf f4⟩, ?_⟩⟩
      intro r6 σ5 h6
      have h6 := h6 _ _ (g6.off hf f4)
      have hl2 : lnE (tpX σ) (Sp σ) (psX σ f) = oB (sgnO (tpX σ) x.2 59) fun r => .inr (adE (psX σ f) x.1, r) := hl
      have fr4 : Fr (1 :: fcs f) σ (hp σ2 f 12 x.1) := ((f1.mono (fun c hc => List.mem_cons_of_mem _ hc)).tr (Fr1f g2)).tr (f4.mono (fun c hc => List.mem_cons_of_mem _ hc))
      have e11 : hp σ2 f 12 x.1 1 1 = σ 1 1 := by rw [o4, g3, off1 hf f1]
      cases hs : sgnO (tpX σ) x.2 59 with
      | inl y =>
        rw [hs] at h6 hl2
        obtain ⟨k1, k2⟩ := h6
        subst k1
        refine ⟨fun _ => ⟨Or.inl rfl, ?_⟩, fun z => absurd rfl z⟩
        rw [hl2]
        exact LO.fl2 fr4 e11 k2 Fr.rf hf
      | inr y =>
        rw [hs] at h6 hl2
        obtain ⟨k1, k2, k3, k4, k5, k6⟩ := h6
        subst k1
        refine ⟨fun z => (by cases z), fun _ => ⟨Or.inr rfl, ?_⟩⟩
        rw [hl2]
        have fE : Fr [1] (hp (hp σ f 15 1) f 12 x.1) σ5 := (Fr1.hp g2).tr k2
        have hr := nmrO_R hn
        have DE := ease_DX (σ := σ) (τ := hp (hp σ f 15 1) f 12 x.1) (v := x.1) hD (fun c hc => by rw [hp_ne hc, hp_ne hc]) (fun j => by rw [hp_f, hp_f]) hr
        have PE := psX_eq (f := f) (σ := hp (hp σ f 15 1) f 12 x.1) (σ' := σ5) (fun c c1 c2 => fE c (by simp; omega))
        exact ⟨Or.inr rfl, fr4.tr (Fr1f k2), by rw [k3, e11], rfl, by rw [k4, o4]; exact g40, by rw [k5, o4, g5, off1 hf f1], k6, PE.2 DE.2, by rw [PE.1]; exact DE.1⟩
  · intro r8 σ7 h7
    obtain ⟨z1, z2⟩ := hR.rf h7
    subst z1
    refine ⟨Or.inl rfl, ?_⟩
    have hl : lnE (tpX σ) (Sp σ) (psX σ f) = .inl (rfc (tpX σ) (Sp σ), Sp σ) := by
      unfold lnE
      rw [if_pos]
      show (if σ f 15 = 0 then none else some (σ f 12)).isSome = true
      rw [if_neg h]; rfl
    rw [hl]
    exact LO.fl z2
def Rd_readEase_I : List AV → Hp → Nat → Nat → List AV → List AV → Hp → Prop := fun as σ0 pc n st ls σ => (match as with
    | [.inr (.inr (.inl (k, 0, 5))), .inr (.inr (.inl (q1, 0, 1)))] => False
    | _ => False)
def Rd_readEase_ct : Nat → Ct := fun n => match n with
  | 0 => Rd_refuse_cs
  | 1 => Rd_readNumber_cs
  | 2 => Rd_readSign_cs
  | _ => Rd_readEase_cs
set_option maxRecDepth 20000 in
set_option maxHeartbeats 4000000 in
theorem Rd_readEase_met {l : Launch} {D : va_G} {ad : Nat → Nat} {ca : Nat → ClassId} {L : Nat} {fx : Nat → Int} : ax_MC l D ad ca L fx yX5_readEase cX5_readEase 2 (some .boolean) 7 Rd_readEase_cs := by
  refine ax_met (oc := 5) (ct := Rd_readEase_ct) (calls := Rd_readEase_cl) (bs := Rd_readEase_bk) (cut := fun pc => false) (f := 5) (I := Rd_readEase_I) (by decide) rfl rfl Rd_readEase_ck (List.forall_mem_cons.mpr ⟨ax_cwV Rd_refuse_met (by decide) (by decide) rfl (by decide) rfl (ax_m3 37 (by decide +kernel) rfl) Rd_refuse_w rfl Rd_refuse_ds, List.forall_mem_cons.mpr ⟨ax_cwV Rd_readNumber_met (by decide) (by decide) rfl (by decide) rfl (ax_m3 61 (by decide +kernel) rfl) Rd_readNumber_w rfl Rd_readNumber_ds, List.forall_mem_cons.mpr ⟨ax_cwV Rd_readSign_met (by decide) (by decide) rfl (by decide) rfl (ax_m3 71 (by decide +kernel) rfl) Rd_readSign_w rfl Rd_readSign_ds, fun _ h => absurd h List.not_mem_nil⟩⟩⟩) ?_ ?_
  · intro as σ0 hp hH
    match as, hp with
    | [.inr (.inr (.inl (k, 0, 5))), .inr (.inr (.inl (q1, 0, 1)))], hp => exact ⟨rfl, Rd_readEase_p k q1 σ0 hH hp⟩
  · intro as σ0 hp n pc st ls σ hH hI
    match as, hp, hI with
    | [.inr (.inr (.inl (k, 0, 5))), .inr (.inr (.inl (q1, 0, 1)))], hp, hI => exact False.elim hI
def Rd_readDraw_pre (k f : Nat) (σ : Hp) : Prop := k = 1 ∧ LPr f σ
def Rd_readDraw_post (_k f : Nat) (σ : Hp) (r : Int) (σ' : Hp) : Prop := LO (lnD (tpX σ) (Sp σ) (psX σ f)) f σ r σ'
def Rd_readDraw_bk : List (Nat × List Item) := [(0, [(.aload_n 1, 1, [], []), (.getfield 167, 3, [1, 16, 1, 0, 0, 0], []), (.ifCond .eq 8, 3, [12], []), (.aload_n 0, 1, [], []), (.invokevirtual 56, 3, [0], []), (.ireturn, 1, [], [])]),
  (12, [(.aload_n 1, 1, [], []), (.iconst 1, 1, [], []), (.putfield 167, 3, [1, 16, 1, 0, 0, 0], []), (.aload_n 1, 1, [], []), (.aload_n 0, 1, [], []), (.ldc2_w 87, 3, [], [(1685217655, 0)]), (.iconst 0, 1, [], []), (.sipush 999, 3, [], []), (.invokevirtual 116, 3, [1], []), (.putfield 170, 3, [1, 13, 0, 0, 0, 0], []), (.aload_n 0, 1, [], []), (.getfield 27, 3, [5, 2, 0, 0, 0, 0], []), (.ifCond .ne 16, 3, [52], []), (.aload_n 0, 1, [], []), (.bipush 59, 2, [], []), (.invokevirtual 131, 3, [2], []), (.ifCond .eq 7, 3, [52], []), (.iconst 1, 1, [], []), (.goto 4, 3, [53], [])]),
  (52, [(.iconst 0, 1, [], [])]),
  (53, [(.ireturn, 1, [], [])])]
def Rd_readDraw_cl : List (Instr × Nat) := [(.invokevirtual 56, 0), (.invokevirtual 116, 1), (.invokevirtual 131, 2)]
set_option maxRecDepth 20000 in
theorem Rd_readDraw_ck : Rd_readDraw_bk.all (fun b => ax_chB 5 2 cX5_readDraw Rd_readDraw_cl b.1 b.2) = true := by decide +kernel
def Rd_readDraw_cs : Ct := (2, 6, 2, (0, 0), fun as σ => (match as with
    | [.inr (.inr (.inl (k, 0, 5))), .inr (.inr (.inl (q1, 0, 1)))] => Rd_readDraw_pre k q1 σ
    | _ => False), fun as σ r σ' => (match as with
    | [.inr (.inr (.inl (k, 0, 5))), .inr (.inr (.inl (q1, 0, 1)))] => Rd_readDraw_post k q1 σ r σ'
    | _ => False))
theorem Rd_readDraw_w : ∀ w ∈ ([.instanceMethod yX5_readDraw, .selects yX5_readDraw.cls yX5_readDraw yX5_readDraw, .initialized yX5_readDraw.cls, .code yX5_readDraw cX5_readDraw 2 (some .boolean)] : List Cond), w ∈ ax_tb := ax_w4 (ax_m3 137 (by decide +kernel) rfl) (ax_m3 138 (by decide +kernel) rfl) (ax_m1 2 (by decide +kernel) rfl) (ax_m3 139 (by decide +kernel) rfl)
theorem Rd_readDraw_ds : yX5_readDraw.cls ≠ "java/lang/invoke/MethodHandle" ∧ yX5_readDraw.cls ≠ "java/lang/invoke/VarHandle" ∧ (parseMethodDescriptor yX5_readDraw.desc).map (fun d => d.parameters.length) = some 1 := by decide +kernel
def Rd_readDraw_vc : Prop := ∀ (k : Nat) (q1 : Nat) (σ : Hp), ax_H σ → Rd_readDraw_pre k q1 σ →
  (σ q1 16 = 0 →
    ((1 : Int) = 0 ∨ (1 : Int) = 1) ∧
    ∀ σ1 : Hp, σ1 = hp σ q1 16 1 →
    Rd_readNumber_pre k 1685217655 0 999 σ1 ∧
    ∀ (r3 : Int) (σ2 : Hp), Rd_readNumber_post k 1685217655 0 999 σ1 r3 σ2 →
    ∀ σ4 : Hp, σ4 = hp σ2 q1 13 r3 →
    (¬ σ4 k 2 = 0 →
      ((0 : Int) = 0 ∨ (0 : Int) = 1) ∧ Rd_readDraw_post k q1 σ 0 σ4) ∧
    (¬ (¬ σ4 k 2 = 0) →
      Rd_readSign_pre k 59 σ4 ∧
      ∀ (r6 : Int) (σ5 : Hp), Rd_readSign_post k 59 σ4 r6 σ5 →
      (r6 = 0 →
        ((0 : Int) = 0 ∨ (0 : Int) = 1) ∧ Rd_readDraw_post k q1 σ 0 σ5) ∧
      (¬ (r6 = 0) →
        ((1 : Int) = 0 ∨ (1 : Int) = 1) ∧ Rd_readDraw_post k q1 σ 1 σ5))) ∧
  (¬ (σ q1 16 = 0) →
    Rd_refuse_pre k σ ∧
    ∀ (r8 : Int) (σ7 : Hp), Rd_refuse_post k σ r8 σ7 →
    (r8 = 0 ∨ r8 = 1) ∧ Rd_readDraw_post k q1 σ r8 σ7)
theorem Rd_readDraw_p : Rd_readDraw_vc := by
  intro k f σ hH hp
  obtain ⟨rfl, hf, hD, hR, h2⟩ := hp
  have hfn := FO_ne hf
  have un : Rd_readDraw_post 1 f σ = LO (lnD (tpX σ) (Sp σ) (psX σ f)) f σ := rfl
  rw [un]
  refine ⟨fun h => ⟨Or.inr rfl, ?_⟩, fun h => ⟨rfl, ?_⟩⟩
  · rintro σ1 rfl
    have f1 : Fr (fcs f) σ (hp σ f 16 1) := Frf (by omega) (by omega)
    have R1 := hR.off hf f1
    refine ⟨⟨rfl, _, _, R1⟩, ?_⟩
    intro r3 σ2 h3
    have h3 := h3 _ _ R1
    have hl : lnD (tpX σ) (Sp σ) (psX σ f) = oB (nmrO (tpX σ) (Sp σ) 1685217655 0 999) fun v => oB (sgnO (tpX σ) v.2 59) fun r => .inr (adD (psX σ f) v.1, r) := by
      unfold lnD
      rw [if_neg]
      show ¬ (if σ f 16 = 0 then none else some (σ f 13)).isSome = true
      rw [if_pos h]; decide
    rintro σ4 rfl
    have f4 : Fr (fcs f) σ2 (hp σ2 f 13 r3) := Frf (by omega) (by omega)
    have o4 := off1 hf f4
    rw [o4]
    cases hn : nmrO (tpX σ) (Sp σ) 1685217655 0 999 with
    | inl x =>
      rw [hn] at h3 hl
      have h3' : Fl (hp σ f 16 1) σ2 (tpX σ) x.1 x.2 := h3
      refine ⟨fun _ => ⟨Or.inl rfl, ?_⟩, fun z => absurd (by rw [h3'.2.2.1]; exact nmrO_0 hn) z⟩
      rw [hl]
      exact LO.fl2 (f1.mono (fun c hc => List.mem_cons_of_mem _ hc)) (by rw [off1 hf f1]) h3' f4 hf
    | inr x =>
      rw [hn] at h3 hl
      obtain ⟨g1, g2, g3, g4, g5, g6⟩ := h3
      subst g1
      have g40 : σ2 1 2 = 0 := by rw [g4, off1 hf f1]; exact h2
      refine ⟨fun z => absurd g40 z, fun _ => ⟨⟨rfl, _, _, g6.off hf f4⟩, ?_⟩⟩
      intro r6 σ5 h6
      have h6 := h6 _ _ (g6.off hf f4)
      have hl2 : lnD (tpX σ) (Sp σ) (psX σ f) = oB (sgnO (tpX σ) x.2 59) fun r => .inr (adD (psX σ f) x.1, r) := hl
      have fr4 : Fr (1 :: fcs f) σ (hp σ2 f 13 x.1) := ((f1.mono (fun c hc => List.mem_cons_of_mem _ hc)).tr (Fr1f g2)).tr (f4.mono (fun c hc => List.mem_cons_of_mem _ hc))
      have e11 : hp σ2 f 13 x.1 1 1 = σ 1 1 := by rw [o4, g3, off1 hf f1]
      cases hs : sgnO (tpX σ) x.2 59 with
      | inl y =>
        rw [hs] at h6 hl2
        obtain ⟨k1, k2⟩ := h6
        subst k1
        refine ⟨fun _ => ⟨Or.inl rfl, ?_⟩, fun z => absurd rfl z⟩
        rw [hl2]
        exact LO.fl2 fr4 e11 k2 Fr.rf hf
      | inr y =>
        rw [hs] at h6 hl2
        obtain ⟨k1, k2, k3, k4, k5, k6⟩ := h6
        subst k1
        refine ⟨fun z => (by cases z), fun _ => ⟨Or.inr rfl, ?_⟩⟩
        rw [hl2]
        have fE : Fr [1] (hp (hp σ f 16 1) f 13 x.1) σ5 := (Fr1.hp g2).tr k2
        have hr := nmrO_R hn
        have DE := draw_DX (σ := σ) (τ := hp (hp σ f 16 1) f 13 x.1) (v := x.1) hD (fun c hc => by rw [hp_ne hc, hp_ne hc]) (fun j => by rw [hp_f, hp_f]) hr
        have PE := psX_eq (f := f) (σ := hp (hp σ f 16 1) f 13 x.1) (σ' := σ5) (fun c c1 c2 => fE c (by simp; omega))
        exact ⟨Or.inr rfl, fr4.tr (Fr1f k2), by rw [k3, e11], rfl, by rw [k4, o4]; exact g40, by rw [k5, o4, g5, off1 hf f1], k6, PE.2 DE.2, by rw [PE.1]; exact DE.1⟩
  · intro r8 σ7 h7
    obtain ⟨z1, z2⟩ := hR.rf h7
    subst z1
    refine ⟨Or.inl rfl, ?_⟩
    have hl : lnD (tpX σ) (Sp σ) (psX σ f) = .inl (rfc (tpX σ) (Sp σ), Sp σ) := by
      unfold lnD
      rw [if_pos]
      show (if σ f 16 = 0 then none else some (σ f 13)).isSome = true
      rw [if_neg h]; rfl
    rw [hl]
    exact LO.fl z2
def Rd_readDraw_I : List AV → Hp → Nat → Nat → List AV → List AV → Hp → Prop := fun as σ0 pc n st ls σ => (match as with
    | [.inr (.inr (.inl (k, 0, 5))), .inr (.inr (.inl (q1, 0, 1)))] => False
    | _ => False)
def Rd_readDraw_ct : Nat → Ct := fun n => match n with
  | 0 => Rd_refuse_cs
  | 1 => Rd_readNumber_cs
  | 2 => Rd_readSign_cs
  | _ => Rd_readDraw_cs
set_option maxRecDepth 20000 in
set_option maxHeartbeats 4000000 in
theorem Rd_readDraw_met {l : Launch} {D : va_G} {ad : Nat → Nat} {ca : Nat → ClassId} {L : Nat} {fx : Nat → Int} : ax_MC l D ad ca L fx yX5_readDraw cX5_readDraw 2 (some .boolean) 7 Rd_readDraw_cs := by
  refine ax_met (oc := 5) (ct := Rd_readDraw_ct) (calls := Rd_readDraw_cl) (bs := Rd_readDraw_bk) (cut := fun pc => false) (f := 5) (I := Rd_readDraw_I) (by decide) rfl rfl Rd_readDraw_ck (List.forall_mem_cons.mpr ⟨ax_cwV Rd_refuse_met (by decide) (by decide) rfl (by decide) rfl (ax_m3 37 (by decide +kernel) rfl) Rd_refuse_w rfl Rd_refuse_ds, List.forall_mem_cons.mpr ⟨ax_cwV Rd_readNumber_met (by decide) (by decide) rfl (by decide) rfl (ax_m3 61 (by decide +kernel) rfl) Rd_readNumber_w rfl Rd_readNumber_ds, List.forall_mem_cons.mpr ⟨ax_cwV Rd_readSign_met (by decide) (by decide) rfl (by decide) rfl (ax_m3 71 (by decide +kernel) rfl) Rd_readSign_w rfl Rd_readSign_ds, fun _ h => absurd h List.not_mem_nil⟩⟩⟩) ?_ ?_
  · intro as σ0 hp hH
    match as, hp with
    | [.inr (.inr (.inl (k, 0, 5))), .inr (.inr (.inl (q1, 0, 1)))], hp => exact ⟨rfl, Rd_readDraw_p k q1 σ0 hH hp⟩
  · intro as σ0 hp n pc st ls σ hH hI
    match as, hp, hI with
    | [.inr (.inr (.inl (k, 0, 5))), .inr (.inr (.inl (q1, 0, 1)))], hp, hI => exact False.elim hI

-- THE READER: formulas, persons
noncomputable def LFo (B : Tp) (p : Nat) (old : Fml) : Oc ((Nat × List Int) × Nat) :=
  if old.isSome = true then .inl (rfc B p, p)
  else if (fmlR B (tN B p)).1 = 3 then .inl (rfc B (fmlR B (tN B p)).2.1, (fmlR B (tN B p)).2.1)
  else oB (sgnO B (fmlR B (tN B p)).2.1 59) fun r => .inr (((fmlR B (tN B p)).2.2.2.2, (fmlR B (tN B p)).2.2.2.1), r)
theorem lnF_eq (B : Tp) (p : Nat) (old : Fml) (ad : Nat × List Int → PS) : lnF B p old ad = oB (LFo B p old) (fun x => .inr (ad x.1, x.2)) := by
  unfold lnF LFo
  by_cases h1 : old.isSome = true
  · rw [if_pos h1, if_pos h1]; rfl
  · rw [if_neg h1, if_neg h1]
    by_cases h2 : (fmlR B (tN B p)).1 = 3
    · rw [if_pos h2, if_pos h2]; rfl
    · rw [if_neg h2, if_neg h2]
      cases sgnO B (fmlR B (tN B p)).2.1 59 <;> rfl
def Rd_readFormula_pre (k g : Nat) (σ : Hp) : Prop := k = 1 ∧ fO g ∧ FDX σ g ∧ RS σ (tpX σ) (Sp σ) ∧ σ 1 2 = 0
def Rd_readFormula_post (_k g : Nat) (σ : Hp) (r : Int) (σ' : Hp) : Prop := (r = 0 ∨ r = 1) ∧ Fr [1, g, g + 1] σ σ' ∧ σ' 1 1 = σ 1 1 ∧ (match LFo (tpX σ) (Sp σ) (fmX σ g) with
  | .inl x => r = 0 ∧ σ' 1 2 = x.1 ∧ σ' 1 3 = (tS (tpX σ) x.2 : Nat)
  | .inr x => r = 1 ∧ σ' 1 2 = 0 ∧ σ' 1 3 = σ 1 3 ∧ RS σ' (tpX σ) x.2 ∧ FDX σ' g ∧ fmX σ' g = some x.1)
def Rd_readFormula_bk : List (Nat × List Item) := [(0, [(.aload_n 1, 1, [], []), (.getfield 153, 3, [2, 5, 1, 0, 0, 0], []), (.ifCond .eq 8, 3, [12], []), (.aload_n 0, 1, [], []), (.invokevirtual 56, 3, [0], []), (.ireturn, 1, [], [])]),
  (12, [(.aload_n 1, 1, [], []), (.iconst 1, 1, [], []), (.putfield 153, 3, [2, 5, 1, 0, 0, 0], []), (.aload_n 0, 1, [], []), (.invokevirtual 33, 3, [1], []), (.aload_n 0, 1, [], []), (.aload_n 1, 1, [], []), (.iconst 0, 1, [], []), (.iconst 0, 1, [], []), (.invokevirtual 157, 3, [2], []), (.ifCond .eq 16, 3, [44], []), (.aload_n 0, 1, [], []), (.bipush 59, 2, [], []), (.invokevirtual 131, 3, [3], []), (.ifCond .eq 7, 3, [44], []), (.iconst 1, 1, [], []), (.goto 4, 3, [45], [])]),
  (44, [(.iconst 0, 1, [], [])]),
  (45, [(.ireturn, 1, [], [])])]
def Rd_readFormula_cl : List (Instr × Nat) := [(.invokevirtual 56, 0), (.invokevirtual 33, 1), (.invokevirtual 157, 2), (.invokevirtual 131, 3)]
set_option maxRecDepth 20000 in
theorem Rd_readFormula_ck : Rd_readFormula_bk.all (fun b => ax_chB 5 2 cX5_readFormula Rd_readFormula_cl b.1 b.2) = true := by decide +kernel
def Rd_readFormula_cs : Ct := (2, 6, 2, (0, 0), fun as σ => (match as with
    | [.inr (.inr (.inl (k, 0, 5))), .inr (.inr (.inl (q1, 0, 2)))] => Rd_readFormula_pre k q1 σ
    | _ => False), fun as σ r σ' => (match as with
    | [.inr (.inr (.inl (k, 0, 5))), .inr (.inr (.inl (q1, 0, 2)))] => Rd_readFormula_post k q1 σ r σ'
    | _ => False))
theorem Rd_readFormula_w : ∀ w ∈ ([.instanceMethod yX5_readFormula, .selects yX5_readFormula.cls yX5_readFormula yX5_readFormula, .initialized yX5_readFormula.cls, .code yX5_readFormula cX5_readFormula 2 (some .boolean)] : List Cond), w ∈ ax_tb := ax_w4 (ax_m3 90 (by decide +kernel) rfl) (ax_m3 91 (by decide +kernel) rfl) (ax_m1 2 (by decide +kernel) rfl) (ax_m3 92 (by decide +kernel) rfl)
theorem Rd_readFormula_ds : yX5_readFormula.cls ≠ "java/lang/invoke/MethodHandle" ∧ yX5_readFormula.cls ≠ "java/lang/invoke/VarHandle" ∧ (parseMethodDescriptor yX5_readFormula.desc).map (fun d => d.parameters.length) = some 1 := by decide +kernel
def Rd_readFormula_vc : Prop := ∀ (k : Nat) (q1 : Nat) (σ : Hp), ax_H σ → Rd_readFormula_pre k q1 σ →
  (σ q1 5 = 0 →
    ((1 : Int) = 0 ∨ (1 : Int) = 1) ∧
    ∀ σ1 : Hp, σ1 = hp σ q1 5 1 →
    Rd_advance_pre k σ1 ∧
    ∀ σ2 : Hp, Rd_advance_post k σ1 σ2 →
    Rd_chain_pre 151 k q1 0 0 σ2 ∧
    ∀ (r4 : Int) (σ3 : Hp), Rd_chain_post k q1 0 0 σ2 r4 σ3 →
    (r4 = 0 →
      ((0 : Int) = 0 ∨ (0 : Int) = 1) ∧ Rd_readFormula_post k q1 σ 0 σ3) ∧
    (¬ (r4 = 0) →
      Rd_readSign_pre k 59 σ3 ∧
      ∀ (r6 : Int) (σ5 : Hp), Rd_readSign_post k 59 σ3 r6 σ5 →
      (r6 = 0 →
        ((0 : Int) = 0 ∨ (0 : Int) = 1) ∧ Rd_readFormula_post k q1 σ 0 σ5) ∧
      (¬ (r6 = 0) →
        ((1 : Int) = 0 ∨ (1 : Int) = 1) ∧ Rd_readFormula_post k q1 σ 1 σ5))) ∧
  (¬ (σ q1 5 = 0) →
    Rd_refuse_pre k σ ∧
    ∀ (r8 : Int) (σ7 : Hp), Rd_refuse_post k σ r8 σ7 →
    (r8 = 0 ∨ r8 = 1) ∧ Rd_readFormula_post k q1 σ r8 σ7)
theorem Rd_readFormula_p : Rd_readFormula_vc := by
  intro k g σ hH hp
  obtain ⟨rfl, hg, hD, hR, h2⟩ := hp
  have hgn := fO_ne hg
  refine ⟨fun h => ⟨Or.inr rfl, ?_⟩, fun h => ⟨rfl, ?_⟩⟩
  · obtain ⟨hl0, hu0⟩ := hD.1 h
    have hold : ¬ (fmX σ g).isSome = true := by unfold fmX; rw [if_pos h]; decide
    rintro σ1 hσ1
    have e11 : σ1 1 = σ 1 := by rw [hσ1, hp_ne (by omega)]
    have e12 : σ1 2 = σ 2 := by rw [hσ1, hp_ne (by omega)]
    have R1 := hR.keep e11 e12
    refine ⟨R1.adv.1, ?_⟩
    intro σ2 g2
    obtain ⟨a1, a2, a3, a4, R2⟩ := R1.adv.2 σ2 g2
    have g2g : σ2 g = σ1 g := a1 g (by simp; omega)
    have g2g1 : σ2 (g + 1) = σ1 (g + 1) := a1 (g + 1) (by simp; omega)
    have e23 : σ2 g 3 = 0 := by rw [g2g, hσ1, hp_r2 (by omega)]; exact hl0
    have e24 : σ2 g 4 = 0 := by rw [g2g, hσ1, hp_r2 (by omega)]; exact hu0
    have e25 : σ2 g 5 = 1 := by rw [g2g, hσ1, hp_r1]
    have hFW : FW σ2 g := by
      refine ⟨by omega, by omega, ?_, ?_⟩
      · rw [e23]; intro i hi; exact absurd hi (Nat.not_lt_zero i)
      · rw [e23, e24]; exact Int.le_refl 0
    have fr2 : Fr [1, g, g + 1] σ σ2 := by
      refine Fr.tr ?_ (Fr1 a1)
      rw [hσ1]; exact Fr.hp Fr.rf (by simp)
    refine ⟨⟨rfl, ⟨hg, by decide, by decide, ⟨_, _, R2⟩, hFW⟩, Or.inl rfl, by decide⟩, ?_⟩
    intro r4 σ3 h3
    obtain ⟨x1, x2⟩ := h3.2 _ _ R2
    have hc0 : Cmp (tpX σ) 0 0 [] (tN (tpX σ) (Sp σ)) := ⟨by decide, rfl, fun z => absurd z (by decide)⟩
    have un : LFo (tpX σ) (Sp σ) (fmX σ g) = if (fmlR (tpX σ) (tN (tpX σ) (Sp σ))).1 = 3 then .inl (rfc (tpX σ) (fmlR (tpX σ) (tN (tpX σ) (Sp σ))).2.1, (fmlR (tpX σ) (tN (tpX σ) (Sp σ))).2.1)
      else oB (sgnO (tpX σ) (fmlR (tpX σ) (tN (tpX σ) (Sp σ))).2.1 59) fun r => .inr (((fmlR (tpX σ) (tN (tpX σ) (Sp σ))).2.2.2.2, (fmlR (tpX σ) (tN (tpX σ) (Sp σ))).2.2.2.1), r) := by
      unfold LFo; rw [if_neg hold]
    rcases x2 with ⟨y1, q, L, hq, P1, P2, P3, P4, P5, P6, P7, P8, P9⟩ | ⟨y1, q, c1, c2, c3⟩
    · obtain ⟨R, E', m1, m2, m3, m4⟩ := P9 [] [] hc0
      have hfm : fmlR (tpX σ) (tN (tpX σ) (Sp σ)) = (2, q, [], L, (σ3 g 4).toNat) := by
        refine fmlR_eq ?_ (Nat.le_refl 2)
        rw [e24] at m1
        refine m1.on ?_
        have hb : hbr (R ++ []) = false := by rw [List.append_nil]; exact hbr_no m2
        rw [stM1, hb, if_neg (fun z => by cases z.2), if_neg (fun z => z.2 (m4 z.1 (by rw [tl_vals.1]; have := tg_op ((opA_R (tpX σ) q).resolve_left z.1); omega))), if_neg (by decide), cls_all (t := 0) (m2.mono (by omega)) (fun x S' e => by cases e), m3]
        rfl
      rw [hfm] at un
      dsimp only at un
      rw [if_neg (show ¬ (2 : Nat) = 3 by decide)] at un
      refine ⟨fun z => (by rw [y1] at z; cases z), fun _ => ⟨⟨rfl, _, _, P1⟩, ?_⟩⟩
      intro r6 σ5 h6
      have h6 := h6 _ _ P1
      have e12' : σ3 1 2 = 0 := by rw [P2, a3, e11]; exact h2
      have fr3 : Fr [1, g, g + 1] σ σ3 := fr2.tr x1.1
      have e111 : σ3 1 1 = σ 1 1 := by rw [x1.2.1, a2, e11]
      have e113 : σ3 1 3 = σ 1 3 := by rw [P3, a4, e11]
      cases hs : sgnO (tpX σ) q 59 with
      | inl y =>
        rw [hs] at h6 un
        obtain ⟨k1, k2⟩ := h6
        subst k1
        refine ⟨fun _ => ⟨Or.inl rfl, Or.inl rfl, fr3.tr (Fr1 k2.1), by rw [k2.2.1, e111], ?_⟩, fun z => absurd rfl z⟩
        rw [un]
        exact ⟨rfl, k2.2.2.1, k2.2.2.2⟩
      | inr y =>
        rw [hs] at h6 un
        obtain ⟨k1, k2, k3, k4, k5, k6⟩ := h6
        subst k1
        refine ⟨fun z => (by cases z), fun _ => ⟨Or.inr rfl, Or.inr rfl, fr3.tr (Fr1 k2), by rw [k3, e111], ?_⟩⟩
        rw [un]
        have g5 : σ5 g = σ3 g := k2 g (by simp; omega)
        have g51 : σ5 (g + 1) = σ3 (g + 1) := k2 (g + 1) (by simp; omega)
        have F5 := P4.eq g5 g51
        have h55 : σ5 g 5 = 1 := by rw [g5, x1.2.2]; exact e25
        have htp : tp (σ5 (g + 1)) (σ5 g 3).toNat = 1 := by
          rw [g5, g51, P8, e23]; rfl
        refine ⟨rfl, by rw [k4]; exact e12', by rw [k5, e113], k6, ⟨fun z => (by rw [h55] at z; cases z), fun _ => ⟨h55, F5.1, htp⟩⟩, ?_⟩
        unfold fmX
        rw [if_neg (by rw [h55]; decide), F5.2, P5, g5]
        have : rdL σ2 g = [] := by unfold rdL; rw [e23]; rfl
        rw [this]; rfl
    · obtain ⟨S', E', u', m1⟩ := c3 [] [] hc0
      rw [e24] at m1
      have hfm : fmlR (tpX σ) (tN (tpX σ) (Sp σ)) = (3, q, S', E', u') := fmlR_eq m1 (show 2 ≤ 3 by decide)
      rw [hfm] at un
      dsimp only at un
      rw [if_pos rfl] at un
      refine ⟨fun _ => ⟨Or.inl rfl, Or.inl rfl, fr2.tr x1.1, by rw [x1.2.1, a2, e11], ?_⟩, fun z => absurd y1 z⟩
      rw [un]
      exact ⟨rfl, c1, c2⟩
  · intro r8 σ7 h7
    obtain ⟨z1, z2⟩ := hR.rf h7
    subst z1
    have hl : LFo (tpX σ) (Sp σ) (fmX σ g) = .inl (rfc (tpX σ) (Sp σ), Sp σ) := by
      unfold LFo
      rw [if_pos]
      unfold fmX; rw [if_neg h]; rfl
    refine ⟨Or.inl rfl, Or.inl rfl, Fr1 z2.1, z2.2.1, ?_⟩
    rw [hl]
    exact ⟨rfl, z2.2.2.1, z2.2.2.2⟩
def Rd_readFormula_I : List AV → Hp → Nat → Nat → List AV → List AV → Hp → Prop := fun as σ0 pc n st ls σ => (match as with
    | [.inr (.inr (.inl (k, 0, 5))), .inr (.inr (.inl (q1, 0, 2)))] => False
    | _ => False)
def Rd_readFormula_ct : Nat → Ct := fun n => match n with
  | 0 => Rd_refuse_cs
  | 1 => Rd_advance_cs
  | 2 => Rd_chain_cs 151
  | 3 => Rd_readSign_cs
  | _ => Rd_readFormula_cs
set_option maxRecDepth 20000 in
set_option maxHeartbeats 4000000 in
theorem Rd_readFormula_met {l : Launch} {D : va_G} {ad : Nat → Nat} {ca : Nat → ClassId} {L : Nat} {fx : Nat → Int} : ax_MC l D ad ca L fx yX5_readFormula cX5_readFormula 2 (some .boolean) 164 Rd_readFormula_cs := by
  refine ax_met (oc := 5) (ct := Rd_readFormula_ct) (calls := Rd_readFormula_cl) (bs := Rd_readFormula_bk) (cut := fun pc => false) (f := 5) (I := Rd_readFormula_I) (by decide) rfl rfl Rd_readFormula_ck (List.forall_mem_cons.mpr ⟨ax_cwV Rd_refuse_met (by decide) (by decide) rfl (by decide) rfl (ax_m3 37 (by decide +kernel) rfl) Rd_refuse_w rfl Rd_refuse_ds, List.forall_mem_cons.mpr ⟨ax_cwV Rd_advance_met (by decide) (by decide) rfl (by decide) rfl (ax_m2 166 (by decide +kernel) rfl) Rd_advance_w rfl Rd_advance_ds, List.forall_mem_cons.mpr ⟨ax_cwV Rd_chain_fin (by decide) (by decide) rfl (by decide) rfl (ax_m3 93 (by decide +kernel) rfl) Rd_chain_w rfl Rd_chain_ds, List.forall_mem_cons.mpr ⟨ax_cwV Rd_readSign_met (by decide) (by decide) rfl (by decide) rfl (ax_m3 71 (by decide +kernel) rfl) Rd_readSign_w rfl Rd_readSign_ds, fun _ h => absurd h List.not_mem_nil⟩⟩⟩⟩) ?_ ?_
  · intro as σ0 hp hH
    match as, hp with
    | [.inr (.inr (.inl (k, 0, 5))), .inr (.inr (.inl (q1, 0, 2)))], hp => exact ⟨rfl, Rd_readFormula_p k q1 σ0 hH hp⟩
  · intro as σ0 hp n pc st ls σ hH hI
    match as, hp, hI with
    | [.inr (.inr (.inl (k, 0, 5))), .inr (.inr (.inl (q1, 0, 2)))], hp, hI => exact False.elim hI
theorem tr_up {f g : Nat → Int} {n : Nat} {v : Int} (h : ∀ j, g j = if j = n then v else f j) : tr (n + 1) g = va_up (tr n f) n v := by
  funext j
  by_cases e : j = n
  · rw [e, vu_at, tr_in (by omega), h, if_pos rfl]
  · rw [vu_ne e]
    unfold tr
    by_cases z : j < n
    · rw [if_pos z, if_pos (by omega), h, if_neg e]
    · rw [if_neg z, if_neg (by omega)]
theorem tr_same {f : Nat → Int} {n : Nat} (h : f n = 0) : tr (n + 1) f = tr n f := by
  funext j
  unfold tr
  by_cases e : j = n
  · rw [e, if_pos (by omega), if_neg (by omega), h]
  · by_cases z : j < n
    · rw [if_pos z, if_pos (by omega)]
    · rw [if_neg z, if_neg (by omega)]
theorem per_DX {σ τ : Hp} {f n : Nat} {w h c o a : Int} (hD : DX σ f) (hN : σ f 9 < 6) (hτ : ∀ x, ¬ x = f → ¬ x = f + 1 → ¬ x = f + 2 → ¬ x = f + 3 → ¬ x = f + 5 → ¬ x = f + 6 → τ x = σ x)
    (hf : ∀ j, τ f j = if j = 9 then σ f 9 + 1 else if j = 11 then σ f 11 + n else σ f j) (h1 : ∀ j, τ (f + 1) j = if j = (σ f 9).toNat then w else σ (f + 1) j) (h2 : ∀ j, τ (f + 2) j = if j = (σ f 9).toNat then h else σ (f + 2) j) (h3 : ∀ j, τ (f + 3) j = if j = (σ f 9).toNat then c else σ (f + 3) j)
    (h5 : ∀ j, τ (f + 5) j = if j = (σ f 9).toNat then o else σ (f + 5) j) (h6 : ∀ j, τ (f + 6) j = if j = (σ f 9).toNat then a else σ (f + 6) j) (hok : okPS (adP (psX σ f) w h c o a n)) : psX τ f = adP (psX σ f) w h c o a n ∧ DX τ f := by
  have e9 : τ f 9 = σ f 9 + 1 := by rw [hf]; simp
  have e10 : τ f 10 = σ f 10 := by rw [hf]; simp
  have e11 : τ f 11 = σ f 11 + n := by rw [hf]; simp
  have e12 : τ f 12 = σ f 12 := by rw [hf]; simp
  have e13 : τ f 13 = σ f 13 := by rw [hf]; simp
  have e15 : τ f 15 = σ f 15 := by rw [hf]; simp
  have e16 : τ f 16 = σ f 16 := by rw [hf]; simp
  have e4 : τ (f + 4) = σ (f + 4) := hτ _ (by omega) (by omega) (by omega) (by omega) (by omega) (by omega)
  have w8 := fmX_eq (σ := σ) (σ' := τ) (g := f + 8) (hτ _ (by omega) (by omega) (by omega) (by omega) (by omega) (by omega)) (hτ _ (by omega) (by omega) (by omega) (by omega) (by omega) (by omega))
  have w12 := fmX_eq (σ := σ) (σ' := τ) (g := f + 12) (hτ _ (by omega) (by omega) (by omega) (by omega) (by omega) (by omega)) (hτ _ (by omega) (by omega) (by omega) (by omega) (by omega) (by omega))
  obtain ⟨q1, q2, q3, q4, q5, q6, q7⟩ := hD
  have eN : (σ f 9 + 1).toNat = (σ f 9).toNat + 1 := by omega
  have ep : psX τ f = adP (psX σ f) w h c o a n := by
    unfold psX adP
    rw [e9, eN, tr_up h1, tr_up h2, tr_up h3, tr_up h5, tr_up h6, e4, tr_same (q3 4 (by omega) (by omega) (σ f 9).toNat (Nat.le_refl _) (by omega)), e10, e11, e12, e13, e15, e16, w8.1, w12.1, show (σ f 11 + (n : Int)).toNat = (σ f 11).toNat + n by omega]
  refine ⟨ep, by rw [ep]; exact hok, by rw [e9, e10, e11]; omega, fun d d1 d2 j j1 j2 => ?_, by rw [e15, e12]; exact q4, by rw [e16, e13]; exact q5, w8.2 q6, w12.2 q7⟩
  rw [e9, eN] at j1
  have hz := q3 d d1 d2 j (by omega) j2
  rcases (show d = 2 ∨ d = 3 ∨ d = 4 ∨ d = 5 ∨ d = 6 by omega) with rfl | rfl | rfl | rfl | rfl
  · rw [h2, if_neg (by omega)]; exact hz
  · rw [h3, if_neg (by omega)]; exact hz
  · rw [e4]; exact hz
  · rw [h5, if_neg (by omega)]; exact hz
  · rw [h6, if_neg (by omega)]; exact hz
theorem frm {f : Nat} {σ σ' : Hp} (h : Fr (fcs f) σ σ') : Fr (1 :: fcs f) σ σ' := h.mono (fun _ hc => List.mem_cons_of_mem _ hc)
def Rd_readPerson_pre (k f : Nat) (σ : Hp) : Prop := k = 1 ∧ LPr f σ
def Rd_readPerson_post (_k f : Nat) (σ : Hp) (r : Int) (σ' : Hp) : Prop := LO (lnP (tpX σ) (Sp σ) (psX σ f)) f σ r σ'
def Rd_readPerson_bk : List (Nat × List Item) := [(0, [(.aload_n 1, 1, [], []), (.getfield 92, 3, [1, 9, 0, 0, 0, 0], []), (.istore_n 2, 1, [], []), (.iload_n 2, 1, [], []), (.bipush 6, 2, [], []), (.if_icmp .lt 8, 3, [16], []), (.aload_n 0, 1, [], []), (.invokevirtual 56, 3, [0], []), (.ireturn, 1, [], [])]),
  (16, [(.aload_n 0, 1, [], []), (.invokevirtual 33, 3, [1], []), (.aload_n 0, 1, [], []), (.invokevirtual 95, 3, [2], []), (.ifCond .ne 8, 3, [32], []), (.aload_n 0, 1, [], []), (.invokevirtual 56, 3, [0], []), (.ireturn, 1, [], [])]),
  (32, [(.aload_n 0, 1, [], []), (.aload_n 1, 1, [], []), (.invokevirtual 98, 3, [3], []), (.iconst (-1), 1, [], []), (.if_icmp .eq 9, 3, [47], []), (.aload_n 0, 1, [], []), (.iconst 3, 1, [], []), (.invokevirtual 102, 3, [4], []), (.ireturn, 1, [], [])]),
  (47, [(.aload_n 1, 1, [], []), (.getfield 106, 3, [1, 0, 4, 1, 4, 6], []), (.iload_n 2, 1, [], []), (.aload_n 0, 1, [], []), (.getfield 60, 3, [5, 7, 2, 0, 0, 0], []), (.lastore, 1, [], []), (.aload_n 1, 1, [], []), (.iload_n 2, 1, [], []), (.iconst 1, 1, [], []), (.iadd, 1, [], []), (.putfield 92, 3, [1, 9, 0, 0, 0, 0], []), (.aload_n 0, 1, [], []), (.invokevirtual 33, 3, [1], []), (.aload_n 1, 1, [], []), (.getfield 110, 3, [1, 1, 4, 2, 1, 6], []), (.iload_n 2, 1, [], []), (.aload_n 0, 1, [], []), (.ldc2_w 114, 3, [], [(28518, 0)]), (.iconst 0, 1, [], []), (.iconst 1, 1, [], []), (.invokevirtual 116, 3, [5], []), (.iastore, 1, [], []), (.aload_n 0, 1, [], []), (.getfield 27, 3, [5, 2, 0, 0, 0, 0], []), (.ifCond .eq 5, 3, [92], []), (.iconst 0, 1, [], []), (.ireturn, 1, [], [])]),
  (92, [(.aload_n 1, 1, [], []), (.getfield 120, 3, [1, 2, 4, 3, 1, 6], []), (.iload_n 2, 1, [], []), (.aload_n 0, 1, [], []), (.ldc2_w 123, 3, [], [(426836649331, 0)]), (.iconst 0, 1, [], []), (.bipush 99, 2, [], []), (.invokevirtual 116, 3, [5], []), (.iastore, 1, [], []), (.aload_n 0, 1, [], []), (.getfield 27, 3, [5, 2, 0, 0, 0, 0], []), (.ifCond .eq 5, 3, [117], []), (.iconst 0, 1, [], []), (.ireturn, 1, [], [])]),
  (117, [(.aload_n 0, 1, [], []), (.ldc2_w 125, 3, [], [(1852143475, 0)]), (.invokevirtual 127, 3, [6], []), (.ifCond .ne 10, 3, [134], []), (.aload_n 0, 1, [], []), (.bipush 59, 2, [], []), (.invokevirtual 131, 3, [7], []), (.ireturn, 1, [], [])]),
  (134, [(.aload_n 1, 1, [], []), (.getfield 135, 3, [1, 11, 0, 0, 0, 0], []), (.iconst 4, 1, [], []), (.if_icmp .lt 8, 3, [147], []), (.aload_n 0, 1, [], []), (.invokevirtual 56, 3, [0], []), (.ireturn, 1, [], [])]),
  (147, [(.aload_n 1, 1, [], []), (.dup, 1, [], []), (.getfield 135, 3, [1, 11, 0, 0, 0, 0], []), (.iconst 1, 1, [], []), (.iadd, 1, [], []), (.putfield 135, 3, [1, 11, 0, 0, 0, 0], []), (.aload_n 1, 1, [], []), (.getfield 138, 3, [1, 4, 4, 5, 1, 6], []), (.iload_n 2, 1, [], []), (.aload_n 0, 1, [], []), (.ldc2_w 125, 3, [], [(1852143475, 0)]), (.iconst 0, 1, [], []), (.bipush 100, 2, [], []), (.invokevirtual 116, 3, [5], []), (.iastore, 1, [], []), (.aload_n 0, 1, [], []), (.getfield 27, 3, [5, 2, 0, 0, 0, 0], []), (.ifCond .eq 5, 3, [182], []), (.iconst 0, 1, [], []), (.ireturn, 1, [], [])]),
  (182, [(.aload_n 1, 1, [], []), (.getfield 141, 3, [1, 5, 4, 6, 1, 6], []), (.iload_n 2, 1, [], []), (.aload_n 0, 1, [], []), (.ldc2_w 114, 3, [], [(28518, 0)]), (.iconst 1, 1, [], []), (.bipush 20, 2, [], []), (.invokevirtual 116, 3, [5], []), (.iastore, 1, [], []), (.aload_n 0, 1, [], []), (.getfield 27, 3, [5, 2, 0, 0, 0, 0], []), (.ifCond .ne 16, 3, [218], []), (.aload_n 0, 1, [], []), (.bipush 59, 2, [], []), (.invokevirtual 131, 3, [7], []), (.ifCond .eq 7, 3, [218], []), (.iconst 1, 1, [], []), (.goto 4, 3, [219], [])]),
  (218, [(.iconst 0, 1, [], [])]),
  (219, [(.ireturn, 1, [], [])])]
def Rd_readPerson_cl : List (Instr × Nat) := [(.invokevirtual 56, 0), (.invokevirtual 33, 1), (.invokevirtual 95, 2), (.invokevirtual 98, 3), (.invokevirtual 102, 4), (.invokevirtual 116, 5), (.invokevirtual 127, 6), (.invokevirtual 131, 7)]
set_option maxRecDepth 20000 in
theorem Rd_readPerson_ck : Rd_readPerson_bk.all (fun b => ax_chB 5 3 cX5_readPerson Rd_readPerson_cl b.1 b.2) = true := by decide +kernel
def Rd_readPerson_cs : Ct := (2, 6, 2, (0, 0), fun as σ => (match as with
    | [.inr (.inr (.inl (k, 0, 5))), .inr (.inr (.inl (q1, 0, 1)))] => Rd_readPerson_pre k q1 σ
    | _ => False), fun as σ r σ' => (match as with
    | [.inr (.inr (.inl (k, 0, 5))), .inr (.inr (.inl (q1, 0, 1)))] => Rd_readPerson_post k q1 σ r σ'
    | _ => False))
theorem Rd_readPerson_w : ∀ w ∈ ([.instanceMethod yX5_readPerson, .selects yX5_readPerson.cls yX5_readPerson yX5_readPerson, .initialized yX5_readPerson.cls, .code yX5_readPerson cX5_readPerson 3 (some .boolean)] : List Cond), w ∈ ax_tb := ax_w4 (ax_m3 47 (by decide +kernel) rfl) (ax_m3 48 (by decide +kernel) rfl) (ax_m1 2 (by decide +kernel) rfl) (ax_m3 49 (by decide +kernel) rfl)
theorem Rd_readPerson_ds : yX5_readPerson.cls ≠ "java/lang/invoke/MethodHandle" ∧ yX5_readPerson.cls ≠ "java/lang/invoke/VarHandle" ∧ (parseMethodDescriptor yX5_readPerson.desc).map (fun d => d.parameters.length) = some 1 := by decide +kernel
def Rd_readPerson_vc : Prop := ∀ (k : Nat) (q1 : Nat) (σ : Hp), ax_H σ → Rd_readPerson_pre k q1 σ →
  (σ q1 9 < 6 →
    Rd_advance_pre k σ ∧
    ∀ σ1 : Hp, Rd_advance_post k σ σ1 →
    Rd_isName_pre k σ1 ∧
    ∀ (r3 : Int) (σ2 : Hp), Rd_isName_post k σ1 r3 σ2 →
    (¬ r3 = 0 →
      Rd_findPerson_pre k q1 σ2 ∧
      ∀ (r5 : Int) (σ4 : Hp), Rd_findPerson_post k q1 σ2 r5 σ4 →
      (r5 = (-1) →
        (0 ≤ σ q1 9 ∧ σ q1 9 < 6) ∧
        ∀ σ6 : Hp, σ6 = hp σ4 (q1 + 1) (σ q1 9).toNat (σ4 k 7) →
        ∀ σ7 : Hp, σ7 = hp σ6 q1 9 (wr ((σ q1 9) + 1)) →
        Rd_advance_pre k σ7 ∧
        ∀ σ8 : Hp, Rd_advance_post k σ7 σ8 →
        Rd_readNumber_pre k 28518 0 1 σ8 ∧
        ∀ (r10 : Int) (σ9 : Hp), Rd_readNumber_post k 28518 0 1 σ8 r10 σ9 →
        (0 ≤ σ q1 9 ∧ σ q1 9 < 6) ∧
        ∀ σ11 : Hp, σ11 = hp σ9 (q1 + 2) (σ q1 9).toNat r10 →
        (σ11 k 2 = 0 →
          Rd_readNumber_pre k 426836649331 0 99 σ11 ∧
          ∀ (r13 : Int) (σ12 : Hp), Rd_readNumber_post k 426836649331 0 99 σ11 r13 σ12 →
          (0 ≤ σ q1 9 ∧ σ q1 9 < 6) ∧
          ∀ σ14 : Hp, σ14 = hp σ12 (q1 + 3) (σ q1 9).toNat r13 →
          (σ14 k 2 = 0 →
            Rd_isWord_pre k 1852143475 σ14 ∧
            ∀ (r16 : Int) (σ15 : Hp), Rd_isWord_post k 1852143475 σ14 r16 σ15 →
            (¬ r16 = 0 →
              (σ15 q1 11 < 4 →
                ∀ σ17 : Hp, σ17 = hp σ15 q1 11 (wr ((σ15 q1 11) + 1)) →
                Rd_readNumber_pre k 1852143475 0 100 σ17 ∧
                ∀ (r19 : Int) (σ18 : Hp), Rd_readNumber_post k 1852143475 0 100 σ17 r19 σ18 →
                (0 ≤ σ q1 9 ∧ σ q1 9 < 6) ∧
                ∀ σ20 : Hp, σ20 = hp σ18 (q1 + 5) (σ q1 9).toNat r19 →
                (σ20 k 2 = 0 →
                  Rd_readNumber_pre k 28518 1 20 σ20 ∧
                  ∀ (r22 : Int) (σ21 : Hp), Rd_readNumber_post k 28518 1 20 σ20 r22 σ21 →
                  (0 ≤ σ q1 9 ∧ σ q1 9 < 6) ∧
                  ∀ σ23 : Hp, σ23 = hp σ21 (q1 + 6) (σ q1 9).toNat r22 →
                  (¬ σ23 k 2 = 0 →
                    ((0 : Int) = 0 ∨ (0 : Int) = 1) ∧ Rd_readPerson_post k q1 σ 0 σ23) ∧
                  (¬ (¬ σ23 k 2 = 0) →
                    Rd_readSign_pre k 59 σ23 ∧
                    ∀ (r25 : Int) (σ24 : Hp), Rd_readSign_post k 59 σ23 r25 σ24 →
                    (r25 = 0 →
                      ((0 : Int) = 0 ∨ (0 : Int) = 1) ∧ Rd_readPerson_post k q1 σ 0 σ24) ∧
                    (¬ (r25 = 0) →
                      ((1 : Int) = 0 ∨ (1 : Int) = 1) ∧ Rd_readPerson_post k q1 σ 1 σ24))) ∧
                (¬ (σ20 k 2 = 0) →
                  ((0 : Int) = 0 ∨ (0 : Int) = 1) ∧ Rd_readPerson_post k q1 σ 0 σ20)) ∧
              (¬ (σ15 q1 11 < 4) →
                Rd_refuse_pre k σ15 ∧
                ∀ (r27 : Int) (σ26 : Hp), Rd_refuse_post k σ15 r27 σ26 →
                (r27 = 0 ∨ r27 = 1) ∧ Rd_readPerson_post k q1 σ r27 σ26)) ∧
            (¬ (¬ r16 = 0) →
              Rd_readSign_pre k 59 σ15 ∧
              ∀ (r29 : Int) (σ28 : Hp), Rd_readSign_post k 59 σ15 r29 σ28 →
              (r29 = 0 ∨ r29 = 1) ∧ Rd_readPerson_post k q1 σ r29 σ28)) ∧
          (¬ (σ14 k 2 = 0) →
            ((0 : Int) = 0 ∨ (0 : Int) = 1) ∧ Rd_readPerson_post k q1 σ 0 σ14)) ∧
        (¬ (σ11 k 2 = 0) →
          ((0 : Int) = 0 ∨ (0 : Int) = 1) ∧ Rd_readPerson_post k q1 σ 0 σ11)) ∧
      (¬ (r5 = (-1)) →
        Rd_fail_pre k 3 σ4 ∧
        ∀ (r31 : Int) (σ30 : Hp), Rd_fail_post k 3 σ4 r31 σ30 →
        (r31 = 0 ∨ r31 = 1) ∧ Rd_readPerson_post k q1 σ r31 σ30)) ∧
    (¬ (¬ r3 = 0) →
      Rd_refuse_pre k σ2 ∧
      ∀ (r33 : Int) (σ32 : Hp), Rd_refuse_post k σ2 r33 σ32 →
      (r33 = 0 ∨ r33 = 1) ∧ Rd_readPerson_post k q1 σ r33 σ32)) ∧
  (¬ (σ q1 9 < 6) →
    Rd_refuse_pre k σ ∧
    ∀ (r35 : Int) (σ34 : Hp), Rd_refuse_post k σ r35 σ34 →
    (r35 = 0 ∨ r35 = 1) ∧ Rd_readPerson_post k q1 σ r35 σ34)
theorem Rd_readPerson_p : Rd_readPerson_vc := by
  intro k f σ hH hp
  obtain ⟨rfl, hf, hD, hR, h2⟩ := hp
  have hfn := FO_ne hf
  have hn := hD.n
  have un : Rd_readPerson_post 1 f σ = LO (lnP (tpX σ) (Sp σ) (psX σ f)) f σ := rfl
  rw [un]
  generalize hB : tpX σ = B at *
  generalize hp0 : Sp σ = p at *
  generalize hlq : lnP B p (psX σ f) = lq at *
  unfold lnP at hlq
  refine ⟨fun h => ⟨hR.adv.1, ?_⟩, fun h => ⟨rfl, ?_⟩⟩
  · rw [if_neg (by omega)] at hlq
    intro σ1 g1
    obtain ⟨a1, a2, a3, a4, R1⟩ := hR.adv.2 σ1 g1
    have c1 : ∀ c, f ≤ c → c < f + 16 → σ1 c = σ c := fun c _ _ => a1 c (by simp; omega)
    have P1 := psX_eq c1
    refine ⟨rfl, ?_⟩
    rintro r3 σ2 ⟨rfl, h3⟩
    refine ⟨fun h4 => ⟨⟨rfl, by rw [c1 f (by omega) (by omega)]; exact hn.1, by rw [c1 f (by omega) (by omega)]; exact hn.2.1⟩, ?_⟩, fun h4 => ⟨rfl, ?_⟩⟩
    · have hnm : nmB B (tN B p) := by
        rcases h3 with ⟨-, z⟩ | ⟨z, -⟩
        · exact R1.nm.mp z
        · exact absurd z h4
      rw [if_neg (fun z => z hnm)] at hlq
      rintro r5 σ4 ⟨rfl, h5⟩
      have hv := find_X R1 hnm.1 h5
      rw [P1.1] at hv
      refine ⟨fun h6 => ⟨⟨hn.1, h⟩, ?_⟩, fun h6 => ⟨rfl, ?_⟩⟩
      · have hfi : ¬ 0 ≤ fI (pNm (psX σ f)) (tV B (tN B p)) (pN (psX σ f)) := by omega
        rw [if_neg hfi] at hlq
        have hw : σ4 1 7 = tV B (tN B p) := R1.2.2.2.2.2.2.1 hnm.1
        rw [hw]
        rintro σ6 rfl
        rw [wr1 (by omega) (by omega)]
        rintro σ7 hσ7
        have f7 : Fr (fcs f) σ4 σ7 := by
          rw [hσ7]
          exact Fr.hp (Fr.hp Fr.rf (fcs_m.mpr ⟨by omega, by omega⟩)) (fcs_m.mpr ⟨by omega, by omega⟩)
        have R7 := R1.off hf f7
        refine ⟨R7.adv.1, ?_⟩
        intro σ8 g8
        obtain ⟨b1, b2, b3, b4, R8⟩ := R7.adv.2 σ8 g8
        have o7 := off1 hf f7
        have fr8 : Fr (1 :: fcs f) σ σ8 := ((Fr1f a1).tr (frm f7)).tr (Fr1f b1)
        have e8 : σ8 1 1 = σ 1 1 := by rw [b2, o7, a2]
        have t8 : Fr [1] (hp (hp σ (f + 1) (σ f 9).toNat (tV B (tN B p))) f 9 (σ f 9 + 1)) σ8 := by
          refine Fr.tr ?_ b1
          rw [hσ7]; exact Fr1.hp (Fr1.hp a1)
        have z8 : σ8 1 2 = 0 := by rw [b3, o7, a3]; exact h2
        have y8 : σ8 1 3 = σ 1 3 := by rw [b4, o7, a4]
        refine ⟨⟨rfl, _, _, R8⟩, ?_⟩
        intro r10 σ9 h9
        have h9 := h9 _ _ R8
        refine ⟨⟨hn.1, h⟩, ?_⟩
        rintro σ11 rfl
        have f11 : Fr (fcs f) σ9 (hp σ9 (f + 2) (σ f 9).toNat r10) := Frf (by omega) (by omega)
        have o11 := off1 hf f11
        cases hn1 : nmrO B (tN B (tN B p)) 28518 0 1 with
        | inl x =>
          rw [hn1] at h9 hlq
          have h9 : Fl σ8 σ9 B x.1 x.2 := h9
          rw [o11]
          refine ⟨fun z => absurd (h9.2.2.1.symm.trans z) (nmrO_0 hn1), fun _ => ⟨Or.inl rfl, ?_⟩⟩
          rw [← hlq]
          have := LO.fl2 (f := f) (c := x.1) (p := x.2) fr8 e8 (by rw [hB]; exact h9) f11 hf
          exact this
        | inr x1 =>
          rw [hn1] at h9 hlq
          rw [oB_r] at hlq
          obtain ⟨i1, i2, i3, i4, i5, R9⟩ := h9
          subst i1
          have fr11 : Fr (1 :: fcs f) σ (hp σ9 (f + 2) (σ f 9).toNat x1.1) := (fr8.tr (Fr1f i2)).tr (frm f11)
          have e11 : hp σ9 (f + 2) (σ f 9).toNat x1.1 1 1 = σ 1 1 := by rw [o11, i3, e8]
          have z11 : hp σ9 (f + 2) (σ f 9).toNat x1.1 1 2 = 0 := by rw [o11, i4, z8]
          have y11 : hp σ9 (f + 2) (σ f 9).toNat x1.1 1 3 = σ 1 3 := by rw [o11, i5, y8]
          have t11 := Fr1.hp (k := f + 2) (j := (σ f 9).toNat) (v := x1.1) (t8.tr i2)
          have R11 := R9.off hf f11
          generalize hp σ9 (f + 2) (σ f 9).toNat x1.1 = σ11 at *
          refine ⟨fun _ => ⟨⟨rfl, _, _, R11⟩, ?_⟩, fun z => absurd z11 z⟩
          intro r13 σ12 h12
          have h12 := h12 _ _ R11
          refine ⟨⟨hn.1, h⟩, ?_⟩
          rintro σ14 rfl
          have f14 : Fr (fcs f) σ12 (hp σ12 (f + 3) (σ f 9).toNat r13) := Frf (by omega) (by omega)
          have o14 := off1 hf f14
          cases hn2 : nmrO B x1.2 426836649331 0 99 with
          | inl x =>
            rw [hn2] at h12 hlq
            have h12 : Fl σ11 σ12 B x.1 x.2 := h12
            rw [o14]
            refine ⟨fun z => absurd (h12.2.2.1.symm.trans z) (nmrO_0 hn2), fun _ => ⟨Or.inl rfl, ?_⟩⟩
            rw [← hlq]
            exact LO.fl2 (f := f) (c := x.1) (p := x.2) fr11 e11 (by rw [hB]; exact h12) f14 hf
          | inr x2 =>
            rw [hn2] at h12 hlq
            rw [oB_r] at hlq
            obtain ⟨i1, i2, i3, i4, i5, R12⟩ := h12
            subst i1
            have fr14 : Fr (1 :: fcs f) σ (hp σ12 (f + 3) (σ f 9).toNat x2.1) := (fr11.tr (Fr1f i2)).tr (frm f14)
            have e14 : hp σ12 (f + 3) (σ f 9).toNat x2.1 1 1 = σ 1 1 := by rw [o14, i3, e11]
            have z14 : hp σ12 (f + 3) (σ f 9).toNat x2.1 1 2 = 0 := by rw [o14, i4, z11]
            have y14 : hp σ12 (f + 3) (σ f 9).toNat x2.1 1 3 = σ 1 3 := by rw [o14, i5, y11]
            have t14 := Fr1.hp (k := f + 3) (j := (σ f 9).toNat) (v := x2.1) (t11.tr i2)
            have R14 := R12.off hf f14
            generalize hp σ12 (f + 3) (σ f 9).toNat x2.1 = σ14 at *
            refine ⟨fun _ => ⟨rfl, ?_⟩, fun z => absurd z14 z⟩
            rintro r16 σ15 ⟨rfl, rfl⟩
            have q11 : σ15 f 11 = σ f 11 := by
              rw [t14 f (by simp; omega), hp_ne (by omega), hp_ne (by omega), hp_r2 (by omega), hp_ne (by omega)]
            have pn : pNn (psX σ f) = (σ f 11).toNat := rfl
            have hk11 := hD.2.1.2.2
            refine ⟨fun h16 => ?_, fun h16 => ⟨⟨rfl, _, _, R14⟩, ?_⟩⟩
            · have hwd : tK B x2.2 = 1 ∧ tV B x2.2 = 1852143475 := (R14.wd 1852143475).mp (Classical.byContradiction fun z => h16 (if_neg z))
              rw [if_pos hwd] at hlq
              rw [q11]
              refine ⟨fun h17 => ?_, fun h17 => ⟨rfl, ?_⟩⟩
              · rw [if_neg (by omega)] at hlq
                rw [wr1 (by omega) (by omega)]
                rintro σ17 rfl
                have f17 : Fr (fcs f) σ15 (hp σ15 f 11 (σ f 11 + 1)) := Frf (by omega) (by omega)
                have o17 := off1 hf f17
                have fr17 := fr14.tr (frm f17)
                have e17 : hp σ15 f 11 (σ f 11 + 1) 1 1 = σ 1 1 := by rw [o17, e14]
                have z17 : hp σ15 f 11 (σ f 11 + 1) 1 2 = 0 := by rw [o17, z14]
                have y17 : hp σ15 f 11 (σ f 11 + 1) 1 3 = σ 1 3 := by rw [o17, y14]
                have t17 := Fr1.hp (k := f) (j := 11) (v := σ f 11 + 1) t14
                have R17 := R14.off hf f17
                generalize hp σ15 f 11 (σ f 11 + 1) = σ17 at *
                refine ⟨⟨rfl, _, _, R17⟩, ?_⟩
                intro r19 σ18 h18
                have h18 := h18 _ _ R17
                refine ⟨⟨hn.1, h⟩, ?_⟩
                rintro σ20 rfl
                have f20 : Fr (fcs f) σ18 (hp σ18 (f + 5) (σ f 9).toNat r19) := Frf (by omega) (by omega)
                have o20 := off1 hf f20
                cases hn3 : nmrO B x2.2 1852143475 0 100 with
                | inl x =>
                  rw [hn3] at h18 hlq
                  have h18 : Fl σ17 σ18 B x.1 x.2 := h18
                  rw [o20]
                  refine ⟨fun z => absurd (h18.2.2.1.symm.trans z) (nmrO_0 hn3), fun _ => ⟨Or.inl rfl, ?_⟩⟩
                  rw [← hlq]
                  exact LO.fl2 (f := f) (c := x.1) (p := x.2) fr17 e17 (by rw [hB]; exact h18) f20 hf
                | inr x3 =>
                  rw [hn3] at h18 hlq
                  rw [oB_r] at hlq
                  obtain ⟨i1, i2, i3, i4, i5, R18⟩ := h18
                  subst i1
                  have fr20 : Fr (1 :: fcs f) σ (hp σ18 (f + 5) (σ f 9).toNat x3.1) := (fr17.tr (Fr1f i2)).tr (frm f20)
                  have e20 : hp σ18 (f + 5) (σ f 9).toNat x3.1 1 1 = σ 1 1 := by rw [o20, i3, e17]
                  have z20 : hp σ18 (f + 5) (σ f 9).toNat x3.1 1 2 = 0 := by rw [o20, i4, z17]
                  have y20 : hp σ18 (f + 5) (σ f 9).toNat x3.1 1 3 = σ 1 3 := by rw [o20, i5, y17]
                  have t20 := Fr1.hp (k := f + 5) (j := (σ f 9).toNat) (v := x3.1) (t17.tr i2)
                  have R20 := R18.off hf f20
                  generalize hp σ18 (f + 5) (σ f 9).toNat x3.1 = σ20 at *
                  refine ⟨fun _ => ⟨⟨rfl, _, _, R20⟩, ?_⟩, fun z => absurd z20 z⟩
                  intro r22 σ21 h21
                  have h21 := h21 _ _ R20
                  refine ⟨⟨hn.1, h⟩, ?_⟩
                  rintro σ23 rfl
                  have f23 : Fr (fcs f) σ21 (hp σ21 (f + 6) (σ f 9).toNat r22) := Frf (by omega) (by omega)
                  have o23 := off1 hf f23
                  cases hn4 : nmrO B x3.2 28518 1 20 with
                  | inl x =>
                    rw [hn4] at h21 hlq
                    have h21 : Fl σ20 σ21 B x.1 x.2 := h21
                    rw [o23]
                    refine ⟨fun _ => ⟨Or.inl rfl, ?_⟩, fun z => absurd (fun y => nmrO_0 hn4 (h21.2.2.1.symm.trans y)) z⟩
                    rw [← hlq]
                    exact LO.fl2 (f := f) (c := x.1) (p := x.2) fr20 e20 (by rw [hB]; exact h21) f23 hf
                  | inr x4 =>
                    rw [hn4] at h21 hlq
                    rw [oB_r] at hlq
                    obtain ⟨i1, i2, i3, i4, i5, R21⟩ := h21
                    subst i1
                    have fr23 : Fr (1 :: fcs f) σ (hp σ21 (f + 6) (σ f 9).toNat x4.1) := (fr20.tr (Fr1f i2)).tr (frm f23)
                    have e23 : hp σ21 (f + 6) (σ f 9).toNat x4.1 1 1 = σ 1 1 := by rw [o23, i3, e20]
                    have z23 : hp σ21 (f + 6) (σ f 9).toNat x4.1 1 2 = 0 := by rw [o23, i4, z20]
                    have y23 : hp σ21 (f + 6) (σ f 9).toNat x4.1 1 3 = σ 1 3 := by rw [o23, i5, y20]
                    have t23 := Fr1.hp (k := f + 6) (j := (σ f 9).toNat) (v := x4.1) (t20.tr i2)
                    have R23 := R21.off hf f23
                    generalize hp σ21 (f + 6) (σ f 9).toNat x4.1 = σ23 at *
                    refine ⟨fun z => absurd z23 z, fun _ => ⟨⟨rfl, _, _, R23⟩, ?_⟩⟩
                    intro r25 σ24 h24
                    have h24 := h24 _ _ R23
                    cases hs : sgnO B x4.2 59 with
                    | inl y =>
                      rw [hs] at h24 hlq
                      obtain ⟨k1, k2⟩ := h24
                      subst k1
                      refine ⟨fun _ => ⟨Or.inl rfl, ?_⟩, fun z => absurd rfl z⟩
                      rw [← hlq]
                      exact LO.fl2 (f := f) (c := y.1) (p := y.2) fr23 e23 (by rw [hB]; exact k2) Fr.rf hf
                    | inr y =>
                      rw [hs] at h24 hlq
                      obtain ⟨k1, k2, k3, k4, k5, k6⟩ := h24
                      subst k1
                      refine ⟨fun z => (by cases z), fun _ => ⟨Or.inr rfl, ?_⟩⟩
                      rw [← hlq]
                      have r4 := nmrO_R hn4
                      have hok : okPS (adP (psX σ f) (tV B (tN B p)) x1.1 x2.1 x3.1 x4.1 1) := ok_adP hD.1 (by omega) hfi (nmrO_R hn1) (nmrO_R hn2) (nmrO_R hn3) (by omega) (by omega) (fun _ => Nat.le_refl 1)
                      have DE := per_DX (f := f) hD h (τ := hp (hp (hp (hp (hp (hp (hp σ (f + 1) (σ f 9).toNat (tV B (tN B p))) f 9 (σ f 9 + 1)) (f + 2) (σ f 9).toNat x1.1) (f + 3) (σ f 9).toNat x2.1) f 11 (σ f 11 + 1)) (f + 5) (σ f 9).toNat x3.1) (f + 6) (σ f 9).toNat x4.1)
                        (n := 1) (fun x e0 e1 e2 e3 e5 e6 => by rw [hp_ne e6, hp_ne e5, hp_ne e0, hp_ne e3, hp_ne e2, hp_ne e0, hp_ne e1])
                        (fun j => by
                          rw [hp_ne (by omega), hp_ne (by omega), hp_f, hp_ne (by omega), hp_ne (by omega), hp_f, hp_ne (by omega)]
                          by_cases z9 : j = 9
                          · rw [if_neg (by omega), if_pos z9, if_pos z9]
                          · rw [if_neg z9, if_neg z9]; rfl)
                        (fun j => by rw [hp_ne (by omega), hp_ne (by omega), hp_ne (by omega), hp_ne (by omega), hp_ne (by omega), hp_ne (by omega), hp_f])
                        (fun j => by rw [hp_ne (by omega), hp_ne (by omega), hp_ne (by omega), hp_ne (by omega), hp_f, hp_ne (by omega), hp_ne (by omega)])
                        (fun j => by rw [hp_ne (by omega), hp_ne (by omega), hp_ne (by omega), hp_f, hp_ne (by omega), hp_ne (by omega), hp_ne (by omega)])
                        (fun j => by rw [hp_ne (by omega), hp_f, hp_ne (by omega), hp_ne (by omega), hp_ne (by omega), hp_ne (by omega), hp_ne (by omega)])
                        (fun j => by rw [hp_f, hp_ne (by omega), hp_ne (by omega), hp_ne (by omega), hp_ne (by omega), hp_ne (by omega), hp_ne (by omega)]) hok
                      have PE := psX_eq (f := f) (σ' := σ24) (fun c c1 c2 => (t23.tr k2) c (by simp; omega))
                      refine ⟨Or.inr rfl, fr23.tr (Fr1f k2), by rw [k3, e23], rfl, by rw [k4, z23], by rw [k5, y23], by rw [hB]; exact k6, PE.2 DE.2, by rw [PE.1]; exact DE.1⟩
              · rw [if_pos (by omega)] at hlq
                intro r27 σ26 h26
                obtain ⟨y1, y2⟩ := R14.rf h26
                subst y1
                refine ⟨Or.inl rfl, ?_⟩
                rw [← hlq]
                exact LO.fl2 (f := f) fr14 e14 (by rw [hB]; exact y2) Fr.rf hf
            · have hwd : ¬ (tK B x2.2 = 1 ∧ tV B x2.2 = 1852143475) := by
                intro z
                rw [if_pos ((R14.wd 1852143475).mpr z)] at h16
                exact h16 (by decide)
              rw [if_neg hwd] at hlq
              intro r29 σ28 h28
              have h28 := h28 _ _ R14
              cases hs : sgnO B x2.2 59 with
              | inl y =>
                rw [hs] at h28 hlq
                obtain ⟨k1, k2⟩ := h28
                subst k1
                refine ⟨Or.inl rfl, ?_⟩
                rw [← hlq]
                exact LO.fl2 (f := f) (c := y.1) (p := y.2) fr14 e14 (by rw [hB]; exact k2) Fr.rf hf
              | inr y =>
                rw [hs] at h28 hlq
                obtain ⟨k1, k2, k3, k4, k5, k6⟩ := h28
                subst k1
                refine ⟨Or.inr rfl, ?_⟩
                rw [← hlq]
                have hok : okPS (adP (psX σ f) (tV B (tN B p)) x1.1 x2.1 0 0 0) := ok_adP hD.1 (by omega) hfi (nmrO_R hn1) (nmrO_R hn2) (by omega) (by omega) hD.1.1.2.2 (fun z => absurd z (by decide))
                have zz := hD.2.2.1
                have DE := per_DX (f := f) hD h (τ := hp (hp (hp (hp σ (f + 1) (σ f 9).toNat (tV B (tN B p))) f 9 (σ f 9 + 1)) (f + 2) (σ f 9).toNat x1.1) (f + 3) (σ f 9).toNat x2.1)
                  (n := 0) (fun x e0 e1 e2 e3 e5 e6 => by rw [hp_ne e3, hp_ne e2, hp_ne e0, hp_ne e1])
                  (fun j => by
                    rw [hp_ne (by omega), hp_ne (by omega), hp_f, hp_ne (by omega)]
                    by_cases z9 : j = 9
                    · rw [if_pos z9, if_pos z9]
                    · rw [if_neg z9, if_neg z9]
                      by_cases z11 : j = 11
                      · rw [if_pos z11, z11]; simp
                      · rw [if_neg z11])
                  (fun j => by rw [hp_ne (by omega), hp_ne (by omega), hp_ne (by omega), hp_f])
                  (fun j => by rw [hp_ne (by omega), hp_f, hp_ne (by omega), hp_ne (by omega)])
                  (fun j => by rw [hp_f, hp_ne (by omega), hp_ne (by omega), hp_ne (by omega)])
                  (fun j => by
                    rw [hp_ne (by omega), hp_ne (by omega), hp_ne (by omega), hp_ne (by omega)]
                    by_cases e : j = (σ f 9).toNat
                    · rw [if_pos e, e]; exact zz 5 (by omega) (by omega) _ (Nat.le_refl _) (by omega)
                    · rw [if_neg e])
                  (fun j => by
                    rw [hp_ne (by omega), hp_ne (by omega), hp_ne (by omega), hp_ne (by omega)]
                    by_cases e : j = (σ f 9).toNat
                    · rw [if_pos e, e]; exact zz 6 (by omega) (by omega) _ (Nat.le_refl _) (by omega)
                    · rw [if_neg e]) hok
                have PE := psX_eq (f := f) (σ' := σ28) (fun c c1 c2 => (t14.tr k2) c (by simp; omega))
                refine ⟨Or.inr rfl, fr14.tr (Fr1f k2), by rw [k3, e14], rfl, by rw [k4, z14], by rw [k5, y14], by rw [hB]; exact k6, PE.2 DE.2, by rw [PE.1]; exact DE.1⟩
      · have hfi : 0 ≤ fI (pNm (psX σ f)) (tV B (tN B p)) (pN (psX σ f)) := by
          rcases fI_L (pNm (psX σ f)) (tV B (tN B p)) (pN (psX σ f)) with ⟨m, -, m2, -⟩ | ⟨m1, -⟩
          · omega
          · rw [← hv] at m1; exact absurd m1 h6
        rw [if_pos hfi] at hlq
        intro r31 σ30 h30
        obtain ⟨y1, y2⟩ := R1.fl h30
        subst y1
        refine ⟨Or.inl rfl, ?_⟩
        rw [← hlq]
        exact LO.fl2 (f := f) (Fr1f a1) a2 (by rw [hB]; exact y2) Fr.rf hf
    · have hnm : ¬ nmB B (tN B p) := by
        intro z
        rcases h3 with ⟨y, -⟩ | ⟨-, y⟩
        · exact h4 (by omega)
        · exact y (R1.nm.mpr z)
      rw [if_pos hnm] at hlq
      intro r33 σ32 h32
      obtain ⟨y1, y2⟩ := R1.rf h32
      subst y1
      refine ⟨Or.inl rfl, ?_⟩
      rw [← hlq]
      exact LO.fl2 (f := f) (Fr1f a1) a2 (by rw [hB]; exact y2) Fr.rf hf
  · rw [if_pos (by omega)] at hlq
    intro r35 σ34 h34
    obtain ⟨y1, y2⟩ := hR.rf h34
    subst y1
    refine ⟨Or.inl rfl, ?_⟩
    rw [← hlq]
    exact LO.fl2 (f := f) (Fr1f (Fr.rf (cs := [1]))) rfl (by rw [hB]; exact y2) Fr.rf hf
def Rd_readPerson_I : List AV → Hp → Nat → Nat → List AV → List AV → Hp → Prop := fun as σ0 pc n st ls σ => (match as with
    | [.inr (.inr (.inl (k, 0, 5))), .inr (.inr (.inl (q1, 0, 1)))] => False
    | _ => False)
def Rd_readPerson_ct : Nat → Ct := fun n => match n with
  | 0 => Rd_refuse_cs
  | 1 => Rd_advance_cs
  | 2 => Rd_isName_cs
  | 3 => Rd_findPerson_cs
  | 4 => Rd_fail_cs
  | 5 => Rd_readNumber_cs
  | 6 => Rd_isWord_cs
  | 7 => Rd_readSign_cs
  | _ => Rd_readPerson_cs
set_option maxRecDepth 20000 in
set_option maxHeartbeats 4000000 in
theorem Rd_readPerson_met {l : Launch} {D : va_G} {ad : Nat → Nat} {ca : Nat → ClassId} {L : Nat} {fx : Nat → Int} : ax_MC l D ad ca L fx yX5_readPerson cX5_readPerson 3 (some .boolean) 7 Rd_readPerson_cs := by
  refine ax_met (oc := 5) (ct := Rd_readPerson_ct) (calls := Rd_readPerson_cl) (bs := Rd_readPerson_bk) (cut := fun pc => false) (f := 12) (I := Rd_readPerson_I) (by decide) rfl rfl Rd_readPerson_ck (List.forall_mem_cons.mpr ⟨ax_cwV Rd_refuse_met (by decide) (by decide) rfl (by decide) rfl (ax_m3 37 (by decide +kernel) rfl) Rd_refuse_w rfl Rd_refuse_ds, List.forall_mem_cons.mpr ⟨ax_cwV Rd_advance_met (by decide) (by decide) rfl (by decide) rfl (ax_m2 166 (by decide +kernel) rfl) Rd_advance_w rfl Rd_advance_ds, List.forall_mem_cons.mpr ⟨ax_cwV Rd_isName_met (by decide) (by decide) rfl (by decide) rfl (ax_m3 50 (by decide +kernel) rfl) Rd_isName_w rfl Rd_isName_ds, List.forall_mem_cons.mpr ⟨ax_cwV Rd_findPerson_met (by decide) (by decide) rfl (by decide) rfl (ax_m3 56 (by decide +kernel) rfl) Rd_findPerson_w rfl Rd_findPerson_ds, List.forall_mem_cons.mpr ⟨ax_cwV Rd_fail_met (by decide) (by decide) rfl (by decide) rfl (ax_m3 41 (by decide +kernel) rfl) Rd_fail_w rfl Rd_fail_ds, List.forall_mem_cons.mpr ⟨ax_cwV Rd_readNumber_met (by decide) (by decide) rfl (by decide) rfl (ax_m3 61 (by decide +kernel) rfl) Rd_readNumber_w rfl Rd_readNumber_ds, List.forall_mem_cons.mpr ⟨ax_cwV Rd_isWord_met (by decide) (by decide) rfl (by decide) rfl (ax_m3 65 (by decide +kernel) rfl) Rd_isWord_w rfl Rd_isWord_ds, List.forall_mem_cons.mpr ⟨ax_cwV Rd_readSign_met (by decide) (by decide) rfl (by decide) rfl (ax_m3 71 (by decide +kernel) rfl) Rd_readSign_w rfl Rd_readSign_ds, fun _ h => absurd h List.not_mem_nil⟩⟩⟩⟩⟩⟩⟩⟩) ?_ ?_
  · intro as σ0 hp hH
    match as, hp with
    | [.inr (.inr (.inl (k, 0, 5))), .inr (.inr (.inl (q1, 0, 1)))], hp => exact ⟨rfl, Rd_readPerson_p k q1 σ0 hH hp⟩
  · intro as σ0 hp n pc st ls σ hH hI
    match as, hp, hI with
    | [.inr (.inr (.inl (k, 0, 5))), .inr (.inr (.inl (q1, 0, 1)))], hp, hI => exact False.elim hI

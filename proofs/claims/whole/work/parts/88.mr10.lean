-- THE MODEL'S READER: a line, its end; all lines
theorem told_num {σ0 σ4 σ6 : Hp} {w r : Int} {c d : Nat} {f : PS → Int → PS} (h0 : σ0 67 2 = 0) (M : MT σ0 (tpR σ0) (plM σ0)) (hcd : (c = 44 ∧ d = 39) ∨ (c = 45 ∧ d = 40)) (g : Mo_told_post 67 w 0 999 (hp σ0 67 c 1) r σ4) (hs : σ6 = hp σ4 67 d r) (hf : ∀ q v σ', PM σ0 q → 0 ≤ v → v ≤ 999 → (∀ x, (69 ≤ x ∧ x ≤ 72) ∨ (78 ≤ x ∧ x ≤ 84) → σ' x = σ0 x) → (∀ j, j = 22 ∨ (37 ≤ j ∧ j ≤ 45) → ¬ j = c → ¬ j = d → σ' 67 j = σ0 67 j) → σ' 67 c = 1 → σ' 67 d = v → PM σ' (f q v)) : LFr σ0 σ6 ∧ ∀ q, PM σ0 q → LOm σ0 σ6 (oB (nmrO (tpR σ0) (plM σ0) w 0 999) fun v => .inr (f q v.1, v.2)) := by
  have M3 : MT (hp σ0 67 c 1) (tpR σ0) (plM σ0) := M.keep (fun j j1 j2 => hp_r2 (fun z => by omega)) (hp_ne (by decide))
  have z3 : hp σ0 67 c 1 67 2 = 0 := by rw [hp_r2 (fun z => by omega)]; exact h0
  have R4 := (told_go (FM.ofM z3 M3) g).1
  have p67 : ∀ j, ¬ j = d → σ6 67 j = σ4 67 j := fun j hj => by rw [hs, hp_r2 (fun z => hj z.2)]
  have L3 : LFr σ0 (hp σ0 67 c 1) := LFr.hp ⟨Fr.rf, fun _ _ => rfl⟩ (by simp [rcs]) (fun _ z => by unfold rfx at z; omega)
  refine ⟨by rw [hs]; exact (L3.tr R4.lf).hp (by simp [rcs]) (fun _ z => by unfold rfx at z; omega), fun q hq => ?_⟩
  unfold LOm outM
  rcases told_out M3 z3 g with ⟨x, o1, o2, o3, o4⟩ | ⟨x, o1, o2, o3⟩
  · rw [o1]
    exact ⟨o2, o3, by rw [p67 2 (by omega)]; exact o4.1, by rw [p67 3 (by omega)]; exact o4.2⟩
  · rw [o1]
    have hR := nmrO_R o1
    refine ⟨⟨by rw [p67 2 (by omega)]; exact o3.1, by rw [p67 3 (by omega), o3.2.1, hp_r2 (fun z => by omega)], o3.2.2.keep (fun j j1 j2 => p67 j (by omega)) (by rw [hs, hp_ne (by decide)])⟩, ?_⟩
    refine hf q x.1 σ6 hq hR.1 hR.2 (fun y hy => ?_) (fun j hj h1 h2 => ?_) ?_ (by rw [hs, hp_r1]; exact o2)
    · rw [hs, hp_ne (by omega), R4.1 y (by simp; omega), hp_ne (by omega)]
    · rw [p67 j h2, R4.2 j (by omega) (by omega) (by omega) (by omega) (by omega) (by omega) (by omega), hp_r2 (fun z => h1 z.2)]
    · rw [p67 c (by omega), R4.2 c (by omega) (by omega) (by omega) (by omega) (by omega) (by omega) (by omega), hp_r1]
theorem adE_PM {σ0 : Hp} : ∀ q v σ', PM σ0 q → 0 ≤ v → v ≤ 999 → (∀ x, (69 ≤ x ∧ x ≤ 72) ∨ (78 ≤ x ∧ x ≤ 84) → σ' x = σ0 x) → (∀ j, j = 22 ∨ (37 ≤ j ∧ j ≤ 45) → ¬ j = 44 → ¬ j = 39 → σ' 67 j = σ0 67 j) → σ' 67 44 = 1 → σ' 67 39 = v → PM σ' (adE q v) := by
  intro q v σ' hq v0 v1 hc h67 h44 h39
  obtain ⟨k0, ⟨a1, a2, a3, a4⟩, ⟨b1, b2, b3, b4⟩, d1, d2, d3⟩ := hq
  refine ⟨⟨k0.1, fun y hy => by injection hy with hy; rw [← hy]; exact ⟨v0, v1⟩, k0.2.2⟩, ⟨by rw [h67 37 (by omega) (by decide) (by decide)]; exact a1, fun j hj => by rw [hc 69 (by omega), hc 80 (by omega), hc 81 (by omega), hc 82 (by omega), hc 83 (by omega), hc 84 (by omega)]; exact a2 j hj, by rw [h67 38 (by omega) (by decide) (by decide)]; exact a3, by rw [h67 41 (by omega) (by decide) (by decide)]; exact a4⟩, ⟨h44, h39, by rw [h67 45 (by omega) (by decide) (by decide)]; exact b3, by rw [h67 40 (by omega) (by decide) (by decide)]; exact b4⟩, FRs_eq d1 (by rw [hc 78 (by omega)]) (by rw [hc 72 (by omega)]) (fun j _ _ => ⟨by rw [hc 70 (by omega)], by rw [hc 71 (by omega)]⟩), FRs_eq d2 (by rw [hc 78 (by omega)]) (by rw [hc 72 (by omega)]) (fun j _ _ => ⟨by rw [hc 70 (by omega)], by rw [hc 71 (by omega)]⟩), by rw [h67 22 (by omega) (by decide) (by decide)]; exact d3⟩
theorem adD_PM {σ0 : Hp} : ∀ q v σ', PM σ0 q → 0 ≤ v → v ≤ 999 → (∀ x, (69 ≤ x ∧ x ≤ 72) ∨ (78 ≤ x ∧ x ≤ 84) → σ' x = σ0 x) → (∀ j, j = 22 ∨ (37 ≤ j ∧ j ≤ 45) → ¬ j = 45 → ¬ j = 40 → σ' 67 j = σ0 67 j) → σ' 67 45 = 1 → σ' 67 40 = v → PM σ' (adD q v) := by
  intro q v σ' hq v0 v1 hc h67 h45 h40
  obtain ⟨k0, ⟨a1, a2, a3, a4⟩, ⟨b1, b2, b3, b4⟩, d1, d2, d3⟩ := hq
  refine ⟨⟨k0.1, k0.2.1, fun y hy => by injection hy with hy; rw [← hy]; exact ⟨v0, v1⟩, k0.2.2.2⟩, ⟨by rw [h67 37 (by omega) (by decide) (by decide)]; exact a1, fun j hj => by rw [hc 69 (by omega), hc 80 (by omega), hc 81 (by omega), hc 82 (by omega), hc 83 (by omega), hc 84 (by omega)]; exact a2 j hj, by rw [h67 38 (by omega) (by decide) (by decide)]; exact a3, by rw [h67 41 (by omega) (by decide) (by decide)]; exact a4⟩, ⟨by rw [h67 44 (by omega) (by decide) (by decide)]; exact b1, by rw [h67 39 (by omega) (by decide) (by decide)]; exact b2, h45, h40⟩, FRs_eq d1 (by rw [hc 78 (by omega)]) (by rw [hc 72 (by omega)]) (fun j _ _ => ⟨by rw [hc 70 (by omega)], by rw [hc 71 (by omega)]⟩), FRs_eq d2 (by rw [hc 78 (by omega)]) (by rw [hc 72 (by omega)]) (fun j _ _ => ⟨by rw [hc 70 (by omega)], by rw [hc 71 (by omega)]⟩), by rw [h67 22 (by omega) (by decide) (by decide)]; exact d3⟩
theorem PM_n {σ : Hp} {q : PS} (h : PM σ q) : (σ 67 44 = 0 ↔ ¬ (pEa q).isSome = true) ∧ (σ 67 45 = 0 ↔ ¬ (pDr q).isSome = true) := by
  obtain ⟨-, -, ⟨b1, b2, b3, b4⟩, -⟩ := h
  refine ⟨⟨fun z => ?_, fun z => ?_⟩, ⟨fun z => ?_, fun z => ?_⟩⟩
  · rw [b1] at z; exact ite0 z
  · rw [b1, if_neg z]
  · rw [b3] at z; exact ite0 z
  · rw [b3, if_neg z]
theorem Mo_readLine_p106 : Mo_readLine_vc106 := by
  intro k σ0 hp0 n σ hH hI
  obtain ⟨rfl, h0, M, hq⟩ := hp0
  obtain ⟨rfl, rfl, c1, c2, c3, c4⟩ := hI
  refine ⟨rfl, ?_⟩
  rintro r2 σ1 ⟨rfl, rfl⟩
  refine ⟨fun h => ⟨5, by decide, rfl, rfl, rfl, c1, c2, c3, c4, fun z => ite0 h ((iw_m M _).mpr z.1)⟩, fun h => ⟨fun h6 => ⟨5, by decide, rfl, rfl, rfl, c1, c2, c3, c4, fun z => h6 z.2⟩, fun h6 => ⟨Or.inr rfl, ?_⟩⟩⟩
  have hw := (iw_m M _).mp (ite1 h)
  have h44 : σ1 67 44 = 0 := Classical.not_not.mp h6
  rintro σ3 rfl
  refine ⟨⟨rfl, FM.ofM (B := tpR σ1) (p := plM σ1) (by rw [hp_r2 (by decide)]; exact h0) (M.keep (fun j j1 j2 => hp_r2 (fun z => by omega)) (hp_ne (by decide)))⟩, fun r5 σ4 g σ6 hs => ?_⟩
  obtain ⟨g1, g2⟩ := told_num (f := adE) h0 M (Or.inl ⟨rfl, rfl⟩) g hs adE_PM
  refine ⟨3, by decide, rfl, to191 g1 g2 (fun q hq => ?_) hq⟩
  rw [ln_at hw, if_neg (by decide), if_neg (by decide), if_neg (by decide), if_neg (by decide), if_pos rfl]
  unfold lnE
  rw [if_neg ((PM_n hq).1.mp h44), oB_oB]
  rfl
theorem Mo_readLine_p146 : Mo_readLine_vc146 := by
  intro k σ0 hp0 n σ hH hI
  obtain ⟨rfl, h0, M, hq⟩ := hp0
  obtain ⟨rfl, rfl, c1, c2, c3, c4, c5⟩ := hI
  refine ⟨rfl, ?_⟩
  rintro r2 σ1 ⟨rfl, rfl⟩
  refine ⟨fun h => ⟨4, by decide, rfl, rfl, rfl, c1, c2, c3, c4, c5, fun z => ite0 h ((iw_m M _).mpr z.1)⟩, fun h => ⟨fun h6 => ⟨4, by decide, rfl, rfl, rfl, c1, c2, c3, c4, c5, fun z => h6 z.2⟩, fun h6 => ⟨Or.inr rfl, ?_⟩⟩⟩
  have hw := (iw_m M _).mp (ite1 h)
  have h45 : σ1 67 45 = 0 := Classical.not_not.mp h6
  rintro σ3 rfl
  refine ⟨⟨rfl, FM.ofM (B := tpR σ1) (p := plM σ1) (by rw [hp_r2 (by decide)]; exact h0) (M.keep (fun j j1 j2 => hp_r2 (fun z => by omega)) (hp_ne (by decide)))⟩, fun r5 σ4 g σ6 hs => ?_⟩
  obtain ⟨g1, g2⟩ := told_num (f := adD) h0 M (Or.inr ⟨rfl, rfl⟩) g hs adD_PM
  refine ⟨3, by decide, rfl, to191 g1 g2 (fun q hq => ?_) hq⟩
  rw [ln_at hw, if_neg (by decide), if_neg (by decide), if_neg (by decide), if_neg (by decide), if_neg (by decide), if_pos rfl]
  unfold lnD
  rw [if_neg ((PM_n hq).2.mp h45), oB_oB]
  rfl
theorem isSome_n {α : Type} {f : Option α} (h : ¬ f = none) : f.isSome = true := by
  cases f with
  | none => exact absurd rfl h
  | some v => rfl
theorem Mo_readLine_p186 : Mo_readLine_vc186 := by
  intro k σ0 hp0 n σ hH hI
  obtain ⟨rfl, h0, M, hq⟩ := hp0
  obtain ⟨rfl, rfl, c1, c2, c3, c4, c5, c6⟩ := hI
  refine ⟨rfl, fun σ1 g => ⟨3, by decide, rfl, (M.wg h0 g).1.lf, rfl, Or.inl (M.fl h0 g rfl (rfc_p _ _) (fun q hq => ?_))⟩⟩
  show ln (tpR σ) (plM σ) q = .inl (rfc (tpR σ) (plM σ), plM σ)
  by_cases k1 : tK (tpR σ) (plM σ) = 1
  · rw [ln_at (w := tV (tpR σ) (plM σ)) ⟨k1, rfl⟩]
    have hN := PM_n hq
    obtain ⟨k0, ⟨a1, a2, a3, a4⟩, -, d1, d2, d3⟩ := hq
    by_cases e1 : tV (tpR σ) (plM σ) = 123581014175598
    · rw [if_pos e1]; unfold lnP; rw [if_pos]
      have : ¬ σ 67 37 < 6 := fun z => c1 ⟨⟨k1, e1⟩, z⟩
      omega
    · rw [if_neg e1]
      by_cases e2 : tV (tpR σ) (plM σ) = 461414299507
      · rw [if_pos e2]; unfold lnK; rw [if_pos]
        have : ¬ σ 67 38 < 12 := fun z => c2 ⟨⟨k1, e2⟩, z⟩
        omega
      · rw [if_neg e2]
        by_cases e3 : tV (tpR σ) (plM σ) = 512970879609
        · rw [if_pos e3]; unfold lnF; rw [if_pos]
          exact isSome_n (fun z => c3 ⟨⟨k1, e3⟩, (FRs_n d1).mpr z⟩)
        · rw [if_neg e3]
          by_cases e4 : tV (tpR σ) (plM σ) = 444301539187
          · rw [if_pos e4]; unfold lnF; rw [if_pos]
            exact isSome_n (fun z => c4 ⟨⟨k1, e4⟩, (FRs_n d2).mpr z⟩)
          · rw [if_neg e4]
            by_cases e5 : tV (tpR σ) (plM σ) = 1700885349
            · rw [if_pos e5]; unfold lnE; rw [if_pos]
              exact Classical.byContradiction fun z => c5 ⟨⟨k1, e5⟩, hN.1.mpr z⟩
            · rw [if_neg e5]
              by_cases e6 : tV (tpR σ) (plM σ) = 1685217655
              · rw [if_pos e6]; unfold lnD; rw [if_pos]
                exact Classical.byContradiction fun z => c6 ⟨⟨k1, e6⟩, hN.2.mpr z⟩
              · rw [if_neg e6]
  · unfold ln
    rw [if_pos k1]
theorem Mo_readLine_p191 : Mo_readLine_vc191 := by
  intro k σ0 hp0 n σ hH hI
  obtain ⟨rfl, h0, M, hq⟩ := hp0
  obtain ⟨hL, rfl, hU⟩ := hI
  refine ⟨fun h => ⟨fun _ => ?_, fun z => absurd h z⟩, fun h => ?_⟩
  · rcases hU with z | z
    · exact ⟨hL, fun q hq => z.lo hq⟩
    · exact absurd z.1 h
  · have h2 := Classical.not_not.mp h
    obtain ⟨-, ⟨p', g1, g2, g3⟩, hok⟩ : σ 67 2 = 0 ∧ (∃ p, Gom σ0 σ (tpR σ0) p) ∧ ∀ q, PM σ0 q → okL σ0 σ q := by
      rcases hU with z | z
      · have := z.1; omega
      · exact z
    refine ⟨fun h3 => ⟨fun z => absurd h2 z, fun _ => ?_⟩, fun h3 => ⟨rfl, fun σ3 g => ?_⟩⟩
    · have hs : ∀ p, MT σ (tpR σ0) p → tK (tpR σ0) p = 3 ∧ tV (tpR σ0) p = 59 := fun p M' => (M'.sg (by decide)).mp h3
      refine ⟨(g3.tok (by have := hs _ g3; omega)).1, fun σ2 g' => ?_⟩
      have T := ((g3.tok (by have := hs _ g3; omega)).2 σ2 g').1
      refine ⟨hL.tr T.rq.lf, fun q hq => ?_⟩
      obtain ⟨x, ⟨y1, y2, y3⟩, y4, y5⟩ := hok q hq
      have hx := hs _ y3
      have M2 := ((y3.tok (by omega)).2 σ2 g').2
      unfold LOm outM
      rw [y5]
      have e : sgE (tpR σ0) x = .inr (x.1, tN (tpR σ0) x.2) := by unfold sgE sgnO; rw [if_pos hx]; rfl
      rw [e]
      exact ⟨⟨by rw [T.2 2 (by decide) (by decide) (by decide) (by decide) (by decide)]; exact y1, by rw [T.2 3 (by decide) (by decide) (by decide) (by decide) (by decide)]; exact y2, M2⟩, y4.rq T.rq⟩
    · have hs : ∀ p, MT σ (tpR σ0) p → ¬ (tK (tpR σ0) p = 3 ∧ tV (tpR σ0) p = 59) := fun p M' z => h3 ((M'.sg (by decide)).mpr z)
      obtain ⟨w1, w2, w3⟩ := g3.wg h2 g
      have : ¬ σ3 67 2 = 0 := by rw [w2]; split <;> omega
      refine ⟨fun _ => ⟨hL.tr w1.lf, fun q hq => ?_⟩, fun z => absurd this z⟩
      obtain ⟨x, ⟨y1, y2, y3⟩, y4, y5⟩ := hok q hq
      obtain ⟨-, v2, v3⟩ := y3.wg h2 g
      unfold LOm outM
      rw [y5]
      have e : sgE (tpR σ0) x = .inl (rfc (tpR σ0) x.2, x.2) := by unfold sgE sgnO; rw [if_neg (hs _ y3)]; rfl
      rw [e]
      have := rfc_p (tpR σ0) x.2
      exact ⟨rfc_0 _ _, by show 0 ≤ rfc (tpR σ0) x.2; omega, v2, v3⟩
def Mo_readLine_I : List AV → Hp → Nat → Nat → List AV → List AV → Hp → Prop := fun as σ0 pc n st ls σ => (match as with
    | [.inr (.inr (.inl (k, 0, 9)))] => (bif Nat.beq pc 26 then (match st, ls with
      | [], [.inr (.inr (.inl (k', 0, 9)))] => k = k' ∧ Mo_readLine_I26 k σ0 n σ
      | _, _ => False) else (bif Nat.beq pc 52 then (match st, ls with
      | [], [.inr (.inr (.inl (k', 0, 9)))] => k = k' ∧ Mo_readLine_I52 k σ0 n σ
      | _, _ => False) else (bif Nat.beq pc 79 then (match st, ls with
      | [], [.inr (.inr (.inl (k', 0, 9)))] => k = k' ∧ Mo_readLine_I79 k σ0 n σ
      | _, _ => False) else (bif Nat.beq pc 106 then (match st, ls with
      | [], [.inr (.inr (.inl (k', 0, 9)))] => k = k' ∧ Mo_readLine_I106 k σ0 n σ
      | _, _ => False) else (bif Nat.beq pc 146 then (match st, ls with
      | [], [.inr (.inr (.inl (k', 0, 9)))] => k = k' ∧ Mo_readLine_I146 k σ0 n σ
      | _, _ => False) else (bif Nat.beq pc 186 then (match st, ls with
      | [], [.inr (.inr (.inl (k', 0, 9)))] => k = k' ∧ Mo_readLine_I186 k σ0 n σ
      | _, _ => False) else (bif Nat.beq pc 191 then (match st, ls with
      | [], [.inr (.inr (.inl (k', 0, 9)))] => k = k' ∧ Mo_readLine_I191 k σ0 n σ
      | _, _ => False) else False)))))))
    | _ => False)
def Mo_readLine_ct : Nat → Ct := fun n => match n with
  | 0 => Mo_isWord_cs
  | 1 => Mo_readPerson_cs
  | 2 => Mo_readKnows_cs
  | 3 => Mo_formula_cs
  | 4 => Mo_told_cs
  | 5 => Mo_wrong_cs
  | 6 => Mo_token_cs
  | _ => Mo_readLine_cs
set_option maxRecDepth 20000 in
set_option maxHeartbeats 4000000 in
theorem Mo_readLine_met {l : Launch} {D : va_G} {ad : Nat → Nat} {ca : Nat → ClassId} {L : Nat} {fx : Nat → Int} : ax_MC l D ad ca L fx yX9_readLine cX9_readLine 1 none 6 Mo_readLine_cs := by
  refine ax_met (oc := 9) (ct := Mo_readLine_ct) (calls := Mo_readLine_cl) (bs := Mo_readLine_bk) (cut := fun pc => Nat.beq pc 26 || Nat.beq pc 52 || Nat.beq pc 79 || Nat.beq pc 106 || Nat.beq pc 146 || Nat.beq pc 186 || Nat.beq pc 191) (f := 11) (I := Mo_readLine_I) (by decide) rfl rfl Mo_readLine_ck (List.forall_mem_cons.mpr ⟨ax_cwV Mo_isWord_met (by decide) (by decide) rfl (by decide) rfl (ax_m6 167 (by decide +kernel) rfl) Mo_isWord_w rfl Mo_isWord_ds, List.forall_mem_cons.mpr ⟨ax_cwV Mo_readPerson_met (by decide) (by decide) rfl (by decide) rfl (ax_m6 171 (by decide +kernel) rfl) Mo_readPerson_w rfl Mo_readPerson_ds, List.forall_mem_cons.mpr ⟨ax_cwV Mo_readKnows_met (by decide) (by decide) rfl (by decide) rfl (ax_m6 219 (by decide +kernel) rfl) Mo_readKnows_w rfl Mo_readKnows_ds, List.forall_mem_cons.mpr ⟨ax_cwV Mo_formula_met (by decide) (by decide) rfl (by decide) rfl (ax_m6 227 (by decide +kernel) rfl) Mo_formula_w rfl Mo_formula_ds, List.forall_mem_cons.mpr ⟨ax_cwV Mo_told_met (by decide) (by decide) rfl (by decide) rfl (ax_m6 207 (by decide +kernel) rfl) Mo_told_w rfl Mo_told_ds, List.forall_mem_cons.mpr ⟨ax_cwV Mo_wrong_met (by decide) (by decide) rfl (by decide) rfl (ax_m6 199 (by decide +kernel) rfl) Mo_wrong_w rfl Mo_wrong_ds, List.forall_mem_cons.mpr ⟨ax_cwV Mo_token_met (by decide) (by decide) rfl (by decide) rfl (ax_m6 145 (by decide +kernel) rfl) Mo_token_w rfl Mo_token_ds, fun _ h => absurd h List.not_mem_nil⟩⟩⟩⟩⟩⟩⟩) ?_ ?_
  · intro as σ0 hp hH
    match as, hp with
    | [.inr (.inr (.inl (k, 0, 9)))], hp => exact ⟨rfl, Mo_readLine_p k σ0 hH hp⟩
  · intro as σ0 hp n pc st ls σ hH hI
    match as, hp, hI with
    | [.inr (.inr (.inl (k, 0, 9)))], hp, hI =>
      rcases ax_bifE hI with ⟨hpc, hI⟩ | ⟨-, hI⟩
      · have := Nat.eq_of_beq_eq_true hpc
        subst this
        match st, ls, hI with
        | [], [.inr (.inr (.inl (k', 0, 9)))], hI =>
          obtain ⟨rfl, hI⟩ := hI
          exact Mo_readLine_p26 k σ0 hp n σ hH hI
      rcases ax_bifE hI with ⟨hpc, hI⟩ | ⟨-, hI⟩
      · have := Nat.eq_of_beq_eq_true hpc
        subst this
        match st, ls, hI with
        | [], [.inr (.inr (.inl (k', 0, 9)))], hI =>
          obtain ⟨rfl, hI⟩ := hI
          exact Mo_readLine_p52 k σ0 hp n σ hH hI
      rcases ax_bifE hI with ⟨hpc, hI⟩ | ⟨-, hI⟩
      · have := Nat.eq_of_beq_eq_true hpc
        subst this
        match st, ls, hI with
        | [], [.inr (.inr (.inl (k', 0, 9)))], hI =>
          obtain ⟨rfl, hI⟩ := hI
          exact Mo_readLine_p79 k σ0 hp n σ hH hI
      rcases ax_bifE hI with ⟨hpc, hI⟩ | ⟨-, hI⟩
      · have := Nat.eq_of_beq_eq_true hpc
        subst this
        match st, ls, hI with
        | [], [.inr (.inr (.inl (k', 0, 9)))], hI =>
          obtain ⟨rfl, hI⟩ := hI
          exact Mo_readLine_p106 k σ0 hp n σ hH hI
      rcases ax_bifE hI with ⟨hpc, hI⟩ | ⟨-, hI⟩
      · have := Nat.eq_of_beq_eq_true hpc
        subst this
        match st, ls, hI with
        | [], [.inr (.inr (.inl (k', 0, 9)))], hI =>
          obtain ⟨rfl, hI⟩ := hI
          exact Mo_readLine_p146 k σ0 hp n σ hH hI
      rcases ax_bifE hI with ⟨hpc, hI⟩ | ⟨-, hI⟩
      · have := Nat.eq_of_beq_eq_true hpc
        subst this
        match st, ls, hI with
        | [], [.inr (.inr (.inl (k', 0, 9)))], hI =>
          obtain ⟨rfl, hI⟩ := hI
          exact Mo_readLine_p186 k σ0 hp n σ hH hI
      rcases ax_bifE hI with ⟨hpc, hI⟩ | ⟨-, hI⟩
      · have := Nat.eq_of_beq_eq_true hpc
        subst this
        match st, ls, hI with
        | [], [.inr (.inr (.inl (k', 0, 9)))], hI =>
          obtain ⟨rfl, hI⟩ := hI
          exact Mo_readLine_p191 k σ0 hp n σ hH hI
      exact False.elim hI

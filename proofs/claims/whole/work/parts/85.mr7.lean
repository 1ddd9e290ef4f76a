-- THE MODEL'S READER: what is read, a person
def FRs (σ : Hp) (w : Nat) (f : Fml) : Prop := match f with
  | none => σ 78 w = 0
  | some v => σ 78 w = 1 ∧ σ 72 w = (v.2.length : Int) ∧ (1 ≤ v.2.length ∧ v.2.length ≤ 270) ∧ v.2 = ems (σ 70) (σ 71) (320 * w) v.2.length ∧ (∀ i, i < v.2.length → vst (σ 70 (320 * w + i)) (σ 71 (320 * w + i))) ∧ v.1 ≤ 30
def PMa (σ : Hp) (q : PS) : Prop := σ 67 37 = (pN q : Int) ∧ (∀ j, j < pN q → σ 69 j = pNm q j ∧ σ 80 j = pHo q j ∧ σ 81 j = pCa q j ∧ σ 82 j = pOd q j ∧ σ 83 j = pAm q j ∧ σ 84 j = pKn q j) ∧ σ 67 38 = (pNk q : Int) ∧ σ 67 41 = (pNn q : Int)
def PMb (σ : Hp) (q : PS) : Prop := (σ 67 44 = if (pEa q).isSome = true then 1 else 0) ∧ σ 67 39 = (pEa q).getD 1 ∧ (σ 67 45 = if (pDr q).isSome = true then 1 else 0) ∧ σ 67 40 = (pDr q).getD 0
def PMc (σ : Hp) (q : PS) : Prop := FRs σ 0 (pWo q) ∧ FRs σ 1 (pGr q) ∧ σ 67 22 = (uO (pWo q) + uO (pGr q) : Nat)
def PM (σ : Hp) (q : PS) : Prop := okPS q ∧ PMa σ q ∧ PMb σ q ∧ PMc σ q
theorem FRs_eq {σ σ' : Hp} {w : Nat} {f : Fml} (h : FRs σ w f) (h78 : σ' 78 w = σ 78 w) (h72 : σ' 72 w = σ 72 w) (h70 : ∀ j, 320 * w ≤ j → j < 320 * w + 320 → σ' 70 j = σ 70 j ∧ σ' 71 j = σ 71 j) : FRs σ' w f := by
  cases f with
  | none => show σ' 78 w = 0; rw [h78]; exact h
  | some v =>
    obtain ⟨h1, h2, h3, h4, h5, h6⟩ := h
    have e : ∀ i, i < v.2.length → σ' 70 (320 * w + i) = σ 70 (320 * w + i) ∧ σ' 71 (320 * w + i) = σ 71 (320 * w + i) := fun i hi => h70 _ (by omega) (by omega)
    refine ⟨by rw [h78]; exact h1, by rw [h72]; exact h2, h3, ?_, fun i hi => by rw [(e i hi).1, (e i hi).2]; exact h5 i hi, h6⟩
    rw [ems_ext (f' := σ 70) (g' := σ 71) v.2.length e]
    exact h4
theorem PM.keep {σ σ' : Hp} {q : PS} (h : PM σ q) (hc : ∀ c, (69 ≤ c ∧ c ≤ 72) ∨ (78 ≤ c ∧ c ≤ 84) → σ' c = σ c) (h67 : ∀ j, j = 22 ∨ (37 ≤ j ∧ j ≤ 45) → σ' 67 j = σ 67 j) : PM σ' q := by
  obtain ⟨h0, ⟨a1, a2, a3, a4⟩, ⟨b1, b2, b3, b4⟩, c1, c2, c3⟩ := h
  refine ⟨h0, ⟨by rw [h67 37 (by omega)]; exact a1, fun j hj => ?_, by rw [h67 38 (by omega)]; exact a3, by rw [h67 41 (by omega)]; exact a4⟩, ⟨by rw [h67 44 (by omega)]; exact b1, by rw [h67 39 (by omega)]; exact b2, by rw [h67 45 (by omega)]; exact b3, by rw [h67 40 (by omega)]; exact b4⟩, FRs_eq c1 (by rw [hc 78 (by omega)]) (by rw [hc 72 (by omega)]) (fun j _ _ => ⟨by rw [hc 70 (by omega)], by rw [hc 71 (by omega)]⟩), FRs_eq c2 (by rw [hc 78 (by omega)]) (by rw [hc 72 (by omega)]) (fun j _ _ => ⟨by rw [hc 70 (by omega)], by rw [hc 71 (by omega)]⟩), by rw [h67 22 (by omega)]; exact c3⟩
  rw [hc 69 (by omega), hc 80 (by omega), hc 81 (by omega), hc 82 (by omega), hc 83 (by omega), hc 84 (by omega)]
  exact a2 j hj
theorem PM.rq {σ σ' : Hp} {q : PS} (h : PM σ q) (g : RQ σ σ') : PM σ' q := h.keep (fun c hc => g.1 c (by simp; omega)) (fun j hj => g.2 j (by omega) (by omega) (by omega) (by omega) (by omega) (by omega) (by omega))
def rcs : List Nat := [67, 69, 70, 71, 72, 76, 78, 80, 81, 82, 83, 84]
def rfx (j : Nat) : Prop := j = 1 ∨ j = 5 ∨ j = 23 ∨ (42 ≤ j ∧ ¬ j = 44 ∧ ¬ j = 45)
def LFr (σ σ' : Hp) : Prop := Fr rcs σ σ' ∧ ∀ j, rfx j → σ' 67 j = σ 67 j
theorem LFr.tr {σ σ1 σ2 : Hp} (h : LFr σ σ1) (g : LFr σ1 σ2) : LFr σ σ2 := ⟨h.1.tr g.1, fun j hj => (g.2 j hj).trans (h.2 j hj)⟩
theorem RQ.lf {σ σ' : Hp} (h : RQ σ σ') : LFr σ σ' := ⟨h.1.mono (by simp [rcs]), fun j hj => h.2 j (by unfold rfx at hj; omega) (by unfold rfx at hj; omega) (by unfold rfx at hj; omega) (by unfold rfx at hj; omega) (by unfold rfx at hj; omega) (by unfold rfx at hj; omega) (by unfold rfx at hj; omega)⟩
theorem LFr.hp {σ σ' : Hp} {c j : Nat} {v : Int} (h : LFr σ σ') (hc : c ∈ rcs) (hj : c = 67 → ¬ rfx j) : LFr σ (hp σ' c j v) := by
  refine ⟨Fr.hp h.1 hc, fun i hi => ?_⟩
  by_cases e : c = 67
  · rw [e, hp_r2 (fun z => hj e (by rw [← z.2]; exact hi))]; exact h.2 i hi
  · rw [hp_ne (fun z => e z.symm)]; exact h.2 i hi
abbrev plM (σ : Hp) : Nat := (σ 67 7).toNat
theorem MT.can {σ : Hp} {B : Tp} {p : Nat} (h : MT σ B p) : MT σ (tpR σ) (plM σ) ∧ tpR σ = B ∧ plM σ = tS B p := by
  have hb := h.b
  have e1 := h.1.1
  have ep : plM σ = tS B p := by show (σ 67 7).toNat = _; rw [h.2.1]; simp
  have ei := tS_id (B := B) (p := p) hb.1
  have et := tok_id (B := B) (p := tS B p) (p' := p) ei
  refine ⟨?_, e1, ep⟩
  rw [e1, ep]
  obtain ⟨⟨h1, h2, h3⟩, h4, h5, h6, h7, h8⟩ := h
  refine ⟨⟨h1, h2, (tS_R hb.1 h3).2⟩, by rw [ei]; exact h4, ?_, ?_, ?_, ?_⟩
  · unfold srt; rw [et.1, et.2.1]; exact h5
  · rw [et.1, et.2.1]; exact h6
  · rw [et.1, et.2.1]; exact h7
  · rw [et.1, et.2.2]; exact h8
theorem fI_of {nm : Nat → Int} {w : Int} {n : Nat} : ((∀ j, j < n → ¬ nm j = w) → fI nm w n = -1) ∧ (∀ i, i < n → nm i = w → (∀ a b, a < b → b < n → ¬ nm a = nm b) → fI nm w n = (i : Int)) ∧ (∀ i, i < n → nm i = w → 0 ≤ fI nm w n) := by
  rcases fI_L nm w n with ⟨m, m1, m2, m3, m4⟩ | ⟨m1, m2⟩
  · refine ⟨fun h => absurd m3 (h m m1), fun i hi e hd => ?_, fun i hi e => by omega⟩
    rcases Nat.lt_trichotomy i m with z | z | z
    · exact absurd e (m4 i z)
    · rw [z]; exact m2
    · exact absurd (m3.trans e.symm) (hd m i z hi)
  · exact ⟨fun _ => m1, fun i hi e _ => absurd e (m2 i hi), fun i hi e => absurd e (m2 i hi)⟩
def lnR (B : Tp) (w : Int) (p2 : Nat) (q : PS) : Oc (PS × Nat) := oB (nmrO B p2 28518 0 1) fun h => oB (nmrO B h.2 426836649331 0 99) fun c =>
    if (tK B c.2 = 1 ∧ tV B c.2 = 1852143475) ∧ pNn q < 4 then oB (nmrO B c.2 1852143475 0 100) fun o => oB (nmrO B o.2 28518 1 20) fun a => .inr (adP q w h.1 c.1 o.1 a.1 1, a.2)
    else .inr (adP q w h.1 c.1 0 0 0, c.2)
def lnP' (B : Tp) (p : Nat) (q : PS) : Oc (PS × Nat) :=
  if ¬ nmB B (tN B p) then .inl (rfc B (tN B p), tN B p)
  else if 0 ≤ fI (pNm q) (tV B (tN B p)) (pN q) then .inl (3, tN B p)
  else lnR B (tV B (tN B p)) (tN B (tN B p)) q
def sgE (B : Tp) (x : PS × Nat) : Oc (PS × Nat) := oB (sgnO B x.2 59) fun r => .inr (x.1, r)
theorem oB_oB {α β γ : Type} {x : Oc α} {f : α → Oc β} {g : β → Oc γ} : oB (oB x f) g = oB x (fun a => oB (f a) g) := by
  cases x <;> rfl
theorem lnP_eq {B : Tp} {p : Nat} {q : PS} (h : pN q < 6) : lnP B p q = oB (lnP' B p q) (sgE B) := by
  unfold lnP lnP'
  rw [if_neg (show ¬ 6 ≤ pN q by omega)]
  by_cases h1 : ¬ nmB B (tN B p)
  · rw [if_pos h1, if_pos h1]; rfl
  · rw [if_neg h1, if_neg h1]
    by_cases h2 : 0 ≤ fI (pNm q) (tV B (tN B p)) (pN q)
    · rw [if_pos h2, if_pos h2]; rfl
    · rw [if_neg h2, if_neg h2]
      unfold lnR
      rw [oB_oB]
      congr 1
      funext a
      rw [oB_oB]
      congr 1
      funext c
      by_cases h3 : tK B c.2 = 1 ∧ tV B c.2 = 1852143475
      · rw [if_pos h3]
        by_cases h4 : 4 ≤ pNn q
        · rw [if_pos h4, if_neg (fun z => by omega)]
          have e : sgnO B c.2 59 = .inl (rfc B c.2, c.2) := by unfold sgnO; rw [if_neg (fun z => by omega)]
          show _ = oB (sgnO B c.2 59) _
          rw [e]
          rfl
        · rw [if_neg h4, if_pos ⟨h3, by omega⟩, oB_oB]
          congr 1
          funext o
          rw [oB_oB]
          congr 1
      · rw [if_neg h3, if_neg (fun z => h3 z.1)]
        rfl
def flO (σ0 σ : Hp) (f : PS → Oc (PS × Nat)) : Prop := 0 < σ 67 2 ∧ ∀ q, PM σ0 q → ∃ x, f q = .inl x ∧ ¬ x.1 = 0 ∧ 0 ≤ x.1 ∧ Fs σ0 σ (tpR σ0) x.1 x.2
def LOm (σ0 σ' : Hp) (o : Oc (PS × Nat)) : Prop := outM o σ0 σ' (tpR σ0) (fun x => Gom σ0 σ' (tpR σ0) x.2 ∧ PM σ' x.1)
theorem flO.lo {σ0 σ : Hp} {f : PS → Oc (PS × Nat)} (h : flO σ0 σ f) {q : PS} (hq : PM σ0 q) : LOm σ0 σ (f q) := by
  obtain ⟨x, e, h1, h2, h3⟩ := h.2 q hq
  unfold LOm outM
  rw [e]
  exact ⟨h1, h2, h3⟩
theorem flO.on {σ0 σ σ' : Hp} {f : PS → Oc (PS × Nat)} (h : flO σ0 σ f) (e2 : σ' 67 2 = σ 67 2) (e3 : σ' 67 3 = σ 67 3) : flO σ0 σ' f := by
  refine ⟨by rw [e2]; exact h.1, fun q hq => ?_⟩
  obtain ⟨x, e, h1, h2, h3⟩ := h.2 q hq
  exact ⟨x, e, h1, h2, by rw [← h3.1]; exact e2, by rw [← h3.2]; exact e3⟩
theorem MT.fl {σ0 σ σ' : Hp} {p : Nat} {a c : Int} {f : PS → Oc (PS × Nat)} (M : MT σ (tpR σ0) p) (h0 : σ 67 2 = 0) (g : Mo_wrong_post 67 a σ σ') (hc : (if tK (tpR σ0) p = 4 then 1 else a) = c) (h : 0 < c) (hf : ∀ q, PM σ0 q → f q = .inl (c, p)) : flO σ0 σ' f := by
  obtain ⟨-, q2, q3⟩ := M.wg h0 g
  rw [hc] at q2
  exact ⟨by omega, fun q hq => ⟨_, hf q hq, by show ¬ c = 0; omega, by show 0 ≤ c; omega, q2, q3⟩⟩
theorem FM.ofM {σ : Hp} {B : Tp} {p : Nat} (h0 : σ 67 2 = 0) (M : MT σ B p) : FM σ := ⟨by omega, fun _ => ⟨B, p, M⟩⟩
theorem FM.wr {σ : Hp} {c j : Nat} {v : Int} (h : FM σ) (hc : ¬ c = 67) (hc2 : ¬ c = 68) : FM (hp σ c j v) := by
  have e : hp σ c j v 67 = σ 67 := hp_ne (fun z => hc z.symm)
  refine ⟨by rw [e]; exact h.1, fun z => ?_⟩
  rw [e] at z
  obtain ⟨B, p, M⟩ := h.2 z
  exact ⟨B, p, M.keep (fun j _ _ => by rw [e]) (hp_ne (fun z => hc2 z.symm))⟩
theorem told_go {σ σ' : Hp} {w a b r : Int} (hF : FM σ) (g : Mo_told_post 67 w a b σ r σ') : RQ σ σ' ∧ FM σ' := by
  by_cases h0 : σ 67 2 = 0
  · obtain ⟨B, p, M⟩ := hF.2 h0
    obtain ⟨q1, q2⟩ := g.2 B p M h0
    refine ⟨q1, ?_⟩
    unfold outM at q2
    split at q2
    · exact ⟨by rw [q2.2.2.1]; exact q2.2.1, fun z => absurd (by rw [← q2.2.2.1]; exact z) q2.1⟩
    · exact FM.ofM q2.2.1 q2.2.2.2
  · rw [g.1 (by have := hF.1; omega)]; exact ⟨RQ.rf, hF⟩
theorem told_out {σ σ' : Hp} {w a b r : Int} {B : Tp} {p : Nat} (M : MT σ B p) (h0 : σ 67 2 = 0) (g : Mo_told_post 67 w a b σ r σ') : (∃ x, nmrO B p w a b = .inl x ∧ ¬ x.1 = 0 ∧ 0 ≤ x.1 ∧ Fs σ σ' B x.1 x.2) ∨ (∃ x, nmrO B p w a b = .inr x ∧ r = x.1 ∧ Gom σ σ' B x.2) := by
  have := (g.2 B p M h0).2
  unfold outM at this
  split at this
  · exact Or.inl ⟨_, by assumption, this⟩
  · exact Or.inr ⟨_, by assumption, this⟩
def Mo_readPerson_pre (k : Nat) (σ : Hp) : Prop := k = 67 ∧ σ 67 2 = 0 ∧ MT σ (tpR σ) (plM σ) ∧ ¬ tK (tpR σ) (plM σ) = 4 ∧ (0 ≤ σ 67 37 ∧ σ 67 37 < 6) ∧ ∃ q, PM σ q
def Mo_readPerson_post (_k : Nat) (σ σ' : Hp) : Prop := LFr σ σ' ∧ ∀ q, PM σ q → LOm σ σ' (lnP' (tpR σ) (plM σ) q)
def Mo_readPerson_I31 (_k : Nat) (σ0 : Hp) (n : Nat) (σ : Hp) : Prop := RQ σ0 σ ∧ n = 1 ∧ (flO σ0 σ (lnP' (tpR σ0) (plM σ0)) ∨ (Gom σ0 σ (tpR σ0) (tN (tpR σ0) (plM σ0)) ∧ nmB (tpR σ0) (tN (tpR σ0) (plM σ0)) ∧ ∀ q, PM σ0 q → ¬ 0 ≤ fI (pNm q) (tV (tpR σ0) (tN (tpR σ0) (plM σ0))) (pN q)))
def Mo_readPerson_I177 (_k : Nat) (σ0 : Hp) (n : Nat) (_v1 : Int) (σ : Hp) : Prop := LFr σ0 σ ∧ n = 0 ∧ (flO σ0 σ (lnP' (tpR σ0) (plM σ0)) ∨ (σ 67 2 = 0 ∧ (0 ≤ σ 67 37 ∧ σ 67 37 < 6) ∧ ∀ q, PM σ0 q → ∃ x, lnP' (tpR σ0) (plM σ0) q = .inr x ∧ Gom σ0 σ (tpR σ0) x.2 ∧ PM (hp σ 67 37 (σ 67 37 + 1)) x.1))
def Mo_readPerson_bk : List (Nat × List Item) := [(0, [(.aload_n 0, 1, [], []), (.invokevirtual 227, 3, [0], []), (.aload_n 0, 1, [], []), (.invokevirtual 241, 3, [1], []), (.ifCond .ne 11, 3, [19], []), (.aload_n 0, 1, [], []), (.iconst 2, 1, [], []), (.invokevirtual 224, 3, [2], []), (.goto 15, 3, [31], [])]),
  (19, [(.aload_n 0, 1, [], []), (.invokevirtual 244, 3, [3], []), (.ifCond .lt 8, 3, [31], []), (.aload_n 0, 1, [], []), (.iconst 3, 1, [], []), (.invokevirtual 224, 3, [2], [])]),
  (31, [(.aload_n 0, 1, [], []), (.getfield 179, 3, [9, 2, 0, 0, 0, 0], []), (.ifCond .le 4, 3, [39], []), (.return_, 1, [], [])]),
  (39, [(.aload_n 0, 1, [], []), (.getfield 238, 3, [9, 37, 0, 0, 0, 0], []), (.istore_n 1, 1, [], []), (.aload_n 0, 1, [], []), (.getfield 17, 3, [9, 10, 4, 2, 4, 6], []), (.iload_n 1, 1, [], []), (.aload_n 0, 1, [], []), (.getfield 159, 3, [9, 9, 2, 0, 0, 0], []), (.lastore, 1, [], []), (.aload_n 0, 1, [], []), (.invokevirtual 227, 3, [0], []), (.aload_n 0, 1, [], []), (.getfield 52, 3, [9, 27, 4, 13, 1, 6], []), (.iload_n 1, 1, [], []), (.aload_n 0, 1, [], []), (.ldc2_w 184, 3, [], [(28518, 0)]), (.iconst 0, 1, [], []), (.iconst 1, 1, [], []), (.invokevirtual 314, 3, [4], []), (.iastore, 1, [], []), (.aload_n 0, 1, [], []), (.getfield 55, 3, [9, 28, 4, 14, 1, 6], []), (.iload_n 1, 1, [], []), (.aload_n 0, 1, [], []), (.ldc2_w 186, 3, [], [(426836649331, 0)]), (.iconst 0, 1, [], []), (.bipush 99, 2, [], []), (.invokevirtual 314, 3, [4], []), (.iastore, 1, [], []), (.aload_n 0, 1, [], []), (.getfield 58, 3, [9, 29, 4, 15, 1, 6], []), (.iload_n 1, 1, [], []), (.iconst 0, 1, [], []), (.iastore, 1, [], []), (.aload_n 0, 1, [], []), (.getfield 61, 3, [9, 30, 4, 16, 1, 6], []), (.iload_n 1, 1, [], []), (.iconst 0, 1, [], []), (.iastore, 1, [], []), (.aload_n 0, 1, [], []), (.getfield 64, 3, [9, 31, 4, 17, 1, 6], []), (.iload_n 1, 1, [], []), (.iconst 0, 1, [], []), (.iastore, 1, [], []), (.aload_n 0, 1, [], []), (.getfield 179, 3, [9, 2, 0, 0, 0, 0], []), (.ifCond .ne 63, 3, [177], []), (.aload_n 0, 1, [], []), (.ldc2_w 188, 3, [], [(1852143475, 0)]), (.invokevirtual 220, 3, [5], []), (.ifCond .eq 53, 3, [177], []), (.aload_n 0, 1, [], []), (.getfield 318, 3, [9, 41, 0, 0, 0, 0], []), (.iconst 4, 1, [], []), (.if_icmp .ge 45, 3, [177], []), (.aload_n 0, 1, [], []), (.getfield 58, 3, [9, 29, 4, 15, 1, 6], []), (.iload_n 1, 1, [], []), (.aload_n 0, 1, [], []), (.ldc2_w 188, 3, [], [(1852143475, 0)]), (.iconst 0, 1, [], []), (.bipush 100, 2, [], []), (.invokevirtual 314, 3, [4], []), (.iastore, 1, [], []), (.aload_n 0, 1, [], []), (.getfield 61, 3, [9, 30, 4, 16, 1, 6], []), (.iload_n 1, 1, [], []), (.aload_n 0, 1, [], []), (.ldc2_w 184, 3, [], [(28518, 0)]), (.iconst 1, 1, [], []), (.bipush 20, 2, [], []), (.invokevirtual 314, 3, [4], []), (.iastore, 1, [], []), (.aload_n 0, 1, [], []), (.dup, 1, [], []), (.getfield 318, 3, [9, 41, 0, 0, 0, 0], []), (.iconst 1, 1, [], []), (.iadd, 1, [], []), (.putfield 318, 3, [9, 41, 0, 0, 0, 0], [])]),
  (177, [(.aload_n 0, 1, [], []), (.getfield 179, 3, [9, 2, 0, 0, 0, 0], []), (.ifCond .ne 13, 3, [194], []), (.aload_n 0, 1, [], []), (.dup, 1, [], []), (.getfield 238, 3, [9, 37, 0, 0, 0, 0], []), (.iconst 1, 1, [], []), (.iadd, 1, [], []), (.putfield 238, 3, [9, 37, 0, 0, 0, 0], [])]),
  (194, [(.return_, 1, [], [])])]
def Mo_readPerson_cl : List (Instr × Nat) := [(.invokevirtual 227, 0), (.invokevirtual 241, 1), (.invokevirtual 224, 2), (.invokevirtual 244, 3), (.invokevirtual 314, 4), (.invokevirtual 220, 5)]
set_option maxRecDepth 20000 in
theorem Mo_readPerson_ck : Mo_readPerson_bk.all (fun b => ax_chB 9 2 cX9_readPerson Mo_readPerson_cl b.1 b.2) = true := by decide +kernel
def Mo_readPerson_cs : Ct := (1, 10, 0, (0, 0), fun as σ => (match as with
    | [.inr (.inr (.inl (k, 0, 9)))] => Mo_readPerson_pre k σ
    | _ => False), fun as σ r σ' => (match as with
    | [.inr (.inr (.inl (k, 0, 9)))] => Mo_readPerson_post k σ σ'
    | _ => False))
theorem Mo_readPerson_w : ∀ w ∈ ([.instanceMethod yX9_readPerson, .selects yX9_readPerson.cls yX9_readPerson yX9_readPerson, .initialized yX9_readPerson.cls, .code yX9_readPerson cX9_readPerson 2 none] : List Cond), w ∈ ax_tb := ax_w4 (ax_m6 173 (by decide +kernel) rfl) (ax_m0 12 (by decide +kernel) rfl) (ax_m1 10 (by decide +kernel) rfl) (ax_m6 174 (by decide +kernel) rfl)
theorem Mo_readPerson_ds : yX9_readPerson.cls ≠ "java/lang/invoke/MethodHandle" ∧ yX9_readPerson.cls ≠ "java/lang/invoke/VarHandle" ∧ (parseMethodDescriptor yX9_readPerson.desc).map (fun d => d.parameters.length) = some 0 := by decide +kernel
def Mo_readPerson_vc : Prop := ∀ (k : Nat) (σ : Hp), ax_H σ → Mo_readPerson_pre k σ →
  Mo_token_pre k σ ∧
  ∀ σ1 : Hp, Mo_token_post k σ σ1 →
  Mo_isName_pre k σ1 ∧
  ∀ (r3 : Int) (σ2 : Hp), Mo_isName_post k σ1 r3 σ2 →
  (¬ r3 = 0 →
    Mo_find_pre k σ2 ∧
    ∀ (r5 : Int) (σ4 : Hp), Mo_find_post k σ2 r5 σ4 →
    (r5 < 0 →
      ∃ n' : Nat, k = k ∧ Mo_readPerson_I31 k σ n' σ4) ∧
    (¬ (r5 < 0) →
      Mo_wrong_pre k 3 σ4 ∧
      ∀ σ6 : Hp, Mo_wrong_post k 3 σ4 σ6 →
      ∃ n' : Nat, k = k ∧ Mo_readPerson_I31 k σ n' σ6)) ∧
  (¬ (¬ r3 = 0) →
    Mo_wrong_pre k 2 σ2 ∧
    ∀ σ7 : Hp, Mo_wrong_post k 2 σ2 σ7 →
    ∃ n' : Nat, k = k ∧ Mo_readPerson_I31 k σ n' σ7)
def Mo_readPerson_vc31 : Prop := ∀ (k : Nat) (σ0 : Hp), Mo_readPerson_pre k σ0 → ∀ (n : Nat)  (σ : Hp), ax_H σ → Mo_readPerson_I31 k σ0 n σ →
  (σ k 2 ≤ 0 →
    (0 ≤ σ k 37 ∧ σ k 37 < 6) ∧
    ∀ σ1 : Hp, σ1 = hp σ (k + 2) (σ k 37).toNat (σ k 9) →
    Mo_token_pre k σ1 ∧
    ∀ σ2 : Hp, Mo_token_post k σ1 σ2 →
    Mo_told_pre k 28518 0 1 σ2 ∧
    ∀ (r4 : Int) (σ3 : Hp), Mo_told_post k 28518 0 1 σ2 r4 σ3 →
    (0 ≤ σ k 37 ∧ σ k 37 < 6) ∧
    ∀ σ5 : Hp, σ5 = hp σ3 (k + 13) (σ k 37).toNat r4 →
    Mo_told_pre k 426836649331 0 99 σ5 ∧
    ∀ (r7 : Int) (σ6 : Hp), Mo_told_post k 426836649331 0 99 σ5 r7 σ6 →
    (0 ≤ σ k 37 ∧ σ k 37 < 6) ∧
    ∀ σ8 : Hp, σ8 = hp σ6 (k + 14) (σ k 37).toNat r7 →
    (0 ≤ σ k 37 ∧ σ k 37 < 6) ∧
    ∀ σ9 : Hp, σ9 = hp σ8 (k + 15) (σ k 37).toNat 0 →
    (0 ≤ σ k 37 ∧ σ k 37 < 6) ∧
    ∀ σ10 : Hp, σ10 = hp σ9 (k + 16) (σ k 37).toNat 0 →
    (0 ≤ σ k 37 ∧ σ k 37 < 6) ∧
    ∀ σ11 : Hp, σ11 = hp σ10 (k + 17) (σ k 37).toNat 0 →
    (¬ σ11 k 2 = 0 →
      ∃ n' : Nat, n' < n ∧ k = k ∧ Mo_readPerson_I177 k σ0 n' (σ k 37) σ11) ∧
    (¬ (¬ σ11 k 2 = 0) →
      Mo_isWord_pre k 1852143475 σ11 ∧
      ∀ (r13 : Int) (σ12 : Hp), Mo_isWord_post k 1852143475 σ11 r13 σ12 →
      (r13 = 0 →
        ∃ n' : Nat, n' < n ∧ k = k ∧ Mo_readPerson_I177 k σ0 n' (σ k 37) σ12) ∧
      (¬ (r13 = 0) →
        (4 ≤ σ12 k 41 →
          ∃ n' : Nat, n' < n ∧ k = k ∧ Mo_readPerson_I177 k σ0 n' (σ k 37) σ12) ∧
        (¬ (4 ≤ σ12 k 41) →
          Mo_told_pre k 1852143475 0 100 σ12 ∧
          ∀ (r15 : Int) (σ14 : Hp), Mo_told_post k 1852143475 0 100 σ12 r15 σ14 →
          (0 ≤ σ k 37 ∧ σ k 37 < 6) ∧
          ∀ σ16 : Hp, σ16 = hp σ14 (k + 15) (σ k 37).toNat r15 →
          Mo_told_pre k 28518 1 20 σ16 ∧
          ∀ (r18 : Int) (σ17 : Hp), Mo_told_post k 28518 1 20 σ16 r18 σ17 →
          (0 ≤ σ k 37 ∧ σ k 37 < 6) ∧
          ∀ σ19 : Hp, σ19 = hp σ17 (k + 16) (σ k 37).toNat r18 →
          ∀ σ20 : Hp, σ20 = hp σ19 k 41 (wr ((σ19 k 41) + 1)) →
          ∃ n' : Nat, n' < n ∧ k = k ∧ Mo_readPerson_I177 k σ0 n' (σ k 37) σ20)))) ∧
  (¬ (σ k 2 ≤ 0) →
    Mo_readPerson_post k σ0 σ)
def Mo_readPerson_vc177 : Prop := ∀ (k : Nat) (σ0 : Hp), Mo_readPerson_pre k σ0 → ∀ (n : Nat) (v1 : Int) (σ : Hp), ax_H σ → Mo_readPerson_I177 k σ0 n v1 σ →
  (¬ σ k 2 = 0 →
    Mo_readPerson_post k σ0 σ) ∧
  (¬ (¬ σ k 2 = 0) →
    ∀ σ1 : Hp, σ1 = hp σ k 37 (wr ((σ k 37) + 1)) →
    Mo_readPerson_post k σ0 σ1)
theorem Mo_readPerson_p : Mo_readPerson_vc := by
  intro k σ hH hp0
  obtain ⟨rfl, h0, M, k4, h37, hq⟩ := hp0
  obtain ⟨t1, t2⟩ := M.tok k4
  refine ⟨t1, fun σ1 g1 => ?_⟩
  obtain ⟨T1, M1⟩ := t2 σ1 g1
  have z2 : σ1 67 2 = 0 := by rw [T1.2 2 (by decide) (by decide) (by decide) (by decide) (by decide)]; exact h0
  have e37 : σ1 67 37 = σ 67 37 := T1.2 37 (by decide) (by decide) (by decide) (by decide) (by decide)
  refine ⟨rfl, ?_⟩
  rintro r3 σ2 ⟨rfl, h3⟩
  refine ⟨fun y3 => ⟨⟨rfl, by rw [e37]; exact h37.1, by rw [e37]; omega⟩, ?_⟩, fun y3 => ⟨rfl, fun σ7 g7 => ⟨1, rfl, T1.rq.tr (M1.wg z2 g7).1, rfl, Or.inl (M1.fl z2 g7 rfl (rfc_p _ _) (fun q hq => ?_))⟩⟩⟩
  · have hn : nmB (tpR σ) (tN (tpR σ) (plM σ)) := M1.nm.mp (by
      rcases h3 with y | y
      · exact y.2
      · exact absurd y.1 y3)
    have e9 : σ2 67 9 = tV (tpR σ) (tN (tpR σ) (plM σ)) := M1.2.2.2.1 hn.1
    have e69 : σ2 69 = σ 69 := T1.1 69 (by decide)
    rintro r5 σ4 ⟨rfl, h5⟩
    rw [e37] at h5
    have nmq : ∀ q, PM σ q → (σ 67 37).toNat = pN q ∧ ∀ j, j < pN q → σ4 69 j = pNm q j := fun q hq => by
      have := hq.2.1.1
      exact ⟨by omega, fun j hj => by rw [e69]; exact (hq.2.1.2.1 j hj).1⟩
    refine ⟨fun y5 => ⟨1, rfl, T1.rq, rfl, Or.inr ⟨T1.go h0 M1, hn, fun q hq => ?_⟩⟩, fun y5 => ⟨rfl, fun σ6 g6 => ⟨1, rfl, T1.rq.tr (M1.wg z2 g6).1, rfl, Or.inl (M1.fl z2 g6 (c := 3) (by rw [if_neg (by have := hn.1; omega)]) (by decide) (fun q hq => ?_))⟩⟩⟩
    · obtain ⟨a1, a2⟩ := nmq q hq
      rcases h5 with y | ⟨i, i1, i2, i3⟩
      · rw [fI_of.1 (fun j hj => by rw [← a2 j hj, ← e9]; exact y.2 j (by omega))]; decide
      · omega
    · obtain ⟨a1, a2⟩ := nmq q hq
      unfold lnP'
      rw [if_neg (fun z => z hn), if_pos]
      rcases h5 with y | ⟨i, i1, i2, i3⟩
      · omega
      · exact fI_of.2.2 i (by omega) (by rw [← a2 i (by omega), ← e9]; exact i3)
  · unfold lnP'
    rw [if_pos (fun z => ?_)]
    · rfl
    · have := M1.nm.mpr z
      rcases h3 with y | y
      · omega
      · exact y.2 this
def PW (σ0 σ : Hp) (n : Nat) : Prop := (∀ c, ¬ c = 67 → ∀ j, ¬ (j = n ∧ (c = 69 ∨ (80 ≤ c ∧ c ≤ 84))) → σ c j = σ0 c j) ∧ ∀ j, 10 ≤ j → ¬ j = 41 → σ 67 j = σ0 67 j
theorem PW.rq {σ0 σ σ' : Hp} {n : Nat} (h : PW σ0 σ n) (g : RQ σ σ') : PW σ0 σ' n := ⟨fun c hc j hj => by rw [g.1 c (by simp; exact hc)]; exact h.1 c hc j hj, fun j h1 h2 => by rw [g.2 j (by omega) (by omega) (by omega) (by omega) (by omega) (by omega) (by omega)]; exact h.2 j h1 h2⟩
theorem PW.wr {σ0 σ : Hp} {n c : Nat} {v : Int} (h : PW σ0 σ n) (hc : c = 69 ∨ (80 ≤ c ∧ c ≤ 84)) : PW σ0 (hp σ c n v) n := by
  refine ⟨fun c' hc' j hj => ?_, fun j h1 h2 => by rw [hp_ne (by omega)]; exact h.2 j h1 h2⟩
  rw [hp_r2 (fun z => hj ⟨z.2, by rw [z.1]; exact hc⟩)]
  exact h.1 c' hc' j hj
theorem PW.w41 {σ0 σ : Hp} {n : Nat} {v : Int} (h : PW σ0 σ n) : PW σ0 (hp σ 67 41 v) n := ⟨fun c hc j hj => by rw [hp_ne hc]; exact h.1 c hc j hj, fun j h1 h2 => by rw [hp_r2 (fun z => h2 z.2)]; exact h.2 j h1 h2⟩
theorem PW.lf {σ0 σ : Hp} {n : Nat} (h : PW σ0 σ n) (h1 : σ 67 1 = σ0 67 1) (h5 : σ 67 5 = σ0 67 5) : LFr σ0 σ := by
  refine ⟨fun c hc => ?_, fun j hj => ?_⟩
  · funext j
    refine h.1 c (fun z => hc (by simp [rcs, z])) j (fun z => hc ?_)
    simp [rcs]
    omega
  · unfold rfx at hj
    rcases hj with rfl | rfl | rfl | z
    · exact h1
    · exact h5
    · exact h.2 23 (by decide) (by decide)
    · exact h.2 j (by omega) (by omega)
theorem PM_adP {σ0 σ : Hp} {q : PS} {n nn : Nat} {w h c o a : Int} (hq : PM σ0 q) (hn : n = pN q) (hW : PW σ0 σ n) (v69 : σ 69 n = w) (v80 : σ 80 n = h) (v81 : σ 81 n = c) (v82 : σ 82 n = o) (v83 : σ 83 n = a) (v84 : σ 84 n = 0) (h41 : σ 67 41 = σ0 67 41 + nn) (ok : okPS (adP q w h c o a nn)) : PM (hp σ 67 37 (σ 67 37 + 1)) (adP q w h c o a nn) := by
  obtain ⟨k0, ⟨a1, a2, a3, a4⟩, ⟨b1, b2, b3, b4⟩, c1, c2, c3⟩ := hq
  have f67 : ∀ j, 10 ≤ j → ¬ j = 41 → ¬ j = 37 → hp σ 67 37 (σ 67 37 + 1) 67 j = σ0 67 j := fun j h1 h2 h3 => by rw [hp_r2 (fun z => h3 z.2)]; exact hW.2 j h1 h2
  have fc : ∀ d j, ¬ d = 67 → ¬ (j = n ∧ (d = 69 ∨ (80 ≤ d ∧ d ≤ 84))) → hp σ 67 37 (σ 67 37 + 1) d j = σ0 d j := fun d j hd hj => by rw [hp_ne hd]; exact hW.1 d hd j hj
  refine ⟨ok, ⟨?_, fun j hj => ?_, ?_, ?_⟩, ⟨?_, ?_, ?_, ?_⟩, ?_, ?_, ?_⟩
  · rw [hp_r1, hW.2 37 (by decide) (by decide), a1]
    show (pN q : Int) + 1 = ((pN q + 1 : Nat) : Int)
    simp
  · have hj' : j < pN q + 1 := hj
    show _ = va_up (pNm q) (pN q) w j ∧ _ = va_up (pHo q) (pN q) h j ∧ _ = va_up (pCa q) (pN q) c j ∧ _ = va_up (pOd q) (pN q) o j ∧ _ = va_up (pAm q) (pN q) a j ∧ _ = pKn q j
    by_cases e : j = pN q
    · have e' : j = n := by omega
      rw [e, ← hn, hp_ne (by decide), hp_ne (by decide), hp_ne (by decide), hp_ne (by decide), hp_ne (by decide), hp_ne (by decide), vu_at, vu_at, vu_at, vu_at, vu_at]
      exact ⟨v69, v80, v81, v82, v83, by rw [v84]; exact (k0.2.2.2.2.1 n (by omega)).2.2.2.1.symm⟩
    · rw [vu_ne e, vu_ne e, vu_ne e, vu_ne e, vu_ne e, fc 69 j (by decide) (by omega), fc 80 j (by decide) (by omega), fc 81 j (by decide) (by omega), fc 82 j (by decide) (by omega), fc 83 j (by decide) (by omega), fc 84 j (by decide) (by omega)]
      exact a2 j (by omega)
  · rw [f67 38 (by decide) (by decide) (by decide)]; exact a3
  · rw [hp_r2 (by decide), h41, a4]
    show _ = ((pNn q + nn : Nat) : Int)
    simp
  · rw [f67 44 (by decide) (by decide) (by decide)]; exact b1
  · rw [f67 39 (by decide) (by decide) (by decide)]; exact b2
  · rw [f67 45 (by decide) (by decide) (by decide)]; exact b3
  · rw [f67 40 (by decide) (by decide) (by decide)]; exact b4
  · exact FRs_eq c1 (fc 78 0 (by decide) (by omega)) (fc 72 0 (by decide) (by omega)) (fun j _ _ => ⟨fc 70 j (by decide) (by omega), fc 71 j (by decide) (by omega)⟩)
  · exact FRs_eq c2 (fc 78 1 (by decide) (by omega)) (fc 72 1 (by decide) (by omega)) (fun j _ _ => ⟨fc 70 j (by decide) (by omega), fc 71 j (by decide) (by omega)⟩)
  · rw [f67 22 (by decide) (by decide) (by decide)]; exact c3
theorem Mo_readPerson_p31 : Mo_readPerson_vc31 := by
  intro k σ0 hp0 n v1 hH hI
  obtain ⟨rfl, h0, M0, k40, h37, q0, hq0⟩ := hp0
  obtain ⟨hR, rfl, hU⟩ := hI
  have e37 : v1 67 37 = σ0 67 37 := hR.2 37 (by decide) (by decide) (by decide) (by decide) (by decide) (by decide) (by decide)
  refine ⟨fun h => ?_, fun h => ?_⟩
  · obtain ⟨⟨z2, z3, M⟩, hn, hfI⟩ : Gom σ0 v1 (tpR σ0) (tN (tpR σ0) (plM σ0)) ∧ nmB (tpR σ0) (tN (tpR σ0) (plM σ0)) ∧ ∀ q, PM σ0 q → ¬ 0 ≤ fI (pNm q) (tV (tpR σ0) (tN (tpR σ0) (plM σ0))) (pN q) := by
      rcases hU with z | z
      · have := z.1; omega
      · exact z
    have n6 : (v1 67 37).toNat < 6 := by omega
    have nq : ∀ q, PM σ0 q → (v1 67 37).toNat = pN q := fun q hq => by have := hq.2.1.1; omega
    generalize hm : (v1 67 37).toNat = m at *
    have r37 : 0 ≤ v1 67 37 ∧ v1 67 37 < 6 := by omega
    have e9 : v1 67 9 = tV (tpR σ0) (tN (tpR σ0) (plM σ0)) := M.2.2.2.1 hn.1
    refine ⟨r37, ?_⟩
    intro σ1 hs1
    have hs1 : σ1 = hp v1 69 m (v1 67 9) := hs1
    have M1 : MT σ1 (tpR σ0) (tN (tpR σ0) (plM σ0)) := M.keep (fun j _ _ => by rw [hs1, hp_ne (by decide)]) (by rw [hs1, hp_ne (by decide)])
    have P1 : PW σ0 σ1 m := by
      rw [hs1]
      exact PW.wr ⟨fun c hc j _ => by rw [hR.1 c (by simp; exact hc)], fun j h1 _ => hR.2 j (by omega) (by omega) (by omega) (by omega) (by omega) (by omega) (by omega)⟩ (Or.inl rfl)
    have y1 : σ1 67 2 = 0 := by rw [hs1, hp_ne (by decide)]; exact z2
    obtain ⟨t1, t2⟩ := M1.tok (by have := hn.1; omega)
    refine ⟨t1, fun σ2 g2 => ?_⟩
    obtain ⟨T2, M2⟩ := t2 σ2 g2
    have y2 : σ2 67 2 = 0 := by rw [T2.2 2 (by decide) (by decide) (by decide) (by decide) (by decide)]; exact y1
    have w3 : σ2 67 3 = σ0 67 3 := by rw [T2.2 3 (by decide) (by decide) (by decide) (by decide) (by decide), hs1, hp_ne (by decide)]; exact z3
    have F2 : FM σ2 := FM.ofM y2 M2
    have P2 := P1.rq T2.rq
    refine ⟨⟨rfl, F2⟩, fun r4 σ3 g3 => ⟨r37, ?_⟩⟩
    obtain ⟨R3, F3⟩ := told_go F2 g3
    have P3 := P2.rq R3
    intro σ5 hs5
    have hs5 : σ5 = hp σ3 80 m r4 := hs5
    have F5 : FM σ5 := by rw [hs5]; exact F3.wr (by decide) (by decide)
    have P5 : PW σ0 σ5 m := by rw [hs5]; exact P3.wr (Or.inr ⟨by decide, by decide⟩)
    refine ⟨⟨rfl, F5⟩, fun r7 σ6 g6 => ⟨r37, ?_⟩⟩
    obtain ⟨R6, F6⟩ := told_go F5 g6
    have P6 := P5.rq R6
    intro σ8 hs8
    refine ⟨r37, ?_⟩
    intro σ9 hs9
    refine ⟨r37, ?_⟩
    intro σ10 hs10
    refine ⟨r37, ?_⟩
    intro σ11 hs11
    have e11 : σ11 = hp (hp (hp (hp σ6 81 m r7) 82 m 0) 83 m 0) 84 m 0 := by rw [hs11, hs10, hs9, hs8]
    have F11 : FM σ11 := by rw [e11]; exact (((F6.wr (by decide) (by decide)).wr (by decide) (by decide)).wr (by decide) (by decide)).wr (by decide) (by decide)
    have P11 : PW σ0 σ11 m := by rw [e11]; exact (((P6.wr (Or.inr ⟨by decide, by decide⟩)).wr (Or.inr ⟨by decide, by decide⟩)).wr (Or.inr ⟨by decide, by decide⟩)).wr (Or.inr ⟨by decide, by decide⟩)
    have b67 : σ11 67 = σ6 67 := by rw [e11, hp_ne (by decide), hp_ne (by decide), hp_ne (by decide), hp_ne (by decide)]
    have b68 : σ11 68 = σ6 68 := by rw [e11, hp_ne (by decide), hp_ne (by decide), hp_ne (by decide), hp_ne (by decide)]
    have c67 : σ5 67 = σ3 67 := by rw [hs5, hp_ne (by decide)]
    have c68 : σ5 68 = σ3 68 := by rw [hs5, hp_ne (by decide)]
    have L11 : LFr σ0 σ11 := P11.lf (by rw [b67, R6.2 1 (by decide) (by decide) (by decide) (by decide) (by decide) (by decide) (by decide), c67, R3.2 1 (by decide) (by decide) (by decide) (by decide) (by decide) (by decide) (by decide), T2.2 1 (by decide) (by decide) (by decide) (by decide) (by decide), hs1, hp_ne (by decide)]; exact hR.2 1 (by decide) (by decide) (by decide) (by decide) (by decide) (by decide) (by decide)) (by rw [b67, R6.2 5 (by decide) (by decide) (by decide) (by decide) (by decide) (by decide) (by decide), c67, R3.2 5 (by decide) (by decide) (by decide) (by decide) (by decide) (by decide) (by decide), T2.2 5 (by decide) (by decide) (by decide) (by decide) (by decide), hs1, hp_ne (by decide)]; exact hR.2 5 (by decide) (by decide) (by decide) (by decide) (by decide) (by decide) (by decide))
    have f41 : σ11 67 41 = σ0 67 41 := by rw [b67, R6.2 41 (by decide) (by decide) (by decide) (by decide) (by decide) (by decide) (by decide), c67, R3.2 41 (by decide) (by decide) (by decide) (by decide) (by decide) (by decide) (by decide), T2.2 41 (by decide) (by decide) (by decide) (by decide) (by decide), hs1, hp_ne (by decide)]; exact hR.2 41 (by decide) (by decide) (by decide) (by decide) (by decide) (by decide) (by decide)
    have f37 : σ11 67 37 = v1 67 37 := by rw [P11.2 37 (by decide) (by decide)]; exact e37.symm
    have hP' : ∀ q, PM σ0 q → lnP' (tpR σ0) (plM σ0) q = lnR (tpR σ0) (tV (tpR σ0) (tN (tpR σ0) (plM σ0))) (tN (tpR σ0) (tN (tpR σ0) (plM σ0))) q := fun q hq => by
      unfold lnP'
      rw [if_neg (fun z => z hn), if_neg (hfI q hq)]
    -- the cells at m
    have v69 : σ11 69 m = tV (tpR σ0) (tN (tpR σ0) (plM σ0)) := by
      rw [e11, hp_ne (by decide), hp_ne (by decide), hp_ne (by decide), hp_ne (by decide), R6.1 69 (by decide), hs5, hp_ne (by decide), R3.1 69 (by decide), T2.1 69 (by decide), hs1, hp_r1]; exact e9
    have v80 : σ11 80 m = r4 := by rw [e11, hp_ne (by decide), hp_ne (by decide), hp_ne (by decide), hp_ne (by decide), R6.1 80 (by decide), hs5, hp_r1]
    have v81 : σ11 81 m = r7 := by rw [e11, hp_ne (by decide), hp_ne (by decide), hp_ne (by decide), hp_r1]
    have v82 : σ11 82 m = 0 := by rw [e11, hp_ne (by decide), hp_ne (by decide), hp_r1]
    have v83 : σ11 83 m = 0 := by rw [e11, hp_ne (by decide), hp_r1]
    have v84 : σ11 84 m = 0 := by rw [e11, hp_r1]
    rcases told_out M2 y2 g3 with ⟨x, o1, o2, o3, o4⟩ | ⟨x1, o1, o2, o3⟩
    · -- no house
      have e5 : 0 < σ5 67 2 := by rw [c67, o4.1]; omega
      have e6 : σ6 = σ5 := g6.1 e5
      have x2 : σ11 67 2 = x.1 := by rw [b67, e6, c67]; exact o4.1
      have x3 : σ11 67 3 = (tS (tpR σ0) x.2 : Int) := by rw [b67, e6, c67]; exact o4.2
      refine ⟨fun z => ⟨0, by decide, rfl, L11, rfl, Or.inl ⟨by rw [x2]; omega, fun q hq => ⟨x, ?_, o2, o3, x2, x3⟩⟩⟩, fun z => absurd (by rw [x2]; exact o2) z⟩
      rw [hP' q hq]; unfold lnR; rw [o1]; rfl
    · have M5 : MT σ5 (tpR σ0) x1.2 := o3.2.2.keep (fun j _ _ => by rw [c67]) c68
      have y5 : σ5 67 2 = 0 := by rw [c67]; exact o3.1
      rcases told_out M5 y5 g6 with ⟨x, a1, a2, a3, a4⟩ | ⟨x2, a1, a2, a3⟩
      · have b2 : σ11 67 2 = x.1 := by rw [b67]; exact a4.1
        have b3 : σ11 67 3 = (tS (tpR σ0) x.2 : Int) := by rw [b67]; exact a4.2
        refine ⟨fun z => ⟨0, by decide, rfl, L11, rfl, Or.inl ⟨by rw [b2]; omega, fun q hq => ⟨x, ?_, a2, a3, b2, b3⟩⟩⟩, fun z => absurd (by rw [b2]; exact a2) z⟩
        rw [hP' q hq]; unfold lnR; rw [o1]; show oB (nmrO (tpR σ0) x1.2 426836649331 0 99) _ = _; rw [a1]; rfl
      · have M11 : MT σ11 (tpR σ0) x2.2 := a3.2.2.keep (fun j _ _ => by rw [b67]) b68
        have y11 : σ11 67 2 = 0 := by rw [b67]; exact a3.1
        have y3' : σ11 67 3 = σ0 67 3 := by rw [b67, a3.2.1, c67, o3.2.1, w3]
        have G11 : Gom σ0 σ11 (tpR σ0) x2.2 := ⟨y11, y3', M11⟩
        have R1 := nmrO_R o1
        have R2 := nmrO_R a1
        have stop : (∀ q, PM σ0 q → ¬ ((tK (tpR σ0) x2.2 = 1 ∧ tV (tpR σ0) x2.2 = 1852143475) ∧ pNn q < 4)) → ∃ n' : Nat, n' < 1 ∧ (67 : Nat) = 67 ∧ Mo_readPerson_I177 67 σ0 n' (v1 67 37) σ11 := by
          intro hno
          refine ⟨0, by decide, rfl, L11, rfl, Or.inr ⟨y11, by rw [f37]; exact r37, fun q hq => ⟨(adP q (tV (tpR σ0) (tN (tpR σ0) (plM σ0))) x1.1 x2.1 0 0 0, x2.2), ?_, G11, ?_⟩⟩⟩
          · rw [hP' q hq]; unfold lnR; rw [o1]; show oB (nmrO (tpR σ0) x1.2 426836649331 0 99) _ = _; rw [a1]; show (if _ then _ else _) = _; rw [if_neg (hno q hq)]
          · have hnq := nq q hq
            exact PM_adP (nn := 0) hq hnq P11 v69 (by rw [v80, o2]) (by rw [v81, a2]) v82 v83 v84 (by rw [f41]; simp) (ok_adP hq.1 (by omega) (hfI q hq) R1 R2 (by decide) (by decide) hq.1.1.2.2 (fun z => absurd z (by decide)))
        refine ⟨fun z => absurd y11 z, fun _ => ⟨rfl, ?_⟩⟩
        rintro r13 σ12 ⟨rfl, rfl⟩
        refine ⟨fun h13 => stop (fun q hq z => ite0 h13 ((M11.wd _).mpr z.1)), fun h13 => ⟨fun h14 => stop (fun q hq z => by have := hq.2.1.2.2.2; rw [f41] at h14; omega), fun h14 => ⟨⟨rfl, F11⟩, fun r15 σ14 g14 => ⟨r37, ?_⟩⟩⟩⟩
        have hnews := (M11.wd _).mp (ite1 h13)
        obtain ⟨R14, F14⟩ := told_go F11 g14
        intro σ16 hs16
        have hs16 : σ16 = hp σ14 82 m r15 := hs16
        have F16 : FM σ16 := by rw [hs16]; exact F14.wr (by decide) (by decide)
        have P16 : PW σ0 σ16 m := by rw [hs16]; exact (P11.rq R14).wr (Or.inr ⟨by decide, by decide⟩)
        have d67 : σ16 67 = σ14 67 := by rw [hs16, hp_ne (by decide)]
        refine ⟨⟨rfl, F16⟩, fun r18 σ17 g17 => ⟨r37, ?_⟩⟩
        obtain ⟨R17, F17⟩ := told_go F16 g17
        intro σ19 hs19 σ20 hs20
        have hs19 : σ19 = hp σ17 83 m r18 := hs19
        have q41 : σ19 67 41 = σ0 67 41 := by rw [hs19, hp_ne (by decide), R17.2 41 (by decide) (by decide) (by decide) (by decide) (by decide) (by decide) (by decide), d67, R14.2 41 (by decide) (by decide) (by decide) (by decide) (by decide) (by decide) (by decide)]; exact f41
        have e41 := hq0.2.1.2.2.2
        have h4q := hq0.1.1.2.2
        rw [q41, wr1 (by omega) (by omega)] at hs20
        have P20 : PW σ0 σ20 m := by rw [hs20, hs19]; exact ((P16.rq R17).wr (Or.inr ⟨by decide, by decide⟩)).w41
        have p67 : ∀ j, ¬ j = 41 → σ20 67 j = σ17 67 j := fun j hj => by rw [hs20, hp_r2 (fun z => hj z.2), hs19, hp_ne (by decide)]
        have p68 : σ20 68 = σ17 68 := by rw [hs20, hp_ne (by decide), hs19, hp_ne (by decide)]
        have L20 : LFr σ0 σ20 := P20.lf (by rw [p67 1 (by decide), R17.2 1 (by decide) (by decide) (by decide) (by decide) (by decide) (by decide) (by decide), d67, R14.2 1 (by decide) (by decide) (by decide) (by decide) (by decide) (by decide) (by decide)]; exact L11.2 1 (Or.inl rfl)) (by rw [p67 5 (by decide), R17.2 5 (by decide) (by decide) (by decide) (by decide) (by decide) (by decide) (by decide), d67, R14.2 5 (by decide) (by decide) (by decide) (by decide) (by decide) (by decide) (by decide)]; exact L11.2 5 (Or.inr (Or.inl rfl)))
        have hlim : ∀ q, PM σ0 q → pNn q < 4 := fun q hq => by have := hq.2.1.2.2.2; rw [f41] at h14; omega
        have hR' : ∀ q, PM σ0 q → lnP' (tpR σ0) (plM σ0) q = oB (nmrO (tpR σ0) x2.2 1852143475 0 100) fun o => oB (nmrO (tpR σ0) o.2 28518 1 20) fun a => .inr (adP q (tV (tpR σ0) (tN (tpR σ0) (plM σ0))) x1.1 x2.1 o.1 a.1 1, a.2) := fun q hq => by
          rw [hP' q hq]; unfold lnR; rw [o1]; show oB (nmrO (tpR σ0) x1.2 426836649331 0 99) _ = _; rw [a1]; show (if _ then _ else _) = _; rw [if_pos ⟨hnews, hlim q hq⟩]
        refine ⟨0, by decide, rfl, L20, rfl, ?_⟩
        rcases told_out M11 y11 g14 with ⟨x, i1, i2, i3, i4⟩ | ⟨x3, i1, i2, i3⟩
        · have e16 : 0 < σ16 67 2 := by rw [d67, i4.1]; omega
          have e17 := g17.1 e16
          have j2 : σ20 67 2 = x.1 := by rw [p67 2 (by decide), e17, d67]; exact i4.1
          have j3 : σ20 67 3 = (tS (tpR σ0) x.2 : Int) := by rw [p67 3 (by decide), e17, d67]; exact i4.2
          exact Or.inl ⟨by rw [j2]; omega, fun q hq => ⟨x, by rw [hR' q hq, i1]; rfl, i2, i3, j2, j3⟩⟩
        · have M16 : MT σ16 (tpR σ0) x3.2 := i3.2.2.keep (fun j _ _ => by rw [d67]) (by rw [hs16, hp_ne (by decide)])
          have y16 : σ16 67 2 = 0 := by rw [d67]; exact i3.1
          rcases told_out M16 y16 g17 with ⟨x, l1, l2, l3, l4⟩ | ⟨x4, l1, l2, l3⟩
          · have j2 : σ20 67 2 = x.1 := by rw [p67 2 (by decide)]; exact l4.1
            have j3 : σ20 67 3 = (tS (tpR σ0) x.2 : Int) := by rw [p67 3 (by decide)]; exact l4.2
            exact Or.inl ⟨by rw [j2]; omega, fun q hq => ⟨x, by rw [hR' q hq, i1]; show oB (nmrO (tpR σ0) x3.2 28518 1 20) _ = _; rw [l1]; rfl, l2, l3, j2, j3⟩⟩
          · have R3' := nmrO_R i1
            have R4 := nmrO_R l1
            have cc : ∀ c, ¬ c = 67 → ¬ c = 82 → ¬ c = 83 → σ20 c = σ12 c := fun c c1 c2 c3 => by rw [hs20, hp_ne c1, hs19, hp_ne c3, R17.1 c (by simp; exact c1), hs16, hp_ne c2, R14.1 c (by simp; exact c1)]
            refine Or.inr ⟨by rw [p67 2 (by decide)]; exact l3.1, by rw [P20.2 37 (by decide) (by decide)]; exact h37, fun q hq => ⟨_, by rw [hR' q hq, i1]; show oB (nmrO (tpR σ0) x3.2 28518 1 20) _ = _; rw [l1]; rfl, ⟨by rw [p67 2 (by decide)]; exact l3.1, by rw [p67 3 (by decide), l3.2.1, d67, i3.2.1]; exact y3', l3.2.2.keep (fun j j1 j2 => p67 j (by omega)) p68⟩, ?_⟩⟩
            have hnq := nq q hq
            have hl := hlim q hq
            refine PM_adP (nn := 1) hq hnq P20 (by rw [cc 69 (by decide) (by decide) (by decide)]; exact v69) (by rw [cc 80 (by decide) (by decide) (by decide), v80, o2]) (by rw [cc 81 (by decide) (by decide) (by decide), v81, a2]) ?_ ?_ (by rw [cc 84 (by decide) (by decide) (by decide)]; exact v84) (by rw [hs20, hp_r1]; rfl) (ok_adP hq.1 (by omega) (hfI q hq) R1 R2 R3' (by omega) (by omega) (fun _ => Nat.le_refl 1))
            · rw [hs20, hp_ne (by decide), hs19, hp_ne (by decide), R17.1 82 (by decide), hs16, hp_r1]; exact i2
            · rw [hs20, hp_ne (by decide), hs19, hp_r1]; exact l2
  · rcases hU with z | z
    · exact ⟨hR.lf, fun q hq => z.lo hq⟩
    · have := z.1.1; omega
theorem Mo_readPerson_p177 : Mo_readPerson_vc177 := by
  intro k σ0 hp0 n v1 σ hH hI
  obtain ⟨rfl, h0, M0, k40, h37, hq0⟩ := hp0
  obtain ⟨hL, rfl, hU⟩ := hI
  refine ⟨fun h => ?_, fun h => ?_⟩
  · rcases hU with z | z
    · exact ⟨hL, fun q hq => z.lo hq⟩
    · exact absurd z.1 h
  · obtain ⟨z2, z37, z3⟩ : σ 67 2 = 0 ∧ (0 ≤ σ 67 37 ∧ σ 67 37 < 6) ∧ ∀ q, PM σ0 q → ∃ x, lnP' (tpR σ0) (plM σ0) q = .inr x ∧ Gom σ0 σ (tpR σ0) x.2 ∧ PM (hp σ 67 37 (σ 67 37 + 1)) x.1 := by
      rcases hU with z | z
      · have := z.1; omega
      · exact z
    intro σ1 hs1
    rw [wr1 (by omega) (by omega)] at hs1
    refine ⟨by rw [hs1]; exact hL.hp (by simp [rcs]) (fun _ z => by unfold rfx at z; omega), fun q hq => ?_⟩
    obtain ⟨x, e, ⟨g1, g2, g3⟩, g4⟩ := z3 q hq
    unfold LOm outM
    rw [e]
    refine ⟨⟨by rw [hs1, hp_r2 (by decide)]; exact g1, by rw [hs1, hp_r2 (by decide)]; exact g2, g3.keep (fun j j1 j2 => by rw [hs1, hp_r2 (fun z => by omega)]) (by rw [hs1, hp_ne (by decide)])⟩, by rw [hs1]; exact g4⟩
def Mo_readPerson_I : List AV → Hp → Nat → Nat → List AV → List AV → Hp → Prop := fun as σ0 pc n st ls σ => (match as with
    | [.inr (.inr (.inl (k, 0, 9)))] => (bif Nat.beq pc 31 then (match st, ls with
      | [], [.inr (.inr (.inl (k', 0, 9))), _] => k = k' ∧ Mo_readPerson_I31 k σ0 n σ
      | _, _ => False) else (bif Nat.beq pc 177 then (match st, ls with
      | [], [.inr (.inr (.inl (k', 0, 9))), .inl v1] => k = k' ∧ Mo_readPerson_I177 k σ0 n v1 σ
      | _, _ => False) else False))
    | _ => False)
def Mo_readPerson_ct : Nat → Ct := fun n => match n with
  | 0 => Mo_token_cs
  | 1 => Mo_isName_cs
  | 2 => Mo_wrong_cs
  | 3 => Mo_find_cs
  | 4 => Mo_told_cs
  | 5 => Mo_isWord_cs
  | _ => Mo_readPerson_cs
set_option maxRecDepth 20000 in
set_option maxHeartbeats 4000000 in
theorem Mo_readPerson_met {l : Launch} {D : va_G} {ad : Nat → Nat} {ca : Nat → ClassId} {L : Nat} {fx : Nat → Int} : ax_MC l D ad ca L fx yX9_readPerson cX9_readPerson 2 none 5 Mo_readPerson_cs := by
  refine ax_met (oc := 9) (ct := Mo_readPerson_ct) (calls := Mo_readPerson_cl) (bs := Mo_readPerson_bk) (cut := fun pc => Nat.beq pc 31 || Nat.beq pc 177) (f := 7) (I := Mo_readPerson_I) (by decide) rfl rfl Mo_readPerson_ck (List.forall_mem_cons.mpr ⟨ax_cwV Mo_token_met (by decide) (by decide) rfl (by decide) rfl (ax_m6 145 (by decide +kernel) rfl) Mo_token_w rfl Mo_token_ds, List.forall_mem_cons.mpr ⟨ax_cwV Mo_isName_met (by decide) (by decide) rfl (by decide) rfl (ax_m6 175 (by decide +kernel) rfl) Mo_isName_w rfl Mo_isName_ds, List.forall_mem_cons.mpr ⟨ax_cwV Mo_wrong_met (by decide) (by decide) rfl (by decide) rfl (ax_m6 199 (by decide +kernel) rfl) Mo_wrong_w rfl Mo_wrong_ds, List.forall_mem_cons.mpr ⟨ax_cwV Mo_find_met (by decide) (by decide) rfl (by decide) rfl (ax_m6 203 (by decide +kernel) rfl) Mo_find_w rfl Mo_find_ds, List.forall_mem_cons.mpr ⟨ax_cwV Mo_told_met (by decide) (by decide) rfl (by decide) rfl (ax_m6 207 (by decide +kernel) rfl) Mo_told_w rfl Mo_told_ds, List.forall_mem_cons.mpr ⟨ax_cwV Mo_isWord_met (by decide) (by decide) rfl (by decide) rfl (ax_m6 167 (by decide +kernel) rfl) Mo_isWord_w rfl Mo_isWord_ds, fun _ h => absurd h List.not_mem_nil⟩⟩⟩⟩⟩⟩) ?_ ?_
  · intro as σ0 hp hH
    match as, hp with
    | [.inr (.inr (.inl (k, 0, 9)))], hp => exact ⟨rfl, Mo_readPerson_p k σ0 hH hp⟩
  · intro as σ0 hp n pc st ls σ hH hI
    match as, hp, hI with
    | [.inr (.inr (.inl (k, 0, 9)))], hp, hI =>
      rcases ax_bifE hI with ⟨hpc, hI⟩ | ⟨-, hI⟩
      · have := Nat.eq_of_beq_eq_true hpc
        subst this
        match st, ls, hI with
        | [], [.inr (.inr (.inl (k', 0, 9))), _], hI =>
          obtain ⟨rfl, hI⟩ := hI
          exact Mo_readPerson_p31 k σ0 hp n σ hH hI
      rcases ax_bifE hI with ⟨hpc, hI⟩ | ⟨-, hI⟩
      · have := Nat.eq_of_beq_eq_true hpc
        subst this
        match st, ls, hI with
        | [], [.inr (.inr (.inl (k', 0, 9))), .inl v1], hI =>
          obtain ⟨rfl, hI⟩ := hI
          exact Mo_readPerson_p177 k σ0 hp n v1 σ hH hI
      exact False.elim hI

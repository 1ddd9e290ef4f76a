-- THE CALLS HAVE ONE ANSWER
def Un (S : Int → AS → Prop) : Prop := ∀ r A r' A', S r A → S r' A' → r = r' ∧ A = A'
theorem un_ite {c : Prop} [Decidable c] {a a' : Int} {b b' : AS} : Un (fun r A => if c then r = a ∧ A = b else r = a' ∧ A = b') := by
  intro r A r' A' h g
  by_cases z : c
  · rw [if_pos z] at h g; exact ⟨h.1.trans g.1.symm, h.2.trans g.2.symm⟩
  · rw [if_neg z] at h g; exact ⟨h.1.trans g.1.symm, h.2.trans g.2.symm⟩
theorem un_Ob {A0 : AS} {Q : Int → Prop} (h : ∀ r r', Q r → Q r' → r = r') : Un (Ob A0 Q) := fun _ _ _ _ a b => ⟨h _ _ a.2 b.2, a.1.trans b.1.symm⟩
theorem un_eq {A0 : AS} {x : Int} : Un (Ob A0 (fun r => r = x)) := un_Ob (fun _ _ a b => a.trans b.symm)
theorem un_if {A0 : AS} {c : Prop} [Decidable c] {P : Int → Prop} {x : Int} (h : ∀ r r', P r → P r' → r = r') : Un (Ob A0 (fun r => if c then P r else r = x)) := by
  refine un_Ob (fun r r' a b => ?_)
  by_cases z : c
  · rw [if_pos z] at a b; exact h r r' a b
  · rw [if_neg z] at a b; exact a.trans b.symm
theorem uq_feed (A : AS) (a b c d e : Int) : Un (s_feed A a b c d e) := un_ite
theorem uq_end (A : AS) (a : Int) : Un (s_end A a) := un_ite
theorem uq_family (A : AS) : Un (s_family A) := by
  rintro r A1 r' A1' ⟨o, h1, h2⟩ ⟨o', g1, g2⟩
  have e := h1.uniq g1
  subst e
  cases o with
  | inl x => exact ⟨h2.1.trans g2.1.symm, h2.2.trans g2.2.symm⟩
  | inr x => exact ⟨h2.1.trans g2.1.symm, h2.2.trans g2.2.symm⟩
theorem uq_fault (A : AS) (a : Int) : Un (s_fault A a) := un_eq
theorem uq_person (A : AS) (a b : Int) : Un (s_person A a b) := un_eq
theorem uq_hair (A : AS) : Un (s_hair A) := un_eq
theorem uq_day (A : AS) : Un (s_day A) := un_ite
theorem uq_ease (A : AS) (a b : Int) : Un (s_ease A a b) := un_ite
theorem uq_take (A : AS) (a b : Int) : Un (s_take A a b) := un_ite
theorem uq_tell (A : AS) (a b : Int) : Un (s_tell A a b) := un_ite
theorem uq_forget (A : AS) (a b : Int) : Un (s_forget A a b) := un_ite
theorem uq_pluck (A : AS) : Un (s_pluck A) := un_ite
theorem uq_dye (A : AS) : Un (s_dye A) := un_ite
theorem uq_undo (A : AS) : Un (s_undo A) := by
  intro r A1 r' A1' h g
  unfold s_undo at h g
  by_cases z : (aH A).1 = []
  · rw [if_pos z] at h g; exact ⟨h.1.trans g.1.symm, h.2.trans g.2.symm⟩
  · rw [if_neg z] at h g
    obtain ⟨h1, t, h2, h3⟩ := h
    obtain ⟨g1, t', g2, g3⟩ := g
    rw [h2] at g2
    injection g2 with g2
    rw [h1, g1, h3, g3, g2]
    exact ⟨rfl, rfl⟩
theorem uq_redo (A : AS) : Un (s_redo A) := by
  intro r A1 r' A1' h g
  unfold s_redo at h g
  cases hz : (aH A).2 with
  | nil => rw [hz] at h g; exact ⟨h.1.trans g.1.symm, h.2.trans g.2.symm⟩
  | cons t R => rw [hz] at h g; exact ⟨h.1.trans g.1.symm, h.2.trans g.2.symm⟩
theorem uq_will (A : AS) (a : Int) : Un (s_will A a) := un_eq
theorem uq_cares (A : AS) (a b : Int) : Un (s_cares A a b) := un_eq
theorem uq_next (A : AS) : Un (s_next A) := un_eq
theorem uq_spare (A : AS) (a b c : Int) : Un (s_spare A a b c) := un_if (fun _ _ h g => SpR.uniq h g)
theorem uq_easing (A : AS) (a : Int) : Un (s_easing A a) := un_if (fun _ _ h g => Lst.uniq h g)
theorem uq_hush (A : AS) (a : Int) : Un (s_hush A a) := un_if (fun r r' h g => by
  obtain ⟨v, h1, h2⟩ := h
  obtain ⟨v', g1, g2⟩ := g
  rw [h2, g2, h1.uniq g1])
theorem uq_knows (A : AS) (a b : Int) : Un (s_knows A a b) := un_if (fun r r' h g => by
  rcases h with ⟨p, o, h1, h2, h3, h4, h5⟩ | ⟨h1, h2⟩
  · rcases g with ⟨p', o', g1, g2, g3, g4, g5⟩ | ⟨g1, g2⟩
    · obtain ⟨e1, e2⟩ := ix_inj (w := (aS A).2.1) (by omega) (by omega) h3 g3 (by omega)
      rw [h5, g5, e1, e2]
    · exact absurd h4 (g2 p o h1 h2 h3)
  · rcases g with ⟨p', o', g1, g2, g3, g4, g5⟩ | ⟨g1, g2⟩
    · exact absurd g4 (h2 p' o' g1 g2 g3)
    · rw [h1, g1])
theorem uq_wed (A : AS) (hn : fN (aF A) ≤ 6) : Un (s_wed A) := by
  rintro r A1 r' A1' ⟨u, h1, h2⟩ ⟨v, g1, g2⟩
  obtain ⟨e1, e2⟩ := WedR.uniq hn h1 g1
  subst e1
  refine ⟨rfl, ?_⟩
  rw [h2, g2]
  by_cases z : r = -1
  · rw [if_pos z, if_pos z]
  · rw [if_neg z, if_neg z, tr_ext (e2 z)]
theorem uq_nights (A : AS) (a b : Int) : Un (s_nights A a b) := un_eq
theorem uq_returns (A : AS) (a : Int) : Un (s_returns A a) := un_if (fun _ _ h g => Ls1.uniq h g)
theorem uq_rank (A : AS) : Un (s_rank A) := by
  rintro r A1 r' A1' ⟨u, h1, h2, h3⟩ ⟨v, g1, g2, g3⟩
  refine ⟨h2.trans g2.symm, ?_⟩
  rw [h3, g3, tr_ext (Rnk.uniq h1 g1)]
theorem uq_words (A : AS) : Un (s_words A) := un_eq
theorem uq_peace (A : AS) : Un (s_peace A) := un_Ob (fun r r' h g => by
  by_cases z : (aS A).2.2.1 = -1
  · rw [if_pos z] at h g; exact h.trans g.symm
  · rw [if_neg z] at h g; exact Ls1.uniq h g)
theorem uq_burden (A : AS) (a : Int) : Un (s_burden A a) := un_eq
theorem uq_calm (A : AS) : Un (s_calm A) := un_eq
theorem uq_law (A : AS) (a : Int) : Un (s_law A a) := un_eq
theorem uq_odds (A : AS) (a b : Int) : Un (s_odds A a b) := un_eq
theorem DlF_u {W : Nat → Int} {a b : Int} {n : Nat} {L K : Nat → Int} (h0 : ¬ crs W a b n = 0) (h : DlF W a b n L) (g : DlF W a b n K) (hm : ∀ i j, i < j → rsB W a b (i / 10) (i % 10) = true → ¬ crs W a b j = 0) : ∀ i, i < 2 → L i = K i := by
  rcases h with h | ⟨i, h1, h2, h3, h4, h5⟩
  · exact absurd h h0
  rcases g with g | ⟨j, g1, g2, g3, g4, g5⟩
  · exact absurd g h0
  have e : i = j := by
    rcases Nat.lt_trichotomy i j with z | z | z
    · exact absurd g3 (hm i j z h2)
    · exact z
    · exact absurd h3 (hm j i z g2)
  subst e
  intro k hk
  rcases (show k = 0 ∨ k = 1 by omega) with rfl | rfl
  · rw [h4, g4]
  · rw [h5, g5]
theorem uq_duel (A : AS) (a b : Int) : Un (s_duel A a b) := by
  intro r A1 r' A1' h g
  unfold s_duel at h g
  by_cases z : two A a b
  · rw [if_pos z] at h g
    obtain ⟨h1, L, h2, h3⟩ := h
    obtain ⟨g1, K, g2, g3⟩ := g
    have e : r = r' := h1.trans g1.symm
    subst e
    refine ⟨rfl, ?_⟩
    rw [h3, g3]
    by_cases y : r = 0
    · rw [if_pos y, if_pos y]
    · rw [if_neg y, if_neg y, tr_ext (DlF_u (by omega) h2 g2 (fun i j hij hr hc => ?_))]
      have := crs_mono (dlW (aF A) (aS A) a.toNat b.toNat) a b (i := i + 1) (j := j) (by omega)
      rw [crs_s, if_pos hr] at this
      omega
  · rw [if_neg z] at h g; exact ⟨h.1.trans g.1.symm, h.2.trans g.2.symm⟩
theorem uq_path (A : AS) (a : Int) : Un (s_path A a) := un_ite
theorem uq_silence (A : AS) (a b : Int) : Un (s_silence A a b) := un_if (fun r r' h g => by
  obtain ⟨v, h1, h2⟩ := h
  obtain ⟨v', g1, g2⟩ := g
  rw [h2, g2, h1.uniq g1])
theorem uq_alone (A : AS) : Un (s_alone A) := un_eq
theorem uq_heaviest (A : AS) : Un (s_heaviest A) := un_eq
theorem uq_lies (A : AS) (a : Int) : Un (s_lies A a) := un_eq
theorem uq_seen (A : AS) (a b c : Int) : Un (s_seen A a b c) := un_ite
theorem uq_untell (A : AS) (a : Int) : Un (s_untell A a) := un_ite
theorem uq_later (A : AS) (a : Int) : Un (s_later A a) := un_ite
theorem uq_fits (A : AS) (a : Int) : Un (s_fits A a) := un_eq
theorem uq_sure (A : AS) (a b : Int) : Un (s_sure A a b) := un_Ob (fun r r' h g => by
  by_cases z : a = 0
  · rw [if_pos z] at h g; exact Lst.uniq h g
  · rw [if_neg z] at h g
    by_cases y : a = 1
    · rw [if_pos y] at h g; exact Gst.uniq h g
    · rw [if_neg y] at h g; exact h.trans g.symm)
theorem uq_ask (A : AS) (a b : Int) : Un (s_ask A a b) := un_eq
theorem uq_image (A : AS) (a : Int) : Un (s_image A a) := un_ite
theorem uq_back (A : AS) (a : Int) : Un (s_back A a) := by
  intro r A1 r' A1' h g
  unfold s_back at h g
  cases hz : (if 0 ≤ a ∧ a < 3 then aX A a.toNat else none) with
  | none => rw [hz] at h g; exact ⟨h.1.trans g.1.symm, h.2.trans g.2.symm⟩
  | some t => rw [hz] at h g; exact ⟨h.1.trans g.1.symm, h.2.trans g.2.symm⟩
theorem uq_about (A : AS) (a : Int) : Un (s_about A a) := un_eq
-- both sides
theorem M_ext {σ σ' : Hp} (hX : MIr σ) (e : ∀ c, 67 ≤ c → σ' c = σ c) : MIr σ' ∧ ∀ d, mA d σ' = mA d σ := by
  obtain ⟨h1, h2, h3, h4, h5, h6⟩ := hX
  have e67 := e 67 (by omega)
  have K := h1.keep (σ' := σ') (by rw [e67]) (by rw [e67]) (by rw [e67]) (fun c z => e c (by omega))
  refine ⟨⟨K.1, by rw [e67]; exact h2, by rw [e 68 (by omega)]; exact h3, by rw [e67]; exact h4, by rw [e67]; exact h5, by rw [e67]; exact h6⟩, fun d => ?_⟩
  have eX : bxM σ' = bxM σ := by funext i; unfold bxM; rw [e 106 (by omega), e 107 (by omega)]
  unfold mA tpM hstM sgM lsM nowM
  rw [e67, K.2 d, e 68 (by omega), e 90 (by omega), e 93 (by omega), eX, e 97 (by omega), e 99 (by omega), e 100 (by omega), e 101 (by omega), e 102 (by omega), e 103 (by omega)]
theorem X_ext {σ σ' : Hp} (hX : XIr σ) (e : ∀ c, c < 67 → σ' c = σ c) : XIr σ' ∧ xA σ' = xA σ := by
  obtain ⟨h1, h2, h3, h4, h5, h6, h7, h8⟩ := hX
  have hfo := FO_35 h1.fo
  have e0 := e 0 (by omega)
  have et : tld σ' = tld σ := by unfold tld; rw [e0]
  have hK : FK (tld σ) σ σ' := ⟨e _ (by omega), fun d _ _ => e _ (by omega), e _ (by omega), e _ (by omega), e _ (by omega), e _ (by omega)⟩
  have e1 := e 1 (by omega)
  have eB : tpX σ' = tpX σ := tpX_eq (by rw [e1]) (e 2 (by omega))
  have eh : hst σ' = hst σ := by funext i; unfold hst; rw [e 14 (by omega), e 15 (by omega)]
  have es : stX σ' 31 = stX σ 31 := stX_eq (fun d hd => e _ (by omega))
  refine ⟨⟨?_, ?_, ?_, ?_, ?_, ?_, ?_, ?_⟩, ?_⟩
  · unfold TD; rw [e0]; exact h1
  · unfold RT; rw [e1]; exact h2
  · rw [et]; exact hK.fs h3
  · unfold HO; rw [e 14 (by omega)]; exact h4
  · rw [e 19 (by omega)]; exact h5
  · unfold HM HT; rw [et, hK.fam, e 19 (by omega), e 28 (by omega)]; exact h6
  · rw [e0]; exact h7
  · rw [e 14 (by omega), eh, es]; exact h8
  · unfold xA
    rw [eB, e1, et, hK.fam, es, e0, e 34 (by omega)]
    have eH : hstL σ' = hstL σ := by unfold hstL; rw [eh, e 14 (by omega)]
    have eX : bxX σ' = bxX σ := by funext i; unfold bxX; rw [e 18 (by omega), e 17 (by omega)]
    have eG : sgX σ' = sgX σ := by unfold sgX; rw [e 19 (by omega), e 20 (by omega), e 21 (by omega), e 22 (by omega), e 23 (by omega), e 24 (by omega)]
    rw [eH, eX, eG]
def LI (d : Int) (σ : Hp) : Prop := XIr σ ∧ MIr σ ∧ WA (xA σ) ∧ xA σ = mA d σ
theorem LI.xp {d : Int} {σ : Hp} (h : LI d σ) : XP σ := ⟨h.1, h.2.2.1⟩
theorem LI.mp {d : Int} {σ σ1 : Hp} (h : LI d σ) (g : XQ σ σ1) : MP σ1 := by
  obtain ⟨a, b⟩ := M_ext h.2.1 (fun c hc => g.2 c hc)
  exact ⟨a, d, by rw [b d, ← h.2.2.2]; exact h.2.2.1⟩
theorem agree {S : AS → Int → AS → Prop} {d d' : Int} {σ σ1 σ2 : Hp} {r r2 : Int} (L : LI d σ) (hu : WA (xA σ) → Un (S (xA σ))) (hw : ∀ r A', WA (xA σ) → S (xA σ) r A' → WA A') (g1 : XQ σ σ1 ∧ S (xA σ) r (xA σ1)) (g2 : MQo σ1 σ2) (g3 : S (mA d σ1) r2 (mA d' σ2)) : r = r2 ∧ LI d' σ2 := by
  obtain ⟨l1, l2, l3, l4⟩ := L
  obtain ⟨x1, x2⟩ := g1
  have em := (M_ext l2 (fun c hc => x1.2 c hc)).2 d
  rw [em, ← l4] at g3
  obtain ⟨e1, e2⟩ := hu l3 _ _ _ _ x2 g3
  obtain ⟨y1, y2⟩ := X_ext x1.1 (fun c hc => g2.2 c hc)
  exact ⟨e1, y1, g2.1, by rw [y2]; exact hw _ _ l3 x2, by rw [y2]; exact e2⟩
theorem w_Ob {A0 : AS} {Q : Int → Prop} {r : Int} {A' : AS} (h : WA A0) (g : Ob A0 Q r A') : WA A' := by rw [g.1]; exact h

-- THE MODEL'S READER: who knows of whom
def lnK' (B : Tp) (p : Nat) (q : PS) : Oc (PS × Nat) := oB (fnO B (tN B p) q) fun a => oB (fnO B (tN B (tN B p)) q) fun b =>
    if a = b ∨ bt (pKn q a) b = true then .inl (3, tN B (tN B p)) else .inr (adK q a b, tN B (tN B (tN B p)))
theorem lnK_eq {B : Tp} {p : Nat} {q : PS} (h : pNk q < 12) : lnK B p q = oB (lnK' B p q) (sgE B) := by
  unfold lnK lnK'
  rw [if_neg (show ¬ 12 ≤ pNk q by omega), oB_oB]
  congr 1
  funext a
  rw [oB_oB]
  congr 1
  funext b
  by_cases h1 : a = b ∨ bt (pKn q a) b = true
  · rw [if_pos h1, if_pos h1]; rfl
  · rw [if_neg h1, if_neg h1]; rfl
def Mo_readKnows_pre (k : Nat) (σ : Hp) : Prop := k = 67 ∧ σ 67 2 = 0 ∧ MT σ (tpR σ) (plM σ) ∧ ¬ tK (tpR σ) (plM σ) = 4 ∧ ∃ q, PM σ q ∧ pNk q < 12
def Mo_readKnows_post (_k : Nat) (σ σ' : Hp) : Prop := LFr σ σ' ∧ ∀ q, PM σ q → LOm σ σ' (lnK' (tpR σ) (plM σ) q)
def Mo_readKnows_I20 (_k : Nat) (σ0 : Hp) (n : Nat) (v1 : Int) (σ : Hp) : Prop := RQ σ0 σ ∧ n = 1 ∧ ((v1 = 0 ∧ flO σ0 σ (lnK' (tpR σ0) (plM σ0))) ∨ (0 ≤ v1 ∧ v1 < σ0 67 37 ∧ Gom σ0 σ (tpR σ0) (tN (tpR σ0) (tN (tpR σ0) (plM σ0))) ∧ ∀ q, PM σ0 q → fnO (tpR σ0) (tN (tpR σ0) (plM σ0)) q = .inr v1.toNat))
def Mo_readKnows_I56 (_k : Nat) (σ0 : Hp) (n : Nat) (v1 v2 : Int) (σ : Hp) : Prop := RQ σ0 σ ∧ n = 0 ∧ (flO σ0 σ (lnK' (tpR σ0) (plM σ0)) ∨ ((0 ≤ v1 ∧ v1 < σ0 67 37) ∧ (0 ≤ v2 ∧ v2 < σ0 67 37) ∧ Gom σ0 σ (tpR σ0) (tN (tpR σ0) (tN (tpR σ0) (plM σ0))) ∧ tK (tpR σ0) (tN (tpR σ0) (tN (tpR σ0) (plM σ0))) = 1 ∧ ∀ q, PM σ0 q → ¬ (v1.toNat = v2.toNat ∨ bt (pKn q v1.toNat) v2.toNat = true) ∧ lnK' (tpR σ0) (plM σ0) q = .inr (adK q v1.toNat v2.toNat, tN (tpR σ0) (tN (tpR σ0) (tN (tpR σ0) (plM σ0))))))
def Mo_readKnows_bk : List (Nat × List Item) := [(0, [(.aload_n 0, 1, [], []), (.invokevirtual 227, 3, [0], []), (.aload_n 0, 1, [], []), (.invokevirtual 321, 3, [1], []), (.istore_n 1, 1, [], []), (.aload_n 0, 1, [], []), (.getfield 179, 3, [9, 2, 0, 0, 0, 0], []), (.ifCond .ne 7, 3, [20], []), (.aload_n 0, 1, [], []), (.invokevirtual 227, 3, [0], [])]),
  (20, [(.aload_n 0, 1, [], []), (.invokevirtual 321, 3, [1], []), (.istore_n 2, 1, [], []), (.aload_n 0, 1, [], []), (.getfield 179, 3, [9, 2, 0, 0, 0, 0], []), (.ifCond .ne 27, 3, [56], []), (.iload_n 1, 1, [], []), (.iload_n 2, 1, [], []), (.if_icmp .eq 17, 3, [51], []), (.aload_n 0, 1, [], []), (.getfield 64, 3, [9, 31, 4, 17, 1, 6], []), (.iload_n 1, 1, [], []), (.iaload, 1, [], []), (.iload_n 2, 1, [], []), (.ishr, 1, [], []), (.iconst 1, 1, [], []), (.iand, 1, [], []), (.iconst 1, 1, [], []), (.if_icmp .ne 8, 3, [56], [])]),
  (51, [(.aload_n 0, 1, [], []), (.iconst 3, 1, [], []), (.invokevirtual 224, 3, [2], [])]),
  (56, [(.aload_n 0, 1, [], []), (.getfield 179, 3, [9, 2, 0, 0, 0, 0], []), (.ifCond .le 4, 3, [64], []), (.return_, 1, [], [])]),
  (64, [(.aload_n 0, 1, [], []), (.getfield 64, 3, [9, 31, 4, 17, 1, 6], []), (.iload_n 1, 1, [], []), (.dup2, 1, [], []), (.iaload, 1, [], []), (.iconst 1, 1, [], []), (.iload_n 2, 1, [], []), (.ishl, 1, [], []), (.ior, 1, [], []), (.iastore, 1, [], []), (.aload_n 0, 1, [], []), (.dup, 1, [], []), (.getfield 324, 3, [9, 38, 0, 0, 0, 0], []), (.iconst 1, 1, [], []), (.iadd, 1, [], []), (.putfield 324, 3, [9, 38, 0, 0, 0, 0], []), (.aload_n 0, 1, [], []), (.invokevirtual 227, 3, [0], []), (.return_, 1, [], [])])]
def Mo_readKnows_cl : List (Instr × Nat) := [(.invokevirtual 227, 0), (.invokevirtual 321, 1), (.invokevirtual 224, 2)]
set_option maxRecDepth 20000 in
theorem Mo_readKnows_ck : Mo_readKnows_bk.all (fun b => ax_chB 9 3 cX9_readKnows Mo_readKnows_cl b.1 b.2) = true := by decide +kernel
def Mo_readKnows_cs : Ct := (1, 10, 0, (0, 0), fun as σ => (match as with
    | [.inr (.inr (.inl (k, 0, 9)))] => Mo_readKnows_pre k σ
    | _ => False), fun as σ r σ' => (match as with
    | [.inr (.inr (.inl (k, 0, 9)))] => Mo_readKnows_post k σ σ'
    | _ => False))
theorem Mo_readKnows_w : ∀ w ∈ ([.instanceMethod yX9_readKnows, .selects yX9_readKnows.cls yX9_readKnows yX9_readKnows, .initialized yX9_readKnows.cls, .code yX9_readKnows cX9_readKnows 3 none] : List Cond), w ∈ ax_tb := ax_w4 (ax_m6 221 (by decide +kernel) rfl) (ax_m0 20 (by decide +kernel) rfl) (ax_m1 10 (by decide +kernel) rfl) (ax_m6 222 (by decide +kernel) rfl)
theorem Mo_readKnows_ds : yX9_readKnows.cls ≠ "java/lang/invoke/MethodHandle" ∧ yX9_readKnows.cls ≠ "java/lang/invoke/VarHandle" ∧ (parseMethodDescriptor yX9_readKnows.desc).map (fun d => d.parameters.length) = some 0 := by decide +kernel
def Mo_readKnows_vc : Prop := ∀ (k : Nat) (σ : Hp), ax_H σ → Mo_readKnows_pre k σ →
  Mo_token_pre k σ ∧
  ∀ σ1 : Hp, Mo_token_post k σ σ1 →
  Mo_oldPerson_pre k σ1 ∧
  ∀ (r3 : Int) (σ2 : Hp), Mo_oldPerson_post k σ1 r3 σ2 →
  (¬ σ2 k 2 = 0 →
    ∃ n' : Nat, k = k ∧ Mo_readKnows_I20 k σ n' r3 σ2) ∧
  (¬ (¬ σ2 k 2 = 0) →
    Mo_token_pre k σ2 ∧
    ∀ σ4 : Hp, Mo_token_post k σ2 σ4 →
    ∃ n' : Nat, k = k ∧ Mo_readKnows_I20 k σ n' r3 σ4)
def Mo_readKnows_vc20 : Prop := ∀ (k : Nat) (σ0 : Hp), Mo_readKnows_pre k σ0 → ∀ (n : Nat) (v1 : Int) (σ : Hp), ax_H σ → Mo_readKnows_I20 k σ0 n v1 σ →
  Mo_oldPerson_pre k σ ∧
  ∀ (r2 : Int) (σ1 : Hp), Mo_oldPerson_post k σ r2 σ1 →
  (¬ σ1 k 2 = 0 →
    ∃ n' : Nat, n' < n ∧ k = k ∧ Mo_readKnows_I56 k σ0 n' v1 r2 σ1) ∧
  (¬ (¬ σ1 k 2 = 0) →
    (v1 = r2 →
      Mo_wrong_pre k 3 σ1 ∧
      ∀ σ3 : Hp, Mo_wrong_post k 3 σ1 σ3 →
      ∃ n' : Nat, n' < n ∧ k = k ∧ Mo_readKnows_I56 k σ0 n' v1 r2 σ3) ∧
    (¬ (v1 = r2) →
      (0 ≤ v1 ∧ v1 < 6) ∧
      (¬ iAnd (iShr (σ1 (k + 17) v1.toNat) r2) 1 = 1 →
        ∃ n' : Nat, n' < n ∧ k = k ∧ Mo_readKnows_I56 k σ0 n' v1 r2 σ1) ∧
      (¬ (¬ iAnd (iShr (σ1 (k + 17) v1.toNat) r2) 1 = 1) →
        Mo_wrong_pre k 3 σ1 ∧
        ∀ σ4 : Hp, Mo_wrong_post k 3 σ1 σ4 →
        ∃ n' : Nat, n' < n ∧ k = k ∧ Mo_readKnows_I56 k σ0 n' v1 r2 σ4)))
def Mo_readKnows_vc56 : Prop := ∀ (k : Nat) (σ0 : Hp), Mo_readKnows_pre k σ0 → ∀ (n : Nat) (v1 : Int) (v2 : Int) (σ : Hp), ax_H σ → Mo_readKnows_I56 k σ0 n v1 v2 σ →
  (σ k 2 ≤ 0 →
    (0 ≤ v1 ∧ v1 < 6) ∧
    (0 ≤ v1 ∧ v1 < 6) ∧
    ∀ σ1 : Hp, σ1 = hp σ (k + 17) v1.toNat (iOr (σ (k + 17) v1.toNat) (iShl 1 v2)) →
    ∀ σ2 : Hp, σ2 = hp σ1 k 38 (wr ((σ1 k 38) + 1)) →
    Mo_token_pre k σ2 ∧
    ∀ σ3 : Hp, Mo_token_post k σ2 σ3 →
    Mo_readKnows_post k σ0 σ3) ∧
  (¬ (σ k 2 ≤ 0) →
    Mo_readKnows_post k σ0 σ)
theorem fn_ok {σ0 σ : Hp} {B : Tp} {p : Nat} {q : PS} {i : Nat} (hq : PM σ0 q) (hR : RQ σ0 σ) (hn : nmB B p) (hi : i < (σ0 67 37).toNat) (e : σ 69 i = tV B p) : fnO B p q = .inr i := by
  have e37 := hq.2.1.1
  have e69 : σ0 69 i = pNm q i := (hq.2.1.2.1 i (by omega)).1
  have : fI (pNm q) (tV B p) (pN q) = (i : Int) := fI_of.2.1 i (by omega) (by rw [← e69, ← hR.1 69 (by decide)]; exact e) hq.1.2.2.2.2.2.2.2.2
  unfold fnO
  rw [if_pos hn, this, if_pos (by omega)]
  simp
theorem fn_5 {σ0 σ : Hp} {B : Tp} {p : Nat} {q : PS} (hq : PM σ0 q) (hR : RQ σ0 σ) (hn : nmB B p) (h : ∀ j, j < (σ0 67 37).toNat → ¬ σ 69 j = tV B p) : fnO B p q = .inl (5, p) := by
  have e37 := hq.2.1.1
  have : fI (pNm q) (tV B p) (pN q) = -1 := fI_of.1 (fun j hj z => h j (by omega) (by rw [hR.1 69 (by decide), (hq.2.1.2.1 j hj).1]; exact z))
  unfold fnO
  rw [if_pos hn, this, if_neg (by decide)]
theorem fn_no {B : Tp} {p : Nat} {q : PS} (hn : ¬ nmB B p) : fnO B p q = .inl (rfc B p, p) := by
  unfold fnO
  rw [if_neg hn]
theorem Mo_readKnows_p : Mo_readKnows_vc := by
  intro k σ hH hp0
  obtain ⟨rfl, h0, M, k4, q0, hq0, h12⟩ := hp0
  have e37 := hq0.2.1.1
  have h6 := hq0.1.1.1
  obtain ⟨t1, t2⟩ := M.tok k4
  refine ⟨t1, fun σ1 g1 => ?_⟩
  obtain ⟨T1, M1⟩ := t2 σ1 g1
  have z2 : σ1 67 2 = 0 := by rw [T1.2 2 (by decide) (by decide) (by decide) (by decide) (by decide)]; exact h0
  have f37 : σ1 67 37 = σ 67 37 := T1.2 37 (by decide) (by decide) (by decide) (by decide) (by decide)
  refine ⟨⟨rfl, FM.ofM z2 M1, by omega, by omega⟩, fun r3 σ2 g2 => ?_⟩
  obtain ⟨R2, hc⟩ := g2.2 _ _ M1 z2
  rw [f37] at hc
  have RR := T1.rq.tr R2
  rcases hc with ⟨hn, rfl, i, i1, i2, i3⟩ | ⟨hn, hno, hr, hf⟩ | ⟨hn, hr, hf⟩
  · refine ⟨fun z => absurd z2 z, fun _ => ?_⟩
    obtain ⟨u1, u2⟩ := M1.tok (by have := hn.1; omega)
    refine ⟨u1, fun σ4 g4 => ?_⟩
    obtain ⟨T4, M4⟩ := u2 σ4 g4
    refine ⟨1, rfl, RR.tr T4.rq, rfl, Or.inr ⟨by omega, by omega, ?_, fun q hq => ?_⟩⟩
    · exact ⟨by rw [T4.2 2 (by decide) (by decide) (by decide) (by decide) (by decide)]; exact z2, by rw [T4.2 3 (by decide) (by decide) (by decide) (by decide) (by decide)]; exact T1.2 3 (by decide) (by decide) (by decide) (by decide) (by decide), M4⟩
    · rw [i2, Int.toNat_natCast]; exact fn_ok hq RR hn i1 i3
  · have n5 : σ2 67 2 = 5 := hf.1
    refine ⟨fun z => ⟨1, rfl, RR, rfl, Or.inl ⟨hr, by omega, fun q hq => ⟨(5, tN (tpR σ) (plM σ)), ?_, by show ¬ (5 : Int) = 0; decide, by show (0 : Int) ≤ 5; decide, hf.1, hf.2⟩⟩⟩, fun z => absurd (by omega) z⟩
    unfold lnK'
    rw [fn_5 hq T1.rq hn hno]; rfl
  · have n5 : σ2 67 2 = rfc (tpR σ) (tN (tpR σ) (plM σ)) := hf.1
    have := rfc_p (tpR σ) (tN (tpR σ) (plM σ))
    refine ⟨fun z => ⟨1, rfl, RR, rfl, Or.inl ⟨hr, by omega, fun q hq => ⟨(rfc (tpR σ) (tN (tpR σ) (plM σ)), tN (tpR σ) (plM σ)), ?_, rfc_0 _ _, by show 0 ≤ rfc (tpR σ) (tN (tpR σ) (plM σ)); omega, hf.1, hf.2⟩⟩⟩, fun z => absurd (by omega) z⟩
    unfold lnK'
    rw [fn_no hn]; rfl
theorem Mo_readKnows_p20 : Mo_readKnows_vc20 := by
  intro k σ0 hp0 n v1 σ hH hI
  obtain ⟨rfl, h0, M, k4, q0, hq0, h12⟩ := hp0
  obtain ⟨hR, rfl, hU⟩ := hI
  have e37 := hq0.2.1.1
  have h6 := hq0.1.1.1
  have f37 : σ 67 37 = σ0 67 37 := hR.2 37 (by decide) (by decide) (by decide) (by decide) (by decide) (by decide) (by decide)
  have hFM : FM σ := by
    rcases hU with ⟨-, z⟩ | ⟨-, -, z, -⟩
    · exact ⟨by have := z.1; omega, fun y => absurd y (by have := z.1; omega)⟩
    · exact FM.ofM z.1 z.2.2
  refine ⟨⟨rfl, hFM, by omega, by omega⟩, fun r2 σ1 g => ?_⟩
  rcases hU with ⟨hv, z⟩ | ⟨v0, v1', z, hf1⟩
  · obtain ⟨rfl, rfl⟩ := g.1 z.1
    have := z.1
    exact ⟨fun _ => ⟨0, by decide, rfl, hR, rfl, Or.inl z⟩, fun y => absurd (by omega) y⟩
  · obtain ⟨R1, hc⟩ := g.2 _ _ z.2.2 z.1
    rw [f37] at hc
    have RR := hR.tr R1
    have hl : ∀ q, PM σ0 q → lnK' (tpR σ0) (plM σ0) q = oB (fnO (tpR σ0) (tN (tpR σ0) (tN (tpR σ0) (plM σ0))) q) fun b => if v1.toNat = b ∨ bt (pKn q v1.toNat) b = true then .inl (3, tN (tpR σ0) (tN (tpR σ0) (plM σ0))) else .inr (adK q v1.toNat b, tN (tpR σ0) (tN (tpR σ0) (tN (tpR σ0) (plM σ0)))) := fun q hq => by
      unfold lnK'
      rw [hf1 q hq]; rfl
    rcases hc with ⟨hn, rfl, i, i1, i2, i3⟩ | ⟨hn, hno, hr, hf⟩ | ⟨hn, hr, hf⟩
    · refine ⟨fun y => absurd z.1 y, fun _ => ?_⟩
      have hl2 : ∀ q, PM σ0 q → lnK' (tpR σ0) (plM σ0) q = if v1.toNat = i ∨ bt (pKn q v1.toNat) i = true then .inl (3, tN (tpR σ0) (tN (tpR σ0) (plM σ0))) else .inr (adK q v1.toNat i, tN (tpR σ0) (tN (tpR σ0) (tN (tpR σ0) (plM σ0)))) := fun q hq => by
        rw [hl q hq, fn_ok hq hR hn i1 i3]; rfl
      have bad : ∀ σ3 : Hp, Mo_wrong_post 67 3 σ1 σ3 → (∀ q, PM σ0 q → v1.toNat = i ∨ bt (pKn q v1.toNat) i = true) → ∃ n' : Nat, n' < 1 ∧ (67 : Nat) = 67 ∧ Mo_readKnows_I56 67 σ0 n' v1 r2 σ3 := fun σ3 g3 hb =>
        ⟨0, by decide, rfl, RR.tr (z.2.2.wg z.1 g3).1, rfl, Or.inl (z.2.2.fl z.1 g3 (c := 3) (by rw [if_neg (by have := hn.1; omega)]) (by decide) (fun q hq => by rw [hl2 q hq, if_pos (hb q hq)]))⟩
      refine ⟨fun y => ⟨rfl, fun σ3 g3 => bad σ3 g3 (fun q hq => Or.inl (by omega))⟩, fun y => ⟨⟨v0, by omega⟩, ?_⟩⟩
      have e84 : ∀ q, PM σ0 q → σ1 (67 + 17) v1.toNat = pKn q v1.toNat := fun q hq => by
        show σ1 84 v1.toNat = _
        rw [hR.1 84 (by decide)]
        have := hq.2.1.1
        exact (hq.2.1.2.1 _ (by omega)).2.2.2.2.2
      have bitq : ∀ q, PM σ0 q → (iAnd (iShr (σ1 (67 + 17) v1.toNat) r2) 1 = 1 ↔ bt (pKn q v1.toNat) i = true) := fun q hq => by
        rw [e84 q hq]
        have := (hq.1.2.2.2.1 v1.toNat).2.2.1
        have hb := bit_01 (x := pKn q v1.toNat) (j := r2) (by omega) (by omega) (by omega) (by omega)
        rw [hb, i2, Int.toNat_natCast]
      refine ⟨fun y2 => ⟨0, by decide, rfl, RR, rfl, Or.inr ⟨⟨v0, v1'⟩, ⟨by omega, by omega⟩, z, hn.1, fun q hq => ?_⟩⟩, fun y2 => ⟨rfl, fun σ4 g4 => bad σ4 g4 (fun q hq => Or.inr ((bitq q hq).mp (Classical.not_not.mp y2)))⟩⟩
      have hno : ¬ (v1.toNat = i ∨ bt (pKn q v1.toNat) i = true) := fun x => x.elim (fun x => y (by omega)) (fun x => y2 ((bitq q hq).mpr x))
      rw [i2, Int.toNat_natCast]
      exact ⟨hno, by rw [hl2 q hq, if_neg hno]⟩
    · have n5 : σ1 67 2 = 5 := hf.1
      refine ⟨fun _ => ⟨0, by decide, rfl, RR, rfl, Or.inl ⟨by omega, fun q hq => ⟨(5, tN (tpR σ0) (tN (tpR σ0) (plM σ0))), ?_, by show ¬ (5 : Int) = 0; decide, by show (0 : Int) ≤ 5; decide, hf.1, hf.2⟩⟩⟩, fun y => absurd (by omega) y⟩
      rw [hl q hq, fn_5 hq hR hn hno]; rfl
    · have n5 : σ1 67 2 = rfc (tpR σ0) (tN (tpR σ0) (tN (tpR σ0) (plM σ0))) := hf.1
      have := rfc_p (tpR σ0) (tN (tpR σ0) (tN (tpR σ0) (plM σ0)))
      refine ⟨fun _ => ⟨0, by decide, rfl, RR, rfl, Or.inl ⟨by omega, fun q hq => ⟨(rfc (tpR σ0) (tN (tpR σ0) (tN (tpR σ0) (plM σ0))), tN (tpR σ0) (tN (tpR σ0) (plM σ0))), ?_, rfc_0 _ _, by show 0 ≤ rfc (tpR σ0) (tN (tpR σ0) (tN (tpR σ0) (plM σ0))); omega, hf.1, hf.2⟩⟩⟩, fun y => absurd (by omega) y⟩
      rw [hl q hq, fn_no hn]; rfl
theorem Mo_readKnows_p56 : Mo_readKnows_vc56 := by
  intro k σ0 hp0 n v1 v2 σ hH hI
  obtain ⟨rfl, h0, M, k4, q0, hq0, h12⟩ := hp0
  obtain ⟨hR, rfl, hU⟩ := hI
  have e37 := hq0.2.1.1
  have h6 := hq0.1.1.1
  refine ⟨fun h => ?_, fun h => ?_⟩
  · obtain ⟨r1, r2, z, hk, hl⟩ : (0 ≤ v1 ∧ v1 < σ0 67 37) ∧ (0 ≤ v2 ∧ v2 < σ0 67 37) ∧ Gom σ0 σ (tpR σ0) (tN (tpR σ0) (tN (tpR σ0) (plM σ0))) ∧ tK (tpR σ0) (tN (tpR σ0) (tN (tpR σ0) (plM σ0))) = 1 ∧ ∀ q, PM σ0 q → ¬ (v1.toNat = v2.toNat ∨ bt (pKn q v1.toNat) v2.toNat = true) ∧ lnK' (tpR σ0) (plM σ0) q = .inr (adK q v1.toNat v2.toNat, tN (tpR σ0) (tN (tpR σ0) (tN (tpR σ0) (plM σ0)))) := by
      rcases hU with y | y
      · have := y.1; omega
      · exact y
    refine ⟨⟨r1.1, by omega⟩, ⟨r1.1, by omega⟩, ?_⟩
    intro σ1 hs1 σ2 hs2
    have e84 : σ (67 + 17) = σ0 84 := hR.1 84 (by decide)
    rw [e84] at hs1
    have c38 : σ1 67 38 = σ0 67 38 := by rw [hs1, hp_ne (by decide)]; exact hR.2 38 (by decide) (by decide) (by decide) (by decide) (by decide) (by decide) (by decide)
    have e38 := hq0.2.1.2.2.1
    have k12 := hq0.1.1.2.1
    rw [c38, wr1 (by omega) (by omega)] at hs2
    have p67 : ∀ j, ¬ j = 38 → σ2 67 j = σ 67 j := fun j hj => by rw [hs2, hp_r2 (fun y => hj y.2), hs1, hp_ne (by decide)]
    have pc : ∀ c, ¬ c = 67 → ¬ c = 84 → σ2 c = σ c := fun c h1 h2 => by rw [hs2, hp_ne h1, hs1, hp_ne h2]
    have M2 : MT σ2 (tpR σ0) (tN (tpR σ0) (tN (tpR σ0) (plM σ0))) := z.2.2.keep (fun j j1 j2 => p67 j (by omega)) (pc 68 (by decide) (by decide))
    obtain ⟨u1, u2⟩ := M2.tok (by omega)
    refine ⟨u1, fun σ3 g3 => ?_⟩
    obtain ⟨T3, M3⟩ := u2 σ3 g3
    have L2 : LFr σ0 σ2 := by
      rw [hs2]
      refine LFr.hp ?_ (by simp [rcs]) (fun _ y => by unfold rfx at y; omega)
      rw [hs1]
      exact hR.lf.hp (by simp [rcs]) (fun y => absurd y (by decide))
    refine ⟨L2.tr T3.rq.lf, fun q hq => ?_⟩
    obtain ⟨hno, hlq⟩ := hl q hq
    unfold LOm outM
    rw [hlq]
    have eq37 := hq.2.1.1
    refine ⟨⟨by rw [T3.2 2 (by decide) (by decide) (by decide) (by decide) (by decide), p67 2 (by decide)]; exact z.1, by rw [T3.2 3 (by decide) (by decide) (by decide) (by decide) (by decide), p67 3 (by decide)]; exact z.2.1, M3⟩, PM.rq ?_ T3.rq⟩
    obtain ⟨k0, ⟨a1, a2, a3, a4⟩, ⟨b1, b2, b3, b4⟩, c1, c2, c3⟩ := hq
    have q67 : ∀ j, 10 ≤ j → ¬ j = 38 → σ2 67 j = σ0 67 j := fun j h1 h2 => by rw [p67 j h2]; exact hR.2 j (by omega) (by omega) (by omega) (by omega) (by omega) (by omega) (by omega)
    have qc : ∀ c, ¬ c = 67 → ¬ c = 84 → σ2 c = σ0 c := fun c h1 h2 => by rw [pc c h1 h2]; exact hR.1 c (by simp; exact h1)
    have hkR := (k0.2.2.2.1 v1.toNat).2.2.1
    have io : ∀ x : Int, 0 ≤ x → x < 64 → iOr x ((2 ^ v2.toNat : Nat) : Int) = ((x.toNat ||| 2 ^ v2.toNat : Nat) : Int) := by
      intro x x1 x2
      obtain ⟨m, rfl⟩ := Int.eq_ofNat_of_zero_le x1
      rw [iOr_n (by omega) (Nat.pow_lt_pow_right (by decide) (by omega))]
      simp
    have v84 : ∀ j, j < pN q → σ2 84 j = va_up (pKn q) v1.toNat (((pKn q v1.toNat).toNat ||| 2 ^ v2.toNat : Nat) : Int) j := by
      intro j hj
      rw [hs2, hp_ne (by decide), hs1]
      show hp σ 84 v1.toNat _ 84 j = _
      by_cases e : j = v1.toNat
      · rw [e, hp_r1, vu_at, (a2 v1.toNat (by omega)).2.2.2.2.2, shl_1 r2.1 (by omega), io _ hkR.1 hkR.2]
      · rw [hp_r2 (fun y => e y.2), vu_ne e, hR.1 84 (by decide)]; exact (a2 j hj).2.2.2.2.2
    refine ⟨ok_adK k0 (by omega) (by omega) (by omega) hno, ⟨?_, fun j hj => ?_, ?_, ?_⟩, ⟨?_, ?_, ?_, ?_⟩, ?_, ?_, ?_⟩
    · rw [q67 37 (by decide) (by decide)]; exact a1
    · rw [qc 69 (by decide) (by decide), qc 80 (by decide) (by decide), qc 81 (by decide) (by decide), qc 82 (by decide) (by decide), qc 83 (by decide) (by decide)]
      obtain ⟨x1, x2, x3, x4, x5, x6⟩ := a2 j hj
      exact ⟨x1, x2, x3, x4, x5, v84 j hj⟩
    · rw [hs2, hp_r1, a3]
      show (pNk q : Int) + 1 = ((pNk q + 1 : Nat) : Int)
      simp
    · rw [q67 41 (by decide) (by decide)]; exact a4
    · rw [q67 44 (by decide) (by decide)]; exact b1
    · rw [q67 39 (by decide) (by decide)]; exact b2
    · rw [q67 45 (by decide) (by decide)]; exact b3
    · rw [q67 40 (by decide) (by decide)]; exact b4
    · exact FRs_eq c1 (by rw [qc 78 (by decide) (by decide)]) (by rw [qc 72 (by decide) (by decide)]) (fun j _ _ => ⟨by rw [qc 70 (by decide) (by decide)], by rw [qc 71 (by decide) (by decide)]⟩)
    · exact FRs_eq c2 (by rw [qc 78 (by decide) (by decide)]) (by rw [qc 72 (by decide) (by decide)]) (fun j _ _ => ⟨by rw [qc 70 (by decide) (by decide)], by rw [qc 71 (by decide) (by decide)]⟩)
    · rw [q67 22 (by decide) (by decide)]; exact c3
  · rcases hU with y | y
    · exact ⟨hR.lf, fun q hq => y.lo hq⟩
    · have := y.2.2.1.1; omega
def Mo_readKnows_I : List AV → Hp → Nat → Nat → List AV → List AV → Hp → Prop := fun as σ0 pc n st ls σ => (match as with
    | [.inr (.inr (.inl (k, 0, 9)))] => (bif Nat.beq pc 20 then (match st, ls with
      | [], [.inr (.inr (.inl (k', 0, 9))), .inl v1, _] => k = k' ∧ Mo_readKnows_I20 k σ0 n v1 σ
      | _, _ => False) else (bif Nat.beq pc 56 then (match st, ls with
      | [], [.inr (.inr (.inl (k', 0, 9))), .inl v1, .inl v2] => k = k' ∧ Mo_readKnows_I56 k σ0 n v1 v2 σ
      | _, _ => False) else False))
    | _ => False)
def Mo_readKnows_ct : Nat → Ct := fun n => match n with
  | 0 => Mo_token_cs
  | 1 => Mo_oldPerson_cs
  | 2 => Mo_wrong_cs
  | _ => Mo_readKnows_cs
set_option maxRecDepth 20000 in
set_option maxHeartbeats 4000000 in
theorem Mo_readKnows_met {l : Launch} {D : va_G} {ad : Nat → Nat} {ca : Nat → ClassId} {L : Nat} {fx : Nat → Int} : ax_MC l D ad ca L fx yX9_readKnows cX9_readKnows 3 none 4 Mo_readKnows_cs := by
  refine ax_met (oc := 9) (ct := Mo_readKnows_ct) (calls := Mo_readKnows_cl) (bs := Mo_readKnows_bk) (cut := fun pc => Nat.beq pc 20 || Nat.beq pc 56) (f := 6) (I := Mo_readKnows_I) (by decide) rfl rfl Mo_readKnows_ck (List.forall_mem_cons.mpr ⟨ax_cwV Mo_token_met (by decide) (by decide) rfl (by decide) rfl (ax_m6 145 (by decide +kernel) rfl) Mo_token_w rfl Mo_token_ds, List.forall_mem_cons.mpr ⟨ax_cwV Mo_oldPerson_met (by decide) (by decide) rfl (by decide) rfl (ax_m6 223 (by decide +kernel) rfl) Mo_oldPerson_w rfl Mo_oldPerson_ds, List.forall_mem_cons.mpr ⟨ax_cwV Mo_wrong_met (by decide) (by decide) rfl (by decide) rfl (ax_m6 199 (by decide +kernel) rfl) Mo_wrong_w rfl Mo_wrong_ds, fun _ h => absurd h List.not_mem_nil⟩⟩⟩) ?_ ?_
  · intro as σ0 hp hH
    match as, hp with
    | [.inr (.inr (.inl (k, 0, 9)))], hp => exact ⟨rfl, Mo_readKnows_p k σ0 hH hp⟩
  · intro as σ0 hp n pc st ls σ hH hI
    match as, hp, hI with
    | [.inr (.inr (.inl (k, 0, 9)))], hp, hI =>
      rcases ax_bifE hI with ⟨hpc, hI⟩ | ⟨-, hI⟩
      · have := Nat.eq_of_beq_eq_true hpc
        subst this
        match st, ls, hI with
        | [], [.inr (.inr (.inl (k', 0, 9))), .inl v1, _], hI =>
          obtain ⟨rfl, hI⟩ := hI
          exact Mo_readKnows_p20 k σ0 hp n v1 σ hH hI
      rcases ax_bifE hI with ⟨hpc, hI⟩ | ⟨-, hI⟩
      · have := Nat.eq_of_beq_eq_true hpc
        subst this
        match st, ls, hI with
        | [], [.inr (.inr (.inl (k', 0, 9))), .inl v1, .inl v2], hI =>
          obtain ⟨rfl, hI⟩ := hI
          exact Mo_readKnows_p56 k σ0 hp n v1 v2 σ hH hI
      exact False.elim hI

section PL3
variable {G : zG} {d : Nat} {M : zM} {Q : zV → zM → Prop}
noncomputable def pl_C (P : zM) (p q : Nat) : Bool := decide (zmlac P p q = 0) && decide (zaM P (P 3) q = P 235 3)
def pl_L (P : zM) (q : Nat) : Nat := (P 30 q).toNat
abbrev plF : List (Int × Int × Int) := [(165, 4, 6), (166, 0, 1000000), (167, 0, 1000000)]
theorem s_allAlike (hG : zP G) {q nq : Nat} (hn : M 19 8 = nq ∧ nq ≤ 12) (hq : q < nq) (h : Q (0, (pl_bs (fun i => decide (M 30 i = M 30 q)) nq : Int)) M) : Y G (d + 1) mX3_allAlike 0 [(2, 19), (0, (q : Int)), (9, 0), (9, 0)] [] M Q := by
  have l2 := p12_31 hn.2
  have lp : ∀ (r k : Nat), k + r = nq → Y G (d + 1) mX3_allAlike 4 [(2, 19), (0, (q : Int)), (0, (pl_bs (fun i => decide (M 30 i = M 30 q)) k : Int)), (0, (k : Int))] [] M Q := fun r => by
    induction r with
    | zero =>
      intro k hk
      have : k = nq := by omega
      subst this
      exact bX3_allAlike_4 hG ⟨fun _ => h, fun c => absurd c (by omega)⟩
    | succ r ih =>
      intro k hk
      have nx := ih (k + 1) (by omega)
      have e : pl_bs (fun i => decide (M 30 i = M 30 q)) (k + 1) = if decide (M 30 (k : Int) = M 30 (q : Int)) = true then pl_bs (fun i => decide (M 30 i = M 30 q)) k ||| 2 ^ k else pl_bs (fun i => decide (M 30 i = M 30 q)) k := rfl
      rw [e] at nx
      have lk := pl_bs_l (f := fun i => decide (M 30 (i : Int) = M 30 (q : Int))) k
      have l3 : 2 ^ k ≤ 4096 := p12_31 (by omega)
      refine bX3_allAlike_4 hG ⟨fun c => absurd c (by omega), fun _ => ?_⟩
      refine bX3_areAlike_0 hG ⟨by omega, by omega, fun c => bX3_allAlike_18 hG ⟨fun _ => ⟨by omega, ?_⟩, fun z => absurd rfl z⟩, fun c => bX3_allAlike_18 hG ⟨fun z => absurd z (by decide), fun _ => ⟨by omega, ?_⟩⟩⟩
      · rw [if_neg (by simpa using c)] at nx; exact nx
      · rw [if_pos (by simpa using c)] at nx
        rw [zor_b (by omega) (by omega)]
        exact nx
  exact bX3_allAlike_0 hG (lp nq 0 (by omega))
theorem s_openTo (hG : zP G) {q np : Nat} (hn : M 165 4 = np ∧ np ≤ 6) (hq : q < 12) {f : Nat → Nat} (hf : ∀ p : Nat, p < np → M 166 p = (f p : Int) ∧ f p < 4096) (h : ∀ M', zfr [(166, 0, 1000000)] M M' → (∀ p : Nat, p < np → M' 166 p = ((if zlac M p q = 0 then f p ||| 2 ^ q else f p : Nat) : Int)) → Q (9, 0) M') : Y G (d + 1) mX2_openTo 0 [(2, 165), (0, (q : Int)), (2, 157), (2, 19), (9, 0)] [] M Q := by
  have lp : ∀ (r p : Nat) (M1 : zM), p + r = np → zfr [(166, 0, 1000000)] M M1 → (∀ i : Nat, i < np → M1 166 i = ((if i < p ∧ zlac M i q = 0 then f i ||| 2 ^ q else f i : Nat) : Int)) → Y G (d + 1) mX2_openTo 3 [(2, 165), (0, (q : Int)), (2, 157), (2, 19), (0, (p : Int))] [] M1 Q := fun r => by
    induction r with
    | zero =>
      intro p M1 hp hf1 hM
      have e4 : M1 165 4 = np := by rw [hf1 165 4 (by unfold zhw zhit; decide)]; exact hn.1
      refine bX2_openTo_3 hG ⟨fun _ => h M1 hf1 (fun i hi => ?_), fun c => absurd c (by omega)⟩
      rw [hM i hi]
      by_cases c : zlac M i q = 0
      · rw [if_pos ⟨by omega, c⟩, if_pos c]
      · rw [if_neg (fun z => c z.2), if_neg c]
    | succ r ih =>
      intro p M1 hp hf1 hM
      have e4 : M1 165 4 = np := by rw [hf1 165 4 (by unfold zhw zhit; decide)]; exact hn.1
      have row : ∀ a, (a = 23 ∨ a = 24 ∨ a = 25 ∨ a = 26 ∨ a = 159 ∨ a = 160 ∨ a = 161 ∨ a = 162) → ∀ i, 0 ≤ i → i < 100 → M1 a i = M a i := fun a ha i i0 i1 => hf1 a i (by unfold zhw zhit; simp; omega)
      have el : zlac M1 p q = zlac M p q := by
        unfold zlac
        rw [row 25 (by omega) _ (by omega) (by omega), row 26 (by omega) _ (by omega) (by omega), row 24 (by omega) _ (by omega) (by omega), row 23 (by omega) _ (by omega) (by omega), row 159 (by omega) _ (by omega) (by omega), row 160 (by omega) _ (by omega) (by omega), row 161 (by omega) _ (by omega) (by omega), row 162 (by omega) _ (by omega) (by omega)]
      have hfp := (hf p (by omega)).2
      have mp : M1 166 (p : Int) = (f p : Int) := by rw [hM p (by omega), if_neg (fun z => by have := z.1; omega)]
      refine bX2_openTo_3 hG ⟨fun c => absurd c (by omega), fun _ => s_lacking hG (by omega) (by omega) (bX2_openTo_20 hG ?_)⟩
      rw [el, mp, zor_b (by omega) (by omega)]
      refine ⟨fun c => ⟨by omega, ih (p + 1) M1 (by omega) hf1 (fun i hi => ?_)⟩, fun c => ⟨by omega, by omega, by omega, ih (p + 1) _ (by omega) (zfr_set hf1 (zhit_at 0 rfl ⟨by omega, by omega⟩)) (fun i hi => ?_)⟩⟩
      · rw [hM i hi]
        by_cases z : i = p
        · rw [z, if_neg (fun w => by have := w.1; omega), if_neg (fun w => c w.2)]
        · by_cases y : i < p ∧ zlac M i q = 0
          · rw [if_pos y, if_pos ⟨by omega, y.2⟩]
          · rw [if_neg y, if_neg (fun w => y ⟨by omega, w.2⟩)]
      · by_cases z : i = p
        · rw [z, zset_same, if_pos ⟨by omega, c⟩]
        · rw [zset_ne (fun w => z (by have := w.2; omega)), hM i hi]
          by_cases y : i < p ∧ zlac M i q = 0
          · rw [if_pos y, if_pos ⟨by omega, y.2⟩]
          · rw [if_neg y, if_neg (fun w => y ⟨by omega, w.2⟩)]
  exact bX2_openTo_0 hG (lp np 0 M (by omega) zfr_rfl (fun i hi => by rw [if_neg (fun z => by have := z.1; omega)]; exact (hf i hi).1))
theorem s_look (hG : zP G) (hC : zCk M M) {nq np : Nat} (eq : M 235 0 = nq) (ep : M 235 2 = np) (h : ∀ M', zfr plF M M' → pl_Cx M' (pl_C M) (pl_L M) nq np → Q (9, 0) M') : Y G (d + 3) mX2_look 0 [(2, 165), (2, 157), (2, 19), (9, 0)] [] M Q := by
  obtain ⟨hJ, -, e13, h27⟩ := hC
  have n12 : 0 ≤ M 235 0 ∧ M 235 0 ≤ 12 := hJ.1.1
  have n2 := hJ.1.2.2.1.1
  have j8 := zj_j8 hJ
  have j11 := zj_j11 hJ
  have j12 := zj_j12 hJ
  have jS := zj_jS hJ
  have lw : ∀ i : Nat, i < nq → (0 ≤ M 30 i ∧ M 30 i ≤ i) := fun i hi => ((jS.2 i (by omega) (by rw [e13]; omega)).2).1
  have ll : ∀ q, q < nq → pl_L M q < nq := fun q hq => by have := lw q hq; unfold pl_L; omega
  have l2 := p12_31 (n := nq) (by omega)
  have bsE : ∀ (M1 : zM) (q : Nat), q < nq → (∀ i, 0 ≤ i → i < 100 → M1 30 i = M 30 i) → pl_bs (fun i => decide (M1 30 (i : Int) = M1 30 (q : Int))) nq = pl_bs (fun i => pl_L M i == pl_L M q) nq := fun M1 q hq hr => pl_bs_e nq (fun i hi => by
    have a := lw i hi
    have b := lw q hq
    rw [hr i (by omega) (by omega), hr q (by omega) (by omega)]
    unfold pl_L
    by_cases c : M 30 (i : Int) = M 30 (q : Int)
    · rw [c]; simp
    · rw [decide_eq_false c]
      symm
      rw [beq_eq_false_iff_ne]
      omega)
  refine bX2_look_0 hG ?_
  rw [j11.1, j8.1, eq, ep]
  refine s_fill (r0 := 166) (nr0 := 6) hG (by decide +kernel) (by decide) (bX2_look_24 hG ?_)
  have lp : ∀ (r q : Nat) (M1 : zM), q + r = nq → zfr plF M M1 → (M1 165 4 = np ∧ M1 165 5 = nq) → (∀ p : Nat, p < np → M1 166 p = (pl_bs (pl_C M p) q : Int)) → (∀ i : Nat, i < q → M1 167 i = (pl_bs (fun j => pl_L M j == pl_L M i) nq : Int)) → Y G (d + 2 + 1) mX2_look 26 [(2, 165), (2, 157), (2, 19), (0, (q : Int))] [] M1 Q := fun r => by
    induction r with
    | zero =>
      intro q M1 hq hf e45 h66 h67
      have : q = nq := by omega
      subst this
      exact bX2_look_26 hG ⟨fun _ => h M1 hf ⟨e45, by omega, h66, h67, ll⟩, fun c => absurd c (by omega)⟩
    | succ r ih =>
      intro q M1 hq hf e45 h66 h67
      have row : ∀ a, (a = 30 ∨ a = 27 ∨ a = 23 ∨ a = 24 ∨ a = 25 ∨ a = 26 ∨ a = 159 ∨ a = 160 ∨ a = 161 ∨ a = 162 ∨ a = 157 ∨ a = 19) → ∀ i, 0 ≤ i → i < 100 → M1 a i = M a i := fun a ha i i0 i1 => hf a i (by unfold zhw zhit; simp; omega)
      have e8 : M1 19 8 = nq := by rw [row 19 (by omega) 8 (by decide) (by decide), j8.1]; exact eq
      refine bX2_look_26 hG ⟨fun c => absurd c (by omega), fun _ => s_allAlike (nq := nq) hG ⟨e8, by omega⟩ (by omega) (bX2_look_44 hG ?_)⟩
      rw [bsE M1 q (by omega) (fun i i0 i1 => row 30 (by omega) i i0 i1), row 27 (by omega) q (by omega) (by omega), row 157 (by omega) 6 (by decide) (by decide), h27 q (by omega) (by omega), j12]
      have hC1 : ∀ p : Nat, p < np → pl_C M p q = (decide (zlac M p q = 0) && decide (zaM M (M 3) q = M 235 3)) := fun p hp => by
        unfold pl_C
        rw [zlac_eq hJ (by omega) (by omega)]
      have g67 : ∀ (X : zM), (∀ i, X 167 i = zset M1 167 (q : Int) (pl_bs (fun j => pl_L M j == pl_L M q) nq : Int) 167 i) → ∀ i : Nat, i < q + 1 → X 167 i = (pl_bs (fun j => pl_L M j == pl_L M i) nq : Int) := fun X hX i hi => by
        rw [hX]
        by_cases c : i = q
        · rw [c, zset_same]
        · rw [zset_ne (fun z => c (by have := z.2; omega))]; exact h67 i (by omega)
      have st : ∀ p, pl_bs (pl_C M p) (q + 1) = if pl_C M p q = true then pl_bs (pl_C M p) q ||| 2 ^ q else pl_bs (pl_C M p) q := fun p => rfl
      have hfs : zfr plF M (zset M1 167 (q : Int) (pl_bs (fun j => pl_L M j == pl_L M q) nq : Int)) := zfr_set hf (zhit_at 2 rfl ⟨by omega, by omega⟩)
      refine ⟨by omega, by omega, fun c => ⟨by omega, ?_⟩, fun c => ?_⟩
      · refine ih (q + 1) _ (by omega) hfs ⟨by rw [zset_off (by decide)]; exact e45.1, by rw [zset_off (by decide)]; exact e45.2⟩ (fun p hp => ?_) (g67 _ (fun i => rfl))
        rw [zset_off (by decide), h66 p hp, st, if_neg (by rw [hC1 p hp, decide_eq_false c]; simp)]
      · refine s_openTo (np := np) (f := fun p => pl_bs (pl_C M p) q) hG ⟨by rw [zset_off (by decide)]; exact e45.1, by omega⟩ (by omega) (fun p hp => ⟨by rw [zset_off (by decide)]; exact h66 p hp, by
          have := pl_bs_l (f := pl_C M p) q
          have l3 : 2 ^ q ≤ 4096 := p12_31 (by omega)
          omega⟩) (fun M2 hf2 hM2 => bX2_look_65 hG ⟨by omega, ?_⟩)
        have o2 : ∀ a i, a ≠ 166 → 0 ≤ i → i < 1000000 → M2 a i = zset M1 167 (q : Int) (pl_bs (fun j => pl_L M j == pl_L M q) nq : Int) a i := fun a i ha i0 i1 => hf2 a i (by unfold zhw zhit; simp; omega)
        refine ih (q + 1) M2 (by omega) (zfr_trans hfs (zfr_sub hf2 (by decide))) ⟨by rw [o2 165 4 (by decide) (by decide) (by decide), zset_off (by decide)]; exact e45.1, by rw [o2 165 5 (by decide) (by decide) (by decide), zset_off (by decide)]; exact e45.2⟩ (fun p hp => ?_) (fun i hi => ?_)
        · have el : zlac (zset M1 167 (q : Int) (pl_bs (fun j => pl_L M j == pl_L M q) nq : Int)) p q = zlac M p q := by
            unfold zlac
            rw [zset_off (by decide), zset_off (by decide), zset_off (by decide), zset_off (by decide), zset_off (by decide), zset_off (by decide), zset_off (by decide), zset_off (by decide), row 25 (by omega) _ (by omega) (by omega), row 26 (by omega) _ (by omega) (by omega), row 24 (by omega) _ (by omega) (by omega), row 23 (by omega) _ (by omega) (by omega), row 159 (by omega) _ (by omega) (by omega), row 160 (by omega) _ (by omega) (by omega), row 161 (by omega) _ (by omega) (by omega), row 162 (by omega) _ (by omega) (by omega)]
          rw [hM2 p hp, el, st, hC1 p hp, decide_eq_true c]
          by_cases z : zlac M p q = 0
          · rw [if_pos z, if_pos (by simpa using z)]
          · rw [if_neg z, if_neg (by simpa using z)]
        · rw [o2 167 i (by decide) (by omega) (by omega)]
          exact g67 _ (fun i => rfl) i hi
  refine lp nq 0 _ (by omega) (zfr_row (zfr_set (zfr_set zfr_rfl (zhit_at 0 rfl ⟨by decide, by decide⟩)) (zhit_at 0 rfl ⟨by decide, by decide⟩)) 1 rfl) ⟨?_, ?_⟩ (fun p hp => ?_) (fun i hi => absurd hi (by omega))
  · rw [zrow_off (by decide), zset_ne (by decide), zset_same]
  · rw [zrow_off (by decide), zset_same]
  · rw [zrow_row]
    unfold zfil
    rw [if_pos ⟨by omega, by omega⟩]
    rfl
section OF
variable {C : Nat → Nat → Bool} {L : Nat → Nat} {nq np : Nat}
theorem pl_rem {n who p : Nat} : (List.range n).filter (fun x => !(who ||| 2 ^ p).testBit x) = ((List.range n).filter (fun x => !who.testBit x)).erase p := by
  rw [List.Nodup.erase_eq_filter (List.Nodup.sublist List.filter_sublist List.nodup_range), List.filter_filter]
  congr 1
  funext x
  rw [Nat.testBit_or, Nat.testBit_two_pow]
  by_cases c : p = x
  · rw [c]; simp
  · have c' : ¬ x = p := fun z => c z.symm
    rw [decide_eq_false c]
    simp [c']
theorem s_orderFrom (hG : zP G) : ∀ (k : Nat) (M : zM) (who U B depth d : Nat) (Q : zV → zM → Prop), pl_Cx M C L nq np → k + depth = np → who < 64 → pl_Br L nq U B → (∀ M' l, pl_of C L nq k ((List.range np).filter (fun x => !who.testBit x)) U = some l → zfr [(169, 0, 1000000)] M M' → (∀ j : Nat, j < depth → M' 169 j = M 169 j) → (∀ j : Nat, j < k → M' 169 ((depth : Int) + j) = (l.getD j 0 : Int)) → Q (0, 1) M') → (∀ M', pl_of C L nq k ((List.range np).filter (fun x => !who.testBit x)) U = none → zfr [(169, 0, 1000000)] M M' → (∀ j : Nat, j < depth → M' 169 j = M 169 j) → Q (0, 0) M') → Y G (d + k + 1) mX2_orderFrom 0 [(2, 165), (0, (who : Int)), (0, (B : Int)), (0, (depth : Int)), (9, 0), (9, 0)] [] M Q
  | 0, M, who, U, B, depth, d, Q, hX, hk, hw, hB, h1, h0 => by
    refine bX2_orderFrom_0 hG ?_
    rw [hX.1.1]
    exact ⟨fun c => absurd c (by omega), fun _ => h1 M [] rfl zfr_rfl (fun j _ => rfl) (fun j hj => absurd hj (by omega))⟩
  | k + 1, M, who, U, B, depth, d, Q, hX, hk, hw, hB, h1, h0 => by
    have n6 := hX.2.1
    have eo : pl_of C L nq (k + 1) ((List.range np).filter (fun x => !who.testBit x)) U = ((List.range np).filter (fun x => !who.testBit x)).findSome? (fun p => match pl_lw C L nq U p with
      | none => none
      | some q => (pl_of C L nq k (((List.range np).filter (fun x => !who.testBit x)).erase p) (U ||| 2 ^ L q)).map (fun l => p :: l)) := rfl
    generalize hF : (fun p => match pl_lw C L nq U p with
      | none => none
      | some q => (pl_of C L nq k (((List.range np).filter (fun x => !who.testBit x)).erase p) (U ||| 2 ^ L q)).map (fun l => p :: l)) = F at eo
    have lp : ∀ (r p : Nat) (M1 : zM), p + r = np → pl_of C L nq (k + 1) ((List.range np).filter (fun x => !who.testBit x)) U = ((List.range' p r).filter (fun x => !who.testBit x)).findSome? F → zfr [(169, 0, 1000000)] M M1 → (∀ j : Nat, j < depth → M1 169 j = M 169 j) → Y G (d + (k + 1) + 1) mX2_orderFrom 13 [(2, 165), (0, (who : Int)), (0, (B : Int)), (0, (depth : Int)), (0, (p : Int)), (9, 0)] [] M1 Q := fun r => by
      induction r with
      | zero =>
        intro p M1 hp he hf hM
        have e4 : M1 165 4 = np := by rw [hf 165 4 (by unfold zhw zhit; decide)]; exact hX.1.1
        exact bX2_orderFrom_13 hG ⟨fun _ => h0 M1 he hf hM, fun c => absurd c (by omega)⟩
      | succ r ih =>
        intro p M1 hp he hf hM
        have row : ∀ a, (a = 165 ∨ a = 166 ∨ a = 167) → ∀ i, 0 ≤ i → i < 100 → M1 a i = M a i := fun a ha i i0 i1 => hf a i (by unfold zhw zhit; simp; omega)
        have e4 : M1 165 4 = np := by rw [row 165 (by omega) 4 (by decide) (by decide)]; exact hX.1.1
        have X1 : pl_Cx M1 C L nq np := by
          obtain ⟨h1, h2, h3, h4, h5⟩ := hX
          exact ⟨⟨e4, by rw [row 165 (by omega) 5 (by decide) (by decide)]; exact h1.2⟩, h2, fun p hp => by rw [row 166 (by omega) _ (by omega) (by omega)]; exact h3 p hp, fun q hq => by rw [row 167 (by omega) _ (by omega) (by omega)]; exact h4 q hq, h5⟩
        have hpn : p < np := by omega
        rw [List.range'_succ, List.filter_cons] at he
        have hz := zbt_c (x := (who : Int)) (t := (p : Int)) (by omega) (by omega)
        have hz2 : zbt (who : Int) (p : Int) = who.testBit p := rfl
        rw [hz2] at hz
        refine bX2_orderFrom_13 hG ?_
        rw [e4]
        refine ⟨fun c => absurd c (by omega), fun _ => ⟨by omega, pl_next hG X1 hB hpn (bX2_orderFrom_37 hG ?_)⟩⟩
        refine ⟨fun c => ⟨by omega, ih (p + 1) M1 (by omega) ?_ hf hM⟩, fun c => ?_⟩
        · have hb : who.testBit p = true := by
            cases w : who.testBit p with
            | true => rfl
            | false => exact absurd (hz.mpr w) c
          rw [hb] at he
          exact he
        · have hb := hz.mp c
          rw [if_pos (by rw [hb]; rfl), List.findSome?_cons] at he
          cases w : pl_lw C L nq U p with
          | none =>
            have fp : F p = none := by rw [← hF]; show (match pl_lw C L nq U p with | none => none | some q => _) = none; rw [w]
            rw [fp] at he
            exact ⟨fun _ => ⟨by omega, ih (p + 1) M1 (by omega) he hf hM⟩, fun z => absurd rfl z⟩
          | some q =>
            have qs := pl_low_s nq 0 q w
            have fp : F p = (pl_of C L nq k ((List.range np).filter (fun x => !(who ||| 2 ^ p).testBit x)) (U ||| 2 ^ L q)).map (fun l => p :: l) := by
              rw [← hF, pl_rem]
              show (match pl_lw C L nq U p with | none => none | some q => _) = _
              rw [w]
            have wl : who ||| 2 ^ p < 64 := Nat.or_lt_two_pow (n := 6) hw (show 2 ^ p < 2 ^ 6 from Nat.pow_lt_pow_right (by decide) (by omega))
            have l2 := p12_31 n6.2
            have hb12 := hB.1
            refine ⟨fun z => absurd z (by show ¬ ((q : Int) = -1); omega), fun _ => ⟨by omega, by show (0 : Int) ≤ (q : Int) ∧ (q : Int) < 12; omega, by omega, ?_⟩⟩
            show Y G (d + (k + 1)) mX2_orderFrom 0 [(2, 165), (0, zor (who : Int) (zshl 1 (p : Int))), (0, zor (B : Int) (M1 167 (q : Int))), (0, (depth : Int) + 1), (9, 0), (9, 0)] [] (zset M1 169 (depth : Int) (p : Int)) _
            rw [(pl_or_tab p (by omega) who hw hb).2, X1.2.2.2.1 q (by omega), zor_n (by omega) (by have := pl_bs_l (f := fun i => L i == L q) nq; omega)]
            have X2 : pl_Cx (zset M1 169 (depth : Int) (p : Int)) C L nq np := pl_Cx_m X1 (by rw [zset_off (by decide)]) (by rw [zset_off (by decide)]) (fun i => by rw [zset_off (by decide)]) (fun i => by rw [zset_off (by decide)])
            have hf2 : zfr [(169, 0, 1000000)] M (zset M1 169 (depth : Int) (p : Int)) := zfr_set hf (zhit_at 0 rfl ⟨by omega, by omega⟩)
            refine s_orderFrom hG k _ (who ||| 2 ^ p) (U ||| 2 ^ L q) (B ||| pl_bs (fun i => L i == L q) nq) (depth + 1) d _ X2 (by omega) wl (pl_Br_s hB) (fun M' l hl hf' hM' hl' => bX2_orderFrom_84 hG ⟨fun z => absurd z (by decide), fun _ => ?_⟩) (fun M' hl hf' hM' => bX2_orderFrom_84 hG ⟨fun _ => ⟨by omega, ?_⟩, fun z => absurd rfl z⟩)
            · rw [fp, hl] at he
              refine h1 M' (p :: l) he (zfr_trans hf2 hf') (fun j hj => ?_) (fun j hj => ?_)
              · rw [hM' j (by omega), zset_ne (fun z => by have := z.2; omega)]; exact hM j hj
              · cases j with
                | zero =>
                  show M' 169 ((depth : Int) + (0 : Nat)) = (p : Int)
                  rw [show (depth : Int) + ((0 : Nat) : Int) = (depth : Int) by omega, hM' depth (by omega), zset_same]
                | succ j =>
                  have := hl' j (by omega)
                  rw [show (depth : Int) + ((j + 1 : Nat) : Int) = ((depth + 1 : Nat) : Int) + (j : Int) by omega]
                  exact this
            · rw [fp, hl] at he
              refine ih (p + 1) M' (by omega) he (zfr_trans hf2 hf') (fun j hj => ?_)
              rw [hM' j (by omega), zset_ne (fun z => by have := z.2; omega)]; exact hM j hj
    refine bX2_orderFrom_0 hG ?_
    rw [hX.1.1]
    refine ⟨fun _ => lp np 0 M (by omega) ?_ zfr_rfl (fun j _ => rfl), fun c => absurd c (by omega)⟩
    rw [eo, List.range_eq_range']
theorem s_findOrder (hG : zP G) (hX : pl_Cx M C L nq np) (h1 : ∀ M' l, pl_of C L nq np (List.range np) 0 = some l → zfr [(169, 0, 1000000)] M M' → (∀ j : Nat, j < np → M' 169 j = (l.getD j 0 : Int)) → Q (0, 1) M') (h0 : ∀ M', pl_of C L nq np (List.range np) 0 = none → zfr [(169, 0, 1000000)] M M' → Q (0, 0) M') : Y G (d + np + 2) mX2_findOrder 0 [(2, 165)] [] M Q := by
  have e : (List.range np).filter (fun x => !(0 : Nat).testBit x) = List.range np := by
    rw [List.filter_eq_self]
    intro a _
    simp
  refine bX2_findOrder_0 hG (s_orderFrom (C := C) (L := L) (nq := nq) (np := np) hG np M 0 0 0 0 d _ hX (by omega) (by decide) pl_Br_0 (fun M' l hl hf _ hM => bX2_findOrder_7 hG ⟨by decide, h1 M' l (by rw [e] at hl; exact hl) hf (fun j hj => ?_)⟩) (fun M' hl hf _ => bX2_findOrder_7 hG ⟨by decide, h0 M' (by rw [e] at hl; exact hl) hf⟩))
  have := hM j hj
  rw [show ((0 : Nat) : Int) + (j : Int) = (j : Int) by omega] at this
  exact this
end OF
end PL3

section PL8
variable {G : zG} {d : Nat} {M : zM} {Q : zV → zM → Prop} {C : Nat → Nat → Bool} {L : Nat → Nat} {nq np : Nat}
def gm_r (one : Bool) : Int := if one = true then 263 else 262
def gm_i (one : Bool) : Int := if one = true then 1 else 0
theorem m_isGood (hG : zP G) (hX : ml_Cx M C L nq np) {U p q : Nat} {one : Bool} (hp : p < np) (hq : q < nq) (hU : U < 2 ^ nq) (h1 : (C p q && !U.testBit (L q)) = true → M (gm_r one) ((U ||| 2 ^ L q : Nat) : Int) = 0 → Q (0, 1) M) (h0 : ¬ ((C p q && !U.testBit (L q)) = true ∧ M (gm_r one) ((U ||| 2 ^ L q : Nat) : Int) = 0) → Q (0, 0) M) : Y G (d + 4) mX12_isGood 0 [(2, 234), (0, (U : Int)), (0, (p : Int)), (0, (q : Int)), (0, gm_i one), (9, 0)] [] M Q := by
  have a := hX.1
  have n6 := hX.2.1
  have Lq := hX.2.2.1 q hq
  have Cq := hX.2.2.2 p hp q hq
  have l2 := p12_31 n6.2
  have hu := zbit_n (a := U) (k := L q) (by omega) (by omega)
  have hU' : U ||| 2 ^ L q < 2 ^ nq := Nat.or_lt_two_pow hU (Nat.pow_lt_pow_right (by decide) Lq.2)
  refine bX12_isGood_0 hG ?_
  rw [Lq.1]
  refine ⟨by omega, fun c1 => h0 (fun z => ?_), fun c1 => ⟨by omega, fun c2 => h0 (fun z => ?_), fun c2 => m_can (d := d) hG hX hp hq (fun c3 => bX12_isGood_28 hG ?_) (fun c3 => bX12_isGood_28 hG ⟨fun z => absurd rfl z, fun _ => h0 (fun z => ?_)⟩)⟩⟩
  · have z1 := z.1
    rw [Bool.and_eq_true] at z1
    exact (Cq.mp z1.1).1 c1
  · have z1 := z.1
    rw [hu.mp c2] at z1
    simp at z1
  · have hub : U.testBit (L q) = false := by
      cases w : U.testBit (L q) with
      | false => rfl
      | true => exact absurd (hu.mpr w) c2
    have hg : (C p q && !U.testBit (L q)) = true := by rw [Cq.mpr ⟨c1, c3⟩, hub]; rfl
    rw [Lq.1, zor_b (by omega) (by omega)]
    refine ⟨fun _ => ⟨by omega, fun c4 => ?_, fun c4 => ?_⟩, fun z => absurd z (by decide)⟩
    · cases one with
      | true => exact absurd c4 (by decide)
      | false => exact ⟨by omega, fun c5 => h0 (fun z => c5 z.2), fun c5 => h1 hg c5⟩
    · cases one with
      | false => exact absurd rfl c4
      | true => exact ⟨by omega, fun c5 => h0 (fun z => c5 z.2), fun c5 => h1 hg c5⟩
  · have z1 := z.1
    rw [Bool.and_eq_true] at z1
    exact c3 (Cq.mp z1.1).2
theorem m_wins (hG : zP G) (hX : ml_Cx M C L nq np) {U p : Nat} {one : Bool} (hp : p < np) (hU : U < 2 ^ nq) (h1 : (∃ q, q < nq ∧ (C p q && !U.testBit (L q)) = true ∧ M (gm_r one) ((U ||| 2 ^ L q : Nat) : Int) = 0) → Q (0, 1) M) (h0 : ¬ (∃ q, q < nq ∧ (C p q && !U.testBit (L q)) = true ∧ M (gm_r one) ((U ||| 2 ^ L q : Nat) : Int) = 0) → Q (0, 0) M) : Y G (d + 5) mX12_wins 0 [(2, 234), (0, (U : Int)), (0, (p : Int)), (0, gm_i one), (9, 0)] [] M Q := by
  have a := hX.1
  have n6 := hX.2.1
  have lp : ∀ (r q : Nat), q + r = nq → (∀ i, i < q → ¬ ((C p i && !U.testBit (L i)) = true ∧ M (gm_r one) ((U ||| 2 ^ L i : Nat) : Int) = 0)) → Y G (d + 4 + 1) mX12_wins 3 [(2, 234), (0, (U : Int)), (0, (p : Int)), (0, gm_i one), (0, (q : Int))] [] M Q := fun r => by
    induction r with
    | zero =>
      intro q hq hn
      exact bX12_wins_3 hG ⟨fun _ => h0 (fun ⟨i, i1, i2⟩ => hn i (by omega) i2), fun c => absurd c (by omega)⟩
    | succ r ih =>
      intro q hq hn
      refine bX12_wins_3 hG ⟨fun c => absurd c (by omega), fun _ => m_isGood (d := d) hG hX hp (by omega) hU (fun c1 c2 => bX12_wins_23 hG ⟨fun z => absurd z (by decide), fun _ => h1 ⟨q, by omega, c1, c2⟩⟩) (fun c => bX12_wins_23 hG ⟨fun _ => ⟨by omega, ih (q + 1) (by omega) (fun i hi => ?_)⟩, fun z => absurd rfl z⟩)⟩
      by_cases e : i = q
      · rw [e]; exact c
      · exact hn i (by omega)
  exact bX12_wins_0 hG (lp nq 0 (by omega) (fun i hi => absurd hi (by omega)))
theorem gm_up {k c : Nat} (h : k.testBit c = false) : k < k ||| 2 ^ c := by
  rcases Nat.lt_or_ge k (k ||| 2 ^ c) with z | z
  · exact z
  · exfalso
    have e : k ||| 2 ^ c = k := Nat.le_antisymm z Nat.left_le_or
    have : (k ||| 2 ^ c).testBit c = true := by rw [Nat.testBit_or, Nat.testBit_two_pow, decide_eq_true rfl, Bool.or_true]
    rw [e, h] at this
    exact Bool.noConfusion this
theorem ml_set {i v r : Int} (hr : r = 262 ∨ r = 263) (hX : ml_Cx M C L nq np) : ml_Cx (zset M r i v) C L nq np := by
  have o : ∀ a, a ≠ 262 → a ≠ 263 → zset M r i v a = M a := fun a h1 h2 => zset_off (by rcases hr with z | z <;> rw [z]; exact h1; exact h2)
  unfold ml_Cx zmlac
  rw [o 235 (by decide) (by decide), o 259 (by decide) (by decide), o 258 (by decide) (by decide), o 248 (by decide) (by decide)]
  exact hX
/-- what stands in the two rows -/
def gm_I (X : zM) (C : Nat → Nat → Bool) (L : Nat → Nat) (nq a b k : Nat) : Prop := ∀ u : Nat, k ≤ u → u < 2 ^ nq → X 262 u = (if gm_w C L nq a b u = true then 1 else 0) ∧ X 263 u = (if gm_w C L nq b a u = true then 1 else 0)
theorem m_gameL (hG : zP G) {N : zM} {a b : Nat} {x3 : Int} (ha : a < np) (hb : b < np) (h : ∀ X, zfr plW N X → ml_Cx X C L nq np → gm_I X C L nq a b 0 → Y G (d + 7) mX12_game 40 [(2, 234), (0, (a : Int)), (0, (b : Int)), (0, x3), (0, -1)] [] X Q) : ∀ (k : Nat) (X : zM), k ≤ 2 ^ nq → zfr plW N X → ml_Cx X C L nq np → gm_I X C L nq a b k → Y G (d + 7) mX12_game 40 [(2, 234), (0, (a : Int)), (0, (b : Int)), (0, x3), (0, (k : Int) - 1)] [] X Q
  | 0, X, hk, hX, hXc, hI => by
    rw [show ((0 : Nat) : Int) - 1 = -1 by decide]
    exact h X hX hXc hI
  | k + 1, X, hk, hX, hXc, hI => by
    have n6 := hXc.2.1
    have l2 := p12_31 n6.2
    have hL : ∀ i, i < nq → L i < nq := fun i hi => (hXc.2.2.1 i hi).2
    rw [show ((k + 1 : Nat) : Int) - 1 = (k : Int) by omega]
    have up : ∀ q, q < nq → k.testBit (L q) = false → k + 1 ≤ k ||| 2 ^ L q ∧ k ||| 2 ^ L q < 2 ^ nq := fun q hq hb => ⟨gm_up hb, Nat.or_lt_two_pow (by omega) (Nat.pow_lt_pow_right (by decide) (hL q hq))⟩
    have wa : (∃ q, q < nq ∧ (C a q && !k.testBit (L q)) = true ∧ X (gm_r true) ((k ||| 2 ^ L q : Nat) : Int) = 0) ↔ gm_w C L nq a b k = true := by
      rw [gm_w_s n6.2 hL]
      constructor
      · rintro ⟨q, q1, q2, q3⟩
        rw [Bool.and_eq_true, Bool.not_eq_true'] at q2
        refine ⟨q, q1, q2.1, q2.2, ?_⟩
        have u := up q q1 q2.2
        have e := (hI _ u.1 u.2).2
        have q3' : X 263 ((k ||| 2 ^ L q : Nat) : Int) = 0 := q3
        rw [q3'] at e
        cases hw : gm_w C L nq b a (k ||| 2 ^ L q) with
        | false => rfl
        | true => rw [hw] at e; exact absurd e (by decide)
      · rintro ⟨q, q1, q2, q3, q4⟩
        refine ⟨q, q1, by rw [q2, q3]; rfl, ?_⟩
        have u := up q q1 q3
        have e := (hI _ u.1 u.2).2
        rw [q4] at e
        exact e
    have fin : ∀ v : Int, v = (if gm_w C L nq a b k = true then 1 else 0) → Y G (d + 5 + 1) mX12_wins 0 [(2, 234), (0, (k : Int)), (0, (b : Int)), (0, 0), (9, 0)] [] (zset X 262 (k : Int) v) (fun r M' => Y G (d + 5 + 2) mX12_game 74 [(2, 234), (0, (a : Int)), (0, (b : Int)), (0, x3), (0, (k : Int))] (zpush r [(0, (k : Int)), (2, 263)]) M' Q) := fun v hv => by
      have s2 : zset X 262 (k : Int) v 262 (k : Int) = v := zset_same
      have o2 : ∀ u : Nat, u ≠ k → zset X 262 (k : Int) v 262 u = X 262 u := fun u hu => zset_ne (fun z => hu (by have := z.2; omega))
      have o3 : zset X 262 (k : Int) v 263 = X 263 := zset_off (by decide)
      have X1 : ml_Cx (zset X 262 (k : Int) v) C L nq np := ml_set (Or.inl rfl) hXc
      have f1 : zfr plW N (zset X 262 (k : Int) v) := zfr_set hX (zhit_at 26 rfl ⟨by omega, by omega⟩)
      have wb : (∃ q, q < nq ∧ (C b q && !k.testBit (L q)) = true ∧ (zset X 262 (k : Int) v) (gm_r false) ((k ||| 2 ^ L q : Nat) : Int) = 0) ↔ gm_w C L nq b a k = true := by
        rw [gm_w_s n6.2 hL]
        constructor
        · rintro ⟨q, q1, q2, q3⟩
          rw [Bool.and_eq_true, Bool.not_eq_true'] at q2
          refine ⟨q, q1, q2.1, q2.2, ?_⟩
          have u := up q q1 q2.2
          have e := (hI _ u.1 u.2).1
          have q3' : zset X 262 (k : Int) v 262 ((k ||| 2 ^ L q : Nat) : Int) = 0 := q3
          rw [o2 _ (by omega)] at q3'
          rw [q3'] at e
          cases hw : gm_w C L nq a b (k ||| 2 ^ L q) with
          | false => rfl
          | true => rw [hw] at e; exact absurd e (by decide)
        · rintro ⟨q, q1, q2, q3, q4⟩
          refine ⟨q, q1, by rw [q2, q3]; rfl, ?_⟩
          have u := up q q1 q3
          have e := (hI _ u.1 u.2).1
          rw [q4] at e
          show zset X 262 (k : Int) v 262 ((k ||| 2 ^ L q : Nat) : Int) = 0
          rw [o2 _ (by omega)]
          exact e
      have fin2 : ∀ w : Int, w = (if gm_w C L nq b a k = true then 1 else 0) → Y G (d + 5 + 2) mX12_game 40 [(2, 234), (0, (a : Int)), (0, (b : Int)), (0, x3), (0, (k : Int) + -1)] [] (zset (zset X 262 (k : Int) v) 263 (k : Int) w) Q := fun w hw => by
        rw [show (k : Int) + -1 = (k : Int) - 1 by omega]
        refine m_gameL hG ha hb h k _ (by omega) (zfr_set f1 (zhit_at 27 rfl ⟨by omega, by omega⟩)) (ml_set (Or.inr rfl) X1) (fun u hu1 hu2 => ?_)
        by_cases e : u = k
        · rw [e, zset_off (show (262 : Int) ≠ 263 by decide), s2, zset_same]
          exact ⟨hv, hw⟩
        · rw [zset_off (show (262 : Int) ≠ 263 by decide), o2 u e, zset_ne (fun z => e (by have := z.2; omega)), o3]
          exact hI u (by omega) hu2
      refine m_wins (d := d + 1) (one := false) hG X1 hb (by omega) (fun e => bX12_game_74 hG ⟨by omega, by omega, by omega, fin2 1 (by rw [if_pos (wb.mp e)])⟩) (fun e => bX12_game_74 hG ⟨by omega, by omega, by omega, fin2 0 (by rw [if_neg (fun z => e (wb.mpr z))])⟩)
    refine bX12_game_40 hG ⟨fun c => absurd c (by omega), fun _ => ?_⟩
    exact m_wins (d := d + 1) (one := true) hG hXc ha (by omega) (fun e => bX12_game_59 hG ⟨by omega, by omega, fin 1 (by rw [if_pos (wa.mp e)])⟩) (fun e => bX12_game_59 hG ⟨by omega, by omega, fin 0 (by rw [if_neg (fun z => e (wa.mpr z))])⟩)
theorem pl_LL_N {N : zM} (hJ : zJ N) (e13 : N 19 13 = N 235 0) {nq : Nat} (hq : N 235 0 = nq) : pl_LL (pl_L N) nq := fun q h => by
  have jS := zj_jS hJ
  have l1 := (jS.2 q (by omega) (by omega)).2
  have a := l1.1
  have l2 := (jS.2 (N 30 q) a.1 (by omega)).2
  have e := (zlw_al l2 l1 a.1 (by omega)).mpr l1.2.1
  unfold pl_L
  rw [show (((N 30 (q : Int)).toNat : Nat) : Int) = N 30 q by omega, e]
  exact ⟨by omega, rfl⟩
theorem pr_game (hG : zP G) (hJ : zJ M) {x1 x2 x3 : Int} : zPr G d mX11_game mX12_game [(2, 1), (0, x1), (0, x2), (0, x3), (9, 0)] [(2, 234), (0, x1), (0, x2), (0, x3), (9, 0)] M := by
  have n2 := hJ.1.2.2.1.1
  have u := (zj_j11 hJ).1
  have no : ¬ ((0 ≤ x1 ∧ x1 < M 235 2) ∧ (0 ≤ x2 ∧ x2 < M 235 2) ∧ ¬ x1 = x2) → Y G (d + 400) mX12_game 0 [(2, 234), (0, x1), (0, x2), (0, x3), (9, 0)] [] M (fun r2 M2 => r2 = (0, -2) ∧ zJn M M2) := fun q =>
    bX12_game_0 hG ⟨by omega, fun c1 => ⟨by omega, fun c2 => ⟨fun c3 => absurd ⟨c1, c2, c3⟩ q, fun _ => ⟨rfl, zJ_rf hJ⟩⟩, fun _ => ⟨rfl, zJ_rf hJ⟩⟩, fun _ => ⟨rfl, zJ_rf hJ⟩⟩
  refine bX11_game_0 hG ?_
  rw [u]
  refine ⟨by omega, fun c1 => ⟨by omega, fun c2 => ⟨fun c3 => ?_, fun c3 => no (fun z => z.2.2 c3)⟩, fun c2 => no (fun z => c2 z.2.1)⟩, fun c1 => no (fun z => c1 z.1)⟩
  refine s_stockJ (d := d + 189) hG hJ (fun N JN hf e13 hW => bX11_game_28 hG ?_)
  have CN := zCk_0 hJ JN hf e13 hW
  have v10 : N 2 10 = M 2 10 := (zfr_sm (S := [(2, 10, 11)]) hf (by decide)) 2 10 (zhit_at 0 rfl ⟨by decide, by decide⟩)
  have a2 : N 235 2 = M 235 2 := (zfr_sm (S := [(235, 0, 156)]) hf (by decide)) 235 2 (zhit_at 0 rfl ⟨by decide, by decide⟩)
  have n12 : 0 ≤ N 235 0 ∧ N 235 0 ≤ 12 := JN.1.1
  obtain ⟨np, hnp⟩ := Int.eq_ofNat_of_zero_le (show 0 ≤ N 235 2 by omega)
  obtain ⟨nq, hnq⟩ := Int.eq_ofNat_of_zero_le n12.1
  obtain ⟨a, ea⟩ := Int.eq_ofNat_of_zero_le c1.1
  obtain ⟨b, eb⟩ := Int.eq_ofNat_of_zero_le c2.1
  subst ea
  subst eb
  have ha : a < np := by omega
  have hb : b < np := by omega
  have hLL := pl_LL_N JN CN.2.2.1 hnq
  have l2 := p12_31 (n := nq) (by omega)
  refine s_look (d := d + 396) hG CN hnq hnp (fun N1 hf1 hX1 => bX11_game_43 hG (s_winningStart (d := d + 383) hG hX1 hLL ha hb (bX11_game_52 hG ?_)))
  -- the model's side
  have mo : ∀ ans : zV, (∀ X, ml_Cx X (pl_C N) (pl_L N) nq np → gm_I X (pl_C N) (pl_L N) nq a b 0 → zfr plW N X → Y G (d + 393 + 7) mX12_game 40 [(2, 234), (0, (a : Int)), (0, (b : Int)), (0, x3), (0, -1)] [] X (fun r2 M2 => r2 = ans ∧ zJn M M2)) → Y G (d + 400) mX12_game 0 [(2, 234), (0, (a : Int)), (0, (b : Int)), (0, x3), (9, 0)] [] N1 (fun r2 M2 => r2 = ans ∧ zJn M M2) := fun ans hk => by
    have e2 : N1 235 2 = np := by rw [hf1 235 2 (by unfold zhw zhit; decide)]; exact hnp
    refine bX12_game_0 hG ?_
    rw [e2]
    refine ⟨by omega, fun _ => ⟨by omega, fun _ => ⟨fun _ => m_plan (d := d + 393) hG CN (plR_1 hf1) hnq hnp (fun X hX hXc => bX12_game_28 hG ?_), fun z => absurd z c3⟩, fun z => absurd (by omega) z⟩, fun z => absurd (by omega) z⟩
    have sh : zshl 1 (X 235 0) - 1 = ((2 ^ nq : Nat) : Int) - 1 := by rw [hXc.1.2, zshl1_n (by omega)]
    rw [sh]
    have ob : -2147483648 ≤ ((2 ^ nq : Nat) : Int) - 1 ∧ ((2 ^ nq : Nat) : Int) - 1 ≤ 2147483647 := by
      have p1 := Nat.two_pow_pos nq
      generalize 2 ^ nq = W at l2 p1 ⊢
      omega
    refine ⟨ob, ?_⟩
    exact m_gameL (d := d + 393) (N := N) hG ha hb (fun X' f' h' i' => hk X' h' i' f') (2 ^ nq) X (Nat.le_refl _) hX hXc (fun w w1 w2 => absurd w2 (by omega))
  have fst0 : ∀ q, gm_fst (pl_C N) (pl_L N) nq a b = some q → q < nq ∧ (pl_C N a q && !gm_w (pl_C N) (pl_L N) nq b a (2 ^ pl_L N q)) = true := fun q h => by
    have := pl_low_s (C := fun _ q => pl_C N a q && !gm_w (pl_C N) (pl_L N) nq b a (2 ^ pl_L N q)) (L := fun _ => 0) (U := 0) (p := 0) nq 0 q (by
      rw [← pl_fb_low (f := fun q => pl_C N a q && !gm_w (pl_C N) (pl_L N) nq b a (2 ^ pl_L N q)) nq 0 (fun i _ _ => by simp)]; exact h)
    exact ⟨by omega, this.2.2.1⟩
  have w0 : ∀ X, gm_I X (pl_C N) (pl_L N) nq a b 0 → ml_Cx X (pl_C N) (pl_L N) nq np → (X 262 0 ≠ 0 ↔ gm_fst (pl_C N) (pl_L N) nq a b ≠ none) := fun X hI hXc => by
    have e := (hI 0 (by omega) (Nat.two_pow_pos nq)).1
    have ws := gm_w_s (C := pl_C N) (L := pl_L N) (nq := nq) (a := a) (b := b) (U := 0) (by omega) (fun i hi => (hXc.2.2.1 i hi).2)
    have e' : X 262 0 = if gm_w (pl_C N) (pl_L N) nq a b 0 = true then 1 else 0 := e
    constructor
    · intro h z
      have hw : gm_w (pl_C N) (pl_L N) nq a b 0 = true := by
        cases w : gm_w (pl_C N) (pl_L N) nq a b 0 with
        | true => rfl
        | false => rw [w] at e'; exact absurd e' h
      obtain ⟨q, q1, q2, q3, q4⟩ := ws.mp hw
      rw [Nat.zero_or] at q4
      -- the search finds it
      have nf : ∀ (r s : Nat), pl_fb (fun q => pl_C N a q && !gm_w (pl_C N) (pl_L N) nq b a (2 ^ pl_L N q)) r s = none → s ≤ q → q < s + r → False := fun r => by
        induction r with
        | zero => exact fun s _ h1 h2 => by omega
        | succ r ih =>
          intro s hs h1 h2
          have st : pl_fb (fun q => pl_C N a q && !gm_w (pl_C N) (pl_L N) nq b a (2 ^ pl_L N q)) (r + 1) s = if (pl_C N a s && !gm_w (pl_C N) (pl_L N) nq b a (2 ^ pl_L N s)) = true then some s else pl_fb (fun q => pl_C N a q && !gm_w (pl_C N) (pl_L N) nq b a (2 ^ pl_L N q)) r (s + 1) := rfl
          rw [st] at hs
          by_cases e : s = q
          · rw [e, q2, q4] at hs
            cases hs
          · by_cases c : (pl_C N a s && !gm_w (pl_C N) (pl_L N) nq b a (2 ^ pl_L N s)) = true
            · rw [if_pos c] at hs; cases hs
            · rw [if_neg c] at hs; exact ih (s + 1) hs (by omega) (by omega)
      exact nf nq 0 z (by omega) (by omega)
    · intro h
      cases hq : gm_fst (pl_C N) (pl_L N) nq a b with
      | none => exact absurd hq h
      | some q =>
        obtain ⟨q1, q2⟩ := fst0 q hq
        rw [Bool.and_eq_true, Bool.not_eq_true'] at q2
        have hw := ws.mpr ⟨q, q1, q2.1, by simp, by rw [Nat.zero_or]; exact q2.2⟩
        rw [e', hw]; decide
  refine ⟨fun c => ⟨fun c4 => mo _ (fun X hXc hI hX => bX12_game_40 hG ⟨fun _ => ⟨fun z => absurd c z, fun _ => ⟨fun z => ?_, fun _ => ⟨rfl, J_plan JN v10 hX⟩⟩⟩, fun z => absurd z (by decide)⟩), fun c4 => mo _ (fun X hXc hI hX => bX12_game_40 hG ⟨fun _ => ⟨fun z => absurd c z, fun _ => ⟨fun _ => ⟨rfl, J_plan JN v10 hX⟩, fun z => ?_⟩⟩, fun z => absurd z (by decide)⟩)⟩, fun c => mo _ (fun X hXc hI hX => bX12_game_40 hG ⟨fun _ => ⟨fun _ => ?_, fun z => absurd z c⟩, fun z => absurd z (by decide)⟩)⟩
  · exfalso
    have := (w0 X hI hXc).mpr (fun w => c4 (by rw [w]; rfl))
    exact this z
  · exfalso
    have h := (w0 X hI hXc).mp z
    cases hq : gm_fst (pl_C N) (pl_L N) nq a b with
    | none => exact h hq
    | some q => rw [hq] at c4; exact absurd c4 (by show ¬ ((q : Int) = -1); omega)
  · have e0 := hXc.1.2
    have good : ∀ q, q < nq → ((pl_C N a q && !(0 : Nat).testBit (pl_L N q)) = true ∧ X (gm_r true) ((0 ||| 2 ^ pl_L N q : Nat) : Int) = 0 ↔ (pl_C N a q && !gm_w (pl_C N) (pl_L N) nq b a (2 ^ pl_L N q)) = true) := fun q hq => by
      have lq := (hXc.2.2.1 q hq).2
      have e := (hI (2 ^ pl_L N q) (Nat.zero_le _) (Nat.pow_lt_pow_right (by decide) lq)).2
      show ((pl_C N a q && !(0 : Nat).testBit (pl_L N q)) = true ∧ X 263 ((0 ||| 2 ^ pl_L N q : Nat) : Int) = 0 ↔ _)
      rw [Nat.zero_or, e, Nat.zero_testBit]
      cases pl_C N a q <;> cases gm_w (pl_C N) (pl_L N) nq b a (2 ^ pl_L N q) <;> simp
    have lp : ∀ (r q : Nat), q + r = nq → gm_fst (pl_C N) (pl_L N) nq a b = pl_fb (fun q => pl_C N a q && !gm_w (pl_C N) (pl_L N) nq b a (2 ^ pl_L N q)) r q → Y G (d + 393 + 5 + 2) mX12_game 103 [(2, 234), (0, (a : Int)), (0, (b : Int)), (0, x3), (0, (q : Int))] [] X (fun r2 M2 => r2 = (0, pl_v (gm_fst (pl_C N) (pl_L N) nq a b)) ∧ zJn M M2) := fun r => by
      induction r with
      | zero =>
        intro q hq e
        exact bX12_game_103 hG ⟨fun _ => ⟨by rw [e]; rfl, J_plan JN v10 hX⟩, fun z => absurd z (by omega)⟩
      | succ r ih =>
        intro q hq e
        have st : pl_fb (fun q => pl_C N a q && !gm_w (pl_C N) (pl_L N) nq b a (2 ^ pl_L N q)) (r + 1) q = if (pl_C N a q && !gm_w (pl_C N) (pl_L N) nq b a (2 ^ pl_L N q)) = true then some q else pl_fb (fun q => pl_C N a q && !gm_w (pl_C N) (pl_L N) nq b a (2 ^ pl_L N q)) r (q + 1) := rfl
        rw [st] at e
        have gq := good q (by omega)
        refine bX12_game_103 hG ⟨fun z => absurd z (by omega), fun _ => ?_⟩
        refine m_isGood (d := d + 395) (U := 0) (p := a) (q := q) (one := true) hG hXc ha (by omega) (Nat.two_pow_pos nq) (fun g1 g2 => bX12_game_123 hG ⟨fun z => absurd z (by decide), fun _ => ?_⟩) (fun g => bX12_game_123 hG ⟨fun _ => ⟨by omega, ih (q + 1) (by omega) ?_⟩, fun z => absurd rfl z⟩)
        · rw [if_pos (gq.mp ⟨g1, g2⟩)] at e
          exact ⟨by rw [e]; rfl, J_plan JN v10 hX⟩
        · rw [if_neg (fun z => g (gq.mpr z))] at e; exact e
    exact lp nq 0 (by omega) rfl
end PL8

section PL4
variable {G : zG} {d : Nat} {M : zM} {Q : zV → zM → Prop}
def zfkF : List (Int × Int × Int) := zwyF ++ [(258, 0, 1000000), (259, 0, 1000000)]
theorem K_fk {X N : zM} (hK : zK X) (hf : zfr zfkF X N) : zK N := ⟨zsA_c (zfr_sm hf (by decide)) hK.1, zJ1_c (zfr_sm hf (by decide)) hK.2.1, zJ16_c (zfr_sm hf (by decide)) hK.1.1.2 hK.2.2⟩
/-- the lowest that is alike -/
def pl_lk (X : zM) (q v : Int) : Prop := (0 ≤ v ∧ v ≤ q) ∧ zqf X (X 235 4) v = zqf X (X 235 4) q ∧ ∀ j, 0 ≤ j → j < v → zqf X (X 235 4) j ≠ zqf X (X 235 4) q
theorem pl_lk_u {X : zM} {q v w : Int} (h1 : pl_lk X q v) (h2 : pl_lk X q w) : v = w := by
  rcases Int.lt_trichotomy v w with c | c | c
  · exact absurd h1.2.1 (h2.2.2 v h1.1.1 c)
  · exact c
  · exact absurd h2.2.1 (h1.2.2 w h2.1.1 c)
theorem m_findLike (hG : zP G) (hK : zK M) {nq : Nat} (en : M 235 0 = nq) (h : ∀ X, zfr zfkF M X → (∀ q : Nat, q < nq → X 258 q = if zaM M (M 3) q = M 235 3 then 1 else 0) → (∀ q : Nat, q < nq → pl_lk M q (X 259 q)) → Q (9, 0) X) : Y G (d + 6) mX12_findLike 0 [(2, 234), (9, 0), (9, 0)] [] M Q := by
  have n12 : 0 ≤ M 235 0 ∧ M 235 0 ≤ 12 := hK.1.1
  have h255 : 0 ≤ M 235 4 ∧ M 235 4 ≤ 255 := hK.1.2.2.2.2.1
  refine bX12_findLike_0 hG (k_mworld (d := d + 3) hG hK (fun N hN KN hW hE => bX12_findLike_4 hG ?_))
  have hN' : zfr zfkF M N := zfr_sub hN (fun t ht => List.mem_append_left _ (List.mem_append_left _ ht))
  -- what stays as it is
  have x235 : ∀ X, zfr zfkF M X → ∀ i, 0 ≤ i → i < 156 → X 235 i = M 235 i := fun X hX i i0 i1 => (zfr_sm (S := [(235, 0, 156)]) hX (by decide)) 235 i (zhit_at 0 rfl ⟨i0, i1⟩)
  have fq : ∀ X, zfr zfkF M X → ∀ q : Nat, q < nq → zqf X (M 235 4) q = zqf M (M 235 4) q := fun X hX q hq => zqf_c (zfr_sm hX (by decide)) ⟨by omega, by omega⟩ (hK.2.2 q (by omega) (by omega))
  have fa : ∀ X, zfr zfkF M X → ∀ q : Nat, q < nq → zaM X (X 3) q = zaM M (M 3) q := fun X hX q hq => by
    have sx := zfr_sm (S := [(235, 0, 156), (246, 0, 12), (247, 0, 2880), (3, 0, 4)]) hX (by decide)
    have jq := hK.2.2 q (by omega) (by omega)
    rw [zaM_e (M := M) hK.1 (by have := jq.2.1; omega) (sx _ _ (zhit_at 0 rfl ⟨by decide, by decide⟩)) (fun i i0 i1 => sx _ _ (zhit_at 0 rfl ⟨by omega, by omega⟩)) (sx _ _ (zhit_at 1 rfl ⟨by omega, by omega⟩)) (fun i i0 i1 => sx _ _ (zhit_at 2 rfl ⟨by omega, by omega⟩))]
    exact zaM_t jq (fun t t0 t1 => sx _ _ (zhit_at 3 rfl ⟨t0, t1⟩))
  -- the world is still there
  have nw : zfr (zaF ++ [(250, 0, 1000000), (258, 0, 1000000), (259, 0, 1000000)]) N N := zfr_rfl
  have wS : ∀ X, zfr (zaF ++ [(250, 0, 1000000), (258, 0, 1000000), (259, 0, 1000000)]) N X → (zfr zfkF M X ∧ zK X ∧ (∀ t, 0 ≤ t → t < 4 → X 249 t = X 235 (10 + t)) ∧ zME X) := fun X hX => by
    have a1 : zfr zfkF M X := zfr_trans hN' (zfr_sub hX (fun t ht => by
      rcases List.mem_append.mp ht with y | y
      · exact List.mem_append_left _ (List.mem_append_right _ y)
      · rcases List.mem_cons.mp y with z | z
        · rw [z]; exact List.mem_append_left _ (List.mem_append_left _ (by decide))
        · exact List.mem_append_right _ z))
    have sx := zfr_sm (S := [(235, 0, 156), (249, 0, 4), (237, 0, 64), (238, 0, 36)]) hX (by decide)
    refine ⟨a1, K_fk hK a1, fun t t0 t1 => ?_, ?_⟩
    · rw [sx 249 t (zhit_at 1 rfl ⟨t0, t1⟩), sx 235 (10 + t) (zhit_at 0 rfl ⟨by omega, by omega⟩)]; exact hW t t0 t1
    · exact zME_c (zfr_sm hX (by decide)) KN.1 hE
  have lp : ∀ (r q : Nat) (X : zM), q + r = nq → zfr (zaF ++ [(250, 0, 1000000), (258, 0, 1000000), (259, 0, 1000000)]) N X → (∀ i : Nat, i < q → X 258 i = if zaM M (M 3) i = M 235 3 then 1 else 0) → (∀ i : Nat, i < q → pl_lk M i (X 259 i)) → Y G (d + 5 + 1) mX12_findLike 6 [(2, 234), (0, (q : Int)), (9, 0)] [] X Q := fun r => by
    induction r with
    | zero =>
      intro q X hq hX h58 h59
      have : q = nq := by omega
      subst this
      obtain ⟨a1, KX, hWX, hEX⟩ := wS X hX
      refine bX12_findLike_6 hG ⟨fun _ => h X a1 h58 h59, fun c => absurd c ?_⟩
      rw [x235 X a1 0 (by decide) (by decide)]; omega
    | succ r ih =>
      intro q X hq hX h58 h59
      obtain ⟨a1, KX, hWX, hEX⟩ := wS X hX
      have hq0 : (0 : Int) ≤ (q : Int) ∧ (q : Int) < X 235 0 := by rw [x235 X a1 0 (by decide) (by decide)]; omega
      -- the inner loop
      have inn : ∀ (e : Nat) (X1 : zM), e ≤ q → zfr (zaF ++ [(250, 0, 1000000), (258, 0, 1000000), (259, 0, 1000000)]) N X1 → (∀ i : Nat, i < q + 1 → X1 258 i = if zaM M (M 3) i = M 235 3 then 1 else 0) → (∀ i : Nat, i < q → pl_lk M i (X1 259 i)) → ((e : Int) ≤ X1 259 q ∧ X1 259 q ≤ q) → zqf M (M 235 4) (X1 259 q) = zqf M (M 235 4) q → (∀ j, (e : Int) ≤ j → j < X1 259 q → zqf M (M 235 4) j ≠ zqf M (M 235 4) q) → Y G (d + 5 + 1) mX12_findLike 54 [(2, 234), (0, (q : Int)), (0, (e : Int) - 1)] [] X1 Q := fun e => by
        induction e with
        | zero =>
          intro X1 he hX1 g58 g59 b1 b2 b3
          refine bX12_findLike_54 hG ⟨fun _ => ⟨by omega, ih (q + 1) X1 (by omega) hX1 g58 (fun i hi => ?_)⟩, fun c => absurd c (by omega)⟩
          by_cases ci : i = q
          · rw [ci]; exact ⟨by omega, b2, fun j j0 j1 => b3 j (by omega) j1⟩
          · exact g59 i (by omega)
        | succ e ih2 =>
          intro X1 he hX1 g58 g59 b1 b2 b3
          obtain ⟨c1, KX1, hW1, hE1⟩ := wS X1 hX1
          have e0 : X1 235 0 = nq := by rw [x235 X1 c1 0 (by decide) (by decide)]; exact en
          have e4 : X1 235 4 = M 235 4 := x235 X1 c1 4 (by decide) (by decide)
          rw [show ((e + 1 : Nat) : Int) - 1 = (e : Int) by omega]
          refine bX12_findLike_54 hG ⟨fun c => absurd c (by omega), fun _ => ?_⟩
          rw [e4]
          refine k_malike (d := d) hG KX1 (by omega) (by omega) h255 (fun X2 hX2 KX2 => ?_)
          rw [fq X1 c1 e (by omega), fq X1 c1 q (by omega)]
          have hX2' : zfr (zaF ++ [(250, 0, 1000000), (258, 0, 1000000), (259, 0, 1000000)]) N X2 := zfr_trans hX1 (zfr_sub hX2 (fun t ht => List.mem_append_left _ ht))
          have r2 : ∀ a, (a = 258 ∨ a = 259) → ∀ i, 0 ≤ i → i < 1000 → X2 a i = X1 a i := fun a ha i i0 i1 => hX2 a i (by unfold zhw zhit; simp; omega)
          by_cases al : zqf M (M 235 4) (e : Int) = zqf M (M 235 4) (q : Int)
          · rw [if_pos al]
            refine bX12_findLike_70 hG ⟨fun z => absurd z (by decide), fun _ => ⟨by omega, by omega, ?_⟩⟩
            have o59 : ∀ i, i ≠ (q : Int) → zset X2 259 (q : Int) (e : Int) 259 i = X2 259 i := fun i hi => zset_ne (fun z => hi z.2)
            have s59 : zset X2 259 (q : Int) (e : Int) 259 (q : Int) = (e : Int) := zset_same
            refine ih2 _ (by omega) (zfr_set hX2' (zhit_at 11 rfl ⟨by omega, by omega⟩)) (fun i hi => by rw [zset_off (by decide), r2 258 (by omega) _ (by omega) (by omega)]; exact g58 i hi) (fun i hi => by rw [o59 _ (by omega), r2 259 (by omega) _ (by omega) (by omega)]; exact g59 i hi) (by rw [s59]; omega) (by rw [s59]; exact al) (fun j j0 j1 => by rw [s59] at j1; exact absurd j1 (by omega))
          · rw [if_neg al]
            refine bX12_findLike_70 hG ⟨fun _ => ⟨by omega, ?_⟩, fun z => absurd rfl z⟩
            rw [show (e : Int) + -1 = (e : Int) - 1 by omega]
            refine ih2 X2 (by omega) hX2' (fun i hi => by rw [r2 258 (by omega) _ (by omega) (by omega)]; exact g58 i hi) (fun i hi => by rw [r2 259 (by omega) _ (by omega) (by omega)]; exact g59 i hi) (by rw [r2 259 (by omega) _ (by omega) (by omega)]; omega) (by rw [r2 259 (by omega) _ (by omega) (by omega)]; exact b2) (fun j j0 j1 => ?_)
            rw [r2 259 (by omega) _ (by omega) (by omega)] at j1
            by_cases cj : j = e
            · rw [cj]; exact al
            · exact b3 j (by omega) j1
      refine bX12_findLike_6 hG ⟨fun c => absurd c (by omega), fun _ => k_mnow (d := d + 3) hG KX hWX hEX hq0 (fun V => bX12_findLike_26 hG ?_)⟩
      rw [fa X a1 q (by omega), zrow_off (show (235 : Int) ≠ 250 by decide), x235 X a1 3 (by decide) (by decide)]
      have hV : zfr (zaF ++ [(250, 0, 1000000), (258, 0, 1000000), (259, 0, 1000000)]) N (zrow X 250 V) := zfr_row hX 9 rfl
      have fin : ∀ b : Int, b = (if zaM M (M 3) q = M 235 3 then 1 else 0) → Y G (d + 5 + 1) mX12_findLike 54 [(2, 234), (0, (q : Int)), (0, (q : Int) - 1)] [] (zset (zset (zrow X 250 V) 258 (q : Int) b) 259 (q : Int) (q : Int)) Q := fun b hb => by
        have s59 : zset (zset (zrow X 250 V) 258 (q : Int) b) 259 (q : Int) (q : Int) 259 (q : Int) = (q : Int) := zset_same
        refine inn q _ (Nat.le_refl _) (zfr_set (zfr_set hV (zhit_at 10 rfl ⟨by omega, by omega⟩)) (zhit_at 11 rfl ⟨by omega, by omega⟩)) (fun i hi => ?_) (fun i hi => ?_) (by rw [s59]; omega) (by rw [s59]) (fun j j0 j1 => by rw [s59] at j1; exact absurd j1 (by omega))
        · rw [zset_off (by decide)]
          by_cases ci : i = q
          · rw [ci, zset_same]; exact hb
          · rw [zset_ne (fun z => ci (by have := z.2; omega)), zrow_off (by decide)]; exact h58 i (by omega)
        · rw [zset_ne (fun z => by have := z.2; omega), zset_off (by decide), zrow_off (by decide)]; exact h59 i hi
      refine ⟨fun c => ⟨by omega, by omega, by omega, fin 0 ?_⟩, fun c => ⟨by omega, by omega, by omega, fin 1 ?_⟩⟩
      · rw [zlcmp_eq] at c; rw [if_neg c]
      · rw [zlcmp_eq] at c; rw [if_pos c]
  exact lp nq 0 N (by omega) nw (fun i hi => absurd hi (by omega)) (fun i hi => absurd hi (by omega))
/-! who can ask, in an order -/
section MX
variable {C : Nat → Nat → Bool} {L : Nat → Nat} {nq np : Nat}
def ml_Cx (X : zM) (C : Nat → Nat → Bool) (L : Nat → Nat) (nq np : Nat) : Prop := (X 235 2 = np ∧ X 235 0 = nq) ∧ (np ≤ 6 ∧ nq ≤ 12) ∧ (∀ q : Nat, q < nq → X 259 q = L q ∧ L q < nq) ∧ (∀ p : Nat, p < np → ∀ q : Nat, q < nq → (C p q = true ↔ X 258 q ≠ 0 ∧ zmlac X p q = 0))
theorem m_can (hG : zP G) (hX : ml_Cx M C L nq np) {p q : Nat} (hp : p < np) (hq : q < nq) (h1 : zmlac M p q = 0 → Q (0, 1) M) (h0 : zmlac M p q ≠ 0 → Q (0, 0) M) : Y G (d + 3) mX12_can 0 [(2, 234), (0, (p : Int)), (0, (q : Int))] [] M Q := by
  have a := hX.1
  have b := hX.2.1
  exact bX12_can_0 hG (s_mlacks hG (by omega) (fun _ => bX12_can_6 hG ⟨fun c => h0 c, fun c => h1 c⟩) (fun z => absurd (by omega) z))
theorem m_canAsk (hG : zP G) (hX : ml_Cx M C L nq np) {S : Nat} (hS : S < 64) : ∀ (l : List Nat) (k U cnt : Nat), k + l.length = np → (∀ j : Nat, j < l.length → M 260 ((k : Int) + j) = (l.getD j 0 : Int)) → (∀ x ∈ l, x < np) → U < 4096 → cnt ≤ 6 - l.length → Q (0, ((cnt + pl_gr C L nq S l U : Nat) : Int)) M → Y G (d + 4) mX12_canAsk 7 [(2, 234), (0, (S : Int)), (0, (U : Int)), (0, (cnt : Int)), (0, (k : Int)), (9, 0), (9, 0)] [] M Q
  | [], k, U, cnt, hk, hl, hx, hU, hc, h => by
    have a := hX.1
    have hk' : k + 0 = np := hk
    exact bX12_canAsk_7 hG ⟨fun _ => h, fun c => absurd c (by omega)⟩
  | p :: l, k, U, cnt, hk, hl, hx, hU, hc, h => by
    have a := hX.1
    have b := hX.2.1
    rw [List.length_cons] at hk hc
    have ep : M 260 (k : Int) = (p : Int) := by
      have := hl 0 (by rw [List.length_cons]; omega)
      rw [show (k : Int) + ((0 : Nat) : Int) = (k : Int) by omega] at this
      exact this
    have hp : p < np := hx p List.mem_cons_self
    have hl' : ∀ j : Nat, j < l.length → M 260 (((k + 1 : Nat) : Int) + j) = (l.getD j 0 : Int) := fun j hj => by
      have := hl (j + 1) (by rw [List.length_cons]; omega)
      rw [show (k : Int) + ((j + 1 : Nat) : Int) = ((k + 1 : Nat) : Int) + (j : Int) by omega] at this
      exact this
    have hx' : ∀ x ∈ l, x < np := fun x hy => hx x (List.mem_cons_of_mem _ hy)
    rw [pl_gr_c] at h
    have hz := zbit_n (a := S) (k := p) (by omega) (by omega)
    refine bX12_canAsk_7 hG ?_
    rw [ep, a.1]
    refine ⟨fun c => absurd c (by omega), fun _ => ⟨by omega, fun c => ?_, fun c => ⟨by omega, ?_⟩⟩⟩
    · rw [if_pos (hz.mp c)] at h
      have skip : pl_lw C L nq U p = none → Y G (d + 4) mX12_canAsk 7 [(2, 234), (0, (S : Int)), (0, (U : Int)), (0, (cnt : Int)), (0, (k : Int) + 1), (9, 0), (9, 0)] [] M Q := fun e => by
        rw [e] at h
        exact m_canAsk hG hX hS l (k + 1) U cnt (by omega) hl' hx' hU (by omega) h
      have take : ∀ q : Nat, q < nq → pl_lw C L nq U p = some q → Y G (d + 4) mX12_canAsk 7 [(2, 234), (0, (S : Int)), (0, zor (U : Int) (zshl 1 (M 259 (q : Int)))), (0, (cnt : Int) + 1), (0, (k : Int) + 1), (9, 0), (9, 0)] [] M Q := fun q hq e => by
        rw [e] at h
        have Lq := hX.2.2.1 q hq
        rw [Lq.1, zor_b (by omega) (by omega)]
        have hU' : U ||| 2 ^ L q < 4096 := Nat.or_lt_two_pow (n := 12) hU (show 2 ^ L q < 2 ^ 12 from Nat.pow_lt_pow_right (by decide) (by omega))
        refine m_canAsk hG hX hS l (k + 1) (U ||| 2 ^ L q) (cnt + 1) (by omega) hl' hx' hU' (by omega) ?_
        rw [show cnt + 1 + pl_gr C L nq S l (U ||| 2 ^ L q) = cnt + (pl_gr C L nq S l (U ||| 2 ^ L q) + 1) by omega]
        exact h
      have lp : ∀ (r q : Nat), q + r = nq → pl_lw C L nq U p = pl_low C L U p r q → Y G (d + 4) mX12_canAsk 42 [(2, 234), (0, (S : Int)), (0, (U : Int)), (0, (cnt : Int)), (0, (k : Int)), (0, (p : Int)), (0, (q : Int))] [] M Q := fun r => by
        induction r with
        | zero =>
          intro q hq e
          refine bX12_canAsk_42 hG ?_
          rw [a.2]
          exact ⟨fun _ => ⟨fun z => absurd (by omega) z, fun _ => ⟨by omega, skip e⟩⟩, fun z => absurd z (by omega)⟩
        | succ r ih =>
          intro q hq e
          have eq : pl_low C L U p (r + 1) q = if (C p q && !U.testBit (L q)) = true then some q else pl_low C L U p r (q + 1) := rfl
          rw [eq] at e
          have Lq := hX.2.2.1 q (by omega)
          have Cq := hX.2.2.2 p hp q (by omega)
          have hu := zbit_n (a := U) (k := L q) (by omega) (by omega)
          refine bX12_canAsk_42 hG ?_
          rw [a.2, Lq.1]
          refine ⟨fun z => absurd z (by omega), fun _ => ⟨by omega, fun c1 => ⟨by omega, ih (q + 1) (by omega) ?_⟩, fun c1 => ⟨by omega, fun c2 => ⟨by omega, ih (q + 1) (by omega) ?_⟩, fun c2 => ?_⟩⟩⟩
          · rw [if_neg (fun z => by rw [Bool.and_eq_true] at z; exact (Cq.mp z.1).1 c1)] at e; exact e
          · rw [if_neg (fun z => by rw [Bool.and_eq_true, hu.mp c2] at z; exact absurd z.2 (by decide))] at e; exact e
          · refine m_can (d := d) hG hX hp (by omega) (fun c3 => bX12_canAsk_85 hG ?_) (fun c3 => bX12_canAsk_85 hG ⟨fun z => absurd rfl z, fun _ => ⟨by omega, ih (q + 1) (by omega) ?_⟩⟩)
            · rw [a.2]
              refine ⟨fun _ => ⟨fun _ => ⟨by omega, by omega, by omega, take q (by omega) ?_⟩, fun z => absurd z (by omega)⟩, fun z => absurd z (by decide)⟩
              have hub : U.testBit (L q) = false := by
                cases w : U.testBit (L q) with
                | false => rfl
                | true => exact absurd (hu.mpr w) c2
              rw [if_pos (by rw [Cq.mpr ⟨c1, c3⟩, hub]; rfl)] at e; exact e
            · rw [if_neg (fun z => by rw [Bool.and_eq_true] at z; exact c3 (Cq.mp z.1).2)] at e; exact e
      exact lp nq 0 (by omega) rfl
    · rw [if_neg (fun z => c (hz.mpr z))] at h
      exact m_canAsk hG hX hS l (k + 1) U cnt (by omega) hl' hx' hU (by omega) h
end MX
end PL4

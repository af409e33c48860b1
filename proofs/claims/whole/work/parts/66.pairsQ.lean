section PQ
variable {G : zG} {d : Nat} {M : zM} {Q : zV → zM → Prop}

abbrev zwyS : List (Int × Int × Int) := [(235, 0, 156), (246, 0, 12), (247, 0, 2880), (248, 0, 48), (3, 0, 4)]
theorem zwhy_e {N : zM} (hJ : zJ M) (h : zsm zwyS M N) {p q : Int} (hp : 0 ≤ p ∧ p < M 235 2) (hq : 0 ≤ q ∧ q < M 235 0) : zwhy N p q = zwhy M p q := by
  have n12 : 0 ≤ M 235 0 ∧ M 235 0 ≤ 12 := hJ.1.1
  have n2 := hJ.1.2.2.1.1
  obtain ⟨n5, sq⟩ := zV5_s hJ.1
  have e : ∀ i, 0 ≤ i → i < 156 → N 235 i = M 235 i := fun i i0 i1 => h _ _ (zhit_at 0 rfl ⟨i0, i1⟩)
  have e8 : ∀ i, 0 ≤ i → i < 48 → N 248 i = M 248 i := fun i i0 i1 => h _ _ (zhit_at 3 rfl ⟨i0, i1⟩)
  have jq := (hJ.2.2.2.2.2.2.2.2.2.2.2.2.2.2.2.2.2.2.2.1) q hq.1 hq.2
  have a1 : zha N p = zha M p := by
    unfold zha
    rw [e 5 (by decide) (by decide)]
    have gen : ∀ k : Nat, (k : Int) ≤ M 235 5 → zhb (fun i => N 235 (104 + 2 * i)) p k = zhb (fun i => M 235 (104 + 2 * i)) p k := fun k => by
      induction k with
      | zero => exact fun _ => rfl
      | succ k ih =>
        intro hk
        show (zhb (fun i => N 235 (104 + 2 * i)) p k || decide (N 235 (104 + 2 * (k : Int)) = p)) = (zhb (fun i => M 235 (104 + 2 * i)) p k || decide (M 235 (104 + 2 * (k : Int)) = p))
        rw [ih (by omega), e _ (by omega) (by omega)]
    exact gen _ (by omega)
  have a2 : zmlac N p q = zmlac M p q := by
    unfold zmlac
    rw [e8 _ (by omega) (by omega), e8 _ (by omega) (by omega), e8 _ (by omega) (by omega), e8 _ (by omega) (by omega), e _ (by omega) (by omega), e _ (by omega) (by omega), e _ (by omega) (by omega), e _ (by omega) (by omega)]
  have a3 : zaM N (N 3) q = zaM M (M 3) q := by
    rw [zaM_e (M := M) hJ.1 (by have := jq.2.1; omega) (e 1 (by decide) (by decide)) (fun i i0 i1 => e i (by omega) (by omega)) (h _ _ (zhit_at 1 rfl ⟨hq.1, by omega⟩)) (fun i i0 i1 => h _ _ (zhit_at 2 rfl ⟨by omega, by omega⟩))]
    exact zaM_t jq (fun t t0 t1 => h _ _ (zhit_at 4 rfl ⟨t0, t1⟩))
  have a4 : zbar N q = zbar M q := zbar_e hJ (fun a i hi => by
    obtain ⟨t, ht, g1, g2, g3⟩ := hi
    refine h a i ⟨t, ?_, g1, g2, g3⟩
    simp only [List.mem_cons, List.not_mem_nil, or_false] at ht ⊢
    rcases ht with z | z | z <;> rw [z] <;> simp) hq
  unfold zwhy
  rw [a1, a2, a3, a4, e 3 (by decide) (by decide)]
/-! what is left -/
noncomputable def zlt' (P : zM) (p : Int) : Nat → Int
  | 0 => -1
  | k + 1 => if (zlt' P p k = -1 ∨ P 248 (4 * k + 2) < P 248 (4 * zlt' P p k + 2)) ∧ zwhy P p k = 0 then k else zlt' P p k
theorem zlt_b {P : zM} {p : Int} : ∀ k : Nat, -1 ≤ zlt' P p k ∧ zlt' P p k < k ∨ k = 0 ∧ zlt' P p k = -1
  | 0 => Or.inr ⟨rfl, rfl⟩
  | k + 1 => by
    have ih := zlt_b (P := P) (p := p) k
    show -1 ≤ (if (zlt' P p k = -1 ∨ P 248 (4 * k + 2) < P 248 (4 * zlt' P p k + 2)) ∧ zwhy P p k = 0 then (k : Int) else zlt' P p k) ∧ (if (zlt' P p k = -1 ∨ P 248 (4 * k + 2) < P 248 (4 * zlt' P p k + 2)) ∧ zwhy P p k = 0 then (k : Int) else zlt' P p k) < ((k + 1 : Nat) : Int) ∨ _
    refine Or.inl ?_
    split <;> omega
theorem pr_left (hG : zP G) (hJ : zJ M) {x1 : Int} : zPr G d mX11_left mX12_left [(2, 1), (0, x1)] [(2, 234), (0, x1), (9, 0), (9, 0)] M := by
  have u := (hJ.2.2.2.2.2.2.2.2.2.2.2.2.1).1
  have n12 : 0 ≤ M 235 0 ∧ M 235 0 ≤ 12 := hJ.1.1
  have n2 := hJ.1.2.2.1.1
  refine bX11_left_0 hG ?_
  rw [u]
  refine ⟨by omega, fun a => ?_, fun a => bX12_left_0 hG ⟨by omega, fun q => absurd q a, fun _ => ⟨rfl, zJ_rf hJ⟩⟩⟩
  refine s_stockJ (d := d + 189) hG hJ (fun N JN hf e13 hW => bX11_left_14 hG ?_)
  have sm := zfr_sm (S := [(235, 0, 156), (246, 0, 12), (247, 0, 2880), (3, 0, 4), (2, 10, 11), (19, 8, 9)]) hf (by decide)
  have a235 : ∀ i, 0 ≤ i → i < 156 → N 235 i = M 235 i := fun i i0 i1 => sm _ _ (zhit_at 0 rfl ⟨i0, i1⟩)
  have v10 : N 2 10 = M 2 10 := sm _ _ (zhit_at 4 rfl ⟨by decide, by decide⟩)
  have aN : 0 ≤ x1 ∧ x1 < N 235 2 := by rw [a235 2 (by decide) (by decide)]; exact a
  have e0 := a235 0 (by decide) (by decide)
  obtain ⟨n, hn⟩ := Int.eq_ofNat_of_zero_le n12.1
  have xa : ∀ q, 0 ≤ q → q < M 235 0 → zaM N (N 3) q = zaM M (M 3) q := fun q q0 q1 => by
    have jq := (hJ.2.2.2.2.2.2.2.2.2.2.2.2.2.2.2.2.2.2.2.1) q q0 q1
    rw [zaM_e (M := M) hJ.1 (by have := jq.2.1; omega) (a235 1 (by decide) (by decide)) (fun i i0 i1 => a235 i (by omega) (by omega)) (sm _ _ (zhit_at 1 rfl ⟨q0, by omega⟩)) (fun i i0 i1 => sm _ _ (zhit_at 2 rfl ⟨by omega, by omega⟩))]
    exact zaM_t jq (fun t t0 t1 => sm _ _ (zhit_at 3 rfl ⟨t0, t1⟩))
  have j13 := JN.2.2.2.2.2.2.2.2.2.2.2.2.2.2.1
  have j8 := JN.2.2.2.2.2.2.2.2.2.2.1
  have n19 : N 19 8 = n := by rw [j8.1, e0, hn]
  have l23 : ∀ q, 0 ≤ q → q < (n : Int) → N 23 q = N 248 (4 * q + 2) := fun q q0 q1 => (j8.2 q q0 (by rw [e0, hn]; exact q1)).1.2.2.1
  -- the model
  have mo : ∀ (r i : Nat) (X : zM), i + r = n → zfr zwyF N X → zJ X → Y G (d + 400) mX12_left 14 [(2, 234), (0, x1), (0, zlt' N x1 i), (0, (i : Int))] [] X (fun r2 M2 => r2 = (0, zlt' N x1 n) ∧ zJn M M2) := fun r => by
    induction r with
    | zero =>
      intro i X hi hX JX
      have : i = n := by omega
      subst this
      have sx := zfr_sm (S := [(235, 0, 156), (2, 10, 11)]) hX (by decide)
      have x0 : X 235 0 = i := by rw [sx 235 0 (zhit_at 0 rfl ⟨by decide, by decide⟩), e0, hn]
      exact bX12_left_14 hG ⟨fun _ => ⟨rfl, zJn_tr v10 JX (sx 2 10 (zhit_at 1 rfl ⟨by decide, by decide⟩))⟩, fun c => absurd c (by omega)⟩
    | succ r ih =>
      intro i X hi hX JX
      have sx := zfr_sm (S := zwyS) hX (by decide)
      have x235 : ∀ i, 0 ≤ i → i < 156 → X 235 i = N 235 i := fun i i0 i1 => sx _ _ (zhit_at 0 rfl ⟨i0, i1⟩)
      have x0 : X 235 0 = n := by rw [x235 0 (by decide) (by decide), e0, hn]
      have wy : zwhy X x1 i = zwhy N x1 i := zwhy_e JN sx aN (by rw [e0, hn]; omega)
      refine bX12_left_14 hG ⟨fun c => absurd c (by omega), fun _ => ?_⟩
      refine s_mwhy (d := d + 391) hG JX (by rw [x235 2 (by decide) (by decide)]; exact aN) (by rw [x0]; omega) (fun X2 hX2 J2 => ?_)
      rw [wy]
      have hN2 := zfr_trans hX hX2
      have s2 := zfr_sm (S := [(248, 0, 48)]) hN2 (by decide)
      have x248 : ∀ i, 0 ≤ i → i < 48 → X2 248 i = N 248 i := fun i i0 i1 => s2 _ _ (zhit_at 0 rfl ⟨i0, i1⟩)
      have bb := zlt_b (P := N) (p := x1) i
      have st : zlt' N x1 (i + 1) = if (zlt' N x1 i = -1 ∨ N 248 (4 * (i : Int) + 2) < N 248 (4 * zlt' N x1 i + 2)) ∧ zwhy N x1 i = 0 then (i : Int) else zlt' N x1 i := rfl
      have nx := ih (i + 1) X2 (by omega) hN2 J2
      rw [st] at nx
      generalize zlt' N x1 i = z at *
      refine bX12_left_30 hG ⟨fun c => ⟨by omega, ?_⟩, fun c => ⟨fun c2 => ⟨by omega, ?_⟩, fun c2 => ?_⟩⟩
      · rw [if_neg (fun w => c w.2)] at nx; exact nx
      · rw [if_pos ⟨Or.inl (by omega), c⟩] at nx; exact nx
      · rw [x248 (4 * z + 2) (by omega) (by omega), x248 (4 * (i : Int) + 2) (by omega) (by omega)]
        refine ⟨by omega, by omega, by omega, by omega, by omega, by omega, fun c3 => ⟨by omega, ?_⟩, fun c3 => ⟨by omega, ?_⟩⟩
        · rw [if_neg (fun w => by rcases w.1 with y | y <;> omega)] at nx; exact nx
        · rw [if_pos ⟨Or.inr c3, c⟩] at nx; exact nx
  have fin : Y G (d + 399 + 1) mX11_left 26 [(2, 1), (0, x1)] [(0, zlt' N x1 n)] N (fun r M1 => Y G (d + 400) mX12_left 0 [(2, 234), (0, x1), (9, 0), (9, 0)] [] M1 (fun r2 M2 => r2 = r ∧ zJn M M2)) := by
    refine bX11_left_26 hG (bX12_left_0 hG ⟨by rw [a235 2 (by decide) (by decide)]; omega, fun _ => mo n 0 N (by omega) zfr_rfl JN, fun z => absurd aN z⟩)
  have lc : ∀ (r i : Nat), i + r = n → Y G (d + 398 + 1) mX6_shortestNow 5 [(2, 157), (0, x1), (2, 19), (0, zlt' N x1 i), (0, (i : Int)), (9, 0)] [] N (fun r M' => Y G (d + 399 + 1) mX11_left 26 [(2, 1), (0, x1)] (zpush r []) M' (fun r M1 => Y G (d + 400) mX12_left 0 [(2, 234), (0, x1), (9, 0), (9, 0)] [] M1 (fun r2 M2 => r2 = r ∧ zJn M M2))) := fun r => by
    induction r with
    | zero =>
      intro i hi
      have : i = n := by omega
      subst this
      exact bX6_shortestNow_5 hG ⟨fun _ => fin, fun c => absurd c (by omega)⟩
    | succ r ih =>
      intro i hi
      have bN : 0 ≤ (i : Int) ∧ (i : Int) < N 235 0 := by rw [e0, hn]; omega
      have bb := zlt_b (P := N) (p := x1) i
      have st : zlt' N x1 (i + 1) = if (zlt' N x1 i = -1 ∨ N 248 (4 * (i : Int) + 2) < N 248 (4 * zlt' N x1 i + 2)) ∧ zwhy N x1 i = 0 then (i : Int) else zlt' N x1 i := rfl
      have nx := ih (i + 1) (by omega)
      rw [st] at nx
      generalize zlt' N x1 i = z at *
      have look : (z = -1 ∨ N 248 (4 * (i : Int) + 2) < N 248 (4 * z + 2)) → Y G (d + 398) mX6_hindrance 0 [(2, 157), (0, x1), (0, (i : Int)), (2, 19)] [] N (fun r M' => Y G (d + 398 + 1) mX6_shortestNow 55 [(2, 157), (0, x1), (2, 19), (0, z), (0, (i : Int)), (0, 1)] (zpush r []) M' (fun r M' => Y G (d + 399 + 1) mX11_left 26 [(2, 1), (0, x1)] (zpush r []) M' (fun r M1 => Y G (d + 400) mX12_left 0 [(2, 234), (0, x1), (9, 0), (9, 0)] [] M1 (fun r2 M2 => r2 = r ∧ zJn M M2)))) := fun hc => by
        refine s_hindrance (d := d + 396) (P := N) hG JN.1 j13.1 j13.2 (zlac_eq JN aN bN).symm (by rw [hW i (by omega) (by omega), xa i (by omega) (by omega)]) (JN.2.2.2.2.2.2.2.2.2.2.2.2.2.1) (JN.2.2.2.2.2.2.2.2.2.2.2.2.2.2.2.2.2.2.2.2.2.2.1) (by rw [e13, e0]) (by omega) bN (bX6_shortestNow_55 hG ⟨fun c => ⟨by omega, ?_⟩, fun c => ⟨by omega, ?_⟩⟩)
        · rw [if_neg (fun w => c w.2)] at nx; exact nx
        · rw [if_pos ⟨hc, c⟩] at nx; exact nx
      refine bX6_shortestNow_5 hG ?_
      rw [n19]
      refine ⟨fun c => absurd c (by omega), fun _ => ⟨fun c => look (Or.inl c), fun c => ?_⟩⟩
      rw [l23 z (by omega) (by omega), l23 i (by omega) (by omega)]
      refine ⟨by omega, by omega, fun c2 => ⟨by omega, ?_⟩, fun c2 => look (Or.inr c2)⟩
      rw [if_neg (fun w => by rcases w.1 with y | y <;> omega)] at nx
      exact nx
  exact bX6_shortestNow_0 hG (lc n 0 (by omega))

end PQ

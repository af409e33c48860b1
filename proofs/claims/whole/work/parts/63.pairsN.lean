section PN
variable {G : zG} {d : Nat} {M : zM} {Q : zV → zM → Prop}

/-! what bars a question -/
noncomputable def zbr (f : Int → List Int) (s : Int → Int) (x : Int) : Nat → Int
  | 0 => -1
  | k + 1 => if (zbr f s x k = -1 ∨ s k < zbr f s x k) ∧ f (s k) = f x then s k else zbr f s x k
theorem zbr_b {f : Int → List Int} {s : Int → Int} {x : Int} : ∀ n : Nat, (∀ i, 0 ≤ i → i < (n : Int) → 0 ≤ s i ∧ s i < 12) → -1 ≤ zbr f s x n ∧ zbr f s x n < 12
  | 0, _ => by show (-1 : Int) ≤ -1 ∧ (-1 : Int) < 12; decide
  | n + 1, h => by
    have ih := zbr_b (f := f) (x := x) n (fun i i0 i1 => h i i0 (by omega))
    have q := h n (by omega) (by omega)
    show -1 ≤ (if (zbr f s x n = -1 ∨ s n < zbr f s x n) ∧ f (s n) = f x then s n else zbr f s x n) ∧ (if (zbr f s x n = -1 ∨ s n < zbr f s x n) ∧ f (s n) = f x then s n else zbr f s x n) < 12
    split
    · omega
    · exact ih
/-- the lowest asked that is alike -/
noncomputable def zbar (P : zM) (x : Int) : Int := zbr (zqf P (P 235 4)) (fun i => P 235 (105 + 2 * i)) x (P 235 5).toNat
theorem zV5_s {A : Int → Int} (h : zVA A) : (0 ≤ A 5 ∧ A 5 ≤ 6) ∧ ∀ i, 0 ≤ i → i < A 5 → 0 ≤ A (105 + 2 * i) ∧ A (105 + 2 * i) < A 0 ∧ A 0 ≤ 12 := by
  have a5 := zA5 h
  obtain ⟨h0, h1, h2, h3, h4, h5, -⟩ := h
  refine ⟨⟨h5.1.1, a5⟩, fun i i0 i1 => ⟨(h5.2.1 i i0 i1).2.1, (h5.2.1 i i0 i1).2.2, h0.2⟩⟩
theorem s_cbarring (hG : zP G) {P : zM} {x : Int} (hA : zVA (P 235)) (h9 : M 157 9 = P 235 5) (h164 : ∀ i, 0 ≤ i → i < P 235 5 → M 164 i = P 235 (105 + 2 * i)) (hS : zJS M P) (e13 : M 19 13 = P 235 0) (hx : 0 ≤ x ∧ x < P 235 0) (h : Q (0, zbar P x) M) : Y G (d + 1) mX6_barring 0 [(2, 157), (0, x), (2, 19), (9, 0), (9, 0), (9, 0)] [] M Q := by
  obtain ⟨n5, sq⟩ := zV5_s hA
  obtain ⟨n, hn⟩ := Int.eq_ofNat_of_zero_le n5.1
  have n12 : P 235 0 ≤ 12 := hA.1.2
  have lp : ∀ (r i : Nat), i + r = n → Y G (d + 1) mX6_barring 5 [(2, 157), (0, x), (2, 19), (0, zbr (zqf P (P 235 4)) (fun i => P 235 (105 + 2 * i)) x i), (0, (i : Int)), (9, 0)] [] M Q := fun r => by
    induction r with
    | zero =>
      intro i hi
      have : i = n := by omega
      subst this
      refine bX6_barring_5 hG ⟨fun _ => ?_, fun c => absurd c (by omega)⟩
      unfold zbar at h
      rw [hn] at h
      exact h
    | succ r ih =>
      intro i hi
      have q := sq i (by omega) (by omega)
      have b := zbr_b (f := zqf P (P 235 4)) (s := fun i => P 235 (105 + 2 * i)) (x := x) i (fun j j0 j1 => by have := sq j j0 (by omega); exact ⟨this.1, by omega⟩)
      have e := h164 i (by omega) (by omega)
      have al := zlw_al (hS.2 _ q.1 (by rw [e13]; exact q.2.1)).2 (hS.2 x hx.1 (by rw [e13]; exact hx.2)).2 q.1 hx.1
      have st : zbr (zqf P (P 235 4)) (fun i => P 235 (105 + 2 * i)) x (i + 1) = if (zbr (zqf P (P 235 4)) (fun i => P 235 (105 + 2 * i)) x i = -1 ∨ P 235 (105 + 2 * (i : Int)) < zbr (zqf P (P 235 4)) (fun i => P 235 (105 + 2 * i)) x i) ∧ zqf P (P 235 4) (P 235 (105 + 2 * (i : Int))) = zqf P (P 235 4) x then P 235 (105 + 2 * (i : Int)) else zbr (zqf P (P 235 4)) (fun i => P 235 (105 + 2 * i)) x i := rfl
      have nx := ih (i + 1) (by omega)
      rw [st] at nx
      generalize zbr (zqf P (P 235 4)) (fun i => P 235 (105 + 2 * i)) x i = z at *
      have look : (z = -1 ∨ P 235 (105 + 2 * (i : Int)) < z) → Y G d mX3_areAlike 0 [(2, 19), (0, P 235 (105 + 2 * (i : Int))), (0, x)] [] M (fun r M' => Y G (d + 1) mX6_barring 41 [(2, 157), (0, x), (2, 19), (0, z), (0, (i : Int)), (0, P 235 (105 + 2 * (i : Int)))] (zpush r []) M' Q) := fun hc => by
        refine bX3_areAlike_0 hG ⟨by omega, by omega, fun c => bX6_barring_41 hG ⟨fun _ => ⟨by omega, ?_⟩, fun z => absurd rfl z⟩, fun c => bX6_barring_41 hG ⟨fun z => absurd z (by decide), fun _ => ⟨by omega, ?_⟩⟩⟩
        · rw [if_neg (fun w => c (al.mpr w.2))] at nx; exact nx
        · rw [if_pos ⟨hc, al.mp c⟩] at nx; exact nx
      refine bX6_barring_5 hG ?_
      rw [e, h9]
      refine ⟨fun c => absurd c (by omega), fun _ => ⟨by omega, fun c => look (Or.inl c), fun c => ⟨fun c2 => ⟨by omega, ?_⟩, fun c2 => look (Or.inr c2)⟩⟩⟩
      rw [if_neg (fun w => by rcases w.1 with y | y <;> omega)] at nx
      exact nx
  exact bX6_barring_0 hG (lp n 0 (by omega))
theorem s_mbarring (hG : zP G) (hJ : zJ M) {x : Int} (hx : 0 ≤ x ∧ x < M 235 0) (h : ∀ N, zfr zaF M N → zJ N → Q (0, zbar M x) N) : Y G (d + 6) mX12_barring 0 [(2, 234), (0, x), (9, 0), (9, 0), (9, 0)] [] M Q := by
  obtain ⟨n5, sq⟩ := zV5_s hJ.1
  obtain ⟨n, hn⟩ := Int.eq_ofNat_of_zero_le n5.1
  have n12 : M 235 0 ≤ 12 := hJ.1.1.2
  have fq : ∀ (X : zM), zfr zaF M X → ∀ q, 0 ≤ q → q < M 235 0 → zqf X (M 235 4) q = zqf M (M 235 4) q := fun X hX q q0 q1 => zqf_c (zfr_sm hX (by decide)) ⟨q0, by omega⟩ ((hJ.2.2.2.2.2.2.2.2.2.2.2.2.2.2.2.2.2.2.2.1) q q0 q1)
  have lp : ∀ (r i : Nat) (X : zM), i + r = n → zfr zaF M X → zJ X → Y G (d + 6) mX12_barring 4 [(2, 234), (0, x), (0, zbr (zqf M (M 235 4)) (fun i => M 235 (105 + 2 * i)) x i), (0, (i : Int)), (9, 0)] [] X Q := fun r => by
    induction r with
    | zero =>
      intro i X hi hX JX
      have : i = n := by omega
      subst this
      have x5 : X 235 5 = i := by rw [hX 235 5 (by unfold zhw zhit; decide), hn]
      refine bX12_barring_4 hG ⟨fun _ => ?_, fun c => absurd c (by omega)⟩
      have := h X hX JX
      unfold zbar at this
      rw [hn] at this
      exact this
    | succ r ih =>
      intro i X hi hX JX
      have q := sq i (by omega) (by omega)
      have x235 : ∀ i, 0 ≤ i → i < 156 → X 235 i = M 235 i := fun i i0 i1 => hX 235 i (by unfold zhw zhit; simp; omega)
      have b := zbr_b (f := zqf M (M 235 4)) (s := fun i => M 235 (105 + 2 * i)) (x := x) i (fun j j0 j1 => by have := sq j j0 (by omega); exact ⟨this.1, by omega⟩)
      have st : zbr (zqf M (M 235 4)) (fun i => M 235 (105 + 2 * i)) x (i + 1) = if (zbr (zqf M (M 235 4)) (fun i => M 235 (105 + 2 * i)) x i = -1 ∨ M 235 (105 + 2 * (i : Int)) < zbr (zqf M (M 235 4)) (fun i => M 235 (105 + 2 * i)) x i) ∧ zqf M (M 235 4) (M 235 (105 + 2 * (i : Int))) = zqf M (M 235 4) x then M 235 (105 + 2 * (i : Int)) else zbr (zqf M (M 235 4)) (fun i => M 235 (105 + 2 * i)) x i := rfl
      have nx := fun X hX JX => ih (i + 1) X (by omega) hX JX
      rw [st] at nx
      generalize zbr (zqf M (M 235 4)) (fun i => M 235 (105 + 2 * i)) x i = z at *
      have look : (z = -1 ∨ M 235 (105 + 2 * (i : Int)) < z) → Y G (d + 5) mX12_isAlike 0 [(2, 234), (0, M 235 (105 + 2 * (i : Int))), (0, x), (0, M 235 4), (9, 0), (9, 0)] [] X (fun r M' => Y G (d + 5 + 1) mX12_barring 52 [(2, 234), (0, x), (0, z), (0, (i : Int)), (0, M 235 (105 + 2 * (i : Int)))] (zpush r []) M' Q) := fun hc => by
        refine s_malike hG JX (by rw [x235 0 (by decide) (by decide)]; exact ⟨q.1, q.2.1⟩) (by rw [x235 0 (by decide) (by decide)]; exact hx) hJ.1.2.2.2.2.1 (fun X2 hX2 J2 => ?_)
        rw [fq X hX _ q.1 q.2.1, fq X hX _ hx.1 hx.2]
        by_cases al : zqf M (M 235 4) (M 235 (105 + 2 * (i : Int))) = zqf M (M 235 4) x
        · rw [if_pos al]
          rw [if_pos ⟨hc, al⟩] at nx
          exact bX12_barring_52 hG ⟨fun z => absurd z (by decide), fun _ => ⟨by omega, nx X2 (zfr_trans hX hX2) J2⟩⟩
        · rw [if_neg al]
          rw [if_neg (fun w => al w.2)] at nx
          exact bX12_barring_52 hG ⟨fun _ => ⟨by omega, nx X2 (zfr_trans hX hX2) J2⟩, fun z => absurd rfl z⟩
      refine bX12_barring_4 hG ?_
      rw [show 104 + 2 * (i : Int) + 1 = 105 + 2 * i by omega, x235 (105 + 2 * (i : Int)) (by omega) (by omega), x235 4 (by decide) (by decide), x235 5 (by decide) (by decide), hn]
      refine ⟨fun c => absurd c (by omega), fun _ => ⟨by omega, by omega, by omega, by omega, fun c => look (Or.inl (by omega)), fun c => ⟨fun c2 => ⟨by omega, ?_⟩, fun c2 => look (Or.inr c2)⟩⟩⟩
      rw [if_neg (fun w => by rcases w.1 with y | y <;> omega)] at nx
      exact nx X hX JX
  exact bX12_barring_0 hG (lp n 0 M (by omega) zfr_rfl hJ)
theorem zbar_e {N : zM} (hJ : zJ M) (h : zsm [(235, 0, 156), (246, 0, 12), (247, 0, 2880)] M N) {x : Int} (hx : 0 ≤ x ∧ x < M 235 0) : zbar N x = zbar M x := by
  obtain ⟨n5, sq⟩ := zV5_s hJ.1
  have n12 : M 235 0 ≤ 12 := hJ.1.1.2
  have e : ∀ i, 0 ≤ i → i < 156 → N 235 i = M 235 i := fun i i0 i1 => h _ _ (zhit_at 0 rfl ⟨i0, i1⟩)
  have fq : ∀ q, 0 ≤ q → q < M 235 0 → zqf N (M 235 4) q = zqf M (M 235 4) q := fun q q0 q1 => zqf_e (by have := ((hJ.2.2.2.2.2.2.2.2.2.2.2.2.2.2.2.2.2.2.2.1) q q0 q1).2.1; omega) (h _ _ (zhit_at 1 rfl ⟨q0, by omega⟩)) (fun i i0 i1 => h _ _ (zhit_at 2 rfl ⟨by omega, by omega⟩))
  have gen : ∀ k : Nat, (k : Int) ≤ M 235 5 → zbr (zqf N (M 235 4)) (fun i => N 235 (105 + 2 * i)) x k = zbr (zqf M (M 235 4)) (fun i => M 235 (105 + 2 * i)) x k := fun k => by
    induction k with
    | zero => exact fun _ => rfl
    | succ k ih =>
      intro hk
      have ih := ih (by omega)
      have q := sq k (by omega) (by omega)
      show (if (zbr (zqf N (M 235 4)) (fun i => N 235 (105 + 2 * i)) x k = -1 ∨ N 235 (105 + 2 * (k : Int)) < zbr (zqf N (M 235 4)) (fun i => N 235 (105 + 2 * i)) x k) ∧ zqf N (M 235 4) (N 235 (105 + 2 * (k : Int))) = zqf N (M 235 4) x then N 235 (105 + 2 * (k : Int)) else zbr (zqf N (M 235 4)) (fun i => N 235 (105 + 2 * i)) x k) = (if (zbr (zqf M (M 235 4)) (fun i => M 235 (105 + 2 * i)) x k = -1 ∨ M 235 (105 + 2 * (k : Int)) < zbr (zqf M (M 235 4)) (fun i => M 235 (105 + 2 * i)) x k) ∧ zqf M (M 235 4) (M 235 (105 + 2 * (k : Int))) = zqf M (M 235 4) x then M 235 (105 + 2 * (k : Int)) else zbr (zqf M (M 235 4)) (fun i => M 235 (105 + 2 * i)) x k)
      rw [ih, e _ (by omega) (by omega), fq _ q.1 q.2.1, fq x hx.1 hx.2]
  unfold zbar
  rw [e 4 (by decide) (by decide), e 5 (by decide) (by decide)]
  exact gen _ (by omega)
theorem pr_barred (hG : zP G) (hJ : zJ M) {x1 : Int} : zPr G d mX11_barred mX12_barred [(2, 1), (0, x1)] [(2, 234), (0, x1)] M := by
  have o := (hJ.2.2.2.2.2.2.2.2.2.2.1).1
  have n12 : 0 ≤ M 235 0 ∧ M 235 0 ≤ 12 := hJ.1.1
  refine bX11_barred_0 hG ?_
  rw [o]
  refine ⟨by omega, fun a => ?_, fun a => bX12_barred_0 hG ⟨by omega, fun q => absurd q a, fun _ => ⟨rfl, zJ_rf hJ⟩⟩⟩
  refine s_stockJ (d := d + 189) hG hJ (fun N JN hf e13 hW => bX11_barred_14 hG ?_)
  have sm := zfr_sm (S := [(235, 0, 156), (246, 0, 12), (247, 0, 2880)]) hf (by decide)
  have e0 : N 235 0 = M 235 0 := sm 235 0 (zhit_at 0 rfl ⟨by decide, by decide⟩)
  have v10 : N 2 10 = M 2 10 := (zfr_sm (S := [(2, 10, 11)]) hf (by decide)) 2 10 (zhit_at 0 rfl ⟨by decide, by decide⟩)
  have j13 := JN.2.2.2.2.2.2.2.2.2.2.2.2.2.2.1
  refine s_cbarring (P := N) hG JN.1 j13.1 (fun i i0 i1 => (j13.2 i i0 i1).2) (JN.2.2.2.2.2.2.2.2.2.2.2.2.2.2.2.2.2.2.2.2.2.2.1) (by rw [e13, e0]) (by rw [e0]; exact a) (bX11_barred_26 hG ?_)
  refine bX12_barred_0 hG ?_
  rw [e0]
  refine ⟨by omega, fun _ => ?_, fun q => absurd a q⟩
  refine s_mbarring (d := d + 393) hG JN (by rw [e0]; exact a) (fun N2 hN2 J2 => bX12_barred_13 hG ⟨rfl, zJn_tr v10 J2 (hN2 2 10 (by unfold zhw zhit; decide))⟩)

end PN

section PS
variable {G : zG} {d : Nat} {M : zM} {Q : zV → zM → Prop}
/-- what the model's side looks at -/
def zK (M : zM) : Prop := zVA (M 235) ∧ zJ1 M ∧ zJ16 M
theorem zK_of (hJ : zJ M) : zK M := ⟨hJ.1, hJ.2.2.1, hJ.2.2.2.2.2.2.2.2.2.2.2.2.2.2.2.2.2.2.2.1⟩
theorem kth (hK : zK M) : ∀ t, 0 ≤ t → t < 4 → 0 ≤ M 235 (10 + t) ∧ M 235 (10 + t) ≤ 99 := hK.1.2.2.2.2.2.2.2.2.2.1
theorem K_sc (hK : zK M) {N : zM} (hf : zfr zscr M N) : zK N := ⟨zsA_c (zfr_sm hf (by decide)) hK.1, zJ1_c (zfr_sm hf (by decide)) hK.2.1, zJ16_c (zfr_sm hf (by decide)) hK.1.1.2 hK.2.2⟩
theorem K_scm (hK : zK M) {N : zM} (hf : zfr zaF M N) : zK N := ⟨zsA_c (zfr_sm hf (by decide)) hK.1, zJ1_c (zfr_sm hf (by decide)) hK.2.1, zJ16_c (zfr_sm hf (by decide)) hK.1.1.2 hK.2.2⟩

theorem k_malike (hG : zP G) (hK : zK M) {x y eq : Int} (hx : 0 ≤ x ∧ x < M 235 0) (hy : 0 ≤ y ∧ y < M 235 0) (he : 0 ≤ eq ∧ eq ≤ 255) (h : ∀ N, zfr zaF M N → zK N → Q (0, if zqf M eq x = zqf M eq y then 1 else 0) N) : Y G (d + 5) mX12_isAlike 0 [(2, 234), (0, x), (0, y), (0, eq), (9, 0), (9, 0)] [] M Q := by
  have n12 : 0 ≤ M 235 0 ∧ M 235 0 ≤ 12 := hK.1.1
  refine s_misAlike hG ⟨hx.1, by omega⟩ ⟨hy.1, by omega⟩ ((hK.2.2) x hx.1 hx.2) ((hK.2.2) y hy.1 hy.2) (fun N hN => ?_) he (fun e N hN => ?_) (fun e N hN => ?_)
  · have JN := (K_scm hK hN)
    exact JN.2.2 y hy.1 (by rw [hN 235 0 (by unfold zhw zhit; decide)]; exact hy.2)
  · have := h N hN (K_scm hK hN)
    rw [if_pos e] at this; exact this
  · have := h N hN (K_scm hK hN)
    rw [if_neg e] at this; exact this

theorem k_mnow (hG : zP G) (hK : zK M) (hW : ∀ t, 0 ≤ t → t < 4 → M 249 t = M 235 (10 + t)) (hE : zME M) {q : Int} (hq : 0 ≤ q ∧ q < M 235 0) (h : ∀ V, Q (1, zaM M (M 3) q) (zrow M 250 V)) : Y G (d + 2) mX12_answerOf 0 [(2, 234), (0, q), (9, 0), (9, 0), (9, 0), (9, 0), (9, 0), (9, 0), (9, 0), (9, 0)] [] M Q := by
  have n12 : 0 ≤ M 235 0 ∧ M 235 0 ≤ 12 := hK.1.1
  have j1 := hK.2.1
  have ht := kth hK
  exact s_mans hG ⟨hq.1, by omega⟩ ((hK.2.2) q hq.1 hq.2) hK.1 hE (th := M 3) (fun t t0 t1 => ⟨by rw [hW t t0 t1, j1 t t0 t1], by rw [j1 t t0 t1]; exact ht t t0 t1⟩) h

theorem k_mworld (hG : zP G) (hK : zK M) (h : ∀ N, zfr zscr M N → zK N → (∀ t, 0 ≤ t → t < 4 → N 249 t = N 235 (10 + t)) → zME N → Q (9, 0) N) : Y G (d + 2) mX12_worldNow 0 [(2, 234), (9, 0)] [] M Q := by
  refine s_worldNow hG hK.1 (fun W U V hW hE => ?_)
  have hf : zfr zscr M (zrow (zrow (zrow M 249 W) 237 U) 238 V) := zfr_row (zfr_row (zfr_row zfr_rfl 6 rfl) 4 rfl) 5 rfl
  refine h _ hf (K_sc hK hf) (fun t t0 t1 => ?_) hE
  rw [zrow_off (show (249 : Int) ≠ 238 by decide), zrow_off (show (249 : Int) ≠ 237 by decide), zrow_row, zrow_off (show (235 : Int) ≠ 238 by decide), zrow_off (show (235 : Int) ≠ 237 by decide), zrow_off (show (235 : Int) ≠ 249 by decide)]
  exact hW t t0 t1
/-! lies -/

theorem k_mbarring (hG : zP G) (hK : zK M) {x : Int} (hx : 0 ≤ x ∧ x < M 235 0) (h : ∀ N, zfr zaF M N → zK N → Q (0, zbar M x) N) : Y G (d + 6) mX12_barring 0 [(2, 234), (0, x), (9, 0), (9, 0), (9, 0)] [] M Q := by
  obtain ⟨n5, sq⟩ := zV5_s hK.1
  obtain ⟨n, hn⟩ := Int.eq_ofNat_of_zero_le n5.1
  have n12 : M 235 0 ≤ 12 := hK.1.1.2
  have fq : ∀ (X : zM), zfr zaF M X → ∀ q, 0 ≤ q → q < M 235 0 → zqf X (M 235 4) q = zqf M (M 235 4) q := fun X hX q q0 q1 => zqf_c (zfr_sm hX (by decide)) ⟨q0, by omega⟩ ((hK.2.2) q q0 q1)
  have lp : ∀ (r i : Nat) (X : zM), i + r = n → zfr zaF M X → zK X → Y G (d + 6) mX12_barring 4 [(2, 234), (0, x), (0, zbr (zqf M (M 235 4)) (fun i => M 235 (105 + 2 * i)) x i), (0, (i : Int)), (9, 0)] [] X Q := fun r => by
    induction r with
    | zero =>
      intro i X hi hX JX
      have : i = n := by omega
      subst this
      have x5 : X 235 5 = i := by rw [hX 235 5 (by unfold zhw zhit; decide), hn]
      refine bX12_barring_4 hG ⟨fun _ => ?_, fun c => absurd c (by omega)⟩
      have := h X hX JX
      unfold zbar at this
      rw [hn] at this
      exact this
    | succ r ih =>
      intro i X hi hX JX
      have q := sq i (by omega) (by omega)
      have x235 : ∀ i, 0 ≤ i → i < 156 → X 235 i = M 235 i := fun i i0 i1 => hX 235 i (by unfold zhw zhit; simp; omega)
      have b := zbr_b (f := zqf M (M 235 4)) (s := fun i => M 235 (105 + 2 * i)) (x := x) i (fun j j0 j1 => by have := sq j j0 (by omega); exact ⟨this.1, by omega⟩)
      have st : zbr (zqf M (M 235 4)) (fun i => M 235 (105 + 2 * i)) x (i + 1) = if (zbr (zqf M (M 235 4)) (fun i => M 235 (105 + 2 * i)) x i = -1 ∨ M 235 (105 + 2 * (i : Int)) < zbr (zqf M (M 235 4)) (fun i => M 235 (105 + 2 * i)) x i) ∧ zqf M (M 235 4) (M 235 (105 + 2 * (i : Int))) = zqf M (M 235 4) x then M 235 (105 + 2 * (i : Int)) else zbr (zqf M (M 235 4)) (fun i => M 235 (105 + 2 * i)) x i := rfl
      have nx := fun X hX JX => ih (i + 1) X (by omega) hX JX
      rw [st] at nx
      generalize zbr (zqf M (M 235 4)) (fun i => M 235 (105 + 2 * i)) x i = z at *
      have look : (z = -1 ∨ M 235 (105 + 2 * (i : Int)) < z) → Y G (d + 5) mX12_isAlike 0 [(2, 234), (0, M 235 (105 + 2 * (i : Int))), (0, x), (0, M 235 4), (9, 0), (9, 0)] [] X (fun r M' => Y G (d + 5 + 1) mX12_barring 52 [(2, 234), (0, x), (0, z), (0, (i : Int)), (0, M 235 (105 + 2 * (i : Int)))] (zpush r []) M' Q) := fun hc => by
        refine k_malike hG JX (by rw [x235 0 (by decide) (by decide)]; exact ⟨q.1, q.2.1⟩) (by rw [x235 0 (by decide) (by decide)]; exact hx) hK.1.2.2.2.2.1 (fun X2 hX2 J2 => ?_)
        rw [fq X hX _ q.1 q.2.1, fq X hX _ hx.1 hx.2]
        by_cases al : zqf M (M 235 4) (M 235 (105 + 2 * (i : Int))) = zqf M (M 235 4) x
        · rw [if_pos al]
          rw [if_pos ⟨hc, al⟩] at nx
          exact bX12_barring_52 hG ⟨fun z => absurd z (by decide), fun _ => ⟨by omega, nx X2 (zfr_trans hX hX2) J2⟩⟩
        · rw [if_neg al]
          rw [if_neg (fun w => al w.2)] at nx
          exact bX12_barring_52 hG ⟨fun _ => ⟨by omega, nx X2 (zfr_trans hX hX2) J2⟩, fun z => absurd rfl z⟩
      refine bX12_barring_4 hG ?_
      rw [show 104 + 2 * (i : Int) + 1 = 105 + 2 * i by omega, x235 (105 + 2 * (i : Int)) (by omega) (by omega), x235 4 (by decide) (by decide), x235 5 (by decide) (by decide), hn]
      refine ⟨fun c => absurd c (by omega), fun _ => ⟨by omega, by omega, by omega, by omega, fun c => look (Or.inl (by omega)), fun c => ⟨fun c2 => ⟨by omega, ?_⟩, fun c2 => look (Or.inr c2)⟩⟩⟩
      rw [if_neg (fun w => by rcases w.1 with y | y <;> omega)] at nx
      exact nx X hX JX
  exact bX12_barring_0 hG (lp n 0 M (by omega) zfr_rfl hK)

theorem kbar_e {N : zM} (hK : zK M) (h : zsm [(235, 0, 156), (246, 0, 12), (247, 0, 2880)] M N) {x : Int} (hx : 0 ≤ x ∧ x < M 235 0) : zbar N x = zbar M x := by
  obtain ⟨n5, sq⟩ := zV5_s hK.1
  have n12 : M 235 0 ≤ 12 := hK.1.1.2
  have e : ∀ i, 0 ≤ i → i < 156 → N 235 i = M 235 i := fun i i0 i1 => h _ _ (zhit_at 0 rfl ⟨i0, i1⟩)
  have fq : ∀ q, 0 ≤ q → q < M 235 0 → zqf N (M 235 4) q = zqf M (M 235 4) q := fun q q0 q1 => zqf_e (by have := ((hK.2.2) q q0 q1).2.1; omega) (h _ _ (zhit_at 1 rfl ⟨q0, by omega⟩)) (fun i i0 i1 => h _ _ (zhit_at 2 rfl ⟨by omega, by omega⟩))
  have gen : ∀ k : Nat, (k : Int) ≤ M 235 5 → zbr (zqf N (M 235 4)) (fun i => N 235 (105 + 2 * i)) x k = zbr (zqf M (M 235 4)) (fun i => M 235 (105 + 2 * i)) x k := fun k => by
    induction k with
    | zero => exact fun _ => rfl
    | succ k ih =>
      intro hk
      have ih := ih (by omega)
      have q := sq k (by omega) (by omega)
      show (if (zbr (zqf N (M 235 4)) (fun i => N 235 (105 + 2 * i)) x k = -1 ∨ N 235 (105 + 2 * (k : Int)) < zbr (zqf N (M 235 4)) (fun i => N 235 (105 + 2 * i)) x k) ∧ zqf N (M 235 4) (N 235 (105 + 2 * (k : Int))) = zqf N (M 235 4) x then N 235 (105 + 2 * (k : Int)) else zbr (zqf N (M 235 4)) (fun i => N 235 (105 + 2 * i)) x k) = (if (zbr (zqf M (M 235 4)) (fun i => M 235 (105 + 2 * i)) x k = -1 ∨ M 235 (105 + 2 * (k : Int)) < zbr (zqf M (M 235 4)) (fun i => M 235 (105 + 2 * i)) x k) ∧ zqf M (M 235 4) (M 235 (105 + 2 * (k : Int))) = zqf M (M 235 4) x then M 235 (105 + 2 * (k : Int)) else zbr (zqf M (M 235 4)) (fun i => M 235 (105 + 2 * i)) x k)
      rw [ih, e _ (by omega) (by omega), fq _ q.1 q.2.1, fq x hx.1 hx.2]
  unfold zbar
  rw [e 4 (by decide) (by decide), e 5 (by decide) (by decide)]
  exact gen _ (by omega)

theorem k_mwhy (hG : zP G) (hK : zK M) {p q : Int} (hp : 0 ≤ p ∧ p < M 235 2) (hq : 0 ≤ q ∧ q < M 235 0) (h : ∀ N, zfr zwyF M N → zK N → Q (0, zwhy M p q) N) : Y G (d + 8) mX12_why 0 [(2, 234), (0, p), (0, q)] [] M Q := by
  have n12 : 0 ≤ M 235 0 ∧ M 235 0 ≤ 12 := hK.1.1
  have n2 := hK.1.2.2.1.1
  obtain ⟨n5, sq⟩ := zV5_s hK.1
  have h' : ∀ (r : Int), r = zwhy M p q → ∀ N, zfr zwyF M N → zK N → Q (0, r) N := fun r hr N a b => by rw [hr]; exact h N a b
  refine bX12_why_0 hG ⟨by omega, fun _ => ⟨by omega, fun _ => s_mhasAsked hG n5 (bX12_why_23 hG ?_), fun z => absurd hq z⟩, fun z => absurd hp z⟩
  unfold zwhy at h'
  by_cases c1 : zha M p = true
  · rw [if_pos c1] at h' ⊢
    exact ⟨fun z => absurd z (by decide), fun _ => h' 1 rfl M zfr_rfl hK⟩
  · rw [if_neg c1] at h' ⊢
    refine ⟨fun _ => bX12_can_0 hG (s_mlacks hG (by omega) (fun _ => bX12_can_6 hG ⟨fun c2 => bX12_why_34 hG ⟨fun z => absurd rfl z, fun _ => ?_⟩, fun c2 => bX12_why_34 hG ⟨fun _ => ?_, fun z => absurd z (by decide)⟩⟩) (fun z => absurd ⟨hp, hq⟩ z)), fun z => absurd rfl z⟩
    · rw [if_pos c2] at h'
      exact h' 2 rfl M zfr_rfl hK
    · rw [if_neg (fun z => z c2)] at h'
      refine k_mworld hG hK (fun X hX JX hWX hEX => bX12_why_43 hG ?_)
      have sx := zfr_sm (S := [(235, 0, 156), (246, 0, 12), (247, 0, 2880), (3, 0, 4)]) hX (by decide)
      have x235 : ∀ i, 0 ≤ i → i < 156 → X 235 i = M 235 i := fun i i0 i1 => sx _ _ (zhit_at 0 rfl ⟨i0, i1⟩)
      have jq := (hK.2.2) q hq.1 hq.2
      have xa : zaM X (X 3) q = zaM M (M 3) q := by
        rw [zaM_e (M := M) hK.1 (by have := jq.2.1; omega) (x235 1 (by decide) (by decide)) (fun i i0 i1 => x235 i (by omega) (by omega)) (sx _ _ (zhit_at 1 rfl ⟨hq.1, by omega⟩)) (fun i i0 i1 => sx _ _ (zhit_at 2 rfl ⟨by omega, by omega⟩))]
        exact zaM_t jq (fun t t0 t1 => sx _ _ (zhit_at 3 rfl ⟨t0, t1⟩))
      refine k_mnow (d := d + 5) hG JX hWX hEX (by rw [x235 0 (by decide) (by decide)]; exact hq) (fun V => bX12_why_48 hG ?_)
      have hV : zfr zscr X (zrow X 250 V) := zfr_row zfr_rfl 7 rfl
      have JV := (K_sc JX hV)
      have hMV := zfr_trans (zwy1 hX) (zwy1 hV)
      have v235 : zrow X 250 V 235 = X 235 := zrow_off (by decide)
      rw [xa, v235, x235 3 (by decide) (by decide)]
      refine ⟨fun c3 => ?_, fun c3 => ?_⟩
      · rw [zlcmp_eq] at c3
        rw [if_neg (fun z => z c3)] at h'
        refine k_mbarring hG JV (by rw [v235, x235 0 (by decide) (by decide)]; exact hq) (fun N hN JN => ?_)
        have eb : zbar (zrow X 250 V) q = zbar M q := kbar_e hK (zfr_sm hMV (by decide)) hq
        have hMN := zfr_trans hMV (zwy2 hN)
        have bb : -1 ≤ zbar M q := by
          obtain ⟨m, hm⟩ := Int.eq_ofNat_of_zero_le n5.1
          unfold zbar
          exact (zbr_b _ (fun i i0 i1 => by have := sq i i0 (by omega); exact ⟨this.1, by omega⟩)).1
        rw [eb]
        refine bX12_why_66 hG ⟨fun z => ?_, fun z => ?_⟩
        · rw [if_pos (by omega)] at h'; exact h' 0 rfl N hMN JN
        · rw [if_neg (by omega)] at h'; exact h' 4 rfl N hMN JN
      · rw [zlcmp_eq] at c3
        rw [if_pos c3] at h'
        exact h' 3 rfl _ hMV JV

end PS

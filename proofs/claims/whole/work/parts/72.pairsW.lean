section PW
variable {G : zG} {d : Nat} {M : zM} {Q : zV → zM → Prop}
theorem J_bey {M M2 : zM} (hJ : zJ M) (hf : zfr (zwyF ++ [(163, 0, 1000000), (164, 0, 1000000), (235, 104, 116)]) M M2) (e : ∀ i, (0 ≤ i ∧ i < 156 ∧ ¬ (104 ≤ i ∧ i < 116)) → M2 235 i = M 235 i) (e2 : ∀ i, 0 ≤ i → i < M 235 5 → (M2 235 (104 + 2 * i) = M 235 (104 + 2 * i) ∧ M2 235 (105 + 2 * i) = M 235 (105 + 2 * i)) ∧ M2 163 i = M 163 i ∧ M2 164 i = M 164 i) : zJn M M2 := by
  have hV := hJ.1
  have v5 := hV.2.2.2.2.2.1
  have e5 := e 5 (by omega)
  have h5 : zV5 (M2 235) := by
    unfold zV5
    rw [e5, e 0 (by omega), e 2 (by omega)]
    refine ⟨v5.1, fun i i0 i1 => ?_, fun i j i0 ij j1 => ?_⟩
    · rw [(e2 i i0 i1).1.1, (e2 i i0 i1).1.2]; exact v5.2.1 i i0 i1
    · rw [(e2 i i0 (by omega)).1.1, (e2 j (by omega) j1).1.1]; exact v5.2.2 i j i0 ij j1
  have h13 : zJ13 M2 := by
    have o := hJ.2.2.2.2.2.2.2.2.2.2.2.2.2.2.1
    unfold zJ13
    rw [e5, hf 157 9 (by unfold zhw zhit; decide)]
    refine ⟨o.1, fun i i0 i1 => ?_⟩
    rw [(e2 i i0 i1).1.1, (e2 i i0 i1).1.2, (e2 i i0 i1).2.1, (e2 i i0 i1).2.2]; exact o.2 i i0 i1
  exact ⟨⟨⟨zV0_e hV.1 (e 0 (by omega)), zV1_e hV.2.1 (e 1 (by omega)) (fun i q1 q2 => e i (by omega)), zV2_e hV.2.2.1 (e 2 (by omega)) (fun i q1 q2 => e i (by omega)), zV3_e hV.2.2.2.1 (e 3 (by omega)), zV4_e hV.2.2.2.2.1 (e 4 (by omega)), h5, zV6_e hV.2.2.2.2.2.2.1 (e 6 (by omega)), zV7_e hV.2.2.2.2.2.2.2.1 (by rw [e 0 (by omega)]; omega) (by rw [e 2 (by omega)]; omega) (e 7 (by omega)) (fun i q1 q2 => e i (by omega)), zV8_e hV.2.2.2.2.2.2.2.2.1 (by rw [e 0 (by omega)]; omega) (e 8 (by omega)) (fun i q1 q2 => e i (by omega)), zVt_e hV.2.2.2.2.2.2.2.2.2.1 (fun i q1 q2 => e i (by omega)), zVr_e hV.2.2.2.2.2.2.2.2.2.2 (fun i q1 q2 => e i (by omega))⟩, zsI_c (zfr_sm hf (by decide)) hJ.2.1, zJ1_c (zfr_sm hf (by decide)) hJ.2.2.1, zJ2_c (zfr_sm hf (by decide)) hJ.1.2.1.1.2 hJ.2.2.2.1, zJ3_c (zfr_sm hf (by decide)) hJ.2.2.2.2.1, zJ4_c (zfr_sm hf (by decide)) hJ.1.2.1.1.2 hJ.2.2.2.2.2.1, zJ10_c (zfr_sm hf (by decide)) hJ.2.2.2.2.2.2.1, zJ5_c (zfr_sm hf (by decide)) hJ.2.2.2.2.2.2.2.1, zJ6_c (zfr_sm hf (by decide)) hJ.2.2.2.2.2.2.2.2.1, zJ7_c (zfr_sm hf (by decide)) hJ.2.2.2.2.2.2.2.2.2.1, zJ8_c (zfr_sm hf (by decide)) hJ.1.1.2 hJ.2.2.2.2.2.2.2.2.2.2.1, zJ9_c (zfr_sm hf (by decide)) hJ.2.2.2.2.2.2.2.2.2.2.2.1, zJ11_c (zfr_sm hf (by decide)) hJ.1.2.2.1.1.2 hJ.2.2.2.2.2.2.2.2.2.2.2.2.1, zJ12_c (zfr_sm hf (by decide)) hJ.2.2.2.2.2.2.2.2.2.2.2.2.2.1, h13, zJ14_c (zfr_sm hf (by decide)) (zA7 hJ.1) hJ.2.2.2.2.2.2.2.2.2.2.2.2.2.2.2.1, zJ15_c (zfr_sm hf (by decide)) (zA8 hJ.1) hJ.2.2.2.2.2.2.2.2.2.2.2.2.2.2.2.2.1, zJ18_c (zfr_sm hf (by decide)) ⟨zA5 hJ.2.1, zA7 hJ.2.1, zA8 hJ.2.1⟩ hJ.2.2.2.2.2.2.2.2.2.2.2.2.2.2.2.2.2.1, zJ19_c (zfr_sm hf (by decide)) ⟨hJ.2.1.2.1.1.2, hJ.2.1.2.2.1.1.2⟩ hJ.2.2.2.2.2.2.2.2.2.2.2.2.2.2.2.2.2.2.1, zJ16_c (zfr_sm hf (by decide)) hJ.1.1.2 hJ.2.2.2.2.2.2.2.2.2.2.2.2.2.2.2.2.2.2.2.1, zJ17_c (zfr_sm hf (by decide)) hJ.2.1.1.2 hJ.2.2.2.2.2.2.2.2.2.2.2.2.2.2.2.2.2.2.2.2.1, zJF_c (zfr_sm hf (by decide)) hJ.1 hJ.2.2.2.2.2.2.2.2.2.2.2.2.2.2.2.2.2.2.2.1 hJ.2.2.2.2.2.2.2.2.2.2.2.2.2.2.2.2.2.2.2.2.2.1, zJS_c (zfr_sm hf (by decide)) hJ.1.1.2 hJ.2.2.2.2.2.2.2.2.2.2.2.2.2.2.2.2.2.2.2.1 hJ.2.2.2.2.2.2.2.2.2.2.2.2.2.2.2.2.2.2.2.2.2.2.1, (by rw [hf 2 10 (by unfold zhw zhit; decide)]; exact hJ.2.2.2.2.2.2.2.2.2.2.2.2.2.2.2.2.2.2.2.2.2.2.2.1), zJC_c (zfr_sm hf (by decide)) hJ.2.2.2.2.2.2.2.2.2.2.2.2.2.2.2.2.2.2.2.2.2.2.2.2⟩, by rw [hf 2 10 (by unfold zhw zhit; decide)]; omega⟩


/-- what lies behind those who had asked may be another -/
def zbey (N P : zM) : Prop := N 235 5 ≤ P 235 5 ∧ ∀ a i, P a i = N a i ∨ ((a = 163 ∨ a = 164) ∧ N 235 5 ≤ i) ∨ (a = 157 ∧ i = 9) ∨ (a = 235 ∧ (i = 5 ∨ (104 + 2 * N 235 5 ≤ i ∧ i < 116)))
theorem zbey_rf {N : zM} : zbey N N := ⟨by omega, fun a i => Or.inl rfl⟩
theorem zbey_ak {N P : zM} {p q : Int} (h : zbey N P) (n5 : 0 ≤ P 235 5 ∧ P 235 5 < 6) : zbey N (zak P p q) := by
  refine ⟨by rw [zak_5]; have := h.1; omega, fun a i => ?_⟩
  have h1 := h.1
  by_cases c1 : a = 163 ∧ i = P 235 5
  · exact Or.inr (Or.inl (by omega))
  by_cases c2 : a = 164 ∧ i = P 235 5
  · exact Or.inr (Or.inl (by omega))
  by_cases c3 : a = 157 ∧ i = 9
  · exact Or.inr (Or.inr (Or.inl c3))
  by_cases c4 : a = 235 ∧ (i = 5 ∨ i = 104 + 2 * P 235 5 ∨ i = 105 + 2 * P 235 5)
  · exact Or.inr (Or.inr (Or.inr (by omega)))
  · rw [zak_o c1 c2 c3 c4]; exact h.2 a i
/-- who is passed over first, from a set -/
noncomputable def zstk (f : Int → Int) (n : Nat) : Nat → zM → Nat → Int × zM
  | 0, P, _ => (-1, P)
  | r + 1, P, s => if s = 0 then (-1, P) else if zlow P (zyg f s n 0 (-1)) = -1 then (zyg f s n 0 (-1), P) else zstk f n r (zak P (zyg f s n 0 (-1)) (zlow P (zyg f s n 0 (-1)))) (s - 2 ^ (zyg f s n 0 (-1)).toNat)
theorem zak_c {P : zM} {p q i : Int} (h : 0 ≤ P 235 5) (hi : i ≠ 5 ∧ (i < 104 ∨ 116 ≤ i)) (h6 : P 235 5 < 6) : zak P p q 235 i = P 235 i := zak_o (by omega) (by omega) (by omega) (by omega)
theorem k_stk (hG : zP G) {N : zM} {f : Int → Int} {n : Nat} (hn : n ≤ 6) {had : Int} : ∀ (r : Nat) (P M : zM) (s turn : Nat), zCk P M → zfr zkC N M → zbey N P → P 235 2 = n → (∀ p, 0 ≤ p → p < (n : Int) → P 235 (74 + 5 * p) = f p) → s < 2 ^ n → turn + zpc s ≤ n → zpc s ≤ r → (∀ M', zCk (zstk f n r P s).2 M' → zfr zkC N M' → zbey N (zstk f n r P s).2 → Q (0, (zstk f n r P s).1) (zset M' 157 9 had)) → Y G (d + 4) mX6_firstPassedOver 16 [(2, 157), (2, 19), (0, had), (0, (s : Int)), (0, -1), (0, (turn : Int)), (9, 0), (9, 0)] [] M Q
  | 0, P, M, s, turn, hC, hf, hb, e2, hA, hs, ht, hr, h => by
    have s0 : s = 0 := (zsp_p0 s (by have := zpw6 hn; omega)).mp (by omega)
    have h' := h M hC hf hb
    refine bX6_firstPassedOver_16 hG ⟨fun _ => h', fun _ => ⟨fun _ => h', fun c => absurd (by rw [s0]; rfl) c⟩⟩
  | r + 1, P, M, s, turn, hC, hf, hb, e2, hA, hs, ht, hr, h => by
    have st : zstk f n (r + 1) P s = if s = 0 then (-1, P) else if zlow P (zyg f s n 0 (-1)) = -1 then (zyg f s n 0 (-1), P) else zstk f n r (zak P (zyg f s n 0 (-1)) (zlow P (zyg f s n 0 (-1)))) (s - 2 ^ (zyg f s n 0 (-1)).toNat) := rfl
    rw [st] at h
    have h64 := zpw6 hn
    have m5 : M 157 5 = n := by rw [hC.2.1 157 (by decide), (zj_j11 hC.1).1]; exact e2
    by_cases s0 : s = 0
    · rw [if_pos s0] at h
      have h' := h M hC hf hb
      exact bX6_firstPassedOver_16 hG ⟨fun _ => h', fun _ => ⟨fun _ => h', fun c => absurd (by rw [s0]; rfl) c⟩⟩
    · rw [if_neg s0] at h
      obtain ⟨p, hp, p1, pb⟩ := zyg_s (f := f) hn hs s0
      obtain ⟨t1, t2, t3⟩ := zsp_tab s (by omega) p (by omega) pb
      have sl := Nat.lt_of_le_of_lt (Nat.sub_le s (2 ^ p)) hs
      rw [hp, Int.toNat_natCast] at h
      have hpr : (0 : Int) ≤ (p : Int) ∧ (p : Int) < P 235 2 := by omega
      have n12 : 0 ≤ P 235 0 ∧ P 235 0 ≤ 12 := hC.1.1.1
      refine bX6_firstPassedOver_16 hG ?_
      rw [m5]
      refine ⟨fun c => absurd c (by omega), fun _ => ⟨fun c => absurd c (by omega), fun _ => ⟨fun c => absurd rfl c, fun _ => bX6_youngest_0 hG (s_cyg (n := n) (f := f) hG (by omega) ⟨m5, by omega, by omega⟩ (fun x x0 x1 => by rw [hC.2.1 158 (by decide), ((zj_j11 hC.1).2 x x0 (by omega)).1]; exact hA x x0 x1) n 0 (-1) (by omega) (by omega) (by omega) (by omega) ?_)⟩⟩⟩
      rw [hp]
      refine bX6_firstPassedOver_40 hG ⟨fun _ => ?_, fun c => absurd c (by omega)⟩
      rw [t1]
      refine k_low hG hC hpr (bX6_firstPassedOver_67 hG ⟨fun c => ?_, fun c => ⟨by omega, ?_⟩⟩)
      · rw [if_neg c] at h
        obtain ⟨lr, lw⟩ := zlow_r c n12.1
        have rm := zroom hC.1.1 hpr (zwhy_0 lw)
        have n5 := (zV5_s hC.1.1).1
        have n2 := hC.1.1.2.2.1.1
        refine k_step hG hC hpr lr lw (fun M' hC' hf' => bX6_firstPassedOver_90 hG ⟨by omega, ?_⟩)
        exact k_stk hG hn r (zak P p (zlow P p)) M' (s - 2 ^ p) (turn + 1) hC' (zfr_trans hf hf') (zbey_ak hb (by omega)) (by rw [zak_c n5.1 (by omega) (by omega)]; exact e2) (fun x x0 x1 => by rw [zak_c n5.1 (by omega) (by omega)]; exact hA x x0 x1) sl (by omega) (by omega) h
      · rw [if_pos c] at h
        have h' := h M hC hf hb
        exact bX6_firstPassedOver_16 hG ⟨fun _ => h', fun _ => ⟨fun _ => h', fun _ => ⟨fun _ => h', fun z => absurd z (by omega)⟩⟩⟩
theorem m_stk (hG : zP G) {X0 : zM} {f : Int → Int} {n : Nat} (hn : n ≤ 6) {had : Int} : ∀ (r : Nat) (P X : zM) (s : Nat), zJ P → zfr zkF P X → zfr zwM X0 X → P 235 2 = n → (∀ p, 0 ≤ p → p < (n : Int) → P 235 (74 + 5 * p) = f p) → s < 2 ^ n → zpc s ≤ r → (∀ X', zfr zkF (zstk f n r P s).2 X' → zfr zwM X0 X' → Q (0, (zstk f n r P s).1) (zset X' 235 5 had)) → Y G (d + 11) mX12_stuck 14 [(2, 234), (0, (s : Int)), (0, had), (0, -1), (9, 0)] [] X Q
  | 0, P, X, s, hJ, hf, h0, e2, hA, hs, hr, h => by
    have s0 : s = 0 := (zsp_p0 s (by have := zpw6 hn; omega)).mp (by omega)
    exact bX12_stuck_14 hG ⟨fun _ => h X hf h0, fun c => absurd (by rw [s0]; rfl) c⟩
  | r + 1, P, X, s, hJ, hf, h0, e2, hA, hs, hr, h => by
    have st : zstk f n (r + 1) P s = if s = 0 then (-1, P) else if zlow P (zyg f s n 0 (-1)) = -1 then (zyg f s n 0 (-1), P) else zstk f n r (zak P (zyg f s n 0 (-1)) (zlow P (zyg f s n 0 (-1)))) (s - 2 ^ (zyg f s n 0 (-1)).toNat) := rfl
    rw [st] at h
    have h64 := zpw6 hn
    have x235 := zkF_235 hf
    by_cases s0 : s = 0
    · rw [if_pos s0] at h
      exact bX12_stuck_14 hG ⟨fun _ => h X hf h0, fun c => absurd (by rw [s0]; rfl) c⟩
    · rw [if_neg s0] at h
      obtain ⟨p, hp, p1, pb⟩ := zyg_s (f := f) hn hs s0
      obtain ⟨t1, t2, t3⟩ := zsp_tab s (by omega) p (by omega) pb
      have sl := Nat.lt_of_le_of_lt (Nat.sub_le s (2 ^ p)) hs
      rw [hp, Int.toNat_natCast] at h
      have hpr : (0 : Int) ≤ (p : Int) ∧ (p : Int) < P 235 2 := by omega
      have n12 : 0 ≤ P 235 0 ∧ P 235 0 ≤ 12 := hJ.1.1
      refine bX12_stuck_14 hG ⟨fun c => absurd c (by omega), fun _ => ⟨fun c => absurd c (by omega), fun _ => bX12_youngest_0 hG (s_myg (n := n) (f := f) hG (by omega) ⟨by rw [x235 2 (by decide) (by decide)]; exact e2, by omega, by omega⟩ (fun x x0 x1 => by rw [x235 _ (by omega) (by omega)]; exact hA x x0 x1) n 0 (-1) (by omega) (by omega) (by omega) (by omega) ?_)⟩⟩
      rw [hp]
      refine bX12_stuck_27 hG ?_
      rw [t1]
      refine m_low hG hJ hf h0 hpr (fun X' a1 a2 => bX12_stuck_44 hG ?_)
      by_cases c : zlow P p = -1
      · rw [if_pos c] at h ⊢
        unfold zasl at a1
        rw [if_pos c] at a1
        have h' := h X' a1 a2
        exact ⟨fun z => absurd rfl z, fun _ => bX12_stuck_14 hG ⟨fun _ => h', fun _ => ⟨fun _ => h', fun z => absurd z (by omega)⟩⟩⟩
      · rw [if_neg c] at h ⊢
        unfold zasl at a1
        rw [if_neg c] at a1
        obtain ⟨lr, lw⟩ := zlow_r c n12.1
        have rm := zroom hJ.1 hpr (zwhy_0 lw)
        have n5 := (zV5_s hJ.1).1
        have n2 := hJ.1.2.2.1.1
        exact ⟨fun _ => m_stk hG hn r (zak P p (zlow P p)) X' (s - 2 ^ p) (J_ak hJ hpr lr (zwhy_0 lw)).1 a1 a2 (by rw [zak_c n5.1 (by omega) (by omega)]; exact e2) (fun x x0 x1 => by rw [zak_c n5.1 (by omega) (by omega)]; exact hA x x0 x1) sl (by omega) h, fun z => absurd z (by decide)⟩
theorem zCk_0 {N : zM} (hJ : zJ M) (JN : zJ N) (hf : zfr zstL M N) (e13 : N 19 13 = M 235 0) (hW : ∀ q, 0 ≤ q → q < M 235 0 → N 27 q = zaM M (M 3) q) : zCk N N := by
  have n12 : 0 ≤ M 235 0 ∧ M 235 0 ≤ 12 := hJ.1.1
  have sm := zfr_sm (S := [(235, 0, 156), (246, 0, 12), (247, 0, 2880), (3, 0, 4), (2, 10, 11)]) hf (by decide)
  have a235 : ∀ i, 0 ≤ i → i < 156 → N 235 i = M 235 i := fun i i0 i1 => sm _ _ (zhit_at 0 rfl ⟨i0, i1⟩)
  refine ⟨JN, zcq_rf, by rw [e13, a235 0 (by decide) (by decide)], fun q q0 q1 => ?_⟩
  rw [a235 0 (by decide) (by decide)] at q1
  have jq := (zj_j16 hJ) q q0 q1
  rw [hW q q0 q1, zaM_e (M := M) hJ.1 (by have := jq.2.1; omega) (a235 1 (by decide) (by decide)) (fun i i0 i1 => a235 i (by omega) (by omega)) (sm _ _ (zhit_at 1 rfl ⟨q0, by omega⟩)) (fun i i0 i1 => sm _ _ (zhit_at 2 rfl ⟨by omega, by omega⟩))]
  exact zaM_t jq (fun t t0 t1 => (sm _ _ (zhit_at 3 rfl ⟨t0, t1⟩)).symm)
theorem pr_stuck (hG : zP G) (hJ : zJ M) : zPr G d mX11_stuck mX12_stuck [(2, 1)] [(2, 234), (9, 0), (9, 0), (9, 0), (9, 0)] M := by
  refine bX11_stuck_0 hG (s_stockJ (d := d + 189) hG hJ (fun N JN hf e13 hW => bX11_stuck_4 hG ?_))
  have CN := zCk_0 hJ JN hf e13 hW
  have v10 : N 2 10 = M 2 10 := (zfr_sm (S := [(2, 10, 11)]) hf (by decide)) 2 10 (zhit_at 0 rfl ⟨by decide, by decide⟩)
  have n5 := (zV5_s JN.1).1
  have n2 := JN.1.2.2.1.1
  obtain ⟨n, hn⟩ := Int.eq_ofNat_of_zero_le n2.1
  have j13 := zj_j13 JN
  have wr := zwai_r (h := zha N) n
  have w64 := zpw6 (n := n) (by omega)
  have wp := (zsp_pc n (by omega) _ wr).1
  refine bX6_firstPassedOver_0 hG (s_cwait (P := N) (n := n) (d := d + 397) hG n5 j13.1 (fun i i0 i1 => (j13.2 i i0 i1).1) ⟨by rw [(zj_j11 JN).1]; exact hn, by omega⟩ (bX6_firstPassedOver_9 hG ?_))
  refine k_stk (d := d + 395) (N := N) (f := fun p => N 235 (74 + 5 * p)) (n := n) hG (by omega) n N N (zwai (zha N) n) 0 CN zfr_rfl zbey_rf hn (fun p p0 p1 => rfl) wr (by omega) (by omega) (fun M' C' f' b' => bX11_stuck_15 hG ?_)
  have s9 : zfr zkC N (zset M' 157 9 (N 157 9)) := zfr_set f' (zhit_at 2 rfl ⟨by omega, by omega⟩)
  have o9 : ∀ a i, ¬ (a = 157 ∧ i = 9) → zset M' 157 9 (N 157 9) a i = M' a i := fun a i c => zset_ne c
  have q9 : zset M' 157 9 (N 157 9) 157 9 = N 157 9 := zset_same
  generalize zset M' 157 9 (N 157 9) = X0 at *
  have x235 : ∀ i, 0 ≤ i → i < 156 → X0 235 i = N 235 i := fun i i0 i1 => (zfr_sm (S := [(235, 0, 156)]) s9 (by decide)) 235 i (zhit_at 0 rfl ⟨i0, i1⟩)
  have hz : zha X0 = zha N := funext fun p => zha_e n5 x235 p
  refine bX12_stuck_0 hG (s_mwait (d := d + 398) (n := n) hG (by rw [x235 5 (by decide) (by decide)]; exact n5) ⟨by rw [x235 2 (by decide) (by decide)]; exact hn, by omega⟩ ?_)
  rw [hz]
  refine bX12_stuck_4 hG (m_stk (d := d + 389) (X0 := X0) (f := fun p => N 235 (74 + 5 * p)) (n := n) hG (by omega) n N X0 (zwai (zha N) n) JN (zfr_sub s9 (fun t ht => List.mem_append_right _ ht)) zfr_rfl hn (fun p p0 p1 => rfl) wr (by omega) (fun X' a1 a2 => ⟨rfl, ?_⟩))
  rw [x235 5 (by decide) (by decide)]
  generalize (zstk (fun p => N 235 (74 + 5 * p)) n n N (zwai (zha N) n)).2 = P at *
  have g5 : zset X' 235 5 (N 235 5) 235 5 = N 235 5 := zset_same
  have go : ∀ a i, ¬ (a = 235 ∧ i = 5) → zset X' 235 5 (N 235 5) a i = X' a i := fun a i c => zset_ne c
  generalize zset X' 235 5 (N 235 5) = F at *
  have key : ∀ a i, ¬ zhw zwyF a i → F a i = N a i ∨ ((a = 163 ∨ a = 164) ∧ N 235 5 ≤ i) ∨ (a = 235 ∧ 104 + 2 * N 235 5 ≤ i ∧ i < 116) := fun a i hn => by
    have lo : 0 ≤ i ∧ i < 1000000 := ⟨Int.not_lt.mp (fun z => hn (Or.inl z)), Int.not_le.mp (fun z => hn (Or.inr (Or.inl z)))⟩
    have nh : ¬ zhit zwyF a i := fun z => hn (Or.inr (Or.inr z))
    by_cases c5 : a = 235 ∧ i = 5
    · rw [c5.1, c5.2, g5]; exact Or.inl rfl
    rw [go a i c5]
    by_cases ca : a ≤ 233
    · have e1 : X' a i = X0 a i := a2 a i (by
        rintro (z | z | ⟨t, ht, z1, z2, z3⟩)
        · omega
        · omega
        · rcases List.mem_append.mp ht with y | y
          · exact nh ⟨t, y, z1, z2, z3⟩
          · rw [List.mem_singleton] at y; subst y; simp only at z1; omega)
      rw [e1]
      by_cases c9 : a = 157 ∧ i = 9
      · rw [c9.1, c9.2, q9]; exact Or.inl rfl
      · rw [o9 a i c9, C'.2.1 a ca]
        rcases b'.2 a i with z | z | z | z
        · exact Or.inl z
        · exact Or.inr (Or.inl z)
        · exact absurd z c9
        · omega
    · have e1 : X' a i = P a i := a1 a i (by
        rintro (z | z | ⟨t, ht, z1, z2, z3⟩)
        · omega
        · omega
        · rcases List.mem_append.mp ht with y | y
          · exact nh ⟨t, y, z1, z2, z3⟩
          · have : t.1 ≤ 233 := (by decide : ∀ t ∈ zkC, t.1 ≤ 233) t y
            omega)
      rw [e1]
      rcases b'.2 a i with z | z | z | z
      · exact Or.inl z
      · omega
      · omega
      · exact Or.inr (Or.inr ⟨z.1, by omega⟩)
  have nw : ∀ a i, (a = 163 ∨ a = 164 ∨ a = 235 ∨ a = 2) → 0 ≤ i → i < 1000000 → ¬ zhw zwyF a i := fun a i ha i0 i1 => by unfold zhw zhit zwyF zscr; simp; omega
  refine zJn_tr v10 (J_bey JN (fun a i hn => ?_) (fun i hi => ?_) (fun i i0 i1 => ?_)).1 ?_
  · have h1 : ¬ zhw zwyF a i := fun z => hn (by rcases z with z | z | z; exact Or.inl z; exact Or.inr (Or.inl z); exact Or.inr (Or.inr (zhit_sub (fun t ht => List.mem_append_left _ ht) z)))
    rcases key a i h1 with z | z | z
    · exact z
    · exfalso
      have lo : 0 ≤ i ∧ i < 1000000 := ⟨Int.not_lt.mp (fun z => h1 (Or.inl z)), Int.not_le.mp (fun z => h1 (Or.inr (Or.inl z)))⟩
      rcases z.1 with y | y
      · exact hn (Or.inr (Or.inr ⟨(163, 0, 1000000), List.mem_append_right _ (by decide), y, lo.1, lo.2⟩))
      · exact hn (Or.inr (Or.inr ⟨(164, 0, 1000000), List.mem_append_right _ (by decide), y, lo.1, lo.2⟩))
    · exfalso
      exact hn (Or.inr (Or.inr ⟨(235, 104, 116), List.mem_append_right _ (by decide), z.1, by show (104 : Int) ≤ i; omega, by show i < 116; omega⟩))
  · rcases key 235 i (nw 235 i (by omega) (by omega) (by omega)) with z | z | z
    · exact z
    · omega
    · omega
  · have z1 := key 235 (104 + 2 * i) (nw 235 _ (by omega) (by omega) (by omega))
    have z2 := key 235 (105 + 2 * i) (nw 235 _ (by omega) (by omega) (by omega))
    have z3 := key 163 i (nw 163 _ (by omega) (by omega) (by omega))
    have z4 := key 164 i (nw 164 _ (by omega) (by omega) (by omega))
    refine ⟨⟨?_, ?_⟩, ?_, ?_⟩
    · rcases z1 with z | z | z
      · exact z
      · omega
      · omega
    · rcases z2 with z | z | z
      · exact z
      · omega
      · omega
    · rcases z3 with z | z | z
      · exact z
      · omega
      · omega
    · rcases z4 with z | z | z
      · exact z
      · omega
      · omega
  · rcases key 2 10 (nw 2 10 (by omega) (by omega) (by omega)) with z | z | z
    · exact z
    · omega
    · omega
end PW

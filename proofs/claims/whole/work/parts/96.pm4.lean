section PM4
variable {G : zG} {d : Nat} {M P : zM} {Q : zV → zM → Prop}
def zaddF : List (Int × Int × Int) := [(20, 0, 1000000), (21, 0, 1000000), (22, 0, 1000000), (23, 0, 1000000), (24, 0, 1000000), (25, 0, 1000000), (26, 0, 1000000), (19, 8, 9), (246, 0, 1000000), (247, 0, 1000000), (248, 0, 1000000), (235, 0, 1)]
theorem J_add {M M2 : zM} (hJ : zJ M) (hf : zfr zaddF M M2) (n12 : M 235 0 < 12) (e0 : M2 235 0 = M 235 0 + 1) (e8 : M2 19 8 = M 235 0 + 1) (hr : ∀ a i, 20 ≤ a → a ≤ 26 → 0 ≤ i → i < M 235 0 → M2 a i = M a i) (h46 : ∀ i, 0 ≤ i → i < M 235 0 → M2 246 i = M 246 i) (h47 : ∀ i, 0 ≤ i → i < 240 * M 235 0 → M2 247 i = M 247 i) (h48 : ∀ i, 0 ≤ i → i < 4 * M 235 0 → M2 248 i = M 248 i) (hq : zQq M2 (M 235 0)) (hi : (M2 25 (M 235 0) = M2 248 (4 * M 235 0) ∧ M2 24 (M 235 0) = M2 248 (4 * M 235 0 + 1) ∧ M2 23 (M 235 0) = M2 248 (4 * M 235 0 + 2) ∧ M2 26 (M 235 0) = M2 248 (4 * M 235 0 + 3)) ∧ (0 ≤ M2 25 (M 235 0) ∧ M2 25 (M 235 0) ≤ 32767) ∧ (0 ≤ M2 24 (M 235 0) ∧ M2 24 (M 235 0) ≤ 8) ∧ (1 ≤ M2 23 (M 235 0) ∧ M2 23 (M 235 0) ≤ 16) ∧ (-1 ≤ M2 26 (M 235 0) ∧ M2 26 (M 235 0) ≤ 99)) : zJn M M2 := by
  have ro : ∀ a i, 0 ≤ i → i < 1000000 → (a < 19 ∨ (27 ≤ a ∧ a < 235) ∨ a = 236 ∨ a = 240) → M2 a i = M a i := fun a i i0 i1 ha => hf a i (by unfold zhw zhit zaddF; simp; omega)
  have r19 : ∀ i, 0 ≤ i → i < 1000000 → i ≠ 8 → M2 19 i = M 19 i := fun i i0 i1 ha => hf 19 i (by unfold zhw zhit zaddF; simp; omega)
  have e : ∀ i, 0 < i → i < 1000000 → M2 235 i = M 235 i := fun i i0 i1 => hf 235 i (by unfold zhw zhit zaddF; simp; omega)
  have hV := hJ.1
  have hn : 0 ≤ M 235 0 ∧ M 235 0 ≤ 12 := hV.1
  have j16 := hJ.2.2.2.2.2.2.2.2.2.2.2.2.2.2.2.2.2.2.2.1
  have j19 := hJ.2.2.2.2.2.2.2.2.2.2.2.2.2.2.2.2.2.2.1
  have n1 := hV.2.1.1
  have n2 := hV.2.2.1.1
  have g1 := hJ.2.1.2.1.1
  have g2 := hJ.2.1.2.2.1.1
  have n7 := hV.2.2.2.2.2.2.2.1.1
  have oA : zVA (M2 235) := ⟨by unfold zV0; rw [e0]; omega, zV1_e hV.2.1 (e 1 (by omega) (by omega)) (fun i q1 q2 => e i (by omega) (by omega)), zV2_e hV.2.2.1 (e 2 (by omega) (by omega)) (fun i q1 q2 => e i (by omega) (by omega)), zV3_e hV.2.2.2.1 (e 3 (by omega) (by omega)), zV4_e hV.2.2.2.2.1 (e 4 (by omega) (by omega)), zV5_e hV.2.2.2.2.2.1 hV.2.2.1.1.2 (by rw [e0]; omega) (by rw [e 2 (by omega) (by omega)]; omega) (e 5 (by omega) (by omega)) (fun i q1 q2 => e i (by omega) (by omega)), zV6_e hV.2.2.2.2.2.2.1 (e 6 (by omega) (by omega)), zV7_e hV.2.2.2.2.2.2.2.1 (by rw [e0]; omega) (by rw [e 2 (by omega) (by omega)]; omega) (e 7 (by omega) (by omega)) (fun i q1 q2 => e i (by omega) (by omega)), zV8_e hV.2.2.2.2.2.2.2.2.1 (by rw [e0]; omega) (e 8 (by omega) (by omega)) (fun i q1 q2 => e i (by omega) (by omega)), zVt_e hV.2.2.2.2.2.2.2.2.2.1 (fun i q1 q2 => e i (by omega) (by omega)), zVr_e hV.2.2.2.2.2.2.2.2.2.2 (fun i q1 q2 => e i (by omega) (by omega))⟩
  have o8 : zJ8 M2 := by
    have j8 := hJ.2.2.2.2.2.2.2.2.2.2.1
    refine ⟨by rw [e8, e0], fun q q0 q1 => ?_⟩
    rw [e0] at q1
    by_cases c : q = M 235 0
    · rw [c]; exact hi
    · rw [hr 25 q (by decide) (by decide) q0 (by omega), hr 24 q (by decide) (by decide) q0 (by omega), hr 23 q (by decide) (by decide) q0 (by omega), hr 26 q (by decide) (by decide) q0 (by omega), h48 (4 * q) (by omega) (by omega), h48 (4 * q + 1) (by omega) (by omega), h48 (4 * q + 2) (by omega) (by omega), h48 (4 * q + 3) (by omega) (by omega)]
      exact j8.2 q q0 (by omega)
  have o16 : zJ16 M2 := fun q q0 q1 => by
    rw [e0] at q1
    by_cases c : q = M 235 0
    · rw [c]; exact hq
    · have jq := j16 q q0 (by omega)
      obtain ⟨t, t0, t1, t2, t3⟩ := jq.1
      exact zQq_e (M := M) ⟨q0, by omega⟩ (hr 20 q (by decide) (by decide) q0 (by omega)) (hr 21 q (by decide) (by decide) q0 (by omega)) (hr 22 q (by decide) (by decide) q0 (by omega)) (h46 q q0 (by omega)) (fun i i0 i1 => h47 _ (by omega) (by omega)) (by rw [t3]; exact ro _ _ (by omega) (by omega) (by omega)) (fun i x hi _ x0 x1 => by rw [t3]; exact ro _ _ (by omega) (by omega) (by omega)) (fun t a _ => by rw [e 6 (by omega) (by omega)]; exact a) jq
  have o17 : zJ17 M2 := fun q q0 q1 => by
    have w := j19.1.1
    rw [ro 236 0 (by decide) (by decide) (by decide)] at q1
    rw [hr 20 q (by decide) (by decide) q0 (by omega), ro 236 6 (by decide) (by decide) (by decide)]
    exact (hJ.2.2.2.2.2.2.2.2.2.2.2.2.2.2.2.2.2.2.2.2.1) q q0 q1
  have o19 : zJ19 M2 := by
    obtain ⟨k1, k2, k3⟩ := j19
    have f : ∀ i, 0 ≤ i → i < 1000000 → M2 236 i = M 236 i := fun i i0 i1 => ro 236 i i0 i1 (by omega)
    unfold zJ19
    rw [f 0 (by omega) (by omega), f 1 (by omega) (by omega), f 2 (by omega) (by omega), f 6 (by omega) (by omega), e0, e 1 (by omega) (by omega), e 2 (by omega) (by omega), e 6 (by omega) (by omega)]
    refine ⟨by omega, fun k h1 h2 => ?_, fun k h1 h2 => ?_⟩
    · rw [f _ (by omega) (by omega), e _ (by omega) (by omega)]; exact k2 k h1 h2
    · rw [f _ (by omega) (by omega), e _ (by omega) (by omega)]; exact k3 k h1 h2
  have fq : ∀ q, 0 ≤ q → q < M 235 0 → ∀ eq, zqf M2 eq q = zqf M eq q := fun q q0 q1 eq => zqf_e (by have := (j16 q q0 q1).2.1; omega) (h46 q q0 q1) (fun x x0 x1 => h47 _ (by omega) (by omega))
  have oF : zJF M2 := by
    have j := hJ.2.2.2.2.2.2.2.2.2.2.2.2.2.2.2.2.2.2.2.2.2.1
    have eT : zTT M2 = zTT M := zTT_e (e 7 (by omega) (by omega)) (fun i i0 i1 => by
      have q := zV7_q hV i i0 i1
      have e1 : zhq M2 i = zhq M i := e _ (by omega) (by omega)
      refine ⟨e1, hr 25 _ (by decide) (by decide) q.1 q.2, fun W => zaM_e hV ?_ (e 1 (by omega) (by omega)) (fun i i0 i1 => e i (by omega) (by omega)) (h46 _ q.1 q.2) (fun i i0 i1 => h47 _ (by unfold zhq; omega) (by unfold zhq; omega))⟩
      have := (j16 _ q.1 q.2).2.1
      unfold zhq; omega)
    have l : (zTT M).length ≤ 10000 := zwfl_len 10000 _
    unfold zJF zFd
    rw [eT, ro 176 10 (by decide) (by decide) (by decide), ro 176 11 (by decide) (by decide) (by decide), ro 176 12 (by decide) (by decide) (by decide), ro 2 10 (by decide) (by decide) (by decide)]
    refine ⟨j.1, ?_⟩
    rcases j.2 with a | a | a
    · exact Or.inl a
    · exact Or.inr (Or.inl a)
    · refine Or.inr (Or.inr ⟨a.1, fun k k0 k1 => ?_⟩)
      rw [ro 183 k (by omega) (by omega) (by omega)]
      exact a.2 k k0 k1
  have oS : zJS M2 M2 := by
    have jS := hJ.2.2.2.2.2.2.2.2.2.2.2.2.2.2.2.2.2.2.2.2.2.2.1
    have k1 := jS.1
    have e13 := r19 13 (by decide) (by decide) (by decide)
    refine ⟨by rw [e13, e0]; omega, fun i i0 i1 => ?_⟩
    rw [e13] at i1
    obtain ⟨a1, a2⟩ := jS.2 i i0 i1
    have b1 := a1.1
    have x0 := (show 0 ≤ M 29 i ∧ M 29 i < M (49 + 9 * i) 8 from a1.2.1)
    have n8 : M2 (49 + 9 * i) 8 = M (49 + 9 * i) 8 := ro _ _ (by omega) (by omega) (by omega)
    refine ⟨⟨by rw [n8]; exact a1.1, ?_⟩, ?_⟩
    · rw [ro 29 i (by omega) (by omega) (by omega), n8, e 4 (by omega) (by omega), fq i i0 (by omega)]
      exact zqE_c 40 _ _ _ (fun y y0 y1 => ⟨ro _ _ (by omega) (by omega) (by omega), ro _ _ (by omega) (by omega) (by omega), ro _ _ (by omega) (by omega) (by omega), ro _ _ (by omega) (by omega) (by omega)⟩) (fun y y0 y1 => ⟨ro _ _ (by omega) (by omega) (by omega), ro _ _ (by omega) (by omega) (by omega)⟩) a1.2
    · unfold zlw at *
      rw [ro 30 i (by omega) (by omega) (by omega), e 4 (by omega) (by omega), fq i i0 (by omega), fq _ a2.1.1 (by omega)]
      exact ⟨a2.1, a2.2.1, fun s s0 s1 => by rw [fq s s0 (by omega)]; exact a2.2.2 s s0 s1⟩
  exact ⟨⟨oA, zsI_c (zfr_sm hf (by decide)) hJ.2.1, zJ1_c (zfr_sm hf (by decide)) hJ.2.2.1, zJ2_c (zfr_sm hf (by decide)) hJ.1.2.1.1.2 hJ.2.2.2.1, zJ3_c (zfr_sm hf (by decide)) hJ.2.2.2.2.1, zJ4_c (zfr_sm hf (by decide)) hJ.1.2.1.1.2 hJ.2.2.2.2.2.1, zJ10_c (zfr_sm hf (by decide)) hJ.2.2.2.2.2.2.1, zJ5_c (zfr_sm hf (by decide)) hJ.2.2.2.2.2.2.2.1, zJ6_c (zfr_sm hf (by decide)) hJ.2.2.2.2.2.2.2.2.1, zJ7_c (zfr_sm hf (by decide)) hJ.2.2.2.2.2.2.2.2.2.1, o8, zJ9_c (zfr_sm hf (by decide)) hJ.2.2.2.2.2.2.2.2.2.2.2.1, zJ11_c (zfr_sm hf (by decide)) hJ.1.2.2.1.1.2 hJ.2.2.2.2.2.2.2.2.2.2.2.2.1, zJ12_c (zfr_sm hf (by decide)) hJ.2.2.2.2.2.2.2.2.2.2.2.2.2.1, zJ13_c (zfr_sm hf (by decide)) (zA5 hJ.1) hJ.2.2.2.2.2.2.2.2.2.2.2.2.2.2.1, zJ14_c (zfr_sm hf (by decide)) (zA7 hJ.1) hJ.2.2.2.2.2.2.2.2.2.2.2.2.2.2.2.1, zJ15_c (zfr_sm hf (by decide)) (zA8 hJ.1) hJ.2.2.2.2.2.2.2.2.2.2.2.2.2.2.2.2.1, zJ18_c (zfr_sm hf (by decide)) ⟨zA5 hJ.2.1, zA7 hJ.2.1, zA8 hJ.2.1⟩ hJ.2.2.2.2.2.2.2.2.2.2.2.2.2.2.2.2.2.1, o19, o16, o17, oF, oS, (by rw [hf 2 10 (by unfold zhw zhit; decide)]; exact hJ.2.2.2.2.2.2.2.2.2.2.2.2.2.2.2.2.2.2.2.2.2.2.2.1), zJC_c (zfr_sm hf (by decide)) hJ.2.2.2.2.2.2.2.2.2.2.2.2.2.2.2.2.2.2.2.2.2.2.2.2⟩, by rw [hf 2 10 (by unfold zhw zhit; decide)]; omega⟩

end PM4

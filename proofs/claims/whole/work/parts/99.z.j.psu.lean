section PSU
variable {G : zG} {d : Nat} {M M' X : zM} {Q : zV → zM → Prop} {B : Int → Int} {n t : Int} {m k : Nat}
theorem zVA_ext6 {A B : Int → Int} (h : zVA A) (e : ∀ i, i ≠ 6 → ((0 ≤ i ∧ i < 9) ∨ (10 ≤ i ∧ i < 156)) → B i = A i) (b6 : 0 ≤ B 6 ∧ B 6 ≤ 4) : zVA B := by
  obtain ⟨h0, h1, h2, h3, h4, h5, h6, h7, h8, ht, hr⟩ := h
  have e0 := e 0 (by decide) (by omega); have e2 := e 2 (by decide) (by omega)
  exact ⟨zV0_e h0 e0, zV1_e h1 (e _ (by decide) (by omega)) (fun i q1 q2 => e i (by omega) (by omega)), zV2_e h2 e2 (fun i q1 q2 => e i (by omega) (by omega)), zV3_e h3 (e _ (by decide) (by omega)), zV4_e h4 (e _ (by decide) (by omega)), zV5_e h5 h2.1.2 (by omega) (by omega) (e _ (by decide) (by omega)) (fun i q1 q2 => e i (by omega) (by omega)), b6, zV7_e h7 (by omega) (by omega) (e _ (by decide) (by omega)) (fun i q1 q2 => e i (by omega) (by omega)), zV8_e h8 (by omega) (e _ (by decide) (by omega)) (fun i q1 q2 => e i (by omega) (by omega)), zVt_e ht (fun i q1 q2 => e i (by omega) (by omega)), zVr_e hr (fun i q1 q2 => e i (by omega) (by omega))⟩
def zFT : List (Int × Int × Int) := [(1, 3, 4), (12, 1, 8), (13, 1, 2), (13, 5, 10), (15, 0, 1000000), (16, 0, 1000000), (17, 0, 1000000), (234, 5, 28), (235, 6, 7), (240, 0, 1000000), (241, 0, 1000000), (242, 0, 1000000), (243, 0, 1000000), (244, 0, 1000000), (245, 0, 1000000)] ++ (List.range 48).map (fun (j : Nat) => (186 + (j : Int), (0 : Int), (1000000 : Int)))
theorem zFT_m {a : Int} (h : 186 ≤ a ∧ a ≤ 233) : (a, 0, 1000000) ∈ zFT := List.mem_append_right _ (List.mem_map.mpr ⟨(a - 186).toNat, List.mem_range.mpr (by omega), by rw [show 186 + ((a - 186).toNat : Int) = a by omega]⟩)
theorem zFT_x {a lo hi : Int} (h : 186 ≤ a ∧ a ≤ 233) (hl : 0 ≤ lo) (hh : hi ≤ 1000000) : ∃ y ∈ zFT, y.1 = a ∧ y.2.1 ≤ lo ∧ hi ≤ y.2.2 := ⟨_, zFT_m h, rfl, hl, hh⟩
theorem zFT_h {a i : Int} (h : 186 ≤ a ∧ a ≤ 233) (hi : 0 ≤ i ∧ i < 1000000) : zhit zFT a i := ⟨_, zFT_m h, rfl, hi.1, hi.2⟩
theorem zFT_i {y : Int × Int × Int} (i : Nat) (h : zFT[i]? = some y) : y ∈ zFT := List.mem_of_getElem? h
theorem zFT_c (ht : 0 ≤ t ∧ t < 4) (h : zfr (ps_HHF t) M M') : zfr zFT M M' := zfr_cov h (fun x hx => by
  unfold ps_HHF ps_HH at hx
  simp only [List.mem_cons, List.not_mem_nil, or_false] at hx
  rcases hx with g | g | g | g | g | g | g | g | g | g | g | g | g | g <;> subst g
  · exact ⟨(12, 1, 8), zFT_i 1 rfl, rfl, by decide, by decide⟩
  · exact zFT_x (a := 189 + 12 * t) (lo := 8) (hi := 9) (by omega) (by decide) (by decide)
  · exact zFT_x (a := 189 + 12 * t + 1) (lo := 0) (hi := 1000000) (by omega) (by decide) (by decide)
  · exact zFT_x (a := 189 + 12 * t + 2) (lo := 0) (hi := 1000000) (by omega) (by decide) (by decide)
  · exact zFT_x (a := 189 + 12 * t + 3) (lo := 0) (hi := 1000000) (by omega) (by decide) (by decide)
  · exact zFT_x (a := 189 + 12 * t + 4) (lo := 0) (hi := 1000000) (by omega) (by decide) (by decide)
  · exact zFT_x (a := 189 + 12 * t + 5) (lo := 0) (hi := 1000000) (by omega) (by decide) (by decide)
  · exact zFT_x (a := 189 + 12 * t + 6) (lo := 0) (hi := 1000000) (by omega) (by decide) (by decide)
  · exact zFT_x (a := 189 + 12 * t + 7) (lo := 0) (hi := 1000000) (by omega) (by decide) (by decide)
  · exact ⟨(12, 1, 8), zFT_i 1 rfl, rfl, by decide, by decide⟩
  · exact ⟨(13, 5, 10), zFT_i 3 rfl, rfl, by decide, by decide⟩
  · exact zFT_x (a := 186 + 12 * t) (lo := 2) (hi := 4) (by omega) (by decide) (by decide)
  · exact zFT_x (a := 186 + 12 * t + 1) (lo := 0) (hi := 1000000) (by omega) (by decide) (by decide)
  · exact zFT_x (a := 186 + 12 * t + 2) (lo := 0) (hi := 1000000) (by omega) (by decide) (by decide))
theorem zFT_g (ht : 0 ≤ t ∧ t < 4) (h : zfr (ps_GG t) M M') : zfr zFT M M' := zfr_cov h (fun x hx => by
  unfold ps_GG at hx
  simp only [List.mem_cons, List.not_mem_nil, or_false] at hx
  rcases hx with g | g | g | g | g | g | g <;> subst g
  · exact ⟨(234, 5, 28), zFT_i 7 rfl, rfl, by decide, by decide⟩
  · exact ⟨(240, 0, 1000000), zFT_i 9 rfl, rfl, by show (0 : Int) ≤ 889 * t; omega, by show 889 * t + 889 ≤ 1000000; omega⟩
  · exact ⟨(241, 0, 1000000), zFT_i 10 rfl, rfl, by decide, by decide⟩
  · exact ⟨(242, 0, 1000000), zFT_i 11 rfl, rfl, by decide, by decide⟩
  · exact ⟨(243, 0, 1000000), zFT_i 12 rfl, rfl, by decide, by decide⟩
  · exact ⟨(244, 0, 1000000), zFT_i 13 rfl, rfl, by decide, by decide⟩
  · exact ⟨(245, 0, 1000000), zFT_i 14 rfl, rfl, by decide, by decide⟩)
theorem zFT_l (h : zfr lx_fr M M') : zfr zFT M M' := zfr_cov h (fun x hx => by
  unfold lx_fr at hx
  simp only [List.mem_cons, List.not_mem_nil, or_false] at hx
  rcases hx with g | g | g | g <;> subst g
  · exact ⟨(13, 5, 10), zFT_i 3 rfl, rfl, by decide, by decide⟩
  · exact ⟨(15, 0, 1000000), zFT_i 4 rfl, rfl, by decide, by decide⟩
  · exact ⟨(16, 0, 1000000), zFT_i 5 rfl, rfl, by decide, by decide⟩
  · exact ⟨(17, 0, 1000000), zFT_i 6 rfl, rfl, by decide, by decide⟩)
theorem zFT_t (h : zfr [(234, 8, 13)] M M') : zfr zFT M M' := zfr_cov h (fun x hx => by
  rw [List.mem_singleton] at hx; subst hx
  exact ⟨(234, 5, 28), zFT_i 7 rfl, rfl, by decide, by decide⟩)
/-- J behind a text -/
theorem J_tx (hJ : zJ M) (e : M 235 6 = t) (t4 : t < 4) (hf : zfr zFT M M') (hr : ∀ a x, 186 ≤ a → a < 186 + 12 * t → 0 ≤ x → x < 1000000 → M' a x = M a x) (hr4 : ∀ x, 0 ≤ x → x < 889 * t → M' 240 x = M 240 x) (h5 : zJ5 M') (h6 : zJ6 M') (h7 : zJ7 M') (h235 : M' 235 6 = t ∨ (M' 235 6 = t + 1 ∧ zXt M' t)) : zJn M M' := by
  have hf235 : ∀ i, i ≠ 6 → 0 ≤ i → i < 1000 → M' 235 i = M 235 i := fun i i6 i0 i1 => hf 235 i (by
    intro w
    rcases w with w | w | ⟨y, hy, y1, y2, y3⟩
    · omega
    · omega
    · unfold zFT at hy
      rcases List.mem_append.mp hy with hy | hy
      · simp only [List.mem_cons, List.not_mem_nil, or_false] at hy
        rcases hy with g | g | g | g | g | g | g | g | g | g | g | g | g | g | g <;> subst g <;> first | (exact absurd y1 (by decide)) | skip
        have a : (6 : Int) ≤ i := y2
        have b : i < (7 : Int) := y3
        omega
      · obtain ⟨j, hj, g⟩ := List.mem_map.mp hy
        have hj' := List.mem_range.mp hj
        subst g
        have a : (235 : Int) = 186 + (j : Int) := y1
        omega)
  have v6 : 0 ≤ M 235 6 := hJ.1.2.2.2.2.2.2.1.1
  have t0 : 0 ≤ t := by omega
  have b6 : 0 ≤ M' 235 6 ∧ M' 235 6 ≤ 4 := by
    rcases h235 with q | q
    · omega
    · omega
  have hA : zVA (M' 235) := zVA_ext6 hJ.1 (fun i i6 hi => hf235 i i6 (by omega) (by omega)) b6
  have j19 : zJ19 M := hJ.2.2.2.2.2.2.2.2.2.2.2.2.2.2.2.2.2.2.1
  have h236 : ∀ i, 0 ≤ i → i < 1000 → M' 236 i = M 236 i := fun i i0 i1 => hf 236 i (by
    intro w
    rcases w with w | w | ⟨y, hy, y1, y2, y3⟩
    · omega
    · omega
    · unfold zFT at hy
      rcases List.mem_append.mp hy with hy | hy
      · simp only [List.mem_cons, List.not_mem_nil, or_false] at hy
        rcases hy with g | g | g | g | g | g | g | g | g | g | g | g | g | g | g <;> subst g <;> exact absurd y1 (by decide)
      · obtain ⟨j, hj, g⟩ := List.mem_map.mp hy
        have hj' := List.mem_range.mp hj
        subst g
        have a : (236 : Int) = 186 + (j : Int) := y1
        omega)
  have i1 := hJ.2.1.2.1.1
  have i2 := hJ.2.1.2.2.1.1
  have h19 : zJ19 M' := by
    unfold zJ19
    rw [h236 0 (by decide) (by decide), h236 1 (by decide) (by decide), h236 2 (by decide) (by decide), h236 6 (by decide) (by decide), hf235 0 (by decide) (by decide) (by decide), hf235 1 (by decide) (by decide) (by decide), hf235 2 (by decide) (by decide) (by decide)]
    refine ⟨⟨j19.1.1, j19.1.2.1, j19.1.2.2.1, by have := j19.1.2.2.2; omega⟩, fun q q0 q1 => ?_, fun q q0 q1 => ?_⟩
    · rw [h236 _ (by omega) (by omega), hf235 _ (by omega) (by omega) (by omega)]; exact j19.2.1 q q0 q1
    · rw [h236 _ (by omega) (by omega), hf235 _ (by omega) (by omega) (by omega)]; exact j19.2.2 q q0 q1
  have sm := zfr_sm (S := [(20, 0, 12), (21, 0, 12), (22, 0, 12), (246, 0, 12), (247, 0, 2880)]) hf (by decide +kernel)
  have n12 := hJ.1.1.2
  have j16 : zJ16 M := hJ.2.2.2.2.2.2.2.2.2.2.2.2.2.2.2.2.2.2.2.1
  have h16 : zJ16 M' := fun q q0 q1 => by
    rw [hf235 0 (by decide) (by decide) (by decide)] at q1
    have jq := j16 q q0 q1
    obtain ⟨u, u0, u1, u2, u3⟩ := jq.1
    refine zQq_e ⟨q0, by omega⟩ (sm 20 q (zhit_at 0 rfl (by omega))) (sm 21 q (zhit_at 1 rfl (by omega))) (sm 22 q (zhit_at 2 rfl (by omega))) (sm 246 q (zhit_at 3 rfl (by omega))) (fun i i0 i1 => sm 247 _ (zhit_at 4 rfl (by omega))) ?_ (fun i x hi _ x0 x1 => ?_) (fun w w1 w2 => by omega) jq
    · rw [u3]; exact hr _ _ (by omega) (by omega) (by decide) (by decide)
    · rw [u3]; exact hr _ _ (by omega) (by omega) x0 (by omega)
  have jC : zJC M := hJ.2.2.2.2.2.2.2.2.2.2.2.2.2.2.2.2.2.2.2.2.2.2.2.2
  have hC : zJC M' := ⟨zJT_c (zfr_sm hf (by decide +kernel)) jC.1, b6.2, fun u u0 u1 => by
    by_cases c : u < t
    · exact zXt_e (hr _ _ (by omega) (by omega) (by decide) (by decide)) (fun i i0 i1 => hr _ _ (by omega) (by omega) i0 (by omega)) (fun i i0 i1 => hr _ _ (by omega) (by omega) i0 (by omega)) (hr _ _ (by omega) (by omega) (by decide) (by decide)) (fun i x hi _ x0 x1 => hr _ _ (by omega) (by omega) x0 (by omega)) (fun i i0 i1 => hr4 _ (by omega) (by omega)) (jC.2.2 u u0 (by omega))
    · rcases h235 with q | q
      · omega
      · rw [show u = t by omega]; exact q.2⟩
  exact ⟨⟨hA, zsI_c (zfr_sm hf (by decide +kernel)) hJ.2.1, zJ1_c (zfr_sm hf (by decide +kernel)) hJ.2.2.1, zJ2_c (zfr_sm hf (by decide +kernel)) hJ.1.2.1.1.2 hJ.2.2.2.1, zJ3_c (zfr_sm hf (by decide +kernel)) hJ.2.2.2.2.1, zJ4_c (zfr_sm hf (by decide +kernel)) hJ.1.2.1.1.2 hJ.2.2.2.2.2.1, zJ10_c (zfr_sm hf (by decide +kernel)) hJ.2.2.2.2.2.2.1, h5, h6, h7, zJ8_c (zfr_sm hf (by decide +kernel)) hJ.1.1.2 hJ.2.2.2.2.2.2.2.2.2.2.1, zJ9_c (zfr_sm hf (by decide +kernel)) hJ.2.2.2.2.2.2.2.2.2.2.2.1, zJ11_c (zfr_sm hf (by decide +kernel)) hJ.1.2.2.1.1.2 hJ.2.2.2.2.2.2.2.2.2.2.2.2.1, zJ12_c (zfr_sm hf (by decide +kernel)) hJ.2.2.2.2.2.2.2.2.2.2.2.2.2.1, zJ13_c (zfr_sm hf (by decide +kernel)) (zA5 hJ.1) hJ.2.2.2.2.2.2.2.2.2.2.2.2.2.2.1, zJ14_c (zfr_sm hf (by decide +kernel)) (zA7 hJ.1) hJ.2.2.2.2.2.2.2.2.2.2.2.2.2.2.2.1, zJ15_c (zfr_sm hf (by decide +kernel)) (zA8 hJ.1) hJ.2.2.2.2.2.2.2.2.2.2.2.2.2.2.2.2.1, zJ18_c (zfr_sm hf (by decide +kernel)) ⟨zA5 hJ.2.1, zA7 hJ.2.1, zA8 hJ.2.1⟩ hJ.2.2.2.2.2.2.2.2.2.2.2.2.2.2.2.2.2.1, h19, h16, zJ17_c (zfr_sm hf (by decide +kernel)) hJ.2.1.1.2 hJ.2.2.2.2.2.2.2.2.2.2.2.2.2.2.2.2.2.2.2.2.1, zJF_c (zfr_sm hf (by decide +kernel)) hJ.1 hJ.2.2.2.2.2.2.2.2.2.2.2.2.2.2.2.2.2.2.2.1 hJ.2.2.2.2.2.2.2.2.2.2.2.2.2.2.2.2.2.2.2.2.2.1, zJS_c (zfr_sm hf (by decide +kernel)) hJ.1.1.2 hJ.2.2.2.2.2.2.2.2.2.2.2.2.2.2.2.2.2.2.2.1 hJ.2.2.2.2.2.2.2.2.2.2.2.2.2.2.2.2.2.2.2.2.2.2.1, (by rw [hf 2 10 (by unfold zhw zhit; decide +kernel)]; exact hJ.2.2.2.2.2.2.2.2.2.2.2.2.2.2.2.2.2.2.2.2.2.2.2.1), hC⟩, by
    rw [zfr_sm (S := [(2, 10, 11)]) hf (by decide +kernel) 2 10 (zhit_at 0 rfl (by decide))]; omega⟩
end PSU

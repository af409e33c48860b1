section PF
variable {G : zG} {d : Nat} {M : zM} {Q : zV → zM → Prop}
abbrev zgr (x1 x2 x3 : Int) : Prop := (0 ≤ x1 ∧ x1 ≤ 5) ∧ (0 ≤ x2 ∧ x2 ≤ 5) ∧ x1 ≠ x2 ∧ 1 ≤ x3 ∧ x3 ≤ 99
theorem s_mroad (hG : zP G) {x1 x2 x3 : Int} (h1 : zgr x1 x2 x3 → Q (0, 1) (zset (zset M 235 (38 + 6 * x1 + x2) x3) 235 (38 + 6 * x2 + x1) x3)) (h0 : ¬ zgr x1 x2 x3 → Q (0, 0) M) : Y G (d + 1) mX12_road 0 [(2, 234), (0, x1), (0, x2), (0, x3)] [] M Q :=
  bX12_road_0 hG ⟨fun a => ⟨fun b => ⟨fun c => h0 (fun q => q.2.2.1 c), fun c => ⟨fun f => ⟨by omega, by omega, by omega, by omega, by omega, by omega, by omega, by omega, h1 ⟨a, b, c, f⟩⟩, fun f => h0 (fun q => f q.2.2.2)⟩⟩, fun b => h0 (fun q => b q.2.1)⟩, fun a => h0 (fun q => a q.1)⟩
theorem s_croad (hG : zP G) {A : Int → Int} {x1 x2 x3 : Int} (hv : 0 ≤ M 2 10 ∧ M 2 10 ≤ 1000000000) (hF : zgr x1 x2 x3 → ∀ k, 0 ≤ k → k < 36 → A (38 + k) = (if k = x2 * 6 + x1 then x3 else if k = x1 * 6 + x2 then x3 else M 7 k) ∧ 0 ≤ A (38 + k) ∧ A (38 + k) ≤ 99)
    (h1 : zgr x1 x2 x3 → ∀ T, zR 6 6 6 (zpw 6) T (zmB 6 6 (zw0 A)) → Q (0, 1) (zset (zrow (zset (zset M 7 (x1 * 6 + x2) x3) 7 (x2 * 6 + x1) x3) 9 T) 2 10 (M 2 10 + 1))) (h0 : ¬ zgr x1 x2 x3 → Q (0, 0) M) : Y G (d + 3) mX11_road 0 [(2, 1), (0, x1), (0, x2), (0, x3)] [] M Q := by
  have bad : ¬ zgr x1 x2 x3 → Y G (d + 3) mX11_road 10 [(2, 1), (0, x1), (0, x2), (0, x3)] [(0, 0)] M Q := fun q => bX11_road_10 hG ⟨by decide, h0 q⟩
  refine bX11_road_0 hG (bX10_layRoad_0 hG ?_)
  refine ⟨fun a => ⟨fun b => ⟨fun f => ⟨fun c => ⟨by omega, by omega, by omega, by omega, by omega, by omega, ?_⟩, fun c => bad (fun q => q.2.2.1 c)⟩, fun f => bX10_layRoad_32 hG (bad (fun q => f q.2.2.2))⟩, fun b => bX10_layRoad_32 hG (bad (fun q => b q.2.1))⟩, fun a => bX10_layRoad_32 hG (bad (fun q => a q.1))⟩
  have hg : zgr x1 x2 x3 := ⟨a, b, c, f⟩
  have g2 : (zset (zset M 7 (x1 * 6 + x2) x3) 7 (x2 * 6 + x1) x3) 2 10 = M 2 10 := by simp only [zset_ap, zrow_ap, Int.reduceEq, ↓reduceIte] <;> (repeat' split) <;> first | rfl | omega
  refine sw_ways (by decide) (zP_W hG) (by rw [g2]; exact hv) (A := A) (fun k k0 k1 => ?_) (fun T hT => ?_)
  · have := hF hg k k0 k1
    refine ⟨?_, this.2⟩
    rw [this.1]
    simp only [zset_ap, zrow_ap, Int.reduceEq, ↓reduceIte] <;> (repeat' split) <;> first | rfl | omega
  · rw [g2]
    exact bX10_layRoad_75 hG (bX11_road_10 hG ⟨by decide, h1 hg T hT⟩)

theorem J_road {M M2 : zM} (hJ : zJ M) (hf : zfr [(7, 0, 36), (9, 0, 1000000), (2, 10, 11), (235, 38, 74)] M M2) {x1 x2 x3 : Int} (hg : zgr x1 x2 x3) (e : ∀ i, (0 ≤ i ∧ i < 156 ∧ ¬ (38 ≤ i ∧ i < 74)) → M2 235 i = M 235 i) (w : ∀ k, 0 ≤ k → k < 36 → M2 235 (38 + k) = if k = x2 * 6 + x1 then x3 else if k = x1 * 6 + x2 then x3 else M 235 (38 + k)) (w7 : ∀ k, 0 ≤ k → k < 36 → M2 7 k = if k = x2 * 6 + x1 then x3 else if k = x1 * 6 + x2 then x3 else M 7 k) (j10 : zJ10 M2) (ve : M2 2 10 = M 2 10 + 1) : zJn M M2 := by
  have hV := hJ.1
  have hr : zVr (M2 235) := fun k k0 k1 => by
    have := hV.2.2.2.2.2.2.2.2.2.2 k k0 k1
    rw [w k k0 k1]
    obtain ⟨-, -, -, q⟩ := hg
    split
    · omega
    · split <;> omega
  have h3 : zJ3 M2 := fun k k0 k1 => by
    rw [w k k0 k1, w7 k k0 k1, hJ.2.2.2.2.1 k k0 k1]
  exact ⟨⟨⟨zV0_e hV.1 (e 0 (by omega)), zV1_e hV.2.1 (e 1 (by omega)) (fun i q1 q2 => e i (by omega)), zV2_e hV.2.2.1 (e 2 (by omega)) (fun i q1 q2 => e i (by omega)), zV3_e hV.2.2.2.1 (e 3 (by omega)), zV4_e hV.2.2.2.2.1 (e 4 (by omega)), zV5_e hV.2.2.2.2.2.1 hV.2.2.1.1.2 (by rw [e 0 (by omega)]; omega) (by rw [e 2 (by omega)]; omega) (e 5 (by omega)) (fun i q1 q2 => e i (by omega)), zV6_e hV.2.2.2.2.2.2.1 (e 6 (by omega)), zV7_e hV.2.2.2.2.2.2.2.1 (by rw [e 0 (by omega)]; omega) (by rw [e 2 (by omega)]; omega) (e 7 (by omega)) (fun i q1 q2 => e i (by omega)), zV8_e hV.2.2.2.2.2.2.2.2.1 (by rw [e 0 (by omega)]; omega) (e 8 (by omega)) (fun i q1 q2 => e i (by omega)), zVt_e hV.2.2.2.2.2.2.2.2.2.1 (fun i q1 q2 => e i (by omega)), hr⟩, zsI_c (zfr_sm hf (by decide)) hJ.2.1, zJ1_c (zfr_sm hf (by decide)) hJ.2.2.1, zJ2_c (zfr_sm hf (by decide)) hJ.1.2.1.1.2 hJ.2.2.2.1, h3, zJ4_c (zfr_sm hf (by decide)) hJ.1.2.1.1.2 hJ.2.2.2.2.2.1, j10, zJ5_c (zfr_sm hf (by decide)) hJ.2.2.2.2.2.2.2.1, zJ6_c (zfr_sm hf (by decide)) hJ.2.2.2.2.2.2.2.2.1, zJ7_c (zfr_sm hf (by decide)) hJ.2.2.2.2.2.2.2.2.2.1, zJ8_c (zfr_sm hf (by decide)) hJ.1.1.2 hJ.2.2.2.2.2.2.2.2.2.2.1, zJ9_c (zfr_sm hf (by decide)) hJ.2.2.2.2.2.2.2.2.2.2.2.1, zJ11_c (zfr_sm hf (by decide)) hJ.1.2.2.1.1.2 hJ.2.2.2.2.2.2.2.2.2.2.2.2.1, zJ12_c (zfr_sm hf (by decide)) hJ.2.2.2.2.2.2.2.2.2.2.2.2.2.1, zJ13_c (zfr_sm hf (by decide)) (zA5 hJ.1) hJ.2.2.2.2.2.2.2.2.2.2.2.2.2.2.1, zJ14_c (zfr_sm hf (by decide)) (zA7 hJ.1) hJ.2.2.2.2.2.2.2.2.2.2.2.2.2.2.2.1, zJ15_c (zfr_sm hf (by decide)) (zA8 hJ.1) hJ.2.2.2.2.2.2.2.2.2.2.2.2.2.2.2.2.1, zJ18_c (zfr_sm hf (by decide)) ⟨zA5 hJ.2.1, zA7 hJ.2.1, zA8 hJ.2.1⟩ hJ.2.2.2.2.2.2.2.2.2.2.2.2.2.2.2.2.2.1, zJ19_c (zfr_sm hf (by decide)) ⟨hJ.2.1.2.1.1.2, hJ.2.1.2.2.1.1.2⟩ hJ.2.2.2.2.2.2.2.2.2.2.2.2.2.2.2.2.2.2.1, zJ16_c (zfr_sm hf (by decide)) hJ.1.1.2 hJ.2.2.2.2.2.2.2.2.2.2.2.2.2.2.2.2.2.2.2.1, zJ17_c (zfr_sm hf (by decide)) hJ.2.1.1.2 hJ.2.2.2.2.2.2.2.2.2.2.2.2.2.2.2.2.2.2.2.2.1, ⟨by rw [ve, hf 176 12 (by unfold zhw zhit; decide)]; have := hJ.2.2.2.2.2.2.2.2.2.2.2.2.2.2.2.2.2.2.2.2.2.1.1; omega, Or.inr (Or.inl (by rw [ve, hf 176 12 (by unfold zhw zhit; decide)]; have := hJ.2.2.2.2.2.2.2.2.2.2.2.2.2.2.2.2.2.2.2.2.2.1.1; omega))⟩, zJS_c (zfr_sm hf (by decide)) hJ.1.1.2 hJ.2.2.2.2.2.2.2.2.2.2.2.2.2.2.2.2.2.2.2.1 hJ.2.2.2.2.2.2.2.2.2.2.2.2.2.2.2.2.2.2.2.2.2.2.1, (by rw [ve]; have := hJ.2.2.2.2.2.2.2.2.2.2.2.2.2.2.2.2.2.2.2.2.2.2.2.1; omega), zJC_c (zfr_sm hf (by decide)) hJ.2.2.2.2.2.2.2.2.2.2.2.2.2.2.2.2.2.2.2.2.2.2.2.2⟩, by rw [ve]; omega⟩

theorem pr_road (hG : zP G) (hJ : zJ M) (hv : M 2 10 ≤ 1000000) {x1 x2 x3 : Int} : zPr G d mX11_road mX12_road [(2, 1), (0, x1), (0, x2), (0, x3)] [(2, 234), (0, x1), (0, x2), (0, x3)] M := by
  have o := hJ.2.2.2.2.1
  have hv0 := hJ.2.2.2.2.2.2.2.2.2.2.2.2.2.2.2.2.2.2.2.2.2.2.2.1
  have hVr := hJ.1.2.2.2.2.2.2.2.2.2.2
  generalize hA : (zset (zset M 235 (38 + 6 * x1 + x2) x3) 235 (38 + 6 * x2 + x1) x3) 235 = A
  refine s_croad hG (A := A) ⟨by omega, by omega⟩ (fun hg k k0 k1 => ?_) (fun hg T hT => ?_) (fun hg => ?_)
  · have q1 := o k k0 k1
    have q2 := hVr k k0 k1
    obtain ⟨a, b, c, f⟩ := hg
    have e : A (38 + k) = (if k = x2 * 6 + x1 then x3 else if k = x1 * 6 + x2 then x3 else M 7 k) := by subst hA; rw [q1]; simp only [zset_ap, zrow_ap, Int.reduceEq, ↓reduceIte] <;> (repeat' split) <;> first | rfl | omega
    refine ⟨e, ?_⟩
    rw [e, q1]
    split
    · omega
    · split <;> omega
  · have hg' := hg
    obtain ⟨a, b, c, f⟩ := hg'
    have w1 : (zset (zrow (zset (zset M 7 (x1 * 6 + x2) x3) 7 (x2 * 6 + x1) x3) 9 T) 2 10 (M 2 10 + 1)) 235 = M 235 := by
      funext i; simp only [zset_ap, zrow_ap, Int.reduceEq, ↓reduceIte] <;> (repeat' split) <;> first | rfl | omega
    generalize hM1 : zset (zrow (zset (zset M 7 (x1 * 6 + x2) x3) 7 (x2 * 6 + x1) x3) 9 T) 2 10 (M 2 10 + 1) = M1 at w1 ⊢
    refine s_mroad hG (fun _ => ?_) (fun q => absurd hg q)
    refine ⟨rfl, ?_⟩
    have hf0 : zfr [(7, 0, 36), (9, 0, 1000000), (2, 10, 11), (235, 38, 74)] M M1 := by
      subst hM1
      exact zfr_set (zfr_row (zfr_set (zfr_set zfr_rfl (zhit_at 0 rfl ⟨by omega, by omega⟩)) (zhit_at 0 rfl ⟨by omega, by omega⟩)) 1 rfl) (zhit_at 2 rfl ⟨by decide, by decide⟩)
    have ea : (zset (zset M1 235 (38 + 6 * x1 + x2) x3) 235 (38 + 6 * x2 + x1) x3) 235 = A := by
      subst hA
      funext i
      simp only [zset_ap, ↓reduceIte, w1]
    have hf : zfr [(7, 0, 36), (9, 0, 1000000), (2, 10, 11), (235, 38, 74)] M (zset (zset M1 235 (38 + 6 * x1 + x2) x3) 235 (38 + 6 * x2 + x1) x3) := zfr_set (zfr_set hf0 (zhit_at 3 rfl ⟨by omega, by omega⟩)) (zhit_at 3 rfl ⟨by omega, by omega⟩)
    have off : ∀ a i, a ≠ 235 → (zset (zset M1 235 (38 + 6 * x1 + x2) x3) 235 (38 + 6 * x2 + x1) x3) a i = M1 a i := fun a i ha => by simp only [zset_ap, if_neg ha]
    generalize zset (zset M1 235 (38 + 6 * x1 + x2) x3) 235 (38 + 6 * x2 + x1) x3 = M2 at ea hf off ⊢
    refine J_road hJ hf hg (fun i hi => ?_) (fun k k0 k1 => ?_) (fun k k0 k1 => ?_) (fun x y x0 x1' y0 y1 => ?_) ?_
    · rw [ea]; subst hA; simp only [zset_ap, zrow_ap, Int.reduceEq, ↓reduceIte] <;> (repeat' split) <;> first | rfl | omega
    · rw [ea]; subst hA; simp only [zset_ap, zrow_ap, Int.reduceEq, ↓reduceIte] <;> (repeat' split) <;> first | rfl | omega
    · rw [off _ _ (by decide)]; subst hM1; simp only [zset_ap, zrow_ap, Int.reduceEq, ↓reduceIte] <;> (repeat' split) <;> first | rfl | omega
    · rw [ea, off _ _ (by decide), show M1 9 (x * 6 + y) = T (x * 6 + y) by subst hM1; simp only [zset_ap, zrow_ap, Int.reduceEq, ↓reduceIte] <;> (repeat' split) <;> first | rfl | omega]
      exact ((hT x y x0 x1' y0 y1).1 x1' y1).1
    · rw [off _ _ (by decide)]; subst hM1; simp only [zset_ap, zrow_ap, Int.reduceEq, ↓reduceIte] <;> (repeat' split) <;> first | rfl | omega
  · exact s_mroad hG (fun q => absurd q hg) (fun _ => ⟨rfl, zJ_rf hJ⟩)

theorem J_scr {M M2 : zM} (hJ : zJ M) (hf : zfr [(237, 0, 1000000), (238, 0, 1000000)] M M2) : zJn M M2 := by
  exact ⟨⟨zsA_c (zfr_sm hf (by decide)) hJ.1, zsI_c (zfr_sm hf (by decide)) hJ.2.1, zJ1_c (zfr_sm hf (by decide)) hJ.2.2.1, zJ2_c (zfr_sm hf (by decide)) hJ.1.2.1.1.2 hJ.2.2.2.1, zJ3_c (zfr_sm hf (by decide)) hJ.2.2.2.2.1, zJ4_c (zfr_sm hf (by decide)) hJ.1.2.1.1.2 hJ.2.2.2.2.2.1, zJ10_c (zfr_sm hf (by decide)) hJ.2.2.2.2.2.2.1, zJ5_c (zfr_sm hf (by decide)) hJ.2.2.2.2.2.2.2.1, zJ6_c (zfr_sm hf (by decide)) hJ.2.2.2.2.2.2.2.2.1, zJ7_c (zfr_sm hf (by decide)) hJ.2.2.2.2.2.2.2.2.2.1, zJ8_c (zfr_sm hf (by decide)) hJ.1.1.2 hJ.2.2.2.2.2.2.2.2.2.2.1, zJ9_c (zfr_sm hf (by decide)) hJ.2.2.2.2.2.2.2.2.2.2.2.1, zJ11_c (zfr_sm hf (by decide)) hJ.1.2.2.1.1.2 hJ.2.2.2.2.2.2.2.2.2.2.2.2.1, zJ12_c (zfr_sm hf (by decide)) hJ.2.2.2.2.2.2.2.2.2.2.2.2.2.1, zJ13_c (zfr_sm hf (by decide)) (zA5 hJ.1) hJ.2.2.2.2.2.2.2.2.2.2.2.2.2.2.1, zJ14_c (zfr_sm hf (by decide)) (zA7 hJ.1) hJ.2.2.2.2.2.2.2.2.2.2.2.2.2.2.2.1, zJ15_c (zfr_sm hf (by decide)) (zA8 hJ.1) hJ.2.2.2.2.2.2.2.2.2.2.2.2.2.2.2.2.1, zJ18_c (zfr_sm hf (by decide)) ⟨zA5 hJ.2.1, zA7 hJ.2.1, zA8 hJ.2.1⟩ hJ.2.2.2.2.2.2.2.2.2.2.2.2.2.2.2.2.2.1, zJ19_c (zfr_sm hf (by decide)) ⟨hJ.2.1.2.1.1.2, hJ.2.1.2.2.1.1.2⟩ hJ.2.2.2.2.2.2.2.2.2.2.2.2.2.2.2.2.2.2.1, zJ16_c (zfr_sm hf (by decide)) hJ.1.1.2 hJ.2.2.2.2.2.2.2.2.2.2.2.2.2.2.2.2.2.2.2.1, zJ17_c (zfr_sm hf (by decide)) hJ.2.1.1.2 hJ.2.2.2.2.2.2.2.2.2.2.2.2.2.2.2.2.2.2.2.2.1, zJF_c (zfr_sm hf (by decide)) hJ.1 hJ.2.2.2.2.2.2.2.2.2.2.2.2.2.2.2.2.2.2.2.1 hJ.2.2.2.2.2.2.2.2.2.2.2.2.2.2.2.2.2.2.2.2.2.1, zJS_c (zfr_sm hf (by decide)) hJ.1.1.2 hJ.2.2.2.2.2.2.2.2.2.2.2.2.2.2.2.2.2.2.2.1 hJ.2.2.2.2.2.2.2.2.2.2.2.2.2.2.2.2.2.2.2.2.2.2.1, (by rw [hf 2 10 (by unfold zhw zhit; decide)]; exact hJ.2.2.2.2.2.2.2.2.2.2.2.2.2.2.2.2.2.2.2.2.2.2.2.1), zJC_c (zfr_sm hf (by decide)) hJ.2.2.2.2.2.2.2.2.2.2.2.2.2.2.2.2.2.2.2.2.2.2.2.2⟩, by rw [hf 2 10 (by unfold zhw zhit; decide)]; omega⟩

theorem pr_kin (hG : zP G) (hJ : zJ M) {x1 x2 : Int} : zPr G d mX11_kin mX12_kin [(2, 1), (0, x1), (0, x2)] [(2, 234), (0, x1), (0, x2)] M := by
  have o := (hJ.2.2.2.1).1
  have j4 := (hJ.2.2.2.2.2.1).1
  have hn := hJ.1.2.1.1
  have hVr := hJ.1.2.2.2.2.2.2.2.2.2.2
  have no : ¬ ((0 ≤ x1 ∧ x1 < M 235 1) ∧ 0 ≤ x2 ∧ x2 < M 235 1) → Y G (d + 400) mX12_kin 0 [(2, 234), (0, x1), (0, x2)] [] M (fun r2 M2 => r2 = (0, -2) ∧ zJn M M2) := fun q =>
    bX12_kin_0 hG ⟨by omega, fun a => ⟨by omega, fun b => absurd ⟨a, b⟩ q, fun _ => ⟨rfl, zJ_rf hJ⟩⟩, fun _ => ⟨rfl, zJ_rf hJ⟩⟩
  refine bX11_kin_0 hG ?_
  rw [o]
  refine ⟨by omega, fun a => ⟨by omega, fun b => ?_, fun b => no (by omega)⟩, fun a => no (by omega)⟩
  refine bX10_kinOf_0 hG ?_
  rw [o]
  refine ⟨by omega, fun _ => ⟨by omega, fun _ => ⟨by omega, by omega, by omega, ?_⟩, fun q => absurd b q⟩, fun q => absurd a q⟩
  refine bX11_kin_46 hG ?_
  refine bX12_kin_0 hG ⟨by omega, fun _ => ⟨by omega, fun _ => ?_, fun q => absurd q (by omega)⟩, fun q => absurd q (by omega)⟩
  refine s_findKin hG rfl hn hVr (fun U V hU hV => ?_)
  refine bX12_kin_23 hG ⟨by omega, by omega, by omega, ?_, J_scr hJ (zfr_row (zfr_row zfr_rfl 0 rfl) 1 rfl)⟩
  rw [j4 x1 x2 a.1 (by omega) b.1 (by omega), ← hU x1 x2 a.1 (by omega) b.1 (by omega)]
  simp only [zrow_ap, Int.reduceEq, ↓reduceIte]
theorem pr_way (hG : zP G) (hJ : zJ M) {x1 x2 : Int} : zPr G d mX11_way mX12_way [(2, 1), (0, x1), (0, x2)] [(2, 234), (0, x1), (0, x2)] M := by
  have j4 := hJ.2.2.2.2.2.2.1
  have hn := hJ.1.2.1.1
  have hVr := hJ.1.2.2.2.2.2.2.2.2.2.2
  have no : ¬ ((0 ≤ x1 ∧ x1 ≤ 5) ∧ 0 ≤ x2 ∧ x2 ≤ 5) → Y G (d + 400) mX12_way 0 [(2, 234), (0, x1), (0, x2)] [] M (fun r2 M2 => r2 = (0, -2) ∧ zJn M M2) := fun q =>
    bX12_way_0 hG ⟨fun a => ⟨fun b => absurd ⟨a, b⟩ q, fun _ => ⟨rfl, zJ_rf hJ⟩⟩, fun _ => ⟨rfl, zJ_rf hJ⟩⟩
  refine bX11_way_0 hG ⟨fun a => ⟨fun b => ?_, fun b => no (by omega)⟩, fun a => no (by omega)⟩
  refine bX10_wayOf_0 hG ⟨fun _ => ⟨fun _ => ⟨by omega, by omega, by omega, ?_⟩, fun q => absurd b q⟩, fun q => absurd a q⟩
  refine bX11_way_30 hG ?_
  refine bX12_way_0 hG ⟨fun _ => ⟨fun _ => ?_, fun q => absurd b q⟩, fun q => absurd a q⟩
  refine s_findKin hG rfl hn hVr (fun U V hU hV => ?_)
  refine bX12_way_25 hG ⟨by omega, by omega, by omega, ?_, J_scr hJ (zfr_row (zfr_row zfr_rfl 0 rfl) 1 rfl)⟩
  rw [j4 x1 x2 a.1 (by omega) b.1 (by omega), ← hV x1 x2 a.1 (by omega) b.1 (by omega)]
  simp only [zrow_ap, Int.reduceEq, ↓reduceIte]

end PF

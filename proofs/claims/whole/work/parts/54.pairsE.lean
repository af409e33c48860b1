section PE
variable {G : zG} {d : Nat} {M : zM} {Q : zV → zM → Prop}
abbrev zgp (n x1 x2 x3 : Int) : Prop := (0 ≤ x1 ∧ x1 ≤ 99) ∧ (-1 ≤ x2 ∧ x2 < n) ∧ (-1 ≤ x3 ∧ x3 < n) ∧ (x2 = x3 → x2 = -1) ∧ n < 8
theorem s_isParent (hG : zP G) {x n : Int} (hx : M 235 1 = n) (hr : 0 ≤ n ∧ n ≤ 8) (h1 : (-1 ≤ x ∧ x < n) → Q (0, 1) M) (h0 : ¬ (-1 ≤ x ∧ x < n) → Q (0, 0) M) : Y G (d + 2) mX12_isParent 0 [(2, 234), (0, x)] [] M Q :=
  bX12_isParent_0 hG ⟨fun c => h1 (by omega), fun c => s_misPerson hG hx (by omega) (fun q => bX12_isParent_10 hG ⟨fun w => absurd w (by decide), fun _ => h1 (by omega)⟩) (fun q => bX12_isParent_10 hG ⟨fun _ => h0 (by omega), fun w => absurd rfl w⟩)⟩
theorem s_mperson (hG : zP G) {x1 x2 x3 : Int} (hr : 0 ≤ M 235 1 ∧ M 235 1 ≤ 8) (h1 : zgp (M 235 1) x1 x2 x3 → Q (0, M 235 1) (zset (zset (zset (zset M 235 (14 + 3 * M 235 1) x1) 235 (14 + 3 * M 235 1 + 1) x2) 235 (14 + 3 * M 235 1 + 2) x3) 235 1 (M 235 1 + 1))) (h0 : ¬ zgp (M 235 1) x1 x2 x3 → Q (0, -1) M) : Y G (d + 3) mX12_person 0 [(2, 234), (0, x1), (0, x2), (0, x3), (9, 0)] [] M Q := by
  have e : M 235 1 + 1 - 1 = M 235 1 := by omega
  refine bX12_person_0 hG ⟨fun a => ?_, fun a => h0 (fun q => a q.1)⟩
  refine s_isParent hG rfl hr (fun b => ?_) (fun b => ?_)
  · refine bX12_person_15 hG ⟨fun w => absurd w (by decide), fun _ => ?_⟩
    refine s_isParent hG rfl hr (fun c => ?_) (fun c => ?_)
    · refine bX12_person_23 hG ?_
      rw [e]
      exact ⟨fun w => absurd w (by decide), fun _ => ⟨fun f => ⟨fun g => ⟨by omega, by omega, by omega, by omega, by omega, by omega, by omega, by omega, by omega, by omega, by omega, by omega, h1 ⟨a, b, c, by omega, by omega⟩⟩, fun g => h0 (fun q => by have := q.2.2.2.2; omega)⟩, fun f => ⟨fun g => h0 (fun q => by have := q.2.2.2.1 g; omega), fun g => ⟨fun g2 => ⟨by omega, by omega, by omega, by omega, by omega, by omega, by omega, by omega, by omega, by omega, by omega, by omega, h1 ⟨a, b, c, by omega, by omega⟩⟩, fun g => h0 (fun q => by have := q.2.2.2.2; omega)⟩⟩⟩⟩
    · exact bX12_person_23 hG ⟨fun _ => h0 (fun q => c q.2.2.1), fun w => absurd rfl w⟩
  · exact bX12_person_15 hG ⟨fun _ => h0 (fun q => b q.2.1), fun w => absurd rfl w⟩
theorem s_cperson (hG : zP G) {A : Int → Int} {n x1 x2 x3 : Int} (hN : M 2 4 = n) (hr : 0 ≤ n ∧ n ≤ 8) (hv : 0 ≤ M 2 10 ∧ M 2 10 ≤ 1000000000) (hF : ∀ c, 0 ≤ c → c < n → M 5 c = A (15 + 3 * c) ∧ M 6 c = A (16 + 3 * c) ∧ (A (15 + 3 * c) = A (16 + 3 * c) → A (15 + 3 * c) = -1)) (f2 : A (15 + 3 * n) = x2) (f3 : A (16 + 3 * n) = x3)
    (h1 : zgp n x1 x2 x3 → ∀ T K, zR 8 (n + 1) 8 (zpw 8) T (zmB 8 (n + 1) (zk0 A)) → (∀ p, 0 ≤ p → p < n + 1 → K p = zch A p (n + 1).toNat) → Q (0, n) (zset (zrow (zrow (zset (zset (zset (zset M 4 n x1) 5 n x2) 6 n x3) 2 4 (n + 1)) 10 K) 8 T) 2 10 (M 2 10 + 1))) (h0 : ¬ zgp n x1 x2 x3 → Q (0, -1) M) : Y G (d + 4) mX11_person 0 [(2, 1), (0, x1), (0, x2), (0, x3)] [] M Q := by
  have bad : ¬ zgp n x1 x2 x3 → Y G (d + 4) mX11_person 10 [(2, 1), (0, x1), (0, x2), (0, x3)] [(0, -1)] M Q := fun q => bX11_person_10 hG (h0 q)
  have good : zgp n x1 x2 x3 → Y G (d + 3) mX10_addPerson 71 [(2, 2), (0, x1), (0, x2), (0, x3), (0, 1)] [] M (fun r M' => Y G (d + 4) mX11_person 10 [(2, 1), (0, x1), (0, x2), (0, x3)] (zpush r []) M' Q) := fun q => by
    have q' := q
    obtain ⟨a, b, c, f, g⟩ := q'
    refine bX10_addPerson_71 hG ?_
    rw [hN]
    refine ⟨by omega, by omega, by omega, by omega, ?_⟩
    generalize hMc : zset (zset (zset (zset M 4 n x1) 5 n x2) 6 n x3) 2 4 (n + 1) = Mc at h1 ⊢
    have g1 : Mc 2 4 = n + 1 := by subst hMc; simp only [zset_ap, zrow_ap, Int.reduceEq, ↓reduceIte] <;> (repeat' split) <;> first | rfl | omega
    have g2 : Mc 2 10 = M 2 10 := by subst hMc; simp only [zset_ap, zrow_ap, Int.reduceEq, ↓reduceIte] <;> (repeat' split) <;> first | rfl | omega
    have g3 : ∀ c, 0 ≤ c → c < n + 1 → Mc 5 c = A (15 + 3 * c) ∧ Mc 6 c = A (16 + 3 * c) ∧ (A (15 + 3 * c) = A (16 + 3 * c) → A (15 + 3 * c) = -1) := fun c c0 c1 => by
      have w5 : Mc 5 c = if c = n then x2 else M 5 c := by subst hMc; simp only [zset_ap, zrow_ap, Int.reduceEq, ↓reduceIte] <;> (repeat' split) <;> first | rfl | omega
      have w6 : Mc 6 c = if c = n then x3 else M 6 c := by subst hMc; simp only [zset_ap, zrow_ap, Int.reduceEq, ↓reduceIte] <;> (repeat' split) <;> first | rfl | omega
      rw [w5, w6]
      by_cases e : c = n
      · subst e
        rw [if_pos rfl, if_pos rfl, f2, f3]
        exact ⟨rfl, rfl, f⟩
      · rw [if_neg e, if_neg e]
        exact hF c c0 (by omega)
    refine sw_kin (by decide) (zP_W hG) g1 (by omega) (by rw [g2]; exact hv) g3 (fun T K hT hK => ?_)
    refine bX10_addPerson_115 hG ?_
    have g4 : zset (zrow (zrow Mc 10 K) 8 T) 2 10 (Mc 2 10 + 1) 2 4 = n + 1 := by
      simp only [zset_ap, zrow_ap, Int.reduceEq, ↓reduceIte]; exact g1
    rw [g4, show n + 1 - 1 = n by omega, g2]
    exact ⟨by omega, bX11_person_10 hG (h1 q T K hT hK)⟩
  refine bX11_person_0 hG (bX10_addPerson_0 hG ?_)
  rw [hN]
  refine ⟨fun a => ⟨by omega, fun b => ⟨by omega, fun c => ⟨fun g => bad (fun q => by have := q.2.2.2.2; omega), fun g => ⟨fun f => good ⟨a, by omega, by omega, by omega, g⟩, fun f => ⟨fun f2 => good ⟨a, by omega, by omega, by omega, g⟩, fun f2 => bad (fun q => f2 (q.2.2.2.1 f))⟩⟩⟩, fun c => bX10_addPerson_42 hG (bad (fun q => c (by have := q.2.2.1; omega)))⟩, fun b => bX10_addPerson_42 hG (bad (fun q => b (by have := q.2.1; omega)))⟩, fun a => bX10_addPerson_42 hG (bad (fun q => a q.1))⟩

theorem J_person {M M2 : zM} (hJ : zJ M) (hf : zfr [(4, 0, 8), (5, 0, 8), (6, 0, 8), (2, 4, 5), (2, 10, 11), (8, 0, 1000000), (10, 0, 1000000), (235, 14, 38), (235, 1, 2)] M M2) {x1 x2 x3 : Int} (hg : zgp (M 235 1) x1 x2 x3) (e : ∀ i, (0 ≤ i ∧ i < 156 ∧ ¬ i = 1 ∧ ¬ (14 + 3 * M 235 1 ≤ i ∧ i < 17 + 3 * M 235 1)) → M2 235 i = M 235 i) (w1 : M2 235 1 = M 235 1 + 1) (w2 : M2 2 4 = M 235 1 + 1) (w3 : M2 235 (14 + 3 * M 235 1) = x1) (w4 : M2 235 (15 + 3 * M 235 1) = x2) (w5 : M2 235 (16 + 3 * M 235 1) = x3) (w6 : ∀ i, M2 4 i = if i = M 235 1 then x1 else M 4 i) (w7 : ∀ i, M2 5 i = if i = M 235 1 then x2 else M 5 i) (w8 : ∀ i, M2 6 i = if i = M 235 1 then x3 else M 6 i) (ei : ∀ i, M2 236 i = M 236 i) (j4 : zJ4 M2) (ve : M2 2 10 = M 2 10 + 1) : zJn M M2 := by
  have hV := hJ.1
  have hn := hV.2.1.1
  obtain ⟨a, b, c, f, g⟩ := hg
  have h1 : zV1 (M2 235) := by
    unfold zV1
    rw [w1]
    refine ⟨by omega, fun i i0 i1 => ?_⟩
    by_cases q : i = M 235 1
    · rw [q, w3, w4, w5]; exact ⟨a, b, c, f⟩
    · rw [e _ (by omega), e _ (by omega), e _ (by omega)]; exact hV.2.1.2 i i0 (by omega)
  have h2 : zJ2 M2 := by
    have o := hJ.2.2.2.1
    unfold zJ2
    rw [w1, w2]
    refine ⟨rfl, fun i i0 i1 => ?_⟩
    rw [w6, w7, w8]
    by_cases q : i = M 235 1
    · rw [if_pos q, if_pos q, if_pos q, q, w3, w4, w5]; exact ⟨rfl, rfl, rfl⟩
    · rw [if_neg q, if_neg q, if_neg q, e _ (by omega), e _ (by omega), e _ (by omega)]; exact o.2 i i0 (by omega)
  have h19 : zJ19 M2 := by
    obtain ⟨j1, j2, j3⟩ := hJ.2.2.2.2.2.2.2.2.2.2.2.2.2.2.2.2.2.2.1
    have := hJ.2.1.2.2.1.1
    unfold zJ19
    rw [ei 0, ei 1, ei 2, ei 6, w1, e 0 (by omega), e 2 (by omega), e 6 (by omega)]
    refine ⟨by omega, fun k h1 h2 => ?_, fun k h1 h2 => ?_⟩
    · rw [ei, e _ (by omega)]; exact j2 k h1 h2
    · rw [ei, e _ (by omega)]; exact j3 k h1 h2
  exact ⟨⟨⟨zV0_e hV.1 (e 0 (by omega)), h1, zV2_e hV.2.2.1 (e 2 (by omega)) (fun i q1 q2 => e i (by omega)), zV3_e hV.2.2.2.1 (e 3 (by omega)), zV4_e hV.2.2.2.2.1 (e 4 (by omega)), zV5_e hV.2.2.2.2.2.1 hV.2.2.1.1.2 (by rw [e 0 (by omega)]; omega) (by rw [e 2 (by omega)]; omega) (e 5 (by omega)) (fun i q1 q2 => e i (by omega)), zV6_e hV.2.2.2.2.2.2.1 (e 6 (by omega)), zV7_e hV.2.2.2.2.2.2.2.1 (by rw [e 0 (by omega)]; omega) (by rw [e 2 (by omega)]; omega) (e 7 (by omega)) (fun i q1 q2 => e i (by omega)), zV8_e hV.2.2.2.2.2.2.2.2.1 (by rw [e 0 (by omega)]; omega) (e 8 (by omega)) (fun i q1 q2 => e i (by omega)), zVt_e hV.2.2.2.2.2.2.2.2.2.1 (fun i q1 q2 => e i (by omega)), zVr_e hV.2.2.2.2.2.2.2.2.2.2 (fun i q1 q2 => e i (by omega))⟩, zsI_c (zfr_sm hf (by decide)) hJ.2.1, zJ1_c (zfr_sm hf (by decide)) hJ.2.2.1, h2, zJ3_c (zfr_sm hf (by decide)) hJ.2.2.2.2.1, j4, zJ10_c (zfr_sm hf (by decide)) hJ.2.2.2.2.2.2.1, zJ5_c (zfr_sm hf (by decide)) hJ.2.2.2.2.2.2.2.1, zJ6_c (zfr_sm hf (by decide)) hJ.2.2.2.2.2.2.2.2.1, zJ7_c (zfr_sm hf (by decide)) hJ.2.2.2.2.2.2.2.2.2.1, zJ8_c (zfr_sm hf (by decide)) hJ.1.1.2 hJ.2.2.2.2.2.2.2.2.2.2.1, zJ9_c (zfr_sm hf (by decide)) hJ.2.2.2.2.2.2.2.2.2.2.2.1, zJ11_c (zfr_sm hf (by decide)) hJ.1.2.2.1.1.2 hJ.2.2.2.2.2.2.2.2.2.2.2.2.1, zJ12_c (zfr_sm hf (by decide)) hJ.2.2.2.2.2.2.2.2.2.2.2.2.2.1, zJ13_c (zfr_sm hf (by decide)) (zA5 hJ.1) hJ.2.2.2.2.2.2.2.2.2.2.2.2.2.2.1, zJ14_c (zfr_sm hf (by decide)) (zA7 hJ.1) hJ.2.2.2.2.2.2.2.2.2.2.2.2.2.2.2.1, zJ15_c (zfr_sm hf (by decide)) (zA8 hJ.1) hJ.2.2.2.2.2.2.2.2.2.2.2.2.2.2.2.2.1, zJ18_c (zfr_sm hf (by decide)) ⟨zA5 hJ.2.1, zA7 hJ.2.1, zA8 hJ.2.1⟩ hJ.2.2.2.2.2.2.2.2.2.2.2.2.2.2.2.2.2.1, h19, zJ16_c (zfr_sm hf (by decide)) hJ.1.1.2 hJ.2.2.2.2.2.2.2.2.2.2.2.2.2.2.2.2.2.2.2.1, zJ17_c (zfr_sm hf (by decide)) hJ.2.1.1.2 hJ.2.2.2.2.2.2.2.2.2.2.2.2.2.2.2.2.2.2.2.2.1, ⟨by rw [ve, hf 176 12 (by unfold zhw zhit; decide)]; have := hJ.2.2.2.2.2.2.2.2.2.2.2.2.2.2.2.2.2.2.2.2.2.1.1; omega, Or.inr (Or.inl (by rw [ve, hf 176 12 (by unfold zhw zhit; decide)]; have := hJ.2.2.2.2.2.2.2.2.2.2.2.2.2.2.2.2.2.2.2.2.2.1.1; omega))⟩, zJS_c (zfr_sm hf (by decide)) hJ.1.1.2 hJ.2.2.2.2.2.2.2.2.2.2.2.2.2.2.2.2.2.2.2.1 hJ.2.2.2.2.2.2.2.2.2.2.2.2.2.2.2.2.2.2.2.2.2.2.1, (by rw [ve]; have := hJ.2.2.2.2.2.2.2.2.2.2.2.2.2.2.2.2.2.2.2.2.2.2.2.1; omega), zJC_c (zfr_sm hf (by decide)) hJ.2.2.2.2.2.2.2.2.2.2.2.2.2.2.2.2.2.2.2.2.2.2.2.2⟩, by rw [ve]; omega⟩

theorem pr_person (hG : zP G) (hJ : zJ M) (hv : M 2 10 ≤ 1000000) {x1 x2 x3 : Int} : zPr G d mX11_person mX12_person [(2, 1), (0, x1), (0, x2), (0, x3)] [(2, 234), (0, x1), (0, x2), (0, x3), (9, 0)] M := by
  have o := hJ.2.2.2.1
  have hv0 := hJ.2.2.2.2.2.2.2.2.2.2.2.2.2.2.2.2.2.2.2.2.2.2.2.1
  have hn := hJ.1.2.1.1
  have hV1 := hJ.1.2.1.2
  generalize hA : (zset (zset (zset (zset M 235 (14 + 3 * M 235 1) x1) 235 (14 + 3 * M 235 1 + 1) x2) 235 (14 + 3 * M 235 1 + 2) x3) 235 1 (M 235 1 + 1)) 235 = A
  have a0 : ∀ i, (¬ i = 1 ∧ ¬ (14 + 3 * M 235 1 ≤ i ∧ i < 17 + 3 * M 235 1)) → A i = M 235 i := fun i hi => by subst hA; simp only [zset_ap, zrow_ap, Int.reduceEq, ↓reduceIte] <;> (repeat' split) <;> first | rfl | omega
  refine s_cperson hG (A := A) o.1 hn ⟨by omega, by omega⟩ (fun c c0 c1 => ?_) ?_ ?_ (fun hg T K hT hK => ?_) (fun hg => ?_)
  · have := o.2 c c0 c1
    have := hV1 c c0 c1
    rw [a0 _ (by omega), a0 _ (by omega)]
    exact ⟨by omega, by omega, by omega⟩
  · subst hA; simp only [zset_ap, zrow_ap, Int.reduceEq, ↓reduceIte] <;> (repeat' split) <;> first | rfl | omega
  · subst hA; simp only [zset_ap, zrow_ap, Int.reduceEq, ↓reduceIte] <;> (repeat' split) <;> first | rfl | omega
  · have w1 : (zset (zrow (zrow (zset (zset (zset (zset M 4 (M 235 1) x1) 5 (M 235 1) x2) 6 (M 235 1) x3) 2 4 (M 235 1 + 1)) 10 K) 8 T) 2 10 (M 2 10 + 1)) 235 = M 235 := by
      funext i; simp only [zset_ap, zrow_ap, Int.reduceEq, ↓reduceIte] <;> (repeat' split) <;> first | rfl | omega
    generalize hM1 : zset (zrow (zrow (zset (zset (zset (zset M 4 (M 235 1) x1) 5 (M 235 1) x2) 6 (M 235 1) x3) 2 4 (M 235 1 + 1)) 10 K) 8 T) 2 10 (M 2 10 + 1) = M1 at w1 ⊢
    refine s_mperson hG (by rw [w1]; exact hn) (fun _ => ?_) (fun q => absurd hg (by rw [w1] at q; exact q))
    rw [w1]
    refine ⟨rfl, ?_⟩
    obtain ⟨a, b, c, f, g⟩ := id hg
    have hf0 : zfr [(4, 0, 8), (5, 0, 8), (6, 0, 8), (2, 4, 5), (2, 10, 11), (8, 0, 1000000), (10, 0, 1000000), (235, 14, 38), (235, 1, 2)] M M1 := by
      subst hM1
      exact zfr_set (zfr_row (zfr_row (zfr_set (zfr_set (zfr_set (zfr_set zfr_rfl (zhit_at 0 rfl ⟨by omega, by omega⟩)) (zhit_at 1 rfl ⟨by omega, by omega⟩)) (zhit_at 2 rfl ⟨by omega, by omega⟩)) (zhit_at 3 rfl ⟨by decide, by decide⟩)) 6 rfl) 5 rfl) (zhit_at 4 rfl ⟨by decide, by decide⟩)
    have ea : (zset (zset (zset (zset M1 235 (14 + 3 * M 235 1) x1) 235 (14 + 3 * M 235 1 + 1) x2) 235 (14 + 3 * M 235 1 + 2) x3) 235 1 (M 235 1 + 1)) 235 = A := by
      subst hA
      funext i
      simp only [zset_ap, ↓reduceIte, w1]
    have hf : zfr [(4, 0, 8), (5, 0, 8), (6, 0, 8), (2, 4, 5), (2, 10, 11), (8, 0, 1000000), (10, 0, 1000000), (235, 14, 38), (235, 1, 2)] M (zset (zset (zset (zset M1 235 (14 + 3 * M 235 1) x1) 235 (14 + 3 * M 235 1 + 1) x2) 235 (14 + 3 * M 235 1 + 2) x3) 235 1 (M 235 1 + 1)) := zfr_set (zfr_set (zfr_set (zfr_set hf0 (zhit_at 7 rfl ⟨by omega, by omega⟩)) (zhit_at 7 rfl ⟨by omega, by omega⟩)) (zhit_at 7 rfl ⟨by omega, by omega⟩)) (zhit_at 8 rfl ⟨by decide, by decide⟩)
    have off : ∀ a i, a ≠ 235 → (zset (zset (zset (zset M1 235 (14 + 3 * M 235 1) x1) 235 (14 + 3 * M 235 1 + 1) x2) 235 (14 + 3 * M 235 1 + 2) x3) 235 1 (M 235 1 + 1)) a i = M1 a i := fun a i ha => by simp only [zset_ap, if_neg ha]
    generalize zset (zset (zset (zset M1 235 (14 + 3 * M 235 1) x1) 235 (14 + 3 * M 235 1 + 1) x2) 235 (14 + 3 * M 235 1 + 2) x3) 235 1 (M 235 1 + 1) = M2 at ea hf off ⊢
    have b1 : A 1 = M 235 1 + 1 := by subst hA; simp only [zset_ap, zrow_ap, Int.reduceEq, ↓reduceIte] <;> (repeat' split) <;> first | rfl | omega
    refine J_person hJ hf hg (fun i hi => ?_) ?_ ?_ ?_ ?_ ?_ (fun i => ?_) (fun i => ?_) (fun i => ?_) (fun i => ?_) ⟨fun x y x0 xn y0 yn => ?_, fun p p0 pn => ?_⟩ ?_
    · rw [ea]; exact a0 i ⟨by omega, by omega⟩
    · rw [ea]; exact b1
    · rw [off _ _ (by decide)]; subst hM1; simp only [zset_ap, zrow_ap, Int.reduceEq, ↓reduceIte] <;> (repeat' split) <;> first | rfl | omega
    · rw [ea]; subst hA; simp only [zset_ap, zrow_ap, Int.reduceEq, ↓reduceIte] <;> (repeat' split) <;> first | rfl | omega
    · rw [ea]; subst hA; simp only [zset_ap, zrow_ap, Int.reduceEq, ↓reduceIte] <;> (repeat' split) <;> first | rfl | omega
    · rw [ea]; subst hA; simp only [zset_ap, zrow_ap, Int.reduceEq, ↓reduceIte] <;> (repeat' split) <;> first | rfl | omega
    · rw [off _ _ (by decide)]; subst hM1; simp only [zset_ap, zrow_ap, Int.reduceEq, ↓reduceIte] <;> (repeat' split) <;> first | rfl | omega
    · rw [off _ _ (by decide)]; subst hM1; simp only [zset_ap, zrow_ap, Int.reduceEq, ↓reduceIte] <;> (repeat' split) <;> first | rfl | omega
    · rw [off _ _ (by decide)]; subst hM1; simp only [zset_ap, zrow_ap, Int.reduceEq, ↓reduceIte] <;> (repeat' split) <;> first | rfl | omega
    · rw [off _ _ (by decide)]; subst hM1; simp only [zset_ap, zrow_ap, Int.reduceEq, ↓reduceIte] <;> (repeat' split) <;> first | rfl | omega
    · rw [ea, b1] at xn yn ⊢
      rw [off _ _ (by decide), show M1 8 (x * 8 + y) = T (x * 8 + y) by subst hM1; simp only [zset_ap, zrow_ap, Int.reduceEq, ↓reduceIte] <;> (repeat' split) <;> first | rfl | omega]
      exact ((hT x y x0 (by omega) y0 (by omega)).1 xn yn).1
    · rw [ea, b1] at pn ⊢
      rw [off _ _ (by decide), show M1 10 p = K p by subst hM1; simp only [zset_ap, zrow_ap, Int.reduceEq, ↓reduceIte] <;> (repeat' split) <;> first | rfl | omega]
      exact hK p p0 pn
    · rw [off _ _ (by decide)]; subst hM1; simp only [zset_ap, zrow_ap, Int.reduceEq, ↓reduceIte] <;> (repeat' split) <;> first | rfl | omega
  · exact s_mperson hG hn (fun q => absurd q hg) (fun _ => ⟨rfl, zJ_rf hJ⟩)

end PE

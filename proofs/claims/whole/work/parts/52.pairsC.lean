section PC
variable {G : zG} {d : Nat} {M : zM}
theorem pr_can (hG : zP G) (hJ : zJ M) {x1 x2 : Int} : zPr G d mX11_can mX12_can [(2, 1), (0, x1), (0, x2)] [(2, 234), (0, x1), (0, x2)] M := by
  have hU := (hJ.2.2.2.2.2.2.2.2.2.2.2.2.1).1
  have hQ := (hJ.2.2.2.2.2.2.2.2.2.2.1).1
  have hV2 := hJ.1.2.2.1.1
  have hV0 := hJ.1.1
  unfold zV0 at hV0
  have mm : ∀ v : Int, ((0 ≤ x1 ∧ x1 < M 235 2) ∧ 0 ≤ x2 ∧ x2 < M 235 0 → v = zlac M x1 x2) → (¬ ((0 ≤ x1 ∧ x1 < M 235 2) ∧ 0 ≤ x2 ∧ x2 < M 235 0) → v = -1) → ∀ r : Int, (v = 0 → r = 1) → (¬ v = 0 → r = 0) → Y G (d + 400) mX12_can 0 [(2, 234), (0, x1), (0, x2)] [] M (fun r2 M2 => r2 = (0, r) ∧ zJn M M2) := fun v v1 v2 r r1 r2 => by
    refine bX12_can_0 hG (s_mlacks hG (by omega) (fun q => ?_) (fun q => ?_))
    · refine bX12_can_6 hG ⟨fun z => ?_, fun z => ?_⟩
      · rw [zlac_eq hJ q.1 q.2, ← v1 q] at z; exact ⟨by rw [r2 z], zJ_rf hJ⟩
      · rw [zlac_eq hJ q.1 q.2, ← v1 q] at z; exact ⟨by rw [r1 z], zJ_rf hJ⟩
    · refine bX12_can_6 hG ⟨fun z => ?_, fun z => absurd z (by decide)⟩
      exact ⟨by rw [r2 (by rw [v2 q]; decide)], zJ_rf hJ⟩
  refine bX11_can_0 hG (s_lacks hG (by omega) (fun q => ?_) (fun q => ?_))
  · refine bX11_can_6 hG ⟨fun z => ?_, fun z => ?_⟩
    · exact mm _ (fun _ => rfl) (fun z2 => absurd (by omega) z2) 0 (fun z2 => absurd z2 z) (fun _ => rfl)
    · exact mm _ (fun _ => rfl) (fun z2 => absurd (by omega) z2) 1 (fun _ => rfl) (fun z2 => absurd z z2)
  · refine bX11_can_6 hG ⟨fun z => ?_, fun z => absurd z (by decide)⟩
    exact mm (-1) (fun z2 => absurd z2 (by omega)) (fun _ => rfl) 0 (fun z2 => absurd z2 (by decide)) (fun _ => rfl)

def zkw (w pp qq : Int → Int) (p : Int) : Nat → Int → Int → Int
  | 0, _, acc => acc
  | k + 1, i, acc => zkw w pp qq p k (i + 1) (if pp i = p then zor acc (w (qq i)) else acc)
theorem s_wordsHeard {Q : zV → zM → Prop} (hG : zP G) {x1 : Int} (hn : 0 ≤ M 176 2 ∧ M 176 2 ≤ 8) (hq : ∀ i, 0 ≤ i → i < M 176 2 → 0 ≤ M 178 i ∧ M 178 i < 12) : ∀ (k : Nat) (x3 x4 : Int), 0 ≤ x4 → x4 + k = M 176 2 → Q (0, zkw (M 25) (M 177) (M 178) x1 k x4 x3) M → Y G d mX0_wordsHeard 5 [(2, 176), (0, x1), (2, 19), (0, x3), (0, x4)] [] M Q
  | 0, x3, x4, h0, h1, h => bX0_wordsHeard_5 hG ⟨fun _ => h, fun q => absurd q (by omega)⟩
  | k + 1, x3, x4, h0, h1, h => by
    have hq4 := hq x4 h0 (by omega)
    refine bX0_wordsHeard_5 hG ⟨fun q => absurd q (by omega), fun q => ⟨by omega, fun r => ⟨by omega, ?_⟩, fun r => ⟨by omega, hq4, by omega, ?_⟩⟩⟩
    · refine s_wordsHeard hG hn hq k _ _ (by omega) (by omega) ?_
      unfold zkw at h; rw [if_neg r] at h; exact h
    · refine s_wordsHeard hG hn hq k _ _ (by omega) (by omega) ?_
      unfold zkw at h; rw [if_pos r] at h; exact h
theorem zkw_c {w pp qq w2 pp2 qq2 : Int → Int} {p : Int} : ∀ (k : Nat) (i acc : Int), (∀ j, i ≤ j → j < i + k → pp2 j = pp j ∧ qq2 j = qq j ∧ w2 (qq j) = w (qq j)) → zkw w2 pp2 qq2 p k i acc = zkw w pp qq p k i acc
  | 0, _, _, _ => rfl
  | k + 1, i, acc, h => by
    have h1 := h i (by omega) (by omega)
    unfold zkw
    rw [h1.1, h1.2.1, h1.2.2]
    exact zkw_c k (i + 1) _ (fun j a b => h j (by omega) (by omega))
theorem s_mknew {Q : zV → zM → Prop} (hG : zP G) {x1 : Int} (hn : 0 ≤ M 235 7 ∧ M 235 7 ≤ 8) (hq : ∀ i, 0 ≤ i → i < M 235 7 → 0 ≤ M 235 (117 + 2 * i) ∧ M 235 (117 + 2 * i) < 12) : ∀ (k : Nat) (x2 x3 : Int), 0 ≤ x3 → x3 + k = M 235 7 → Q (0, zkw (fun q => M 248 (4 * q)) (fun i => M 235 (116 + 2 * i)) (fun i => M 235 (117 + 2 * i)) x1 k x3 x2) M → Y G (d + 2) mX12_knew 14 [(2, 234), (0, x1), (0, x2), (0, x3)] [] M Q
  | 0, x2, x3, h0, h1, h => bX12_knew_14 hG ⟨fun _ => h, fun q => absurd q (by omega)⟩
  | k + 1, x2, x3, h0, h1, h => by
    have hq4 := hq x3 h0 (by omega)
    have e : 116 + 2 * x3 + 1 = 117 + 2 * x3 := by omega
    refine bX12_knew_14 hG ⟨fun q => absurd q (by omega), fun q => ⟨by omega, by omega, by omega, fun r => ⟨by omega, ?_⟩, fun r => ?_⟩⟩
    · refine s_mknew hG hn hq k _ _ (by omega) (by omega) ?_
      unfold zkw at h; rw [if_neg r] at h; exact h
    · rw [e]
      refine ⟨by omega, by omega, by omega, by omega, by omega, by omega, by omega, ?_⟩
      refine s_mknew hG hn hq k _ _ (by omega) (by omega) ?_
      unfold zkw at h; rw [if_pos r] at h; exact h
theorem pr_knew (hG : zP G) (hJ : zJ M) {x1 : Int} : zPr G d mX11_knew mX12_knew [(2, 1), (0, x1)] [(2, 234), (0, x1), (9, 0), (9, 0)] M := by
  have hU := (hJ.2.2.2.2.2.2.2.2.2.2.2.2.1).1
  have hQ := hJ.2.2.2.2.2.2.2.2.2.2.1
  have hH := hJ.2.2.2.2.2.2.2.2.2.2.2.2.2.2.2.1
  have hH1 := hH.1
  have hV2 := hJ.1.2.2.1.1
  have hV0 := hJ.1.1
  unfold zV0 at hV0
  have hV7 := hJ.1.2.2.2.2.2.2.2.1
  have hV71 := hV7.1
  refine bX11_knew_0 hG ⟨by omega, fun q => ?_, fun q => ?_⟩
  · refine bX0_wordsHeard_0 hG (s_wordsHeard hG (by omega) (fun i a b => ?_) (M 235 7).toNat 0 0 (by omega) (by omega) ?_)
    · have := hV7.2 i a (by omega)
      rw [(hH.2 i a (by omega)).2]; omega
    · refine bX11_knew_20 hG ?_
      refine bX12_knew_0 hG ⟨by omega, fun _ => ?_, fun r => absurd (by omega) r⟩
      refine s_mknew hG (by omega) (fun i a b => ?_) (M 235 7).toNat 0 0 (by omega) (by omega) ⟨?_, zJ_rf hJ⟩
      · have := hV7.2 i a b; omega
      · congr 1
        refine zkw_c _ _ _ (fun j a b => ?_)
        have h1 := hH.2 j (by omega) (by omega)
        have h2 := hV7.2 j (by omega) (by omega)
        refine ⟨h1.1.symm, h1.2.symm, ?_⟩
        have h3 := (hQ.2 (M 178 j) (by rw [h1.2]; omega) (by rw [h1.2]; omega)).1.1
        exact h3.symm
  · exact bX12_knew_0 hG ⟨by omega, fun r => absurd r (by omega), fun _ => ⟨rfl, zJ_rf hJ⟩⟩

theorem zr3 {M1 : zM} {k1 k2 k3 v1 v2 v3 : Int} {i : Int} (h3 : ¬ i = k3) (h2 : ¬ i = k2) (h1 : ¬ i = k1) : zset (zset (zset M1 235 k1 v1) 235 k2 v2) 235 k3 v3 235 i = M1 235 i := (zr_set h3).trans ((zr_set h2).trans (zr_set h1))
theorem zr3o {M1 : zM} {k1 k2 k3 v1 v2 v3 : Int} {a : Int} (i : Int) (h : a ≠ 235) : zset (zset (zset M1 235 k1 v1) 235 k2 v2) 235 k3 v3 a i = M1 a i := (zr_off i h).trans ((zr_off i h).trans (zr_off i h))

theorem J_tell (hJ : zJ M) {x1 x2 : Int} (qn : 0 ≤ M 235 8 ∧ M 235 8 < 12) (q1 : 0 ≤ x1 ∧ x1 < M 235 0) (q2 : -1000000 ≤ x2 ∧ x2 ≤ 1000000) : zJn M (zset (zset (zset (zset (zset (zset M 180 (M 235 8) x1) 181 (M 235 8) x2) 176 7 ((M 235 8) + 1)) 235 (132 + 2 * (M 235 8)) x1) 235 (132 + 2 * (M 235 8) + 1) x2) 235 8 ((M 235 8) + 1)) := by
  have hf : zfr [(180, 0, 12), (181, 0, 12), (176, 7, 8), (235, 132, 156), (235, 8, 9)] M (zset (zset (zset (zset (zset (zset M 180 (M 235 8) x1) 181 (M 235 8) x2) 176 7 ((M 235 8) + 1)) 235 (132 + 2 * (M 235 8)) x1) 235 (132 + 2 * (M 235 8) + 1) x2) 235 8 ((M 235 8) + 1)) := zfr_set (zfr_set (zfr_set (zfr_set (zfr_set (zfr_set zfr_rfl (zhit_at 0 rfl ⟨by omega, by omega⟩)) (zhit_at 1 rfl ⟨by omega, by omega⟩)) (zhit_at 2 rfl ⟨by decide, by decide⟩)) (zhit_at 3 rfl ⟨by omega, by omega⟩)) (zhit_at 3 rfl ⟨by omega, by omega⟩)) (zhit_at 4 rfl ⟨by decide, by decide⟩)
  have hV := hJ.1
  have o := hJ.2.2.2.2.2.2.2.2.2.2.2.2.2.2.2.2.1
  have e0 : ∀ i, (zset (zset (zset M 180 (M 235 8) x1) 181 (M 235 8) x2) 176 7 ((M 235 8) + 1)) 235 i = M 235 i := fun i => (zr_off i (by decide)).trans ((zr_off i (by decide)).trans (zr_off i (by decide)))
  have e : ∀ i, (¬ i = 8 ∧ ¬ i = 132 + 2 * M 235 8 ∧ ¬ i = 132 + 2 * M 235 8 + 1) → (zset (zset (zset (zset (zset (zset M 180 (M 235 8) x1) 181 (M 235 8) x2) 176 7 ((M 235 8) + 1)) 235 (132 + 2 * (M 235 8)) x1) 235 (132 + 2 * (M 235 8) + 1) x2) 235 8 ((M 235 8) + 1)) 235 i = M 235 i := fun i h => (zr3 h.1 h.2.2 h.2.1).trans (e0 i)
  have es : (zset (zset (zset (zset (zset (zset M 180 (M 235 8) x1) 181 (M 235 8) x2) 176 7 ((M 235 8) + 1)) 235 (132 + 2 * (M 235 8)) x1) 235 (132 + 2 * (M 235 8) + 1) x2) 235 8 ((M 235 8) + 1)) 235 8 = M 235 8 + 1 := zset_same
  have es1 : (zset (zset (zset (zset (zset (zset M 180 (M 235 8) x1) 181 (M 235 8) x2) 176 7 ((M 235 8) + 1)) 235 (132 + 2 * (M 235 8)) x1) 235 (132 + 2 * (M 235 8) + 1) x2) 235 8 ((M 235 8) + 1)) 235 (132 + 2 * M 235 8) = x1 := (zr_set (by omega)).trans ((zr_set (by omega)).trans zset_same)
  have es2 : (zset (zset (zset (zset (zset (zset M 180 (M 235 8) x1) 181 (M 235 8) x2) 176 7 ((M 235 8) + 1)) 235 (132 + 2 * (M 235 8)) x1) 235 (132 + 2 * (M 235 8) + 1) x2) 235 8 ((M 235 8) + 1)) 235 (132 + 2 * M 235 8 + 1) = x2 := (zr_set (by omega)).trans zset_same
  have h8 : zV8 ((zset (zset (zset (zset (zset (zset M 180 (M 235 8) x1) 181 (M 235 8) x2) 176 7 ((M 235 8) + 1)) 235 (132 + 2 * (M 235 8)) x1) 235 (132 + 2 * (M 235 8) + 1) x2) 235 8 ((M 235 8) + 1)) 235) := by
    obtain ⟨g1, g2⟩ := hV.2.2.2.2.2.2.2.2.1
    unfold zV8
    rw [es, e 0 (by omega)]
    refine ⟨by omega, fun i h1 h2 => ?_⟩
    by_cases h : i = M 235 8
    · rw [h, es1, show 133 + 2 * M 235 8 = 132 + 2 * M 235 8 + 1 by omega, es2]; exact ⟨q1, q2⟩
    · rw [e _ (by omega), e _ (by omega)]; exact g2 i h1 (by omega)
  have h15 : zJ15 (zset (zset (zset (zset (zset (zset M 180 (M 235 8) x1) 181 (M 235 8) x2) 176 7 ((M 235 8) + 1)) 235 (132 + 2 * (M 235 8)) x1) 235 (132 + 2 * (M 235 8) + 1) x2) 235 8 ((M 235 8) + 1)) := by
    unfold zJ15
    rw [es, zr3o 7 (by decide), zset_same]
    refine ⟨rfl, fun i h1 h2 => ?_⟩
    have c1 : (zset (zset (zset (zset (zset (zset M 180 (M 235 8) x1) 181 (M 235 8) x2) 176 7 ((M 235 8) + 1)) 235 (132 + 2 * (M 235 8)) x1) 235 (132 + 2 * (M 235 8) + 1) x2) 235 8 ((M 235 8) + 1)) 180 i = zset M 180 (M 235 8) x1 180 i := (zr3o i (by decide)).trans ((zr_off i (by decide)).trans (zr_off i (by decide)))
    have c2 : (zset (zset (zset (zset (zset (zset M 180 (M 235 8) x1) 181 (M 235 8) x2) 176 7 ((M 235 8) + 1)) 235 (132 + 2 * (M 235 8)) x1) 235 (132 + 2 * (M 235 8) + 1) x2) 235 8 ((M 235 8) + 1)) 181 i = zset (zset M 180 (M 235 8) x1) 181 (M 235 8) x2 181 i := (zr3o i (by decide)).trans (zr_off i (by decide))
    rw [c1, c2]
    by_cases h : i = M 235 8
    · rw [h, es1, show 133 + 2 * M 235 8 = 132 + 2 * M 235 8 + 1 by omega, es2]; exact ⟨zset_same, zset_same⟩
    · rw [e _ (by omega), e _ (by omega), zr_set h, zr_set h, zr_off i (by decide)]; exact o.2 i h1 (by omega)
  exact ⟨⟨⟨zV0_e hV.1 (e 0 (by omega)), zV1_e hV.2.1 (e 1 (by omega)) (fun i q1 q2 => e i (by omega)), zV2_e hV.2.2.1 (e 2 (by omega)) (fun i q1 q2 => e i (by omega)), zV3_e hV.2.2.2.1 (e 3 (by omega)), zV4_e hV.2.2.2.2.1 (e 4 (by omega)), zV5_e hV.2.2.2.2.2.1 hV.2.2.1.1.2 (by rw [e 0 (by omega)]; omega) (by rw [e 2 (by omega)]; omega) (e 5 (by omega)) (fun i q1 q2 => e i (by omega)), zV6_e hV.2.2.2.2.2.2.1 (e 6 (by omega)), zV7_e hV.2.2.2.2.2.2.2.1 (by rw [e 0 (by omega)]; omega) (by rw [e 2 (by omega)]; omega) (e 7 (by omega)) (fun i q1 q2 => e i (by omega)), h8, zVt_e hV.2.2.2.2.2.2.2.2.2.1 (fun i q1 q2 => e i (by omega)), zVr_e hV.2.2.2.2.2.2.2.2.2.2 (fun i q1 q2 => e i (by omega))⟩, zsI_c (zfr_sm hf (by decide)) hJ.2.1, zJ1_c (zfr_sm hf (by decide)) hJ.2.2.1, zJ2_c (zfr_sm hf (by decide)) hJ.1.2.1.1.2 hJ.2.2.2.1, zJ3_c (zfr_sm hf (by decide)) hJ.2.2.2.2.1, zJ4_c (zfr_sm hf (by decide)) hJ.1.2.1.1.2 hJ.2.2.2.2.2.1, zJ10_c (zfr_sm hf (by decide)) hJ.2.2.2.2.2.2.1, zJ5_c (zfr_sm hf (by decide)) hJ.2.2.2.2.2.2.2.1, zJ6_c (zfr_sm hf (by decide)) hJ.2.2.2.2.2.2.2.2.1, zJ7_c (zfr_sm hf (by decide)) hJ.2.2.2.2.2.2.2.2.2.1, zJ8_c (zfr_sm hf (by decide)) hJ.1.1.2 hJ.2.2.2.2.2.2.2.2.2.2.1, zJ9_c (zfr_sm hf (by decide)) hJ.2.2.2.2.2.2.2.2.2.2.2.1, zJ11_c (zfr_sm hf (by decide)) hJ.1.2.2.1.1.2 hJ.2.2.2.2.2.2.2.2.2.2.2.2.1, zJ12_c (zfr_sm hf (by decide)) hJ.2.2.2.2.2.2.2.2.2.2.2.2.2.1, zJ13_c (zfr_sm hf (by decide)) (zA5 hJ.1) hJ.2.2.2.2.2.2.2.2.2.2.2.2.2.2.1, zJ14_c (zfr_sm hf (by decide)) (zA7 hJ.1) hJ.2.2.2.2.2.2.2.2.2.2.2.2.2.2.2.1, h15, zJ18_c (zfr_sm hf (by decide)) ⟨zA5 hJ.2.1, zA7 hJ.2.1, zA8 hJ.2.1⟩ hJ.2.2.2.2.2.2.2.2.2.2.2.2.2.2.2.2.2.1, zJ19_c (zfr_sm hf (by decide)) ⟨hJ.2.1.2.1.1.2, hJ.2.1.2.2.1.1.2⟩ hJ.2.2.2.2.2.2.2.2.2.2.2.2.2.2.2.2.2.2.1, zJ16_c (zfr_sm hf (by decide)) hJ.1.1.2 hJ.2.2.2.2.2.2.2.2.2.2.2.2.2.2.2.2.2.2.2.1, zJ17_c (zfr_sm hf (by decide)) hJ.2.1.1.2 hJ.2.2.2.2.2.2.2.2.2.2.2.2.2.2.2.2.2.2.2.2.1, zJF_c (zfr_sm hf (by decide)) hJ.1 hJ.2.2.2.2.2.2.2.2.2.2.2.2.2.2.2.2.2.2.2.1 hJ.2.2.2.2.2.2.2.2.2.2.2.2.2.2.2.2.2.2.2.2.2.1, zJS_c (zfr_sm hf (by decide)) hJ.1.1.2 hJ.2.2.2.2.2.2.2.2.2.2.2.2.2.2.2.2.2.2.2.1 hJ.2.2.2.2.2.2.2.2.2.2.2.2.2.2.2.2.2.2.2.2.2.2.1, (by rw [hf 2 10 (by unfold zhw zhit; decide)]; exact hJ.2.2.2.2.2.2.2.2.2.2.2.2.2.2.2.2.2.2.2.2.2.2.2.1), zJC_c (zfr_sm hf (by decide)) hJ.2.2.2.2.2.2.2.2.2.2.2.2.2.2.2.2.2.2.2.2.2.2.2.2⟩, by rw [hf 2 10 (by unfold zhw zhit; decide)]; omega⟩

theorem J_tell0 (hJ : zJ M) : zJn M (zset (zset M 176 7 0) 235 8 0) := by
  have hf : zfr [(176, 7, 8), (235, 8, 9)] M (zset (zset M 176 7 0) 235 8 0) := zfr_set (zfr_set zfr_rfl (zhit_at 0 rfl ⟨by decide, by decide⟩)) (zhit_at 1 rfl ⟨by decide, by decide⟩)
  have hV := hJ.1
  have e : ∀ i, ¬ i = 8 → (zset (zset M 176 7 0) 235 8 0) 235 i = M 235 i := fun i h => (zr_set h).trans (zr_off i (by decide))
  have es : (zset (zset M 176 7 0) 235 8 0) 235 8 = 0 := zset_same
  have h8 : zV8 ((zset (zset M 176 7 0) 235 8 0) 235) := by
    unfold zV8
    rw [es]
    exact ⟨by omega, fun i h1 h2 => absurd h2 (by omega)⟩
  have h15 : zJ15 (zset (zset M 176 7 0) 235 8 0) := by
    unfold zJ15
    rw [es, zr_off 7 (by decide), zset_same]
    exact ⟨rfl, fun i h1 h2 => absurd h2 (by omega)⟩
  exact ⟨⟨⟨zV0_e hV.1 (e 0 (by omega)), zV1_e hV.2.1 (e 1 (by omega)) (fun i q1 q2 => e i (by omega)), zV2_e hV.2.2.1 (e 2 (by omega)) (fun i q1 q2 => e i (by omega)), zV3_e hV.2.2.2.1 (e 3 (by omega)), zV4_e hV.2.2.2.2.1 (e 4 (by omega)), zV5_e hV.2.2.2.2.2.1 hV.2.2.1.1.2 (by rw [e 0 (by omega)]; omega) (by rw [e 2 (by omega)]; omega) (e 5 (by omega)) (fun i q1 q2 => e i (by omega)), zV6_e hV.2.2.2.2.2.2.1 (e 6 (by omega)), zV7_e hV.2.2.2.2.2.2.2.1 (by rw [e 0 (by omega)]; omega) (by rw [e 2 (by omega)]; omega) (e 7 (by omega)) (fun i q1 q2 => e i (by omega)), h8, zVt_e hV.2.2.2.2.2.2.2.2.2.1 (fun i q1 q2 => e i (by omega)), zVr_e hV.2.2.2.2.2.2.2.2.2.2 (fun i q1 q2 => e i (by omega))⟩, zsI_c (zfr_sm hf (by decide)) hJ.2.1, zJ1_c (zfr_sm hf (by decide)) hJ.2.2.1, zJ2_c (zfr_sm hf (by decide)) hJ.1.2.1.1.2 hJ.2.2.2.1, zJ3_c (zfr_sm hf (by decide)) hJ.2.2.2.2.1, zJ4_c (zfr_sm hf (by decide)) hJ.1.2.1.1.2 hJ.2.2.2.2.2.1, zJ10_c (zfr_sm hf (by decide)) hJ.2.2.2.2.2.2.1, zJ5_c (zfr_sm hf (by decide)) hJ.2.2.2.2.2.2.2.1, zJ6_c (zfr_sm hf (by decide)) hJ.2.2.2.2.2.2.2.2.1, zJ7_c (zfr_sm hf (by decide)) hJ.2.2.2.2.2.2.2.2.2.1, zJ8_c (zfr_sm hf (by decide)) hJ.1.1.2 hJ.2.2.2.2.2.2.2.2.2.2.1, zJ9_c (zfr_sm hf (by decide)) hJ.2.2.2.2.2.2.2.2.2.2.2.1, zJ11_c (zfr_sm hf (by decide)) hJ.1.2.2.1.1.2 hJ.2.2.2.2.2.2.2.2.2.2.2.2.1, zJ12_c (zfr_sm hf (by decide)) hJ.2.2.2.2.2.2.2.2.2.2.2.2.2.1, zJ13_c (zfr_sm hf (by decide)) (zA5 hJ.1) hJ.2.2.2.2.2.2.2.2.2.2.2.2.2.2.1, zJ14_c (zfr_sm hf (by decide)) (zA7 hJ.1) hJ.2.2.2.2.2.2.2.2.2.2.2.2.2.2.2.1, h15, zJ18_c (zfr_sm hf (by decide)) ⟨zA5 hJ.2.1, zA7 hJ.2.1, zA8 hJ.2.1⟩ hJ.2.2.2.2.2.2.2.2.2.2.2.2.2.2.2.2.2.1, zJ19_c (zfr_sm hf (by decide)) ⟨hJ.2.1.2.1.1.2, hJ.2.1.2.2.1.1.2⟩ hJ.2.2.2.2.2.2.2.2.2.2.2.2.2.2.2.2.2.2.1, zJ16_c (zfr_sm hf (by decide)) hJ.1.1.2 hJ.2.2.2.2.2.2.2.2.2.2.2.2.2.2.2.2.2.2.2.1, zJ17_c (zfr_sm hf (by decide)) hJ.2.1.1.2 hJ.2.2.2.2.2.2.2.2.2.2.2.2.2.2.2.2.2.2.2.2.1, zJF_c (zfr_sm hf (by decide)) hJ.1 hJ.2.2.2.2.2.2.2.2.2.2.2.2.2.2.2.2.2.2.2.1 hJ.2.2.2.2.2.2.2.2.2.2.2.2.2.2.2.2.2.2.2.2.2.1, zJS_c (zfr_sm hf (by decide)) hJ.1.1.2 hJ.2.2.2.2.2.2.2.2.2.2.2.2.2.2.2.2.2.2.2.1 hJ.2.2.2.2.2.2.2.2.2.2.2.2.2.2.2.2.2.2.2.2.2.2.1, (by rw [hf 2 10 (by unfold zhw zhit; decide)]; exact hJ.2.2.2.2.2.2.2.2.2.2.2.2.2.2.2.2.2.2.2.2.2.2.2.1), zJC_c (zfr_sm hf (by decide)) hJ.2.2.2.2.2.2.2.2.2.2.2.2.2.2.2.2.2.2.2.2.2.2.2.2⟩, by rw [hf 2 10 (by unfold zhw zhit; decide)]; omega⟩

theorem pr_tell (hG : zP G) (hJ : zJ M) {x1 x2 : Int} : zPr G d mX11_tell mX12_tell [(2, 1), (0, x1), (0, x2), (9, 0)] [(2, 234), (0, x1), (0, x2)] M := by
  have hQ := (hJ.2.2.2.2.2.2.2.2.2.2.1).1
  have hO := (hJ.2.2.2.2.2.2.2.2.2.2.2.2.2.2.2.2.1).1
  have hV0 := hJ.1.1
  unfold zV0 at hV0
  have hV8 := hJ.1.2.2.2.2.2.2.2.2.1.1
  refine bX11_tell_0 hG ⟨fun a => ⟨by omega, fun b => ⟨fun c => ?_, fun c => ?_⟩, fun b => ?_⟩, fun a => ?_⟩
  · rw [← hQ] at hV0
    refine bX0_addTold_0 hG ⟨fun f => ⟨by omega, by omega, by omega, ?_⟩, fun f => ?_⟩
    · refine bX11_tell_53 hG ?_
      rw [hO] at f ⊢
      generalize hM1 : zset (zset (zset M 180 (M 235 8) x1) 181 (M 235 8) x2) 176 7 ((M 235 8) + 1) = M1
      have e : ∀ k, M1 235 k = M 235 k := fun k => by rw [← hM1]; exact (zr_off k (by decide)).trans ((zr_off k (by decide)).trans (zr_off k (by decide)))
      have e0 := e 0
      have e8 := e 8
      refine bX12_tell_0 hG ⟨fun _ => ⟨by omega, fun _ => ⟨fun _ => ⟨fun _ => ⟨by omega, by omega, by omega, by omega, by omega, by omega, by omega, by omega, by omega, by omega, by omega, ?_⟩, fun z => absurd z (by omega)⟩, fun z => absurd c z⟩, fun z => absurd (by omega) z⟩, fun z => absurd z a⟩
      rw [e8]
      subst hM1
      exact ⟨rfl, J_tell hJ (by omega) (by omega) c⟩
    · refine bX11_tell_53 hG ?_
      exact bX12_tell_0 hG ⟨fun _ => ⟨by omega, fun _ => ⟨fun _ => ⟨fun z => absurd (show M 235 8 = 12 by omega) z, fun z => ⟨rfl, zJ_rf hJ⟩⟩, fun z => absurd c z⟩, fun z => absurd (by omega) z⟩, fun z => absurd z a⟩
  · exact bX12_tell_0 hG ⟨fun _ => ⟨by omega, fun _ => ⟨fun z => absurd z c, fun _ => ⟨rfl, zJ_rf hJ⟩⟩, fun z => absurd (by omega) z⟩, fun z => absurd z a⟩
  · exact bX12_tell_0 hG ⟨fun _ => ⟨by omega, fun z => absurd z (by omega), fun _ => ⟨rfl, zJ_rf hJ⟩⟩, fun z => absurd z a⟩
  · exact bX12_tell_0 hG ⟨fun z => absurd a z, fun _ => ⟨rfl, J_tell0 hJ⟩⟩

theorem J_hear (hJ : zJ M) {x1 x2 : Int} (qn : 0 ≤ M 235 7 ∧ M 235 7 < 8) (q1 : 0 ≤ x1 ∧ x1 < M 235 2) (q2 : 0 ≤ x2 ∧ x2 < M 235 0) : zJn M (zset (zset (zset (zset (zset (zset (zset M 177 (M 235 7) x1) 178 (M 235 7) x2) 176 2 ((M 235 7) + 1)) 176 11 0) 235 (116 + 2 * (M 235 7)) x1) 235 (116 + 2 * (M 235 7) + 1) x2) 235 7 ((M 235 7) + 1)) := by
  have hf : zfr [(177, 0, 8), (178, 0, 8), (176, 2, 3), (235, 116, 132), (235, 7, 8), (176, 11, 12)] M (zset (zset (zset (zset (zset (zset (zset M 177 (M 235 7) x1) 178 (M 235 7) x2) 176 2 ((M 235 7) + 1)) 176 11 0) 235 (116 + 2 * (M 235 7)) x1) 235 (116 + 2 * (M 235 7) + 1) x2) 235 7 ((M 235 7) + 1)) := zfr_set (zfr_set (zfr_set (zfr_set (zfr_set (zfr_set (zfr_set zfr_rfl (zhit_at 0 rfl ⟨by omega, by omega⟩)) (zhit_at 1 rfl ⟨by omega, by omega⟩)) (zhit_at 2 rfl ⟨by decide, by decide⟩)) (zhit_at 5 rfl ⟨by decide, by decide⟩)) (zhit_at 3 rfl ⟨by omega, by omega⟩)) (zhit_at 3 rfl ⟨by omega, by omega⟩)) (zhit_at 4 rfl ⟨by decide, by decide⟩)
  have hV := hJ.1
  have o := hJ.2.2.2.2.2.2.2.2.2.2.2.2.2.2.2.1
  have e0 : ∀ i, (zset (zset (zset (zset M 177 (M 235 7) x1) 178 (M 235 7) x2) 176 2 ((M 235 7) + 1)) 176 11 0) 235 i = M 235 i := fun i => (zr_off i (by decide)).trans ((zr_off i (by decide)).trans ((zr_off i (by decide)).trans (zr_off i (by decide))))
  have e : ∀ i, (¬ i = 7 ∧ ¬ i = 116 + 2 * M 235 7 ∧ ¬ i = 116 + 2 * M 235 7 + 1) → (zset (zset (zset (zset (zset (zset (zset M 177 (M 235 7) x1) 178 (M 235 7) x2) 176 2 ((M 235 7) + 1)) 176 11 0) 235 (116 + 2 * (M 235 7)) x1) 235 (116 + 2 * (M 235 7) + 1) x2) 235 7 ((M 235 7) + 1)) 235 i = M 235 i := fun i h => (zr3 h.1 h.2.2 h.2.1).trans (e0 i)
  have es : (zset (zset (zset (zset (zset (zset (zset M 177 (M 235 7) x1) 178 (M 235 7) x2) 176 2 ((M 235 7) + 1)) 176 11 0) 235 (116 + 2 * (M 235 7)) x1) 235 (116 + 2 * (M 235 7) + 1) x2) 235 7 ((M 235 7) + 1)) 235 7 = M 235 7 + 1 := zset_same
  have es1 : (zset (zset (zset (zset (zset (zset (zset M 177 (M 235 7) x1) 178 (M 235 7) x2) 176 2 ((M 235 7) + 1)) 176 11 0) 235 (116 + 2 * (M 235 7)) x1) 235 (116 + 2 * (M 235 7) + 1) x2) 235 7 ((M 235 7) + 1)) 235 (116 + 2 * M 235 7) = x1 := (zr_set (by omega)).trans ((zr_set (by omega)).trans zset_same)
  have es2 : (zset (zset (zset (zset (zset (zset (zset M 177 (M 235 7) x1) 178 (M 235 7) x2) 176 2 ((M 235 7) + 1)) 176 11 0) 235 (116 + 2 * (M 235 7)) x1) 235 (116 + 2 * (M 235 7) + 1) x2) 235 7 ((M 235 7) + 1)) 235 (116 + 2 * M 235 7 + 1) = x2 := (zr_set (by omega)).trans zset_same
  have h7 : zV7 ((zset (zset (zset (zset (zset (zset (zset M 177 (M 235 7) x1) 178 (M 235 7) x2) 176 2 ((M 235 7) + 1)) 176 11 0) 235 (116 + 2 * (M 235 7)) x1) 235 (116 + 2 * (M 235 7) + 1) x2) 235 7 ((M 235 7) + 1)) 235) := by
    obtain ⟨g1, g2⟩ := hV.2.2.2.2.2.2.2.1
    unfold zV7
    rw [es, e 0 (by omega), e 2 (by omega)]
    refine ⟨by omega, fun i h1 h2 => ?_⟩
    by_cases h : i = M 235 7
    · rw [h, es1, show 117 + 2 * M 235 7 = 116 + 2 * M 235 7 + 1 by omega, es2]; exact ⟨q1, q2⟩
    · rw [e _ (by omega), e _ (by omega)]; exact g2 i h1 (by omega)
  have h14 : zJ14 (zset (zset (zset (zset (zset (zset (zset M 177 (M 235 7) x1) 178 (M 235 7) x2) 176 2 ((M 235 7) + 1)) 176 11 0) 235 (116 + 2 * (M 235 7)) x1) 235 (116 + 2 * (M 235 7) + 1) x2) 235 7 ((M 235 7) + 1)) := by
    unfold zJ14
    rw [es, zr3o 2 (by decide), zr_set (by decide), zset_same]
    refine ⟨rfl, fun i h1 h2 => ?_⟩
    have c1 : (zset (zset (zset (zset (zset (zset (zset M 177 (M 235 7) x1) 178 (M 235 7) x2) 176 2 ((M 235 7) + 1)) 176 11 0) 235 (116 + 2 * (M 235 7)) x1) 235 (116 + 2 * (M 235 7) + 1) x2) 235 7 ((M 235 7) + 1)) 177 i = zset M 177 (M 235 7) x1 177 i := (zr3o i (by decide)).trans ((zr_off i (by decide)).trans ((zr_off i (by decide)).trans (zr_off i (by decide))))
    have c2 : (zset (zset (zset (zset (zset (zset (zset M 177 (M 235 7) x1) 178 (M 235 7) x2) 176 2 ((M 235 7) + 1)) 176 11 0) 235 (116 + 2 * (M 235 7)) x1) 235 (116 + 2 * (M 235 7) + 1) x2) 235 7 ((M 235 7) + 1)) 178 i = zset (zset M 177 (M 235 7) x1) 178 (M 235 7) x2 178 i := (zr3o i (by decide)).trans ((zr_off i (by decide)).trans (zr_off i (by decide)))
    rw [c1, c2]
    by_cases h : i = M 235 7
    · rw [h, es1, show 117 + 2 * M 235 7 = 116 + 2 * M 235 7 + 1 by omega, es2]; exact ⟨zset_same, zset_same⟩
    · rw [e _ (by omega), e _ (by omega), zr_set h, zr_set h, zr_off i (by decide)]; exact o.2 i h1 (by omega)
  exact ⟨⟨⟨zV0_e hV.1 (e 0 (by omega)), zV1_e hV.2.1 (e 1 (by omega)) (fun i q1 q2 => e i (by omega)), zV2_e hV.2.2.1 (e 2 (by omega)) (fun i q1 q2 => e i (by omega)), zV3_e hV.2.2.2.1 (e 3 (by omega)), zV4_e hV.2.2.2.2.1 (e 4 (by omega)), zV5_e hV.2.2.2.2.2.1 hV.2.2.1.1.2 (by rw [e 0 (by omega)]; omega) (by rw [e 2 (by omega)]; omega) (e 5 (by omega)) (fun i q1 q2 => e i (by omega)), zV6_e hV.2.2.2.2.2.2.1 (e 6 (by omega)), h7, zV8_e hV.2.2.2.2.2.2.2.2.1 (by rw [e 0 (by omega)]; omega) (e 8 (by omega)) (fun i q1 q2 => e i (by omega)), zVt_e hV.2.2.2.2.2.2.2.2.2.1 (fun i q1 q2 => e i (by omega)), zVr_e hV.2.2.2.2.2.2.2.2.2.2 (fun i q1 q2 => e i (by omega))⟩, zsI_c (zfr_sm hf (by decide)) hJ.2.1, zJ1_c (zfr_sm hf (by decide)) hJ.2.2.1, zJ2_c (zfr_sm hf (by decide)) hJ.1.2.1.1.2 hJ.2.2.2.1, zJ3_c (zfr_sm hf (by decide)) hJ.2.2.2.2.1, zJ4_c (zfr_sm hf (by decide)) hJ.1.2.1.1.2 hJ.2.2.2.2.2.1, zJ10_c (zfr_sm hf (by decide)) hJ.2.2.2.2.2.2.1, zJ5_c (zfr_sm hf (by decide)) hJ.2.2.2.2.2.2.2.1, zJ6_c (zfr_sm hf (by decide)) hJ.2.2.2.2.2.2.2.2.1, zJ7_c (zfr_sm hf (by decide)) hJ.2.2.2.2.2.2.2.2.2.1, zJ8_c (zfr_sm hf (by decide)) hJ.1.1.2 hJ.2.2.2.2.2.2.2.2.2.2.1, zJ9_c (zfr_sm hf (by decide)) hJ.2.2.2.2.2.2.2.2.2.2.2.1, zJ11_c (zfr_sm hf (by decide)) hJ.1.2.2.1.1.2 hJ.2.2.2.2.2.2.2.2.2.2.2.2.1, zJ12_c (zfr_sm hf (by decide)) hJ.2.2.2.2.2.2.2.2.2.2.2.2.2.1, zJ13_c (zfr_sm hf (by decide)) (zA5 hJ.1) hJ.2.2.2.2.2.2.2.2.2.2.2.2.2.2.1, h14, zJ15_c (zfr_sm hf (by decide)) (zA8 hJ.1) hJ.2.2.2.2.2.2.2.2.2.2.2.2.2.2.2.2.1, zJ18_c (zfr_sm hf (by decide)) ⟨zA5 hJ.2.1, zA7 hJ.2.1, zA8 hJ.2.1⟩ hJ.2.2.2.2.2.2.2.2.2.2.2.2.2.2.2.2.2.1, zJ19_c (zfr_sm hf (by decide)) ⟨hJ.2.1.2.1.1.2, hJ.2.1.2.2.1.1.2⟩ hJ.2.2.2.2.2.2.2.2.2.2.2.2.2.2.2.2.2.2.1, zJ16_c (zfr_sm hf (by decide)) hJ.1.1.2 hJ.2.2.2.2.2.2.2.2.2.2.2.2.2.2.2.2.2.2.2.1, zJ17_c (zfr_sm hf (by decide)) hJ.2.1.1.2 hJ.2.2.2.2.2.2.2.2.2.2.2.2.2.2.2.2.2.2.2.2.1, ⟨by rw [hf 176 12 (by unfold zhw zhit; decide), hf 2 10 (by unfold zhw zhit; decide)]; exact hJ.2.2.2.2.2.2.2.2.2.2.2.2.2.2.2.2.2.2.2.2.2.1.1, Or.inl (by simp only [zset_ap, Int.reduceEq, ↓reduceIte])⟩, zJS_c (zfr_sm hf (by decide)) hJ.1.1.2 hJ.2.2.2.2.2.2.2.2.2.2.2.2.2.2.2.2.2.2.2.1 hJ.2.2.2.2.2.2.2.2.2.2.2.2.2.2.2.2.2.2.2.2.2.2.1, (by rw [hf 2 10 (by unfold zhw zhit; decide)]; exact hJ.2.2.2.2.2.2.2.2.2.2.2.2.2.2.2.2.2.2.2.2.2.2.2.1), zJC_c (zfr_sm hf (by decide)) hJ.2.2.2.2.2.2.2.2.2.2.2.2.2.2.2.2.2.2.2.2.2.2.2.2⟩, by rw [hf 2 10 (by unfold zhw zhit; decide)]; omega⟩

theorem J_hear0 (hJ : zJ M) : zJn M (zset (zset (zset M 176 2 0) 176 11 0) 235 7 0) := by
  have hf : zfr [(176, 2, 3), (176, 11, 12), (235, 7, 8)] M (zset (zset (zset M 176 2 0) 176 11 0) 235 7 0) := zfr_set (zfr_set (zfr_set zfr_rfl (zhit_at 0 rfl ⟨by decide, by decide⟩)) (zhit_at 1 rfl ⟨by decide, by decide⟩)) (zhit_at 2 rfl ⟨by decide, by decide⟩)
  have hV := hJ.1
  have e : ∀ i, ¬ i = 7 → (zset (zset (zset M 176 2 0) 176 11 0) 235 7 0) 235 i = M 235 i := fun i h => (zr_set h).trans ((zr_off i (by decide)).trans (zr_off i (by decide)))
  have es : (zset (zset (zset M 176 2 0) 176 11 0) 235 7 0) 235 7 = 0 := zset_same
  have h7 : zV7 ((zset (zset (zset M 176 2 0) 176 11 0) 235 7 0) 235) := by
    unfold zV7
    rw [es]
    exact ⟨by omega, fun i h1 h2 => absurd h2 (by omega)⟩
  have h14 : zJ14 (zset (zset (zset M 176 2 0) 176 11 0) 235 7 0) := by
    unfold zJ14
    rw [es, zr_off 2 (by decide), zr_set (by decide), zset_same]
    exact ⟨rfl, fun i h1 h2 => absurd h2 (by omega)⟩
  exact ⟨⟨⟨zV0_e hV.1 (e 0 (by omega)), zV1_e hV.2.1 (e 1 (by omega)) (fun i q1 q2 => e i (by omega)), zV2_e hV.2.2.1 (e 2 (by omega)) (fun i q1 q2 => e i (by omega)), zV3_e hV.2.2.2.1 (e 3 (by omega)), zV4_e hV.2.2.2.2.1 (e 4 (by omega)), zV5_e hV.2.2.2.2.2.1 hV.2.2.1.1.2 (by rw [e 0 (by omega)]; omega) (by rw [e 2 (by omega)]; omega) (e 5 (by omega)) (fun i q1 q2 => e i (by omega)), zV6_e hV.2.2.2.2.2.2.1 (e 6 (by omega)), h7, zV8_e hV.2.2.2.2.2.2.2.2.1 (by rw [e 0 (by omega)]; omega) (e 8 (by omega)) (fun i q1 q2 => e i (by omega)), zVt_e hV.2.2.2.2.2.2.2.2.2.1 (fun i q1 q2 => e i (by omega)), zVr_e hV.2.2.2.2.2.2.2.2.2.2 (fun i q1 q2 => e i (by omega))⟩, zsI_c (zfr_sm hf (by decide)) hJ.2.1, zJ1_c (zfr_sm hf (by decide)) hJ.2.2.1, zJ2_c (zfr_sm hf (by decide)) hJ.1.2.1.1.2 hJ.2.2.2.1, zJ3_c (zfr_sm hf (by decide)) hJ.2.2.2.2.1, zJ4_c (zfr_sm hf (by decide)) hJ.1.2.1.1.2 hJ.2.2.2.2.2.1, zJ10_c (zfr_sm hf (by decide)) hJ.2.2.2.2.2.2.1, zJ5_c (zfr_sm hf (by decide)) hJ.2.2.2.2.2.2.2.1, zJ6_c (zfr_sm hf (by decide)) hJ.2.2.2.2.2.2.2.2.1, zJ7_c (zfr_sm hf (by decide)) hJ.2.2.2.2.2.2.2.2.2.1, zJ8_c (zfr_sm hf (by decide)) hJ.1.1.2 hJ.2.2.2.2.2.2.2.2.2.2.1, zJ9_c (zfr_sm hf (by decide)) hJ.2.2.2.2.2.2.2.2.2.2.2.1, zJ11_c (zfr_sm hf (by decide)) hJ.1.2.2.1.1.2 hJ.2.2.2.2.2.2.2.2.2.2.2.2.1, zJ12_c (zfr_sm hf (by decide)) hJ.2.2.2.2.2.2.2.2.2.2.2.2.2.1, zJ13_c (zfr_sm hf (by decide)) (zA5 hJ.1) hJ.2.2.2.2.2.2.2.2.2.2.2.2.2.2.1, h14, zJ15_c (zfr_sm hf (by decide)) (zA8 hJ.1) hJ.2.2.2.2.2.2.2.2.2.2.2.2.2.2.2.2.1, zJ18_c (zfr_sm hf (by decide)) ⟨zA5 hJ.2.1, zA7 hJ.2.1, zA8 hJ.2.1⟩ hJ.2.2.2.2.2.2.2.2.2.2.2.2.2.2.2.2.2.1, zJ19_c (zfr_sm hf (by decide)) ⟨hJ.2.1.2.1.1.2, hJ.2.1.2.2.1.1.2⟩ hJ.2.2.2.2.2.2.2.2.2.2.2.2.2.2.2.2.2.2.1, zJ16_c (zfr_sm hf (by decide)) hJ.1.1.2 hJ.2.2.2.2.2.2.2.2.2.2.2.2.2.2.2.2.2.2.2.1, zJ17_c (zfr_sm hf (by decide)) hJ.2.1.1.2 hJ.2.2.2.2.2.2.2.2.2.2.2.2.2.2.2.2.2.2.2.2.1, ⟨by rw [hf 176 12 (by unfold zhw zhit; decide), hf 2 10 (by unfold zhw zhit; decide)]; exact hJ.2.2.2.2.2.2.2.2.2.2.2.2.2.2.2.2.2.2.2.2.2.1.1, Or.inl (by simp only [zset_ap, Int.reduceEq, ↓reduceIte])⟩, zJS_c (zfr_sm hf (by decide)) hJ.1.1.2 hJ.2.2.2.2.2.2.2.2.2.2.2.2.2.2.2.2.2.2.2.1 hJ.2.2.2.2.2.2.2.2.2.2.2.2.2.2.2.2.2.2.2.2.2.2.1, (by rw [hf 2 10 (by unfold zhw zhit; decide)]; exact hJ.2.2.2.2.2.2.2.2.2.2.2.2.2.2.2.2.2.2.2.2.2.2.2.1), zJC_c (zfr_sm hf (by decide)) hJ.2.2.2.2.2.2.2.2.2.2.2.2.2.2.2.2.2.2.2.2.2.2.2.2⟩, by rw [hf 2 10 (by unfold zhw zhit; decide)]; omega⟩

theorem pr_hear (hG : zP G) (hJ : zJ M) {x1 x2 : Int} : zPr G d mX11_hear mX12_hear [(2, 1), (0, x1), (0, x2)] [(2, 234), (0, x1), (0, x2)] M := by
  have hQ := (hJ.2.2.2.2.2.2.2.2.2.2.1).1
  have hU := (hJ.2.2.2.2.2.2.2.2.2.2.2.2.1).1
  have hO := (hJ.2.2.2.2.2.2.2.2.2.2.2.2.2.2.2.1).1
  have hV0 := hJ.1.1
  unfold zV0 at hV0
  have hV2 := hJ.1.2.2.1.1
  have hV7 := hJ.1.2.2.2.2.2.2.2.1.1
  refine bX11_hear_0 hG ⟨fun a => ⟨by omega, fun b => ⟨by omega, fun c => ?_, fun c => ?_⟩, fun b => ?_⟩, fun a => ?_⟩
  · refine bX0_addHeard_0 hG ⟨fun f => ⟨by omega, by omega, by omega, ?_⟩, fun f => ?_⟩
    · refine bX11_hear_39 hG ?_
      rw [hO] at f ⊢
      generalize hM1 : zset (zset (zset (zset M 177 (M 235 7) x1) 178 (M 235 7) x2) 176 2 ((M 235 7) + 1)) 176 11 0 = M1
      have e : ∀ k, M1 235 k = M 235 k := fun k => by rw [← hM1]; exact (zr_off k (by decide)).trans ((zr_off k (by decide)).trans ((zr_off k (by decide)).trans (zr_off k (by decide))))
      have e0 := e 0
      have e2 := e 2
      have e7 := e 7
      refine bX12_hear_0 hG ⟨fun _ => ⟨by omega, fun _ => ⟨by omega, fun _ => ⟨fun _ => ⟨by omega, by omega, by omega, by omega, by omega, by omega, by omega, by omega, by omega, by omega, by omega, ?_⟩, fun z => absurd z (by omega)⟩, fun z => absurd (by omega) z⟩, fun z => absurd (by omega) z⟩, fun z => absurd z a⟩
      rw [e7]
      subst hM1
      exact ⟨rfl, J_hear hJ (by omega) (by omega) (by omega)⟩
    · refine bX11_hear_39 hG ?_
      exact bX12_hear_0 hG ⟨fun _ => ⟨by omega, fun _ => ⟨by omega, fun _ => ⟨fun z => absurd (show M 235 7 = 8 by omega) z, fun z => ⟨rfl, zJ_rf hJ⟩⟩, fun z => absurd (by omega) z⟩, fun z => absurd (by omega) z⟩, fun z => absurd z a⟩
  · exact bX12_hear_0 hG ⟨fun _ => ⟨by omega, fun _ => ⟨by omega, fun z => absurd z (by omega), fun _ => ⟨rfl, zJ_rf hJ⟩⟩, fun z => absurd (by omega) z⟩, fun z => absurd z a⟩
  · exact bX12_hear_0 hG ⟨fun _ => ⟨by omega, fun z => absurd z (by omega), fun _ => ⟨rfl, zJ_rf hJ⟩⟩, fun z => absurd z a⟩
  · exact bX12_hear_0 hG ⟨fun z => absurd a z, fun _ => ⟨rfl, J_hear0 hJ⟩⟩

end PC

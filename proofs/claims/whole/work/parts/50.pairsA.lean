section PA
variable {G : zG} {d : Nat} {M : zM}
theorem zr_set {M1 : zM} {k v : Int} {a : Int} {i : Int} (h : ¬ i = k) : zset M1 a k v a i = M1 a i := zset_ne (fun q => h q.2)
theorem zr_off {M1 : zM} {k v : Int} {a b : Int} (i : Int) (h : b ≠ a) : zset M1 a k v b i = M1 b i := zset_ne (fun q => h q.1)
abbrev zPr (G : zG) (d : Nat) (mx mm : zMt) (lx lm : List zV) (M : zM) : Prop := Y G (d + 400) mx 0 lx [] M (fun r M1 => Y G (d + 400) mm 0 lm [] M1 (fun r2 M2 => r2 = r ∧ zJn M M2))

theorem J_thing (hJ : zJ M) {x1 x2 : Int} (q1 : 0 ≤ x1 ∧ x1 ≤ 3) (q2 : 0 ≤ x2 ∧ x2 ≤ 99) : zJn M (zset (zset M 3 x1 x2) 235 (10 + x1) x2) := by
  have hf : zfr [(3, 0, 4), (235, 10, 14)] M (zset (zset M 3 x1 x2) 235 (10 + x1) x2) := zfr_set (zfr_set zfr_rfl (zhit_at 0 rfl ⟨q1.1, by omega⟩)) (zhit_at 1 rfl ⟨by omega, by omega⟩)
  have hV := hJ.1
  have e : ∀ i, ¬ i = 10 + x1 → (zset (zset M 3 x1 x2) 235 (10 + x1) x2) 235 i = M 235 i := fun i h => (zr_set h).trans (zr_off i (by decide))
  have es : (zset (zset M 3 x1 x2) 235 (10 + x1) x2) 235 (10 + x1) = x2 := zset_same
  have hT : zVt ((zset (zset M 3 x1 x2) 235 (10 + x1) x2) 235) := fun t h1 h2 => by
    by_cases h : t = x1
    · rw [h, es]; exact q2
    · rw [e _ (by omega)]; exact hV.2.2.2.2.2.2.2.2.2.1 t h1 h2
  have h1 : zJ1 (zset (zset M 3 x1 x2) 235 (10 + x1) x2) := fun t h1 h2 => by
    by_cases h : t = x1
    · rw [h, es, zr_off _ (by decide)]; exact zset_same
    · rw [e _ (by omega), zr_off _ (by decide), zr_set h]; exact hJ.2.2.1 t h1 h2
  exact ⟨⟨⟨zV0_e hV.1 (e 0 (by omega)), zV1_e hV.2.1 (e 1 (by omega)) (fun i q1 q2 => e i (by omega)), zV2_e hV.2.2.1 (e 2 (by omega)) (fun i q1 q2 => e i (by omega)), zV3_e hV.2.2.2.1 (e 3 (by omega)), zV4_e hV.2.2.2.2.1 (e 4 (by omega)), zV5_e hV.2.2.2.2.2.1 hV.2.2.1.1.2 (by rw [e 0 (by omega)]; omega) (by rw [e 2 (by omega)]; omega) (e 5 (by omega)) (fun i q1 q2 => e i (by omega)), zV6_e hV.2.2.2.2.2.2.1 (e 6 (by omega)), zV7_e hV.2.2.2.2.2.2.2.1 (by rw [e 0 (by omega)]; omega) (by rw [e 2 (by omega)]; omega) (e 7 (by omega)) (fun i q1 q2 => e i (by omega)), zV8_e hV.2.2.2.2.2.2.2.2.1 (by rw [e 0 (by omega)]; omega) (e 8 (by omega)) (fun i q1 q2 => e i (by omega)), hT, zVr_e hV.2.2.2.2.2.2.2.2.2.2 (fun i q1 q2 => e i (by omega))⟩, zsI_c (zfr_sm hf (by decide)) hJ.2.1, h1, zJ2_c (zfr_sm hf (by decide)) hJ.1.2.1.1.2 hJ.2.2.2.1, zJ3_c (zfr_sm hf (by decide)) hJ.2.2.2.2.1, zJ4_c (zfr_sm hf (by decide)) hJ.1.2.1.1.2 hJ.2.2.2.2.2.1, zJ10_c (zfr_sm hf (by decide)) hJ.2.2.2.2.2.2.1, zJ5_c (zfr_sm hf (by decide)) hJ.2.2.2.2.2.2.2.1, zJ6_c (zfr_sm hf (by decide)) hJ.2.2.2.2.2.2.2.2.1, zJ7_c (zfr_sm hf (by decide)) hJ.2.2.2.2.2.2.2.2.2.1, zJ8_c (zfr_sm hf (by decide)) hJ.1.1.2 hJ.2.2.2.2.2.2.2.2.2.2.1, zJ9_c (zfr_sm hf (by decide)) hJ.2.2.2.2.2.2.2.2.2.2.2.1, zJ11_c (zfr_sm hf (by decide)) hJ.1.2.2.1.1.2 hJ.2.2.2.2.2.2.2.2.2.2.2.2.1, zJ12_c (zfr_sm hf (by decide)) hJ.2.2.2.2.2.2.2.2.2.2.2.2.2.1, zJ13_c (zfr_sm hf (by decide)) (zA5 hJ.1) hJ.2.2.2.2.2.2.2.2.2.2.2.2.2.2.1, zJ14_c (zfr_sm hf (by decide)) (zA7 hJ.1) hJ.2.2.2.2.2.2.2.2.2.2.2.2.2.2.2.1, zJ15_c (zfr_sm hf (by decide)) (zA8 hJ.1) hJ.2.2.2.2.2.2.2.2.2.2.2.2.2.2.2.2.1, zJ18_c (zfr_sm hf (by decide)) ⟨zA5 hJ.2.1, zA7 hJ.2.1, zA8 hJ.2.1⟩ hJ.2.2.2.2.2.2.2.2.2.2.2.2.2.2.2.2.2.1, zJ19_c (zfr_sm hf (by decide)) ⟨hJ.2.1.2.1.1.2, hJ.2.1.2.2.1.1.2⟩ hJ.2.2.2.2.2.2.2.2.2.2.2.2.2.2.2.2.2.2.1, zJ16_c (zfr_sm hf (by decide)) hJ.1.1.2 hJ.2.2.2.2.2.2.2.2.2.2.2.2.2.2.2.2.2.2.2.1, zJ17_c (zfr_sm hf (by decide)) hJ.2.1.1.2 hJ.2.2.2.2.2.2.2.2.2.2.2.2.2.2.2.2.2.2.2.2.1, zJF_c (zfr_sm hf (by decide)) hJ.1 hJ.2.2.2.2.2.2.2.2.2.2.2.2.2.2.2.2.2.2.2.1 hJ.2.2.2.2.2.2.2.2.2.2.2.2.2.2.2.2.2.2.2.2.2.1, zJS_c (zfr_sm hf (by decide)) hJ.1.1.2 hJ.2.2.2.2.2.2.2.2.2.2.2.2.2.2.2.2.2.2.2.1 hJ.2.2.2.2.2.2.2.2.2.2.2.2.2.2.2.2.2.2.2.2.2.2.1, (by rw [hf 2 10 (by unfold zhw zhit; decide)]; exact hJ.2.2.2.2.2.2.2.2.2.2.2.2.2.2.2.2.2.2.2.2.2.2.2.1), zJC_c (zfr_sm hf (by decide)) hJ.2.2.2.2.2.2.2.2.2.2.2.2.2.2.2.2.2.2.2.2.2.2.2.2⟩, by rw [hf 2 10 (by unfold zhw zhit; decide)]; omega⟩

theorem pr_thing (hG : zP G) (hJ : zJ M) {x1 x2 : Int} : zPr G d mX11_thing mX12_thing [(2, 1), (0, x1), (0, x2)] [(2, 234), (0, x1), (0, x2)] M := by
  refine bX11_thing_0 hG ⟨fun q1 => ⟨fun q2 => ⟨by omega, ?_⟩, fun q2 => ?_⟩, fun q1 => ?_⟩
  · exact bX12_thing_0 hG ⟨fun _ => ⟨fun _ => ⟨by omega, by omega, rfl, J_thing hJ q1 q2⟩, fun q => absurd q2 q⟩, fun q => absurd q1 q⟩
  · exact bX12_thing_0 hG ⟨fun _ => ⟨fun q => absurd q q2, fun _ => ⟨rfl, zJ_rf hJ⟩⟩, fun q => absurd q1 q⟩
  · exact bX12_thing_0 hG ⟨fun q => absurd q q1, fun _ => ⟨rfl, zJ_rf hJ⟩⟩

theorem J_end (hJ : zJ M) {x1 : Int} (q1 : 0 ≤ x1 ∧ x1 ≤ M 13 1) : zJn M (zset (zset M 13 1 x1) 234 5 x1) := by
  have hf : zfr [(13, 1, 2), (234, 5, 6)] M (zset (zset M 13 1 x1) 234 5 x1) := zfr_set (zfr_set zfr_rfl (zhit_at 0 rfl ⟨by decide, by decide⟩)) (zhit_at 1 rfl ⟨by decide, by decide⟩)
  have h5 : zJ5 (zset (zset M 13 1 x1) 234 5 x1) := by
    have o := hJ.2.2.2.2.2.2.2.1
    have e1 : (zset (zset M 13 1 x1) 234 5 x1) 13 1 = x1 := (zr_off 1 (by decide)).trans zset_same
    unfold zJ5
    rw [e1, show (zset (zset M 13 1 x1) 234 5 x1) 234 5 = x1 from zset_same]
    refine ⟨rfl, ⟨q1.1, by have := o.2.1; omega⟩, fun k h1 h2 => ?_⟩
    rw [zr_off k (by decide), zr_off k (by decide), zr_off k (by decide), zr_off k (by decide)]
    exact o.2.2 k h1 (by omega)
  exact ⟨⟨zsA_c (zfr_sm hf (by decide)) hJ.1, zsI_c (zfr_sm hf (by decide)) hJ.2.1, zJ1_c (zfr_sm hf (by decide)) hJ.2.2.1, zJ2_c (zfr_sm hf (by decide)) hJ.1.2.1.1.2 hJ.2.2.2.1, zJ3_c (zfr_sm hf (by decide)) hJ.2.2.2.2.1, zJ4_c (zfr_sm hf (by decide)) hJ.1.2.1.1.2 hJ.2.2.2.2.2.1, zJ10_c (zfr_sm hf (by decide)) hJ.2.2.2.2.2.2.1, h5, zJ6_c (zfr_sm hf (by decide)) hJ.2.2.2.2.2.2.2.2.1, zJ7_c (zfr_sm hf (by decide)) hJ.2.2.2.2.2.2.2.2.2.1, zJ8_c (zfr_sm hf (by decide)) hJ.1.1.2 hJ.2.2.2.2.2.2.2.2.2.2.1, zJ9_c (zfr_sm hf (by decide)) hJ.2.2.2.2.2.2.2.2.2.2.2.1, zJ11_c (zfr_sm hf (by decide)) hJ.1.2.2.1.1.2 hJ.2.2.2.2.2.2.2.2.2.2.2.2.1, zJ12_c (zfr_sm hf (by decide)) hJ.2.2.2.2.2.2.2.2.2.2.2.2.2.1, zJ13_c (zfr_sm hf (by decide)) (zA5 hJ.1) hJ.2.2.2.2.2.2.2.2.2.2.2.2.2.2.1, zJ14_c (zfr_sm hf (by decide)) (zA7 hJ.1) hJ.2.2.2.2.2.2.2.2.2.2.2.2.2.2.2.1, zJ15_c (zfr_sm hf (by decide)) (zA8 hJ.1) hJ.2.2.2.2.2.2.2.2.2.2.2.2.2.2.2.2.1, zJ18_c (zfr_sm hf (by decide)) ⟨zA5 hJ.2.1, zA7 hJ.2.1, zA8 hJ.2.1⟩ hJ.2.2.2.2.2.2.2.2.2.2.2.2.2.2.2.2.2.1, zJ19_c (zfr_sm hf (by decide)) ⟨hJ.2.1.2.1.1.2, hJ.2.1.2.2.1.1.2⟩ hJ.2.2.2.2.2.2.2.2.2.2.2.2.2.2.2.2.2.2.1, zJ16_c (zfr_sm hf (by decide)) hJ.1.1.2 hJ.2.2.2.2.2.2.2.2.2.2.2.2.2.2.2.2.2.2.2.1, zJ17_c (zfr_sm hf (by decide)) hJ.2.1.1.2 hJ.2.2.2.2.2.2.2.2.2.2.2.2.2.2.2.2.2.2.2.2.1, zJF_c (zfr_sm hf (by decide)) hJ.1 hJ.2.2.2.2.2.2.2.2.2.2.2.2.2.2.2.2.2.2.2.1 hJ.2.2.2.2.2.2.2.2.2.2.2.2.2.2.2.2.2.2.2.2.2.1, zJS_c (zfr_sm hf (by decide)) hJ.1.1.2 hJ.2.2.2.2.2.2.2.2.2.2.2.2.2.2.2.2.2.2.2.1 hJ.2.2.2.2.2.2.2.2.2.2.2.2.2.2.2.2.2.2.2.2.2.2.1, (by rw [hf 2 10 (by unfold zhw zhit; decide)]; exact hJ.2.2.2.2.2.2.2.2.2.2.2.2.2.2.2.2.2.2.2.2.2.2.2.1), zJC_c (zfr_sm hf (by decide)) hJ.2.2.2.2.2.2.2.2.2.2.2.2.2.2.2.2.2.2.2.2.2.2.2.2⟩, by rw [hf 2 10 (by unfold zhw zhit; decide)]; omega⟩

theorem pr_end (hG : zP G) (hJ : zJ M) {x1 : Int} : zPr G d mX11_end mX12_end [(2, 1), (0, x1)] [(2, 234), (0, x1)] M := by
  have o := hJ.2.2.2.2.2.2.2.1
  refine bX11_end_0 hG ⟨fun q1 => ?_, fun q1 => ?_⟩
  · refine bX12_end_0 hG ⟨fun q => absurd q (by omega), fun _ => ⟨fun _ => ⟨rfl, J_end hJ q1⟩, fun q => absurd q ?_⟩⟩
    rw [zr_off 5 (by decide), ← o.1]; omega
  · refine bX12_end_0 hG ⟨fun _ => ⟨rfl, zJ_rf hJ⟩, fun _ => ⟨fun q => absurd q ?_, fun _ => ⟨rfl, zJ_rf hJ⟩⟩⟩
    rw [← o.1]; omega

theorem pr_fault (hG : zP G) (hJ : zJ M) {x1 : Int} : zPr G d mX11_fault mX12_fault [(2, 1), (0, x1)] [(2, 234), (0, x1)] M := by
  have o := hJ.2.2.2.2.2.2.2.2.1
  unfold zJ6 at o
  refine bX11_fault_0 hG ⟨fun q => ⟨fun q1 => ⟨fun q2 => ?_, fun q2 => ⟨fun q3 => ?_, fun q3 => ?_⟩⟩, fun q1 => ?_⟩, fun q => ?_⟩
  · exact bX12_fault_0 hG ⟨fun _ => ⟨fun _ => ⟨rfl, zJ_rf hJ⟩, fun r => absurd r q2⟩, fun r => absurd r q1⟩
  · exact bX12_fault_0 hG ⟨fun _ => ⟨fun r => absurd q2 r, fun _ => ⟨by rw [show M 234 7 = -1 by omega], zJ_rf hJ⟩⟩, fun r => absurd r q1⟩
  · exact bX12_fault_0 hG ⟨fun _ => ⟨fun r => absurd q2 r, fun _ => ⟨by rw [show M 234 7 = M 12 3 by omega], zJ_rf hJ⟩⟩, fun r => absurd r q1⟩
  · exact bX12_fault_0 hG ⟨fun r => absurd q1 r, fun _ => ⟨by rw [show M 234 6 = M 12 2 by omega], zJ_rf hJ⟩⟩
  · refine bX12_fault_0 hG ⟨fun r => ⟨fun _ => ⟨rfl, zJ_rf hJ⟩, fun _ => ⟨by rw [show M 234 7 = -1 by omega], zJ_rf hJ⟩⟩, fun _ => ⟨by rw [show M 234 6 = -1 by omega], zJ_rf hJ⟩⟩

theorem J_equalities (hJ : zJ M) {x1 : Int} (q1 : 0 ≤ x1 ∧ x1 ≤ 255) : zJn M (zset (zset (zset M 19 9 x1) 19 13 0) 235 4 x1) := by
  have hf : zfr [(19, 9, 10), (19, 13, 14), (235, 4, 5)] M (zset (zset (zset M 19 9 x1) 19 13 0) 235 4 x1) := zfr_set (zfr_set (zfr_set zfr_rfl (zhit_at 0 rfl ⟨by decide, by decide⟩)) (zhit_at 1 rfl ⟨by decide, by decide⟩)) (zhit_at 2 rfl ⟨by decide, by decide⟩)
  have hV := hJ.1
  have e : ∀ i, ¬ i = 4 → (zset (zset (zset M 19 9 x1) 19 13 0) 235 4 x1) 235 i = M 235 i := fun i h => (zr_set h).trans ((zr_off i (by decide)).trans (zr_off i (by decide)))
  have es : (zset (zset (zset M 19 9 x1) 19 13 0) 235 4 x1) 235 4 = x1 := zset_same
  have h4 : zV4 ((zset (zset (zset M 19 9 x1) 19 13 0) 235 4 x1) 235) := by unfold zV4; rw [es]; exact q1
  have h9 : zJ9 (zset (zset (zset M 19 9 x1) 19 13 0) 235 4 x1) := by
    unfold zJ9
    rw [es, zr_off 9 (by decide), zr_set (by decide)]; exact zset_same
  exact ⟨⟨⟨zV0_e hV.1 (e 0 (by omega)), zV1_e hV.2.1 (e 1 (by omega)) (fun i q1 q2 => e i (by omega)), zV2_e hV.2.2.1 (e 2 (by omega)) (fun i q1 q2 => e i (by omega)), zV3_e hV.2.2.2.1 (e 3 (by omega)), h4, zV5_e hV.2.2.2.2.2.1 hV.2.2.1.1.2 (by rw [e 0 (by omega)]; omega) (by rw [e 2 (by omega)]; omega) (e 5 (by omega)) (fun i q1 q2 => e i (by omega)), zV6_e hV.2.2.2.2.2.2.1 (e 6 (by omega)), zV7_e hV.2.2.2.2.2.2.2.1 (by rw [e 0 (by omega)]; omega) (by rw [e 2 (by omega)]; omega) (e 7 (by omega)) (fun i q1 q2 => e i (by omega)), zV8_e hV.2.2.2.2.2.2.2.2.1 (by rw [e 0 (by omega)]; omega) (e 8 (by omega)) (fun i q1 q2 => e i (by omega)), zVt_e hV.2.2.2.2.2.2.2.2.2.1 (fun i q1 q2 => e i (by omega)), zVr_e hV.2.2.2.2.2.2.2.2.2.2 (fun i q1 q2 => e i (by omega))⟩, zsI_c (zfr_sm hf (by decide)) hJ.2.1, zJ1_c (zfr_sm hf (by decide)) hJ.2.2.1, zJ2_c (zfr_sm hf (by decide)) hJ.1.2.1.1.2 hJ.2.2.2.1, zJ3_c (zfr_sm hf (by decide)) hJ.2.2.2.2.1, zJ4_c (zfr_sm hf (by decide)) hJ.1.2.1.1.2 hJ.2.2.2.2.2.1, zJ10_c (zfr_sm hf (by decide)) hJ.2.2.2.2.2.2.1, zJ5_c (zfr_sm hf (by decide)) hJ.2.2.2.2.2.2.2.1, zJ6_c (zfr_sm hf (by decide)) hJ.2.2.2.2.2.2.2.2.1, zJ7_c (zfr_sm hf (by decide)) hJ.2.2.2.2.2.2.2.2.2.1, zJ8_c (zfr_sm hf (by decide)) hJ.1.1.2 hJ.2.2.2.2.2.2.2.2.2.2.1, h9, zJ11_c (zfr_sm hf (by decide)) hJ.1.2.2.1.1.2 hJ.2.2.2.2.2.2.2.2.2.2.2.2.1, zJ12_c (zfr_sm hf (by decide)) hJ.2.2.2.2.2.2.2.2.2.2.2.2.2.1, zJ13_c (zfr_sm hf (by decide)) (zA5 hJ.1) hJ.2.2.2.2.2.2.2.2.2.2.2.2.2.2.1, zJ14_c (zfr_sm hf (by decide)) (zA7 hJ.1) hJ.2.2.2.2.2.2.2.2.2.2.2.2.2.2.2.1, zJ15_c (zfr_sm hf (by decide)) (zA8 hJ.1) hJ.2.2.2.2.2.2.2.2.2.2.2.2.2.2.2.2.1, zJ18_c (zfr_sm hf (by decide)) ⟨zA5 hJ.2.1, zA7 hJ.2.1, zA8 hJ.2.1⟩ hJ.2.2.2.2.2.2.2.2.2.2.2.2.2.2.2.2.2.1, zJ19_c (zfr_sm hf (by decide)) ⟨hJ.2.1.2.1.1.2, hJ.2.1.2.2.1.1.2⟩ hJ.2.2.2.2.2.2.2.2.2.2.2.2.2.2.2.2.2.2.1, zJ16_c (zfr_sm hf (by decide)) hJ.1.1.2 hJ.2.2.2.2.2.2.2.2.2.2.2.2.2.2.2.2.2.2.2.1, zJ17_c (zfr_sm hf (by decide)) hJ.2.1.1.2 hJ.2.2.2.2.2.2.2.2.2.2.2.2.2.2.2.2.2.2.2.2.1, zJF_c (zfr_sm hf (by decide)) hJ.1 hJ.2.2.2.2.2.2.2.2.2.2.2.2.2.2.2.2.2.2.2.1 hJ.2.2.2.2.2.2.2.2.2.2.2.2.2.2.2.2.2.2.2.2.2.1, ⟨by rw [show (zset (zset (zset M 19 9 x1) 19 13 0) 235 4 x1) 19 13 = 0 by simp only [zset_ap, Int.reduceEq, ↓reduceIte], show (zset (zset (zset M 19 9 x1) 19 13 0) 235 4 x1) 235 0 = M 235 0 by simp only [zset_ap, Int.reduceEq, ↓reduceIte]]; exact ⟨by decide, hJ.1.1.1⟩, fun i i0 i1 => absurd i1 (by rw [show (zset (zset (zset M 19 9 x1) 19 13 0) 235 4 x1) 19 13 = 0 by simp only [zset_ap, Int.reduceEq, ↓reduceIte]]; omega)⟩, (by rw [hf 2 10 (by unfold zhw zhit; decide)]; exact hJ.2.2.2.2.2.2.2.2.2.2.2.2.2.2.2.2.2.2.2.2.2.2.2.1), zJC_c (zfr_sm hf (by decide)) hJ.2.2.2.2.2.2.2.2.2.2.2.2.2.2.2.2.2.2.2.2.2.2.2.2⟩, by rw [hf 2 10 (by unfold zhw zhit; decide)]; omega⟩

theorem pr_equalities (hG : zP G) (hJ : zJ M) {x1 : Int} : zPr G d mX11_equalities mX12_equalities [(2, 1), (0, x1)] [(2, 234), (0, x1)] M := by
  refine bX11_equalities_0 hG ⟨fun q1 => ?_, fun q1 => ?_⟩
  · exact bX12_equalities_0 hG ⟨fun _ => ⟨rfl, J_equalities hJ q1⟩, fun q => absurd q1 q⟩
  · exact bX12_equalities_0 hG ⟨fun q => absurd q q1, fun _ => ⟨rfl, zJ_rf hJ⟩⟩

theorem J_answer (hJ : zJ M) {x1 : Int} (q1 : -1000000 ≤ x1 ∧ x1 ≤ 1000000) : zJn M (zset (zset M 157 6 x1) 235 3 x1) := by
  have hf : zfr [(157, 6, 7), (235, 3, 4)] M (zset (zset M 157 6 x1) 235 3 x1) := zfr_set (zfr_set zfr_rfl (zhit_at 0 rfl ⟨by decide, by decide⟩)) (zhit_at 1 rfl ⟨by decide, by decide⟩)
  have hV := hJ.1
  have e : ∀ i, ¬ i = 3 → (zset (zset M 157 6 x1) 235 3 x1) 235 i = M 235 i := fun i h => (zr_set h).trans (zr_off i (by decide))
  have es : (zset (zset M 157 6 x1) 235 3 x1) 235 3 = x1 := zset_same
  have h3 : zV3 ((zset (zset M 157 6 x1) 235 3 x1) 235) := by unfold zV3; rw [es]; exact q1
  have h12 : zJ12 (zset (zset M 157 6 x1) 235 3 x1) := by
    unfold zJ12
    rw [es, zr_off 6 (by decide)]; exact zset_same
  exact ⟨⟨⟨zV0_e hV.1 (e 0 (by omega)), zV1_e hV.2.1 (e 1 (by omega)) (fun i q1 q2 => e i (by omega)), zV2_e hV.2.2.1 (e 2 (by omega)) (fun i q1 q2 => e i (by omega)), h3, zV4_e hV.2.2.2.2.1 (e 4 (by omega)), zV5_e hV.2.2.2.2.2.1 hV.2.2.1.1.2 (by rw [e 0 (by omega)]; omega) (by rw [e 2 (by omega)]; omega) (e 5 (by omega)) (fun i q1 q2 => e i (by omega)), zV6_e hV.2.2.2.2.2.2.1 (e 6 (by omega)), zV7_e hV.2.2.2.2.2.2.2.1 (by rw [e 0 (by omega)]; omega) (by rw [e 2 (by omega)]; omega) (e 7 (by omega)) (fun i q1 q2 => e i (by omega)), zV8_e hV.2.2.2.2.2.2.2.2.1 (by rw [e 0 (by omega)]; omega) (e 8 (by omega)) (fun i q1 q2 => e i (by omega)), zVt_e hV.2.2.2.2.2.2.2.2.2.1 (fun i q1 q2 => e i (by omega)), zVr_e hV.2.2.2.2.2.2.2.2.2.2 (fun i q1 q2 => e i (by omega))⟩, zsI_c (zfr_sm hf (by decide)) hJ.2.1, zJ1_c (zfr_sm hf (by decide)) hJ.2.2.1, zJ2_c (zfr_sm hf (by decide)) hJ.1.2.1.1.2 hJ.2.2.2.1, zJ3_c (zfr_sm hf (by decide)) hJ.2.2.2.2.1, zJ4_c (zfr_sm hf (by decide)) hJ.1.2.1.1.2 hJ.2.2.2.2.2.1, zJ10_c (zfr_sm hf (by decide)) hJ.2.2.2.2.2.2.1, zJ5_c (zfr_sm hf (by decide)) hJ.2.2.2.2.2.2.2.1, zJ6_c (zfr_sm hf (by decide)) hJ.2.2.2.2.2.2.2.2.1, zJ7_c (zfr_sm hf (by decide)) hJ.2.2.2.2.2.2.2.2.2.1, zJ8_c (zfr_sm hf (by decide)) hJ.1.1.2 hJ.2.2.2.2.2.2.2.2.2.2.1, zJ9_c (zfr_sm hf (by decide)) hJ.2.2.2.2.2.2.2.2.2.2.2.1, zJ11_c (zfr_sm hf (by decide)) hJ.1.2.2.1.1.2 hJ.2.2.2.2.2.2.2.2.2.2.2.2.1, h12, zJ13_c (zfr_sm hf (by decide)) (zA5 hJ.1) hJ.2.2.2.2.2.2.2.2.2.2.2.2.2.2.1, zJ14_c (zfr_sm hf (by decide)) (zA7 hJ.1) hJ.2.2.2.2.2.2.2.2.2.2.2.2.2.2.2.1, zJ15_c (zfr_sm hf (by decide)) (zA8 hJ.1) hJ.2.2.2.2.2.2.2.2.2.2.2.2.2.2.2.2.1, zJ18_c (zfr_sm hf (by decide)) ⟨zA5 hJ.2.1, zA7 hJ.2.1, zA8 hJ.2.1⟩ hJ.2.2.2.2.2.2.2.2.2.2.2.2.2.2.2.2.2.1, zJ19_c (zfr_sm hf (by decide)) ⟨hJ.2.1.2.1.1.2, hJ.2.1.2.2.1.1.2⟩ hJ.2.2.2.2.2.2.2.2.2.2.2.2.2.2.2.2.2.2.1, zJ16_c (zfr_sm hf (by decide)) hJ.1.1.2 hJ.2.2.2.2.2.2.2.2.2.2.2.2.2.2.2.2.2.2.2.1, zJ17_c (zfr_sm hf (by decide)) hJ.2.1.1.2 hJ.2.2.2.2.2.2.2.2.2.2.2.2.2.2.2.2.2.2.2.2.1, zJF_c (zfr_sm hf (by decide)) hJ.1 hJ.2.2.2.2.2.2.2.2.2.2.2.2.2.2.2.2.2.2.2.1 hJ.2.2.2.2.2.2.2.2.2.2.2.2.2.2.2.2.2.2.2.2.2.1, zJS_c (zfr_sm hf (by decide)) hJ.1.1.2 hJ.2.2.2.2.2.2.2.2.2.2.2.2.2.2.2.2.2.2.2.1 hJ.2.2.2.2.2.2.2.2.2.2.2.2.2.2.2.2.2.2.2.2.2.2.1, (by rw [hf 2 10 (by unfold zhw zhit; decide)]; exact hJ.2.2.2.2.2.2.2.2.2.2.2.2.2.2.2.2.2.2.2.2.2.2.2.1), zJC_c (zfr_sm hf (by decide)) hJ.2.2.2.2.2.2.2.2.2.2.2.2.2.2.2.2.2.2.2.2.2.2.2.2⟩, by rw [hf 2 10 (by unfold zhw zhit; decide)]; omega⟩

theorem pr_answer (hG : zP G) (hJ : zJ M) {x1 : Int} : zPr G d mX11_answer mX12_answer [(2, 1), (0, x1)] [(2, 234), (0, x1)] M := by
  refine bX11_answer_0 hG ⟨fun q1 => ?_, fun q1 => ?_⟩
  · exact bX12_answer_0 hG ⟨fun _ => ⟨rfl, J_answer hJ q1⟩, fun q => absurd q1 q⟩
  · exact bX12_answer_0 hG ⟨fun q => absurd q q1, fun _ => ⟨rfl, zJ_rf hJ⟩⟩

theorem J_undo (hJ : zJ M) (q1 : 0 < M 235 5) : zJn M (zset (zset M 157 9 (M 235 5 - 1)) 235 5 (M 235 5 - 1)) := by
  have hf : zfr [(157, 9, 10), (235, 5, 6)] M (zset (zset M 157 9 (M 235 5 - 1)) 235 5 (M 235 5 - 1)) := zfr_set (zfr_set zfr_rfl (zhit_at 0 rfl ⟨by decide, by decide⟩)) (zhit_at 1 rfl ⟨by decide, by decide⟩)
  have hV := hJ.1
  have e : ∀ i, ¬ i = 5 → (zset (zset M 157 9 (M 235 5 - 1)) 235 5 (M 235 5 - 1)) 235 i = M 235 i := fun i h => (zr_set h).trans (zr_off i (by decide))
  have es : (zset (zset M 157 9 (M 235 5 - 1)) 235 5 (M 235 5 - 1)) 235 5 = M 235 5 - 1 := zset_same
  have o := hJ.2.2.2.2.2.2.2.2.2.2.2.2.2.2.1
  have h5 : zV5 ((zset (zset M 157 9 (M 235 5 - 1)) 235 5 (M 235 5 - 1)) 235) := by
    obtain ⟨g1, g2, g3⟩ := hV.2.2.2.2.2.1
    unfold zV5
    rw [es, e 2 (by decide), e 0 (by decide)]
    refine ⟨by omega, fun i h1 h2 => ?_, fun i j h1 h2 h3 => ?_⟩
    · rw [e _ (by omega), e _ (by omega)]; exact g2 i h1 (by omega)
    · rw [e _ (by omega), e _ (by omega)]; exact g3 i j h1 h2 (by omega)
  have h13 : zJ13 (zset (zset M 157 9 (M 235 5 - 1)) 235 5 (M 235 5 - 1)) := by
    unfold zJ13
    rw [es, zr_off 9 (by decide), zset_same]
    refine ⟨rfl, fun i h1 h2 => ?_⟩
    rw [e _ (by omega), e _ (by omega), zr_off i (by decide), zr_off i (by decide), zr_off i (by decide), zr_off i (by decide)]
    exact o.2 i h1 (by omega)
  exact ⟨⟨⟨zV0_e hV.1 (e 0 (by omega)), zV1_e hV.2.1 (e 1 (by omega)) (fun i q1 q2 => e i (by omega)), zV2_e hV.2.2.1 (e 2 (by omega)) (fun i q1 q2 => e i (by omega)), zV3_e hV.2.2.2.1 (e 3 (by omega)), zV4_e hV.2.2.2.2.1 (e 4 (by omega)), h5, zV6_e hV.2.2.2.2.2.2.1 (e 6 (by omega)), zV7_e hV.2.2.2.2.2.2.2.1 (by rw [e 0 (by omega)]; omega) (by rw [e 2 (by omega)]; omega) (e 7 (by omega)) (fun i q1 q2 => e i (by omega)), zV8_e hV.2.2.2.2.2.2.2.2.1 (by rw [e 0 (by omega)]; omega) (e 8 (by omega)) (fun i q1 q2 => e i (by omega)), zVt_e hV.2.2.2.2.2.2.2.2.2.1 (fun i q1 q2 => e i (by omega)), zVr_e hV.2.2.2.2.2.2.2.2.2.2 (fun i q1 q2 => e i (by omega))⟩, zsI_c (zfr_sm hf (by decide)) hJ.2.1, zJ1_c (zfr_sm hf (by decide)) hJ.2.2.1, zJ2_c (zfr_sm hf (by decide)) hJ.1.2.1.1.2 hJ.2.2.2.1, zJ3_c (zfr_sm hf (by decide)) hJ.2.2.2.2.1, zJ4_c (zfr_sm hf (by decide)) hJ.1.2.1.1.2 hJ.2.2.2.2.2.1, zJ10_c (zfr_sm hf (by decide)) hJ.2.2.2.2.2.2.1, zJ5_c (zfr_sm hf (by decide)) hJ.2.2.2.2.2.2.2.1, zJ6_c (zfr_sm hf (by decide)) hJ.2.2.2.2.2.2.2.2.1, zJ7_c (zfr_sm hf (by decide)) hJ.2.2.2.2.2.2.2.2.2.1, zJ8_c (zfr_sm hf (by decide)) hJ.1.1.2 hJ.2.2.2.2.2.2.2.2.2.2.1, zJ9_c (zfr_sm hf (by decide)) hJ.2.2.2.2.2.2.2.2.2.2.2.1, zJ11_c (zfr_sm hf (by decide)) hJ.1.2.2.1.1.2 hJ.2.2.2.2.2.2.2.2.2.2.2.2.1, zJ12_c (zfr_sm hf (by decide)) hJ.2.2.2.2.2.2.2.2.2.2.2.2.2.1, h13, zJ14_c (zfr_sm hf (by decide)) (zA7 hJ.1) hJ.2.2.2.2.2.2.2.2.2.2.2.2.2.2.2.1, zJ15_c (zfr_sm hf (by decide)) (zA8 hJ.1) hJ.2.2.2.2.2.2.2.2.2.2.2.2.2.2.2.2.1, zJ18_c (zfr_sm hf (by decide)) ⟨zA5 hJ.2.1, zA7 hJ.2.1, zA8 hJ.2.1⟩ hJ.2.2.2.2.2.2.2.2.2.2.2.2.2.2.2.2.2.1, zJ19_c (zfr_sm hf (by decide)) ⟨hJ.2.1.2.1.1.2, hJ.2.1.2.2.1.1.2⟩ hJ.2.2.2.2.2.2.2.2.2.2.2.2.2.2.2.2.2.2.1, zJ16_c (zfr_sm hf (by decide)) hJ.1.1.2 hJ.2.2.2.2.2.2.2.2.2.2.2.2.2.2.2.2.2.2.2.1, zJ17_c (zfr_sm hf (by decide)) hJ.2.1.1.2 hJ.2.2.2.2.2.2.2.2.2.2.2.2.2.2.2.2.2.2.2.2.1, zJF_c (zfr_sm hf (by decide)) hJ.1 hJ.2.2.2.2.2.2.2.2.2.2.2.2.2.2.2.2.2.2.2.1 hJ.2.2.2.2.2.2.2.2.2.2.2.2.2.2.2.2.2.2.2.2.2.1, zJS_c (zfr_sm hf (by decide)) hJ.1.1.2 hJ.2.2.2.2.2.2.2.2.2.2.2.2.2.2.2.2.2.2.2.1 hJ.2.2.2.2.2.2.2.2.2.2.2.2.2.2.2.2.2.2.2.2.2.2.1, (by rw [hf 2 10 (by unfold zhw zhit; decide)]; exact hJ.2.2.2.2.2.2.2.2.2.2.2.2.2.2.2.2.2.2.2.2.2.2.2.1), zJC_c (zfr_sm hf (by decide)) hJ.2.2.2.2.2.2.2.2.2.2.2.2.2.2.2.2.2.2.2.2.2.2.2.2⟩, by rw [hf 2 10 (by unfold zhw zhit; decide)]; omega⟩

theorem pr_undo (hG : zP G) (hJ : zJ M) : zPr G d mX11_undo mX12_undo [(2, 1)] [(2, 234)] M := by
  have o := hJ.2.2.2.2.2.2.2.2.2.2.2.2.2.2.1
  have o1 := o.1
  have hV := hJ.1.2.2.2.2.2.1.1
  have hU := hJ.1.2.2.1.1
  refine bX11_undo_0 hG ⟨fun q1 => ⟨by omega, ?_⟩, fun q1 => ?_⟩
  · rw [o.1] at q1 ⊢
    refine bX12_undo_0 hG ⟨fun _ => ⟨by rw [zr_off 5 (by decide)]; omega, ?_⟩, fun q => absurd q (by rw [zr_off 5 (by decide)]; omega)⟩
    rw [zr_off 5 (by decide)]
    exact ⟨rfl, J_undo hJ q1⟩
  · exact bX12_undo_0 hG ⟨fun q => absurd (show M 235 5 = 0 by omega) q, fun _ => ⟨rfl, zJ_rf hJ⟩⟩

theorem pr_asked (hG : zP G) (hJ : zJ M) {x1 x2 : Int} : zPr G d mX11_asked mX12_asked [(2, 1), (0, x1), (0, x2)] [(2, 234), (0, x1), (0, x2)] M := by
  have o := hJ.2.2.2.2.2.2.2.2.2.2.2.2.2.2.1
  have o1 := o.1
  have hV := hJ.1.2.2.2.2.2.1.1
  have hU := hJ.1.2.2.1.1
  refine bX11_asked_0 hG ⟨fun q1 => ⟨by omega, fun q2 => ⟨fun q3 => ⟨by omega, ?_⟩, fun q3 => ⟨by omega, ?_⟩⟩, fun q2 => ?_⟩, fun q1 => ?_⟩
  · exact bX12_asked_0 hG ⟨fun _ => ⟨by omega, fun _ => ⟨by omega, by omega, fun _ => ⟨by omega, by omega, by rw [(o.2 x1 q2.1 (by omega)).1]; simp, zJ_rf hJ⟩, fun q => absurd q3 q⟩, fun q => absurd (by omega) q⟩, fun q => absurd q q1⟩
  · exact bX12_asked_0 hG ⟨fun _ => ⟨by omega, fun _ => ⟨by omega, by omega, fun q => absurd q q3, fun _ => ⟨by omega, by omega, by rw [(o.2 x1 q2.1 (by omega)).2, show 104 + 2 * x1 + 1 = 105 + 2 * x1 by omega], zJ_rf hJ⟩⟩, fun q => absurd (by omega) q⟩, fun q => absurd q q1⟩
  · exact bX12_asked_0 hG ⟨fun _ => ⟨by omega, fun q => absurd q (by omega), fun _ => ⟨rfl, zJ_rf hJ⟩⟩, fun q => absurd q q1⟩
  · exact bX12_asked_0 hG ⟨fun q => absurd q1 q, fun _ => ⟨by rw [o.1], zJ_rf hJ⟩⟩

end PA

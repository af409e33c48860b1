section PJ
variable {G : zG} {d : Nat} {M : zM} {Q : zV → zM → Prop}
theorem J_sc {M M2 : zM} (hJ : zJ M) (hf : zfr zscr M M2) : zJn M M2 := by
  exact ⟨⟨zsA_c (zfr_sm hf (by decide)) hJ.1, zsI_c (zfr_sm hf (by decide)) hJ.2.1, zJ1_c (zfr_sm hf (by decide)) hJ.2.2.1, zJ2_c (zfr_sm hf (by decide)) hJ.1.2.1.1.2 hJ.2.2.2.1, zJ3_c (zfr_sm hf (by decide)) hJ.2.2.2.2.1, zJ4_c (zfr_sm hf (by decide)) hJ.1.2.1.1.2 hJ.2.2.2.2.2.1, zJ10_c (zfr_sm hf (by decide)) hJ.2.2.2.2.2.2.1, zJ5_c (zfr_sm hf (by decide)) hJ.2.2.2.2.2.2.2.1, zJ6_c (zfr_sm hf (by decide)) hJ.2.2.2.2.2.2.2.2.1, zJ7_c (zfr_sm hf (by decide)) hJ.2.2.2.2.2.2.2.2.2.1, zJ8_c (zfr_sm hf (by decide)) hJ.1.1.2 hJ.2.2.2.2.2.2.2.2.2.2.1, zJ9_c (zfr_sm hf (by decide)) hJ.2.2.2.2.2.2.2.2.2.2.2.1, zJ11_c (zfr_sm hf (by decide)) hJ.1.2.2.1.1.2 hJ.2.2.2.2.2.2.2.2.2.2.2.2.1, zJ12_c (zfr_sm hf (by decide)) hJ.2.2.2.2.2.2.2.2.2.2.2.2.2.1, zJ13_c (zfr_sm hf (by decide)) (zA5 hJ.1) hJ.2.2.2.2.2.2.2.2.2.2.2.2.2.2.1, zJ14_c (zfr_sm hf (by decide)) (zA7 hJ.1) hJ.2.2.2.2.2.2.2.2.2.2.2.2.2.2.2.1, zJ15_c (zfr_sm hf (by decide)) (zA8 hJ.1) hJ.2.2.2.2.2.2.2.2.2.2.2.2.2.2.2.2.1, zJ18_c (zfr_sm hf (by decide)) ⟨zA5 hJ.2.1, zA7 hJ.2.1, zA8 hJ.2.1⟩ hJ.2.2.2.2.2.2.2.2.2.2.2.2.2.2.2.2.2.1, zJ19_c (zfr_sm hf (by decide)) ⟨hJ.2.1.2.1.1.2, hJ.2.1.2.2.1.1.2⟩ hJ.2.2.2.2.2.2.2.2.2.2.2.2.2.2.2.2.2.2.1, zJ16_c (zfr_sm hf (by decide)) hJ.1.1.2 hJ.2.2.2.2.2.2.2.2.2.2.2.2.2.2.2.2.2.2.2.1, zJ17_c (zfr_sm hf (by decide)) hJ.2.1.1.2 hJ.2.2.2.2.2.2.2.2.2.2.2.2.2.2.2.2.2.2.2.2.1, zJF_c (zfr_sm hf (by decide)) hJ.1 hJ.2.2.2.2.2.2.2.2.2.2.2.2.2.2.2.2.2.2.2.1 hJ.2.2.2.2.2.2.2.2.2.2.2.2.2.2.2.2.2.2.2.2.2.1, zJS_c (zfr_sm hf (by decide)) hJ.1.1.2 hJ.2.2.2.2.2.2.2.2.2.2.2.2.2.2.2.2.2.2.2.1 hJ.2.2.2.2.2.2.2.2.2.2.2.2.2.2.2.2.2.2.2.2.2.2.1, (by rw [hf 2 10 (by unfold zhw zhit; decide)]; exact hJ.2.2.2.2.2.2.2.2.2.2.2.2.2.2.2.2.2.2.2.2.2.2.2.1), zJC_c (zfr_sm hf (by decide)) hJ.2.2.2.2.2.2.2.2.2.2.2.2.2.2.2.2.2.2.2.2.2.2.2.2⟩, by rw [hf 2 10 (by unfold zhw zhit; decide)]; omega⟩

theorem J_fd {M M2 : zM} (hJ : zJ M) (hf : zfr [(11, 0, 1000000), (182, 0, 1000000), (183, 0, 1000000), (179, 0, 1000000), (176, 4, 5), (176, 10, 11), (176, 11, 13)] M M2) (hF : zFd M M2) (h11 : M2 176 12 = M 2 10) : zJn M M2 := by
  have hjF : zJF M2 := by
    have e : zTT M2 = zTT M := zTT_e (hf 235 7 (by unfold zhw zhit; decide)) (fun i i0 i1 => by
      have n8 := (hJ.1.2.2.2.2.2.2.2.1).1
      have q := zV7_q hJ.1 i i0 i1
      have a0 : M 235 0 ≤ 12 := hJ.1.1.2
      have w := zfr_sm (S := [(235, 0, 156), (25, 0, 12), (246, 0, 12), (247, 0, 2880)]) hf (by decide)
      refine ⟨w 235 _ (zhit_at 0 rfl ⟨by omega, by omega⟩), w 25 _ (zhit_at 1 rfl ⟨q.1, by unfold zhq; omega⟩), fun W => zaM_e hJ.1 ?_ (w _ _ (zhit_at 0 rfl ⟨by decide, by decide⟩)) (fun i i0 i1 => w _ _ (zhit_at 0 rfl ⟨by omega, by omega⟩)) (w _ _ (zhit_at 2 rfl ⟨q.1, by unfold zhq; omega⟩)) (fun i i0 i1 => w _ _ (zhit_at 3 rfl ⟨by unfold zhq; omega, by unfold zhq; omega⟩))⟩
      have := ((hJ.2.2.2.2.2.2.2.2.2.2.2.2.2.2.2.2.2.2.2.1) _ q.1 q.2).2.1
      unfold zhq; omega)
    unfold zJF zFd
    rw [e, h11, hf 2 10 (by unfold zhw zhit; decide)]
    exact ⟨by omega, Or.inr (Or.inr hF)⟩
  exact ⟨⟨zsA_c (zfr_sm hf (by decide)) hJ.1, zsI_c (zfr_sm hf (by decide)) hJ.2.1, zJ1_c (zfr_sm hf (by decide)) hJ.2.2.1, zJ2_c (zfr_sm hf (by decide)) hJ.1.2.1.1.2 hJ.2.2.2.1, zJ3_c (zfr_sm hf (by decide)) hJ.2.2.2.2.1, zJ4_c (zfr_sm hf (by decide)) hJ.1.2.1.1.2 hJ.2.2.2.2.2.1, zJ10_c (zfr_sm hf (by decide)) hJ.2.2.2.2.2.2.1, zJ5_c (zfr_sm hf (by decide)) hJ.2.2.2.2.2.2.2.1, zJ6_c (zfr_sm hf (by decide)) hJ.2.2.2.2.2.2.2.2.1, zJ7_c (zfr_sm hf (by decide)) hJ.2.2.2.2.2.2.2.2.2.1, zJ8_c (zfr_sm hf (by decide)) hJ.1.1.2 hJ.2.2.2.2.2.2.2.2.2.2.1, zJ9_c (zfr_sm hf (by decide)) hJ.2.2.2.2.2.2.2.2.2.2.2.1, zJ11_c (zfr_sm hf (by decide)) hJ.1.2.2.1.1.2 hJ.2.2.2.2.2.2.2.2.2.2.2.2.1, zJ12_c (zfr_sm hf (by decide)) hJ.2.2.2.2.2.2.2.2.2.2.2.2.2.1, zJ13_c (zfr_sm hf (by decide)) (zA5 hJ.1) hJ.2.2.2.2.2.2.2.2.2.2.2.2.2.2.1, zJ14_c (zfr_sm hf (by decide)) (zA7 hJ.1) hJ.2.2.2.2.2.2.2.2.2.2.2.2.2.2.2.1, zJ15_c (zfr_sm hf (by decide)) (zA8 hJ.1) hJ.2.2.2.2.2.2.2.2.2.2.2.2.2.2.2.2.1, zJ18_c (zfr_sm hf (by decide)) ⟨zA5 hJ.2.1, zA7 hJ.2.1, zA8 hJ.2.1⟩ hJ.2.2.2.2.2.2.2.2.2.2.2.2.2.2.2.2.2.1, zJ19_c (zfr_sm hf (by decide)) ⟨hJ.2.1.2.1.1.2, hJ.2.1.2.2.1.1.2⟩ hJ.2.2.2.2.2.2.2.2.2.2.2.2.2.2.2.2.2.2.1, zJ16_c (zfr_sm hf (by decide)) hJ.1.1.2 hJ.2.2.2.2.2.2.2.2.2.2.2.2.2.2.2.2.2.2.2.1, zJ17_c (zfr_sm hf (by decide)) hJ.2.1.1.2 hJ.2.2.2.2.2.2.2.2.2.2.2.2.2.2.2.2.2.2.2.2.1, hjF, zJS_c (zfr_sm hf (by decide)) hJ.1.1.2 hJ.2.2.2.2.2.2.2.2.2.2.2.2.2.2.2.2.2.2.2.1 hJ.2.2.2.2.2.2.2.2.2.2.2.2.2.2.2.2.2.2.2.2.2.2.1, (by rw [hf 2 10 (by unfold zhw zhit; decide)]; exact hJ.2.2.2.2.2.2.2.2.2.2.2.2.2.2.2.2.2.2.2.2.2.2.2.1), zJC_c (zfr_sm hf (by decide)) hJ.2.2.2.2.2.2.2.2.2.2.2.2.2.2.2.2.2.2.2.2.2.2.2.2⟩, by rw [hf 2 10 (by unfold zhw zhit; decide)]; omega⟩


theorem zth_J (hJ : zJ M) : ∀ t, 0 ≤ t → t < 4 → 0 ≤ M 235 (10 + t) ∧ M 235 (10 + t) ≤ 99 := hJ.1.2.2.2.2.2.2.2.2.2.1
theorem pr_of (hG : zP G) (hJ : zJ M) {x1 x2 : Int} : zPr G d mX11_of mX12_of [(2, 1), (0, x1), (0, x2)] [(2, 234), (0, x1), (0, x2)] M := by
  have o := hJ.2.2.2.2.2.2.2.2.2.2.1
  have n0 : 0 ≤ M 235 0 ∧ M 235 0 ≤ 12 := hJ.1.1
  have h1 := hJ.2.2.1
  have ht := zth_J hJ
  have mid : ∀ {M1 : zM} {Q' : zV → zM → Prop}, zJ M1 → M1 235 0 = M 235 0 → (0 ≤ x1 ∧ x1 < M 235 0) → (0 ≤ x2 ∧ x2 ≤ 4) → (∀ N, zfr zscr M1 N → (∀ t, 0 ≤ t → t < 4 → N 249 t = M1 235 (10 + t)) → zME N → Y G (d + 400) mX12_of 25 [(2, 234), (0, x1), (0, x2)] [] N Q') → Y G (d + 400) mX12_of 0 [(2, 234), (0, x1), (0, x2)] [] M1 Q' := fun {M1 Q'} J1 e a b h => by
    refine bX12_of_0 hG ?_
    rw [e]
    refine ⟨by omega, fun _ => ⟨fun _ => ?_, fun q => absurd b q⟩, fun q => absurd a q⟩
    refine s_worldNow hG J1.1 (fun W U V hW hE => h _ (zfr_row (zfr_row (zfr_row zfr_rfl 6 rfl) 4 rfl) 5 rfl) (fun t t0 t1 => ?_) hE)
    rw [zrow_off (show (249 : Int) ≠ 238 by decide), zrow_off (show (249 : Int) ≠ 237 by decide), zrow_row]
    exact hW t t0 t1
  refine bX11_of_0 hG ?_
  rw [o.1]
  refine ⟨by omega, fun a => ⟨fun b => ?_, fun b => ⟨by omega, ?_⟩, fun b => ⟨by omega, ?_⟩, fun b => ⟨by omega, ?_⟩, fun b => ⟨by omega, ?_⟩, fun b => ?_⟩, fun a => ?_⟩
  · have jq := (hJ.2.2.2.2.2.2.2.2.2.2.2.2.2.2.2.2.2.2.2.1) x1 a.1 a.2
    refine s_cans hG zcq_rf ⟨a.1, by omega⟩ jq (zCE_of (hJ.2.2.2.1) (hJ.2.2.2.2.2.1) (hJ.2.2.2.2.2.2.1)) hJ.1 rfl (by decide) (fun t t0 t1 => by rw [h1 t t0 t1]; exact ht t t0 t1) (fun R => bX11_of_67 hG ?_)
    have J1 := (J_sc hJ (zfr_row (f := R) zfr_rfl 0 rfl)).1
    refine mid J1 (congrFun (zrow_off (by decide)) _) a (by omega) (fun N hN hW hE => bX12_of_25 hG ⟨fun _ => ?_, fun q => absurd q (by omega), fun q => absurd q (by omega), fun q => absurd q (by omega), fun q => absurd q (by omega)⟩)
    have JN := (J_sc J1 hN).1
    have e : ∀ i, 0 ≤ i → i < 156 → N 235 i = M 235 i := fun i i0 i1 => (hN 235 i (by unfold zhw zhit zscr; simp; omega)).trans (congrFun (zrow_off (by decide)) _)
    have eM : ∀ th, zaM N th x1 = zaM M th x1 := fun th => (zaM_c (zfr_sm hN (by decide)) J1.1 ⟨a.1, by omega⟩ ((J1.2.2.2.2.2.2.2.2.2.2.2.2.2.2.2.2.2.2.2.1) x1 a.1 (by rw [zrow_off (show (235 : Int) ≠ 11 by decide)]; exact a.2))).trans (zaM_row (by decide) (by decide) (by decide))
    refine s_mans hG ⟨a.1, by omega⟩ ((JN.2.2.2.2.2.2.2.2.2.2.2.2.2.2.2.2.2.2.2.1) x1 a.1 (by rw [e 0 (by decide) (by decide)]; exact a.2)) JN.1 hE (th := M 3) (fun t t0 t1 => ⟨by rw [hW t t0 t1, zrow_off (show (235 : Int) ≠ 11 by decide), h1 t t0 t1], by rw [h1 t t0 t1]; exact ht t t0 t1⟩) (fun V => bX12_of_61 hG ⟨?_, ?_⟩)
    · have zb := zaM_b (th := M 3) hJ.1 jq (fun t t0 t1 => by rw [h1 t t0 t1]; exact ht t t0 t1)
      rw [eM, zw_of (by unfold zb6 at zb; show -2147483648 ≤ _ ∧ _ ≤ 2147483647; omega)]
    · exact J_sc hJ (zfr_row (zfr_trans (zfr_row zfr_rfl 0 rfl) hN) 7 rfl)
  · have w := (o.2 x1 a.1 a.2).1
    refine mid hJ rfl a (by omega) (fun N hN _ _ => bX12_of_25 hG ⟨fun q => absurd q (by omega), fun q => ⟨by omega, by omega, by omega, ?_, ?_⟩, fun q => absurd q (by omega), fun q => absurd q (by omega), fun q => absurd q (by omega)⟩)
    · rw [hN 248 _ (by unfold zhw zhit zscr; simp; omega), w.2.2.1]
    · exact J_sc hJ hN
  · have w := (o.2 x1 a.1 a.2).1
    refine mid hJ rfl a (by omega) (fun N hN _ _ => bX12_of_25 hG ⟨fun q => absurd q (by omega), fun q => absurd q (by omega), fun q => ⟨by omega, by omega, by omega, ?_, ?_⟩, fun q => absurd q (by omega), fun q => absurd q (by omega)⟩)
    · rw [hN 248 _ (by unfold zhw zhit zscr; simp; omega), w.2.1]
    · exact J_sc hJ hN
  · have w := (o.2 x1 a.1 a.2).1
    refine mid hJ rfl a (by omega) (fun N hN _ _ => bX12_of_25 hG ⟨fun q => absurd q (by omega), fun q => absurd q (by omega), fun q => absurd q (by omega), fun q => ⟨by omega, by omega, ?_, ?_⟩, fun q => absurd q (by omega)⟩)
    · rw [hN 248 _ (by unfold zhw zhit zscr; simp; omega), w.1]
    · exact J_sc hJ hN
  · have w := (o.2 x1 a.1 a.2).1
    refine mid hJ rfl a (by omega) (fun N hN _ _ => bX12_of_25 hG ⟨fun q => absurd q (by omega), fun q => absurd q (by omega), fun q => absurd q (by omega), fun q => absurd q (by omega), fun q => ⟨by omega, by omega, by omega, ?_, ?_⟩⟩)
    · rw [hN 248 _ (by unfold zhw zhit zscr; simp; omega), w.2.2.2]
    · exact J_sc hJ hN
  · refine bX12_of_0 hG ⟨by omega, fun _ => ⟨fun q => absurd q (by omega), fun _ => ⟨rfl, zJ_rf hJ⟩⟩, fun q => absurd a q⟩
  · exact bX12_of_0 hG ⟨by omega, fun q => absurd q a, fun _ => ⟨rfl, zJ_rf hJ⟩⟩


/-- what a question comes to in a world, on the class's side -/
theorem s_cat (hG : zP G) (hJ : zJ M) {q : Int} (hq : 0 ≤ q ∧ q < M 235 0) {N : zM} (hN : zfr zscr M N) (h9 : zd9 (N 182)) (h : ∀ R, Q (0, zaM M (zcw (N 182)) q) (zrow N 11 R)) : Y G (d + 4) mX3_answerIn 0 [(2, 19), (0, q), (2, 2), (2, 182), (9, 0)] [] N Q := by
  have JN := (J_sc hJ hN).1
  have n0 : 0 ≤ M 235 0 ∧ M 235 0 ≤ 12 := hJ.1.1
  have e : N 235 0 = M 235 0 := hN 235 0 (by unfold zhw zhit; decide)
  have jq := (hJ.2.2.2.2.2.2.2.2.2.2.2.2.2.2.2.2.2.2.2.1) q hq.1 hq.2
  refine s_cans hG zcq_rf ⟨hq.1, by omega⟩ (JN.2.2.2.2.2.2.2.2.2.2.2.2.2.2.2.2.2.2.2.1 q hq.1 (by rw [e]; exact hq.2)) (zCE_of (JN.2.2.2.1) (JN.2.2.2.2.2.1) (JN.2.2.2.2.2.2.1)) JN.1 rfl (by decide) (fun t t0 t1 => by have := h9 t t0 t1; omega) (fun R => ?_)
  rw [zaM_c (zfr_sm hN (by decide)) hJ.1 ⟨hq.1, by omega⟩ jq, zaM_t jq (th' := zcw (N 182)) (fun t t0 t1 => (zcw_at ⟨t0, t1⟩).symm)]
  exact h R
theorem s_mat (hG : zP G) (hJ : zJ M) {q : Int} (hq : 0 ≤ q ∧ q < M 235 0) (hE : zME M) {N : zM} (hN : zfr [(249, 0, 1000000), (250, 0, 1000000)] M N) (h9 : zd9 (N 249)) (h : ∀ R, Q (1, zaM M (zcw (N 249)) q) (zrow N 250 R)) : Y G (d + 2) mX12_answerOf 0 [(2, 234), (0, q), (9, 0), (9, 0), (9, 0), (9, 0), (9, 0), (9, 0), (9, 0), (9, 0)] [] N Q := by
  have JN := (J_sc hJ (zfr_sub hN (by decide))).1
  have n0 : 0 ≤ M 235 0 ∧ M 235 0 ≤ 12 := hJ.1.1
  have e : N 235 0 = M 235 0 := hN 235 0 (by unfold zhw zhit; decide)
  have jq := (hJ.2.2.2.2.2.2.2.2.2.2.2.2.2.2.2.2.2.2.2.1) q hq.1 hq.2
  refine s_mans hG ⟨hq.1, by omega⟩ (JN.2.2.2.2.2.2.2.2.2.2.2.2.2.2.2.2.2.2.2.1 q hq.1 (by rw [e]; exact hq.2)) JN.1 (zME_c (zfr_sm hN (by decide)) hJ.1 hE) (th := zcw (N 249)) (fun t t0 t1 => ⟨(zcw_at ⟨t0, t1⟩).symm, by rw [zcw_at ⟨t0, t1⟩]; have := h9 t t0 t1; omega⟩) (fun R => ?_)
  rw [zaM_c (zfr_sm hN (by decide)) hJ.1 ⟨hq.1, by omega⟩ jq]
  exact h R
theorem pr_parted (hG : zP G) (hJ : zJ M) {x1 x2 x3 : Int} : zPr G d mX11_parted mX12_parted [(2, 1), (0, x1), (0, x2), (0, x3)] [(2, 234), (0, x1), (0, x2), (0, x3), (9, 0), (9, 0), (9, 0), (9, 0)] M := by
  have o := hJ.2.2.2.2.2.2.2.2.2.2.1
  have n0 : 0 ≤ M 235 0 ∧ M 235 0 ≤ 12 := hJ.1.1
  have no : ¬ ((0 ≤ x1 ∧ x1 < M 235 0) ∧ (0 ≤ x2 ∧ x2 < M 235 0) ∧ 0 ≤ x3 ∧ x3 ≤ 3) → Y G (d + 400) mX12_parted 0 [(2, 234), (0, x1), (0, x2), (0, x3), (9, 0), (9, 0), (9, 0), (9, 0)] [] M (fun r2 M2 => r2 = (0, -1) ∧ zJn M M2) := fun q =>
    bX12_parted_0 hG ⟨by omega, fun a => ⟨by omega, fun b => ⟨fun c => absurd ⟨a, b, c⟩ q, fun _ => ⟨rfl, zJ_rf hJ⟩⟩, fun _ => ⟨rfl, zJ_rf hJ⟩⟩, fun _ => ⟨rfl, zJ_rf hJ⟩⟩
  refine bX11_parted_0 hG ?_
  rw [o.1]
  refine ⟨by omega, fun a => ⟨by omega, fun b => ⟨fun c => ?_, fun c => no (fun q => c q.2.2)⟩, fun b => no (fun q => b q.2.1)⟩, fun a => no (fun q => a q.1)⟩
  have w1 := o.2 x1 a.1 a.2
  have w2 := o.2 x2 b.1 b.2
  have wr := zbt_or (t := 0) w1.2.1 w2.2.1
  -- the model, once the class has said r
  have mo : ∀ (M1 : zM) (Q' : zV → zM → Prop), zfr zscr M M1 → (∀ N, zfr zscr M N → Q' (0, match zpt (fun W => zaM M W x1) (fun W => zaM M W x2) (zbt (zor (M 25 x1) (M 25 x2))) 10000 (fun _ => 0) with | none => -1 | some V => V x3) N) → Y G (d + 400) mX12_parted 0 [(2, 234), (0, x1), (0, x2), (0, x3), (9, 0), (9, 0), (9, 0), (9, 0)] [] M1 Q' := fun M1 Q' h1 h => by
    have J1 := (J_sc hJ h1).1
    have e : M1 235 0 = M 235 0 := h1 235 0 (by unfold zhw zhit; decide)
    have e1 : M1 248 (4 * x1) = M 25 x1 := (h1 248 _ (by unfold zhw zhit zscr; simp; omega)).trans w1.1.1.symm
    have e2 : M1 248 (4 * x2) = M 25 x2 := (h1 248 _ (by unfold zhw zhit zscr; simp; omega)).trans w2.1.1.symm
    refine bX12_parted_0 hG ?_
    rw [e, e1, e2]
    refine ⟨by omega, fun _ => ⟨by omega, fun _ => ⟨fun _ => ⟨by omega, by omega, by omega, by omega, ?_⟩, fun q => absurd c q⟩, fun q => absurd b q⟩, fun q => absurd a q⟩
    refine s_firstWorld hG J1.1 (fun U V W hW hE => bX12_parted_53 hG ?_)
    have hN : zfr zscr M1 (zrow (zrow (zrow M1 237 U) 238 V) 249 W) := zfr_row (zfr_row (zfr_row zfr_rfl 4 rfl) 5 rfl) 6 rfl
    have JN := (J_sc J1 hN).1
    have hEN : zME (zrow (zrow (zrow M1 237 U) 238 V) 249 W) := zME_row (by decide) (by decide) (by decide) hE
    have hMN := zfr_trans h1 hN
    generalize hNN : zrow (zrow (zrow M1 237 U) 238 V) 249 W = N at *
    have eN : N 235 0 = M 235 0 := hMN 235 0 (by unfold zhw zhit; decide)
    have eW : N 249 = W := by rw [← hNN, zrow_row]
    have eM : ∀ q, 0 ≤ q → q < M 235 0 → ∀ th, zaM N th q = zaM M th q := fun q q0 q1 th => zaM_c (zfr_sm hMN (by decide)) hJ.1 ⟨q0, by omega⟩ ((hJ.2.2.2.2.2.2.2.2.2.2.2.2.2.2.2.2.2.2.2.1) q q0 q1)
    have z9 : zd9 (N 249) := fun t t0 t1 => by rw [eW, hW t t0 t1]; omega
    have zc : zcw (N 249) = fun _ => 0 := by
      funext t; unfold zcw; rw [eW]
      by_cases q : 0 ≤ t ∧ t < 4
      · rw [if_pos q, hW t q.1 q.2]
      · rw [if_neg q]
    refine s_mfp (M := N) (b := zbt (zor (M 25 x1) (M 25 x2))) hG (fun t t0 t1 => (zbt_15 wr.1 ⟨t0, t1⟩).2) (zbt_15 (t := 0) wr.1 (by decide)).1 c (f := fun W => zaM M W x1) (g := fun W => zaM M W x2) (r := zpt (fun W => zaM M W x1) (fun W => zaM M W x2) (zbt (zor (M 25 x1) (M 25 x2))) 10000 (fun _ => 0)) (fun N' hN' h9 Q'' hq => ?_) (fun N' hN' h9 Q'' hq => ?_) (fun V hr N' hN' => ?_) (fun hr N' hN' => ?_) 10000 N ?_ zfr_rfl z9 (by rw [zc])
    · refine s_mat hG JN (by rw [eN]; exact a) hEN hN' h9 (fun R => ?_)
      rw [eM x1 a.1 a.2]; exact hq R
    · refine s_mat hG JN (by rw [eN]; exact b) hEN hN' h9 (fun R => ?_)
      rw [eM x2 b.1 b.2]; exact hq R
    · have := h N' (zfr_trans hMN (zfr_sub hN' (by decide)))
      rw [hr] at this; exact this
    · have := h N' (zfr_trans hMN (zfr_sub hN' (by decide)))
      rw [hr] at this; exact this
    · have := (zwi_9 z9).1; omega
  refine bX0_findParting_0 hG ⟨fun ne => ⟨by omega, by omega, ?_⟩, fun eq => bX11_parted_44 hG ⟨fun _ => ?_, fun q => absurd rfl q⟩⟩
  · refine s_fill (nr0 := 4) hG rfl (by decide) (bX0_findParting_30 hG ?_)
    have zc : zcw (zrow M 182 (zfil (M 182) 0 (4 : Nat)) 182) = fun _ => 0 := by
      funext t; unfold zcw; rw [zrow_row]; unfold zfil
      by_cases q : 0 ≤ t ∧ t < 4
      · rw [if_pos q, if_pos (by omega)]
      · rw [if_neg q]
    have z9 : zd9 (zrow M 182 (zfil (M 182) 0 (4 : Nat)) 182) := fun t t0 t1 => by
      rw [zrow_row]; unfold zfil; rw [if_pos (by omega)]; omega
    refine s_cfp (M := M) hG wr.1 (f := fun W => zaM M W x1) (g := fun W => zaM M W x2) (r := zpt (fun W => zaM M W x1) (fun W => zaM M W x2) (zbt (zor (M 25 x1) (M 25 x2))) 10000 (fun _ => 0)) (fun N' hN' h9 Q'' hq => s_cat hG hJ a hN' h9 hq) (fun N' hN' h9 Q'' hq => s_cat hG hJ b hN' h9 hq) (fun V hr N' hN' hV => ?_) (fun hr N' hN' => ?_) 10000 0 _ (by omega) (by omega) (zfr_row zfr_rfl 1 rfl) z9 (by rw [zc])
    · refine bX11_parted_44 hG ⟨fun q => absurd q (by decide), fun _ => ⟨by omega, ?_⟩⟩
      refine mo N' _ hN' (fun N h => ⟨?_, J_sc hJ h⟩)
      rw [hr]
      show (0, V x3) = (0, N' 182 x3)
      rw [← hV, zcw_at ⟨c.1, by omega⟩]
    · refine bX11_parted_44 hG ⟨fun _ => ?_, fun q => absurd rfl q⟩
      refine mo N' _ hN' (fun N h => ⟨?_, J_sc hJ h⟩)
      rw [hr]
  · subst eq
    refine mo M _ zfr_rfl (fun N h => ⟨?_, J_sc hJ h⟩)
    rw [zpt_eq]

end PJ

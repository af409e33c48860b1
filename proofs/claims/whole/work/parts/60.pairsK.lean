section PK
variable {G : zG} {d : Nat} {M : zM} {Q : zV → zM → Prop}
/-- what is needed of the questions stays while the worlds are looked through -/
theorem J_scw (hJ : zJ M) {N : zM} (hf : zfr (zscr ++ [(183, 0, 1000000), (176, 10, 11), (176, 11, 13)]) M N) : (zJ16 N ∧ zJ2 N ∧ zJ4 N ∧ zJ10 N ∧ zVA (N 235)) ∧ zfr (zscr ++ [(183, 0, 1000000), (176, 10, 11), (176, 11, 13)]) M N := ⟨⟨zJ16_c (zfr_sm hf (by decide)) hJ.1.1.2 hJ.2.2.2.2.2.2.2.2.2.2.2.2.2.2.2.2.2.2.2.1, zJ2_c (zfr_sm hf (by decide)) hJ.1.2.1.1.2 hJ.2.2.2.1, zJ4_c (zfr_sm hf (by decide)) hJ.1.2.1.1.2 hJ.2.2.2.2.2.1, zJ10_c (zfr_sm hf (by decide)) hJ.2.2.2.2.2.2.1, zsA_c (zfr_sm hf (by decide)) hJ.1⟩, hf⟩


/-- the i-th question heard, its words -/
theorem zhq_J (hJ : zJ M) {i : Int} (i0 : 0 ≤ i) (i1 : i < M 235 7) : (0 ≤ zhq M i ∧ zhq M i < M 235 0) ∧ M 178 i = zhq M i ∧ (0 ≤ M 25 (zhq M i) ∧ M 25 (zhq M i) ≤ 32767) ∧ M 248 (4 * zhq M i) = M 25 (zhq M i) := by
  have q : 0 ≤ zhq M i ∧ zhq M i < M 235 0 := zV7_q hJ.1 i i0 i1
  have o := (hJ.2.2.2.2.2.2.2.2.2.2.1).2 _ q.1 q.2
  exact ⟨q, ((hJ.2.2.2.2.2.2.2.2.2.2.2.2.2.2.2.1).2 i i0 i1).2, o.2.1, o.1.1.symm⟩
theorem zwb_J (hJ : zJ M) : 0 ≤ zwb M ∧ zwb M ≤ 32767 := zwm_b _ (fun i i0 i1 => (zhq_J hJ i0 (by omega)).2.2.1)
/-- the class's first loop -/
theorem s_c33 (hG : zP G) (hJ : zJ M) {n : Nat} (hn : M 235 7 = n)
    (h : ∀ (N : zM) (m : Nat), zfr [(179, 0, 1000000), (176, 4, 5)] M N → N 176 4 = m → m ≤ 8 → zswl (N 179) (zhq M) m n → Y G (d + 5) mX0_countWorlds 33 [(2, 176), (2, 19), (2, 2), (0, zwb M), (0, (n : Int)), (9, 0)] [] N Q) :
    ∀ (k i : Nat) (N : zM) (m : Nat), i + k = n → m ≤ i → zfr [(179, 0, 1000000), (176, 4, 5)] M N → N 176 4 = m → zswl (N 179) (zhq M) m i → Y G (d + 5) mX0_countWorlds 33 [(2, 176), (2, 19), (2, 2), (0, zwm (M 25) (zhq M) i), (0, (i : Int)), (9, 0)] [] N Q
  | 0, i, N, m, hi, hm, hN, h4, hs => by
    have e : i = n := by omega
    subst e
    have w : zwm (M 25) (zhq M) i = zwb M := by unfold zwb; rw [hn]; rfl
    have n8 := (hJ.1.2.2.2.2.2.2.2.1).1
    rw [w]
    exact h N m hN h4 (by omega) hs
  | k + 1, i, N, m, hi, hm, hN, h4, hs => by
    have n8 := (hJ.1.2.2.2.2.2.2.2.1).1
    have n0 : 0 ≤ M 235 0 ∧ M 235 0 ≤ 12 := hJ.1.1
    obtain ⟨q1, q2, q3, q4⟩ := zhq_J hJ (i := i) (by omega) (by omega)
    have e2 : N 176 2 = n := by rw [hN 176 2 (by unfold zhw zhit; decide), (hJ.2.2.2.2.2.2.2.2.2.2.2.2.2.2.2.1).1, hn]
    have e178 : N 178 i = zhq M i := by rw [hN 178 i (by unfold zhw zhit; simp; omega), q2]
    have e25 : N 25 (zhq M i) = M 25 (zhq M i) := hN 25 _ (by unfold zhw zhit; simp; omega)
    refine bX0_countWorlds_33 hG ?_
    rw [e2, e178, e25]
    refine ⟨fun c => absurd c (by omega), fun _ => ⟨by omega, by omega, by omega, ?_⟩⟩
    refine bX0_addUnlike_0 hG (s_unl hG h4 (by omega) (fun ⟨kk, k0, k1, ke⟩ => bX0_countWorlds_68 hG ⟨by omega, ?_⟩) (bX0_countWorlds_68 hG ⟨by omega, ?_⟩) m 0 (by omega))
    · refine s_c33 hG hJ hn h k (i + 1) _ (m + 1) (by omega) (by omega) (zfr_set (zfr_set hN (zhit_at 0 rfl ⟨by omega, by omega⟩)) (zhit_at 1 rfl ⟨by decide, by decide⟩)) (by rw [zset_same]; omega) ⟨fun a a0 a1 => ?_, fun j j0 j1 => ?_⟩
      · rw [zset_off (show (179 : Int) ≠ 176 by decide)]
        by_cases c : a = m
        · exact ⟨i, by omega, by omega, by rw [c, zset_same]⟩
        · rw [zset_ne (fun q => c q.2)]
          obtain ⟨j, j0, j1, je⟩ := hs.1 a a0 (by omega)
          exact ⟨j, j0, by omega, je⟩
      · rw [zset_off (show (179 : Int) ≠ 176 by decide)]
        by_cases c : j = i
        · exact ⟨m, by omega, by omega, by rw [c, zset_same]⟩
        · obtain ⟨a, a0, a1, ae⟩ := hs.2 j j0 (by omega)
          exact ⟨a, a0, by omega, by rw [zset_ne (fun q => by have := q.2; omega)]; exact ae⟩
    · refine s_c33 hG hJ hn h k (i + 1) N m (by omega) (by omega) hN h4 ⟨fun a a0 a1 => ?_, fun j j0 j1 => ?_⟩
      · obtain ⟨j, j0, j1, je⟩ := hs.1 a a0 a1
        exact ⟨j, j0, by omega, je⟩
      · by_cases c : j = i
        · exact ⟨kk, k0, k1, by rw [ke, c]⟩
        · exact hs.2 j j0 (by omega)
abbrev zcwF : List (Int × Int × Int) := [(11, 0, 1000000), (182, 0, 1000000), (183, 0, 1000000), (179, 0, 1000000), (176, 4, 5), (176, 10, 11), (176, 11, 13)]
theorem zTT_len : (zTT M).length ≤ 10000 := zwfl_len 10000 _
theorem s_ccount (hG : zP G) (hJ : zJ M) (h : ∀ N, zfr zcwF M N → zFd M N → N 176 12 = M 2 10 → Q (0, ((zTT M).length : Int)) N) : Y G (d + 6) mX0_countWorlds 0 [(2, 176), (2, 19), (2, 2), (9, 0), (9, 0), (9, 0)] [] M Q := by
  have jF := hJ.2.2.2.2.2.2.2.2.2.2.2.2.2.2.2.2.2.2.2.2.2.1
  have n8 := (hJ.1.2.2.2.2.2.2.2.1).1
  have n0 : 0 ≤ M 235 0 ∧ M 235 0 ≤ 12 := hJ.1.1
  obtain ⟨n, hn⟩ := Int.eq_ofNat_of_zero_le n8.1
  have main : Y G (d + 6) mX0_countWorlds 33 [(2, 176), (2, 19), (2, 2), (0, 0), (0, 0), (9, 0)] [] (zset M 176 4 0) Q := by
    refine s_c33 (d := d + 1) hG hJ hn (fun N m hN h4 hm hs => ?_) n 0 (zset M 176 4 0) 0 (by omega) (by omega) (zfr_set zfr_rfl (zhit_at 1 rfl ⟨by decide, by decide⟩)) zset_same ⟨fun a a0 a1 => absurd a1 (by omega), fun j j0 j1 => absurd j1 (by omega)⟩
    have e2 : N 176 2 = n := by rw [hN 176 2 (by unfold zhw zhit; decide), (hJ.2.2.2.2.2.2.2.2.2.2.2.2.2.2.2.1).1, hn]
    refine bX0_countWorlds_33 hG ⟨fun _ => ?_, fun c => absurd c (by omega)⟩
    refine s_fill (nr0 := 4) hG rfl (by decide) (bX0_countWorlds_82 hG ?_)
    have hN1 : zfr zcwF M (zset (zrow N 182 (zfil (N 182) 0 (4 : Nat))) 176 10 0) := zfr_set (zfr_row (zfr_sub hN (by decide)) 1 rfl) (zhit_at 5 rfl ⟨by decide, by decide⟩)
    have hsc : ∀ N', zfr zcwF M N' → zfr (zscr ++ [(183, 0, 1000000), (176, 10, 11), (176, 11, 13)]) M N' := fun N' h => zfr_sub h (by decide)
    have r0 : zset (zrow N 182 (zfil (N 182) 0 (4 : Nat))) 176 10 0 182 = zfil (N 182) 0 (4 : Nat) := by rw [zset_off (by decide), zrow_row]
    have r1 : zset (zrow N 182 (zfil (N 182) 0 (4 : Nat))) 176 10 0 179 = N 179 := by rw [zset_off (by decide), zrow_off (by decide)]
    have r2 : zset (zrow N 182 (zfil (N 182) 0 (4 : Nat))) 176 10 0 176 4 = m := by simp only [zset_ap, zrow_ap, Int.reduceEq, ↓reduceIte]; exact h4
    have r3 : zset (zrow N 182 (zfil (N 182) 0 (4 : Nat))) 176 10 0 176 10 = 0 := zset_same
    generalize zset (zrow N 182 (zfil (N 182) 0 (4 : Nat))) 176 10 0 = N1 at *
    have zc : zcw (N1 182) = fun _ => 0 := by
      funext t; unfold zcw; rw [r0]; unfold zfil
      by_cases q : 0 ≤ t ∧ t < 4
      · rw [if_pos q, if_pos (by omega)]
      · rw [if_neg q]
    have z9 : zd9 (N1 182) := fun t t0 t1 => by rw [r0]; unfold zfil; rw [if_pos (by omega)]; omega
    refine s_cwl (M := N1) hG (zwb_J hJ) (K := zKK M) (T := zTT M) zTT_len (fun N2 hN2 h9 Q' hq => ?_) (fun N2 hN2 hc hl => ?_) 10000 0 1 N1 [] (by omega) (by omega) zfr_rfl (Or.inr ⟨rfl, z9, by rw [zc]; rfl⟩) r3 (fun k k0 k1 => absurd k1 (by show ¬ k < 0; omega))
    · have eK : zKK M (zcw (N2 182)) = zal (fun k => zaM M (zcw (N2 182)) (N1 179 k)) m := by
        rw [r1, zswl_al (F := fun q => zaM M (zcw (N2 182)) q) hs]
        unfold zKK; rw [hn]; rfl
      rw [eK] at hq
      have e4 : N2 176 4 = m := by rw [hN2 176 4 (by unfold zhw zhit; decide), r2]
      refine s_coa (m := m) (g := fun k => zaM M (zcw (N2 182)) (N1 179 k)) hG e4 hm (fun i R i0 i1 Q'' hq' => ?_) hq
      have e179 : N2 179 i = N1 179 i := hN2 179 i (by unfold zhw zhit; simp; omega)
      obtain ⟨j, j0, j1, je⟩ := hs.1 i i0 i1
      have w := (zhq_J hJ j0 (by omega)).1
      rw [e179, r1, je]
      rw [r1, je] at hq'
      have JN := J_scw hJ (hsc _ (zfr_row (f := R) (zfr_trans hN1 (zfr_sub hN2 (by decide))) 0 rfl))
      generalize hX : zrow N2 11 R = X at *
      have jq := (hJ.2.2.2.2.2.2.2.2.2.2.2.2.2.2.2.2.2.2.2.1) _ w.1 w.2
      have x235 : X 235 0 = M 235 0 := JN.2 235 0 (by unfold zhw zhit; decide)
      have x182 : X 182 = N2 182 := by rw [← hX, zrow_off (by decide)]
      refine s_cans hG zcq_rf ⟨w.1, by omega⟩ (JN.1.1 _ w.1 (by rw [x235]; exact w.2)) (zCE_of JN.1.2.1 JN.1.2.2.1 JN.1.2.2.2.1) JN.1.2.2.2.2 rfl (by decide) (fun t t0 t1 => by rw [x182]; have := h9 t t0 t1; omega) (fun R2 => ?_)
      rw [zaM_c (zfr_sm JN.2 (by decide)) hJ.1 ⟨w.1, by omega⟩ jq, x182, zaM_t jq (th' := zcw (N2 182)) (fun t t0 t1 => (zcw_at ⟨t0, t1⟩).symm), ← hX, zrow_two]
      exact hq' R2
    · have hN3 := zfr_trans hN1 (zfr_sub hN2 (by decide))
      rw [hc]
      refine h _ (zfr_set (zfr_set hN3 (zhit_at 6 rfl ⟨by decide, by decide⟩)) (zhit_at 6 rfl ⟨by decide, by decide⟩)) ⟨?_, fun k k0 k1 => ?_⟩ ?_
      · simp only [zset_ap, Int.reduceEq, ↓reduceIte]; exact hc
      · simp only [zset_ap, Int.reduceEq, ↓reduceIte]; exact hl k k0 k1
      · rw [zset_same]; exact hN3 2 10 (by unfold zhw zhit; decide)
  refine bX0_countWorlds_0 hG ⟨fun _ => main, fun a => ⟨fun _ => main, fun b => ?_⟩⟩
  rcases jF.2 with c | c | c
  · exact absurd c a
  · exact absurd b c
  · rw [c.1]; exact h M zfr_rfl c b
theorem s_mw11 (hG : zP G) (hJ : zJ M) {x1 : Int} {n : Nat} (hn : M 235 7 = n) (h : ∀ x2, (0 ≤ x2 ∧ x2 ≤ 32767) → (∀ t, 0 ≤ t → t < 4 → zbt x2 t = zbt (zwb M) t) → Y G (d + 4) mX12_worlds 11 [(2, 234), (0, x1), (0, x2), (0, (n : Int)), (9, 0)] [] M Q) : ∀ (k i : Nat) (x2 : Int), i + k = n → (0 ≤ x2 ∧ x2 ≤ 32767) → (∀ t, 0 ≤ t → t < 4 → zbt x2 t = zbt (zwm (M 25) (zhq M) i) t) → Y G (d + 4) mX12_worlds 11 [(2, 234), (0, x1), (0, x2), (0, (i : Int)), (9, 0)] [] M Q
  | 0, i, x2, hi, hx, hb => by
    have e : i = n := by omega
    subst e
    have w : zwm (M 25) (zhq M) i = zwb M := by unfold zwb; rw [hn]; rfl
    rw [w] at hb
    exact h x2 hx hb
  | k + 1, i, x2, hi, hx, hb => by
    have n8 := (hJ.1.2.2.2.2.2.2.2.1).1
    have n0 : 0 ≤ M 235 0 ∧ M 235 0 ≤ 12 := hJ.1.1
    obtain ⟨q1, q2, q3, q4⟩ := zhq_J hJ (i := i) (by omega) (by omega)
    have e1 : M 235 ((116 + 2 * (i : Int)) + 1) = zhq M i := by unfold zhq; rw [show (116 + 2 * (i : Int)) + 1 = 117 + 2 * i by omega]
    have b := zwm_b (w := M 25) (h := zhq M) i (fun j j0 j1 => (zhq_J hJ j0 (by omega)).2.2.1)
    refine bX12_worlds_11 hG ?_
    rw [e1, q4, hn]
    refine ⟨fun c => absurd c (by omega), fun _ => ⟨by omega, by omega, by omega, by omega, by omega, by omega, by omega, ?_⟩⟩
    have z15 := zbt_15 (t := 0) q3 (by decide)
    refine s_mw11 hG hJ hn h k (i + 1) _ (by omega) (zbt_or (t := 0) hx z15.1).1 (fun t t0 t1 => ?_)
    rw [(zbt_or (t := t) hx z15.1).2, (zbt_15 q3 ⟨t0, t1⟩).2, hb t t0 t1]
    exact (zbt_or (t := t) b q3).2.symm
theorem s_mworlds (hG : zP G) (hJ : zJ M) {x1 : Int} (h : ∀ N, zfr zscr M N → Q (0, if x1 = -1 then ((zTT M).length : Int) else zlg (zTT M) x1) N) : Y G (d + 4) mX12_worlds 0 [(2, 234), (0, x1), (9, 0), (9, 0), (9, 0)] [] M Q := by
  have n8 := (hJ.1.2.2.2.2.2.2.2.1).1
  have n0 : 0 ≤ M 235 0 ∧ M 235 0 ≤ 12 := hJ.1.1
  obtain ⟨n, hn⟩ := Int.eq_ofNat_of_zero_le n8.1
  refine bX12_worlds_0 hG ⟨fun a => ?_, fun a => ?_⟩
  · refine s_mw11 hG hJ hn (fun x2 hx hb => ?_) n 0 0 (by omega) (by decide) (fun t t0 t1 => rfl)
    refine bX12_worlds_11 hG ⟨fun _ => ?_, fun c => absurd c (by omega)⟩
    refine s_firstWorld hG hJ.1 (fun U V W hW hE => bX12_worlds_58 hG ?_)
    have hN : zfr zscr M (zrow (zrow (zrow M 237 U) 238 V) 249 W) := zfr_row (zfr_row (zfr_row zfr_rfl 4 rfl) 5 rfl) 6 rfl
    have JN := (J_sc hJ hN).1
    have hEN : zME (zrow (zrow (zrow M 237 U) 238 V) 249 W) := zME_row (by decide) (by decide) (by decide) hE
    have eW : zrow (zrow (zrow M 237 U) 238 V) 249 W 249 = W := zrow_row
    generalize zrow (zrow (zrow M 237 U) 238 V) 249 W = N at *
    have z9 : zd9 (N 249) := fun t t0 t1 => by rw [eW, hW t t0 t1]; omega
    have zc : zcw (N 249) = fun _ => 0 := by
      funext t; unfold zcw; rw [eW]
      by_cases q : 0 ≤ t ∧ t < 4
      · rw [if_pos q, hW t q.1 q.2]
      · rw [if_neg q]
    refine s_mwl (M := N) (b := zbt (zwb M)) (K := zKK M) (v := if x1 = -1 then ((zTT M).length : Int) else zlg (zTT M) x1) hG hb hx (fun N' hN' h9 Q' hq => ?_) (fun N' hN' => h N' (zfr_trans hN (zfr_sub hN' (by decide)))) 10000 0 N ?_ (by omega) zfr_rfl z9 (by omega) ?_
    · have eK : zKK M (zcw (N' 249)) = zal (fun i => zaM M (zcw (N' 249)) (zhq M i)) n := by unfold zKK; rw [hn]; rfl
      rw [eK] at hq
      have e7 : N' 235 7 = n := by rw [hN' 235 7 (by unfold zhw zhit; decide), hN 235 7 (by unfold zhw zhit; decide), hn]
      refine bX12_isOneAnswer_0 hG ?_
      rw [show N' = zrow N' 250 (N' 250) from zrow_self.symm]
      refine s_moa (f := fun i => zaM M (zcw (N' 249)) (zhq M i)) hG e7 (by omega) (fun i R i0 i1 Q'' hq' => ?_) hq n 0 0 _ (by omega) (fun j j0 j1 => absurd j1 (by omega)) (fun z => absurd z (by decide))
      obtain ⟨q1, q2, q3, q4⟩ := zhq_J hJ (i := i) i0 (by omega)
      have eh : N' 235 (116 + 2 * i + 1) = zhq M i := by
        rw [hN' 235 _ (by unfold zhw zhit; simp; omega), hN 235 _ (by unfold zhw zhit zscr; simp; omega), show 116 + 2 * i + 1 = 117 + 2 * i by omega]; rfl
      have eN : N 235 0 = M 235 0 := hN 235 0 (by unfold zhw zhit; decide)
      rw [eh]
      refine s_mat (q := zhq M i) hG JN (by rw [eN]; exact q1) hEN (zfr_row hN' 1 rfl) (by rw [zrow_off (show (249 : Int) ≠ 250 by decide)]; exact h9) (fun R2 => ?_)
      rw [zrow_two, zrow_off (show (249 : Int) ≠ 250 by decide), zaM_c (zfr_sm hN (by decide)) hJ.1 ⟨q1.1, by omega⟩ ((hJ.2.2.2.2.2.2.2.2.2.2.2.2.2.2.2.2.2.2.2.1) _ q1.1 q1.2)]
      exact hq' R2
    · have := (zwi_9 z9).1; omega
    · rw [zc]
      show _ = if x1 = -1 then 0 + ((zTT M).length : Int) else zlg (zTT M) (x1 - 0)
      rw [Int.zero_add, Int.sub_zero]
  · have q := h M zfr_rfl
    rw [if_neg (by omega), zlg_out _ _ (by omega)] at q
    exact q
theorem pr_worlds (hG : zP G) (hJ : zJ M) {x1 : Int} : zPr G d mX11_worlds mX12_worlds [(2, 1), (0, x1), (9, 0)] [(2, 234), (0, x1), (9, 0), (9, 0), (9, 0)] M := by
  have l : (zTT M).length ≤ 10000 := zTT_len
  refine bX11_worlds_0 hG (s_ccount hG hJ (fun N hN hF h12 => ?_))
  have JN := J_fd hJ (zfr_sub hN (by decide)) hF h12
  have eT : zTT N = zTT M := by
    refine zTT_e (hN 235 7 (by unfold zhw zhit; decide)) (fun i i0 i1 => ?_)
    have n8 := (hJ.1.2.2.2.2.2.2.2.1).1
    have q := zV7_q hJ.1 i i0 i1
    have a0 : M 235 0 ≤ 12 := hJ.1.1.2
    have w := zfr_sm (S := [(235, 0, 156), (25, 0, 12), (246, 0, 12), (247, 0, 2880)]) hN (by decide)
    refine ⟨w 235 _ (zhit_at 0 rfl ⟨by omega, by omega⟩), w 25 _ (zhit_at 1 rfl ⟨q.1, by unfold zhq; omega⟩), fun W => zaM_e hJ.1 ?_ (w _ _ (zhit_at 0 rfl ⟨by decide, by decide⟩)) (fun i i0 i1 => w _ _ (zhit_at 0 rfl ⟨by omega, by omega⟩)) (w _ _ (zhit_at 2 rfl ⟨q.1, by unfold zhq; omega⟩)) (fun i i0 i1 => w _ _ (zhit_at 3 rfl ⟨by unfold zhq; omega, by unfold zhq; omega⟩))⟩
    have := ((hJ.2.2.2.2.2.2.2.2.2.2.2.2.2.2.2.2.2.2.2.1) _ q.1 q.2).2.1
    unfold zhq; omega
  have fin : ∀ r, r = (if x1 = -1 then ((zTT M).length : Int) else zlg (zTT M) x1) → Y G (d + 400) mX12_worlds 0 [(2, 234), (0, x1), (9, 0), (9, 0), (9, 0)] [] N (fun r2 M2 => r2 = (0, r) ∧ zJn M M2) := fun r hr => by
    refine s_mworlds hG JN.1 (fun N2 hN2 => ⟨by rw [hr, eT], ?_⟩)
    have := J_sc JN.1 hN2
    exact ⟨this.1, by have := this.2; have := JN.2; have e1 := hN2 2 10 (by unfold zhw zhit; decide); omega⟩
  refine bX11_worlds_15 hG ⟨fun a => ⟨by omega, fun b => ⟨by omega, fin _ ?_⟩, fun b => fin _ ?_⟩, fun a => fin _ (by rw [if_pos a])⟩
  · rw [if_neg a, hF.2 x1 b.1 (by omega)]
  · rw [if_neg a, zlg_out _ _ (by omega)]

end PK

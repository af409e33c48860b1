section PM3
variable {G : zG} {d : Nat} {M P : zM} {Q : zV → zM → Prop}
theorem k_person (hG : zP G) (hJ : zJ P) (hq : zcq P M) (hv : P 2 10 ≤ 1000000000) {x1 x2 x3 : Int} (h : zkr G P M mX12_person [(2, 234), (0, x1), (0, x2), (0, x3), (9, 0)] zRi Q) : Y G (d + 4) mX11_person 0 [(2, 1), (0, x1), (0, x2), (0, x3)] [] M Q := by
  have o := zj_j2 hJ
  have hv0 := zj_ver hJ
  have hn := hJ.1.2.1.1
  have hV1 := hJ.1.2.1.2
  have m10 : M 2 10 = P 2 10 := by rw [hq 2 (by decide)]
  have m4 : M 2 4 = P 235 1 := by rw [hq 2 (by decide)]; exact o.1
  have a0 : ∀ i, (¬ i = 1 ∧ ¬ (14 + 3 * P 235 1 ≤ i ∧ i < 17 + 3 * P 235 1)) → (zset (zset (zset (zset P 235 (14 + 3 * P 235 1) x1) 235 (14 + 3 * P 235 1 + 1) x2) 235 (14 + 3 * P 235 1 + 2) x3) 235 1 (P 235 1 + 1)) 235 i = P 235 i := fun i hi => by simp only [zset_ap, zrow_ap, Int.reduceEq, ↓reduceIte] <;> (repeat' split) <;> first | rfl | omega
  refine s_cperson hG (A := (zset (zset (zset (zset P 235 (14 + 3 * P 235 1) x1) 235 (14 + 3 * P 235 1 + 1) x2) 235 (14 + 3 * P 235 1 + 2) x3) 235 1 (P 235 1 + 1)) 235) m4 hn ⟨by omega, by omega⟩ (fun c c0 c1 => ?_) ?_ ?_ (fun hg T K hT hK => ?_) (fun hg => ?_)
  · have := o.2 c c0 c1
    have := hV1 c c0 c1
    rw [a0 _ (by omega), a0 _ (by omega), hq 5 (by decide), hq 6 (by decide)]
    exact ⟨by omega, by omega, by omega⟩
  · simp only [zset_ap, zrow_ap, Int.reduceEq, ↓reduceIte] <;> (repeat' split) <;> first | rfl | omega
  · simp only [zset_ap, zrow_ap, Int.reduceEq, ↓reduceIte] <;> (repeat' split) <;> first | rfl | omega
  · rw [m10]
    have gb : P 235 1 < 8 := hg.2.2.2.2
    have hf : zfr [(4, 0, 8), (5, 0, 8), (6, 0, 8), (2, 4, 5), (2, 10, 11), (8, 0, 1000000), (10, 0, 1000000), (235, 14, 38), (235, 1, 2)] P (zset (zset (zset (zset (zset (zrow (zrow (zset (zset (zset (zset P 4 (P 235 1) x1) 5 (P 235 1) x2) 6 (P 235 1) x3) 2 4 (P 235 1 + 1)) 10 K) 8 T) 2 10 (P 2 10 + 1)) 235 (14 + 3 * P 235 1) x1) 235 (14 + 3 * P 235 1 + 1) x2) 235 (14 + 3 * P 235 1 + 2) x3) 235 1 (P 235 1 + 1)) := zfr_set (zfr_set (zfr_set (zfr_set (zfr_set (zfr_row (zfr_row (zfr_set (zfr_set (zfr_set (zfr_set zfr_rfl (zhit_at 0 rfl ⟨by omega, by omega⟩)) (zhit_at 1 rfl ⟨by omega, by omega⟩)) (zhit_at 2 rfl ⟨by omega, by omega⟩)) (zhit_at 3 rfl ⟨by decide, by decide⟩)) 6 rfl) 5 rfl) (zhit_at 4 rfl ⟨by decide, by decide⟩)) (zhit_at 7 rfl ⟨by omega, by omega⟩)) (zhit_at 7 rfl ⟨by omega, by omega⟩)) (zhit_at 7 rfl ⟨by omega, by omega⟩)) (zhit_at 8 rfl ⟨by decide, by decide⟩)
    refine h _ _ _ (show -1 ≤ P 235 1 by omega) (zcm_set (zcm_row (zcm_row (zcm_set (zcm_set (zcm_set (zcm_set zcm_rf (by decide)) (by decide)) (by decide)) (by decide)) (by decide)) (by decide)) (by decide)) (zcq_md (zcq_md (zcq_md (zcq_md (zcq_set (zcq_row (zcq_row (zcq_set (zcq_set (zcq_set (zcq_set hq)))) (by decide)) (by decide))) (by decide)) (by decide)) (by decide)) (by decide)) (J_per hJ hg hT hK).1 ⟨zpe_s hJ.1.1.2 (zfr_sm hf (by decide)), ?_⟩ (fun d X Q hX hh => ?_)
    · rw [zset_off (by decide), zset_off (by decide), zset_off (by decide), zset_off (by decide), zset_same]
      exact Int.le_refl _
    · have e1 := zpq_235 hX 1 (by decide) (by decide)
      refine s_mperson (d := d + 9) hG (by rw [e1]; exact hn) (fun _ => ?_) (fun q => absurd hg (by rw [e1] at q; exact q))
      rw [e1]
      exact hh _ (zmq_set (zmq_set (zmq_set (zmq_set (zmq_cl (zmq_clr (zmq_clr (zmq_cl (zmq_cl (zmq_cl (zmq_cl hX.1 (by decide)) (by decide)) (by decide)) (by decide)) (by decide)) (by decide)) (by decide)))))) (zcz_set (zcz_set (zcz_set (zcz_set zcz_rf (by decide)) (by decide)) (by decide)) (by decide))
  · exact zkr_no hJ hq h (by decide) (fun d X Q hX hh => by
      have e1 := zpq_235 hX 1 (by decide) (by decide)
      exact s_mperson (d := d + 9) hG (by rw [e1]; exact hn) (fun q => absurd q (by rw [e1]; exact hg)) (fun _ => hh X hX.1 zcz_rf))
theorem k_road (hG : zP G) (hJ : zJ P) (hq : zcq P M) (hv : P 2 10 ≤ 1000000000) {x1 x2 x3 : Int} (h : zkr G P M mX12_road [(2, 234), (0, x1), (0, x2), (0, x3)] zRb Q) : Y G (d + 3) mX11_road 0 [(2, 1), (0, x1), (0, x2), (0, x3)] [] M Q := by
  have o := zj_j3 hJ
  have hv0 := zj_ver hJ
  have hVr := hJ.1.2.2.2.2.2.2.2.2.2.2
  have m10 : M 2 10 = P 2 10 := by rw [hq 2 (by decide)]
  refine s_croad hG (A := (zset (zset P 235 (38 + 6 * x1 + x2) x3) 235 (38 + 6 * x2 + x1) x3) 235) ⟨by omega, by omega⟩ (fun hg k k0 k1 => ?_) (fun hg T hT => ?_) (fun hg => ?_)
  · have q1 := o k k0 k1
    have q2 := hVr k k0 k1
    obtain ⟨a, b, c, f⟩ := hg
    have e : (zset (zset P 235 (38 + 6 * x1 + x2) x3) 235 (38 + 6 * x2 + x1) x3) 235 (38 + k) = (if k = x2 * 6 + x1 then x3 else if k = x1 * 6 + x2 then x3 else M 7 k) := by rw [hq 7 (by decide), q1]; simp only [zset_ap, zrow_ap, Int.reduceEq, ↓reduceIte] <;> (repeat' split) <;> first | rfl | omega
    refine ⟨e, ?_⟩
    rw [e, hq 7 (by decide), q1]
    split
    · omega
    · split <;> omega
  · rw [m10]
    have hg' := hg
    obtain ⟨a, b, c, f⟩ := hg'
    have hf : zfr [(7, 0, 36), (9, 0, 1000000), (2, 10, 11), (235, 38, 74)] P (zset (zset (zset (zrow (zset (zset P 7 (x1 * 6 + x2) x3) 7 (x2 * 6 + x1) x3) 9 T) 2 10 (P 2 10 + 1)) 235 (38 + 6 * x1 + x2) x3) 235 (38 + 6 * x2 + x1) x3) := zfr_set (zfr_set (zfr_set (zfr_row (zfr_set (zfr_set zfr_rfl (zhit_at 0 rfl ⟨by omega, by omega⟩)) (zhit_at 0 rfl ⟨by omega, by omega⟩)) 1 rfl) (zhit_at 2 rfl ⟨by decide, by decide⟩)) (zhit_at 3 rfl ⟨by omega, by omega⟩)) (zhit_at 3 rfl ⟨by omega, by omega⟩)
    refine h _ _ _ (by decide) (zcm_set (zcm_row (zcm_set (zcm_set zcm_rf (by decide)) (by decide)) (by decide)) (by decide)) (zcq_md (zcq_md (zcq_set (zcq_row (zcq_set (zcq_set hq)) (by decide))) (by decide)) (by decide)) (J_rod hJ hg hT).1 ⟨zpe_s hJ.1.1.2 (zfr_sm hf (by decide)), ?_⟩ (fun d X Q hX hh => ?_)
    · rw [zset_off (by decide), zset_off (by decide), zset_same]
      exact Int.le_refl _
    · exact s_mroad (d := d + 11) hG (fun _ => hh _ (zmq_set (zmq_set (zmq_cl (zmq_clr (zmq_cl (zmq_cl hX.1 (by decide)) (by decide)) (by decide)) (by decide)))) (zcz_set (zcz_set zcz_rf (by decide)) (by decide))) (fun q => absurd hg q)
  · exact zkr_no hJ hq h (by decide) (fun d X Q hX hh => s_mroad (d := d + 11) hG (fun q => absurd q hg) (fun _ => hh X hX.1 zcz_rf))
/-- stock is taken in the class alone, beside P -/
theorem k_stock (hG : zP G) (hJ : zJ P) (hq : zcq P M) (h : ∀ M' P', zcm M M' → zCk P' M' → zpe P P' → P' 2 10 = P 2 10 → (∀ a, 234 ≤ a → P' a = P a) → Q (9, 0) M') : Y G (d + 210) mX11_takeStock 0 [(2, 1)] [] M Q := by
  refine s_stock hG hq hJ (fun N hst e13 hSN hW => ?_)
  have hP' : ∃ P' : zM, (∀ a, a ≤ 233 → P' a = N a) ∧ ∀ a, 234 ≤ a → P' a = P a := ⟨fun a => if a ≤ 233 then N a else P a, fun a ha => if_pos ha, fun a ha => if_neg (by omega)⟩
  obtain ⟨P', r1, r2⟩ := hP'
  have st : zst' P P' := fun a i => by
    by_cases c : a ≤ 233
    · rw [r1 a c, ← hq a c]; exact hst a i
    · rw [r2 a (by omega)]; exact Or.inl rfl
  have hf := zst_fr st
  have rs : ∀ a i, a ≤ 233 → P' a i = N a i := fun a i ha => by rw [r1 a ha]
  have fq : ∀ q eq, zqf P' eq q = zqf P eq q := fun q eq => by unfold zqf; rw [r2 246 (by decide), r2 247 (by decide)]
  have p235 : P' 235 = P 235 := r2 235 (by decide)
  have n12 : P 235 0 ≤ 12 := hJ.1.1.2
  have jS : zJS P' P' := by
    have n1 := hSN.1
    refine ⟨by rw [rs 19 13 (by decide), p235]; exact n1, fun i i0 i1 => ?_⟩
    rw [rs 19 13 (by decide)] at i1
    obtain ⟨a1, a2⟩ := hSN.2 i i0 i1
    refine ⟨⟨by rw [rs _ _ (by omega)]; exact a1.1, ?_⟩, ?_⟩
    · rw [rs 29 i (by decide), rs _ _ (by omega), p235, fq]
      exact zqE_c 40 _ _ _ (fun y y0 y1 => ⟨rs _ _ (by omega), rs _ _ (by omega), rs _ _ (by omega), rs _ _ (by omega)⟩) (fun y y0 y1 => ⟨rs _ _ (by omega), rs _ _ (by omega)⟩) a1.2
    · unfold zlw at *
      rw [rs 30 i (by decide), p235, fq, fq]
      exact ⟨a2.1, a2.2.1, fun s s0 s1 => by rw [fq]; exact a2.2.2 s s0 s1⟩
  have C := zCk_0 hJ (J_stock hJ hf jS).1 hf (by rw [rs 19 13 (by decide)]; exact e13) (fun q q0 q1 => by rw [rs 27 q (by decide)]; exact hW q q0 q1)
  exact h N P' (fun a i ha _ _ => by rcases hst a i with z | z | z | z | z | z | z; exact z; all_goals omega) ⟨C.1, fun a ha => (r1 a ha).symm, C.2.2⟩ (zpe_s n12 (zfr_sm hf (by decide))) ((zfr_sm (S := [(2, 10, 11)]) hf (by decide)) 2 10 (zhit_at 0 rfl (by decide))) r2
theorem k_askN (hG : zP G) (hC : zCk P M) {x1 x2 : Int} (h : zkr G P M mX12_ask [(2, 234), (0, x1), (0, x2)] zRi Q) : Y G (d + 3) mX11_askNow 0 [(2, 1), (0, x1), (0, x2)] [] M Q := by
  have hC' := hC
  obtain ⟨hJ, hs, e13, h27⟩ := hC
  have n12 : 0 ≤ P 235 0 ∧ P 235 0 ≤ 12 := hJ.1.1
  have n2 := hJ.1.2.2.1.1
  have n5 := (zV5_s hJ.1).1
  have rs : ∀ a i, a ≤ 233 → M a i = P a i := fun a i ha => by rw [hs a ha]
  have j13 := zj_j13 hJ
  refine s_askNow (P := P) hG hJ.1 (by rw [rs 157 5 (by decide)]; exact (zj_j11 hJ).1) (by rw [rs 19 8 (by decide)]; exact (zj_j8 hJ).1) (by rw [rs 157 9 (by decide)]; exact j13.1) (fun i i0 i1 => ⟨by rw [rs 163 i (by decide)]; exact (j13.2 i i0 i1).1, by rw [rs 164 i (by decide)]; exact (j13.2 i i0 i1).2⟩) (fun hp hq => ?_) (fun b => by rw [rs 27 _ (by decide)]; exact h27 _ b.1 b.2) (by rw [rs 157 6 (by decide)]; exact zj_j12 hJ) (zCk_S hs (zj_jS hJ) n12.2) (by rw [rs 19 13 (by decide)]; exact e13) (fun a b c => ?_) (fun no => ?_)
  · rw [zlac_eq hJ hp hq]
    unfold zlac
    rw [rs 25 x2 (by decide), rs 26 x2 (by decide), rs 24 x2 (by decide), rs 23 x2 (by decide), rs 159 x1 (by decide), rs 160 x1 (by decide), rs 161 x1 (by decide), rs 162 x1 (by decide)]
  · have C := zCk_ak hC' a b (zwhy_0 c)
    have rm := zroom hJ.1 a (zwhy_0 c)
    have hf : zfr [(163, 0, 1000000), (164, 0, 1000000), (157, 9, 10), (235, 104, 116), (235, 5, 6)] P (zak P x1 x2) := zfr_set (zfr_set (zfr_set (zfr_set (zfr_set (zfr_set zfr_rfl (zhit_at 0 rfl (by omega))) (zhit_at 1 rfl (by omega))) (zhit_at 2 rfl (by decide))) (zhit_at 3 rfl (by omega))) (zhit_at 3 rfl (by omega))) (zhit_at 4 rfl (by decide))
    exact h _ _ _ (show -1 ≤ P 235 5 + 1 by omega) (zcm_set (zcm_set (zcm_set zcm_rf (by decide)) (by decide)) (by decide)) C.2.1 C.1 (zpe_f n12.2 hf (by decide) (by decide)) (fun d X Q hX hh => l_ask (d := d + 3) hG hJ hX a b (fun _ X' z1 z2 => hh X' z1.1 z2) (fun z => absurd c z))
  · refine zkr_no hJ hs h (by decide) (fun d X Q hX hh => ?_)
    by_cases v : (0 ≤ x1 ∧ x1 < P 235 2) ∧ (0 ≤ x2 ∧ x2 < P 235 0)
    · exact l_ask (d := d + 3) hG hJ hX v.1 v.2 (fun z => absurd ⟨v.1, v.2, z⟩ no) (fun _ X' z1 z2 => hh X' z1.1 z2)
    · have e2 := zpq_235 hX 2 (by decide) (by decide)
      have e0 := zpq_235 hX 0 (by decide) (by decide)
      have fin : Y G (d + 11 + 1) mX12_ask 6 [(2, 234), (0, x1), (0, x2)] [(0, -1)] X Q := bX12_ask_6 hG ⟨fun z => absurd z (by decide), fun _ => hh X hX.1 zcz_rf⟩
      refine bX12_ask_0 hG (bX12_why_0 hG ?_)
      rw [e2, e0]
      exact ⟨by omega, fun c1 => ⟨by omega, fun c2 => absurd ⟨c1, c2⟩ v, fun _ => fin⟩, fun _ => fin⟩
/-- a morning changes who has asked, and nothing else -/
def zkp (P P' : zM) : Prop := ∀ a i, ¬ a = 163 → ¬ a = 164 → ¬ a = 157 → ¬ (a = 235 ∧ (i = 5 ∨ 104 ≤ i)) → P' a i = P a i
theorem zkp_ak {p q : Int} (h5 : 0 ≤ P 235 5) : zkp P (zak P p q) := fun a i h1 h2 h3 h4 => zak_o (fun z => h1 z.1) (fun z => h2 z.1) (fun z => h3 z.1) (fun z => h4 (by omega))
theorem zkp_mor {f : Int → Int} {n : Nat} {sd : Int} : ∀ (r : Nat) (P : zM) (s x : Nat), 0 ≤ P 235 5 → zkp P (zmor f n sd r P s x)
  | 0, P, s, x, h5 => fun _ _ _ _ _ _ => rfl
  | r + 1, P, s, x, h5 => by
    have st : zmor f n sd (r + 1) P s x = if s = 0 then P else zmor f n sd r (zasl P (zpick f n sd s x)) (s - 2 ^ (zpick f n sd s x).toNat) ((x * 131 + 89) % 30011) := rfl
    rw [st]
    by_cases s0 : s = 0
    · rw [if_pos s0]; exact fun _ _ _ _ _ _ => rfl
    · rw [if_neg s0]
      generalize zpick f n sd s x = p
      unfold zasl
      by_cases c : zlow P p = -1
      · rw [if_pos c]; exact zkp_mor r P _ _ h5
      · rw [if_neg c]
        have k := zkp_mor (f := f) (n := n) (sd := sd) r (zak P p (zlow P p)) (s - 2 ^ p.toNat) ((x * 131 + 89) % 30011) (by rw [zak_5]; omega)
        exact fun a i h1 h2 h3 h4 => (k a i h1 h2 h3 h4).trans (zkp_ak h5 a i h1 h2 h3 h4)
theorem zpe_kp {P' : zM} (h : zkp P P') : zpe P P' ∧ P' 2 10 ≤ P 2 10 + 1 :=
  ⟨⟨h 235 6 (by decide) (by decide) (by decide) (by decide), fun i _ _ => h 240 i (by decide) (by decide) (by decide) (by omega), by rw [h 235 0 (by decide) (by decide) (by decide) (by decide)]; exact Int.le_refl _, fun q _ _ => ⟨h 246 q (by decide) (by decide) (by decide) (by omega), fun i _ _ => h 247 _ (by decide) (by decide) (by decide) (by omega)⟩⟩, by rw [h 2 10 (by decide) (by decide) (by decide) (by decide)]; omega⟩
theorem k_morn (hG : zP G) (hC : zCk P M) (h : zkr G P M mX12_morning [(2, 234), (0, -1), (9, 0), (9, 0), (9, 0), (9, 0)] (fun _ => True) Q) : Y G (d + 6) mX6_holdMorning 0 [(2, 157), (0, -1), (2, 19), (9, 0), (9, 0), (9, 0), (9, 0), (9, 0), (9, 0)] [] M Q := by
  have hJ := hC.1
  have hs := hC.2.1
  have n5 := (zV5_s hJ.1).1
  have n2 := hJ.1.2.2.1.1
  have rs : ∀ a i, a ≤ 233 → M a i = P a i := fun a i ha => by rw [hs a ha]
  obtain ⟨n, hn⟩ := Int.eq_ofNat_of_zero_le n2.1
  have j13 := zj_j13 hJ
  have wr := zwai_r (h := zha P) n
  have w64 := zpw6 (n := n) (by omega)
  have wp := (zsp_pc n (by omega) _ wr).1
  have m9 : M 157 9 = P 235 5 := by rw [rs 157 9 (by decide)]; exact j13.1
  refine bX6_holdMorning_0 hG (s_cwait (P := P) (n := n) (d := d + 4) hG n5 m9 (fun i i0 i1 => by rw [rs 163 i (by decide)]; exact (j13.2 i i0 i1).1) ⟨by rw [rs 157 5 (by decide), (zj_j11 hJ).1]; exact hn, by omega⟩ (bX6_holdMorning_9 hG ⟨by omega, by omega, ?_⟩))
  rw [show (-1 : Int) * 3 + 7 = ((4 : Nat) : Int) by decide, m9]
  refine k_mor (d := d + 2) (N := M) (f := fun p => P 235 (74 + 5 * p)) (n := n) hG (by omega) n5 n P M (zwai (zha P) n) 0 4 hC zfr_rfl hn (fun p p0 p1 => rfl) wr (by omega) (by omega) (by omega) (fun M' C' f' => ?_)
  refine h _ _ _ True.intro (zcm_f f' (by decide)) C'.2.1 C'.1 (zpe_kp (zkp_mor n P _ 4 n5.1)) (fun d X Q hX hh => ?_)
  have x235 := zpq_235 hX
  have hz : zha X = zha P := funext fun p => zha_e n5 x235 p
  refine bX12_morning_0 hG ⟨fun _ => s_mwait (d := d + 10) (n := n) hG (by rw [x235 5 (by decide) (by decide)]; exact n5) ⟨by rw [x235 2 (by decide) (by decide)]; exact hn, by omega⟩ ?_, fun z => absurd (by decide) z⟩
  rw [hz]
  refine bX12_morning_18 hG ⟨by omega, by omega, ?_⟩
  rw [show 3 * (-1 : Int) + 7 = ((4 : Nat) : Int) by decide]
  exact l_mor (d := d + 1) (X0 := X) (f := fun p => P 235 (74 + 5 * p)) (n := n) hG (by omega) n5 n P X (zwai (zha P) n) 4 0 hJ hX zcz_rf hn (fun p p0 p1 => rfl) wr (by omega) (by omega) (by omega) (fun X' a1 a2 => hh X' a1.1 a2)
end PM3

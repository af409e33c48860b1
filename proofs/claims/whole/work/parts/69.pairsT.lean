section PT
variable {G : zG} {d : Nat} {M : zM} {Q : zV → zM → Prop}

theorem pr_ask (hG : zP G) (hJ : zJ M) {x1 x2 : Int} : zPr G d mX11_ask mX12_ask [(2, 1), (0, x1), (0, x2)] [(2, 234), (0, x1), (0, x2)] M := by
  have n12 : 0 ≤ M 235 0 ∧ M 235 0 ≤ 12 := hJ.1.1
  have n2 := hJ.1.2.2.1.1
  refine bX11_ask_0 hG (s_stockJ (d := d + 189) hG hJ (fun N JN hf e13 hW => bX11_ask_4 hG ?_))
  have sm := zfr_sm (S := [(235, 0, 156), (246, 0, 12), (247, 0, 2880), (3, 0, 4), (2, 10, 11)]) hf (by decide)
  have a235 : ∀ i, 0 ≤ i → i < 156 → N 235 i = M 235 i := fun i i0 i1 => sm _ _ (zhit_at 0 rfl ⟨i0, i1⟩)
  have v10 : N 2 10 = M 2 10 := sm _ _ (zhit_at 4 rfl ⟨by decide, by decide⟩)
  have e0 := a235 0 (by decide) (by decide)
  have e2 := a235 2 (by decide) (by decide)
  have xa : ∀ q, 0 ≤ q → q < M 235 0 → zaM N (N 3) q = zaM M (M 3) q := fun q q0 q1 => by
    have jq := (hJ.2.2.2.2.2.2.2.2.2.2.2.2.2.2.2.2.2.2.2.1) q q0 q1
    rw [zaM_e (M := M) hJ.1 (by have := jq.2.1; omega) (a235 1 (by decide) (by decide)) (fun i i0 i1 => a235 i (by omega) (by omega)) (sm _ _ (zhit_at 1 rfl ⟨q0, by omega⟩)) (fun i i0 i1 => sm _ _ (zhit_at 2 rfl ⟨by omega, by omega⟩))]
    exact zaM_t jq (fun t t0 t1 => sm _ _ (zhit_at 3 rfl ⟨t0, t1⟩))
  have j13 := JN.2.2.2.2.2.2.2.2.2.2.2.2.2.2.1
  obtain ⟨n5, sq⟩ := zV5_s JN.1
  refine s_askNow (d := d + 396) (P := N) hG JN.1 ((JN.2.2.2.2.2.2.2.2.2.2.2.2.1).1) ((JN.2.2.2.2.2.2.2.2.2.2.1).1) j13.1 j13.2 (fun a b => (zlac_eq JN a b).symm) (fun b => by rw [e0] at b; rw [hW x2 b.1 b.2, xa x2 b.1 b.2]) (JN.2.2.2.2.2.2.2.2.2.2.2.2.2.1) (JN.2.2.2.2.2.2.2.2.2.2.2.2.2.2.2.2.2.2.2.2.2.2.1) (by rw [e13, e0]) (fun a b c => bX11_ask_10 hG ?_) (fun no => bX11_ask_10 hG ?_)
  · -- both ask
    have hC : zfr [(163, 0, 1000000), (164, 0, 1000000), (157, 9, 10)] N (zset (zset (zset N 163 (N 235 5) x1) 164 (N 235 5) x2) 157 9 (N 235 5 + 1)) := zfr_set (zfr_set (zfr_set zfr_rfl (zhit_at 0 rfl ⟨by omega, by omega⟩)) (zhit_at 1 rfl ⟨by omega, by omega⟩)) (zhit_at 2 rfl ⟨by decide, by decide⟩)
    have q163 : zset (zset (zset N 163 (N 235 5) x1) 164 (N 235 5) x2) 157 9 (N 235 5 + 1) 163 (N 235 5) = x1 := by rw [zset_off (by decide), zset_off (by decide)]; exact zset_same
    have q164 : zset (zset (zset N 163 (N 235 5) x1) 164 (N 235 5) x2) 157 9 (N 235 5 + 1) 164 (N 235 5) = x2 := by rw [zset_off (by decide)]; exact zset_same
    have q157 : zset (zset (zset N 163 (N 235 5) x1) 164 (N 235 5) x2) 157 9 (N 235 5 + 1) 157 9 = N 235 5 + 1 := zset_same
    have qel : ∀ u i, ¬ (u = 163 ∧ i = N 235 5) → ¬ (u = 164 ∧ i = N 235 5) → ¬ (u = 157 ∧ i = 9) → zset (zset (zset N 163 (N 235 5) x1) 164 (N 235 5) x2) 157 9 (N 235 5 + 1) u i = N u i := fun u i c1 c2 c3 => by rw [zset_ne c3, zset_ne c2, zset_ne c1]
    generalize zset (zset (zset N 163 (N 235 5) x1) 164 (N 235 5) x2) 157 9 (N 235 5 + 1) = C at *
    have KC : zK C := by
      have hK := zK_of JN
      exact ⟨zsA_c (zfr_sm hC (by decide)) hK.1, zJ1_c (zfr_sm hC (by decide)) hK.2.1, zJ16_c (zfr_sm hC (by decide)) hK.1.1.2 hK.2.2⟩
    have wC : zwhy C x1 x2 = 0 := (zwhy_e JN (zfr_sm hC (by decide)) a b).trans c
    have c235 : ∀ i, C 235 i = N 235 i := fun i => qel 235 i (by omega) (by omega) (by omega)
    refine bX12_ask_0 hG (k_mwhy (d := d + 391) hG KC (by rw [c235]; exact a) (by rw [c235]; exact b) (fun X hX KX => ?_))
    rw [wC]
    have sx := zfr_sm (S := [(235, 0, 156)]) hX (by decide)
    have x235 : ∀ i, 0 ≤ i → i < 156 → X 235 i = N 235 i := fun i i0 i1 => (sx _ _ (zhit_at 0 rfl ⟨i0, i1⟩)).trans (c235 i)
    have x5 := x235 5 (by decide) (by decide)
    have xr : ∀ u i, (u = 163 ∨ u = 164 ∨ u = 157 ∨ u = 2) → 0 ≤ i → i < 1000000 → X u i = C u i := fun u i hu i0 i1 => hX u i (by unfold zhw zhit zwyF zscr; simp; omega)
    refine bX12_ask_6 hG ⟨fun _ => ?_, fun z => absurd rfl z⟩
    rw [x5]
    refine ⟨by omega, by omega, by omega, by omega, by omega, by omega, by omega, by omega, by omega, by omega, by omega, rfl, ?_⟩
    -- the memory as it was, but for the scratch
    have hN' : zfr zwyF N (zset (zset (zset X 163 (N 235 5) (N 163 (N 235 5))) 164 (N 235 5) (N 164 (N 235 5))) 157 9 (N 157 9)) := fun u i hn => by
      by_cases c3 : u = 157 ∧ i = 9
      · rw [c3.1, c3.2, zset_same]
      · rw [zset_ne c3]
        by_cases c2 : u = 164 ∧ i = N 235 5
        · rw [c2.1, c2.2, zset_same]
        · rw [zset_ne c2]
          by_cases c1 : u = 163 ∧ i = N 235 5
          · rw [c1.1, c1.2, zset_same]
          · rw [zset_ne c1, hX u i hn, qel u i c1 c2 c3]
    have JN' := (J_wy JN hN').1
    have g1 : ∀ i, zset (zset (zset X 163 (N 235 5) (N 163 (N 235 5))) 164 (N 235 5) (N 164 (N 235 5))) 157 9 (N 157 9) 235 i = X 235 i := fun i => by rw [zset_off (by decide), zset_off (by decide), zset_off (by decide)]
    have g2 : ∀ u i, ¬ (u = 163 ∧ i = N 235 5) → ¬ (u = 164 ∧ i = N 235 5) → ¬ (u = 157 ∧ i = 9) → zset (zset (zset X 163 (N 235 5) (N 163 (N 235 5))) 164 (N 235 5) (N 164 (N 235 5))) 157 9 (N 157 9) u i = X u i := fun u i c1 c2 c3 => by rw [zset_ne c3, zset_ne c2, zset_ne c1]
    generalize zset (zset (zset X 163 (N 235 5) (N 163 (N 235 5))) 164 (N 235 5) (N 164 (N 235 5))) 157 9 (N 157 9) = N' at *
    have d235 : ∀ i, 0 ≤ i → i < 156 → N' 235 i = N 235 i := fun i i0 i1 => (g1 i).trans (x235 i i0 i1)
    have d5 := d235 5 (by decide) (by decide)
    have nh : zha N' x1 = false := by
      have w : zha N' x1 = zha N x1 := by
        unfold zha
        rw [d5]
        have gen : ∀ k : Nat, (k : Int) ≤ N 235 5 → zhb (fun i => N' 235 (104 + 2 * i)) x1 k = zhb (fun i => N 235 (104 + 2 * i)) x1 k := fun k => by
          induction k with
          | zero => exact fun _ => rfl
          | succ k ih =>
            intro hk
            show (zhb (fun i => N' 235 (104 + 2 * i)) x1 k || decide (N' 235 (104 + 2 * (k : Int)) = x1)) = (zhb (fun i => N 235 (104 + 2 * i)) x1 k || decide (N 235 (104 + 2 * (k : Int)) = x1))
            rw [ih (by omega), d235 _ (by omega) (by omega)]
        exact gen _ (by omega)
      rw [w]; exact zwhy_0 c
    have k6 : N 235 5 < 6 := by
      obtain ⟨k, hk⟩ := Int.eq_ofNat_of_zero_le n5.1
      by_cases z : N 235 5 < 6
      · exact z
      · exfalso
        have n2' := JN.1.2.2.1.1
        have v5 := JN.1.2.2.2.2.2.1
        obtain ⟨m, hm⟩ := Int.eq_ofNat_of_zero_le n2'.1
        have room : k + 1 ≤ m := by
          refine zpig m (fun i => if i = (k : Int) then x1 else N 235 (104 + 2 * i)) (k + 1) (fun i i0 i1 => ?_) (fun i j i0 ij j1 => ?_)
          · show 0 ≤ (if i = (k : Int) then x1 else N 235 (104 + 2 * i)) ∧ (if i = (k : Int) then x1 else N 235 (104 + 2 * i)) < (m : Int)
            by_cases c : i = (k : Int)
            · rw [if_pos c]; omega
            · rw [if_neg c]
              have := (v5.2.1 i i0 (by omega)).1
              omega
          · show (if i = (k : Int) then x1 else N 235 (104 + 2 * i)) ≠ (if j = (k : Int) then x1 else N 235 (104 + 2 * j))
            rw [if_neg (by omega)]
            by_cases c' : j = (k : Int)
            · rw [if_pos c']
              intro z
              have : zha N x1 = true := by unfold zha; exact zhb_t _ i i0 (by omega) z
              rw [zwhy_0 c] at this; exact absurd this (by decide)
            · rw [if_neg c']; exact v5.2.2 i j i0 ij (by omega)
        omega
    have fr : ∀ u i, u ≠ 235 → zset (zset (zset X 235 (104 + 2 * N 235 5) x1) 235 (104 + 2 * N 235 5 + 1) x2) 235 5 (N 235 5 + 1) u i = X u i := fun u i hu => by rw [zset_off hu, zset_off hu, zset_off hu]
    have f5 : zset (zset (zset X 235 (104 + 2 * N 235 5) x1) 235 (104 + 2 * N 235 5 + 1) x2) 235 5 (N 235 5 + 1) 235 5 = N 235 5 + 1 := zset_same
    have fp : zset (zset (zset X 235 (104 + 2 * N 235 5) x1) 235 (104 + 2 * N 235 5 + 1) x2) 235 5 (N 235 5 + 1) 235 (104 + 2 * N 235 5) = x1 := by rw [zset_ne (fun z => by have := z.2; omega), zset_ne (fun z => by have := z.2; omega)]; exact zset_same
    have fq : zset (zset (zset X 235 (104 + 2 * N 235 5) x1) 235 (104 + 2 * N 235 5 + 1) x2) 235 5 (N 235 5 + 1) 235 (105 + 2 * N 235 5) = x2 := by rw [zset_ne (fun z => by have := z.2; omega), show 105 + 2 * N 235 5 = 104 + 2 * N 235 5 + 1 by omega]; exact zset_same
    have fe : ∀ i, i ≠ 5 → i ≠ 104 + 2 * N 235 5 → i ≠ 105 + 2 * N 235 5 → zset (zset (zset X 235 (104 + 2 * N 235 5) x1) 235 (104 + 2 * N 235 5 + 1) x2) 235 5 (N 235 5 + 1) 235 i = X 235 i := fun i c1 c2 c3 => by rw [zset_ne (fun z => c1 z.2), zset_ne (fun z => c3 (by have := z.2; omega)), zset_ne (fun z => c2 z.2)]
    generalize zset (zset (zset X 235 (104 + 2 * N 235 5) x1) 235 (104 + 2 * N 235 5 + 1) x2) 235 5 (N 235 5 + 1) = F at *
    have hF : zfr [(163, 0, 6), (164, 0, 6), (157, 9, 10), (235, 104, 116), (235, 5, 6)] N' F := fun u i hn => by
      have nn : ∀ k lo hi, [(163, 0, 6), (164, 0, 6), (157, 9, 10), (235, 104, 116), ((235 : Int), (5 : Int), (6 : Int))][k]? = some (u, lo, hi) → ¬ (lo ≤ i ∧ i < hi) := fun k lo hi hk z => hn (Or.inr (Or.inr (zhit_at k hk z)))
      by_cases c : u = 235
      · subst c
        have z1 := nn 3 104 116 rfl
        have z2 := nn 4 5 6 rfl
        rw [fe i (by omega) (by omega) (by omega), g1]
      · rw [fr u i c, g2 u i (fun z => by obtain ⟨z1, z2⟩ := z; subst z1; exact nn 0 0 6 rfl (by omega)) (fun z => by obtain ⟨z1, z2⟩ := z; subst z1; exact nn 1 0 6 rfl (by omega)) (fun z => by obtain ⟨z1, z2⟩ := z; subst z1; exact nn 2 9 10 rfl (by omega))]
    have JF := J_ask JN' hF (p := x1) (q := x2) (by rw [d235 2 (by decide) (by decide)]; exact a) (by rw [d235 0 (by decide) (by decide)]; exact b) nh (fun i hi => by rw [fe i (by omega) (by omega) (by omega), g1]) (fun i hi => by rw [d5] at hi; rw [fe i (by omega) (by omega) (by omega), g1]) (by rw [f5, d5]) (by rw [d5]; exact fp) (by rw [d5]; exact fq) (by rw [fr 157 9 (by decide), xr 157 9 (by omega) (by decide) (by decide), q157, d5]) (fun i => by
        rw [fr 163 i (by decide), d5]
        by_cases z : i = N 235 5
        · rw [if_pos z, z, xr 163 _ (by omega) (by omega) (by omega), q163]
        · rw [if_neg z, g2 163 i (by omega) (by omega) (by omega)]) (fun i => by
        rw [fr 164 i (by decide), d5]
        by_cases z : i = N 235 5
        · rw [if_pos z, z, xr 164 _ (by omega) (by omega) (by omega), q164]
        · rw [if_neg z, g2 164 i (by omega) (by omega) (by omega)])
    refine zJn_tr v10 JF.1 ?_
    rw [fr 2 10 (by decide), xr 2 10 (by omega) (by decide) (by decide), qel 2 10 (by omega) (by omega) (by omega)]
  · refine bX12_ask_0 hG ?_
    by_cases a : 0 ≤ x1 ∧ x1 < N 235 2
    · by_cases b : 0 ≤ x2 ∧ x2 < N 235 0
      · refine s_mwhy (d := d + 391) hG JN a b (fun N2 hN2 J2 => bX12_ask_6 hG ⟨fun z => absurd ⟨a, b, z⟩ no, fun _ => ⟨rfl, zJn_tr v10 J2 (hN2 2 10 (by unfold zhw zhit zwyF; decide))⟩⟩)
      · refine bX12_why_0 hG ⟨by omega, fun _ => ⟨by omega, fun z => absurd z b, fun _ => bX12_ask_6 hG ⟨fun z => absurd z (by decide), fun _ => ⟨rfl, zJn_tr v10 JN rfl⟩⟩⟩, fun z => absurd a z⟩
    · refine bX12_why_0 hG ⟨by omega, fun z => absurd z a, fun _ => bX12_ask_6 hG ⟨fun z => absurd z (by decide), fun _ => ⟨rfl, zJn_tr v10 JN rfl⟩⟩⟩

end PT

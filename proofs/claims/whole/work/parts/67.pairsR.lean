section PR
variable {G : zG} {d : Nat} {M : zM} {Q : zV → zM → Prop}
/-- no more of them than places -/
theorem zpig : ∀ (n : Nat) (s : Int → Int) (k : Nat), (∀ i, 0 ≤ i → i < (k : Int) → 0 ≤ s i ∧ s i < (n : Int)) → (∀ i j, 0 ≤ i → i < j → j < (k : Int) → s i ≠ s j) → k ≤ n
  | 0, s, k, h, _ => by
    by_cases c : k = 0
    · omega
    · have := h 0 (by omega) (by omega); omega
  | n + 1, s, k, h, hd => by
    by_cases ex : ∃ i : Int, 0 ≤ i ∧ i < (k : Int) ∧ s i = n
    · obtain ⟨i, i0, i1, e⟩ := ex
      have := zpig n (fun j => if j = i then s (k - 1) else s j) (k - 1) (fun j j0 j1 => ?_) (fun a b a0 ab b1 => ?_)
      · omega
      · show 0 ≤ (if j = i then s (k - 1) else s j) ∧ (if j = i then s (k - 1) else s j) < (n : Int)
        by_cases c : j = i
        · rw [if_pos c]
          have q := h (k - 1) (by omega) (by omega)
          have := hd i (k - 1) i0 (by omega) (by omega)
          omega
        · rw [if_neg c]
          have q := h j j0 (by omega)
          by_cases c2 : j < i
          · have := hd j i j0 c2 i1; omega
          · have := hd i j i0 (by omega) (by omega); omega
      · show (if a = i then s (k - 1) else s a) ≠ (if b = i then s (k - 1) else s b)
        by_cases c : a = i
        · rw [if_pos c, if_neg (by omega)]
          exact fun z => hd b (k - 1) (by omega) (by omega) (by omega) z.symm
        · rw [if_neg c]
          by_cases c2 : b = i
          · rw [if_pos c2]; exact hd a (k - 1) a0 (by omega) (by omega)
          · rw [if_neg c2]; exact hd a b a0 ab (by omega)
    · have := zpig n s k (fun i i0 i1 => by
        have q := h i i0 i1
        have : s i ≠ n := fun z => ex ⟨i, i0, i1, z⟩
        omega) hd
      omega

theorem J_ask {M M2 : zM} (hJ : zJ M) (hf : zfr [(163, 0, 6), (164, 0, 6), (157, 9, 10), (235, 104, 116), (235, 5, 6)] M M2) {p q : Int} (hp : 0 ≤ p ∧ p < M 235 2) (hq : 0 ≤ q ∧ q < M 235 0) (nh : zha M p = false) (e : ∀ i, (0 ≤ i ∧ i < 156 ∧ ¬ i = 5 ∧ ¬ (104 ≤ i ∧ i < 116)) → M2 235 i = M 235 i) (e2 : ∀ i, (104 ≤ i ∧ i < 116 ∧ ¬ i = 104 + 2 * M 235 5 ∧ ¬ i = 105 + 2 * M 235 5) → M2 235 i = M 235 i) (w5 : M2 235 5 = M 235 5 + 1) (wp : M2 235 (104 + 2 * M 235 5) = p) (wq : M2 235 (105 + 2 * M 235 5) = q) (c9 : M2 157 9 = M 235 5 + 1) (c163 : ∀ i, M2 163 i = if i = M 235 5 then p else M 163 i) (c164 : ∀ i, M2 164 i = if i = M 235 5 then q else M 164 i) : zJn M M2 := by
  have hV := hJ.1
  have n2 := hV.2.2.1.1
  have v5 := hV.2.2.2.2.2.1
  have n5 := v5.1
  obtain ⟨k, hk⟩ := Int.eq_ofNat_of_zero_le n5.1
  obtain ⟨m, hm⟩ := Int.eq_ofNat_of_zero_le n2.1
  have nas : ∀ i, 0 ≤ i → i < M 235 5 → M 235 (104 + 2 * i) ≠ p := fun i i0 i1 z => by
    have : zha M p = true := by unfold zha; exact zhb_t _ i i0 (by omega) z
    rw [nh] at this; exact absurd this (by decide)
  have room : k + 1 ≤ m := by
    refine zpig m (fun i => if i = (k : Int) then p else M 235 (104 + 2 * i)) (k + 1) (fun i i0 i1 => ?_) (fun i j i0 ij j1 => ?_)
    · show 0 ≤ (if i = (k : Int) then p else M 235 (104 + 2 * i)) ∧ (if i = (k : Int) then p else M 235 (104 + 2 * i)) < (m : Int)
      by_cases c : i = (k : Int)
      · rw [if_pos c]; omega
      · rw [if_neg c]
        have := (v5.2.1 i i0 (by omega)).1
        omega
    · show (if i = (k : Int) then p else M 235 (104 + 2 * i)) ≠ (if j = (k : Int) then p else M 235 (104 + 2 * j))
      rw [if_neg (by omega)]
      by_cases c : j = (k : Int)
      · rw [if_pos c]; exact nas i i0 (by omega)
      · rw [if_neg c]; exact v5.2.2 i j i0 ij (by omega)
  have rd : ∀ i, 0 ≤ i → i < M 235 5 → M2 235 (104 + 2 * i) = M 235 (104 + 2 * i) ∧ M2 235 (105 + 2 * i) = M 235 (105 + 2 * i) := fun i i0 i1 => ⟨e2 _ (by omega), e2 _ (by omega)⟩
  have h5 : zV5 (M2 235) := by
    unfold zV5
    rw [w5, e 0 (by omega), e 2 (by omega)]
    refine ⟨by omega, fun i i0 i1 => ?_, fun i j i0 ij j1 => ?_⟩
    · by_cases c : i = M 235 5
      · rw [c, wp, wq]; exact ⟨hp, hq⟩
      · rw [(rd i i0 (by omega)).1, (rd i i0 (by omega)).2]; exact v5.2.1 i i0 (by omega)
    · rw [(rd i i0 (by omega)).1]
      by_cases c : j = M 235 5
      · rw [c, wp]; exact nas i i0 (by omega)
      · rw [(rd j (by omega) (by omega)).1]; exact v5.2.2 i j i0 ij (by omega)
  have h13 : zJ13 M2 := by
    have o := hJ.2.2.2.2.2.2.2.2.2.2.2.2.2.2.1
    unfold zJ13
    rw [w5, c9]
    refine ⟨rfl, fun i i0 i1 => ?_⟩
    rw [c163, c164]
    by_cases c : i = M 235 5
    · rw [if_pos c, if_pos c, c, wp, wq]; exact ⟨rfl, rfl⟩
    · rw [if_neg c, if_neg c, (rd i i0 (by omega)).1, (rd i i0 (by omega)).2]; exact o.2 i i0 (by omega)
  exact ⟨⟨⟨zV0_e hV.1 (e 0 (by omega)), zV1_e hV.2.1 (e 1 (by omega)) (fun i q1 q2 => e i (by omega)), zV2_e hV.2.2.1 (e 2 (by omega)) (fun i q1 q2 => e i (by omega)), zV3_e hV.2.2.2.1 (e 3 (by omega)), zV4_e hV.2.2.2.2.1 (e 4 (by omega)), h5, zV6_e hV.2.2.2.2.2.2.1 (e 6 (by omega)), zV7_e hV.2.2.2.2.2.2.2.1 (by rw [e 0 (by omega)]; omega) (by rw [e 2 (by omega)]; omega) (e 7 (by omega)) (fun i q1 q2 => e i (by omega)), zV8_e hV.2.2.2.2.2.2.2.2.1 (by rw [e 0 (by omega)]; omega) (e 8 (by omega)) (fun i q1 q2 => e i (by omega)), zVt_e hV.2.2.2.2.2.2.2.2.2.1 (fun i q1 q2 => e i (by omega)), zVr_e hV.2.2.2.2.2.2.2.2.2.2 (fun i q1 q2 => e i (by omega))⟩, zsI_c (zfr_sm hf (by decide)) hJ.2.1, zJ1_c (zfr_sm hf (by decide)) hJ.2.2.1, zJ2_c (zfr_sm hf (by decide)) hJ.1.2.1.1.2 hJ.2.2.2.1, zJ3_c (zfr_sm hf (by decide)) hJ.2.2.2.2.1, zJ4_c (zfr_sm hf (by decide)) hJ.1.2.1.1.2 hJ.2.2.2.2.2.1, zJ10_c (zfr_sm hf (by decide)) hJ.2.2.2.2.2.2.1, zJ5_c (zfr_sm hf (by decide)) hJ.2.2.2.2.2.2.2.1, zJ6_c (zfr_sm hf (by decide)) hJ.2.2.2.2.2.2.2.2.1, zJ7_c (zfr_sm hf (by decide)) hJ.2.2.2.2.2.2.2.2.2.1, zJ8_c (zfr_sm hf (by decide)) hJ.1.1.2 hJ.2.2.2.2.2.2.2.2.2.2.1, zJ9_c (zfr_sm hf (by decide)) hJ.2.2.2.2.2.2.2.2.2.2.2.1, zJ11_c (zfr_sm hf (by decide)) hJ.1.2.2.1.1.2 hJ.2.2.2.2.2.2.2.2.2.2.2.2.1, zJ12_c (zfr_sm hf (by decide)) hJ.2.2.2.2.2.2.2.2.2.2.2.2.2.1, h13, zJ14_c (zfr_sm hf (by decide)) (zA7 hJ.1) hJ.2.2.2.2.2.2.2.2.2.2.2.2.2.2.2.1, zJ15_c (zfr_sm hf (by decide)) (zA8 hJ.1) hJ.2.2.2.2.2.2.2.2.2.2.2.2.2.2.2.2.1, zJ18_c (zfr_sm hf (by decide)) ⟨zA5 hJ.2.1, zA7 hJ.2.1, zA8 hJ.2.1⟩ hJ.2.2.2.2.2.2.2.2.2.2.2.2.2.2.2.2.2.1, zJ19_c (zfr_sm hf (by decide)) ⟨hJ.2.1.2.1.1.2, hJ.2.1.2.2.1.1.2⟩ hJ.2.2.2.2.2.2.2.2.2.2.2.2.2.2.2.2.2.2.1, zJ16_c (zfr_sm hf (by decide)) hJ.1.1.2 hJ.2.2.2.2.2.2.2.2.2.2.2.2.2.2.2.2.2.2.2.1, zJ17_c (zfr_sm hf (by decide)) hJ.2.1.1.2 hJ.2.2.2.2.2.2.2.2.2.2.2.2.2.2.2.2.2.2.2.2.1, zJF_c (zfr_sm hf (by decide)) hJ.1 hJ.2.2.2.2.2.2.2.2.2.2.2.2.2.2.2.2.2.2.2.1 hJ.2.2.2.2.2.2.2.2.2.2.2.2.2.2.2.2.2.2.2.2.2.1, zJS_c (zfr_sm hf (by decide)) hJ.1.1.2 hJ.2.2.2.2.2.2.2.2.2.2.2.2.2.2.2.2.2.2.2.1 hJ.2.2.2.2.2.2.2.2.2.2.2.2.2.2.2.2.2.2.2.2.2.2.1, (by rw [hf 2 10 (by unfold zhw zhit; decide)]; exact hJ.2.2.2.2.2.2.2.2.2.2.2.2.2.2.2.2.2.2.2.2.2.2.2.1), zJC_c (zfr_sm hf (by decide)) hJ.2.2.2.2.2.2.2.2.2.2.2.2.2.2.2.2.2.2.2.2.2.2.2.2⟩, by rw [hf 2 10 (by unfold zhw zhit; decide)]; omega⟩


theorem zwhy_0 {P : zM} {p q : Int} (h : zwhy P p q = 0) : zha P p = false := by
  unfold zwhy at h
  cases hh : zha P p with
  | false => rfl
  | true => rw [hh, if_pos rfl] at h; exact absurd h (by decide)
/-- one asks now, in the class: stock has been taken -/
theorem s_askNow (hG : zP G) {P : zM} {p q : Int} (hA : zVA (P 235)) (h5 : M 157 5 = P 235 2) (h8 : M 19 8 = P 235 0) (h9 : M 157 9 = P 235 5) (h163 : ∀ i, 0 ≤ i → i < P 235 5 → M 163 i = P 235 (104 + 2 * i) ∧ M 164 i = P 235 (105 + 2 * i)) (hl : 0 ≤ p ∧ p < P 235 2 → 0 ≤ q ∧ q < P 235 0 → zlac M p q = zmlac P p q) (h27 : 0 ≤ q ∧ q < P 235 0 → M 27 q = zaM P (P 3) q) (h6 : M 157 6 = P 235 3) (hS : zJS M P) (e13 : M 19 13 = P 235 0) (h1 : (0 ≤ p ∧ p < P 235 2) → (0 ≤ q ∧ q < P 235 0) → zwhy P p q = 0 → Q (0, P 235 5 + 1) (zset (zset (zset M 163 (P 235 5) p) 164 (P 235 5) q) 157 9 (P 235 5 + 1))) (h0 : ¬ ((0 ≤ p ∧ p < P 235 2) ∧ (0 ≤ q ∧ q < P 235 0) ∧ zwhy P p q = 0) → Q (0, -1) M) : Y G (d + 3) mX11_askNow 0 [(2, 1), (0, p), (0, q)] [] M Q := by
  have n12 : 0 ≤ P 235 0 ∧ P 235 0 ≤ 12 := hA.1
  have n2 := hA.2.2.1.1
  obtain ⟨n5, sq⟩ := zV5_s hA
  refine bX11_askNow_0 hG ?_
  rw [h5, h8]
  refine ⟨by omega, fun a => ⟨by omega, fun b => ?_, fun b => h0 (fun z => b z.2.1)⟩, fun a => h0 (fun z => a z.1)⟩
  refine s_hindrance hG hA h9 h163 (hl a b) (h27 b) h6 hS e13 (by omega) b (bX11_askNow_29 hG ⟨fun c => ?_, fun c => h0 (fun z => c z.2.2)⟩)
  have k6 : P 235 5 < 6 := by
    -- who hasn't asked finds room
    obtain ⟨k, hk⟩ := Int.eq_ofNat_of_zero_le n5.1
    obtain ⟨m, hm⟩ := Int.eq_ofNat_of_zero_le n2.1
    have nh := zwhy_0 c
    have v5 := hA.2.2.2.2.2.1
    have room : k + 1 ≤ m := by
      refine zpig m (fun i => if i = (k : Int) then p else P 235 (104 + 2 * i)) (k + 1) (fun i i0 i1 => ?_) (fun i j i0 ij j1 => ?_)
      · show 0 ≤ (if i = (k : Int) then p else P 235 (104 + 2 * i)) ∧ (if i = (k : Int) then p else P 235 (104 + 2 * i)) < (m : Int)
        by_cases c : i = (k : Int)
        · rw [if_pos c]; omega
        · rw [if_neg c]
          have := (v5.2.1 i i0 (by omega)).1
          omega
      · show (if i = (k : Int) then p else P 235 (104 + 2 * i)) ≠ (if j = (k : Int) then p else P 235 (104 + 2 * j))
        rw [if_neg (by omega)]
        by_cases c : j = (k : Int)
        · rw [if_pos c]
          intro z
          have : zha P p = true := by unfold zha; exact zhb_t _ i i0 (by omega) z
          rw [nh] at this; exact absurd this (by decide)
        · rw [if_neg c]; exact v5.2.2 i j i0 ij (by omega)
    omega
  refine bX6_addStep_0 hG ?_
  rw [h9]
  refine ⟨fun z => absurd z (by omega), fun _ => ⟨by omega, by omega, by omega, bX11_askNow_43 hG ?_⟩⟩
  rw [zset_same]
  exact h1 a b c

end PR

section PV
variable {G : zG} {d : Nat} {M : zM} {Q : zV → zM → Prop}

/-- the lowest question that one can ask; -1: none -/
noncomputable def zlo (P : zM) (p : Int) : Nat → Int → Int
  | 0, _ => -1
  | r + 1, q => if zwhy P p q = 0 then q else zlo P p r (q + 1)
noncomputable def zlow (P : zM) (p : Int) : Int := zlo P p (P 235 0).toNat 0
theorem zlo_r {P : zM} {p : Int} : ∀ (r : Nat) (q : Int), 0 ≤ q → zlo P p r q = -1 ∨ (0 ≤ zlo P p r q ∧ zlo P p r q < q + r ∧ zwhy P p (zlo P p r q) = 0)
  | 0, q, _ => Or.inl rfl
  | r + 1, q, q0 => by
    show (if zwhy P p q = 0 then q else zlo P p r (q + 1)) = -1 ∨ (0 ≤ (if zwhy P p q = 0 then q else zlo P p r (q + 1)) ∧ (if zwhy P p q = 0 then q else zlo P p r (q + 1)) < q + (r + 1 : Nat) ∧ zwhy P p (if zwhy P p q = 0 then q else zlo P p r (q + 1)) = 0)
    by_cases c : zwhy P p q = 0
    · rw [if_pos c]; exact Or.inr ⟨q0, by omega, c⟩
    · rw [if_neg c]
      rcases zlo_r (P := P) (p := p) r (q + 1) (by omega) with z | z
      · exact Or.inl z
      · exact Or.inr ⟨z.1, by have := z.2.1; omega, z.2.2⟩
theorem zlow_r {P : zM} {p : Int} (h : zlow P p ≠ -1) (n0 : 0 ≤ P 235 0) : (0 ≤ zlow P p ∧ zlow P p < P 235 0) ∧ zwhy P p (zlow P p) = 0 := by
  rcases zlo_r (P := P) (p := p) (P 235 0).toNat 0 (by omega) with z | z
  · exact absurd z h
  · exact ⟨⟨z.1, by have := z.2.1; unfold zlow; omega⟩, z.2.2⟩
/-- the class stands as P says, and stock is taken -/
def zCk (P M : zM) : Prop := zJ P ∧ zcq P M ∧ P 19 13 = P 235 0 ∧ ∀ q, 0 ≤ q → q < P 235 0 → P 27 q = zaM P (P 3) q
theorem zCk_S {P : zM} (hs : zcq P M) (jS : zJS P P) (n12 : P 235 0 ≤ 12) : zJS M P := by
  have rs : ∀ a i, a ≤ 233 → M a i = P a i := fun a i ha => by rw [hs a ha]
  refine ⟨by rw [rs 19 13 (by decide)]; exact jS.1, fun i i0 i1 => ?_⟩
  rw [rs 19 13 (by decide)] at i1
  have n1 := jS.1
  obtain ⟨a1, a2⟩ := jS.2 i i0 i1
  refine ⟨⟨by rw [rs _ _ (by omega)]; exact a1.1, ?_⟩, ?_⟩
  · rw [rs 29 i (by decide), rs _ _ (by omega)]
    exact zqE_c 40 _ _ _ (fun y y0 y1 => ⟨rs _ _ (by omega), rs _ _ (by omega), rs _ _ (by omega), rs _ _ (by omega)⟩) (fun y y0 y1 => ⟨rs _ _ (by omega), rs _ _ (by omega)⟩) a1.2
  · unfold zlw
    rw [rs 30 i (by decide)]
    exact a2
theorem k_hind (hG : zP G) {P : zM} (hC : zCk P M) {p q : Int} (hp : 0 ≤ p ∧ p < P 235 2) (hq : 0 ≤ q ∧ q < P 235 0) (h : Q (0, zwhy P p q) M) : Y G (d + 2) mX6_hindrance 0 [(2, 157), (0, p), (0, q), (2, 19)] [] M Q := by
  obtain ⟨hJ, hs, e13, h27⟩ := hC
  have n12 : 0 ≤ P 235 0 ∧ P 235 0 ≤ 12 := hJ.1.1
  have n2 := hJ.1.2.2.1.1
  have rs : ∀ a i, a ≤ 233 → M a i = P a i := fun a i ha => by rw [hs a ha]
  have j13 := zj_j13 hJ
  refine s_hindrance (P := P) hG hJ.1 (by rw [rs 157 9 (by decide)]; exact j13.1) (fun i i0 i1 => ⟨by rw [rs 163 i (by decide)]; exact (j13.2 i i0 i1).1, by rw [rs 164 i (by decide)]; exact (j13.2 i i0 i1).2⟩) ?_ (by rw [rs 27 q (by decide)]; exact h27 q hq.1 hq.2) (by rw [rs 157 6 (by decide)]; exact zj_j12 hJ) (zCk_S hs (zj_jS hJ) n12.2) (by rw [rs 19 13 (by decide)]; exact e13) ⟨hp.1, by omega⟩ hq h
  rw [zlac_eq hJ hp hq]
  unfold zlac
  rw [rs 25 q (by decide), rs 26 q (by decide), rs 24 q (by decide), rs 23 q (by decide), rs 159 p (by decide), rs 160 p (by decide), rs 161 p (by decide), rs 162 p (by decide)]
theorem k_lo (hG : zP G) {P : zM} (hC : zCk P M) {p : Int} (hp : 0 ≤ p ∧ p < P 235 2) : ∀ (r : Nat) (q : Int), 0 ≤ q → q + r = P 235 0 → Q (0, zlo P p r q) M → Y G (d + 3) mX6_lowestNow 2 [(2, 157), (0, p), (2, 19), (0, q)] [] M Q
  | 0, q, q0, q1, h => by
    have e8 : M 19 8 = P 235 0 := by rw [hC.2.1 19 (by decide)]; exact (zj_j8 hC.1).1
    exact bX6_lowestNow_2 hG ⟨fun _ => h, fun c => absurd c (by omega)⟩
  | r + 1, q, q0, q1, h => by
    have n12 : 0 ≤ P 235 0 ∧ P 235 0 ≤ 12 := hC.1.1.1
    have e8 : M 19 8 = P 235 0 := by rw [hC.2.1 19 (by decide)]; exact (zj_j8 hC.1).1
    have st : zlo P p (r + 1) q = if zwhy P p q = 0 then q else zlo P p r (q + 1) := rfl
    rw [st] at h
    refine bX6_lowestNow_2 hG ⟨fun c => absurd c (by omega), fun _ => k_hind hG hC hp ⟨q0, by omega⟩ (bX6_lowestNow_17 hG ⟨fun c => ⟨by omega, k_lo hG hC hp r (q + 1) (by omega) (by omega) ?_⟩, fun c => ?_⟩)⟩
    · rw [if_neg c] at h; exact h
    · rw [if_pos c] at h; exact h
theorem k_low (hG : zP G) {P : zM} (hC : zCk P M) {p : Int} (hp : 0 ≤ p ∧ p < P 235 2) (h : Q (0, zlow P p) M) : Y G (d + 3) mX6_lowestNow 0 [(2, 157), (0, p), (2, 19), (9, 0)] [] M Q := by
  have n12 : 0 ≤ P 235 0 ∧ P 235 0 ≤ 12 := hC.1.1.1
  exact bX6_lowestNow_0 hG (k_lo hG hC hp _ 0 (by omega) (by omega) h)
abbrev zkC : List (Int × Int × Int) := [(163, 0, 1000000), (164, 0, 1000000), (157, 9, 10)]
theorem zCk_ak {P : zM} (hC : zCk P M) {p q : Int} (hp : 0 ≤ p ∧ p < P 235 2) (hq : 0 ≤ q ∧ q < P 235 0) (nh : zha P p = false) : zCk (zak P p q) (zset (zset (zset M 163 (P 235 5) p) 164 (P 235 5) q) 157 9 (P 235 5 + 1)) := by
  obtain ⟨hJ, hs, e13, h27⟩ := hC
  have n5 := (zV5_s hJ.1).1
  have n12 : 0 ≤ P 235 0 ∧ P 235 0 ≤ 12 := hJ.1.1
  have eo : ∀ a i, a ≠ 163 → a ≠ 164 → a ≠ 157 → (a = 235 → i ≠ 5 ∧ (i < 104 ∨ 116 ≤ i)) → zak P p q a i = P a i := fun a i c1 c2 c3 c4 => by
    have rm := zroom hJ.1 hp nh
    have n2 := hJ.1.2.2.1.1
    exact zak_o (by omega) (by omega) (by omega) (fun z => by have := c4 z.1; omega)
  have e0 : zak P p q 235 0 = P 235 0 := eo 235 0 (by decide) (by decide) (by decide) (fun _ => ⟨by decide, by decide⟩)
  refine ⟨(J_ak hJ hp hq nh).1, fun a ha => ?_, ?_, fun x x0 x1 => ?_⟩
  · unfold zak
    rw [zset_off (a := 235) (b := a) (by omega), zset_off (a := 235) (b := a) (by omega), zset_off (a := 235) (b := a) (by omega)]
    funext i
    unfold zset
    rw [hs a ha]
  · rw [e0, eo 19 13 (by decide) (by decide) (by decide) (fun z => absurd z (by decide))]; exact e13
  · rw [e0] at x1
    rw [eo 27 x (by decide) (by decide) (by decide) (fun z => absurd z (by decide)), h27 x x0 x1]
    have jq := (zj_j16 hJ) x x0 x1
    have e3 : zak P p q 3 = P 3 := funext fun i => eo 3 i (by decide) (by decide) (by decide) (fun z => absurd z (by decide))
    rw [e3, zaM_e (M := P) hJ.1 (by have := jq.2.1; omega) (eo 235 1 (by decide) (by decide) (by decide) (fun _ => ⟨by decide, by decide⟩)) (fun i i0 i1 => eo 235 i (by decide) (by decide) (by decide) (fun _ => ⟨by omega, by omega⟩)) (eo 246 x (by decide) (by decide) (by decide) (fun z => absurd z (by decide))) (fun i i0 i1 => eo 247 _ (by decide) (by decide) (by decide) (fun z => absurd z (by decide)))]
theorem k_step (hG : zP G) {P : zM} (hC : zCk P M) {p q : Int} (hp : 0 ≤ p ∧ p < P 235 2) (hq : 0 ≤ q ∧ q < P 235 0) (hw : zwhy P p q = 0) (h : ∀ M', zCk (zak P p q) M' → zfr zkC M M' → Q (9, 0) M') : Y G d mX6_addStep 0 [(2, 157), (0, p), (0, q)] [] M Q := by
  have nh := zwhy_0 hw
  have n5 := (zV5_s hC.1.1).1
  have rm := zroom hC.1.1 hp nh
  have n2 := hC.1.1.2.2.1.1
  have e9 : M 157 9 = P 235 5 := by rw [hC.2.1 157 (by decide)]; exact (zj_j13 hC.1).1
  refine bX6_addStep_0 hG ?_
  rw [e9]
  refine ⟨fun c => absurd c (by omega), fun _ => ⟨by omega, by omega, by omega, h _ (zCk_ak hC hp hq nh) ?_⟩⟩
  exact zfr_set (zfr_set (zfr_set zfr_rfl (zhit_at 0 rfl ⟨by omega, by omega⟩)) (zhit_at 1 rfl ⟨by omega, by omega⟩)) (zhit_at 2 rfl ⟨by omega, by omega⟩)
/-! the model's side -/
def zkF : List (Int × Int × Int) := zwyF ++ zkC
def zwM : List (Int × Int × Int) := zwyF ++ [(235, 0, 156)]
theorem K_k {P X : zM} (hK : zK P) (hf : zfr zkF P X) : zK X := ⟨zsA_c (zfr_sm hf (by decide)) hK.1, zJ1_c (zfr_sm hf (by decide)) hK.2.1, zJ16_c (zfr_sm hf (by decide)) hK.1.1.2 hK.2.2⟩
theorem zkF_235 {P X : zM} (hf : zfr zkF P X) : ∀ i, 0 ≤ i → i < 156 → X 235 i = P 235 i := fun i i0 i1 => (zfr_sm (S := [(235, 0, 156)]) hf (by decide)) 235 i (zhit_at 0 rfl ⟨i0, i1⟩)
theorem zwM_1 {X N : zM} (h : zfr zwyF X N) : zfr zwM X N := zfr_sub h (fun t ht => List.mem_append_left _ ht)
theorem zkF_1 {X N : zM} (h : zfr zwyF X N) : zfr zkF X N := zfr_sub h (fun t ht => List.mem_append_left _ ht)
theorem m_ask (hG : zP G) {P X : zM} (hJ : zJ P) (hf : zfr zkF P X) {p q : Int} (hp : 0 ≤ p ∧ p < P 235 2) (hq : 0 ≤ q ∧ q < P 235 0) (h1 : zwhy P p q = 0 → ∀ X', zfr zkF (zak P p q) X' → zfr zwM X X' → Q (0, P 235 5 + 1) X') (h0 : zwhy P p q ≠ 0 → ∀ X', zfr zkF P X' → zfr zwM X X' → Q (0, -1) X') : Y G (d + 9) mX12_ask 0 [(2, 234), (0, p), (0, q)] [] X Q := by
  have n2 := hJ.1.2.2.1.1
  have n5 := (zV5_s hJ.1).1
  have x235 := zkF_235 hf
  have KX := K_k (zK_of hJ) hf
  have wX : zwhy X p q = zwhy P p q := zwhy_e hJ (zfr_sm hf (by decide)) hp hq
  refine bX12_ask_0 hG (k_mwhy (d := d) hG KX (by rw [x235 2 (by decide) (by decide)]; exact hp) (by rw [x235 0 (by decide) (by decide)]; exact hq) (fun N hN KN => ?_))
  rw [wX]
  have n235 : ∀ i, 0 ≤ i → i < 156 → N 235 i = P 235 i := fun i i0 i1 => ((zfr_sm (S := [(235, 0, 156)]) hN (by decide)) 235 i (zhit_at 0 rfl ⟨i0, i1⟩)).trans (x235 i i0 i1)
  refine bX12_ask_6 hG ⟨fun c => ?_, fun c => h0 c N (zfr_trans hf (zkF_1 hN)) (zwM_1 hN)⟩
  have rm := zroom hJ.1 hp (zwhy_0 c)
  rw [n235 5 (by decide) (by decide)]
  refine ⟨by omega, by omega, by omega, by omega, by omega, by omega, by omega, by omega, by omega, by omega, by omega, h1 c _ (fun a i hn => ?_) (zfr_set (zfr_set (zfr_set (zwM_1 hN) (zhit_at 17 rfl ⟨by omega, by omega⟩)) (zhit_at 17 rfl ⟨by omega, by omega⟩)) (zhit_at 17 rfl ⟨by omega, by omega⟩))⟩
  have lo : 0 ≤ i ∧ i < 1000000 := ⟨Int.not_lt.mp (fun z => hn (Or.inl z)), Int.not_le.mp (fun z => hn (Or.inr (Or.inl z)))⟩
  have nn : ∀ k lo hi, zkF[k]? = some (a, lo, hi) → ¬ (lo ≤ i ∧ i < hi) := fun k lo hi hk z => hn (Or.inr (Or.inr (zhit_at k hk z)))
  by_cases c5 : a = 235 ∧ i = 5
  · rw [c5.1, c5.2, zset_same, zak_5]
  · rw [zset_ne c5]
    by_cases cq : a = 235 ∧ i = 104 + 2 * P 235 5 + 1
    · rw [cq.1, cq.2, zset_same, show 104 + 2 * P 235 5 + 1 = 105 + 2 * P 235 5 by omega, zak_q n5.1]
    · rw [zset_ne cq]
      by_cases cp : a = 235 ∧ i = 104 + 2 * P 235 5
      · rw [cp.1, cp.2, zset_same, zak_p n5.1]
      · rw [zset_ne cp]
        have e1 : N a i = P a i := (zfr_trans hf (zkF_1 hN)) a i hn
        rw [e1]
        refine (zak_o (fun z => ?_) (fun z => ?_) (fun z => ?_) (fun z => ?_)).symm
        · obtain ⟨z1, z2⟩ := z; subst z1; exact nn 17 0 1000000 rfl lo
        · obtain ⟨z1, z2⟩ := z; subst z1; exact nn 18 0 1000000 rfl lo
        · obtain ⟨z1, z2⟩ := z; subst z1; exact nn 19 9 10 rfl (by omega)
        · omega
noncomputable def zasl (P : zM) (p : Int) : zM := if zlow P p = -1 then P else zak P p (zlow P p)
theorem m_low (hG : zP G) {P X0 X : zM} (hJ : zJ P) (hf : zfr zkF P X) (h0 : zfr zwM X0 X) {p : Int} (hp : 0 ≤ p ∧ p < P 235 2) (h : ∀ X', zfr zkF (zasl P p) X' → zfr zwM X0 X' → Q (0, if zlow P p = -1 then 0 else 1) X') : Y G (d + 10) mX12_asksLowest 0 [(2, 234), (0, p), (9, 0)] [] X Q := by
  have n12 : 0 ≤ P 235 0 ∧ P 235 0 ≤ 12 := hJ.1.1
  have n5 := (zV5_s hJ.1).1
  have lp : ∀ (r : Nat) (q : Int) (X : zM), 0 ≤ q → q + r = P 235 0 → zlow P p = zlo P p r q → zfr zkF P X → zfr zwM X0 X → Y G (d + 10) mX12_asksLowest 2 [(2, 234), (0, p), (0, q)] [] X Q := fun r => by
    induction r with
    | zero =>
      intro q X q0 q1 e hX hX0
      have e' : zlow P p = -1 := e
      have := h X (by unfold zasl; rw [if_pos e']; exact hX) hX0
      rw [if_pos e'] at this
      refine bX12_asksLowest_2 hG ⟨fun _ => this, fun c => absurd c ?_⟩
      rw [zkF_235 hX 0 (by decide) (by decide)]; omega
    | succ r ih =>
      intro q X q0 q1 e hX hX0
      have st : zlo P p (r + 1) q = if zwhy P p q = 0 then q else zlo P p r (q + 1) := rfl
      rw [st] at e
      refine bX12_asksLowest_2 hG ?_
      rw [zkF_235 hX 0 (by decide) (by decide)]
      refine ⟨fun c => absurd c (by omega), fun _ => m_ask hG hJ hX hp ⟨q0, by omega⟩ (fun c X' a1 a2 => ?_) (fun c X' a1 a2 => ?_)⟩
      · rw [if_pos c] at e
        have ne : zlow P p ≠ -1 := by omega
        have := h X' (by unfold zasl; rw [if_neg ne, e]; exact a1) (zfr_trans hX0 a2)
        rw [if_neg ne] at this
        exact bX12_asksLowest_18 hG ⟨fun z => absurd z (by omega), fun _ => this⟩
      · rw [if_neg c] at e
        exact bX12_asksLowest_18 hG ⟨fun _ => ⟨by omega, ih (q + 1) X' (by omega) (by omega) e a1 (zfr_trans hX0 a2)⟩, fun z => absurd z (by decide)⟩
  exact bX12_asksLowest_0 hG (lp _ 0 X (by omega) (by omega) rfl hf h0)
end PV

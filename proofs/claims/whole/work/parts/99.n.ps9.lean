section PS9
variable {G : zG} {d : Nat} {B : Int → Int} {n t f op : Int} {m : Nat}
abbrev ps_Rn : Type := Nat → Nat → (Int → Int) → (Int → Int) → Int → Int → Int → Int → Nat → Nat → (Int → Int) → (Int → Int) → Int → Int → Int → Int → Prop
/-- the class reads one part of a question, and hands on the model's run -/
def ps_Sp (G : zG) (B : Int → Int) (n : Int) (m : Nat) (t f op H : Int) (P0 : Int → Int → Int → Prop) (R : ps_Rn) (C : zM → (zV → zM → Prop) → Prop) : Prop := ∀ (M0 M : zM) (Q : zV → zM → Prop) (k L : Nat) (st v : Int → Int) (lv dp wd gr : Int), k ≤ m → f + L ≤ k → (0 ≤ lv ∧ lv ≤ 16) → ps_M B t f m M0 M k L st v lv dp wd gr →
  (∀ (M' : zM) (k' L' : Nat) (st' v' : Int → Int) (lv' dp' wd' gr' : Int), ps_M B t f m M0 M' k' L' st' v' lv' dp' wd' gr' → k' ≤ m → ps_old t f L M M' → M' (189 + 12 * t + 3) (f + L' - 1) = 1 → ps_D k L st v lv wd k' L' st' v' lv' wd' H → R k L st v lv dp wd gr k' L' st' v' lv' dp' wd' gr' → Q (0, f + L' - 1) M') →
  (∀ (M' : zM) (c : Int) (k' : Nat), zfr (ps_HF t) M0 M' → M' 12 2 = c → M' 12 3 = lx_j B k' → (1 ≤ c ∧ c ≤ 4) → ps_FL G B n t f op P0 k L st v lv dp wd gr c k' → Q (0, -1) M') → C M Q
/-- the model reads a product; its factors are counted, not yet written -/
def ps_OP (G : zG) (B : Int → Int) (n t f op : Int) : ps_Rn := fun k L st v lv dp wd gr k' L' st' v' lv' dp' wd' gr' => lx_c B (lx_j B k') ≠ 9 ∧ ∀ (D : Nat) (X0 X : zM) (Q : zV → zM → Prop) (fk fw tm sg : Int), ps_P B n t f X0 X k L st v lv dp wd gr op 0 fk fw tm sg 0 → (∀ (X' : zM) (fc : Int) (Lp : Nat) (stp vp : Int → Int), (1 ≤ fc ∧ fc ≤ 16) → ps_P B n t f X0 X' k' Lp stp vp lv' dp' wd' gr' op 1 fk fw tm sg fc → (fc = 1 → Lp = L' ∧ stp = st' ∧ vp = v') → (1 < fc → L' = Lp + 1 ∧ st' = zup stp Lp 3 ∧ v' = zup vp Lp fc) → Y G (D + 30) mX12_summed 36 [(2, 234), (9, 0)] [] X' Q) → Y G (D + 30) mX12_summed 36 [(2, 234), (9, 0)] [] X Q
/-- several ones that wait side by side -/
def ps_W (t f : Int) (M : zM) (L0 : Nat) (st0 v0 : Int → Int) (L : Nat) (st v : Int → Int) (cnt : Int) (sn : Int → Int) : Prop := (zsp st v L).1 = (zsp st0 v0 L0).1 + cnt ∧ (∀ a, 0 ≤ a → a < (zsp st0 v0 L0).1 → (zsp st v L).2 a = (zsp st0 v0 L0).2 a) ∧ (zsp st v L).2 ((zsp st0 v0 L0).1 + cnt - 1) = (L : Int) - 1 ∧ (∀ j, 0 ≤ j → j < cnt → (L0 : Int) ≤ (zsp st v L).2 ((zsp st0 v0 L0).1 + j)) ∧ (∀ j, 0 ≤ j → j < cnt - 1 → M (189 + 12 * t + 7) (f + (zsp st v L).2 ((zsp st0 v0 L0).1 + j)) = f + (zsp st v L).2 ((zsp st0 v0 L0).1 + (j + 1))) ∧ (∀ j, 0 ≤ j → j < cnt → M (189 + 12 * t + 3) (f + (zsp st v L).2 ((zsp st0 v0 L0).1 + j)) = sn j)
theorem ps_W_1 {M1 : zM} {k k' L L' : Nat} {st v st' v' : Int → Int} {lv wd lv' wd' H : Int} {sn : Int → Int} (hD : ps_D k L st v lv wd k' L' st' v' lv' wd' H) (h1 : M1 (189 + 12 * t + 3) (f + L' - 1) = 1) (hs : sn 0 = 1) : ps_W t f M1 L st v L' st' v' 1 sn := by
  obtain ⟨_, d1, _, _, ⟨s1, s2, s3⟩, _, _⟩ := hD
  refine ⟨s1, s2, by rw [show (zsp st v L).1 + 1 - 1 = (zsp st v L).1 by omega]; exact s3, fun j j0 j1 => ?_, fun j j0 j1 => by omega, fun j j0 j1 => ?_⟩
  · rw [show (zsp st v L).1 + j = (zsp st v L).1 by omega, s3]; omega
  · rw [show (zsp st v L).1 + j = (zsp st v L).1 by omega, s3, show j = 0 by omega, hs, show f + ((L' : Int) - 1) = f + L' - 1 by omega]
    exact h1
/-- one more waits, and is linked -/
theorem ps_W_s {M1 M2 M3 : zM} {k1 k2 L0 L1 L2 : Nat} {st0 v0 st1 v1 st2 v2 : Int → Int} {lv1 wd1 lv2 wd2 H cnt s : Int} {sn : Int → Int} (c0 : 0 ≤ (zsp st0 v0 L0).1) (hc : 1 ≤ cnt) (L01 : L0 ≤ L1) (hW : ps_W t f M1 L0 st0 v0 L1 st1 v1 cnt sn) (ok2 : ps_ok st2 v2 L2) (hD : ps_D k1 L1 st1 v1 lv1 wd1 k2 L2 st2 v2 lv2 wd2 H) (old : ps_old t f L1 M1 M2) (f0 : 0 ≤ f) (i1 : ∀ a, 0 ≤ a → a < (zsp st1 v1 L1).1 → 0 ≤ (zsp st1 v1 L1).2 a ∧ (zsp st1 v1 L1).2 a < L1) (e7 : M3 (189 + 12 * t + 7) (f + L1 - 1) = f + L2 - 1) (e3 : M3 (189 + 12 * t + 3) (f + L2 - 1) = s) (o7 : ∀ z, z ≠ f + L1 - 1 → M3 (189 + 12 * t + 7) z = M2 (189 + 12 * t + 7) z) (o3 : ∀ z, z ≠ f + L2 - 1 → M3 (189 + 12 * t + 3) z = M2 (189 + 12 * t + 3) z) : ps_W t f M3 L0 st0 v0 L2 st2 v2 (cnt + 1) (zup sn cnt s) := by
  obtain ⟨w1, w2, w3, w4, w5, w6⟩ := hW
  obtain ⟨_, d1, _, _, ⟨s1, s2, s3⟩, _, _⟩ := hD
  have e : ∀ j, 0 ≤ j → j < cnt → (zsp st2 v2 L2).2 ((zsp st0 v0 L0).1 + j) = (zsp st1 v1 L1).2 ((zsp st0 v0 L0).1 + j) := fun j j0 j1 => s2 _ (by omega) (by omega)
  have en : (zsp st2 v2 L2).2 ((zsp st0 v0 L0).1 + cnt) = (L2 : Int) - 1 := by rw [← w1]; exact s3
  refine ⟨by omega, fun a a0 a1 => ?_, ?_, fun j j0 j1 => ?_, fun j j0 j1 => ?_, fun j j0 j1 => ?_⟩
  · rw [s2 a a0 (by omega)]; exact w2 a a0 a1
  · rw [show (zsp st0 v0 L0).1 + (cnt + 1) - 1 = (zsp st0 v0 L0).1 + cnt by omega]; exact en
  · by_cases c : j = cnt
    · rw [c, en]; omega
    · rw [e j j0 (by omega)]; exact w4 j j0 (by omega)
  · by_cases c : j = cnt - 1
    · rw [c, show cnt - 1 + 1 = cnt by omega, en, e (cnt - 1) (by omega) (by omega), show (zsp st0 v0 L0).1 + (cnt - 1) = (zsp st0 v0 L0).1 + cnt - 1 by omega, w3, show f + ((L1 : Int) - 1) = f + L1 - 1 by omega, show f + ((L2 : Int) - 1) = f + L2 - 1 by omega]
      exact e7
    · rw [e j j0 (by omega), e (j + 1) (by omega) (by omega)]
      have ij := i1 ((zsp st0 v0 L0).1 + j) (by omega) (by omega)
      have ne : (zsp st1 v1 L1).2 ((zsp st0 v0 L0).1 + j) < (zsp st2 v2 L2).2 ((zsp st0 v0 L0).1 + (cnt - 1)) := by
        rw [← e j j0 (by omega)]
        exact ps_mo L2 ok2 _ _ (by omega) (by omega) (by omega)
      rw [e (cnt - 1) (by omega) (by omega), show (zsp st0 v0 L0).1 + (cnt - 1) = (zsp st0 v0 L0).1 + cnt - 1 by omega, w3] at ne
      rw [o7 _ (by omega), old 7 _ (by decide) (by decide) (by omega) (by omega)]
      exact w5 j j0 (by omega)
  · by_cases c : j = cnt
    · rw [c, zup_at, en, show f + ((L2 : Int) - 1) = f + L2 - 1 by omega]; exact e3
    · rw [zup_ne c, e j j0 (by omega)]
      have ij := i1 ((zsp st0 v0 L0).1 + j) (by omega) (by omega)
      rw [o3 _ (by omega), old 3 _ (by decide) (by decide) (by omega) (by omega)]
      exact w6 j j0 (by omega)
end PS9

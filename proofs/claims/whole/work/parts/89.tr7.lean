section TR7
variable {G : zG} {d : Nat} {M : zM} {Q : zV → zM → Prop}
/-- the fewest leaves, from a number of leaves on -/
def tr_fw (K : Int → Int → Int) (v w : Int) : Nat → Int → Int
  | 0, _ => -1
  | r + 1, k => if w < k then -1 else if K k v = 0 then tr_fw K v w r (k + 1) else k
def tr_F (K : Int → Int → Int) (v w : Int) : Int := tr_fw K v w 6 1
theorem tr_fw_s {K : Int → Int → Int} {v w k : Int} {r : Nat} : tr_fw K v w (r + 1) k = if w < k then -1 else if K k v = 0 then tr_fw K v w r (k + 1) else k := rfl
theorem tr_fw_b {K : Int → Int → Int} {v w : Int} : ∀ (r : Nat) (k : Int), tr_fw K v w r k = -1 ∨ (k ≤ tr_fw K v w r k ∧ tr_fw K v w r k ≤ w)
  | 0, k => Or.inl rfl
  | r + 1, k => by
    rw [tr_fw_s]
    have q := tr_fw_b (K := K) (v := v) (w := w) r (k + 1)
    generalize tr_fw K v w r (k + 1) = z at *
    split
    · exact Or.inl rfl
    · split <;> omega
theorem tr_fw_5 {K : Int → Int → Int} {v w : Int} (w0 : 0 ≤ w) (w5 : w ≤ 5) : ∀ (r : Nat) (k : Int), tr_fw K v w r k = if tr_fw K v 5 r k ≤ w then tr_fw K v 5 r k else -1
  | 0, k => by
    show (-1 : Int) = if (-1 : Int) ≤ w then -1 else -1
    split <;> rfl
  | r + 1, k => by
    have q := tr_fw_b (K := K) (v := v) (w := 5) (r + 1) k
    by_cases c : w < k
    · rw [tr_fw_s, if_pos c]
      generalize tr_fw K v 5 (r + 1) k = z at *
      split <;> omega
    · have e5 : tr_fw K v 5 (r + 1) k = if K k v = 0 then tr_fw K v 5 r (k + 1) else k := by rw [tr_fw_s, if_neg (by omega)]
      rw [e5, tr_fw_s, if_neg c, tr_fw_5 w0 w5 r (k + 1)]
      by_cases c2 : K k v = 0
      · rw [if_pos c2, if_pos c2]
      · rw [if_neg c2, if_neg c2, if_pos (by omega)]
theorem tr_F_b {K : Int → Int → Int} {v w : Int} : tr_F K v w = -1 ∨ (1 ≤ tr_F K v w ∧ tr_F K v w ≤ w) := tr_fw_b 6 1
theorem tr_F_5 {K : Int → Int → Int} {v w : Int} (w0 : 0 ≤ w) (w5 : w ≤ 5) : tr_F K v w = if tr_F K v 5 ≤ w then tr_F K v 5 else -1 := tr_fw_5 w0 w5 6 1
def tr_lg (F : Int → Int) : Nat → Int → Int → Int → Int
  | 0, _, b, _ => b
  | r + 1, v, b, l => if l < F v then tr_lg F r (v + 1) v (F v) else tr_lg F r (v + 1) b l
def tr_ra (c : Int → Int) : Nat → Int → Int → Int
  | 0, _, b => b
  | r + 1, v, b => if c v = 0 then tr_ra c r (v + 1) b else if b = -1000 then tr_ra c r (v + 1) v else if c v < c b then tr_ra c r (v + 1) v else tr_ra c r (v + 1) b
def tr_un (F : Int → Int) : Nat → Int → Int
  | 0, _ => -1
  | r + 1, v => if F v = -1 then v else tr_un F r (v + 1)
theorem tr_h3 : zsh (3 : Int).toNat = (100, 4) := by decide +kernel

/-! the class -/
theorem s_kp (hG : zP G) {N : zM} {m n : Int} (hm : 0 ≤ m ∧ m ≤ 9) (hn : 1 ≤ n ∧ n ≤ 5) (hN : zfr trF N M) (hT : zJT M) (ht : ∀ t, 0 ≤ t → t < 4 → 0 ≤ N 3 t ∧ N 3 t ≤ 99) (h : ∀ M', zfr trF N M' → zJT M' → (∀ k v, 1 ≤ k → k ≤ n → -500 ≤ v → v ≤ 500 → M' 171 (zpl m k v) = tr_K (N 3) m k v) → Q (9, 0) M') : Y G (d + 2) mX9_prepare 0 [(2, 170), (0, m), (0, n), (2, 3), (9, 0), (9, 0)] [] M Q := by
  have e3 : ∀ t, 0 ≤ t → t < 4 → M 3 t = N 3 t := fun t t0 t1 => hN 3 t (by unfold zhw zhit trF; simp; omega)
  refine s_prepare hG hm hn hT (fun t t0 t1 => by rw [e3 t t0 t1]; exact ht t t0 t1) (fun M' f' j' e' r' => h M' (zfr_trans hN f') j' (fun k v k0 k1 v0 v1 => ?_))
  rw [(j'.2 m hm.1 hm.2).2 k v k0 (by omega) v0 v1, tr_K_th (th' := N 3) ((e' 0 (by decide) (by decide)).trans (e3 0 (by decide) (by decide))) ((e' 1 (by decide) (by decide)).trans (e3 1 (by decide) (by decide))) ((e' 2 (by decide) (by decide)).trans (e3 2 (by decide) (by decide))) ((e' 3 (by decide) (by decide)).trans (e3 3 (by decide) (by decide)))]
theorem s_fl (hG : zP G) {N : zM} {m v w : Int} (hm : 0 ≤ m ∧ m ≤ 9) (v0 : -500 ≤ v) (v1 : v ≤ 500) (w5 : w ≤ 5) (hN : zfr trF N M) (hT : zJT M) (ht : ∀ t, 0 ≤ t → t < 4 → 0 ≤ N 3 t ∧ N 3 t ≤ 99) (h : ∀ M', zfr trF N M' → zJT M' → Q (0, tr_F (tr_K (N 3) m) v w) M') : Y G (d + 3) mX9_fewestLeaves 0 [(2, 170), (0, m), (0, v), (0, w), (2, 3), (9, 0)] [] M Q := by
  have lp : ∀ (r : Nat) (k : Int) (X : zM), 1 ≤ k → k + r = 7 → zfr trF N X → zJT X → (∀ M', zfr trF N M' → zJT M' → Q (0, tr_fw (tr_K (N 3) m) v w r k) M') → Y G (d + 2 + 1) mX9_fewestLeaves 3 [(2, 170), (0, m), (0, v), (0, w), (2, 3), (0, k)] [] X Q := fun r => by
    induction r with
    | zero =>
      intro k X k1 hk hX jX hh
      exact bX9_fewestLeaves_3 hG tr_h3 ⟨fun _ => hh X hX jX, fun c => absurd c (by omega)⟩
    | succ r ih =>
      intro k X k1 hk hX jX hh
      refine bX9_fewestLeaves_3 hG tr_h3 ⟨fun c => ?_, fun c => ?_⟩
      · have q := hh X hX jX
        rw [tr_fw_s, if_pos c] at q
        exact q
      · have k5 : 1 ≤ k ∧ k ≤ 5 := ⟨k1, by omega⟩
        have b := zpl_b hm k5 v0 v1
        refine s_kp (d := d) hG hm k5 hX jX ht (fun X1 hX1 j1 e1 => bX9_fewestLeaves_18 hG tr_h3 (bX9_countOf_0 hG ⟨fun _ => ⟨fun _ => ⟨fun _ => ⟨b.1, b.2, bX9_fewestLeaves_26 hG tr_h3 ⟨fun z => ⟨by omega, ih (k + 1) X1 (by omega) (by omega) hX1 j1 (fun M' f' j' => ?_)⟩, fun z => ?_⟩⟩, fun z => (z (by omega)).elim⟩, fun z => (z (by omega)).elim⟩, fun z => (z (by omega)).elim⟩))
        · have q := hh M' f' j'
          rw [tr_fw_s, if_neg (by omega), if_pos (by rw [← e1 k v k1 (Int.le_refl k) v0 v1]; exact z)] at q
          exact q
        · have q := hh X1 hX1 j1
          rw [tr_fw_s, if_neg (by omega), if_neg (by rw [← e1 k v k1 (Int.le_refl k) v0 v1]; exact z)] at q
          exact q
  exact bX9_fewestLeaves_0 hG tr_h3 (lp 6 1 M (by decide) (by decide) hN hT h)

/-! the model -/
theorem m_kp (hG : zP G) {N : zM} (hJ : zJ N) {m n : Int} (hm : 0 ≤ m ∧ m ≤ 9) (hn : 1 ≤ n ∧ n ≤ 5) (hN : zfr trW N M) (hT : zJT M) (h : ∀ X, zfr trW N X → zJT X → (∀ k v, 1 ≤ k → k ≤ n → -500 ≤ v → v ≤ 500 → X 264 (zce k v) = tr_K (N 3) m k v) → Q (9, 0) X) : Y G (d + 2) mX12_findKinds 0 [(2, 234), (0, n), (0, m), (9, 0), (9, 0)] [] M Q := by
  have e5 : ∀ t, 0 ≤ t → t < 4 → M 235 (10 + t) = N 235 (10 + t) := fun t t0 t1 => hN 235 (10 + t) (by unfold zhw zhit trW; simp; omega)
  have e3 : ∀ t, 0 ≤ t → t < 4 → (fun t => M 235 (10 + t)) t = N 3 t := fun t t0 t1 => (e5 t t0 t1).trans ((zj_j1 hJ) t t0 t1).symm
  refine m_findKinds hG hn hm (fun t t0 t1 => by rw [e5 t t0 t1]; exact (zj_A hJ).2.2.2.2.2.2.2.2.2.1 t t0 t1) (fun X fX eX => h X (zfr_trans hN (zfr_sub fX (by decide))) (zJT_c (zfr_sm fX (by decide)) hT) (fun k v k0 k1 v0 v1 => ?_))
  rw [eX k v k0 k1 v0 v1, tr_K_th (th' := N 3) (e3 0 (by decide) (by decide)) (e3 1 (by decide) (by decide)) (e3 2 (by decide) (by decide)) (e3 3 (by decide) (by decide))]
theorem m_fo (hG : zP G) {K : Int → Int → Int} {v w : Int} (v0 : -500 ≤ v) (v1 : v ≤ 500) (w5 : w ≤ 5) (hp : ∀ k, 0 ≤ K k v) (hc : ∀ k, 1 ≤ k → k ≤ w → M 264 (zce k v) = K k v) (h : Q (0, tr_F K v w) M) : Y G (d + 1) mX12_fewestOf 0 [(2, 234), (0, v), (0, w), (9, 0)] [] M Q := by
  have lp : ∀ (r : Nat) (k : Int), 1 ≤ k → k + r = 7 → Q (0, tr_fw K v w r k) M → Y G (d + 1) mX12_fewestOf 2 [(2, 234), (0, v), (0, w), (0, k)] [] M Q := fun r => by
    induction r with
    | zero =>
      intro k k1 hk hh
      exact bX12_fewestOf_2 hG ⟨fun _ => hh, fun c => absurd c (by omega)⟩
    | succ r ih =>
      intro k k1 hk hh
      rw [tr_fw_s] at hh
      refine bX12_fewestOf_2 hG ⟨fun c => by rw [if_pos c] at hh; exact hh, fun c => ?_⟩
      rw [if_neg (by omega)] at hh
      have b := zce_b (n := k) (v := v) (by omega) (by omega) v0 v1
      refine ⟨b.1, b.2, ?_⟩
      have p := hp k
      rw [hc k k1 c, zlcmp_le, zlcmp_gt]
      exact ⟨fun z => ⟨by omega, ih (k + 1) (by omega) (by omega) (by rw [if_pos (by omega)] at hh; exact hh)⟩, fun z => by rw [if_neg (by omega)] at hh; exact hh⟩
  exact bX12_fewestOf_0 hG (lp 6 1 (by decide) (by decide) h)

/-! the pairs -/
theorem tr_ht (hJ : zJ M) : ∀ t, 0 ≤ t → t < 4 → 0 ≤ M 3 t ∧ M 3 t ≤ 99 := fun t t0 t1 => by
  rw [(zj_j1 hJ) t t0 t1]; exact (zj_A hJ).2.2.2.2.2.2.2.2.2.1 t t0 t1
theorem pr_kinds (hG : zP G) (hJ : zJ M) {x1 x2 x3 : Int} : zPr G d mX11_kinds mX12_kinds [(2, 1), (0, x1), (0, x2), (0, x3)] [(2, 234), (0, x1), (0, x2), (0, x3)] M := by
  have no : ¬ ((1 ≤ x1 ∧ x1 ≤ 5) ∧ (0 ≤ x2 ∧ x2 ≤ 9) ∧ -500 ≤ x3 ∧ x3 ≤ 500) → Y G (d + 400) mX12_kinds 0 [(2, 234), (0, x1), (0, x2), (0, x3)] [] M (fun r2 M2 => r2 = (1, -1) ∧ zJn M M2) := fun q =>
    bX12_kinds_0 hG ⟨fun c1 => ⟨fun c2 => ⟨fun c3 => absurd ⟨c1, c2, c3⟩ q, fun _ => ⟨rfl, zJ_rf hJ⟩⟩, fun _ => ⟨rfl, zJ_rf hJ⟩⟩, fun _ => ⟨rfl, zJ_rf hJ⟩⟩
  refine bX11_kinds_0 hG ⟨fun c1 => ⟨fun c2 => ⟨fun c3 => ?_, fun c3 => no (fun z => c3 z.2.2)⟩, fun c2 => no (fun z => c2 z.2.1)⟩, fun c1 => no (fun z => c1 z.1)⟩
  have b := zpl_b c2 c1 c3.1 c3.2
  have b2 := zce_b (n := x1) (v := x3) (by omega) (by omega) c3.1 c3.2
  refine s_kp (d := d + 397) hG c2 c1 zfr_rfl (zj_C hJ).1 (tr_ht hJ) (fun X fX jX eX => bX11_kinds_52 hG (bX9_countOf_0 hG ⟨fun _ => ⟨fun _ => ⟨fun _ => ⟨b.1, b.2, bX11_kinds_62 hG ?_⟩, fun z => (z (by omega)).elim⟩, fun z => (z (by omega)).elim⟩, fun z => (z (by omega)).elim⟩))
  rw [eX x1 x3 c1.1 (Int.le_refl _) c3.1 c3.2]
  refine bX12_kinds_0 hG ⟨fun _ => ⟨fun _ => ⟨fun _ => ?_, fun z => absurd c3 z⟩, fun z => absurd c2 z⟩, fun z => absurd c1 z⟩
  refine m_kp (d := d + 397) hG hJ c2 c1 (zfr_sub fX (by decide)) jX (fun X2 f2 j2 e2 => bX12_kinds_42 hG ⟨b2.1, b2.2, ?_, J_tr hJ f2 j2⟩)
  rw [e2 x1 x3 c1.1 (Int.le_refl _) c3.1 c3.2]
theorem pr_fewest (hG : zP G) (hJ : zJ M) {x1 x2 : Int} : zPr G d mX11_fewest mX12_fewest [(2, 1), (0, x1), (0, x2)] [(2, 234), (0, x1), (0, x2)] M := by
  have no : ¬ ((0 ≤ x1 ∧ x1 ≤ 9) ∧ -500 ≤ x2 ∧ x2 ≤ 500) → Y G (d + 400) mX12_fewest 0 [(2, 234), (0, x1), (0, x2)] [] M (fun r2 M2 => r2 = (0, -1) ∧ zJn M M2) := fun q =>
    bX12_fewest_0 hG ⟨fun c1 => ⟨fun c2 => absurd ⟨c1, c2⟩ q, fun _ => ⟨rfl, zJ_rf hJ⟩⟩, fun _ => ⟨rfl, zJ_rf hJ⟩⟩
  refine bX11_fewest_0 hG ⟨fun c1 => ⟨fun c2 => ?_, fun c2 => no (fun z => c2 z.2)⟩, fun c1 => no (fun z => c1 z.1)⟩
  refine s_fl (d := d + 396) hG c1 c2.1 c2.2 (by decide) zfr_rfl (zj_C hJ).1 (tr_ht hJ) (fun X fX jX => bX11_fewest_42 hG ?_)
  refine bX12_fewest_0 hG ⟨fun _ => ⟨fun _ => ?_, fun z => absurd c2 z⟩, fun z => absurd c1 z⟩
  refine m_kp (d := d + 397) hG hJ c1 (by decide) (zfr_sub fX (by decide)) jX (fun X2 f2 j2 e2 => bX12_fewest_31 hG ?_)
  exact m_fo (d := d + 398) hG (K := tr_K (M 3) x1) c2.1 c2.2 (by decide) (fun k => (tr_K_b c1.2 k x2 c2.1 c2.2).1) (fun k k1 k5 => e2 k x2 k1 k5 c2.1 c2.2) (bX12_fewest_37 hG ⟨rfl, J_tr hJ f2 j2⟩)
theorem pr_unasked (hG : zP G) (hJ : zJ M) {x1 x2 : Int} : zPr G d mX11_unasked mX12_unasked [(2, 1), (0, x1), (0, x2), (9, 0)] [(2, 234), (0, x1), (0, x2), (9, 0)] M := by
  have no : ¬ ((1 ≤ x1 ∧ x1 ≤ 5) ∧ 0 ≤ x2 ∧ x2 ≤ 9) → Y G (d + 400) mX12_unasked 0 [(2, 234), (0, x1), (0, x2), (9, 0)] [] M (fun r2 M2 => r2 = (0, -1) ∧ zJn M M2) := fun q =>
    bX12_unasked_0 hG ⟨fun c1 => ⟨fun c2 => absurd ⟨c1, c2⟩ q, fun _ => ⟨rfl, zJ_rf hJ⟩⟩, fun _ => ⟨rfl, zJ_rf hJ⟩⟩
  refine bX11_unasked_0 hG ⟨fun c1 => ⟨fun c2 => ?_, fun c2 => no (fun z => c2 z.2)⟩, fun c1 => no (fun z => c1 z.1)⟩
  -- the class's loop
  have lc : ∀ (r : Nat) (v : Int) (X : zM) (Q : zV → zM → Prop), 0 ≤ v → v + r = 501 → zfr trF M X → zJT X → (∀ X', zfr trF M X' → zJT X' → Q (0, tr_un (fun v => tr_F (tr_K (M 3) x2) v x1) r v) X') → Y G (d + 400) mX11_unasked 23 [(2, 1), (0, x1), (0, x2), (0, v)] [] X Q := fun r => by
    induction r with
    | zero =>
      intro v X Q v0 hv fX jX hh
      exact bX11_unasked_23 hG ⟨fun _ => hh X fX jX, fun z => absurd z (by omega)⟩
    | succ r ih =>
      intro v X Q v0 hv fX jX hh
      refine bX11_unasked_23 hG ⟨fun z => absurd z (by omega), fun _ => s_fl (d := d + 396) hG c2 (by omega) (by omega) c1.2 fX jX (tr_ht hJ) (fun X1 f1 j1 => bX11_unasked_47 hG ⟨fun z => ⟨by omega, ih (v + 1) X1 Q (by omega) (by omega) f1 j1 (fun X' f' j' => ?_)⟩, fun z => ?_⟩)⟩
      · have q := hh X' f' j'
        rw [show tr_un (fun v => tr_F (tr_K (M 3) x2) v x1) (r + 1) v = if tr_F (tr_K (M 3) x2) v x1 = -1 then v else tr_un (fun v => tr_F (tr_K (M 3) x2) v x1) r (v + 1) from rfl, if_neg z] at q
        exact q
      · have q := hh X1 f1 j1
        rw [show tr_un (fun v => tr_F (tr_K (M 3) x2) v x1) (r + 1) v = if tr_F (tr_K (M 3) x2) v x1 = -1 then v else tr_un (fun v => tr_F (tr_K (M 3) x2) v x1) r (v + 1) from rfl, if_pos z] at q
        exact q
  refine lc 501 0 M _ (by decide) (by decide) zfr_rfl (zj_C hJ).1 (fun X fX jX => ?_)
  refine bX12_unasked_0 hG ⟨fun _ => ⟨fun _ => ?_, fun z => absurd c2 z⟩, fun z => absurd c1 z⟩
  refine m_kp (d := d + 397) hG hJ c2 c1 (zfr_sub fX (by decide)) jX (fun X2 f2 j2 e2 => bX12_unasked_27 hG ?_)
  have lm : ∀ (r : Nat) (v : Int) (Q : zV → zM → Prop), 0 ≤ v → v + r = 501 → Q (0, tr_un (fun v => tr_F (tr_K (M 3) x2) v x1) r v) X2 → Y G (d + 400) mX12_unasked 29 [(2, 234), (0, x1), (0, x2), (0, v)] [] X2 Q := fun r => by
    induction r with
    | zero =>
      intro v Q v0 hv hh
      exact bX12_unasked_29 hG ⟨fun _ => hh, fun z => absurd z (by omega)⟩
    | succ r ih =>
      intro v Q v0 hv hh
      have b := tr_F_b (K := tr_K (M 3) x2) (v := v) (w := x1)
      rw [show tr_un (fun v => tr_F (tr_K (M 3) x2) v x1) (r + 1) v = if tr_F (tr_K (M 3) x2) v x1 = -1 then v else tr_un (fun v => tr_F (tr_K (M 3) x2) v x1) r (v + 1) from rfl] at hh
      exact bX12_unasked_29 hG ⟨fun z => absurd z (by omega), fun _ => m_fo (d := d + 398) hG (K := tr_K (M 3) x2) (by omega) (by omega) c1.2 (fun k => (tr_K_b c2.2 k v (by omega) (by omega)).1) (fun k k1 k5 => e2 k v k1 k5 (by omega) (by omega)) (bX12_unasked_42 hG ⟨fun z => ⟨by omega, ih (v + 1) Q (by omega) (by omega) (by rw [if_neg (by omega)] at hh; exact hh)⟩, fun z => by rw [if_pos (by omega)] at hh; exact hh⟩)⟩
  exact lm 501 0 _ (by decide) (by decide) ⟨rfl, J_tr hJ f2 j2⟩
theorem pr_rarest (hG : zP G) (hJ : zJ M) {x1 x2 x3 x4 : Int} : zPr G d mX11_rarest mX12_rarest [(2, 1), (0, x1), (0, x2), (0, x3), (0, x4)] [(2, 234), (0, x1), (0, x2), (0, x3), (0, x4), (9, 0), (9, 0), (9, 0), (9, 0)] M := by
  have no : ∀ X, zfr trF M X → zJT X → ¬ ((1 ≤ x1 ∧ x1 ≤ 5) ∧ (0 ≤ x2 ∧ x2 ≤ 9) ∧ -500 ≤ x3 ∧ x4 ≤ 500 ∧ x3 ≤ x4) → Y G (d + 400) mX12_rarest 0 [(2, 234), (0, x1), (0, x2), (0, x3), (0, x4), (9, 0), (9, 0), (9, 0), (9, 0)] [] X (fun r2 M2 => r2 = (0, -1000) ∧ zJn M M2) := fun X fX jX q => by
    have e : zJn M X := J_tr hJ (zfr_sub fX (by decide)) jX
    refine bX12_rarest_0 hG ⟨fun c1 => ⟨fun c2 => bX12_areValues_0 hG ⟨fun _ => ?_, fun c3 => ⟨fun _ => ?_, fun c4 => ⟨fun _ => ?_, fun c5 => absurd ⟨c1, c2, c3, c4, c5⟩ q⟩⟩⟩, fun _ => ⟨rfl, e⟩⟩, fun _ => ⟨rfl, e⟩⟩ <;> exact bX12_rarest_25 hG ⟨fun z => absurd rfl z, fun _ => ⟨rfl, e⟩⟩
  have T0 := (zj_C hJ).1
  refine bX11_rarest_0 hG ⟨fun c1 => ⟨fun c2 => bX11_areValues_0 hG ⟨fun c3 => ⟨fun c4 => bX11_rarest_25 hG ⟨fun _ => ?_, fun z => absurd z (by decide)⟩, fun c4 => bX11_rarest_25 hG ⟨fun z => absurd rfl z, fun _ => no M zfr_rfl T0 (fun z => c4 (by omega))⟩⟩, fun c3 => bX11_rarest_25 hG ⟨fun z => absurd rfl z, fun _ => no M zfr_rfl T0 (fun z => c3 (by omega))⟩⟩, fun c2 => no M zfr_rfl T0 (fun z => c2 z.2.1)⟩, fun c1 => no M zfr_rfl T0 (fun z => c1 z.1)⟩
  refine s_kp (d := d + 397) hG c2 c1 zfr_rfl T0 (tr_ht hJ) (fun X fX jX eX => bX11_rarest_48 hG (bX9_rarestOf_0 hG ?_))
  generalize hK : tr_K (M 3) x2 x1 = K at eX
  have hp : ∀ v, -500 ≤ v → v ≤ 500 → 0 ≤ K v := fun v v0 v1 => by rw [← hK]; exact (tr_K_b c2.2 x1 v v0 v1).1
  have ec : ∀ v, -500 ≤ v → v ≤ 500 → X 171 (zpl x2 x1 v) = K v := fun v v0 v1 => by rw [eX x1 v c1.1 (Int.le_refl _) v0 v1, hK]
  have st : ∀ (r : Nat) (v b : Int), tr_ra K (r + 1) v b = if K v = 0 then tr_ra K r (v + 1) b else if b = -1000 then tr_ra K r (v + 1) v else if K v < K b then tr_ra K r (v + 1) v else tr_ra K r (v + 1) b := fun r v b => rfl
  have lc : ∀ (r : Nat) (v b l : Int) (Q : zV → zM → Prop), -500 ≤ v → (x4 < v ∧ r = 0 ∨ v + r = x4 + 1) → (b = -1000 ∨ l = K b) → Q (0, tr_ra K r v b) X → Y G (d + 399) mX9_rarestOf 11 [(2, 170), (0, x2), (0, x1), (0, x3), (0, x4), (0, b), (0, l), (0, v), (9, 0)] [] X Q := fun r => by
    induction r with
    | zero =>
      intro v b l Q v0 hv hb hh
      exact bX9_rarestOf_11 hG ⟨fun _ => hh, fun z => absurd z (by omega)⟩
    | succ r ih =>
      intro v b l Q v0 hv hb hh
      rw [st] at hh
      have z := zpl_b c2 c1 (v := v) (by omega) (by omega)
      refine bX9_rarestOf_11 hG ⟨fun z => absurd z (by omega), fun _ => bX9_countOf_0 hG ⟨fun _ => ⟨fun _ => ⟨fun _ => ⟨z.1, z.2, ?_⟩, fun z => (z (by omega)).elim⟩, fun z => (z (by omega)).elim⟩, fun z => (z (by omega)).elim⟩⟩
      rw [ec v (by omega) (by omega)]
      refine bX9_rarestOf_26 hG ⟨fun q => ⟨by omega, ih (v + 1) b l Q (by omega) (by omega) hb (by rw [if_pos q] at hh; exact hh)⟩, fun q => ?_⟩
      rw [if_neg q] at hh
      refine ⟨fun q2 => ⟨by omega, ih (v + 1) v (K v) Q (by omega) (by omega) (Or.inr rfl) (by rw [if_pos q2] at hh; exact hh)⟩, fun q2 => ?_⟩
      rw [if_neg q2] at hh
      have hl : l = K b := by rcases hb with hb | hb; exact absurd hb q2; exact hb
      refine ⟨fun q3 => ⟨by omega, ih (v + 1) b l Q (by omega) (by omega) hb (by rw [if_neg (by omega)] at hh; exact hh)⟩, fun q3 => ⟨by omega, ih (v + 1) v (K v) Q (by omega) (by omega) (Or.inr rfl) (by rw [if_pos (by omega)] at hh; exact hh)⟩⟩
  by_cases c5 : x3 ≤ x4
  · refine lc (x4 + 1 - x3).toNat x3 (-1000) 0 _ (by omega) (by omega) (Or.inl rfl) (bX11_rarest_60 hG ?_)
    refine bX12_rarest_0 hG ⟨fun _ => ⟨fun _ => bX12_areValues_0 hG ⟨fun z => absurd z (by omega), fun _ => ⟨fun z => absurd z (by omega), fun _ => ⟨fun z => absurd z (by omega), fun _ => bX12_rarest_25 hG ⟨fun _ => ?_, fun z => absurd z (by decide)⟩⟩⟩⟩, fun z => absurd c2 z⟩, fun z => absurd c1 z⟩
    refine m_kp (d := d + 397) hG hJ c2 c1 (zfr_sub fX (by decide)) jX (fun X2 f2 j2 e2 => bX12_rarest_38 hG ?_)
    have em : ∀ v, -500 ≤ v → v ≤ 500 → X2 264 (zce x1 v) = K v := fun v v0 v1 => by rw [e2 x1 v c1.1 (Int.le_refl _) v0 v1, hK]
    have lm : ∀ (r : Nat) (v b : Int) (Q : zV → zM → Prop), -500 ≤ v → v + r = x4 + 1 → (b = -1000 ∨ -500 ≤ b ∧ b < v) → Q (0, tr_ra K r v b) X2 → Y G (d + 400) mX12_rarest 46 [(2, 234), (0, x1), (0, x2), (0, x3), (0, x4), (0, b), (0, v), (9, 0), (9, 0)] [] X2 Q := fun r => by
      induction r with
      | zero =>
        intro v b Q v0 hv hb hh
        exact bX12_rarest_46 hG ⟨fun _ => hh, fun z => absurd z (by omega)⟩
      | succ r ih =>
        intro v b Q v0 hv hb hh
        rw [st] at hh
        have z := zce_b (n := x1) (v := v) (by omega) (by omega) (by omega) (by omega)
        have p := hp v (by omega) (by omega)
        refine bX12_rarest_46 hG ⟨fun z => absurd z (by omega), fun _ => ⟨z.1, z.2, ?_⟩⟩
        rw [em v (by omega) (by omega), zlcmp_le, zlcmp_gt]
        refine ⟨fun q => ⟨by omega, ih (v + 1) b Q (by omega) (by omega) (by omega) (by rw [if_pos (by omega)] at hh; exact hh)⟩, fun q => ?_⟩
        rw [if_neg (by omega)] at hh
        refine ⟨fun q2 => ⟨by omega, ih (v + 1) v Q (by omega) (by omega) (by omega) (by rw [if_pos q2] at hh; exact hh)⟩, fun q2 => ?_⟩
        rw [if_neg q2] at hh
        have y := zce_b (n := x1) (v := b) (by omega) (by omega) (by omega) (by omega)
        refine ⟨y.1, y.2, ?_⟩
        rw [em b (by omega) (by omega), zlcmp_ge, zlcmp_lt]
        exact ⟨fun q3 => ⟨by omega, ih (v + 1) b Q (by omega) (by omega) (by omega) (by rw [if_neg (by omega)] at hh; exact hh)⟩, fun q3 => ⟨by omega, ih (v + 1) v Q (by omega) (by omega) (by omega) (by rw [if_pos q3] at hh; exact hh)⟩⟩
    exact lm (x4 + 1 - x3).toNat x3 (-1000) _ (by omega) (by omega) (Or.inl rfl) ⟨rfl, J_tr hJ f2 j2⟩
  · exact lc 0 x3 (-1000) 0 _ (by omega) (by omega) (Or.inl rfl) (bX11_rarest_60 hG (no X fX jX (fun z => c5 z.2.2.2.2)))
theorem pr_fair (hG : zP G) (hJ : zJ M) {x1 x2 x3 : Int} : zPr G d mX11_fair mX12_fair [(2, 1), (0, x1), (0, x2), (0, x3), (9, 0), (9, 0)] [(2, 234), (0, x1), (0, x2), (0, x3), (9, 0), (9, 0), (9, 0), (9, 0), (9, 0)] M := by
  have n2 := hJ.1.2.2.1
  have n26 := n2.1
  have u := zj_j11 hJ
  have x235 : ∀ X, zfr trW M X → ∀ i, 0 ≤ i → i < 1000 → X 235 i = M 235 i := fun X hX i i0 i1 => hX 235 i (by unfold zhw zhit trW; simp; omega)
  have no : ∀ X, zfr trF M X → zJT X → ¬ ((0 ≤ x1 ∧ x1 < M 235 2) ∧ -500 ≤ x2 ∧ x3 ≤ 500 ∧ x2 ≤ x3) → Y G (d + 400) mX12_fair 0 [(2, 234), (0, x1), (0, x2), (0, x3), (9, 0), (9, 0), (9, 0), (9, 0), (9, 0)] [] X (fun r2 M2 => r2 = (0, -1000) ∧ zJn M M2) := fun X fX jX q => by
    have e : zJn M X := J_tr hJ (zfr_sub fX (by decide)) jX
    refine bX12_fair_0 hG ?_
    rw [x235 X (zfr_sub fX (by decide)) 2 (by decide) (by decide)]
    refine ⟨by omega, fun c1 => bX12_areValues_0 hG ⟨fun _ => ?_, fun c3 => ⟨fun _ => ?_, fun c4 => ⟨fun _ => ?_, fun c5 => absurd ⟨c1, c3, c4, c5⟩ q⟩⟩⟩, fun _ => ⟨rfl, e⟩⟩ <;> exact bX12_fair_13 hG ⟨fun z => absurd rfl z, fun _ => ⟨rfl, e⟩⟩
  have T0 := (zj_C hJ).1
  refine bX11_fair_0 hG ?_
  rw [u.1]
  refine ⟨by omega, fun c1 => bX11_areValues_0 hG ⟨fun c3 => ⟨fun c4 => bX11_fair_13 hG ⟨fun _ => ⟨by omega, by omega, ?_⟩, fun z => absurd z (by decide)⟩, fun c4 => bX11_fair_13 hG ⟨fun z => absurd rfl z, fun _ => no M zfr_rfl T0 (fun z => c4 (by omega))⟩⟩, fun c3 => bX11_fair_13 hG ⟨fun z => absurd rfl z, fun _ => no M zfr_rfl T0 (fun z => c3 (by omega))⟩⟩, fun c1 => no M zfr_rfl T0 (fun z => c1 z.1)⟩
  have k := n2.2 x1 c1.1 c1.2
  have w := u.2 x1 c1.1 c1.2
  rw [w.2.2.1, w.2.2.2.2]
  generalize hm : min (M 235 (76 + 5 * x1)) 9 = m
  generalize hw : min (M 235 (78 + 5 * x1)) 5 = mo
  have m9 : 0 ≤ m ∧ m ≤ 9 := by omega
  have w5 : 1 ≤ mo ∧ mo ≤ 5 := by omega
  refine bX9_longestOf_0 hG tr_h3 ?_
  have st : ∀ (r : Nat) (v b l : Int), tr_lg (fun v => tr_F (tr_K (M 3) m) v mo) (r + 1) v b l = if l < tr_F (tr_K (M 3) m) v mo then tr_lg (fun v => tr_F (tr_K (M 3) m) v mo) r (v + 1) v (tr_F (tr_K (M 3) m) v mo) else tr_lg (fun v => tr_F (tr_K (M 3) m) v mo) r (v + 1) b l := fun r v b l => rfl
  have lc : ∀ (r : Nat) (v b l : Int) (X : zM) (Q : zV → zM → Prop), -500 ≤ v → (x3 < v ∧ r = 0 ∨ v + r = x3 + 1) → zfr trF M X → zJT X → (∀ X', zfr trF M X' → zJT X' → Q (0, tr_lg (fun v => tr_F (tr_K (M 3) m) v mo) r v b l) X') → Y G (d + 399) mX9_longestOf 11 [(2, 170), (0, m), (0, mo), (0, x2), (0, x3), (2, 3), (0, b), (0, l), (0, v), (9, 0)] [] X Q := fun r => by
    induction r with
    | zero =>
      intro v b l X Q v0 hv fX jX hh
      exact bX9_longestOf_11 hG tr_h3 ⟨fun _ => hh X fX jX, fun z => absurd z (by omega)⟩
    | succ r ih =>
      intro v b l X Q v0 hv fX jX hh
      refine bX9_longestOf_11 hG tr_h3 ⟨fun z => absurd z (by omega), fun _ => s_fl (d := d + 395) hG m9 (by omega) (by omega) w5.2 fX jX (tr_ht hJ) (fun X1 f1 j1 => bX9_longestOf_28 hG tr_h3 ⟨fun z => ⟨by omega, ih (v + 1) b l X1 Q (by omega) (by omega) f1 j1 (fun X' f' j' => ?_)⟩, fun z => ⟨by omega, ih (v + 1) v _ X1 Q (by omega) (by omega) f1 j1 (fun X' f' j' => ?_)⟩⟩)⟩
      · have q := hh X' f' j'
        rw [st, if_neg (by omega)] at q
        exact q
      · have q := hh X' f' j'
        rw [st, if_pos z] at q
        exact q
  by_cases c5 : x2 ≤ x3
  · refine lc (x3 + 1 - x2).toNat x2 (-1000) 0 M _ (by omega) (by omega) zfr_rfl T0 (fun X fX jX => bX11_fair_71 hG ?_)
    have fW : zfr trW M X := zfr_sub fX (by decide)
    refine bX12_fair_0 hG ?_
    rw [x235 X fW 2 (by decide) (by decide)]
    refine ⟨by omega, fun _ => bX12_areValues_0 hG ⟨fun z => absurd z (by omega), fun _ => ⟨fun z => absurd z (by omega), fun _ => ⟨fun z => absurd z (by omega), fun _ => bX12_fair_13 hG ⟨fun _ => ⟨⟨by omega, by decide, by decide⟩, ?_⟩, fun z => absurd z (by decide)⟩⟩⟩⟩, fun z => absurd c1 z⟩
    rw [show 74 + 5 * x1 + 2 = 76 + 5 * x1 by omega, x235 X fW (76 + 5 * x1) (by omega) (by omega)]
    have fin : ∀ n : Int, Y G (d + 399) mX12_findKinds 0 [(2, 234), (0, 5), (0, m), (9, 0), (9, 0)] [] X (fun r M' => Y G (d + 398 + 2) mX12_fair 47 [(2, 234), (0, x1), (0, x2), (0, x3), (0, n), (9, 0), (9, 0), (9, 0), (9, 0)] (zpush r []) M' (fun r2 M2 => r2 = (0, tr_lg (fun v => tr_F (tr_K (M 3) m) v mo) (x3 + 1 - x2).toNat x2 (-1000) 0) ∧ zJn M M2)) := fun n => by
      refine m_kp (d := d + 397) hG hJ m9 (by decide) fW jX (fun X2 f2 j2 e2 => bX12_fair_47 hG ?_)
      have lm : ∀ (r : Nat) (v b l : Int) (Q : zV → zM → Prop), -500 ≤ v → v + r = x3 + 1 → 0 ≤ l → Q (0, tr_lg (fun v => tr_F (tr_K (M 3) m) v mo) r v b l) X2 → Y G (d + 398 + 2) mX12_fair 58 [(2, 234), (0, x1), (0, x2), (0, x3), (0, n), (0, b), (0, l), (0, v), (9, 0)] [] X2 Q := fun r => by
        induction r with
        | zero =>
          intro v b l Q v0 hv l0 hh
          exact bX12_fair_58 hG ⟨fun _ => hh, fun z => absurd z (by omega)⟩
        | succ r ih =>
          intro v b l Q v0 hv l0 hh
          rw [st, tr_F_5 (by omega) w5.2] at hh
          have fb := tr_F_b (K := tr_K (M 3) m) (v := v) (w := 5)
          refine bX12_fair_58 hG ⟨fun z => absurd z (by omega), fun _ => m_fo (d := d + 398) hG (K := tr_K (M 3) m) (by omega) (by omega) (by decide) (fun k => (tr_K_b m9.2 k v (by omega) (by omega)).1) (fun k k1 k5 => e2 k v k1 k5 (by omega) (by omega)) (bX12_fair_71 hG ?_)⟩
          rw [show 74 + 5 * x1 + 4 = 78 + 5 * x1 by omega, x235 X2 f2 (78 + 5 * x1) (by omega) (by omega)]
          generalize tr_F (tr_K (M 3) m) v 5 = F at *
          refine ⟨fun z => ⟨by omega, ih (v + 1) b l Q (by omega) (by omega) l0 ?_⟩, fun z => ⟨⟨by omega, by decide, by decide⟩, fun z2 => ⟨by omega, ih (v + 1) v F Q (by omega) (by omega) (by omega) ?_⟩, fun z2 => ⟨by omega, ih (v + 1) b l Q (by omega) (by omega) l0 ?_⟩⟩⟩
          · rw [if_neg (by split <;> omega)] at hh; exact hh
          · rw [if_pos (show F ≤ mo by omega), if_pos z] at hh; exact hh
          · rw [if_neg (show ¬ F ≤ mo by omega), if_neg (by omega)] at hh; exact hh
      exact lm (x3 + 1 - x2).toNat x2 (-1000) 0 _ (by omega) (by omega) (by decide) ⟨rfl, J_tr hJ f2 j2⟩
    refine ⟨fun z => ?_, fun z => ?_⟩
    · have em : M 235 (76 + 5 * x1) = m := by omega
      have q := fin (M 235 (76 + 5 * x1))
      rw [em] at q ⊢
      exact q
    · have em : (9 : Int) = m := by omega
      have q := fin (M 235 (76 + 5 * x1))
      rw [← em] at q ⊢
      exact q
  · exact lc 0 x2 (-1000) 0 M _ (by omega) (by omega) zfr_rfl T0 (fun X fX jX => bX11_fair_71 hG (no X fX jX (fun z => c5 z.2.2.2)))
end TR7

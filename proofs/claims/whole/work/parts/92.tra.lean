section TRA
variable {G : zG} {d : Nat} {M : zM} {Q : zV → zM → Prop}
theorem tr_Wr_1 {K : Int → Int → Int} {lf : Int → Int} {f : Nat} {n v : Int} {l : List Int} (h : tr_Wr K lf f n v l) : 1 ≤ n := by
  have := tr_Wr_l _ _ _ _ h
  omega
def tr_S (K : Int → Int → Int) (lf : Int → Int) (M : zM) : List (Int × Int × List Int) → Prop
  | [] => True
  | e :: S => (M 265 (S.length : Int) = e.1 ∧ M 266 (S.length : Int) = e.2.1) ∧ (e.1 ≤ 5 ∧ -500 ≤ e.2.1 ∧ e.2.1 ≤ 500) ∧ (∃ f, tr_Wr K lf f e.1 e.2.1 e.2.2) ∧ tr_S K lf M S
def tr_al : List (Int × Int × List Int) → List Int
  | [] => []
  | e :: S => e.2.2 ++ tr_al S
theorem tr_S_e {K : Int → Int → Int} {lf : Int → Int} {M M' : zM} : ∀ S : List (Int × Int × List Int), (∀ i, 0 ≤ i → i < (S.length : Int) → M' 265 i = M 265 i ∧ M' 266 i = M 266 i) → tr_S K lf M S → tr_S K lf M' S
  | [], _, _ => True.intro
  | e :: S, h, hS => by
    have a := h (S.length : Int) (by omega) (by rw [List.length_cons]; omega)
    exact ⟨⟨a.1.trans hS.1.1, a.2.trans hS.1.2⟩, hS.2.1, hS.2.2.1, tr_S_e S (fun i i0 i1 => h i i0 (by rw [List.length_cons]; omega)) hS.2.2.2⟩
theorem tr_S_l {K : Int → Int → Int} {lf : Int → Int} : ∀ S : List (Int × Int × List Int), tr_S K lf M S → S.length ≤ (tr_al S).length
  | [], _ => Nat.le_refl 0
  | e :: S, hS => by
    obtain ⟨f, hf⟩ := hS.2.2.1
    have a := tr_Wr_l _ _ _ _ hf
    have b := tr_Wr_1 hf
    have c := tr_S_l S hS.2.2.2
    show S.length + 1 ≤ (e.2.2 ++ tr_al S).length
    rw [List.length_append]
    omega
def trU : List (Int × Int × Int) := [(265, 0, 1000000), (266, 0, 1000000), (267, 0, 1000000), (234, 52, 53)]
theorem tr_ps_f {M0 : zM} {a b : Int} (h : zfr trU M0 M) (ht : 0 ≤ M 234 52 ∧ M 234 52 < 10) : zfr trU M0 (tr_ps M a b) :=
  zfr_set (zfr_set (zfr_set h (zhit_at 0 rfl (by omega))) (zhit_at 1 rfl (by omega))) (zhit_at 3 rfl (by decide))
theorem m_leafOf (hG : zP G) {th : Int → Int} {m v : Int} (hl : ∀ t, 0 ≤ t → t < 4 → M 235 (10 + t) = th t) (h : Q (0, tr_lf th m v) M) : Y G (d + 1) mX12_leafOf 0 [(2, 234), (0, v), (0, m), (9, 0)] [] M Q := by
  have lp : ∀ (r : Nat) (t : Int), 0 ≤ t → t + r = 4 → Q (0, tr_lt th v r t) M → Y G (d + 1) mX12_leafOf 13 [(2, 234), (0, v), (0, m), (0, t)] [] M Q := fun r => by
    induction r with
    | zero =>
      intro t t0 ht hh
      exact bX12_leafOf_13 hG ⟨fun _ => hh, fun z => absurd z (by omega)⟩
    | succ r ih =>
      intro t t0 ht hh
      rw [tr_lt_s] at hh
      refine bX12_leafOf_13 hG ⟨fun z => absurd z (by omega), fun _ => ⟨by omega, by omega, ?_⟩⟩
      rw [hl t t0 (by omega)]
      exact ⟨fun z => ⟨by omega, ih (t + 1) (by omega) (by omega) (by rw [if_neg z] at hh; exact hh)⟩, fun z => ⟨by omega, by rw [if_pos z] at hh; exact hh⟩⟩
  unfold tr_lf at h
  refine bX12_leafOf_0 hG ⟨fun c => ?_, fun c => ?_⟩
  · rw [if_pos c] at h; exact h
  · rw [if_neg c] at h; exact lp 4 0 (by decide) (by decide) h
theorem m_loop (hG : zP G) {K : Int → Int → Int} {th : Int → Int} {M0 : zM} {m v0 i n0 : Int} (hi : 0 ≤ i ∧ i < 9) (hc : ∀ k u, 1 ≤ k → k ≤ 5 → -500 ≤ u → u ≤ 500 → M0 264 (zce k u) = K k u) (hl : ∀ t, 0 ≤ t → t < 4 → M0 235 (10 + t) = th t) : ∀ (r : Nat) (S : List (Int × Int × List Int)) (o : Int) (M : zM) (Q : zV → zM → Prop), (tr_al S).length = r → 0 ≤ o → o + r ≤ 9 → tr_S K (tr_lf th m) M S → M 234 52 = (S.length : Int) → zfr trU M0 M → (∀ M', zfr trU M0 M' → Q (0, tr_put (tr_al S) o (M 267) i) M') → Y G (d + 2) mX12_shortest 90 [(2, 234), (0, m), (0, v0), (0, i), (0, n0), (0, o)] [] M Q := fun r => by
  induction r with
  | zero =>
    intro S o M Q hr o0 o1 hS hT hf h
    have c := tr_S_l S hS
    have hn : S = [] := List.length_eq_zero_iff.mp (by omega)
    rw [hn] at hT h
    refine bX12_shortest_90 hG ⟨fun _ => ⟨hi, h M hf⟩, fun z => absurd hT (by intro q; rw [q] at z; exact absurd z (by decide))⟩
  | succ r ih =>
    intro S o M Q hr o0 o1 hS hT hf h
    have cS := tr_S_l S hS
    cases S with
    | nil => exact absurd hr (by intro q; cases q)
    | cons e S =>
      obtain ⟨n, v, l⟩ := e
      obtain ⟨⟨s1, s2⟩, ⟨s3, s4⟩, ⟨f, hW⟩, hS'⟩ := hS
      have s1' : M 265 (S.length : Int) = n := s1
      have s2' : M 266 (S.length : Int) = v := s2
      have n5 : n ≤ 5 := s3
      have vr : -500 ≤ v ∧ v ≤ 500 := s4
      rw [List.length_cons] at hT cS
      have hal : tr_al ((n, v, l) :: S) = l ++ tr_al S := rfl
      rw [hal] at hr h cS
      rw [List.length_append] at hr
      have hT' : M 234 52 - 1 = (S.length : Int) := by omega
      have hW' : tr_Wr K (tr_lf th m) f n v l := hW
      have lw := tr_Wr_l _ _ _ _ hW'
      refine bX12_shortest_90 hG ?_
      rw [hT', s1', s2']
      have f1 : zfr trU M0 (zset M 234 52 (S.length : Int)) := zfr_set hf (zhit_at 3 rfl (by decide))
      have hl1 : ∀ t, 0 ≤ t → t < 4 → zset M 234 52 (S.length : Int) 235 (10 + t) = th t := fun t t0 t1 => by
        rw [f1 235 (10 + t) (by unfold zhw zhit trU; simp; omega)]; exact hl t t0 t1
      have hc1 : ∀ k u, 1 ≤ k → k ≤ 5 → -500 ≤ u → u ≤ 500 → zset M 234 52 (S.length : Int) 264 (zce k u) = K k u := fun k u k0 k1 u0 u1 => by
        have b := (zce_b (n := k) (v := u) (by omega) k1 u0 u1).2
        rw [f1 264 (zce k u) (by unfold zhw zhit trU; simp; omega)]; exact hc k u k0 k1 u0 u1
      have hS1 : tr_S K (tr_lf th m) (zset M 234 52 (S.length : Int)) S := tr_S_e S (fun i i0 i1 => by rw [zset_off (by decide), zset_off (by decide)]; exact ⟨rfl, rfl⟩) hS'
      rw [List.length_append] at cS
      cases f with
      | zero => exact False.elim hW'
      | succ f =>
      rcases hW' with ⟨h1, h2⟩ | ⟨h1, p, s, x, y, l1, l2, h2, h3, h4, h5, h6, h7⟩
      · refine ⟨fun z => absurd z (by omega), fun _ => ⟨by omega, by omega, fun z => absurd h1 z, fun _ => ⟨by omega, ?_⟩⟩⟩
        refine m_leafOf hG hl1 (bX12_shortest_140 hG ⟨by omega, by omega, ?_⟩)
        refine ih S (o + 1) _ Q (by omega) (by omega) (by omega) (tr_S_e S (fun i i0 i1 => by rw [zset_off (by decide), zset_off (by decide)]; exact ⟨rfl, rfl⟩) hS1) (by rw [zset_off (by decide)]; exact zset_same) (zfr_set f1 (zhit_at 2 rfl (by omega))) (fun M' f' => ?_)
        rw [zset_is, zrow_row, zset_off (by decide)]
        have q := h M' f'
        rw [h2] at q
        exact q
      · obtain ⟨hp, hs, hx, hy⟩ := h4
        have a1 := tr_Wr_l _ _ _ _ h5
        have a2 := tr_Wr_l _ _ _ _ h6
        have t1 : zset M 234 52 (S.length : Int) 234 52 = (S.length : Int) := zset_same
        refine ⟨fun z => absurd z (by omega), fun _ => ⟨by omega, by omega, fun _ => ⟨by omega, by omega, ?_⟩, fun z => absurd z (by omega)⟩⟩
        refine m_split hG hc1 n5 (by rw [t1]; omega) h1 h2 h3 (bX12_shortest_168 hG ⟨by omega, by omega, by omega, ?_⟩)
        have t2 : tr_ps (zset M 234 52 (S.length : Int)) (n - p) y 234 52 = (S.length : Int) + 1 := by rw [tr_ps_t, t1]
        have e0 : (l.length : Int) = 1 + l1.length + l2.length := by rw [h7, List.length_cons, List.length_append]; omega
        refine ih ((p, x, l1) :: (n - p, y, l2) :: S) (o + 1) _ Q ?_ (by omega) (by omega) ?_ ?_ (zfr_set (tr_ps_f (tr_ps_f f1 (by rw [t1]; omega)) (by rw [t2]; omega)) (zhit_at 2 rfl (by omega))) (fun M' f' => ?_)
        · show (l1 ++ (l2 ++ tr_al S)).length = r
          rw [List.length_append, List.length_append]; omega
        · refine ⟨⟨?_, ?_⟩, ⟨by show p ≤ 5; omega, hx⟩, ⟨f, h5⟩, ⟨?_, ?_⟩, ⟨by show n - p ≤ 5; omega, hy⟩, ⟨f, h6⟩, ?_⟩
          · rw [zset_off (by decide), tr_ps_5, t2, List.length_cons, if_pos (by omega)]
          · rw [zset_off (by decide), tr_ps_6, t2, List.length_cons, if_pos (by omega)]
          · rw [zset_off (by decide), tr_ps_5, t2, if_neg (by omega), tr_ps_5, t1, if_pos rfl]
          · rw [zset_off (by decide), tr_ps_6, t2, if_neg (by omega), tr_ps_6, t1, if_pos rfl]
          · refine tr_S_e S (fun i i0 i1 => ?_) hS1
            exact ⟨by rw [zset_off (show (265 : Int) ≠ 267 by decide), tr_ps_5, t2, if_neg (by omega), tr_ps_5, t1, if_neg (by omega)], by rw [zset_off (show (266 : Int) ≠ 267 by decide), tr_ps_6, t2, if_neg (by omega), tr_ps_6, t1, if_neg (by omega)]⟩
        · rw [zset_off (by decide), tr_ps_t, t2, List.length_cons, List.length_cons]; omega
        · rw [zset_is, zrow_row, tr_ps_o (by decide) (by decide) (by decide), tr_ps_o (by decide) (by decide) (by decide), zset_off (by decide)]
          have q := h M' f'
          rw [h7, List.cons_append, tr_put_c, List.append_assoc] at q
          exact q
theorem s_fl2 (hG : zP G) {N : zM} {m v w : Int} (hm : 0 ≤ m ∧ m ≤ 9) (v0 : -500 ≤ v) (v1 : v ≤ 500) (w5 : w ≤ 5) (hN : zfr trF N M) (hT : zJT M) (ht : ∀ t, 0 ≤ t → t < 4 → 0 ≤ N 3 t ∧ N 3 t ≤ 99) (h : ∀ M', zfr trF N M' → zJT M' → (tr_F (tr_K (N 3) m) v w ≠ -1 → tr_K (N 3) m (tr_F (tr_K (N 3) m) v w) v ≠ 0 ∧ tr_H (tr_K (N 3) m) (N 3) m (tr_F (tr_K (N 3) m) v w) M') → Q (0, tr_F (tr_K (N 3) m) v w) M') : Y G (d + 3) mX9_fewestLeaves 0 [(2, 170), (0, m), (0, v), (0, w), (2, 3), (9, 0)] [] M Q := by
  have lp : ∀ (r : Nat) (k : Int) (X : zM), 1 ≤ k → k + r = 7 → zfr trF N X → zJT X → (∀ M', zfr trF N M' → zJT M' → (tr_fw (tr_K (N 3) m) v w r k ≠ -1 → tr_K (N 3) m (tr_fw (tr_K (N 3) m) v w r k) v ≠ 0 ∧ tr_H (tr_K (N 3) m) (N 3) m (tr_fw (tr_K (N 3) m) v w r k) M') → Q (0, tr_fw (tr_K (N 3) m) v w r k) M') → Y G (d + 2 + 1) mX9_fewestLeaves 3 [(2, 170), (0, m), (0, v), (0, w), (2, 3), (0, k)] [] X Q := fun r => by
    induction r with
    | zero =>
      intro k X k1 hk hX jX hh
      exact bX9_fewestLeaves_3 hG tr_h3 ⟨fun _ => hh X hX jX (fun z => absurd rfl z), fun c => absurd c (by omega)⟩
    | succ r ih =>
      intro k X k1 hk hX jX hh
      refine bX9_fewestLeaves_3 hG tr_h3 ⟨fun c => ?_, fun c => ?_⟩
      · have q := hh X hX jX
        rw [tr_fw_s, if_pos c] at q
        exact q (fun z => absurd rfl z)
      · have k5 : 1 ≤ k ∧ k ≤ 5 := ⟨k1, by omega⟩
        have b := zpl_b hm k5 v0 v1
        have e3 : ∀ t, 0 ≤ t → t < 4 → X 3 t = N 3 t := fun t t0 t1 => hX 3 t (by unfold zhw zhit trF; simp; omega)
        refine s_prepare (d := d) hG hm k5 jX (fun t t0 t1 => by rw [e3 t t0 t1]; exact ht t t0 t1) (fun X1 f1 j1 e' r' => ?_)
        have hX1 : zfr trF N X1 := zfr_trans hX f1
        have e1 : ∀ k' v, 1 ≤ k' → k' ≤ k → -500 ≤ v → v ≤ 500 → X1 171 (zpl m k' v) = tr_K (N 3) m k' v := fun k' v k0 k1 v0 v1 => by
          rw [(j1.2 m hm.1 hm.2).2 k' v k0 (by omega) v0 v1, tr_K_th (th' := N 3) ((e' 0 (by decide) (by decide)).trans (e3 0 (by decide) (by decide))) ((e' 1 (by decide) (by decide)).trans (e3 1 (by decide) (by decide))) ((e' 2 (by decide) (by decide)).trans (e3 2 (by decide) (by decide))) ((e' 3 (by decide) (by decide)).trans (e3 3 (by decide) (by decide)))]
        refine bX9_fewestLeaves_18 hG tr_h3 (bX9_countOf_0 hG ⟨fun _ => ⟨fun _ => ⟨fun _ => ⟨b.1, b.2, bX9_fewestLeaves_26 hG tr_h3 ⟨fun z => ⟨by omega, ih (k + 1) X1 (by omega) (by omega) hX1 j1 (fun M' f' j' => ?_)⟩, fun z => ?_⟩⟩, fun z => (z (by omega)).elim⟩, fun z => (z (by omega)).elim⟩, fun z => (z (by omega)).elim⟩)
        · have q := hh M' f' j'
          rw [tr_fw_s, if_neg (by omega), if_pos (by rw [← e1 k v k1 (Int.le_refl k) v0 v1]; exact z)] at q
          exact q
        · have z' : ¬ tr_K (N 3) m k v = 0 := by rw [← e1 k v k1 (Int.le_refl k) v0 v1]; exact z
          have q := hh X1 hX1 j1
          rw [tr_fw_s, if_neg (by omega), if_neg z'] at q
          exact q (fun _ => ⟨z', e1, fun t t0 t1 => (e' t t0 t1).trans (e3 t t0 t1)⟩)
  exact bX9_fewestLeaves_0 hG tr_h3 (lp 6 1 M (by decide) (by decide) hN hT h)
theorem pr_shortest (hG : zP G) (hJ : zJ M) {x1 x2 x3 : Int} : zPr G d mX11_shortest mX12_shortest [(2, 1), (0, x1), (0, x2), (0, x3), (9, 0)] [(2, 234), (0, x1), (0, x2), (0, x3), (9, 0), (9, 0)] M := by
  have no : ¬ ((0 ≤ x1 ∧ x1 ≤ 9) ∧ (-500 ≤ x2 ∧ x2 ≤ 500) ∧ -1 ≤ x3) → ∀ X, zJn M X → Y G (d + 400) mX12_shortest 0 [(2, 234), (0, x1), (0, x2), (0, x3), (9, 0), (9, 0)] [] X (fun r2 M2 => r2 = (0, -1) ∧ zJn M M2) := fun q X hX =>
    bX12_shortest_0 hG ⟨fun c1 => ⟨fun c2 => ⟨fun c3 => absurd ⟨c1, c2, c3⟩ q, fun _ => ⟨rfl, hX⟩⟩, fun _ => ⟨rfl, hX⟩⟩, fun _ => ⟨rfl, hX⟩⟩
  refine bX11_shortest_0 hG (bX11_fewest_0 hG ⟨fun c1 => ⟨fun c2 => ?_, fun c2 => bX11_shortest_6 hG ⟨fun _ => no (fun z => c2 z.2.1) M (zJ_rf hJ), fun z => absurd rfl z⟩⟩, fun c1 => bX11_shortest_6 hG ⟨fun _ => no (fun z => c1 z.1) M (zJ_rf hJ), fun z => absurd rfl z⟩⟩)
  refine s_fl2 (d := d + 395) hG c1 c2.1 c2.2 (by decide) zfr_rfl (zj_C hJ).1 (tr_ht hJ) (fun X fX jX hh => bX11_fewest_42 hG (bX11_shortest_6 hG ?_))
  have fb := tr_F_b (K := tr_K (M 3) x1) (v := x2) (w := 5)
  -- the model up to its own number
  have mo : ∀ (X : zM) (ans : zV), zfr trW M X → zJT X → -1 ≤ x3 → (∀ X2, zfr trW M X2 → zJT X2 → (∀ k v, 1 ≤ k → k ≤ 5 → -500 ≤ v → v ≤ 500 → X2 264 (zce k v) = tr_K (M 3) x1 k v) → Y G (d + 400) mX12_shortest 42 [(2, 234), (0, x1), (0, x2), (0, x3), (9, 0), (9, 0)] [(0, tr_F (tr_K (M 3) x1) x2 5)] X2 (fun r2 M2 => r2 = ans ∧ zJn M M2)) → Y G (d + 400) mX12_shortest 0 [(2, 234), (0, x1), (0, x2), (0, x3), (9, 0), (9, 0)] [] X (fun r2 M2 => r2 = ans ∧ zJn M M2) := fun X ans fX jX c3 hk => by
    refine bX12_shortest_0 hG ⟨fun _ => ⟨fun _ => ⟨fun _ => ?_, fun z => absurd z (by omega)⟩, fun z => absurd c2 z⟩, fun z => absurd c1 z⟩
    refine m_kp (d := d + 397) hG hJ c1 (by decide) fX jX (fun X2 f2 j2 e2 => bX12_shortest_36 hG ?_)
    exact m_fo (d := d + 398) hG (K := tr_K (M 3) x1) c2.1 c2.2 (by decide) (fun k => (tr_K_b c1.2 k x2 c2.1 c2.2).1) (fun k k1 k5 => e2 k x2 k1 k5 c2.1 c2.2) (hk X2 f2 j2 e2)
  have fW : zfr trW M X := zfr_sub fX (by decide)
  generalize hn : tr_F (tr_K (M 3) x1) x2 5 = n at *
  refine ⟨fun c => ?_, fun c => ⟨by omega, by omega, fun c3 => ⟨fun c4 => ?_, fun c4 => ⟨by omega, by omega, ?_⟩⟩, fun c3 => ?_⟩⟩
  · by_cases c3 : -1 ≤ x3
    · exact mo X _ fW jX c3 (fun X2 f2 j2 e2 => bX12_shortest_42 hG ⟨fun z => absurd z (by omega), fun _ => ⟨rfl, J_tr hJ f2 j2⟩⟩)
    · exact no (fun z => c3 z.2.2) X (J_tr hJ fW jX)
  · obtain ⟨hne, hH⟩ := hh c
    obtain ⟨nn, hnn⟩ := Int.eq_ofNat_of_zero_le (show 0 ≤ n by omega)
    obtain ⟨l, hW⟩ := tr_Wr_e (th := M 3) (m := x1) (lf := tr_lf (M 3) x1) 5 nn x2 (by omega) (by omega) (by omega) (by rw [← hnn]; exact hne)
    rw [← hnn] at hW
    have ll := tr_Wr_l _ _ _ _ hW
    refine bX9_signAt_0 hG (s_write (d := d + 390) hG c1 (show n ≤ 5 by omega) 5 n x2 0 l X _ hW hH (Int.le_refl n) c2 (by decide) (by omega) (bX9_signAt_8 hG ⟨fun z => absurd z (by omega), fun _ => ⟨fun z => absurd z (by omega), fun _ => ⟨by omega, bX11_shortest_56 hG ?_⟩⟩⟩))
    rw [zrow_row]
    have f3 : zfr trW M (zrow X 175 (tr_put l 0 (X 175))) := zfr_row fW 4 rfl
    have j3 : zJT (zrow X 175 (tr_put l 0 (X 175))) := zJT_c (zfr_sm (zfr_row (l := [(175, 0, 1000000)]) zfr_rfl 0 rfl) (by decide)) jX
    refine mo _ _ f3 j3 (by omega) (fun X2 f2 j2 e2 => bX12_shortest_42 hG ⟨fun _ => ⟨fun _ => ⟨by omega, by omega, fun _ => ?_, fun z => absurd z (by omega)⟩, fun z => absurd z c4⟩, fun z => absurd z (by omega)⟩)
    have t0 : zset X2 234 52 0 234 52 = 0 := zset_same
    refine m_push hG (by rw [t0]; decide) (bX12_shortest_87 hG ?_)
    have u1 : zfr trU X2 (zset X2 234 52 0) := zfr_set zfr_rfl (zhit_at 3 rfl (by decide))
    refine m_loop (d := d + 398) hG (K := tr_K (M 3) x1) (th := M 3) (M0 := X2) (by omega) e2 (fun t t0 t1 => ?_) (2 * nn - 1) [(n, x2, l)] 0 _ _ ?_ (by decide) (by omega) ?_ ?_ (tr_ps_f u1 (by rw [t0]; decide)) (fun M' f' => ⟨?_, ?_⟩)
    · rw [f2 235 (10 + t) (by unfold zhw zhit trW; simp; omega)]
      exact ((zj_j1 hJ) t t0 t1).symm
    · show (l ++ []).length = 2 * nn - 1
      rw [List.append_nil]; omega
    · refine ⟨⟨?_, ?_⟩, ⟨by show n ≤ 5; omega, c2⟩, ⟨5, hW⟩, True.intro⟩
      · rw [tr_ps_5, t0]; rfl
      · rw [tr_ps_6, t0]; rfl
    · rw [tr_ps_t, t0]; rfl
    · show (0, tr_put (l ++ []) 0 _ x3) = (0, tr_put l 0 (X 175) x3)
      rw [List.append_nil, tr_put_i l 0 _ (X 175) x3 (by omega) (by omega)]
    · have f5 : zfr trW X2 M' := zfr_sub f' (by decide)
      exact J_tr hJ (zfr_trans f2 f5) (zJT_c (zfr_sm f' (by decide)) j2)
  · exact mo X _ fW jX (by omega) (fun X2 f2 j2 e2 => bX12_shortest_42 hG ⟨fun _ => ⟨fun z => absurd c4 z, fun _ => ⟨by omega, by omega, rfl, J_tr hJ f2 j2⟩⟩, fun z => absurd z (by omega)⟩)
  · by_cases c5 : -1 ≤ x3
    · exact mo X _ fW jX c5 (fun X2 f2 j2 e2 => bX12_shortest_42 hG ⟨fun _ => ⟨fun _ => ⟨by omega, by omega, fun z => absurd z (by omega), fun _ => ⟨rfl, J_tr hJ f2 j2⟩⟩, fun z => absurd z (by omega)⟩, fun z => absurd z (by omega)⟩)
    · exact no (fun z => c5 z.2.2) X (J_tr hJ fW jX)
end TRA

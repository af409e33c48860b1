section PSK
variable {G : zG} {d : Nat} {M0 X0 X : zM} {Q : zV → zM → Prop} {B : Int → Int} {n t f c s : Int} {m : Nat}
def ps_nn : List (Int × Int × Int) → Int
  | [] => 0
  | (w, _, _) :: r => (if w = 2 then 1 else 0) + ps_nn r
theorem ps_nn_0 : ∀ l, 0 ≤ ps_nn l
  | [] => Int.le_refl 0
  | (w, _, _) :: r => by
    have := ps_nn_0 r
    show 0 ≤ (if w = 2 then 1 else 0) + ps_nn r
    split <;> omega
theorem ps_fw_c {w lo hi : Int} {r : List (Int × Int × Int)} {k : Nat} {g : Int} {p : Int → Int} : ps_fw B ((w, lo, hi) :: r) k g p = if lx_c B (lx_j B k) = w then (if w = 2 then (if lo ≤ lx_v B (lx_j B k) ∧ lx_v B (lx_j B k) ≤ hi then ps_fw B r (k + 1) (g + 1) (zup p g (lx_v B (lx_j B k))) else (2, k, g, p)) else ps_fw B r (k + 1) g p) else (1, k, g, p) := rfl
/-- the class follows a form -/
theorem s_fol (hG : zP G) (hE : ps_E B n m) (ht : 0 ≤ t ∧ t < 4) (hc : 0 ≤ c ∧ c < 24) {fm : Int} (hfm : 1 ≤ fm ∧ fm < 10) (hz : zfl fm ≤ 100) : ∀ (its : List (Int × Int × Int)) (x3 : Int) (k : Nat) (g : Int) (p : Int → Int) (M : zM), 0 ≤ x3 → k ≤ m → ps_ix fm x3 its → ps_CI B t m M0 M k c s g p → (0 ≤ g ∧ g + ps_nn its ≤ 6) → (∀ M' k' g' p', ps_fw B its k g p = (0, k', g', p') → k' ≤ m → ps_CI B t m M0 M' k' c s g' p' → Q (0, 1) M') → (∀ M' e k' g' p', ps_fw B its k g p = (e, k', g', p') → (1 ≤ e ∧ e ≤ 2) → zfr (ps_HIF t c) M0 M' → M' 12 2 = e → M' 12 3 = lx_j B k' → Q (0, 0) M') → Y G (d + 1) mX4_follow 2 [(2, 12), (2, 186 + 12 * t), (4, fm), (0, x3)] [] M Q
  | [], x3, k, g, p, M, hx, hk, hi, h, hg, hok, hfl => by
    have hi' : x3 = zfl fm := hi
    exact bX4_follow_2 hG (zSC_t ht) ⟨hfm, fun _ => hok M k g p rfl hk h, fun z => by omega⟩
  | (w, lo, hi) :: r, x3, k, g, p, M, hx, hk, hix, h, hg, hok, hfl => by
    have a7 := h.1.2.2.2.1
    have a8 := h.1.2.2.2.2.1
    have a9 := h.1.2.2.2.2.2
    have n0 := ps_nn_0 r
    have hg' : g + ((if w = 2 then 1 else 0) + ps_nn r) ≤ 6 := hg.2
    have fa : ∀ e : Int, (1 ≤ e ∧ e ≤ 2) → ps_fw B ((w, lo, hi) :: r) k g p = (e, k, g, p) → Q (0, 0) (zset (zset M 12 2 e) 12 3 (M 13 8)) := fun e he hw => by
      refine hfl _ e k g p hw he (zfr_set (zfr_set (zfr_sub h.2.2.2.2 (fun y hy => List.mem_cons_of_mem _ hy)) (zhit_at 0 rfl (by decide))) (zhit_at 0 rfl (by decide))) ?_ ?_
      · rw [zr_set (by decide)]; exact zset_same
      · rw [zset_same]; exact a8
    by_cases w2 : w = 2
    · subst w2
      have hix' : zfm fm x3 = 2 ∧ x3 + 2 < zfl fm ∧ zfm fm (x3 + 1) = lo ∧ zfm fm (x3 + 2) = hi ∧ ps_ix fm (x3 + 3) r := by
        have q : (if (2 : Int) = 2 then (zfm fm x3 = 2 ∧ x3 + 2 < zfl fm ∧ zfm fm (x3 + 1) = lo ∧ zfm fm (x3 + 2) = hi ∧ ps_ix fm (x3 + 3) r) else (zfm fm x3 = 2 ∧ (2 : Int) ≠ 0 ∧ x3 < zfl fm ∧ ps_ix fm (x3 + 1) r)) := hix
        rw [if_pos rfl] at q; exact q
      obtain ⟨i1, i2, i3, i4, i5⟩ := hix'
      rw [if_pos rfl] at hg'
      refine bX4_follow_2 hG (zSC_t ht) ?_
      rw [a7, a9, i1, i3, i4]
      refine ⟨hfm, fun z => by omega, fun _ => ⟨hfm, by omega, fun z => ⟨hfm, by omega, fun z2 => absurd rfl z2, fun _ => ⟨by omega, hfm, fun z2 => by omega, fun _ => ⟨by omega, hfm, by omega, by omega, hfm, by omega, fun zr => ?_, fun zr => bX4_fail_0 hG (bX4_follow_79 hG (zSC_t ht) ⟨fun _ => fa 2 (by decide) ?_, fun z3 => absurd rfl z3⟩)⟩⟩⟩, fun z => bX4_fail_0 hG (bX4_follow_26 hG (zSC_t ht) ⟨fun _ => fa 1 (by decide) ?_, fun z3 => absurd rfl z3⟩)⟩⟩
      · have km := ps_lt hE hk (by omega)
        have ew : ps_fw B ((2, lo, hi) :: r) k g p = ps_fw B r (k + 1) (g + 1) (zup p g (lx_v B (lx_j B k))) := by rw [ps_fw_c, if_pos z, if_pos rfl, if_pos zr]
        refine s_giv hG ht hc ⟨hg.1, by omega⟩ h (fun M1 h1 => bX4_follow_100 hG (zSC_t ht) ⟨by omega, s_cnx hG ht hc hE.2.1 km h1 (fun M2 h2 => bX4_follow_110 hG (zSC_t ht) ⟨by omega, ?_⟩)⟩)
        rw [show x3 + 2 + 1 = x3 + 3 by omega]
        exact s_fol hG hE ht hc hfm hz r (x3 + 3) (k + 1) (g + 1) _ M2 (by omega) (by omega) i5 h2 ⟨by omega, by omega⟩ (fun M' k' g' p' e1 => hok M' k' g' p' (ew.trans e1)) (fun M' e k' g' p' e1 => hfl M' e k' g' p' (ew.trans e1))
      · rw [ps_fw_c, if_pos z, if_pos rfl, if_neg zr]
      · rw [ps_fw_c, if_neg z]
    · have hix' : zfm fm x3 = w ∧ w ≠ 0 ∧ x3 < zfl fm ∧ ps_ix fm (x3 + 1) r := by
        have q : (if w = 2 then (zfm fm x3 = 2 ∧ x3 + 2 < zfl fm ∧ zfm fm (x3 + 1) = lo ∧ zfm fm (x3 + 2) = hi ∧ ps_ix fm (x3 + 3) r) else (zfm fm x3 = w ∧ w ≠ 0 ∧ x3 < zfl fm ∧ ps_ix fm (x3 + 1) r)) := hix
        rw [if_neg w2] at q; exact q
      obtain ⟨i1, i2, i3, i4⟩ := hix'
      rw [if_neg w2] at hg'
      refine bX4_follow_2 hG (zSC_t ht) ?_
      rw [a7, i1]
      refine ⟨hfm, fun z => by omega, fun _ => ⟨hfm, by omega, fun z => ⟨hfm, by omega, fun _ => ?_, fun z2 => absurd z2 w2⟩, fun z => bX4_fail_0 hG (bX4_follow_26 hG (zSC_t ht) ⟨fun _ => fa 1 (by decide) ?_, fun z3 => absurd rfl z3⟩)⟩⟩
      · have km := ps_lt hE hk (by omega)
        have ew : ps_fw B ((w, lo, hi) :: r) k g p = ps_fw B r (k + 1) g p := by rw [ps_fw_c, if_pos z, if_neg w2]
        exact s_cnx hG ht hc hE.2.1 km h (fun M2 h2 => bX4_follow_110 hG (zSC_t ht) ⟨by omega, s_fol hG hE ht hc hfm hz r (x3 + 1) (k + 1) g _ M2 (by omega) (by omega) i4 h2 ⟨hg.1, by omega⟩ (fun M' k' g' p' e1 => hok M' k' g' p' (ew.trans e1)) (fun M' e k' g' p' e1 => hfl M' e k' g' p' (ew.trans e1))⟩)
      · rw [ps_fw_c, if_neg z]
/-! the model in a clause -/
def ps_GI (t c : Int) : List (Int × Int × Int) := [(234, 8, 13), (240, 889 * t + 12 * c + 1, 889 * t + 12 * c + 13)]
def ps_ZI (B : Int → Int) (n t f : Int) (X0 X : zM) (k : Nat) (c s g : Int) (p : Int → Int) : Prop := (lx_M B n X ∧ ps_T B X k) ∧ (X 234 14 = 889 * t ∧ X 234 15 = f ∧ X 234 16 = 889 * t + 12 * c + 1) ∧ (X 240 (889 * t + 12 * c + 1) = s ∧ X 240 (889 * t + 12 * c + 7) = f) ∧ (∀ j, 0 ≤ j → j < g → X 240 (889 * t + 12 * c + 2 + j) = p j) ∧ zfr (ps_GI t c) X0 X
variable {k : Nat} {g : Int} {p : Int → Int}
theorem m_znx (hG : zP G) (hE : ps_E B n m) (hk : k < m) (ht : 0 ≤ t ∧ t < 4) (hc : 0 ≤ c ∧ c < 24) (hg : 0 ≤ g ∧ g ≤ 5) (h : ps_ZI B n t f X0 X k c s g p) (hh : ∀ X', ps_ZI B n t f X0 X' (k + 1) c s g p → Q (9, 0) X') : Y G (d + 1) mX12_nextToken 0 [(2, 234), (9, 0)] [] X Q := by
  obtain ⟨⟨hM, hT⟩, ⟨a4, a5, a6⟩, ⟨b1, b7⟩, hp, hF⟩ := h
  refine m_tok hG hE hM hk hT.1 (fun X' f1 m1 t1 => hh X' ?_)
  have z4 : ∀ i, 13 ≤ i → i < 1000 → X' 234 i = X 234 i := fun i i0 i1 => f1 234 i (by unfold zhw zhit; simp; omega)
  have z : ∀ i, 0 ≤ i → i < 1000000 → X' 240 i = X 240 i := fun i i0 i1 => f1 240 i (by unfold zhw zhit; simp; omega)
  exact ⟨⟨m1, t1⟩, ⟨by rw [z4 _ (by decide) (by decide)]; exact a4, by rw [z4 _ (by decide) (by decide)]; exact a5, by rw [z4 _ (by decide) (by decide)]; exact a6⟩, ⟨by rw [z _ (by omega) (by omega)]; exact b1, by rw [z _ (by omega) (by omega)]; exact b7⟩, fun j j0 j1 => by rw [z _ (by omega) (by omega)]; exact hp j j0 j1, zfr_trans hF (zfr_sub f1 (fun y hy => by rw [List.mem_singleton] at hy; rw [hy]; exact List.mem_cons_self))⟩
theorem m_zst (ht : 0 ≤ t ∧ t < 4) (hc : 0 ≤ c ∧ c < 24) (hg : 0 ≤ g ∧ g < 5) {x i : Int} (hi : i = 889 * t + 12 * c + 2 + g) (h : ps_ZI B n t f X0 X k c s g p) : ps_ZI B n t f X0 (zset X 240 i x) k c s (g + 1) (zup p g x) := by
  obtain ⟨⟨hM, hT⟩, ⟨a4, a5, a6⟩, ⟨b1, b7⟩, hp, hF⟩ := h
  refine ⟨⟨ps_lM hM ⟨by decide, fun z => absurd z (by decide)⟩, ps_lT hT (fun z => absurd z (by decide))⟩, ⟨by rw [zset_off (by decide)]; exact a4, by rw [zset_off (by decide)]; exact a5, by rw [zset_off (by decide)]; exact a6⟩, ⟨by rw [zset_ne (by omega)]; exact b1, by rw [zset_ne (by omega)]; exact b7⟩, fun j j0 j1 => ?_, zfr_set hF (zhit_at 1 rfl (by omega))⟩
  by_cases e : j = g
  · rw [e, zup_at, hi, zset_same]
  · rw [zup_ne e, zset_ne (by omega)]; exact hp j j0 (by omega)
theorem m_fig (hG : zP G) (hE : ps_E B n m) (hk : k ≤ m) (ht : 0 ≤ t ∧ t < 4) (hc : 0 ≤ c ∧ c < 24) (hg : 0 ≤ g ∧ g < 5) {lo hi : Int} (hl : hi ≤ 32767) (h : ps_ZI B n t f X0 X k c s g p) (hok : ∀ X', ps_fw B [(2, lo, hi)] k g p = (0, k + 1, g + 1, zup p g (lx_v B (lx_j B k))) → k + 1 ≤ m → ps_ZI B n t f X0 X' (k + 1) c s (g + 1) (zup p g (lx_v B (lx_j B k))) → Q (0, 0) X') (hfl : ∀ X' e, (1 ≤ e ∧ e ≤ 2) → ps_fw B [(2, lo, hi)] k g p = (e, k, g, p) → ps_ZI B n t f X0 X' k c s g p → Q (0, e) X') : Y G (d + 2) mX12_figure 0 [(2, 234), (0, g), (0, lo), (0, hi)] [] X Q := by
  have hT := h.1.2
  have a6 := h.2.1.2.2
  refine bX12_figure_0 hG ⟨fun z => ?_, fun z => hfl X 1 (by decide) (by rw [ps_fw_c, if_neg (fun w => z ((ps_1 hT).mpr w))]) h⟩
  have c2 := (ps_1 hT).mp z
  have km := ps_lt hE hk (by omega)
  obtain ⟨v0, v1⟩ := ps_v hT z
  rw [a6]
  refine ⟨fun zr => ⟨by omega, by omega, by omega, ?_⟩, fun zr => hfl X 2 (by decide) (by rw [ps_fw_c, if_pos c2, if_pos rfl, if_neg (by omega)]) h⟩
  have ev : X 234 11 = lx_v B (lx_j B k) := by omega
  rw [ev]
  exact m_znx hG hE km ht hc ⟨by omega, by omega⟩ (m_zst ht hc hg (by omega) h) (fun X' h' => bX12_figure_45 hG (hok X' (by rw [ps_fw_c, if_pos c2, if_pos rfl, if_pos (by omega)]; rfl) (by omega) h'))
theorem m_wor (hG : zP G) (hE : ps_E B n m) (hk : k ≤ m) (ht : 0 ≤ t ∧ t < 4) (hc : 0 ≤ c ∧ c < 24) (hg : 0 ≤ g ∧ g < 5) {lo hi w cw : Int} (hl : hi ≤ 32767) (hcw : 20 ≤ cw ∧ cw ≤ 47) (hw : w = lx_cd cw) (h : ps_ZI B n t f X0 X k c s g p) (hok : ∀ X', ps_fw B [(cw, 0, 0), (2, lo, hi)] k g p = (0, k + 2, g + 1, zup p g (lx_v B (lx_j B (k + 1)))) → k + 2 ≤ m → ps_ZI B n t f X0 X' (k + 2) c s (g + 1) (zup p g (lx_v B (lx_j B (k + 1)))) → Q (0, 0) X') (hfl : ∀ X' e k', (1 ≤ e ∧ e ≤ 2) → ps_fw B [(cw, 0, 0), (2, lo, hi)] k g p = (e, k', g, p) → ps_ZI B n t f X0 X' k' c s g p → Q (0, e) X') : Y G (d + 3) mX12_worded 0 [(2, 234), (1, w), (9, 0), (0, g), (0, lo), (0, hi)] [] X Q := by
  have hT := h.1.2
  refine bX12_worded_0 hG (m_word hG hT hcw hw (fun z => bX12_worded_5 hG ⟨fun _ => ?_, fun y => absurd y (by decide)⟩) (fun z => bX12_worded_5 hG ⟨fun y => absurd rfl y, fun _ => hfl X 1 k (by decide) (by rw [ps_fw_c, if_neg z]) h⟩))
  have km := ps_lt hE hk (by omega)
  have e0 : ∀ r, ps_fw B ((cw, 0, 0) :: r) k g p = ps_fw B r (k + 1) g p := fun r => by rw [ps_fw_c, if_pos z, if_neg (by omega)]
  refine m_znx (d := d + 1) hG hE km ht hc ⟨hg.1, by omega⟩ h (fun X1 h1 => bX12_worded_14 hG (m_fig hG hE (by omega) ht hc hg hl h1 (fun X2 e km2 h2 => bX12_worded_23 hG (hok X2 ((e0 _).trans e) km2 h2)) (fun X2 e he e1 h2 => bX12_worded_23 hG (hfl X2 e (k + 1) he ((e0 _).trans e1) h2))))
theorem ps_ap0 {a b : List (Int × Int × Int)} {k1 : Nat} {g1 : Int} {p1 : Int → Int} (h : ps_fw B a k g p = (0, k1, g1, p1)) : ps_fw B (a ++ b) k g p = ps_fw B b k1 g1 p1 := by
  rw [ps_fw_app, h, if_pos rfl]
theorem ps_ap1 {a b : List (Int × Int × Int)} {k1 : Nat} {g1 e : Int} {p1 : Int → Int} (h : ps_fw B a k g p = (e, k1, g1, p1)) (he : 1 ≤ e ∧ e ≤ 2) : ps_fw B (a ++ b) k g p = (e, k1, g1, p1) := by
  rw [ps_fw_app, h, if_neg (by show e ≠ 0; omega)]
end PSK

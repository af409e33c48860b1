section PSJ
variable {G : zG} {d : Nat} {M M0 X0 X : zM} {Q : zV → zM → Prop} {B : Int → Int} {n t f c s g : Int} {m k : Nat} {p : Int → Int}
theorem ps_Xq_c {P P' : zM} {t beg len : Int} (h : zXq P t beg len) (es : ∀ i, 0 ≤ i → i < P (189 + 12 * t) 8 → P' 240 (889 * t + 289 + 2 * i) = P 240 (889 * t + 289 + 2 * i) ∧ P' 240 (889 * t + 289 + 2 * i + 1) = P 240 (889 * t + 289 + 2 * i + 1)) (n8 : P (189 + 12 * t) 8 ≤ P' (189 + 12 * t) 8 ∧ P' (189 + 12 * t) 8 ≤ 300) (nd : ∀ a x, 1 ≤ a → a ≤ 7 → 0 ≤ x → x < P (189 + 12 * t) 8 → P' (189 + 12 * t + a) x = P (189 + 12 * t + a) x) : zXq P' t beg len := by
  obtain ⟨⟨q0, q1, q2, q3, q4⟩, qc, ql, qh⟩ := h
  have E : ∀ i : Nat, i < len.toNat → zXs P' t beg i = zXs P t beg i ∧ zXv P' t beg i = zXv P t beg i := fun i hi => es (beg + i) (by omega) (by omega)
  have ok : ps_ok (zXs P t beg) (zXv P t beg) len.toNat := fun i hi => (qc.1 i (by omega)).2.2.2.1
  refine ⟨⟨q0, q1, q2, by omega, n8.2⟩, ⟨fun k hk => ?_, by rw [zsp_e _ E]; exact qc.2⟩, by rw [zlc_e _ (fun i hi => (E i hi).1)]; exact ql, fun i => by rw [zhv_e _ E]; exact qh i⟩
  have N : ps_N (P (189 + 12 * t + 1)) (P (189 + 12 * t + 2)) (P (189 + 12 * t + 3)) (P (189 + 12 * t + 4)) (P (189 + 12 * t + 5)) (P (189 + 12 * t + 7)) (zXs P t beg) (zXv P t beg) beg k := qc.1 k hk
  exact ps_N_c N (nd 1 _ (by decide) (by decide) (by omega) (by omega)) (nd 2 _ (by decide) (by decide) (by omega) (by omega)) (nd 4 _ (by decide) (by decide) (by omega) (by omega)) (nd 5 _ (by decide) (by decide) (by omega) (by omega)) (fun j j0 j1 => by
    have cc := ps_cd ok (show k < len.toNat by omega) ⟨j0, j1⟩
    exact ⟨nd 7 _ (by decide) (by decide) (by omega) (by omega), nd 3 _ (by decide) (by decide) (by omega) (by omega)⟩) (fun i hi => E i (by omega))
/-- a clause stays told when what it speaks of stays -/
theorem ps_Xc_c {P P' : zM} {t c : Int} (h : zXc P t c) (e1 : P' 240 (889 * t + 12 * c + 1) = P 240 (889 * t + 12 * c + 1)) (e7 : P 240 (889 * t + 12 * c + 1) = 0 → ∀ x, 889 * t + 12 * c + 7 ≤ x → x ≤ 889 * t + 12 * c + 12 → P' 240 x = P 240 x) (ep : ∀ j, 0 ≤ j → j < znpt (P 240 (889 * t + 12 * c + 1)) → P' 240 (889 * t + 12 * c + 2 + j) = P 240 (889 * t + 12 * c + 2 + j)) (es : ∀ i, 0 ≤ i → i < P (189 + 12 * t) 8 → P' 240 (889 * t + 289 + 2 * i) = P 240 (889 * t + 289 + 2 * i) ∧ P' 240 (889 * t + 289 + 2 * i + 1) = P 240 (889 * t + 289 + 2 * i + 1)) (k7 : P' (187 + 12 * t) c = P (187 + 12 * t) c) (k8 : ∀ x, 6 * c ≤ x → x < 6 * c + 6 → P' (188 + 12 * t) x = P (188 + 12 * t) x) (n8 : P (189 + 12 * t) 8 ≤ P' (189 + 12 * t) 8 ∧ P' (189 + 12 * t) 8 ≤ 300) (nd : ∀ a x, 1 ≤ a → a ≤ 7 → 0 ≤ x → x < P (189 + 12 * t) 8 → P' (189 + 12 * t + a) x = P (189 + 12 * t + a) x) : zXc P' t c := by
  obtain ⟨s0, s1, sa, sp⟩ := h
  refine ⟨by rw [e1]; exact s0, by rw [e1, k7]; exact s1, fun z => ?_, fun j j0 j1 => ?_⟩
  · rw [e1] at z
    have e7' := e7 z
    obtain ⟨a1, aq, a3, b1, b2, b3, b4⟩ := sa z
    unfold zXa
    rw [k8 (6 * c) (by omega) (by omega), k8 (6 * c + 1) (by omega) (by omega), k8 (6 * c + 2) (by omega) (by omega), k8 (6 * c + 3) (by omega) (by omega), k8 (6 * c + 4) (by omega) (by omega), k8 (6 * c + 5) (by omega) (by omega), e7' (889 * t + 12 * c + 7) (by omega) (by omega), e7' (889 * t + 12 * c + 8) (by omega) (by omega), e7' (889 * t + 12 * c + 9) (by omega) (by omega), e7' (889 * t + 12 * c + 10) (by omega) (by omega), e7' (889 * t + 12 * c + 11) (by omega) (by omega), e7' (889 * t + 12 * c + 12) (by omega) (by omega)]
    exact ⟨a1, ps_Xq_c aq es n8 nd, a3, b1, b2, b3, b4⟩
  · rw [e1] at j1
    have nb := znpt_b (s := P 240 (889 * t + 12 * c + 1))
    rw [ep j j0 j1, k8 (6 * c + j) (by omega) (by omega)]
    exact sp j j0 j1
/-! words and numbers that follow each other -/
def ps_fw (B : Int → Int) : List (Int × Int × Int) → Nat → Int → (Int → Int) → Int × Nat × Int × (Int → Int)
  | [], k, g, p => (0, k, g, p)
  | (w, lo, hi) :: r, k, g, p => if lx_c B (lx_j B k) = w then (if w = 2 then (if lo ≤ lx_v B (lx_j B k) ∧ lx_v B (lx_j B k) ≤ hi then ps_fw B r (k + 1) (g + 1) (zup p g (lx_v B (lx_j B k))) else (2, k, g, p)) else ps_fw B r (k + 1) g p) else (1, k, g, p)
theorem ps_fw_app (a b : List (Int × Int × Int)) : ∀ (k : Nat) (g : Int) (p : Int → Int), ps_fw B (a ++ b) k g p = if (ps_fw B a k g p).1 = 0 then ps_fw B b (ps_fw B a k g p).2.1 (ps_fw B a k g p).2.2.1 (ps_fw B a k g p).2.2.2 else ps_fw B a k g p := by
  induction a with
  | nil => intro k g p; rfl
  | cons x r ih =>
    intro k g p
    obtain ⟨w, lo, hi⟩ := x
    show (if lx_c B (lx_j B k) = w then (if w = 2 then (if lo ≤ lx_v B (lx_j B k) ∧ lx_v B (lx_j B k) ≤ hi then ps_fw B (r ++ b) (k + 1) (g + 1) (zup p g (lx_v B (lx_j B k))) else (2, k, g, p)) else ps_fw B (r ++ b) (k + 1) g p) else (1, k, g, p)) = _
    have e : ps_fw B ((w, lo, hi) :: r) k g p = if lx_c B (lx_j B k) = w then (if w = 2 then (if lo ≤ lx_v B (lx_j B k) ∧ lx_v B (lx_j B k) ≤ hi then ps_fw B r (k + 1) (g + 1) (zup p g (lx_v B (lx_j B k))) else (2, k, g, p)) else ps_fw B r (k + 1) g p) else (1, k, g, p) := rfl
    rw [e]
    split
    · split
      · split
        · exact ih _ _ _
        · rfl
      · exact ih _ _ _
    · rfl
/-- the form's numbers from here on are these -/
def ps_ix (fm : Int) : Int → List (Int × Int × Int) → Prop
  | x, [] => x = zfl fm
  | x, (w, lo, hi) :: r => if w = 2 then (zfm fm x = 2 ∧ x + 2 < zfl fm ∧ zfm fm (x + 1) = lo ∧ zfm fm (x + 2) = hi ∧ ps_ix fm (x + 3) r) else (zfm fm x = w ∧ w ≠ 0 ∧ x < zfl fm ∧ ps_ix fm (x + 1) r)
/-- the class in a clause -/
def ps_HI (t c : Int) : List (Int × Int × Int) := [(186 + 12 * t, 2, 3), (186 + 12 * t + 2, 6 * c, 6 * c + 6), (13, 6, 10)]
def ps_HIF (t c : Int) : List (Int × Int × Int) := (12, 2, 4) :: ps_HI t c
def ps_CI (B : Int → Int) (t : Int) (m : Nat) (M0 M : zM) (k : Nat) (c s g : Int) (p : Int → Int) : Prop := lx_A B M m k ∧ (M (186 + 12 * t) 3 = c ∧ M (186 + 12 * t) 2 = g) ∧ M (187 + 12 * t) c = s ∧ (∀ j, 0 ≤ j → j < 6 → M (188 + 12 * t) (6 * c + j) = if j < g then p j else -1) ∧ zfr (ps_HI t c) M0 M
theorem s_cnx (hG : zP G) (ht : 0 ≤ t ∧ t < 4) (hc : 0 ≤ c ∧ c < 24) (h3 : m ≤ 300) (hk : k < m) (h : ps_CI B t m M0 M k c s g p) (hh : ∀ M', ps_CI B t m M0 M' (k + 1) c s g p → Q (9, 0) M') : Y G d mX8_advance 0 [(2, 13)] [] M Q := by
  obtain ⟨hA, ⟨a3, a2⟩, a7, a8, hF⟩ := h
  refine s_adv hG h3 hk hA (fun X fX hX => hh X ?_)
  have o : ∀ a i, a ≠ 13 → 0 ≤ i → i < 1000 → X a i = M a i := fun a i ha i0 i1 => fX a i (by unfold zhw zhit; simp; omega)
  exact ⟨hX, ⟨by rw [o _ _ (by omega) (by omega) (by omega)]; exact a3, by rw [o _ _ (by omega) (by omega) (by omega)]; exact a2⟩, by rw [o _ _ (by omega) (by omega) (by omega)]; exact a7, fun j j0 j1 => by rw [o _ _ (by omega) (by omega) (by omega)]; exact a8 j j0 j1, zfr_trans hF (zfr_sub fX (fun y hy => by rw [List.mem_singleton] at hy; rw [hy]; exact List.mem_of_getElem? (i := 2) rfl))⟩
theorem s_giv (hG : zP G) (ht : 0 ≤ t ∧ t < 4) (hc : 0 ≤ c ∧ c < 24) (hg : 0 ≤ g ∧ g < 6) {x : Int} (h : ps_CI B t m M0 M k c s g p) (hh : ∀ M', ps_CI B t m M0 M' k c s (g + 1) (zup p g x) → Q (9, 0) M') : Y G d mX7_give 0 [(2, 186 + 12 * t), (0, x)] [] M Q := by
  obtain ⟨hA, ⟨a3, a2⟩, a7, a8, hF⟩ := h
  refine bX7_give_0 hG (zSC_t ht) ?_
  rw [a3, a2]
  refine ⟨fun z => by omega, fun _ => ⟨fun z => by omega, fun _ => ⟨by omega, by omega, by omega, by omega, hh _ ⟨lx_A_c hA (fun i _ _ => ?_) (fun i _ => ⟨?_, ?_, ?_⟩), ⟨?_, zset_same⟩, ?_, fun j j0 j1 => ?_, ?_⟩⟩⟩⟩
  · rw [zset_off (by omega), zset_off (by omega)]
  · rw [zset_off (by omega), zset_off (by omega)]
  · rw [zset_off (by omega), zset_off (by omega)]
  · rw [zset_off (by omega), zset_off (by omega)]
  · rw [zset_ne (by omega), zset_off (by omega)]; exact a3
  · rw [zset_off (by omega), zset_off (by omega)]; exact a7
  · rw [zset_off (by omega)]
    by_cases e : j = g
    · rw [if_pos (by omega), e, show (188 + 12 * t : Int) = 186 + 12 * t + 2 by omega, show 6 * c + g = c * 6 + g by omega, zset_same, zup_at]
    · rw [zset_ne (by omega), a8 j j0 j1]
      by_cases e2 : j < g
      · rw [if_pos e2, if_pos (by omega), zup_ne e]
      · rw [if_neg e2, if_neg (by omega)]
  · exact zfr_set (zfr_set hF (zhit_at 1 rfl (by omega))) (zhit_at 0 rfl (by omega))
end PSJ

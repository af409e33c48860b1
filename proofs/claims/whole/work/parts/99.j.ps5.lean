section PS5
variable {G : zG} {d : Nat} {M M0 : zM} {Q : zV → zM → Prop} {B : Int → Int} {n t f : Int} {m k L : Nat} {st v : Int → Int} {lv dp wd gr : Int}
/-- the class while it reads a question -/
def ps_H (t : Int) : List (Int × Int × Int) := [(189 + 12 * t, 8, 9), (189 + 12 * t + 1, 0, 1000000), (189 + 12 * t + 2, 0, 1000000), (189 + 12 * t + 3, 0, 1000000), (189 + 12 * t + 4, 0, 1000000), (189 + 12 * t + 5, 0, 1000000), (189 + 12 * t + 6, 0, 1000000), (189 + 12 * t + 7, 0, 1000000), (12, 4, 8), (13, 6, 10)]
/-- .. and where it stops at a fault -/
def ps_HF (t : Int) : List (Int × Int × Int) := (12, 2, 4) :: ps_H t
/-- the deepest, the words and the greatest are within their bounds -/
def ps_iv (dp wd gr : Int) : Prop := (0 ≤ dp ∧ dp ≤ 8) ∧ (0 ≤ wd ∧ wd ≤ 32767) ∧ (-1 ≤ gr ∧ gr ≤ 99)
theorem ps_iv_w {dp wd gr b : Int} (h : ps_iv dp wd gr) (hb : 0 ≤ b ∧ b ≤ 32767) : ps_iv dp (zor wd b) gr := ⟨h.1, (zbt_or (t := 0) h.2.1 hb).1, h.2.2⟩
theorem ps_iv_d {dp wd gr b : Int} (h : ps_iv dp wd gr) (hb : 0 ≤ b ∧ b ≤ 8) : ps_iv (max dp b) wd gr := ⟨by have := h.1; omega, h.2⟩
theorem ps_iv_g {dp wd gr b : Int} (h : ps_iv dp wd gr) (hb : 0 ≤ b ∧ b ≤ 99) : ps_iv dp wd (max gr b) := ⟨h.1, h.2.1, by have := h.2.2; omega⟩
def ps_M (B : Int → Int) (t f : Int) (m : Nat) (M0 M : zM) (k L : Nat) (st v : Int → Int) (lv dp wd gr : Int) : Prop := lx_A B M m k ∧ ps_R M (189 + 12 * t) st v f L ∧ (M 12 4 = lv ∧ M 12 5 = dp ∧ M 12 6 = wd ∧ M 12 7 = gr ∧ ps_iv dp wd gr) ∧ zfr (ps_H t) M0 M ∧ f + L ≤ 300
/-- rows of the nodes that were there stay as they are -/
def ps_old (t f : Int) (L : Nat) (M M' : zM) : Prop := ∀ a x, 1 ≤ a → a ≤ 7 → 0 ≤ x → x < f + L → M' (189 + 12 * t + a) x = M (189 + 12 * t + a) x
theorem ps_old_rf : ps_old t f L M M := fun _ _ _ _ _ _ => rfl
theorem ps_old_tr {M1 M2 : zM} {L' : Nat} (h1 : ps_old t f L M M1) (h2 : ps_old t f L' M1 M2) (hL : L ≤ L') : ps_old t f L M M2 := fun a x a0 a1 x0 x1 => (h2 a x a0 a1 x0 (by omega)).trans (h1 a x a0 a1 x0 x1)
theorem lx_A_c {M M' : zM} (h : lx_A B M m k) (e5 : ∀ i, 5 ≤ i → i ≤ 9 → M' 13 i = M 13 i) (e : ∀ i : Nat, i < m + 1 → M' 15 (i : Int) = M 15 (i : Int) ∧ M' 16 (i : Int) = M 16 (i : Int) ∧ M' 17 (i : Int) = M 17 (i : Int)) : lx_A B M' m k := by
  obtain ⟨a1, a2, a3, a4, a5, a6⟩ := h
  refine ⟨fun i hi => ?_, by rw [e5 5 (by decide) (by decide)]; exact a2, by rw [e5 6 (by decide) (by decide)]; exact a3, by rw [e5 7 (by decide) (by decide)]; exact a4, by rw [e5 8 (by decide) (by decide)]; exact a5, by rw [e5 9 (by decide) (by decide)]; exact a6⟩
  obtain ⟨b1, b2, b3⟩ := e i hi
  rw [b1, b2, b3]
  exact a1 i hi
/-- the next token -/
theorem s_nx (hG : zP G) (ht : 0 ≤ t ∧ t < 4) (h3 : m ≤ 300) (hk : k < m) (h : ps_M B t f m M0 M k L st v lv dp wd gr) (hh : ∀ M', ps_M B t f m M0 M' (k + 1) L st v lv dp wd gr → ps_old t f L M M' → Q (9, 0) M') : Y G d mX8_advance 0 [(2, 13)] [] M Q := by
  obtain ⟨hA, hR, ⟨c4, c5, c6, c7⟩, hF, hL⟩ := h
  refine s_adv hG h3 hk hA (fun X fX hX => ?_)
  have old : ps_old t f L M X := fun a x a0 a1 x0 x1 => fX _ _ (by unfold zhw zhit; simp; omega)
  refine hh X ⟨hX, ps_R_c hR (fX _ _ (by unfold zhw zhit; simp; omega)) old, ⟨?_, ?_, ?_, ?_⟩, ?_, hL⟩ old
  · rw [fX 12 4 (by unfold zhw zhit; decide)]; exact c4
  · rw [fX 12 5 (by unfold zhw zhit; decide)]; exact c5
  · rw [fX 12 6 (by unfold zhw zhit; decide)]; exact c6
  · rw [fX 12 7 (by unfold zhw zhit; decide)]; exact c7
  · exact zfr_trans hF (zfr_sub fX (fun y hy => by rw [List.mem_singleton] at hy; rw [hy]; exact List.mem_of_getElem? (i := 9) rfl))
/-- one of the reader's own numbers changes -/
theorem s_fd {i w : Int} (ht : 0 ≤ t ∧ t < 4) (h : ps_M B t f m M0 M k L st v lv dp wd gr) (hi : i = 4 ∨ i = 5 ∨ i = 6 ∨ i = 7) (hv : ps_iv (if i = 5 then w else dp) (if i = 6 then w else wd) (if i = 7 then w else gr)) : ps_M B t f m M0 (zset M 12 i w) k L st v (if i = 4 then w else lv) (if i = 5 then w else dp) (if i = 6 then w else wd) (if i = 7 then w else gr) ∧ ps_old t f L M (zset M 12 i w) := by
  obtain ⟨hA, hR, ⟨c4, c5, c6, c7⟩, hF, hL⟩ := h
  have z2 : ∀ j u, M 12 j = u → zset M 12 i w 12 j = if i = j then w else u := fun j u hu => by
    by_cases c : i = j
    · rw [if_pos c, c, zset_same]
    · rw [if_neg c, zset_ne (fun y => c y.2.symm)]; exact hu
  have old : ps_old t f L M (zset M 12 i w) := fun a x a0 a1 x0 x1 => zset_ne (fun y => by omega)
  exact ⟨⟨lx_A_c hA (fun j _ _ => zset_ne (fun y => absurd y.1 (by decide))) (fun j _ => ⟨zset_ne (fun y => absurd y.1 (by decide)), zset_ne (fun y => absurd y.1 (by decide)), zset_ne (fun y => absurd y.1 (by decide))⟩), ps_R_c hR (zset_ne (fun y => by omega)) old, ⟨z2 4 _ c4, z2 5 _ c5, z2 6 _ c6, z2 7 _ c7.1, hv⟩, zfr_set hF (zhit_at 8 rfl (by omega)), hL⟩, old⟩
/-- the class stops at a fault -/
theorem s_fa (hG : zP G) {c : Int} (h : ps_M B t f m M0 M k L st v lv dp wd gr) (hh : ∀ M', zfr (ps_HF t) M0 M' → M' 12 2 = c → M' 12 3 = lx_j B k → Q (0, -1) M') : Y G d mX4_fail 0 [(2, 12), (0, c)] [] M Q := by
  obtain ⟨hA, hR, hC, hF, hL⟩ := h
  refine bX4_fail_0 hG (hh _ (zfr_set (zfr_set (zfr_sub hF (fun y hy => List.mem_cons_of_mem _ hy)) (zhit_at 0 rfl (by decide))) (zhit_at 0 rfl (by decide))) ?_ ?_)
  · rw [zr_set (by decide)]; exact zset_same
  · rw [zset_same]; exact hA.2.2.2.2.1
/-- a node without parts -/
def ps_mkm (M : zM) (o s w : Int) : zM := zset (zset (zset (zset (zset (zset (zset (zset M (o + 1) (M o 8) s) (o + 2) (M o 8) w) (o + 3) (M o 8) 1) (o + 4) (M o 8) 0) (o + 5) (M o 8) (-1)) (o + 6) (M o 8) (-1)) (o + 7) (M o 8) (-1)) o 8 (M o 8 + 1)
theorem ps_mkv {o s w : Int} : ps_mkm M o s w (o + 1) (M o 8) = s ∧ ps_mkm M o s w (o + 2) (M o 8) = w ∧ ps_mkm M o s w (o + 3) (M o 8) = 1 ∧ ps_mkm M o s w (o + 4) (M o 8) = 0 ∧ ps_mkm M o s w (o + 5) (M o 8) = -1 ∧ ps_mkm M o s w (o + 6) (M o 8) = -1 ∧ ps_mkm M o s w o 8 = M o 8 + 1 := by
  unfold ps_mkm
  refine ⟨?_, ?_, ?_, ?_, ?_, ?_, zset_same⟩
  · rw [zset_off (by omega), zset_off (by omega), zset_off (by omega), zset_off (by omega), zset_off (by omega), zset_off (by omega), zset_off (by omega), zset_same]
  · rw [zset_off (by omega), zset_off (by omega), zset_off (by omega), zset_off (by omega), zset_off (by omega), zset_off (by omega), zset_same]
  · rw [zset_off (by omega), zset_off (by omega), zset_off (by omega), zset_off (by omega), zset_off (by omega), zset_same]
  · rw [zset_off (by omega), zset_off (by omega), zset_off (by omega), zset_off (by omega), zset_same]
  · rw [zset_off (by omega), zset_off (by omega), zset_off (by omega), zset_same]
  · rw [zset_off (by omega), zset_off (by omega), zset_same]
theorem ps_mko {o s w a x : Int} (h : ¬ (o + 1 ≤ a ∧ a ≤ o + 7 ∧ x = M o 8)) (h8 : ¬ (a = o ∧ x = 8)) : ps_mkm M o s w a x = M a x := by
  unfold ps_mkm
  rw [zset_ne h8, zset_ne (by omega), zset_ne (by omega), zset_ne (by omega), zset_ne (by omega), zset_ne (by omega), zset_ne (by omega), zset_ne (by omega)]
theorem s_mk (hG : zP G) {o s w : Int} (ho : zND o) (h : 0 ≤ M o 8 ∧ M o 8 < 300) (hh : Q (0, M o 8) (ps_mkm M o s w)) : Y G d mX1_make 0 [(2, o), (0, s), (0, w)] [] M Q := by
  refine bX1_make_0 hG ho ⟨fun _ => ⟨h, h, h, h, h, h, h, by omega, by omega, ?_⟩, fun z => absurd z (by omega)⟩
  rw [show M o 8 + 1 - 1 = M o 8 by omega]
  exact hh
theorem ps_mkF {o s w : Int} (hF : zfr (ps_H t) M0 M) (ho : o = 189 + 12 * t) (h : 0 ≤ M o 8 ∧ M o 8 < 300) : zfr (ps_H t) M0 (ps_mkm M o s w) := by
  subst ho
  exact zfr_set (zfr_set (zfr_set (zfr_set (zfr_set (zfr_set (zfr_set (zfr_set hF (zhit_at 1 rfl (by omega))) (zhit_at 2 rfl (by omega))) (zhit_at 3 rfl (by omega))) (zhit_at 4 rfl (by omega))) (zhit_at 5 rfl (by omega))) (zhit_at 6 rfl (by omega))) (zhit_at 7 rfl (by omega))) (zhit_at 0 rfl (by decide))
/-- a leaf is made -/
theorem s_mkl (hG : zP G) (ht : 0 ≤ t ∧ t < 4) {s w : Int} (hs : (s = 0 ∧ 0 ≤ w ∧ w ≤ 99) ∨ (s = 1 ∧ 0 ≤ w ∧ w ≤ 3)) (hL : f + L < 300) (h : ps_M B t f m M0 M k L st v lv dp wd gr) (hh : ∀ M', ps_M B t f m M0 M' k (L + 1) (zup st L s) (zup v L w) lv dp wd gr → ps_old t f L M M' → M' (189 + 12 * t + 3) (f + L) = 1 → Q (0, f + L) M') : Y G d mX1_make 0 [(2, 189 + 12 * t), (0, s), (0, w)] [] M Q := by
  obtain ⟨hA, hR, ⟨c4, c5, c6, c7⟩, hF, _⟩ := h
  have e8 := hR.1.2
  have f0 := hR.1.1
  have b8 : 0 ≤ M (189 + 12 * t) 8 ∧ M (189 + 12 * t) 8 < 300 := by omega
  have ok := ps_R_ok hR
  have zi := (zsp_in L ok).1
  have z0 : zpn s w = 0 := by unfold zpn; rw [if_pos (by omega)]
  refine s_mk hG (zND_t ht) b8 ?_
  obtain ⟨v1, v2, v3, v4, v5, v6, v8⟩ := ps_mkv (M := M) (o := 189 + 12 * t) (s := s) (w := w)
  have vo : ∀ a x, ¬ (189 + 12 * t + 1 ≤ a ∧ a ≤ 189 + 12 * t + 7 ∧ x = M (189 + 12 * t) 8) → ¬ (a = 189 + 12 * t ∧ x = 8) → ps_mkm M (189 + 12 * t) s w a x = M a x := fun a x p q => ps_mko p q
  have mf := ps_mkF (t := t) (s := s) (w := w) hF rfl b8
  rw [e8] at v1 v2 v3 v4 v5 v6 v8 vo ⊢
  generalize ps_mkm M (189 + 12 * t) s w = X at v1 v2 v3 v4 v5 v6 v8 vo mf ⊢
  have old : ps_old t f L M X := fun a x a0 a1 x0 x1 => vo _ _ (by omega) (by omega)
  refine hh X ⟨lx_A_c hA (fun i _ _ => vo _ _ (by omega) (by omega)) (fun i _ => ⟨vo _ _ (by omega) (by omega), vo _ _ (by omega) (by omega), vo _ _ (by omega) (by omega)⟩), ps_R_n hR v8 old ?_, ⟨?_, ?_, ?_, ?_⟩, mf, by omega⟩ old v3
  · unfold ps_N zbs
    rw [ps_up, zup_at, zup_at, z0, v1, v2, v4]
    refine ⟨by omega, rfl, rfl, by omega, fun z => by omega, fun z => by omega, fun z => by omega, fun z => by omega, fun z => by omega, fun z => absurd z (by decide), fun j j0 j1 => by omega, fun j j0 j1 => by omega, fun z => by omega⟩
  · rw [vo _ _ (by omega) (by omega)]; exact c4
  · rw [vo _ _ (by omega) (by omega)]; exact c5
  · rw [vo _ _ (by omega) (by omega)]; exact c6
  · rw [vo _ _ (by omega) (by omega)]; exact c7
end PS5

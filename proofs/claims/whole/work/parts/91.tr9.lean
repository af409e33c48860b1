section TR9
variable {G : zG} {d : Nat} {M : zM} {Q : zV → zM → Prop}
/-- what the class reads when it writes a tree down -/
def tr_H (K : Int → Int → Int) (th : Int → Int) (m nn : Int) (M : zM) : Prop := (∀ k v, 1 ≤ k → k ≤ nn → -500 ≤ v → v ≤ 500 → M 171 (zpl m k v) = K k v) ∧ ∀ t, 0 ≤ t → t < 4 → M 173 t = th t
theorem tr_H_r {K : Int → Int → Int} {th : Int → Int} {m nn : Int} {g : Int → Int} (h : tr_H K th m nn M) : tr_H K th m nn (zrow M 175 g) := ⟨fun k v k0 k1 v0 v1 => by rw [zrow_off (by decide)]; exact h.1 k v k0 k1 v0 v1, fun t t0 t1 => by rw [zrow_off (by decide)]; exact h.2 t t0 t1⟩
section CW
variable {K : Int → Int → Int} {th : Int → Int} {m nn : Int}
theorem s_count (hG : zP G) (hm : 0 ≤ m ∧ m ≤ 9) (n5 : nn ≤ 5) (hH : tr_H K th m nn M) {k v : Int} (hk : 1 ≤ k ∧ k ≤ nn) (h : Q (0, if -500 ≤ v ∧ v ≤ 500 then K k v else 0) M) : Y G (d + 1) mX9_countOf 0 [(2, 170), (0, m), (0, k), (0, v), (9, 0)] [] M Q := by
  refine bX9_countOf_0 hG ⟨fun _ => ⟨fun _ => ⟨fun c => ?_, fun c => ?_⟩, fun z => (z (by omega)).elim⟩, fun z => (z (by omega)).elim⟩
  · have b := zpl_b (m := m) (n := k) (v := v) hm ⟨hk.1, by omega⟩ c.1 c.2
    refine ⟨b.1, b.2, ?_⟩
    rw [if_pos c] at h
    rw [hH.1 k v hk.1 hk.2 c.1 c.2]
    exact h
  · rw [if_neg c] at h; exact h
theorem s_least (hG : zP G) (hm : 0 ≤ m ∧ m ≤ 9) (n5 : nn ≤ 5) (hH : tr_H K th m nn M) {k : Int} (hk : 1 ≤ k ∧ k ≤ nn) (h : Q (0, tr_y (K k) 2 0 0 1001 (-500)) M) : Y G (d + 2) mX9_leastOf 0 [(2, 170), (0, m), (0, k), (9, 0)] [] M Q := by
  have lp : ∀ (r : Nat) (y : Int), -500 ≤ y → y + r = 501 → Q (0, tr_y (K k) 2 0 0 r y) M → Y G (d + 1 + 1) mX9_leastOf 4 [(2, 170), (0, m), (0, k), (0, y)] [] M Q := fun r => by
    induction r with
    | zero =>
      intro y y0 hy hh
      exact bX9_leastOf_4 hG ⟨fun _ => hh, fun z => absurd z (by omega)⟩
    | succ r ih =>
      intro y y0 hy hh
      rw [tr_y_s, if_pos (show tr_op 2 0 y = 0 from Int.zero_mul y)] at hh
      refine bX9_leastOf_4 hG ⟨fun z => absurd z (by omega), fun _ => s_count (d := d) hG hm n5 hH hk ?_⟩
      rw [if_pos ⟨y0, by omega⟩]
      exact bX9_leastOf_18 hG ⟨fun z => ⟨by omega, ih (y + 1) (by omega) (by omega) (by rw [if_pos z] at hh; exact hh)⟩, fun z => by rw [if_neg z] at hh; exact hh⟩
  exact bX9_leastOf_0 hG (lp 1001 (-500) (by decide) (by decide) h)
theorem s_partner (hG : zP G) (hm : 0 ≤ m ∧ m ≤ 9) (n5 : nn ≤ 5) (hH : tr_H K th m nn M) {k s x v : Int} (hk : 1 ≤ k ∧ k ≤ nn) (hs : 0 ≤ s ∧ s < 3) (hx : -500 ≤ x ∧ x ≤ 500) (hv : -500 ≤ v ∧ v ≤ 500) (h : Q (0, tr_y (K k) s x v 1001 (-500)) M) : Y G (d + 3) mX9_partnerOf 0 [(2, 170), (0, x), (0, s), (0, v), (0, m), (0, k), (9, 0)] [] M Q := by
  have fin : ∀ y0 : Int, (∀ y, -500 ≤ y → y ≤ 500 → tr_op s x y = v → y = y0) → (-500 ≤ y0 ∧ y0 ≤ 500 → tr_op s x y0 = v) → Y G (d + 2 + 1) mX9_partnerOf 74 [(2, 170), (0, x), (0, s), (0, v), (0, m), (0, k), (0, y0)] [(0, if -500 ≤ y0 ∧ y0 ≤ 500 then K k y0 else 0)] M Q := fun y0 hu ho => by
    rw [tr_y_u hu] at h
    refine bX9_partnerOf_74 hG ⟨fun c => ?_, fun c => ?_⟩
    · rw [if_neg (fun q => by rw [if_pos q.1] at c; exact q.2.2 c)] at h
      exact h
    · have cr : -500 ≤ y0 ∧ y0 ≤ 500 := Decidable.byContradiction (fun z => c (if_neg z))
      rw [if_pos cr] at c
      rw [if_pos ⟨cr, ho cr, c⟩] at h
      exact h
  refine bX9_partnerOf_0 hG ⟨fun c0 => ⟨fun c1 => ⟨fun cx => ⟨cx, fun cr => ?_, fun cr => ⟨cx, ?_⟩⟩, fun cx => ⟨fun cv => ?_, fun cv => ?_⟩⟩, fun c1 => ⟨by omega, ?_⟩⟩, fun c0 => ⟨by omega, ?_⟩⟩
  · have s2 : s = 2 := by omega
    refine s_count (d := d + 1) hG hm n5 hH hk (fin (-1000) (fun y y0 y1 hy => ?_) (fun z => by omega))
    rw [s2] at hy
    exact absurd (tr_q2 hx hv cx hy).1 cr
  · have s2 : s = 2 := by omega
    have q := tr_q1 hx hv cr
    refine s_count (d := d + 1) hG hm n5 hH hk (fin (zdiv v x) (fun y y0 y1 hy => ?_) (fun z => ?_))
    · rw [s2] at hy
      exact (tr_q2 hx hv cx hy).2.symm
    · rw [s2]; exact q.1
  · have s2 : s = 2 := by omega
    rw [tr_y_u (y0 := -1000) (fun y y0 y1 hy => by
      rw [s2, cx] at hy
      have e : (0 : Int) * y = v := hy
      rw [Int.zero_mul] at e
      exact absurd e.symm cv), if_neg (fun z => by omega)] at h
    exact h
  · have s2 : s = 2 := by omega
    rw [s2, cx, cv] at h
    exact s_least (d := d) hG hm n5 hH hk (bX9_partnerOf_46 hG h)
  · refine s_count (d := d + 1) hG hm n5 hH hk (fin (x - v) (fun y y0 y1 hy => ?_) (fun z => ?_))
    · rw [c1] at hy
      have e : x - y = v := hy
      omega
    · rw [c1]; show x - (x - v) = v; omega
  · refine s_count (d := d + 1) hG hm n5 hH hk (fin (v - x) (fun y y0 y1 hy => ?_) (fun z => ?_))
    · rw [c0] at hy
      have e : x + y = v := hy
      omega
    · rw [c0]; show x + (v - x) = v; omega
theorem s_leafOf (hG : zP G) (hH : tr_H K th m nn M) {v : Int} (h : Q (0, tr_lf th m v) M) : Y G d mX9_leafOf 0 [(2, 170), (0, m), (0, v), (9, 0)] [] M Q := by
  have lp : ∀ (r : Nat) (t : Int), 0 ≤ t → t + r = 4 → Q (0, tr_lt th v r t) M → Y G d mX9_leafOf 14 [(2, 170), (0, m), (0, v), (0, t)] [] M Q := fun r => by
    induction r with
    | zero =>
      intro t t0 ht hh
      exact bX9_leafOf_14 hG ⟨fun _ => hh, fun z => absurd z (by omega)⟩
    | succ r ih =>
      intro t t0 ht hh
      rw [tr_lt_s] at hh
      refine bX9_leafOf_14 hG ⟨fun z => absurd z (by omega), fun _ => ⟨by omega, ?_⟩⟩
      rw [hH.2 t t0 (by omega)]
      exact ⟨fun z => ⟨by omega, ih (t + 1) (by omega) (by omega) (by rw [if_neg z] at hh; exact hh)⟩, fun z => ⟨by omega, by rw [if_pos z] at hh; exact hh⟩⟩
  unfold tr_lf at h
  refine bX9_leafOf_0 hG ⟨fun c => ?_, fun c => ⟨fun c2 => ?_, fun c2 => ?_⟩⟩
  · rw [if_neg (by omega)] at h; exact lp 4 0 (by decide) (by decide) h
  · rw [if_neg (by omega)] at h; exact lp 4 0 (by decide) (by decide) h
  · rw [if_pos ⟨c, c2⟩] at h; exact h
theorem s_w45 (hG : zP G) (hm : 0 ≤ m ∧ m ≤ 9) (n5 : nn ≤ 5) (hH : tr_H K th m nn M) {n v o p s : Int} (hn : n ≤ nn) (hp : 1 ≤ p ∧ p < n) (hs : 0 ≤ s ∧ s < 3) (hv : -500 ≤ v ∧ v ≤ 500) (ho : 0 ≤ o ∧ o < 9) : ∀ (r : Nat) (x : Int), -500 ≤ x → x + r = 501 → ((tr_x (K p) (K (n - p)) s v r x).2 = -1000 → Y G (d + 4) mX9_write 42 [(2, 170), (0, m), (0, n), (0, v), (0, o), (0, p), (0, (s + 1)), (9, 0), (9, 0)] [] M Q) → (∀ x' y', tr_x (K p) (K (n - p)) s v r x = (x', y') → y' ≠ -1000 → Y G (d + 4) mX9_write 115 [(2, 170), (0, m), (0, n), (0, v), (0, o), (0, p), (0, s), (0, x'), (0, y')] [] (zset M 175 o (1000 + s)) Q) → Y G (d + 4) mX9_write 53 [(2, 170), (0, m), (0, n), (0, v), (0, o), (0, p), (0, s), (0, x), (9, 0)] [] M Q := fun r => by
  induction r with
  | zero =>
    intro x x0 hx hN hF
    exact bX9_write_53 hG ⟨fun _ => ⟨by omega, hN rfl⟩, fun z => absurd z (by omega)⟩
  | succ r ih =>
    intro x x0 hx hN hF
    rw [tr_x_s] at hN
    have hF' : ∀ z, tr_x (K p) (K (n - p)) s v (r + 1) x = z → z.2 ≠ -1000 → Y G (d + 4) mX9_write 115 [(2, 170), (0, m), (0, n), (0, v), (0, o), (0, p), (0, s), (0, z.1), (0, z.2)] [] (zset M 175 o (1000 + s)) Q := fun z e q => hF z.1 z.2 e q
    rw [tr_x_s] at hF'
    refine bX9_write_53 hG ⟨fun z => absurd z (by omega), fun _ => s_count (d := d + 2) hG hm n5 hH ⟨hp.1, by omega⟩ ?_⟩
    rw [if_pos ⟨x0, by omega⟩]
    refine bX9_write_70 hG ⟨fun c => ⟨by omega, s_partner (d := d) hG hm n5 hH ⟨by omega, by omega⟩ hs ⟨x0, by omega⟩ hv (bX9_write_93 hG ⟨fun c2 => ⟨by omega, ?_⟩, fun c2 => ⟨by omega, ?_⟩⟩)⟩, fun c => ⟨by omega, ?_⟩⟩
    · rw [if_neg c, if_pos c2] at hN hF'
      exact ih (x + 1) (by omega) (by omega) hN (fun x' y' e q => hF' (x', y') e q)
    · rw [if_neg c, if_neg c2] at hF'
      exact bX9_put_0 hG ⟨fun z => absurd z (by omega), fun _ => ⟨fun z => absurd z (by omega), fun _ => ⟨ho, hF' _ rfl c2⟩⟩⟩
    · rw [if_pos c] at hN hF'
      exact ih (x + 1) (by omega) (by omega) hN (fun x' y' e q => hF' (x', y') e q)
theorem s_w34 (hG : zP G) (hm : 0 ≤ m ∧ m ≤ 9) (n5 : nn ≤ 5) (hH : tr_H K th m nn M) {n v o p : Int} (hn : n ≤ nn) (hp : 1 ≤ p ∧ p < n) (hv : -500 ≤ v ∧ v ≤ 500) (ho : 0 ≤ o ∧ o < 9) : ∀ (r : Nat) (s : Int), 0 ≤ s → s + r = 3 → ((tr_sg (K p) (K (n - p)) v r s).2.2 = -1000 → Y G (d + 4) mX9_write 33 [(2, 170), (0, m), (0, n), (0, v), (0, o), (0, (p + 1)), (9, 0), (9, 0), (9, 0)] [] M Q) → (∀ z, tr_sg (K p) (K (n - p)) v r s = z → z.2.2 ≠ -1000 → Y G (d + 4) mX9_write 115 [(2, 170), (0, m), (0, n), (0, v), (0, o), (0, p), (0, z.1), (0, z.2.1), (0, z.2.2)] [] (zset M 175 o (1000 + z.1)) Q) → Y G (d + 4) mX9_write 42 [(2, 170), (0, m), (0, n), (0, v), (0, o), (0, p), (0, s), (9, 0), (9, 0)] [] M Q := fun r => by
  induction r with
  | zero =>
    intro s s0 hs hN hF
    exact bX9_write_42 hG ⟨fun _ => ⟨by omega, hN rfl⟩, fun z => absurd z (by omega)⟩
  | succ r ih =>
    intro s s0 hs hN hF
    rw [tr_sg_s] at hN hF
    refine bX9_write_42 hG ⟨fun z => absurd z (by omega), fun _ => s_w45 hG hm n5 hH hn hp ⟨s0, by omega⟩ hv ho 1001 (-500) (by decide) (by decide) (fun c => ?_) (fun x' y' e q => ?_)⟩
    · rw [if_pos c] at hN hF
      exact ih (s + 1) (by omega) (by omega) hN hF
    · rw [e, if_neg (show ¬ (x', y').2 = -1000 from q)] at hF
      exact hF _ rfl q
theorem s_w25 (hG : zP G) (hm : 0 ≤ m ∧ m ≤ 9) (n5 : nn ≤ 5) (hH : tr_H K th m nn M) {n v o : Int} (hn : n ≤ nn) (hv : -500 ≤ v ∧ v ≤ 500) (ho : 0 ≤ o ∧ o < 9) : ∀ (r : Nat) (p : Int), 1 ≤ p → p + r = n → (tr_pt K n v r p).2.2.2 ≠ -1000 → (∀ z, tr_pt K n v r p = z → Y G (d + 4) mX9_write 115 [(2, 170), (0, m), (0, n), (0, v), (0, o), (0, z.1), (0, z.2.1), (0, z.2.2.1), (0, z.2.2.2)] [] (zset M 175 o (1000 + z.2.1)) Q) → Y G (d + 4) mX9_write 33 [(2, 170), (0, m), (0, n), (0, v), (0, o), (0, p), (9, 0), (9, 0), (9, 0)] [] M Q := fun r => by
  induction r with
  | zero =>
    intro p p0 hp hN hF
    exact absurd rfl hN
  | succ r ih =>
    intro p p0 hp hN hF
    rw [tr_pt_s] at hN hF
    refine bX9_write_33 hG ⟨fun z => absurd z (by omega), fun _ => s_w34 hG hm n5 hH hn ⟨p0, by omega⟩ hv ho 3 0 (by decide) (by decide) (fun c => ?_) (fun z e q => ?_)⟩
    · rw [if_pos c] at hN hF
      exact ih (p + 1) (by omega) (by omega) hN hF
    · rw [if_neg (by rw [e]; exact q)] at hF
      rw [← e]
      exact hF _ rfl
theorem s_write (hG : zP G) (hm : 0 ≤ m ∧ m ≤ 9) (n5 : nn ≤ 5) : ∀ (f : Nat) (n v o : Int) (l : List Int) (M : zM) (Q : zV → zM → Prop), tr_Wr K (tr_lf th m) f n v l → tr_H K th m nn M → n ≤ nn → (-500 ≤ v ∧ v ≤ 500) → 0 ≤ o → o + l.length ≤ 9 → Q (0, o + l.length) (zrow M 175 (tr_put l o (M 175))) → Y G (d + f + 3) mX9_write 0 [(2, 170), (0, m), (0, n), (0, v), (0, o), (9, 0), (9, 0), (9, 0), (9, 0)] [] M Q
  | 0, n, v, o, l, M, Q, hW, _, _, _, _, _, _ => False.elim hW
  | f + 1, n, v, o, l, M, Q, hW, hH, hn, hv, o0, o1, h => by
    have hW0 := hW
    have hl := tr_Wr_l _ _ _ _ hW
    rcases hW with ⟨h1, h2⟩ | ⟨h1, p, s, x, y, l1, l2, h2, h3, h4, h5, h6, h7⟩
    · rw [h2] at h
      refine bX9_write_0 hG ⟨fun _ => ⟨fun z => absurd z (by omega), fun _ => s_leafOf hG hH (bX9_write_22 hG (bX9_put_0 hG ⟨fun z => absurd z (by omega), fun _ => ⟨fun z => absurd z (by omega), fun _ => ⟨by omega, bX9_write_25 hG ⟨by omega, ?_⟩⟩⟩⟩))⟩, fun z => absurd z (by omega)⟩
      rw [zset_is]
      exact h
    · obtain ⟨hp, hs, hx, hy⟩ := h4
      have a1 := tr_Wr_l _ _ _ _ h5
      have a2 := tr_Wr_l _ _ _ _ h6
      have e0 : (l.length : Int) = 1 + l1.length + l2.length := by rw [h7, List.length_cons, List.length_append]; omega
      have r3 : (tr_pt K n v (n - 1).toNat 1).2.2.2 ≠ -1000 := by rw [h2]; exact h3
      refine bX9_write_0 hG ⟨fun _ => ⟨fun _ => s_w25 (d := d + f) hG hm n5 hH hn hv ⟨o0, by omega⟩ (n - 1).toNat 1 (by decide) (by omega) r3 (fun z e => ?_), fun z => absurd z (by omega)⟩, fun z => absurd z (by omega)⟩
      rw [h2] at e
      rw [← e]
      show Y G (d + f + 3 + 1) mX9_write 115 [(2, 170), (0, m), (0, n), (0, v), (0, o), (0, p), (0, s), (0, x), (0, y)] [] (zset M 175 o (1000 + s)) Q
      refine bX9_write_115 hG ⟨by omega, by omega, ?_⟩
      rw [zset_is]
      refine s_write hG hm n5 f p x (o + 1) l1 _ _ h5 (tr_H_r hH) (by omega) hx (by omega) (by omega) (bX9_write_136 hG ?_)
      rw [zrow_two, zrow_row]
      refine s_write hG hm n5 f (n - p) y (o + 1 + l1.length) l2 _ _ h6 (tr_H_r hH) (by omega) hy (by omega) (by omega) (bX9_write_139 hG ?_)
      rw [zrow_two, zrow_row]
      rw [e0, h7, tr_put_c, tr_put_a] at h
      rw [show o + 1 + (l1.length : Int) + l2.length = o + (1 + l1.length + l2.length) by omega]
      exact h
end CW

/-! the model -/
def tr_ps (M : zM) (a b : Int) : zM := zset (zset (zset M 265 (M 234 52) a) 266 (M 234 52) b) 234 52 (M 234 52 + 1)
theorem tr_ps_o {a b c : Int} (h1 : c ≠ 265) (h2 : c ≠ 266) (h3 : c ≠ 234) : tr_ps M a b c = M c := by
  unfold tr_ps; rw [zset_off h3, zset_off h2, zset_off h1]
theorem tr_ps_t {a b : Int} : tr_ps M a b 234 52 = M 234 52 + 1 := zset_same
theorem tr_ps_5 {a b i : Int} : tr_ps M a b 265 i = if i = M 234 52 then a else M 265 i := by
  unfold tr_ps; rw [zset_off (by decide), zset_off (by decide), zset_ap, if_pos rfl]
theorem tr_ps_6 {a b i : Int} : tr_ps M a b 266 i = if i = M 234 52 then b else M 266 i := by
  unfold tr_ps; rw [zset_off (by decide), zset_ap, if_pos rfl, zset_off (by decide)]
section MS
variable {K : Int → Int → Int} {n v : Int}
theorem m_push (hG : zP G) {a b : Int} (ht : 0 ≤ M 234 52 ∧ M 234 52 < 10) (h : Q (9, 0) (tr_ps M a b)) : Y G d mX12_await0 0 [(2, 234), (0, a), (0, b)] [] M Q := bX12_await0_0 hG ⟨ht, ht, by omega, h⟩
theorem m_sp53 (hG : zP G) (hc : ∀ k u, 1 ≤ k → k ≤ 5 → -500 ≤ u → u ≤ 500 → M 264 (zce k u) = K k u) (n5 : n ≤ 5) (ht : 0 ≤ M 234 52 ∧ M 234 52 < 9) {p s x : Int} (hp : 1 ≤ p ∧ p < n) (hs : 0 ≤ s ∧ s < 3) (hx : -500 ≤ x ∧ x ≤ 500) : ∀ (r : Nat) (y : Int), -500 ≤ y → y + r = 501 → (tr_y (K (n - p)) s x v r y = -1000 → Y G (d + 1) mX12_split 21 [(2, 234), (0, n), (0, v), (0, p), (0, s), (0, (x + 1)), (9, 0)] [] M Q) → (tr_y (K (n - p)) s x v r y ≠ -1000 → Q (0, s) (tr_ps (tr_ps M (n - p) (tr_y (K (n - p)) s x v r y)) p x)) → Y G (d + 1) mX12_split 53 [(2, 234), (0, n), (0, v), (0, p), (0, s), (0, x), (0, y)] [] M Q := fun r => by
  induction r with
  | zero =>
    intro y y0 hy hN hF
    exact bX12_split_53 hG ⟨fun _ => ⟨by omega, hN rfl⟩, fun z => absurd z (by omega)⟩
  | succ r ih =>
    intro y y0 hy hN hF
    rw [tr_y_s] at hN hF
    have nx : Y G (d + 1) mX12_split 70 [(2, 234), (0, n), (0, v), (0, p), (0, s), (0, x), (0, y)] [(0, tr_op s x y)] M Q := by
      refine bX12_split_70 hG ⟨fun c => ⟨by omega, ?_⟩, fun c => ?_⟩
      · rw [if_neg c] at hN hF
        exact ih (y + 1) (by omega) (by omega) hN hF
      · have b := zce_b (n := n - p) (v := y) (by omega) (by omega) y0 (by omega)
        refine ⟨by omega, b.1, b.2, ?_⟩
        rw [hc (n - p) y (by omega) (by omega) y0 (by omega), zlcmp_eq]
        rw [if_pos c] at hN hF
        refine ⟨fun c2 => ⟨by omega, ?_⟩, fun c2 => ⟨by omega, ?_⟩⟩
        · rw [if_neg c2] at hF
          refine m_push hG (by omega) (bX12_split_104 hG (m_push hG (by rw [tr_ps_t]; omega) (bX12_split_111 hG (hF (by omega)))))
        · rw [if_pos c2] at hN hF
          exact ih (y + 1) (by omega) (by omega) hN hF
    have hm := tr_xy (x := x) (y := y) hx ⟨y0, by omega⟩
    refine bX12_split_53 hG ⟨fun z => absurd z (by omega), fun _ => bX12_two_0 hG ⟨fun c0 => ⟨fun c1 => ⟨by omega, ?_⟩, fun c1 => ⟨by omega, ?_⟩⟩, fun c0 => ⟨by omega, ?_⟩⟩⟩
    · have e : tr_op s x y = x * y := by unfold tr_op; rw [if_neg c0, if_neg c1]
      rw [e] at nx; exact nx
    · have e : tr_op s x y = x - y := by unfold tr_op; rw [if_neg c0, if_pos c1]
      rw [e] at nx; exact nx
    · have e : tr_op s x y = x + y := by unfold tr_op; rw [if_pos c0]
      rw [e] at nx; exact nx
theorem m_sp21 (hG : zP G) (hc : ∀ k u, 1 ≤ k → k ≤ 5 → -500 ≤ u → u ≤ 500 → M 264 (zce k u) = K k u) (n5 : n ≤ 5) (ht : 0 ≤ M 234 52 ∧ M 234 52 < 9) {p s : Int} (hp : 1 ≤ p ∧ p < n) (hs : 0 ≤ s ∧ s < 3) : ∀ (r : Nat) (x : Int), -500 ≤ x → x + r = 501 → ((tr_x (K p) (K (n - p)) s v r x).2 = -1000 → Y G (d + 1) mX12_split 10 [(2, 234), (0, n), (0, v), (0, p), (0, (s + 1)), (9, 0), (9, 0)] [] M Q) → (∀ z, tr_x (K p) (K (n - p)) s v r x = z → z.2 ≠ -1000 → Q (0, s) (tr_ps (tr_ps M (n - p) z.2) p z.1)) → Y G (d + 1) mX12_split 21 [(2, 234), (0, n), (0, v), (0, p), (0, s), (0, x), (9, 0)] [] M Q := fun r => by
  induction r with
  | zero =>
    intro x x0 hx hN hF
    exact bX12_split_21 hG ⟨fun _ => ⟨by omega, hN rfl⟩, fun z => absurd z (by omega)⟩
  | succ r ih =>
    intro x x0 hx hN hF
    rw [tr_x_s] at hN hF
    have b := zce_b (n := p) (v := x) (by omega) (by omega) x0 (by omega)
    refine bX12_split_21 hG ⟨fun z => absurd z (by omega), fun _ => ⟨b.1, b.2, ?_⟩⟩
    rw [hc p x hp.1 (by omega) x0 (by omega), zlcmp_eq]
    refine ⟨fun c => m_sp53 hG hc n5 ht hp hs ⟨x0, by omega⟩ 1001 (-500) (by decide) (by decide) (fun c2 => ?_) (fun c2 => ?_), fun c => ⟨by omega, ?_⟩⟩
    · rw [if_neg c, if_pos c2] at hN hF
      exact ih (x + 1) (by omega) (by omega) hN hF
    · rw [if_neg c, if_neg c2] at hF
      exact hF _ rfl c2
    · rw [if_pos c] at hN hF
      exact ih (x + 1) (by omega) (by omega) hN hF
theorem m_sp10 (hG : zP G) (hc : ∀ k u, 1 ≤ k → k ≤ 5 → -500 ≤ u → u ≤ 500 → M 264 (zce k u) = K k u) (n5 : n ≤ 5) (ht : 0 ≤ M 234 52 ∧ M 234 52 < 9) {p : Int} (hp : 1 ≤ p ∧ p < n) : ∀ (r : Nat) (s : Int), 0 ≤ s → s + r = 3 → ((tr_sg (K p) (K (n - p)) v r s).2.2 = -1000 → Y G (d + 1) mX12_split 2 [(2, 234), (0, n), (0, v), (0, (p + 1)), (9, 0), (9, 0), (9, 0)] [] M Q) → (∀ z, tr_sg (K p) (K (n - p)) v r s = z → z.2.2 ≠ -1000 → Q (0, z.1) (tr_ps (tr_ps M (n - p) z.2.2) p z.2.1)) → Y G (d + 1) mX12_split 10 [(2, 234), (0, n), (0, v), (0, p), (0, s), (9, 0), (9, 0)] [] M Q := fun r => by
  induction r with
  | zero =>
    intro s s0 hs hN hF
    exact bX12_split_10 hG ⟨fun _ => ⟨by omega, hN rfl⟩, fun z => absurd z (by omega)⟩
  | succ r ih =>
    intro s s0 hs hN hF
    rw [tr_sg_s] at hN hF
    refine bX12_split_10 hG ⟨fun z => absurd z (by omega), fun _ => m_sp21 hG hc n5 ht hp ⟨s0, by omega⟩ 1001 (-500) (by decide) (by decide) (fun c => ?_) (fun z e q => ?_)⟩
    · rw [if_pos c] at hN hF
      exact ih (s + 1) (by omega) (by omega) hN hF
    · rw [e, if_neg q] at hF
      exact hF _ rfl q
theorem m_split (hG : zP G) (hc : ∀ k u, 1 ≤ k → k ≤ 5 → -500 ≤ u → u ≤ 500 → M 264 (zce k u) = K k u) (n5 : n ≤ 5) (ht : 0 ≤ M 234 52 ∧ M 234 52 < 9) (n2 : 2 ≤ n) {p s x y : Int} (he : tr_pt K n v (n - 1).toNat 1 = (p, s, x, y)) (hy : y ≠ -1000) (h : Q (0, s) (tr_ps (tr_ps M (n - p) y) p x)) : Y G (d + 1) mX12_split 0 [(2, 234), (0, n), (0, v), (9, 0), (9, 0), (9, 0), (9, 0)] [] M Q := by
  have lp : ∀ (r : Nat) (p : Int), 1 ≤ p → p + r = n → (tr_pt K n v r p).2.2.2 ≠ -1000 → (∀ z, tr_pt K n v r p = z → Q (0, z.2.1) (tr_ps (tr_ps M (n - z.1) z.2.2.2) z.1 z.2.2.1)) → Y G (d + 1) mX12_split 2 [(2, 234), (0, n), (0, v), (0, p), (9, 0), (9, 0), (9, 0)] [] M Q := fun r => by
    induction r with
    | zero =>
      intro p p0 hp hN hF
      exact absurd rfl hN
    | succ r ih =>
      intro p p0 hp hN hF
      rw [tr_pt_s] at hN hF
      refine bX12_split_2 hG ⟨fun z => absurd z (by omega), fun _ => m_sp10 hG hc n5 ht ⟨p0, by omega⟩ 3 0 (by decide) (by decide) (fun c => ?_) (fun z e q => ?_)⟩
      · rw [if_pos c] at hN hF
        exact ih (p + 1) (by omega) (by omega) hN hF
      · rw [if_neg (by rw [e]; exact q)] at hF
        rw [← e]
        exact hF _ rfl
  exact bX12_split_0 hG (lp (n - 1).toNat 1 (by decide) (by omega) (by rw [he]; exact hy) (fun z e => by rw [he] at e; rw [← e]; exact h))
end MS
end TR9

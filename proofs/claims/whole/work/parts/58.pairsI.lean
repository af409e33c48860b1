section PI
variable {G : zG} {d : Nat} {M : zM} {Q : zV → zM → Prop}
theorem s_take (hG : zP G) {a v : Int} {M : zM} (ha : M 184 1 = a) (hb : 0 ≤ a ∧ a < 128) (hv : M 185 a = v) (h : Q (0, v) (zset M 184 1 (a + 1))) : Y G d mX5_take 0 [(2, 184)] [] M Q := by
  refine bX5_take_0 hG ?_
  rw [ha, show a + 1 - 1 = a by omega, hv]
  exact ⟨fun _ => ⟨by omega, by omega, by omega, h⟩, fun c => absurd c (by omega)⟩
theorem s_tA2 (hG : zP G) {r a : Int} {n : Nat} {F : Int → Int} (hr : zsh r.toNat = (100, n)) (hn : n ≠ 0) (h1 : r ≠ 184 ∧ r ≠ 185) (ha : 0 ≤ a ∧ a + n ≤ 128) (hF : ∀ k, M 185 k = F k) (h : ∀ g, (∀ k : Int, 0 ≤ k → k < n → g k = F (a + k)) → Q (9, 0) (zset (zrow M r g) 184 1 (a + n))) : ∀ (k : Nat) (i : Int) (g : Int → Int), 0 ≤ i → i + k = n → (∀ k, 0 ≤ k → k < i → g k = F (a + k)) → Y G (d + 1) mX5_takeAll 2 [(2, 184), (2, r), (0, i)] [] (zset (zrow M r g) 184 1 (a + i)) Q
  | 0, i, g, i0, i1, hg => by
    have : i = (n : Int) := by omega
    subst this
    exact bX5_takeAll_2 hG hr ⟨hn, fun _ => h g hg, fun c => absurd c (by omega)⟩
  | k + 1, i, g, i0, i1, hg => by
    refine bX5_takeAll_2 hG hr ⟨hn, fun c => absurd c (by omega), fun _ => ?_⟩
    have e : (zset (zrow M r g) 184 1 (a + i)) 185 (a + i) = F (a + i) := by
      rw [zset_ap, if_neg (by decide), zrow_ap, if_neg (fun q => h1.2 q.symm)]; exact hF _
    refine s_take hG zset_same ⟨by omega, by omega⟩ e (bX5_takeAll_14 hG hr ⟨⟨i0, by omega⟩, by omega, ?_⟩)
    have e2 : zset (zset (zset (zrow M r g) 184 1 (a + i)) 184 1 (a + i + 1)) r i (F (a + i)) = zset (zrow M r (zup g i (F (a + i)))) 184 1 (a + (i + 1)) := by
      funext x y
      simp only [zset_ap, zrow_ap, zup]
      by_cases c : x = 184
      · have c2 : ¬ x = r := fun q => h1.1 (q.symm.trans c)
        simp only [if_pos c, if_neg c2, show a + i + 1 = a + (i + 1) by omega]
        split
        · rfl
        · rfl
      · simp only [if_neg c]
        by_cases c2 : x = r
        · simp only [if_pos c2]
        · simp only [if_neg c2]
    rw [e2]
    refine s_tA2 hG hr hn h1 ha hF h k (i + 1) _ (by omega) (by omega) (fun q q0 q1 => ?_)
    by_cases c : q = i
    · rw [c, zup_at]
    · rw [zup_ne c]; exact hg q q0 (by omega)
theorem s_takeAll (hG : zP G) {r a : Int} (n : Nat) {F : Int → Int} (hr : zsh r.toNat = (100, n)) (hn : n ≠ 0) (h1 : r ≠ 184 ∧ r ≠ 185) (he : M 184 1 = a) (ha : 0 ≤ a ∧ a + n ≤ 128) (hF : ∀ k, M 185 k = F k) (h : ∀ g, (∀ k : Int, 0 ≤ k → k < n → g k = F (a + k)) → Q (9, 0) (zset (zrow M r g) 184 1 (a + n))) : Y G (d + 1) mX5_takeAll 0 [(2, 184), (2, r), (9, 0)] [] M Q := by
  refine bX5_takeAll_0 hG hr ?_
  have e := zstw0 (M := M) (a := r) he
  have := s_tA2 (d := d) hG hr hn h1 ha hF h n 0 (M r) (by omega) (by omega) (fun k a b => by omega)
  rw [show a + 0 = a by omega, ← e] at this
  exact this

def zbf (A F : Int → Int) (M M1 : zM) : Prop := (M1 1 3 = F 0) ∧ (∀ k, 0 ≤ k → k < 4 → M1 3 k = F (1 + k)) ∧ (M1 2 4 = F 5) ∧ (∀ k, 0 ≤ k → k < 36 → M1 7 k = F (6 + k)) ∧ (M1 19 8 = F 42) ∧ (M1 19 9 = F 43) ∧ (M1 19 13 = 0) ∧ (M1 157 5 = F 44) ∧ (M1 157 6 = F 45) ∧ (M1 157 9 = F 46) ∧ (∀ k, 0 ≤ k → k < 6 → M1 163 k = F (47 + k)) ∧ (∀ k, 0 ≤ k → k < 6 → M1 164 k = F (53 + k)) ∧ (M1 176 2 = F 59) ∧ (∀ k, 0 ≤ k → k < 8 → M1 177 k = F (60 + k)) ∧ (∀ k, 0 ≤ k → k < 8 → M1 178 k = F (68 + k)) ∧ (M1 176 7 = F 76) ∧ (∀ k, 0 ≤ k → k < 12 → M1 180 k = F (77 + k)) ∧ (∀ k, 0 ≤ k → k < 12 → M1 181 k = F (89 + k)) ∧ (M1 176 11 = 0) ∧ (M1 2 10 = M 2 10 + 2) ∧ (zR 8 (F 5) 8 (zpw 8) (M1 8) (zmB 8 (F 5) (zk0 A))) ∧ (∀ p, 0 ≤ p → p < F 5 → M1 10 p = zch A p (F 5).toNat) ∧ (zR 6 6 6 (zpw 6) (M1 9) (zmB 6 6 (zw0 A)))

theorem s_cback (hG : zP G) {A : Int → Int} {F : Int → Int} (hF : ∀ k, M 185 k = F k) (b1 : 0 ≤ F 5 ∧ F 5 ≤ 8) (b0 : 0 ≤ F 42 ∧ F 42 ≤ 12) (b2 : 0 ≤ F 44 ∧ F 44 ≤ 6) (b5 : 0 ≤ F 46 ∧ F 46 ≤ 6) (b7 : 0 ≤ F 59 ∧ F 59 ≤ 8) (b8 : 0 ≤ F 76 ∧ F 76 ≤ 12) (hv : 0 ≤ M 2 10 ∧ M 2 10 ≤ 999999990) (hP : ∀ c, 0 ≤ c → c < F 5 → M 5 c = A (15 + 3 * c) ∧ M 6 c = A (16 + 3 * c) ∧ (A (15 + 3 * c) = A (16 + 3 * c) → A (15 + 3 * c) = -1)) (hR : ∀ k, 0 ≤ k → k < 36 → F (6 + k) = A (38 + k) ∧ 0 ≤ A (38 + k) ∧ A (38 + k) ≤ 99) (h : ∀ M1, zfr [(1, 3, 4), (184, 1, 2), (3, 0, 1000000), (2, 4, 5), (7, 0, 1000000), (10, 0, 1000000), (8, 0, 1000000), (2, 10, 11), (9, 0, 1000000), (19, 8, 10), (19, 13, 14), (157, 5, 7), (157, 9, 10), (163, 0, 1000000), (164, 0, 1000000), (176, 2, 3), (177, 0, 1000000), (178, 0, 1000000), (176, 7, 8), (180, 0, 1000000), (181, 0, 1000000), (176, 11, 12)] M M1 → zbf A F M M1 → Q (0, F 46) M1) : Y G (d + 5) mX11_back 0 [(2, 1)] [] M Q := by
  have hm : ∀ x b : Int, 0 ≤ x ∧ x ≤ b → max 0 (min x b) = x := fun x b h => by omega
  refine bX11_back_0 hG (bX5_rewind_0 hG (bX11_back_7 hG ?_))
  refine s_take (a := 0) (v := F 0) hG (by simp only [zset_ap, zrow_ap, Int.reduceEq, ↓reduceIte] <;> rfl) (by decide) (by simp only [zset_ap, zrow_ap, Int.reduceEq, ↓reduceIte]; exact hF _) (bX11_back_15 hG (bX10_restore_0 hG ?_))
  refine s_takeAll (a := 1) (F := F) hG 4 (by decide +kernel) (by decide) (by decide) (by simp only [zset_ap, zrow_ap, Int.reduceEq, ↓reduceIte] <;> rfl) (by decide) (fun k => by simp only [zset_ap, zrow_ap, Int.reduceEq, ↓reduceIte]; exact hF k) (fun g1 hg1 => bX10_restore_8 hG ?_)
  refine s_take (a := 5) (v := F 5) hG (by simp only [zset_ap, zrow_ap, Int.reduceEq, ↓reduceIte] <;> rfl) (by decide) (by simp only [zset_ap, zrow_ap, Int.reduceEq, ↓reduceIte]; exact hF _) (bX10_restore_14 hG ?_)
  rw [hm _ _ b1]
  refine s_takeAll (a := 6) (F := F) hG 36 (by decide +kernel) (by decide) (by decide) (by simp only [zset_ap, zrow_ap, Int.reduceEq, ↓reduceIte] <;> rfl) (by decide) (fun k => by simp only [zset_ap, zrow_ap, Int.reduceEq, ↓reduceIte]; exact hF k) (fun g2 hg2 => bX10_restore_33 hG ?_)
  have v1 : (zset (zrow (zset (zset (zset (zrow (zset (zset (zset M 184 1 0) 184 1 (0 + 1)) 1 3 (F 0)) 3 g1) 184 1 (1 + (4 : Nat))) 184 1 (5 + 1)) 2 4 (F 5)) 7 g2) 184 1 (6 + (36 : Nat))) 2 10 = M 2 10 := by simp only [zset_ap, zrow_ap, Int.reduceEq, ↓reduceIte]
  refine sw_kin (A := A) (N := F 5) (by decide) (zP_W hG) (by simp only [zset_ap, zrow_ap, Int.reduceEq, ↓reduceIte]) b1 (by rw [v1]; omega) (fun c c0 c1 => by simp only [zset_ap, zrow_ap, Int.reduceEq, ↓reduceIte]; exact hP c c0 c1) (fun T K hT hK => ?_)
  rw [v1]
  refine bX10_restore_37 hG ?_
  have v2 : (zset (zrow (zrow (zset (zrow (zset (zset (zset (zrow (zset (zset (zset M 184 1 0) 184 1 (0 + 1)) 1 3 (F 0)) 3 g1) 184 1 (1 + (4 : Nat))) 184 1 (5 + 1)) 2 4 (F 5)) 7 g2) 184 1 (6 + (36 : Nat))) 10 K) 8 T) 2 10 (M 2 10 + 1)) 2 10 = M 2 10 + 1 := by simp only [zset_ap, zrow_ap, Int.reduceEq, ↓reduceIte]
  refine sw_ways (A := A) (by decide) (zP_W hG) (by rw [v2]; omega) (fun k k0 k1 => by simp only [zset_ap, zrow_ap, Int.reduceEq, ↓reduceIte]; rw [hg2 k k0 k1]; exact hR k k0 k1) (fun U hU => ?_)
  rw [v2]
  refine bX10_restore_41 hG (bX11_back_29 hG (bX3_restore_0 hG ?_))
  refine s_take (a := 42) (v := F 42) hG (by simp only [zset_ap, zrow_ap, Int.reduceEq, ↓reduceIte] <;> rfl) (by decide) (by simp only [zset_ap, zrow_ap, Int.reduceEq, ↓reduceIte]; exact hF _) (bX3_restore_6 hG ?_)
  rw [hm _ _ b0]
  refine s_take (a := 43) (v := F 43) hG (by simp only [zset_ap, zrow_ap, Int.reduceEq, ↓reduceIte] <;> rfl) (by decide) (by simp only [zset_ap, zrow_ap, Int.reduceEq, ↓reduceIte]; exact hF _) (bX3_restore_22 hG (bX11_back_40 hG (bX6_restore_0 hG ?_)))
  refine s_take (a := 44) (v := F 44) hG (by simp only [zset_ap, zrow_ap, Int.reduceEq, ↓reduceIte] <;> rfl) (by decide) (by simp only [zset_ap, zrow_ap, Int.reduceEq, ↓reduceIte]; exact hF _) (bX6_restore_6 hG ?_)
  rw [hm _ _ b2]
  refine s_take (a := 45) (v := F 45) hG (by simp only [zset_ap, zrow_ap, Int.reduceEq, ↓reduceIte] <;> rfl) (by decide) (by simp only [zset_ap, zrow_ap, Int.reduceEq, ↓reduceIte]; exact hF _) (bX6_restore_22 hG ?_)
  refine s_take (a := 46) (v := F 46) hG (by simp only [zset_ap, zrow_ap, Int.reduceEq, ↓reduceIte] <;> rfl) (by decide) (by simp only [zset_ap, zrow_ap, Int.reduceEq, ↓reduceIte]; exact hF _) (bX6_restore_31 hG ?_)
  rw [hm _ _ b5]
  refine s_takeAll (a := 47) (F := F) hG 6 (by decide +kernel) (by decide) (by decide) (by simp only [zset_ap, zrow_ap, Int.reduceEq, ↓reduceIte] <;> rfl) (by decide) (fun k => by simp only [zset_ap, zrow_ap, Int.reduceEq, ↓reduceIte]; exact hF k) (fun g3 hg3 => bX6_restore_50 hG ?_)
  refine s_takeAll (a := 53) (F := F) hG 6 (by decide +kernel) (by decide) (by decide) (by simp only [zset_ap, zrow_ap, Int.reduceEq, ↓reduceIte] <;> rfl) (by decide) (fun k => by simp only [zset_ap, zrow_ap, Int.reduceEq, ↓reduceIte]; exact hF k) (fun g4 hg4 => bX6_restore_58 hG (bX11_back_51 hG (bX0_restore_0 hG ?_)))
  refine s_take (a := 59) (v := F 59) hG (by simp only [zset_ap, zrow_ap, Int.reduceEq, ↓reduceIte] <;> rfl) (by decide) (by simp only [zset_ap, zrow_ap, Int.reduceEq, ↓reduceIte]; exact hF _) (bX0_restore_6 hG ?_)
  rw [hm _ _ b7]
  refine s_takeAll (a := 60) (F := F) hG 8 (by decide +kernel) (by decide) (by decide) (by simp only [zset_ap, zrow_ap, Int.reduceEq, ↓reduceIte] <;> rfl) (by decide) (fun k => by simp only [zset_ap, zrow_ap, Int.reduceEq, ↓reduceIte]; exact hF k) (fun g5 hg5 => bX0_restore_25 hG ?_)
  refine s_takeAll (a := 68) (F := F) hG 8 (by decide +kernel) (by decide) (by decide) (by simp only [zset_ap, zrow_ap, Int.reduceEq, ↓reduceIte] <;> rfl) (by decide) (fun k => by simp only [zset_ap, zrow_ap, Int.reduceEq, ↓reduceIte]; exact hF k) (fun g6 hg6 => bX0_restore_33 hG ?_)
  refine s_take (a := 76) (v := F 76) hG (by simp only [zset_ap, zrow_ap, Int.reduceEq, ↓reduceIte] <;> rfl) (by decide) (by simp only [zset_ap, zrow_ap, Int.reduceEq, ↓reduceIte]; exact hF _) (bX0_restore_39 hG ?_)
  rw [hm _ _ b8]
  refine s_takeAll (a := 77) (F := F) hG 12 (by decide +kernel) (by decide) (by decide) (by simp only [zset_ap, zrow_ap, Int.reduceEq, ↓reduceIte] <;> rfl) (by decide) (fun k => by simp only [zset_ap, zrow_ap, Int.reduceEq, ↓reduceIte]; exact hF k) (fun g7 hg7 => bX0_restore_58 hG ?_)
  refine s_takeAll (a := 89) (F := F) hG 12 (by decide +kernel) (by decide) (by decide) (by simp only [zset_ap, zrow_ap, Int.reduceEq, ↓reduceIte] <;> rfl) (by decide) (fun k => by simp only [zset_ap, zrow_ap, Int.reduceEq, ↓reduceIte]; exact hF k) (fun g8 hg8 => bX0_restore_66 hG (bX11_back_62 hG ?_))
  have ev : (zset (zset (zrow (zset (zrow (zset (zset (zset (zrow (zset (zrow (zset (zset (zset (zrow (zset (zrow (zset (zset (zset (zset (zset (zset (zset (zset (zset (zset (zset (zset (zrow (zset (zrow (zrow (zset (zrow (zset (zset (zset (zrow (zset (zset (zset M 184 1 0) 184 1 (0 + 1)) 1 3 (F 0)) 3 g1) 184 1 (1 + (4 : Nat))) 184 1 (5 + 1)) 2 4 (F 5)) 7 g2) 184 1 (6 + (36 : Nat))) 10 K) 8 T) 2 10 (M 2 10 + 1)) 9 U) 2 10 (M 2 10 + 1 + 1)) 184 1 (42 + 1)) 19 8 (F 42)) 184 1 (43 + 1)) 19 9 (F 43)) 19 13 (0)) 184 1 (44 + 1)) 157 5 (F 44)) 184 1 (45 + 1)) 157 6 (F 45)) 184 1 (46 + 1)) 157 9 (F 46)) 163 g3) 184 1 (47 + (6 : Nat))) 164 g4) 184 1 (53 + (6 : Nat))) 184 1 (59 + 1)) 176 2 (F 59)) 177 g5) 184 1 (60 + (8 : Nat))) 178 g6) 184 1 (68 + (8 : Nat))) 184 1 (76 + 1)) 176 7 (F 76)) 180 g7) 184 1 (77 + (12 : Nat))) 181 g8) 184 1 (89 + (12 : Nat))) 176 11 (0)) 157 9 = F 46 := by simp only [zset_ap, zrow_ap, Int.reduceEq, ↓reduceIte]
  rw [ev]
  refine h _ (zfr_set (zfr_set (zfr_row (zfr_set (zfr_row (zfr_set (zfr_set (zfr_set (zfr_row (zfr_set (zfr_row (zfr_set (zfr_set (zfr_set (zfr_row (zfr_set (zfr_row (zfr_set (zfr_set (zfr_set (zfr_set (zfr_set (zfr_set (zfr_set (zfr_set (zfr_set (zfr_set (zfr_set (zfr_set (zfr_row (zfr_set (zfr_row (zfr_row (zfr_set (zfr_row (zfr_set (zfr_set (zfr_set (zfr_row (zfr_set (zfr_set (zfr_set (zfr_rfl) (zhit_at 1 rfl ⟨by decide, by decide⟩)) (zhit_at 1 rfl ⟨by decide, by decide⟩)) (zhit_at 0 rfl ⟨by decide, by decide⟩)) 2 rfl) (zhit_at 1 rfl ⟨by decide, by decide⟩)) (zhit_at 1 rfl ⟨by decide, by decide⟩)) (zhit_at 3 rfl ⟨by decide, by decide⟩)) 4 rfl) (zhit_at 1 rfl ⟨by decide, by decide⟩)) 5 rfl) 6 rfl) (zhit_at 7 rfl ⟨by decide, by decide⟩)) 8 rfl) (zhit_at 7 rfl ⟨by decide, by decide⟩)) (zhit_at 1 rfl ⟨by decide, by decide⟩)) (zhit_at 9 rfl ⟨by decide, by decide⟩)) (zhit_at 1 rfl ⟨by decide, by decide⟩)) (zhit_at 9 rfl ⟨by decide, by decide⟩)) (zhit_at 10 rfl ⟨by decide, by decide⟩)) (zhit_at 1 rfl ⟨by decide, by decide⟩)) (zhit_at 11 rfl ⟨by decide, by decide⟩)) (zhit_at 1 rfl ⟨by decide, by decide⟩)) (zhit_at 11 rfl ⟨by decide, by decide⟩)) (zhit_at 1 rfl ⟨by decide, by decide⟩)) (zhit_at 12 rfl ⟨by decide, by decide⟩)) 13 rfl) (zhit_at 1 rfl ⟨by decide, by decide⟩)) 14 rfl) (zhit_at 1 rfl ⟨by decide, by decide⟩)) (zhit_at 1 rfl ⟨by decide, by decide⟩)) (zhit_at 15 rfl ⟨by decide, by decide⟩)) 16 rfl) (zhit_at 1 rfl ⟨by decide, by decide⟩)) 17 rfl) (zhit_at 1 rfl ⟨by decide, by decide⟩)) (zhit_at 1 rfl ⟨by decide, by decide⟩)) (zhit_at 18 rfl ⟨by decide, by decide⟩)) 19 rfl) (zhit_at 1 rfl ⟨by decide, by decide⟩)) 20 rfl) (zhit_at 1 rfl ⟨by decide, by decide⟩)) (zhit_at 21 rfl ⟨by decide, by decide⟩)) ?_
  exact ⟨by simp only [zset_ap, zrow_ap, Int.reduceEq, ↓reduceIte],
    fun k k0 k1 => by simp only [zset_ap, zrow_ap, Int.reduceEq, ↓reduceIte]; exact hg1 k k0 k1,
    by simp only [zset_ap, zrow_ap, Int.reduceEq, ↓reduceIte],
    fun k k0 k1 => by simp only [zset_ap, zrow_ap, Int.reduceEq, ↓reduceIte]; exact hg2 k k0 k1,
    by simp only [zset_ap, zrow_ap, Int.reduceEq, ↓reduceIte],
    by simp only [zset_ap, zrow_ap, Int.reduceEq, ↓reduceIte],
    by simp only [zset_ap, zrow_ap, Int.reduceEq, ↓reduceIte],
    by simp only [zset_ap, zrow_ap, Int.reduceEq, ↓reduceIte],
    by simp only [zset_ap, zrow_ap, Int.reduceEq, ↓reduceIte],
    by simp only [zset_ap, zrow_ap, Int.reduceEq, ↓reduceIte],
    fun k k0 k1 => by simp only [zset_ap, zrow_ap, Int.reduceEq, ↓reduceIte]; exact hg3 k k0 k1,
    fun k k0 k1 => by simp only [zset_ap, zrow_ap, Int.reduceEq, ↓reduceIte]; exact hg4 k k0 k1,
    by simp only [zset_ap, zrow_ap, Int.reduceEq, ↓reduceIte],
    fun k k0 k1 => by simp only [zset_ap, zrow_ap, Int.reduceEq, ↓reduceIte]; exact hg5 k k0 k1,
    fun k k0 k1 => by simp only [zset_ap, zrow_ap, Int.reduceEq, ↓reduceIte]; exact hg6 k k0 k1,
    by simp only [zset_ap, zrow_ap, Int.reduceEq, ↓reduceIte],
    fun k k0 k1 => by simp only [zset_ap, zrow_ap, Int.reduceEq, ↓reduceIte]; exact hg7 k k0 k1,
    fun k k0 k1 => by simp only [zset_ap, zrow_ap, Int.reduceEq, ↓reduceIte]; exact hg8 k k0 k1,
    by simp only [zset_ap, zrow_ap, Int.reduceEq, ↓reduceIte],
    by simp only [zset_ap, zrow_ap, Int.reduceEq, ↓reduceIte] <;> omega,
    by rw [show (zset (zset (zrow (zset (zrow (zset (zset (zset (zrow (zset (zrow (zset (zset (zset (zrow (zset (zrow (zset (zset (zset (zset (zset (zset (zset (zset (zset (zset (zset (zset (zrow (zset (zrow (zrow (zset (zrow (zset (zset (zset (zrow (zset (zset (zset M 184 1 0) 184 1 (0 + 1)) 1 3 (F 0)) 3 g1) 184 1 (1 + (4 : Nat))) 184 1 (5 + 1)) 2 4 (F 5)) 7 g2) 184 1 (6 + (36 : Nat))) 10 K) 8 T) 2 10 (M 2 10 + 1)) 9 U) 2 10 (M 2 10 + 1 + 1)) 184 1 (42 + 1)) 19 8 (F 42)) 184 1 (43 + 1)) 19 9 (F 43)) 19 13 (0)) 184 1 (44 + 1)) 157 5 (F 44)) 184 1 (45 + 1)) 157 6 (F 45)) 184 1 (46 + 1)) 157 9 (F 46)) 163 g3) 184 1 (47 + (6 : Nat))) 164 g4) 184 1 (53 + (6 : Nat))) 184 1 (59 + 1)) 176 2 (F 59)) 177 g5) 184 1 (60 + (8 : Nat))) 178 g6) 184 1 (68 + (8 : Nat))) 184 1 (76 + 1)) 176 7 (F 76)) 180 g7) 184 1 (77 + (12 : Nat))) 181 g8) 184 1 (89 + (12 : Nat))) 176 11 (0)) 8 = T by funext i; simp only [zset_ap, zrow_ap, Int.reduceEq, ↓reduceIte]]; exact hT,
    fun p p0 p1 => by simp only [zset_ap, zrow_ap, Int.reduceEq, ↓reduceIte]; exact hK p p0 p1,
    by rw [show (zset (zset (zrow (zset (zrow (zset (zset (zset (zrow (zset (zrow (zset (zset (zset (zrow (zset (zrow (zset (zset (zset (zset (zset (zset (zset (zset (zset (zset (zset (zset (zrow (zset (zrow (zrow (zset (zrow (zset (zset (zset (zrow (zset (zset (zset M 184 1 0) 184 1 (0 + 1)) 1 3 (F 0)) 3 g1) 184 1 (1 + (4 : Nat))) 184 1 (5 + 1)) 2 4 (F 5)) 7 g2) 184 1 (6 + (36 : Nat))) 10 K) 8 T) 2 10 (M 2 10 + 1)) 9 U) 2 10 (M 2 10 + 1 + 1)) 184 1 (42 + 1)) 19 8 (F 42)) 184 1 (43 + 1)) 19 9 (F 43)) 19 13 (0)) 184 1 (44 + 1)) 157 5 (F 44)) 184 1 (45 + 1)) 157 6 (F 45)) 184 1 (46 + 1)) 157 9 (F 46)) 163 g3) 184 1 (47 + (6 : Nat))) 164 g4) 184 1 (53 + (6 : Nat))) 184 1 (59 + 1)) 176 2 (F 59)) 177 g5) 184 1 (60 + (8 : Nat))) 178 g6) 184 1 (68 + (8 : Nat))) 184 1 (76 + 1)) 176 7 (F 76)) 180 g7) 184 1 (77 + (12 : Nat))) 181 g8) 184 1 (89 + (12 : Nat))) 176 11 (0)) 9 = U by funext i; simp only [zset_ap, zrow_ap, Int.reduceEq, ↓reduceIte]]; exact hU⟩

theorem J_back {M M2 : zM} (hJ : zJ M) (hf : zfr [(1, 3, 4), (184, 1, 2), (3, 0, 1000000), (2, 4, 5), (7, 0, 1000000), (10, 0, 1000000), (8, 0, 1000000), (2, 10, 11), (9, 0, 1000000), (19, 8, 10), (19, 13, 14), (157, 5, 7), (157, 9, 10), (163, 0, 1000000), (164, 0, 1000000), (176, 2, 3), (177, 0, 1000000), (178, 0, 1000000), (176, 7, 8), (180, 0, 1000000), (181, 0, 1000000), (176, 11, 12), (235, 0, 1000000)] M M2) (g : ∀ i, 0 ≤ i → i < 156 → M2 235 i = M 236 i) (hb : zbf (M 236) (M 185) M M2) : zJn M M2 := by
  have e := g
  obtain ⟨f0, f1, f2, f3, f4, f5, f6, f7, f8, f9, f10, f11, f12, f13, f14, f15, f16, f17, f18, f19, f20, f21, f22⟩ := hb
  have hI := hJ.2.1
  have hV := hJ.1
  obtain ⟨g0, g1, g2, g3, g4, g5, g6, g7, g8, g9, g10, g11, g12, g13⟩ := hJ.2.2.2.2.2.2.2.2.2.2.2.2.2.2.2.2.2.1
  obtain ⟨k1, k2, k3⟩ := hJ.2.2.2.2.2.2.2.2.2.2.2.2.2.2.2.2.2.2.1
  have k2' : ∀ i, 14 ≤ i → i < 14 + 3 * M 236 1 → M 235 i = M 236 i := fun i i0 i1 => by have := k2 (i - 14) (by omega) (by omega); rw [show 14 + (i - 14) = i by omega] at this; exact this.symm
  have k3' : ∀ i, 74 ≤ i → i < 74 + 5 * M 236 2 → M 235 i = M 236 i := fun i i0 i1 => by have := k3 (i - 74) (by omega) (by omega); rw [show 74 + (i - 74) = i by omega] at this; exact this.symm
  have n1 := hI.2.1.1
  have n2 := hI.2.2.1.1
  have hj1 : zJ1 M2 := fun t t0 t1 => by rw [f1 t t0 t1, e _ (by omega) (by omega)]; exact g1 t t0 t1
  have hj3 : zJ3 M2 := fun t t0 t1 => by rw [f3 t t0 t1, e _ (by omega) (by omega)]; exact g3 t t0 t1
  have hj7 : zJ7 M2 := by unfold zJ7; rw [f0, e 6 (by decide) (by decide)]; exact g0
  have hj9 : zJ9 M2 := by unfold zJ9; rw [f5, e 4 (by decide) (by decide)]; exact g5
  have hj12 : zJ12 M2 := by unfold zJ12; rw [f8, e 3 (by decide) (by decide)]; exact g7
  have hj2 : zJ2 M2 := by
    have o := (hJ.2.2.2.1).2
    unfold zJ2
    rw [f2, e 1 (by decide) (by decide)]
    refine ⟨g2, fun i i0 i1 => ?_⟩
    have w := zfr_sm (S := [(4, 0, 8), (5, 0, 8), (6, 0, 8)]) hf (by decide)
    rw [w 4 i (zhit_at 0 rfl ⟨i0, by omega⟩), w 5 i (zhit_at 1 rfl ⟨i0, by omega⟩), w 6 i (zhit_at 2 rfl ⟨i0, by omega⟩), e _ (by omega) (by omega), e _ (by omega) (by omega), e _ (by omega) (by omega)]
    have q := o i i0 (by omega)
    rw [q.1, q.2.1, q.2.2, k2' (14 + 3 * i) (by omega) (by omega), k2' (15 + 3 * i) (by omega) (by omega), k2' (16 + 3 * i) (by omega) (by omega)]
    exact ⟨rfl, rfl, rfl⟩
  have hj8 : zJ8 M2 := by
    have o := (hJ.2.2.2.2.2.2.2.2.2.2.1).2
    have n0 := hI.1
    unfold zJ8
    rw [f4, e 0 (by decide) (by decide)]
    refine ⟨g4, fun i i0 i1 => ?_⟩
    have w := zfr_sm (S := [(23, 0, 12), (24, 0, 12), (25, 0, 12), (26, 0, 12), (248, 0, 48)]) hf (by decide)
    have n0' : M 236 0 ≤ 12 := n0.2
    rw [w 23 i (zhit_at 0 rfl ⟨i0, by omega⟩), w 24 i (zhit_at 1 rfl ⟨i0, by omega⟩), w 25 i (zhit_at 2 rfl ⟨i0, by omega⟩), w 26 i (zhit_at 3 rfl ⟨i0, by omega⟩), w 248 (4 * i) (zhit_at 4 rfl ⟨by omega, by omega⟩), w 248 (4 * i + 1) (zhit_at 4 rfl ⟨by omega, by omega⟩), w 248 (4 * i + 2) (zhit_at 4 rfl ⟨by omega, by omega⟩), w 248 (4 * i + 3) (zhit_at 4 rfl ⟨by omega, by omega⟩)]
    exact o i i0 (by omega)
  have hj11 : zJ11 M2 := by
    have o := (hJ.2.2.2.2.2.2.2.2.2.2.2.2.1).2
    unfold zJ11
    rw [f7, e 2 (by decide) (by decide)]
    refine ⟨g6, fun i i0 i1 => ?_⟩
    have w := zfr_sm (S := [(158, 0, 6), (159, 0, 6), (160, 0, 6), (161, 0, 6), (162, 0, 6)]) hf (by decide)
    rw [w 158 i (zhit_at 0 rfl ⟨i0, by omega⟩), w 159 i (zhit_at 1 rfl ⟨i0, by omega⟩), w 160 i (zhit_at 2 rfl ⟨i0, by omega⟩), w 161 i (zhit_at 3 rfl ⟨i0, by omega⟩), w 162 i (zhit_at 4 rfl ⟨i0, by omega⟩), e _ (by omega) (by omega), e _ (by omega) (by omega), e _ (by omega) (by omega), e _ (by omega) (by omega), e _ (by omega) (by omega)]
    have q := o i i0 (by omega)
    rw [q.1, q.2.1, q.2.2.1, q.2.2.2.1, q.2.2.2.2, k3' (74 + 5 * i) (by omega) (by omega), k3' (75 + 5 * i) (by omega) (by omega), k3' (76 + 5 * i) (by omega) (by omega), k3' (77 + 5 * i) (by omega) (by omega), k3' (78 + 5 * i) (by omega) (by omega)]
    exact ⟨rfl, rfl, rfl, rfl, rfl⟩
  have b5 := zA5 hI
  have b7 := zA7 hI
  have b8 := zA8 hI
  have hj13 : zJ13 M2 := by
    unfold zJ13
    rw [f9, e 5 (by decide) (by decide)]
    refine ⟨g8, fun i i0 i1 => ?_⟩
    rw [f10 i i0 (by omega), f11 i i0 (by omega), e _ (by omega) (by omega), e _ (by omega) (by omega)]
    exact g9 i i0 i1
  have hj14 : zJ14 M2 := by
    unfold zJ14
    rw [f12, e 7 (by decide) (by decide)]
    refine ⟨g10, fun i i0 i1 => ?_⟩
    rw [f13 i i0 (by omega), f14 i i0 (by omega), e _ (by omega) (by omega), e _ (by omega) (by omega)]
    exact g11 i i0 i1
  have hj15 : zJ15 M2 := by
    unfold zJ15
    rw [f15, e 8 (by decide) (by decide)]
    refine ⟨g12, fun i i0 i1 => ?_⟩
    rw [f16 i i0 (by omega), f17 i i0 (by omega), e _ (by omega) (by omega), e _ (by omega) (by omega)]
    exact g13 i i0 i1
  have hj4 : zJ4 M2 := by
    unfold zJ4
    rw [e 1 (by decide) (by decide), ← g2]
    rw [← g2] at n1
    refine ⟨fun x y x0 x1 y0 y1 => ?_, fun p p0 p1 => ?_⟩
    · rw [zE_B (Or.inr rfl) n1.2 (zk0_E n1.2 (fun i i0 i1 => e i (by omega) (by omega))) x y x0 x1 y0 y1]
      exact ((f20 x y x0 (by omega) y0 (by omega)).1 x1 y1).1
    · rw [zch_e p _ (by omega) (fun i i0 i1 => e i (by omega) (by omega))]
      exact f21 p p0 p1
  have hj10 : zJ10 M2 := fun x y x0 x1 y0 y1 => by
    rw [zE_B (Or.inl rfl) (by decide) (zw0_E (fun i i0 i1 => e i (by omega) (by omega))) x y x0 x1 y0 y1]
    exact ((f22 x y x0 x1 y0 y1).1 x1 y1).1
  have ei : ∀ i, 0 ≤ i → i < 156 → M2 236 i = M 236 i := fun i i0 i1 => zfr_sm (S := [(236, 0, 156)]) hf (by decide) 236 i (zhit_at 0 rfl ⟨i0, i1⟩)
  have hj16 : zJ16 M2 := fun q q0 q1 => by
    have n0 : M 236 0 ≤ 12 := hI.1.2
    rw [e 0 (by decide) (by decide)] at q1
    have jq := hJ.2.2.2.2.2.2.2.2.2.2.2.2.2.2.2.2.2.2.2.1 q q0 (by omega)
    have w := zfr_sm (S := zS16.filter (fun t => t.1 != 235)) hf (by decide)
    obtain ⟨t, t0, t1, t2, t3⟩ := jq.1
    have n := zJ16_m (zfr_sm hf (by decide)) ⟨t0, t2⟩
    rw [← t3] at n
    refine zQq_e ⟨q0, by omega⟩ (w 20 q (zhit_at 0 rfl ⟨q0, by omega⟩)) (w 21 q (zhit_at 1 rfl ⟨q0, by omega⟩)) (w 22 q (zhit_at 2 rfl ⟨q0, by omega⟩)) (w 246 q (zhit_at 3 rfl ⟨q0, by omega⟩)) (fun i i0 i1 => w 247 _ (zhit_at 4 rfl ⟨by omega, by omega⟩)) n.1 n.2 (fun t' a b => ?_) jq
    have := hJ.2.2.2.2.2.2.2.2.2.2.2.2.2.2.2.2.2.2.2.2.1 q q0 q1
    rw [e 6 (by decide) (by decide)]; omega
  have hj19 : zJ19 M2 := by
    unfold zJ19
    rw [ei 0 (by decide) (by decide), ei 1 (by decide) (by decide), ei 2 (by decide) (by decide), ei 6 (by decide) (by decide), e 0 (by decide) (by decide), e 1 (by decide) (by decide), e 2 (by decide) (by decide), e 6 (by decide) (by decide)]
    exact ⟨by omega, fun k h1 h2 => by rw [ei _ (by omega) (by omega), e _ (by omega) (by omega)], fun k h1 h2 => by rw [ei _ (by omega) (by omega), e _ (by omega) (by omega)]⟩
  exact ⟨⟨zVA_ext hJ.2.1 (fun i hi => e i (by omega) (by omega)), zsI_c (zfr_sm hf (by decide)) hJ.2.1, hj1, hj2, hj3, hj4, hj10, zJ5_c (zfr_sm hf (by decide)) hJ.2.2.2.2.2.2.2.1, zJ6_c (zfr_sm hf (by decide)) hJ.2.2.2.2.2.2.2.2.1, hj7, hj8, hj9, hj11, hj12, hj13, hj14, hj15, zJ18_c (zfr_sm hf (by decide)) ⟨zA5 hJ.2.1, zA7 hJ.2.1, zA8 hJ.2.1⟩ hJ.2.2.2.2.2.2.2.2.2.2.2.2.2.2.2.2.2.1, hj19, hj16, zJ17_c (zfr_sm hf (by decide)) hJ.2.1.1.2 hJ.2.2.2.2.2.2.2.2.2.2.2.2.2.2.2.2.2.2.2.2.1, ⟨by rw [f19, hf 176 12 (by unfold zhw zhit; decide)]; have := hJ.2.2.2.2.2.2.2.2.2.2.2.2.2.2.2.2.2.2.2.2.2.1.1; omega, Or.inl f18⟩, ⟨by rw [f6, e 0 (by decide) (by decide)]; exact ⟨by decide, hJ.2.1.1.1⟩, fun i i0 i1 => absurd i1 (by rw [f6]; omega)⟩, (by rw [f19]; have := hJ.2.2.2.2.2.2.2.2.2.2.2.2.2.2.2.2.2.2.2.2.2.2.2.1; omega), ⟨zJT_c (zfr_sm hf (by decide)) (hJ.2.2.2.2.2.2.2.2.2.2.2.2.2.2.2.2.2.2.2.2.2.2.2.2).1, zJX_c (zfr_sm hf (by decide)) (by rw [e 6 (by decide) (by decide)]; exact k1.2.2.2) (hJ.2.2.2.2.2.2.2.2.2.2.2.2.2.2.2.2.2.2.2.2.2.2.2.2).2⟩⟩, by rw [f19]; omega⟩

theorem pr_back (hG : zP G) (hJ : zJ M) (hv : M 2 10 ≤ 1000000) : zPr G d mX11_back mX12_back [(2, 1)] [(2, 234)] M := by
  obtain ⟨g0, g1, g2, g3, g4, g5, g6, g7, g8, g9, g10, g11, g12, g13⟩ := id hJ.2.2.2.2.2.2.2.2.2.2.2.2.2.2.2.2.2.1
  obtain ⟨k1, k2, k3⟩ := id hJ.2.2.2.2.2.2.2.2.2.2.2.2.2.2.2.2.2.2.1
  have o := (hJ.2.2.2.1).2
  have hv0 := hJ.2.2.2.2.2.2.2.2.2.2.2.2.2.2.2.2.2.2.2.2.2.2.2.1
  have hI := hJ.2.1
  have n0 := hI.1
  have n1 := hI.2.1.1
  have n2 := hI.2.2.1.1
  have n5 := hI.2.2.2.2.2.1.1
  have n7 := hI.2.2.2.2.2.2.2.1.1
  have n8 := hI.2.2.2.2.2.2.2.2.1.1
  refine s_cback (A := M 236) (F := M 185) hG (fun _ => rfl) (by omega) (by rw [g4]; exact n0) (by omega) (by omega) (by omega) (by omega) ⟨by omega, by omega⟩ (fun c c0 c1 => ?_) (fun k k0 k1' => ?_) (fun M1 hf hb => ?_)
  · rw [g2] at c1
    have q := o c c0 (by omega)
    have w := hI.2.1.2 c c0 c1
    have e1 := k2 (1 + 3 * c) (by omega) (by omega)
    have e2 := k2 (2 + 3 * c) (by omega) (by omega)
    rw [show 14 + (1 + 3 * c) = 15 + 3 * c by omega] at e1
    rw [show 14 + (2 + 3 * c) = 16 + 3 * c by omega] at e2
    rw [q.2.1, q.2.2, e1, e2]
    rw [e1, e2] at w
    exact ⟨rfl, rfl, w.2.2.2⟩
  · exact ⟨g3 k k0 k1', hI.2.2.2.2.2.2.2.2.2.2 k k0 k1'⟩
  · have e36 : ∀ i, 0 ≤ i → i < 156 → M1 236 i = M 236 i := fun i i0 i1 => zfr_sm (S := [(236, 0, 156)]) hf (by decide) 236 i (zhit_at 0 rfl ⟨i0, i1⟩)
    refine bX12_back_0 hG (s_copy hG (n0 := 156) (n1 := 156) (by decide +kernel) (by decide +kernel) (by decide) (by decide) (fun g hg => ?_))
    refine bX12_back_11 hG ⟨?_, J_back hJ (zfr_row (zfr_sub hf (by intro t ht; exact List.mem_append_left [(235, 0, 1000000)] ht)) 22 rfl) (fun i i0 i1 => ?_) ?_⟩
    · rw [zrow_at, hg 5 (by decide) (by decide), e36 5 (by decide) (by decide), g8]
    · rw [zrow_at, hg i i0 i1, e36 i i0 i1]
    · unfold zbf at hb ⊢
      rw [zrow_off (show (8 : Int) ≠ 235 by decide), zrow_off (show (9 : Int) ≠ 235 by decide)]
      simp only [zrow_ap, Int.reduceEq, ↓reduceIte]
      exact hb

end PI

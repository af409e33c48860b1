section YN
variable {G : zG} {d : Nat} {M : zM} {Q : zV → zM → Prop}
def zSS : List (Int × Int × Int) := [(19, 13, 14), (29, 0, 12), (30, 0, 12), (235, 4, 5), (235, 0, 1), (246, 0, 12), (247, 0, 2880), (49, 8, 9), (50, 0, 300), (51, 0, 300), (52, 0, 300), (53, 0, 300), (54, 0, 300), (56, 0, 300), (58, 8, 9), (59, 0, 300), (60, 0, 300), (61, 0, 300), (62, 0, 300), (63, 0, 300), (65, 0, 300), (67, 8, 9), (68, 0, 300), (69, 0, 300), (70, 0, 300), (71, 0, 300), (72, 0, 300), (74, 0, 300), (76, 8, 9), (77, 0, 300), (78, 0, 300), (79, 0, 300), (80, 0, 300), (81, 0, 300), (83, 0, 300), (85, 8, 9), (86, 0, 300), (87, 0, 300), (88, 0, 300), (89, 0, 300), (90, 0, 300), (92, 0, 300), (94, 8, 9), (95, 0, 300), (96, 0, 300), (97, 0, 300), (98, 0, 300), (99, 0, 300), (101, 0, 300), (103, 8, 9), (104, 0, 300), (105, 0, 300), (106, 0, 300), (107, 0, 300), (108, 0, 300), (110, 0, 300), (112, 8, 9), (113, 0, 300), (114, 0, 300), (115, 0, 300), (116, 0, 300), (117, 0, 300), (119, 0, 300), (121, 8, 9), (122, 0, 300), (123, 0, 300), (124, 0, 300), (125, 0, 300), (126, 0, 300), (128, 0, 300), (130, 8, 9), (131, 0, 300), (132, 0, 300), (133, 0, 300), (134, 0, 300), (135, 0, 300), (137, 0, 300), (139, 8, 9), (140, 0, 300), (141, 0, 300), (142, 0, 300), (143, 0, 300), (144, 0, 300), (146, 0, 300), (148, 8, 9), (149, 0, 300), (150, 0, 300), (151, 0, 300), (152, 0, 300), (153, 0, 300), (155, 0, 300)]
theorem zSS_n {M' : zM} (h : zsm zSS M M') {i : Int} (hi : 0 ≤ i ∧ i < 12) : M' (49 + 9 * i) 8 = M (49 + 9 * i) 8 ∧ ∀ x, 0 ≤ x → x < 300 → M' (49 + 9 * i + 1) x = M (49 + 9 * i + 1) x ∧ M' (49 + 9 * i + 2) x = M (49 + 9 * i + 2) x ∧ M' (49 + 9 * i + 3) x = M (49 + 9 * i + 3) x ∧ M' (49 + 9 * i + 4) x = M (49 + 9 * i + 4) x ∧ M' (49 + 9 * i + 5) x = M (49 + 9 * i + 5) x ∧ M' (49 + 9 * i + 7) x = M (49 + 9 * i + 7) x := by
  have hc : i = 0 ∨ i = 1 ∨ i = 2 ∨ i = 3 ∨ i = 4 ∨ i = 5 ∨ i = 6 ∨ i = 7 ∨ i = 8 ∨ i = 9 ∨ i = 10 ∨ i = 11 := by omega
  rcases hc with rfl | rfl | rfl | rfl | rfl | rfl | rfl | rfl | rfl | rfl | rfl | rfl
  · exact ⟨h _ _ (zhit_at 7 rfl ⟨by decide, by decide⟩), fun x x0 x1 => ⟨h _ _ (zhit_at 8 rfl ⟨x0, x1⟩), h _ _ (zhit_at 9 rfl ⟨x0, x1⟩), h _ _ (zhit_at 10 rfl ⟨x0, x1⟩), h _ _ (zhit_at 11 rfl ⟨x0, x1⟩), h _ _ (zhit_at 12 rfl ⟨x0, x1⟩), h _ _ (zhit_at 13 rfl ⟨x0, x1⟩)⟩⟩
  · exact ⟨h _ _ (zhit_at 14 rfl ⟨by decide, by decide⟩), fun x x0 x1 => ⟨h _ _ (zhit_at 15 rfl ⟨x0, x1⟩), h _ _ (zhit_at 16 rfl ⟨x0, x1⟩), h _ _ (zhit_at 17 rfl ⟨x0, x1⟩), h _ _ (zhit_at 18 rfl ⟨x0, x1⟩), h _ _ (zhit_at 19 rfl ⟨x0, x1⟩), h _ _ (zhit_at 20 rfl ⟨x0, x1⟩)⟩⟩
  · exact ⟨h _ _ (zhit_at 21 rfl ⟨by decide, by decide⟩), fun x x0 x1 => ⟨h _ _ (zhit_at 22 rfl ⟨x0, x1⟩), h _ _ (zhit_at 23 rfl ⟨x0, x1⟩), h _ _ (zhit_at 24 rfl ⟨x0, x1⟩), h _ _ (zhit_at 25 rfl ⟨x0, x1⟩), h _ _ (zhit_at 26 rfl ⟨x0, x1⟩), h _ _ (zhit_at 27 rfl ⟨x0, x1⟩)⟩⟩
  · exact ⟨h _ _ (zhit_at 28 rfl ⟨by decide, by decide⟩), fun x x0 x1 => ⟨h _ _ (zhit_at 29 rfl ⟨x0, x1⟩), h _ _ (zhit_at 30 rfl ⟨x0, x1⟩), h _ _ (zhit_at 31 rfl ⟨x0, x1⟩), h _ _ (zhit_at 32 rfl ⟨x0, x1⟩), h _ _ (zhit_at 33 rfl ⟨x0, x1⟩), h _ _ (zhit_at 34 rfl ⟨x0, x1⟩)⟩⟩
  · exact ⟨h _ _ (zhit_at 35 rfl ⟨by decide, by decide⟩), fun x x0 x1 => ⟨h _ _ (zhit_at 36 rfl ⟨x0, x1⟩), h _ _ (zhit_at 37 rfl ⟨x0, x1⟩), h _ _ (zhit_at 38 rfl ⟨x0, x1⟩), h _ _ (zhit_at 39 rfl ⟨x0, x1⟩), h _ _ (zhit_at 40 rfl ⟨x0, x1⟩), h _ _ (zhit_at 41 rfl ⟨x0, x1⟩)⟩⟩
  · exact ⟨h _ _ (zhit_at 42 rfl ⟨by decide, by decide⟩), fun x x0 x1 => ⟨h _ _ (zhit_at 43 rfl ⟨x0, x1⟩), h _ _ (zhit_at 44 rfl ⟨x0, x1⟩), h _ _ (zhit_at 45 rfl ⟨x0, x1⟩), h _ _ (zhit_at 46 rfl ⟨x0, x1⟩), h _ _ (zhit_at 47 rfl ⟨x0, x1⟩), h _ _ (zhit_at 48 rfl ⟨x0, x1⟩)⟩⟩
  · exact ⟨h _ _ (zhit_at 49 rfl ⟨by decide, by decide⟩), fun x x0 x1 => ⟨h _ _ (zhit_at 50 rfl ⟨x0, x1⟩), h _ _ (zhit_at 51 rfl ⟨x0, x1⟩), h _ _ (zhit_at 52 rfl ⟨x0, x1⟩), h _ _ (zhit_at 53 rfl ⟨x0, x1⟩), h _ _ (zhit_at 54 rfl ⟨x0, x1⟩), h _ _ (zhit_at 55 rfl ⟨x0, x1⟩)⟩⟩
  · exact ⟨h _ _ (zhit_at 56 rfl ⟨by decide, by decide⟩), fun x x0 x1 => ⟨h _ _ (zhit_at 57 rfl ⟨x0, x1⟩), h _ _ (zhit_at 58 rfl ⟨x0, x1⟩), h _ _ (zhit_at 59 rfl ⟨x0, x1⟩), h _ _ (zhit_at 60 rfl ⟨x0, x1⟩), h _ _ (zhit_at 61 rfl ⟨x0, x1⟩), h _ _ (zhit_at 62 rfl ⟨x0, x1⟩)⟩⟩
  · exact ⟨h _ _ (zhit_at 63 rfl ⟨by decide, by decide⟩), fun x x0 x1 => ⟨h _ _ (zhit_at 64 rfl ⟨x0, x1⟩), h _ _ (zhit_at 65 rfl ⟨x0, x1⟩), h _ _ (zhit_at 66 rfl ⟨x0, x1⟩), h _ _ (zhit_at 67 rfl ⟨x0, x1⟩), h _ _ (zhit_at 68 rfl ⟨x0, x1⟩), h _ _ (zhit_at 69 rfl ⟨x0, x1⟩)⟩⟩
  · exact ⟨h _ _ (zhit_at 70 rfl ⟨by decide, by decide⟩), fun x x0 x1 => ⟨h _ _ (zhit_at 71 rfl ⟨x0, x1⟩), h _ _ (zhit_at 72 rfl ⟨x0, x1⟩), h _ _ (zhit_at 73 rfl ⟨x0, x1⟩), h _ _ (zhit_at 74 rfl ⟨x0, x1⟩), h _ _ (zhit_at 75 rfl ⟨x0, x1⟩), h _ _ (zhit_at 76 rfl ⟨x0, x1⟩)⟩⟩
  · exact ⟨h _ _ (zhit_at 77 rfl ⟨by decide, by decide⟩), fun x x0 x1 => ⟨h _ _ (zhit_at 78 rfl ⟨x0, x1⟩), h _ _ (zhit_at 79 rfl ⟨x0, x1⟩), h _ _ (zhit_at 80 rfl ⟨x0, x1⟩), h _ _ (zhit_at 81 rfl ⟨x0, x1⟩), h _ _ (zhit_at 82 rfl ⟨x0, x1⟩), h _ _ (zhit_at 83 rfl ⟨x0, x1⟩)⟩⟩
  · exact ⟨h _ _ (zhit_at 84 rfl ⟨by decide, by decide⟩), fun x x0 x1 => ⟨h _ _ (zhit_at 85 rfl ⟨x0, x1⟩), h _ _ (zhit_at 86 rfl ⟨x0, x1⟩), h _ _ (zhit_at 87 rfl ⟨x0, x1⟩), h _ _ (zhit_at 88 rfl ⟨x0, x1⟩), h _ _ (zhit_at 89 rfl ⟨x0, x1⟩), h _ _ (zhit_at 90 rfl ⟨x0, x1⟩)⟩⟩

theorem zJS_c {M' : zM} (h : zsm zSS M M') (n12 : M 235 0 ≤ 12) (j16 : zJ16 M) (j : zJS M M) : zJS M' M' := by
  have e13 : M' 19 13 = M 19 13 := h _ _ (zhit_at 0 rfl ⟨by decide, by decide⟩)
  have e0 : M' 235 0 = M 235 0 := h _ _ (zhit_at 4 rfl ⟨by decide, by decide⟩)
  have e4 : M' 235 4 = M 235 4 := h _ _ (zhit_at 3 rfl ⟨by decide, by decide⟩)
  have fq : ∀ q, 0 ≤ q → q < M 235 0 → zqf M' (M' 235 4) q = zqf M (M 235 4) q := fun q q0 q1 => by
    rw [e4]
    exact zqf_e (by have := (j16 q q0 q1).2.1; omega) (h _ _ (zhit_at 5 rfl ⟨q0, by omega⟩)) (fun x x0 x1 => h _ _ (zhit_at 6 rfl ⟨by omega, by omega⟩))
  have j1 := j.1
  refine ⟨by rw [e13, e0]; exact j1, fun i i0 i1 => ?_⟩
  rw [e13] at i1
  obtain ⟨a1, a2⟩ := j.2 i i0 i1
  obtain ⟨n8, nr⟩ := zSS_n h (i := i) ⟨i0, by omega⟩
  have e30 : ∀ x, 0 ≤ x → x < 12 → M' 30 x = M 30 x := fun x x0 x1 => h _ _ (zhit_at 2 rfl ⟨x0, x1⟩)
  refine ⟨⟨by rw [n8]; exact a1.1, ?_⟩, ?_⟩
  · rw [fq i i0 (by omega), n8, h 29 i (zhit_at 1 rfl ⟨i0, by omega⟩)]
    have b1 := a1.1
    have x0 := (show 0 ≤ M 29 i ∧ M 29 i < M (49 + 9 * i) 8 from a1.2.1)
    exact zqE_c 40 _ _ _ (fun y y0 y1 => by obtain ⟨r1, r2, r3, r4, r5, r7⟩ := nr y (by omega) (by omega); exact ⟨r1, r2, r4, r5⟩) (fun y y0 y1 => by obtain ⟨r1, r2, r3, r4, r5, r7⟩ := nr y (by omega) (by omega); exact ⟨r3, r7⟩) a1.2
  · unfold zlw at *
    rw [e30 i i0 (by omega), fq i i0 (by omega), fq _ a2.1.1 (by omega)]
    exact ⟨a2.1, a2.2.1, fun s s0 s1 => by rw [fq s s0 (by omega)]; exact a2.2.2 s s0 s1⟩
/-- what all come to -/
theorem s_workAll (hG : zP G) {P : zM} (hs : zcq P M) (n12 : 0 ≤ P 235 0 ∧ P 235 0 ≤ 12) (h8 : M 19 8 = P 235 0) (hQ : ∀ q, 0 ≤ q → q < P 235 0 → zQq P q) (hE : zCE M (P 235)) (hA : zVA (P 235)) (ht : ∀ t, 0 ≤ t → t < 4 → 0 ≤ M 3 t ∧ M 3 t ≤ 99) (h : ∀ R W, (∀ q, 0 ≤ q → q < P 235 0 → W q = zaM P (M 3) q) → Q (9, 0) (zrow (zrow M 27 W) 11 R)) : Y G (d + 5) mX3_workAll 0 [(2, 19), (2, 2), (9, 0)] [] M Q := by
  have lp : ∀ (r : Nat) (i : Int) (R W : Int → Int), 0 ≤ i → i + r = P 235 0 → (∀ q, 0 ≤ q → q < i → W q = zaM P (M 3) q) → Y G (d + 5) mX3_workAll 2 [(2, 19), (2, 2), (0, i)] [] (zrow (zrow M 27 W) 11 R) Q := fun r => by
    induction r with
    | zero =>
      intro i R W i0 hi hW
      refine bX3_workAll_2 hG ⟨fun _ => h R W (fun q q0 q1 => hW q q0 (by omega)), fun c => absurd c ?_⟩
      rw [zrow_off (show (19 : Int) ≠ 11 by decide), zrow_off (show (19 : Int) ≠ 27 by decide), h8]; omega
    | succ r ih =>
      intro i R W i0 hi hW
      refine bX3_workAll_2 hG ?_
      rw [zrow_off (show (19 : Int) ≠ 11 by decide), zrow_off (show (19 : Int) ≠ 27 by decide), h8]
      refine ⟨fun c => absurd c (by omega), fun _ => ?_⟩
      have e3 : zrow (zrow M 27 W) 11 R 3 = M 3 := by rw [zrow_off (by decide), zrow_off (by decide)]
      have hE' : zCE (zrow (zrow M 27 W) 11 R) (P 235) := by
        refine zCE_row ?_
        unfold zCE at *
        rw [zrow_off (show (2 : Int) ≠ 27 by decide), zrow_off (show (4 : Int) ≠ 27 by decide), zrow_off (show (10 : Int) ≠ 27 by decide), zrow_off (show (8 : Int) ≠ 27 by decide), zrow_off (show (9 : Int) ≠ 27 by decide)]
        exact hE
      have qi := hQ i i0 (by omega)
      -- the ghost with these rows
      have pe : ∀ a x, a ≠ 11 → a ≠ 27 → (zrow (zrow P 27 W) 11 R) a x = P a x := fun a x c1 c2 => by rw [zrow_off c1, zrow_off c2]
      obtain ⟨⟨t, t0, t1, t2, t3⟩, -⟩ := id qi
      have qi' : zQq (zrow (zrow P 27 W) 11 R) i := zQq_e (M := P) ⟨i0, by omega⟩ (pe _ _ (by decide) (by decide)) (pe _ _ (by decide) (by decide)) (pe _ _ (by decide) (by decide)) (pe _ _ (by decide) (by decide)) (fun x x0 x1 => pe _ _ (by decide) (by decide)) (pe _ _ (by omega) (by omega)) (fun x y hx _ y0 y1 => pe _ _ (by omega) (by omega)) (fun t' a b => by rw [pe 235 6 (by decide) (by decide)]; exact a) qi
      have e235 : zrow (zrow P 27 W) 11 R 235 = P 235 := by rw [zrow_off (by decide), zrow_off (by decide)]
      refine s_cans hG (zcq_row (zcq_row hs (by decide)) (by decide)) ⟨i0, by omega⟩ qi' (by rw [e235]; exact hE') (by rw [e235]; exact hA) rfl (by decide) (fun t t0 t1 => by rw [e3]; exact ht t t0 t1) (fun R2 => bX3_workAll_25 hG ⟨by omega, by omega, ?_⟩)
      rw [e3, zaM_row (by decide) (by decide) (by decide), zaM_row (by decide) (by decide) (by decide), zrow_two, zset_rowo (show (27 : Int) ≠ 11 by decide), zset_row]
      refine ih (i + 1) R2 _ (by omega) (by omega) (fun q q0 q1 => ?_)
      by_cases c : q = i
      · rw [c, zup_at]
      · rw [zup_ne c]; exact hW q q0 (by omega)
  have := lp (P 235 0).toNat 0 (M 11) (M 27) (by decide) (by omega) (fun q q0 q1 => absurd q1 (by omega))
  rw [zrow_cm (show (27 : Int) ≠ 11 by decide), zrow_self, zrow_self] at this
  exact bX3_workAll_0 hG this
end YN

section YG
variable {G : zG} {d : Nat} {M : zM} {Q : zV → zM → Prop}
theorem s_oterms (hG : zP G) {o : Int} {n : Nat} {p q : zPe} (ho : zND o) (h8 : M o 8 ≤ 300) (hn : n ≤ 41) (hp : zqP M o n p) (hq : zqP M o n q) (bp : 0 ≤ p.1.1 ∧ p.1.1 < p.1.2 ∧ p.1.2 ≤ M o 8) (bq : 0 ≤ q.1.1 ∧ q.1.1 < q.1.2 ∧ q.1.2 ≤ M o 8) (h : ∀ c, (0 < c ↔ ¬ znle p.2 q.2) → Q (0, c) M) : Y G (d + 2 * n + 1) mX1_orderOfTerms 0 [(2, o), (0, p.1.1), (2, o), (0, q.1.1), (0, 0), (9, 0)] [] M Q := by
  refine bX1_orderOfTerms_0 hG ho ho ?_
  rw [znf_in (x := p.1.1) (by omega), znf_in (x := q.1.1) (by omega), hp.2, hq.2]
  refine ⟨h8, h8, fun z => ?_, fun z => h _ ?_⟩
  · rw [zlcmp_eq] at z
    refine s_ord hG ho ho h8 h8 n _ _ _ _ 0 _ _ (by decide) (by omega) bp.2.2 bq.2.2 hp.1 hq.1 d _ (fun c hc _ => bX1_orderOfTerms_34 hG ho ho (h c ?_))
    have nc := zoc_nc hc
    unfold znle
    rw [nc.2.2]
    omega
  · have zz : ¬ (1 - 2 * q.2.1) = (1 - 2 * p.2.1) := fun e => z (zlcmp_eq.mpr e)
    rw [zlcmp_gt]
    unfold znle
    omega
theorem s_sortParts (hG : zP G) {o w k v top told : Int} {n : Nat} {ps : List zPe} (ho : zND o) (hn : n ≤ 41) (hW : zqW M o w k v top n ps) (h0 : told = 0 → Q (9, 0) M) (h : told ≠ 0 → ∀ N qs, zqK o w (fun t => ∃ p ∈ ps, p.1.1 = t) M N → N o 8 = M o 8 → qs.Perm ps → zq2 qs = znso (zq2 ps) → zqW N o w k v top n qs → Q (9, 0) N) : Y G (d + 2 * n + 2) mX1_sortParts 0 [(2, o), (0, w), (0, told), (9, 0), (9, 0), (9, 0), (9, 0)] [] M Q := by
  obtain ⟨⟨h1, h2⟩, ⟨h3, h3'⟩, h4, h5, h6, h7, h8⟩ := id hW
  refine bX1_sortParts_0 hG ho ⟨h0, fun t0 => ⟨by omega, ?_⟩⟩
  rw [znf_in (by omega), h3]
  refine ⟨fun l2 => ?_, fun l2 => h t0 M ps zqK_rf rfl (List.Perm.refl _) ?_ hW⟩
  · obtain ⟨A, hAl⟩ := zLp_of ps
    obtain ⟨m, hm⟩ : ∃ m, m = ps.length := ⟨_, rfl⟩
    rw [← hm] at hAl h3 h3'
    rw [← hAl] at hW
    refine s_collectParts (m := m) hG ho hW (fun M1 hM1 hA1 => bX1_sortParts_19 hG ho ?_)
    -- the rest of the memory stays; the row is put in order
    have lp : ∀ (r i : Nat) (N : zM) (B : Int → zPe), i + r = m → (∀ a j, N a j = M a j ∨ a = o + 8) → zrA N o B m → (zLp B m).Perm ps → (∀ a b, 0 ≤ a → a < b → b < (i : Int) → znle (B a).2 (B b).2) → Y G (d + 2 * n + 1 + 1) mX1_sortParts 23 [(2, o), (0, w), (0, told), (0, (m : Int)), (0, (i : Int)), (9, 0), (9, 0)] [] N Q := fun r => by
      induction r with
      | zero =>
        intro i N B hi hN hB hp hs
        have : i = m := by omega
        subst this
        obtain ⟨hWN, e8⟩ := zqW_8 hN hW
        rw [hAl] at hWN
        have hD := zqD_perm hp.symm h6
        refine bX1_sortParts_23 hG ho ⟨fun _ => ?_, fun c => absurd c (by omega)⟩
        refine s_chainParts hG ho hWN hB (fun j j0 j1 => hWN.2.2.2.2.2.1 _ (hp.mem_iff.mp ((zLp_mem i).mpr ⟨j, j0, j1, rfl⟩))) hD (by omega) (fun N2 hN2 e82 _ hW2 => bX1_sortParts_110 hG ho (h t0 N2 (zLp B i) ?_ (e82.trans e8) hp ?_ hW2))
        · have k1 : zqK o w (fun t => ∃ p ∈ ps, p.1.1 = t) M N := fun a i => (hN a i).imp id (fun q => Or.inr (Or.inr q))
          exact zqK_tr k1 (zqK_mo (fun t ⟨p, p1, p2⟩ => ⟨p, hp.mem_iff.mp p1, p2⟩) hN2)
        · exact znso_u (hp.map _) (zLp_pw i hs)
      | succ r ih =>
        intro i N B hi hN hB hp hs
        refine bX1_sortParts_23 hG ho ⟨fun c => absurd c (by omega), fun _ => ⟨by omega, ?_⟩⟩
        rw [hB i (by omega) (by omega)]
        have e8 : N o 8 = M o 8 := (hN o 8).resolve_right (by omega)
        have inner : ∀ (j : Nat) (N : zM) (B' : Int → zPe), j ≤ i → (∀ a j, N a j = M a j ∨ a = o + 8) → B' j = B i → (∀ x, 0 ≤ x → x < (m : Int) → x ≠ (j : Int) → N (o + 8) x = (B' x).1.1) → (zLp B' m).Perm ps → (∀ a b, 0 ≤ a → a < b → b ≤ (i : Int) → a ≠ (j : Int) → b ≠ (j : Int) → znle (B' a).2 (B' b).2) → (∀ b, (j : Int) < b → b ≤ (i : Int) → znle (B i).2 (B' b).2) → Y G (d + 2 * n + 1 + 1) mX1_sortParts 42 [(2, o), (0, w), (0, told), (0, (m : Int)), (0, (i : Int)), (0, (B i).1.1), (0, (j : Int))] [] N Q := fun j => by
          induction j with
          | zero =>
            intro N B' ji hN bj hB' hp' hs' hv
            refine bX1_sortParts_42 hG ho ⟨fun _ => ⟨by omega, by omega, ih (i + 1) _ B' (by omega) (fun a x => ?_) (fun x x0 x1 => ?_) hp' (fun a b a0 ab bi => ?_)⟩, fun c => absurd c (by omega)⟩
            · by_cases c : a = o + 8
              · exact Or.inr c
              · rw [zset_ne (fun q => c q.1)]; exact hN a x
            · by_cases c : x = ((0 : Nat) : Int)
              · rw [c, zset_same, bj]
              · rw [zset_ne (fun q => c q.2)]; exact hB' x x0 x1 c
            · by_cases c : a = ((0 : Nat) : Int)
              · rw [c, bj]; exact hv b (by omega) (by omega)
              · exact hs' a b a0 ab (by omega) c (by omega)
          | succ j ih2 =>
            intro N B' ji hN bj hB' hp' hs' hv
            have e8 : N o 8 = M o 8 := (hN o 8).resolve_right (by omega)
            have hWN := (zqW_8 hN hW).1
            rw [hAl] at hWN
            have rj := hB' j (by omega) (by omega) (by omega)
            have mj := hp'.mem_iff.mp ((zLp_mem m).mpr ⟨(j : Int), by omega, by omega, (rfl : B' j = B' j)⟩)
            have mi := hp'.mem_iff.mp ((zLp_mem m).mpr ⟨((j + 1 : Nat) : Int), by omega, by omega, bj⟩)
            have dj := h6.1 _ mj
            have di := h6.1 _ mi
            refine bX1_sortParts_42 hG ho ⟨fun c => absurd c (by omega), fun _ => ⟨by omega, by omega, ?_⟩⟩
            rw [show ((j + 1 : Nat) : Int) - 1 = (j : Int) by omega, rj]
            refine s_oterms hG ho (by omega) hn (hWN.2.2.2.2.2.1 _ mj) (hWN.2.2.2.2.2.1 _ mi) (by omega) (by omega) (fun c hc => bX1_sortParts_64 hG ho ⟨fun z => ⟨by omega, by omega, ?_⟩, fun z => ⟨by omega, by omega, by omega, by omega, ?_⟩⟩)
            · -- it stays here
              have le : znle (B' j).2 (B i).2 := by
                by_cases w1 : znle (B' j).2 (B i).2
                · exact w1
                · have := hc.mpr w1; omega
              refine ih (i + 1) _ B' (by omega) (fun a x => ?_) (fun x x0 x1 => ?_) hp' (fun a b a0 ab bi => ?_)
              · by_cases c : a = o + 8
                · exact Or.inr c
                · rw [zset_ne (fun q => c q.1)]; exact hN a x
              · by_cases c : x = ((j + 1 : Nat) : Int)
                · rw [c, zset_same, bj]
                · rw [zset_ne (fun q => c q.2)]; exact hB' x x0 x1 c
              · by_cases c : a = ((j + 1 : Nat) : Int)
                · rw [c, bj]; exact hv b (by omega) (by omega)
                · by_cases c2 : b = ((j + 1 : Nat) : Int)
                  · rw [c2, bj]
                    by_cases c3 : a = (j : Int)
                    · rw [c3]; exact le
                    · exact znle_tr (hs' a j a0 (by omega) (by omega) c (by omega)) le
                  · exact hs' a b a0 ab (by omega) c c2
            · have gt : znle (B i).2 (B' j).2 := by
                rcases znle_to (B' j).2 (B i).2 with w1 | w1
                · exact absurd w1 (hc.mp z)
                · exact w1
              have s1 : zswP B' j ((j + 1 : Nat) : Int) j = B i := by unfold zswP; rw [zupP_ne (by omega), zupP_at, bj]
              have s2 : zswP B' j ((j + 1 : Nat) : Int) ((j + 1 : Nat) : Int) = B' j := by unfold zswP; rw [zupP_at]
              have s3 : ∀ x : Int, x ≠ (j : Int) → x ≠ ((j + 1 : Nat) : Int) → zswP B' j ((j + 1 : Nat) : Int) x = B' x := fun x x1 x2 => by unfold zswP; rw [zupP_ne x2, zupP_ne x1]
              rw [show ((j + 1 : Nat) : Int) - 1 = (j : Int) by omega, rj, show ((j + 1 : Nat) : Int) + -1 = (j : Int) by omega]
              refine ih2 _ (zswP B' j ((j + 1 : Nat) : Int)) (by omega) (fun a x => ?_) s1 (fun x x0 x1 xj => ?_) ((zswP_perm (by omega) (by omega) (by omega)).trans hp') (fun a b a0 ab bi aj bj' => ?_) (fun b b0 b1 => ?_)
              · by_cases c : a = o + 8
                · exact Or.inr c
                · rw [zset_ne (fun q => c q.1)]; exact hN a x
              · by_cases c : x = ((j + 1 : Nat) : Int)
                · rw [c, zset_same, s2]
                · rw [zset_ne (fun q => c q.2), s3 x xj c]; exact hB' x x0 x1 c
              · by_cases c : a = ((j + 1 : Nat) : Int)
                · rw [c, s2, s3 b bj' (by omega)]; exact hs' j b (by omega) (by omega) bi (by omega) (by omega)
                · rw [s3 a aj c]
                  by_cases c2 : b = ((j + 1 : Nat) : Int)
                  · rw [c2, s2]; exact hs' a j a0 (by omega) (by omega) c (by omega)
                  · rw [s3 b bj' c2]; exact hs' a b a0 ab bi c c2
              · by_cases c2 : b = ((j + 1 : Nat) : Int)
                · rw [c2, s2]; exact gt
                · rw [s3 b (by omega) c2]; exact hv b (by omega) b1
        exact inner i N B (Nat.le_refl _) hN rfl (fun x x0 x1 _ => hB x x0 x1) hp (fun a b a0 ab bi ai bi' => hs a b a0 ab (by omega)) (fun b b0 b1 => absurd b1 (by omega))
    exact lp (m - 1) 1 M1 A (by omega) hM1 hA1 (by rw [hAl]) (fun a b a0 ab b1 => by omega)
  · have : ∀ l : List znT, l.length < 2 → l = znso l := fun l hl => by
      match l, hl with
      | [], _ => rfl
      | [x], _ => rfl
      | _ :: _ :: _, hl => exact absurd hl (by rw [List.length_cons, List.length_cons]; omega)
    exact this _ (by unfold zq2; rw [List.length_map]; omega)
theorem s_aloneOr (hG : zP G) {o w k v top : Int} {n : Nat} {ps : List zPe} (ho : zND o) (hW : zqW M o w k v top n ps) (h1 : ∀ p, ps = [p] → p.2.1 ≤ 0 → Q (0, p.1.1) M) (h0 : (∀ p, ps = [p] → ¬ p.2.1 ≤ 0) → Q (0, w) M) : Y G (d + 1) mX1_aloneOr 0 [(2, o), (0, w), (9, 0)] [] M Q := by
  obtain ⟨⟨g1, g2⟩, ⟨g3, g3'⟩, g4, g5, g6, g7, g8⟩ := id hW
  refine bX1_aloneOr_0 hG ho ?_
  rw [znf_in (x := w) (by omega), znf_in (x := w) (by omega), g3]
  refine ⟨by omega, by omega, fun z => h0 (fun p hp => absurd (by rw [hp]; rfl) z), fun z => ⟨by omega, ?_⟩⟩
  match ps, z, g4, g6, g7, h1, h0 with
  | [p], _, g4, g6, g7, h1, h0 =>
    have e : M (o + 5) w = p.1.1 := g4.1
    have dp := g6.1 p (List.mem_cons_self ..)
    have sp := (g7 p (List.mem_cons_self ..)).2
    rw [e, znf_in (x := p.1.1) (by omega), sp]
    exact ⟨fun z2 => h0 (fun q hq => by injection hq with e1; rw [← e1]; omega), fun z2 => h1 p rfl (by omega)⟩
  | [], z, _, _, _, _, _ => exact absurd z (by show ¬ ((0 : Nat) : Int) = 1; decide)
  | _ :: _ :: _, z, _, _, _, _, _ => exact absurd z (by rw [List.length_cons, List.length_cons]; omega)
end YG

section YM
variable {G : zG} {d : Nat} {M : zM} {Q : zV → zM → Prop}
theorem zND_s {i : Int} (h : 0 ≤ i ∧ i < 12) : zND (49 + 9 * i) := by
  have hc : i = 0 ∨ i = 1 ∨ i = 2 ∨ i = 3 ∨ i = 4 ∨ i = 5 ∨ i = 6 ∨ i = 7 ∨ i = 8 ∨ i = 9 ∨ i = 10 ∨ i = 11 := by omega
  unfold zND
  rcases hc with rfl | rfl | rfl | rfl | rfl | rfl | rfl | rfl | rfl | rfl | rfl | rfl <;> decide
/-- a question of P is said in the nodes at o -/
theorem s_qcsay (hG : zP G) {P : zM} (hs : zcq P M) {o q eq : Int} (ho : zND o) (hor : 0 ≤ o ∧ o ≤ 148) (he : 0 ≤ eq ∧ eq ≤ 255) (hq : 0 ≤ q ∧ q < 12) (hQ : zQq P q) (h8 : M o 8 = 0) (h : ∀ N x, zqR o 0 M N → N o 8 ≤ 300 → zqE N o 40 x (N o 8) (zqf P eq q) → Q (0, x) N) : Y G (d + 200) mX1_say 0 [(2, o), (2, M 20 q), (0, M 22 q), (0, eq), (0, 0), (9, 0), (9, 0), (9, 0)] [] M Q := by
  obtain ⟨⟨t, t0, t1, t2, t3⟩, b, c, lc, hh⟩ := hQ
  have hw := zQC_wf c
  have e : ∀ i, 0 ≤ i → i ≤ 8 → M (P 20 q + i) = P (P 20 q + i) := fun i h0 h7 => hs _ (by omega)
  have e0 := hs (P 20 q) (by omega)
  rw [hs 20 (by decide), hs 22 (by decide), b.2.2.2.1]
  obtain ⟨k, hk⟩ : ∃ k : Nat, (k : Int) = P 246 q - 1 := ⟨(P 246 q - 1).toNat, by omega⟩
  have kt : (P 246 q).toNat = k + 1 := by omega
  have H := hh (k : Int)
  rw [kt] at H
  have cl := zcnt_le hw (k := k) (by omega)
  have h1 : 1 ≤ zhv (fun k => P 247 (240 * q + 2 * k)) (fun k => P 247 (240 * q + 2 * k + 1)) (k + 1) k := by
    rw [zhv_at]
    have := zmx_0 (c := fun j => zhv (fun k => P 247 (240 * q + 2 * k)) (fun k => P 247 (240 * q + 2 * k + 1)) k (zcd (fun k => P 247 (240 * q + 2 * k)) (fun k => P 247 (240 * q + 2 * k + 1)) k j)) (zpn (P 247 (240 * q + 2 * k)) (P 247 (240 * q + 2 * k + 1))).toNat
    omega
  have go := s_csay (M0 := M) (f := P 21 q) (len := P 246 q) hG ho (by rw [t3]; exact zND_t ⟨t0, t2⟩) (r1 := P 20 q) ⟨hor.1, hor.2, by omega⟩ he (by rw [e0]; exact ⟨b.1, b.2.2.2.2⟩) (by rw [e 1 (by decide) (by decide), e 2 (by decide) (by decide), e 3 (by decide) (by decide), e 4 (by decide) (by decide), e 5 (by decide) (by decide), e 7 (by decide) (by decide)]; exact c) lc k (by omega) 0 0 M (d + (110 - (zhv (fun k => P 247 (240 * q + 2 * k)) (fun k => P 247 (240 * q + 2 * k + 1)) (k + 1) k).toNat)) Q (fun _ _ _ => rfl) h8 (by decide) (by omega) (by decide) (by omega) (fun N x hR e8 hx hE => h N x hR (by omega) ?_)
  · rw [show d + (110 - (zhv (fun k => P 247 (240 * q + 2 * k)) (fun k => P 247 (240 * q + 2 * k + 1)) (k + 1) k).toNat) + 90 + (zhv (fun k => P 247 (240 * q + 2 * k)) (fun k => P 247 (240 * q + 2 * k + 1)) (k + 1) k).toNat = d + 200 by omega] at go
    rw [show P 21 q + P 246 q - 1 = P 21 q + (k : Int) by omega]
    exact go
  · unfold zqf
    rw [kt, ← hk, e8]
    exact zqE_le (by omega) (by omega) hE
def zsd (M P : zM) (i : Int) : Prop := M (49 + 9 * i) 8 ≤ 300 ∧ zqE M (49 + 9 * i) 40 (M 29 i) (M (49 + 9 * i) 8) (zqf P (P 235 4) i)
def zlw (M P : zM) (i : Int) : Prop := (0 ≤ M 30 i ∧ M 30 i ≤ i) ∧ zqf P (P 235 4) (M 30 i) = zqf P (P 235 4) i ∧ ∀ j, 0 ≤ j → j < M 30 i → zqf P (P 235 4) j ≠ zqf P (P 235 4) i
def zJS (M P : zM) : Prop := (0 ≤ M 19 13 ∧ M 19 13 ≤ P 235 0) ∧ ∀ i, 0 ≤ i → i < M 19 13 → zsd M P i ∧ zlw M P i
/-- what saying all touches -/
def zsR (M N : zM) : Prop := ∀ a i, N a i = M a i ∨ a = 29 ∨ a = 30 ∨ (49 ≤ a ∧ a ≤ 156) ∨ (a = 19 ∧ i = 13)
theorem zsR_tr {M1 M2 : zM} (h1 : zsR M M1) (h2 : zsR M1 M2) : zsR M M2 := fun a i => by
  rcases h2 a i with q | q
  · rcases h1 a i with r | r
    · exact Or.inl (q.trans r)
    · exact Or.inr r
  · exact Or.inr q
/-- alike, by the lowest -/
theorem zlw_al {P : zM} {i j : Int} (hi : zlw M P i) (hj : zlw M P j) (i0 : 0 ≤ i) (j0 : 0 ≤ j) : M 30 i = M 30 j ↔ zqf P (P 235 4) i = zqf P (P 235 4) j := by
  refine ⟨fun e => by rw [← hi.2.1, ← hj.2.1, e], fun e => ?_⟩
  have a := hi.2.2 (M 30 j) hj.1.1
  have b := hj.2.2 (M 30 i) hi.1.1
  rw [hj.2.1, e] at a
  rw [hi.2.1, e] at b
  by_cases c : M 30 j < M 30 i
  · exact absurd rfl (a c)
  · by_cases c2 : M 30 i < M 30 j
    · exact absurd rfl (b c2)
    · omega
theorem s_sayAll (hG : zP G) {P : zM} (hs : zcq P M) (n12 : 0 ≤ P 235 0 ∧ P 235 0 ≤ 12) (he : 0 ≤ P 235 4 ∧ P 235 4 ≤ 255) (h8 : M 19 8 = P 235 0) (h9 : M 19 9 = P 235 4) (hQ : ∀ q, 0 ≤ q → q < P 235 0 → zQq P q) (hS : zJS M P) (h : ∀ N, zsR M N → N 19 13 = P 235 0 → zJS N P → Q (9, 0) N) : Y G (d + 201) mX3_sayAll 0 [(2, 19), (9, 0), (9, 0)] [] M Q := by
  have lp : ∀ (r : Nat) (i : Int) (N : zM), 0 ≤ i → i + r = P 235 0 → zsR M N → (∀ j, 0 ≤ j → j < i → zsd N P j ∧ zlw N P j) → Y G (d + 201) mX3_sayAll 5 [(2, 19), (0, i), (9, 0)] [] N Q := fun r => by
    induction r with
    | zero =>
      intro i N i0 hi hR hA
      have e8 : N 19 8 = P 235 0 := by
        rcases hR 19 8 with z | z | z | z | z
        · rw [z]; exact h8
        · omega
        · omega
        · omega
        · omega
      have ei : i = P 235 0 := by omega
      subst ei
      refine bX3_sayAll_5 hG ?_
      rw [e8]
      refine ⟨fun _ => h _ (zsR_tr hR (fun a x => ?_)) zset_same ⟨by rw [zset_same]; omega, fun j j0 j1 => ?_⟩, fun c => absurd c (by omega)⟩
      · by_cases c : a = 19 ∧ x = 13
        · exact Or.inr (Or.inr (Or.inr (Or.inr c)))
        · exact Or.inl (zset_ne c)
      · rw [zset_same] at j1
        obtain ⟨a1, a2⟩ := hA j j0 j1
        refine ⟨⟨by rw [zset_off (by omega)]; exact a1.1, ?_⟩, ?_⟩
        · rw [zset_off (show (49 + 9 * j) ≠ 19 by omega), zset_off (show (29 : Int) ≠ 19 by decide)]
          refine zqE_c 40 _ _ _ (fun x x0 x1 => ⟨?_, ?_, ?_, ?_⟩) (fun x x0 x1 => ⟨?_, ?_⟩) a1.2 <;> rw [zset_off (by omega)]
        · unfold zlw
          rw [zset_off (show (30 : Int) ≠ 19 by decide)]
          exact a2
    | succ r ih =>
      intro i N i0 hi hR hA
      have hNr : ∀ a x, ¬ (a = 29 ∨ a = 30 ∨ (49 ≤ a ∧ a ≤ 156) ∨ (a = 19 ∧ x = 13)) → N a x = M a x := fun a x c => (hR a x).resolve_right c
      have e8 : N 19 8 = P 235 0 := by rw [hNr 19 8 (by omega)]; exact h8
      have e9 : N 19 9 = P 235 4 := by rw [hNr 19 9 (by omega)]; exact h9
      have qi := hQ i i0 (by omega)
      have e20 : ∀ x, N 20 x = P 20 x := fun x => by rw [hNr 20 x (by omega), hs 20 (by decide)]
      obtain ⟨⟨t, t0, t1, t2, t3⟩, -⟩ := id qi
      refine bX3_sayAll_5 hG ?_
      have f1 : zset N (49 + 9 * i) 8 0 20 i = P 20 i := by rw [zset_off (by omega)]; exact e20 i
      have f2 : zset N (49 + 9 * i) 8 0 19 9 = P 235 4 := by rw [zset_off (by omega)]; exact e9
      rw [e8, f1]
      refine ⟨fun c => absurd c (by omega), fun _ => ⟨by omega, by omega, fun _ => ⟨by omega, by omega, by omega, ?_⟩, fun c => absurd c (by omega)⟩⟩
      rw [f2]
      -- the ghost with the nodes as they are
      have hs' : zcq (fun a => if a ≤ 233 then zset N (49 + 9 * i) 8 0 a else P a) (zset N (49 + 9 * i) 8 0) := fun a ha => by
        show _ = if a ≤ 233 then zset N (49 + 9 * i) 8 0 a else P a
        rw [if_pos ha]
      have pe : ∀ a x, (20 ≤ a ∧ a ≤ 28 ∨ 157 ≤ a) → (fun a => if a ≤ 233 then zset N (49 + 9 * i) 8 0 a else P a) a x = P a x := fun a x ha => by
        show (if a ≤ 233 then zset N (49 + 9 * i) 8 0 a else P a) x = P a x
        by_cases c : a ≤ 233
        · rw [if_pos c, zset_off (by omega), hNr a x (by omega), hs a c]
        · rw [if_neg c]
      have qi' : zQq (fun a => if a ≤ 233 then zset N (49 + 9 * i) 8 0 a else P a) i := by
        have p8 : (fun a => if a ≤ 233 then zset N (49 + 9 * i) 8 0 a else P a) (P 20 i) 8 = P (P 20 i) 8 := pe _ _ (by omega)
        exact zQq_e (M := P) ⟨i0, by omega⟩ (pe _ _ (by omega)) (pe _ _ (by omega)) (pe _ _ (by omega)) (pe _ _ (by omega)) (fun x x0 x1 => pe _ _ (by omega)) p8 (fun x y hx _ y0 y1 => pe _ _ (by omega)) (fun t' a b => by have p6 := pe 235 6 (by omega); have p7 : (if (235 : Int) ≤ 233 then zset N (49 + 9 * i) 8 0 235 else P 235) 6 = P 235 6 := p6; rw [p7]; exact a) qi
      have fq : zqf (fun a => if a ≤ 233 then zset N (49 + 9 * i) 8 0 a else P a) (P 235 4) i = zqf P (P 235 4) i := zqf_e (by have := qi.2.1; omega) (pe _ _ (by omega)) (fun x x0 x1 => pe _ _ (by omega))
      have r20 : zset N (49 + 9 * i) 8 0 20 i = (zset N (49 + 9 * i) 8 0) 20 i := rfl
      have go := s_qcsay (d := d) (M := zset N (49 + 9 * i) 8 0) (Q := fun r M' => Y G (d + 200 + 1) mX3_sayAll 67 [(2, 19), (0, i), (9, 0)] (zpush r [(0, i), (2, 29)]) M' Q) hG hs' (o := 49 + 9 * i) (q := i) (eq := P 235 4) (zND_s ⟨i0, by omega⟩) (by omega) he ⟨i0, by omega⟩ qi' zset_same (fun N1 x hR1 n300 hE => bX3_sayAll_67 hG ⟨by omega, by omega, ?_⟩)
      · rw [f1] at go; exact go
      · rw [fq] at hE
        -- what stands of those before, and this one
        have keep : ∀ a y, a ≠ 29 → a ≠ 30 → ¬ (49 + 9 * i ≤ a ∧ a ≤ 57 + 9 * i) → zset (zset N1 29 i x) 30 i i a y = N a y := fun a y c1 c2 c3 => by
          rw [zset_off c2, zset_off c1]
          rcases hR1 a y with z | z | z | z
          · rw [z, zset_off (by omega)]
          · omega
          · omega
          · omega
        have hR2 : zsR M (zset (zset N1 29 i x) 30 i i) := fun a y => by
          by_cases c1 : a = 29
          · exact Or.inr (Or.inl c1)
          · by_cases c2 : a = 30
            · exact Or.inr (Or.inr (Or.inl c2))
            · by_cases c3 : 49 + 9 * i ≤ a ∧ a ≤ 57 + 9 * i
              · exact Or.inr (Or.inr (Or.inr (Or.inl (by omega))))
              · rw [keep a y c1 c2 c3]; exact hR a y
        have r29 : ∀ j, zset (zset N1 29 i x) 30 i i 29 j = if j = i then x else N 29 j := fun j => by
          rw [zset_off (by decide)]
          by_cases c : j = i
          · rw [if_pos c, c, zset_same]
          · rw [if_neg c, zset_ne (fun z => c z.2)]
            rcases hR1 29 j with z | z | z | z
            · rw [z, zset_off (by omega)]
            · omega
            · omega
            · omega
        have r30 : ∀ j, zset (zset N1 29 i x) 30 i i 30 j = if j = i then i else N 30 j := fun j => by
          by_cases c : j = i
          · rw [if_pos c, c, zset_same]
          · rw [if_neg c, zset_ne (fun z => c z.2), zset_off (by decide)]
            rcases hR1 30 j with z | z | z | z
            · rw [z, zset_off (by omega)]
            · omega
            · omega
            · omega
        have thisE : zsd (zset (zset N1 29 i x) 30 i i) P i := by
          refine ⟨by rw [zset_off (by omega), zset_off (by omega)]; exact n300, ?_⟩
          rw [r29, if_pos rfl, zset_off (show 49 + 9 * i ≠ 30 by omega), zset_off (show 49 + 9 * i ≠ 29 by omega)]
          refine zqE_c 40 _ _ _ (fun y y0 y1 => ⟨?_, ?_, ?_, ?_⟩) (fun y y0 y1 => ⟨?_, ?_⟩) hE <;> rw [zset_off (by omega), zset_off (by omega)]
        have oldE : ∀ j, 0 ≤ j → j < i → zsd (zset (zset N1 29 i x) 30 i i) P j ∧ zlw (zset (zset N1 29 i x) 30 i i) P j := fun j j0 j1 => by
          obtain ⟨a1, a2⟩ := hA j j0 j1
          refine ⟨⟨by rw [keep _ _ (by omega) (by omega) (by omega)]; exact a1.1, ?_⟩, ?_⟩
          · rw [r29, if_neg (by omega), keep _ _ (by omega) (by omega) (by omega)]
            refine zqE_c 40 _ _ _ (fun y y0 y1 => ⟨?_, ?_, ?_, ?_⟩) (fun y y0 y1 => ⟨?_, ?_⟩) a1.2 <;> rw [keep _ _ (by omega) (by omega) (by omega)]
          · unfold zlw
            rw [r30, if_neg (by omega)]
            exact a2
        generalize hX : zset (zset N1 29 i x) 30 i i = X at *
        have x30 := r30 i
        rw [if_pos rfl] at x30
        -- the lowest alike
        have low : ∀ (c : Nat) (j : Int) (N2 : zM), 0 ≤ j → j + c = i → (∀ a y, N2 a y = X a y ∨ (a = 30 ∧ y = i)) → ((N2 30 i = i ∧ ∀ s, 0 ≤ s → s < j → zqf P (P 235 4) s ≠ zqf P (P 235 4) i) ∨ (N2 30 i ≠ i ∧ zlw N2 P i)) → Y G (d + 201) mX3_sayAll 77 [(2, 19), (0, i), (0, j)] [] N2 Q := fun c => by
          have done : ∀ N2 : zM, (∀ a y, N2 a y = X a y ∨ (a = 30 ∧ y = i)) → zlw N2 P i → Y G (d + 201) mX3_sayAll 5 [(2, 19), (0, i + 1), (9, 0)] [] N2 Q := fun N2 h2 hl => by
            have eX : ∀ a y, ¬ (a = 30 ∧ y = i) → N2 a y = X a y := fun a y c => (h2 a y).resolve_right c
            refine ih (i + 1) N2 (by omega) (by omega) (zsR_tr hR2 (fun a y => (h2 a y).imp id (fun z => Or.inr (Or.inl z.1)))) (fun j j0 j1 => ?_)
            have sd : ∀ j, 0 ≤ j → zsd X P j → zsd N2 P j := fun j j0 a1 => by
              refine ⟨by rw [eX _ _ (by omega)]; exact a1.1, ?_⟩
              rw [eX 29 j (by omega), eX _ _ (by omega)]
              refine zqE_c 40 _ _ _ (fun y y0 y1 => ⟨?_, ?_, ?_, ?_⟩) (fun y y0 y1 => ⟨?_, ?_⟩) a1.2 <;> rw [eX _ _ (by omega)]
            by_cases c : j = i
            · subst c
              exact ⟨sd j j0 thisE, hl⟩
            · obtain ⟨a1, a2⟩ := oldE j j0 (by omega)
              refine ⟨sd j j0 a1, ?_⟩
              unfold zlw
              rw [eX 30 j (by omega)]
              exact a2
          induction c with
          | zero =>
            intro j N2 j0 hj h2 hl
            have ej : j = i := by omega
            subst ej
            refine bX3_sayAll_77 hG ⟨fun _ => ⟨by omega, done N2 h2 ?_⟩, fun z => absurd z (by omega)⟩
            rcases hl with ⟨a1, a2⟩ | ⟨_, a2⟩
            · exact ⟨by omega, by rw [a1], fun s s0 s1 => a2 s s0 (by omega)⟩
            · exact a2
          | succ c ihc =>
            intro j N2 j0 hj h2 hl
            have eX : ∀ a y, ¬ (a = 30 ∧ y = i) → N2 a y = X a y := fun a y c => (h2 a y).resolve_right c
            refine bX3_sayAll_77 hG ⟨fun z => absurd z (by omega), fun _ => ⟨by omega, fun z => ⟨by omega, done N2 h2 ?_⟩, fun z => ⟨by omega, by omega, by omega, by omega, ?_⟩⟩⟩
            · rcases hl with ⟨a1, _⟩ | ⟨_, a2⟩
              · exact absurd a1 z
              · exact a2
            · rcases hl with ⟨_, a2⟩ | ⟨a1, _⟩
              · obtain ⟨b1, b2⟩ := (oldE j j0 (by omega)).1
                obtain ⟨c1, c2⟩ := thisE
                have kE : ∀ s, 0 ≤ s → zqE X (49 + 9 * s) 40 (X 29 s) (X (49 + 9 * s) 8) (zqf P (P 235 4) s) → zqE N2 (49 + 9 * s) 40 (X 29 s) (X (49 + 9 * s) 8) (zqf P (P 235 4) s) := fun s s0 q => by
                  refine zqE_c 40 _ _ _ (fun y y0 y1 => ⟨?_, ?_, ?_, ?_⟩) (fun y y0 y1 => ⟨?_, ?_⟩) q <;> rw [eX _ _ (by omega)]
                rw [eX 29 j (by omega), eX 29 i (by omega)]
                have z8j : N2 (49 + 9 * j) 8 = X (49 + 9 * j) 8 := eX _ _ (by omega)
                have z8i : N2 (49 + 9 * i) 8 = X (49 + 9 * i) 8 := eX _ _ (by omega)
                have := s_ord (M := N2) hG (zND_s ⟨j0, by omega⟩) (zND_s (i := i) ⟨by omega, by omega⟩) (by rw [z8j]; exact b1) (by rw [z8i]; exact c1) 40 (X 29 j) (X (49 + 9 * j) 8) (X 29 i) (X (49 + 9 * i) 8) 0 _ _ (by decide) (by decide) (by rw [z8j]; exact Int.le_refl _) (by rw [z8i]; exact Int.le_refl _) (kE j j0 b2) (kE i (by omega) c2) (d + 120) (fun r M' => Y G (d + 200 + 1) mX3_sayAll 120 [(2, 19), (0, i), (0, j)] (zpush r []) M' Q) (fun e he1 _ => bX3_sayAll_120 hG ⟨fun z3 => ⟨by omega, ?_⟩, fun z3 => ⟨by omega, by omega, ?_⟩⟩)
                · exact this
                · refine ihc (j + 1) N2 (by omega) (by omega) h2 (Or.inl ⟨z, fun s s0 s1 => ?_⟩)
                  by_cases cs : s = j
                  · rw [cs]; exact fun q => z3 ((zoc_nc he1).2.1.mpr q)
                  · exact a2 s s0 (by omega)
                · refine ihc (j + 1) _ (by omega) (by omega) (fun a y => ?_) (Or.inr ⟨by rw [zset_same]; omega, ?_⟩)
                  · by_cases cc : a = 30 ∧ y = i
                    · exact Or.inr cc
                    · rw [zset_ne cc]; exact h2 a y
                  · unfold zlw
                    rw [zset_same]
                    exact ⟨by omega, he1.1 z3, fun s s0 s1 => a2 s s0 s1⟩
              · exact absurd z a1
        exact low i.toNat 0 X (by decide) (by omega) (fun _ _ => Or.inl rfl) (Or.inl ⟨x30, fun s s0 s1 => absurd s1 (by omega)⟩)
  have n13 := hS.1
  refine bX3_sayAll_0 hG (lp (P 235 0 - M 19 13).toNat (M 19 13) M n13.1 (by omega) (fun _ _ => Or.inl rfl) hS.2)
end YM

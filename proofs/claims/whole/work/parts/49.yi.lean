set_option maxRecDepth 20000 in
set_option maxHeartbeats 4000000 in
theorem bX1_changeIf_105p {G : zG} {d : Nat} {M : zM} {Q : zV → zM → Prop} (hG : zP G) {o x1 x2 x3 x49 : Int} (ho : zND o)
    (h : ((¬ x49 = 0 → Q (0, x1) M) ∧ (x49 = 0 → Q (0, (M (o + 8) 2)) M))) :
    Y G (d + 1) mX1_changeIf 105 [(2, o), (0, x1), (0, x2), (0, x3)] [(0, x49)] M Q := by
  refine z_ifne (tgt := 117) dX1_changeIf_105 rfl (fun q => ?_) (fun q => ?_)
  · replace h := h.1 q
    refine z_iloadn dX1_changeIf_117 rfl ?_
    exact z_ireturn dX1_changeIf_118 (Or.inl rfl) rfl h
  · replace h := h.2 q
    refine z_aloadn dX1_changeIf_108 rfl (Or.inl rfl) ?_
    refine y_getr (v := (o + 8)) hG dX1_changeIf_109 fX1_33 (nd_0 ho) (by decide) rfl (nd_x7 ho) (nd_ne ho 8 (by decide)) ?_
    refine z_iconst dX1_changeIf_112 ki_2 ?_
    refine y_iald (x := (M (o + 8) 2)) dX1_changeIf_113 (nd_8 ho) ⟨by decide, by decide⟩ rfl ?_
    refine z_goto (tgt := 118) dX1_changeIf_114 rfl ?_
    exact z_ireturn dX1_changeIf_118 (Or.inl rfl) rfl h
set_option maxRecDepth 20000 in
set_option maxHeartbeats 4000000 in
theorem bX1_changeIf_87p {G : zG} {d : Nat} {M : zM} {Q : zV → zM → Prop} (hG : zP G) {o x1 x2 x3 : Int} (ho : zND o)
    (h : Y G d mX1_orderOf 0 [(2, o), (0, (M (o + 8) 2)), (2, o), (0, (M (o + 8) 3)), (0, 0), (9, 0), (9, 0), (9, 0), (9, 0)] [] M (fun r M' => Y G (d + 1) mX1_changeIf 105 [(2, o), (0, x1), (0, x2), (0, x3)] (zpush r []) M' Q)) :
    Y G (d + 1) mX1_changeIf 87 [(2, o), (0, x1), (0, x2), (0, x3)] [] M Q := by
  refine z_aloadn dX1_changeIf_87 rfl (Or.inl rfl) ?_
  refine z_aloadn dX1_changeIf_88 rfl (Or.inl rfl) ?_
  refine y_getr (v := (o + 8)) hG dX1_changeIf_89 fX1_33 (nd_0 ho) (by decide) rfl (nd_x7 ho) (nd_ne ho 8 (by decide)) ?_
  refine z_iconst dX1_changeIf_92 ki_2 ?_
  refine y_iald (x := (M (o + 8) 2)) dX1_changeIf_93 (nd_8 ho) ⟨by decide, by decide⟩ rfl ?_
  refine z_aloadn dX1_changeIf_94 rfl (Or.inl rfl) ?_
  refine z_aloadn dX1_changeIf_95 rfl (Or.inl rfl) ?_
  refine y_getr (v := (o + 8)) hG dX1_changeIf_96 fX1_33 (nd_0 ho) (by decide) rfl (nd_x7 ho) (nd_ne ho 8 (by decide)) ?_
  refine z_iconst dX1_changeIf_99 ki_3 ?_
  refine y_iald (x := (M (o + 8) 3)) dX1_changeIf_100 (nd_8 ho) ⟨by decide, by decide⟩ rfl ?_
  refine z_iconst dX1_changeIf_101 ki_0 ?_
  refine y_cs (mt2 := mX1_orderOf) (en := [(2, o), (0, (M (o + 8) 2)), (2, o), (0, (M (o + 8) 3)), (0, 0), (9, 0), (9, 0), (9, 0), (9, 0)]) (st := []) (as := [(2, o), (0, (M (o + 8) 2)), (2, o), (0, (M (o + 8) 3)), (0, 0)]) dX1_changeIf_102 lX1_133 kX1_orderOf tX1_orderOf rfl (Nat.le_of_ble_eq_true rfl) (Nat.le_of_ble_eq_true rfl) rfl ?_
  exact h
section YI
variable {G : zG} {d : Nat} {M : zM} {Q : zV → zM → Prop}
noncomputable def znC (eq k v : Int) (l : List znT) : List Int :=
  if k < 2 then [k, v] else if k < 4 then znS3 eq k (if zbt eq k then znlo (k - 2) l else l) else if k < 6 then znh k 0 l else
  if k < 8 then znh k 0 (if zbt eq 4 then znso l else l) else if k < 10 then znM eq k (l.headD (0, [])).2 (l.tail.headD (0, [])).2 else
  znI eq v (l.headD (0, [])).2 (l.tail.headD (0, [])).2 (l.tail.tail.headD (0, [])).2 (l.tail.tail.tail.headD (0, [])).2
theorem zq2_perm' {ps qs : List zPe} (h : ps.Perm qs) : (zq2 ps).Perm (zq2 qs) := h.map _
theorem zl1 {α : Type} (l : List α) (h : l.length = 2) : ∃ a b, l = [a, b] := by
  match l, h with
  | [a, b], _ => exact ⟨a, b, rfl⟩
theorem zl4 {α : Type} (l : List α) (h : l.length = 4) : ∃ a b c e, l = [a, b, c, e] := by
  match l, h with
  | [a, b, c, e], _ => exact ⟨a, b, c, e, rfl⟩
theorem zqE_t {o : Int} {n : Nat} {p : zPe} {top w : Int} (h : zqP M o n p) (hd : p.1.2 ≤ top) : zqE M o (n + 1) p.1.1 top p.2.2 := zqE_le (by omega) hd h.1
/-- are two pieces said alike? -/
theorem s_oeq (hG : zP G) {o : Int} {n : Nat} {p q : zPe} (ho : zND o) (h8 : M o 8 ≤ 300) (hn : n ≤ 41) (hp : zqP M o n p) (hq : zqP M o n q) (bp : 0 ≤ p.1.1 ∧ p.1.1 < p.1.2 ∧ p.1.2 ≤ M o 8) (bq : 0 ≤ q.1.1 ∧ q.1.1 < q.1.2 ∧ q.1.2 ≤ M o 8) (h : ∀ c, (c = 0 ↔ p.2.2 = q.2.2) → Q (0, c) M) : Y G (d + 2 * n) mX1_orderOf 0 [(2, o), (0, p.1.1), (2, o), (0, q.1.1), (0, 0), (9, 0), (9, 0), (9, 0), (9, 0)] [] M Q :=
  s_ord hG ho ho h8 h8 n _ _ _ _ 0 _ _ (by decide) (by omega) bp.2.2 bq.2.2 hp.1 hq.1 d _ (fun c hc _ => h c (zoc_nc hc).2.1)
theorem s_change (hG : zP G) {o w k v top eq : Int} {n wn : Nat} {ps : List zPe} (ho : zND o) (hn : n ≤ 41) (he : 0 ≤ eq ∧ eq ≤ 255) (hW : zqW M o w k v top n ps) (hg : zng k (zq2 ps)) (hv : 2 ≤ k ∧ k ≤ 9 → v = 0) (h10 : k = 10 → 0 ≤ v ∧ v ≤ 5) (hne : k = 2 ∨ k = 3 → ps ≠ []) (hz : ∀ p ∈ ps, ∃ a, znk (wn + 1) p.2.2 a)
    (h : ∀ N x, zqK o w (fun t => ∃ p ∈ ps, p.1.1 = t) M N → N o 8 = M o 8 → w ≤ x → zqE N o (n + 1) x top (znC eq k v (zq2 ps)) → Q (0, x) N) :
    Y G (d + 2 * n + 3) mX1_change 0 [(2, o), (0, w), (0, eq)] [] M Q := by
  have tb := hW.2.2.2.2.2.2
  have kw := hW.1.1
  have b0 : zand eq 1 = 0 ↔ ¬ zbt eq 0 = true := zbt_and he 0 (by decide) 1 rfl
  have b1 : zand eq 2 = 0 ↔ ¬ zbt eq 1 = true := zbt_and he 1 (by decide) 2 rfl
  have b2 : zand eq 4 = 0 ↔ ¬ zbt eq 2 = true := zbt_and he 2 (by decide) 4 rfl
  have b3 : zand eq 8 = 0 ↔ ¬ zbt eq 3 = true := zbt_and he 3 (by decide) 8 rfl
  have b4 : zand eq 16 = 0 ↔ ¬ zbt eq 4 = true := zbt_and he 4 (by decide) 16 rfl
  have b5 : zand eq 32 = 0 ↔ ¬ zbt eq 5 = true := zbt_and he 5 (by decide) 32 rfl
  have b6 : zand eq 64 = 0 ↔ ¬ zbt eq 6 = true := zbt_and he 6 (by decide) 64 rfl
  refine bX1_change_0 hG ho ?_
  rw [znf_in (by omega), kw]
  refine ⟨by omega, fun k2 => ?_, fun k3 => ?_, fun k6 => ?_, fun k8 => ?_, fun k10 => ?_, fun kk => ?_⟩
  · subst k2
    have v0 := hv (by decide)
    subst v0
    exact s_csum (d := d) (told := zand eq 4) (toldS := zand eq 1) (Q := fun r M3 => Y G (d + 2 * n + 2 + 1) mX1_change 84 [(2, o), (0, w), (0, eq)] (zpush r []) M3 Q) hG ho hn he (Or.inl rfl) rfl b2 b0 hW hg.2.2.2.2.2 (hne (Or.inl rfl)) hz (fun N q => bX1_change_65 hG ho q) (fun N q => bX1_change_71 hG ho q) (fun N q => bX1_change_79 hG ho q) (fun N x a1 a2 a3 a4 => bX1_change_84 hG ho (h N x a1 a2 a3 a4))
  · subst k3
    have v0 := hv (by decide)
    subst v0
    exact s_csum (d := d) (told := zand eq 8) (toldS := zand eq 2) (Q := fun r M3 => Y G (d + 2 * n + 2 + 1) mX1_change 114 [(2, o), (0, w), (0, eq)] (zpush r []) M3 Q) hG ho hn he (Or.inr rfl) rfl b3 b1 hW hg.2.2.2.2.2 (hne (Or.inr rfl)) hz (fun N q => bX1_change_95 hG ho q) (fun N q => bX1_change_101 hG ho q) (fun N q => bX1_change_109 hG ho q) (fun N x a1 a2 a3 a4 => bX1_change_114 hG ho (h N x a1 a2 a3 a4))
  · -- kin and ways
    have v0 := hv (by omega)
    subst v0
    have eC : znC eq k 0 (zq2 ps) = znh k 0 (if zbt eq 4 then znso (zq2 ps) else zq2 ps) := by
      unfold znC; rw [if_neg (by omega), if_neg (by omega), if_neg (by omega), if_pos (by omega)]
    rw [eC] at h
    have z0 : ∀ t ∈ zq2 ps, t.1 = 0 := fun t ht => (hg.2.2.2.2.2 t ht).2 (by omega)
    refine s_sortParts hG ho hn hW (fun t0 => bX1_change_124 hG ho (h M w zqK_rf rfl (Int.le_refl _) ?_)) (fun t0 N qs hK e8 hp er hW' => bX1_change_124 hG ho (h N w hK e8 (Int.le_refl _) ?_))
    · rw [if_neg (b4.mp t0)]
      exact zqW_E hW hg (fun _ => rfl)
    · have bt : zbt eq 4 = true := by
        by_cases q : zbt eq 4 = true
        · exact q
        · exact absurd (b4.mpr q) t0
      rw [if_pos bt, ← er]
      refine zqW_E hW' ?_ (fun _ => rfl)
      rw [er]
      exact zng_w (by omega) (fun q => absurd q (by omega)) (fun q => ((znso_p _).length_eq).trans (hg.2.2.2.1 q)) (fun q => absurd q (by omega)) (fun t ht => z0 t ((znso_p _).mem_iff.mp ht))
  · -- more and less
    have v0 := hv (by omega)
    subst v0
    have l2 : ps.length = 2 := by have := hg.2.2.2.1 (by omega); unfold zq2 at this; rw [List.length_map] at this; exact this
    obtain ⟨p, q, rfl⟩ := zl1 ps l2
    have pb : p.2.1 = 0 := (hg.2.2.2.2.2 p.2 (List.mem_cons_self ..)).2 (by omega)
    have qb : q.2.1 = 0 := (hg.2.2.2.2.2 q.2 (List.mem_cons_of_mem _ (List.mem_cons_self ..))).2 (by omega)
    have pe : p.2 = (0, p.2.2) := Prod.ext pb rfl
    have qe : q.2 = (0, q.2.2) := Prod.ext qb rfl
    have eC : znC eq k 0 (zq2 [p, q]) = znM eq k p.2.2 q.2.2 := by
      unfold znC; rw [if_neg (by omega), if_neg (by omega), if_neg (by omega), if_neg (by omega), if_pos (by omega)]; rfl
    rw [eC] at h
    have e2 : zq2 [p, q] = [(0, p.2.2), (0, q.2.2)] := by show [p.2, q.2] = _; rw [pe, qe]
    -- behind the sorting
    have tail1 : ∀ (N : zM) (rs : List zPe), zqK o w (fun t => ∃ r ∈ [p, q], r.1.1 = t) M N → N o 8 = M o 8 → ((∃ x, rs = [] ∧ zqW N o w 0 x top n rs ∧ [0, x] = znM eq k p.2.2 q.2.2) ∨ (zqW N o w k 0 top n rs ∧ rs.Perm [p, q] ∧ ¬ (zbt eq 7 = true ∧ p.2.2.head? = some 0 ∧ q.2.2.head? = some 0) ∧ zq2 rs = (if zbt eq 5 then znso (zq2 [p, q]) else zq2 [p, q]))) → Y G (d + 2 * n + 2) mX1_eitherOr 0 [(2, o), (0, w), (0, eq), (9, 0), (9, 0)] [] N (fun r M' => Y G (d + 2 * n + 2 + 1) mX1_change 147 [(2, o), (0, w), (0, eq)] (zpush r []) M' Q) := fun N rs hN e8 hr => by
      rcases hr with ⟨x, rn, hWN, ex⟩ | ⟨hWN, hp, n7, er⟩
      · subst rn
        have g3 : N (o + 4) w = 0 := hWN.2.1.1
        have tbN := hWN.2.2.2.2.2.2
        refine bX1_eitherOr_0 hG ho ?_
        rw [znf_in (x := w) (by omega), znf_in (x := w) (by omega), g3]
        exact ⟨by omega, by omega, fun _ => bX1_change_147 hG ho (h N w hN e8 (Int.le_refl _) (by rw [← ex]; exact zqW_no hWN)), fun z => absurd z (by decide)⟩
      · have lr : rs.length = 2 := hp.length_eq
        obtain ⟨r, s, rfl⟩ := zl1 rs lr
        have tbN := hWN.2.2.2.2.2.2
        have g3 : N (o + 4) w = 2 := hWN.2.1.1
        have c1 := hWN.2.2.1
        have f1 : N (o + 5) w = r.1.1 := c1.1
        have f2 : N (o + 7) r.1.1 = s.1.1 := c1.2.1
        have dr := hWN.2.2.2.2.1.1 r (List.mem_cons_self ..)
        have ds := hWN.2.2.2.2.1.1 s (List.mem_cons_of_mem _ (List.mem_cons_self ..))
        have pr := hWN.2.2.2.2.2.1 r (List.mem_cons_self ..)
        have psd := hWN.2.2.2.2.2.1 s (List.mem_cons_of_mem _ (List.mem_cons_self ..))
        have zz : ∀ t ∈ zq2 [r, s], t.1 = 0 := fun t ht => by
          have := (zq2_perm' hp).mem_iff.mp ht
          exact (hg.2.2.2.2.2 t this).2 (by omega)
        have gN : zng k (zq2 [r, s]) := zng_w (by omega) (fun q => absurd q (by omega)) (fun _ => rfl) (fun q => absurd q (by omega)) zz
        have wE := zqW_E hWN gN (fun _ => rfl)
        refine bX1_eitherOr_0 hG ho ?_
        rw [znf_in (x := w) (by omega), znf_in (x := w) (by omega), g3, f1, znf_in (x := r.1.1) (by omega), f2]
        refine ⟨by omega, by omega, fun z => absurd rfl z, fun _ => ⟨fun t0 => bX1_change_147 hG ho (h N w hN e8 (Int.le_refl _) ?_), fun t0 => ⟨by omega, ?_⟩⟩⟩
        · have n5 := b5.mp t0
          rw [if_neg n5] at er
          unfold znM
          rw [if_neg n7, if_neg n5, ← e2, ← er]; exact wE
        · have bt : zbt eq 5 = true := by
            by_cases q : zbt eq 5 = true
            · exact q
            · exact absurd (b5.mpr q) t0
          rw [if_pos bt] at er
          -- the two are alike just when these two are
          have rs2 : zq2 [r, s] = [(0, r.2.2), (0, s.2.2)] := by
            have z1 := zz r.2 (List.mem_cons_self ..)
            have z2 := zz s.2 (List.mem_cons_of_mem _ (List.mem_cons_self ..))
            show [r.2, s.2] = _
            rw [show r.2 = (0, r.2.2) from Prod.ext z1 rfl, show s.2 = (0, s.2.2) from Prod.ext z2 rfl]
          have two : (r.2.2 = p.2.2 ∧ s.2.2 = q.2.2) ∨ (r.2.2 = q.2.2 ∧ s.2.2 = p.2.2) := by
            rw [rs2, e2, znso_2] at er
            by_cases c : (0 : Int) < 0 ∨ ((0 : Int) = 0 ∧ znc p.2.2 q.2.2 ≤ 0)
            · rw [if_pos c] at er
              injection er with x1 x2
              injection x2 with x3 _
              injection x1 with _ x1
              injection x3 with _ x3
              exact Or.inl ⟨x1, x3⟩
            · rw [if_neg c] at er
              injection er with x1 x2
              injection x2 with x3 _
              injection x1 with _ x1
              injection x3 with _ x3
              exact Or.inr ⟨x1, x3⟩
          refine s_oeq (d := d + 1) hG ho (by omega) hn pr psd (by omega) (by omega) (fun c hc => bX1_eitherOr_46 hG ho ⟨fun z => bX1_change_147 hG ho (h N w hN e8 (Int.le_refl _) ?_), fun z => bX1_change_147 hG ho (h N r.1.1 hN e8 (by omega) ?_)⟩) |> fun t => by
            rw [show d + 1 + 2 * n = d + 2 * n + 1 by omega] at t; exact t
          · have ne : ¬ p.2.2 = q.2.2 := fun z2 => z (hc.mpr (by rcases two with t | t <;> rw [t.1, t.2, z2]))
            unfold znM
            rw [if_neg n7, if_pos bt, if_neg ne, ← e2, ← er]; exact wE
          · have eqq : p.2.2 = q.2.2 := by
              have := hc.mp z
              rcases two with t | t
              · rw [← t.1, ← t.2, this]
              · rw [← t.1, ← t.2, this]
            unfold znM
            rw [if_neg n7, if_pos bt, if_pos eqq]
            have : r.2.2 = p.2.2 := by
              rcases two with t | t
              · exact t.1
              · rw [t.1, eqq]
            rw [← this]
            exact zqE_t (w := w) pr dr.2.2
    -- behind the working out
    have tail2 : ∀ (N : zM) (rs : List zPe) (k' v' : Int), zqK o w (fun t => ∃ r ∈ [p, q], r.1.1 = t) M N → N o 8 = M o 8 → zqW N o w k' v' top n rs → ((rs = [] ∧ k' = 0 ∧ [0, v'] = znM eq k p.2.2 q.2.2) ∨ (rs = [p, q] ∧ k' = k ∧ v' = 0 ∧ ¬ (zbt eq 7 = true ∧ p.2.2.head? = some 0 ∧ q.2.2.head? = some 0))) → Y G (d + 2 * n + 2) mX1_sortParts 0 [(2, o), (0, w), (0, zand eq 32), (9, 0), (9, 0), (9, 0), (9, 0)] [] N (fun r M' => Y G (d + 2 * n + 2 + 1) mX1_change 141 [(2, o), (0, w), (0, eq)] (zpush r []) M' Q) := fun N rs k' v' hN e8 hWN hr => by
      have sub : ∀ t, (∃ r ∈ rs, r.1.1 = t) → ∃ r ∈ [p, q], r.1.1 = t := fun t ht => by
        obtain ⟨rr, rr1, rr2⟩ := ht
        rcases hr with ⟨z1, _, _⟩ | ⟨z1, _, _, _⟩
        · rw [z1] at rr1; exact (List.not_mem_nil rr1).elim
        · rw [z1] at rr1; exact ⟨rr, rr1, rr2⟩
      refine s_sortParts hG ho hn hWN (fun t0 => bX1_change_141 hG ho (tail1 N rs hN e8 ?_)) (fun t0 N' qs hK e8' hp er hW' => bX1_change_141 hG ho (tail1 N' qs (zqK_tr hN (zqK_mo sub hK)) (e8'.trans e8) ?_))
      · rcases hr with ⟨hr1, hr2, hr3⟩ | ⟨hr1, hr2, hr3, hr4⟩
        · subst hr2; exact Or.inl ⟨v', hr1, hWN, hr3⟩
        · subst hr1 hr2 hr3
          exact Or.inr ⟨hWN, List.Perm.refl _, hr4, by rw [if_neg (b5.mp t0)]⟩
      · rcases hr with ⟨hr1, hr2, hr3⟩ | ⟨hr1, hr2, hr3, hr4⟩
        · subst hr1 hr2
          have : qs = [] := List.Perm.eq_nil hp
          exact Or.inl ⟨v', this, hW', hr3⟩
        · subst hr1 hr2 hr3
          have bt : zbt eq 5 = true := by
            by_cases q : zbt eq 5 = true
            · exact q
            · exact absurd (b5.mpr q) t0
          exact Or.inr ⟨hW', hp, hr4, by rw [if_pos bt]; exact er⟩
    refine s_workNumbers hG ho he hW (by omega) (fun r hr => (hg.2.2.2.2.2 r.2 (List.mem_map.mpr ⟨r, hr, rfl⟩)).1) (fun r hr hu => by
      obtain ⟨a, ha⟩ := hz r hr
      exact (znk_no ha hu).2) (fun no => bX1_change_132 hG ho (tail2 M [p, q] k 0 zqK_rf rfl hW (Or.inr ⟨rfl, rfl, rfl, fun z => no ⟨z.1, List.cons_ne_nil _ _, fun r hr => ?_⟩⟩))) (fun q7 _ al N hN e8 hWN => bX1_change_132 hG ho (tail2 N [] _ _ (zqK_mo (fun _ z => z.elim) hN) e8 hWN (Or.inl ⟨rfl, rfl, ?_⟩)))
    · rcases List.mem_cons.mp hr with e | e
      · rw [e]; exact z.2.1
      · rw [List.mem_singleton.mp e]; exact z.2.2
    · have u1 : p.2.2.head? = some 0 := al p (List.mem_cons_self ..)
      have u2 : q.2.2.head? = some 0 := al q (List.mem_cons_of_mem _ (List.mem_cons_self ..))
      obtain ⟨a1, ha1⟩ := hz p (List.mem_cons_self ..)
      obtain ⟨a2, ha2⟩ := hz q (List.mem_cons_of_mem _ (List.mem_cons_self ..))
      have b1 := (znk_no ha1 u1).2
      have b2 := (znk_no ha2 u2).2
      have ezM : znM eq k p.2.2 q.2.2 = [0, if k = 8 then max (znv p.2.2) (znv q.2.2) else min (znv p.2.2) (znv q.2.2)] := by unfold znM; rw [if_pos ⟨q7, u1, u2⟩]
      rw [ezM, e2, if_neg (show ¬ k = 2 by omega), if_neg (show ¬ k = 3 by omega)]
      show [0, zkwn k (zkwn k (znv p.2.2) (0, p.2.2)) (0, q.2.2)] = _
      congr 2
      unfold zkwn
      rw [if_neg (show ¬ k = 2 by omega), if_neg (show ¬ k = 3 by omega), if_neg (show ¬ k = 2 by omega), if_neg (show ¬ k = 3 by omega)]
      show zcl (if k = 8 then max (zcl (if k = 8 then max (znv p.2.2) ((1 - 2 * 0) * znv p.2.2) else min (znv p.2.2) ((1 - 2 * 0) * znv p.2.2))) ((1 - 2 * 0) * znv q.2.2) else min (zcl (if k = 8 then max (znv p.2.2) ((1 - 2 * 0) * znv p.2.2) else min (znv p.2.2) ((1 - 2 * 0) * znv p.2.2))) ((1 - 2 * 0) * znv q.2.2)) = _
      by_cases c : k = 8
      · rw [if_pos c, if_pos c, if_pos c, zcl_id (x := max (znv p.2.2) ((1 - 2 * 0) * znv p.2.2)) (by unfold zb6 at *; omega), zcl_id (by unfold zb6 at *; omega)]; omega
      · rw [if_neg c, if_neg c, if_neg c, zcl_id (x := min (znv p.2.2) ((1 - 2 * 0) * znv p.2.2)) (by unfold zb6 at *; omega), zcl_id (by unfold zb6 at *; omega)]; omega
  · -- an if
    subst k10
    have l4 : ps.length = 4 := by have := hg.2.2.2.2.1 rfl; unfold zq2 at this; rw [List.length_map] at this; exact this
    obtain ⟨A, hAl⟩ := zLp_of ps
    rw [l4] at hAl
    have hA4 : ps = [A 0, A 1, A 2, A 3] := hAl.symm
    have bz : ∀ i : Int, 0 ≤ i → i < 4 → (A i).2 = (0, (A i).2.2) := fun i i0 i1 => Prod.ext ((hg.2.2.2.2.2 (A i).2 (List.mem_map.mpr ⟨A i, by rw [← hAl]; exact (zLp_mem 4).mpr ⟨i, i0, i1, rfl⟩, rfl⟩)).2 (by decide)) rfl
    have eC : znC eq 10 v (zq2 ps) = znI eq v (A 0).2.2 (A 1).2.2 (A 2).2.2 (A 3).2.2 := by
      rw [hA4]; rfl
    rw [eC] at h
    have lst : zq2 [A 0, A 1, A 2, A 3] = [(0, (A 0).2.2), (0, (A 1).2.2), (0, (A 2).2.2), (0, (A 3).2.2)] := by
      show [(A 0).2, (A 1).2, (A 2).2, (A 3).2] = _
      rw [bz 0 (by decide) (by decide), bz 1 (by decide) (by decide), bz 2 (by decide) (by decide), bz 3 (by decide) (by decide)]
    have hvv := h10 rfl
    rw [hA4] at hW
    have hD := hW.2.2.2.2.1
    have hW4 : zqW M o w 10 v top n (zLp A 4) := by rw [hAl, hA4]; exact hW
    refine bX1_changeIf_0 hG ho ⟨fun t0 => bX1_change_154 hG ho (h M w zqK_rf rfl (Int.le_refl _) ?_), fun t0 => ?_⟩
    · unfold znI
      rw [if_neg (b6.mp t0), ← lst]
      exact zqW_E hW (by rw [← hA4]; exact hg) (fun c => absurd c (by omega))
    · have bt : zbt eq 6 = true := by
        by_cases q : zbt eq 6 = true
        · exact q
        · exact absurd (b6.mpr q) t0
      refine s_collectParts hG ho hW4 (fun M1 hM1 hA1 => ?_)
      obtain ⟨hW1, e81⟩ := zqW_8 hM1 hW4
      have hK1 : zqK o w (fun t => ∃ p ∈ ps, p.1.1 = t) M M1 := fun a i => (hM1 a i).imp id (fun q => Or.inr (Or.inr q))
      have in4 : ∀ (B : Int → zPe), zLp B 4 = [B 0, B 1, B 2, B 3] := fun B => rfl
      -- which of the two it is
      have fin : ∀ (R : zV → zM → Prop), (∀ (c : Int) (N : zM), ((¬ c = 0 → Y G (d + 2 * n + 2 + 1) mX1_change 154 [(2, o), (0, w), (0, eq)] [(0, w)] N Q) ∧ (c = 0 → Y G (d + 2 * n + 2 + 1) mX1_change 154 [(2, o), (0, w), (0, eq)] [(0, N (o + 8) 2)] N Q)) → R (0, c) N) → ∀ (N : zM) (B : Int → zPe) (v' : Int), zqK o w (fun t => ∃ p ∈ ps, p.1.1 = t) M N → N o 8 = M o 8 → zqW N o w 10 v' top n (zLp B 4) → zrA N o B 4 → B 2 = A 2 → B 3 = A 3 → zng 10 (zq2 (zLp B 4)) → (¬ (A 2).2.2 = (A 3).2.2 → znh 10 v' (zq2 (zLp B 4)) = znI eq v (A 0).2.2 (A 1).2.2 (A 2).2.2 (A 3).2.2) → Y G (d + 2 * n + 1) mX1_orderOf 0 [(2, o), (0, N (o + 8) 2), (2, o), (0, N (o + 8) 3), (0, 0), (9, 0), (9, 0), (9, 0), (9, 0)] [] N R := fun R hR N B v' hN e8 hWN hB b2' b3' gB eB => by
        have r2 := hB 2 (by decide) (by decide)
        have r3 := hB 3 (by decide) (by decide)
        rw [b2'] at r2
        rw [b3'] at r3
        have tbN := hWN.2.2.2.2.2.2
        have m2 : A 2 ∈ zLp B 4 := (zLp_mem 4).mpr ⟨2, by decide, by decide, b2'⟩
        have m3 : A 3 ∈ zLp B 4 := (zLp_mem 4).mpr ⟨3, by decide, by decide, b3'⟩
        have d2 := hWN.2.2.2.2.1.1 _ m2
        have d3 := hWN.2.2.2.2.1.1 _ m3
        have p2 := hWN.2.2.2.2.2.1 _ m2
        have p3 := hWN.2.2.2.2.2.1 _ m3
        rw [r2, r3]
        have := s_oeq (d := d + 1) (Q := R) hG ho (by omega) hn p2 p3 (by omega) (by omega) (fun c hc => hR c N ⟨fun z => bX1_change_154 hG ho (h N w hN e8 (Int.le_refl _) (by
          rw [← eB (fun q => z (hc.mpr q))]
          exact zqW_E hWN gB (fun c => absurd c (by omega)))), fun z => bX1_change_154 hG ho (by
            rw [r2]
            refine h N (A 2).1.1 hN e8 (by omega) ?_
            have ez : znI eq v (A 0).2.2 (A 1).2.2 (A 2).2.2 (A 3).2.2 = (A 2).2.2 := by unfold znI; rw [if_pos bt, if_pos (hc.mp z)]
            rw [ez]
            exact zqE_t (w := w) p2 d2.2.2)⟩)
        rw [show d + 1 + 2 * n = d + 2 * n + 1 by omega] at this
        exact this
      -- turned round
      have turn : ∀ u : Int, u = v - 2 → (v = 2 ∨ v = 3) → Y G (d + 2 * n + 1) mX1_setValue 0 [(2, o), (0, w), (0, u)] [] M1 (fun r M' => Y G (d + 2 * n + 1 + 1) mX1_changeIf 55 [(2, o), (0, w), (0, eq), (9, 0)] (zpush r []) M' (fun r M' => Y G (d + 2 * n + 2 + 1) mX1_change 154 [(2, o), (0, w), (0, eq)] (zpush r []) M' Q)) := fun u hu vv => by
        have tb1 := hW1.2.2.2.2.2.2
        refine bX1_setValue_0 hG ho ⟨fun z => absurd z (by omega), fun _ => ⟨fun z => absurd z (by omega), fun _ => ⟨by omega, bX1_changeIf_55 hG ho ?_⟩⟩⟩
        have e80 : zset M1 (o + 2) w u (o + 8) = M1 (o + 8) := zset_off (by omega)
        rw [e80, hA1 0 (by decide) (by decide), hA1 1 (by decide) (by decide)]
        -- the memory with the new word and the row turned
        have chg : ∀ a i, (zset (zset (zset M1 (o + 2) w u) (o + 8) 0 (A 1).1.1) (o + 8) 1 (A 0).1.1) a i = zset M1 (o + 2) w u a i ∨ a = o + 8 := fun a i => by
          by_cases c : a = o + 8
          · exact Or.inr c
          · exact Or.inl (by rw [zset_ne (fun q => c q.1), zset_ne (fun q => c q.1)])
        have hWv : zqW (zset M1 (o + 2) w u) o w 10 u top n (zLp A 4) := by
          obtain ⟨⟨g1, g2⟩, g3, g4, g5, g6, g7, g8⟩ := hW1
          have rd : ∀ {b : Int}, b ≠ 2 → zset M1 (o + 2) w u (o + b) = M1 (o + b) := fun hb => zset_off (by omega)
          have hKv : zqK o w (fun _ => False) M1 (zset M1 (o + 2) w u) := fun a i => by
            by_cases c : a = o + 2 ∧ i = w
            · exact Or.inr (Or.inl ⟨Or.inr (Or.inl c.1), c.2⟩)
            · exact Or.inl (zset_ne c)
          refine ⟨⟨by rw [rd (by decide)]; exact g1, zset_same⟩, by rw [rd (by decide)]; exact g3, ?_, by rw [rd (by decide)]; exact g5, g6, fun p hp => zqP_K hKv (g6.1 p hp).1 (fun i _ _ z => z) (by rw [rd (by decide)]) (g7 p hp), by rw [zset_off (show o ≠ o + 2 by omega)]; exact g8⟩
          rw [rd (by decide)]
          exact zqN_c _ _ (fun p _ => by rw [rd (by decide)]) g4
        obtain ⟨hWx, e8x⟩ := zqW_8 chg hWv
        have s0 : zswP A 0 1 0 = A 1 := by unfold zswP; rw [zupP_ne (by decide), zupP_at]
        have s1 : zswP A 0 1 1 = A 0 := by unfold zswP; rw [zupP_at]
        have s2 : zswP A 0 1 2 = A 2 := by unfold zswP; rw [zupP_ne (by decide), zupP_ne (by decide)]
        have s3 : zswP A 0 1 3 = A 3 := by unfold zswP; rw [zupP_ne (by decide), zupP_ne (by decide)]
        have pm : (zLp (zswP A 0 1) 4).Perm (zLp A 4) := zswP_perm (by decide) (by decide) (by decide)
        have hDx := zqD_perm pm.symm hWx.2.2.2.2.1
        have rowx : zrA (zset (zset (zset M1 (o + 2) w u) (o + 8) 0 (A 1).1.1) (o + 8) 1 (A 0).1.1) o (zswP A 0 1) 4 := fun i i0 i1 => by
          have hc : i = 0 ∨ i = 1 ∨ i = 2 ∨ i = 3 := by omega
          rcases hc with rfl | rfl | rfl | rfl
          · rw [s0, zset_ne (fun q => absurd q.2 (by decide)), zset_same]
          · rw [s1, zset_same]
          · rw [s2, zset_ne (fun q => absurd q.2 (by decide)), zset_ne (fun q => absurd q.2 (by decide)), e80]; exact hA1 2 (by decide) (by decide)
          · rw [s3, zset_ne (fun q => absurd q.2 (by decide)), zset_ne (fun q => absurd q.2 (by decide)), e80]; exact hA1 3 (by decide) (by decide)
        refine s_chainParts (m := 4) hG ho hWx rowx (fun j j0 j1 => hWx.2.2.2.2.2.1 _ (pm.mem_iff.mp ((zLp_mem 4).mpr ⟨j, j0, j1, rfl⟩))) hDx (by decide) (fun N hN e8N hAN hWN => bX1_changeIf_87p hG ho (fin _ (fun c N z => bX1_changeIf_105p hG ho z) N (zswP A 0 1) u ?_ ?_ hWN hAN s2 s3 ?_ (fun ne => ?_)))
        · have k1 : zqK o w (fun t => ∃ p ∈ ps, p.1.1 = t) M1 (zset M1 (o + 2) w u) := fun a i => by
            by_cases c : a = o + 2 ∧ i = w
            · exact Or.inr (Or.inl ⟨Or.inr (Or.inl c.1), c.2⟩)
            · exact Or.inl (zset_ne c)
          have k2 : zqK o w (fun t => ∃ p ∈ ps, p.1.1 = t) (zset M1 (o + 2) w u) (zset (zset (zset M1 (o + 2) w u) (o + 8) 0 (A 1).1.1) (o + 8) 1 (A 0).1.1) := fun a i => (chg a i).imp id (fun q => Or.inr (Or.inr q))
          refine zqK_tr hK1 (zqK_tr k1 (zqK_tr k2 (zqK_mo (fun t ht => ?_) hN)))
          obtain ⟨pp, pp1, pp2⟩ := ht
          exact ⟨pp, by rw [← hAl]; exact pm.mem_iff.mp pp1, pp2⟩
        · rw [e8N, e8x, zset_off (show o ≠ o + 2 by omega), e81]
        · have : zq2 (zLp (zswP A 0 1) 4) = [(A 1).2, (A 0).2, (A 2).2, (A 3).2] := by
            show [(zswP A 0 1 0).2, (zswP A 0 1 1).2, (zswP A 0 1 2).2, (zswP A 0 1 3).2] = _
            rw [s0, s1, s2, s3]
          rw [this, bz 0 (by decide) (by decide), bz 1 (by decide) (by decide), bz 2 (by decide) (by decide), bz 3 (by decide) (by decide)]
          exact zng_w (by decide) (fun q => absurd q (by decide)) (fun q => absurd q (by decide)) (fun _ => rfl) (fun t ht => by
            simp only [List.mem_cons, List.not_mem_nil, or_false] at ht
            rcases ht with w1 | w1 | w1 | w1 <;> rw [w1])
        · have : zq2 (zLp (zswP A 0 1) 4) = [(A 1).2, (A 0).2, (A 2).2, (A 3).2] := by
            show [(zswP A 0 1 0).2, (zswP A 0 1 1).2, (zswP A 0 1 2).2, (zswP A 0 1 3).2] = _
            rw [s0, s1, s2, s3]
          rw [this, bz 0 (by decide) (by decide), bz 1 (by decide) (by decide), bz 2 (by decide) (by decide), bz 3 (by decide) (by decide), hu]
          unfold znI
          rw [if_pos bt, if_neg ne, if_pos vv]
      have tb1 := hW1.2.2.2.2.2.2
      have v1 := hW1.1.2
      refine bX1_changeIf_12 hG ho ⟨fun _ => ⟨by omega, ?_⟩, fun z => absurd z (by decide)⟩
      rw [znf_in (x := w) (by omega), v1]
      refine ⟨fun v2 => ⟨by omega, fun z => absurd v2 z, fun _ => turn 0 (by omega) (Or.inl v2)⟩, fun v2 => ⟨by omega, fun v3 => fin _ (fun c N z => bX1_changeIf_105 hG ho z) M1 A v hK1 e81 hW1 hA1 rfl rfl ?_ (fun ne => ?_), fun v3 => ⟨by omega, fun _ => turn 1 (by omega) (Or.inr v3), fun z => absurd z v2⟩⟩⟩
      · rw [hAl]; exact hg
      · rw [in4, lst]
        unfold znI
        rw [if_pos bt, if_neg ne, if_neg (fun z => by omega)]
  · -- leaves, and words of one part
    refine h M w zqK_rf rfl (Int.le_refl _) ?_
    unfold znC
    by_cases c : k < 2
    · rw [if_pos c]
      have := zqW_E hW hg hv
      have e : znh k v (zq2 ps) = [k, v] := by unfold znh; rw [if_pos c]
      rw [e] at this; exact this
    · have k1 := hg.1.1
      rw [if_neg c, if_neg (by omega), if_pos (by omega)]
      have v0 := hv (by omega)
      subst v0
      exact zqW_E hW hg (fun _ => rfl)
end YI

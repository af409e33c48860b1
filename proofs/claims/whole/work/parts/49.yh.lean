section YH
variable {G : zG} {d : Nat} {M : zM} {Q : zV → zM → Prop}
theorem zq2_nil {ps : List zPe} : zq2 ps = [] ↔ ps = [] := by
  unfold zq2
  exact List.map_eq_nil_iff
theorem zkwn_e {k : Int} (hk : k = 2 ∨ k = 3) : ∀ (l : List znT) (a : Int), zsn k l → l.foldl (zkwn k) a = l.foldl (znk1 k) a
  | [], _, _ => rfl
  | t :: l, a, hs => by
    have s := hs t (List.mem_cons_self ..)
    have e : zkwn k a t = znk1 k a t := by
      unfold zkwn znk1
      rcases hk with rfl | rfl
      · rw [if_pos rfl, if_neg (by decide)]
        rcases s.1 with q | q
        · rw [q, if_neg (by decide)]
          congr 1; omega
        · rw [q, if_pos rfl]
          congr 1; omega
      · rw [if_neg (by decide), if_pos rfl, if_pos rfl, s.2 (by decide)]
        congr 1
        rw [show (1 - 2 * 0 : Int) = 1 by decide, Int.one_mul]
    show l.foldl (zkwn k) (zkwn k a t) = l.foldl (znk1 k) (znk1 k a t)
    rw [e]
    exact zkwn_e hk l _ (fun p hp => hs p (List.mem_cons_of_mem _ hp))
theorem zkw_nil (hG : zP G) {o w k v top eq : Int} {n : Nat} (ho : zND o) (hW : zqW M o w k v top n []) (h : Q (9, 0) M) : Y G (d + 1) mX1_workNumbers 0 [(2, o), (0, w), (0, eq), (9, 0), (9, 0), (9, 0), (9, 0), (9, 0)] [] M Q := by
  obtain ⟨⟨g1, g2⟩, ⟨g3, g3'⟩, g4, g5, g6, g7, g8⟩ := id hW
  have g3 : M (o + 4) w = 0 := g3
  refine bX1_workNumbers_0 hG ho ?_
  rw [znf_in (x := w) (by omega), znf_in (x := w) (by omega), znf_in (x := w) (by omega), g3]
  exact ⟨by omega, by omega, fun _ => h, fun _ => ⟨by omega, fun z => absurd rfl z, fun _ => h⟩⟩
/-- the end of a whole without parts -/
theorem zqW_no {o w v top : Int} {n : Nat} (h : zqW M o w 0 v top n []) : zqE M o (n + 1) w top [0, v] := by
  have := zqW_E h ⟨⟨by omega, fun c => absurd c (by omega)⟩, fun _ => rfl, fun c => absurd c (by omega), fun c => absurd c (by omega), fun c => absurd c (by omega), fun p hp => by cases hp⟩ (fun c => absurd c (by omega))
  exact this
theorem s_csum (hG : zP G) {o w k top eq u told toldS : Int} {n wn : Nat} {ps : List zPe} (ho : zND o) (hn : n ≤ 41) (he : 0 ≤ eq ∧ eq ≤ 255) (hk : k = 2 ∨ k = 3) (hu : u = k - 2) (ht : told = 0 ↔ ¬ zbt eq k = true) (hts : toldS = 0 ↔ ¬ zbt eq (k - 2) = true) (hW : zqW M o w k 0 top n ps) (hs : zsn k (zq2 ps)) (hne0 : ps ≠ []) (hz : ∀ p ∈ ps, ∃ a, znk (wn + 1) p.2.2 a)
    {P1 P2 P3 : zV → zM → Prop} (c1 : ∀ N, Y G (d + 2 * n + 2) mX1_workNumbers 0 [(2, o), (0, w), (0, eq), (9, 0), (9, 0), (9, 0), (9, 0), (9, 0)] [] N P2 → P1 (9, 0) N) (c2 : ∀ N, Y G (d + 2 * n + 2) mX1_sortParts 0 [(2, o), (0, w), (0, toldS), (9, 0), (9, 0), (9, 0), (9, 0)] [] N P3 → P2 (9, 0) N) (c3 : ∀ N, Y G (d + 2 * n + 2) mX1_aloneOr 0 [(2, o), (0, w), (9, 0)] [] N Q → P3 (9, 0) N)
    (h : ∀ N x, zqK o w (fun t => ∃ p ∈ ps, p.1.1 = t) M N → N o 8 = M o 8 → w ≤ x → zqE N o (n + 1) x top (znS3 eq k (if zbt eq k then znlo (k - 2) (zq2 ps) else zq2 ps)) → Q (0, x) N) :
    Y G (d + 2 * n + 2) mX1_leaveOut 0 [(2, o), (0, w), (0, u), (0, told), (9, 0), (9, 0)] [] M P1 := by
  -- a number stands at w
  have num : ∀ (N : zM) (v : Int), zqK o w (fun t => ∃ p ∈ ps, p.1.1 = t) M N → N o 8 = M o 8 → zqW N o w 0 v top n [] → [0, v] = znS3 eq k (if zbt eq k then znlo (k - 2) (zq2 ps) else zq2 ps) → Y G (d + 2 * n + 2) mX1_sortParts 0 [(2, o), (0, w), (0, toldS), (9, 0), (9, 0), (9, 0), (9, 0)] [] N P3 := fun N v hN e8 hWN er => by
    have fin : ∀ N', zqK o w (fun t => ∃ p ∈ ps, p.1.1 = t) M N' → N' o 8 = M o 8 → zqW N' o w 0 v top n [] → Y G (d + 2 * n + 2) mX1_aloneOr 0 [(2, o), (0, w), (9, 0)] [] N' Q := fun N' hN' e8' hW' =>
      s_aloneOr hG ho hW' (fun p hp => absurd hp (List.cons_ne_nil _ _).symm) (fun _ => h N' w hN' e8' (Int.le_refl _) (by rw [← er]; exact zqW_no hW'))
    refine s_sortParts hG ho hn hWN (fun _ => c3 _ (fin N hN e8 hWN)) (fun _ N' qs hK e8' hp _ hW' => ?_)
    have : qs = [] := List.Perm.eq_nil hp
    subst this
    exact c3 _ <| fin N' (zqK_tr hN (zqK_mo (fun t ⟨p, p1, _⟩ => (List.not_mem_nil p1).elim) hK)) (e8'.trans e8) hW'
  -- the terms that are left
  have rest : ∀ (N : zM) (qs : List zPe), qs ≠ [] → (∀ p ∈ qs, p ∈ ps) → zq2 qs = (if zbt eq k then znlo (k - 2) (zq2 ps) else zq2 ps) → zqK o w (fun t => ∃ p ∈ ps, p.1.1 = t) M N → N o 8 = M o 8 → zqW N o w k 0 top n qs → Y G (d + 2 * n + 2) mX1_workNumbers 0 [(2, o), (0, w), (0, eq), (9, 0), (9, 0), (9, 0), (9, 0), (9, 0)] [] N P2 := fun N qs ne sub eq2 hN e8 hWN => by
    have hsq : zsn k (zq2 qs) := fun t ht => by
      obtain ⟨p, hp, e⟩ := List.mem_map.mp ht
      exact hs t (List.mem_map.mpr ⟨p, sub p hp, e⟩)
    have ne2 : zq2 qs ≠ [] := fun z => ne (zq2_nil.mp z)
    rw [← eq2] at h num
    refine s_workNumbers hG ho he hWN (by omega) (fun p hp => (hsq p.2 (List.mem_map.mpr ⟨p, hp, rfl⟩)).1) (fun p hp hu' => by
      obtain ⟨a, ha⟩ := hz p (sub p hp)
      exact (znk_no ha hu').2) (fun no => ?_) (fun q7 _ al N2 hN2 e82 hW2 => ?_)
    · -- not all numbers
      refine c2 _ ?_
      have nA : ¬ (zq2 qs = [] ∨ (zbt eq 7 = true ∧ ∀ x ∈ zq2 qs, znu x)) := fun z => by
        rcases z with z | z
        · exact ne2 z
        · exact no ⟨z.1, ne, fun p hp => z.2 p.2 (List.mem_map.mpr ⟨p, hp, rfl⟩)⟩
      have eS : znS3 eq k (zq2 qs) = znal k (if zbt eq (k - 2) then znso (zq2 qs) else zq2 qs) := by unfold znS3; rw [if_neg nA]
      rw [eS] at h
      have fin : ∀ (N' : zM) (rs : List zPe), zqK o w (fun t => ∃ p ∈ ps, p.1.1 = t) M N' → N' o 8 = M o 8 → zq2 rs = (if zbt eq (k - 2) then znso (zq2 qs) else zq2 qs) → zqW N' o w k 0 top n rs → Y G (d + 2 * n + 2) mX1_aloneOr 0 [(2, o), (0, w), (9, 0)] [] N' Q := fun N' rs hN' e8' er hW' => by
        have ner : zq2 rs ≠ [] := by
          rw [er]
          by_cases q : zbt eq (k - 2) = true
          · rw [if_pos q]; exact fun z => ne2 (List.Perm.eq_nil (l := zq2 qs) (by have := (znso_p (zq2 qs)).symm; rw [z] at this; exact this))
          · rw [if_neg q]; exact ne2
        rw [← er] at h
        have sr : zsn k (zq2 rs) := by
          rw [er]
          by_cases q : zbt eq (k - 2) = true
          · rw [if_pos q]; exact zsn_perm (znso_p _).symm hsq
          · rw [if_neg q]; exact hsq
        refine s_aloneOr hG ho hW' (fun p hp s0 => ?_) (fun no1 => ?_)
        · subst hp
          have dp := hW'.2.2.2.2.1.1 p (List.mem_cons_self ..)
          have pp := hW'.2.2.2.2.2.1 p (List.mem_cons_self ..)
          have sp := (sr p.2 (List.mem_cons_self ..)).1
          refine h N' p.1.1 hN' e8' (by omega) ?_
          have s00 : p.2.1 = 0 := by omega
          have : znal k (zq2 [p]) = p.2.2 := if_pos s00
          rw [this]
          exact zqE_le (by omega) (by omega) pp.1
        · refine h N' w hN' e8' (Int.le_refl _) ?_
          have : znal k (zq2 rs) = znh k 0 (zq2 rs) := by
            match rs, no1, sr with
            | [], _, _ => rfl
            | [p], no1, sr =>
              have := no1 p rfl
              have sp := (sr p.2 (List.mem_cons_self ..)).1
              exact if_neg (show ¬ p.2.1 = 0 from fun z => this (by omega))
            | _ :: _ :: _, _, _ => rfl
          rw [this]
          exact zqW_E hW' (zng_s hk ner sr) (fun _ => rfl)
      refine s_sortParts hG ho hn hWN (fun t0 => c3 _ (fin N qs hN e8 (by rw [if_neg (hts.mp t0)]) hWN)) (fun t0 N' rs hK e8' hp er hW' => c3 _ <| fin N' rs (zqK_tr hN (zqK_mo (fun t ⟨p, p1, p2⟩ => ⟨p, sub p p1, p2⟩) hK)) (e8'.trans e8) ?_ hW')
      rw [er, if_pos]
      by_cases q : zbt eq (k - 2) = true
      · exact q
      · exact absurd (hts.mpr q) t0
    · refine c2 _ ?_
      have yA : zq2 qs = [] ∨ (zbt eq 7 = true ∧ ∀ x ∈ zq2 qs, znu x) := Or.inr ⟨q7, fun x hx => by
        obtain ⟨p, hp, e⟩ := List.mem_map.mp hx
        rw [← e]; exact al p hp⟩
      refine num N2 _ (zqK_tr hN (zqK_mo (fun _ z => z.elim) hN2)) (e82.trans e8) hW2 ?_
      unfold znS3
      rw [if_pos yA]
      unfold znwk
      rw [zkwn_e hk _ _ hsq]
      congr 2
      by_cases k2 : k = 2
      · rw [if_pos k2, if_pos k2]
      · rw [if_neg k2, if_neg k2, if_pos (by omega)]
  refine s_cleaveOut hG ho hW (fun t0 => ?_) (fun t0 N qs hK e8 eq2 sub hne hnil => ?_)
  · exact c1 _ <| rest M ps hne0 (fun p hp => hp) (by rw [if_neg (ht.mp t0)]) zqK_rf rfl hW
  · have bt : zbt eq k = true := by
      by_cases q : zbt eq k = true
      · exact q
      · exact absurd (ht.mpr q) t0
    by_cases c : qs = []
    · have hW0 := hnil c
      subst c
      refine c1 _ (zkw_nil hG ho hW0 (c2 _ (num N u hK e8 hW0 ?_)))
      rw [if_pos bt, ← hu]
      have eq2' : znlo u (zq2 ps) = [] := eq2.symm
      rw [eq2']
      unfold znS3
      rw [if_pos (Or.inl rfl)]
      show [0, u] = [0, if k = 2 then (0 : Int) else 1]
      by_cases k2 : k = 2
      · rw [if_pos k2, show u = 0 by omega]
      · rw [if_neg k2, show u = 1 by omega]
    · exact c1 _ <| rest N qs c sub (by rw [if_pos bt, eq2, hu]) hK e8 (hne c)
end YH

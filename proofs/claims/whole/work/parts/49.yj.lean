section YJ
variable {G : zG} {d : Nat} {M : zM} {Q : zV → zM → Prop}
theorem zrd_h {k v : Int} {ps : List znT} (g : zng k ps) (hp : ∀ p ∈ ps, zrd p.2) : zrd (znh k v ps) := by
  obtain ⟨⟨g1, -⟩, g2, g3, g4, g5, g6⟩ := g
  intro o r ho
  unfold znh
  by_cases c0 : k < 2
  · rw [if_pos c0]
    refine ⟨1, fun f => ?_⟩
    show znsc (f + 1) (o + 1) (k :: v :: r) = _
    rw [znsc_s (by omega), if_pos (by omega)]
    unfold zno
    rw [if_neg (by omega), if_neg (by omega), if_neg (by omega), if_neg (by omega)]
    show znsc f _ r = _
    rw [show o + 1 - 1 + 0 = o by omega]
  · rw [if_neg c0]
    by_cases c2 : k = 2
    · rw [if_pos c2]
      obtain ⟨c, h⟩ := zrd_l (g := fun p => (100 + p.1) :: p.2) ps o r (fun p hp' => by
        intro o r ho
        obtain ⟨c, h⟩ := hp p hp' o r ho
        refine ⟨c + 1, fun f => ?_⟩
        have s := (g6 p hp').1
        show znsc (f + c + 1) (o + 1) ((100 + p.1) :: (p.2 ++ r)) = _
        rw [znsc_s (by omega), if_neg (by omega)]
        unfold zno
        rw [if_neg (by omega), if_pos (by omega), show o + 1 - 1 + 1 = o + 1 by omega, h]) ho
      refine ⟨c + 1, fun f => ?_⟩
      show znsc (f + c + 1) (o + 1) (2 :: (ps.length : Int) :: (ps.flatMap (fun p => (100 + p.1) :: p.2) ++ r)) = _
      rw [znsc_s (by omega), if_pos (by omega)]
      unfold zno
      rw [if_pos (by omega)]
      show znsc (f + c) (o + 1 - 1 + (ps.length : Int)) (ps.flatMap (fun p => (100 + p.1) :: p.2) ++ r) = _
      rw [show o + 1 - 1 + (ps.length : Int) = o + ps.length by omega, h]
    · rw [if_neg c2]
      obtain ⟨c, h⟩ := zrd_l (g := fun p => p.2) ps o r hp ho
      by_cases c3 : k = 3
      · rw [if_pos c3]
        refine ⟨c + 1, fun f => ?_⟩
        show znsc (f + c + 1) (o + 1) (3 :: (ps.length : Int) :: (ps.flatMap (fun p => p.2) ++ r)) = _
        rw [znsc_s (by omega), if_pos (by omega)]
        unfold zno
        rw [if_pos (by omega)]
        show znsc (f + c) (o + 1 - 1 + (ps.length : Int)) (ps.flatMap (fun p => p.2) ++ r) = _
        rw [show o + 1 - 1 + (ps.length : Int) = o + ps.length by omega, h]
      · rw [if_neg c3]
        by_cases c10 : k = 10
        · rw [if_pos c10]
          refine ⟨c + 1, fun f => ?_⟩
          have l4 := g5 c10
          show znsc (f + c + 1) (o + 1) (10 :: v :: (ps.flatMap (fun p => p.2) ++ r)) = _
          rw [znsc_s (by omega), if_pos (by omega)]
          unfold zno
          rw [if_neg (by omega), if_neg (by omega), if_neg (by omega), if_pos rfl]
          show znsc (f + c) (o + 1 - 1 + 4) (ps.flatMap (fun p => p.2) ++ r) = _
          rw [show o + 1 - 1 + 4 = o + (ps.length : Int) by omega, h]
        · rw [if_neg c10]
          refine ⟨c + 1, fun f => ?_⟩
          show znsc (f + c + 1) (o + 1) (k :: (ps.flatMap (fun p => p.2) ++ r)) = _
          rw [znsc_s (by omega), if_neg (by omega)]
          unfold zno
          rw [if_neg (by omega)]
          by_cases c5 : k = 4 ∨ k = 5
          · have l := g3 c5
            rw [if_pos (by omega), show o + 1 - 1 + 1 = o + (ps.length : Int) by omega, h]
          · have l := g4 (by omega)
            rw [if_neg (by omega), if_pos (by omega), show o + 1 - 1 + 2 = o + (ps.length : Int) by omega, h]
theorem zrd_q {o : Int} : ∀ (n : Nat) (x h : Int) (e : List Int), zqE M o n x h e → zrd e
  | 0, _, _, _, q => q.elim
  | n + 1, x, h, e, q => by
    obtain ⟨q1, ps, g, ee, -, -, -, -, hp⟩ := q
    rw [ee]
    refine zrd_h g (fun t ht => ?_)
    obtain ⟨p, pm, e2⟩ := List.mem_map.mp ht
    rw [← e2]
    exact zrd_q n _ _ _ (hp p pm).1
def zapk (eq k : Int) : Bool := if k = 2 then zbt eq 0 else if k = 3 then zbt eq 1 else false
theorem zsg2 {b c : Int} (hb : b = 0 ∨ b = 1) (hc : c = 0 ∨ c = 1) : (1 - 2 * b) * (1 - 2 * c) = 1 - 2 * zbx b c := by
  rcases hb with rfl | rfl <;> rcases hc with rfl | rfl <;> decide
theorem s_adopt (hG : zP G) {o w k v top eq : Int} {n wn : Nat} {ps : List zPe} {q : zPe} {a : Int} (ho : zND o) (he : 0 ≤ eq ∧ eq ≤ 255) (hW : zqW M o w k v top n ps) (hD : zqD w top (ps ++ [q])) (hq : zqE M o n q.1.1 q.1.2 q.2.2) (hb : q.2.1 = 0 ∨ q.2.1 = 1) (hz : znk (wn + 1) q.2.2 a) (cap : ps.length + (znt1 k (zapk eq k) q.2).length ≤ 16)
    (h : ∀ N ps', zqK o w (fun i => w < i) M N → N o 8 = M o 8 → zqW N o w k v top n ps' → zq2 ps' = zq2 ps ++ znt1 k (zapk eq k) q.2 → Q (9, 0) N) : Y G (d + 1) mX1_adopt 0 [(2, o), (0, w), (0, q.1.1), (0, 1 - 2 * q.2.1), (0, eq), (9, 0), (9, 0), (9, 0), (9, 0), (9, 0), (9, 0)] [] M Q := by
  have b0 : zand eq 1 = 0 ↔ ¬ zbt eq 0 = true := zbt_and he 0 (by decide) 1 rfl
  have b1 : zand eq 2 = 0 ↔ ¬ zbt eq 1 = true := zbt_and he 1 (by decide) 2 rfl
  have tb := hW.2.2.2.2.2.2
  have kw := hW.1.1
  have qd := hD.1 q (List.mem_append_right _ (List.mem_cons_self ..))
  have kv := zqE_kv hq
  have up : ∀ l : List zPe, (∀ p ∈ l, w < p.1.1) → ∀ t, (∃ p ∈ l, p.1.1 = t) → w < t := fun l hl t ht => by
    obtain ⟨p, p1, p2⟩ := ht
    have := hl p p1
    omega
  -- as one part
  have one : ¬ (zapk eq k = true ∧ q.2.2.head? = some k) → ∀ x5 x6 : Int, Y G (d + 1) mX1_adopt 55 [(2, o), (0, w), (0, q.1.1), (0, 1 - 2 * q.2.1), (0, eq), (0, x5), (0, x6), (9, 0), (9, 0), (9, 0), (9, 0)] [] M Q := fun no x5 x6 => by
    have e1 : znt1 k (zapk eq k) q.2 = [q.2] := if_neg no
    rw [e1] at cap h
    have l1 : [q.2].length = 1 := rfl
    refine bX1_adopt_55 hG ho (s_append hG ho hW hD hq (by omega) (fun N hN e8 _ hWN => bX1_adopt_62 hG ho (h N (ps ++ [q]) (zqK_mo (up _ (fun p hp => (hD.1 p hp).1)) hN) e8 hWN ?_)))
    unfold zq2
    rw [List.map_append]; rfl
  have apart : zapk eq k = true → q.2.2.head? = some k → (k = 2 ∨ k = 3) → ∀ x5 : Int, Y G (d + 1) mX1_adopt 80 [(2, o), (0, w), (0, q.1.1), (0, 1 - 2 * q.2.1), (0, eq), (0, x5), (0, 1), (0, M (o + 4) q.1.1), (0, M (o + 5) q.1.1), (0, 0), (9, 0)] [] M Q := fun ap hd hk x5 => by
    have e1 : znt1 k (zapk eq k) q.2 = (zps q.2.2).map (fun p => (zbx q.2.1 p.1, p.2)) := if_pos ⟨ap, hd⟩
    rw [e1, List.length_map] at cap
    rw [e1] at h
    match n, hq, hW, h with
    | 0, hq, _, _ => exact hq.elim
    | n + 1, hq, hW, h =>
      obtain ⟨q1, rs, g, ee, v0, ⟨cn, c16⟩, ch, ⟨d1, d2⟩, hp⟩ := hq
      have kk : M (o + 1) q.1.1 = k := by
        have := kv.1
        rw [hd] at this
        injection this with z
        exact z.symm
      obtain ⟨g', ⟨v', e', -⟩, wl⟩ := znk_ps hz hd
      have pz : zps q.2.2 = zq2 rs := by
        have r1 : ∀ t ∈ zps q.2.2, zrd t.2 := fun t ht => by
          obtain ⟨a, ha⟩ := znl_mem _ _ wl t ht
          exact zrd_w _ _ _ ha
        have r2 : ∀ t ∈ zq2 rs, zrd t.2 := fun t ht => by
          obtain ⟨p, pm, e2⟩ := List.mem_map.mp ht
          rw [← e2]
          exact zrd_q n _ _ _ (hp p pm).1
        exact (znh_in g' g r1 r2 (by rw [← e', ← ee])).2
      rw [pz] at h cap
      have lrs : (zq2 rs).length = rs.length := List.length_map _
      rw [lrs] at cap
      -- the pieces with their new signs
      have dj : zqD w top (ps ++ rs) := by
        refine ⟨fun p hp' => ?_, ?_⟩
        · rcases List.mem_append.mp hp' with z | z
          · exact hD.1 p (List.mem_append_left _ z)
          · have := d1 p z; omega
        · rw [List.pairwise_append]
          have hD' := List.pairwise_append.mp hD.2
          refine ⟨hD'.1, d2, fun x hx y hy => ?_⟩
          have z1 := hD'.2.2 x hx q (List.mem_cons_self ..)
          have z2 := d1 y hy
          unfold zqJ at *
          omega
      have nw : ∀ r : zPe, (((r.1, (zbx q.2.1 r.2.1, r.2.2)) : zPe)).1 = r.1 := fun r => rfl
      have lp : ∀ (rem done : List zPe) (x8 : Int) (N : zM), rs = done ++ rem → zqK o w (fun i => w < i) M N → N o 8 = M o 8 → zqW N o w k v top (n + 1) (ps ++ done.map (fun r => (r.1, (zbx q.2.1 r.2.1, r.2.2)))) → zqN N o x8 rem → (∀ r ∈ rem, zqP N o n r) → Y G (d + 1) mX1_adopt 80 [(2, o), (0, w), (0, q.1.1), (0, 1 - 2 * q.2.1), (0, eq), (0, x5), (0, 1), (0, (rs.length : Int)), (0, x8), (0, (done.length : Int)), (9, 0)] [] N Q := fun rem => by
        induction rem with
        | nil =>
          intro done x8 N hrs hK e8 hWN _ _
          have ed : done = rs := by rw [hrs, List.append_nil]
          subst ed
          refine bX1_adopt_80 hG ho ⟨fun _ => h N _ hK e8 hWN ?_, fun c => absurd c (by omega)⟩
          unfold zq2
          rw [List.map_append, List.map_map, List.map_map]; rfl
        | cons r rem ih =>
          intro done x8 N hrs hK e8 hWN hch hpp
          have rm : r ∈ rs := by rw [hrs]; exact List.mem_append_right _ (List.mem_cons_self ..)
          have dr := d1 r rm
          have pr := hpp r (List.mem_cons_self ..)
          have ex : x8 = r.1.1 := hch.1
          have lr : rs.length = done.length + (rem.length + 1) := by rw [hrs, List.length_append, List.length_cons]
          have sb := (g.2.2.2.2.2 r.2 (List.mem_map.mpr ⟨r, rm, rfl⟩)).1
          have tbN := hWN.2.2.2.2.2.2
          refine bX1_adopt_80 hG ho ⟨fun c => absurd c (by omega), fun _ => ?_⟩
          rw [ex, znf_in (x := r.1.1) (by omega), znf_in (x := r.1.1) (by omega), pr.2, zsg2 hb sb]
          refine ⟨by omega, by omega, by unfold zbx; split <;> omega, ?_⟩
          have hD2 : zqD w top ((ps ++ done.map (fun r => (r.1, (zbx q.2.1 r.2.1, r.2.2)))) ++ [(r.1, (zbx q.2.1 r.2.1, r.2.2))]) := by
            have t1 : zqD w top (ps ++ (done ++ [r])) := by
              have : ps ++ rs = (ps ++ (done ++ [r])) ++ rem := by rw [hrs, List.append_assoc, List.append_assoc]; rfl
              rw [this] at dj
              exact zqD_app dj
            have g1 : ∀ l : List zPe, (∀ p ∈ l, w < p.1.1 ∧ p.1.1 < p.1.2 ∧ p.1.2 ≤ top) → ∀ p ∈ l.map (fun r => ((r.1, (zbx q.2.1 r.2.1, r.2.2)) : zPe)), w < p.1.1 ∧ p.1.1 < p.1.2 ∧ p.1.2 ≤ top := fun l hl p hp' => by
              obtain ⟨s, s1, s2⟩ := List.mem_map.mp hp'
              rw [← s2]; exact hl s s1
            have pw := List.pairwise_append.mp t1.2
            have em : (ps ++ done.map (fun r => (r.1, (zbx q.2.1 r.2.1, r.2.2)))) ++ [(r.1, (zbx q.2.1 r.2.1, r.2.2))] = ps ++ (done ++ [r]).map (fun r => ((r.1, (zbx q.2.1 r.2.1, r.2.2)) : zPe)) := by
              rw [List.map_append, List.append_assoc]; rfl
            rw [em]
            refine ⟨fun p hp' => ?_, ?_⟩
            · rcases List.mem_append.mp hp' with z | z
              · exact t1.1 p (List.mem_append_left _ z)
              · exact g1 _ (fun s hs => t1.1 s (List.mem_append_right _ hs)) p z
            · rw [List.pairwise_append]
              refine ⟨pw.1, List.Pairwise.map _ (fun x y hxy => hxy) pw.2.1, fun x hx y hy => ?_⟩
              obtain ⟨s, s1, s2⟩ := List.mem_map.mp hy
              rw [← s2]
              exact pw.2.2 x hx s s1
          refine s_append (q := (r.1, (zbx q.2.1 r.2.1, r.2.2))) hG ho hWN hD2 (zqE_m n _ _ _ _ (Int.le_refl _) pr.1) ?_ (fun N' hN' e8' _ hW' => bX1_adopt_110 hG ho ⟨by omega, ?_⟩)
          · rw [List.length_append, List.length_map]; omega
          · have ndt : ∀ t ∈ rem, ¬ (∃ p ∈ (ps ++ done.map (fun r => (r.1, (zbx q.2.1 r.2.1, r.2.2)))) ++ [((r.1, (zbx q.2.1 r.2.1, r.2.2)) : zPe)], p.1.1 = t.1.1) := fun t ht hx => by
              obtain ⟨p, p1, p2⟩ := hx
              have pw := List.pairwise_append.mp dj.2
              rw [hrs] at pw
              have pw2 := List.pairwise_append.mp pw.2.1
              have dt := d1 t (by rw [hrs]; exact List.mem_append_right _ (List.mem_cons_of_mem _ ht))
              rcases List.mem_append.mp p1 with z | z
              · rcases List.mem_append.mp z with z2 | z2
                · have j := pw.2.2 p z2 t (List.mem_append_right _ (List.mem_cons_of_mem _ ht))
                  have dp := dj.1 p (List.mem_append_left _ z2)
                  unfold zqJ at j
                  omega
                · obtain ⟨s, s1, s2⟩ := List.mem_map.mp z2
                  have j := pw2.2.2 s s1 t (List.mem_cons_of_mem _ ht)
                  have ds := d1 s (by rw [hrs]; exact List.mem_append_left _ s1)
                  rw [← s2] at p2
                  have p2' : s.1.1 = t.1.1 := p2
                  unfold zqJ at j
                  omega
              · have := List.mem_singleton.mp z
                rw [this] at p2
                have p2' : r.1.1 = t.1.1 := p2
                have j := (List.pairwise_cons.mp pw2.2.1).1 t ht
                unfold zqJ at j
                omega
            have in2 : ∀ t ∈ rem, ∀ i, t.1.1 < i → i < t.1.2 → ¬ (∃ p ∈ (ps ++ done.map (fun r => (r.1, (zbx q.2.1 r.2.1, r.2.2)))) ++ [((r.1, (zbx q.2.1 r.2.1, r.2.2)) : zPe)], p.1.1 = i) := fun t ht i i0 i1 hx => by
              obtain ⟨p, p1, p2⟩ := hx
              have tm : t ∈ ps ++ rs := List.mem_append_right _ (by rw [hrs]; exact List.mem_append_right _ (List.mem_cons_of_mem _ ht))
              have key : ∃ s ∈ ps ++ rs, s.1.1 = i := by
                rcases List.mem_append.mp p1 with z | z
                · rcases List.mem_append.mp z with z2 | z2
                  · exact ⟨p, List.mem_append_left _ z2, p2⟩
                  · obtain ⟨s, s1, s2⟩ := List.mem_map.mp z2
                    rw [← s2] at p2
                    exact ⟨s, List.mem_append_right _ (by rw [hrs]; exact List.mem_append_left _ s1), p2⟩
                · have := List.mem_singleton.mp z
                  rw [this] at p2
                  exact ⟨r, List.mem_append_right _ rm, p2⟩
              obtain ⟨s, s1, s2⟩ := key
              exact zqD_t _ dj t tm s s1 (by rw [s2]; exact ⟨i0, i1⟩)
            have nxt := ih (done ++ [r]) (N (o + 7) r.1.1) N' (by rw [hrs, List.append_assoc]; rfl) (zqK_tr hK (zqK_mo (up _ (fun p hp' => (hD2.1 p hp').1)) hN')) (e8'.trans e8) (by rw [List.map_append, ← List.append_assoc]; exact hW') (zqN_c rem _ (fun t ht => by
                rcases hN' (o + 7) t.1.1 with z | z | z | z
                · exact z
                · omega
                · exact absurd z.2 (ndt t ht)
                · omega) hch.2) (fun t ht => by
                have dt := d1 t (by rw [hrs]; exact List.mem_append_right _ (List.mem_cons_of_mem _ ht))
                refine zqP_K hN' (by omega) (in2 t ht) ?_ (hpp t (List.mem_cons_of_mem _ ht))
                rcases hN' (o + 3) t.1.1 with z | z | z | z
                · exact z
                · omega
                · exact absurd z.2 (ndt t ht)
                · omega)
            rw [List.length_append, List.length_singleton, show ((done.length + 1 : Nat) : Int) = done.length + 1 by omega] at nxt
            exact nxt
      rw [cn]
      exact lp rs [] _ M rfl zqK_rf rfl (by rw [List.map_nil, List.append_nil]; exact hW) ch (fun r hr => ⟨(hp r hr).1, (hp r hr).2⟩)
  -- which way
  have kx := kv.1
  refine bX1_adopt_0 hG ho ?_
  rw [znf_in (x := q.1.1) (by omega)]
  have w33 : ∀ x5, x5 = M (o + 1) q.1.1 → (x5 = 2 ∧ zbt eq 0 = true ∨ x5 = 3 ∧ zbt eq 1 = true) → Y G (d + 1) mX1_adopt 33 [(2, o), (0, w), (0, q.1.1), (0, 1 - 2 * q.2.1), (0, eq), (0, x5), (9, 0), (9, 0), (9, 0), (9, 0), (9, 0)] [] M Q := fun x5 e5 hx => by
    refine bX1_adopt_33 hG ho ?_
    rw [znf_in (x := w) (by omega), kw, znf_in (x := q.1.1) (by omega), znf_in (x := q.1.1) (by omega)]
    refine ⟨by omega, fun z => ⟨by omega, by omega, apart ?_ (by rw [kx, ← e5, z]) (by omega) x5⟩, fun z => one (fun y => ?_) _ _⟩
    · unfold zapk
      rcases hx with ⟨y1, y2⟩ | ⟨y1, y2⟩
      · rw [if_pos (by omega)]; exact y2
      · rw [if_neg (by omega), if_pos (by omega)]; exact y2
    · have := y.2
      rw [kx] at this
      injection this with t
      omega
  have w37 : ¬ (zapk eq k = true ∧ q.2.2.head? = some k) → ∀ x5 : Int, Y G (d + 1) mX1_adopt 37 [(2, o), (0, w), (0, q.1.1), (0, 1 - 2 * q.2.1), (0, eq), (0, x5), (9, 0), (9, 0), (9, 0), (9, 0), (9, 0)] [] M Q := fun no x5 => bX1_adopt_37 hG ho (one no _ _)
  have nap : ∀ y : Int, M (o + 1) q.1.1 = y → (y = 2 → ¬ zbt eq 0 = true) → (y = 3 → ¬ zbt eq 1 = true) → ¬ (zapk eq k = true ∧ q.2.2.head? = some k) := fun y hy h2 h3 z => by
    have := z.2
    rw [kx, hy] at this
    injection this with t
    subst t
    have za := z.1
    unfold zapk at za
    by_cases c2 : y = 2
    · rw [if_pos c2] at za; exact h2 c2 za
    · rw [if_neg c2] at za
      by_cases c3 : y = 3
      · rw [if_pos c3] at za; exact h3 c3 za
      · rw [if_neg c3] at za; exact absurd za (by decide)
  have tt : ∀ b : Bool, ¬ ¬ b = true → b = true := fun b hb => by cases b; exact absurd (by decide) hb; rfl
  have w20 : (M (o + 1) q.1.1 = 2 → ¬ zbt eq 0 = true) → Y G (d + 1) mX1_adopt 20 [(2, o), (0, w), (0, q.1.1), (0, 1 - 2 * q.2.1), (0, eq), (0, M (o + 1) q.1.1), (9, 0), (9, 0), (9, 0), (9, 0), (9, 0)] [] M Q := fun n2 => by
    refine bX1_adopt_20 hG ho ⟨fun z => w37 (nap _ rfl n2 (fun y => absurd y z)) _, fun z => ⟨fun z2 => w37 (nap _ rfl n2 (fun _ => b1.mp z2)) _, fun z2 => w33 _ rfl (Or.inr ⟨z, tt _ (fun y => z2 (b1.mpr y))⟩)⟩⟩
  exact ⟨by omega, fun z => w20 (fun y => absurd y z), fun z => ⟨fun z2 => w33 _ rfl (Or.inl ⟨z, tt _ (fun y => z2 (b0.mpr y))⟩), fun z2 => w20 (fun _ => b0.mp z2)⟩⟩
end YJ

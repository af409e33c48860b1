section YF
variable {G : zG} {d : Nat} {M : zM} {Q : zV → zM → Prop}
theorem zbt_and {x : Int} (hx : 0 ≤ x ∧ x ≤ 255) (i : Nat) (hi : i < 8) (p : Int) (hp : p = ((2 ^ i : Nat) : Int)) : zand x p = 0 ↔ ¬ zbt x i = true := by
  obtain ⟨n, rfl⟩ := Int.eq_ofNat_of_zero_le hx.1
  rw [hp, zand_n (by omega)]
  unfold zbt
  rw [Int.toNat_natCast, Int.toNat_natCast]
  constructor
  · intro z
    have z0 : n &&& 2 ^ i = 0 := by omega
    have t := congrArg (fun y => Nat.testBit y i) z0
    simp only [Nat.testBit_and, Nat.testBit_two_pow_self, Nat.zero_testBit, Bool.and_true] at t
    rw [t]; exact Bool.false_ne_true
  · intro z
    have t : Nat.testBit n i = false := by
      cases hh : Nat.testBit n i with
      | true => exact absurd hh z
      | false => rfl
    have z0 : n &&& 2 ^ i = 0 := Nat.eq_of_testBit_eq (fun j => by
      rw [Nat.testBit_and, Nat.testBit_two_pow, Nat.zero_testBit]
      by_cases c : i = j
      · subst c; rw [t, Bool.false_and]
      · rw [decide_eq_false c, Bool.and_false])
    rw [z0]; rfl
theorem zqE_kv {o : Int} {n : Nat} {x h : Int} {e : List Int} (q : zqE M o n x h e) : e.head? = some (M (o + 1) x) ∧ (M (o + 1) x = 0 → e = [0, M (o + 2) x]) := by
  cases n with
  | zero => exact q.elim
  | succ n =>
    obtain ⟨q1, ps, g, ee, -⟩ := q
    rw [ee]
    refine ⟨znh_hd, fun z => ?_⟩
    unfold znh
    rw [if_pos (by omega), z]
theorem zqE_u {o : Int} {n : Nat} {x h : Int} {e : List Int} (q : zqE M o n x h e) (b : Int) : znu (b, e) ↔ M (o + 1) x = 0 := by
  have := (zqE_kv q).1
  show e.head? = some 0 ↔ _
  rw [this]
  exact ⟨fun z => by injection z, fun z => by rw [z]⟩
theorem zqE_v {o : Int} {n : Nat} {x h : Int} {e : List Int} (q : zqE M o n x h e) (z : M (o + 1) x = 0) : znv e = M (o + 2) x := by
  rw [(zqE_kv q).2 z]; rfl
theorem s_chainParts (hG : zP G) {o w k v top : Int} {n m : Nat} {ps : List zPe} {A : Int → zPe} (ho : zND o) (hW : zqW M o w k v top n ps) (hA : zrA M o A m) (hP : ∀ j, 0 ≤ j → j < (m : Int) → zqP M o n (A j)) (hD : zqD w top (zLp A m)) (m16 : m ≤ 16) (h : ∀ N, zqK o w (fun t => ∃ p ∈ zLp A m, p.1.1 = t) M N → N o 8 = M o 8 → zrA N o A m → zqW N o w k v top n (zLp A m) → Q (9, 0) N) : Y G (d + 1) mX1_chainParts 0 [(2, o), (0, w), (0, (m : Int)), (9, 0)] [] M Q := by
  have ft : ∀ i, (zLp A i).filter (fun _ => true) = zLp A i := fun i => List.filter_eq_self.mpr (fun _ _ => rfl)
  have lp : ∀ (r i : Nat) (N : zM), i + r = m → zqS M N o w k v top n A m (fun _ => true) i → Y G (d + 1) mX1_chainParts 7 [(2, o), (0, w), (0, (m : Int)), (0, (i : Int))] [] N Q := fun r => by
    induction r with
    | zero =>
      intro i N hi hS
      have : i = m := by omega
      subst this
      obtain ⟨s1, s2, s3, s4, s5⟩ := hS
      rw [ft] at s1
      exact bX1_chainParts_7 hG ho ⟨fun _ => h N s3 s5 s4 s1, fun c => absurd c (by omega)⟩
    | succ r ih =>
      intro i N hi hS
      have tb := hS.1.2.2.2.2.2.2
      refine bX1_chainParts_7 hG ho ⟨fun c => absurd c (by omega), fun _ => ⟨fun c => absurd c (by omega), fun _ => ⟨by omega, by omega, by omega, ?_⟩⟩⟩
      exact s_reb hG ho hD m16 (by omega) hS rfl (fun N1 hN1 => bX1_chainParts_42 hG ho ⟨by omega, ih (i + 1) N1 (by omega) hN1⟩)
  refine bX1_chainParts_0 hG ho (s_dropParts hG ho hW (fun N hN e8 e88 hW1 => bX1_chainParts_5 hG ho (lp m 0 N (by omega) ⟨hW1, fun j j0 j1 => ?_, zqK_mo (fun _ z => z.elim) hN, fun j j0 j1 => by rw [e88]; exact hA j j0 j1, e8⟩)))
  have dj := hD.1 _ ((zLp_mem m).mpr ⟨j, by omega, by omega, rfl⟩)
  refine zqP_K hN dj.1 (fun i _ _ z => z) ?_ (hP j (by omega) (by omega))
  rcases hN (o + 3) (A j).1.1 with q | q | q | q
  · exact q
  · omega
  · exact q.2.elim
  · omega
theorem zq2_fil (f : zPe → Bool) (g : znT → Bool) (hfg : ∀ p, f p = g p.2) : ∀ ps : List zPe, zq2 (ps.filter f) = (zq2 ps).filter g
  | [] => rfl
  | p :: ps => by
    have ih := zq2_fil f g hfg ps
    show List.map _ (List.filter f (p :: ps)) = List.filter g (p.2 :: zq2 ps)
    rw [List.filter_cons, List.filter_cons, hfg p]
    by_cases c : g p.2 = true
    · rw [if_pos c, if_pos c]
      show p.2 :: zq2 (ps.filter f) = _
      rw [ih]
    · rw [if_neg c, if_neg c]; exact ih
theorem s_cleaveOut (hG : zP G) {o w k u told top : Int} {n : Nat} {ps : List zPe} (ho : zND o) (hW : zqW M o w k 0 top n ps) (h0 : told = 0 → Q (9, 0) M) (h : told ≠ 0 → ∀ N qs, zqK o w (fun t => ∃ p ∈ ps, p.1.1 = t) M N → N o 8 = M o 8 → zq2 qs = znlo u (zq2 ps) → (∀ p ∈ qs, p ∈ ps) → (qs ≠ [] → zqW N o w k 0 top n qs) → (qs = [] → zqW N o w 0 u top n []) → Q (9, 0) N) : Y G (d + 2) mX1_leaveOut 0 [(2, o), (0, w), (0, u), (0, told), (9, 0), (9, 0)] [] M Q := by
  refine bX1_leaveOut_0 hG ho ⟨fun c => ?_, h0⟩
  obtain ⟨A, hAl⟩ := zLp_of ps
  obtain ⟨m, hm⟩ : ∃ m, m = ps.length := ⟨_, rfl⟩
  rw [← hm] at hAl
  rw [← hAl] at hW h
  have m16 : m ≤ 16 := by have := hW.2.1.2; rw [zLp_len] at this; exact this
  have hD := hW.2.2.2.2.1
  have fz := zq2_fil (fun p => decide (p.2.2 ≠ [0, u])) (fun t => decide (t.2 ≠ [0, u])) (fun _ => rfl) (zLp A m)
  have lp : ∀ (r i : Nat) (N : zM), i + r = m → zqS M N o w k 0 top n A m (fun p => decide (p.2.2 ≠ [0, u])) i → Y G (d + 2) mX1_leaveOut 20 [(2, o), (0, w), (0, u), (0, told), (0, (m : Int)), (0, (i : Int))] [] N Q := fun r => by
    induction r with
    | zero =>
      intro i N hi hS
      have : i = m := by omega
      subst this
      obtain ⟨s1, s2, s3, s4, s5⟩ := hS
      have tb := s1.2.2.2.2.2.2
      have cw := s1.2.1.1
      refine bX1_leaveOut_20 hG ho ⟨fun _ => ⟨by omega, ?_⟩, fun c => absurd c (by omega)⟩
      rw [znf_in (by omega), cw]
      refine ⟨fun z => h c N _ s3 s5 fz (fun p hp => (List.mem_filter.mp hp).1) (fun _ => s1) (fun e => absurd (by rw [e]; rfl) z), fun z => ?_⟩
      have em : (zLp A i).filter (fun p => decide (p.2.2 ≠ [0, u])) = [] := List.length_eq_zero_iff.mp (by omega)
      rw [em] at s1
      refine s_become hG ho s1 (fun N1 hN1 e8 hW1 => bX1_leaveOut_100 hG ho (h c N1 [] (zqK_tr s3 (zqK_mo (fun _ z => z.elim) hN1)) (e8.trans s5) ?_ (fun p hp => (List.not_mem_nil hp).elim) (fun z => absurd rfl z) (fun _ => hW1)))
      rw [em] at fz; exact fz
    | succ r ih =>
      intro i N hi hS
      have tb := hS.1.2.2.2.2.2.2
      have hAi := hS.2.2.2.1 i (by omega) (by omega)
      have pi := hS.2.1 i (by omega) (by omega)
      have di := hD.1 _ ((zLp_mem m).mpr ⟨(i : Int), by omega, by omega, rfl⟩)
      have kv := zqE_kv pi.1
      have go : decide ((A i).2.2 ≠ [0, u]) = true → Y G (d + 1) mX1_append 0 [(2, o), (0, w), (0, N (o + 8) i), (0, znf N o 3 (N (o + 8) i) 1), (9, 0)] [] N (fun r M' => Y G (d + 1 + 1) mX1_leaveOut 79 [(2, o), (0, w), (0, u), (0, told), (0, (m : Int)), (0, (i : Int))] (zpush r []) M' Q) := fun hf =>
        s_reb hG ho hD m16 (by omega) hS hf (fun N1 hN1 => bX1_leaveOut_79 hG ho ⟨by omega, ih (i + 1) N1 (by omega) hN1⟩)
      refine bX1_leaveOut_20 hG ho ⟨fun c => absurd c (by omega), fun _ => ⟨by omega, by omega, fun z => ⟨by omega, by omega, by omega, go ?_⟩, fun z => ⟨by omega, by omega, fun z2 => ⟨by omega, ih (i + 1) N (by omega) (zqS_skip hS ?_)⟩, fun z2 => ⟨by omega, by omega, by omega, go ?_⟩⟩⟩⟩
      · rw [hAi, znf_in (by omega)] at z
        rw [decide_eq_true_eq]
        intro e
        rw [e] at kv
        exact z (by have := kv.1; injection this with q; exact q.symm)
      · rw [hAi, znf_in (by omega)] at z z2
        rw [decide_eq_false_iff_not]
        exact fun q => q (by rw [kv.2 z, z2])
      · rw [hAi, znf_in (by omega)] at z z2
        rw [decide_eq_true_eq]
        intro e
        have := kv.2 z
        rw [e] at this
        injection this with _ q
        injection q with q _
        exact z2 q.symm
  refine s_collectParts hG ho hW (fun N hN hA => bX1_leaveOut_10 hG ho ?_)
  obtain ⟨hW1, e8⟩ := zqW_8 hN hW
  have hK1 : zqK o w (fun t => ∃ p ∈ zLp A m, p.1.1 = t) M N := fun a i => (hN a i).imp id (fun q => Or.inr (Or.inr q))
  refine s_dropParts hG ho hW1 (fun N2 hN2 e82 e88 hW2 => bX1_leaveOut_17 hG ho (lp m 0 N2 (by omega) ⟨hW2, fun j j0 j1 => ?_, zqK_tr hK1 (zqK_mo (fun _ z => z.elim) hN2), fun j j0 j1 => by rw [e88]; exact hA j j0 j1, e82.trans e8⟩))
  have mj := (zLp_mem (T := A) m).mpr ⟨j, by omega, by omega, rfl⟩
  have dj := hD.1 _ mj
  refine zqP_K hN2 dj.1 (fun i _ _ z => z) ?_ (hW1.2.2.2.2.2.1 _ mj)
  rcases hN2 (o + 3) (A j).1.1 with q | q | q | q
  · exact q
  · omega
  · exact q.2.elim
  · omega
/-- numbers worked out, one more -/
def zkwn (k a : Int) (t : znT) : Int := zcl (if k = 2 then a + (1 - 2 * t.1) * znv t.2 else if k = 3 then a * ((1 - 2 * t.1) * znv t.2) else if k = 8 then max a ((1 - 2 * t.1) * znv t.2) else min a ((1 - 2 * t.1) * znv t.2))
theorem s_workNumbers (hG : zP G) {o w k v top eq : Int} {n : Nat} {ps : List zPe} (ho : zND o) (he : 0 ≤ eq ∧ eq ≤ 255) (hW : zqW M o w k v top n ps) (hk : k = 2 ∨ k = 3 ∨ k = 8 ∨ k = 9) (hs : ∀ p ∈ ps, p.2.1 = 0 ∨ p.2.1 = 1) (hb : ∀ p ∈ ps, znu p.2 → zb6 (znv p.2.2)) (h0 : ¬ (zbt eq 7 = true ∧ ps ≠ [] ∧ ∀ p ∈ ps, znu p.2) → Q (9, 0) M)
    (h : zbt eq 7 = true → ps ≠ [] → (∀ p ∈ ps, znu p.2) → ∀ N, zqK o w (fun _ => False) M N → N o 8 = M o 8 → zqW N o w 0 ((zq2 ps).foldl (zkwn k) (if k = 2 then 0 else if k = 3 then 1 else znv ((zq2 ps).headD (0, [])).2)) top n [] → Q (9, 0) N) : Y G (d + 2) mX1_workNumbers 0 [(2, o), (0, w), (0, eq), (9, 0), (9, 0), (9, 0), (9, 0), (9, 0)] [] M Q := by
  have b7 := zbt_and he 7 (by decide) 128 rfl
  obtain ⟨⟨h1, h2⟩, ⟨h3, h3'⟩, h4, h5, h6, h7, h8⟩ := id hW
  obtain ⟨A, hAl⟩ := zLp_of ps
  obtain ⟨m, hm⟩ : ∃ m, m = ps.length := ⟨_, rfl⟩
  rw [← hm] at hAl h3 h3'
  have c12 := zqN_i (M := M) (o := o) (A := A) m (M (o + 5) w) (by rw [hAl]; exact h4)
  have mem : ∀ i : Int, 0 ≤ i → i < (m : Int) → A i ∈ ps := fun i i0 i1 => by rw [← hAl]; exact (zLp_mem m).mpr ⟨i, i0, i1, rfl⟩
  generalize hI : (if k = 2 then (0 : Int) else if k = 3 then 1 else znv ((zq2 ps).headD (0, [])).2) = I at h
  have lp : ∀ (r i : Nat) (x : Int), i + r = m → 0 < m → zbt eq 7 = true → (∀ j, 0 ≤ j → j < (i : Int) → znu (A j).2) → (0 < r → x = (A i).1.1) → zb6 I → Y G (d + 2) mX1_workNumbers 60 [(2, o), (0, w), (0, eq), (0, k), (0, x), (1, (zq2 (zLp A i)).foldl (zkwn k) I), (9, 0), (0, (i : Int))] [] M Q := fun r => by
    induction r with
    | zero =>
      intro i x hi m0 q7 hu hx hIb
      have : i = m := by omega
      subst this
      have fb : zb6 ((zq2 (zLp A i)).foldl (zkwn k) I) := by
        have gen : ∀ (l : List znT) (a : Int), zb6 a → zb6 (l.foldl (zkwn k) a) := fun l => by
          induction l with
          | nil => exact fun a ha => ha
          | cons t l ih => exact fun a _ => ih _ (zcl_b6 _)
        exact gen _ _ hIb
      refine bX1_workNumbers_60 hG ho ⟨by omega, fun _ => ?_, fun c => absurd c (by rw [znf_in (by omega)]; omega)⟩
      rw [zw_of (by unfold zb6 at fb; show -2147483648 ≤ _ ∧ _ ≤ 2147483647; omega)]
      refine s_become hG ho hW (fun N hN e8 hW1 => bX1_workNumbers_127 hG ho (h q7 (fun z => ?_) (fun p hp => ?_) N hN e8 ?_))
      · rw [z] at hm; exact absurd hm (by show ¬ i = 0; omega)
      · rw [← hAl] at hp
        obtain ⟨j, j0, j1, e⟩ := (zLp_mem i).mp hp
        rw [← e]; exact hu j j0 j1
      · rw [hAl] at hW1; exact hW1
    | succ r ih =>
      intro i x hi m0 q7 hu hx hIb
      have ex := hx (by omega)
      have mi := mem i (by omega) (by omega)
      have di := h6.1 _ mi
      have pi := h7 _ mi
      have si := hs _ mi
      have fb : zb6 ((zq2 (zLp A i)).foldl (zkwn k) I) := by
        have gen : ∀ (l : List znT) (a : Int), zb6 a → zb6 (l.foldl (zkwn k) a) := fun l => by
          induction l with
          | nil => exact fun a ha => ha
          | cons t l ih => exact fun a _ => ih _ (zcl_b6 _)
        exact gen _ _ hIb
      refine bX1_workNumbers_60 hG ho ?_
      rw [znf_in (x := w) (by omega), h3, ex, znf_in (x := (A i).1.1) (by omega), znf_in (x := (A i).1.1) (by omega), znf_in (x := (A i).1.1) (by omega)]
      refine ⟨by omega, fun c => absurd c (by omega), fun _ => ⟨by omega, fun z => ?_, fun z => h0 (fun q => z ((zqE_u pi.1 _).mp (q.2.2 _ mi)))⟩⟩
      have ui : znu (A i).2 := (zqE_u pi.1 (A i).2.1).mpr z
      have vi := zqE_v pi.1 z
      have vb := hb _ mi ui
      rw [pi.2, ← vi]
      have st : (zq2 (zLp A (i + 1))).foldl (zkwn k) I = zkwn k ((zq2 (zLp A i)).foldl (zkwn k) I) (A i).2 := by
        show (List.map _ (zLp A i ++ [A i])).foldl _ _ = _
        rw [List.map_append, List.foldl_append]; rfl
      have nx := fun x => ih (i + 1) x (by omega) m0 q7 (fun j j0 j1 => by
        by_cases c : j = i
        · rw [c]; exact ui
        · exact hu j j0 (by omega)) 
      rw [st] at nx
      unfold zkwn at nx
      have cont : ∀ y, y = zkwn k ((zq2 (zLp A i)).foldl (zkwn k) I) (A i).2 → Y G (d + 1 + 1) mX1_workNumbers 101 [(2, o), (0, w), (0, eq), (0, k), (0, (A i).1.1), (1, (zq2 (zLp A i)).foldl (zkwn k) I), (9, 0), (0, (i : Int))] [(0, y)] M Q := fun y hy => by
        refine bX1_workNumbers_101 hG ho ⟨by omega, by omega, ?_⟩
        rw [znf_in (by omega), hy]
        refine nx _ (fun hr => ?_) hIb
        have := c12.2 i (by omega) (by omega)
        rw [this]
        show _ = (A ((i + 1 : Nat) : Int)).1.1
        rw [show ((i + 1 : Nat) : Int) = (i : Int) + 1 by omega]
      have mul : zb6 ((1 - 2 * (A i).2.1) * znv (A i).2.2) := by
        unfold zb6 at *
        rcases si with e | e <;> rw [e] <;> omega
      have mm := zb6_mul fb mul
      refine ⟨by omega, by omega, zin1 (by unfold zb6 at mul; omega), bX1_workedWith_0 hG ⟨fun k2 => ⟨zin1 (by unfold zb6 at *; omega), cont _ ?_⟩, fun k3 => ⟨zin1 (by omega), cont _ ?_⟩, fun k8 => cont _ ?_, fun k9 => cont _ ?_⟩⟩
      · unfold zkwn; rw [if_pos k2]
      · unfold zkwn; rw [if_neg (by omega), if_pos k3]
      · unfold zkwn; rw [if_neg (by omega), if_neg (by omega), if_pos k8]
      · unfold zkwn; rw [if_neg k9.1, if_neg k9.2.1, if_neg k9.2.2]
  refine bX1_workNumbers_0 hG ho ?_
  rw [znf_in (x := w) (by omega), znf_in (x := w) (by omega), znf_in (x := w) (by omega), h1, h3]
  refine ⟨by omega, by omega, fun z => h0 (fun q => b7.mp z q.1), fun z => ⟨by omega, fun z2 => ?_, fun z2 => h0 (fun q => q.2.1 (List.length_eq_zero_iff.mp (by omega)))⟩⟩
  have q7 : zbt eq 7 = true := by
    cases hh : zbt eq 7 with
    | true => rfl
    | false => exact absurd (b7.mpr (by show ¬ zbt eq 7 = true; rw [hh]; exact Bool.false_ne_true)) z
  have m0 : 0 < m := by omega
  have first := c12.1 m0
  refine ⟨fun k2 => ⟨fun k3 => ⟨by omega, ?_⟩, fun k3 => ?_⟩, fun k2 => ?_⟩
  · have m0' := mem 0 (by omega) (by omega)
    have d0 := h6.1 _ m0'
    have p0 := h7 _ m0'
    rw [first, znf_in (by omega)]
    rw [if_neg k2, if_neg k3] at hI
    have eh : (zq2 ps).headD (0, []) = (A 0).2 := by
      rw [← hAl]
      have : ∀ r : Nat, (zq2 (zLp A (r + 1))).headD (0, []) = (A 0).2 := fun r => by
        induction r with
        | zero => rfl
        | succ r ih =>
          rw [← ih]
          show (List.map _ (zLp A (r + 1) ++ [A ((r + 1 : Nat) : Int)])).headD _ = _
          rw [List.map_append]
          cases hz : (List.map (fun p => p.2) (zLp A (r + 1)) : List znT) with
          | nil =>
            have := congrArg List.length hz
            rw [List.length_map, zLp_len] at this
            exact absurd this (Nat.succ_ne_zero _)
          | cons a l => show a = (zq2 (zLp A (r + 1))).headD (0, []); unfold zq2; rw [hz]; rfl
      have := this (m - 1)
      rw [show m - 1 + 1 = m by omega] at this
      exact this
    rw [eh] at hI
    by_cases u0 : znu (A 0).2
    · have v0 := zqE_v p0.1 ((zqE_u p0.1 _).mp u0)
      have := lp m 0 (A 0).1.1 (by omega) m0 q7 (fun j j0 j1 => absurd j1 (by omega)) (fun _ => rfl) (by rw [← hI]; exact hb _ m0' u0)
      rw [← v0, hI]
      exact this
    · -- the first is no number
      have kn : ¬ M (o + 1) (A 0).1.1 = 0 := fun z => u0 ((zqE_u p0.1 _).mpr z)
      refine bX1_workNumbers_60 hG ho ?_
      rw [znf_in (x := w) (by omega), h3, znf_in (x := (A 0).1.1) (by omega)]
      exact ⟨by omega, fun c => absurd c (by omega), fun _ => ⟨by omega, fun z => absurd z kn, fun _ => h0 (fun q => u0 (q.2.2 _ m0'))⟩⟩
  · rw [if_neg k2, if_pos k3] at hI
    have := lp m 0 (M (o + 5) w) (by omega) m0 q7 (fun j j0 j1 => absurd j1 (by omega)) (fun _ => first) (by rw [← hI]; unfold zb6; omega)
    rw [← hI] at this
    exact this
  · rw [if_pos k2] at hI
    have := lp m 0 (M (o + 5) w) (by omega) m0 q7 (fun j j0 j1 => absurd j1 (by omega)) (fun _ => first) (by rw [← hI]; unfold zb6; omega)
    rw [← hI] at this
    exact this
end YF

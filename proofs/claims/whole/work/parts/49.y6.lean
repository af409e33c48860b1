section Y6
variable {G : zG} {d : Nat} {M : zM} {Q : zV → zM → Prop}
def znE1 (N : zM) (i : Int) (t : znT) : Prop := N 254 i = t.1 ∧ N 256 i = (t.2.length : Int) ∧ (0 ≤ N 255 i ∧ N 255 i + t.2.length ≤ 600) ∧ zat (N 251) (N 255 i) t.2
def zwt (w : Nat) (l : List znT) : Prop := ∀ t ∈ l, ∃ a, znk (w + 1) t.2 a
theorem s_isNumber (hG : zP G) {i : Int} {t : znT} {w : Nat} (ht : ∃ a, znk (w + 1) t.2 a) (he : znE1 M i t) (h1 : znu t → Q (0, 1) M) (h0 : ¬ znu t → Q (0, 0) M) : Y G d mX12_isNumber 0 [(2, 234), (0, M 255 i)] [] M Q := by
  obtain ⟨a, ha⟩ := ht
  have ge := znk_ge ha
  obtain ⟨-, -, e3, e4⟩ := he
  have hd := zat_hd (a := 0) e4 ge
  exact bX12_isNumber_0 hG ⟨by omega, fun c => h0 (fun q => c (hd.mpr q)), fun c => h1 (hd.mp c)⟩
theorem znE1_v {i : Int} {t : znT} {w : Nat} (ht : ∃ a, znk (w + 1) t.2 a) (he : znE1 M i t) (hu : znu t) : t.2 = [0, znv t.2] ∧ zb6 (znv t.2) ∧ M 251 (M 255 i + 1) = znv t.2 ∧ M 255 i + 1 < 600 := by
  obtain ⟨a, ha⟩ := ht
  obtain ⟨n1, n2⟩ := znk_no ha hu
  obtain ⟨-, -, e3, e4⟩ := he
  have e4' := e4
  rw [n1] at e4'
  have l := congrArg List.length n1
  have l2 : [0, znv t.2].length = 2 := rfl
  exact ⟨n1, n2, e4'.2.1, by omega⟩
theorem s_leaveOut (hG : zP G) {u : Int} {T : Int → znT} {n w : Nat} (hT : zTm M T n) (hw : zwt w (zLs T n)) (h : ∀ N T' m, zfr ztF M N → N 251 = M 251 → zTm N T' m → zLs T' m = znlo u (zLs T n) → Q (9, 0) N) : Y G (d + 1) mX12_leaveOut 0 [(2, 234), (0, u), (9, 0), (9, 0)] [] M Q := by
  obtain ⟨t1, t2, t3⟩ := hT
  have lp : ∀ (k i : Nat) (N : zM) (T' : Int → znT) (m : Nat), i + k = n → m ≤ i → zfr ztF M N → N 251 = M 251 → N 234 40 = n → (∀ j, 0 ≤ j → j < (m : Int) → znE1 N j (T' j)) → (∀ j, (i : Int) ≤ j → j < (n : Int) → znE1 N j (T j)) → zLs T' m = znlo u (zLs T i) → Y G (d + 1) mX12_leaveOut 4 [(2, 234), (0, u), (0, (m : Int)), (0, (i : Int))] [] N Q := fun k => by
    induction k with
    | zero =>
      intro i N T' m hi hm hN r h40 hA hB hL
      have : i = n := by omega
      subst this
      refine bX12_leaveOut_4 hG ⟨fun _ => h _ T' m (zfr_set hN (zhit_at 3 rfl ⟨by decide, by decide⟩)) ((zset_off (by decide)).trans r) ⟨zset_same, by omega, fun j j0 j1 => ?_⟩ hL, fun c => absurd c (by omega)⟩
      have := hA j j0 j1
      unfold znE1 at this
      rw [zset_off (show (251 : Int) ≠ 234 by decide), zset_off (show (254 : Int) ≠ 234 by decide), zset_off (show (255 : Int) ≠ 234 by decide), zset_off (show (256 : Int) ≠ 234 by decide)]
      exact this
    | succ k ih =>
      intro i N T' m hi hm hN r h40 hA hB hL
      have ei := hB i (by omega) (by omega)
      have wi := hw (T i) ((zLs_mem n).mpr ⟨i, by omega, by omega, rfl⟩)
      have pre : znlo u (zLs T (i + 1)) = znlo u (zLs T i) ++ (if decide ((T i).2 ≠ [0, u]) = true then [T i] else []) := by
        show List.filter _ (zLs T i ++ [T i]) = _
        rw [List.filter_append, List.filter_cons]; rfl
      have keep : (T i).2 ≠ [0, u] → Y G (d + 1) mX12_leaveOut 4 [(2, 234), (0, u), (0, (m : Int) + 1), (0, (i : Int) + 1)] [] (zset (zset (zset N 254 m (N 254 i)) 255 m (N 255 i)) 256 m (N 256 i)) Q := fun ne => by
        have r1 : zset (zset (zset N 254 m (N 254 i)) 255 m (N 255 i)) 256 m (N 256 i) 251 = N 251 := by
          rw [zset_off (by decide), zset_off (by decide), zset_off (by decide)]
        refine ih (i + 1) _ (zupT T' m (T i)) (m + 1) (by omega) (by omega) (zfr_set (zfr_set (zfr_set hN (zhit_at 0 rfl ⟨by omega, by omega⟩)) (zhit_at 1 rfl ⟨by omega, by omega⟩)) (zhit_at 2 rfl ⟨by omega, by omega⟩)) (r1.trans r) (by rw [zset_off (by decide), zset_off (by decide), zset_off (by decide)]; exact h40) (fun j j0 j1 => ?_) (fun j j0 j1 => ?_) ?_
        · unfold znE1
          rw [r1]
          simp only [zset_ap, Int.reduceEq, ↓reduceIte]
          by_cases c : j = m
          · subst c
            rw [if_pos rfl, if_pos rfl, if_pos rfl, zupT_at]; exact ei
          · rw [if_neg c, if_neg c, if_neg c, zupT_ne c]; exact hA j j0 (by omega)
        · unfold znE1
          rw [r1]
          simp only [zset_ap, Int.reduceEq, ↓reduceIte]
          rw [if_neg (by omega), if_neg (by omega), if_neg (by omega)]
          exact hB j (by omega) j1
        · rw [pre, if_pos (by rw [decide_eq_true_eq]; exact ne), ← hL]
          show zLs (zupT T' m (T i)) m ++ [zupT T' m (T i) m] = _
          rw [zLs_c (T := T') m (fun j j0 j1 => zupT_ne (by omega)), zupT_at]
      refine bX12_leaveOut_4 hG ?_
      rw [h40]
      refine ⟨fun c => absurd c (by omega), fun _ => ⟨by omega, ?_⟩⟩
      refine s_isNumber hG wi ei (fun hu => ?_) (fun hu => ?_)
      · obtain ⟨v1, v2, v3, v4⟩ := znE1_v wi ei hu
        have e3 := ei.2.2.1
        refine bX12_leaveOut_22 hG ⟨fun z => absurd z (by decide), fun _ => ?_⟩
        rw [v3]
        refine ⟨by omega, by omega, by omega, fun z => ⟨by omega, by omega, by omega, by omega, by omega, by omega, by omega, by omega, keep (fun q => z ?_)⟩, fun z => ⟨by omega, ?_⟩⟩
        · rw [q]; rfl
        · refine ih (i + 1) N T' m (by omega) (by omega) hN r h40 hA (fun j j0 j1 => hB j (by omega) j1) ?_
          rw [pre, if_neg (by rw [decide_eq_true_eq]; intro q; exact q (by rw [v1, z])), List.append_nil, hL]
      · have ne : (T i).2 ≠ [0, u] := fun q => hu (by show (T i).2.head? = some 0; rw [q]; rfl)
        exact bX12_leaveOut_22 hG ⟨fun _ => ⟨by omega, by omega, by omega, by omega, by omega, by omega, by omega, by omega, keep ne⟩, fun z => absurd rfl z⟩
  exact bX12_leaveOut_0 hG (lp n 0 M (fun _ => (0, [])) 0 (by omega) (by omega) zfr_rfl rfl t1 (fun j j0 j1 => absurd j1 (by omega)) (fun j j0 j1 => t3 j (by omega) j1) rfl)
theorem s_areNumbers (hG : zP G) {T : Int → znT} {n w : Nat} (hT : zTm M T n) (hw : zwt w (zLs T n)) (h1 : (∀ x ∈ zLs T n, znu x) → Q (0, 1) M) (h0 : ¬ (∀ x ∈ zLs T n, znu x) → Q (0, 0) M) : Y G (d + 1) mX12_areNumbers 0 [(2, 234), (9, 0)] [] M Q := by
  obtain ⟨t1, t2, t3⟩ := hT
  have lp : ∀ (k i : Nat), i + k = n → (∀ j, 0 ≤ j → j < (i : Int) → znu (T j)) → Y G (d + 1) mX12_areNumbers 2 [(2, 234), (0, (i : Int))] [] M Q := fun k => by
    induction k with
    | zero =>
      intro i hi hA
      refine bX12_areNumbers_2 hG ⟨fun _ => h1 (fun x hx => ?_), fun c => absurd c (by omega)⟩
      obtain ⟨j, j0, j1, e⟩ := (zLs_mem n).mp hx
      rw [← e]; exact hA j j0 (by omega)
    | succ k ih =>
      intro i hi hA
      have wi := hw (T i) ((zLs_mem n).mpr ⟨i, by omega, by omega, rfl⟩)
      refine bX12_areNumbers_2 hG ?_
      rw [t1]
      refine ⟨fun c => absurd c (by omega), fun _ => ⟨by omega, ?_⟩⟩
      refine s_isNumber hG wi (t3 i (by omega) (by omega)) (fun hu => ?_) (fun hu => ?_)
      · refine bX12_areNumbers_20 hG ⟨fun _ => ⟨by omega, ih (i + 1) (by omega) (fun j j0 j1 => ?_)⟩, fun z => absurd z (by decide)⟩
        by_cases c : j = i
        · rw [c]; exact hu
        · exact hA j j0 (by omega)
      · exact bX12_areNumbers_20 hG ⟨fun z => absurd rfl z, fun _ => h0 (fun q => hu (q (T i) ((zLs_mem n).mpr ⟨i, by omega, by omega, rfl⟩)))⟩
  exact bX12_areNumbers_0 hG (lp n 0 (by omega) (fun j j0 j1 => absurd j1 (by omega)))
theorem s_worked (hG : zP G) {k0 : Int} (hk : k0 = 2 ∨ k0 = 3) {T : Int → znT} {n w : Nat} (hT : zTm M T n) (hw : zwt w (zLs T n)) (hu : ∀ x ∈ zLs T n, znu x) (h : Q (0, znwk k0 (zLs T n)) M) : Y G (d + 1) mX12_worked 0 [(2, 234), (0, k0), (9, 0), (9, 0), (9, 0), (9, 0), (9, 0)] [] M Q := by
  obtain ⟨t1, t2, t3⟩ := hT
  have lp : ∀ (k i : Nat), i + k = n → Y G (d + 1) mX12_worked 14 [(2, 234), (0, k0), (1, znwk k0 (zLs T i)), (9, 0), (0, (i : Int)), (9, 0), (9, 0)] [] M Q := fun k => by
    induction k with
    | zero =>
      intro i hi
      have : i = n := by omega
      subst this
      have b := znwk_b (k := k0) (zLs T i)
      refine bX12_worked_14 hG ⟨fun _ => ?_, fun c => absurd c (by omega)⟩
      rw [zw_of (by unfold zb6 at b; show -2147483648 ≤ _ ∧ _ ≤ 2147483647; omega)]
      exact h
    | succ k ih =>
      intro i hi
      have mi := (zLs_mem n).mpr ⟨(i : Int), by omega, by omega, (rfl : T i = T i)⟩
      have wi := hw (T i) mi
      have ei : znE1 M i (T i) := t3 i (by omega) (by omega)
      obtain ⟨v1, v2, v3, v4⟩ := znE1_v wi ei (hu _ mi)
      have e3 := ei.2.2.1
      have b := znwk_b (k := k0) (zLs T i)
      have st : znwk k0 (zLs T (i + 1)) = znk1 k0 (znwk k0 (zLs T i)) (T i) := by
        show List.foldl _ _ (zLs T i ++ [T i]) = _
        rw [List.foldl_append]; rfl
      have nx := ih (i + 1) (by omega)
      rw [st] at nx
      unfold znk1 at nx
      have e1 := ei.1
      refine bX12_worked_14 hG ?_
      rw [t1, v3, e1]
      have mul := zb6_mul b v2
      unfold zb6 at b v2
      refine ⟨fun c => absurd c (by omega), fun _ => ⟨by omega, by omega, by omega, fun c => ⟨by omega, fun c2 => ⟨zin1 (by omega), by omega, ?_⟩, fun c2 => ⟨zin1 (by omega), by omega, ?_⟩⟩, fun c => ⟨zin1 (by omega), by omega, ?_⟩⟩⟩
      · rw [if_neg c, if_neg c2] at nx; exact nx
      · rw [if_neg c, if_pos c2] at nx; exact nx
      · rw [if_pos c] at nx; exact nx
  refine bX12_worked_0 hG ⟨fun c => ?_, fun c => ?_⟩
  · have q := lp n 0 (by omega)
    have e : znwk k0 (zLs T 0) = 1 := by show (if k0 = 2 then (0 : Int) else 1) = 1; rw [if_neg c]
    rw [e] at q; exact q
  · have q := lp n 0 (by omega)
    have e : znwk k0 (zLs T 0) = 0 := by show (if k0 = 2 then (0 : Int) else 1) = 0; rw [if_pos c]
    rw [e] at q; exact q
theorem s_exchange (hG : zP G) {T : Int → znT} {n : Nat} {i k : Int} (hT : zTm M T n) (hi : 0 ≤ i ∧ i < (n : Int)) (hk : 0 ≤ k ∧ k < (n : Int)) (hik : i ≠ k) (h : ∀ N, zfr ztF M N → N 251 = M 251 → zTm N (zsw T i k) n → Q (9, 0) N) : Y G d mX12_exchange 0 [(2, 234), (0, i), (0, k), (9, 0), (9, 0), (9, 0)] [] M Q := by
  obtain ⟨t1, t2, t3⟩ := hT
  refine bX12_exchange_0 hG ⟨by omega, by omega, by omega, by omega, by omega, by omega, by omega, by omega, by omega, by omega, by omega, by omega, ?_⟩
  have r1 : zset (zset (zset (zset (zset (zset M 254 i (M 254 k)) 255 i (M 255 k)) 256 i (M 256 k)) 254 k (M 254 i)) 255 k (M 255 i)) 256 k (M 256 i) 251 = M 251 := by
    rw [zset_off (by decide), zset_off (by decide), zset_off (by decide), zset_off (by decide), zset_off (by decide), zset_off (by decide)]
  refine h _ (zfr_set (zfr_set (zfr_set (zfr_set (zfr_set (zfr_set zfr_rfl (zhit_at 0 rfl ⟨by omega, by omega⟩)) (zhit_at 1 rfl ⟨by omega, by omega⟩)) (zhit_at 2 rfl ⟨by omega, by omega⟩)) (zhit_at 0 rfl ⟨by omega, by omega⟩)) (zhit_at 1 rfl ⟨by omega, by omega⟩)) (zhit_at 2 rfl ⟨by omega, by omega⟩)) r1 ⟨?_, t2, fun j j0 j1 => ?_⟩
  · rw [zset_off (by decide), zset_off (by decide), zset_off (by decide), zset_off (by decide), zset_off (by decide), zset_off (by decide)]; exact t1
  · rw [r1]
    simp only [zset_ap, Int.reduceEq, ↓reduceIte]
    unfold zsw
    by_cases c : j = k
    · subst c
      rw [if_pos rfl, if_pos rfl, if_pos rfl, zupT_at]; exact t3 i hi.1 hi.2
    · rw [if_neg c, if_neg c, if_neg c, zupT_ne c]
      by_cases c2 : j = i
      · subst c2
        rw [if_pos rfl, if_pos rfl, if_pos rfl, zupT_at]; exact t3 k hk.1 hk.2
      · rw [if_neg c2, if_neg c2, if_neg c2, zupT_ne c2]; exact t3 j j0 j1
theorem s_isAhead (hG : zP G) {T : Int → znT} {n : Nat} {i k : Int} (hT : zTm M T n) (hi : 0 ≤ i ∧ i < (n : Int)) (hk : 0 ≤ k ∧ k < (n : Int)) (h1 : ¬ znle (T k) (T i) → Q (0, 1) M) (h0 : znle (T k) (T i) → Q (0, 0) M) : Y G (d + 1) mX12_isAhead 0 [(2, 234), (0, i), (0, k)] [] M Q := by
  obtain ⟨t1, t2, t3⟩ := hT
  obtain ⟨a1, a2, a3, a4⟩ := t3 i hi.1 hi.2
  obtain ⟨b1, b2, b3, b4⟩ := t3 k hk.1 hk.2
  have op := znc_op (T i).2 (T k).2
  refine bX12_isAhead_0 hG ?_
  rw [a1, b1, a2, b2]
  refine ⟨by omega, by omega, fun c => ⟨by omega, by omega, by omega, by omega, ?_⟩, fun c => ⟨by omega, by omega, fun c2 => h0 (Or.inl (by omega)), fun c2 => h1 (fun q => ?_)⟩⟩
  · refine s_compared hG a3 b3 a4 b4 (fun x x1 x2 => bX12_isAhead_64 hG ⟨fun z => h0 (Or.inr ⟨c.symm, ?_⟩), fun z => h1 (fun q => ?_)⟩)
    · have : ¬ znc (T i).2 (T k).2 < 0 := fun q => by have := x1.mpr q; omega
      omega
    · have := x1.mp z
      rcases q with q | q <;> omega
  · rcases q with q | q <;> omega
theorem s_setInOrder (hG : zP G) {T : Int → znT} {n : Nat} (hT : zTm M T n) (h : ∀ N T', zfr ztF M N → N 251 = M 251 → zTm N T' n → zLs T' n = znso (zLs T n) → Q (9, 0) N) : Y G (d + 2) mX12_setInOrder 0 [(2, 234), (9, 0), (9, 0)] [] M Q := by
  have n40 := hT.2.1
  have lp : ∀ (k i : Nat) (N : zM) (T' : Int → znT), i + k = n → zfr ztF M N → N 251 = M 251 → zTm N T' n → (zLs T' n).Perm (zLs T n) → (∀ a b, 0 ≤ a → a < (i : Int) → a < b → b < (n : Int) → znle (T' a) (T' b)) → Y G (d + 2) mX12_setInOrder 2 [(2, 234), (0, (i : Int)), (9, 0)] [] N Q := fun k => by
    induction k with
    | zero =>
      intro i N T' hi hN r hT' hp hs
      have : i = n := by omega
      subst this
      refine bX12_setInOrder_2 hG ⟨fun _ => h N T' hN r hT' (znso_u hp (zLs_pw i (fun a b a0 ab b1 => hs a b a0 (by omega) ab b1))), fun c => absurd c ?_⟩
      rw [hT'.1]; omega
    | succ k ih =>
      intro i N T' hi hN r hT' hp hs
      have inner : ∀ (c j : Nat) (N : zM) (T' : Int → znT), j + c = n → i < j → zfr ztF M N → N 251 = M 251 → zTm N T' n → (zLs T' n).Perm (zLs T n) → (∀ a b, 0 ≤ a → a < (i : Int) → a < b → b < (n : Int) → znle (T' a) (T' b)) → (∀ b, (i : Int) < b → b < (j : Int) → znle (T' i) (T' b)) → Y G (d + 2) mX12_setInOrder 14 [(2, 234), (0, (i : Int)), (0, (j : Int))] [] N Q := fun c => by
        induction c with
        | zero =>
          intro j N T' hj hij hN r hT' hp hs hm
          refine bX12_setInOrder_14 hG ?_
          rw [hT'.1]
          refine ⟨fun _ => ⟨by omega, ih (i + 1) N T' (by omega) hN r hT' hp (fun a b a0 a1 ab b1 => ?_)⟩, fun z => absurd z (by omega)⟩
          by_cases q : a = i
          · rw [q]; exact hm b (by omega) (by omega)
          · exact hs a b a0 (by omega) ab b1
        | succ c ih2 =>
          intro j N T' hj hij hN r hT' hp hs hm
          refine bX12_setInOrder_14 hG ?_
          rw [hT'.1]
          refine ⟨fun z => absurd z (by omega), fun _ => ?_⟩
          refine s_isAhead hG hT' (by omega) (by omega) (fun q => ?_) (fun q => ?_)
          · refine bX12_setInOrder_28 hG ⟨fun z => absurd z (by decide), fun _ => ?_⟩
            refine s_exchange hG hT' (by omega) (by omega) (by omega) (fun N1 hN1 r1 hT1 => bX12_setInOrder_37 hG ⟨by omega, ?_⟩)
            have tot : znle (T' j) (T' i) := by
              rcases znle_to (T' i) (T' j) with w | w
              · exact absurd w q
              · exact w
            have ei : zsw T' i j i = T' j := by unfold zsw; rw [zupT_ne (by omega), zupT_at]
            have ej : zsw T' i j j = T' i := by unfold zsw; rw [zupT_at]
            have eo : ∀ x : Int, x ≠ (i : Int) → x ≠ (j : Int) → zsw T' i j x = T' x := fun x x1 x2 => by unfold zsw; rw [zupT_ne x2, zupT_ne x1]
            refine ih2 (j + 1) N1 _ (by omega) (by omega) (zfr_trans hN hN1) (r1.trans r) hT1 ((zsw_perm (by omega) (by omega) (by omega)).trans hp) (fun a b a0 a1 ab b1 => ?_) (fun b b0 b1 => ?_)
            · rw [eo a (by omega) (by omega)]
              by_cases w : b = i
              · rw [w, ei]; exact hs a j a0 a1 (by omega) (by omega)
              · by_cases w2 : b = j
                · rw [w2, ej]; exact hs a i a0 a1 (by omega) (by omega)
                · rw [eo b w w2]; exact hs a b a0 a1 ab b1
            · rw [ei]
              by_cases w2 : b = j
              · rw [w2, ej]; exact tot
              · rw [eo b (by omega) w2]; exact znle_tr tot (hm b b0 (by omega))
          · refine bX12_setInOrder_28 hG ⟨fun _ => ⟨by omega, ?_⟩, fun z => absurd rfl z⟩
            refine ih2 (j + 1) N T' (by omega) (by omega) hN r hT' hp hs (fun b b0 b1 => ?_)
            by_cases w2 : b = j
            · rw [w2]; exact q
            · exact hm b b0 (by omega)
      refine bX12_setInOrder_2 hG ?_
      rw [hT'.1]
      refine ⟨fun z => absurd z (by omega), fun _ => ⟨by omega, ?_⟩⟩
      exact inner (n - (i + 1)) (i + 1) N T' (by omega) (by omega) hN r hT' hp hs (fun b b0 b1 => absurd b1 (by omega))
  exact bX12_setInOrder_0 hG (lp n 0 M T (by omega) zfr_rfl rfl hT (List.Perm.refl _) (fun a b a0 a1 => absurd a1 (by omega)))
end Y6

section ST2
variable {G : zG} {d : Nat} {M : zM} {Q : zV → zM → Prop} {B : Int → Int} {n f b : Int}
theorem st_R10 : ∀ U, zO G U → vk_R RX8 83 zwords (G.2.2.2.2.1 (10 : Int).toNat) U := fun U h => h.2.2.2.1.1
theorem st_R11 : ∀ U, zO G U → vk_R RX8 94 zsigns (G.2.2.2.2.1 (11 : Int).toNat) U := fun U h => h.2.2.2.1.2
theorem st_l10 : ((st_L 10).length : Int) = 119 := by decide
/-- what the loop over the words finds -/
def st_r (B : Int → Int) (f L : Int) : List Int → Int → Int → Int → Int
  | [], _, _, _ => 1
  | c :: l, w, t, s => if c = 32 then (if s = 1 ∧ t = L then 20 + w else st_r B f L l (w + 1) 0 1) else st_r B f L l w (t + 1) (if s = 1 ∧ c = B (f + t) then 1 else 0)
theorem st_96 {w t s : Int} {k : Nat} (hk : k < 119) (h : Y G (d + 4) mX8_sortOfLetters 11 [(2, 13), (0, f), (0, b), (0, w), (0, t), (0, s), (0, ((k + 1 : Nat) : Int))] [] M Q) : Y G (d + 4) mX8_sortOfLetters 96 [(2, 13), (0, f), (0, b), (0, w), (0, t), (0, s), (0, (k : Int))] [] M Q := by
  refine y_iinc (ls' := [(2, 13), (0, f), (0, b), (0, w), (0, t), (0, s), (0, ((k + 1 : Nat) : Int))]) dX8_sortOfLetters_96 rfl rfl ⟨by omega, by omega⟩ rfl ?_
  exact z_goto (tgt := 11) dX8_sortOfLetters_99 rfl h
theorem st_61 {w t s s' : Int} {k : Nat} (hk : k < 119) (ht : 0 ≤ t ∧ t ≤ k) (h : Y G (d + 4) mX8_sortOfLetters 11 [(2, 13), (0, f), (0, b), (0, w), (0, t + 1), (0, s'), (0, ((k + 1 : Nat) : Int))] [] M Q) : Y G (d + 4) mX8_sortOfLetters 61 [(2, 13), (0, f), (0, b), (0, w), (0, t), (0, s), (0, (k : Int))] [(0, s')] M Q := by
  refine y_istore (ls' := [(2, 13), (0, f), (0, b), (0, w), (0, t), (0, s'), (0, (k : Int))]) dX8_sortOfLetters_61 rfl rfl ?_
  refine y_iinc (ls' := [(2, 13), (0, f), (0, b), (0, w), (0, t + 1), (0, s'), (0, (k : Int))]) dX8_sortOfLetters_63 rfl rfl ⟨by omega, by omega⟩ rfl ?_
  exact z_goto (tgt := 96) dX8_sortOfLetters_66 rfl (st_96 hk h)
theorem st_87 {w t s : Int} {k : Nat} (hk : k < 119) (hw : 0 ≤ w ∧ w ≤ k) (h : Y G (d + 4) mX8_sortOfLetters 11 [(2, 13), (0, f), (0, b), (0, w + 1), (0, 0), (0, 1), (0, ((k + 1 : Nat) : Int))] [] M Q) : Y G (d + 4) mX8_sortOfLetters 87 [(2, 13), (0, f), (0, b), (0, w), (0, t), (0, s), (0, (k : Int))] [] M Q := by
  refine y_iinc (ls' := [(2, 13), (0, f), (0, b), (0, w + 1), (0, t), (0, s), (0, (k : Int))]) dX8_sortOfLetters_87 rfl rfl ⟨by omega, by omega⟩ rfl ?_
  refine z_iconst dX8_sortOfLetters_90 ki_0 ?_
  refine y_istore (ls' := [(2, 13), (0, f), (0, b), (0, w + 1), (0, 0), (0, s), (0, (k : Int))]) dX8_sortOfLetters_91 rfl rfl ?_
  refine z_iconst dX8_sortOfLetters_93 ki_1 ?_
  refine y_istore (ls' := [(2, 13), (0, f), (0, b), (0, w + 1), (0, 0), (0, 1), (0, (k : Int))]) dX8_sortOfLetters_94 rfl rfl ?_
  exact st_96 hk h
theorem st_lp (hG : zP G) (hB : lx_B B n) (hC : lx_C B n M) (hf : 0 ≤ f ∧ f ≤ 300) (hb : 0 ≤ b ∧ b ≤ 300) : ∀ (l : List Int) (k : Nat) (w t s : Int), st_w.drop k = l → k ≤ 119 → 0 ≤ w ∧ w ≤ k → 0 ≤ t ∧ t ≤ k → (s = 0 ∨ s = 1) → Q (0, st_r B f (b - f) l w t s) M → Y G (d + 4) mX8_sortOfLetters 11 [(2, 13), (0, f), (0, b), (0, w), (0, t), (0, s), (0, (k : Int))] [] M Q
  | [], k, w, t, s, hl, hk, hw, ht, hs, hq => by
    have h1 : st_w.length ≤ k := List.drop_eq_nil_iff.mp hl
    have h2 : st_w.length = 119 := by decide
    refine z_iload dX8_sortOfLetters_11 rfl ?_
    refine z_ldcs (x := 10) dX8_sortOfLetters_13 st_R10 ?_
    refine z_callt (mt2 := mJ0_length_8abf5) (en := [(4, 10)]) (st := [(0, (k : Int))]) (as := []) dX8_sortOfLetters_15 lX8_85 kJ0_length_8abf5 iJ0_length_8abf5 eJ0_length_8abf5 rfl (Or.inl rfl) rfl (Nat.le_of_ble_eq_true rfl) (Nat.le_of_ble_eq_true rfl) rfl (Nat.le_refl _) (s_Jlen (Or.inl rfl) ?_)
    rw [st_l10]
    show Y G (d + 4) mX8_sortOfLetters 18 [(2, 13), (0, f), (0, b), (0, w), (0, t), (0, s), (0, (k : Int))] [(0, 119), (0, (k : Int))] M Q
    refine z_icmpge (tgt := 102) dX8_sortOfLetters_18 rfl (fun _ => ?_) (fun q => absurd q (by omega))
    refine z_iconst dX8_sortOfLetters_102 ki_1 ?_
    exact z_ireturn dX8_sortOfLetters_103 (Or.inl rfl) rfl hq
  | c :: l, k, w, t, s, hl, hk, hw, ht, hs, hq => by
    have h2 : st_w.length = 119 := by decide
    have h1 : k < 119 := by
      rcases Nat.lt_or_ge k 119 with q | q
      · exact q
      · rw [List.drop_eq_nil_iff.mpr (by omega)] at hl; cases hl
    have hc : st_c 10 k = c := by
      have e : (st_w.drop k)[0]? = some c := by rw [hl]; rfl
      rw [List.getElem?_drop] at e
      show st_w.getD (k : Int).toNat 0 = c
      rw [Int.toNat_natCast, List.getD_eq_getElem?_getD, show k = k + 0 from rfl, e]; rfl
    have hd : st_w.drop (k + 1) = l := by
      rw [show st_w.drop (k + 1) = (st_w.drop k).drop 1 by rw [List.drop_drop], hl]; rfl
    have hi : 0 ≤ (k : Int) ∧ (k : Int) < ((st_L 10).length : Int) := by rw [st_l10]; omega
    have next : ∀ w' t' s' : Int, 0 ≤ w' ∧ w' ≤ (k + 1 : Nat) → 0 ≤ t' ∧ t' ≤ (k + 1 : Nat) → (s' = 0 ∨ s' = 1) → Q (0, st_r B f (b - f) l w' t' s') M → Y G (d + 4) mX8_sortOfLetters 11 [(2, 13), (0, f), (0, b), (0, w'), (0, t'), (0, s'), (0, ((k + 1 : Nat) : Int))] [] M Q := fun w' t' s' a1 a2 a3 a4 => st_lp hG hB hC hf hb l (k + 1) w' t' s' hd h1 a1 a2 a3 a4
    unfold st_r at hq
    refine z_iload dX8_sortOfLetters_11 rfl ?_
    refine z_ldcs (x := 10) dX8_sortOfLetters_13 st_R10 ?_
    refine z_callt (mt2 := mJ0_length_8abf5) (en := [(4, 10)]) (st := [(0, (k : Int))]) (as := []) dX8_sortOfLetters_15 lX8_85 kJ0_length_8abf5 iJ0_length_8abf5 eJ0_length_8abf5 rfl (Or.inl rfl) rfl (Nat.le_of_ble_eq_true rfl) (Nat.le_of_ble_eq_true rfl) rfl (Nat.le_refl _) (s_Jlen (Or.inl rfl) ?_)
    rw [st_l10]
    show Y G (d + 4) mX8_sortOfLetters 18 [(2, 13), (0, f), (0, b), (0, w), (0, t), (0, s), (0, (k : Int))] [(0, 119), (0, (k : Int))] M Q
    refine z_icmpge (tgt := 102) dX8_sortOfLetters_18 rfl (fun q => absurd q (by omega)) (fun _ => ?_)
    refine z_ldcs (x := 10) dX8_sortOfLetters_21 st_R10 ?_
    refine z_iload dX8_sortOfLetters_23 rfl ?_
    refine z_callt (mt2 := mJ0_charAt_5068e) (en := [(4, 10), (0, (k : Int))]) (st := []) (as := [(0, (k : Int))]) dX8_sortOfLetters_25 lX8_90 kJ0_charAt_5068e iJ0_charAt_5068e eJ0_charAt_5068e rfl (Or.inl rfl) rfl (Nat.le_of_ble_eq_true rfl) (Nat.le_of_ble_eq_true rfl) rfl (Nat.le_refl _) (s_JchA (Or.inl rfl) hi ?_)
    rw [hc]
    show Y G (d + 4) mX8_sortOfLetters 28 [(2, 13), (0, f), (0, b), (0, w), (0, t), (0, s), (0, (k : Int))] [(0, c)] M Q
    refine z_bipush dX8_sortOfLetters_28 kb_32 ?_
    refine z_icmpeq (tgt := 69) dX8_sortOfLetters_30 rfl (fun q => ?_) (fun q => ?_)
    · rw [if_pos q] at hq
      refine z_iload dX8_sortOfLetters_69 rfl ?_
      refine z_ifeq (tgt := 87) dX8_sortOfLetters_71 rfl (fun q2 => ?_) (fun q2 => ?_)
      · rw [if_neg (by omega)] at hq
        exact st_87 h1 hw (next _ _ _ ⟨by omega, by omega⟩ ⟨by omega, by omega⟩ (Or.inr rfl) hq)
      · refine z_iload dX8_sortOfLetters_74 rfl ?_
        refine z_iloadn dX8_sortOfLetters_76 rfl ?_
        refine z_iloadn dX8_sortOfLetters_77 rfl ?_
        refine z_isub dX8_sortOfLetters_78 ⟨by omega, by omega⟩ ?_
        refine z_icmpne (tgt := 87) dX8_sortOfLetters_79 rfl (fun q3 => ?_) (fun q3 => ?_)
        · rw [if_neg (fun z => q3 z.2)] at hq
          exact st_87 h1 hw (next _ _ _ ⟨by omega, by omega⟩ ⟨by omega, by omega⟩ (Or.inr rfl) hq)
        · rw [if_pos ⟨by omega, q3⟩] at hq
          refine z_bipush dX8_sortOfLetters_82 kb_20 ?_
          refine z_iloadn dX8_sortOfLetters_84 rfl ?_
          refine z_iadd dX8_sortOfLetters_85 ⟨by omega, by omega⟩ ?_
          exact z_ireturn dX8_sortOfLetters_86 (Or.inl rfl) rfl hq
    · rw [if_neg q] at hq
      refine z_iload dX8_sortOfLetters_33 rfl ?_
      refine z_ifeq (tgt := 60) dX8_sortOfLetters_35 rfl (fun q2 => ?_) (fun q2 => ?_)
      · rw [if_neg (fun z => by omega)] at hq
        refine z_iconst dX8_sortOfLetters_60 ki_0 ?_
        exact st_61 h1 ht (next _ _ _ ⟨by omega, by omega⟩ ⟨by omega, by omega⟩ (Or.inl rfl) hq)
      · refine z_ldcs (x := 10) dX8_sortOfLetters_38 st_R10 ?_
        refine z_iload dX8_sortOfLetters_40 rfl ?_
        refine z_callt (mt2 := mJ0_charAt_5068e) (en := [(4, 10), (0, (k : Int))]) (st := []) (as := [(0, (k : Int))]) dX8_sortOfLetters_42 lX8_90 kJ0_charAt_5068e iJ0_charAt_5068e eJ0_charAt_5068e rfl (Or.inl rfl) rfl (Nat.le_of_ble_eq_true rfl) (Nat.le_of_ble_eq_true rfl) rfl (Nat.le_refl _) (s_JchA (Or.inl rfl) hi ?_)
        rw [hc]
        show Y G (d + 4) mX8_sortOfLetters 45 [(2, 13), (0, f), (0, b), (0, w), (0, t), (0, s), (0, (k : Int))] [(0, c)] M Q
        refine z_aloadn dX8_sortOfLetters_45 rfl (Or.inl rfl) ?_
        refine z_iloadn dX8_sortOfLetters_46 rfl ?_
        refine z_iload dX8_sortOfLetters_47 rfl ?_
        refine z_iadd dX8_sortOfLetters_49 ⟨by omega, by omega⟩ ?_
        refine y_cv (mt2 := mX8_byteAt) (en := [(2, 13), (0, f + t)]) (st := [(0, c)]) (as := [(0, f + t)]) dX8_sortOfLetters_50 lX8_31 kX8_byteAt iX8_byteAt eX8_byteAt rfl sh13 (by decide +kernel) (Nat.le_of_ble_eq_true rfl) (Nat.le_of_ble_eq_true rfl) rfl (s_byteAt hG ?_)
        rw [lx_cb hB hC]
        show Y G (d + 4) mX8_sortOfLetters 53 [(2, 13), (0, f), (0, b), (0, w), (0, t), (0, s), (0, (k : Int))] [(0, B (f + t)), (0, c)] M Q
        refine z_icmpne (tgt := 60) dX8_sortOfLetters_53 rfl (fun q3 => ?_) (fun q3 => ?_)
        · rw [if_neg (fun z => q3 z.2)] at hq
          refine z_iconst dX8_sortOfLetters_60 ki_0 ?_
          exact st_61 h1 ht (next _ _ _ ⟨by omega, by omega⟩ ⟨by omega, by omega⟩ (Or.inl rfl) hq)
        · rw [if_pos ⟨by omega, q3⟩] at hq
          refine z_iconst dX8_sortOfLetters_56 ki_1 ?_
          refine z_goto (tgt := 61) dX8_sortOfLetters_57 rfl ?_
          exact st_61 h1 ht (next _ _ _ ⟨by omega, by omega⟩ ⟨by omega, by omega⟩ (Or.inr rfl) hq)
/-- one word -/
theorem st_one {L : Int} : ∀ (w l : List Int) (k t s : Int), (∀ c ∈ w, c ≠ 32) → (s = 0 ∨ s = 1) → st_r B f L (w ++ 32 :: l) k t s = if s = 1 ∧ t + w.length = L ∧ lx_eq B (f + t) w = true then 20 + k else st_r B f L l (k + 1) 0 1
  | [], l, k, t, s, hw, hs => by
    show (if (32 : Int) = 32 then _ else _) = _
    rw [if_pos rfl]
    by_cases c : s = 1 ∧ t = L
    · rw [if_pos c, if_pos ⟨c.1, by simpa using c.2, rfl⟩]
    · rw [if_neg c, if_neg (fun z => c ⟨z.1, by simpa using z.2.1⟩)]
  | a :: w, l, k, t, s, hw, hs => by
    show (if a = 32 then _ else _) = _
    rw [if_neg (hw a List.mem_cons_self)]
    have ih := st_one (L := L) w l k (t + 1) (if s = 1 ∧ a = B (f + t) then 1 else 0) (fun c hc => hw c (List.mem_cons_of_mem _ hc)) (by split <;> omega)
    refine ih.trans ?_
    have e : lx_eq B (f + t) (a :: w) = (decide (B (f + t) = a) && lx_eq B (f + t + 1) w) := rfl
    rw [e, show f + (t + 1) = f + t + 1 by omega]
    by_cases c1 : s = 1 ∧ a = B (f + t)
    · rw [if_pos c1]
      have e2 : (decide (B (f + t) = a) && lx_eq B (f + t + 1) w) = lx_eq B (f + t + 1) w := by rw [decide_eq_true c1.2.symm]; rfl
      rw [e2]
      have e3 : ((1 : Int) = 1 ∧ t + 1 + (w.length : Int) = L ∧ lx_eq B (f + t + 1) w = true) ↔ (s = 1 ∧ t + ((a :: w).length : Int) = L ∧ lx_eq B (f + t + 1) w = true) := by
        rw [List.length_cons]
        refine ⟨fun z => ⟨c1.1, by have := z.2.1; omega, z.2.2⟩, fun z => ⟨rfl, by have := z.2.1; omega, z.2.2⟩⟩
      by_cases c3 : s = 1 ∧ t + ((a :: w).length : Int) = L ∧ lx_eq B (f + t + 1) w = true
      · rw [if_pos c3, if_pos (e3.mpr c3)]
      · rw [if_neg c3, if_neg (fun z => c3 (e3.mp z))]
    · rw [if_neg c1, if_neg (fun z => absurd z.1 (by decide)), if_neg (fun z => ?_)]
      obtain ⟨z1, -, z3⟩ := z
      rw [Bool.and_eq_true, decide_eq_true_eq] at z3
      exact c1 ⟨z1, z3.1.symm⟩
theorem st_all {L : Int} : ∀ (ws : List (List Int)) (k : Int), (∀ w ∈ ws, ∀ c ∈ w, c ≠ 32) → st_r B f L (ws.flatMap (fun w => w ++ [32])) k 0 1 = lx_wi B f L ws (20 + k)
  | [], k, _ => rfl
  | w :: ws, k, h => by
    rw [List.flatMap_cons, List.append_assoc, List.singleton_append, st_one w _ k 0 1 (h w List.mem_cons_self) (Or.inr rfl), st_all ws (k + 1) (fun u hu => h u (List.mem_cons_of_mem _ hu))]
    show _ = if (w.length : Int) = L ∧ lx_eq B f w = true then 20 + k else lx_wi B f L ws (20 + k + 1)
    rw [show f + 0 = f by omega, show 20 + (k + 1) = 20 + k + 1 by omega]
    by_cases c : (w.length : Int) = L ∧ lx_eq B f w = true
    · rw [if_pos c, if_pos ⟨rfl, by omega, c.2⟩]
    · rw [if_neg c, if_neg (fun z => c ⟨by have := z.2.1; omega, z.2.2⟩)]
theorem st_fl : st_w = lx_ws.flatMap (fun w => w ++ [32]) := by decide +kernel
theorem st_n32 : ∀ w ∈ lx_ws, ∀ c ∈ w, c ≠ 32 := by decide +kernel
theorem s_sortOf (hG : zP G) (hB : lx_B B n) (hC : lx_C B n M) (h0 : 0 ≤ f) (h1 : f < b) (h2 : b ≤ n) (hq : Q (0, lx_wi B f (b - f) lx_ws 20) M) : Y G (d + 20) mX8_sortOfLetters 0 [(2, 13), (0, f), (0, b), (9, 0), (9, 0), (9, 0), (9, 0)] [] M Q := by
  have n3 := hB.1
  refine bX8_sortOfLetters_0 hG ?_
  refine st_lp (d := d + 16) hG hB hC ⟨h0, by omega⟩ ⟨by omega, by omega⟩ st_w 0 0 0 1 rfl (Nat.zero_le _) ⟨by omega, by omega⟩ ⟨by omega, by omega⟩ (Or.inr rfl) ?_
  rw [st_fl, st_all lx_ws 0 st_n32]
  exact hq
theorem st_sg (c : Int) (h : 0 ≤ c ∧ c ≤ 255) : lx_si c = if st_f (zi2b c) st_s 0 < 0 then 1 else 3 + st_f (zi2b c) st_s 0 := by
  have q : ∀ k : Fin 256, lx_si (k.val : Int) = if st_f (zi2b (k.val : Int)) st_s 0 < 0 then 1 else 3 + st_f (zi2b (k.val : Int)) st_s 0 := by decide +kernel
  have := q ⟨c.toNat, by omega⟩
  simp only [Int.toNat_of_nonneg h.1] at this
  exact this
theorem st_fr (c : Int) : ∀ (l : List Int) (k : Int), 0 ≤ k → k + l.length ≤ 1000 → -1 ≤ st_f c l k ∧ st_f c l k ≤ 1000
  | [], k, h, h2 => by show -1 ≤ (-1 : Int) ∧ (-1 : Int) ≤ 1000; omega
  | b :: l, k, h, h2 => by
    rw [List.length_cons] at h2
    have ih := st_fr c l (k + 1) (by omega) (by omega)
    show -1 ≤ (if b = c then k else st_f c l (k + 1)) ∧ (if b = c then k else st_f c l (k + 1)) ≤ 1000
    split <;> omega
theorem s_takeSg (hG : zP G) (hB : lx_B B n) (hC : lx_C B n M) (h0 : 0 ≤ f) (h1 : f < n) (h5 : 0 ≤ M 13 5 ∧ M 13 5 < 301) (hq : Q (0, if lx_2 B f then f + 2 else f + 1) (lx_ad M (lx_s2 B f) f 0)) : Y G (d + 20) mX8_takeSign 0 [(2, 13), (0, f), (9, 0), (9, 0)] [] M Q := by
  have n3 := hB.1
  have bf := hB.2.2 f h0 h1
  unfold lx_s2 at hq
  refine z_aloadn dX8_takeSign_0 rfl (Or.inl rfl) ?_
  refine z_iloadn dX8_takeSign_1 rfl ?_
  refine y_cv (mt2 := mX8_byteAt) (en := [(2, 13), (0, f)]) (st := []) (as := [(0, f)]) dX8_takeSign_2 lX8_31 kX8_byteAt iX8_byteAt eX8_byteAt rfl sh13 (by decide +kernel) (Nat.le_of_ble_eq_true rfl) (Nat.le_of_ble_eq_true rfl) rfl (s_byteAt hG ?_)
  rw [lx_cb hB hC]
  show Y G (d + 20) mX8_takeSign 5 [(2, 13), (0, f), (9, 0), (9, 0)] [(0, B f)] M Q
  refine y_istoren (ls' := [(2, 13), (0, f), (0, B f), (9, 0)]) dX8_takeSign_5 rfl rfl ?_
  refine z_aloadn dX8_takeSign_6 rfl (Or.inl rfl) ?_
  refine z_iloadn dX8_takeSign_7 rfl ?_
  refine z_iconst dX8_takeSign_8 ki_1 ?_
  refine z_iadd dX8_takeSign_9 ⟨by omega, by omega⟩ ?_
  refine y_cv (mt2 := mX8_byteAt) (en := [(2, 13), (0, f + 1)]) (st := []) (as := [(0, f + 1)]) dX8_takeSign_10 lX8_31 kX8_byteAt iX8_byteAt eX8_byteAt rfl sh13 (by decide +kernel) (Nat.le_of_ble_eq_true rfl) (Nat.le_of_ble_eq_true rfl) rfl (s_byteAt hG ?_)
  rw [lx_cb hB hC]
  show Y G (d + 20) mX8_takeSign 13 [(2, 13), (0, f), (0, B f), (9, 0)] [(0, B (f + 1))] M Q
  have two : ∀ v : Int, lx_2 B f → (if B f = 60 then 16 else 17) = v → Y G (d + 20) mX8_takeSign 44 [(2, 13), (0, f), (0, B f), (9, 0)] [(0, v), (2, 13)] M Q := fun v c e => by
    rw [if_pos c, if_pos c, e] at hq
    refine z_iloadn dX8_takeSign_44 rfl ?_
    refine z_iconst dX8_takeSign_45 ki_0 ?_
    refine y_cv (mt2 := mX8_addToken) (en := [(2, 13), (0, v), (0, f), (0, 0)]) (st := []) (as := [(0, v), (0, f), (0, 0)]) dX8_takeSign_46 lX8_38 kX8_addToken iX8_addToken eX8_addToken rfl sh13 (by decide +kernel) (Nat.le_of_ble_eq_true rfl) (Nat.le_of_ble_eq_true rfl) rfl (s_token hG h5 ?_)
    show Y G (d + 20) mX8_takeSign 49 [(2, 13), (0, f), (0, B f), (9, 0)] [] (lx_ad M v f 0) Q
    refine z_iloadn dX8_takeSign_49 rfl ?_
    refine z_iconst dX8_takeSign_50 ki_2 ?_
    refine z_iadd dX8_takeSign_51 ⟨by omega, by omega⟩ ?_
    exact z_ireturn dX8_takeSign_52 (Or.inl rfl) rfl hq
  have one : ¬ lx_2 B f → Y G (d + 20) mX8_takeSign 53 [(2, 13), (0, f), (0, B f), (9, 0)] [] M Q := fun c => by
    rw [if_neg c, if_neg c, st_sg _ bf] at hq
    have fr := st_fr (zi2b (B f)) st_s 0 (Int.le_refl _) (by decide)
    have fin : ∀ (u v : Int), (if v < 0 then 1 else 3 + v) = u → st_f (zi2b (B f)) st_s 0 = v → Y G (d + 20) mX8_takeSign 73 [(2, 13), (0, f), (0, B f), (0, v)] [(0, u), (2, 13)] M Q := fun u v e e2 => by
      rw [e2, e] at hq
      refine z_iloadn dX8_takeSign_73 rfl ?_
      refine z_iconst dX8_takeSign_74 ki_0 ?_
      refine y_cv (mt2 := mX8_addToken) (en := [(2, 13), (0, u), (0, f), (0, 0)]) (st := []) (as := [(0, u), (0, f), (0, 0)]) dX8_takeSign_75 lX8_38 kX8_addToken iX8_addToken eX8_addToken rfl sh13 (by decide +kernel) (Nat.le_of_ble_eq_true rfl) (Nat.le_of_ble_eq_true rfl) rfl (s_token hG h5 ?_)
      show Y G (d + 20) mX8_takeSign 78 [(2, 13), (0, f), (0, B f), (0, v)] [] (lx_ad M u f 0) Q
      refine z_iloadn dX8_takeSign_78 rfl ?_
      refine z_iconst dX8_takeSign_79 ki_1 ?_
      refine z_iadd dX8_takeSign_80 ⟨by omega, by omega⟩ ?_
      exact z_ireturn dX8_takeSign_81 (Or.inl rfl) rfl hq
    generalize hv : st_f (zi2b (B f)) st_s 0 = v at fr
    refine z_ldcs (x := 11) dX8_takeSign_53 st_R11 ?_
    refine z_iloadn dX8_takeSign_55 rfl ?_
    refine z_i2c dX8_takeSign_56 ⟨bf.1, by omega⟩ ?_
    refine z_callt (mt2 := mJ0_indexOf_0f7a4) (en := [(4, 11), (0, B f)]) (st := []) (as := [(0, B f)]) dX8_takeSign_57 lX8_96 kJ0_indexOf_0f7a4 iJ0_indexOf_0f7a4 eJ0_indexOf_0f7a4 rfl (Or.inr rfl) rfl (Nat.le_of_ble_eq_true rfl) (Nat.le_of_ble_eq_true rfl) rfl (Nat.le_refl _) (s_Jix (Or.inr rfl) bf ?_)
    show Y G (d + 20) mX8_takeSign 60 [(2, 13), (0, f), (0, B f), (9, 0)] [(0, st_f (zi2b (B f)) st_s 0)] M Q
    rw [hv]
    refine y_istoren (ls' := [(2, 13), (0, f), (0, B f), (0, v)]) dX8_takeSign_60 rfl rfl ?_
    refine z_aloadn dX8_takeSign_61 rfl (Or.inl rfl) ?_
    refine z_iloadn dX8_takeSign_62 rfl ?_
    refine z_ifge (tgt := 70) dX8_takeSign_63 rfl (fun q => ?_) (fun q => ?_)
    · refine z_iconst dX8_takeSign_70 ki_3 ?_
      refine z_iloadn dX8_takeSign_71 rfl ?_
      refine z_iadd dX8_takeSign_72 ⟨by omega, by omega⟩ ?_
      exact fin _ v (if_neg (by omega)) hv
    · refine z_iconst dX8_takeSign_66 ki_1 ?_
      refine z_goto (tgt := 73) dX8_takeSign_67 rfl ?_
      exact fin _ v (if_pos q) hv
  refine z_bipush dX8_takeSign_13 kb_61 ?_
  refine z_icmpne (tgt := 53) dX8_takeSign_15 rfl (fun q => one (fun z => q z.2)) (fun q => ?_)
  refine z_iloadn dX8_takeSign_18 rfl ?_
  refine z_bipush dX8_takeSign_19 kb_60 ?_
  refine z_icmpeq (tgt := 30) dX8_takeSign_21 rfl (fun q2 => ?_) (fun q2 => ?_)
  · refine z_aloadn dX8_takeSign_30 rfl (Or.inl rfl) ?_
    refine z_iloadn dX8_takeSign_31 rfl ?_
    refine z_bipush dX8_takeSign_32 kb_60 ?_
    refine z_icmpne (tgt := 42) dX8_takeSign_34 rfl (fun q3 => absurd q2 q3) (fun _ => ?_)
    refine z_bipush dX8_takeSign_37 kb_16 ?_
    refine z_goto (tgt := 44) dX8_takeSign_39 rfl ?_
    exact two 16 ⟨Or.inl q2, q⟩ (if_pos q2)
  · refine z_iloadn dX8_takeSign_24 rfl ?_
    refine z_bipush dX8_takeSign_25 kb_62 ?_
    refine z_icmpne (tgt := 53) dX8_takeSign_27 rfl (fun q3 => one (fun z => z.1.elim q2 q3)) (fun q3 => ?_)
    refine z_aloadn dX8_takeSign_30 rfl (Or.inl rfl) ?_
    refine z_iloadn dX8_takeSign_31 rfl ?_
    refine z_bipush dX8_takeSign_32 kb_60 ?_
    refine z_icmpne (tgt := 42) dX8_takeSign_34 rfl (fun _ => ?_) (fun q4 => absurd q4 q2)
    refine z_bipush (k := 17) dX8_takeSign_42 ⟨by decide, ⟨by decide, by decide⟩⟩ ?_
    exact two 17 ⟨Or.inr q3, q⟩ (if_neg q2)
theorem lx_Hok (hG : zP G) : lx_H G := ⟨fun d M Q B n f b h1 h2 h3 h4 h5 h6 => s_sortOf hG h1 h2 h3 h4 h5 h6, fun d M Q B n f h1 h2 h3 h4 h5 h6 => s_takeSg hG h1 h2 h3 h4 h5 h6⟩
end ST2

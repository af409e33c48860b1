section LX4
variable {B : Int → Int} {n : Int}
/-- the letters from i on, forward; and what their word is counted as -/
def lx_fb (B : Int → Int) : Nat → Int → List Int
  | 0, _ => []
  | r + 1, i => if lx_l (B i) then B i :: lx_fb B r (i + 1) else []
def lx_f1 (w c : Int) : Int := if w < 281474976710656 then 256 * w + c else 1152921504606846976
def lx_rc : List Int → Int
  | [] => 0
  | c :: l => lx_f1 (lx_rc l) c
theorem lx_fb_s {r : Nat} {i : Int} : lx_fb B (r + 1) i = if lx_l (B i) then B i :: lx_fb B r (i + 1) else [] := rfl
theorem lx_mw_e : ∀ (r : Nat) (i : Int) (acc : List Int), lx_mw B r i (lx_rc acc) = lx_rc ((lx_fb B r i).reverse ++ acc)
  | 0, i, acc => rfl
  | r + 1, i, acc => by
    show (if lx_l (B i) then lx_mw B r (i + 1) (lx_f1 (lx_rc acc) (B i)) else lx_rc acc) = _
    rw [lx_fb_s]
    by_cases c : lx_l (B i)
    · rw [if_pos c, if_pos c, List.reverse_cons, List.append_assoc]
      exact lx_mw_e r (i + 1) (B i :: acc)
    · rw [if_neg c, if_neg c]; rfl
theorem lx_fb_l : ∀ (r : Nat) (i : Int), ((lx_fb B r i).length : Int) = lx_lt B r i - i
  | 0, i => by
    show ((0 : Nat) : Int) = i - i
    omega
  | r + 1, i => by
    show _ = (if lx_l (B i) then lx_lt B r (i + 1) else i) - i
    rw [lx_fb_s]
    by_cases c : lx_l (B i)
    · rw [if_pos c, if_pos c, List.length_cons]
      have := lx_fb_l r (i + 1)
      omega
    · rw [if_neg c, if_neg c]
      show ((0 : Nat) : Int) = i - i
      omega
theorem lx_fb_c : ∀ (r : Nat) (i : Int), ∀ c ∈ lx_fb B r i, 1 ≤ c ∧ c ≤ 255
  | 0, i, c, h => absurd h List.not_mem_nil
  | r + 1, i, c, h => by
    rw [lx_fb_s] at h
    by_cases z : lx_l (B i)
    · rw [if_pos z] at h
      rcases List.mem_cons.mp h with e | e
      · rw [e]; omega
      · exact lx_fb_c r (i + 1) c e
    · rw [if_neg z] at h
      exact absurd h List.not_mem_nil
theorem lx_eq_i : ∀ (r : Nat) (i : Int) (w : List Int), w.length = (lx_fb B r i).length → (lx_eq B i w = true ↔ w = lx_fb B r i)
  | 0, i, w, h => by
    have : w = [] := List.length_eq_zero_iff.mp h
    rw [this]
    exact ⟨fun _ => rfl, fun _ => rfl⟩
  | r + 1, i, w, h => by
    rw [lx_fb_s] at h ⊢
    by_cases z : lx_l (B i)
    · rw [if_pos z] at h ⊢
      cases w with
      | nil => exact absurd h (by intro q; cases q)
      | cons c l =>
        rw [List.length_cons, List.length_cons] at h
        have ih := lx_eq_i r (i + 1) l (by omega)
        show ((decide (B i = c) && lx_eq B (i + 1) l) = true) ↔ c :: l = B i :: lx_fb B r (i + 1)
        rw [Bool.and_eq_true, decide_eq_true_eq, ih, List.cons.injEq]
        exact ⟨fun q => ⟨q.1.symm, q.2⟩, fun q => ⟨q.1.symm, q.2⟩⟩
    · rw [if_neg z] at h ⊢
      have : w = [] := List.length_eq_zero_iff.mp h
      rw [this]
      exact ⟨fun _ => rfl, fun _ => rfl⟩
/-- which word a list of letters is -/
def lx_fi (F : List Int) : List (List Int) → Int → Int
  | [], _ => 1
  | w :: l, k => if w = F then k else lx_fi F l (k + 1)
theorem lx_wi_e {r : Nat} {i : Int} : ∀ (ws : List (List Int)) (k : Int), lx_wi B i (lx_lt B r i - i) ws k = lx_fi (lx_fb B r i) ws k
  | [], k => rfl
  | w :: l, k => by
    have ll := lx_fb_l (B := B) r i
    show (if (w.length : Int) = lx_lt B r i - i ∧ lx_eq B i w = true then k else lx_wi B i (lx_lt B r i - i) l (k + 1)) = if w = lx_fb B r i then k else lx_fi (lx_fb B r i) l (k + 1)
    rw [lx_wi_e l (k + 1)]
    by_cases c : w = lx_fb B r i
    · rw [if_pos c, if_pos ⟨by rw [c]; exact ll, (lx_eq_i r i w (by rw [c])).mpr c⟩]
    · rw [if_neg c, if_neg (fun q => c ((lx_eq_i r i w (by omega)).mp q.2))]
theorem lx_fi_b {F : List Int} : ∀ (ws : List (List Int)) (k : Int), lx_fi F ws k = 1 ∨ (k ≤ lx_fi F ws k ∧ lx_fi F ws k < k + ws.length ∧ F ∈ ws)
  | [], k => Or.inl rfl
  | w :: l, k => by
    show (if w = F then k else lx_fi F l (k + 1)) = 1 ∨ (k ≤ (if w = F then k else lx_fi F l (k + 1)) ∧ (if w = F then k else lx_fi F l (k + 1)) < k + (w :: l).length ∧ F ∈ w :: l)
    rw [List.length_cons]
    by_cases c : w = F
    · rw [if_pos c]; exact Or.inr ⟨by omega, by omega, by rw [c]; exact List.mem_cons_self⟩
    · rw [if_neg c]
      rcases lx_fi_b (F := F) l (k + 1) with z | z
      · exact Or.inl z
      · exact Or.inr ⟨by omega, by omega, List.mem_cons_of_mem _ z.2.2⟩
theorem lx_fi_i {F : List Int} : ∀ (ws : List (List Int)) (k : Int) (i : Nat), ws.Nodup → 2 ≤ k → i < ws.length → (lx_fi F ws k = k + i ↔ F = ws.getD i [])
  | [], k, i, _, _, h => absurd h (by show ¬ i < 0; omega)
  | w :: l, k, i, nd, h2, hi => by
    obtain ⟨n1, n2⟩ := List.nodup_cons.mp nd
    rw [List.length_cons] at hi
    show (if w = F then k else lx_fi F l (k + 1)) = k + i ↔ _
    cases i with
    | zero =>
      show _ ↔ F = w
      by_cases c : w = F
      · rw [if_pos c]
        exact ⟨fun _ => c.symm, fun _ => by omega⟩
      · rw [if_neg c]
        refine ⟨fun q => ?_, fun q => absurd q.symm c⟩
        rcases lx_fi_b (F := F) l (k + 1) with z | z <;> omega
    | succ i =>
      show _ ↔ F = l.getD i []
      by_cases c : w = F
      · rw [if_pos c]
        refine ⟨fun q => by omega, fun q => absurd ?_ n1⟩
        rw [c, q]
        have hl : i < l.length := by omega
        rw [List.getD_eq_getElem?_getD, List.getElem?_eq_getElem hl]
        exact List.getElem_mem hl
      · rw [if_neg c]
        have ih := lx_fi_i (F := F) l (k + 1) i n2 (by omega) (by omega)
        rw [← ih]
        omega
/-! a word of at most seven letters is counted as itself alone -/
theorem lx_rc_b : ∀ (l : List Int), (∀ c ∈ l, 1 ≤ c ∧ c ≤ 255) → l.length ≤ 6 → 0 ≤ lx_rc l ∧ lx_rc l < 256 ^ l.length
  | [], _, _ => ⟨Int.le_refl 0, by decide⟩
  | c :: l, hc, hl => by
    rw [List.length_cons] at hl ⊢
    have ih := lx_rc_b l (fun x hx => hc x (List.mem_cons_of_mem _ hx)) (by omega)
    have q := hc c List.mem_cons_self
    have hk : l.length = 0 ∨ l.length = 1 ∨ l.length = 2 ∨ l.length = 3 ∨ l.length = 4 ∨ l.length = 5 := by omega
    show 0 ≤ lx_f1 (lx_rc l) c ∧ lx_f1 (lx_rc l) c < 256 ^ (l.length + 1)
    unfold lx_f1
    rcases hk with k | k | k | k | k | k <;> rw [k] at ih ⊢ <;> rw [if_pos (by omega)] <;> omega
theorem lx_rc_n : ∀ (l : List Int), (∀ c ∈ l, 1 ≤ c ∧ c ≤ 255) → 0 ≤ lx_rc l ∧ (l ≠ [] → 1 ≤ lx_rc l)
  | [], _ => ⟨Int.le_refl 0, fun z => absurd rfl z⟩
  | c :: l, hc => by
    have ih := lx_rc_n l (fun x hx => hc x (List.mem_cons_of_mem _ hx))
    have q := hc c List.mem_cons_self
    show 0 ≤ lx_f1 (lx_rc l) c ∧ (c :: l ≠ [] → 1 ≤ lx_f1 (lx_rc l) c)
    unfold lx_f1
    generalize lx_rc l = x at *
    split
    · exact ⟨by omega, fun _ => by omega⟩
    · exact ⟨by decide, fun _ => by decide⟩
theorem lx_rc_i : ∀ (l' l : List Int), (∀ c ∈ l', 1 ≤ c ∧ c ≤ 255) → (∀ c ∈ l, 1 ≤ c ∧ c ≤ 255) → l'.length ≤ 7 → lx_rc l = lx_rc l' → l = l'
  | [], l, _, hc, _, e => by
    cases l with
    | nil => rfl
    | cons c t =>
      have := (lx_rc_n (c :: t) hc).2 (by intro z; cases z)
      have e' : lx_rc (c :: t) = 0 := e
      omega
  | c' :: t', l, hc', hc, hl, e => by
    rw [List.length_cons] at hl
    have b' := lx_rc_b t' (fun x hx => hc' x (List.mem_cons_of_mem _ hx)) (by omega)
    have q' := hc' c' List.mem_cons_self
    have p6 : (256 : Int) ^ t'.length ≤ 256 ^ 6 := by
      have hk : t'.length = 0 ∨ t'.length = 1 ∨ t'.length = 2 ∨ t'.length = 3 ∨ t'.length = 4 ∨ t'.length = 5 ∨ t'.length = 6 := by omega
      rcases hk with k | k | k | k | k | k | k <;> rw [k] <;> decide
    have p7 : (256 : Int) ^ 6 = 281474976710656 := by decide
    have v' : lx_rc (c' :: t') = 256 * lx_rc t' + c' := by
      show lx_f1 (lx_rc t') c' = _
      unfold lx_f1
      rw [if_pos (by omega)]
    cases l with
    | nil =>
      have e0 : (0 : Int) = lx_rc (c' :: t') := e
      omega
    | cons c t =>
      have q := hc c List.mem_cons_self
      have tn := (lx_rc_n t (fun x hx => hc x (List.mem_cons_of_mem _ hx))).1
      have e1 : lx_f1 (lx_rc t) c = 256 * lx_rc t' + c' := by rw [← v']; exact e
      unfold lx_f1 at e1
      by_cases z : lx_rc t < 281474976710656
      · rw [if_pos z] at e1
        have et := lx_rc_i t' t (fun x hx => hc' x (List.mem_cons_of_mem _ hx)) (fun x hx => hc x (List.mem_cons_of_mem _ hx)) (by omega) (by omega)
        rw [et, show c = c' by omega]
      · rw [if_neg z] at e1
        omega
/-- the words' numbers -/
def lx_cd (c : Int) : Int := lx_rc ((lx_ws.getD (c - 20).toNat []).reverse)
theorem lx_wok : ∀ k : Nat, k < 28 → (∀ c ∈ (lx_ws.getD k []).reverse, 1 ≤ c ∧ c ≤ 255) ∧ (lx_ws.getD k []).reverse.length ≤ 7 := by decide +kernel
theorem lx_wnd : lx_ws.Nodup ∧ lx_ws.length = 28 := by decide +kernel
theorem lx_nl {j : Int} (c : ¬ lx_l (B j)) : lx_c B j = 0 ∨ lx_c B j = 2 ∨ (1 ≤ lx_c B j ∧ lx_c B j ≤ 17) := by
  unfold lx_c lx_s2 lx_si
  rw [if_neg c]
  repeat' split
  all_goals omega
theorem lx_word {j c : Int} (hc : 20 ≤ c ∧ c ≤ 47) : lx_c B j = c ↔ lx_t B j = 2 ∧ lx_mw B (301 - j).toNat j 0 = lx_cd c := by
  by_cases l : lx_l (B j)
  · have ec : lx_c B j = lx_fi (lx_fb B (301 - j).toNat j) lx_ws 20 := by
      unfold lx_c
      rw [if_neg (by omega), if_neg (by omega), if_pos l]
      exact lx_wi_e lx_ws 20
    have et : lx_t B j = 2 := by unfold lx_t; rw [if_neg (by omega), if_neg (by omega), if_pos l]
    have em : lx_mw B (301 - j).toNat j 0 = lx_rc (lx_fb B (301 - j).toNat j).reverse := by
      have := lx_mw_e (B := B) (301 - j).toNat j []
      rw [List.append_nil] at this
      exact this
    obtain ⟨i, hi⟩ := Int.eq_ofNat_of_zero_le (show 0 ≤ c - 20 by omega)
    have wk := lx_wok i (by omega)
    have fc := lx_fb_c (B := B) (301 - j).toNat j
    have fi := lx_fi_i (F := lx_fb B (301 - j).toNat j) lx_ws 20 i lx_wnd.1 (by decide) (by rw [lx_wnd.2]; omega)
    rw [ec, em, et, show c = 20 + (i : Int) by omega, fi]
    unfold lx_cd
    rw [show (20 + (i : Int) - 20).toNat = i by omega]
    refine ⟨fun q => ⟨rfl, by rw [q]⟩, fun q => ?_⟩
    have := lx_rc_i _ _ wk.1 (fun x hx => fc x (List.mem_reverse.mp hx)) wk.2 q.2
    exact List.reverse_inj.mp this
  · refine ⟨fun q => ?_, fun q => ?_⟩
    · rcases lx_nl l with z | z | z <;> omega
    · have e := q.1
      unfold lx_t at e
      rw [if_neg l] at e
      exfalso
      revert e
      repeat' split
      all_goals omega
/-! the other tokens -/
theorem lx_end {j : Int} : lx_c B j = 0 ↔ lx_t B j = 0 := by
  by_cases b : B j < 0
  · have e1 : lx_c B j = 0 := by unfold lx_c; rw [if_pos b]
    have e2 : lx_t B j = 0 := by unfold lx_t; rw [if_pos b]
    exact ⟨fun _ => e2, fun _ => e1⟩
  · refine ⟨fun q => ?_, fun q => ?_⟩
    · exfalso
      by_cases l : lx_l (B j)
      · have ec : lx_c B j = lx_fi (lx_fb B (301 - j).toNat j) lx_ws 20 := by
          unfold lx_c
          rw [if_neg b, if_neg (by omega), if_pos l]
          exact lx_wi_e lx_ws 20
        rcases lx_fi_b (F := lx_fb B (301 - j).toNat j) lx_ws 20 with z | z <;> omega
      · revert q
        unfold lx_c lx_s2 lx_si
        rw [if_neg b, if_neg l]
        repeat' split
        all_goals omega
    · exfalso
      revert q
      unfold lx_t
      rw [if_neg b]
      repeat' split
      all_goals omega
theorem lx_num {j : Int} : lx_c B j = 2 ↔ lx_t B j = 1 := by
  by_cases b : lx_d (B j)
  · have e1 : lx_c B j = 2 := by unfold lx_c; rw [if_neg (by omega), if_pos b]
    have e2 : lx_t B j = 1 := by unfold lx_t; rw [if_neg (by omega), if_pos b]
    exact ⟨fun _ => e2, fun _ => e1⟩
  · refine ⟨fun q => ?_, fun q => ?_⟩
    · exfalso
      by_cases l : lx_l (B j)
      · have ec : lx_c B j = lx_fi (lx_fb B (301 - j).toNat j) lx_ws 20 := by
          unfold lx_c
          rw [if_neg (by omega), if_neg b, if_pos l]
          exact lx_wi_e lx_ws 20
        rcases lx_fi_b (F := lx_fb B (301 - j).toNat j) lx_ws 20 with z | z <;> omega
      · revert q
        unfold lx_c lx_s2 lx_si
        rw [if_neg b, if_neg l]
        repeat' split
        all_goals omega
    · exfalso
      revert q
      unfold lx_t
      rw [if_neg b]
      repeat' split
      all_goals omega
theorem lx_val : ∀ (r : Nat) (i v w : Int), 0 ≤ w → v = min w 32768 → lx_cv B r i v = min (lx_mv B r i w) 32768
  | 0, i, v, w, _, h => h
  | r + 1, i, v, w, w0, h => by
    show (if lx_d (B i) then lx_cv B r (i + 1) (min (v * 10 + B i - 48) 32768) else v) = min (if lx_d (B i) then lx_mv B r (i + 1) (if w ≤ 99999 then 10 * w + B i - 48 else w) else w) 32768
    by_cases c : lx_d (B i)
    · rw [if_pos c, if_pos c]
      refine lx_val r (i + 1) _ _ ?_ ?_
      · split <;> omega
      · split <;> omega
    · rw [if_neg c, if_neg c]; exact h
/-- the signs: the class's sort, the model's token -/
def lx_sn : List (Int × Int) := [(3, 60), (4, 62), (5, 61), (6, 35), (7, 43), (8, 45), (9, 42), (10, 40), (11, 41), (12, 44), (13, 59), (14, 63), (15, 58), (16, 4), (17, 5)]
theorem lx_sign {j : Int} (st : Int × Int) (h : st ∈ lx_sn) : lx_c B j = st.1 ↔ lx_t B j = st.2 := by
  by_cases b : B j < 0
  · have e1 : lx_c B j = 0 := by unfold lx_c; rw [if_pos b]
    have e2 : lx_t B j = 0 := by unfold lx_t; rw [if_pos b]
    rw [e1, e2]
    revert st
    decide
  by_cases dd : lx_d (B j)
  · have e1 : lx_c B j = 2 := by unfold lx_c; rw [if_neg b, if_pos dd]
    have e2 : lx_t B j = 1 := by unfold lx_t; rw [if_neg b, if_pos dd]
    rw [e1, e2]
    revert st
    decide
  by_cases l : lx_l (B j)
  · have ec : lx_c B j = lx_fi (lx_fb B (301 - j).toNat j) lx_ws 20 := by
      unfold lx_c
      rw [if_neg b, if_neg dd, if_pos l]
      exact lx_wi_e lx_ws 20
    have e2 : lx_t B j = 2 := by unfold lx_t; rw [if_neg b, if_neg dd, if_pos l]
    have fb := lx_fi_b (F := lx_fb B (301 - j).toNat j) lx_ws 20
    rw [← ec] at fb
    rw [e2]
    have a1 : 3 ≤ st.1 ∧ st.1 ≤ 17 ∧ st.2 ≠ 2 := by revert st; decide
    refine ⟨fun q => ?_, fun q => absurd q.symm a1.2.2⟩
    rcases fb with z | z <;> omega
  · have ec : lx_c B j = lx_s2 B j := by unfold lx_c; rw [if_neg b, if_neg dd, if_neg l]
    have et : lx_t B j = if lx_2 B j then (if B j = 60 then 4 else 5) else if lx_sg (B j) then B j else 3 := by unfold lx_t; rw [if_neg b, if_neg dd, if_neg l]
    rw [ec, et]
    unfold lx_s2
    by_cases c2 : lx_2 B j
    · rw [if_pos c2, if_pos c2]
      by_cases c6 : B j = 60
      · rw [if_pos c6, if_pos c6]; revert st; decide
      · rw [if_neg c6, if_neg c6]; revert st; decide
    · rw [if_neg c2, if_neg c2]
      by_cases sg : lx_sg (B j)
      · rw [if_pos sg]
        have sg' : B j = 35 ∨ B j = 40 ∨ B j = 41 ∨ B j = 42 ∨ B j = 43 ∨ B j = 44 ∨ B j = 45 ∨ B j = 58 ∨ B j = 59 ∨ B j = 60 ∨ B j = 61 ∨ B j = 62 ∨ B j = 63 := sg
        rcases sg' with e | e | e | e | e | e | e | e | e | e | e | e | e <;> rw [e] <;> revert st <;> decide
      · rw [if_neg sg]
        have e1 : lx_si (B j) = 1 := by
          unfold lx_si
          repeat rw [if_neg (fun z => sg (by unfold lx_sg; omega))]
        rw [e1]
        revert st
        decide
end LX4

theorem zA5 {A : Int → Int} (h : zVA A) : A 5 ≤ 6 := by obtain ⟨h0, h1, h2, h3, h4, h5, -⟩ := h; have := h5.1; have := h2.1; omega
theorem zA7 {A : Int → Int} (h : zVA A) : A 7 ≤ 8 := by obtain ⟨h0, h1, h2, h3, h4, h5, h6, h7, -⟩ := h; exact h7.1.2
theorem zA8 {A : Int → Int} (h : zVA A) : A 8 ≤ 12 := by obtain ⟨h0, h1, h2, h3, h4, h5, h6, h7, h8, -⟩ := h; exact h8.1.2
/-! the counts of trees that are kept -/
def zJT (M : zM) : Prop := (∀ t, 0 ≤ t → t < 4 → 0 ≤ M 173 t ∧ M 173 t ≤ 99) ∧ ∀ m, 0 ≤ m → m ≤ 9 → (0 ≤ M 172 m ∧ M 172 m ≤ 5) ∧ ∀ k v, 1 ≤ k → k ≤ M 172 m → -500 ≤ v → v ≤ 500 → M 171 (zpl m k v) = tr_K (M 173) m k v
theorem tr_K_th {th th' : Int → Int} {m : Int} (e0 : th 0 = th' 0) (e1 : th 1 = th' 1) (e2 : th 2 = th' 2) (e3 : th 3 = th' 3) : tr_K th m = tr_K th' m := by
  have e : tr_l th m = tr_l th' m := by
    funext v
    unfold tr_l
    rw [e0, e1, e2, e3]
  have f2 : tr_2 th m = tr_2 th' m := by unfold tr_2; rw [e]
  have f3 : tr_3 th m = tr_3 th' m := by funext v; unfold tr_3; rw [e, f2]
  have f4 : tr_4 th m = tr_4 th' m := by funext v; unfold tr_4; rw [e, f2, f3]
  have f5 : tr_5 th m = tr_5 th' m := by funext v; unfold tr_5; rw [e, f2, f3, f4]
  funext k
  unfold tr_K
  rw [e, f2, f3, f4, f5]
/-! the texts that were read -/
def znpt (s : Int) : Int := if s = 1 then 2 else if s = 2 then 3 else if s = 3 then 3 else if s = 4 then 1 else if s = 5 then 5 else if s = 6 then 1 else if s = 7 then 2 else 0
abbrev zXs (M : zM) (t beg : Int) : Int → Int := fun k => M 240 (889 * t + 289 + 2 * (beg + k))
abbrev zXv (M : zM) (t beg : Int) : Int → Int := fun k => M 240 (889 * t + 289 + 2 * (beg + k) + 1)
/-- a question in a text: nodes and steps -/
def zXq (M : zM) (t beg len : Int) : Prop := (0 ≤ beg ∧ 1 ≤ len ∧ len ≤ 120 ∧ beg + len ≤ M (189 + 12 * t) 8 ∧ M (189 + 12 * t) 8 ≤ 300) ∧ zQC (M (189 + 12 * t + 1)) (M (189 + 12 * t + 2)) (M (189 + 12 * t + 3)) (M (189 + 12 * t + 4)) (M (189 + 12 * t + 5)) (M (189 + 12 * t + 7)) (zXs M t beg) (zXv M t beg) beg len ∧ zlc (zXs M t beg) len.toNat ≤ 16 ∧ ∀ i, zhv (zXs M t beg) (zXv M t beg) len.toNat i ≤ 40
def zXa (M : zM) (t c : Int) : Prop := (M (188 + 12 * t) (6 * c) = M 240 (889 * t + 12 * c + 7) ∧ M (188 + 12 * t) (6 * c + 1) = M 240 (889 * t + 12 * c + 8) - 1) ∧ zXq M t (M 240 (889 * t + 12 * c + 7)) (M 240 (889 * t + 12 * c + 8) - M 240 (889 * t + 12 * c + 7)) ∧ (M (188 + 12 * t) (6 * c + 4) = M 240 (889 * t + 12 * c + 9) ∧ M (188 + 12 * t) (6 * c + 3) = M 240 (889 * t + 12 * c + 10) ∧ M (188 + 12 * t) (6 * c + 2) = M 240 (889 * t + 12 * c + 11) ∧ M (188 + 12 * t) (6 * c + 5) = M 240 (889 * t + 12 * c + 12)) ∧ (0 ≤ M (188 + 12 * t) (6 * c + 4) ∧ M (188 + 12 * t) (6 * c + 4) ≤ 32767) ∧ (0 ≤ M (188 + 12 * t) (6 * c + 3) ∧ M (188 + 12 * t) (6 * c + 3) ≤ 8) ∧ (1 ≤ M (188 + 12 * t) (6 * c + 2) ∧ M (188 + 12 * t) (6 * c + 2) ≤ 16) ∧ (-1 ≤ M (188 + 12 * t) (6 * c + 5) ∧ M (188 + 12 * t) (6 * c + 5) ≤ 99)
def zXc (M : zM) (t c : Int) : Prop := (0 ≤ M 240 (889 * t + 12 * c + 1) ∧ M 240 (889 * t + 12 * c + 1) ≤ 8) ∧ M (187 + 12 * t) c = 20 + M 240 (889 * t + 12 * c + 1) ∧ (M 240 (889 * t + 12 * c + 1) = 0 → zXa M t c) ∧ (∀ j, 0 ≤ j → j < znpt (M 240 (889 * t + 12 * c + 1)) → M (188 + 12 * t) (6 * c + j) = M 240 (889 * t + 12 * c + 2 + j))
def zXt (M : zM) (t : Int) : Prop := (M (186 + 12 * t) 3 = M 240 (889 * t) ∧ 0 ≤ M 240 (889 * t) ∧ M 240 (889 * t) ≤ 24) ∧ ∀ c, 0 ≤ c → c < M 240 (889 * t) → zXc M t c
def zJX (M : zM) : Prop := M 235 6 ≤ 4 ∧ ∀ t, 0 ≤ t → t < M 235 6 → zXt M t
theorem znpt_b (s : Int) : 0 ≤ znpt s ∧ znpt s ≤ 5 := by
  unfold znpt
  repeat' (split)
  all_goals decide
theorem zXt_e {M M' : zM} {t : Int} (h3 : M' (186 + 12 * t) 3 = M (186 + 12 * t) 3) (h7 : ∀ i, 0 ≤ i → i < 24 → M' (187 + 12 * t) i = M (187 + 12 * t) i) (h8 : ∀ i, 0 ≤ i → i < 144 → M' (188 + 12 * t) i = M (188 + 12 * t) i) (hn8 : M' (189 + 12 * t) 8 = M (189 + 12 * t) 8) (hn : ∀ i x, (1 ≤ i ∧ i ≤ 7) → i ≠ 6 → 0 ≤ x → x < 300 → M' (189 + 12 * t + i) x = M (189 + 12 * t + i) x) (h4 : ∀ i, 0 ≤ i → i < 889 → M' 240 (889 * t + i) = M 240 (889 * t + i)) (j : zXt M t) : zXt M' t := by
  have e0 : M' 240 (889 * t) = M 240 (889 * t) := by have := h4 0 (by omega) (by omega); rw [Int.add_zero] at this; exact this
  have e4 : ∀ c k, 0 ≤ c → c < 24 → 1 ≤ k → k ≤ 12 → M' 240 (889 * t + 12 * c + k) = M 240 (889 * t + 12 * c + k) := fun c k c0 c1 k0 k1 => by
    have := h4 (12 * c + k) (by omega) (by omega)
    rw [← Int.add_assoc] at this
    exact this
  obtain ⟨j1, j2⟩ := j
  refine ⟨by rw [h3, e0]; exact j1, fun c c0 c1 => ?_⟩
  rw [e0] at c1
  have c24 : c < 24 := by omega
  obtain ⟨a1, a2, a3, a4⟩ := j2 c c0 c1
  have es := e4 c 1 c0 c24 (by omega) (by omega)
  refine ⟨by rw [es]; exact a1, by rw [es, h7 c c0 c24]; exact a2, fun z => ?_, fun q q0 q1 => ?_⟩
  · rw [es] at z
    obtain ⟨b1, b2, b3, b4, b5, b6, b7⟩ := a3 z
    have p : ∀ k, 0 ≤ k → k < 6 → M' (188 + 12 * t) (6 * c + k) = M (188 + 12 * t) (6 * c + k) := fun k k0 k1 => h8 _ (by omega) (by omega)
    have p0 : M' (188 + 12 * t) (6 * c) = M (188 + 12 * t) (6 * c) := h8 _ (by omega) (by omega)
    unfold zXa
    rw [p0, p 1 (by omega) (by omega), p 2 (by omega) (by omega), p 3 (by omega) (by omega), p 4 (by omega) (by omega), p 5 (by omega) (by omega), e4 c 7 c0 c24 (by omega) (by omega), e4 c 8 c0 c24 (by omega) (by omega), e4 c 9 c0 c24 (by omega) (by omega), e4 c 10 c0 c24 (by omega) (by omega), e4 c 11 c0 c24 (by omega) (by omega), e4 c 12 c0 c24 (by omega) (by omega)]
    refine ⟨b1, ?_, b3, b4, b5, b6, b7⟩
    generalize M 240 (889 * t + 12 * c + 7) = beg at *
    generalize M 240 (889 * t + 12 * c + 8) - beg = len at *
    obtain ⟨d1, d2, d3, d4⟩ := b2
    have ev : ∀ k : Nat, (k : Int) < len → zXs M' t beg k = zXs M t beg k ∧ zXv M' t beg k = zXv M t beg k := fun k hk => by
      have q1 := h4 (289 + 2 * (beg + k)) (by omega) (by omega)
      have q2 := h4 (289 + 2 * (beg + k) + 1) (by omega) (by omega)
      rw [← Int.add_assoc] at q1
      rw [show 889 * t + (289 + 2 * (beg + (k : Int)) + 1) = 889 * t + 289 + 2 * (beg + k) + 1 by omega] at q2
      exact ⟨q1, q2⟩
    refine ⟨by rw [hn8]; exact d1, zQC_e ⟨d1.1, by omega⟩ (fun x x0 x1 => ⟨hn 1 x (by omega) (by omega) x0 x1, hn 2 x (by omega) (by omega) x0 x1, hn 3 x (by omega) (by omega) x0 x1, hn 4 x (by omega) (by omega) x0 x1, hn 5 x (by omega) (by omega) x0 x1, hn 7 x (by omega) (by omega) x0 x1⟩) ev d2, ?_, ?_⟩
    · rw [zlc_e (st := zXs M t beg) _ (fun k hk => (ev k (by omega)).1)]; exact d3
    · rw [zhv_e (st := zXs M t beg) (v := zXv M t beg) _ (fun k hk => ev k (by omega))]; exact d4
  · rw [es] at q1
    have nb := znpt_b (M 240 (889 * t + 12 * c + 1))
    rw [h8 _ (by omega) (by omega)]
    have := e4 c (2 + q) c0 c24 (by omega) (by omega)
    rw [← Int.add_assoc] at this
    rw [this]
    exact a4 q q0 q1
def zJC (M : zM) : Prop := zJT M ∧ zJX M
def zSCx : List (Int × Int × Int) := [(171, 0, 50050), (172, 0, 10), (173, 0, 4), (235, 6, 7), (240, 0, 3556), (186, 3, 4), (187, 0, 24), (188, 0, 144), (198, 3, 4), (199, 0, 24), (200, 0, 144), (210, 3, 4), (211, 0, 24), (212, 0, 144), (222, 3, 4), (223, 0, 24), (224, 0, 144)] ++ zSnd
theorem zJT_c {M M' : zM} (h : zsm (zSCx.take 3) M M') (j : zJT M) : zJT M' := by
  have e3 : ∀ t, 0 ≤ t → t < 4 → M' 173 t = M 173 t := fun t t0 t1 => h 173 t (zhit_at 2 rfl ⟨t0, t1⟩)
  refine ⟨fun t t0 t1 => by rw [e3 t t0 t1]; exact j.1 t t0 t1, fun m m0 m1 => ?_⟩
  have e2 : M' 172 m = M 172 m := h 172 m (zhit_at 1 rfl ⟨m0, by omega⟩)
  have q := j.2 m m0 m1
  rw [e2]
  refine ⟨q.1, fun k v k0 k1 v0 v1 => ?_⟩
  rw [h 171 (zpl m k v) (zhit_at 0 rfl (by unfold zpl; omega)), q.2 k v k0 k1 v0 v1, tr_K_th (e3 0 (by decide) (by decide)) (e3 1 (by decide) (by decide)) (e3 2 (by decide) (by decide)) (e3 3 (by decide) (by decide))]
/-- where the texts stay -/
theorem zXt_c {M M' : zM} (h : zsm (zSCx.drop 4) M M') {t : Int} (ht : 0 ≤ t ∧ t < 4) (j : zXt M t) : zXt M' t := by
  have hs : zsm zSnd M M' := fun a i q => h a i (zhit_sub (fun x hx => List.mem_append_right [(240, 0, 3556), (186, 3, 4), (187, 0, 24), (188, 0, 144), (198, 3, 4), (199, 0, 24), (200, 0, 144), (210, 3, 4), (211, 0, 24), (212, 0, 144), (222, 3, 4), (223, 0, 24), (224, 0, 144)] hx) q)
  have q := zJ16_m hs ht
  have hc : t = 0 ∨ t = 1 ∨ t = 2 ∨ t = 3 := by omega
  refine zXt_e ?_ (fun i i0 i1 => ?_) (fun i i0 i1 => ?_) q.1 q.2 (fun i i0 i1 => h 240 _ (zhit_at 0 rfl (by omega))) j
  · rcases hc with rfl | rfl | rfl | rfl
    · exact h 186 3 (zhit_at 1 rfl (by decide))
    · exact h 198 3 (zhit_at 4 rfl (by decide))
    · exact h 210 3 (zhit_at 7 rfl (by decide))
    · exact h 222 3 (zhit_at 10 rfl (by decide))
  · rcases hc with rfl | rfl | rfl | rfl
    · exact h 187 i (zhit_at 2 rfl ⟨i0, i1⟩)
    · exact h 199 i (zhit_at 5 rfl ⟨i0, i1⟩)
    · exact h 211 i (zhit_at 8 rfl ⟨i0, i1⟩)
    · exact h 223 i (zhit_at 11 rfl ⟨i0, i1⟩)
  · rcases hc with rfl | rfl | rfl | rfl
    · exact h 188 i (zhit_at 3 rfl ⟨i0, i1⟩)
    · exact h 200 i (zhit_at 6 rfl ⟨i0, i1⟩)
    · exact h 212 i (zhit_at 9 rfl ⟨i0, i1⟩)
    · exact h 224 i (zhit_at 12 rfl ⟨i0, i1⟩)
theorem zJX_c {M M' : zM} (h : zsm (zSCx.drop 4) M M') (e : M' 235 6 ≤ M 235 6) (j : zJX M) : zJX M' := ⟨Int.le_trans e j.1, fun t t0 t1 => zXt_c h ⟨t0, by have := j.1; omega⟩ (j.2 t t0 (by omega))⟩
theorem zSCx_d {M M' : zM} (h : zsm zSCx M M') : zsm (zSCx.drop 4) M M' := fun a i q => h a i (zhit_sub (fun x hx => List.mem_of_mem_drop hx) q)
theorem zSCx_t {M M' : zM} (h : zsm zSCx M M') : zsm (zSCx.take 3) M M' := fun a i q => h a i (zhit_sub (fun x hx => List.mem_of_mem_take hx) q)
theorem zJC_c {M M' : zM} (h : zsm zSCx M M') (j : zJC M) : zJC M' := ⟨zJT_c (zSCx_t h) j.1, zJX_c (zSCx_d h) (by rw [h 235 6 (zhit_at 3 rfl (by decide))]; exact Int.le_refl _) j.2⟩
def zJ (M : zM) : Prop := zVA (M 235) ∧ zVA (M 236) ∧ zJ1 M ∧ zJ2 M ∧ zJ3 M ∧ zJ4 M ∧ zJ10 M ∧ zJ5 M ∧ zJ6 M ∧ zJ7 M ∧ zJ8 M ∧ zJ9 M ∧ zJ11 M ∧ zJ12 M ∧ zJ13 M ∧ zJ14 M ∧ zJ15 M ∧ zJ18 M ∧ zJ19 M ∧ zJ16 M ∧ zJ17 M ∧ zJF M ∧ zJS M M ∧ 0 ≤ M 2 10 ∧ zJC M
def zJn (M0 M : zM) : Prop := zJ M ∧ M 2 10 ≤ M0 2 10 + 100
theorem zJ_rf {M : zM} (h : zJ M) : zJn M M := ⟨h, by omega⟩

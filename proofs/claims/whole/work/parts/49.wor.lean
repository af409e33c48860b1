section WO
variable {G : zG} {d : Nat} {M : zM} {Q : zV → zM → Prop}
/-- what a question comes to with these things -/
def zaM (M : zM) (th : Int → Int) (q : Int) : Int := zvt (M 235) th (fun k => M 247 (240 * q + 2 * k)) (fun k => M 247 (240 * q + 2 * k + 1)) (M 246 q).toNat (M 246 q - 1)
theorem zaM_row {th : Int → Int} {q a : Int} {f : Int → Int} (h1 : a ≠ 235) (h2 : a ≠ 246) (h3 : a ≠ 247) : zaM (zrow M a f) th q = zaM M th q := by
  unfold zaM
  rw [zrow_off (fun e => h1 e.symm), zrow_off (fun e => h2 e.symm), zrow_off (fun e => h3 e.symm)]
theorem zND_t {t : Int} (h : 0 ≤ t ∧ t < 4) : zND (189 + 12 * t) := by
  have hc : t = 0 ∨ t = 1 ∨ t = 2 ∨ t = 3 := by omega
  unfold zND
  rcases hc with rfl | rfl | rfl | rfl <;> decide
theorem zev_t {A th th' : Int → Int} {st v : Int} {c : Int → Int} (h : st = 1 → th v = th' v) : zev A th st v c = zev A th' st v c := by
  unfold zev
  by_cases k1 : st = 1
  · rw [if_pos k1, if_pos k1, h k1]
  · rw [if_neg k1, if_neg k1]
theorem zvt_t {A th th' st v : Int → Int} {len : Int} (ho : zok st v len) (h : ∀ t, 0 ≤ t → t < 4 → th t = th' t) : ∀ n : Nat, (n : Int) ≤ len → zvt A th st v n = zvt A th' st v n
  | 0, _ => rfl
  | n + 1, hn => by
    obtain ⟨h1, h2, h3⟩ := ho n (by omega)
    show zup (zvt A th st v n) n _ = zup (zvt A th' st v n) n _
    rw [zvt_t ho h n (by omega), zev_t (th' := th') (fun e => h _ (h3 e).1 (by have := h3 e; omega))]
theorem zaM_t {th th' : Int → Int} {q : Int} (hq : zQq M q) (h : ∀ t, 0 ≤ t → t < 4 → th t = th' t) : zaM M th q = zaM M th' q := by
  unfold zaM
  rw [zvt_t (zQC_ok hq.2.2.1) h _ (by have := hq.2.1; omega)]
/-- the class's rows are those of P -/
def zcq (P M : zM) : Prop := ∀ a, a ≤ 233 → M a = P a
theorem zcq_rf : zcq M M := fun _ _ => rfl
theorem zcq_row {P : zM} {a : Int} {f : Int → Int} (h : zcq P M) (hx : a ≤ 233) : zcq (zrow P a f) (zrow M a f) := fun x hx2 => by
  by_cases c : x = a
  · rw [c, zrow_row, zrow_row]
  · rw [zrow_off c, zrow_off c, h x hx2]
theorem s_cans (hG : zP G) {P : zM} (hs : zcq P M) {q r3 : Int} (hq : 0 ≤ q ∧ q < 12) (hQ : zQq P q) (hE : zCE M (P 235)) (hA : zVA (P 235)) (hr3 : zsh r3.toNat = (100, 4)) (h4 : r3 ≠ 11) (ht : ∀ t, 0 ≤ t → t < 4 → 0 ≤ M r3 t ∧ M r3 t ≤ 99) (h : ∀ R, Q (0, zaM P (M r3) q) (zrow M 11 R)) : Y G (d + 4) mX3_answerIn 0 [(2, 19), (0, q), (2, 2), (2, r3), (9, 0)] [] M Q := by
  obtain ⟨⟨t, t0, t1, t2, t3⟩, b, c, -⟩ := hQ
  have e : ∀ i, 0 ≤ i → i ≤ 7 → M (P 20 q + i) = P (P 20 q + i) := fun i h0 h7 => hs _ (by omega)
  have e0 := hs (P 20 q) (by omega)
  refine bX3_answerIn_0 hG hr3 ?_
  rw [hs 20 (by decide), hs 21 (by decide), hs 22 (by decide)]
  refine ⟨hq, fun _ => ⟨hq, hq, ?_⟩, fun z => absurd z (by omega)⟩
  rw [b.2.2.2.1]
  refine s_workOut hG (by rw [t3]; exact zND_t ⟨t0, t2⟩) hE hA hr3 h4 ht (by rw [e0]; exact ⟨b.1, b.2.1, b.2.2.2.2⟩) (by rw [e 1 (by decide) (by decide), e 2 (by decide) (by decide), e 3 (by decide) (by decide), e 4 (by decide) (by decide), e 5 (by decide) (by decide), e 7 (by decide) (by decide)]; exact c) (fun R => bX3_answerIn_36 hG hr3 (h R))
theorem s_mans (hG : zP G) {q : Int} {th : Int → Int} (hq : 0 ≤ q ∧ q < 12) (hQ : zQq M q) (hA : zVA (M 235)) (hE : zME M) (hth : ∀ t, 0 ≤ t → t < 4 → M 249 t = th t ∧ 0 ≤ th t ∧ th t ≤ 99) (h : ∀ V, Q (1, zaM M th q) (zrow M 250 V)) : Y G (d + 2) mX12_answerOf 0 [(2, 234), (0, q), (9, 0), (9, 0), (9, 0), (9, 0), (9, 0), (9, 0), (9, 0), (9, 0)] [] M Q :=
  s_answerOf hG hq rfl ⟨hQ.2.1.2.1, hQ.2.1.2.2.1⟩ hA hE hth (fun _ => rfl) (fun _ => rfl) (zQC_wf hQ.2.2.1) h
/-! the model's world -/
theorem s_mw2 (hG : zP G) (h : ∀ W, (∀ t, 0 ≤ t → t < 4 → W t = M 235 (10 + t)) → Y G d mX12_findKin 0 [(2, 234), (9, 0), (9, 0), (9, 0)] [] (zrow M 249 W) (fun r M' => Y G (d + 1) mX12_worldNow 32 [(2, 234), (0, 4)] (zpush r []) M' Q)) : ∀ (k : Nat) (i : Int) (W : Int → Int), 0 ≤ i → i + k = 4 → (∀ t, 0 ≤ t → t < i → W t = M 235 (10 + t)) → Y G (d + 1) mX12_worldNow 2 [(2, 234), (0, i)] [] (zrow M 249 W) Q
  | 0, i, W, i0, i1, hW => by
    have : i = 4 := by omega
    subst this
    exact bX12_worldNow_2 hG ⟨fun _ => h W hW, fun c => absurd c (by omega)⟩
  | k + 1, i, W, i0, i1, hW => by
    refine bX12_worldNow_2 hG ⟨fun c => absurd c (by omega), fun _ => ⟨by omega, by omega, by omega, by omega, ?_⟩⟩
    rw [zset_row, zrow_off (show (235 : Int) ≠ 249 by decide)]
    refine s_mw2 hG h k (i + 1) _ (by omega) (by omega) (fun t t0 t1 => ?_)
    by_cases c : t = i
    · rw [c, zup_at]
    · rw [zup_ne c]; exact hW t t0 (by omega)
theorem s_worldNow (hG : zP G) (hA : zVA (M 235)) (h : ∀ W U V, (∀ t, 0 ≤ t → t < 4 → W t = M 235 (10 + t)) → zME (zrow (zrow (zrow M 249 W) 237 U) 238 V) → Q (9, 0) (zrow (zrow (zrow M 249 W) 237 U) 238 V)) : Y G (d + 2) mX12_worldNow 0 [(2, 234), (9, 0)] [] M Q := by
  refine bX12_worldNow_0 hG ?_
  rw [show M = zrow M 249 (M 249) from zrow_self.symm]
  refine s_mw2 hG (fun W hW => ?_) 4 0 _ (by omega) (by omega) (fun t t0 t1 => by omega)
  have e : zrow M 249 W 235 = M 235 := zrow_off (by decide)
  refine s_findKin hG rfl (by rw [e]; exact hA.2.1.1) (by rw [e]; exact hA.2.2.2.2.2.2.2.2.2.2) (fun U V hU hV => bX12_worldNow_32 hG (h W U V hW ?_))
  rw [e] at hU hV
  unfold zME
  rw [zrow_row, zrow_off (show (237 : Int) ≠ 238 by decide), zrow_row, zrow_off (show (235 : Int) ≠ 238 by decide), zrow_off (show (235 : Int) ≠ 237 by decide), e]
  exact ⟨hU, hV⟩
theorem s_mf6 (hG : zP G) (h : ∀ W, (∀ t, 0 ≤ t → t < 4 → W t = 0) → Q (9, 0) (zrow M 249 W)) : ∀ (k : Nat) (i : Int) (W : Int → Int), 0 ≤ i → i + k = 4 → (∀ t, 0 ≤ t → t < i → W t = 0) → Y G (d + 1) mX12_firstWorld 6 [(2, 234), (0, i)] [] (zrow M 249 W) Q
  | 0, i, W, i0, i1, hW => by
    have : i = 4 := by omega
    subst this
    exact bX12_firstWorld_6 hG ⟨fun _ => h W hW, fun c => absurd c (by omega)⟩
  | k + 1, i, W, i0, i1, hW => by
    refine bX12_firstWorld_6 hG ⟨fun c => absurd c (by omega), fun _ => ⟨by omega, by omega, ?_⟩⟩
    rw [zset_row]
    refine s_mf6 hG h k (i + 1) _ (by omega) (by omega) (fun t t0 t1 => ?_)
    by_cases c : t = i
    · rw [c, zup_at]
    · rw [zup_ne c]; exact hW t t0 (by omega)
theorem zME_row {a : Int} {f : Int → Int} (h1 : a ≠ 235) (h2 : a ≠ 237) (h3 : a ≠ 238) (h : zME M) : zME (zrow M a f) := by
  unfold zME at *
  rw [zrow_off (fun e => h1 e.symm), zrow_off (fun e => h2 e.symm), zrow_off (fun e => h3 e.symm)]
  exact h
theorem s_firstWorld (hG : zP G) (hA : zVA (M 235)) (h : ∀ U V W, (∀ t, 0 ≤ t → t < 4 → W t = 0) → zME (zrow (zrow M 237 U) 238 V) → Q (9, 0) (zrow (zrow (zrow M 237 U) 238 V) 249 W)) : Y G (d + 2) mX12_firstWorld 0 [(2, 234), (9, 0)] [] M Q := by
  refine bX12_firstWorld_0 hG ?_
  refine s_findKin hG rfl hA.2.1.1 hA.2.2.2.2.2.2.2.2.2.2 (fun U V hU hV => ?_)
  refine bX12_firstWorld_4 hG ?_
  rw [show zrow (zrow M 237 U) 238 V = zrow (zrow (zrow M 237 U) 238 V) 249 (zrow (zrow M 237 U) 238 V 249) from zrow_self.symm]
  refine s_mf6 hG (fun W hW => h U V W hW ?_) 4 0 _ (by omega) (by omega) (fun t t0 t1 => by omega)
  unfold zME
  rw [zrow_row, zrow_off (show (237 : Int) ≠ 238 by decide), zrow_row, zrow_off (show (235 : Int) ≠ 238 by decide), zrow_off (show (235 : Int) ≠ 237 by decide)]
  exact ⟨hU, hV⟩
/-! world by world -/
def zcw (W : Int → Int) : Int → Int := fun t => if 0 ≤ t ∧ t < 4 then W t else 0
theorem zcw_up {W : Int → Int} {k x : Int} (h : 0 ≤ k ∧ k < 4) : zcw (zup W k x) = zup (zcw W) k x := by
  funext t
  unfold zcw zup
  by_cases c : t = k
  · rw [if_pos c, if_pos c, if_pos (by omega)]
  · rw [if_neg c, if_neg c]
theorem zcw_at {W : Int → Int} {t : Int} (h : 0 ≤ t ∧ t < 4) : zcw W t = W t := if_pos h
def zwx (b : Int → Bool) : Nat → (Int → Int) → Option (Int → Int)
  | 0, _ => none
  | k + 1, W => if b k then (if W k < 9 then some (zup W k (W k + 1)) else zwx b k (zup W k 0)) else zwx b k W
def zd9 (W : Int → Int) : Prop := ∀ t, 0 ≤ t → t < 4 → 0 ≤ W t ∧ W t ≤ 9
theorem zd9_up {W : Int → Int} {k x : Int} (h : zd9 W) (hx : 0 ≤ x ∧ x ≤ 9) : zd9 (zup W k x) := fun t t0 t1 => by
  by_cases c : t = k
  · rw [c, zup_at]; exact hx
  · rw [zup_ne c]; exact h t t0 t1
theorem zwx_9 {b : Int → Bool} : ∀ (k : Nat) (W W' : Int → Int), k ≤ 4 → zd9 W → zwx b k W = some W' → zd9 W'
  | 0, W, W', _, _, h => by exact absurd h (by show ¬ none = some W'; intro q; cases q)
  | k + 1, W, W', hk, h9, h => by
    have q := h9 k (by omega) (by omega)
    unfold zwx at h
    split at h
    · split at h
      · cases h; exact zd9_up h9 (by omega)
      · exact zwx_9 k _ _ (by omega) (zd9_up h9 (by omega)) h
    · exact zwx_9 k _ _ (by omega) h9 h
theorem s_cn2 (hG : zP G) {x : Int} {b : Int → Bool} (hb : ∀ t, 0 ≤ t → t < 4 → (zand (zshr x t) 1 = 0 ↔ b t = false)) : ∀ (k : Nat) (W : Int → Int), k ≤ 4 → zd9 W → (∀ W', zwx b k (zcw W) = some (zcw W') → zd9 W' → Q (0, 1) (zrow M 182 W')) → (zwx b k (zcw W) = none → ∀ W', Q (0, 0) (zrow M 182 W')) → Y G d mX0_nextWorld 2 [(2, 176), (0, x), (0, (k : Int) - 1)] [] (zrow M 182 W) Q
  | 0, W, hk, h9, h1, h0 => bX0_nextWorld_2 hG ⟨fun _ => h0 rfl W, fun c => absurd c (by omega)⟩
  | k + 1, W, hk, h9, h1, h0 => by
    have q := h9 k (by omega) (by omega)
    have hk4 : 0 ≤ (k : Int) ∧ (k : Int) < 4 := by omega
    have hbk := hb k (by omega) (by omega)
    rw [show ((k + 1 : Nat) : Int) - 1 = (k : Int) by omega]
    have e : ∀ V : Int → Int, zwx b (k + 1) V = if b k then (if V k < 9 then some (zup V k (V k + 1)) else zwx b k (zup V k 0)) else zwx b k V := fun _ => rfl
    rw [e, zcw_at hk4] at h1 h0
    refine bX0_nextWorld_2 hG ?_
    rw [zrow_at]
    refine ⟨fun c => absurd c (by omega), fun _ => ⟨fun c => ⟨by omega, ?_⟩, fun c => ⟨by omega, fun c2 => ⟨by omega, by omega, ?_⟩, fun c2 => ⟨by omega, by omega, by omega, ?_⟩⟩⟩⟩
    · have bf := hbk.mp c
      rw [bf] at h1 h0
      rw [show (k : Int) + -1 = (k : Int) - 1 by omega]
      exact s_cn2 hG hb k W (by omega) h9 h1 h0
    · have bf : b k = true := by cases hh : b k; exact absurd (hbk.mpr hh) c; rfl
      rw [bf, if_pos rfl, if_neg (by omega)] at h1 h0
      rw [← zcw_up hk4] at h1 h0
      rw [zset_row, show (k : Int) + -1 = (k : Int) - 1 by omega]
      exact s_cn2 hG hb k _ (by omega) (zd9_up h9 (by omega)) h1 h0
    · have bf : b k = true := by cases hh : b k; exact absurd (hbk.mpr hh) c; rfl
      rw [bf, if_pos rfl, if_pos c2] at h1
      rw [zset_row]
      exact h1 _ (by rw [zcw_up hk4]) (zd9_up h9 (by omega))
theorem s_mn2 (hG : zP G) {x : Int} {b : Int → Bool} (hb : ∀ t, 0 ≤ t → t < 4 → (zbit x t ↔ b t = true)) : ∀ (k : Nat) (W : Int → Int), k ≤ 4 → zd9 W → (∀ W', zwx b k (zcw W) = some (zcw W') → zd9 W' → Q (0, 1) (zrow M 249 W')) → (zwx b k (zcw W) = none → ∀ W', Q (0, 0) (zrow M 249 W')) → Y G (d + 1) mX12_nextWorld 2 [(2, 234), (0, x), (0, (k : Int) - 1)] [] (zrow M 249 W) Q
  | 0, W, hk, h9, h1, h0 => bX12_nextWorld_2 hG ⟨fun _ => h0 rfl W, fun c => absurd c (by omega)⟩
  | k + 1, W, hk, h9, h1, h0 => by
    have q := h9 k (by omega) (by omega)
    have hk4 : 0 ≤ (k : Int) ∧ (k : Int) < 4 := by omega
    have hbk := hb k (by omega) (by omega)
    rw [show ((k + 1 : Nat) : Int) - 1 = (k : Int) by omega]
    have e : ∀ V : Int → Int, zwx b (k + 1) V = if b k then (if V k < 9 then some (zup V k (V k + 1)) else zwx b k (zup V k 0)) else zwx b k V := fun _ => rfl
    rw [e, zcw_at hk4] at h1 h0
    refine bX12_nextWorld_2 hG ?_
    rw [zrow_at]
    refine ⟨fun c => absurd c (by omega), fun _ => ⟨fun c => ⟨by omega, fun c2 => ⟨by omega, by omega, ?_⟩, fun c2 => ⟨by omega, by omega, by omega, ?_⟩⟩, fun c => ⟨by omega, ?_⟩⟩⟩
    · have bf := hbk.mp c
      rw [bf, if_pos rfl, if_neg (by omega)] at h1 h0
      rw [← zcw_up hk4] at h1 h0
      rw [zset_row, show (k : Int) + -1 = (k : Int) - 1 by omega]
      exact s_mn2 hG hb k _ (by omega) (zd9_up h9 (by omega)) h1 h0
    · have bf := hbk.mp c
      rw [bf, if_pos rfl, if_pos c2] at h1
      rw [zset_row]
      exact h1 _ (by rw [zcw_up hk4]) (zd9_up h9 (by omega))
    · have bf : b k = false := by cases hh : b k; rfl; exact absurd (hbk.mpr hh) c
      rw [bf] at h1 h0
      rw [show (k : Int) + -1 = (k : Int) - 1 by omega]
      exact s_mn2 hG hb k W (by omega) h9 h1 h0
/-- which world it is: no two of a walk are alike -/
def zwi (W : Int → Int) : Int := W 0 * 1000 + W 1 * 100 + W 2 * 10 + W 3
theorem zwx_lt {b : Int → Bool} {W W' : Int → Int} (h9 : zd9 W) (h : zwx b 4 W = some W') : zwi W < zwi W' := by
  have a0 := h9 0 (by omega) (by omega)
  have a1 := h9 1 (by omega) (by omega)
  have a2 := h9 2 (by omega) (by omega)
  have a3 := h9 3 (by omega) (by omega)
  simp only [zwx, show ((3 : Nat) : Int) = 3 from rfl, show ((2 : Nat) : Int) = 2 from rfl, show ((1 : Nat) : Int) = 1 from rfl, show ((0 : Nat) : Int) = 0 from rfl] at h
  unfold zwi
  (repeat' split at h) <;> first | (cases h; done) | (injection h with h; subst h; simp only [zup, Int.reduceEq, ↓reduceIte] at *; (try omega))
end WO

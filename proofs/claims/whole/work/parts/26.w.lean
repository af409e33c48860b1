/-! rows for the world's own methods, which run before all is made: n cells stand, 11 at least -/
def zW (G : zG) : Prop := (∀ k : Nat, k < 11 → G.2.2.2.2.2.2 2 k = zfx 2 k) ∧ ∀ a i : Int, 3 ≤ a → a ≤ 11 → G.2.2.2.2.2.2 a i = 0
abbrev Yw (n : Nat) (G : zG) (d : Nat) (mt : zMt) (pc : Nat) (ls st : List zV) (M : zM) (Q : zV → zM → Prop) : Prop := Z G d mt pc ls st n n M Q
theorem zP_W {G : zG} (h : zP G) : zW G := by
  refine ⟨fun k _ => by rw [h.1], fun a i h1 h2 => ?_⟩
  rw [h.1]
  have hall : ∀ q : Nat, q < 12 → 3 ≤ q → (zsh q).1 = 100 := by decide +kernel
  exact zfx_arr (k := 100) (len := (zsh a.toNat).2) (by rw [← hall a.toNat (by omega) (by omega)]) (Or.inl rfl)
section WR
variable {G : zG} {d n : Nat} {mt : zMt} {pc : Nat} {ls st stk : List zV} {M : zM} {Q : zV → zM → Prop}
theorem w_getf {a x : Int} {idx ci k len t : Nat} (hn : 11 ≤ n) (ha : 1 ≤ a ∧ a ≤ 11) (hd : decode mt.2.1 pc = .ok (.getfield idx, 3)) (hg : zgf mt.1.cls idx ci k) (hs : zsh a.toNat = (ci, len)) (hc : ci < 100 ∧ k < len) (ht : zft ((zfd ci).getD k 0) = t) (hx : M a k = x) (h : Yw n G d mt (pc + 3) ls ((t, x) :: st) M Q) : Yw n G d mt pc ls ((2, a) :: st) M Q :=
  z_getfield hd hg hs hc ht ⟨ha.1, by omega⟩ (by rw [hx]; exact h)
theorem w_getr {a v : Int} {idx ci k len : Nat} (hn : 11 ≤ n) (hW : zW G) (ha : a = 2) (hd : decode mt.2.1 pc = .ok (.getfield idx, 3)) (hg : zgf mt.1.cls idx ci k) (hs : zsh a.toNat = (ci, len)) (hc : ci < 100 ∧ k < len) (ht : zft ((zfd ci).getD k 0) = 2) (hv : zfx a k = v) (hv0 : v ≠ 0) (h : Yw n G d mt (pc + 3) ls ((2, v) :: st) M Q) : Yw n G d mt pc ls ((2, a) :: st) M Q := by
  subst ha
  have hlen : len = 11 := by have q : zsh (2 : Int).toNat = (10, 11) := by decide +kernel
                             rw [q] at hs; cases hs; rfl
  exact z_getref hd hg hs hc ht ⟨by omega, by omega⟩ (by rw [hW.1 k (by omega)]; exact hv) hv0 h
theorem w_iald {a i x : Int} {len : Nat} (hn : 11 ≤ n) (ha : 3 ≤ a ∧ a ≤ 11) (hd : decode mt.2.1 pc = .ok (.iaload, 1)) (hs : zsh a.toNat = (100, len)) (hi : 0 ≤ i ∧ i < len) (hx : M a i = x) (h : Yw n G d mt (pc + 1) ls ((0, x) :: st) M Q) : Yw n G d mt pc ls ((0, i) :: (2, a) :: st) M Q :=
  z_iaload hd hs ⟨by omega, by omega⟩ hi (by rw [hx]; exact h)
theorem w_putf {M' : zM} {a v : Int} {idx ci k len t t' : Nat} (hn : 11 ≤ n) (hW : zW G) (ha : a = 2) (hd : decode mt.2.1 pc = .ok (.putfield idx, 3)) (hg : zgf mt.1.cls idx ci k) (hs : zsh a.toNat = (ci, len)) (hc : ci < 100 ∧ k < len) (ht : (zfd ci).getD k 0 = t ∧ zft t = t') (hp : zpf ci k t) (hv : t = 3 → 0 ≤ v ∧ v ≤ 1) (ht2 : t ≠ 2) (hM : zset M a k v = M') (h : Yw n G d mt (pc + 3) ls st M' Q) : Yw n G d mt pc ls ((t', v) :: (2, a) :: st) M Q := by
  subst ha
  have hlen : len = 11 := by have q : zsh (2 : Int).toNat = (10, 11) := by decide +kernel
                             rw [q] at hs; cases hs; rfl
  exact z_putfield hd hg hs hc ht hp ⟨by omega, by omega⟩ hv (by rw [hW.1 k (by omega)]; exact zfx_fld hs hc (by rw [ht.1]; exact ht2)) (by rw [hM]; exact h)
theorem w_iast {a i v : Int} {len : Nat} (hn : 11 ≤ n) (hW : zW G) (ha : 3 ≤ a ∧ a ≤ 11) (hd : decode mt.2.1 pc = .ok (.iastore, 1)) (hs : zsh a.toNat = (100, len)) (hi : 0 ≤ i ∧ i < len) (h : Yw n G d mt (pc + 1) ls st (zset M a i v) Q) : Yw n G d mt pc ls ((0, v) :: (0, i) :: (2, a) :: st) M Q :=
  z_iastore hd hs ⟨by omega, by omega⟩ hi (hW.2 a i ha.1 ha.2) h
theorem w_alen {a x : Int} {kind len : Nat} (hn : 11 ≤ n) (ha : 3 ≤ a ∧ a ≤ 11) (hd : decode mt.2.1 pc = .ok (.arraylength, 1)) (hs : zsh a.toNat = (kind, len)) (hk : 100 ≤ kind ∧ kind ≤ 104) (hl : len ≠ 0) (hx : (len : Int) = x) (h : Yw n G d mt (pc + 1) ls ((0, x) :: st) M Q) : Yw n G d mt pc ls ((2, a) :: st) M Q :=
  z_alen hd hs hk ⟨by omega, by omega⟩ (by rw [hx]; exact h)
theorem w_cv {en : List zV} {mt2 : zMt} {idx ci len : Nat} {b : Int} {as : List zV} (hn : 11 ≤ n) (hb : 1 ≤ b ∧ b ≤ 11) (hd : decode mt.2.1 pc = .ok (.invokevirtual idx, 3)) (hk : zlk mt.1.cls idx mt2.1) (hm : zmk mt2 as.length) (hi : Cond.instanceMethod mt2.1 ∈ zTs) (hse : Cond.selects mt2.1.cls mt2.1 mt2.1 ∈ zTs)
    (hsk : stk = as.reverse ++ (2, b) :: st) (hsh : zsh b.toNat = (ci, len)) (hci : (ci < 100 ∧ (vwCl[ci]?).map (fun q => q.1) = some mt2.1.cls) ∧ len ≠ 0) (hcs : zcs st ≤ 8) (hex : (zex ((2, b) :: as)).length ≤ mt2.2.2.1) (hen : zen ((2, b) :: as) mt2.2.2.1 = en)
    (h : Yw n G d mt2 0 en [] M (fun r M' => Yw n G (d + 1) mt (pc + 3) ls (zpush r st) M' Q)) : Yw n G (d + 1) mt pc ls stk M Q :=
  z_callv hd hk hm hi hse hsk ⟨hb.1, by omega⟩ hsh hci.1 hcs hex ⟨Nat.le_refl _, Nat.le_refl _⟩ (by rw [hen]; exact h)
theorem w_cs {en : List zV} {mt2 : zMt} {idx : Nat} {as : List zV} (hd : decode mt.2.1 pc = .ok (.invokestatic idx, 3)) (hk : zlk mt.1.cls idx mt2.1) (hm : zmk mt2 as.length) (hi : Cond.static mt2.1 ∈ zTs)
    (hsk : stk = as.reverse ++ st) (hcs : zcs st ≤ 8) (hex : (zex as).length ≤ mt2.2.2.1) (hen : zen as mt2.2.2.1 = en)
    (h : Yw n G d mt2 0 en [] M (fun r M' => Yw n G (d + 1) mt (pc + 3) ls (zpush r st) M' Q)) : Yw n G (d + 1) mt pc ls stk M Q :=
  z_calls hd hk hm hi hsk hcs hex ⟨Nat.le_refl _, Nat.le_refl _⟩ (by rw [hen]; exact h)
end WR

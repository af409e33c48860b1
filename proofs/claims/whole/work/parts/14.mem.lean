theorem z_fs_set {B : Nat} {ty : Nat → Nat} {len k : Nat} {M : zM} {a v : Int} (hk : k < len) :
    ((List.range len).map fun j => zfv B (ty j) (M a j)).set k (zfv B (ty k) v) = (List.range len).map fun j => zfv B (ty j) (zset M a k v a j) := by
  apply List.ext_getElem?
  intro j
  by_cases hj : j = k
  · subst hj
    rw [List.getElem?_set_self (by simpa using hk), List.getElem?_map, List.getElem?_range hk]
    simp [zset_same]
  · rw [List.getElem?_set_ne (fun e => hj e.symm), List.getElem?_map, List.getElem?_map]
    cases h : (List.range len)[j]? with
    | none => rfl
    | some x =>
      have e1 : x = j := by
        have := List.getElem?_eq_some_iff.mp h
        obtain ⟨h1, h2⟩ := this
        rw [← h2]; simp
      subst e1
      simp only [Option.map_some]
      rw [zset_ne (fun q => hj (by omega))]
theorem z_fun_i {M : zM} {a v : Int} {i : Nat} : upd (fun k => Int32.ofInt (M a k)) i (Int32.ofInt v) = fun k : Nat => Int32.ofInt (zset M a i v a k) := by
  funext j
  unfold upd
  by_cases hj : j = i
  · subst hj; simp [zset_same]
  · rw [if_neg hj, zset_ne (fun q => hj (by omega))]
section ZR
variable {G : zG} {d : Nat} {mt : zMt} {pc : Nat} {ls st : List zV} {n n1 : Nat} {M : zM} {Q : zV → zM → Prop}
/-- a step that changes a slot -/
theorem z_stm {pc' : Nat} {st' : List zV} {a i v : Int} (hok : zokL st → zokL st') (hv : zokL st → zin (ztyp a i) v) (hx : G.2.2.2.2.2.2 a i = 0)
    (hw : ∀ (p : Program) (e : Env) (R : Room) (s : State) (m : MethodId) (args : Array Value) (below : List Frame) (meth : Method) (c : Code) (H : Heap) (locs : List Loc) (c1 s1 : Nat) (lsC : Array Slot) (QS : State → Prop), p.tables.exec = Jvm.exec → c.code = mt.2.1 → s.vm.findClass mt.1.cls = some m.cls → meth.name = mt.1.name → zS G s → zokL st → va_P G.2.1 vwCl (zws G n M) H → va_S (zA G) s.heap H locs →
      (∀ (H1 : Heap) (locs1 : List Loc), va_P G.2.1 vwCl (zws G n (zset M a i v)) H1 → va_S (zA G) s.heap H1 locs1 → W p G.1 e R s m args below meth c H1 locs1 c1 s1 QS (F0 m pc' lsC (st'.map (zc G)))) → W p G.1 e R s m args below meth c H locs c1 s1 QS (F0 m pc lsC (st.map (zc G))))
    (h : Z G d mt pc' ls st' n n1 (zset M a i v) Q) : Z G d mt pc ls st n n1 M Q := by
  intro oM oF oL oS p e R s m args below meth c H locs c1 s1 lsC QS X hS hr hl hll hz hn hc hs hE
  refine hw p e R s m args below meth c H locs c1 s1 lsC QS X.1 X.2.1 X.2.2.2.1 X.2.2.2.2.2.1 X.2.2.2.2.1 oS hr hS (fun H1 locs1 hP1 hS1 => ?_)
  exact h (z_okset oM (hv oS)) (z_fixset oF hx) oL (hok oS) p e R s m args below meth c H1 locs1 c1 s1 lsC QS X hS1 hP1 hl hll hz hn hc hs hE
theorem z_putfield {a v : Int} {idx ci k len t t' : Nat} (hd : decode mt.2.1 pc = .ok (.putfield idx, 3)) (hg : zgf mt.1.cls idx ci k) (hs : zsh a.toNat = (ci, len)) (hc : ci < 100 ∧ k < len) (ht : (zfd ci).getD k 0 = t ∧ zft t = t') (hp : zpf ci k t) (ha : 1 ≤ a ∧ a ≤ n) (hv : t = 3 → 0 ≤ v ∧ v ≤ 1) (hx : G.2.2.2.2.2.2 a k = 0) (h : Z G d mt (pc + 3) ls st n n1 (zset M a k v) Q) : Z G d mt pc ls ((t', v) :: (2, a) :: st) n n1 M Q := by
  obtain ⟨ht, rfl⟩ := ht
  refine z_stm (pc' := pc + 3) (st' := st) (fun o => z_okt (z_okt o)) (fun o => ?_) hx (fun p e R s m args below meth c H locs c1 s1 lsC QS hx hb hown hnm hZ o hP hS k2 => ?_) h
  · rw [z_typ_obj hs hc.1, ht]
    have := z_okh o
    unfold zft at this
    split at this
    · exact hv rfl
    · exact this
  · obtain ⟨C, T, N, ty, hcl, hkN, hin, hnmX, htyX, hfin, hpd, hty⟩ := hp
    have he := z_ta (G := G) (M := M) ha.1 ha.2
    rw [z_cell_obj hs hc.1, z_cst ha.1] at he
    have hval : zc G (zft t, v) = zfv (zB G) t v ∧ narrow (ty k) (zfv (zB G) t v) = zfv (zB G) t v ∧ fits (ty k) (zfv (zB G) t v) = true := by
      rcases hty with ⟨rfl, e⟩ | ⟨rfl, e⟩ | ⟨rfl, e⟩
      · rw [e]; exact ⟨rfl, rfl, rfl⟩
      · rw [e]; exact ⟨rfl, rfl, rfl⟩
      · rw [e]
        obtain ⟨q1, q2⟩ := hv rfl
        have : v = 0 ∨ v = 1 := by omega
        rcases this with rfl | rfl
        · exact ⟨rfl, (show narrow .boolean (.int (Int32.ofInt 0)) = .int (Int32.ofInt 0) by decide +kernel), (show fits .boolean (.int (Int32.ofInt 0)) = true by decide +kernel)⟩
        · exact ⟨rfl, (show narrow .boolean (.int (Int32.ofInt 1)) = .int (Int32.ofInt 1) by decide +kernel), (show fits .boolean (.int (Int32.ofInt 1)) = true by decide +kernel)⟩
    rw [List.map_cons, List.map_cons, z_rf ha.1, hval.1]
    have hset : (zws G n M).set (a - 1).toNat (zB G + (a - 1).toNat, .inr (ci, ((List.range len).map fun j => zfv (zB G) ((zfd ci).getD j 0) (M a j)).set k (zfv (zB G) t v))) = zws G n (zset M a k v) := by
      refine z_setR ha.1 ha.2 ?_
      rw [z_cell_obj hs hc.1, z_cst ha.1, ← ht, z_fs_set hc.2]
    obtain ⟨C', T', N', hcl', hkN', hlk, -⟩ := hg
    cases hcl.symm.trans hcl'
    rcases hlk with hlk | ⟨host, hlk⟩
    · exact va_put hx hb (zS_hts hZ args) hin ty htyX hnmX hown hZ.2.2.2.1 hP (zws_D G n M) hS _ he hcl k hkN (zS_hts hZ args _ hlk) (fun _ h9 => h9) hfin hpd hval.2.1 hval.2.2 (by simpa using hc.2) hd (fun H1 locs1 hP1 _ hS1 => k2 H1 locs1 (by rw [← hset]; exact hP1) hS1)
    · exact va_putN hx hb (zS_hts hZ args) hin ty htyX hnmX hown hZ.2.2.2.1 hP (zws_D G n M) hS _ he hcl k hkN (zS_nw hZ args hlk) (fun _ h9 => h9) hfin hpd hval.2.1 hval.2.2 (by simpa using hc.2) hd (fun H1 locs1 hP1 _ hS1 => k2 H1 locs1 (by rw [← hset]; exact hP1) hS1)
end ZR

-- deps: 37 38 39 50 51 52 53 54
/-! ===== the class: sales, worths, moves ===== -/
def gsz : gC := .inr (3, [.null, .int 0, .int 0, .int 0, .int 0, .int 0])
def gsan (shop since price week : Int32) : Nat → Int32 := fun j => if j = 4 then week else if j = 3 then price else if j = 2 then since else if j = 1 then shop else 0
theorem gDu_o {D : Nat → Nat} {o k i : Nat} (h : i ≠ o) : gDu D o k i = D i := if_neg h
theorem gxu_o {x : Nat → Nat → Int32} {o i : Nat} {f : Nat → Int32} (h : i ≠ o) : gxu x o f i = x i := if_neg h
theorem gxu_s {x : Nat → Nat → Int32} {o : Nat} {f : Nat → Int32} : gxu x o f o = f := if_pos rfl
section GC5
variable {w a : Nat → Nat → Int32} {b : Nat → Nat → Int64} {r : Nat → Nat → Nat} {q : Nat → Nat → Option Nat} {y : gH} {n u : Nat} {d : Nat}
variable {D : Nat → Nat} {x : Nat → Nat → Int32} {z : Nat → Nat}
theorem r_newS {k pc : Nat} {L : gL} {st : List Value} {Q : Option Value → gS → Prop} {row : gR} (hk : gMT[k]? = some row) {idx len ps : Nat} {w0 : Value} (hq : glook row.2.2.2.2 pc = some (.new idx, len, [3, ps], w0)) (h84 : 84 ≤ n) (hn : n < 1000000) (h : gX d k (pc + 3) L (.ref n :: st) (n + 1, u + 6, HP w a b r q (gY (gDu D n 0) x z (gset y n gsz))) Q) : gX d k pc L st (n, u, HP w a b r q (gY D x z y)) Q := by
  refine r_new hk hq rfl hn ?_
  have e : gset (HP w a b r q (gY D x z y)) n (.inr (3, gdv 3 6)) = HP w a b r q (gY (gDu D n 0) x z (gset y n gsz)) := by
    rw [HP_y h84]
    congr 1
    funext i
    by_cases hi : i = n
    · subst hi; rw [gset_same]; simp only [gY, gDu_s, gset_same]; rfl
    · rw [gset_ne _ _ hi]; simp only [gY, gDu_o hi, gset_ne _ _ hi]
  show gX d k (pc + 3) L (.ref n :: st) (n + 1, u + 6, gset (HP w a b r q (gY D x z y)) n (.inr (3, gdv 3 6))) Q
  rw [e]; exact h
theorem c_Sale (hd : 10 ≤ d) {o o' : Nat} (h84 : 84 ≤ o') (h0 : D o' = 0) (hy : y o' = gsz) (ho : gisT D o) (p wk : Int32) : gE d 59 [.ref o', .ref o, .int p, .int wk] (n, u, HP w a b r q (gY D x z y)) (fun v' S' => v' = none ∧ S' = (n, u, HP w a b r q (gY (gDu D o' 2) (gxu x o' (gsan (x o 5) (x o 6) p wk)) (gzu z o' o) y))) := by
  have hk : gMT[59]? = some gro_59 := rfl
  refine r_in hk [some (.ref o'), some (.ref o), some (.int p), some (.int wk)] (Nat.le_of_ble_eq_true rfl) rfl ?_
  have hne : o ≠ o' := fun e => by have h9 := ho.2; rw [e, h0] at h9; exact absurd h9 (by decide)
  have hoT : gisT (gDu D o' 2) o := ⟨ho.1, by rw [gDu_o hne]; exact ho.2⟩
  have hoS : gisS (gDu D o' 2) o' := ⟨h84, gDu_s⟩
  have ex : upd2 (upd2 (upd2 (upd2 (gxu x o' (fun _ => 0)) o' 1 (x o 5)) o' 2 (x o 6)) o' 3 p) o' 4 wk = gxu x o' (gsan (x o 5) (x o 6) p wk) := by
    funext i j
    by_cases hi : i = o'
    · subst hi; simp [upd2, gxu, gsan]
    · simp [upd2, gxu, hi]
  have e5 : gxu x o' (fun _ => 0) o 5 = x o 5 := by rw [gxu_o hne]
  have e6 : upd2 (gxu x o' (fun _ => 0)) o' 1 (x o 5) o 6 = x o 6 := by rw [upd2_row _ _ _ _ hne, gxu_o hne]
  refine r_step hk rfl rfl rfl ?_
  refine c_objInit hk hd rfl rfl rfl ?_
  iterate 2 refine r_step hk rfl rfl rfl ?_
  refine r_put hk rfl (fs := [.null, .int 0, .int 0, .int 0, .int 0, .int 0]) (by show HP w a b r q (gY D x z y) o' = _; rw [HP_dyn h84]; simp only [gY, h0]; exact hy) rfl ?_
  dsimp only
  rw [HP_y h84, gY_new (k := 2) (f := fun _ => 0) (v := o) (by rfl)]
  show gX d 59 9 _ [] (n, u, HP w a b r q (gY (gDu D o' 2) (gxu x o' (fun _ => 0)) (gzu z o' o) y)) _
  iterate 2 refine r_step hk rfl rfl rfl ?_
  refine r_getT hk rfl hoT rfl ?_
  rw [e5]
  refine r_putV hk rfl hoS rfl ?_
  iterate 2 refine r_step hk rfl rfl rfl ?_
  refine r_getT hk rfl hoT rfl ?_
  rw [e6]
  refine r_putV hk rfl hoS rfl ?_
  iterate 2 refine r_step hk rfl rfl rfl ?_
  refine r_putV hk rfl hoS rfl ?_
  iterate 2 refine r_step hk rfl rfl rfl ?_
  refine r_putV hk rfl hoS rfl ?_
  refine r_ret hk rfl rfl ?_
  rw [ex]
  exact ⟨rfl, rfl⟩
theorem c_sell (hd : 12 ≤ d) {N M : Nat} {o : Nat → Nat} (hN : w 0 1 = nI N) (hN1 : N ≤ 100) (hM : w 0 3 = nI M) (hM1 : M ≤ 200) (h84 : 84 ≤ n) (hn : n < 1000000) (hT : cTs q D N o) (hon : ∀ t, t < N → o t < n) (hkd : ∀ t, t < N → gin (x (o t) 1) 8) (hsh : ∀ t, t < N → gin (x (o t) 5) 5) (v1 : Int32) : gE d 58 [.ref 0, .int v1] (n, u, HP w a b r q (gY D x z y)) (fun v S' =>
    (∃ t k s, t < N ∧ k < 8 ∧ s < 5 ∧ v1 = nI t ∧ x (o t) 4 = 1 ∧ x (o t) 1 = nI k ∧ x (o t) 5 = nI s ∧ M < 200 ∧ v = some (.int (nI M)) ∧ S' = (n + 1, u + 6, HP (upd2 (upd2 w (4 + 3 * s) 1 (w (4 + 3 * s) 1 - 1)) 0 3 (nI (M + 1))) (upd2 a (5 + 3 * s) k (a (5 + 3 * s) k + 1)) b r (upd2 q 2 M (some n)) (gY (gDu D n 2) (upd2 (upd2 (gxu x n (gsan (x (o t) 5) (x (o t) 6) (gpr (a 19 k) (w 0 16) (x (o t) 6)) (w 0 16))) (o t) 8 (nI M)) (o t) 4 5) (gzu z n (o t)) y)))
    ∨ (¬ ((∃ t, t < N ∧ v1 = nI t ∧ x (o t) 4 = 1) ∧ M < 200) ∧ v = some (.int (-1)) ∧ S' = (n, u, HP w a b r q (gY D x z y)))) := by
  have hk : gMT[58]? = some gro_58 := rfl
  refine r_inQ hk [some (.ref 0), some (.int v1), none] (Nat.le_of_ble_eq_true rfl) rfl ?_
  intro Q hQ
  have e200 : w 0 3 < 200 ↔ M < 200 := by rw [hM]; exact nI_ltI (a := M) (b := 200) (by omega) (by omega)
  have e1 : w 0 3 + 1 = nI (M + 1) := by rw [hM]; exact nI_1 M
  have e2 : w 0 3 + 1 - 1 = nI M := by rw [e1]; exact nI_pred M
  have yes : ∀ t k s, t < N → k < 8 → s < 5 → v1 = nI t → x (o t) 4 = 1 → x (o t) 1 = nI k → x (o t) 5 = nI s → M < 200 → gX d 58 20 [some (.ref 0), some (.int v1), none] [] (n, u, HP w a b r q (gY D x z y)) Q := by
    intro t k s ht hk8 hs hv1 h4 hk1 hs1 hM2
    have ho := (hT.1 t ht).2
    have hne : o t ≠ n := by have := hon t ht; omega
    have ho0 : gisT (gDu D n 0) (o t) := ⟨ho.1, by rw [gDu_o hne]; exact ho.2⟩
    have ho2 : gisT (gDu D n 2) (o t) := ⟨ho.1, by rw [gDu_o hne]; exact ho.2⟩
    have hy9 : ∀ (x' : Nat → Nat → Int32), gY (gDu (gDu D n 0) n 2) x' (gzu z n (o t)) (gset y n gsz) = gY (gDu D n 2) x' (gzu z n (o t)) y := by
      intro x'
      funext i
      by_cases hi : i = n
      · subst hi; simp only [gY, gDu_s]
      · simp only [gY, gDu_o hi, gset_ne _ _ hi]
    have x1' : ∀ f, gxu x n f (o t) = x (o t) := fun f => gxu_o hne
    iterate 3 refine r_step hk rfl rfl rfl ?_
    refine r_qa hk (t) (o t) rfl rfl hv1 (by omega) rfl (hT.1 t ht).1 ?_
    iterate 5 refine r_step hk rfl rfl rfl ?_
    refine r_newS hk rfl h84 hn ?_
    iterate 4 refine r_step hk rfl rfl rfl ?_
    refine r_callV hk [.ref 0, .ref (o t)] [.ref (o t), .ref n, .ref n, .int (w 0 3), .ref 2] rfl rfl rfl rfl rfl rfl rfl (by omega) (c_priceNow (by omega) ho0 hk8 hk1) ?_
    rintro _ _ ⟨rfl, rfl⟩
    iterate 2 refine r_step hk rfl rfl rfl ?_
    refine r_callI hk n [.ref (o t), .int _, .int _] [.ref n, .int (w 0 3), .ref 2] rfl rfl rfl rfl rfl (by omega) (c_Sale (by omega) h84 gDu_s (gset_same _ _ _) ho0 _ _) ?_
    rintro _ _ ⟨rfl, rfl⟩
    rw [hy9]
    refine r_qs hk M rfl rfl (by show HP w a b r q (gY (gDu D n 2) _ _ y) n = _; rw [HP_dyn h84, gY_S gDu_s]; rfl) rfl rfl hM hM2 rfl ?_
    iterate 3 refine r_step hk rfl rfl rfl ?_
    rw [hM]
    refine r_putT hk rfl ho2 rfl ?_
    iterate 3 refine r_step hk rfl rfl rfl ?_
    refine r_getT hk rfl ho2 rfl ?_
    refine r_qa hk s (4 + 3 * s) rfl rfl (by rw [upd2_col _ _ _ _ (by decide), x1']; exact hs1) hs rfl (gshops_at hs) ?_
    refine r_getSA hk rfl hs rfl ?_
    refine r_step hk rfl rfl rfl ?_
    refine r_getT hk rfl ho2 rfl ?_
    refine r_step hk rfl rfl rfl ?_
    refine r_ia hk k rfl (HP_so hs) (by rw [upd2_col _ _ _ _ (by decide), x1']; exact hk1) hk8 rfl ?_
    iterate 2 refine r_step hk rfl rfl rfl ?_
    refine r_is hk k rfl (HP_so hs) (HP_so hs).symm (by rw [upd2_col _ _ _ _ (by decide), x1']; exact hk1) hk8 rfl (Nat.ble_eq.mpr (by omega)) ?_
    iterate 3 refine r_step hk rfl rfl rfl ?_
    refine r_callV hk [.ref 0, .ref (o t), .int 5] [] rfl rfl rfl rfl rfl rfl rfl (by omega) (c_leaveShelf ho2 hs (by rw [upd2_col _ _ _ _ (by decide), x1']; exact hs1) 5) ?_
    rintro _ _ ⟨rfl, rfl⟩
    iterate 5 refine r_step hk rfl rfl rfl ?_
    refine r_putI hk rfl rfl rfl rfl ?_
    iterate 4 refine r_step hk rfl rfl rfl ?_
    refine r_iret hk rfl trivial ?_
    have e3 : upd2 w (4 + 3 * s) 1 (w (4 + 3 * s) 1 - 1) 0 3 = w 0 3 := by rw [upd2_row _ _ _ _ (by omega)]
    refine hQ _ _ (Or.inl ⟨t, k, s, ht, hk8, hs, hv1, h4, hk1, hs1, hM2, ?_, ?_⟩)
    (rw [upd2_same, e3]; exact congrArg (fun z => some (Value.int z)) e2)
    rw [e3, e1]
  iterate 2 refine r_step hk rfl rfl rfl ?_
  refine r_callV hk [.ref 0, .int v1] [] rfl rfl rfl rfl rfl rfl rfl (by omega) (c_liesOnShelf (by omega) hN hN1 hT v1) ?_
  rintro _ _ ⟨⟨⟨t, ht, hv1, hon4⟩, rfl⟩ | ⟨hs, rfl⟩, rfl⟩
  · obtain ⟨⟨k, hk8, hk1⟩, ⟨s, hs5, hs1⟩⟩ := And.intro (hkd t ht) (hsh t ht)
    refine r_step hk rfl rfl rfl ?_
    refine r_eq (fun hq9 => absurd hq9 (by decide)) (fun _ => ?_)
    iterate 4 refine r_step hk rfl rfl rfl ?_
    refine r_lt (fun h15 => ?_) (fun h15 => ?_)
    · exact yes t k s ht hk8 hs5 hv1 hon4 hk1 hs1 (e200.mp h15)
    · refine r_step hk rfl rfl rfl ?_
      refine r_iret hk rfl trivial ?_
      first | exact hQ _ _ (Or.inr ⟨fun h => h15 (e200.mpr h.2), rfl, rfl⟩) | exact hQ _ _ (Or.inr ⟨fun h => hs h.1, rfl, rfl⟩)
  · refine r_step hk rfl rfl rfl ?_
    refine r_eq (fun _ => ?_) (fun hq9 => absurd (by decide) hq9)
    refine r_step hk rfl rfl rfl ?_
    refine r_iret hk rfl trivial ?_
    first | exact hQ _ _ (Or.inr ⟨fun h => h15 (e200.mpr h.2), rfl, rfl⟩) | exact hQ _ _ (Or.inr ⟨fun h => hs h.1, rfl, rfl⟩)
theorem c_undo (hd : 1 ≤ d) {N M : Nat} {o p st : Nat → Nat} (hM : w 0 3 = nI M) (hM1 : M ≤ 200) (hT : cTs q D N o) (hS : ∀ j, j < M → q 2 j = some (p j) ∧ gisS D (p j) ∧ z (p j) = o (st j) ∧ st j < N) (hkd : ∀ t, t < N → gin (x (o t) 1) 8) (hsh : ∀ j, j < M → gin (x (p j) 1) 5) (v1 : Int32) : gE d 60 [.ref 0, .int v1] (n, u, HP w a b r q (gY D x z y)) (fun v S' =>
    (∃ j k s, j < M ∧ k < 8 ∧ s < 5 ∧ v1 = nI j ∧ x (p j) 5 = 0 ∧ x (o (st j)) 8 = nI j ∧ x (o (st j)) 1 = nI k ∧ x (p j) 1 = nI s ∧ v = some (.int 1) ∧ S' = (n, u, HP (upd2 w (4 + 3 * s) 1 (w (4 + 3 * s) 1 + 1)) (upd2 a (5 + 3 * s) k (a (5 + 3 * s) k - 1)) b r q (gY D (upd2 (upd2 (upd2 (upd2 x (p j) 5 1) (o (st j)) 4 1) (o (st j)) 5 (nI s)) (o (st j)) 6 (x (p j) 2)) z y)))
    ∨ ((¬ ∃ j, j < M ∧ v1 = nI j ∧ x (p j) 5 = 0 ∧ x (o (st j)) 8 = nI j) ∧ v = some (.int 0) ∧ S' = (n, u, HP w a b r q (gY D x z y)))) := by
  have hk : gMT[60]? = some gro_60 := rfl
  refine r_inQ hk [some (.ref 0), some (.int v1), none] (Nat.le_of_ble_eq_true rfl) rfl ?_
  intro Q hQ
  have yes : ∀ j k s, j < M → k < 8 → s < 5 → v1 = nI j → x (p j) 5 = 0 → x (o (st j)) 8 = nI j → x (o (st j)) 1 = nI k → x (p j) 1 = nI s → gX d 60 40 [some (.ref 0), some (.int v1), some (.ref (p j))] [] (n, u, HP w a b r q (gY D x z y)) Q := by
    intro j k s hj hk8 hs hv1 h5 h8 hk1 hs1
    obtain ⟨s1, s2, s3, s4⟩ := hS j hj
    have ho := (hT.1 (st j) s4).2
    have hne : o (st j) ≠ p j := fun e => by have := ho.2; rw [e, s2.2] at this; exact absurd this (by decide)
    have c1 : upd2 x (p j) 5 1 (p j) 1 = nI s := by rw [upd2_col _ _ _ _ (by decide)]; exact hs1
    have c2 : upd2 x (p j) 5 1 (o (st j)) 1 = nI k := by rw [upd2_row _ _ _ _ hne]; exact hk1
    have c3 : upd2 x (p j) 5 1 (p j) 2 = x (p j) 2 := by rw [upd2_col _ _ _ _ (by decide)]
    iterate 2 refine r_step hk rfl rfl rfl ?_
    refine r_putV hk rfl s2 rfl ?_
    iterate 3 refine r_step hk rfl rfl rfl ?_
    refine r_getV hk rfl s2 rfl ?_
    refine r_qa hk s (4 + 3 * s) rfl rfl c1 hs rfl (gshops_at hs) ?_
    refine r_getSA hk rfl hs rfl ?_
    refine r_step hk rfl rfl rfl ?_
    refine r_getVr hk rfl s2 ?_
    rw [s3]
    refine r_getT hk rfl ho rfl ?_
    refine r_step hk rfl rfl rfl ?_
    refine r_ia hk k rfl (HP_so hs) c2 hk8 rfl ?_
    iterate 2 refine r_step hk rfl rfl rfl ?_
    refine r_is hk k rfl (HP_so hs) (HP_so hs).symm c2 hk8 rfl (Nat.ble_eq.mpr (by omega)) ?_
    iterate 2 refine r_step hk rfl rfl rfl ?_
    refine r_getVr hk rfl s2 ?_
    rw [s3]
    refine r_step hk rfl rfl rfl ?_
    refine r_getV hk rfl s2 rfl ?_
    refine r_step hk rfl rfl rfl ?_
    refine r_getV hk rfl s2 rfl ?_
    rw [c1, c3]
    refine r_callV hk [.ref 0, .ref (o (st j)), .int (nI s), .int (x (p j) 2)] [] rfl rfl rfl rfl rfl rfl rfl (by omega) (c_comeOnShelf ho hs _) ?_
    rintro _ _ ⟨rfl, rfl⟩
    refine r_step hk rfl rfl rfl ?_
    refine r_iret hk rfl (Or.inr rfl) ?_
    exact hQ _ _ (Or.inl ⟨j, k, s, hj, hk8, hs, hv1, h5, h8, hk1, hs1, rfl, rfl⟩)
  iterate 3 refine r_step hk rfl rfl rfl ?_
  refine r_callS hk [.int v1, .int (w 0 3)] [] rfl rfl rfl rfl rfl (by omega) (by rw [hM]; exact c_within _ _ _ _ (by omega)) ?_
  rintro _ _ ⟨⟨⟨j, hj, hv1⟩, rfl⟩ | ⟨hs, rfl⟩, rfl⟩
  · obtain ⟨s1, s2, s3, s4⟩ := hS j hj
    refine r_step hk rfl rfl rfl ?_
    refine r_ne (fun _ => ?_) (fun hq9 => absurd hq9 (by decide))
    iterate 3 refine r_step hk rfl rfl rfl ?_
    refine r_qa hk (j) (p j) rfl rfl hv1 (by omega) rfl s1 ?_
    iterate 2 refine r_step hk rfl rfl rfl ?_
    refine r_getV hk rfl s2 rfl ?_
    refine r_step hk rfl rfl rfl ?_
    refine r_ne (fun h24 => ?_) (fun h24 => ?_)
    · refine r_step hk rfl rfl rfl ?_
      refine r_iret hk rfl (Or.inl rfl) ?_
      first | exact hQ _ _ (Or.inr ⟨fun ⟨j2, hj2, e2, h3, h4⟩ => hs ⟨j2, hj2, e2⟩, rfl, rfl⟩) | exact hQ _ _ (Or.inr ⟨fun ⟨j2, hj2, e2, h3, h4⟩ => by have e := nI_inj (hv1.symm.trans e2) (by omega) (by omega); subst e; exact h35 (h4.trans hv1.symm), rfl, rfl⟩) | exact hQ _ _ (Or.inr ⟨fun ⟨j2, hj2, e2, h3, h4⟩ => by have e := nI_inj (hv1.symm.trans e2) (by omega) (by omega); subst e; exact h24 h3, rfl, rfl⟩)
    · refine r_step hk rfl rfl rfl ?_
      refine r_getVr hk rfl s2 ?_
      rw [s3]
      refine r_getT hk rfl (hT.1 (st j) s4).2 rfl ?_
      iterate 2 refine r_step hk rfl rfl rfl ?_
      refine r_eq (fun h35 => ?_) (fun h35 => ?_)
      · obtain ⟨⟨k, hk8, hk1⟩, ⟨s, hs5, hs1⟩⟩ := And.intro (hkd (st j) s4) (hsh j hj)
        exact yes j k s hj hk8 hs5 hv1 h24 (h35.trans hv1) hk1 hs1
      · refine r_step hk rfl rfl rfl ?_
        refine r_iret hk rfl (Or.inl rfl) ?_
        first | exact hQ _ _ (Or.inr ⟨fun ⟨j2, hj2, e2, h3, h4⟩ => hs ⟨j2, hj2, e2⟩, rfl, rfl⟩) | exact hQ _ _ (Or.inr ⟨fun ⟨j2, hj2, e2, h3, h4⟩ => by have e := nI_inj (hv1.symm.trans e2) (by omega) (by omega); subst e; exact h35 (h4.trans hv1.symm), rfl, rfl⟩) | exact hQ _ _ (Or.inr ⟨fun ⟨j2, hj2, e2, h3, h4⟩ => by have e := nI_inj (hv1.symm.trans e2) (by omega) (by omega); subst e; exact h24 h3, rfl, rfl⟩)
  · refine r_step hk rfl rfl rfl ?_
    refine r_ne (fun hq9 => absurd (by decide) hq9) (fun _ => ?_)
    refine r_step hk rfl rfl rfl ?_
    refine r_iret hk rfl (Or.inl rfl) ?_
    first | exact hQ _ _ (Or.inr ⟨fun ⟨j2, hj2, e2, h3, h4⟩ => hs ⟨j2, hj2, e2⟩, rfl, rfl⟩) | exact hQ _ _ (Or.inr ⟨fun ⟨j2, hj2, e2, h3, h4⟩ => by have e := nI_inj (hv1.symm.trans e2) (by omega) (by omega); subst e; exact h35 (h4.trans hv1.symm), rfl, rfl⟩) | exact hQ _ _ (Or.inr ⟨fun ⟨j2, hj2, e2, h3, h4⟩ => by have e := nI_inj (hv1.symm.trans e2) (by omega) (by omega); subst e; exact h24 h3, rfl, rfl⟩)
/-- a worth, as the class writes it -/
def cwo (p so la : Int32) : Int32 := p * (so + 1) / (so + la + 2)
theorem c_expected {s k : Nat} (hs : s < 5) (hk8 : k < 8) (p : Int32) (hne : ¬ a (5 + 3 * s) k + a (6 + 3 * s) k + 2 = 0) : gE d 65 [.ref (4 + 3 * s), .int p, .int (nI k)] (n, u, HP w a b r q y) (gre (cwo p (a (5 + 3 * s) k) (a (6 + 3 * s) k)) (n, u, HP w a b r q y)) := by
  have hk : gMT[65]? = some gro_65 := rfl
  refine r_in hk [some (.ref (4 + 3 * s)), some (.int p), some (.int (nI k))] (Nat.le_of_ble_eq_true rfl) rfl ?_
  iterate 2 refine r_step hk rfl rfl rfl ?_
  refine r_getSA hk rfl hs rfl ?_
  refine r_step hk rfl rfl rfl ?_
  refine r_ia hk k rfl (HP_so hs) rfl hk8 rfl ?_
  iterate 4 refine r_step hk rfl rfl rfl ?_
  refine r_getSA hk rfl hs rfl ?_
  refine r_step hk rfl rfl rfl ?_
  refine r_ia hk k rfl (HP_so hs) rfl hk8 rfl ?_
  refine r_step hk rfl rfl rfl ?_
  refine r_getSA hk rfl hs rfl ?_
  refine r_step hk rfl rfl rfl ?_
  refine r_ia hk k rfl (HP_la hs) rfl hk8 rfl ?_
  iterate 3 refine r_step hk rfl rfl rfl ?_
  refine r_div hk rfl hne ?_
  refine r_iret hk rfl trivial ?_
  exact ⟨rfl, rfl⟩
theorem c_worthIn (hd : 1 ≤ d) {s k o : Nat} (hs : s < 5) (hk8 : k < 8) (ho : gisT D o) (hk1 : x o 1 = nI k) (hne : ¬ a (5 + 3 * s) k + a (6 + 3 * s) k + 2 = 0) : gE d 64 [.ref 0, .ref o, .int (nI s)] (n, u, HP w a b r q (gY D x z y)) (gre (cwo (a 19 k) (a (5 + 3 * s) k) (a (6 + 3 * s) k)) (n, u, HP w a b r q (gY D x z y))) := by
  have hk : gMT[64]? = some gro_64 := rfl
  refine r_in hk [some (.ref 0), some (.ref o), some (.int (nI s))] (Nat.le_of_ble_eq_true rfl) rfl ?_
  iterate 3 refine r_step hk rfl rfl rfl ?_
  refine r_qa hk (s) (4 + 3 * s) rfl rfl rfl hs rfl (gshops_at hs) ?_
  iterate 3 refine r_step hk rfl rfl rfl ?_
  refine r_getT hk rfl ho rfl ?_
  refine r_ia hk (k) rfl rfl hk1 hk8 rfl ?_
  refine r_step hk rfl rfl rfl ?_
  refine r_getT hk rfl ho rfl ?_
  refine r_callV hk [.ref (4 + 3 * s), .int (a 19 k), .int (x o 1)] [] rfl rfl rfl rfl rfl rfl (grcv_sh hs _) hd (by rw [hk1]; exact c_expected hs hk8 _ hne) ?_
  rintro _ _ ⟨rfl, rfl⟩
  refine r_iret hk rfl trivial ?_
  exact ⟨rfl, rfl⟩
theorem c_worth (hd : 2 ≤ d) {N : Nat} {o : Nat → Nat} (hN : w 0 1 = nI N) (hN1 : N ≤ 100) (hT : cTs q D N o) (hkd : ∀ t, t < N → gin (x (o t) 1) 8) (hne : ∀ s k, s < 5 → k < 8 → ¬ a (5 + 3 * s) k + a (6 + 3 * s) k + 2 = 0) (v1 v2 : Int32) : gE d 63 [.ref 0, .int v1, .int v2] (n, u, HP w a b r q (gY D x z y)) (fun v S' => S' = (n, u, HP w a b r q (gY D x z y)) ∧
    ((∃ t k s, t < N ∧ k < 8 ∧ s < 5 ∧ v1 = nI t ∧ x (o t) 1 = nI k ∧ v2 = nI s ∧ v = some (.int (cwo (a 19 k) (a (5 + 3 * s) k) (a (6 + 3 * s) k)))) ∨ (¬ (gin v1 N ∧ gin v2 5) ∧ v = some (.int (-1))))) := by
  have hk : gMT[63]? = some gro_63 := rfl
  refine r_in hk [some (.ref 0), some (.int v1), some (.int v2)] (Nat.le_of_ble_eq_true rfl) rfl ?_
  iterate 3 refine r_step hk rfl rfl rfl ?_
  refine r_callS hk [.int v1, .int (w 0 1)] [] rfl rfl rfl rfl rfl (by omega) (by rw [hN]; exact c_within _ _ _ _ (by omega)) ?_
  rintro _ _ ⟨⟨⟨t, ht, rfl⟩, rfl⟩ | ⟨hs, rfl⟩, rfl⟩
  · obtain ⟨k, hk8, ek⟩ := hkd t ht
    refine r_step hk rfl rfl rfl ?_
    refine r_eq (fun hq9 => absurd hq9 (by decide)) (fun _ => ?_)
    iterate 2 refine r_step hk rfl rfl rfl ?_
    refine r_callS hk [.int v2, .int 5] [] rfl rfl rfl rfl rfl (by omega) (c_within _ _ v2 5 (by decide)) ?_
    rintro _ _ ⟨⟨⟨s, hs5, rfl⟩, rfl⟩ | ⟨hz, rfl⟩, rfl⟩
    · refine r_step hk rfl rfl rfl ?_
      refine r_ne (fun _ => ?_) (fun hq9 => absurd hq9 (by decide))
      iterate 4 refine r_step hk rfl rfl rfl ?_
      refine r_qa hk (t) (o t) rfl rfl rfl (by omega) rfl (hT.1 t ht).1 ?_
      refine r_step hk rfl rfl rfl ?_
      refine r_callV hk [.ref 0, .ref (o t), .int (nI s)] [] rfl rfl rfl rfl rfl rfl rfl (by omega) (c_worthIn (by omega) hs5 hk8 (hT.1 t ht).2 ek (hne s k hs5 hk8)) ?_
      rintro _ _ ⟨rfl, rfl⟩
      refine r_iret hk rfl trivial ?_
      first | exact ⟨rfl, Or.inl ⟨t, k, s, ht, hk8, hs5, rfl, ek, rfl, rfl⟩⟩ | exact ⟨rfl, Or.inr ⟨fun h => hz h.2, rfl⟩⟩ | exact ⟨rfl, Or.inr ⟨fun h => hs h.1, rfl⟩⟩
    · refine r_step hk rfl rfl rfl ?_
      refine r_ne (fun hq9 => absurd (by decide) hq9) (fun _ => ?_)
      refine r_step hk rfl rfl rfl ?_
      refine r_iret hk rfl trivial ?_
      first | exact ⟨rfl, Or.inl ⟨t, k, s, ht, hk8, hs5, rfl, ek, rfl, rfl⟩⟩ | exact ⟨rfl, Or.inr ⟨fun h => hz h.2, rfl⟩⟩ | exact ⟨rfl, Or.inr ⟨fun h => hs h.1, rfl⟩⟩
  · refine r_step hk rfl rfl rfl ?_
    refine r_eq (fun _ => ?_) (fun hq9 => absurd (by decide) hq9)
    refine r_step hk rfl rfl rfl ?_
    refine r_iret hk rfl trivial ?_
    first | exact ⟨rfl, Or.inl ⟨t, k, s, ht, hk8, hs5, rfl, ek, rfl, rfl⟩⟩ | exact ⟨rfl, Or.inr ⟨fun h => hz h.2, rfl⟩⟩ | exact ⟨rfl, Or.inr ⟨fun h => hs h.1, rfl⟩⟩
/-- the best shop so far, as the class keeps it -/
def cbest (rm : Nat → Prop) [DecidablePred rm] (sh : Int32) (wo : Nat → Int32) : Nat → Int32 × Int32
  | 0 => (-1, -1)
  | s + 1 => if ¬ nI s = sh ∧ rm s ∧ (cbest rm sh wo s).2 < wo s then (nI s, wo s) else cbest rm sh wo s
def cwhere (rm : Nat → Prop) [DecidablePred rm] (sh : Int32) (wo : Nat → Int32) (stay cost : Int32) : Int32 := if ¬ (cbest rm sh wo 5).1 = -1 ∧ cost < (cbest rm sh wo 5).2 - stay then (cbest rm sh wo 5).1 else -1
theorem c_betterShop (hd : 11 ≤ d) {k o s0 : Nat} (hk8 : k < 8) (ho : gisT D o) (hk1 : x o 1 = nI k) (hs0 : s0 < 5) (es : x o 5 = nI s0) (hne : ∀ s k, s < 5 → k < 8 → ¬ a (5 + 3 * s) k + a (6 + 3 * s) k + 2 = 0) : gE d 67 [.ref 0, .ref o] (n, u, HP w a b r q (gY D x z y)) (gre (cwhere (fun s => w (4 + 3 * s) 1 < w (4 + 3 * s) 0) (nI s0) (fun s => cwo (a 19 k) (a (5 + 3 * s) k) (a (6 + 3 * s) k)) (cwo (gpr (a 19 k) (w 0 16) (x o 6)) (a (5 + 3 * s0) k) (a (6 + 3 * s0) k)) (w 0 17)) (n, u, HP w a b r q (gY D x z y))) := by
  have hk : gMT[67]? = some gro_67 := rfl
  refine r_inQ hk [some (.ref 0), some (.ref o), none, none, none] (Nat.le_of_ble_eq_true rfl) rfl ?_
  intro Q hQ
  have loop : ∀ s, s ≤ 5 → ∀ (x1 x2 v : Int32), v = nI s → (x1, x2) = cbest (fun s => w (4 + 3 * s) 1 < w (4 + 3 * s) 0) (nI s0) (fun s => cwo (a 19 k) (a (5 + 3 * s) k) (a (6 + 3 * s) k)) s →
      gX d 67 7 [some (.ref 0), some (.ref o), some (.int x1), some (.int x2), some (.int v)] [] (n, u, HP w a b r q (gY D x z y)) Q := by
    refine g_down ?_ ?_
    · intro x1 x2 v hv hx
      unfold cwhere at hQ
      rw [← hx] at hQ
      iterate 3 refine r_step hk rfl rfl rfl ?_
      refine r_ge (fun _ => ?_) (fun hq9 => absurd (show (5 : Int32) ≤ v by rw [hv]; decide) hq9)
      iterate 3 refine r_step hk rfl rfl rfl ?_
      refine r_getT hk rfl ho rfl ?_
      refine r_qa hk (s0) (4 + 3 * s0) rfl rfl es hs0 rfl (gshops_at hs0) ?_
      iterate 2 refine r_step hk rfl rfl rfl ?_
      refine r_callV hk [.ref 0, .ref o] [.ref (4 + 3 * s0)] rfl rfl rfl rfl rfl rfl rfl (by omega) (c_priceNow (by omega) ho hk8 hk1) ?_
      rintro _ _ ⟨rfl, rfl⟩
      refine r_step hk rfl rfl rfl ?_
      refine r_getT hk rfl ho rfl ?_
      refine r_callV hk [.ref (4 + 3 * s0), .int _, .int (x o 1)] [] rfl rfl rfl rfl rfl rfl (grcv_sh hs0 _) (by omega) (by rw [hk1]; exact c_expected hs0 hk8 _ (hne s0 k hs0 hk8)) ?_
      rintro _ _ ⟨rfl, rfl⟩
      iterate 4 refine r_step hk rfl rfl rfl ?_
      refine r_eq (fun h88 => ?_) (fun h88 => ?_)
      · refine r_step hk rfl rfl rfl ?_
        refine r_iret hk rfl trivial ?_
        refine hQ _ _ ⟨congrArg (fun z => some (Value.int z)) ?_, rfl⟩
        first | (refine (if_neg ?_).symm; exact fun hc => hc.1 h88) | (refine (if_neg ?_).symm; exact fun hc => Int32.not_lt.mpr h99 hc.2) | (refine (if_pos ?_).symm; exact ⟨h88, Int32.not_le.mp h99⟩)
      · iterate 6 refine r_step hk rfl rfl rfl ?_
        refine r_le (fun h99 => ?_) (fun h99 => ?_)
        · refine r_step hk rfl rfl rfl ?_
          refine r_iret hk rfl trivial ?_
          refine hQ _ _ ⟨congrArg (fun z => some (Value.int z)) ?_, rfl⟩
          first | (refine (if_neg ?_).symm; exact fun hc => hc.1 h88) | (refine (if_neg ?_).symm; exact fun hc => Int32.not_lt.mpr h99 hc.2) | (refine (if_pos ?_).symm; exact ⟨h88, Int32.not_le.mp h99⟩)
        · iterate 2 refine r_step hk rfl rfl rfl ?_
          refine r_iret hk rfl trivial ?_
          refine hQ _ _ ⟨congrArg (fun z => some (Value.int z)) ?_, rfl⟩
          first | (refine (if_neg ?_).symm; exact fun hc => hc.1 h88) | (refine (if_neg ?_).symm; exact fun hc => Int32.not_lt.mpr h99 hc.2) | (refine (if_pos ?_).symm; exact ⟨h88, Int32.not_le.mp h99⟩)
    · intro s hs ih x1 x2 v hv hx
      subst hv
      have stay : ¬ (¬ nI s = nI s0 ∧ w (4 + 3 * s) 1 < w (4 + 3 * s) 0 ∧ x2 < cwo (a 19 k) (a (5 + 3 * s) k) (a (6 + 3 * s) k)) → (x1, x2) = cbest (fun s => w (4 + 3 * s) 1 < w (4 + 3 * s) 0) (nI s0) (fun s => cwo (a 19 k) (a (5 + 3 * s) k) (a (6 + 3 * s) k)) (s + 1) := by
        intro hno
        conv => rhs; unfold cbest
        rw [← hx, if_neg hno]
      have tak : (¬ nI s = nI s0 ∧ w (4 + 3 * s) 1 < w (4 + 3 * s) 0 ∧ x2 < cwo (a 19 k) (a (5 + 3 * s) k) (a (6 + 3 * s) k)) → (nI s, cwo (a 19 k) (a (5 + 3 * s) k) (a (6 + 3 * s) k)) = cbest (fun s => w (4 + 3 * s) 1 < w (4 + 3 * s) 0) (nI s0) (fun s => cwo (a 19 k) (a (5 + 3 * s) k) (a (6 + 3 * s) k)) (s + 1) := by
        intro hy
        conv => rhs; unfold cbest
        rw [← hx, if_pos hy]
      iterate 3 refine r_step hk rfl rfl rfl ?_
      refine r_ge (fun hq9 => absurd hq9 (show ¬ (5 : Int32) ≤ nI s by exact nI_ge (b := 5) hs (by decide))) (fun _ => ?_)
      iterate 2 refine r_step hk rfl rfl rfl ?_
      refine r_getT hk rfl ho rfl ?_
      refine r_step hk rfl rfl rfl ?_
      refine r_eq (fun h19 => ?_) (fun h19 => ?_)
      · iterate 2 refine r_step hk rfl rfl rfl ?_
        first | exact ih _ _ _ (nI_1 s) (stay (fun hc => hc.1 (h19.trans es))) | exact ih _ _ _ (nI_1 s) (stay (fun hc => hr hc.2.1)) | exact ih _ _ _ (nI_1 s) (stay (fun hc => Int32.not_lt.mpr h43 hc.2.2)) | exact ih _ _ _ (nI_1 s) (tak ⟨fun e => h19 (e.trans es.symm), hr, Int32.not_le.mp h43⟩)
      · iterate 3 refine r_step hk rfl rfl rfl ?_
        refine r_qa hk (s) (4 + 3 * s) rfl rfl rfl hs rfl (gshops_at hs) ?_
        refine r_callV hk [.ref (4 + 3 * s)] [] rfl rfl rfl rfl rfl rfl (grcv_sh hs _) (by omega) (c_hasRoom hs) ?_
        rintro _ _ ⟨⟨hr, rfl⟩ | ⟨hr, rfl⟩, rfl⟩
        · refine r_step hk rfl rfl rfl ?_
          refine r_eq (fun hq9 => absurd hq9 (by decide)) (fun _ => ?_)
          iterate 3 refine r_step hk rfl rfl rfl ?_
          refine r_callV hk [.ref 0, .ref o, .int (nI s)] [] rfl rfl rfl rfl rfl rfl rfl (by omega) (c_worthIn (by omega) hs hk8 ho hk1 (hne s k hs hk8)) ?_
          rintro _ _ ⟨rfl, rfl⟩
          iterate 2 refine r_step hk rfl rfl rfl ?_
          refine r_le (fun h43 => ?_) (fun h43 => ?_)
          · iterate 2 refine r_step hk rfl rfl rfl ?_
            first | exact ih _ _ _ (nI_1 s) (stay (fun hc => hc.1 (h19.trans es))) | exact ih _ _ _ (nI_1 s) (stay (fun hc => hr hc.2.1)) | exact ih _ _ _ (nI_1 s) (stay (fun hc => Int32.not_lt.mpr h43 hc.2.2)) | exact ih _ _ _ (nI_1 s) (tak ⟨fun e => h19 (e.trans es.symm), hr, Int32.not_le.mp h43⟩)
          · iterate 5 refine r_step hk rfl rfl rfl ?_
            refine r_callV hk [.ref 0, .ref o, .int (nI s)] [] rfl rfl rfl rfl rfl rfl rfl (by omega) (c_worthIn (by omega) hs hk8 ho hk1 (hne s k hs hk8)) ?_
            rintro _ _ ⟨rfl, rfl⟩
            iterate 3 refine r_step hk rfl rfl rfl ?_
            first | exact ih _ _ _ (nI_1 s) (stay (fun hc => hc.1 (h19.trans es))) | exact ih _ _ _ (nI_1 s) (stay (fun hc => hr hc.2.1)) | exact ih _ _ _ (nI_1 s) (stay (fun hc => Int32.not_lt.mpr h43 hc.2.2)) | exact ih _ _ _ (nI_1 s) (tak ⟨fun e => h19 (e.trans es.symm), hr, Int32.not_le.mp h43⟩)
        · refine r_step hk rfl rfl rfl ?_
          refine r_eq (fun _ => ?_) (fun hq9 => absurd (by decide) hq9)
          iterate 2 refine r_step hk rfl rfl rfl ?_
          first | exact ih _ _ _ (nI_1 s) (stay (fun hc => hc.1 (h19.trans es))) | exact ih _ _ _ (nI_1 s) (stay (fun hc => hr hc.2.1)) | exact ih _ _ _ (nI_1 s) (stay (fun hc => Int32.not_lt.mpr h43 hc.2.2)) | exact ih _ _ _ (nI_1 s) (tak ⟨fun e => h19 (e.trans es.symm), hr, Int32.not_le.mp h43⟩)
  iterate 6 refine r_step hk rfl rfl rfl ?_
  exact loop 0 (Nat.zero_le _) _ _ _ rfl rfl
def cwh (W : Nat → Int32) (w a : Nat → Nat → Int32) (x : Nat → Nat → Int32) (k o s0 : Nat) : Int32 := cwhere (fun s => w (4 + 3 * s) 1 < w (4 + 3 * s) 0) (nI s0) (fun s => cwo (a 19 k) (a (5 + 3 * s) k) (a (6 + 3 * s) k)) (cwo (gpr (a 19 k) (W 16) (x o 6)) (a (5 + 3 * s0) k) (a (6 + 3 * s0) k)) (W 17)
theorem c_where (hd : 12 ≤ d) {N : Nat} {o : Nat → Nat} (hN : w 0 1 = nI N) (hN1 : N ≤ 100) (hT : cTs q D N o) (hkd : ∀ t, t < N → gin (x (o t) 1) 8) (hsh : ∀ t, t < N → gin (x (o t) 5) 5) (hne : ∀ s k, s < 5 → k < 8 → ¬ a (5 + 3 * s) k + a (6 + 3 * s) k + 2 = 0) (v1 : Int32) : gE d 66 [.ref 0, .int v1] (n, u, HP w a b r q (gY D x z y)) (fun v S' => S' = (n, u, HP w a b r q (gY D x z y)) ∧
    ((∃ t k s, t < N ∧ k < 8 ∧ s < 5 ∧ v1 = nI t ∧ x (o t) 4 = 1 ∧ x (o t) 1 = nI k ∧ x (o t) 5 = nI s ∧ v = some (.int (cwh (w 0) w a x k (o t) s))) ∨ ((¬ ∃ t, t < N ∧ v1 = nI t ∧ x (o t) 4 = 1) ∧ v = some (.int (-1))))) := by
  have hk : gMT[66]? = some gro_66 := rfl
  refine r_in hk [some (.ref 0), some (.int v1)] (Nat.le_of_ble_eq_true rfl) rfl ?_
  iterate 2 refine r_step hk rfl rfl rfl ?_
  refine r_callV hk [.ref 0, .int v1] [] rfl rfl rfl rfl rfl rfl rfl (by omega) (c_liesOnShelf (by omega) hN hN1 hT v1) ?_
  rintro _ _ ⟨⟨⟨t, ht, rfl, hon⟩, rfl⟩ | ⟨hs, rfl⟩, rfl⟩
  · obtain ⟨⟨k, hk8, hk1⟩, ⟨s, hs5, hs1⟩⟩ := And.intro (hkd t ht) (hsh t ht)
    refine r_step hk rfl rfl rfl ?_
    refine r_eq (fun hq9 => absurd hq9 (by decide)) (fun _ => ?_)
    iterate 4 refine r_step hk rfl rfl rfl ?_
    refine r_qa hk (t) (o t) rfl rfl rfl (by omega) rfl (hT.1 t ht).1 ?_
    refine r_callV hk [.ref 0, .ref (o t)] [] rfl rfl rfl rfl rfl rfl rfl (by omega) (c_betterShop (by omega) hk8 (hT.1 t ht).2 hk1 hs5 hs1 hne) ?_
    rintro _ _ ⟨rfl, rfl⟩
    refine r_step hk rfl rfl rfl ?_
    refine r_iret hk rfl trivial ?_
    first | exact ⟨rfl, Or.inl ⟨t, k, s, ht, hk8, hs5, rfl, hon, hk1, hs1, rfl⟩⟩ | exact ⟨rfl, Or.inr ⟨hs, rfl⟩⟩
  · refine r_step hk rfl rfl rfl ?_
    refine r_eq (fun _ => ?_) (fun hq9 => absurd (by decide) hq9)
    refine r_step hk rfl rfl rfl ?_
    refine r_iret hk rfl trivial ?_
    first | exact ⟨rfl, Or.inl ⟨t, k, s, ht, hk8, hs5, rfl, hon, hk1, hs1, rfl⟩⟩ | exact ⟨rfl, Or.inr ⟨hs, rfl⟩⟩
theorem cbest_r (rm : Nat → Prop) [DecidablePred rm] (sh : Int32) (wo : Nat → Int32) : ∀ s, (cbest rm sh wo s).1 = -1 ∨ ∃ j, j < s ∧ (cbest rm sh wo s).1 = nI j := by
  intro s
  induction s with
  | zero => exact Or.inl rfl
  | succ s ih =>
    unfold cbest
    split
    · exact Or.inr ⟨s, by omega, rfl⟩
    · rcases ih with h | ⟨j, hj, h⟩
      · exact Or.inl h
      · exact Or.inr ⟨j, by omega, h⟩
theorem cwhere_r (rm : Nat → Prop) [DecidablePred rm] (sh : Int32) (wo : Nat → Int32) (stay cost : Int32) : cwhere rm sh wo stay cost = -1 ∨ gin (cwhere rm sh wo stay cost) 5 := by
  unfold cwhere
  split
  · exact cbest_r rm sh wo 5
  · exact Or.inl rfl
theorem c_move (hd : 12 ≤ d) {N : Nat} {o : Nat → Nat} (hN : w 0 1 = nI N) (hN1 : N ≤ 100) (hT : cTs q D N o) (hkd : ∀ t, t < N → gin (x (o t) 1) 8) (hsh : ∀ t, t < N → gin (x (o t) 5) 5) (hne : ∀ s k, s < 5 → k < 8 → ¬ a (5 + 3 * s) k + a (6 + 3 * s) k + 2 = 0) (v1 : Int32) : gE d 68 [.ref 0, .int v1] (n, u, HP w a b r q (gY D x z y)) (fun v S' =>
    (∃ t k s s', t < N ∧ k < 8 ∧ s < 5 ∧ s' < 5 ∧ v1 = nI t ∧ x (o t) 4 = 1 ∧ x (o t) 1 = nI k ∧ x (o t) 5 = nI s ∧ cwh (w 0) w a x k (o t) s = nI s' ∧ v = some (.int 1) ∧ S' = (n, u, HP (upd2 (upd2 w (4 + 3 * s) 1 (w (4 + 3 * s) 1 - 1)) (4 + 3 * s') 1 (upd2 w (4 + 3 * s) 1 (w (4 + 3 * s) 1 - 1) (4 + 3 * s') 1 + 1)) a b r q (gY D (upd2 (upd2 (upd2 (upd2 (upd2 x (o t) 4 0) (o t) 4 1) (o t) 5 (nI s')) (o t) 6 (w 0 16)) (o t) 7 (x (o t) 7 + 1)) z y)))
    ∨ ((¬ ∃ t k s, t < N ∧ k < 8 ∧ s < 5 ∧ v1 = nI t ∧ x (o t) 4 = 1 ∧ x (o t) 1 = nI k ∧ x (o t) 5 = nI s ∧ ¬ cwh (w 0) w a x k (o t) s = -1) ∧ v = some (.int 0) ∧ S' = (n, u, HP w a b r q (gY D x z y)))) := by
  have hk : gMT[68]? = some gro_68 := rfl
  refine r_inQ hk [some (.ref 0), some (.int v1), none, none] (Nat.le_of_ble_eq_true rfl) rfl ?_
  intro Q hQ
  have no : (¬ ∃ t k s, t < N ∧ k < 8 ∧ s < 5 ∧ v1 = nI t ∧ x (o t) 4 = 1 ∧ x (o t) 1 = nI k ∧ x (o t) 5 = nI s ∧ ¬ cwh (w 0) w a x k (o t) s = -1) → gX d 68 23 [some (.ref 0), some (.int v1), some (.int (-1)), none] [] (n, u, HP w a b r q (gY D x z y)) Q := by
    intro hno
    iterate 3 refine r_step hk rfl rfl rfl ?_
    refine r_ne (fun hq9 => absurd (show (-1 : Int32) = -1 from rfl) hq9) (fun _ => ?_)
    refine r_step hk rfl rfl rfl ?_
    refine r_iret hk rfl (Or.inl rfl) ?_
    exact hQ _ _ (Or.inr ⟨hno, rfl, rfl⟩)
  have go : ∀ t k s s2, t < N → k < 8 → s < 5 → s2 < 5 → v1 = nI t → x (o t) 4 = 1 → x (o t) 1 = nI k → x (o t) 5 = nI s → cwh (w 0) w a x k (o t) s = nI s2 → gX d 68 23 [some (.ref 0), some (.int v1), some (.int (nI s2)), none] [] (n, u, HP w a b r q (gY D x z y)) Q := by
    intro t k s s2 ht hk8 hs5 hs2 ex hon hk1 hs1 hgw
    have ho := (hT.1 t ht).2
    have e7 : upd2 (upd2 (upd2 (upd2 x (o t) 4 0) (o t) 4 1) (o t) 5 (nI s2)) (o t) 6 (w 0 16) (o t) 7 = x (o t) 7 := by
      rw [upd2_col _ _ _ _ (by decide), upd2_col _ _ _ _ (by decide), upd2_col _ _ _ _ (by decide), upd2_col _ _ _ _ (by decide)]
    have e16 : upd2 w (4 + 3 * s) 1 (w (4 + 3 * s) 1 - 1) 0 16 = w 0 16 := by rw [upd2_row _ _ _ _ (by omega)]
    have n1 : ¬ nI s2 = -1 := fun e => by
      have h1 : (nI s2) < 0 := by rw [e]; decide
      exact nI_pos (by omega) h1
    iterate 3 refine r_step hk rfl rfl rfl ?_
    refine r_ne (fun _ => ?_) (fun hq9 => absurd hq9 n1)
    iterate 3 refine r_step hk rfl rfl rfl ?_
    refine r_qa hk (t) (o t) rfl rfl ex (by omega) rfl (hT.1 t ht).1 ?_
    iterate 4 refine r_step hk rfl rfl rfl ?_
    refine r_callV hk [.ref 0, .ref (o t), .int 0] [] rfl rfl rfl rfl rfl rfl rfl (by omega) (c_leaveShelf ho hs5 hs1 0) ?_
    rintro _ _ ⟨rfl, rfl⟩
    iterate 5 refine r_step hk rfl rfl rfl ?_
    rw [e16]
    refine r_callV hk [.ref 0, .ref (o t), .int (nI s2), .int (w 0 16)] [] rfl rfl rfl rfl rfl rfl rfl (by omega) (c_comeOnShelf ho hs2 _) ?_
    rintro _ _ ⟨rfl, rfl⟩
    iterate 2 refine r_step hk rfl rfl rfl ?_
    refine r_getT hk rfl ho rfl ?_
    iterate 2 refine r_step hk rfl rfl rfl ?_
    refine r_putT hk rfl ho rfl ?_
    refine r_step hk rfl rfl rfl ?_
    refine r_iret hk rfl (Or.inr rfl) ?_
    rw [e7]
    exact hQ _ _ (Or.inl ⟨t, k, s, s2, ht, hk8, hs5, hs2, ex, hon, hk1, hs1, hgw, rfl, rfl⟩)
  iterate 2 refine r_step hk rfl rfl rfl ?_
  refine r_callV hk [.ref 0, .int v1] [] rfl rfl rfl rfl rfl rfl rfl (by omega) (c_liesOnShelf (by omega) hN hN1 hT v1) ?_
  rintro _ _ ⟨⟨⟨t, ht, ex, hon⟩, rfl⟩ | ⟨hs, rfl⟩, rfl⟩
  · obtain ⟨⟨k, hk8, hk1⟩, ⟨s, hs5, hs1⟩⟩ := And.intro (hkd t ht) (hsh t ht)
    refine r_step hk rfl rfl rfl ?_
    refine r_eq (fun hq9 => absurd hq9 (by decide)) (fun _ => ?_)
    iterate 4 refine r_step hk rfl rfl rfl ?_
    refine r_qa hk (t) (o t) rfl rfl ex (by omega) rfl (hT.1 t ht).1 ?_
    refine r_callV hk [.ref 0, .ref (o t)] [] rfl rfl rfl rfl rfl rfl rfl (by omega) (c_betterShop (by omega) hk8 (hT.1 t ht).2 hk1 hs5 hs1 hne) ?_
    rintro _ _ ⟨rfl, rfl⟩
    have hw0 : cwh (w 0) w a x k (o t) s = -1 ∨ gin (cwh (w 0) w a x k (o t) s) 5 := cwhere_r _ _ _ _ _
    change gX d 68 18 _ [.int (cwh (w 0) w a x k (o t) s)] _ _
    iterate 2 refine r_step hk rfl rfl rfl ?_
    first | exact no (fun ⟨t2, k2, s2, h1, h2, h3, h4, h5, h6, h7, h8⟩ => hs ⟨t2, h1, h4, h5⟩) | (rcases hw0 with hw0 | ⟨s2, hs2, hw0⟩; (rw [hw0]; exact no (fun ⟨t2, k2, s2, h1, h2, h3, h4, h5, h6, h7, h8⟩ => by have e1 := nI_inj (ex.symm.trans h4) (by omega) (by omega); subst e1; have e2 := nI_inj (hk1.symm.trans h6) (by omega) (by omega); subst e2; have e3 := nI_inj (hs1.symm.trans h7) (by omega) (by omega); subst e3; exact h8 hw0)); (rw [hw0]; exact go t k s s2 ht hk8 hs5 hs2 ex hon hk1 hs1 hw0))
  · refine r_step hk rfl rfl rfl ?_
    refine r_eq (fun _ => ?_) (fun hq9 => absurd (by decide) hq9)
    iterate 2 refine r_step hk rfl rfl rfl ?_
    first | exact no (fun ⟨t2, k2, s2, h1, h2, h3, h4, h5, h6, h7, h8⟩ => hs ⟨t2, h1, h4, h5⟩) | (rcases hw0 with hw0 | ⟨s2, hs2, hw0⟩; (rw [hw0]; exact no (fun ⟨t2, k2, s2, h1, h2, h3, h4, h5, h6, h7, h8⟩ => by have e1 := nI_inj (ex.symm.trans h4) (by omega) (by omega); subst e1; have e2 := nI_inj (hk1.symm.trans h6) (by omega) (by omega); subst e2; have e3 := nI_inj (hs1.symm.trans h7) (by omega) (by omega); subst e3; exact h8 hw0)); (rw [hw0]; exact go t k s s2 ht hk8 hs5 hs2 ex hon hk1 hs1 hw0))
end GC5

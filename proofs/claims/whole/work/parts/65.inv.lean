/-! ===== what holds of class and reference between two calls ===== -/
def jTape (l1 l2 : Int32) (f1 f2 : Nat → Int32) : Prop := f1 = f2 ∧ ∃ len, len ≤ 600 ∧ l1 = nI len ∧ l2 = nI len ∧ ∀ i, i < len → ∃ c, c < 128 ∧ f1 i = nI c
def jWay (f1 f2 : Nat → Int32) : Prop := f1 = f2 ∧ ∃ wy : Nat → Nat → Nat, (∀ i, i < 6 → ∀ j, j < 6 → f1 (6 * i + j) = nI (wy i j)) ∧ (∀ i, i < 6 → ∀ j, j < 6 → wy i j < 100) ∧ ∀ i, i < 6 → ∀ j, j < 6 → wy i j = wy j i
def jHelp (h1 h2 : Int32) (f1 f2 : Nat → Int32) : Prop := f1 = f2 ∧ ∃ H, H ≤ 10 ∧ h1 = nI H ∧ h2 = nI H
def jDbl (K : Nat) (d1 d2 g1 g2 : Nat → Int32) : Prop := d1 = d2 ∧ g1 = g2 ∧ ∀ i, i < 10 → ∃ db ag, ag ≤ db ∧ db ≤ K ∧ d1 i = nI db ∧ g1 i = nI ag
def jRate (T : Nat) (rt : Int32) (f1 f2 : Nat → Int32) : Prop := ∀ y, y < 10 → f1 y = if T / 52 ≤ y then rt else f2 y
def jBase (f : Nat → Int32) : Prop := ∀ k, k < 8 → ∃ c, 1 ≤ c ∧ c ≤ 10000 ∧ f k = nI c
def jM (K T : Nat) (w a : Nat → Nat → Int32) (b : Nat → Nat → Int64) : Prop :=
  jTape (w 20 1) (w 44 2) (a 21) (a 45) ∧ jWay (a 39) (a 79) ∧ jHelp (w 41 2) (w 44 49) (a 42) (a 80) ∧ jDbl K (a 35) (a 71) (a 36) (a 72) ∧ w 0 17 = w 44 47 ∧ jRate T (w 44 39) (a 37) (a 73) ∧ jBase (a 68) ∧ ∀ k, k < 12 → b 49 k = lN (kwd.getD k 0)
def jText (w a : Nat → Nat → Int32) (r : Nat → Nat → Nat) : Prop := ∃ e h ls, e < 2 ∧ h < 2 ∧ r 0 8 = 22 + 5 * e ∧ r 0 9 = 22 + 5 * (1 - e) ∧ w 44 15 = nI h ∧ cTx w a e ls ∧ kTx a h ls
def jWk (N T : Nat) (Z : Nat → Nat → Int32) : Prop := (∀ t, t < N → gin (Z 65 t) 5) ∧ (∀ t, t < N → ∃ s, s ≤ T ∧ Z 66 t = nI s) ∧ ∀ i, i < 40 → ∃ l, l ≤ 100 * T ∧ Z 70 i = nI l
def jTh (n : Nat) (w a x : Nat → Nat → Int32) (q : Nat → Nat → Option Nat) (D : Nat → Nat) (N T : Nat) (o : Nat → Nat) : Prop :=
  N ≤ 100 ∧ w 0 1 = nI N ∧ w 44 25 = nI N ∧ cTs q D N o ∧ (∀ t, t < N → o t < n) ∧ (∀ t, N ≤ t → o t = 0) ∧ (∀ i, x 0 i = 0) ∧ cRel w a x o N a ∧ (∀ t, t < N → gin (a 61 t) 8) ∧ jWk N T a
def jSj (n : Nat) (a x : Nat → Nat → Int32) (o p st : Nat → Nat) (j : Nat) : Prop :=
  p j < n ∧ a 74 j = nI (st j) ∧ x (p j) 1 = a 76 j ∧ x (p j) 3 = a 75 j ∧ x (p j) 4 = a 77 j ∧ x (p j) 5 = a 78 j ∧ gin (a 76 j) 5 ∧ (a 78 j = 0 ∨ a 78 j = 1) ∧ (a 78 j = 0 → x (p j) 2 = a 66 (st j) ∧ a 65 (st j) = a 76 j ∧ a 64 (st j) = 5 ∧ x (o (st j)) 8 = nI j)
def jSa (n : Nat) (w a x : Nat → Nat → Int32) (q : Nat → Nat → Option Nat) (D z : Nat → Nat) (N M : Nat) (o p st : Nat → Nat) : Prop :=
  M ≤ 200 ∧ w 0 3 = nI M ∧ w 44 41 = nI M ∧ cSc q D z o p st N M ∧ (∀ j, j < M → jSj n a x o p st j) ∧ (∀ j, j < M → ∀ j', j' < M → p j' = p j → j' = j) ∧ (∀ j, M ≤ j → a 78 j = 0) ∧ ∀ s k, s < 5 → k < 8 → a (5 + 3 * s) k = nI (gcnt (gSo a (nI k) (nI s)) M)
def jI (K n u : Nat) (w a : Nat → Nat → Int32) (b : Nat → Nat → Int64) (r : Nat → Nat → Nat) (q : Nat → Nat → Option Nat) (D : Nat → Nat) (x : Nat → Nat → Int32) (z : Nat → Nat) (N M T : Nat) (o p st : Nat → Nat) : Prop :=
  84 ≤ n ∧ n ≤ 84 + 10 * K ∧ u ≤ 20000 + 100 * K ∧ D 1000000000 = 0 ∧ T ≤ 519 ∧ w 0 16 = nI T ∧ w 44 24 = nI T ∧ jM K T w a b ∧ jText w a r ∧ jTh n w a x q D N T o ∧ jSa n w a x q D z N M o p st
def J (K : Nat) (y : gH) (S : gS) : Prop := ∃ n u w a b r q D x z N M T o p st, S = (n, u, HP w a b r q (gY D x z y)) ∧ jI K n u w a b r q D x z N M T o p st
def gHp (y : gH) (S : gS) : Prop := ∃ n u w a b r q D x z, S = (n, u, HP w a b r q (gY D x z y)) ∧ D 1000000000 = 0
/-- a call of the class and the same call of the reference: one answer, and all holds again -/
def jTwo (d K : Nat) (y : gH) (kc km : Nat) (as : List Value) (S : gS) : Prop := gE d kc (.ref 0 :: as) S (fun v S1 => ∃ c, v = some (.int c) ∧ gHp y S1 ∧ gE d km (.ref 44 :: as) S1 (fun v' S2 => v' = some (.int c) ∧ J (K + 1) y S2))
/-! what a group rests on -/
theorem jDbl_up {K : Nat} {d1 d2 g1 g2 : Nat → Int32} (h : jDbl K d1 d2 g1 g2) : jDbl (K + 1) d1 d2 g1 g2 := ⟨h.1, h.2.1, fun i hi => by
  obtain ⟨db, ag, h1, h2, h3, h4⟩ := h.2.2 i hi
  exact ⟨db, ag, h1, by omega, h3, h4⟩⟩
section GJ1
variable {K T n u N M : Nat} {w a x w' a' x' : Nat → Nat → Int32} {b b' : Nat → Nat → Int64} {r r' : Nat → Nat → Nat} {q : Nat → Nat → Option Nat} {D z : Nat → Nat} {o p st : Nat → Nat}
theorem jM_cg (h : jM K T w a b) (h1 : w' 0 17 = w 0 17) (h2 : w' 20 1 = w 20 1) (h3 : w' 41 2 = w 41 2) (h4 : w' 44 2 = w 44 2) (h5 : w' 44 39 = w 44 39) (h6 : w' 44 47 = w 44 47) (h7 : w' 44 49 = w 44 49) (ha : ∀ j, j ∈ [21, 35, 36, 37, 39, 42, 45, 68, 71, 72, 73, 79, 80] → a' j = a j) (hb : b' 49 = b 49) : jM (K + 1) T w' a' b' := by
  obtain ⟨t1, t2, t3, t4, t5, t6, t7, t8⟩ := h
  unfold jM
  rw [h1, h2, h3, h4, h5, h6, h7, ha 21 (by decide), ha 35 (by decide), ha 36 (by decide), ha 37 (by decide), ha 39 (by decide), ha 42 (by decide), ha 45 (by decide), ha 68 (by decide), ha 71 (by decide), ha 72 (by decide), ha 73 (by decide), ha 79 (by decide), ha 80 (by decide), hb]
  exact ⟨t1, t2, t3, jDbl_up t4, t5, t6, t7, t8⟩
theorem jText_cg (h : jText w a r) (hw : ∀ e, e < 2 → w' (22 + 5 * e) 5 = w (22 + 5 * e) 5) (h15 : w' 44 15 = w 44 15) (ha : ∀ j, j ∈ [23, 24, 25, 28, 29, 30, 50, 51, 52, 53, 54] → a' j = a j) (h8 : r' 0 8 = r 0 8) (h9 : r' 0 9 = r 0 9) : jText w' a' r' := by
  obtain ⟨e, h, ls, he, hh, k8, k9, k15, kc, kk⟩ := h
  have ha3 : ∀ i, 23 ≤ i → i ≤ 25 → a' (i + 5 * e) = a (i + 5 * e) := fun i h1 h2 => ha _ (by simp; omega)
  refine ⟨e, h, ls, he, hh, h8.trans k8, h9.trans k9, h15.trans k15, ⟨(hw e he).trans kc.1, kc.2.1, cLn_cg ls 0 0 (fun j _ _ => ?_) (fun j _ _ => ?_) kc.2.2.1, kc.2.2.2⟩, ⟨?_, kk.2.1, kLn_cg ls 0 0 (fun j _ _ => ?_) (fun j _ _ => ?_) kk.2.2.1, kk.2.2.2⟩⟩
  · rw [ha3 25 (by omega) (by omega), ha3 24 (by omega) (by omega)]; exact ⟨rfl, rfl⟩
  · rw [ha3 23 (by omega) (by omega)]
  · rw [ha 50 (by decide)]; exact kk.1
  · rw [ha 51 (by decide), ha 52 (by decide)]; exact ⟨rfl, rfl⟩
  · rw [ha 53 (by decide), ha 54 (by decide)]; exact ⟨rfl, rfl⟩
theorem jWk_cg (h : jWk N T a) (h65 : a' 65 = a 65) (h66 : a' 66 = a 66) (h70 : a' 70 = a 70) : jWk N T a' := by
  unfold jWk; rw [h65, h66, h70]; exact h
/-- things: the rows as they were -/
theorem jTh_cg (h : jTh n w a x q D N T o) {n' : Nat} (hn : n ≤ n') (h1 : w' 0 1 = w 0 1) (h25 : w' 44 25 = w 44 25) (hs : ∀ s, s < 5 → w' (4 + 3 * s) = w (4 + 3 * s)) (ha : ∀ j, 60 ≤ j → j ≤ 70 → a' j = a j) (h19 : a' 19 = a 19) (hl : ∀ s, s < 5 → a' (6 + 3 * s) = a (6 + 3 * s)) : jTh n' w' a' x q D N T o := by
  obtain ⟨t1, t2, t3, t4, t5, t6, t7, t8, t9, t10⟩ := h
  exact ⟨t1, h1.trans t2, h25.trans t3, t4, fun t ht => Nat.lt_of_lt_of_le (t5 t ht) hn, t6, t7, cRel_cg ha (cRel_a h19 hl (cRel_w hs t8)), fun t ht => by rw [ha 61 (by omega) (by omega)]; exact t9 t ht, jWk_cg t10 (ha 65 (by omega) (by omega)) (ha 66 (by omega) (by omega)) (ha 70 (by omega) (by omega))⟩
theorem gSo_cg {a a' : Nat → Nat → Int32} {M : Nat} (h61 : ∀ j, j < M → a' 61 (a 74 j).toNatClampNeg = a 61 (a 74 j).toNatClampNeg) (h74 : ∀ j, j < M → a' 74 j = a 74 j) (h76 : ∀ j, j < M → a' 76 j = a 76 j) (h78 : ∀ j, j < M → a' 78 j = a 78 j) (k s : Int32) : gcnt (gSo a' k s) M = gcnt (gSo a k s) M := gcnt_congr M (fun j hj => by
  show (a' 78 j = 0 ∧ a' 76 j = s ∧ a' 61 (a' 74 j).toNatClampNeg = k) ↔ _
  rw [h78 j hj, h76 j hj, h74 j hj, h61 j hj])
/-- sales: the rows as they were, and what is sold lies where it lay -/
theorem jSa_cg (h : jSa n w a x q D z N M o p st) {n' : Nat} (hn : n ≤ n') (h3 : w' 0 3 = w 0 3) (h41 : w' 44 41 = w 44 41) (ha : ∀ j, j ∈ [61, 74, 75, 76, 77, 78] → a' j = a j) (hso : ∀ s, s < 5 → a' (5 + 3 * s) = a (5 + 3 * s)) (h5 : ∀ t, t < N → a 64 t = 5 → a' 64 t = 5 ∧ a' 65 t = a 65 t ∧ a' 66 t = a 66 t) (hxp : ∀ j, j < M → x' (p j) = x (p j)) (hx8 : ∀ i, x' i 8 = x i 8) : jSa n' w' a' x' q D z N M o p st := by
  obtain ⟨t1, t2, t3, t4, t5, t6, t7, t8⟩ := h
  have e74 := ha 74 (by decide)
  have e75 := ha 75 (by decide)
  have e76 := ha 76 (by decide)
  have e77 := ha 77 (by decide)
  have e78 := ha 78 (by decide)
  refine ⟨t1, h3.trans t2, h41.trans t3, t4, fun j hj => ?_, t6, fun j hj => by rw [e78]; exact t7 j hj, fun s k hs hk => ?_⟩
  · obtain ⟨g1, g2, g3, g4, g5, g6, g7, g8, g9⟩ := t5 j hj
    unfold jSj
    rw [hxp j hj, e74, e75, e76, e77, e78, hx8]
    refine ⟨Nat.lt_of_lt_of_le g1 hn, g2, g3, g4, g5, g6, g7, g8, fun h0 => ?_⟩
    obtain ⟨k1, k2, k3, k4⟩ := g9 h0
    obtain ⟨m1, m2, m3⟩ := h5 (st j) (t4 j hj).2.2.2 k3
    exact ⟨by rw [m3]; exact k1, by rw [m2]; exact k2, m1, k4⟩
  · rw [hso s hs, gSo_cg (a := a) (fun _ _ => by rw [ha 61 (by decide)]) (fun _ _ => by rw [e74]) (fun _ _ => by rw [e76]) (fun _ _ => by rw [e78])]
    exact t8 s k hs hk
def jfw (w w' : Nat → Nat → Int32) : Prop := (∀ j, j ∉ [32, 33, 41, 44] → w' j = w j) ∧ w' 41 2 = w 41 2 ∧ ∀ s, s ∉ [0, 3, 7, 8, 16, 17, 18, 53] → w' 44 s = w 44 s
abbrev jXf : List Nat := [26, 31, 34, 40, 43, 46, 47, 55, 56, 57, 58, 59, 81, 82]
theorem jfw_rf : jfw w w := ⟨fun _ _ => rfl, rfl, fun _ _ => rfl⟩
theorem jfw_tr {w1 : Nat → Nat → Int32} (h : jfw w w1) (k : jfw w1 w') : jfw w w' := ⟨fun j hj => (k.1 j hj).trans (h.1 j hj), k.2.1.trans h.2.1, fun s hs => (k.2.2 s hs).trans (h.2.2 s hs)⟩
theorem jfw_44 {s : Nat} {v : Int32} (hs : s ∈ [0, 3, 7, 8, 16, 17, 18, 53]) : jfw w (upd2 w 44 s v) := ⟨fun j hj => upd2_row _ _ _ _ (fun e => hj (by rw [e]; decide)), rfl, fun s' hs' => upd2_col _ _ _ _ (fun e => hs' (by rw [e]; exact hs))⟩
theorem jfw_Th : jfw w (gTh w) := jfw_44 (by decide)
theorem jfw_41 (h : cf41 w w') : jfw w w' := ⟨fun j hj => h.1 j (fun e => hj (by rw [e]; decide)), h.2 2 (by decide), fun s _ => by rw [h.1 44 (by decide)]⟩
theorem cXs_f {e : Nat} (he : e < 2) (h : gag (cXs e) a a') : gag jXf a a' := gag_sub h (fun j hj => by
  simp only [List.mem_cons, List.not_mem_nil, or_false] at hj ⊢
  omega)
theorem jsh {s : Nat} (hs : s < 5) : 4 + 3 * s ∉ [32, 33, 41, 44] := by simp only [List.mem_cons, List.not_mem_nil, or_false]; omega
/-- nothing but notes was written -/
theorem jI_fr (h : jI K n u w a b r q D x z N M T o p st) (hw : jfw w w') (ha : gag jXf a a') (hb : b' 49 = b 49) {n' u' : Nat} (hn : n ≤ n') (hn1 : n' ≤ n + 10) (hu : u' ≤ u + 100) : jI (K + 1) n' u' w' a' b' r q D x z N M T o p st := by
  obtain ⟨k1, k2, k3, k4, k5, k6, k7, k8, k9, k10, k11⟩ := h
  have a1 : ∀ j, j ∈ [19, 21, 23, 24, 25, 28, 29, 30, 35, 36, 37, 39, 42, 45, 50, 51, 52, 53, 54, 60, 61, 62, 63, 64, 65, 66, 67, 68, 69, 70, 71, 72, 73, 74, 75, 76, 77, 78, 79, 80] → a' j = a j := fun j hj => ha j (fun e => by
    simp only [List.mem_cons, List.not_mem_nil, or_false] at hj e
    omega)
  have asl : ∀ j, j ≤ 18 → a' j = a j := fun j hj => ha j (fun e => by
    simp only [List.mem_cons, List.not_mem_nil, or_false] at e
    omega)
  have w0 : w' 0 = w 0 := hw.1 0 (by decide)
  refine ⟨by omega, by omega, by omega, k4, k5, by rw [w0]; exact k6, by rw [hw.2.2 24 (by decide)]; exact k7, ?_, ?_, ?_, ?_⟩
  · exact jM_cg k8 (by rw [w0]) (by rw [hw.1 20 (by decide)]) hw.2.1 (hw.2.2 2 (by decide)) (hw.2.2 39 (by decide)) (hw.2.2 47 (by decide)) (hw.2.2 49 (by decide)) (fun j hj => a1 j (by simp only [List.mem_cons, List.not_mem_nil, or_false] at hj ⊢; omega)) hb
  · exact jText_cg k9 (fun e he => by rw [hw.1 (22 + 5 * e) (by simp only [List.mem_cons, List.not_mem_nil, or_false]; omega)]) (hw.2.2 15 (by decide)) (fun j hj => a1 j (by simp only [List.mem_cons, List.not_mem_nil, or_false] at hj ⊢; omega)) rfl rfl
  · exact jTh_cg k10 hn (by rw [w0]) (hw.2.2 25 (by decide)) (fun s hs => hw.1 _ (jsh hs)) (fun j h1 h2 => a1 j (by simp only [List.mem_cons, List.not_mem_nil, or_false]; omega)) (a1 19 (by decide)) (fun s hs => asl _ (by omega))
  · exact jSa_cg k11 hn (by rw [w0]) (hw.2.2 41 (by decide)) (fun j hj => a1 j (by simp only [List.mem_cons, List.not_mem_nil, or_false] at hj ⊢; omega)) (fun s hs => asl _ (by omega)) (fun t _ h5 => by rw [a1 64 (by decide), a1 65 (by decide), a1 66 (by decide)]; exact ⟨h5, rfl, rfl⟩) (fun _ _ => rfl) (fun _ => rfl)
end GJ1

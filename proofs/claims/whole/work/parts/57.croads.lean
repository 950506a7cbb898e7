-- deps: 37 38 39 42 50 51
/-! ===== the class: the van's round ===== -/
theorem nI_5' (i j : Nat) : nI i * 5 + nI j = nI (5 * i + j) := by
  rw [show (5 : Int32) = nI 5 from rfl, pk_mul, nI_add, Nat.mul_comm]
theorem nI_30 (j : Nat) : 30 + nI j = nI (6 * 5 + j) := by
  rw [show (30 : Int32) = nI 30 from rfl, nI_add]
theorem gand32 : ∀ P, P < 32 → ∀ S, S < 32 → ((nI P &&& nI S = nI P) ↔ P &&& S = P) := by decide +kernel
theorem gsub32 : ∀ P, P < 32 → ∀ S, S < 32 → ∀ s, s < 5 → P.testBit s = true → P &&& S = P → (P ^^^ 2 ^ s) &&& S = P ^^^ 2 ^ s := by decide +kernel
/-- the table of ways for the sets below K -/
def cEd (a : Nat → Nat → Int32) (wy : Nat → Nat → Nat) (S K : Nat) : Prop := ∀ P, P < K → P ≠ 0 → P &&& S = P → ∀ s, s < 5 → P.testBit s = true → a 40 (5 * P + s) = nI (gGo wy s (P ^^^ 2 ^ s))
section GC7
variable {w a : Nat → Nat → Int32} {b : Nat → Nat → Int64} {r : Nat → Nat → Nat} {q : Nat → Nat → Option Nat} {y : gH} {n u : Nat} {d : Nat}
theorem c_leastInto (hd : 10 ≤ d) {wy : Nat → Nat → Nat} (hwy : gwy a 39 wy) (hw : ∀ i, i < 6 → ∀ j, j < 6 → wy i j < 100) (hsy : ∀ i, i < 6 → ∀ j, j < 6 → wy i j = wy j i) {P p : Nat} (h32 : P < 32) (hp : p < 6) (hE : ∀ s, s < 5 → P.testBit s = true → a 40 (5 * P + s) = nI (gGo wy s (P ^^^ 2 ^ s))) : gE d 75 [.ref 38, .int (nI P), .int (nI p)] (n, u, HP w a b r q y) (gre (nI (gGo wy p P)) (n, u, HP w a b r q y)) := by
  have hk : gMT[75]? = some gro_75 := rfl
  refine r_inQ hk [some (.ref 38), some (.int (nI P)), some (.int (nI p)), none, none] (Nat.le_of_ble_eq_true rfl) rfl ?_
  intro Q hQ
  by_cases e : P = 0
  · subst e
    iterate 2 refine r_step hk rfl rfl rfl ?_
    refine r_ne (fun hq9 => absurd (show nI 0 = 0 from rfl) hq9) (fun _ => ?_)
    iterate 5 refine r_step hk rfl rfl rfl ?_
    refine r_ia hk (6 * 5 + p) rfl rfl (nI_30 p) (by omega) rfl ?_
    refine r_iret hk rfl trivial ?_
    exact hQ _ _ ⟨by rw [hwy 5 (by omega) p hp, gGo_0, hsy 5 (by omega) p hp], rfl⟩
  · have hP0 : ¬ nI P = 0 := nI_ne0 (by omega) (by omega)
    have hval : ∀ s, s < 5 → P.testBit s = true → wy p s + gGo wy s (P ^^^ 2 ^ s) < 1000000 := by
      intro s hs hc
      have hlt := gxor_lt P h32 s hs hc
      have h2 := gGo_le hw (P ^^^ 2 ^ s) (by omega) s (by omega)
      have h3 := hw p hp s (by omega)
      omega
    have loop : ∀ s, s ≤ 5 → ∀ (x v : Int32), v = nI s → x = nI (gmin5 (fun s => P.testBit s) (fun s => wy p s + gGo wy s (P ^^^ 2 ^ s)) s) → gX d 75 20 [some (.ref 38), some (.int (nI P)), some (.int (nI p)), some (.int x), some (.int v)] [] (n, u, HP w a b r q y) Q := by
      refine g_down ?_ ?_
      · intro x v hv hx
        subst hv
        rw [← gGo_s h32 e] at hx
        iterate 3 refine r_step hk rfl rfl rfl ?_
        refine r_ge (fun _ => ?_) (fun hq9 => absurd (by decide) hq9)
        refine r_step hk rfl rfl rfl ?_
        refine r_iret hk rfl trivial ?_
        exact hQ _ _ ⟨by rw [hx], rfl⟩
      · intro s hs ih x v hv hx
        subst hv
        have htp := gmin5_top (c := fun s => P.testBit s) (v := fun s => wy p s + gGo wy s (P ^^^ 2 ^ s)) s
        have h23 : ¬ (5 : Int32) ≤ nI s := nI_ge (b := 5) hs (by decide)
        have hbt : ((nI P >>> (nI s &&& 31)) &&& 1 = 0) ↔ ¬ P.testBit s = true := by rw [bt_test0 (by omega), bt_nI (by omega)]; simp
        by_cases hc : P.testBit s = true
        · have hv := hval s hs hc
          have hm : gmin5 (fun s => P.testBit s) (fun s => wy p s + gGo wy s (P ^^^ 2 ^ s)) (s + 1) = if wy p s + gGo wy s (P ^^^ 2 ^ s) < gmin5 (fun s => P.testBit s) (fun s => wy p s + gGo wy s (P ^^^ 2 ^ s)) s then wy p s + gGo wy s (P ^^^ 2 ^ s) else gmin5 (fun s => P.testBit s) (fun s => wy p s + gGo wy s (P ^^^ 2 ^ s)) s := by
            conv => lhs; unfold gmin5
            simp only [hc, if_true]
          have esum : a 40 (5 * P + s) + a 39 (6 * s + p) = nI (wy p s + gGo wy s (P ^^^ 2 ^ s)) := by
            rw [hE s hs hc, hwy s (by omega) p hp, nI_add, hsy s (by omega) p hp, Nat.add_comm]
          generalize hM : gmin5 (fun s => P.testBit s) (fun s => wy p s + gGo wy s (P ^^^ 2 ^ s)) s = M at *
          generalize hV : wy p s + gGo wy s (P ^^^ 2 ^ s) = V at *
          iterate 3 refine r_step hk rfl rfl rfl ?_
          refine r_ge (fun hq9 => absurd hq9 h23) (fun _ => ?_)
          iterate 6 refine r_step hk rfl rfl rfl ?_
          refine r_eq (fun hq9 => absurd hq9 (fun z => (hbt.mp z) hc)) (fun _ => ?_)
          iterate 8 refine r_step hk rfl rfl rfl ?_
          refine r_ia hk (5 * P + s) rfl rfl (nI_5' P s) (by omega) rfl ?_
          iterate 7 refine r_step hk rfl rfl rfl ?_
          refine r_ia hk (6 * s + p) rfl rfl (nI_6' s p) (by omega) rfl ?_
          refine r_step hk rfl rfl rfl ?_
          refine r_bi hk [.int x, .int (a 40 (5 * P + s) + a 39 (6 * s + p))] [] rfl rfl rfl rfl rfl (by decide) hd ⟨rfl, Or.inr (Or.inr (Or.inr (Or.inr ⟨rfl, x, _, rfl, rfl⟩)))⟩ ?_
          iterate 3 refine r_step hk rfl rfl rfl ?_
          refine ih _ _ (nI_1 s) ?_
          rw [hm, esum, hx]
          by_cases hlt : V < M
          (rw [if_pos hlt, if_pos (nI_lt hlt (by omega))])
          rw [if_neg hlt, if_neg (fun z => hlt ((nI_ltI (by omega) (by omega)).mp z))]
        · have hm : gmin5 (fun s => P.testBit s) (fun s => wy p s + gGo wy s (P ^^^ 2 ^ s)) (s + 1) = gmin5 (fun s => P.testBit s) (fun s => wy p s + gGo wy s (P ^^^ 2 ^ s)) s := by
            conv => lhs; unfold gmin5
            rw [if_neg hc]
          iterate 3 refine r_step hk rfl rfl rfl ?_
          refine r_ge (fun hq9 => absurd hq9 h23) (fun _ => ?_)
          iterate 6 refine r_step hk rfl rfl rfl ?_
          refine r_eq (fun _ => ?_) (fun hq9 => absurd (hbt.mpr hc) hq9)
          iterate 2 refine r_step hk rfl rfl rfl ?_
          exact ih _ _ (nI_1 s) (by rw [hm]; exact hx)
    iterate 2 refine r_step hk rfl rfl rfl ?_
    refine r_ne (fun _ => ?_) (fun hq9 => absurd hq9 hP0)
    iterate 4 refine r_step hk rfl rfl rfl ?_
    exact loop 0 (Nat.zero_le _) _ _ rfl rfl
theorem c_fillPart (hd : 11 ≤ d) {wy : Nat → Nat → Nat} (hwy : gwy a 39 wy) (hw : ∀ i, i < 6 → ∀ j, j < 6 → wy i j < 100) (hsy : ∀ i, i < 6 → ∀ j, j < 6 → wy i j = wy j i) {P S : Nat} (h32 : P < 32) (hS : S < 32) (hPS : P &&& S = P) (hE : cEd a wy S P) : gE d 74 [.ref 38, .int (nI P)] (n, u, HP w a b r q y) (fun v S' => v = none ∧ ∃ a', gag [40] a a' ∧ cEd a' wy S (P + 1) ∧ S' = (n, u, HP w a' b r q y)) := by
  have hk : gMT[74]? = some gro_74 := rfl
  refine r_inQ hk [some (.ref 38), some (.int (nI P)), none] (Nat.le_of_ble_eq_true rfl) rfl ?_
  intro Q hQ
  have loop : ∀ s, s ≤ 5 → ∀ (a1 : Nat → Nat → Int32) (v : Int32), v = nI s → gag [40] a a1 → cEd a1 wy S P → (∀ s', s' < s → P.testBit s' = true → a1 40 (5 * P + s') = nI (gGo wy s' (P ^^^ 2 ^ s'))) → gX d 74 2 [some (.ref 38), some (.int (nI P)), some (.int v)] [] (n, u, HP w a1 b r q y) Q := by
    refine g_down ?_ ?_
    · intro a1 v hv hag hE1 hn
      subst hv
      iterate 3 refine r_step hk rfl rfl rfl ?_
      refine r_ge (fun _ => ?_) (fun hq9 => absurd (by decide) hq9)
      refine r_ret hk rfl rfl ?_
      exact hQ _ _ ⟨rfl, a1, hag, fun P' hP' h0 hs' s hs hb => by by_cases e : P' = P; (subst e; exact hn s hs hb); exact hE1 P' (by omega) h0 hs' s hs hb, rfl⟩
    · intro s hs ih a1 v hv hag hE1 hn
      subst hv
      have h4 : ¬ (5 : Int32) ≤ nI s := nI_ge (b := 5) hs (by decide)
      have hbt : ((nI P >>> (nI s &&& 31)) &&& 1 = 0) ↔ ¬ P.testBit s = true := by rw [bt_test0 (by omega), bt_nI (by omega)]; simp
      by_cases hc : P.testBit s = true
      · have hlt := gxor_lt P h32 s hs hc
        have hsub := gsub32 P h32 S hS s hs hc hPS
        have hcl : gE (d - 1) 75 [.ref 38, .int (nI P &&& (1 <<< (nI s &&& 31) ^^^ -1)), .int (nI s)] (n, u, HP w a1 b r q y) (gre (nI (gGo wy s (P ^^^ 2 ^ s))) (n, u, HP w a1 b r q y)) := by
          rw [gclr (by omega) h32 hc]
          refine c_leastInto (by omega) (by intro i hi j hj; rw [hag 39 (by decide)]; exact hwy i hi j hj) hw hsy (by omega) (by omega) (fun s' hs' hb => ?_)
          by_cases e0 : P ^^^ 2 ^ s = 0
          · rw [e0] at hb; simp at hb
          · exact hE1 _ hlt e0 hsub s' hs' hb
        iterate 3 refine r_step hk rfl rfl rfl ?_
        refine r_ge (fun hq9 => absurd hq9 h4) (fun _ => ?_)
        iterate 6 refine r_step hk rfl rfl rfl ?_
        refine r_eq (fun hq9 => absurd hq9 (fun z => (hbt.mp z) hc)) (fun _ => ?_)
        iterate 16 refine r_step hk rfl rfl rfl ?_
        refine r_callV hk [.ref 38, .int (nI P &&& (1 <<< (nI s &&& 31) ^^^ -1)), .int (nI s)] [.int (nI P * 5 + nI s), .ref 40] rfl rfl rfl rfl rfl rfl rfl (by omega) hcl ?_
        rintro _ _ ⟨rfl, rfl⟩
        refine r_is hk (5 * P + s) rfl rfl rfl (nI_5' P s) (by omega) rfl rfl ?_
        iterate 2 refine r_step hk rfl rfl rfl ?_
        refine ih _ _ (nI_1 s) (gag_up hag (by decide)) ?_ ?_
        (intro P' hP' h0 hs' s' hs2 hb; rw [upd2_at, if_neg (by omega)]; exact hE1 P' hP' h0 hs' s' hs2 hb)
        (intro s' hs' hb; rw [upd2_at]; by_cases e : s' = s; (subst e; rw [if_pos rfl]); rw [if_neg (by omega)]; exact hn s' (by omega) hb)
      · skip
        iterate 3 refine r_step hk rfl rfl rfl ?_
        refine r_ge (fun hq9 => absurd hq9 h4) (fun _ => ?_)
        iterate 6 refine r_step hk rfl rfl rfl ?_
        refine r_eq (fun _ => ?_) (fun hq9 => absurd (hbt.mpr hc) hq9)
        iterate 2 refine r_step hk rfl rfl rfl ?_
        exact ih a1 _ (nI_1 s) hag hE1 (fun s' hs' hb => by by_cases e : s' = s; (subst e; exact absurd hb hc); exact hn s' (by omega) hb)
  iterate 2 refine r_step hk rfl rfl rfl ?_
  exact loop 0 (Nat.zero_le _) a _ rfl gag_rf hE (fun s' hs' => absurd hs' (by omega))
theorem c_round (hd : 13 ≤ d) {wy : Nat → Nat → Nat} (hwy : gwy a 39 wy) (hw : ∀ i, i < 6 → ∀ j, j < 6 → wy i j < 100) (hsy : ∀ i, i < 6 → ∀ j, j < 6 → wy i j = wy j i) (v1 : Int32) : gE d 72 [.ref 0, .int v1] (n, u, HP w a b r q y) (fun v S' => (∃ P a', P < 32 ∧ v1 = nI P ∧ v = some (.int (nI (gRo wy P))) ∧ gag [40] a a' ∧ S' = (n, u, HP w a' b r q y)) ∨ (¬ gin v1 32 ∧ v = some (.int (-1)) ∧ S' = (n, u, HP w a b r q y))) := by
  have sr : gE (d - 1) 73 [.ref 38, .int v1] (n, u, HP w a b r q y) (fun v S' => ((∃ P a', P < 32 ∧ v1 = nI P ∧ v = some (.int (nI (gRo wy P))) ∧ gag [40] a a' ∧ S' = (n, u, HP w a' b r q y)) ∨ (¬ gin v1 32 ∧ v = some (.int (-1)) ∧ S' = (n, u, HP w a b r q y))) ∧ ∃ c : Int32, v = some (.int c)) := by
    have hk : gMT[73]? = some gro_73 := rfl
    refine r_inQ hk [some (.ref 38), some (.int v1), none] (Nat.le_of_ble_eq_true rfl) rfl ?_
    intro Q hQ
    have loop : ∀ S, S < 32 → S ≠ 0 → v1 = nI S → ∀ P, P ≤ S + 1 → ∀ (a1 : Nat → Nat → Int32) (v : Int32), v = nI P → gag [40] a a1 → cEd a1 wy S P → gX (d - 1) 73 19 [some (.ref 38), some (.int v1), some (.int v)] [] (n, u, HP w a1 b r q y) Q := by
      intro S hS hS0 hv1
      have hwya : ∀ a1 : Nat → Nat → Int32, gag [40] a a1 → gwy a1 39 wy := fun a1 hag i hi j hj => by rw [hag 39 (by decide)]; exact hwy i hi j hj
      refine g_down ?_ ?_
      · intro a1 v hv hag hE
        subst hv
        have hcl : gE (d - 1 - 1) 75 [.ref 38, .int v1, .int 5] (n, u, HP w a1 b r q y) (gre (nI (gRo wy S)) (n, u, HP w a1 b r q y)) := by
          rw [hv1]
          unfold gRo
          rw [if_neg hS0]
          exact c_leastInto (p := 5) (by omega) (hwya a1 hag) hw hsy hS (by omega) (fun s hs hb => hE S (by omega) hS0 (Nat.and_self _) s hs hb)
        iterate 3 refine r_step hk rfl rfl rfl ?_
        refine r_gt (fun _ => ?_) (fun hq9 => absurd (show v1 < nI (S + 1) by rw [hv1]; exact nI_lt (by omega) (by omega)) hq9)
        iterate 3 refine r_step hk rfl rfl rfl ?_
        refine r_callV hk [.ref 38, .int v1, .int 5] [] rfl rfl rfl rfl rfl rfl rfl (by omega) hcl ?_
        rintro _ _ ⟨rfl, rfl⟩
        refine r_iret hk rfl trivial ?_
        exact hQ _ _ ⟨Or.inl ⟨S, a1, hS, hv1, rfl, hag, rfl⟩, _, rfl⟩
      · intro P hP ih a1 v hv hag hE
        subst hv
        have h21 : ¬ v1 < nI P := by rw [hv1]; exact fun z => by have := (nI_ltI (by omega) (by omega)).mp z; omega
        have hand := gand32 P (by omega) S hS
        by_cases hPS : P &&& S = P
        · skip
          iterate 3 refine r_step hk rfl rfl rfl ?_
          refine r_gt (fun hq9 => absurd hq9 h21) (fun _ => ?_)
          iterate 5 refine r_step hk rfl rfl rfl ?_
          refine r_ne (fun hq9 => absurd (show nI P &&& v1 = nI P by rw [hv1]; exact hand.mpr hPS) hq9) (fun _ => ?_)
          iterate 2 refine r_step hk rfl rfl rfl ?_
          refine r_callV hk [.ref 38, .int (nI P)] [] rfl rfl rfl rfl rfl rfl rfl (by omega) (c_fillPart (by omega) (hwya a1 hag) hw hsy (by omega) hS hPS hE) ?_
          rintro _ _ ⟨rfl, a2, hag2, hE2, rfl⟩
          iterate 2 refine r_step hk rfl rfl rfl ?_
          exact ih a2 _ (nI_1 P) (gag_tr hag hag2) hE2
        · skip
          iterate 3 refine r_step hk rfl rfl rfl ?_
          refine r_gt (fun hq9 => absurd hq9 h21) (fun _ => ?_)
          iterate 5 refine r_step hk rfl rfl rfl ?_
          refine r_ne (fun _ => ?_) (fun hq9 => absurd hq9 (show ¬ nI P &&& v1 = nI P by rw [hv1]; exact mt hand.mp hPS))
          iterate 2 refine r_step hk rfl rfl rfl ?_
          exact ih a1 _ (nI_1 P) hag (fun P' hP' h0 hs' s hs hb => by by_cases e : P' = P; (subst e; exact absurd hs' hPS); exact hE P' (by omega) h0 hs' s hs hb)
    iterate 2 refine r_step hk rfl rfl rfl ?_
    refine r_callS hk [.int v1, .int 32] [] rfl rfl rfl rfl rfl (by omega) (c_within _ _ v1 32 (by decide)) ?_
    rintro _ _ ⟨⟨⟨S, hS, hv1⟩, rfl⟩ | ⟨hs, rfl⟩, rfl⟩
    · refine r_step hk rfl rfl rfl ?_
      refine r_ne (fun _ => ?_) (fun hq9 => absurd hq9 (by decide))
      iterate 2 refine r_step hk rfl rfl rfl ?_
      refine r_ne (fun h12 => ?_) (fun h12 => ?_)
      · iterate 2 refine r_step hk rfl rfl rfl ?_
        exact loop S hS (fun e => h12 (by rw [hv1, e]; rfl)) hv1 1 (by omega) a _ rfl gag_rf (fun P' hP' h0 => absurd (by omega : P' = 0) h0)
      · refine r_step hk rfl rfl rfl ?_
        refine r_iret hk rfl trivial ?_
        exact hQ _ _ ⟨Or.inl ⟨S, a, hS, hv1, by have e0 : S = 0 := nI_inj (j := 0) (hv1.symm.trans h12) (by omega) (by omega); subst e0; rfl, gag_rf, rfl⟩, _, rfl⟩
    · refine r_step hk rfl rfl rfl ?_
      refine r_ne (fun hq9 => absurd (by decide) hq9) (fun _ => ?_)
      refine r_step hk rfl rfl rfl ?_
      refine r_iret hk rfl trivial ?_
      exact hQ _ _ ⟨Or.inr ⟨hs, rfl, rfl⟩, _, rfl⟩
  have hk : gMT[72]? = some gro_72 := rfl
  refine r_in hk [some (.ref 0), some (.int v1)] (Nat.le_of_ble_eq_true rfl) rfl ?_
  iterate 3 refine r_step hk rfl rfl rfl ?_
  refine r_callV hk [.ref 38, .int v1] [] rfl rfl rfl rfl rfl rfl rfl (by omega) sr ?_
  rintro _ _ ⟨h, c, rfl⟩
  exact r_iret hk rfl trivial h
end GC7

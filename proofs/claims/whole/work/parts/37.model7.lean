/-! ===== the reference: the rest of the calls on things ===== -/
section GSW
variable {d k pc : Nat} {L : gL} {st : List Value} {S : gS} {Q : Option Value → gS → Prop} {row : gR}
theorem r_swI (hk : gMT[k]? = some row) {dd lo hi : Int} {offs : Array Int} {len : Nat} {ax : List Nat} {w0 : Value} {x : Int32} (j : Nat) (hq : glook row.2.2.2.2 pc = some (.tableswitch dd lo hi offs, len, ax, w0)) (hx : x.toInt = lo + j) (hj : lo + j ≤ hi) (h : gX d k (gax ax (j + 1)) L st S Q) : gX d k pc L (.int x :: st) S Q := by
  refine r_step hk hq rfl (pc' := gax ax (j + 1)) ?_ h
  simp only [gstep, gsw]
  rw [if_neg (by omega), show (x.toInt - lo).toNat = j by omega]
theorem r_swD (hk : gMT[k]? = some row) {dd lo hi : Int} {offs : Array Int} {len : Nat} {ax : List Nat} {w0 : Value} {x : Int32} (hq : glook row.2.2.2.2 pc = some (.tableswitch dd lo hi offs, len, ax, w0)) (hx : x.toInt < lo ∨ hi < x.toInt) (h : gX d k (gax ax 0) L st S Q) : gX d k pc L (.int x :: st) S Q := by
  refine r_step hk hq rfl (pc' := gax ax 0) ?_ h
  simp only [gstep, gsw]
  rw [if_pos hx]
end GSW
section GM8
variable {w a : Nat → Nat → Int32} {b : Nat → Nat → Int64} {r : Nat → Nat → Nat} {q : Nat → Nat → Option Nat} {y : gH} {n u : Nat} {d : Nat}
theorem m_sort (hd : 4 ≤ d) {N T h : Nat} (hN : w 44 25 = nI N) (hN1 : N ≤ 100) (hT : w 44 24 = nI T) (hT1 : T < 1000) (hh : w 44 15 = nI h) (hh1 : h < 2) {ls : List (Nat × List Nat)} (hls : gmText a h ls) (hkd : ∀ t, t < N → gin (a 61 t) 8) (x z : Int32) : gE d 120 [.ref 44, .int x, .int z] (n, u, HP w a b r q y) (fun v S' =>
    (∃ t s k a', t < N ∧ s < 5 ∧ k < 8 ∧ x = nI t ∧ z = nI s ∧ a 61 t = nI k ∧ (a 64 t = 0 ∨ a 64 t = 2 ∨ a 64 t = 4) ∧ gag [58, 59, 64, 65, 66] a a' ∧ gXo a' = gsrt N (a 69) (nI T) (gway (gfa a T t k) ls) (gXo a) t s ∧ v = some (.int (a' 64 t)) ∧ S' = (n, u, HP (gTh w) a' b r q y))
    ∨ ((¬ ∃ t, t < N ∧ x = nI t ∧ gin z 5 ∧ (a 64 t = 0 ∨ a 64 t = 2 ∨ a 64 t = 4)) ∧ v = some (.int (-1)) ∧ S' = (n, u, HP (gTh w) a b r q y))) := by
  have hk : gMT[120]? = some gro_120 := rfl
  refine r_in hk [some (.ref 44), some (.int x), some (.int z)] (Nat.le_of_ble_eq_true rfl) rfl ?_
  generalize hQ : (fun (v : Option Value) (S' : gS) => (∃ t s k a', t < N ∧ s < 5 ∧ k < 8 ∧ x = nI t ∧ z = nI s ∧ a 61 t = nI k ∧ (a 64 t = 0 ∨ a 64 t = 2 ∨ a 64 t = 4) ∧ gag [58, 59, 64, 65, 66] a a' ∧ gXo a' = gsrt N (a 69) (nI T) (gway (gfa a T t k) ls) (gXo a) t s ∧ v = some (.int (a' 64 t)) ∧ S' = (n, u, HP (gTh w) a' b r q y))
    ∨ ((¬ ∃ t, t < N ∧ x = nI t ∧ gin z 5 ∧ (a 64 t = 0 ∨ a 64 t = 2 ∨ a 64 t = 4)) ∧ v = some (.int (-1)) ∧ S' = (n, u, HP (gTh w) a b r q y))) = Q
  have go : ∀ t s, t < N → s < 5 → x = nI t → z = nI s → (a 64 t = 0 ∨ a 64 t = 2 ∨ a 64 t = 4) → gX d 120 51 [some (.ref 44), some (.int x), some (.int z)] [] (n, u, HP (gTh w) a b r q y) Q := by
    intro t s ht hs hx hz hst
    obtain ⟨k, hk8, ek⟩ := hkd t ht
    subst hx; subst hz
    iterate 3 refine r_step hk rfl rfl rfl ?_
    refine r_callV hk [.ref 44, .int (nI t), .int (nI s)] [] rfl rfl rfl rfl rfl rfl rfl (by omega) (m_sorts (w := gTh w) (by omega) hN hN1 hT hT1 (by omega) hk8 ek hh hh1 hs hls) ?_
    rintro _ _ ⟨rfl, a2, hag2, hX2, rfl⟩
    iterate 3 refine r_step hk rfl rfl rfl ?_
    refine r_ia hk (t) rfl rfl rfl (by omega) rfl ?_
    refine r_iret hk rfl trivial ?_
    rw [← hQ]
    exact Or.inl ⟨t, s, k, a2, ht, hs, hk8, rfl, rfl, ek, hst, hag2, hX2, rfl, rfl⟩
  iterate 2 refine r_step hk rfl rfl rfl ?_
  refine r_putI hk rfl rfl rfl rfl ?_
  iterate 2 refine r_step hk rfl rfl rfl ?_
  refine r_callV hk [.ref 44, .int x] [] rfl rfl rfl rfl rfl rfl rfl (by omega) (m_isThing (w := gTh w) hN hN1 x) ?_
  rintro _ _ ⟨⟨⟨t, ht, hx⟩, rfl⟩ | ⟨hs, rfl⟩, rfl⟩
  · refine r_step hk rfl rfl rfl ?_
    refine r_eq (fun hq9 => absurd hq9 (by decide)) (fun _ => ?_)
    refine r_step hk rfl rfl rfl ?_
    refine r_callS hk [.int z] [] rfl rfl rfl rfl rfl (by omega) (m_isShop _ _ _) ?_
    rintro _ _ ⟨⟨⟨s, hs5, hz⟩, rfl⟩ | ⟨hz, rfl⟩, rfl⟩
    · refine r_step hk rfl rfl rfl ?_
      refine r_eq (fun hq9 => absurd hq9 (by decide)) (fun _ => ?_)
      iterate 3 refine r_step hk rfl rfl rfl ?_
      refine r_ia hk (t) rfl rfl hx (by omega) rfl ?_
      refine r_step hk rfl rfl rfl ?_
      refine r_eq (fun h26 => ?_) (fun h26 => ?_)
      · first | exact go t s ht hs5 hx hz (Or.inl h26) | exact go t s ht hs5 hx hz (Or.inr (Or.inl h36)) | exact go t s ht hs5 hx hz (Or.inr (Or.inr h46))
      · iterate 3 refine r_step hk rfl rfl rfl ?_
        refine r_ia hk (t) rfl rfl hx (by omega) rfl ?_
        iterate 2 refine r_step hk rfl rfl rfl ?_
        refine r_eq (fun h36 => ?_) (fun h36 => ?_)
        · first | exact go t s ht hs5 hx hz (Or.inl h26) | exact go t s ht hs5 hx hz (Or.inr (Or.inl h36)) | exact go t s ht hs5 hx hz (Or.inr (Or.inr h46))
        · iterate 3 refine r_step hk rfl rfl rfl ?_
          refine r_ia hk (t) rfl rfl hx (by omega) rfl ?_
          iterate 2 refine r_step hk rfl rfl rfl ?_
          refine r_eq (fun h46 => ?_) (fun h46 => ?_)
          · first | exact go t s ht hs5 hx hz (Or.inl h26) | exact go t s ht hs5 hx hz (Or.inr (Or.inl h36)) | exact go t s ht hs5 hx hz (Or.inr (Or.inr h46))
          · refine r_step hk rfl rfl rfl ?_
            refine r_iret hk rfl trivial ?_
            rw [← hQ]
            first | exact Or.inr ⟨fun ⟨t2, ht2, e2, _, h3⟩ => by have e := nI_inj (hx.symm.trans e2) (by omega) (by omega); subst e; exact h3.elim h26 (fun h4 => h4.elim h36 h46), rfl, rfl⟩ | exact Or.inr ⟨fun ⟨_, _, _, h2, _⟩ => hz h2, rfl, rfl⟩ | exact Or.inr ⟨fun ⟨t2, h2, e2, _, _⟩ => hs ⟨t2, h2, e2⟩, rfl, rfl⟩
    · refine r_step hk rfl rfl rfl ?_
      refine r_eq (fun _ => ?_) (fun hq9 => absurd (by decide) hq9)
      refine r_step hk rfl rfl rfl ?_
      refine r_iret hk rfl trivial ?_
      rw [← hQ]
      first | exact Or.inr ⟨fun ⟨t2, ht2, e2, _, h3⟩ => by have e := nI_inj (hx.symm.trans e2) (by omega) (by omega); subst e; exact h3.elim h26 (fun h4 => h4.elim h36 h46), rfl, rfl⟩ | exact Or.inr ⟨fun ⟨_, _, _, h2, _⟩ => hz h2, rfl, rfl⟩ | exact Or.inr ⟨fun ⟨t2, h2, e2, _, _⟩ => hs ⟨t2, h2, e2⟩, rfl, rfl⟩
  · refine r_step hk rfl rfl rfl ?_
    refine r_eq (fun _ => ?_) (fun hq9 => absurd (by decide) hq9)
    refine r_step hk rfl rfl rfl ?_
    refine r_iret hk rfl trivial ?_
    rw [← hQ]
    first | exact Or.inr ⟨fun ⟨t2, ht2, e2, _, h3⟩ => by have e := nI_inj (hx.symm.trans e2) (by omega) (by omega); subst e; exact h3.elim h26 (fun h4 => h4.elim h36 h46), rfl, rfl⟩ | exact Or.inr ⟨fun ⟨_, _, _, h2, _⟩ => hz h2, rfl, rfl⟩ | exact Or.inr ⟨fun ⟨t2, h2, e2, _, _⟩ => hs ⟨t2, h2, e2⟩, rfl, rfl⟩
theorem m_habit (hd : 1 ≤ d) (x : Int32) : gE d 130 [.ref 44, .int x] (n, u, HP w a b r q y) (fun v S' => S' = (n, u, HP (gTh w) a b r q y) ∧
    ((∃ j, j < 10 ∧ x = nI j ∧ ¬ a 71 j = 0 ∧ v = some (.int (a 72 j * 1000 / a 71 j))) ∨ ((¬ ∃ j, j < 10 ∧ x = nI j ∧ ¬ a 71 j = 0) ∧ v = some (.int (-1))))) := by
  have hk : gMT[130]? = some gro_130 := rfl
  refine r_in hk [some (.ref 44), some (.int x)] (Nat.le_of_ble_eq_true rfl) rfl ?_
  iterate 2 refine r_step hk rfl rfl rfl ?_
  refine r_putI hk rfl rfl rfl rfl ?_
  iterate 3 refine r_step hk rfl rfl rfl ?_
  refine r_callS hk [.int x, .int 0, .int 9] [] rfl rfl rfl rfl rfl hd (m_within _ _ _ 9 (by decide)) ?_
  rintro _ _ ⟨⟨⟨j, hj, rfl⟩, rfl⟩ | ⟨hs, rfl⟩, rfl⟩
  · refine r_step hk rfl rfl rfl ?_
    refine r_eq (fun hq9 => absurd hq9 (by decide)) (fun _ => ?_)
    iterate 3 refine r_step hk rfl rfl rfl ?_
    refine r_ia hk (j) rfl rfl rfl hj rfl ?_
    refine r_step hk rfl rfl rfl ?_
    refine r_ne (fun h21 => ?_) (fun h21 => ?_)
    · iterate 3 refine r_step hk rfl rfl rfl ?_
      refine r_ia hk (j) rfl rfl rfl hj rfl ?_
      iterate 5 refine r_step hk rfl rfl rfl ?_
      refine r_ia hk (j) rfl rfl rfl hj rfl ?_
      refine r_div hk rfl h21 ?_
      refine r_iret hk rfl trivial ?_
      first | exact ⟨rfl, Or.inl ⟨j, hj, rfl, h21, rfl⟩⟩ | exact ⟨rfl, Or.inr ⟨fun ⟨j2, h2, e2, h3⟩ => h3 (by rw [← nI_inj e2 (by omega) (by omega)]; exact h21), rfl⟩⟩ | exact ⟨rfl, Or.inr ⟨fun ⟨j2, h2, e2, h3⟩ => hs ⟨j2, h2, e2⟩, rfl⟩⟩
    · iterate 2 refine r_step hk rfl rfl rfl ?_
      refine r_iret hk rfl trivial ?_
      first | exact ⟨rfl, Or.inl ⟨j, hj, rfl, h21, rfl⟩⟩ | exact ⟨rfl, Or.inr ⟨fun ⟨j2, h2, e2, h3⟩ => h3 (by rw [← nI_inj e2 (by omega) (by omega)]; exact h21), rfl⟩⟩ | exact ⟨rfl, Or.inr ⟨fun ⟨j2, h2, e2, h3⟩ => hs ⟨j2, h2, e2⟩, rfl⟩⟩
  · refine r_step hk rfl rfl rfl ?_
    refine r_eq (fun _ => ?_) (fun hq9 => absurd (by decide) hq9)
    iterate 2 refine r_step hk rfl rfl rfl ?_
    refine r_iret hk rfl trivial ?_
    first | exact ⟨rfl, Or.inl ⟨j, hj, rfl, h21, rfl⟩⟩ | exact ⟨rfl, Or.inr ⟨fun ⟨j2, h2, e2, h3⟩ => h3 (by rw [← nI_inj e2 (by omega) (by omega)]; exact h21), rfl⟩⟩ | exact ⟨rfl, Or.inr ⟨fun ⟨j2, h2, e2, h3⟩ => hs ⟨j2, h2, e2⟩, rfl⟩⟩
end GM8
section GM9
variable {w a : Nat → Nat → Int32} {b : Nat → Nat → Int64} {r : Nat → Nat → Nat} {q : Nat → Nat → Option Nat} {y : gH} {n u : Nat} {d : Nat}
/-- a worth, as the reference writes it -/
def gwo (p : Int32) (s la : Nat) : Int32 := (p.toInt64 * (nI s + 1).toInt64 / (nI s + nI la + 2).toInt64).toInt32
theorem m_worth (hd : 1 ≤ d) {N M : Nat} (hN : w 44 25 = nI N) (hN1 : N ≤ 100) (hM : w 44 41 = nI M) (hM1 : M ≤ 200) (hkd : ∀ t, t < N → gin (a 61 t) 8) (hst : ∀ j, j < M → gin (a 74 j) N) (la : Nat → Nat) (hla : ∀ i, i < 40 → a 70 i = nI (la i) ∧ la i < 100000) (x z : Int32) : gE d 141 [.ref 44, .int x, .int z] (n, u, HP w a b r q y) (fun v S' => S' = (n, u, HP (gTh w) a b r q y) ∧
    ((∃ t k s, t < N ∧ k < 8 ∧ s < 5 ∧ x = nI t ∧ a 61 t = nI k ∧ z = nI s ∧ v = some (.int (gwo (a 68 k) (gcnt (gSo a (nI k) (nI s)) M) (la (8 * s + k))))) ∨ (¬ (gin x N ∧ gin z 5) ∧ v = some (.int (-1))))) := by
  have hk : gMT[141]? = some gro_141 := rfl
  refine r_in hk [some (.ref 44), some (.int x), some (.int z)] (Nat.le_of_ble_eq_true rfl) rfl ?_
  iterate 2 refine r_step hk rfl rfl rfl ?_
  refine r_putI hk rfl rfl rfl rfl ?_
  iterate 2 refine r_step hk rfl rfl rfl ?_
  refine r_callV hk [.ref 44, .int x] [] rfl rfl rfl rfl rfl rfl rfl hd (m_isThing (w := gTh w) hN hN1 x) ?_
  rintro _ _ ⟨⟨⟨t, ht, rfl⟩, rfl⟩ | ⟨hs, rfl⟩, rfl⟩
  · obtain ⟨k, hk8, ek⟩ := hkd t ht
    refine r_step hk rfl rfl rfl ?_
    refine r_eq (fun hq9 => absurd hq9 (by decide)) (fun _ => ?_)
    refine r_step hk rfl rfl rfl ?_
    refine r_callS hk [.int z] [] rfl rfl rfl rfl rfl hd (m_isShop _ _ _) ?_
    rintro _ _ ⟨⟨⟨s, hs5, rfl⟩, rfl⟩ | ⟨hz, rfl⟩, rfl⟩
    · refine r_step hk rfl rfl rfl ?_
      refine r_ne (fun _ => ?_) (fun hq9 => absurd hq9 (by decide))
      iterate 6 refine r_step hk rfl rfl rfl ?_
      refine r_ia hk (t) rfl rfl rfl (by omega) rfl ?_
      refine r_ia hk (k) rfl rfl ek hk8 rfl ?_
      iterate 3 refine r_step hk rfl rfl rfl ?_
      refine r_ia hk (t) rfl rfl rfl (by omega) rfl ?_
      refine r_step hk rfl rfl rfl ?_
      refine r_callV hk [.ref 44, .int (a 68 k), .int (a 61 t), .int (nI s)] [] rfl rfl rfl rfl rfl rfl rfl hd (by rw [ek]; exact m_weighs (w := gTh w) hN1 hM hM1 hst hk8 hs5 (hla (8 * s + k) (by omega)).1 (hla (8 * s + k) (by omega)).2 _) ?_
      rintro _ _ ⟨rfl, rfl⟩
      refine r_iret hk rfl trivial ?_
      first | exact ⟨rfl, Or.inl ⟨t, k, s, ht, hk8, hs5, rfl, ek, rfl, rfl⟩⟩ | exact ⟨rfl, Or.inr ⟨fun h => hz h.2, rfl⟩⟩ | exact ⟨rfl, Or.inr ⟨fun h => hs h.1, rfl⟩⟩
    · refine r_step hk rfl rfl rfl ?_
      refine r_ne (fun hq9 => absurd (by decide) hq9) (fun _ => ?_)
      iterate 2 refine r_step hk rfl rfl rfl ?_
      refine r_iret hk rfl trivial ?_
      first | exact ⟨rfl, Or.inl ⟨t, k, s, ht, hk8, hs5, rfl, ek, rfl, rfl⟩⟩ | exact ⟨rfl, Or.inr ⟨fun h => hz h.2, rfl⟩⟩ | exact ⟨rfl, Or.inr ⟨fun h => hs h.1, rfl⟩⟩
  · refine r_step hk rfl rfl rfl ?_
    refine r_eq (fun _ => ?_) (fun hq9 => absurd (by decide) hq9)
    iterate 2 refine r_step hk rfl rfl rfl ?_
    refine r_iret hk rfl trivial ?_
    first | exact ⟨rfl, Or.inl ⟨t, k, s, ht, hk8, hs5, rfl, ek, rfl, rfl⟩⟩ | exact ⟨rfl, Or.inr ⟨fun h => hz h.2, rfl⟩⟩ | exact ⟨rfl, Or.inr ⟨fun h => hs h.1, rfl⟩⟩
/-- the best shop so far: (shop + 1 or 0, its worth) -/
def gbest (rm : Nat → Prop) [DecidablePred rm] (sh : Int32) (wo : Nat → Int32) : Nat → Int32 × Int32
  | 0 => (-1, 0)
  | s + 1 => if ¬ nI s = sh ∧ rm s ∧ ((gbest rm sh wo s).1 < 0 ∨ (gbest rm sh wo s).2 < wo s) then (nI s, wo s) else gbest rm sh wo s
def gwhere (rm : Nat → Prop) [DecidablePred rm] (sh : Int32) (wo : Nat → Int32) (stay cost : Int32) : Int32 := if ¬ (gbest rm sh wo 5).1 < 0 ∧ cost < (gbest rm sh wo 5).2 - stay then (gbest rm sh wo 5).1 else -1
theorem m_whereTo (hd : 2 ≤ d) {N M : Nat} (hN : w 44 25 = nI N) (hN1 : N ≤ 100) (hM : w 44 41 = nI M) (hM1 : M ≤ 200) (hst : ∀ j, j < M → gin (a 74 j) N) (la : Nat → Nat) (hla : ∀ i, i < 40 → a 70 i = nI (la i) ∧ la i < 100000) {t k s0 : Nat} (ht : t < 100) (hk8 : k < 8) (ek : a 61 t = nI k) (hs0 : s0 < 5) (es : a 65 t = nI s0) :
    gE d 144 [.ref 44, .int (nI t)] (n, u, HP w a b r q y) (gre (gwhere (fun s => nI (gcnt (gOn a 1 (nI s)) N) < a 69 s) (nI s0) (fun s => gwo (a 68 k) (gcnt (gSo a (nI k) (nI s)) M) (la (8 * s + k))) (gwo (gpr (a 68 k) (w 44 24) (a 66 t)) (gcnt (gSo a (nI k) (nI s0)) M) (la (8 * s0 + k))) (w 44 47)) (n, u, HP w a b r q y)) := by
  have hk : gMT[144]? = some gro_144 := rfl
  refine r_in hk [some (.ref 44), some (.int (nI t)), none, none, none, none] (Nat.le_of_ble_eq_true rfl) rfl ?_
  generalize hrm : (fun s => nI (gcnt (gOn a 1 (nI s)) N) < a 69 s) = rm
  sorry
end GM9
